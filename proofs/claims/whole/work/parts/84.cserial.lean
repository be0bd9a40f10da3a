set_option maxRecDepth 20000 in
theorem e_X9_firstUnput {G : Gx} {Q : Rv → Zm → Prop} {Z : Zm} {p : Nat} {l : Nat} (hp : atPlan Z p) (hl : zA Z l 100 20) (h : (ZP G 0 m_X9_firstUnput 2 [some (.ref p), some (.ref l), some (iv 0)] [] Z Q)) : ZM G 0 m_X9_firstUnput [.ref p, .ref l] Z Q := ZM.of [some (.ref p), some (.ref l), none] rfl <| z_iconst (pc' := 1) (n := 0) (by decide +kernel) rfl <| z_istore_n (pc' := 2) (j := 2) (ls' := [some (.ref p), some (.ref l), some (iv 0)]) (by decide +kernel) (by decide) rfl rfl <| h
set_option maxRecDepth 20000 in
theorem b_X9_firstUnput_2 {G : Gx} {Q : Rv → Zm → Prop} {Z : Zm} {p : Nat} {l : Nat} {v2 : Int} (hp : atPlan Z p) (hl : zA Z l 100 20) (h : ((R32 v2) ∧ (R32 (zI Z p 2)) ∧ (if (zI Z p 2) ≤ v2 then (Q (.inl (some (iv (-1)))) Z) else ((zIx v2 20) ∧ (zIx (zI Z l v2.toNat) 20) ∧ (R32 (zI Z (p + 3) (zI Z l v2.toNat).toNat)) ∧ (if (zI Z (p + 3) (zI Z l v2.toNat).toNat) = (-1) then ((R32 (zI Z (p + 7) (zI Z l v2.toNat).toNat)) ∧ (if (zI Z (p + 7) (zI Z l v2.toNat).toNat) = 0 then (Q (.inl (some (iv (zI Z l v2.toNat)))) Z) else (ZP G 0 m_X9_firstUnput 2 [some (.ref p), some (.ref l), some (iv (v2 + 1))] [] Z Q))) else (ZP G 0 m_X9_firstUnput 2 [some (.ref p), some (.ref l), some (iv (v2 + 1))] [] Z Q)))))) : ZP G 0 m_X9_firstUnput 2 [some (.ref p), some (.ref l), some (iv v2)] [] Z Q := z_iload_n (pc' := 3) (j := 2) (by decide +kernel) rfl rfl <| z_aload_n (pc' := 4) (j := 0) (by decide +kernel) rfl rfl <| z_getI (pc' := 7) (idx := 48) (ci := 9) (f := 2) (by decide +kernel) f_RX9_48 rfl hp.o.1 hp.o.2 rfl <| h.elim fun c1 h => h.elim fun c2 h => z_icmp_ge (pc' := 10) (tgt := 43) (off := 36) (by decide +kernel) (by decide) rfl c1 c2 (am_ite h (fun h => z_iconst (pc' := 44) (n := -1) (by decide +kernel) rfl <| z_ireturn (by decide +kernel) ⟨_, rfl, rfl⟩ h) (fun h => z_aload_n (pc' := 11) (j := 0) (by decide +kernel) rfl rfl <| z_getR (pc' := 14) (idx := 22) (ci := 9) (f := 8) (by decide +kernel) f_RX9_22 rfl hp.o.1 hp.o.2 hp.r8 rfl <| z_aload_n (pc' := 15) (j := 1) (by decide +kernel) rfl rfl <| z_iload_n (pc' := 16) (j := 2) (by decide +kernel) rfl rfl <| h.elim fun c3 h => z_iaload (pc' := 17) (by decide +kernel) hl c3 rfl <| h.elim fun c4 h => z_iaload (pc' := 18) (by decide +kernel) hp.a8 c4 rfl <| z_iconst (pc' := 19) (n := -1) (by decide +kernel) rfl <| h.elim fun c5 h => z_icmp_ne (pc' := 22) (tgt := 37) (off := 18) (by decide +kernel) (by decide) rfl c5 (by decide : R32 (-1)) (am_ite h (fun h => z_aload_n (pc' := 23) (j := 0) (by decide +kernel) rfl rfl <| z_getR (pc' := 26) (idx := 34) (ci := 9) (f := 12) (by decide +kernel) f_RX9_34 rfl hp.o.1 hp.o.2 hp.r12 rfl <| z_aload_n (pc' := 27) (j := 1) (by decide +kernel) rfl rfl <| z_iload_n (pc' := 28) (j := 2) (by decide +kernel) rfl rfl <| z_iaload (pc' := 29) (by decide +kernel) hl c3 rfl <| z_iaload (pc' := 30) (by decide +kernel) hp.a12 c4 rfl <| h.elim fun c6 h => z_if_ne (pc' := 33) (tgt := 37) (off := 7) (by decide +kernel) (by decide) rfl c6 (am_ite h (fun h => z_aload_n (pc' := 34) (j := 1) (by decide +kernel) rfl rfl <| z_iload_n (pc' := 35) (j := 2) (by decide +kernel) rfl rfl <| z_iaload (pc' := 36) (by decide +kernel) hl c3 rfl <| z_ireturn (by decide +kernel) ⟨_, rfl, rfl⟩ h) (fun h => z_iinc (pc' := 40) (j := 2) (n := 1) (x := v2) (ls' := [some (.ref p), some (.ref l), some (iv (v2 + 1))]) (by decide +kernel) rfl (by decide) rfl rfl <| z_goto (tgt := 2) (off := -38) (by decide +kernel) (by decide) <| h))) (fun h => z_iinc (pc' := 40) (j := 2) (n := 1) (x := v2) (ls' := [some (.ref p), some (.ref l), some (iv (v2 + 1))]) (by decide +kernel) rfl (by decide) rfl rfl <| z_goto (tgt := 2) (off := -38) (by decide +kernel) (by decide) <| h))))
set_option maxRecDepth 20000 in
theorem e_X9_nextEnd {G : Gx} {Q : Rv → Zm → Prop} {Z : Zm} {p : Nat} {x : Int} (hp : atPlan Z p) (h : (ZP G 0 m_X9_nextEnd 4 [some (.ref p), some (iv x), some (iv (-1)), some (iv 0)] [] Z Q)) : ZM G 0 m_X9_nextEnd [.ref p, iv x] Z Q := ZM.of [some (.ref p), some (iv x), none, none] rfl <| z_iconst (pc' := 1) (n := -1) (by decide +kernel) rfl <| z_istore_n (pc' := 2) (j := 2) (ls' := [some (.ref p), some (iv x), some (iv (-1)), none]) (by decide +kernel) (by decide) rfl rfl <| z_iconst (pc' := 3) (n := 0) (by decide +kernel) rfl <| z_istore_n (pc' := 4) (j := 3) (ls' := [some (.ref p), some (iv x), some (iv (-1)), some (iv 0)]) (by decide +kernel) (by decide) rfl rfl <| h
set_option maxRecDepth 20000 in
theorem b_X9_nextEnd_4 {G : Gx} {Q : Rv → Zm → Prop} {Z : Zm} {p : Nat} {x : Int} {v2 : Int} {v3 : Int} (hp : atPlan Z p) (h : ((R32 v3) ∧ (R32 (zI Z p 2)) ∧ (if (zI Z p 2) ≤ v3 then (Q (.inl (some (iv v2))) Z) else ((zIx v3 20) ∧ (R32 (zI Z (p + 4) v3.toNat)) ∧ (R32 x) ∧ (¬ ((zI Z (p + 4) v3.toNat) ≤ x) → (R32 v2) ∧ True) ∧ ZP G 0 m_X9_nextEnd 4 [some (.ref p), some (iv x), some (iv (if (zI Z (p + 4) v3.toNat) ≤ x then v2 else (if v2 < 0 then zI Z (p + 4) v3.toNat else (if v2 ≤ (zI Z (p + 4) v3.toNat) then v2 else zI Z (p + 4) v3.toNat)))), some (iv (v3 + 1))] [] Z Q)))) : ZP G 0 m_X9_nextEnd 4 [some (.ref p), some (iv x), some (iv v2), some (iv v3)] [] Z Q := z_iload_n (pc' := 5) (j := 3) (by decide +kernel) rfl rfl <| z_aload_n (pc' := 6) (j := 0) (by decide +kernel) rfl rfl <| z_getI (pc' := 9) (idx := 48) (ci := 9) (f := 2) (by decide +kernel) f_RX9_48 rfl hp.o.1 hp.o.2 rfl <| h.elim fun c1 h => h.elim fun c2 h => z_icmp_ge (pc' := 12) (tgt := 49) (off := 40) (by decide +kernel) (by decide) rfl c1 c2 (am_ite h (fun h => z_iload_n (pc' := 50) (j := 2) (by decide +kernel) rfl rfl <| z_ireturn (by decide +kernel) ⟨_, rfl, rfl⟩ h) (fun h => z_aload_n (pc' := 13) (j := 0) (by decide +kernel) rfl rfl <| z_getR (pc' := 16) (idx := 25) (ci := 9) (f := 9) (by decide +kernel) f_RX9_25 rfl hp.o.1 hp.o.2 hp.r9 rfl <| z_iload_n (pc' := 17) (j := 3) (by decide +kernel) rfl rfl <| h.elim fun c19 h => z_iaload (pc' := 18) (by decide +kernel) hp.a9 c19 rfl <| z_iload_n (pc' := 19) (j := 1) (by decide +kernel) rfl rfl <| h.elim fun c20 h => h.elim fun c21 h => h.elim fun g32 h => am_use (fun k33 => z_icmp_le (pc' := 22) (tgt := 43) (off := 24) (by decide +kernel) (by decide) rfl c20 c21 (am_ite2 (fun q34 => (am_jp (P := fun z9 => ZP G 0 m_X9_nextEnd 43 [some (.ref p), some (iv x), some (iv z9), some (iv v3)] [] _ Q) (if_pos q34) k33)) (fun q34 => have h := g32 q34; z_iload_n (pc' := 23) (j := 2) (by decide +kernel) rfl rfl <| h.elim fun c22 h => am_use (fun k29 => z_if_lt (pc' := 26) (tgt := 36) (off := 13) (by decide +kernel) (by decide) rfl c22 (am_ite2 (fun q30 => z_aload_n (pc' := 37) (j := 0) (by decide +kernel) rfl rfl <| z_getR (pc' := 40) (idx := 25) (ci := 9) (f := 9) (by decide +kernel) f_RX9_25 rfl hp.o.1 hp.o.2 hp.r9 rfl <| z_iload_n (pc' := 41) (j := 3) (by decide +kernel) rfl rfl <| z_iaload (pc' := 42) (by decide +kernel) hp.a9 c19 rfl <| z_istore_n (pc' := 43) (j := 2) (ls' := [some (.ref p), some (iv x), some (iv (zI Z (p + 4) v3.toNat)), some (iv v3)]) (by decide +kernel) (by decide) rfl rfl <| (am_jp (P := fun z9 => ZP G 0 m_X9_nextEnd 43 [some (.ref p), some (iv x), some (iv z9), some (iv v3)] [] _ Q) (if_pos q30) k29)) (fun q30 => z_aload_n (pc' := 27) (j := 0) (by decide +kernel) rfl rfl <| z_getR (pc' := 30) (idx := 25) (ci := 9) (f := 9) (by decide +kernel) f_RX9_25 rfl hp.o.1 hp.o.2 hp.r9 rfl <| z_iload_n (pc' := 31) (j := 3) (by decide +kernel) rfl rfl <| z_iaload (pc' := 32) (by decide +kernel) hp.a9 c19 rfl <| z_iload_n (pc' := 33) (j := 2) (by decide +kernel) rfl rfl <| am_use (fun k25 => z_icmp_ge (pc' := 36) (tgt := 43) (off := 10) (by decide +kernel) (by decide) rfl c20 c22 (am_ite2 (fun q26 => (am_jp (P := fun z9 => ZP G 0 m_X9_nextEnd 43 [some (.ref p), some (iv x), some (iv z9), some (iv v3)] [] _ Q) (if_pos q26) k25)) (fun q26 => z_aload_n (pc' := 37) (j := 0) (by decide +kernel) rfl rfl <| z_getR (pc' := 40) (idx := 25) (ci := 9) (f := 9) (by decide +kernel) f_RX9_25 rfl hp.o.1 hp.o.2 hp.r9 rfl <| z_iload_n (pc' := 41) (j := 3) (by decide +kernel) rfl rfl <| z_iaload (pc' := 42) (by decide +kernel) hp.a9 c19 rfl <| z_istore_n (pc' := 43) (j := 2) (ls' := [some (.ref p), some (iv x), some (iv (zI Z (p + 4) v3.toNat)), some (iv v3)]) (by decide +kernel) (by decide) rfl rfl <| (am_jp (P := fun z9 => ZP G 0 m_X9_nextEnd 43 [some (.ref p), some (iv x), some (iv z9), some (iv v3)] [] _ Q) (if_neg q26) k25)))) <| (am_jp (P := fun z9 => ZP G 0 m_X9_nextEnd 43 [some (.ref p), some (iv x), some (iv z9), some (iv v3)] [] _ Q) (if_neg q30) k29)))) <| (am_jp (P := fun z9 => ZP G 0 m_X9_nextEnd 43 [some (.ref p), some (iv x), some (iv z9), some (iv v3)] [] _ Q) (if_neg q34) k33)))) <| z_iinc (pc' := 46) (j := 3) (n := 1) (x := v3) (ls' := [some (.ref p), some (iv x), some (iv (if (zI Z (p + 4) v3.toNat) ≤ x then v2 else (if v2 < 0 then zI Z (p + 4) v3.toNat else (if v2 ≤ (zI Z (p + 4) v3.toNat) then v2 else zI Z (p + 4) v3.toNat)))), some (iv (v3 + 1))]) (by decide +kernel) rfl (by decide) rfl rfl <| z_goto (tgt := 4) (off := -42) (by decide +kernel) (by decide) <| h))
set_option maxRecDepth 20000 in
theorem e_X9_makeOneByOne {G : Gx} {Q : Rv → Zm → Prop} {Z : Zm} {p : Nat} {b : Nat} {l : Nat} (hp : atPlan Z p) (hb : atBook Z b) (hl : zA Z l 100 20) (h : (ZM G 1 m_X9_beginAnew [.ref p, .ref b] Z (zKc G 2 m_X9_makeOneByOne 5 [some (.ref p), some (.ref b), some (.ref l), none, none, none, none] [] Q))) : ZM G 2 m_X9_makeOneByOne [.ref p, .ref b, .ref l] Z Q := ZM.of [some (.ref p), some (.ref b), some (.ref l), none, none, none, none] rfl <| z_aload_n (pc' := 1) (j := 0) (by decide +kernel) rfl rfl <| z_aload_n (pc' := 2) (j := 1) (by decide +kernel) rfl rfl <| z_callV (pc' := 5) (idx := 74) (mj := m_X9_beginAnew) (av := [.ref b]) (d' := 1) (by decide +kernel) rfl k_X9_beginAnew l_RX9_74 rfl (by omega) (am_le rfl) rfl (am_le rfl) hp.o.1 hp.o.2 rfl h
set_option maxRecDepth 20000 in
theorem b_X9_makeOneByOne_5 {G : Gx} {Q : Rv → Zm → Prop} {Z : Zm} {p : Nat} {b : Nat} {l : Nat}  (hp : atPlan Z p) (hb : atBook Z b) (hl : zA Z l 100 20) (h : (ZP G 2 m_X9_makeOneByOne 7 [some (.ref p), some (.ref b), some (.ref l), some (iv 0), none, none, none] [] Z Q)) : ZP G 2 m_X9_makeOneByOne 5 [some (.ref p), some (.ref b), some (.ref l), none, none, none, none] [] Z Q := z_iconst (pc' := 6) (n := 0) (by decide +kernel) rfl <| z_istore_n (pc' := 7) (j := 3) (ls' := [some (.ref p), some (.ref b), some (.ref l), some (iv 0), none, none, none]) (by decide +kernel) (by decide) rfl rfl <| h
set_option maxRecDepth 20000 in
theorem b_X9_makeOneByOne_7 {G : Gx} {Q : Rv → Zm → Prop} {Z : Zm} {p : Nat} {b : Nat} {l : Nat} {v3 : Int} (hp : atPlan Z p) (hb : atBook Z b) (hl : zA Z l 100 20) (h : ((R32 v3) ∧ (R32 (zI Z p 2)) ∧ (if (zI Z p 2) ≤ v3 then (Q (.inl none) Z) else (ZM G 1 m_X9_firstUnput [.ref p, .ref l] Z (zKc G 2 m_X9_makeOneByOne 20 [some (.ref p), some (.ref b), some (.ref l), some (iv v3), none, none, none] [] Q))))) : ZP G 2 m_X9_makeOneByOne 7 [some (.ref p), some (.ref b), some (.ref l), some (iv v3), none, none, none] [] Z Q := z_iload_n (pc' := 8) (j := 3) (by decide +kernel) rfl rfl <| z_aload_n (pc' := 9) (j := 0) (by decide +kernel) rfl rfl <| z_getI (pc' := 12) (idx := 48) (ci := 9) (f := 2) (by decide +kernel) f_RX9_48 rfl hp.o.1 hp.o.2 rfl <| h.elim fun c1 h => h.elim fun c2 h => z_icmp_ge (pc' := 15) (tgt := 94) (off := 82) (by decide +kernel) (by decide) rfl c1 c2 (am_ite h (fun h => z_ret (by decide +kernel) rfl h) (fun h => z_aload_n (pc' := 16) (j := 0) (by decide +kernel) rfl rfl <| z_aload_n (pc' := 17) (j := 2) (by decide +kernel) rfl rfl <| z_callV (pc' := 20) (idx := 86) (mj := m_X9_firstUnput) (av := [.ref l]) (d' := 1) (by decide +kernel) rfl k_X9_firstUnput l_RX9_86 rfl (by omega) (am_le rfl) rfl (am_le rfl) hp.o.1 hp.o.2 rfl h))
set_option maxRecDepth 20000 in
theorem b_X9_makeOneByOne_20 {G : Gx} {Q : Rv → Zm → Prop} {Z : Zm} {p : Nat} {b : Nat} {l : Nat} {v3 : Int} {s0 : Int} (hp : atPlan Z p) (hb : atBook Z b) (hl : zA Z l 100 20) (h : ((R32 s0) ∧ (if 0 ≤ s0 then ((zIx s0 20) ∧ ZP G 2 m_X9_makeOneByOne 40 [some (.ref p), some (.ref b), some (.ref l), some (iv v3), some (iv s0), some (iv (zI Z (p + 6) s0.toNat)), some (iv 0)] [] Z Q) else (Q (.inl none) Z)))) : ZP G 2 m_X9_makeOneByOne 20 [some (.ref p), some (.ref b), some (.ref l), some (iv v3), none, none, none] [iv s0] Z Q := z_istore (pc' := 22) (j := 4) (ls' := [some (.ref p), some (.ref b), some (.ref l), some (iv v3), some (iv s0), none, none]) (by decide +kernel) (by decide) rfl rfl <| z_iload (pc' := 24) (j := 4) (by decide +kernel) rfl rfl <| h.elim fun c1 h => z_if_ge (pc' := 27) (tgt := 28) (off := 4) (by decide +kernel) (by decide) rfl c1 (am_ite h (fun h => z_aload_n (pc' := 29) (j := 0) (by decide +kernel) rfl rfl <| z_getR (pc' := 32) (idx := 31) (ci := 9) (f := 11) (by decide +kernel) f_RX9_31 rfl hp.o.1 hp.o.2 hp.r11 rfl <| z_iload (pc' := 34) (j := 4) (by decide +kernel) rfl rfl <| h.elim fun c2 h => z_iaload (pc' := 35) (by decide +kernel) hp.a11 c2 rfl <| z_istore (pc' := 37) (j := 5) (ls' := [some (.ref p), some (.ref b), some (.ref l), some (iv v3), some (iv s0), some (iv (zI Z (p + 6) s0.toNat)), none]) (by decide +kernel) (by decide) rfl rfl <| z_iconst (pc' := 38) (n := 0) (by decide +kernel) rfl <| z_istore (pc' := 40) (j := 6) (ls' := [some (.ref p), some (.ref b), some (.ref l), some (iv v3), some (iv s0), some (iv (zI Z (p + 6) s0.toNat)), some (iv 0)]) (by decide +kernel) (by decide) rfl rfl <| h) (fun h => z_ret (by decide +kernel) rfl h))
set_option maxRecDepth 20000 in
theorem b_X9_makeOneByOne_40 {G : Gx} {Q : Rv → Zm → Prop} {Z : Zm} {p : Nat} {b : Nat} {l : Nat} {v3 : Int} {v4 : Int} {v5 : Int} {v6 : Int} (hp : atPlan Z p) (hb : atBook Z b) (hl : zA Z l 100 20) (h : ((R32 v6) ∧ (R32 (zI Z p 2)) ∧ (if (zI Z p 2) < v6 then (ZP G 2 m_X9_makeOneByOne 7 [some (.ref p), some (.ref b), some (.ref l), some (iv (v3 + 1)), none, none, none] [] Z Q) else ((zIx v4 20) ∧ (R32 (zI Z (p + 3) v4.toNat)) ∧ (if (zI Z (p + 3) v4.toNat) = (-1) then ((R32 v5) ∧ (if v5 < 0 then (ZP G 2 m_X9_makeOneByOne 7 [some (.ref p), some (.ref b), some (.ref l), some (iv (v3 + 1)), none, none, none] [] Z Q) else (ZM G 1 m_X9_putIfFree [.ref p, .ref b, iv v4, iv v5] Z (zKc G 2 m_X9_makeOneByOne 74 [some (.ref p), some (.ref b), some (.ref l), some (iv v3), some (iv v4), some (iv v5), some (iv v6)] [] Q)))) else (ZP G 2 m_X9_makeOneByOne 7 [some (.ref p), some (.ref b), some (.ref l), some (iv (v3 + 1)), none, none, none] [] Z Q)))))) : ZP G 2 m_X9_makeOneByOne 40 [some (.ref p), some (.ref b), some (.ref l), some (iv v3), some (iv v4), some (iv v5), some (iv v6)] [] Z Q := z_iload (pc' := 42) (j := 6) (by decide +kernel) rfl rfl <| z_aload_n (pc' := 43) (j := 0) (by decide +kernel) rfl rfl <| z_getI (pc' := 46) (idx := 48) (ci := 9) (f := 2) (by decide +kernel) f_RX9_48 rfl hp.o.1 hp.o.2 rfl <| h.elim fun c1 h => h.elim fun c2 h => z_icmp_gt (pc' := 49) (tgt := 88) (off := 42) (by decide +kernel) (by decide) rfl c1 c2 (am_ite h (fun h => z_iinc (pc' := 91) (j := 3) (n := 1) (x := v3) (ls' := [some (.ref p), some (.ref b), some (.ref l), some (iv (v3 + 1)), some (iv v4), some (iv v5), some (iv v6)]) (by decide +kernel) rfl (by decide) rfl rfl <| z_goto (tgt := 7) (off := -84) (by decide +kernel) (by decide) <| (ZP.wk (wk_some (wk_some (wk_some (wk_some (wk_none (wk_none (wk_none wk_nil))))))) h)) (fun h => z_aload_n (pc' := 50) (j := 0) (by decide +kernel) rfl rfl <| z_getR (pc' := 53) (idx := 22) (ci := 9) (f := 8) (by decide +kernel) f_RX9_22 rfl hp.o.1 hp.o.2 hp.r8 rfl <| z_iload (pc' := 55) (j := 4) (by decide +kernel) rfl rfl <| h.elim fun c6 h => z_iaload (pc' := 56) (by decide +kernel) hp.a8 c6 rfl <| z_iconst (pc' := 57) (n := -1) (by decide +kernel) rfl <| h.elim fun c7 h => z_icmp_ne (pc' := 60) (tgt := 88) (off := 31) (by decide +kernel) (by decide) rfl c7 (by decide : R32 (-1)) (am_ite h (fun h => z_iload (pc' := 62) (j := 5) (by decide +kernel) rfl rfl <| h.elim fun c9 h => z_if_lt (pc' := 65) (tgt := 88) (off := 26) (by decide +kernel) (by decide) rfl c9 (am_ite h (fun h => z_iinc (pc' := 91) (j := 3) (n := 1) (x := v3) (ls' := [some (.ref p), some (.ref b), some (.ref l), some (iv (v3 + 1)), some (iv v4), some (iv v5), some (iv v6)]) (by decide +kernel) rfl (by decide) rfl rfl <| z_goto (tgt := 7) (off := -84) (by decide +kernel) (by decide) <| (ZP.wk (wk_some (wk_some (wk_some (wk_some (wk_none (wk_none (wk_none wk_nil))))))) h)) (fun h => z_aload_n (pc' := 66) (j := 0) (by decide +kernel) rfl rfl <| z_aload_n (pc' := 67) (j := 1) (by decide +kernel) rfl rfl <| z_iload (pc' := 69) (j := 4) (by decide +kernel) rfl rfl <| z_iload (pc' := 71) (j := 5) (by decide +kernel) rfl rfl <| z_callV (pc' := 74) (idx := 78) (mj := m_X9_putIfFree) (av := [.ref b, iv v4, iv v5]) (d' := 1) (by decide +kernel) rfl k_X9_putIfFree l_RX9_78 rfl (by omega) (am_le rfl) rfl (am_le rfl) hp.o.1 hp.o.2 rfl h))) (fun h => z_iinc (pc' := 91) (j := 3) (n := 1) (x := v3) (ls' := [some (.ref p), some (.ref b), some (.ref l), some (iv (v3 + 1)), some (iv v4), some (iv v5), some (iv v6)]) (by decide +kernel) rfl (by decide) rfl rfl <| z_goto (tgt := 7) (off := -84) (by decide +kernel) (by decide) <| (ZP.wk (wk_some (wk_some (wk_some (wk_some (wk_none (wk_none (wk_none wk_nil))))))) h)))))
set_option maxRecDepth 20000 in
theorem b_X9_makeOneByOne_74 {G : Gx} {Q : Rv → Zm → Prop} {Z : Zm} {p : Nat} {b : Nat} {l : Nat} {v3 : Int} {v4 : Int} {v5 : Int} {v6 : Int} (hp : atPlan Z p) (hb : atBook Z b) (hl : zA Z l 100 20) (h : (ZM G 1 m_X9_nextEnd [.ref p, iv v5] Z (zKc G 2 m_X9_makeOneByOne 80 [some (.ref p), some (.ref b), some (.ref l), some (iv v3), some (iv v4), none, some (iv v6)] [] Q))) : ZP G 2 m_X9_makeOneByOne 74 [some (.ref p), some (.ref b), some (.ref l), some (iv v3), some (iv v4), some (iv v5), some (iv v6)] [] Z Q := z_aload_n (pc' := 75) (j := 0) (by decide +kernel) rfl rfl <| z_iload (pc' := 77) (j := 5) (by decide +kernel) rfl rfl <| z_callV (pc' := 80) (idx := 90) (mj := m_X9_nextEnd) (av := [iv v5]) (d' := 1) (by decide +kernel) rfl k_X9_nextEnd l_RX9_90 rfl (by omega) (am_le rfl) rfl (am_le rfl) hp.o.1 hp.o.2 rfl (ZM.mono h (zKc_wk (wk_some (wk_some (wk_some (wk_some (wk_some (wk_none (wk_some wk_nil)))))))))
set_option maxRecDepth 20000 in
theorem b_X9_makeOneByOne_80 {G : Gx} {Q : Rv → Zm → Prop} {Z : Zm} {p : Nat} {b : Nat} {l : Nat} {v3 : Int} {v4 : Int} {v6 : Int} {s0 : Int} (hp : atPlan Z p) (hb : atBook Z b) (hl : zA Z l 100 20) (h : (ZP G 2 m_X9_makeOneByOne 40 [some (.ref p), some (.ref b), some (.ref l), some (iv v3), some (iv v4), some (iv s0), some (iv (v6 + 1))] [] Z Q)) : ZP G 2 m_X9_makeOneByOne 80 [some (.ref p), some (.ref b), some (.ref l), some (iv v3), some (iv v4), none, some (iv v6)] [iv s0] Z Q := z_istore (pc' := 82) (j := 5) (ls' := [some (.ref p), some (.ref b), some (.ref l), some (iv v3), some (iv v4), some (iv s0), some (iv v6)]) (by decide +kernel) (by decide) rfl rfl <| z_iinc (pc' := 85) (j := 6) (n := 1) (x := v6) (ls' := [some (.ref p), some (.ref b), some (.ref l), some (iv v3), some (iv v4), some (iv s0), some (iv (v6 + 1))]) (by decide +kernel) rfl (by decide) rfl rfl <| z_goto (tgt := 40) (off := -45) (by decide +kernel) (by decide) <| h
/-! ===== the class puts one after another ===== -/
theorem s_firstUnput {G : Gx} {Z : Zm} {p l : Nat} {P : Sp} {L : Nat → Nat} {s : Ss} (h : cCx Z p P) (hs : cSt Z p P s) (hb : sB P s) (hw : cLt Z p P s.1 (put P s)) (hl : zA Z l 100 20) (hL : okL P L) (hv : ∀ v, v < kN (pK P) → zI Z l v = (L v : Int)) : ZM G 0 m_X9_firstUnput [.ref p, .ref l] Z (fun r W => r = .inl (some (iv (fuF P L s))) ∧ W = Z) := by
  have hP := h.2.2.2.1
  have hN := hP.1.n
  have hM := hP.1.m
  refine e_X9_firstUnput h.1 hl ?_
  suffices key : ∀ v, v ≤ kN (pK P) → (∀ w, w < v → s.1 (L w) ≠ -1 ∨ ltA P s.1 (L w) = -1) → ZP G 0 m_X9_firstUnput 2 [some (.ref p), some (.ref l), some (iv (v : Int))] [] Z (fun r W => r = .inl (some (iv (fuF P L s))) ∧ W = Z) from key 0 (Nat.zero_le _) fun w hw => absurd hw (Nat.not_lt_zero _)
  refine am_up (n := kN (pK P)) fun v hv' ih hlo => ?_
  refine b_X9_firstUnput_2 h.1 hl ⟨by omega, by rw [h.2.2.2.2.2.1]; omega, ?_⟩
  rw [h.2.2.2.2.2.1]
  by_cases c : v < kN (pK P)
  · have ht := hL.1 v c
    obtain ⟨g1, -, -⟩ := hs.1 (L v) ht
    obtain ⟨l1, l2⟩ := hw (L v) ht
    obtain ⟨lw1, lw2⟩ := ltW l1 l2
    have wr := wN_r P (put P s) (L v)
    have bj := hb (L v) ht
    have nx : (s.1 (L v) ≠ -1 ∨ ltA P s.1 (L v) = -1) → ∀ w, w < v + 1 → s.1 (L w) ≠ -1 ∨ ltA P s.1 (L w) = -1 := fun q w hw' => by
      by_cases e : w = v
      · rw [e]
        exact q
      · exact hlo w (by omega)
    rw [if_neg (by omega), Int.toNat_natCast, hv v c, Int.toNat_natCast, g1]
    refine ⟨zIx_nat (by omega) (by omega), zIx_nat (by omega) (by omega), by omega, ?_⟩
    by_cases c1 : s.1 (L v) = -1
    · rw [if_pos c1]
      refine ⟨by omega, ?_⟩
      by_cases c2 : zI Z (p + 7) (L v) = 0
      · rw [if_pos c2]
        refine ⟨?_, rfl⟩
        rw [isFu_eq (fuF_is P L s) (Or.inr ⟨v, c, rfl, c1, lw1.mp c2, hlo⟩)]
      · rw [if_neg c2]
        exact ih c (nx (Or.inr (Classical.byContradiction fun g => c2 (lw1.mpr g))))
    · rw [if_neg c1]
      exact ih c (nx (Or.inl c1))
  · rw [if_pos (by omega)]
    refine ⟨?_, rfl⟩
    rw [isFu_eq (fuF_is P L s) (Or.inl ⟨rfl, fun w hw' => hlo w (by omega)⟩)]
def isNe (P : Sp) (s : Ss) (x : Int) (n : Nat) (v : Int) : Prop := (v = -1 ∧ ∀ u, u < n → s.1 u ≠ -1 → s.1 u + pD P u ≤ x) ∨ (x < v ∧ (∃ u, u < n ∧ s.1 u ≠ -1 ∧ s.1 u + pD P u = v) ∧ ∀ u, u < n → s.1 u ≠ -1 → x < s.1 u + pD P u → v ≤ s.1 u + pD P u)
theorem s_nextEnd {G : Gx} {Z : Zm} {p : Nat} {P : Sp} {s : Ss} {x : Int} (h : cCx Z p P) (hs : cSt Z p P s) (hb : sB P s) (hx : 0 ≤ x ∧ x ≤ 9000) : ZM G 0 m_X9_nextEnd [.ref p, iv x] Z (fun r W => (∃ v, r = .inl (some (iv v)) ∧ isNe P s x (kN (pK P)) v ∧ -1 ≤ v ∧ v ≤ 10000) ∧ W = Z) := by
  have hP := h.2.2.2.1
  have hN := hP.1.n
  refine e_X9_nextEnd h.1 ?_
  suffices key : ∀ j, j ≤ kN (pK P) → ∀ v, isNe P s x j v → -1 ≤ v ∧ v ≤ 10000 → ZP G 0 m_X9_nextEnd 4 [some (.ref p), some (iv x), some (iv v), some (iv (j : Int))] [] Z (fun r W => (∃ v, r = .inl (some (iv v)) ∧ isNe P s x (kN (pK P)) v ∧ -1 ≤ v ∧ v ≤ 10000) ∧ W = Z) from key 0 (Nat.zero_le _) (-1) (Or.inl ⟨rfl, fun u hu => absurd hu (Nat.not_lt_zero _)⟩) (by omega)
  refine am_up (n := kN (pK P)) fun j hj ih v hv rv => ?_
  refine b_X9_nextEnd_4 h.1 ⟨by omega, by rw [h.2.2.2.2.2.1]; omega, ?_⟩
  rw [h.2.2.2.2.2.1]
  by_cases c : j < kN (pK P)
  · obtain ⟨-, g2, -⟩ := hs.1 j c
    have bj := hb j c
    have dj := hP.2.1 j c
    have er : -1 ≤ eS P s j ∧ eS P s j ≤ 9060 := by
      unfold eS
      by_cases q : s.1 j = -1
      · rw [if_pos q]
        omega
      · rw [if_neg q]
        omega
    have eE : s.1 j ≠ -1 → eS P s j = s.1 j + pD P j := fun q => if_neg q
    have eN : s.1 j = -1 → eS P s j = -1 := fun q => if_pos q
    have cs : ∀ u, u < j + 1 → u = j ∨ u < j := fun u hu => by omega
    rw [if_neg (by omega), Int.toNat_natCast, g2]
    refine ⟨zIx_nat (by omega) (by omega), by omega, by omega, fun _ => ⟨by omega, trivial⟩, ?_⟩
    by_cases c1 : eS P s j ≤ x
    · rw [if_pos c1]
      refine ih c v ?_ rv
      rcases hv with ⟨q1, q2⟩ | ⟨q1, ⟨u, u1, u2, u3⟩, q3⟩
      · refine Or.inl ⟨q1, fun u hu g => ?_⟩
        rcases cs u hu with e | e
        · rw [e] at g ⊢
          have := eE g
          omega
        · exact q2 u e g
      · refine Or.inr ⟨q1, ⟨u, by omega, u2, u3⟩, fun w hw g1 g3 => ?_⟩
        rcases cs w hw with e | e
        · rw [e] at g1 g3
          have := eE g1
          omega
        · exact q3 w e g1 g3
    · rw [if_neg c1]
      have nj : s.1 j ≠ -1 := fun q => by
        have := eN q
        omega
      have ej := eE nj
      have new : (∀ w, w < j → s.1 w ≠ -1 → x < s.1 w + pD P w → eS P s j ≤ s.1 w + pD P w) → isNe P s x (j + 1) (eS P s j) := fun hh => Or.inr ⟨by omega, ⟨j, Nat.lt_succ_self _, nj, ej.symm⟩, fun w hw g1 g3 => by
        rcases cs w hw with e | e
        · rw [e]
          omega
        · exact hh w e g1 g3⟩
      rcases hv with ⟨q1, q2⟩ | ⟨q1, ⟨u, u1, u2, u3⟩, q3⟩
      · rw [if_pos (by omega)]
        exact ih c _ (new fun w hw g1 g3 => by have := q2 w hw g1; omega) (by omega)
      · rw [if_neg (by omega)]
        by_cases c2 : v ≤ eS P s j
        · rw [if_pos c2]
          refine ih c v (Or.inr ⟨q1, ⟨u, by omega, u2, u3⟩, fun w hw g1 g3 => ?_⟩) rv
          rcases cs w hw with e | e
          · rw [e]
            omega
          · exact q3 w e g1 g3
        · rw [if_neg c2]
          exact ih c _ (new fun w hw g1 g3 => by have := q3 w hw g1 g3; omega) (by omega)
  · rw [if_pos (by omega)]
    rw [show j = kN (pK P) by omega] at hv
    exact ⟨⟨v, rfl, hv, rv⟩, rfl⟩
/-- r ends were tried -/
def eR2 (P : Sp) (s : Ss) (t r : Nat) (x : Int) : Prop := ∃ tm : Nat → Int, tm 0 = ltA P s.1 t ∧ tm r = x ∧ (∀ i, i < r → tm i < tm (i + 1)) ∧ ∀ i, 1 ≤ i → i ≤ r → ∃ u, u < kN (pK P) ∧ s.1 u ≠ -1 ∧ s.1 u + pD P u = tm i
theorem eR2.le {P : Sp} {s : Ss} {t r : Nat} {x : Int} (h : eR2 P s t r x) : r ≤ kN (pK P) := by
  obtain ⟨tm, t1, t2, t3, t4⟩ := h
  have up : ∀ i m, i + m ≤ r → tm i + m ≤ tm (i + m) := by
    intro i m
    induction m with
    | zero => exact fun _ => by rw [Nat.add_zero]; omega
    | succ m ih =>
      intro hm
      have a := ih (by omega)
      have b := t3 (i + m) (by omega)
      rw [show i + m + 1 = i + (m + 1) by omega] at b
      omega
  have cd : ∀ q, ∃ c, q < r → c < kN (pK P) ∧ s.1 c + pD P c = tm (q + 1) := fun q => by
    by_cases hq : q < r
    · obtain ⟨u, hu, -, g⟩ := t4 (q + 1) (by omega) (by omega)
      exact ⟨u, fun _ => ⟨hu, g⟩⟩
    · exact ⟨0, fun g => absurd g hq⟩
  obtain ⟨c, hc⟩ := Classical.axiomOfChoice cd
  refine pig (f := c) (fun q hq => (hc q hq).1) fun q q' hq hq' e => ?_
  have a := (hc q hq).2
  have b := (hc q' hq').2
  rw [e] at a
  by_cases g : q < q'
  · have := up (q + 1) (q' - q) (by omega)
    rw [show q + 1 + (q' - q) = q' + 1 by omega] at this
    omega
  · by_cases g' : q' < q
    · have := up (q' + 1) (q - q') (by omega)
      rw [show q' + 1 + (q - q') = q + 1 by omega] at this
      omega
    · omega
theorem eR2.s {P : Sp} {s : Ss} {t r : Nat} {x y : Int} (h : eR2 P s t r x) (hy : x < y) (hu : ∃ u, u < kN (pK P) ∧ s.1 u ≠ -1 ∧ s.1 u + pD P u = y) : eR2 P s t (r + 1) y := by
  obtain ⟨tm, t1, t2, t3, t4⟩ := h
  refine ⟨fun i => if i ≤ r then tm i else y, ?_, if_neg (by omega), fun i hi => ?_, fun i i1 i2 => ?_⟩
  · show (if 0 ≤ r then tm 0 else y) = _
    rw [if_pos (Nat.zero_le _)]
    exact t1
  · show (if i ≤ r then tm i else y) < (if i + 1 ≤ r then tm (i + 1) else y)
    rw [if_pos (show i ≤ r by omega)]
    by_cases c : i + 1 ≤ r
    · rw [if_pos c]
      exact t3 i (by omega)
    · rw [if_neg c, show i = r by omega, t2]
      exact hy
  · show ∃ u, u < kN (pK P) ∧ s.1 u ≠ -1 ∧ s.1 u + pD P u = (if i ≤ r then tm i else y)
    by_cases c : i ≤ r
    · rw [if_pos c]
      exact t4 i i1 c
    · rw [if_neg c]
      exact hu
theorem s_makeOneByOne {G : Gx} {Z : Zm} {p l : Nat} {P : Sp} {L : Nat → Nat} (h : cCx Z p P) (hl : zA Z l 100 20 ∧ (l < p ∨ p + 10 ≤ l)) (hL : okL P L) (hv : ∀ v, v < kN (pK P) → zI Z l v = (L v : Int)) : ZM G 2 m_X9_makeOneByOne [.ref p, .ref 1, .ref l] Z (fun r W => r = .inl none ∧ cCx W p P ∧ cSt W p P (srE P L) ∧ zF (zB p (p + 10)) 0 0 Z W) := by
  have hP := h.2.2.2.1
  have hN := hP.1.n
  have hM := hP.1.m
  have hH : ∀ t, t < kN (pK P) → pH P (pS P t) ≤ 6 := fun t ht => (hP.2.2.1 t ht).2
  have ll : ∀ {W : Zm}, zF (zB p (p + 10)) 0 0 Z W → zA W l 100 20 ∧ ∀ v, v < kN (pK P) → zI W l v = (L v : Int) := fun {W} f => ⟨hl.1.ext f.1, fun v hv' => by rw [f.i hl.1.1 (by unfold zB; omega)]; exact hv v hv'⟩
  generalize hR : (fun (r : Rv) (W : Zm) => r = .inl none ∧ cCx W p P ∧ cSt W p P (srE P L) ∧ zF (zB p (p + 10)) 0 0 Z W) = R
  refine e_X9_makeOneByOne h.1 h.2.1 hl.1 (((s_beginAnew h).deeper (by omega)).mono ?_)
  rintro r W ⟨rfl, cW, sW, lW, fW⟩
  refine b_X9_makeOneByOne_5 cW.1 cW.2.1 (ll fW).1 ?_
  suffices outer : ∀ n, n ≤ kN (pK P) → ∀ W, cCx W p P → cSt W p P (srF P L n) → cLt W p P (srF P L n).1 (put P (srF P L n)) → zF (zB p (p + 10)) 0 0 Z W → ZP G 2 m_X9_makeOneByOne 7 [some (.ref p), some (.ref 1), some (.ref l), some (iv (n : Int)), none, none, none] [] W R from outer 0 (Nat.zero_le _) W cW sW lW fW
  clear cW sW lW fW
  refine am_up (n := kN (pK P)) fun n hn ih W cW sW lW fW => ?_
  obtain ⟨lA, lV⟩ := ll fW
  refine b_X9_makeOneByOne_7 cW.1 cW.2.1 lA ⟨by omega, by rw [cW.2.2.2.2.2.1]; omega, ?_⟩
  rw [cW.2.2.2.2.2.1]
  by_cases cn : n < kN (pK P)
  · have so := srF_ok hP hL n
    have sb : sB P (srF P L n) := so.1.sb hP hH (by omega)
    have nz : fuF P L (srF P L n) ≠ -1 := fun e => by
      have := cntS_all.mpr ((fuF_all hP hL).mp e)
      have := srF_cnt hP hL n (by omega)
      omega
    have fr : 0 ≤ fuF P L (srF P L n) := by
      rcases fuF_is P L (srF P L n) with ⟨q, -⟩ | ⟨v, v1, v2, -⟩
      · exact absurd q nz
      · omega
    obtain ⟨t, et⟩ : ∃ t : Nat, fuF P L (srF P L n) = (t : Int) := ⟨(fuF P L (srF P L n)).toNat, by omega⟩
    obtain ⟨ht, s0, l0, ft, ft0, ft1, -⟩ := srF_step hP hL (E := 90 * (n : Int)) (by omega) so et
    have sn : srF P L (n + 1) = ptF P (srF P L n) t (ftF P (srF P L n) t) := by
      show cIf (fuF P L (srF P L n) = -1) (srF P L n) (ptF P (srF P L n) (fuF P L (srF P L n)).toNat (ftF P (srF P L n) (fuF P L (srF P L n)).toNat)) = _
      rw [cIf_f nz, et, Int.toNat_natCast]
    have ih' := ih cn
    rw [sn] at ih'
    rw [if_neg (by omega)]
    refine ((s_firstUnput cW sW sb lW lA hL lV).deeper (by omega)).mono ?_
    rintro r W' ⟨rfl, hW⟩
    obtain rfl := hW.symm
    rw [et]
    generalize srF P L n = s at *
    have l1 := lt_ge l0
    obtain ⟨w1, w2⟩ := lW t ht
    have e6 := (ltW w1 w2).2 ((ltW w1 w2).1.mpr l0)
    refine b_X9_makeOneByOne_20 cW.1 cW.2.1 lA ⟨by omega, ?_⟩
    rw [if_pos (by omega), Int.toNat_natCast, e6]
    refine ⟨zIx_nat (by omega) (by omega), ?_⟩
    -- behind the task is put
    have go7 : ∀ V (v5 v6 : Int), -1 ≤ v5 ∧ v5 ≤ 10000 → 0 ≤ v6 ∧ v6 ≤ 100 → cCx V p P → cSt V p P (ptF P s t (ftF P s t)) → cLt V p P (ptF P s t (ftF P s t)).1 (put P (ptF P s t (ftF P s t))) → zF (zB p (p + 10)) 0 0 Z V → ZP G 2 m_X9_makeOneByOne 40 [some (.ref p), some (.ref 1), some (.ref l), some (iv (n : Int)), some (iv (t : Int)), some (iv v5), some (iv v6)] [] V R := fun V v5 v6 r5 r6 cV sV lV' fV => by
      have next := ih' V cV sV lV' fV
      obtain ⟨lA', -⟩ := ll fV
      refine b_X9_makeOneByOne_40 cV.1 cV.2.1 lA' ⟨by omega, by rw [cV.2.2.2.2.2.1]; omega, ?_⟩
      rw [cV.2.2.2.2.2.1]
      by_cases c : (kN (pK P) : Int) < v6
      · rw [if_pos c]
        exact next
      · have e3 := (sV.1 t ht).1
        have ept : (ptF P s t (ftF P s t)).1 t = ftF P s t := by
          unfold ptF
          rw [cIf_p ft.2.1]
          exact zu_same _ _ _
        rw [if_neg c, Int.toNat_natCast, e3, ept, if_neg (by omega)]
        exact ⟨zIx_nat (by omega) (by omega), by omega, next⟩
    suffices turn : ∀ m r : Nat, kN (pK P) + 1 ≤ r + m → ∀ x, eR2 P s t r x → ltA P s.1 t ≤ x → x ≤ ftF P s t → ∀ W, cCx W p P → cSt W p P s → cLt W p P s.1 (put P s) → zF (zB p (p + 10)) 0 0 Z W → ZP G 2 m_X9_makeOneByOne 40 [some (.ref p), some (.ref 1), some (.ref l), some (iv (n : Int)), some (iv (t : Int)), some (iv x), some (iv (r : Int))] [] W R from turn (kN (pK P) + 1) 0 (by omega) _ ⟨fun _ => ltA P s.1 t, rfl, rfl, fun i hi => absurd hi (Nat.not_lt_zero _), fun i i1 i2 => by omega⟩ (Int.le_refl _) ft.1 W cW sW lW fW
    clear w1 w2 e6 sW lW cW fW lA lV
    intro m
    induction m with
    | zero =>
      intro r hm x hr
      have := hr.le
      omega
    | succ m ihm =>
      intro r hm x hr x1 x2 W cW sW lW fW
      obtain ⟨lA, -⟩ := ll fW
      have rl := hr.le
      have e3 := (sW.1 t ht).1
      refine b_X9_makeOneByOne_40 cW.1 cW.2.1 lA ⟨by omega, by rw [cW.2.2.2.2.2.1]; omega, ?_⟩
      rw [cW.2.2.2.2.2.1, if_neg (by omega), Int.toNat_natCast, e3, if_pos s0]
      refine ⟨zIx_nat (by omega) (by omega), by omega, by omega, ?_⟩
      rw [if_neg (by omega)]
      refine (s_putIfFree cW sW sb lW ht s0 (by omega)).mono ?_
      rintro r' V ⟨rfl, cV, sV, sbV, lV', fV⟩
      have fV' := fW.trans fV
      obtain ⟨lA', -⟩ := ll fV'
      refine b_X9_makeOneByOne_74 cV.1 cV.2.1 lA' (((s_nextEnd cV sV sbV (by omega)).deeper (by omega)).mono ?_)
      rintro r' V' ⟨⟨v, rfl, hne, v1, v2⟩, hV⟩
      obtain rfl := hV.symm
      refine b_X9_makeOneByOne_80 cV.1 cV.2.1 lA' ?_
      by_cases c : fhF P s t x = -1
      · -- not yet
        have es : ptF P s t x = s := cIf_f fun q => q c
        rw [es] at sV lV' hne
        rcases hne with ⟨q1, q2⟩ | ⟨q1, q2, q3⟩
        · exact absurd c (fh_late hP ht q2)
        · have lt : x < ftF P s t := by
            refine Classical.byContradiction fun g => ft.2.1 ?_
            rw [show ftF P s t = x by omega]
            exact c
          have le : v ≤ ftF P s t := by
            refine Classical.byContradiction fun g => ft.2.1 ?_
            refine fh_skip c (by omega) fun u hu g1 g2 => ?_
            have := q3 u hu g1 g2.1
            omega
          exact ihm (r + 1) (by omega) v (hr.s q1 q2) (by omega) le V cV sV lV' fV'
      · have ge : x = ftF P s t := by
          refine Classical.byContradiction fun g => c (ft.2.2 x x1 (by omega))
        rw [ge] at sV lV'
        exact go7 V v ((r : Int) + 1) (by omega) (by omega) cV sV lV' fV'
  · rw [if_pos (by omega)]
    have eE : srF P L n = srE P L := by
      rw [show n = kN (pK P) by omega]
      rfl
    rw [eE] at sW
    rw [← hR]
    exact ⟨rfl, cW, sW, fW⟩
