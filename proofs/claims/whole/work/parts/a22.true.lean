set_option maxRecDepth 20000 in
theorem e_X9_keepsNeeds {G : Gx} {Q : Rv → Zm → Prop} {Z : Zm} {p : Nat} {b : Nat} (hp : atPlan Z p) (hb : atBook Z b) (h : (ZP G 1 m_X9_keepsNeeds 2 [some (.ref p), some (.ref b), some (iv 0), none] [] Z Q)) : ZM G 1 m_X9_keepsNeeds [.ref p, .ref b] Z Q := ZM.of [some (.ref p), some (.ref b), none, none] rfl <| z_iconst (pc' := 1) (n := 0) (by decide +kernel) rfl <| z_istore_n (pc' := 2) (j := 2) (ls' := [some (.ref p), some (.ref b), some (iv 0), none]) (by decide +kernel) (by decide) rfl rfl <| h
set_option maxRecDepth 20000 in
theorem b_X9_keepsNeeds_2 {G : Gx} {Q : Rv → Zm → Prop} {Z : Zm} {p : Nat} {b : Nat} {v2 : Int} (hp : atPlan Z p) (hb : atBook Z b) (h : ((R32 v2) ∧ (R32 (zI Z b 4)) ∧ (if (zI Z b 4) ≤ v2 then (Q (.inl (some (iv 1))) Z) else ((zIx v2 50) ∧ (zIx (zI Z (b + 15) v2.toNat) 20) ∧ (zIx (zI Z (b + 16) v2.toNat) 20) ∧ (R32 (zI Z (p + 3) (zI Z (b + 16) v2.toNat).toNat)) ∧ (R32 ((zI Z (p + 4) (zI Z (b + 15) v2.toNat).toNat) + (zI Z (b + 17) v2.toNat))) ∧ (if ((zI Z (p + 4) (zI Z (b + 15) v2.toNat).toNat) + (zI Z (b + 17) v2.toNat)) ≤ (zI Z (p + 3) (zI Z (b + 16) v2.toNat).toNat) then (ZP G 1 m_X9_keepsNeeds 2 [some (.ref p), some (.ref b), some (iv (v2 + 1)), none] [] Z Q) else (Q (.inl (some (iv 0))) Z)))))) : ZP G 1 m_X9_keepsNeeds 2 [some (.ref p), some (.ref b), some (iv v2), none] [] Z Q := z_iload_n (pc' := 3) (j := 2) (by decide +kernel) rfl rfl <| z_aload_n (pc' := 4) (j := 1) (by decide +kernel) rfl rfl <| z_getI (pc' := 7) (idx := 68) (ci := 0) (f := 4) (by decide +kernel) f_RX9_68 rfl hb.o.1 hb.o.2 rfl <| h.elim fun c1 h => h.elim fun c2 h => z_icmp_ge (pc' := 10) (tgt := 58) (off := 51) (by decide +kernel) (by decide) rfl c1 c2 (am_ite h (fun h => z_iconst (pc' := 59) (n := 1) (by decide +kernel) rfl <| z_ireturn (by decide +kernel) (am_rb (Or.inr rfl)) h) (fun h => z_aload_n (pc' := 11) (j := 0) (by decide +kernel) rfl rfl <| z_getR (pc' := 14) (idx := 25) (ci := 9) (f := 9) (by decide +kernel) f_RX9_25 rfl hp.o.1 hp.o.2 hp.r9 rfl <| z_aload_n (pc' := 15) (j := 1) (by decide +kernel) rfl rfl <| z_getR (pc' := 18) (idx := 71) (ci := 0) (f := 1) (by decide +kernel) f_RX9_71 rfl hb.o.1 hb.o.2 hb.r1 rfl <| z_iconst (pc' := 19) (n := 0) (by decide +kernel) rfl <| z_aaload120 (pc' := 20) (by decide +kernel) hb.a1 ⟨by decide, by decide, by decide⟩ (hb.e1 0 (by decide)) rfl <| z_iload_n (pc' := 21) (j := 2) (by decide +kernel) rfl rfl <| h.elim fun c3 h => z_iaload (pc' := 22) (by decide +kernel) (hb.x1 0 (by decide)) c3 rfl <| h.elim fun c4 h => z_iaload (pc' := 23) (by decide +kernel) hp.a9 c4 rfl <| z_aload_n (pc' := 24) (j := 1) (by decide +kernel) rfl rfl <| z_getR (pc' := 27) (idx := 71) (ci := 0) (f := 1) (by decide +kernel) f_RX9_71 rfl hb.o.1 hb.o.2 hb.r1 rfl <| z_iconst (pc' := 28) (n := 2) (by decide +kernel) rfl <| z_aaload120 (pc' := 29) (by decide +kernel) hb.a1 ⟨by decide, by decide, by decide⟩ (hb.e1 2 (by decide)) rfl <| z_iload_n (pc' := 30) (j := 2) (by decide +kernel) rfl rfl <| z_iaload (pc' := 31) (by decide +kernel) (hb.x1 2 (by decide)) c3 rfl <| z_iadd (pc' := 32) (by decide +kernel) rfl <| z_istore_n (pc' := 33) (j := 3) (ls' := [some (.ref p), some (.ref b), some (iv v2), some (iv ((zI Z (p + 4) (zI Z (b + 15) v2.toNat).toNat) + (zI Z (b + 17) v2.toNat)))]) (by decide +kernel) (by decide) rfl rfl <| z_aload_n (pc' := 34) (j := 0) (by decide +kernel) rfl rfl <| z_getR (pc' := 37) (idx := 22) (ci := 9) (f := 8) (by decide +kernel) f_RX9_22 rfl hp.o.1 hp.o.2 hp.r8 rfl <| z_aload_n (pc' := 38) (j := 1) (by decide +kernel) rfl rfl <| z_getR (pc' := 41) (idx := 71) (ci := 0) (f := 1) (by decide +kernel) f_RX9_71 rfl hb.o.1 hb.o.2 hb.r1 rfl <| z_iconst (pc' := 42) (n := 1) (by decide +kernel) rfl <| z_aaload120 (pc' := 43) (by decide +kernel) hb.a1 ⟨by decide, by decide, by decide⟩ (hb.e1 1 (by decide)) rfl <| z_iload_n (pc' := 44) (j := 2) (by decide +kernel) rfl rfl <| z_iaload (pc' := 45) (by decide +kernel) (hb.x1 1 (by decide)) c3 rfl <| h.elim fun c5 h => z_iaload (pc' := 46) (by decide +kernel) hp.a8 c5 rfl <| z_iload_n (pc' := 47) (j := 3) (by decide +kernel) rfl rfl <| h.elim fun c6 h => h.elim fun c7 h => z_icmp_ge (pc' := 50) (tgt := 52) (off := 5) (by decide +kernel) (by decide) rfl c6 c7 (am_ite h (fun h => z_iinc (pc' := 55) (j := 2) (n := 1) (x := v2) (ls' := [some (.ref p), some (.ref b), some (iv (v2 + 1)), some (iv ((zI Z (p + 4) (zI Z (b + 15) v2.toNat).toNat) + (zI Z (b + 17) v2.toNat)))]) (by decide +kernel) rfl (by decide) rfl rfl <| z_goto (tgt := 2) (off := -53) (by decide +kernel) (by decide) <| (ZP.wk (wk_some (wk_some (wk_some (wk_none wk_nil)))) h)) (fun h => z_iconst (pc' := 51) (n := 0) (by decide +kernel) rfl <| z_ireturn (by decide +kernel) (am_rb (Or.inl rfl)) h))))
set_option maxRecDepth 20000 in
theorem e_X9_keepsHandsApart {G : Gx} {Q : Rv → Zm → Prop} {Z : Zm} {p : Nat} {b : Nat} (hp : atPlan Z p) (hb : atBook Z b) (h : (ZP G 1 m_X9_keepsHandsApart 2 [some (.ref p), some (.ref b), some (iv 0), none] [] Z Q)) : ZM G 1 m_X9_keepsHandsApart [.ref p, .ref b] Z Q := ZM.of [some (.ref p), some (.ref b), none, none] rfl <| z_iconst (pc' := 1) (n := 0) (by decide +kernel) rfl <| z_istore_n (pc' := 2) (j := 2) (ls' := [some (.ref p), some (.ref b), some (iv 0), none]) (by decide +kernel) (by decide) rfl rfl <| h
set_option maxRecDepth 20000 in
theorem b_X9_keepsHandsApart_2 {G : Gx} {Q : Rv → Zm → Prop} {Z : Zm} {p : Nat} {b : Nat} {v2 : Int} (hp : atPlan Z p) (hb : atBook Z b) (h : ((R32 v2) ∧ (R32 (zI Z p 2)) ∧ (if (zI Z p 2) ≤ v2 then (Q (.inl (some (iv 1))) Z) else (ZP G 1 m_X9_keepsHandsApart 12 [some (.ref p), some (.ref b), some (iv v2), some (iv 0)] [] Z Q)))) : ZP G 1 m_X9_keepsHandsApart 2 [some (.ref p), some (.ref b), some (iv v2), none] [] Z Q := z_iload_n (pc' := 3) (j := 2) (by decide +kernel) rfl rfl <| z_aload_n (pc' := 4) (j := 0) (by decide +kernel) rfl rfl <| z_getI (pc' := 7) (idx := 48) (ci := 9) (f := 2) (by decide +kernel) f_RX9_48 rfl hp.o.1 hp.o.2 rfl <| h.elim fun c1 h => h.elim fun c2 h => z_icmp_ge (pc' := 10) (tgt := 71) (off := 64) (by decide +kernel) (by decide) rfl c1 c2 (am_ite h (fun h => z_iconst (pc' := 72) (n := 1) (by decide +kernel) rfl <| z_ireturn (by decide +kernel) (am_rb (Or.inr rfl)) h) (fun h => z_iconst (pc' := 11) (n := 0) (by decide +kernel) rfl <| z_istore_n (pc' := 12) (j := 3) (ls' := [some (.ref p), some (.ref b), some (iv v2), some (iv 0)]) (by decide +kernel) (by decide) rfl rfl <| h))
set_option maxRecDepth 20000 in
theorem b_X9_keepsHandsApart_12 {G : Gx} {Q : Rv → Zm → Prop} {Z : Zm} {p : Nat} {b : Nat} {v2 : Int} {v3 : Int} (hp : atPlan Z p) (hb : atBook Z b) (h : ((R32 v3) ∧ (R32 v2) ∧ (if v2 ≤ v3 then (ZP G 1 m_X9_keepsHandsApart 2 [some (.ref p), some (.ref b), some (iv (v2 + 1)), none] [] Z Q) else ((zIx v2 20) ∧ (zIx v3 20) ∧ (R32 (zI Z (p + 3) v2.toNat)) ∧ (R32 (zI Z (p + 4) v3.toNat)) ∧ (if (zI Z (p + 4) v3.toNat) ≤ (zI Z (p + 3) v2.toNat) then (ZP G 1 m_X9_keepsHandsApart 12 [some (.ref p), some (.ref b), some (iv v2), some (iv (v3 + 1))] [] Z Q) else ((R32 (zI Z (p + 3) v3.toNat)) ∧ (R32 (zI Z (p + 4) v2.toNat)) ∧ (if (zI Z (p + 4) v2.toNat) ≤ (zI Z (p + 3) v3.toNat) then (ZP G 1 m_X9_keepsHandsApart 12 [some (.ref p), some (.ref b), some (iv v2), some (iv (v3 + 1))] [] Z Q) else (ZM G 0 m_X9_isShared [.ref p, .ref b, iv v2, iv v3] Z (zKc G 1 m_X9_keepsHandsApart 54 [some (.ref p), some (.ref b), some (iv v2), some (iv v3)] [] Q))))))))) : ZP G 1 m_X9_keepsHandsApart 12 [some (.ref p), some (.ref b), some (iv v2), some (iv v3)] [] Z Q := z_iload_n (pc' := 13) (j := 3) (by decide +kernel) rfl rfl <| z_iload_n (pc' := 14) (j := 2) (by decide +kernel) rfl rfl <| h.elim fun c1 h => h.elim fun c2 h => z_icmp_ge (pc' := 17) (tgt := 65) (off := 51) (by decide +kernel) (by decide) rfl c1 c2 (am_ite h (fun h => z_iinc (pc' := 68) (j := 2) (n := 1) (x := v2) (ls' := [some (.ref p), some (.ref b), some (iv (v2 + 1)), some (iv v3)]) (by decide +kernel) rfl (by decide) rfl rfl <| z_goto (tgt := 2) (off := -66) (by decide +kernel) (by decide) <| (ZP.wk (wk_some (wk_some (wk_some (wk_none wk_nil)))) h)) (fun h => z_aload_n (pc' := 18) (j := 0) (by decide +kernel) rfl rfl <| z_getR (pc' := 21) (idx := 22) (ci := 9) (f := 8) (by decide +kernel) f_RX9_22 rfl hp.o.1 hp.o.2 hp.r8 rfl <| z_iload_n (pc' := 22) (j := 2) (by decide +kernel) rfl rfl <| h.elim fun c3 h => z_iaload (pc' := 23) (by decide +kernel) hp.a8 c3 rfl <| z_aload_n (pc' := 24) (j := 0) (by decide +kernel) rfl rfl <| z_getR (pc' := 27) (idx := 25) (ci := 9) (f := 9) (by decide +kernel) f_RX9_25 rfl hp.o.1 hp.o.2 hp.r9 rfl <| z_iload_n (pc' := 28) (j := 3) (by decide +kernel) rfl rfl <| h.elim fun c4 h => z_iaload (pc' := 29) (by decide +kernel) hp.a9 c4 rfl <| h.elim fun c5 h => h.elim fun c6 h => z_icmp_ge (pc' := 32) (tgt := 59) (off := 30) (by decide +kernel) (by decide) rfl c5 c6 (am_ite h (fun h => z_iinc (pc' := 62) (j := 3) (n := 1) (x := v3) (ls' := [some (.ref p), some (.ref b), some (iv v2), some (iv (v3 + 1))]) (by decide +kernel) rfl (by decide) rfl rfl <| z_goto (tgt := 12) (off := -50) (by decide +kernel) (by decide) <| h) (fun h => z_aload_n (pc' := 33) (j := 0) (by decide +kernel) rfl rfl <| z_getR (pc' := 36) (idx := 22) (ci := 9) (f := 8) (by decide +kernel) f_RX9_22 rfl hp.o.1 hp.o.2 hp.r8 rfl <| z_iload_n (pc' := 37) (j := 3) (by decide +kernel) rfl rfl <| z_iaload (pc' := 38) (by decide +kernel) hp.a8 c4 rfl <| z_aload_n (pc' := 39) (j := 0) (by decide +kernel) rfl rfl <| z_getR (pc' := 42) (idx := 25) (ci := 9) (f := 9) (by decide +kernel) f_RX9_25 rfl hp.o.1 hp.o.2 hp.r9 rfl <| z_iload_n (pc' := 43) (j := 2) (by decide +kernel) rfl rfl <| z_iaload (pc' := 44) (by decide +kernel) hp.a9 c3 rfl <| h.elim fun c7 h => h.elim fun c8 h => z_icmp_ge (pc' := 47) (tgt := 59) (off := 15) (by decide +kernel) (by decide) rfl c7 c8 (am_ite h (fun h => z_iinc (pc' := 62) (j := 3) (n := 1) (x := v3) (ls' := [some (.ref p), some (.ref b), some (iv v2), some (iv (v3 + 1))]) (by decide +kernel) rfl (by decide) rfl rfl <| z_goto (tgt := 12) (off := -50) (by decide +kernel) (by decide) <| h) (fun h => z_aload_n (pc' := 48) (j := 0) (by decide +kernel) rfl rfl <| z_aload_n (pc' := 49) (j := 1) (by decide +kernel) rfl rfl <| z_iload_n (pc' := 50) (j := 2) (by decide +kernel) rfl rfl <| z_iload_n (pc' := 51) (j := 3) (by decide +kernel) rfl rfl <| z_callV (pc' := 54) (idx := 113) (mj := m_X9_isShared) (av := [.ref b, iv v2, iv v3]) (d' := 0) (by decide +kernel) rfl k_X9_isShared l_RX9_113 rfl (by omega) (am_le rfl) rfl (am_le rfl) hp.o.1 hp.o.2 rfl h))))))
set_option maxRecDepth 20000 in
theorem b_X9_keepsHandsApart_54 {G : Gx} {Q : Rv → Zm → Prop} {Z : Zm} {p : Nat} {b : Nat} {v2 : Int} {v3 : Int} {s0 : Int} (hp : atPlan Z p) (hb : atBook Z b) (h : ((R32 s0) ∧ (if s0 = 0 then (ZP G 1 m_X9_keepsHandsApart 12 [some (.ref p), some (.ref b), some (iv v2), some (iv (v3 + 1))] [] Z Q) else (Q (.inl (some (iv 0))) Z)))) : ZP G 1 m_X9_keepsHandsApart 54 [some (.ref p), some (.ref b), some (iv v2), some (iv v3)] [iv s0] Z Q := h.elim fun c1 h => z_if_eq (pc' := 57) (tgt := 59) (off := 5) (by decide +kernel) (by decide) rfl c1 (am_ite h (fun h => z_iinc (pc' := 62) (j := 3) (n := 1) (x := v3) (ls' := [some (.ref p), some (.ref b), some (iv v2), some (iv (v3 + 1))]) (by decide +kernel) rfl (by decide) rfl rfl <| z_goto (tgt := 12) (off := -50) (by decide +kernel) (by decide) <| h) (fun h => z_iconst (pc' := 58) (n := 0) (by decide +kernel) rfl <| z_ireturn (by decide +kernel) (am_rb (Or.inl rfl)) h))
set_option maxRecDepth 20000 in
theorem e_X9_isShared {G : Gx} {Q : Rv → Zm → Prop} {Z : Zm} {p : Nat} {b : Nat} {t : Int} {x : Int} (hp : atPlan Z p) (hb : atBook Z b) (h : ((zIx t 20) ∧ (R32 (zI Z (b + 4) t.toNat)) ∧ (if (zI Z (b + 4) t.toNat) < 0 then ((zIx x 20) ∧ (R32 (zI Z (b + 3) t.toNat)) ∧ (R32 (zI Z (b + 3) x.toNat)) ∧ ((zI Z (b + 3) t.toNat) = (zI Z (b + 3) x.toNat) → (R32 (zI Z (p + 5) t.toNat)) ∧ (R32 (zI Z (p + 5) x.toNat)) ∧ True) ∧ Q (.inl (some (iv (b2 (((zI Z (b + 3) t.toNat) = (zI Z (b + 3) x.toNat)) ∧ ((zI Z (p + 5) t.toNat) = (zI Z (p + 5) x.toNat))))))) Z) else ((zIx x 20) ∧ (R32 (zI Z (b + 4) x.toNat)) ∧ (if (zI Z (b + 4) t.toNat) = (zI Z (b + 4) x.toNat) then (Q (.inl (some (iv 1))) Z) else ((R32 (zI Z (b + 3) t.toNat)) ∧ (R32 (zI Z (b + 3) x.toNat)) ∧ ((zI Z (b + 3) t.toNat) = (zI Z (b + 3) x.toNat) → (R32 (zI Z (p + 5) t.toNat)) ∧ (R32 (zI Z (p + 5) x.toNat)) ∧ True) ∧ Q (.inl (some (iv (b2 (((zI Z (b + 3) t.toNat) = (zI Z (b + 3) x.toNat)) ∧ ((zI Z (p + 5) t.toNat) = (zI Z (p + 5) x.toNat))))))) Z)))))) : ZM G 0 m_X9_isShared [.ref p, .ref b, iv t, iv x] Z Q := ZM.of [some (.ref p), some (.ref b), some (iv t), some (iv x), none] rfl <| z_aload_n (pc' := 1) (j := 1) (by decide +kernel) rfl rfl <| z_getR (pc' := 4) (idx := 49) (ci := 0) (f := 0) (by decide +kernel) f_RX9_49 rfl hb.o.1 hb.o.2 hb.r0 rfl <| z_iconst (pc' := 5) (n := 2) (by decide +kernel) rfl <| z_aaload120 (pc' := 6) (by decide +kernel) hb.a0 ⟨by decide, by decide, by decide⟩ (hb.e0 2 (by decide)) rfl <| z_iload_n (pc' := 7) (j := 2) (by decide +kernel) rfl rfl <| h.elim fun c1 h => z_iaload (pc' := 8) (by decide +kernel) (hb.x0 2 (by decide)) c1 rfl <| z_istore (pc' := 10) (j := 4) (ls' := [some (.ref p), some (.ref b), some (iv t), some (iv x), some (iv (zI Z (b + 4) t.toNat))]) (by decide +kernel) (by decide) rfl rfl <| z_iload (pc' := 12) (j := 4) (by decide +kernel) rfl rfl <| h.elim fun c2 h => z_if_lt (pc' := 15) (tgt := 30) (off := 18) (by decide +kernel) (by decide) rfl c2 (am_ite h (fun h => z_aload_n (pc' := 31) (j := 1) (by decide +kernel) rfl rfl <| z_getR (pc' := 34) (idx := 49) (ci := 0) (f := 0) (by decide +kernel) f_RX9_49 rfl hb.o.1 hb.o.2 hb.r0 rfl <| z_iconst (pc' := 35) (n := 1) (by decide +kernel) rfl <| z_aaload120 (pc' := 36) (by decide +kernel) hb.a0 ⟨by decide, by decide, by decide⟩ (hb.e0 1 (by decide)) rfl <| z_iload_n (pc' := 37) (j := 2) (by decide +kernel) rfl rfl <| z_iaload (pc' := 38) (by decide +kernel) (hb.x0 1 (by decide)) c1 rfl <| z_aload_n (pc' := 39) (j := 1) (by decide +kernel) rfl rfl <| z_getR (pc' := 42) (idx := 49) (ci := 0) (f := 0) (by decide +kernel) f_RX9_49 rfl hb.o.1 hb.o.2 hb.r0 rfl <| z_iconst (pc' := 43) (n := 1) (by decide +kernel) rfl <| z_aaload120 (pc' := 44) (by decide +kernel) hb.a0 ⟨by decide, by decide, by decide⟩ (hb.e0 1 (by decide)) rfl <| z_iload_n (pc' := 45) (j := 3) (by decide +kernel) rfl rfl <| h.elim fun c3 h => z_iaload (pc' := 46) (by decide +kernel) (hb.x0 1 (by decide)) c3 rfl <| h.elim fun c4 h => h.elim fun c5 h => h.elim fun g12 h => am_use (fun k14 => z_icmp_ne (pc' := 49) (tgt := 68) (off := 22) (by decide +kernel) (by decide) rfl c4 c5 (am_ite2 (fun q15 => have h := g12 q15; z_aload_n (pc' := 50) (j := 0) (by decide +kernel) rfl rfl <| z_getR (pc' := 53) (idx := 28) (ci := 9) (f := 10) (by decide +kernel) f_RX9_28 rfl hp.o.1 hp.o.2 hp.r10 rfl <| z_iload_n (pc' := 54) (j := 2) (by decide +kernel) rfl rfl <| z_iaload (pc' := 55) (by decide +kernel) hp.a10 c1 rfl <| z_aload_n (pc' := 56) (j := 0) (by decide +kernel) rfl rfl <| z_getR (pc' := 59) (idx := 28) (ci := 9) (f := 10) (by decide +kernel) f_RX9_28 rfl hp.o.1 hp.o.2 hp.r10 rfl <| z_iload_n (pc' := 60) (j := 3) (by decide +kernel) rfl rfl <| z_iaload (pc' := 61) (by decide +kernel) hp.a10 c3 rfl <| h.elim fun c6 h => h.elim fun c7 h => am_use (fun k10 => z_icmp_ne (pc' := 64) (tgt := 68) (off := 7) (by decide +kernel) (by decide) rfl c6 c7 (am_ite2 (fun q11 => z_iconst (pc' := 65) (n := 1) (by decide +kernel) rfl <| z_goto (tgt := 69) (off := 4) (by decide +kernel) (by decide) <| (am_jp (P := fun z9 => ZP G 0 m_X9_isShared 69 [some (.ref p), some (.ref b), some (iv t), some (iv x), some (iv (zI Z (b + 4) t.toNat))] [iv z9] _ Q) (b2_p q11) k10)) (fun q11 => z_iconst (pc' := 69) (n := 0) (by decide +kernel) rfl <| (am_jp (P := fun z9 => ZP G 0 m_X9_isShared 69 [some (.ref p), some (.ref b), some (iv t), some (iv x), some (iv (zI Z (b + 4) t.toNat))] [iv z9] _ Q) (b2_f q11) k10)))) <| (am_jp (P := fun z9 => ZP G 0 m_X9_isShared 69 [some (.ref p), some (.ref b), some (iv t), some (iv x), some (iv (zI Z (b + 4) t.toNat))] [iv z9] _ Q) (b2_c1 q15) k14)) (fun q15 => z_iconst (pc' := 69) (n := 0) (by decide +kernel) rfl <| (am_jp (P := fun z9 => ZP G 0 m_X9_isShared 69 [some (.ref p), some (.ref b), some (iv t), some (iv x), some (iv (zI Z (b + 4) t.toNat))] [iv z9] _ Q) (b2_c2 q15) k14)))) <| z_ireturn (by decide +kernel) (am_rb (b2_01 _)) h) (fun h => z_iload (pc' := 17) (j := 4) (by decide +kernel) rfl rfl <| z_aload_n (pc' := 18) (j := 1) (by decide +kernel) rfl rfl <| z_getR (pc' := 21) (idx := 49) (ci := 0) (f := 0) (by decide +kernel) f_RX9_49 rfl hb.o.1 hb.o.2 hb.r0 rfl <| z_iconst (pc' := 22) (n := 2) (by decide +kernel) rfl <| z_aaload120 (pc' := 23) (by decide +kernel) hb.a0 ⟨by decide, by decide, by decide⟩ (hb.e0 2 (by decide)) rfl <| z_iload_n (pc' := 24) (j := 3) (by decide +kernel) rfl rfl <| h.elim fun c16 h => z_iaload (pc' := 25) (by decide +kernel) (hb.x0 2 (by decide)) c16 rfl <| h.elim fun c17 h => z_icmp_ne (pc' := 28) (tgt := 30) (off := 5) (by decide +kernel) (by decide) rfl c2 c17 (am_ite h (fun h => z_iconst (pc' := 29) (n := 1) (by decide +kernel) rfl <| z_ireturn (by decide +kernel) (am_rb (Or.inr rfl)) h) (fun h => z_aload_n (pc' := 31) (j := 1) (by decide +kernel) rfl rfl <| z_getR (pc' := 34) (idx := 49) (ci := 0) (f := 0) (by decide +kernel) f_RX9_49 rfl hb.o.1 hb.o.2 hb.r0 rfl <| z_iconst (pc' := 35) (n := 1) (by decide +kernel) rfl <| z_aaload120 (pc' := 36) (by decide +kernel) hb.a0 ⟨by decide, by decide, by decide⟩ (hb.e0 1 (by decide)) rfl <| z_iload_n (pc' := 37) (j := 2) (by decide +kernel) rfl rfl <| z_iaload (pc' := 38) (by decide +kernel) (hb.x0 1 (by decide)) c1 rfl <| z_aload_n (pc' := 39) (j := 1) (by decide +kernel) rfl rfl <| z_getR (pc' := 42) (idx := 49) (ci := 0) (f := 0) (by decide +kernel) f_RX9_49 rfl hb.o.1 hb.o.2 hb.r0 rfl <| z_iconst (pc' := 43) (n := 1) (by decide +kernel) rfl <| z_aaload120 (pc' := 44) (by decide +kernel) hb.a0 ⟨by decide, by decide, by decide⟩ (hb.e0 1 (by decide)) rfl <| z_iload_n (pc' := 45) (j := 3) (by decide +kernel) rfl rfl <| z_iaload (pc' := 46) (by decide +kernel) (hb.x0 1 (by decide)) c16 rfl <| h.elim fun c18 h => h.elim fun c19 h => h.elim fun g26 h => am_use (fun k28 => z_icmp_ne (pc' := 49) (tgt := 68) (off := 22) (by decide +kernel) (by decide) rfl c18 c19 (am_ite2 (fun q29 => have h := g26 q29; z_aload_n (pc' := 50) (j := 0) (by decide +kernel) rfl rfl <| z_getR (pc' := 53) (idx := 28) (ci := 9) (f := 10) (by decide +kernel) f_RX9_28 rfl hp.o.1 hp.o.2 hp.r10 rfl <| z_iload_n (pc' := 54) (j := 2) (by decide +kernel) rfl rfl <| z_iaload (pc' := 55) (by decide +kernel) hp.a10 c1 rfl <| z_aload_n (pc' := 56) (j := 0) (by decide +kernel) rfl rfl <| z_getR (pc' := 59) (idx := 28) (ci := 9) (f := 10) (by decide +kernel) f_RX9_28 rfl hp.o.1 hp.o.2 hp.r10 rfl <| z_iload_n (pc' := 60) (j := 3) (by decide +kernel) rfl rfl <| z_iaload (pc' := 61) (by decide +kernel) hp.a10 c16 rfl <| h.elim fun c20 h => h.elim fun c21 h => am_use (fun k24 => z_icmp_ne (pc' := 64) (tgt := 68) (off := 7) (by decide +kernel) (by decide) rfl c20 c21 (am_ite2 (fun q25 => z_iconst (pc' := 65) (n := 1) (by decide +kernel) rfl <| z_goto (tgt := 69) (off := 4) (by decide +kernel) (by decide) <| (am_jp (P := fun z9 => ZP G 0 m_X9_isShared 69 [some (.ref p), some (.ref b), some (iv t), some (iv x), some (iv (zI Z (b + 4) t.toNat))] [iv z9] _ Q) (b2_p q25) k24)) (fun q25 => z_iconst (pc' := 69) (n := 0) (by decide +kernel) rfl <| (am_jp (P := fun z9 => ZP G 0 m_X9_isShared 69 [some (.ref p), some (.ref b), some (iv t), some (iv x), some (iv (zI Z (b + 4) t.toNat))] [iv z9] _ Q) (b2_f q25) k24)))) <| (am_jp (P := fun z9 => ZP G 0 m_X9_isShared 69 [some (.ref p), some (.ref b), some (iv t), some (iv x), some (iv (zI Z (b + 4) t.toNat))] [iv z9] _ Q) (b2_c1 q29) k28)) (fun q29 => z_iconst (pc' := 69) (n := 0) (by decide +kernel) rfl <| (am_jp (P := fun z9 => ZP G 0 m_X9_isShared 69 [some (.ref p), some (.ref b), some (iv t), some (iv x), some (iv (zI Z (b + 4) t.toNat))] [iv z9] _ Q) (b2_c2 q29) k28)))) <| z_ireturn (by decide +kernel) (am_rb (b2_01 _)) h))))
set_option maxRecDepth 20000 in
theorem e_X11_isOfTheTheorem {G : Gx} {Q : Rv → Zm → Prop} {Z : Zm}  (hx : atAll Z) (h : ((R32 (zI Z 256 1)) ∧ (if (zI Z 256 1) = 0 then (Q (.inl (some (iv 0))) Z) else (ZM G 0 m_X0_countWith [.ref 1, iv 1, iv 0] Z (zKc G 1 m_X11_isOfTheTheorem 19 [some (.ref 0)] [] Q))))) : ZM G 1 m_X11_isOfTheTheorem [.ref 0] Z Q := ZM.of [some (.ref 0)] rfl <| z_aload_n (pc' := 1) (j := 0) (by decide +kernel) rfl rfl <| z_getR (pc' := 4) (idx := 63) (ci := 11) (f := 11) (by decide +kernel) f_RX11_63 rfl hx.o.1 hx.o.2 hx.r11 rfl <| z_getI (pc' := 7) (idx := 344) (ci := 9) (f := 1) (by decide +kernel) f_RX11_344 rfl hx.pm.o.1 hx.pm.o.2 rfl <| h.elim fun c1 h => z_if_eq (pc' := 10) (tgt := 62) (off := 55) (by decide +kernel) (by decide) rfl c1 (am_ite h (fun h => z_iconst (pc' := 63) (n := 0) (by decide +kernel) rfl <| z_ireturn (by decide +kernel) (am_rb (Or.inl rfl)) h) (fun h => z_aload_n (pc' := 11) (j := 0) (by decide +kernel) rfl rfl <| z_getR (pc' := 14) (idx := 10) (ci := 11) (f := 0) (by decide +kernel) f_RX11_10 rfl hx.o.1 hx.o.2 hx.r0 rfl <| z_iconst (pc' := 15) (n := 1) (by decide +kernel) rfl <| z_iconst (pc' := 16) (n := 0) (by decide +kernel) rfl <| z_callV (pc' := 19) (idx := 459) (mj := m_X0_countWith) (av := [iv 1, iv 0]) (d' := 0) (by decide +kernel) rfl k_X0_countWith l_RX11_459 rfl (by omega) (am_le rfl) rfl (am_le rfl) hx.bk.o.1 hx.bk.o.2 rfl h))
set_option maxRecDepth 20000 in
theorem b_X11_isOfTheTheorem_19 {G : Gx} {Q : Rv → Zm → Prop} {Z : Zm}  {s0 : Int} (hx : atAll Z) (h : ((R32 s0) ∧ (R32 (zI Z 1 3)) ∧ (if s0 = (zI Z 1 3) then (ZM G 0 m_X0_countWith [.ref 1, iv 2, iv (-1)] Z (zKc G 1 m_X11_isOfTheTheorem 38 [some (.ref 0)] [] Q)) else (Q (.inl (some (iv 0))) Z)))) : ZP G 1 m_X11_isOfTheTheorem 19 [some (.ref 0)] [iv s0] Z Q := z_aload_n (pc' := 20) (j := 0) (by decide +kernel) rfl rfl <| z_getR (pc' := 23) (idx := 10) (ci := 11) (f := 0) (by decide +kernel) f_RX11_10 rfl hx.o.1 hx.o.2 hx.r0 rfl <| z_getI (pc' := 26) (idx := 117) (ci := 0) (f := 3) (by decide +kernel) f_RX11_117 rfl hx.bk.o.1 hx.bk.o.2 rfl <| h.elim fun c1 h => h.elim fun c2 h => z_icmp_ne (pc' := 29) (tgt := 62) (off := 36) (by decide +kernel) (by decide) rfl c1 c2 (am_ite h (fun h => z_aload_n (pc' := 30) (j := 0) (by decide +kernel) rfl rfl <| z_getR (pc' := 33) (idx := 10) (ci := 11) (f := 0) (by decide +kernel) f_RX11_10 rfl hx.o.1 hx.o.2 hx.r0 rfl <| z_iconst (pc' := 34) (n := 2) (by decide +kernel) rfl <| z_iconst (pc' := 35) (n := -1) (by decide +kernel) rfl <| z_callV (pc' := 38) (idx := 459) (mj := m_X0_countWith) (av := [iv 2, iv (-1)]) (d' := 0) (by decide +kernel) rfl k_X0_countWith l_RX11_459 rfl (by omega) (am_le rfl) rfl (am_le rfl) hx.bk.o.1 hx.bk.o.2 rfl h) (fun h => z_iconst (pc' := 63) (n := 0) (by decide +kernel) rfl <| z_ireturn (by decide +kernel) (am_rb (Or.inl rfl)) h))
set_option maxRecDepth 20000 in
theorem b_X11_isOfTheTheorem_38 {G : Gx} {Q : Rv → Zm → Prop} {Z : Zm}  {s0 : Int} (hx : atAll Z) (h : ((R32 s0) ∧ (R32 (zI Z 1 3)) ∧ (if s0 = (zI Z 1 3) then (ZM G 0 m_X0_hasNoLags [.ref 1] Z (zKc G 1 m_X11_isOfTheTheorem 55 [none] [] Q)) else (Q (.inl (some (iv 0))) Z)))) : ZP G 1 m_X11_isOfTheTheorem 38 [some (.ref 0)] [iv s0] Z Q := z_aload_n (pc' := 39) (j := 0) (by decide +kernel) rfl rfl <| z_getR (pc' := 42) (idx := 10) (ci := 11) (f := 0) (by decide +kernel) f_RX11_10 rfl hx.o.1 hx.o.2 hx.r0 rfl <| z_getI (pc' := 45) (idx := 117) (ci := 0) (f := 3) (by decide +kernel) f_RX11_117 rfl hx.bk.o.1 hx.bk.o.2 rfl <| h.elim fun c1 h => h.elim fun c2 h => z_icmp_ne (pc' := 48) (tgt := 62) (off := 17) (by decide +kernel) (by decide) rfl c1 c2 (am_ite h (fun h => z_aload_n (pc' := 49) (j := 0) (by decide +kernel) rfl rfl <| z_getR (pc' := 52) (idx := 10) (ci := 11) (f := 0) (by decide +kernel) f_RX11_10 rfl hx.o.1 hx.o.2 hx.r0 rfl <| z_callV (pc' := 55) (idx := 538) (mj := m_X0_hasNoLags) (av := []) (d' := 0) (by decide +kernel) rfl k_X0_hasNoLags l_RX11_538 rfl (by omega) (am_le rfl) rfl (am_le rfl) hx.bk.o.1 hx.bk.o.2 rfl (ZM.mono h (zKc_wk (wk_none wk_nil)))) (fun h => z_iconst (pc' := 63) (n := 0) (by decide +kernel) rfl <| z_ireturn (by decide +kernel) (am_rb (Or.inl rfl)) h))
set_option maxRecDepth 20000 in
theorem b_X11_isOfTheTheorem_55 {G : Gx} {Q : Rv → Zm → Prop} {Z : Zm}  {s0 : Int} (hx : atAll Z) (h : ((R32 s0) ∧ Q (.inl (some (iv (b2 (¬ (s0 = 0)))))) Z)) : ZP G 1 m_X11_isOfTheTheorem 55 [none] [iv s0] Z Q := h.elim fun c1 h => am_use (fun k4 => z_if_eq (pc' := 58) (tgt := 62) (off := 7) (by decide +kernel) (by decide) rfl c1 (am_ite2 (fun q5 => z_iconst (pc' := 63) (n := 0) (by decide +kernel) rfl <| (am_jp (P := fun z9 => ZP G 1 m_X11_isOfTheTheorem 63 [none] [iv z9] _ Q) (b2_n q5) k4)) (fun q5 => z_iconst (pc' := 59) (n := 1) (by decide +kernel) rfl <| z_goto (tgt := 63) (off := 4) (by decide +kernel) (by decide) <| (am_jp (P := fun z9 => ZP G 1 m_X11_isOfTheTheorem 63 [none] [iv z9] _ Q) (b2_nn q5) k4)))) <| z_ireturn (by decide +kernel) (am_rb (b2_01 _)) h
set_option maxRecDepth 20000 in
theorem e_X11_isEndBounded {G : Gx} {Q : Rv → Zm → Prop} {Z : Zm}  (hx : atAll Z) (h : (ZM G 0 m_X0_sumOfLengths [.ref 1] Z (zKc G 1 m_X11_isEndBounded 26 [some (.ref 0), some (iv (zI Z 257 0))] [iv ((zI Z 256 4) * (zI Z 257 0))] Q))) : ZM G 1 m_X11_isEndBounded [.ref 0] Z Q := ZM.of [some (.ref 0), none] rfl <| z_aload_n (pc' := 1) (j := 0) (by decide +kernel) rfl rfl <| z_getR (pc' := 4) (idx := 63) (ci := 11) (f := 11) (by decide +kernel) f_RX11_63 rfl hx.o.1 hx.o.2 hx.r11 rfl <| z_getR (pc' := 7) (idx := 528) (ci := 9) (f := 6) (by decide +kernel) f_RX11_528 rfl hx.pm.o.1 hx.pm.o.2 hx.pm.r6 rfl <| z_iconst (pc' := 8) (n := 0) (by decide +kernel) rfl <| z_iaload (pc' := 9) (by decide +kernel) hx.pm.a6 ⟨by decide, by decide, by decide⟩ rfl <| z_istore_n (pc' := 10) (j := 1) (ls' := [some (.ref 0), some (iv (zI Z 257 0))]) (by decide +kernel) (by decide) rfl rfl <| z_aload_n (pc' := 11) (j := 0) (by decide +kernel) rfl rfl <| z_getR (pc' := 14) (idx := 63) (ci := 11) (f := 11) (by decide +kernel) f_RX11_63 rfl hx.o.1 hx.o.2 hx.r11 rfl <| z_getI (pc' := 17) (idx := 351) (ci := 9) (f := 4) (by decide +kernel) f_RX11_351 rfl hx.pm.o.1 hx.pm.o.2 rfl <| z_iload_n (pc' := 18) (j := 1) (by decide +kernel) rfl rfl <| z_imul (pc' := 19) (by decide +kernel) rfl <| z_aload_n (pc' := 20) (j := 0) (by decide +kernel) rfl rfl <| z_getR (pc' := 23) (idx := 10) (ci := 11) (f := 0) (by decide +kernel) f_RX11_10 rfl hx.o.1 hx.o.2 hx.r0 rfl <| z_callV (pc' := 26) (idx := 470) (mj := m_X0_sumOfLengths) (av := []) (d' := 0) (by decide +kernel) rfl k_X0_sumOfLengths l_RX11_470 rfl (by omega) (am_le rfl) rfl (am_le rfl) hx.bk.o.1 hx.bk.o.2 rfl h
set_option maxRecDepth 20000 in
theorem b_X11_isEndBounded_26 {G : Gx} {Q : Rv → Zm → Prop} {Z : Zm}  {v1 : Int} {s0 : Int} {s1 : Int} (hx : atAll Z) (h : ((R32 s1) ∧ (R32 (s0 + ((zI Z 233 3) * (v1 - 1)))) ∧ Q (.inl (some (iv (b2 (¬ ((s0 + ((zI Z 233 3) * (v1 - 1))) < s1)))))) Z)) : ZP G 1 m_X11_isEndBounded 26 [some (.ref 0), some (iv v1)] [iv s0, iv s1] Z Q := z_aload_n (pc' := 27) (j := 0) (by decide +kernel) rfl rfl <| z_getR (pc' := 30) (idx := 36) (ci := 11) (f := 4) (by decide +kernel) f_RX11_36 rfl hx.o.1 hx.o.2 hx.r4 rfl <| z_getI (pc' := 33) (idx := 248) (ci := 7) (f := 3) (by decide +kernel) f_RX11_248 rfl hx.nt.o.1 hx.nt.o.2 rfl <| z_iload_n (pc' := 34) (j := 1) (by decide +kernel) rfl rfl <| z_iconst (pc' := 35) (n := 1) (by decide +kernel) rfl <| z_isub (pc' := 36) (by decide +kernel) rfl <| z_imul (pc' := 37) (by decide +kernel) rfl <| z_iadd (pc' := 38) (by decide +kernel) rfl <| h.elim fun c1 h => h.elim fun c2 h => am_use (fun k5 => z_icmp_gt (pc' := 41) (tgt := 45) (off := 7) (by decide +kernel) (by decide) rfl c1 c2 (am_ite2 (fun q6 => z_iconst (pc' := 46) (n := 0) (by decide +kernel) rfl <| (am_jp (P := fun z9 => ZP G 1 m_X11_isEndBounded 46 [some (.ref 0), some (iv v1)] [iv z9] _ Q) (b2_n q6) k5)) (fun q6 => z_iconst (pc' := 42) (n := 1) (by decide +kernel) rfl <| z_goto (tgt := 46) (off := 4) (by decide +kernel) (by decide) <| (am_jp (P := fun z9 => ZP G 1 m_X11_isEndBounded 46 [some (.ref 0), some (iv v1)] [iv z9] _ Q) (b2_nn q6) k5)))) <| z_ireturn (by decide +kernel) (am_rb (b2_01 _)) h
set_option maxRecDepth 20000 in
theorem e_X11_isTrue {G : Gx} {Q : Rv → Zm → Prop} {Z : Zm}  (hx : atAll Z) (h : (ZM G 11 m_X11_freshNet [.ref 0] Z (zKc G 12 m_X11_isTrue 14 [some (.ref 0), some (.ref 3), none] [] Q))) : ZM G 12 m_X11_isTrue [.ref 0] Z Q := ZM.of [some (.ref 0), none, none] rfl <| z_aload_n (pc' := 1) (j := 0) (by decide +kernel) rfl rfl <| z_getR (pc' := 4) (idx := 10) (ci := 11) (f := 0) (by decide +kernel) f_RX11_10 rfl hx.o.1 hx.o.2 hx.r0 rfl <| z_getR (pc' := 7) (idx := 155) (ci := 0) (f := 0) (by decide +kernel) f_RX11_155 rfl hx.bk.o.1 hx.bk.o.2 hx.bk.r0 rfl <| z_iconst (pc' := 8) (n := 0) (by decide +kernel) rfl <| z_aaload120 (pc' := 9) (by decide +kernel) hx.bk.a0 ⟨by decide, by decide, by decide⟩ (hx.bk.e0 0 (by decide)) rfl <| z_astore_n (pc' := 10) (j := 1) (ls' := [some (.ref 0), some (.ref 3), none]) (by decide +kernel) (by decide) rfl rfl <| z_aload_n (pc' := 11) (j := 0) (by decide +kernel) rfl rfl <| z_callV (pc' := 14) (idx := 238) (mj := m_X11_freshNet) (av := []) (d' := 11) (by decide +kernel) rfl k_X11_freshNet l_RX11_238 rfl (by omega) (am_le rfl) rfl (am_le rfl) hx.o.1 hx.o.2 rfl h
set_option maxRecDepth 20000 in
theorem b_X11_isTrue_14 {G : Gx} {Q : Rv → Zm → Prop} {Z : Zm}   (hx : atAll Z) (h : (ZM G 11 m_X7_lengthOfChain [.ref 233, .ref 3] Z (zKc G 12 m_X11_isTrue 18 [some (.ref 0), none, none] [] Q))) : ZP G 12 m_X11_isTrue 14 [some (.ref 0), some (.ref 3), none] [.ref 233] Z Q := z_aload_n (pc' := 15) (j := 1) (by decide +kernel) rfl rfl <| z_callV (pc' := 18) (idx := 477) (mj := m_X7_lengthOfChain) (av := [.ref 3]) (d' := 11) (by decide +kernel) rfl k_X7_lengthOfChain l_RX11_477 rfl (by omega) (am_le rfl) rfl (am_le rfl) hx.nt.o.1 hx.nt.o.2 rfl (ZM.mono h (zKc_wk (wk_some (wk_none (wk_none wk_nil)))))
set_option maxRecDepth 20000 in
theorem b_X11_isTrue_18 {G : Gx} {Q : Rv → Zm → Prop} {Z : Zm}  {s0 : Int} (hx : atAll Z) (h : ((R32 s0) ∧ (R32 (zI Z 233 3)) ∧ (if s0 = (zI Z 233 3) then (ZP G 12 m_X11_isTrue 32 [some (.ref 0), none, some (iv 0)] [] Z Q) else (Q (.inl (some (iv 0))) Z)))) : ZP G 12 m_X11_isTrue 18 [some (.ref 0), none, none] [iv s0] Z Q := z_aload_n (pc' := 19) (j := 0) (by decide +kernel) rfl rfl <| z_getR (pc' := 22) (idx := 36) (ci := 11) (f := 4) (by decide +kernel) f_RX11_36 rfl hx.o.1 hx.o.2 hx.r4 rfl <| z_getI (pc' := 25) (idx := 248) (ci := 7) (f := 3) (by decide +kernel) f_RX11_248 rfl hx.nt.o.1 hx.nt.o.2 rfl <| h.elim fun c1 h => h.elim fun c2 h => z_icmp_eq (pc' := 28) (tgt := 30) (off := 5) (by decide +kernel) (by decide) rfl c1 c2 (am_ite h (fun h => z_iconst (pc' := 31) (n := 0) (by decide +kernel) rfl <| z_istore_n (pc' := 32) (j := 2) (ls' := [some (.ref 0), none, some (iv 0)]) (by decide +kernel) (by decide) rfl rfl <| h) (fun h => z_iconst (pc' := 29) (n := 0) (by decide +kernel) rfl <| z_ireturn (by decide +kernel) (am_rb (Or.inl rfl)) h))
set_option maxRecDepth 20000 in
theorem b_X11_isTrue_32 {G : Gx} {Q : Rv → Zm → Prop} {Z : Zm}  {v2 : Int} (hx : atAll Z) (h : ((R32 v2) ∧ (R32 (zI Z 1 3)) ∧ (if (zI Z 1 3) ≤ v2 then ((R32 (zI Z 256 0)) ∧ (if (zI Z 256 0) = 0 then (Q (.inl (some (iv 1))) Z) else (ZM G 11 m_X9_keepsNeeds [.ref 256, .ref 1] Z (zKc G 12 m_X11_isTrue 104 [some (.ref 0), none, none] [] Q)))) else ((zIx v2 20) ∧ (R32 (zI Z 240 v2.toNat)) ∧ (R32 ((zI Z 239 v2.toNat) + (zI Z (233 + 7) v2.toNat - zI Z (233 + 6) v2.toNat))) ∧ (if (zI Z 240 v2.toNat) = ((zI Z 239 v2.toNat) + (zI Z (233 + 7) v2.toNat - zI Z (233 + 6) v2.toNat)) then (ZP G 12 m_X11_isTrue 32 [some (.ref 0), none, some (iv (v2 + 1))] [] Z Q) else (Q (.inl (some (iv 0))) Z)))))) : ZP G 12 m_X11_isTrue 32 [some (.ref 0), none, some (iv v2)] [] Z Q := z_iload_n (pc' := 33) (j := 2) (by decide +kernel) rfl rfl <| z_aload_n (pc' := 34) (j := 0) (by decide +kernel) rfl rfl <| z_getR (pc' := 37) (idx := 10) (ci := 11) (f := 0) (by decide +kernel) f_RX11_10 rfl hx.o.1 hx.o.2 hx.r0 rfl <| z_getI (pc' := 40) (idx := 117) (ci := 0) (f := 3) (by decide +kernel) f_RX11_117 rfl hx.bk.o.1 hx.bk.o.2 rfl <| h.elim fun c1 h => h.elim fun c2 h => z_icmp_ge (pc' := 43) (tgt := 81) (off := 41) (by decide +kernel) (by decide) rfl c1 c2 (am_ite h (fun h => z_aload_n (pc' := 82) (j := 0) (by decide +kernel) rfl rfl <| z_getR (pc' := 85) (idx := 63) (ci := 11) (f := 11) (by decide +kernel) f_RX11_63 rfl hx.o.1 hx.o.2 hx.r11 rfl <| z_getI (pc' := 88) (idx := 348) (ci := 9) (f := 0) (by decide +kernel) f_RX11_348 rfl hx.pm.o.1 hx.pm.o.2 rfl <| h.elim fun c3 h => z_if_ne (pc' := 91) (tgt := 93) (off := 5) (by decide +kernel) (by decide) rfl c3 (am_ite h (fun h => z_iconst (pc' := 92) (n := 1) (by decide +kernel) rfl <| z_ireturn (by decide +kernel) (am_rb (Or.inr rfl)) h) (fun h => z_aload_n (pc' := 94) (j := 0) (by decide +kernel) rfl rfl <| z_getR (pc' := 97) (idx := 63) (ci := 11) (f := 11) (by decide +kernel) f_RX11_63 rfl hx.o.1 hx.o.2 hx.r11 rfl <| z_aload_n (pc' := 98) (j := 0) (by decide +kernel) rfl rfl <| z_getR (pc' := 101) (idx := 10) (ci := 11) (f := 0) (by decide +kernel) f_RX11_10 rfl hx.o.1 hx.o.2 hx.r0 rfl <| z_callV (pc' := 104) (idx := 480) (mj := m_X9_keepsNeeds) (av := [.ref 1]) (d' := 11) (by decide +kernel) rfl k_X9_keepsNeeds l_RX11_480 rfl (by omega) (am_le rfl) rfl (am_le rfl) hx.pm.o.1 hx.pm.o.2 rfl (ZM.mono h (zKc_wk (wk_some (wk_none (wk_none wk_nil)))))))) (fun h => z_aload_n (pc' := 44) (j := 0) (by decide +kernel) rfl rfl <| z_getR (pc' := 47) (idx := 36) (ci := 11) (f := 4) (by decide +kernel) f_RX11_36 rfl hx.o.1 hx.o.2 hx.r4 rfl <| z_getR (pc' := 50) (idx := 245) (ci := 7) (f := 10) (by decide +kernel) f_RX11_245 rfl hx.nt.o.1 hx.nt.o.2 hx.nt.r10 rfl <| z_iload_n (pc' := 51) (j := 2) (by decide +kernel) rfl rfl <| h.elim fun c4 h => z_iaload (pc' := 52) (by decide +kernel) hx.nt.a10 c4 rfl <| z_aload_n (pc' := 53) (j := 0) (by decide +kernel) rfl rfl <| z_getR (pc' := 56) (idx := 36) (ci := 11) (f := 4) (by decide +kernel) f_RX11_36 rfl hx.o.1 hx.o.2 hx.r4 rfl <| z_getR (pc' := 59) (idx := 242) (ci := 7) (f := 9) (by decide +kernel) f_RX11_242 rfl hx.nt.o.1 hx.nt.o.2 hx.nt.r9 rfl <| z_iload_n (pc' := 60) (j := 2) (by decide +kernel) rfl rfl <| z_iaload (pc' := 61) (by decide +kernel) hx.nt.a9 c4 rfl <| z_aload_n (pc' := 62) (j := 0) (by decide +kernel) rfl rfl <| z_getR (pc' := 65) (idx := 36) (ci := 11) (f := 4) (by decide +kernel) f_RX11_36 rfl hx.o.1 hx.o.2 hx.r4 rfl <| z_iload_n (pc' := 66) (j := 2) (by decide +kernel) rfl rfl <| z_callV (pc' := 69) (idx := 255) (mj := m_X7_slackOf) (av := [iv v2]) (d' := 0) (by decide +kernel) rfl k_X7_slackOf l_RX11_255 rfl (by omega) (am_le rfl) rfl (am_le rfl) hx.nt.o.1 hx.nt.o.2 rfl <| zKf (s_slackOf hx.nt c4) <| z_iadd (pc' := 70) (by decide +kernel) rfl <| h.elim fun c5 h => h.elim fun c6 h => z_icmp_eq (pc' := 73) (tgt := 75) (off := 5) (by decide +kernel) (by decide) rfl c5 c6 (am_ite h (fun h => z_iinc (pc' := 78) (j := 2) (n := 1) (x := v2) (ls' := [some (.ref 0), none, some (iv (v2 + 1))]) (by decide +kernel) rfl (by decide) rfl rfl <| z_goto (tgt := 32) (off := -46) (by decide +kernel) (by decide) <| h) (fun h => z_iconst (pc' := 74) (n := 0) (by decide +kernel) rfl <| z_ireturn (by decide +kernel) (am_rb (Or.inl rfl)) h))))
set_option maxRecDepth 20000 in
theorem b_X11_isTrue_104 {G : Gx} {Q : Rv → Zm → Prop} {Z : Zm}  {s0 : Int} (hx : atAll Z) (h : ((R32 s0) ∧ (if s0 = 0 then (Q (.inl (some (iv 0))) Z) else (ZM G 11 m_X9_keepsHandsApart [.ref 256, .ref 1] Z (zKc G 12 m_X11_isTrue 118 [some (.ref 0), none, none] [] Q))))) : ZP G 12 m_X11_isTrue 104 [some (.ref 0), none, none] [iv s0] Z Q := h.elim fun c1 h => z_if_eq (pc' := 107) (tgt := 121) (off := 17) (by decide +kernel) (by decide) rfl c1 (am_ite h (fun h => z_iconst (pc' := 122) (n := 0) (by decide +kernel) rfl <| z_ireturn (by decide +kernel) (am_rb (Or.inl rfl)) h) (fun h => z_aload_n (pc' := 108) (j := 0) (by decide +kernel) rfl rfl <| z_getR (pc' := 111) (idx := 63) (ci := 11) (f := 11) (by decide +kernel) f_RX11_63 rfl hx.o.1 hx.o.2 hx.r11 rfl <| z_aload_n (pc' := 112) (j := 0) (by decide +kernel) rfl rfl <| z_getR (pc' := 115) (idx := 10) (ci := 11) (f := 0) (by decide +kernel) f_RX11_10 rfl hx.o.1 hx.o.2 hx.r0 rfl <| z_callV (pc' := 118) (idx := 483) (mj := m_X9_keepsHandsApart) (av := [.ref 1]) (d' := 11) (by decide +kernel) rfl k_X9_keepsHandsApart l_RX11_483 rfl (by omega) (am_le rfl) rfl (am_le rfl) hx.pm.o.1 hx.pm.o.2 rfl h))
set_option maxRecDepth 20000 in
theorem b_X11_isTrue_118 {G : Gx} {Q : Rv → Zm → Prop} {Z : Zm}  {s0 : Int} (hx : atAll Z) (h : ((R32 s0) ∧ (if s0 = 0 then (Q (.inl (some (iv 0))) Z) else (ZM G 11 m_X11_isOfTheTheorem [.ref 0] Z (zKc G 12 m_X11_isTrue 127 [some (.ref 0), none, none] [] Q))))) : ZP G 12 m_X11_isTrue 118 [some (.ref 0), none, none] [iv s0] Z Q := h.elim fun c1 h => z_if_ne (pc' := 121) (tgt := 123) (off := 5) (by decide +kernel) (by decide) rfl c1 (am_ite h (fun h => z_iconst (pc' := 122) (n := 0) (by decide +kernel) rfl <| z_ireturn (by decide +kernel) (am_rb (Or.inl rfl)) h) (fun h => z_aload_n (pc' := 124) (j := 0) (by decide +kernel) rfl rfl <| z_callV (pc' := 127) (idx := 486) (mj := m_X11_isOfTheTheorem) (av := []) (d' := 11) (by decide +kernel) rfl k_X11_isOfTheTheorem l_RX11_486 rfl (by omega) (am_le rfl) rfl (am_le rfl) hx.o.1 hx.o.2 rfl h))
set_option maxRecDepth 20000 in
theorem b_X11_isTrue_127 {G : Gx} {Q : Rv → Zm → Prop} {Z : Zm}  {s0 : Int} (hx : atAll Z) (h : ((R32 s0) ∧ (if s0 = 0 then (Q (.inl (some (iv 1))) Z) else (ZM G 11 m_X9_doesProofHold [.ref 256, .ref 1] Z (zKc G 12 m_X11_isTrue 141 [some (.ref 0), none, none] [] Q))))) : ZP G 12 m_X11_isTrue 127 [some (.ref 0), none, none] [iv s0] Z Q := h.elim fun c1 h => z_if_eq (pc' := 130) (tgt := 151) (off := 24) (by decide +kernel) (by decide) rfl c1 (am_ite h (fun h => z_iconst (pc' := 152) (n := 1) (by decide +kernel) rfl <| z_goto (tgt := 156) (off := 4) (by decide +kernel) (by decide) <| z_ireturn (by decide +kernel) (am_rb (Or.inr rfl)) h) (fun h => z_aload_n (pc' := 131) (j := 0) (by decide +kernel) rfl rfl <| z_getR (pc' := 134) (idx := 63) (ci := 11) (f := 11) (by decide +kernel) f_RX11_63 rfl hx.o.1 hx.o.2 hx.r11 rfl <| z_aload_n (pc' := 135) (j := 0) (by decide +kernel) rfl rfl <| z_getR (pc' := 138) (idx := 10) (ci := 11) (f := 0) (by decide +kernel) f_RX11_10 rfl hx.o.1 hx.o.2 hx.r0 rfl <| z_callV (pc' := 141) (idx := 371) (mj := m_X9_doesProofHold) (av := [.ref 1]) (d' := 11) (by decide +kernel) rfl k_X9_doesProofHold l_RX11_371 rfl (by omega) (am_le rfl) rfl (am_le rfl) hx.pm.o.1 hx.pm.o.2 rfl h))
set_option maxRecDepth 20000 in
theorem b_X11_isTrue_141 {G : Gx} {Q : Rv → Zm → Prop} {Z : Zm}  {s0 : Int} (hx : atAll Z) (h : ((R32 s0) ∧ (if s0 = 0 then (Q (.inl (some (iv 0))) Z) else (ZM G 11 m_X11_isEndBounded [.ref 0] Z (zKc G 12 m_X11_isTrue 148 [none, none, none] [] Q))))) : ZP G 12 m_X11_isTrue 141 [some (.ref 0), none, none] [iv s0] Z Q := h.elim fun c1 h => z_if_eq (pc' := 144) (tgt := 155) (off := 14) (by decide +kernel) (by decide) rfl c1 (am_ite h (fun h => z_iconst (pc' := 156) (n := 0) (by decide +kernel) rfl <| z_ireturn (by decide +kernel) (am_rb (Or.inl rfl)) h) (fun h => z_aload_n (pc' := 145) (j := 0) (by decide +kernel) rfl rfl <| z_callV (pc' := 148) (idx := 489) (mj := m_X11_isEndBounded) (av := []) (d' := 11) (by decide +kernel) rfl k_X11_isEndBounded l_RX11_489 rfl (by omega) (am_le rfl) rfl (am_le rfl) hx.o.1 hx.o.2 rfl (ZM.mono h (zKc_wk (wk_none (wk_none (wk_none wk_nil)))))))
set_option maxRecDepth 20000 in
theorem b_X11_isTrue_148 {G : Gx} {Q : Rv → Zm → Prop} {Z : Zm}  {s0 : Int} (hx : atAll Z) (h : ((R32 s0) ∧ Q (.inl (some (iv (b2 (¬ (s0 = 0)))))) Z)) : ZP G 12 m_X11_isTrue 148 [none, none, none] [iv s0] Z Q := h.elim fun c1 h => am_use (fun k4 => z_if_eq (pc' := 151) (tgt := 155) (off := 7) (by decide +kernel) (by decide) rfl c1 (am_ite2 (fun q5 => z_iconst (pc' := 156) (n := 0) (by decide +kernel) rfl <| (am_jp (P := fun z9 => ZP G 12 m_X11_isTrue 156 [none, none, none] [iv z9] _ Q) (b2_n q5) k4)) (fun q5 => z_iconst (pc' := 152) (n := 1) (by decide +kernel) rfl <| z_goto (tgt := 156) (off := 4) (by decide +kernel) (by decide) <| (am_jp (P := fun z9 => ZP G 12 m_X11_isTrue 156 [none, none, none] [iv z9] _ Q) (b2_nn q5) k4)))) <| z_ireturn (by decide +kernel) (am_rb (b2_01 _)) h
set_option maxRecDepth 20000 in
theorem e_X12_isTrue {G : Gx} {Q : Rv → Zm → Prop} {Z : Zm} {m : Nat} {B : Nat} (hm : atModel Z m B) (h : (∀ Z1, Z1 = zSI Z m (zu (zI Z m) 19 0) → Q (.inl (some (iv 1))) Z1)) : ZM G 12 m_X12_isTrue [.ref m] Z Q := ZM.of [some (.ref m)] rfl <| z_aload_n (pc' := 1) (j := 0) (by decide +kernel) rfl rfl <| z_iconst (pc' := 2) (n := 0) (by decide +kernel) rfl <| z_putI (pc' := 5) (idx := 60) (ci := 12) (f := 19) (by decide +kernel) f_RX12_60 (am_nf rfl rfl) rfl rfl rfl hm.o.1 hm.o.2 rfl <| have h := h _ rfl; z_iconst (pc' := 6) (n := 1) (by decide +kernel) rfl <| z_ireturn (by decide +kernel) (am_rb (Or.inr rfl)) h
/-! ===== the theorem ===== -/
def tmQ (k : Bk) (p : Pl) : Prop := plF p = 1 ∧ (∀ t, t < kN k → kF k 1 t = 0) ∧ (∀ t, t < kN k → kF k 2 t = -1) ∧ ∀ j, j < kM k → kG k j = 0
def wk0s (k : Bk) (p : Pl) (x : Int) (t : Nat) : Prop := kF k 1 t = 0 ∧ wkAt k (plB p) t x
theorem busyN_ci (k : Bk) (p : Pl) (x : Int) : busyN k p 0 x (kN k) = zsum (fun t => ci (wk0s k p x t)) (kN k) := zsum_eq fun t _ => ci_b2 (by unfold wk0s wkAt; exact Iff.rfl)
theorem busy_full {k : Bk} {p : Pl} (hp : okPl k p) {x : Int} (h : ∀ h : Int, 0 ≤ h → h < plH p 0 → ∃ u, u < kN k ∧ kF k 1 u = 0 ∧ plW p u = h ∧ wkAt k (plB p) u x) : busyN k p 0 x (kN k) = plH p 0 := by
  obtain ⟨M, hM⟩ : ∃ M : Nat, plH p 0 = (M : Int) := ⟨(plH p 0).toNat, by have := (hp.h 0 (by decide)).1; omega⟩
  rw [hM] at h ⊢
  have one : ∀ t, t < kN k → zsum (fun i => ci (wk0s k p x t ∧ plW p t = (i : Int))) M = ci (wk0s k p x t) := fun t ht => by
    by_cases g : wk0s k p x t
    · have b := (hp.b ht).2
      rw [g.1] at b
      have b : 0 ≤ plW p t ∧ plW p t < plH p 0 := b
      rw [ci_p g]
      have l := zsum_ci_1 (Q := fun i : Nat => wk0s k p x t ∧ plW p t = (i : Int)) (n := M) fun i j _ _ q1 q2 => by
        have := q1.2
        have := q2.2
        omega
      have e := zsum_ci_e (Q := fun i : Nat => wk0s k p x t ∧ plW p t = (i : Int)) (n := M) (i := (plW p t).toNat) (by omega) ⟨g, by omega⟩
      omega
    · rw [ci_f g, zsum_eq (g := fun _ => 0) fun i _ => ci_f fun q => g q.1, zsum_0]
  rw [busyN_ci, zsum_eq (g := fun t => zsum (fun i => ci (wk0s k p x t ∧ plW p t = (i : Int))) M) fun t ht => (one t ht).symm, zsum_swap, zsum_eq (g := fun _ => 1) fun i hi => ?_, zsum_1]
  obtain ⟨u, u1, u2, u3, u4⟩ := h (i : Int) (by omega) (by omega)
  have e := zsum_ci_e (Q := fun t : Nat => wk0s k p x t ∧ plW p t = (i : Int)) (n := kN k) u1 ⟨⟨u2, u4⟩, u3⟩
  have l := zsum_ci_1 (Q := fun t : Nat => wk0s k p x t ∧ plW p t = (i : Int)) (n := kN k) fun s t hs ht q1 q2 => Classical.byContradiction fun ne => by
    have a := (hp.2.2.2.2.2.1 s t x hs ht ne q1.1.2 q2.1.2).1 (q1.1.1.trans q2.1.1.symm)
    exact a (q1.2.trans q2.2.symm)
  omega
theorem gr_pr {k : Bk} (ho : kOk k) {p : Pl} (hp : okPl k p) (hT : tmQ k p) {d g : Nat → Int} {q : Nat} (h : isPf k p d g q) {x : Int} (hx : 0 ≤ x ∧ x < plE p) : (∃ i, i < q ∧ cbI p d i ≤ x ∧ x < ceI k p d i) ∨ busyN k p 0 x (kN k) = plH p 0 := by
  by_cases c : ∃ i, i < q ∧ cbI p d i ≤ x ∧ x < ceI k p d i
  · exact Or.inl c
  right
  obtain ⟨l1, l2⟩ := chd_last ho hp h
  suffices key : ∀ m i, i + m + 1 = q → x < cbI p d i → busyN k p 0 x (kN k) = plH p 0 by
    by_cases q0 : q = 0
    · have := l1 q0
      omega
    · refine key (q - 1) 0 (by omega) (Int.not_le.mp fun g => c ⟨0, by omega, g, ?_⟩)
      rw [l2 (by omega)]
      exact hx.2
  have fin : ∀ i, i < q → x < cbI p d i → (∀ j, j < kM k → kL k j = (d i).toNat → lateB k (plB p) j ≤ x) → busyN k p 0 x (kN k) = plH p 0 := fun i hi hb hl => by
    obtain ⟨a1, a2, -⟩ := h.2.2.1 i hi
    have ht : (d i).toNat < kN k := by omega
    have s1 := hT.2.1 _ ht
    have s2 := hT.2.2.1 _ ht
    rcases hp.2.2.2.2.2.2 hT.1 _ x ht hx.1 hb hl with g | g
    · rw [s1] at g
      exact busy_full hp g
    · omega
  intro m
  induction m with
  | zero =>
    intro i hi hb
    refine fin i (by omega) hb fun j hj e => ?_
    obtain ⟨-, -, a3⟩ := h.2.2.1 i (by omega)
    have dq := h.2.2.2
    rcases a3 with ⟨-, -, g⟩ | ⟨j', -, -, g, -⟩
    · exact absurd e (g j hj)
    · rw [show i + 1 = q by omega, dq] at g
      omega
  | succ m ih =>
    intro i hi hb
    by_cases b : x < cbI p d (i + 1)
    · exact ih (i + 1) (by omega) b
    · have ce : ceI k p d (i + 1) ≤ x := Int.not_lt.mp fun g => c ⟨i + 1, by omega, by omega, g⟩
      refine fin i (by omega) hb fun j hj e => ?_
      obtain ⟨-, -, a3⟩ := h.2.2.1 i (by omega)
      have d1 := (h.2.2.1 (i + 1) (by omega)).1
      rcases a3 with ⟨g, -⟩ | ⟨j', j1, j2, j3, -, j4⟩
      · omega
      · have l := j4 j hj e
        have z := hT.2.2.2 j' j1
        have ec : ceI k p d (i + 1) = lateB k (plB p) j' := by
          unfold ceI lateB
          rw [j3, Int.toNat_natCast, z, Int.add_zero]
        omega
theorem gr_isPr {k : Bk} (ho : kOk k) {p : Pl} (hp : okPl k p) (hT : tmQ k p) (h : isPf k p (vPf k p).1 (vPf k p).2.1 (vPf k p).2.2) : isPr k p := fun x h0 h1 => by
  rcases gr_pr ho hp hT h ⟨h0, h1⟩ with ⟨i, i1, i2⟩ | g
  · exact Or.inl ⟨i, i1, Or.inl i2⟩
  · exact Or.inr g
theorem gr_bound {k : Bk} (ho : kOk k) {p : Pl} (hp : okPl k p) (hT : tmQ k p) {d g : Nat → Int} {q : Nat} (h : isPf k p d g q) : plE p * plH p 0 ≤ zsum (kF k 0) (kN k) + eEnd k * (plH p 0 - 1) := by
  have en := hp.e ho
  obtain ⟨E, hE⟩ : ∃ E : Nat, plE p = (E : Int) := ⟨(plE p).toNat, by omega⟩
  have H1 := (hp.h 0 (by decide)).1
  have dn : ∀ i, i < q → (d i).toNat < kN k := fun i hi => by have := h.2.2.1 i hi; omega
  -- hour by hour
  have hour : ∀ x : Nat, x < E → plH p 0 ≤ busyN k p 0 (x : Int) (kN k) + (plH p 0 - 1) * zsum (fun i => ci (cbI p d i ≤ (x : Int) ∧ (x : Int) < ceI k p d i)) q := fun x hx => by
    have s0 : 0 ≤ zsum (fun i => ci (cbI p d i ≤ (x : Int) ∧ (x : Int) < ceI k p d i)) q := zsum_nn fun i _ => (ci_r _).1
    rcases gr_pr ho hp hT h (x := (x : Int)) ⟨by omega, by omega⟩ with ⟨i, i1, i2⟩ | c
    · have s1 := zsum_ci_e (Q := fun i => cbI p d i ≤ (x : Int) ∧ (x : Int) < ceI k p d i) i1 i2
      have b1 : 1 ≤ busyN k p 0 (x : Int) (kN k) := by
        rw [busyN_ci]
        exact zsum_ci_e (Q := wk0s k p (x : Int)) (dn i i1) ⟨hT.2.1 _ (dn i i1), i2⟩
      have m := Int.mul_le_mul_of_nonneg_left s1 (show 0 ≤ plH p 0 - 1 by omega)
      rw [Int.mul_one] at m
      omega
    · have m := Int.mul_nonneg (show 0 ≤ plH p 0 - 1 by omega) s0
      omega
  have sum := zsum_le (f := fun _ => plH p 0) (g := fun x : Nat => busyN k p 0 (x : Int) (kN k) + (plH p 0 - 1) * zsum (fun i => ci (cbI p d i ≤ (x : Int) ∧ (x : Int) < ceI k p d i)) q) (n := E) fun x hx => hour x hx
  rw [zsum_add, zsum_mul] at sum
  have c0 : zsum (fun _ => plH p 0) E = plH p 0 * (E : Int) := by
    have := zsum_mul (plH p 0) (fun _ => 1) E
    rw [zsum_1] at this
    rw [← this]
    exact zsum_eq fun _ _ => (Int.mul_one _).symm
  have c1 : zsum (fun x : Nat => busyN k p 0 (x : Int) (kN k)) E = zsum (kF k 0) (kN k) := by
    rw [zsum_eq (g := fun x : Nat => zsum (fun t => ci (plB p t ≤ (x : Int) ∧ (x : Int) < plB p t + kF k 0 t)) (kN k)) fun x _ => by
      rw [busyN_ci]
      exact zsum_eq fun t ht => ci_iff ⟨fun q => q.2, fun q => ⟨hT.2.1 t ht, q⟩⟩, zsum_swap]
    refine zsum_eq fun t ht => ?_
    have b := (hp.b ht).1
    have l := ho.len ht
    have a := zmax_ge (f := fun t => plB p t + kF k 0 t) ht
    have a : plB p t + kF k 0 t ≤ zmax (fun t => plB p t + kF k 0 t) (kN k) := a
    rw [← hp.1] at a
    exact (zsum_iv2 (a := plB p t) (l := kF k 0 t) (E := E) b.1 (by omega)).2 (by omega)
  have c2 : zsum (fun x : Nat => zsum (fun i => ci (cbI p d i ≤ (x : Int) ∧ (x : Int) < ceI k p d i)) q) E ≤ zsum (fun i => kF k 0 (d i).toNat) q := by
    rw [zsum_swap]
    refine zsum_le fun i hi => ?_
    have b := (hp.b (dn i hi)).1
    have l := ho.len (dn i hi)
    exact (zsum_iv2 (a := plB p (d i).toNat) (l := kF k 0 (d i).toNat) (E := E) b.1 (by omega)).1
  have ok := eOk_all ho
  have c3 : zsum (fun i => kF k 0 (d i).toNat) q ≤ eEnd k := by
    by_cases q0 : q = 0
    · rw [q0]
      exact (ok.en ho).1
    have ind : ∀ m, m < q → zsum (fun i => kF k 0 (d i).toNat) m + (eE k (d m).toNat + kF k 0 (d m).toNat) ≤ eE k (d 0).toNat + kF k 0 (d 0).toNat := by
      intro m
      induction m with
      | zero =>
        intro _
        show 0 + _ ≤ _
        omega
      | succ m ih =>
        intro hm
        have a := ih (by omega)
        obtain ⟨-, -, a3⟩ := h.2.2.1 m (by omega)
        have d1 := (h.2.2.1 (m + 1) hm).1
        show zsum (fun i => kF k 0 (d i).toNat) m + kF k 0 (d m).toNat + (eE k (d (m + 1)).toNat + kF k 0 (d (m + 1)).toNat) ≤ _
        rcases a3 with ⟨g, -⟩ | ⟨j', j1, j2, j3, -, -⟩
        · omega
        · have b := (ok.1 _ (ho.l j1)).2.1 j' j1 rfl
          have gg := ho.g j1
          rw [j2] at b
          rw [j3, Int.toNat_natCast]
          omega
    have a := ind (q - 1) (by omega)
    have b := ok.e ho (dn (q - 1) (by omega))
    have s : zsum (fun i => kF k 0 (d i).toNat) q = zsum (fun i => kF k 0 (d i).toNat) (q - 1) + kF k 0 (d (q - 1)).toNat := by
      have := zsum_s (fun i => kF k 0 (d i).toNat) (q - 1)
      rw [show q - 1 + 1 = q by omega] at this
      exact this
    have z := zmax_ge (f := fun t => eE k t + kF k 0 t) (dn 0 (by omega))
    have z : eE k (d 0).toNat + kF k 0 (d 0).toNat ≤ eEnd k := z
    omega
  have m := Int.mul_le_mul_of_nonneg_left (Int.le_trans c2 c3) (show 0 ≤ plH p 0 - 1 by omega)
  rw [c0, c1] at sum
  rw [hE, Int.mul_comm (E : Int), Int.mul_comm (eEnd k)]
  omega
/-! ===== isTrue ===== -/
def o_isTrue (σ : St) : Ou := (0, 1, σ)
theorem d_isTrue {G : Gx} {Z : Zm} {B : Nat} {σ : St} (h : IMb Z B σ) : ZM G 12 m_X12_isTrue [.ref 300] Z (rM Z iv (o_isTrue σ)) := by
  refine e_X12_isTrue h.1 ?_
  rintro _ rfl
  exact rM.st h rfl rfl
theorem s_keepsNeeds {G : Gx} {Z : Zm} {σ : St} {p : Pl} (h : IC Z σ) (ho : okS σ) (hp : sP σ = some p) : ZM G 1 m_X9_keepsNeeds [.ref 256, .ref 1] Z (fun r W => r = .inl (some (iv 1)) ∧ W = Z) := by
  have hN := ho.1.n
  have hM := ho.1.m
  have ok := ho.p p hp
  obtain ⟨-, q1, q2, q3, q4, q5, -⟩ := h.pl.2 p hp
  have e4 : zI Z 1 4 = (kM (sK σ) : Int) := h.2.1.2.1
  refine e_X9_keepsNeeds h.1.pm h.1.bk ?_
  suffices key : ∀ j, j ≤ kM (sK σ) → ZP G 1 m_X9_keepsNeeds 2 [some (.ref 256), some (.ref 1), some (iv (j : Int)), none] [] Z (fun r W => r = .inl (some (iv 1)) ∧ W = Z) from key 0 (Nat.zero_le _)
  refine am_up (n := kM (sK σ)) fun j hj ih => ?_
  refine b_X9_keepsNeeds_2 h.1.pm h.1.bk ⟨by omega, by rw [e4]; omega, ?_⟩
  rw [e4]
  by_cases c : j < kM (sK σ)
  case neg =>
    rw [if_pos (by omega)]
    exact ⟨rfl, rfl⟩
  have le := ho.1.e c
  have ll := ho.1.l c
  have g := ho.1.g c
  obtain ⟨a1, a2, a3⟩ := h.2.1.2.2.2 j c
  have be := (ok.b le).1
  have bl := (ok.b ll).1
  have l := ho.1.len le
  have lt := ok.2.2.2.2.1 j c
  unfold lateB at lt
  rw [if_neg (by omega), Int.toNat_natCast, show zI Z (1 + 15) j = (kE (sK σ) j : Int) from a1, show zI Z (1 + 16) j = (kL (sK σ) j : Int) from a2, show zI Z (1 + 17) j = kG (sK σ) j from a3, Int.toNat_natCast, Int.toNat_natCast, show zI Z (256 + 3) (kL (sK σ) j) = plB p (kL (sK σ) j) from (q5 _ ll).1, show zI Z (256 + 4) (kE (sK σ) j) = plB p (kE (sK σ) j) + kF (sK σ) 0 (kE (sK σ) j) from (q5 _ le).2.1]
  refine ⟨zIx_nat (by omega) (by omega), zIx_nat (by omega) (by omega), zIx_nat (by omega) (by omega), by omega, by omega, ?_⟩
  rw [if_pos lt]
  exact ih c
theorem s_keepsHandsApart {G : Gx} {Z : Zm} {σ : St} {p : Pl} (h : IC Z σ) (ho : okS σ) (hp : sP σ = some p) : ZM G 1 m_X9_keepsHandsApart [.ref 256, .ref 1] Z (fun r W => r = .inl (some (iv 1)) ∧ W = Z) := by
  have hN := ho.1.n
  have ok := ho.p p hp
  obtain ⟨-, q1, q2, q3, q4, q5, -⟩ := h.pl.2 p hp
  have row : ∀ r t, r < 12 → t < kN (sK σ) → zI Z (1 + 2 + r) t = kF (sK σ) r t := h.2.1.2.2.1
  refine e_X9_keepsHandsApart h.1.pm h.1.bk ?_
  suffices key : ∀ j, j ≤ kN (sK σ) → ZP G 1 m_X9_keepsHandsApart 2 [some (.ref 256), some (.ref 1), some (iv (j : Int)), none] [] Z (fun r W => r = .inl (some (iv 1)) ∧ W = Z) from key 0 (Nat.zero_le _)
  refine am_up (n := kN (sK σ)) fun j hj ih => ?_
  refine b_X9_keepsHandsApart_2 h.1.pm h.1.bk ⟨by omega, by rw [q2]; omega, ?_⟩
  rw [q2]
  by_cases c : j < kN (sK σ)
  case neg =>
    rw [if_pos (by omega)]
    exact ⟨rfl, rfl⟩
  rw [if_neg (by omega)]
  suffices inner : ∀ i, i ≤ j → ZP G 1 m_X9_keepsHandsApart 12 [some (.ref 256), some (.ref 1), some (iv (j : Int)), some (iv (i : Int))] [] Z (fun r W => r = .inl (some (iv 1)) ∧ W = Z) from inner 0 (Nat.zero_le _)
  refine am_up (n := j) fun i hi ihi => ?_
  refine b_X9_keepsHandsApart_12 h.1.pm h.1.bk ⟨by omega, by omega, ?_⟩
  by_cases d : i < j
  case neg =>
    rw [if_pos (by omega)]
    exact ih c
  have bj := (ok.b c).1
  have bi := (ok.b (t := i) (by omega)).1
  have lj := ho.1.len c
  have li := ho.1.len (t := i) (by omega)
  obtain ⟨j1, j2, j3⟩ := q5 j c
  obtain ⟨i1, i2, i3⟩ := q5 i (by omega)
  rw [if_neg (by omega), Int.toNat_natCast, Int.toNat_natCast, show zI Z (256 + 3) j = plB p j from j1, show zI Z (256 + 4) i = plB p i + kF (sK σ) 0 i from i2, show zI Z (256 + 3) i = plB p i from i1, show zI Z (256 + 4) j = plB p j + kF (sK σ) 0 j from j2]
  refine ⟨zIx_nat (by omega) (by omega), zIx_nat (by omega) (by omega), by omega, by omega, ?_⟩
  by_cases c1 : plB p i + kF (sK σ) 0 i ≤ plB p j
  · rw [if_pos c1]
    exact ihi d
  rw [if_neg c1]
  refine ⟨by omega, by omega, ?_⟩
  by_cases c2 : plB p j + kF (sK σ) 0 j ≤ plB p i
  · rw [if_pos c2]
    exact ihi d
  rw [if_neg c2]
  -- both work at once
  have ap := ok.2.2.2.2.2.1 j i (max (plB p j) (plB p i)) c (by omega) (by omega) (by unfold wkAt; omega) (by unfold wkAt; omega)
  have f2j := (ho.1.2.1 j c).2.2.1
  have f2i := (ho.1.2.1 i (by omega)).2.2.1
  have f1j := (ho.1.2.1 j c).2.1
  have f1i := (ho.1.2.1 i (by omega)).2.1
  have wj := (ok.b c).2
  have wi := (ok.b (t := i) (by omega)).2
  have hj2 := ok.h (kF (sK σ) 1 j).toNat (by omega)
  have hi2 := ok.h (kF (sK σ) 1 i).toNat (by omega)
  have nx := ihi d
  have sh : ∀ s : Int, s = 0 → ZP G 1 m_X9_keepsHandsApart 54 [some (.ref 256), some (.ref 1), some (iv (j : Int)), some (iv (i : Int))] [iv s] Z (fun r W => r = .inl (some (iv 1)) ∧ W = Z) := fun s e => by
    refine b_X9_keepsHandsApart_54 h.1.pm h.1.bk ⟨by omega, ?_⟩
    rw [if_pos e]
    exact nx
  have no : ¬ (kF (sK σ) 1 j = kF (sK σ) 1 i ∧ plW p j = plW p i) := fun q => ap.1 q.1 q.2
  refine e_X9_isShared h.1.pm h.1.bk ⟨zIx_nat (by omega) (by omega), ?_⟩
  rw [Int.toNat_natCast, Int.toNat_natCast, show zI Z (1 + 4) j = kF (sK σ) 2 j from row 2 j (by decide) c, show zI Z (1 + 4) i = kF (sK σ) 2 i from row 2 i (by decide) (by omega), show zI Z (1 + 3) j = kF (sK σ) 1 j from row 1 j (by decide) c, show zI Z (1 + 3) i = kF (sK σ) 1 i from row 1 i (by decide) (by omega), show zI Z (256 + 5) j = plW p j from j3, show zI Z (256 + 5) i = plW p i from i3]
  refine ⟨by omega, ?_⟩
  by_cases m : kF (sK σ) 2 j < 0
  · rw [if_pos m]
    exact ⟨zIx_nat (by omega) (by omega), by omega, by omega, fun _ => ⟨by omega, by omega, trivial⟩, sh _ (b2_f no)⟩
  · rw [if_neg m]
    refine ⟨zIx_nat (by omega) (by omega), by omega, ?_⟩
    rw [if_neg (ap.2 (by omega))]
    exact ⟨by omega, by omega, fun _ => ⟨by omega, by omega, trivial⟩, sh _ (b2_f no)⟩
theorem s_isOfTheTheorem {G : Gx} {Z : Zm} {σ : St} {p : Pl} (h : IC Z σ) (ho : okS σ) (hp : sP σ = some p) : ZM G 1 m_X11_isOfTheTheorem [.ref 0] Z (fun r W => (∃ x, r = .inl (some (iv x)) ∧ (x = 0 ∨ x = 1) ∧ (x = 1 → tmQ (sK σ) p)) ∧ W = Z) := by
  have hN := ho.1.n
  have ok := ho.p p hp
  obtain ⟨-, q1, q2, q3, q4, q5, -⟩ := h.pl.2 p hp
  have e3 : zI Z 1 3 = (kN (sK σ) : Int) := h.2.1.1
  have e1 : zI Z 256 1 = plF p := q1
  have fr := ok.2.1
  have cnt : ∀ r y, zsum (fun t => if kF (sK σ) r t = y then 1 else 0) (kN (sK σ)) = (kN (sK σ) : Int) → ∀ t, t < kN (sK σ) → kF (sK σ) r t = y := fun r y e t ht => Classical.byContradiction fun g => by
    have a := zsum_lt (f := fun t => if kF (sK σ) r t = y then 1 else 0) (g := fun _ => (1 : Int)) (n := kN (sK σ)) (i := t) (fun i _ => by show (if kF (sK σ) r i = y then (1 : Int) else 0) ≤ 1; split <;> decide) ht (by show (if kF (sK σ) r t = y then (1 : Int) else 0) < 1; rw [if_neg g]; decide)
    rw [zsum_1] at a
    omega
  have cr : ∀ r y, 0 ≤ zsum (fun t => if kF (sK σ) r t = y then 1 else 0) (kN (sK σ)) ∧ zsum (fun t => if kF (sK σ) r t = y then 1 else 0) (kN (sK σ)) ≤ 20 := fun r y => by
    have := zsum_bound (f := fun t => if kF (sK σ) r t = y then 1 else 0) (n := kN (sK σ)) (a := 0) (b := 1) fun i _ => by split <;> decide
    omega
  have no : ∀ c : Prop, (∃ x, Sum.inl (some (iv 0)) = (Sum.inl (some (iv x)) : Rv) ∧ (x = 0 ∨ x = 1) ∧ (x = 1 → tmQ (sK σ) p)) := fun _ => ⟨0, rfl, Or.inl rfl, fun q => absurd q (by decide)⟩
  refine e_X11_isOfTheTheorem h.1 ⟨by rw [e1]; omega, ?_⟩
  rw [e1]
  by_cases c0 : plF p = 0
  · rw [if_pos c0]
    exact ⟨no True, rfl⟩
  rw [if_neg c0]
  refine (s_countWith h.1.bk h.2.1 ho.1 (r := 1) (y := 0) (by decide) (by decide)).mono ?_
  rintro r W ⟨rfl, hW⟩
  obtain rfl := hW.symm
  have r1 := cr 1 0
  refine b_X11_isOfTheTheorem_19 h.1 ⟨by omega, by rw [e3]; omega, ?_⟩
  rw [e3]
  by_cases c1 : zsum (fun t => if kF (sK σ) 1 t = 0 then 1 else 0) (kN (sK σ)) = (kN (sK σ) : Int)
  case neg =>
    rw [if_neg c1]
    exact ⟨no True, rfl⟩
  rw [if_pos c1]
  refine (s_countWith h.1.bk h.2.1 ho.1 (r := 2) (y := -1) (by decide) (by decide)).mono ?_
  rintro r W ⟨rfl, hW⟩
  obtain rfl := hW.symm
  have r2 := cr 2 (-1)
  refine b_X11_isOfTheTheorem_38 h.1 ⟨by omega, by rw [e3]; omega, ?_⟩
  rw [e3]
  by_cases c2 : zsum (fun t => if kF (sK σ) 2 t = -1 then 1 else 0) (kN (sK σ)) = (kN (sK σ) : Int)
  case neg =>
    rw [if_neg c2]
    exact ⟨no True, rfl⟩
  rw [if_pos c2]
  refine (s_hasNoLags h.1.bk h.2.1 ho.1).mono ?_
  rintro r W ⟨(⟨rfl, g⟩ | ⟨rfl, g⟩), hW⟩
  · obtain rfl := hW.symm
    refine b_X11_isOfTheTheorem_55 h.1 ⟨by decide, ⟨1, rfl, Or.inr rfl, fun _ => ⟨fr.resolve_left c0, cnt 1 0 c1, cnt 2 (-1) c2, g⟩⟩, rfl⟩
  · obtain rfl := hW.symm
    refine b_X11_isOfTheTheorem_55 h.1 ⟨by decide, ⟨0, rfl, Or.inl rfl, fun q => absurd q (by decide)⟩, rfl⟩
theorem c_isTrue {G : Gx} {Z : Zm} {σ : St} (h : IC Z σ) (ho : okS σ) : ZM G 12 m_X11_isTrue [.ref 0] Z (rC Z (E3 "" "" "") iv (o_isTrue σ)) := by
  have hN := ho.1.n
  have ok := eOk_all ho.1
  have en := ok.en ho.1
  refine e_X11_isTrue h.1 (((s_freshNet h ho.1).deeper (by omega)).mono ?_)
  rintro r V ⟨rfl, f, cn⟩
  obtain ⟨h1, f1⟩ := h.nt f cn
  refine b_X11_isTrue_14 h1.1 (((s_lengthOfChain (u := 3) h1.1.nt (h1.1.bk.x0 0 (by decide)) cn ho.1 (fun t ht => h1.2.1.len t ht) (by decide)).deeper (by omega)).mono ?_)
  rintro r W ⟨rfl, f2⟩
  have cn2 : cN W 233 (sK σ) := cn.frame h1.1.nt f2 fun a g1 g2 q => by unfold zB at q; omega
  have h2 : IC W σ := h1.fr f2 (fun a q => by unfold zB at q; unfold scr; omega) (Or.inr cn2)
  have ff := f1.trans (f2.mono (T := cF) (fun a q => by unfold zB at q; show a < 300; omega) (Nat.le_refl _) (Nat.le_refl _))
  have ec := cn2.e ho.1
  have eEn : zI W 233 3 = eEnd (sK σ) := ec.2.1
  refine b_X11_isTrue_18 h2.1 ⟨by omega, by rw [eEn]; omega, ?_⟩
  rw [eEn, if_pos rfl]
  have yes : rC Z (E3 "" "" "") iv (o_isTrue σ) (.inl (some (iv 1))) W := rC.ok h2 ff.c1 rfl
  have e3 : zI W 1 3 = (kN (sK σ) : Int) := h2.2.1.1
  suffices key : ∀ j, j ≤ kN (sK σ) → ZP G 12 m_X11_isTrue 32 [some (.ref 0), none, some (iv (j : Int))] [] W (rC Z (E3 "" "" "") iv (o_isTrue σ)) from key 0 (Nat.zero_le _)
  refine am_up (n := kN (sK σ)) fun j hj ih => ?_
  refine b_X11_isTrue_32 h2.1 ⟨by omega, by rw [e3]; omega, ?_⟩
  rw [e3]
  by_cases c : j < kN (sK σ)
  · have a := ok.e ho.1 c
    have b := ok.el ho.1 c
    have l := ho.1.len c
    rw [if_neg (by omega), Int.toNat_natCast, ec.2.2.1 j c, ec.1 j c]
    refine ⟨zIx_nat (by omega) (by omega), by omega, by omega, ?_⟩
    rw [if_pos (by omega)]
    exact ih c
  rw [if_pos (by omega)]
  clear ih hj c j
  cases hp : sP σ with
  | none =>
    have z := h2.pl.1 hp
    rw [z]
    refine ⟨by decide, ?_⟩
    rw [if_pos rfl]
    exact yes
  | some p =>
    obtain ⟨q0, q1, q2, q3, q4, q5, -⟩ := h2.pl.2 p hp
    have okp := ho.p p hp
    have pen := okp.e ho.1
    have ph := okp.h 0 (by decide)
    rw [q0]
    refine ⟨by decide, ?_⟩
    rw [if_neg (by decide)]
    refine ((s_keepsNeeds h2 ho hp).deeper (by omega)).mono ?_
    rintro r X ⟨rfl, hX⟩
    obtain rfl := hX.symm
    refine b_X11_isTrue_104 h2.1 ⟨by decide, ?_⟩
    rw [if_neg (by decide)]
    refine ((s_keepsHandsApart h2 ho hp).deeper (by omega)).mono ?_
    rintro r X ⟨rfl, hX⟩
    obtain rfl := hX.symm
    refine b_X11_isTrue_118 h2.1 ⟨by decide, ?_⟩
    rw [if_neg (by decide)]
    refine ((s_isOfTheTheorem h2 ho hp).deeper (by omega)).mono ?_
    rintro r X ⟨⟨x, rfl, xr, hx⟩, hX⟩
    obtain rfl := hX.symm
    refine b_X11_isTrue_127 h2.1 ⟨by omega, ?_⟩
    by_cases x0 : x = 0
    · rw [if_pos x0]
      exact yes
    rw [if_neg x0]
    have hT := hx (xr.resolve_left x0)
    obtain ⟨pf, -⟩ := h2.pf ho hp
    have pr := gr_isPr ho.1 okp hT pf
    have bd := gr_bound ho.1 okp hT pf
    refine ((s_doesProofHold h2 ho hp).deeper (by omega)).mono ?_
    rintro r X ⟨⟨s, rfl, hs⟩, hX⟩
    obtain rfl := hX.symm
    have s1 : s = 1 := by
      rcases hs with q | q
      · exact q.1
      · exact absurd pr q.2
    rw [s1]
    refine b_X11_isTrue_141 h2.1 ⟨by decide, ?_⟩
    rw [if_neg (by decide)]
    refine (ZM.deeper (d := 1) ?_ (by omega))
    refine e_X11_isEndBounded h2.1 ?_
    rw [q3, q4 0 (by decide)]
    refine (s_sumOfLengths h2.1.bk h2.2.1 ho.1).mono ?_
    rintro r X ⟨rfl, hX⟩
    obtain rfl := hX.symm
    have sl := zsum_bound (f := kF (sK σ) 0) (n := kN (sK σ)) (a := 1) (b := 60) fun i hi => ho.1.len hi
    have m1 := mul_b (a := plE p) (b := plH p 0) (A := 5060) (B := 5) (by omega) (by omega)
    have m2 := mul_b (a := eEnd (sK σ)) (b := plH p 0 - 1) (A := 1770) (B := 4) (by omega) (by omega)
    refine b_X11_isEndBounded_26 h2.1 ?_
    rw [eEn]
    refine ⟨by omega, by omega, ?_⟩
    rw [b2_p (show ¬ (zsum (kF (sK σ) 0) (kN (sK σ)) + eEnd (sK σ) * (plH p 0 - 1) < plE p * plH p 0) by omega)]
    refine b_X11_isTrue_148 h2.1 ⟨by decide, ?_⟩
    rw [b2_p (by decide)]
    exact yes
