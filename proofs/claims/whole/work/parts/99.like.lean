set_option maxRecDepth 20000 in
theorem e_X5_countAt {G : Gx} {Q : Rv → Zm → Prop} {Z : Zm} {s : Nat} {b : Nat} {n : Nat} {x : Int} (hs : atLike Z s b n) (hb : atBook Z b) (hn : atNet Z n) (h : (ZP G 0 m_X5_countAt 4 [some (.ref s), some (iv x), some (iv 0), some (iv 0)] [] Z Q)) : ZM G 0 m_X5_countAt [.ref s, iv x] Z Q := ZM.of [some (.ref s), some (iv x), none, none] rfl <| z_iconst (pc' := 1) (n := 0) (by decide +kernel) rfl <| z_istore_n (pc' := 2) (j := 2) (ls' := [some (.ref s), some (iv x), some (iv 0), none]) (by decide +kernel) (by decide) rfl rfl <| z_iconst (pc' := 3) (n := 0) (by decide +kernel) rfl <| z_istore_n (pc' := 4) (j := 3) (ls' := [some (.ref s), some (iv x), some (iv 0), some (iv 0)]) (by decide +kernel) (by decide) rfl rfl <| h
set_option maxRecDepth 20000 in
theorem b_X5_countAt_4 {G : Gx} {Q : Rv → Zm → Prop} {Z : Zm} {s : Nat} {b : Nat} {n : Nat} {x : Int} {v2 : Int} {v3 : Int} (hs : atLike Z s b n) (hb : atBook Z b) (hn : atNet Z n) (h : ((R32 v3) ∧ (R32 (zI Z n 1)) ∧ (if (zI Z n 1) ≤ v3 then (Q (.inl (some (iv v2))) Z) else ((zIx v3 20) ∧ (R32 (zI Z (s + 1) v3.toNat)) ∧ (R32 x) ∧ ZP G 0 m_X5_countAt 4 [some (.ref s), some (iv x), some (iv (if (zI Z (s + 1) v3.toNat) ≤ x then v2 else v2 + 1)), some (iv (v3 + 1))] [] Z Q)))) : ZP G 0 m_X5_countAt 4 [some (.ref s), some (iv x), some (iv v2), some (iv v3)] [] Z Q := z_iload_n (pc' := 5) (j := 3) (by decide +kernel) rfl rfl <| z_aload_n (pc' := 6) (j := 0) (by decide +kernel) rfl rfl <| z_getR (pc' := 9) (idx := 19) (ci := 5) (f := 1) (by decide +kernel) f_RX5_19 rfl hs.o.1 hs.o.2 hs.r1 rfl <| z_getI (pc' := 12) (idx := 67) (ci := 7) (f := 1) (by decide +kernel) f_RX5_67 rfl hn.o.1 hn.o.2 rfl <| h.elim fun c1 h => h.elim fun c2 h => z_icmp_ge (pc' := 15) (tgt := 34) (off := 22) (by decide +kernel) (by decide) rfl c1 c2 (am_ite h (fun h => z_iload_n (pc' := 35) (j := 2) (by decide +kernel) rfl rfl <| z_ireturn (by decide +kernel) ⟨_, rfl, rfl⟩ h) (fun h => z_aload_n (pc' := 16) (j := 0) (by decide +kernel) rfl rfl <| z_getR (pc' := 19) (idx := 9) (ci := 5) (f := 2) (by decide +kernel) f_RX5_9 rfl hs.o.1 hs.o.2 hs.r2 rfl <| z_iload_n (pc' := 20) (j := 3) (by decide +kernel) rfl rfl <| h.elim fun c10 h => z_iaload (pc' := 21) (by decide +kernel) hs.a2 c10 rfl <| z_iload_n (pc' := 22) (j := 1) (by decide +kernel) rfl rfl <| h.elim fun c11 h => h.elim fun c12 h => am_use (fun k15 => z_icmp_le (pc' := 25) (tgt := 28) (off := 6) (by decide +kernel) (by decide) rfl c11 c12 (am_ite2 (fun q16 => (am_jp (P := fun z9 => ZP G 0 m_X5_countAt 28 [some (.ref s), some (iv x), some (iv z9), some (iv v3)] [] _ Q) (if_pos q16) k15)) (fun q16 => z_iinc (pc' := 28) (j := 2) (n := 1) (x := v2) (ls' := [some (.ref s), some (iv x), some (iv (v2 + 1)), some (iv v3)]) (by decide +kernel) rfl (by decide) rfl rfl <| (am_jp (P := fun z9 => ZP G 0 m_X5_countAt 28 [some (.ref s), some (iv x), some (iv z9), some (iv v3)] [] _ Q) (if_neg q16) k15)))) <| z_iinc (pc' := 31) (j := 3) (n := 1) (x := v3) (ls' := [some (.ref s), some (iv x), some (iv (if (zI Z (s + 1) v3.toNat) ≤ x then v2 else v2 + 1)), some (iv (v3 + 1))]) (by decide +kernel) rfl (by decide) rfl rfl <| z_goto (tgt := 4) (off := -27) (by decide +kernel) (by decide) <| h))
set_option maxRecDepth 20000 in
theorem e_X5_nextEnd {G : Gx} {Q : Rv → Zm → Prop} {Z : Zm} {s : Nat} {b : Nat} {n : Nat} {x : Int} (hs : atLike Z s b n) (hb : atBook Z b) (hn : atNet Z n) (h : (ZP G 1 m_X5_nextEnd 5 [some (.ref s), some (iv x), some (iv 2147483647), some (iv 0)] [] Z Q)) : ZM G 1 m_X5_nextEnd [.ref s, iv x] Z Q := ZM.of [some (.ref s), some (iv x), none, none] rfl <| z_ldc (pc' := 2) (idx := 80) (w := 2147483647) (v := 2147483647) (by decide +kernel) (amM6 195 rfl (by decide +kernel)) (by decide) rfl <| z_istore_n (pc' := 3) (j := 2) (ls' := [some (.ref s), some (iv x), some (iv 2147483647), none]) (by decide +kernel) (by decide) rfl rfl <| z_iconst (pc' := 4) (n := 0) (by decide +kernel) rfl <| z_istore_n (pc' := 5) (j := 3) (ls' := [some (.ref s), some (iv x), some (iv 2147483647), some (iv 0)]) (by decide +kernel) (by decide) rfl rfl <| h
set_option maxRecDepth 20000 in
theorem b_X5_nextEnd_5 {G : Gx} {Q : Rv → Zm → Prop} {Z : Zm} {s : Nat} {b : Nat} {n : Nat} {x : Int} {v2 : Int} {v3 : Int} (hs : atLike Z s b n) (hb : atBook Z b) (hn : atNet Z n) (h : ((R32 v3) ∧ (R32 (zI Z n 1)) ∧ (if (zI Z n 1) ≤ v3 then (Q (.inl (some (iv v2))) Z) else ((zIx v3 20) ∧ (R32 (zI Z (s + 1) v3.toNat)) ∧ (R32 x) ∧ (¬ ((zI Z (s + 1) v3.toNat) ≤ x) → (R32 v2) ∧ True) ∧ ZP G 1 m_X5_nextEnd 5 [some (.ref s), some (iv x), some (iv (if (zI Z (s + 1) v3.toNat) ≤ x then v2 else min v2 (zI Z (s + 1) v3.toNat))), some (iv (v3 + 1))] [] Z Q)))) : ZP G 1 m_X5_nextEnd 5 [some (.ref s), some (iv x), some (iv v2), some (iv v3)] [] Z Q := z_iload_n (pc' := 6) (j := 3) (by decide +kernel) rfl rfl <| z_aload_n (pc' := 7) (j := 0) (by decide +kernel) rfl rfl <| z_getR (pc' := 10) (idx := 19) (ci := 5) (f := 1) (by decide +kernel) f_RX5_19 rfl hs.o.1 hs.o.2 hs.r1 rfl <| z_getI (pc' := 13) (idx := 67) (ci := 7) (f := 1) (by decide +kernel) f_RX5_67 rfl hn.o.1 hn.o.2 rfl <| h.elim fun c1 h => h.elim fun c2 h => z_icmp_ge (pc' := 16) (tgt := 43) (off := 30) (by decide +kernel) (by decide) rfl c1 c2 (am_ite h (fun h => z_iload_n (pc' := 44) (j := 2) (by decide +kernel) rfl rfl <| z_ireturn (by decide +kernel) ⟨_, rfl, rfl⟩ h) (fun h => z_aload_n (pc' := 17) (j := 0) (by decide +kernel) rfl rfl <| z_getR (pc' := 20) (idx := 9) (ci := 5) (f := 2) (by decide +kernel) f_RX5_9 rfl hs.o.1 hs.o.2 hs.r2 rfl <| z_iload_n (pc' := 21) (j := 3) (by decide +kernel) rfl rfl <| h.elim fun c11 h => z_iaload (pc' := 22) (by decide +kernel) hs.a2 c11 rfl <| z_iload_n (pc' := 23) (j := 1) (by decide +kernel) rfl rfl <| h.elim fun c12 h => h.elim fun c13 h => h.elim fun g16 h => am_use (fun k17 => z_icmp_le (pc' := 26) (tgt := 37) (off := 14) (by decide +kernel) (by decide) rfl c12 c13 (am_ite2 (fun q18 => (am_jp (P := fun z9 => ZP G 1 m_X5_nextEnd 37 [some (.ref s), some (iv x), some (iv z9), some (iv v3)] [] _ Q) (if_pos q18) k17)) (fun q18 => have h := g16 q18; z_iload_n (pc' := 27) (j := 2) (by decide +kernel) rfl rfl <| z_aload_n (pc' := 28) (j := 0) (by decide +kernel) rfl rfl <| z_getR (pc' := 31) (idx := 9) (ci := 5) (f := 2) (by decide +kernel) f_RX5_9 rfl hs.o.1 hs.o.2 hs.r2 rfl <| z_iload_n (pc' := 32) (j := 3) (by decide +kernel) rfl rfl <| z_iaload (pc' := 33) (by decide +kernel) hs.a2 c11 rfl <| h.elim fun c14 h => z_min (pc' := 36) (idx := 71) (by decide +kernel) (amM6 190 rfl (by decide +kernel)) (amM3 35 rfl (by decide +kernel)) (amM1 21 rfl (by decide +kernel)) (amM3 36 rfl (by decide +kernel)) (by omega) (am_le rfl) c14 c12 rfl <| z_istore_n (pc' := 37) (j := 2) (ls' := [some (.ref s), some (iv x), some (iv (min v2 (zI Z (s + 1) v3.toNat))), some (iv v3)]) (by decide +kernel) (by decide) rfl rfl <| (am_jp (P := fun z9 => ZP G 1 m_X5_nextEnd 37 [some (.ref s), some (iv x), some (iv z9), some (iv v3)] [] _ Q) (if_neg q18) k17)))) <| z_iinc (pc' := 40) (j := 3) (n := 1) (x := v3) (ls' := [some (.ref s), some (iv x), some (iv (if (zI Z (s + 1) v3.toNat) ≤ x then v2 else min v2 (zI Z (s + 1) v3.toNat))), some (iv (v3 + 1))]) (by decide +kernel) rfl (by decide) rfl rfl <| z_goto (tgt := 5) (off := -35) (by decide +kernel) (by decide) <| h))
set_option maxRecDepth 20000 in
theorem e_X5_lastOfEnds {G : Gx} {Q : Rv → Zm → Prop} {Z : Zm} {s : Nat} {b : Nat} {n : Nat} (hs : atLike Z s b n) (hb : atBook Z b) (hn : atNet Z n) (h : (ZP G 1 m_X5_lastOfEnds 4 [some (.ref s), some (iv 0), some (iv 0)] [] Z Q)) : ZM G 1 m_X5_lastOfEnds [.ref s] Z Q := ZM.of [some (.ref s), none, none] rfl <| z_iconst (pc' := 1) (n := 0) (by decide +kernel) rfl <| z_istore_n (pc' := 2) (j := 1) (ls' := [some (.ref s), some (iv 0), none]) (by decide +kernel) (by decide) rfl rfl <| z_iconst (pc' := 3) (n := 0) (by decide +kernel) rfl <| z_istore_n (pc' := 4) (j := 2) (ls' := [some (.ref s), some (iv 0), some (iv 0)]) (by decide +kernel) (by decide) rfl rfl <| h
set_option maxRecDepth 20000 in
theorem b_X5_lastOfEnds_4 {G : Gx} {Q : Rv → Zm → Prop} {Z : Zm} {s : Nat} {b : Nat} {n : Nat} {v1 : Int} {v2 : Int} (hs : atLike Z s b n) (hb : atBook Z b) (hn : atNet Z n) (h : ((R32 v2) ∧ (R32 (zI Z n 1)) ∧ (if (zI Z n 1) ≤ v2 then (Q (.inl (some (iv v1))) Z) else ((zIx v2 20) ∧ (R32 v1) ∧ (R32 (zI Z (s + 1) v2.toNat)) ∧ ZP G 1 m_X5_lastOfEnds 4 [some (.ref s), some (iv (max v1 (zI Z (s + 1) v2.toNat))), some (iv (v2 + 1))] [] Z Q)))) : ZP G 1 m_X5_lastOfEnds 4 [some (.ref s), some (iv v1), some (iv v2)] [] Z Q := z_iload_n (pc' := 5) (j := 2) (by decide +kernel) rfl rfl <| z_aload_n (pc' := 6) (j := 0) (by decide +kernel) rfl rfl <| z_getR (pc' := 9) (idx := 19) (ci := 5) (f := 1) (by decide +kernel) f_RX5_19 rfl hs.o.1 hs.o.2 hs.r1 rfl <| z_getI (pc' := 12) (idx := 67) (ci := 7) (f := 1) (by decide +kernel) f_RX5_67 rfl hn.o.1 hn.o.2 rfl <| h.elim fun c1 h => h.elim fun c2 h => z_icmp_ge (pc' := 15) (tgt := 32) (off := 20) (by decide +kernel) (by decide) rfl c1 c2 (am_ite h (fun h => z_iload_n (pc' := 33) (j := 1) (by decide +kernel) rfl rfl <| z_ireturn (by decide +kernel) ⟨_, rfl, rfl⟩ h) (fun h => z_iload_n (pc' := 16) (j := 1) (by decide +kernel) rfl rfl <| z_aload_n (pc' := 17) (j := 0) (by decide +kernel) rfl rfl <| z_getR (pc' := 20) (idx := 9) (ci := 5) (f := 2) (by decide +kernel) f_RX5_9 rfl hs.o.1 hs.o.2 hs.r2 rfl <| z_iload_n (pc' := 21) (j := 2) (by decide +kernel) rfl rfl <| h.elim fun c6 h => z_iaload (pc' := 22) (by decide +kernel) hs.a2 c6 rfl <| h.elim fun c7 h => h.elim fun c8 h => z_max (pc' := 25) (idx := 23) (by decide +kernel) (amM6 180 rfl (by decide +kernel)) (amM3 108 rfl (by decide +kernel)) (amM1 21 rfl (by decide +kernel)) (amM3 109 rfl (by decide +kernel)) (by omega) (am_le rfl) c7 c8 rfl <| z_istore_n (pc' := 26) (j := 1) (ls' := [some (.ref s), some (iv (max v1 (zI Z (s + 1) v2.toNat))), some (iv v2)]) (by decide +kernel) (by decide) rfl rfl <| z_iinc (pc' := 29) (j := 2) (n := 1) (x := v2) (ls' := [some (.ref s), some (iv (max v1 (zI Z (s + 1) v2.toNat))), some (iv (v2 + 1))]) (by decide +kernel) rfl (by decide) rfl rfl <| z_goto (tgt := 4) (off := -25) (by decide +kernel) (by decide) <| h))
set_option maxRecDepth 20000 in
theorem e_X5_beginOf {G : Gx} {Q : Rv → Zm → Prop} {Z : Zm} {s : Nat} {b : Nat} {n : Nat} {t : Int} {x : Int} (hs : atLike Z s b n) (hb : atBook Z b) (hn : atNet Z n) (h : ((zIx t 20) ∧ (R32 (zI Z (s + 1) t.toNat)) ∧ (if (zI Z (s + 1) t.toNat) = (-1) then (ZP G 2 m_X5_beginOf 17 [some (.ref s), some (iv t), none, some (iv x), some (iv 0), none] [] Z Q) else (Q (.inl (some (iv (-1)))) Z)))) : ZM G 2 m_X5_beginOf [.ref s, iv t, iv x] Z Q := ZM.of [some (.ref s), some (iv t), some (iv x), none, none, none] rfl <| z_aload_n (pc' := 1) (j := 0) (by decide +kernel) rfl rfl <| z_getR (pc' := 4) (idx := 9) (ci := 5) (f := 2) (by decide +kernel) f_RX5_9 rfl hs.o.1 hs.o.2 hs.r2 rfl <| z_iload_n (pc' := 5) (j := 1) (by decide +kernel) rfl rfl <| h.elim fun c1 h => z_iaload (pc' := 6) (by decide +kernel) hs.a2 c1 rfl <| z_iconst (pc' := 7) (n := -1) (by decide +kernel) rfl <| h.elim fun c2 h => z_icmp_eq (pc' := 10) (tgt := 12) (off := 5) (by decide +kernel) (by decide) rfl c2 (by decide : R32 (-1)) (am_ite h (fun h => z_iload_n (pc' := 13) (j := 2) (by decide +kernel) rfl rfl <| z_istore_n (pc' := 14) (j := 3) (ls' := [some (.ref s), some (iv t), some (iv x), some (iv x), none, none]) (by decide +kernel) (by decide) rfl rfl <| z_iconst (pc' := 15) (n := 0) (by decide +kernel) rfl <| z_istore (pc' := 17) (j := 4) (ls' := [some (.ref s), some (iv t), some (iv x), some (iv x), some (iv 0), none]) (by decide +kernel) (by decide) rfl rfl <| (ZP.wk (wk_some (wk_some (wk_none (wk_some (wk_some (wk_none wk_nil)))))) h)) (fun h => z_iconst (pc' := 11) (n := -1) (by decide +kernel) rfl <| z_ireturn (by decide +kernel) ⟨_, rfl, rfl⟩ h))
set_option maxRecDepth 20000 in
theorem b_X5_beginOf_17 {G : Gx} {Q : Rv → Zm → Prop} {Z : Zm} {s : Nat} {b : Nat} {n : Nat} {t : Int} {v3 : Int} {v4 : Int} (hs : atLike Z s b n) (hb : atBook Z b) (hn : atNet Z n) (h : ((R32 v4) ∧ (R32 (zI Z n 2)) ∧ (if (zI Z n 2) ≤ v4 then (ZP G 2 m_X5_beginOf 95 [some (.ref s), none, none, some (iv v3), some (iv 0), none] [] Z Q) else ((zIx v4 50) ∧ (R32 (zI Z (n + 4) v4.toNat)) ∧ (R32 t) ∧ (if (zI Z (n + 4) v4.toNat) = t then ((zIx (zI Z (n + 3) v4.toNat) 20) ∧ (R32 (zI Z (s + 1) (zI Z (n + 3) v4.toNat).toNat)) ∧ (if (zI Z (s + 1) (zI Z (n + 3) v4.toNat).toNat) = (-1) then (Q (.inl (some (iv (-1)))) Z) else ((R32 v3) ∧ (R32 ((zI Z (s + 1) (zI Z (n + 3) v4.toNat).toNat) + (zI Z (n + 5) v4.toNat))) ∧ ZP G 2 m_X5_beginOf 17 [some (.ref s), some (iv t), none, some (iv (max v3 ((zI Z (s + 1) (zI Z (n + 3) v4.toNat).toNat) + (zI Z (n + 5) v4.toNat)))), some (iv (v4 + 1)), none] [] Z Q))) else (ZP G 2 m_X5_beginOf 17 [some (.ref s), some (iv t), none, some (iv v3), some (iv (v4 + 1)), none] [] Z Q)))))) : ZP G 2 m_X5_beginOf 17 [some (.ref s), some (iv t), none, some (iv v3), some (iv v4), none] [] Z Q := z_iload (pc' := 19) (j := 4) (by decide +kernel) rfl rfl <| z_aload_n (pc' := 20) (j := 0) (by decide +kernel) rfl rfl <| z_getR (pc' := 23) (idx := 19) (ci := 5) (f := 1) (by decide +kernel) f_RX5_19 rfl hs.o.1 hs.o.2 hs.r1 rfl <| z_getI (pc' := 26) (idx := 91) (ci := 7) (f := 2) (by decide +kernel) f_RX5_91 rfl hn.o.1 hn.o.2 rfl <| h.elim fun c1 h => h.elim fun c2 h => z_icmp_ge (pc' := 29) (tgt := 92) (off := 66) (by decide +kernel) (by decide) rfl c1 c2 (am_ite h (fun h => z_iconst (pc' := 93) (n := 0) (by decide +kernel) rfl <| z_istore (pc' := 95) (j := 4) (ls' := [some (.ref s), some (iv t), none, some (iv v3), some (iv 0), none]) (by decide +kernel) (by decide) rfl rfl <| (ZP.wk (wk_some (wk_none (wk_none (wk_some (wk_some (wk_none wk_nil)))))) h)) (fun h => z_aload_n (pc' := 30) (j := 0) (by decide +kernel) rfl rfl <| z_getR (pc' := 33) (idx := 19) (ci := 5) (f := 1) (by decide +kernel) f_RX5_19 rfl hs.o.1 hs.o.2 hs.r1 rfl <| z_getR (pc' := 36) (idx := 94) (ci := 7) (f := 7) (by decide +kernel) f_RX5_94 rfl hn.o.1 hn.o.2 hn.r7 rfl <| z_iload (pc' := 38) (j := 4) (by decide +kernel) rfl rfl <| h.elim fun c3 h => z_iaload (pc' := 39) (by decide +kernel) hn.a7 c3 rfl <| z_iload_n (pc' := 40) (j := 1) (by decide +kernel) rfl rfl <| h.elim fun c4 h => h.elim fun c5 h => z_icmp_ne (pc' := 43) (tgt := 86) (off := 46) (by decide +kernel) (by decide) rfl c4 c5 (am_ite h (fun h => z_aload_n (pc' := 44) (j := 0) (by decide +kernel) rfl rfl <| z_getR (pc' := 47) (idx := 9) (ci := 5) (f := 2) (by decide +kernel) f_RX5_9 rfl hs.o.1 hs.o.2 hs.r2 rfl <| z_aload_n (pc' := 48) (j := 0) (by decide +kernel) rfl rfl <| z_getR (pc' := 51) (idx := 19) (ci := 5) (f := 1) (by decide +kernel) f_RX5_19 rfl hs.o.1 hs.o.2 hs.r1 rfl <| z_getR (pc' := 54) (idx := 97) (ci := 7) (f := 6) (by decide +kernel) f_RX5_97 rfl hn.o.1 hn.o.2 hn.r6 rfl <| z_iload (pc' := 56) (j := 4) (by decide +kernel) rfl rfl <| z_iaload (pc' := 57) (by decide +kernel) hn.a6 c3 rfl <| h.elim fun c6 h => z_iaload (pc' := 58) (by decide +kernel) hs.a2 c6 rfl <| z_istore (pc' := 60) (j := 5) (ls' := [some (.ref s), some (iv t), none, some (iv v3), some (iv v4), some (iv (zI Z (s + 1) (zI Z (n + 3) v4.toNat).toNat))]) (by decide +kernel) (by decide) rfl rfl <| z_iload (pc' := 62) (j := 5) (by decide +kernel) rfl rfl <| z_iconst (pc' := 63) (n := -1) (by decide +kernel) rfl <| h.elim fun c7 h => z_icmp_ne (pc' := 66) (tgt := 68) (off := 5) (by decide +kernel) (by decide) rfl c7 (by decide : R32 (-1)) (am_ite h (fun h => z_iconst (pc' := 67) (n := -1) (by decide +kernel) rfl <| z_ireturn (by decide +kernel) ⟨_, rfl, rfl⟩ h) (fun h => z_iload_n (pc' := 69) (j := 3) (by decide +kernel) rfl rfl <| z_iload (pc' := 71) (j := 5) (by decide +kernel) rfl rfl <| z_aload_n (pc' := 72) (j := 0) (by decide +kernel) rfl rfl <| z_getR (pc' := 75) (idx := 19) (ci := 5) (f := 1) (by decide +kernel) f_RX5_19 rfl hs.o.1 hs.o.2 hs.r1 rfl <| z_getR (pc' := 78) (idx := 100) (ci := 7) (f := 8) (by decide +kernel) f_RX5_100 rfl hn.o.1 hn.o.2 hn.r8 rfl <| z_iload (pc' := 80) (j := 4) (by decide +kernel) rfl rfl <| z_iaload (pc' := 81) (by decide +kernel) hn.a8 c3 rfl <| z_iadd (pc' := 82) (by decide +kernel) rfl <| h.elim fun c8 h => h.elim fun c9 h => z_max (pc' := 85) (idx := 23) (by decide +kernel) (amM6 180 rfl (by decide +kernel)) (amM3 108 rfl (by decide +kernel)) (amM1 21 rfl (by decide +kernel)) (amM3 109 rfl (by decide +kernel)) (by omega) (am_le rfl) c8 c9 rfl <| z_istore_n (pc' := 86) (j := 3) (ls' := [some (.ref s), some (iv t), none, some (iv (max v3 ((zI Z (s + 1) (zI Z (n + 3) v4.toNat).toNat) + (zI Z (n + 5) v4.toNat)))), some (iv v4), some (iv (zI Z (s + 1) (zI Z (n + 3) v4.toNat).toNat))]) (by decide +kernel) (by decide) rfl rfl <| z_iinc (pc' := 89) (j := 4) (n := 1) (x := v4) (ls' := [some (.ref s), some (iv t), none, some (iv (max v3 ((zI Z (s + 1) (zI Z (n + 3) v4.toNat).toNat) + (zI Z (n + 5) v4.toNat)))), some (iv (v4 + 1)), some (iv (zI Z (s + 1) (zI Z (n + 3) v4.toNat).toNat))]) (by decide +kernel) rfl (by decide) rfl rfl <| z_goto (tgt := 17) (off := -72) (by decide +kernel) (by decide) <| (ZP.wk (wk_some (wk_some (wk_none (wk_some (wk_some (wk_none wk_nil)))))) h)))) (fun h => z_iinc (pc' := 89) (j := 4) (n := 1) (x := v4) (ls' := [some (.ref s), some (iv t), none, some (iv v3), some (iv (v4 + 1)), none]) (by decide +kernel) rfl (by decide) rfl rfl <| z_goto (tgt := 17) (off := -72) (by decide +kernel) (by decide) <| h))))
set_option maxRecDepth 20000 in
theorem b_X5_beginOf_95 {G : Gx} {Q : Rv → Zm → Prop} {Z : Zm} {s : Nat} {b : Nat} {n : Nat} {v3 : Int} {v4 : Int} (hs : atLike Z s b n) (hb : atBook Z b) (hn : atNet Z n) (h : ((R32 v4) ∧ (R32 (zI Z n 1)) ∧ (if (zI Z n 1) ≤ v4 then (Q (.inl (some (iv v3))) Z) else (ZM G 1 m_X5_countAt [.ref s, iv v3] Z (zKc G 2 m_X5_beginOf 112 [some (.ref s), none, none, some (iv v3), some (iv v4), none] [] Q))))) : ZP G 2 m_X5_beginOf 95 [some (.ref s), none, none, some (iv v3), some (iv v4), none] [] Z Q := z_iload (pc' := 97) (j := 4) (by decide +kernel) rfl rfl <| z_aload_n (pc' := 98) (j := 0) (by decide +kernel) rfl rfl <| z_getR (pc' := 101) (idx := 19) (ci := 5) (f := 1) (by decide +kernel) f_RX5_19 rfl hs.o.1 hs.o.2 hs.r1 rfl <| z_getI (pc' := 104) (idx := 67) (ci := 7) (f := 1) (by decide +kernel) f_RX5_67 rfl hn.o.1 hn.o.2 rfl <| h.elim fun c1 h => h.elim fun c2 h => z_icmp_ge (pc' := 107) (tgt := 131) (off := 27) (by decide +kernel) (by decide) rfl c1 c2 (am_ite h (fun h => z_iload_n (pc' := 132) (j := 3) (by decide +kernel) rfl rfl <| z_ireturn (by decide +kernel) ⟨_, rfl, rfl⟩ h) (fun h => z_aload_n (pc' := 108) (j := 0) (by decide +kernel) rfl rfl <| z_iload_n (pc' := 109) (j := 3) (by decide +kernel) rfl rfl <| z_callV (pc' := 112) (idx := 103) (mj := m_X5_countAt) (av := [iv v3]) (d' := 1) (by decide +kernel) rfl k_X5_countAt l_RX5_103 rfl (by omega) (am_le rfl) rfl (am_le rfl) hs.o.1 hs.o.2 rfl h))
set_option maxRecDepth 20000 in
theorem b_X5_beginOf_112 {G : Gx} {Q : Rv → Zm → Prop} {Z : Zm} {s : Nat} {b : Nat} {n : Nat} {v3 : Int} {v4 : Int} {s0 : Int} (hs : atLike Z s b n) (hb : atBook Z b) (hn : atNet Z n) (h : ((R32 s0) ∧ (R32 (zI Z s 3)) ∧ (if s0 < (zI Z s 3) then (Q (.inl (some (iv v3))) Z) else (ZM G 1 m_X5_nextEnd [.ref s, iv v3] Z (zKc G 2 m_X5_beginOf 124 [some (.ref s), none, none, none, some (iv v4), none] [] Q))))) : ZP G 2 m_X5_beginOf 112 [some (.ref s), none, none, some (iv v3), some (iv v4), none] [iv s0] Z Q := z_aload_n (pc' := 113) (j := 0) (by decide +kernel) rfl rfl <| z_getI (pc' := 116) (idx := 29) (ci := 5) (f := 3) (by decide +kernel) f_RX5_29 rfl hs.o.1 hs.o.2 rfl <| h.elim fun c1 h => h.elim fun c2 h => z_icmp_lt (pc' := 119) (tgt := 131) (off := 15) (by decide +kernel) (by decide) rfl c1 c2 (am_ite h (fun h => z_iload_n (pc' := 132) (j := 3) (by decide +kernel) rfl rfl <| z_ireturn (by decide +kernel) ⟨_, rfl, rfl⟩ h) (fun h => z_aload_n (pc' := 120) (j := 0) (by decide +kernel) rfl rfl <| z_iload_n (pc' := 121) (j := 3) (by decide +kernel) rfl rfl <| z_callV (pc' := 124) (idx := 106) (mj := m_X5_nextEnd) (av := [iv v3]) (d' := 1) (by decide +kernel) rfl k_X5_nextEnd l_RX5_106 rfl (by omega) (am_le rfl) rfl (am_le rfl) hs.o.1 hs.o.2 rfl (ZM.mono h (zKc_wk (wk_some (wk_none (wk_none (wk_none (wk_some (wk_none wk_nil))))))))))
set_option maxRecDepth 20000 in
theorem b_X5_beginOf_124 {G : Gx} {Q : Rv → Zm → Prop} {Z : Zm} {s : Nat} {b : Nat} {n : Nat} {v4 : Int} {s0 : Int} (hs : atLike Z s b n) (hb : atBook Z b) (hn : atNet Z n) (h : (ZP G 2 m_X5_beginOf 95 [some (.ref s), none, none, some (iv s0), some (iv (v4 + 1)), none] [] Z Q)) : ZP G 2 m_X5_beginOf 124 [some (.ref s), none, none, none, some (iv v4), none] [iv s0] Z Q := z_istore_n (pc' := 125) (j := 3) (ls' := [some (.ref s), none, none, some (iv s0), some (iv v4), none]) (by decide +kernel) (by decide) rfl rfl <| z_iinc (pc' := 128) (j := 4) (n := 1) (x := v4) (ls' := [some (.ref s), none, none, some (iv s0), some (iv (v4 + 1)), none]) (by decide +kernel) rfl (by decide) rfl rfl <| z_goto (tgt := 95) (off := -33) (by decide +kernel) (by decide) <| h
set_option maxRecDepth 20000 in
theorem e_X5_firstBegin {G : Gx} {Q : Rv → Zm → Prop} {Z : Zm} {s : Nat} {b : Nat} {n : Nat} {x : Int} (hs : atLike Z s b n) (hb : atBook Z b) (hn : atNet Z n) (h : (ZP G 3 m_X5_firstBegin 5 [some (.ref s), some (iv x), some (iv 2147483647), some (iv 0), none] [] Z Q)) : ZM G 3 m_X5_firstBegin [.ref s, iv x] Z Q := ZM.of [some (.ref s), some (iv x), none, none, none] rfl <| z_ldc (pc' := 2) (idx := 80) (w := 2147483647) (v := 2147483647) (by decide +kernel) (amM6 195 rfl (by decide +kernel)) (by decide) rfl <| z_istore_n (pc' := 3) (j := 2) (ls' := [some (.ref s), some (iv x), some (iv 2147483647), none, none]) (by decide +kernel) (by decide) rfl rfl <| z_iconst (pc' := 4) (n := 0) (by decide +kernel) rfl <| z_istore_n (pc' := 5) (j := 3) (ls' := [some (.ref s), some (iv x), some (iv 2147483647), some (iv 0), none]) (by decide +kernel) (by decide) rfl rfl <| h
set_option maxRecDepth 20000 in
theorem b_X5_firstBegin_5 {G : Gx} {Q : Rv → Zm → Prop} {Z : Zm} {s : Nat} {b : Nat} {n : Nat} {x : Int} {v2 : Int} {v3 : Int} (hs : atLike Z s b n) (hb : atBook Z b) (hn : atNet Z n) (h : ((R32 v3) ∧ (R32 (zI Z n 1)) ∧ (if (zI Z n 1) ≤ v3 then (Q (.inl (some (iv v2))) Z) else (ZM G 2 m_X5_beginOf [.ref s, iv v3, iv x] Z (zKc G 3 m_X5_firstBegin 22 [some (.ref s), some (iv x), some (iv v2), some (iv v3), none] [] Q))))) : ZP G 3 m_X5_firstBegin 5 [some (.ref s), some (iv x), some (iv v2), some (iv v3), none] [] Z Q := z_iload_n (pc' := 6) (j := 3) (by decide +kernel) rfl rfl <| z_aload_n (pc' := 7) (j := 0) (by decide +kernel) rfl rfl <| z_getR (pc' := 10) (idx := 19) (ci := 5) (f := 1) (by decide +kernel) f_RX5_19 rfl hs.o.1 hs.o.2 hs.r1 rfl <| z_getI (pc' := 13) (idx := 67) (ci := 7) (f := 1) (by decide +kernel) f_RX5_67 rfl hn.o.1 hn.o.2 rfl <| h.elim fun c1 h => h.elim fun c2 h => z_icmp_ge (pc' := 16) (tgt := 45) (off := 32) (by decide +kernel) (by decide) rfl c1 c2 (am_ite h (fun h => z_iload_n (pc' := 46) (j := 2) (by decide +kernel) rfl rfl <| z_ireturn (by decide +kernel) ⟨_, rfl, rfl⟩ h) (fun h => z_aload_n (pc' := 17) (j := 0) (by decide +kernel) rfl rfl <| z_iload_n (pc' := 18) (j := 3) (by decide +kernel) rfl rfl <| z_iload_n (pc' := 19) (j := 1) (by decide +kernel) rfl rfl <| z_callV (pc' := 22) (idx := 81) (mj := m_X5_beginOf) (av := [iv v3, iv x]) (d' := 2) (by decide +kernel) rfl k_X5_beginOf l_RX5_81 rfl (by omega) (am_le rfl) rfl (am_le rfl) hs.o.1 hs.o.2 rfl h))
set_option maxRecDepth 20000 in
theorem b_X5_firstBegin_22 {G : Gx} {Q : Rv → Zm → Prop} {Z : Zm} {s : Nat} {b : Nat} {n : Nat} {x : Int} {v2 : Int} {v3 : Int} {s0 : Int} (hs : atLike Z s b n) (hb : atBook Z b) (hn : atNet Z n) (h : ((R32 s0) ∧ (¬ (s0 = (-1)) → (R32 v2) ∧ True) ∧ ZP G 3 m_X5_firstBegin 5 [some (.ref s), some (iv x), some (iv (if s0 = (-1) then v2 else (if v2 ≤ s0 then v2 else s0))), some (iv (v3 + 1)), none] [] Z Q)) : ZP G 3 m_X5_firstBegin 22 [some (.ref s), some (iv x), some (iv v2), some (iv v3), none] [iv s0] Z Q := z_istore (pc' := 24) (j := 4) (ls' := [some (.ref s), some (iv x), some (iv v2), some (iv v3), some (iv s0)]) (by decide +kernel) (by decide) rfl rfl <| z_iload (pc' := 26) (j := 4) (by decide +kernel) rfl rfl <| z_iconst (pc' := 27) (n := -1) (by decide +kernel) rfl <| h.elim fun c1 h => h.elim fun g8 h => am_use (fun k9 => z_icmp_eq (pc' := 30) (tgt := 39) (off := 12) (by decide +kernel) (by decide) rfl c1 (by decide : R32 (-1)) (am_ite2 (fun q10 => (am_jp (P := fun z9 => ZP G 3 m_X5_firstBegin 39 [some (.ref s), some (iv x), some (iv z9), some (iv v3), some (iv s0)] [] _ Q) (if_pos q10) k9)) (fun q10 => have h := g8 q10; z_iload (pc' := 32) (j := 4) (by decide +kernel) rfl rfl <| z_iload_n (pc' := 33) (j := 2) (by decide +kernel) rfl rfl <| h.elim fun c2 h => am_use (fun k5 => z_icmp_ge (pc' := 36) (tgt := 39) (off := 6) (by decide +kernel) (by decide) rfl c1 c2 (am_ite2 (fun q6 => (am_jp (P := fun z9 => ZP G 3 m_X5_firstBegin 39 [some (.ref s), some (iv x), some (iv z9), some (iv v3), some (iv s0)] [] _ Q) (if_pos q6) k5)) (fun q6 => z_iload (pc' := 38) (j := 4) (by decide +kernel) rfl rfl <| z_istore_n (pc' := 39) (j := 2) (ls' := [some (.ref s), some (iv x), some (iv s0), some (iv v3), some (iv s0)]) (by decide +kernel) (by decide) rfl rfl <| (am_jp (P := fun z9 => ZP G 3 m_X5_firstBegin 39 [some (.ref s), some (iv x), some (iv z9), some (iv v3), some (iv s0)] [] _ Q) (if_neg q6) k5)))) <| (am_jp (P := fun z9 => ZP G 3 m_X5_firstBegin 39 [some (.ref s), some (iv x), some (iv z9), some (iv v3), some (iv s0)] [] _ Q) (if_neg q10) k9)))) <| z_iinc (pc' := 42) (j := 3) (n := 1) (x := v3) (ls' := [some (.ref s), some (iv x), some (iv (if s0 = (-1) then v2 else (if v2 ≤ s0 then v2 else s0))), some (iv (v3 + 1)), some (iv s0)]) (by decide +kernel) rfl (by decide) rfl rfl <| z_goto (tgt := 5) (off := -37) (by decide +kernel) (by decide) <| (ZP.wk (wk_some (wk_some (wk_some (wk_some (wk_none wk_nil))))) h)
set_option maxRecDepth 20000 in
theorem e_X5_putNext {G : Gx} {Q : Rv → Zm → Prop} {Z : Zm} {e : Nat} {s : Nat} {b : Nat} {n : Nat} {x : Int} {y : Int} {z : Int} (hs : atLike Z s b n) (hb : atBook Z b) (hn : atNet Z n) (he : 0 ≤ e) (h : ((R32 x) ∧ (R32 (zI Z n 1)) ∧ (if (zI Z n 1) ≤ x then (ZM G 3 m_X5_lastOfEnds [.ref s] Z (zKc G (e + 4) m_X5_putNext 26 [none, none, none, none, none, none, none] [iv (zI Z s 5), .ref s] Q)) else ((if x < 6 then ((R32 (zI Z s 4)) ∧ (if (zI Z s 4) = 0 then (ZP G (e + 4) m_X5_putNext 55 [some (.ref s), some (iv x), some (iv y), some (iv z), some (iv 2147483647), some (iv 0), none] [] Z Q) else (ZM G 3 m_X5_firstBegin [.ref s, iv y] Z (zKc G (e + 4) m_X5_putNext 45 [some (.ref s), some (iv x), some (iv y), some (iv z), none, none, none] [] Q)))) else (ZM G 3 m_X5_lastOfEnds [.ref s] Z (zKc G (e + 4) m_X5_putNext 26 [none, none, none, none, none, none, none] [iv (zI Z s 5), .ref s] Q))))))) : ZM G (e + 4) m_X5_putNext [.ref s, iv x, iv y, iv z] Z Q := ZM.of [some (.ref s), some (iv x), some (iv y), some (iv z), none, none, none] rfl <| z_iload_n (pc' := 1) (j := 1) (by decide +kernel) rfl rfl <| z_aload_n (pc' := 2) (j := 0) (by decide +kernel) rfl rfl <| z_getR (pc' := 5) (idx := 19) (ci := 5) (f := 1) (by decide +kernel) f_RX5_19 rfl hs.o.1 hs.o.2 hs.r1 rfl <| z_getI (pc' := 8) (idx := 67) (ci := 7) (f := 1) (by decide +kernel) f_RX5_67 rfl hn.o.1 hn.o.2 rfl <| h.elim fun c1 h => h.elim fun c2 h => z_icmp_ge (pc' := 11) (tgt := 17) (off := 9) (by decide +kernel) (by decide) rfl c1 c2 (am_ite h (fun h => z_aload_n (pc' := 18) (j := 0) (by decide +kernel) rfl rfl <| z_aload_n (pc' := 19) (j := 0) (by decide +kernel) rfl rfl <| z_getI (pc' := 22) (idx := 60) (ci := 5) (f := 5) (by decide +kernel) f_RX5_60 rfl hs.o.1 hs.o.2 rfl <| z_aload_n (pc' := 23) (j := 0) (by decide +kernel) rfl rfl <| z_callV (pc' := 26) (idx := 68) (mj := m_X5_lastOfEnds) (av := []) (d' := 3) (by decide +kernel) rfl k_X5_lastOfEnds l_RX5_68 rfl (by omega) (am_le rfl) rfl (am_le rfl) hs.o.1 hs.o.2 rfl (ZM.mono h (zKc_wk (wk_none (wk_none (wk_none (wk_none (wk_none (wk_none (wk_none wk_nil)))))))))) (fun h => z_iload_n (pc' := 12) (j := 1) (by decide +kernel) rfl rfl <| z_bipush (pc' := 14) (n := 6) (by decide +kernel) (by decide) rfl <| z_icmp_lt (pc' := 17) (tgt := 33) (off := 19) (by decide +kernel) (by decide) rfl c1 (by decide : R32 6) (am_ite h (fun h => z_aload_n (pc' := 34) (j := 0) (by decide +kernel) rfl rfl <| z_getI (pc' := 37) (idx := 33) (ci := 5) (f := 4) (by decide +kernel) f_RX5_33 rfl hs.o.1 hs.o.2 rfl <| h.elim fun c3 h => z_if_eq (pc' := 40) (tgt := 48) (off := 11) (by decide +kernel) (by decide) rfl c3 (am_ite h (fun h => z_ldc (pc' := 50) (idx := 80) (w := 2147483647) (v := 2147483647) (by decide +kernel) (amM6 195 rfl (by decide +kernel)) (by decide) rfl <| z_istore (pc' := 52) (j := 4) (ls' := [some (.ref s), some (iv x), some (iv y), some (iv z), some (iv 2147483647), none, none]) (by decide +kernel) (by decide) rfl rfl <| z_iconst (pc' := 53) (n := 0) (by decide +kernel) rfl <| z_istore (pc' := 55) (j := 5) (ls' := [some (.ref s), some (iv x), some (iv y), some (iv z), some (iv 2147483647), some (iv 0), none]) (by decide +kernel) (by decide) rfl rfl <| h) (fun h => z_aload_n (pc' := 41) (j := 0) (by decide +kernel) rfl rfl <| z_iload_n (pc' := 42) (j := 2) (by decide +kernel) rfl rfl <| z_callV (pc' := 45) (idx := 74) (mj := m_X5_firstBegin) (av := [iv y]) (d' := 3) (by decide +kernel) rfl k_X5_firstBegin l_RX5_74 rfl (by omega) (am_le rfl) rfl (am_le rfl) hs.o.1 hs.o.2 rfl h))) (fun h => z_aload_n (pc' := 18) (j := 0) (by decide +kernel) rfl rfl <| z_aload_n (pc' := 19) (j := 0) (by decide +kernel) rfl rfl <| z_getI (pc' := 22) (idx := 60) (ci := 5) (f := 5) (by decide +kernel) f_RX5_60 rfl hs.o.1 hs.o.2 rfl <| z_aload_n (pc' := 23) (j := 0) (by decide +kernel) rfl rfl <| z_callV (pc' := 26) (idx := 68) (mj := m_X5_lastOfEnds) (av := []) (d' := 3) (by decide +kernel) rfl k_X5_lastOfEnds l_RX5_68 rfl (by omega) (am_le rfl) rfl (am_le rfl) hs.o.1 hs.o.2 rfl (ZM.mono h (zKc_wk (wk_none (wk_none (wk_none (wk_none (wk_none (wk_none (wk_none wk_nil)))))))))))))
set_option maxRecDepth 20000 in
theorem b_X5_putNext_26 {G : Gx} {Q : Rv → Zm → Prop} {Z : Zm} {e : Nat} {s : Nat} {b : Nat} {n : Nat} {s0 : Int} {s1 : Int} (hs : atLike Z s b n) (hb : atBook Z b) (hn : atNet Z n) (he : 0 ≤ e) (h : ((R32 s1) ∧ (R32 s0) ∧ ∀ Z3, Z3 = zSI Z s (zu (zI Z s) 5 (min s1 s0)) → Q (.inl none) Z3)) : ZP G (e + 4) m_X5_putNext 26 [none, none, none, none, none, none, none] [iv s0, iv s1, .ref s] Z Q := h.elim fun c1 h => h.elim fun c2 h => z_min (pc' := 29) (idx := 71) (by decide +kernel) (amM6 190 rfl (by decide +kernel)) (amM3 35 rfl (by decide +kernel)) (amM1 21 rfl (by decide +kernel)) (amM3 36 rfl (by decide +kernel)) (by omega) (am_le rfl) c1 c2 rfl <| z_putI (pc' := 32) (idx := 60) (ci := 5) (f := 5) (by decide +kernel) f_RX5_60 (am_nf rfl rfl) rfl rfl rfl hs.o.1 hs.o.2 rfl <| have h := h _ rfl; z_ret (by decide +kernel) rfl h
set_option maxRecDepth 20000 in
theorem b_X5_putNext_55 {G : Gx} {Q : Rv → Zm → Prop} {Z : Zm} {e : Nat} {s : Nat} {b : Nat} {n : Nat} {x : Int} {y : Int} {z : Int} {v4 : Int} {v5 : Int} (hs : atLike Z s b n) (hb : atBook Z b) (hn : atNet Z n) (he : 0 ≤ e) (h : ((R32 v5) ∧ (R32 (zI Z n 1)) ∧ (if (zI Z n 1) ≤ v5 then (Q (.inl none) Z) else ((R32 (zI Z s 5)) ∧ (R32 (zI Z s 6)) ∧ (if (zI Z s 5) ≤ (zI Z s 6) then (Q (.inl none) Z) else (ZM G 3 m_X5_beginOf [.ref s, iv v5, iv y] Z (zKc G (e + 4) m_X5_putNext 85 [some (.ref s), some (iv x), some (iv y), some (iv z), some (iv v4), some (iv v5), none] [] Q))))))) : ZP G (e + 4) m_X5_putNext 55 [some (.ref s), some (iv x), some (iv y), some (iv z), some (iv v4), some (iv v5), none] [] Z Q := z_iload (pc' := 57) (j := 5) (by decide +kernel) rfl rfl <| z_aload_n (pc' := 58) (j := 0) (by decide +kernel) rfl rfl <| z_getR (pc' := 61) (idx := 19) (ci := 5) (f := 1) (by decide +kernel) f_RX5_19 rfl hs.o.1 hs.o.2 hs.r1 rfl <| z_getI (pc' := 64) (idx := 67) (ci := 7) (f := 1) (by decide +kernel) f_RX5_67 rfl hn.o.1 hn.o.2 rfl <| h.elim fun c1 h => h.elim fun c2 h => z_icmp_ge (pc' := 67) (tgt := 184) (off := 120) (by decide +kernel) (by decide) rfl c1 c2 (am_ite h (fun h => z_ret (by decide +kernel) rfl h) (fun h => z_aload_n (pc' := 68) (j := 0) (by decide +kernel) rfl rfl <| z_getI (pc' := 71) (idx := 60) (ci := 5) (f := 5) (by decide +kernel) f_RX5_60 rfl hs.o.1 hs.o.2 rfl <| z_aload_n (pc' := 72) (j := 0) (by decide +kernel) rfl rfl <| z_getI (pc' := 75) (idx := 54) (ci := 5) (f := 6) (by decide +kernel) f_RX5_54 rfl hs.o.1 hs.o.2 rfl <| h.elim fun c5 h => h.elim fun c6 h => z_icmp_le (pc' := 78) (tgt := 184) (off := 109) (by decide +kernel) (by decide) rfl c5 c6 (am_ite h (fun h => z_ret (by decide +kernel) rfl h) (fun h => z_aload_n (pc' := 79) (j := 0) (by decide +kernel) rfl rfl <| z_iload (pc' := 81) (j := 5) (by decide +kernel) rfl rfl <| z_iload_n (pc' := 82) (j := 2) (by decide +kernel) rfl rfl <| z_callV (pc' := 85) (idx := 81) (mj := m_X5_beginOf) (av := [iv v5, iv y]) (d' := 3) (by decide +kernel) rfl k_X5_beginOf l_RX5_81 rfl (by omega) (am_le rfl) rfl (am_le rfl) hs.o.1 hs.o.2 rfl h))))
set_option maxRecDepth 20000 in
theorem b_X5_putNext_45 {G : Gx} {Q : Rv → Zm → Prop} {Z : Zm} {e : Nat} {s : Nat} {b : Nat} {n : Nat} {x : Int} {y : Int} {z : Int} {s0 : Int} (hs : atLike Z s b n) (hb : atBook Z b) (hn : atNet Z n) (he : 0 ≤ e) (h : (ZP G (e + 4) m_X5_putNext 55 [some (.ref s), some (iv x), some (iv y), some (iv z), some (iv s0), some (iv 0), none] [] Z Q)) : ZP G (e + 4) m_X5_putNext 45 [some (.ref s), some (iv x), some (iv y), some (iv z), none, none, none] [iv s0] Z Q := z_goto (tgt := 50) (off := 5) (by decide +kernel) (by decide) <| z_istore (pc' := 52) (j := 4) (ls' := [some (.ref s), some (iv x), some (iv y), some (iv z), some (iv s0), none, none]) (by decide +kernel) (by decide) rfl rfl <| z_iconst (pc' := 53) (n := 0) (by decide +kernel) rfl <| z_istore (pc' := 55) (j := 5) (ls' := [some (.ref s), some (iv x), some (iv y), some (iv z), some (iv s0), some (iv 0), none]) (by decide +kernel) (by decide) rfl rfl <| h
set_option maxRecDepth 20000 in
theorem b_X5_putNext_85 {G : Gx} {Q : Rv → Zm → Prop} {Z : Zm} {e : Nat} {s : Nat} {b : Nat} {n : Nat} {x : Int} {y : Int} {z : Int} {v4 : Int} {v5 : Int} {s0 : Int} (hs : atLike Z s b n) (hb : atBook Z b) (hn : atNet Z n) (he : 0 ≤ e) (h : ((R32 s0) ∧ (if s0 = (-1) then (ZP G (e + 4) m_X5_putNext 55 [some (.ref s), some (iv x), some (iv y), some (iv z), some (iv v4), some (iv (v5 + 1)), none] [] Z Q) else ((R32 v4) ∧ (if v4 < s0 then (ZP G (e + 4) m_X5_putNext 55 [some (.ref s), some (iv x), some (iv y), some (iv z), some (iv v4), some (iv (v5 + 1)), none] [] Z Q) else ((zIx v5 20) ∧ (R32 (s0 + (zI Z n 3 - zI Z (n + 7) v5.toNat))) ∧ (R32 (zI Z s 5)) ∧ (if (s0 + (zI Z n 3 - zI Z (n + 7) v5.toNat)) < (zI Z s 5) then ((R32 y) ∧ (if s0 = y then ((R32 v5) ∧ (R32 z) ∧ (if z ≤ v5 then (∀ Z27, Z27 = zSI Z (s + 1) (zu (zI Z (s + 1)) v5.toNat (s0 + (zI Z (b + 2) v5.toNat))) → ZM G (e + 3) m_X5_putNext [.ref s, iv (x + 1), iv s0, iv v5] Z27 (zKc G (e + 4) m_X5_putNext 170 [some (.ref s), some (iv x), some (iv y), some (iv z), some (iv v4), some (iv v5), none] [] Q)) else (ZP G (e + 4) m_X5_putNext 55 [some (.ref s), some (iv x), some (iv y), some (iv z), some (iv v4), some (iv (v5 + 1)), none] [] Z Q))) else (∀ Z28, Z28 = zSI Z (s + 1) (zu (zI Z (s + 1)) v5.toNat (s0 + (zI Z (b + 2) v5.toNat))) → ZM G (e + 3) m_X5_putNext [.ref s, iv (x + 1), iv s0, iv v5] Z28 (zKc G (e + 4) m_X5_putNext 170 [some (.ref s), some (iv x), some (iv y), some (iv z), some (iv v4), some (iv v5), none] [] Q)))) else (ZP G (e + 4) m_X5_putNext 55 [some (.ref s), some (iv x), some (iv y), some (iv z), some (iv v4), some (iv (v5 + 1)), none] [] Z Q)))))))) : ZP G (e + 4) m_X5_putNext 85 [some (.ref s), some (iv x), some (iv y), some (iv z), some (iv v4), some (iv v5), none] [iv s0] Z Q := z_istore (pc' := 87) (j := 6) (ls' := [some (.ref s), some (iv x), some (iv y), some (iv z), some (iv v4), some (iv v5), some (iv s0)]) (by decide +kernel) (by decide) rfl rfl <| z_iload (pc' := 89) (j := 6) (by decide +kernel) rfl rfl <| z_iconst (pc' := 90) (n := -1) (by decide +kernel) rfl <| h.elim fun c1 h => z_icmp_eq (pc' := 93) (tgt := 178) (off := 88) (by decide +kernel) (by decide) rfl c1 (by decide : R32 (-1)) (am_ite h (fun h => z_iinc (pc' := 181) (j := 5) (n := 1) (x := v5) (ls' := [some (.ref s), some (iv x), some (iv y), some (iv z), some (iv v4), some (iv (v5 + 1)), some (iv s0)]) (by decide +kernel) rfl (by decide) rfl rfl <| z_goto (tgt := 55) (off := -126) (by decide +kernel) (by decide) <| (ZP.wk (wk_some (wk_some (wk_some (wk_some (wk_some (wk_some (wk_none wk_nil))))))) h)) (fun h => z_iload (pc' := 95) (j := 6) (by decide +kernel) rfl rfl <| z_iload (pc' := 97) (j := 4) (by decide +kernel) rfl rfl <| h.elim fun c9 h => z_icmp_gt (pc' := 100) (tgt := 178) (off := 81) (by decide +kernel) (by decide) rfl c1 c9 (am_ite h (fun h => z_iinc (pc' := 181) (j := 5) (n := 1) (x := v5) (ls' := [some (.ref s), some (iv x), some (iv y), some (iv z), some (iv v4), some (iv (v5 + 1)), some (iv s0)]) (by decide +kernel) rfl (by decide) rfl rfl <| z_goto (tgt := 55) (off := -126) (by decide +kernel) (by decide) <| (ZP.wk (wk_some (wk_some (wk_some (wk_some (wk_some (wk_some (wk_none wk_nil))))))) h)) (fun h => z_iload (pc' := 102) (j := 6) (by decide +kernel) rfl rfl <| z_aload_n (pc' := 103) (j := 0) (by decide +kernel) rfl rfl <| z_getR (pc' := 106) (idx := 19) (ci := 5) (f := 1) (by decide +kernel) f_RX5_19 rfl hs.o.1 hs.o.2 hs.r1 rfl <| z_iload (pc' := 108) (j := 5) (by decide +kernel) rfl rfl <| h.elim fun c16 h => z_callV (pc' := 111) (idx := 84) (mj := m_X7_restOf) (av := [iv v5]) (d' := 0) (by decide +kernel) rfl k_X7_restOf l_RX5_84 rfl (by omega) (am_le rfl) rfl (am_le rfl) hn.o.1 hn.o.2 rfl <| zKf (s_restOf hn c16) <| z_iadd (pc' := 112) (by decide +kernel) rfl <| z_aload_n (pc' := 113) (j := 0) (by decide +kernel) rfl rfl <| z_getI (pc' := 116) (idx := 60) (ci := 5) (f := 5) (by decide +kernel) f_RX5_60 rfl hs.o.1 hs.o.2 rfl <| h.elim fun c17 h => h.elim fun c18 h => z_icmp_lt (pc' := 119) (tgt := 122) (off := 6) (by decide +kernel) (by decide) rfl c17 c18 (am_ite h (fun h => z_iload (pc' := 124) (j := 6) (by decide +kernel) rfl rfl <| z_iload_n (pc' := 125) (j := 2) (by decide +kernel) rfl rfl <| h.elim fun c22 h => z_icmp_ne (pc' := 128) (tgt := 137) (off := 12) (by decide +kernel) (by decide) rfl c1 c22 (am_ite h (fun h => z_iload (pc' := 130) (j := 5) (by decide +kernel) rfl rfl <| z_iload_n (pc' := 131) (j := 3) (by decide +kernel) rfl rfl <| h.elim fun c25 h => h.elim fun c26 h => z_icmp_ge (pc' := 134) (tgt := 137) (off := 6) (by decide +kernel) (by decide) rfl c25 c26 (am_ite h (fun h => z_aload_n (pc' := 138) (j := 0) (by decide +kernel) rfl rfl <| z_getR (pc' := 141) (idx := 9) (ci := 5) (f := 2) (by decide +kernel) f_RX5_9 rfl hs.o.1 hs.o.2 hs.r2 rfl <| z_iload (pc' := 143) (j := 5) (by decide +kernel) rfl rfl <| z_iload (pc' := 145) (j := 6) (by decide +kernel) rfl rfl <| z_aload_n (pc' := 146) (j := 0) (by decide +kernel) rfl rfl <| z_getR (pc' := 149) (idx := 15) (ci := 5) (f := 0) (by decide +kernel) f_RX5_15 rfl hs.o.1 hs.o.2 hs.r0 rfl <| z_getR (pc' := 152) (idx := 87) (ci := 0) (f := 0) (by decide +kernel) f_RX5_87 rfl hb.o.1 hb.o.2 hb.r0 rfl <| z_iconst (pc' := 153) (n := 0) (by decide +kernel) rfl <| z_aaload120 (pc' := 154) (by decide +kernel) hb.a0 ⟨by decide, by decide, by decide⟩ (hb.e0 0 (by decide)) rfl <| z_iload (pc' := 156) (j := 5) (by decide +kernel) rfl rfl <| z_iaload (pc' := 157) (by decide +kernel) (hb.x0 0 (by decide)) c16 rfl <| z_iadd (pc' := 158) (by decide +kernel) rfl <| z_iastore (pc' := 159) (by decide +kernel) hs.a2 c16 rfl <| have h := h _ rfl; z_aload_n (pc' := 160) (j := 0) (by decide +kernel) rfl rfl <| z_iload_n (pc' := 161) (j := 1) (by decide +kernel) rfl rfl <| z_iconst (pc' := 162) (n := 1) (by decide +kernel) rfl <| z_iadd (pc' := 163) (by decide +kernel) rfl <| z_iload (pc' := 165) (j := 6) (by decide +kernel) rfl rfl <| z_iload (pc' := 167) (j := 5) (by decide +kernel) rfl rfl <| z_callS (pc' := 170) (idx := 63) (mj := m_X5_putNext) (av := [.ref s, iv (x + 1), iv s0, iv v5]) (d' := e + 3) (by decide +kernel) rfl k_X5_putNext l_RX5_63 rfl (by omega) (am_le rfl) rfl (am_le rfl) rfl (ZM.mono h (zKc_wk (wk_some (wk_some (wk_some (wk_some (wk_some (wk_some (wk_none wk_nil)))))))))) (fun h => z_goto (tgt := 178) (off := 44) (by decide +kernel) (by decide) <| z_iinc (pc' := 181) (j := 5) (n := 1) (x := v5) (ls' := [some (.ref s), some (iv x), some (iv y), some (iv z), some (iv v4), some (iv (v5 + 1)), some (iv s0)]) (by decide +kernel) rfl (by decide) rfl rfl <| z_goto (tgt := 55) (off := -126) (by decide +kernel) (by decide) <| (ZP.wk (wk_some (wk_some (wk_some (wk_some (wk_some (wk_some (wk_none wk_nil))))))) h)))) (fun h => z_aload_n (pc' := 138) (j := 0) (by decide +kernel) rfl rfl <| z_getR (pc' := 141) (idx := 9) (ci := 5) (f := 2) (by decide +kernel) f_RX5_9 rfl hs.o.1 hs.o.2 hs.r2 rfl <| z_iload (pc' := 143) (j := 5) (by decide +kernel) rfl rfl <| z_iload (pc' := 145) (j := 6) (by decide +kernel) rfl rfl <| z_aload_n (pc' := 146) (j := 0) (by decide +kernel) rfl rfl <| z_getR (pc' := 149) (idx := 15) (ci := 5) (f := 0) (by decide +kernel) f_RX5_15 rfl hs.o.1 hs.o.2 hs.r0 rfl <| z_getR (pc' := 152) (idx := 87) (ci := 0) (f := 0) (by decide +kernel) f_RX5_87 rfl hb.o.1 hb.o.2 hb.r0 rfl <| z_iconst (pc' := 153) (n := 0) (by decide +kernel) rfl <| z_aaload120 (pc' := 154) (by decide +kernel) hb.a0 ⟨by decide, by decide, by decide⟩ (hb.e0 0 (by decide)) rfl <| z_iload (pc' := 156) (j := 5) (by decide +kernel) rfl rfl <| z_iaload (pc' := 157) (by decide +kernel) (hb.x0 0 (by decide)) c16 rfl <| z_iadd (pc' := 158) (by decide +kernel) rfl <| z_iastore (pc' := 159) (by decide +kernel) hs.a2 c16 rfl <| have h := h _ rfl; z_aload_n (pc' := 160) (j := 0) (by decide +kernel) rfl rfl <| z_iload_n (pc' := 161) (j := 1) (by decide +kernel) rfl rfl <| z_iconst (pc' := 162) (n := 1) (by decide +kernel) rfl <| z_iadd (pc' := 163) (by decide +kernel) rfl <| z_iload (pc' := 165) (j := 6) (by decide +kernel) rfl rfl <| z_iload (pc' := 167) (j := 5) (by decide +kernel) rfl rfl <| z_callS (pc' := 170) (idx := 63) (mj := m_X5_putNext) (av := [.ref s, iv (x + 1), iv s0, iv v5]) (d' := e + 3) (by decide +kernel) rfl k_X5_putNext l_RX5_63 rfl (by omega) (am_le rfl) rfl (am_le rfl) rfl (ZM.mono h (zKc_wk (wk_some (wk_some (wk_some (wk_some (wk_some (wk_some (wk_none wk_nil)))))))))))) (fun h => z_goto (tgt := 178) (off := 59) (by decide +kernel) (by decide) <| z_iinc (pc' := 181) (j := 5) (n := 1) (x := v5) (ls' := [some (.ref s), some (iv x), some (iv y), some (iv z), some (iv v4), some (iv (v5 + 1)), some (iv s0)]) (by decide +kernel) rfl (by decide) rfl rfl <| z_goto (tgt := 55) (off := -126) (by decide +kernel) (by decide) <| (ZP.wk (wk_some (wk_some (wk_some (wk_some (wk_some (wk_some (wk_none wk_nil))))))) h)))))))
set_option maxRecDepth 20000 in
theorem b_X5_putNext_170 {G : Gx} {Q : Rv → Zm → Prop} {Z : Zm} {e : Nat} {s : Nat} {b : Nat} {n : Nat} {x : Int} {y : Int} {z : Int} {v4 : Int} {v5 : Int} (hs : atLike Z s b n) (hb : atBook Z b) (hn : atNet Z n) (he : 0 ≤ e) (h : ((zIx v5 20) ∧ ∀ Z2, Z2 = zSI Z (s + 1) (zu (zI Z (s + 1)) v5.toNat (-1)) → ZP G (e + 4) m_X5_putNext 55 [some (.ref s), some (iv x), some (iv y), some (iv z), some (iv v4), some (iv (v5 + 1)), none] [] Z2 Q)) : ZP G (e + 4) m_X5_putNext 170 [some (.ref s), some (iv x), some (iv y), some (iv z), some (iv v4), some (iv v5), none] [] Z Q := z_aload_n (pc' := 171) (j := 0) (by decide +kernel) rfl rfl <| z_getR (pc' := 174) (idx := 9) (ci := 5) (f := 2) (by decide +kernel) f_RX5_9 rfl hs.o.1 hs.o.2 hs.r2 rfl <| z_iload (pc' := 176) (j := 5) (by decide +kernel) rfl rfl <| z_iconst (pc' := 177) (n := -1) (by decide +kernel) rfl <| h.elim fun c1 h => z_iastore (pc' := 178) (by decide +kernel) hs.a2 c1 rfl <| have h := h _ rfl; z_iinc (pc' := 181) (j := 5) (n := 1) (x := v5) (ls' := [some (.ref s), some (iv x), some (iv y), some (iv z), some (iv v4), some (iv (v5 + 1)), none]) (by decide +kernel) rfl (by decide) rfl rfl <| z_goto (tgt := 55) (off := -126) (by decide +kernel) (by decide) <| h
/-! ===== like hands: the class' search by the machine ===== -/
def lCx (Z : Zm) (k : Bk) (o : Nat → Nat) (H y B0 : Int) : Prop := atLike Z 277 1 233 ∧ atBook Z 1 ∧ atNet Z 233 ∧ nS Z 233 k o ∧ kOk k ∧ (∀ t, t < kN k → zI Z 3 t = kF k 0 t) ∧ zI Z 233 3 = eEnd k ∧ (∀ t, t < kN k → zI Z 240 t = eL k t) ∧ zI Z 277 3 = H ∧ zI Z 277 4 = y ∧ zI Z 277 6 = B0 ∧ (1 ≤ H ∧ H ≤ 4) ∧ (y = 0 ∨ y = 1) ∧ (0 ≤ B0 ∧ B0 ≤ 100000)
theorem lCx.s {Z : Zm} {k : Bk} {o : Nat → Nat} {H y B0 : Int} {f g : Nat → Int} (h : lCx Z k o H y B0) (hg : ∀ i, i ≠ 5 → g i = zI Z 277 i) : lCx (zSI (zSI Z 278 f) 277 g) k o H y B0 := by
  obtain ⟨h1, h2, h3, h4, h5, h6, h7, h8, h9, h10, h11, h12⟩ := h
  have e : ∀ a, a < 277 → zI (zSI (zSI Z 278 f) 277 g) a = zI Z a := fun a q => by rw [zI_other (by omega), zI_other (by omega)]
  refine ⟨h1, h2, h3, ?_, h5, fun t ht => by rw [e 3 (by omega)]; exact h6 t ht, by rw [e 233 (by omega)]; exact h7, fun t ht => by rw [e 240 (by omega)]; exact h8 t ht, by rw [zI_same, hg 3 (by omega)]; exact h9, by rw [zI_same, hg 4 (by omega)]; exact h10, by rw [zI_same, hg 6 (by omega)]; exact h11, h12⟩
  unfold nS at *
  rw [e 233 (by omega), e (233 + 1) (by omega), e (233 + 3) (by omega), e (233 + 4) (by omega), e (233 + 5) (by omega)]
  exact h4
def lSt (Z : Zm) (k : Bk) (b : Nat → Int) (time : Int) : Prop := (∀ t, t < kN k → zI Z 278 t = pe k b t) ∧ (0 ≤ time ∧ time ≤ 3000) ∧ ∀ t, t < kN k → b t = -1 ∨ (0 ≤ b t ∧ b t ≤ time)
theorem lSt.r {Z : Zm} {k : Bk} {b : Nat → Int} {time : Int} (ho : kOk k) (h : lSt Z k b time) {t : Nat} (ht : t < kN k) : -1 ≤ pe k b t ∧ pe k b t ≤ time + 60 := by
  have a := h.2.2 t ht
  have l := ho.len ht
  have t0 := h.2.1
  unfold pe
  by_cases e : b t = -1
  · rw [if_pos e]
    omega
  · rw [if_neg e]
    omega
theorem s_lcountAt {G : Gx} {Z : Zm} {k : Bk} {o : Nat → Nat} {H y B0 time x : Int} {b : Nat → Int} (h : lCx Z k o H y B0) (hs : lSt Z k b time) (hx : R32 x) : ZM G 0 m_X5_countAt [.ref 277, iv x] Z (fun r W => r = .inl (some (iv (cE k b x))) ∧ W = Z) := by
  obtain ⟨h1, h2, h3, h4, ho, -⟩ := h
  have hN := ho.n
  have e1 : zI Z 233 1 = (kN k : Int) := h4.1
  refine e_X5_countAt h1 h2 h3 ?_
  suffices key : ∀ j, j ≤ kN k → ZP G 0 m_X5_countAt 4 [some (.ref 277), some (iv x), some (iv (zsum (fun t => ci (x < pe k b t)) j)), some (iv (j : Int))] [] Z (fun r W => r = .inl (some (iv (cE k b x))) ∧ W = Z) from key 0 (Nat.zero_le _)
  refine am_up (n := kN k) fun j hj ih => ?_
  refine b_X5_countAt_4 h1 h2 h3 ⟨by omega, by rw [e1]; omega, ?_⟩
  rw [e1]
  by_cases c : j < kN k
  · have r := hs.r ho c
    have t0 := hs.2.1
    rw [if_neg (by omega), Int.toNat_natCast, show zI Z (277 + 1) j = pe k b j from hs.1 j c]
    refine ⟨zIx_nat (by omega) (by omega), by omega, hx, ?_⟩
    have h9 := ih c
    rw [zsum_s] at h9
    by_cases d : pe k b j ≤ x
    · rw [if_pos d]
      rw [ci_f (Q := x < pe k b j) (by omega), Int.add_zero] at h9
      exact h9
    · rw [if_neg d]
      rw [ci_p (Q := x < pe k b j) (by omega)] at h9
      exact h9
  · rw [if_pos (by omega), show j = kN k by omega]
    exact ⟨rfl, rfl⟩
def isNd (k : Bk) (b : Nat → Int) (x : Int) (n : Nat) (v : Int) : Prop := (v = 2147483647 ∧ ∀ t, t < n → pe k b t ≤ x) ∨ (x < v ∧ (∃ t, t < n ∧ pe k b t = v) ∧ ∀ t, t < n → x < pe k b t → v ≤ pe k b t)
theorem s_lnextEnd {G : Gx} {Z : Zm} {k : Bk} {o : Nat → Nat} {H y B0 time x : Int} {b : Nat → Int} (h : lCx Z k o H y B0) (hs : lSt Z k b time) (hx : R32 x) : ZM G 1 m_X5_nextEnd [.ref 277, iv x] Z (fun r W => (∃ v, r = .inl (some (iv v)) ∧ isNd k b x (kN k) v) ∧ W = Z) := by
  obtain ⟨h1, h2, h3, h4, ho, -⟩ := h
  have hN := ho.n
  have e1 : zI Z 233 1 = (kN k : Int) := h4.1
  refine e_X5_nextEnd h1 h2 h3 ?_
  suffices key : ∀ j, j ≤ kN k → ∀ v, isNd k b x j v → ZP G 1 m_X5_nextEnd 5 [some (.ref 277), some (iv x), some (iv v), some (iv (j : Int))] [] Z (fun r W => (∃ v, r = .inl (some (iv v)) ∧ isNd k b x (kN k) v) ∧ W = Z) from key 0 (Nat.zero_le _) _ (Or.inl ⟨rfl, fun t ht => absurd ht (Nat.not_lt_zero _)⟩)
  refine am_up (n := kN k) fun j hj ih v hv => ?_
  refine b_X5_nextEnd_5 h1 h2 h3 ⟨by omega, by rw [e1]; omega, ?_⟩
  rw [e1]
  by_cases c : j < kN k
  · have r := hs.r ho c
    have t0 := hs.2.1
    have vr : R32 v := by
      rcases hv with ⟨q, -⟩ | ⟨q, ⟨t, t1, t2⟩, -⟩
      · omega
      · have := hs.r ho (t := t) (by omega)
        omega
    rw [if_neg (by omega), Int.toNat_natCast, show zI Z (277 + 1) j = pe k b j from hs.1 j c]
    refine ⟨zIx_nat (by omega) (by omega), by omega, hx, fun _ => ⟨vr, trivial⟩, ?_⟩
    by_cases d : pe k b j ≤ x
    · rw [if_pos d]
      refine ih c v ?_
      rcases hv with ⟨q, q2⟩ | ⟨q, ⟨t, t1, t2⟩, q3⟩
      · refine Or.inl ⟨q, fun t ht => ?_⟩
        by_cases e : t = j
        · rw [e]
          exact d
        · exact q2 t (by omega)
      · refine Or.inr ⟨q, ⟨t, by omega, t2⟩, fun u hu g => ?_⟩
        by_cases e : u = j
        · rw [e] at g
          omega
        · exact q3 u (by omega) g
    · rw [if_neg d]
      refine ih c _ (Or.inr ?_)
      rcases hv with ⟨q, q2⟩ | ⟨q, ⟨t, t1, t2⟩, q3⟩
      · rw [show min v (pe k b j) = pe k b j by omega]
        refine ⟨by omega, ⟨j, by omega, rfl⟩, fun u hu g => ?_⟩
        by_cases e : u = j
        · rw [e]
          exact Int.le_refl _
        · have := q2 u (by omega)
          omega
      · refine ⟨by omega, ?_, fun u hu g => ?_⟩
        · by_cases g : v ≤ pe k b j
          · exact ⟨t, by omega, by omega⟩
          · exact ⟨j, by omega, by omega⟩
        · by_cases e : u = j
          · rw [e]
            omega
          · have := q3 u (by omega) g
            omega
  · rw [if_pos (by omega)]
    rw [show j = kN k by omega] at hv
    exact ⟨⟨v, rfl, hv⟩, rfl⟩
theorem s_lastOfEnds {G : Gx} {Z : Zm} {k : Bk} {o : Nat → Nat} {H y B0 time : Int} {b : Nat → Int} (h : lCx Z k o H y B0) (hs : lSt Z k b time) : ZM G 1 m_X5_lastOfEnds [.ref 277] Z (fun r W => r = .inl (some (iv (zmax (pe k b) (kN k)))) ∧ W = Z) := by
  obtain ⟨h1, h2, h3, h4, ho, -⟩ := h
  have hN := ho.n
  have e1 : zI Z 233 1 = (kN k : Int) := h4.1
  have t0 := hs.2.1
  refine e_X5_lastOfEnds h1 h2 h3 ?_
  suffices key : ∀ j, j ≤ kN k → ZP G 1 m_X5_lastOfEnds 4 [some (.ref 277), some (iv (zmax (pe k b) j)), some (iv (j : Int))] [] Z (fun r W => r = .inl (some (iv (zmax (pe k b) (kN k)))) ∧ W = Z) from key 0 (Nat.zero_le _)
  refine am_up (n := kN k) fun j hj ih => ?_
  refine b_X5_lastOfEnds_4 h1 h2 h3 ⟨by omega, by rw [e1]; omega, ?_⟩
  rw [e1]
  by_cases c : j < kN k
  · have r := hs.r ho c
    have m0 := zmax_0 (pe k b) j
    have m1 : zmax (pe k b) j ≤ time + 60 := zmax_le (by omega) fun i hi => (hs.r ho (by omega)).2
    rw [if_neg (by omega), Int.toNat_natCast, show zI Z (277 + 1) j = pe k b j from hs.1 j c]
    exact ⟨zIx_nat (by omega) (by omega), by omega, by omega, ih c⟩
  · rw [if_pos (by omega), show j = kN k by omega]
    exact ⟨rfl, rfl⟩
theorem s_beginOf {G : Gx} {Z : Zm} {k : Bk} {o : Nat → Nat} {H y B0 time : Int} {b : Nat → Int} {t : Nat} (h : lCx Z k o H y B0) (hs : lSt Z k b time) (ht : t < kN k) : ZM G 2 m_X5_beginOf [.ref 277, iv (t : Int), iv time] Z (fun r W => (∃ v, r = .inl (some (iv v)) ∧ isBg k H b t time v ∧ -1 ≤ v ∧ v ≤ time + 90) ∧ W = Z) := by
  have hh := h
  obtain ⟨h1, h2, h3, h4, ho, -, -, -, hH, -, -, hH4, -⟩ := h
  have hN := ho.n
  have hM := ho.m
  have t0 := hs.2.1
  have e1 : zI Z 233 1 = (kN k : Int) := h4.1
  have e2 : zI Z 233 2 = (kM k : Int) := h4.2.1
  have rt := hs.r ho ht
  generalize hR : (fun (r : Rv) (W : Zm) => (∃ v, r = .inl (some (iv v)) ∧ isBg k H b t time v ∧ -1 ≤ v ∧ v ≤ time + 90) ∧ W = Z) = R
  have none : (b t ≠ -1 ∨ ∃ j, j < kM k ∧ kL k j = t ∧ b (kE k j) = -1) → R (.inl (some (iv (-1)))) Z := fun q => by
    rw [← hR]
    exact ⟨⟨-1, rfl, Or.inl ⟨rfl, q⟩, Int.le_refl _, by omega⟩, rfl⟩
  refine e_X5_beginOf h1 h2 h3 ?_
  rw [Int.toNat_natCast, show zI Z (277 + 1) t = pe k b t from hs.1 t ht]
  refine ⟨zIx_nat (by omega) (by omega), by omega, ?_⟩
  by_cases c0 : b t = -1
  case neg =>
    have pt := pe_p c0 (k := k)
    have a := hs.2.2 t ht
    have l := ho.len ht
    rw [if_neg (by omega)]
    exact none (Or.inl c0)
  rw [if_pos (pe_f c0)]
  suffices lets : ∀ j, j ≤ kM k → ∀ v, (time ≤ v ∧ v ≤ time + 90 ∧ (∀ i, i < j → kL k i = t → b (kE k i) ≠ -1 ∧ lateB k b i ≤ v) ∧ (v = time ∨ ∃ i, i < j ∧ kL k i = t ∧ v = lateB k b i)) → ZP G 2 m_X5_beginOf 17 [some (.ref 277), some (iv (t : Int)), Option.none, some (iv v), some (iv (j : Int)), Option.none] [] Z R from lets 0 (Nat.zero_le _) time ⟨Int.le_refl _, by omega, fun i hi => absurd hi (Nat.not_lt_zero _), Or.inl rfl⟩
  refine am_up (n := kM k) fun j hj ih v hv => ?_
  refine b_X5_beginOf_17 h1 h2 h3 ⟨by omega, by rw [e2]; omega, ?_⟩
  rw [e2]
  by_cases c : j < kM k
  · obtain ⟨g1, g2, g3⟩ := h4.2.2.2 j c
    have hE := ho.e c
    have hl := ho.l c
    have hg := ho.g c
    have re := hs.r ho hE
    rw [if_neg (by omega), Int.toNat_natCast, show zI Z (233 + 4) j = (kL k j : Int) from g2, show zI Z (233 + 3) j = (kE k j : Int) from g1, show zI Z (233 + 5) j = kG k j from g3, Int.toNat_natCast, show zI Z (277 + 1) (kE k j) = pe k b (kE k j) from hs.1 _ hE]
    refine ⟨zIx_nat (by omega) (by omega), by omega, by omega, ?_⟩
    by_cases d : kL k j = t
    · rw [if_pos (by omega)]
      refine ⟨zIx_nat (by omega) (by omega), by omega, ?_⟩
      by_cases e : b (kE k j) = -1
      · rw [if_pos (pe_f e)]
        exact none (Or.inr ⟨j, c, d, e⟩)
      · have pt := pe_p e (k := k)
        have a := hs.2.2 _ hE
        have l := ho.len hE
        have lb : lateB k b j = b (kE k j) + kF k 0 (kE k j) + kG k j := rfl
        rw [if_neg (by omega)]
        refine ⟨by omega, by omega, ih c _ ⟨by omega, by omega, fun i hi q => ?_, ?_⟩⟩
        · by_cases g : i = j
          · rw [g]
            exact ⟨e, by omega⟩
          · have := hv.2.2.1 i (by omega) q
            exact ⟨this.1, by omega⟩
        · by_cases g : v ≤ pe k b (kE k j) + kG k j
          · exact Or.inr ⟨j, by omega, d, by omega⟩
          · rcases hv.2.2.2 with q | ⟨i, i1, i2, i3⟩
            · exact Or.inl (by omega)
            · exact Or.inr ⟨i, by omega, i2, by omega⟩
    · rw [if_neg (by omega)]
      refine ih c v ⟨hv.1, hv.2.1, fun i hi q => ?_, ?_⟩
      · by_cases g : i = j
        · rw [g] at q
          exact absurd q d
        · exact hv.2.2.1 i (by omega) q
      · rcases hv.2.2.2 with q | ⟨i, i1, i2, i3⟩
        · exact Or.inl q
        · exact Or.inr ⟨i, by omega, i2, i3⟩
  · rw [if_pos (by omega)]
    rw [show j = kM k by omega] at hv
    obtain ⟨v1, v2, v3, v4⟩ := hv
    have lq : ∀ x, v ≤ x → letQ k b t x := fun x hx i hi q => by
      have := v3 i hi q
      exact ⟨this.1, by omega⟩
    have vm : ∀ y, time ≤ y → letQ k b t y → v ≤ y := fun y y1 y2 => by
      rcases v4 with q | ⟨i, i1, i2, i3⟩
      · omega
      · rw [i3]
        exact (y2 i i1 i2).2
    have fin : ∀ x, v ≤ x → x ≤ time + 90 → cE k b x < H → (∀ y, v ≤ y → y < x → H ≤ cE k b y) → R (.inl (some (iv x))) Z := fun x x1 x2 x3 x4 => by
      rw [← hR]
      exact ⟨⟨x, rfl, Or.inr ⟨by omega, c0, lq x x1, by omega, x3, fun y y1 y2 y3 => x4 y (vm y y1 y2) y3⟩, by omega, x2⟩, rfl⟩
    suffices turn : ∀ j, j ≤ kN k → ∀ x, (v ≤ x ∧ x ≤ time + 90 ∧ cE k b x + (j : Int) ≤ (kN k : Int) ∧ ∀ y, v ≤ y → y < x → H ≤ cE k b y) → ZP G 2 m_X5_beginOf 95 [some (.ref 277), Option.none, Option.none, some (iv x), some (iv (j : Int)), Option.none] [] Z R from turn 0 (Nat.zero_le _) v ⟨Int.le_refl _, v2, by have := (cE_r k b v).2; omega, fun y y1 y2 => by omega⟩
    refine am_up (n := kN k) fun j hj ih x hx => ?_
    obtain ⟨x1, x2, x3, x4⟩ := hx
    have cr := cE_r k b x
    refine b_X5_beginOf_95 h1 h2 h3 ⟨by omega, by rw [e1]; omega, ?_⟩
    rw [e1]
    by_cases c : j < kN k
    · rw [if_neg (by omega)]
      refine ((s_lcountAt hh hs (by omega)).deeper (by omega)).mono ?_
      rintro r W ⟨rfl, hW⟩
      obtain rfl := hW.symm
      refine b_X5_beginOf_112 h1 h2 h3 ⟨by omega, by rw [hH]; omega, ?_⟩
      rw [hH]
      by_cases d : cE k b x < H
      · rw [if_pos d]
        exact fin x x1 x2 d x4
      · rw [if_neg d]
        refine (s_lnextEnd hh hs (by omega)).mono ?_
        rintro r W ⟨⟨w, rfl, hw⟩, hW⟩
        obtain rfl := hW.symm
        refine b_X5_beginOf_124 h1 h2 h3 ?_
        rcases hw with ⟨-, w2⟩ | ⟨w1, ⟨u, u1, u2⟩, w3⟩
        · exfalso
          have : cE k b x = 0 := by
            unfold cE
            rw [zsum_eq (g := fun _ => 0) fun t ht => ci_f fun q => by have := w2 t ht; omega, zsum_0]
          omega
        · have ru := hs.r ho u1
          refine ih c w ⟨by omega, by omega, ?_, fun y y1 y2 => ?_⟩
          · have a := zsum_lt (f := fun t => ci (w < pe k b t)) (g := fun t => ci (x < pe k b t)) (n := kN k) (i := u) (fun t _ => ci_le fun q => by omega) u1 (by
              show ci (w < pe k b u) < ci (x < pe k b u)
              rw [ci_f (by omega), ci_p (by omega)]
              decide)
            have a : cE k b w + 1 ≤ cE k b x := a
            omega
          · by_cases g : y < x
            · exact x4 y y1 g
            · have : cE k b x ≤ cE k b y := zsum_le fun t ht => ci_le fun q => by
                have := w3 t ht q
                omega
              omega
    · rw [if_pos (by omega)]
      exact fin x x1 x2 (by omega) x4
def isFb (k : Bk) (H : Int) (b : Nat → Int) (time : Int) (n : Nat) (v : Int) : Prop := (∀ t w, t < n → isBg k H b t time w → w ≠ -1 → v ≤ w) ∧ (v = 2147483647 ∨ ∃ t w, t < n ∧ isBg k H b t time w ∧ w ≠ -1 ∧ v = w)
theorem s_firstBegin {G : Gx} {Z : Zm} {k : Bk} {o : Nat → Nat} {H y B0 time : Int} {b : Nat → Int} (h : lCx Z k o H y B0) (hs : lSt Z k b time) : ZM G 3 m_X5_firstBegin [.ref 277, iv time] Z (fun r W => (∃ v, r = .inl (some (iv v)) ∧ isFb k H b time (kN k) v ∧ R32 v) ∧ W = Z) := by
  have hh := h
  obtain ⟨h1, h2, h3, h4, ho, -⟩ := h
  have hN := ho.n
  have t0 := hs.2.1
  have e1 : zI Z 233 1 = (kN k : Int) := h4.1
  refine e_X5_firstBegin h1 h2 h3 ?_
  suffices key : ∀ j, j ≤ kN k → ∀ v, isFb k H b time j v → R32 v → ZP G 3 m_X5_firstBegin 5 [some (.ref 277), some (iv time), some (iv v), some (iv (j : Int)), none] [] Z (fun r W => (∃ v, r = .inl (some (iv v)) ∧ isFb k H b time (kN k) v ∧ R32 v) ∧ W = Z) from key 0 (Nat.zero_le _) _ ⟨fun t w ht => absurd ht (Nat.not_lt_zero _), Or.inl rfl⟩ (by decide)
  refine am_up (n := kN k) fun j hj ih v hv vr => ?_
  refine b_X5_firstBegin_5 h1 h2 h3 ⟨by omega, by rw [e1]; omega, ?_⟩
  rw [e1]
  by_cases c : j < kN k
  · rw [if_neg (by omega)]
    refine (s_beginOf hh hs c).mono ?_
    rintro r W ⟨⟨w, rfl, hw, w1, w2⟩, hW⟩
    obtain rfl := hW.symm
    refine b_X5_firstBegin_22 h1 h2 h3 ⟨by omega, fun _ => ⟨vr, trivial⟩, ?_⟩
    by_cases d : w = -1
    · rw [if_pos d]
      refine ih c v ⟨fun t x ht hx xn => ?_, ?_⟩ vr
      · by_cases e : t = j
        · rw [e] at hx
          exact absurd (isBg_eq hx hw) (fun q => xn (q.trans d))
        · exact hv.1 t x (by omega) hx xn
      · rcases hv.2 with q | ⟨t, x, q1, q2⟩
        · exact Or.inl q
        · exact Or.inr ⟨t, x, by omega, q2⟩
    · rw [if_neg d]
      have low : ∀ x, x ≤ v → x ≤ w → ∀ t u, t < j + 1 → isBg k H b t time u → u ≠ -1 → x ≤ u := fun x x1 x2 t u ht hu un => by
        by_cases e : t = j
        · rw [e] at hu
          rw [isBg_eq hu hw]
          exact x2
        · have := hv.1 t u (by omega) hu un
          omega
      by_cases g : v ≤ w
      · rw [if_pos g]
        refine ih c v ⟨low v (Int.le_refl _) g, ?_⟩ vr
        rcases hv.2 with q | ⟨t, x, q1, q2⟩
        · exact Or.inl q
        · exact Or.inr ⟨t, x, by omega, q2⟩
      · rw [if_neg g]
        exact ih c w ⟨low w (by omega) (Int.le_refl _), Or.inr ⟨j, w, by omega, hw, d, rfl⟩⟩ (by omega)
  · rw [if_pos (by omega)]
    rw [show j = kN k by omega] at hv
    exact ⟨⟨v, rfl, hv, vr⟩, rfl⟩
