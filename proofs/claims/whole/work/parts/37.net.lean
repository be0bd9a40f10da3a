set_option maxRecDepth 20000 in
theorem e_X7_slackOf {G : Gx} {Q : Rv → Zm → Prop} {Z : Zm} {n : Nat} {t : Int} (hn : atNet Z n) (h : ((zIx t 20) ∧ Q (.inl (some (iv ((zI Z (n + 7) t.toNat) - (zI Z (n + 6) t.toNat))))) Z)) : ZM G 0 m_X7_slackOf [.ref n, iv t] Z Q := ZM.of [some (.ref n), some (iv t)] rfl <| z_aload_n (pc' := 1) (j := 0) (by decide +kernel) rfl rfl <| z_getR (pc' := 4) (idx := 30) (ci := 7) (f := 10) (by decide +kernel) f_RX7_30 rfl hn.o.1 hn.o.2 hn.r10 rfl <| z_iload_n (pc' := 5) (j := 1) (by decide +kernel) rfl rfl <| h.elim fun c1 h => z_iaload (pc' := 6) (by decide +kernel) hn.a10 c1 rfl <| z_aload_n (pc' := 7) (j := 0) (by decide +kernel) rfl rfl <| z_getR (pc' := 10) (idx := 27) (ci := 7) (f := 9) (by decide +kernel) f_RX7_27 rfl hn.o.1 hn.o.2 hn.r9 rfl <| z_iload_n (pc' := 11) (j := 1) (by decide +kernel) rfl rfl <| z_iaload (pc' := 12) (by decide +kernel) hn.a9 c1 rfl <| z_isub (pc' := 13) (by decide +kernel) rfl <| z_ireturn (by decide +kernel) ⟨_, rfl, rfl⟩ h
set_option maxRecDepth 20000 in
theorem e_X7_restOf {G : Gx} {Q : Rv → Zm → Prop} {Z : Zm} {n : Nat} {t : Int} (hn : atNet Z n) (h : ((zIx t 20) ∧ Q (.inl (some (iv ((zI Z n 3) - (zI Z (n + 7) t.toNat))))) Z)) : ZM G 0 m_X7_restOf [.ref n, iv t] Z Q := ZM.of [some (.ref n), some (iv t)] rfl <| z_aload_n (pc' := 1) (j := 0) (by decide +kernel) rfl rfl <| z_getI (pc' := 4) (idx := 79) (ci := 7) (f := 3) (by decide +kernel) f_RX7_79 rfl hn.o.1 hn.o.2 rfl <| z_aload_n (pc' := 5) (j := 0) (by decide +kernel) rfl rfl <| z_getR (pc' := 8) (idx := 30) (ci := 7) (f := 10) (by decide +kernel) f_RX7_30 rfl hn.o.1 hn.o.2 hn.r10 rfl <| z_iload_n (pc' := 9) (j := 1) (by decide +kernel) rfl rfl <| h.elim fun c1 h => z_iaload (pc' := 10) (by decide +kernel) hn.a10 c1 rfl <| z_isub (pc' := 11) (by decide +kernel) rfl <| z_ireturn (by decide +kernel) ⟨_, rfl, rfl⟩ h
theorem s_slackOf {G : Gx} {Z : Zm} {n : Nat} {t : Int} (hn : atNet Z n) (ht : zIx t 20) : ZM G 0 m_X7_slackOf [.ref n, iv t] Z (fun r Z' => r = .inl (some (iv (zI Z (n + 7) t.toNat - zI Z (n + 6) t.toNat))) ∧ Z' = Z) := e_X7_slackOf hn ⟨ht, rfl, rfl⟩
theorem s_restOf {G : Gx} {Z : Zm} {n : Nat} {t : Int} (hn : atNet Z n) (ht : zIx t 20) : ZM G 0 m_X7_restOf [.ref n, iv t] Z (fun r Z' => r = .inl (some (iv (zI Z n 3 - zI Z (n + 7) t.toNat))) ∧ Z' = Z) := e_X7_restOf hn ⟨ht, rfl, rfl⟩
set_option maxRecDepth 20000 in
theorem e_X7_leastAfter {G : Gx} {Q : Rv → Zm → Prop} {Z : Zm} {n : Nat} {t : Int} (hn : atNet Z n) (h : (ZP G 1 m_X7_leastAfter 7 [some (.ref n), some (iv t), some (iv (zI Z n 3)), some (iv 0)] [] Z Q)) : ZM G 1 m_X7_leastAfter [.ref n, iv t] Z Q := ZM.of [some (.ref n), some (iv t), none, none] rfl <| z_aload_n (pc' := 1) (j := 0) (by decide +kernel) rfl rfl <| z_getI (pc' := 4) (idx := 79) (ci := 7) (f := 3) (by decide +kernel) f_RX7_79 rfl hn.o.1 hn.o.2 rfl <| z_istore_n (pc' := 5) (j := 2) (ls' := [some (.ref n), some (iv t), some (iv (zI Z n 3)), none]) (by decide +kernel) (by decide) rfl rfl <| z_iconst (pc' := 6) (n := 0) (by decide +kernel) rfl <| z_istore_n (pc' := 7) (j := 3) (ls' := [some (.ref n), some (iv t), some (iv (zI Z n 3)), some (iv 0)]) (by decide +kernel) (by decide) rfl rfl <| h
set_option maxRecDepth 20000 in
theorem b_X7_leastAfter_7 {G : Gx} {Q : Rv → Zm → Prop} {Z : Zm} {n : Nat} {t : Int} {v2 : Int} {v3 : Int} (hn : atNet Z n) (h : ((R32 v3) ∧ (R32 (zI Z n 2)) ∧ (if (zI Z n 2) ≤ v3 then (Q (.inl (some (iv v2))) Z) else ((zIx v3 50) ∧ (R32 (zI Z (n + 3) v3.toNat)) ∧ (R32 t) ∧ ((zI Z (n + 3) v3.toNat) = t → (zIx (zI Z (n + 4) v3.toNat) 20) ∧ (R32 v2) ∧ (R32 ((zI Z (n + 6) (zI Z (n + 4) v3.toNat).toNat) - (zI Z (n + 5) v3.toNat))) ∧ True) ∧ ZP G 1 m_X7_leastAfter 7 [some (.ref n), some (iv t), some (iv (if (zI Z (n + 3) v3.toNat) = t then min v2 ((zI Z (n + 6) (zI Z (n + 4) v3.toNat).toNat) - (zI Z (n + 5) v3.toNat)) else v2)), some (iv (v3 + 1))] [] Z Q)))) : ZP G 1 m_X7_leastAfter 7 [some (.ref n), some (iv t), some (iv v2), some (iv v3)] [] Z Q := z_iload_n (pc' := 8) (j := 3) (by decide +kernel) rfl rfl <| z_aload_n (pc' := 9) (j := 0) (by decide +kernel) rfl rfl <| z_getI (pc' := 12) (idx := 53) (ci := 7) (f := 2) (by decide +kernel) f_RX7_53 rfl hn.o.1 hn.o.2 rfl <| h.elim fun c1 h => h.elim fun c2 h => z_icmp_ge (pc' := 15) (tgt := 54) (off := 42) (by decide +kernel) (by decide) rfl c1 c2 (am_ite h (fun h => z_iload_n (pc' := 55) (j := 2) (by decide +kernel) rfl rfl <| z_ireturn (by decide +kernel) ⟨_, rfl, rfl⟩ h) (fun h => z_aload_n (pc' := 16) (j := 0) (by decide +kernel) rfl rfl <| z_getR (pc' := 19) (idx := 18) (ci := 7) (f := 6) (by decide +kernel) f_RX7_18 rfl hn.o.1 hn.o.2 hn.r6 rfl <| z_iload_n (pc' := 20) (j := 3) (by decide +kernel) rfl rfl <| h.elim fun c13 h => z_iaload (pc' := 21) (by decide +kernel) hn.a6 c13 rfl <| z_iload_n (pc' := 22) (j := 1) (by decide +kernel) rfl rfl <| h.elim fun c14 h => h.elim fun c15 h => h.elim fun g19 h => am_use (fun k21 => z_icmp_ne (pc' := 25) (tgt := 48) (off := 26) (by decide +kernel) (by decide) rfl c14 c15 (am_ite2 (fun q22 => have h := g19 q22; z_iload_n (pc' := 26) (j := 2) (by decide +kernel) rfl rfl <| z_aload_n (pc' := 27) (j := 0) (by decide +kernel) rfl rfl <| z_getR (pc' := 30) (idx := 27) (ci := 7) (f := 9) (by decide +kernel) f_RX7_27 rfl hn.o.1 hn.o.2 hn.r9 rfl <| z_aload_n (pc' := 31) (j := 0) (by decide +kernel) rfl rfl <| z_getR (pc' := 34) (idx := 21) (ci := 7) (f := 7) (by decide +kernel) f_RX7_21 rfl hn.o.1 hn.o.2 hn.r7 rfl <| z_iload_n (pc' := 35) (j := 3) (by decide +kernel) rfl rfl <| z_iaload (pc' := 36) (by decide +kernel) hn.a7 c13 rfl <| h.elim fun c16 h => z_iaload (pc' := 37) (by decide +kernel) hn.a9 c16 rfl <| z_aload_n (pc' := 38) (j := 0) (by decide +kernel) rfl rfl <| z_getR (pc' := 41) (idx := 24) (ci := 7) (f := 8) (by decide +kernel) f_RX7_24 rfl hn.o.1 hn.o.2 hn.r8 rfl <| z_iload_n (pc' := 42) (j := 3) (by decide +kernel) rfl rfl <| z_iaload (pc' := 43) (by decide +kernel) hn.a8 c13 rfl <| z_isub (pc' := 44) (by decide +kernel) rfl <| h.elim fun c17 h => h.elim fun c18 h => z_min (pc' := 47) (idx := 99) (by decide +kernel) (amM5 137 rfl (by decide +kernel)) (amM3 35 rfl (by decide +kernel)) (amM1 21 rfl (by decide +kernel)) (amM3 36 rfl (by decide +kernel)) (by omega) (am_le rfl) c17 c18 rfl <| z_istore_n (pc' := 48) (j := 2) (ls' := [some (.ref n), some (iv t), some (iv (min v2 ((zI Z (n + 6) (zI Z (n + 4) v3.toNat).toNat) - (zI Z (n + 5) v3.toNat)))), some (iv v3)]) (by decide +kernel) (by decide) rfl rfl <| (am_jp (P := fun z9 => ZP G 1 m_X7_leastAfter 48 [some (.ref n), some (iv t), some (iv z9), some (iv v3)] [] _ Q) (if_pos q22) k21)) (fun q22 => (am_jp (P := fun z9 => ZP G 1 m_X7_leastAfter 48 [some (.ref n), some (iv t), some (iv z9), some (iv v3)] [] _ Q) (if_neg q22) k21)))) <| z_iinc (pc' := 51) (j := 3) (n := 1) (x := v3) (ls' := [some (.ref n), some (iv t), some (iv (if (zI Z (n + 3) v3.toNat) = t then min v2 ((zI Z (n + 6) (zI Z (n + 4) v3.toNat).toNat) - (zI Z (n + 5) v3.toNat)) else v2)), some (iv (v3 + 1))]) (by decide +kernel) rfl (by decide) rfl rfl <| z_goto (tgt := 7) (off := -44) (by decide +kernel) (by decide) <| h))
set_option maxRecDepth 20000 in
theorem e_X7_greatestAhead {G : Gx} {Q : Rv → Zm → Prop} {Z : Zm} {n : Nat} {u : Nat} {t : Int} (hn : atNet Z n) (hu : zA Z u 100 20) (h : (ZP G 1 m_X7_greatestAhead 5 [some (.ref n), some (iv t), some (.ref u), some (iv 0), some (iv 0), none] [] Z Q)) : ZM G 1 m_X7_greatestAhead [.ref n, iv t, .ref u] Z Q := ZM.of [some (.ref n), some (iv t), some (.ref u), none, none, none] rfl <| z_iconst (pc' := 1) (n := 0) (by decide +kernel) rfl <| z_istore_n (pc' := 2) (j := 3) (ls' := [some (.ref n), some (iv t), some (.ref u), some (iv 0), none, none]) (by decide +kernel) (by decide) rfl rfl <| z_iconst (pc' := 3) (n := 0) (by decide +kernel) rfl <| z_istore (pc' := 5) (j := 4) (ls' := [some (.ref n), some (iv t), some (.ref u), some (iv 0), some (iv 0), none]) (by decide +kernel) (by decide) rfl rfl <| h
set_option maxRecDepth 20000 in
theorem b_X7_greatestAhead_5 {G : Gx} {Q : Rv → Zm → Prop} {Z : Zm} {n : Nat} {u : Nat} {t : Int} {v3 : Int} {v4 : Int} {o5 : Option Value} (hn : atNet Z n) (hu : zA Z u 100 20) (h : ((R32 v4) ∧ (R32 (zI Z n 2)) ∧ (if (zI Z n 2) ≤ v4 then (Q (.inl (some (iv v3))) Z) else ((zIx v4 50) ∧ (R32 (zI Z (n + 4) v4.toNat)) ∧ (R32 t) ∧ (if (zI Z (n + 4) v4.toNat) = t then ((zIx (zI Z (n + 3) v4.toNat) 20) ∧ (R32 v3) ∧ (R32 (((zI Z (n + 7) (zI Z (n + 3) v4.toNat).toNat) + (zI Z u (zI Z (n + 3) v4.toNat).toNat)) + (zI Z (n + 5) v4.toNat))) ∧ ZP G 1 m_X7_greatestAhead 5 [some (.ref n), some (iv t), some (.ref u), some (iv (max v3 (((zI Z (n + 7) (zI Z (n + 3) v4.toNat).toNat) + (zI Z u (zI Z (n + 3) v4.toNat).toNat)) + (zI Z (n + 5) v4.toNat)))), some (iv (v4 + 1)), some (iv (zI Z (n + 3) v4.toNat))] [] Z Q) else (ZP G 1 m_X7_greatestAhead 5 [some (.ref n), some (iv t), some (.ref u), some (iv v3), some (iv (v4 + 1)), o5] [] Z Q)))))) : ZP G 1 m_X7_greatestAhead 5 [some (.ref n), some (iv t), some (.ref u), some (iv v3), some (iv v4), o5] [] Z Q := z_iload (pc' := 7) (j := 4) (by decide +kernel) rfl rfl <| z_aload_n (pc' := 8) (j := 0) (by decide +kernel) rfl rfl <| z_getI (pc' := 11) (idx := 53) (ci := 7) (f := 2) (by decide +kernel) f_RX7_53 rfl hn.o.1 hn.o.2 rfl <| h.elim fun c1 h => h.elim fun c2 h => z_icmp_ge (pc' := 14) (tgt := 65) (off := 54) (by decide +kernel) (by decide) rfl c1 c2 (am_ite h (fun h => z_iload_n (pc' := 66) (j := 3) (by decide +kernel) rfl rfl <| z_ireturn (by decide +kernel) ⟨_, rfl, rfl⟩ h) (fun h => z_aload_n (pc' := 15) (j := 0) (by decide +kernel) rfl rfl <| z_getR (pc' := 18) (idx := 21) (ci := 7) (f := 7) (by decide +kernel) f_RX7_21 rfl hn.o.1 hn.o.2 hn.r7 rfl <| z_iload (pc' := 20) (j := 4) (by decide +kernel) rfl rfl <| h.elim fun c9 h => z_iaload (pc' := 21) (by decide +kernel) hn.a7 c9 rfl <| z_iload_n (pc' := 22) (j := 1) (by decide +kernel) rfl rfl <| h.elim fun c10 h => h.elim fun c11 h => z_icmp_ne (pc' := 25) (tgt := 59) (off := 37) (by decide +kernel) (by decide) rfl c10 c11 (am_ite h (fun h => z_aload_n (pc' := 26) (j := 0) (by decide +kernel) rfl rfl <| z_getR (pc' := 29) (idx := 18) (ci := 7) (f := 6) (by decide +kernel) f_RX7_18 rfl hn.o.1 hn.o.2 hn.r6 rfl <| z_iload (pc' := 31) (j := 4) (by decide +kernel) rfl rfl <| z_iaload (pc' := 32) (by decide +kernel) hn.a6 c9 rfl <| z_istore (pc' := 34) (j := 5) (ls' := [some (.ref n), some (iv t), some (.ref u), some (iv v3), some (iv v4), some (iv (zI Z (n + 3) v4.toNat))]) (by decide +kernel) (by decide) rfl rfl <| z_iload_n (pc' := 35) (j := 3) (by decide +kernel) rfl rfl <| z_aload_n (pc' := 36) (j := 0) (by decide +kernel) rfl rfl <| z_getR (pc' := 39) (idx := 30) (ci := 7) (f := 10) (by decide +kernel) f_RX7_30 rfl hn.o.1 hn.o.2 hn.r10 rfl <| z_iload (pc' := 41) (j := 5) (by decide +kernel) rfl rfl <| h.elim fun c15 h => z_iaload (pc' := 42) (by decide +kernel) hn.a10 c15 rfl <| z_aload_n (pc' := 43) (j := 2) (by decide +kernel) rfl rfl <| z_iload (pc' := 45) (j := 5) (by decide +kernel) rfl rfl <| z_iaload (pc' := 46) (by decide +kernel) hu c15 rfl <| z_iadd (pc' := 47) (by decide +kernel) rfl <| z_aload_n (pc' := 48) (j := 0) (by decide +kernel) rfl rfl <| z_getR (pc' := 51) (idx := 24) (ci := 7) (f := 8) (by decide +kernel) f_RX7_24 rfl hn.o.1 hn.o.2 hn.r8 rfl <| z_iload (pc' := 53) (j := 4) (by decide +kernel) rfl rfl <| z_iaload (pc' := 54) (by decide +kernel) hn.a8 c9 rfl <| z_iadd (pc' := 55) (by decide +kernel) rfl <| h.elim fun c16 h => h.elim fun c17 h => z_max (pc' := 58) (idx := 93) (by decide +kernel) (amM3 107 rfl (by decide +kernel)) (amM3 108 rfl (by decide +kernel)) (amM1 21 rfl (by decide +kernel)) (amM3 109 rfl (by decide +kernel)) (by omega) (am_le rfl) c16 c17 rfl <| z_istore_n (pc' := 59) (j := 3) (ls' := [some (.ref n), some (iv t), some (.ref u), some (iv (max v3 (((zI Z (n + 7) (zI Z (n + 3) v4.toNat).toNat) + (zI Z u (zI Z (n + 3) v4.toNat).toNat)) + (zI Z (n + 5) v4.toNat)))), some (iv v4), some (iv (zI Z (n + 3) v4.toNat))]) (by decide +kernel) (by decide) rfl rfl <| z_iinc (pc' := 62) (j := 4) (n := 1) (x := v4) (ls' := [some (.ref n), some (iv t), some (.ref u), some (iv (max v3 (((zI Z (n + 7) (zI Z (n + 3) v4.toNat).toNat) + (zI Z u (zI Z (n + 3) v4.toNat).toNat)) + (zI Z (n + 5) v4.toNat)))), some (iv (v4 + 1)), some (iv (zI Z (n + 3) v4.toNat))]) (by decide +kernel) rfl (by decide) rfl rfl <| z_goto (tgt := 5) (off := -57) (by decide +kernel) (by decide) <| h) (fun h => z_iinc (pc' := 62) (j := 4) (n := 1) (x := v4) (ls' := [some (.ref n), some (iv t), some (.ref u), some (iv v3), some (iv (v4 + 1)), o5]) (by decide +kernel) rfl (by decide) rfl rfl <| z_goto (tgt := 5) (off := -57) (by decide +kernel) (by decide) <| h))))
set_option maxRecDepth 20000 in
theorem e_X7_isLongest {G : Gx} {Q : Rv → Zm → Prop} {Z : Zm} {n : Nat} {u : Nat} {j : Int} (hn : atNet Z n) (hu : zA Z u 100 20) (h : ((zIx j 50) ∧ (zIx (zI Z (n + 3) j.toNat) 20) ∧ (zIx (zI Z (n + 4) j.toNat) 20) ∧ (R32 (zI Z n 3 - zI Z (n + 7) (zI Z (n + 3) j.toNat).toNat)) ∧ (R32 (((zI Z u (zI Z (n + 3) j.toNat).toNat) + (zI Z (n + 5) j.toNat)) + (zI Z n 3 - zI Z (n + 7) (zI Z (n + 4) j.toNat).toNat))) ∧ Q (.inl (some (iv (b2 ((zI Z n 3 - zI Z (n + 7) (zI Z (n + 3) j.toNat).toNat) = (((zI Z u (zI Z (n + 3) j.toNat).toNat) + (zI Z (n + 5) j.toNat)) + (zI Z n 3 - zI Z (n + 7) (zI Z (n + 4) j.toNat).toNat))))))) Z)) : ZM G 1 m_X7_isLongest [.ref n, iv j, .ref u] Z Q := ZM.of [some (.ref n), some (iv j), some (.ref u), none] rfl <| z_aload_n (pc' := 1) (j := 0) (by decide +kernel) rfl rfl <| z_getR (pc' := 4) (idx := 18) (ci := 7) (f := 6) (by decide +kernel) f_RX7_18 rfl hn.o.1 hn.o.2 hn.r6 rfl <| z_iload_n (pc' := 5) (j := 1) (by decide +kernel) rfl rfl <| h.elim fun c1 h => z_iaload (pc' := 6) (by decide +kernel) hn.a6 c1 rfl <| z_istore_n (pc' := 7) (j := 3) (ls' := [some (.ref n), some (iv j), some (.ref u), some (iv (zI Z (n + 3) j.toNat))]) (by decide +kernel) (by decide) rfl rfl <| z_aload_n (pc' := 8) (j := 0) (by decide +kernel) rfl rfl <| z_iload_n (pc' := 9) (j := 3) (by decide +kernel) rfl rfl <| h.elim fun c2 h => z_callV (pc' := 12) (idx := 102) (mj := m_X7_restOf) (av := [iv (zI Z (n + 3) j.toNat)]) (d' := 0) (by decide +kernel) rfl k_X7_restOf l_RX7_102 rfl (by omega) (am_le rfl) rfl (am_le rfl) hn.o.1 hn.o.2 rfl <| zKf (s_restOf hn c2) <| z_aload_n (pc' := 13) (j := 2) (by decide +kernel) rfl rfl <| z_iload_n (pc' := 14) (j := 3) (by decide +kernel) rfl rfl <| z_iaload (pc' := 15) (by decide +kernel) hu c2 rfl <| z_aload_n (pc' := 16) (j := 0) (by decide +kernel) rfl rfl <| z_getR (pc' := 19) (idx := 24) (ci := 7) (f := 8) (by decide +kernel) f_RX7_24 rfl hn.o.1 hn.o.2 hn.r8 rfl <| z_iload_n (pc' := 20) (j := 1) (by decide +kernel) rfl rfl <| z_iaload (pc' := 21) (by decide +kernel) hn.a8 c1 rfl <| z_iadd (pc' := 22) (by decide +kernel) rfl <| z_aload_n (pc' := 23) (j := 0) (by decide +kernel) rfl rfl <| z_aload_n (pc' := 24) (j := 0) (by decide +kernel) rfl rfl <| z_getR (pc' := 27) (idx := 21) (ci := 7) (f := 7) (by decide +kernel) f_RX7_21 rfl hn.o.1 hn.o.2 hn.r7 rfl <| z_iload_n (pc' := 28) (j := 1) (by decide +kernel) rfl rfl <| z_iaload (pc' := 29) (by decide +kernel) hn.a7 c1 rfl <| h.elim fun c3 h => z_callV (pc' := 32) (idx := 102) (mj := m_X7_restOf) (av := [iv (zI Z (n + 4) j.toNat)]) (d' := 0) (by decide +kernel) rfl k_X7_restOf l_RX7_102 rfl (by omega) (am_le rfl) rfl (am_le rfl) hn.o.1 hn.o.2 rfl <| zKf (s_restOf hn c3) <| z_iadd (pc' := 33) (by decide +kernel) rfl <| h.elim fun c4 h => h.elim fun c5 h => am_use (fun k8 => z_icmp_ne (pc' := 36) (tgt := 40) (off := 7) (by decide +kernel) (by decide) rfl c4 c5 (am_ite2 (fun q9 => z_iconst (pc' := 37) (n := 1) (by decide +kernel) rfl <| z_goto (tgt := 41) (off := 4) (by decide +kernel) (by decide) <| (am_jp (P := fun z9 => ZP G 1 m_X7_isLongest 41 [some (.ref n), some (iv j), some (.ref u), some (iv (zI Z (n + 3) j.toNat))] [iv z9] _ Q) (b2_p q9) k8)) (fun q9 => z_iconst (pc' := 41) (n := 0) (by decide +kernel) rfl <| (am_jp (P := fun z9 => ZP G 1 m_X7_isLongest 41 [some (.ref n), some (iv j), some (.ref u), some (iv (zI Z (n + 3) j.toNat))] [iv z9] _ Q) (b2_f q9) k8)))) <| z_ireturn (by decide +kernel) (am_rb (b2_01 _)) h
/-- the least times, the end, the greatest times of a book, as such -/
noncomputable def eLF (k : Bk) (len lo : Nat → Int) : Nat → Int := Classical.epsilon (isLF k len lo)
noncomputable def eLat (k : Bk) (len : Nat → Int) (en : Int) : Nat → Int := Classical.epsilon (isLat k len en)
theorem eLF_spec {k : Bk} (ho : kOk k) {len lo f : Nat → Int} (h : isLF k len lo f) : isLF k len lo (eLF k len lo) ∧ ∀ t, t < kN k → f t = eLF k len lo t := by
  have h1 : isLF k len lo (eLF k len lo) := Classical.epsilon_spec (p := isLF k len lo) ⟨f, h⟩
  exact ⟨h1, isLF_eq ho h h1⟩
theorem eLat_spec {k : Bk} (ho : kOk k) {len f : Nat → Int} {en : Int} (h : isLat k len en f) : isLat k len en (eLat k len en) ∧ ∀ t, t < kN k → f t = eLat k len en t := by
  have h1 : isLat k len en (eLat k len en) := Classical.epsilon_spec (p := isLat k len en) ⟨f, h⟩
  exact ⟨h1, isLat_eq ho h h1⟩
noncomputable def eE (k : Bk) : Nat → Int := eLF k (kF k 0) (fun _ => 0)
noncomputable def eEnd (k : Bk) : Int := kEnd k (kF k 0) (eE k)
noncomputable def eL (k : Bk) : Nat → Int := eLat k (kF k 0) (eEnd k)
/-- the longest chain from a task on -/
noncomputable def eR (k : Bk) (t : Nat) : Int := eEnd k - eL k t
/-- what holds of the times of a book -/
def eOk (k : Bk) : Prop := isLF k (kF k 0) (fun _ => 0) (eE k) ∧ isLat k (kF k 0) (eEnd k) (eL k)
theorem eOk.e {k : Bk} (ho : kOk k) (h : eOk k) {t : Nat} (ht : t < kN k) : 0 ≤ eE k t ∧ eE k t ≤ 1710 := by
  have := isLF_bound (c := 0) ho h.1 (fun t ht => ho.len ht) (fun _ _ => by omega) t ht
  omega
theorem eOk.en {k : Bk} (ho : kOk k) (h : eOk k) : 0 ≤ eEnd k ∧ eEnd k ≤ 1770 := kEnd_r ho (fun t ht => ho.len ht) fun t ht => h.e ho ht
theorem eOk.el {k : Bk} (ho : kOk k) (h : eOk k) {t : Nat} (ht : t < kN k) : eE k t ≤ eL k t ∧ eL k t ≤ eEnd k - kF k 0 t := by
  refine ⟨isLat_ge ho h.2 (fun t ht => ⟨?_, fun j hj e => ?_⟩) t ht, (h.2 t ht).1⟩
  · have : eE k t + kF k 0 t ≤ eEnd k := zmax_ge (f := fun t => eE k t + kF k 0 t) ht
    omega
  · have h1 := (h.1 (kL k j) (ho.l hj)).2.1 j hj rfl
    rw [e] at h1
    omega
theorem cN.e {Z : Zm} {n : Nat} {k : Bk} (h : cN Z n k) (ho : kOk k) : (∀ t, t < kN k → zI Z (n + 6) t = eE k t) ∧ zI Z n 3 = eEnd k ∧ (∀ t, t < kN k → zI Z (n + 7) t = eL k t) ∧ eOk k := by
  obtain ⟨h0, k', o, pos, h1, h2, h3, h4, h5, h6, h7⟩ := h
  obtain ⟨a1, a2⟩ := eLF_spec ho (h1.lf h5)
  have a3 : zI Z n 3 = eEnd k := by
    rw [h6]
    unfold eEnd kEnd
    exact zmax_eq fun t ht => by rw [a2 t ht]; rfl
  rw [a3] at h7
  obtain ⟨b1, b2⟩ := eLat_spec ho (h1.lat h7)
  exact ⟨a2, a3, b2, a1, b1⟩
/-- a need lies on a longest chain -/
def tgt (k : Bk) (j : Nat) : Prop := eR k (kE k j) = kF k 0 (kE k j) + kG k j + eR k (kL k j)
def isAft (k : Bk) (t : Nat) (x : Int) : Prop := x ≤ eEnd k ∧ (∀ j, j < kM k → kE k j = t → x ≤ eE k (kL k j) - kG k j) ∧ (x = eEnd k ∨ ∃ j, j < kM k ∧ kE k j = t ∧ x = eE k (kL k j) - kG k j)
def isAhd (k : Bk) (t : Nat) (x : Int) : Prop := 0 ≤ x ∧ (∀ j, j < kM k → kL k j = t → eL k (kE k j) + kF k 0 (kE k j) + kG k j ≤ x) ∧ (x = 0 ∨ ∃ j, j < kM k ∧ kL k j = t ∧ x = eL k (kE k j) + kF k 0 (kE k j) + kG k j)
theorem s_leastAfter {G : Gx} {Z : Zm} {n t : Nat} {k : Bk} (hn : atNet Z n) (hc : cN Z n k) (ho : kOk k) (ht : t < kN k) : ZM G 1 m_X7_leastAfter [.ref n, iv (t : Int)] Z (fun r Z' => ∃ x, isAft k t x ∧ r = .inl (some (iv x)) ∧ Z' = Z) := by
  obtain ⟨c1, c2, c3, c4⟩ := hc.e ho
  have hen := c4.en ho
  have hN := ho.n
  have hM := ho.m
  obtain ⟨h0, k', o, pos, hpm, hord, hsrt, hs, -, -, -⟩ := hc
  have ho' := hpm.ok ho
  have eN := hpm.1
  have eM := hpm.2.1
  refine e_X7_leastAfter hn ?_
  rw [c2]
  suffices key : ∀ (m j : Nat) (x : Int), j + m = kM k' → -100 ≤ x ∧ x ≤ eEnd k → (∀ i, i < j → kE k' i = t → x ≤ eE k (kL k' i) - kG k' i) → (x = eEnd k ∨ ∃ i, i < j ∧ kE k' i = t ∧ x = eE k (kL k' i) - kG k' i) → ZP G 1 m_X7_leastAfter 7 [some (.ref n), some (iv (t : Int)), some (iv x), some (iv (j : Int))] [] Z (fun r Z' => ∃ x, isAft k t x ∧ r = .inl (some (iv x)) ∧ Z' = Z) from key (kM k') 0 (eEnd k) (by omega) ⟨by omega, by omega⟩ (fun i hi => by omega) (Or.inl rfl)
  intro m
  induction m with
  | zero =>
    intro j x hj hx h1 h2
    refine b_X7_leastAfter_7 hn ⟨by omega, by rw [hs.2.1]; omega, ?_⟩
    rw [hs.2.1, if_pos (by omega)]
    refine ⟨x, ⟨hx.2, fun i hi e => ?_, ?_⟩, rfl, rfl⟩
    · obtain ⟨i', hi', e1, e2, e3⟩ := hpm.to hi
      have := h1 i' (by omega) (e1.trans e)
      rw [e2, e3] at this
      exact this
    · rcases h2 with h | ⟨i, hi, e, e4⟩
      · exact Or.inl h
      · obtain ⟨i', hi', e1, e2, e3⟩ := hpm.of (show i < kM k' by omega)
        exact Or.inr ⟨i', hi', e1.trans e, by rw [e2, e3]; exact e4⟩
  | succ m ih =>
    intro j x hj hx h1 h2
    have hjk : j < kM k' := by omega
    obtain ⟨e1, e2, e3⟩ := hs.2.2.2 j hjk
    have he := ho'.e hjk
    have hl := ho'.l hjk
    have hg := ho'.g hjk
    have g1 := c4.e ho (t := kL k' j) (by omega)
    have g2 := c1 (kL k' j) (by omega)
    refine b_X7_leastAfter_7 hn ⟨by omega, by rw [hs.2.1]; omega, ?_⟩
    rw [hs.2.1, if_neg (by omega), Int.toNat_natCast, e1, e2, e3, Int.toNat_natCast, g2]
    refine ⟨zIx_nat (by omega) (by omega), by omega, by omega, fun _ => ⟨zIx_nat (by omega) (by omega), by omega, by omega, trivial⟩, ?_⟩
    by_cases c : (kE k' j : Int) = (t : Int)
    · rw [if_pos c]
      refine ih (j + 1) _ (by omega) (by omega) (fun i hi e => ?_) ?_
      · by_cases d : i = j
        · rw [d]
          omega
        · have := h1 i (by omega) e
          omega
      · by_cases d : x ≤ eE k (kL k' j) - kG k' j
        · rw [show min x (eE k (kL k' j) - kG k' j) = x by omega]
          rcases h2 with h | ⟨i, hi, e, e4⟩
          · exact Or.inl h
          · exact Or.inr ⟨i, by omega, e, e4⟩
        · exact Or.inr ⟨j, by omega, by omega, by omega⟩
    · rw [if_neg c]
      refine ih (j + 1) x (by omega) hx (fun i hi e => ?_) ?_
      · by_cases d : i = j
        · rw [d] at e
          omega
        · exact h1 i (by omega) e
      · rcases h2 with h | ⟨i, hi, e, e4⟩
        · exact Or.inl h
        · exact Or.inr ⟨i, by omega, e, e4⟩
theorem s_greatestAhead {G : Gx} {Z : Zm} {n u t : Nat} {k : Bk} (hn : atNet Z n) (hu : zA Z u 100 20) (hc : cN Z n k) (ho : kOk k) (hlen : ∀ t, t < kN k → zI Z u t = kF k 0 t) (ht : t < kN k) : ZM G 1 m_X7_greatestAhead [.ref n, iv (t : Int), .ref u] Z (fun r Z' => ∃ x, isAhd k t x ∧ r = .inl (some (iv x)) ∧ Z' = Z) := by
  obtain ⟨c1, c2, c3, c4⟩ := hc.e ho
  have hen := c4.en ho
  have hN := ho.n
  have hM := ho.m
  obtain ⟨h0, k', o, pos, hpm, hord, hsrt, hs, -, -, -⟩ := hc
  have ho' := hpm.ok ho
  have eN := hpm.1
  have eM := hpm.2.1
  refine e_X7_greatestAhead hn hu ?_
  suffices key : ∀ (m j : Nat) (x : Int) (o5 : Option Value), j + m = kM k' → 0 ≤ x ∧ x ≤ 10000 → (∀ i, i < j → kL k' i = t → eL k (kE k' i) + kF k 0 (kE k' i) + kG k' i ≤ x) → (x = 0 ∨ ∃ i, i < j ∧ kL k' i = t ∧ x = eL k (kE k' i) + kF k 0 (kE k' i) + kG k' i) → ZP G 1 m_X7_greatestAhead 5 [some (.ref n), some (iv (t : Int)), some (.ref u), some (iv x), some (iv (j : Int)), o5] [] Z (fun r Z' => ∃ x, isAhd k t x ∧ r = .inl (some (iv x)) ∧ Z' = Z) from key (kM k') 0 0 _ (by omega) ⟨by omega, by omega⟩ (fun i hi => by omega) (Or.inl rfl)
  intro m
  induction m with
  | zero =>
    intro j x o5 hj hx h1 h2
    refine b_X7_greatestAhead_5 hn hu ⟨by omega, by rw [hs.2.1]; omega, ?_⟩
    rw [hs.2.1, if_pos (by omega)]
    refine ⟨x, ⟨hx.1, fun i hi e => ?_, ?_⟩, rfl, rfl⟩
    · obtain ⟨i', hi', e1, e2, e3⟩ := hpm.to hi
      have := h1 i' (by omega) (e2.trans e)
      rw [e1, e3] at this
      exact this
    · rcases h2 with h | ⟨i, hi, e, e4⟩
      · exact Or.inl h
      · obtain ⟨i', hi', e1, e2, e3⟩ := hpm.of (show i < kM k' by omega)
        exact Or.inr ⟨i', hi', e2.trans e, by rw [e1, e3]; exact e4⟩
  | succ m ih =>
    intro j x o5 hj hx h1 h2
    have hjk : j < kM k' := by omega
    obtain ⟨e1, e2, e3⟩ := hs.2.2.2 j hjk
    have he := ho'.e hjk
    have hl := ho'.l hjk
    have hg := ho'.g hjk
    have g1 := c4.el ho (t := kE k' j) (by omega)
    have g0 := c4.e ho (t := kE k' j) (by omega)
    have g2 := c3 (kE k' j) (by omega)
    have g3 := hlen (kE k' j) (by omega)
    have g4 := ho.len (t := kE k' j) (by omega)
    refine b_X7_greatestAhead_5 hn hu ⟨by omega, by rw [hs.2.1]; omega, ?_⟩
    rw [hs.2.1, if_neg (by omega), Int.toNat_natCast, e1, e2, e3, Int.toNat_natCast, g2, g3]
    refine ⟨zIx_nat (by omega) (by omega), by omega, by omega, ?_⟩
    by_cases c : (kL k' j : Int) = (t : Int)
    · rw [if_pos c]
      refine ⟨zIx_nat (by omega) (by omega), by omega, by omega, ih (j + 1) _ _ (by omega) (by omega) (fun i hi e => ?_) ?_⟩
      · by_cases d : i = j
        · rw [d]
          omega
        · have := h1 i (by omega) e
          omega
      · by_cases d : eL k (kE k' j) + kF k 0 (kE k' j) + kG k' j ≤ x
        · rw [show max x (eL k (kE k' j) + kF k 0 (kE k' j) + kG k' j) = x by omega]
          rcases h2 with h | ⟨i, hi, e, e4⟩
          · exact Or.inl h
          · exact Or.inr ⟨i, by omega, e, e4⟩
        · exact Or.inr ⟨j, by omega, by omega, by omega⟩
    · rw [if_neg c]
      refine ih (j + 1) x _ (by omega) hx (fun i hi e => ?_) ?_
      · by_cases d : i = j
        · rw [d] at e
          omega
        · exact h1 i (by omega) e
      · rcases h2 with h | ⟨i, hi, e, e4⟩
        · exact Or.inl h
        · exact Or.inr ⟨i, by omega, e, e4⟩
