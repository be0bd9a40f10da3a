set_option maxRecDepth 20000 in
theorem e_X7_countChains {G : Gx} {Q : Rv → Zm → Prop} {Z : Zm} {n : Nat} {u : Nat} (hn : atNet Z n) (hu : zA Z u 100 20) (h : (ZP G 2 m_X7_countChains 2 [some (.ref n), some (.ref u), some (iv 0), none, none] [] Z Q)) : ZM G 2 m_X7_countChains [.ref n, .ref u] Z Q := ZM.of [some (.ref n), some (.ref u), none, none, none] rfl <| z_iconst (pc' := 1) (n := 0) (by decide +kernel) rfl <| z_istore_n (pc' := 2) (j := 2) (ls' := [some (.ref n), some (.ref u), some (iv 0), none, none]) (by decide +kernel) (by decide) rfl rfl <| h
set_option maxRecDepth 20000 in
theorem b_X7_countChains_2 {G : Gx} {Q : Rv → Zm → Prop} {Z : Zm} {n : Nat} {u : Nat} {v2 : Int} (hn : atNet Z n) (hu : zA Z u 100 20) (h : ((R32 v2) ∧ (R32 (zI Z n 1)) ∧ (if (zI Z n 1) ≤ v2 then (ZP G 2 m_X7_countChains 45 [some (.ref n), some (.ref u), some (iv ((zI Z n 2) - 1)), none, none] [] Z Q) else ((zIx v2 20) ∧ (R32 (zI Z n 3 - zI Z (n + 7) v2.toNat)) ∧ (R32 (zI Z u v2.toNat)) ∧ (if (zI Z n 3 - zI Z (n + 7) v2.toNat) = (zI Z u v2.toNat) then (∀ Z9, Z9 = zSL Z (n + 10) (zu (zL Z (n + 10)) v2.toNat 1) → ZP G 2 m_X7_countChains 2 [some (.ref n), some (.ref u), some (iv (v2 + 1)), none, none] [] Z9 Q) else (∀ Z10, Z10 = zSL Z (n + 10) (zu (zL Z (n + 10)) v2.toNat 0) → ZP G 2 m_X7_countChains 2 [some (.ref n), some (.ref u), some (iv (v2 + 1)), none, none] [] Z10 Q)))))) : ZP G 2 m_X7_countChains 2 [some (.ref n), some (.ref u), some (iv v2), none, none] [] Z Q := z_iload_n (pc' := 3) (j := 2) (by decide +kernel) rfl rfl <| z_aload_n (pc' := 4) (j := 0) (by decide +kernel) rfl rfl <| z_getI (pc' := 7) (idx := 49) (ci := 7) (f := 1) (by decide +kernel) f_RX7_49 rfl hn.o.1 hn.o.2 rfl <| h.elim fun c1 h => h.elim fun c2 h => z_icmp_ge (pc' := 10) (tgt := 38) (off := 31) (by decide +kernel) (by decide) rfl c1 c2 (am_ite h (fun h => z_aload_n (pc' := 39) (j := 0) (by decide +kernel) rfl rfl <| z_getI (pc' := 42) (idx := 53) (ci := 7) (f := 2) (by decide +kernel) f_RX7_53 rfl hn.o.1 hn.o.2 rfl <| z_iconst (pc' := 43) (n := 1) (by decide +kernel) rfl <| z_isub (pc' := 44) (by decide +kernel) rfl <| z_istore_n (pc' := 45) (j := 2) (ls' := [some (.ref n), some (.ref u), some (iv ((zI Z n 2) - 1)), none, none]) (by decide +kernel) (by decide) rfl rfl <| h) (fun h => z_aload_n (pc' := 11) (j := 0) (by decide +kernel) rfl rfl <| z_getR (pc' := 14) (idx := 39) (ci := 7) (f := 13) (by decide +kernel) f_RX7_39 rfl hn.o.1 hn.o.2 hn.r13 rfl <| z_iload_n (pc' := 15) (j := 2) (by decide +kernel) rfl rfl <| z_aload_n (pc' := 16) (j := 0) (by decide +kernel) rfl rfl <| z_iload_n (pc' := 17) (j := 2) (by decide +kernel) rfl rfl <| h.elim fun c6 h => z_callV (pc' := 20) (idx := 102) (mj := m_X7_restOf) (av := [iv v2]) (d' := 0) (by decide +kernel) rfl k_X7_restOf l_RX7_102 rfl (by omega) (am_le rfl) rfl (am_le rfl) hn.o.1 hn.o.2 rfl <| zKf (s_restOf hn c6) <| z_aload_n (pc' := 21) (j := 1) (by decide +kernel) rfl rfl <| z_iload_n (pc' := 22) (j := 2) (by decide +kernel) rfl rfl <| z_iaload (pc' := 23) (by decide +kernel) hu c6 rfl <| h.elim fun c7 h => h.elim fun c8 h => z_icmp_ne (pc' := 26) (tgt := 30) (off := 7) (by decide +kernel) (by decide) rfl c7 c8 (am_ite h (fun h => z_lconst (pc' := 27) (n := 1) (v := 1) (by decide +kernel) rfl rfl <| z_goto (tgt := 31) (off := 4) (by decide +kernel) (by decide) <| z_lastore (pc' := 32) (by decide +kernel) hn.a13 c6 rfl <| have h := h _ rfl; z_iinc (pc' := 35) (j := 2) (n := 1) (x := v2) (ls' := [some (.ref n), some (.ref u), some (iv (v2 + 1)), none, none]) (by decide +kernel) rfl (by decide) rfl rfl <| z_goto (tgt := 2) (off := -33) (by decide +kernel) (by decide) <| h) (fun h => z_lconst (pc' := 31) (n := 0) (v := 0) (by decide +kernel) rfl rfl <| z_lastore (pc' := 32) (by decide +kernel) hn.a13 c6 rfl <| have h := h _ rfl; z_iinc (pc' := 35) (j := 2) (n := 1) (x := v2) (ls' := [some (.ref n), some (.ref u), some (iv (v2 + 1)), none, none]) (by decide +kernel) rfl (by decide) rfl rfl <| z_goto (tgt := 2) (off := -33) (by decide +kernel) (by decide) <| h))))
set_option maxRecDepth 20000 in
theorem b_X7_countChains_45 {G : Gx} {Q : Rv → Zm → Prop} {Z : Zm} {n : Nat} {u : Nat} {v2 : Int} (hn : atNet Z n) (hu : zA Z u 100 20) (h : ((R32 v2) ∧ (if v2 < 0 then (ZP G 2 m_X7_countChains 94 [some (.ref n), none, some (jv 0), none, some (iv 0)] [] Z Q) else (ZM G 1 m_X7_isLongest [.ref n, iv v2, .ref u] Z (zKc G 2 m_X7_countChains 55 [some (.ref n), some (.ref u), some (iv v2), none, none] [] Q))))) : ZP G 2 m_X7_countChains 45 [some (.ref n), some (.ref u), some (iv v2), none, none] [] Z Q := z_iload_n (pc' := 46) (j := 2) (by decide +kernel) rfl rfl <| h.elim fun c1 h => z_if_lt (pc' := 49) (tgt := 89) (off := 43) (by decide +kernel) (by decide) rfl c1 (am_ite h (fun h => z_lconst (pc' := 90) (n := 0) (v := 0) (by decide +kernel) rfl rfl <| z_lstore_n (pc' := 91) (j := 2) (ls' := [some (.ref n), some (.ref u), some (jv 0), none, none]) (by decide +kernel) (by decide) rfl rfl <| z_iconst (pc' := 92) (n := 0) (by decide +kernel) rfl <| z_istore (pc' := 94) (j := 4) (ls' := [some (.ref n), some (.ref u), some (jv 0), none, some (iv 0)]) (by decide +kernel) (by decide) rfl rfl <| (ZP.wk (wk_some (wk_none (wk_some (wk_none (wk_some wk_nil))))) h)) (fun h => z_aload_n (pc' := 50) (j := 0) (by decide +kernel) rfl rfl <| z_iload_n (pc' := 51) (j := 2) (by decide +kernel) rfl rfl <| z_aload_n (pc' := 52) (j := 1) (by decide +kernel) rfl rfl <| z_callV (pc' := 55) (idx := 106) (mj := m_X7_isLongest) (av := [iv v2, .ref u]) (d' := 1) (by decide +kernel) rfl k_X7_isLongest l_RX7_106 rfl (by omega) (am_le rfl) rfl (am_le rfl) hn.o.1 hn.o.2 rfl h))
set_option maxRecDepth 20000 in
theorem b_X7_countChains_94 {G : Gx} {Q : Rv → Zm → Prop} {Z : Zm} {n : Nat} {u : Nat} {v2 : Int} {v4 : Int} (hn : atNet Z n) (hu : zA Z u 100 20) (h : ((R32 v4) ∧ (R32 (zI Z n 1)) ∧ (if (zI Z n 1) ≤ v4 then (Q (.inl (some (jv v2))) Z) else ((zIx v4 20) ∧ (R32 (zI Z n 3 - zI Z (n + 7) v4.toNat)) ∧ (R32 (zI Z n 3)) ∧ (if (zI Z n 3 - zI Z (n + 7) v4.toNat) = (zI Z n 3) then (ZP G 2 m_X7_countChains 94 [some (.ref n), none, some (jv (v2 + (zL Z (n + 10) v4.toNat))), none, some (iv (v4 + 1))] [] Z Q) else (ZP G 2 m_X7_countChains 94 [some (.ref n), none, some (jv v2), none, some (iv (v4 + 1))] [] Z Q)))))) : ZP G 2 m_X7_countChains 94 [some (.ref n), none, some (jv v2), none, some (iv v4)] [] Z Q := z_iload (pc' := 96) (j := 4) (by decide +kernel) rfl rfl <| z_aload_n (pc' := 97) (j := 0) (by decide +kernel) rfl rfl <| z_getI (pc' := 100) (idx := 49) (ci := 7) (f := 1) (by decide +kernel) f_RX7_49 rfl hn.o.1 hn.o.2 rfl <| h.elim fun c1 h => h.elim fun c2 h => z_icmp_ge (pc' := 103) (tgt := 132) (off := 32) (by decide +kernel) (by decide) rfl c1 c2 (am_ite h (fun h => z_lload_n (pc' := 133) (j := 2) (by decide +kernel) rfl rfl <| z_lreturn (by decide +kernel) rfl h) (fun h => z_aload_n (pc' := 104) (j := 0) (by decide +kernel) rfl rfl <| z_iload (pc' := 106) (j := 4) (by decide +kernel) rfl rfl <| h.elim fun c6 h => z_callV (pc' := 109) (idx := 102) (mj := m_X7_restOf) (av := [iv v4]) (d' := 0) (by decide +kernel) rfl k_X7_restOf l_RX7_102 rfl (by omega) (am_le rfl) rfl (am_le rfl) hn.o.1 hn.o.2 rfl <| zKf (s_restOf hn c6) <| z_aload_n (pc' := 110) (j := 0) (by decide +kernel) rfl rfl <| z_getI (pc' := 113) (idx := 79) (ci := 7) (f := 3) (by decide +kernel) f_RX7_79 rfl hn.o.1 hn.o.2 rfl <| h.elim fun c7 h => h.elim fun c8 h => z_icmp_ne (pc' := 116) (tgt := 126) (off := 13) (by decide +kernel) (by decide) rfl c7 c8 (am_ite h (fun h => z_lload_n (pc' := 117) (j := 2) (by decide +kernel) rfl rfl <| z_aload_n (pc' := 118) (j := 0) (by decide +kernel) rfl rfl <| z_getR (pc' := 121) (idx := 39) (ci := 7) (f := 13) (by decide +kernel) f_RX7_39 rfl hn.o.1 hn.o.2 hn.r13 rfl <| z_iload (pc' := 123) (j := 4) (by decide +kernel) rfl rfl <| z_laload (pc' := 124) (by decide +kernel) hn.a13 c6 rfl <| z_ladd (pc' := 125) (by decide +kernel) rfl <| z_lstore_n (pc' := 126) (j := 2) (ls' := [some (.ref n), none, some (jv (v2 + (zL Z (n + 10) v4.toNat))), none, some (iv v4)]) (by decide +kernel) (by decide) rfl rfl <| z_iinc (pc' := 129) (j := 4) (n := 1) (x := v4) (ls' := [some (.ref n), none, some (jv (v2 + (zL Z (n + 10) v4.toNat))), none, some (iv (v4 + 1))]) (by decide +kernel) rfl (by decide) rfl rfl <| z_goto (tgt := 94) (off := -35) (by decide +kernel) (by decide) <| h) (fun h => z_iinc (pc' := 129) (j := 4) (n := 1) (x := v4) (ls' := [some (.ref n), none, some (jv v2), none, some (iv (v4 + 1))]) (by decide +kernel) rfl (by decide) rfl rfl <| z_goto (tgt := 94) (off := -35) (by decide +kernel) (by decide) <| h))))
set_option maxRecDepth 20000 in
theorem b_X7_countChains_55 {G : Gx} {Q : Rv → Zm → Prop} {Z : Zm} {n : Nat} {u : Nat} {v2 : Int} {s0 : Int} (hn : atNet Z n) (hu : zA Z u 100 20) (h : ((R32 s0) ∧ (if s0 = 0 then (ZP G 2 m_X7_countChains 45 [some (.ref n), some (.ref u), some (iv (v2 + (-1))), none, none] [] Z Q) else ((zIx v2 50) ∧ (zIx (zI Z (n + 3) v2.toNat) 20) ∧ (zIx (zI Z (n + 4) v2.toNat) 20) ∧ ∀ Z8, Z8 = zSL Z (n + 10) (zu (zL Z (n + 10)) (zI Z (n + 3) v2.toNat).toNat ((zL Z (n + 10) (zI Z (n + 3) v2.toNat).toNat) + (zL Z (n + 10) (zI Z (n + 4) v2.toNat).toNat))) → ZP G 2 m_X7_countChains 45 [some (.ref n), some (.ref u), some (iv (v2 + (-1))), none, none] [] Z8 Q)))) : ZP G 2 m_X7_countChains 55 [some (.ref n), some (.ref u), some (iv v2), none, none] [iv s0] Z Q := h.elim fun c1 h => z_if_eq (pc' := 58) (tgt := 83) (off := 28) (by decide +kernel) (by decide) rfl c1 (am_ite h (fun h => z_iinc (pc' := 86) (j := 2) (n := -1) (x := v2) (ls' := [some (.ref n), some (.ref u), some (iv (v2 + (-1))), none, none]) (by decide +kernel) rfl (by decide) rfl rfl <| z_goto (tgt := 45) (off := -41) (by decide +kernel) (by decide) <| h) (fun h => z_aload_n (pc' := 59) (j := 0) (by decide +kernel) rfl rfl <| z_getR (pc' := 62) (idx := 39) (ci := 7) (f := 13) (by decide +kernel) f_RX7_39 rfl hn.o.1 hn.o.2 hn.r13 rfl <| z_aload_n (pc' := 63) (j := 0) (by decide +kernel) rfl rfl <| z_getR (pc' := 66) (idx := 18) (ci := 7) (f := 6) (by decide +kernel) f_RX7_18 rfl hn.o.1 hn.o.2 hn.r6 rfl <| z_iload_n (pc' := 67) (j := 2) (by decide +kernel) rfl rfl <| h.elim fun c5 h => z_iaload (pc' := 68) (by decide +kernel) hn.a6 c5 rfl <| z_dup2 (pc' := 69) (by decide +kernel) rfl rfl rfl <| h.elim fun c6 h => z_laload (pc' := 70) (by decide +kernel) hn.a13 c6 rfl <| z_aload_n (pc' := 71) (j := 0) (by decide +kernel) rfl rfl <| z_getR (pc' := 74) (idx := 39) (ci := 7) (f := 13) (by decide +kernel) f_RX7_39 rfl hn.o.1 hn.o.2 hn.r13 rfl <| z_aload_n (pc' := 75) (j := 0) (by decide +kernel) rfl rfl <| z_getR (pc' := 78) (idx := 21) (ci := 7) (f := 7) (by decide +kernel) f_RX7_21 rfl hn.o.1 hn.o.2 hn.r7 rfl <| z_iload_n (pc' := 79) (j := 2) (by decide +kernel) rfl rfl <| z_iaload (pc' := 80) (by decide +kernel) hn.a7 c5 rfl <| h.elim fun c7 h => z_laload (pc' := 81) (by decide +kernel) hn.a13 c7 rfl <| z_ladd (pc' := 82) (by decide +kernel) rfl <| z_lastore (pc' := 83) (by decide +kernel) hn.a13 c6 rfl <| have h := h _ rfl; z_iinc (pc' := 86) (j := 2) (n := -1) (x := v2) (ls' := [some (.ref n), some (.ref u), some (iv (v2 + (-1))), none, none]) (by decide +kernel) rfl (by decide) rfl rfl <| z_goto (tgt := 45) (off := -41) (by decide +kernel) (by decide) <| h))
set_option maxRecDepth 20000 in
theorem e_X7_nextOnChain {G : Gx} {Q : Rv → Zm → Prop} {Z : Zm} {n : Nat} {u : Nat} {t : Int} (hn : atNet Z n) (hu : zA Z u 100 20) (h : (ZP G 2 m_X7_nextOnChain 5 [some (.ref n), some (iv t), some (.ref u), some (iv (-1)), some (iv 0)] [] Z Q)) : ZM G 2 m_X7_nextOnChain [.ref n, iv t, .ref u] Z Q := ZM.of [some (.ref n), some (iv t), some (.ref u), none, none] rfl <| z_iconst (pc' := 1) (n := -1) (by decide +kernel) rfl <| z_istore_n (pc' := 2) (j := 3) (ls' := [some (.ref n), some (iv t), some (.ref u), some (iv (-1)), none]) (by decide +kernel) (by decide) rfl rfl <| z_iconst (pc' := 3) (n := 0) (by decide +kernel) rfl <| z_istore (pc' := 5) (j := 4) (ls' := [some (.ref n), some (iv t), some (.ref u), some (iv (-1)), some (iv 0)]) (by decide +kernel) (by decide) rfl rfl <| h
set_option maxRecDepth 20000 in
theorem b_X7_nextOnChain_5 {G : Gx} {Q : Rv → Zm → Prop} {Z : Zm} {n : Nat} {u : Nat} {t : Int} {v3 : Int} {v4 : Int} (hn : atNet Z n) (hu : zA Z u 100 20) (h : ((R32 v4) ∧ (R32 (zI Z n 2)) ∧ (if (zI Z n 2) ≤ v4 then (Q (.inl (some (iv v3))) Z) else ((zIx v4 50) ∧ (R32 (zI Z (n + 3) v4.toNat)) ∧ (R32 t) ∧ (if (zI Z (n + 3) v4.toNat) = t then (ZM G 1 m_X7_isLongest [.ref n, iv v4, .ref u] Z (zKc G 2 m_X7_nextOnChain 32 [some (.ref n), some (iv t), some (.ref u), some (iv v3), some (iv v4)] [] Q)) else (ZP G 2 m_X7_nextOnChain 5 [some (.ref n), some (iv t), some (.ref u), some (iv v3), some (iv (v4 + 1))] [] Z Q)))))) : ZP G 2 m_X7_nextOnChain 5 [some (.ref n), some (iv t), some (.ref u), some (iv v3), some (iv v4)] [] Z Q := z_iload (pc' := 7) (j := 4) (by decide +kernel) rfl rfl <| z_aload_n (pc' := 8) (j := 0) (by decide +kernel) rfl rfl <| z_getI (pc' := 11) (idx := 53) (ci := 7) (f := 2) (by decide +kernel) f_RX7_53 rfl hn.o.1 hn.o.2 rfl <| h.elim fun c1 h => h.elim fun c2 h => z_icmp_ge (pc' := 14) (tgt := 64) (off := 53) (by decide +kernel) (by decide) rfl c1 c2 (am_ite h (fun h => z_iload_n (pc' := 65) (j := 3) (by decide +kernel) rfl rfl <| z_ireturn (by decide +kernel) ⟨_, rfl, rfl⟩ h) (fun h => z_aload_n (pc' := 15) (j := 0) (by decide +kernel) rfl rfl <| z_getR (pc' := 18) (idx := 18) (ci := 7) (f := 6) (by decide +kernel) f_RX7_18 rfl hn.o.1 hn.o.2 hn.r6 rfl <| z_iload (pc' := 20) (j := 4) (by decide +kernel) rfl rfl <| h.elim fun c6 h => z_iaload (pc' := 21) (by decide +kernel) hn.a6 c6 rfl <| z_iload_n (pc' := 22) (j := 1) (by decide +kernel) rfl rfl <| h.elim fun c7 h => h.elim fun c8 h => z_icmp_ne (pc' := 25) (tgt := 58) (off := 36) (by decide +kernel) (by decide) rfl c7 c8 (am_ite h (fun h => z_aload_n (pc' := 26) (j := 0) (by decide +kernel) rfl rfl <| z_iload (pc' := 28) (j := 4) (by decide +kernel) rfl rfl <| z_aload_n (pc' := 29) (j := 2) (by decide +kernel) rfl rfl <| z_callV (pc' := 32) (idx := 106) (mj := m_X7_isLongest) (av := [iv v4, .ref u]) (d' := 1) (by decide +kernel) rfl k_X7_isLongest l_RX7_106 rfl (by omega) (am_le rfl) rfl (am_le rfl) hn.o.1 hn.o.2 rfl h) (fun h => z_iinc (pc' := 61) (j := 4) (n := 1) (x := v4) (ls' := [some (.ref n), some (iv t), some (.ref u), some (iv v3), some (iv (v4 + 1))]) (by decide +kernel) rfl (by decide) rfl rfl <| z_goto (tgt := 5) (off := -56) (by decide +kernel) (by decide) <| h))))
set_option maxRecDepth 20000 in
theorem b_X7_nextOnChain_32 {G : Gx} {Q : Rv → Zm → Prop} {Z : Zm} {n : Nat} {u : Nat} {t : Int} {v3 : Int} {v4 : Int} {s0 : Int} (hn : atNet Z n) (hu : zA Z u 100 20) (h : ((R32 s0) ∧ (¬ (s0 = 0) → (R32 v3) ∧ (¬ (v3 < 0) → (zIx v4 50) ∧ (zIx v3 50) ∧ (R32 (zI Z (n + 4) v4.toNat)) ∧ (R32 (zI Z (n + 4) v3.toNat)) ∧ True) ∧ True) ∧ ZP G 2 m_X7_nextOnChain 5 [some (.ref n), some (iv t), some (.ref u), some (iv (if s0 = 0 then v3 else (if v3 < 0 then v4 else (if (zI Z (n + 4) v3.toNat) ≤ (zI Z (n + 4) v4.toNat) then v3 else v4)))), some (iv (v4 + 1))] [] Z Q)) : ZP G 2 m_X7_nextOnChain 32 [some (.ref n), some (iv t), some (.ref u), some (iv v3), some (iv v4)] [iv s0] Z Q := h.elim fun c1 h => h.elim fun g16 h => am_use (fun k17 => z_if_eq (pc' := 35) (tgt := 58) (off := 26) (by decide +kernel) (by decide) rfl c1 (am_ite2 (fun q18 => (am_jp (P := fun z9 => ZP G 2 m_X7_nextOnChain 58 [some (.ref n), some (iv t), some (.ref u), some (iv z9), some (iv v4)] [] _ Q) (if_pos q18) k17)) (fun q18 => have h := g16 q18; z_iload_n (pc' := 36) (j := 3) (by decide +kernel) rfl rfl <| h.elim fun c2 h => h.elim fun g12 h => am_use (fun k13 => z_if_lt (pc' := 39) (tgt := 55) (off := 19) (by decide +kernel) (by decide) rfl c2 (am_ite2 (fun q14 => z_iload (pc' := 57) (j := 4) (by decide +kernel) rfl rfl <| z_istore_n (pc' := 58) (j := 3) (ls' := [some (.ref n), some (iv t), some (.ref u), some (iv v4), some (iv v4)]) (by decide +kernel) (by decide) rfl rfl <| (am_jp (P := fun z9 => ZP G 2 m_X7_nextOnChain 58 [some (.ref n), some (iv t), some (.ref u), some (iv z9), some (iv v4)] [] _ Q) (if_pos q14) k13)) (fun q14 => have h := g12 q14; z_aload_n (pc' := 40) (j := 0) (by decide +kernel) rfl rfl <| z_getR (pc' := 43) (idx := 21) (ci := 7) (f := 7) (by decide +kernel) f_RX7_21 rfl hn.o.1 hn.o.2 hn.r7 rfl <| z_iload (pc' := 45) (j := 4) (by decide +kernel) rfl rfl <| h.elim fun c3 h => z_iaload (pc' := 46) (by decide +kernel) hn.a7 c3 rfl <| z_aload_n (pc' := 47) (j := 0) (by decide +kernel) rfl rfl <| z_getR (pc' := 50) (idx := 21) (ci := 7) (f := 7) (by decide +kernel) f_RX7_21 rfl hn.o.1 hn.o.2 hn.r7 rfl <| z_iload_n (pc' := 51) (j := 3) (by decide +kernel) rfl rfl <| h.elim fun c4 h => z_iaload (pc' := 52) (by decide +kernel) hn.a7 c4 rfl <| h.elim fun c5 h => h.elim fun c6 h => am_use (fun k9 => z_icmp_ge (pc' := 55) (tgt := 58) (off := 6) (by decide +kernel) (by decide) rfl c5 c6 (am_ite2 (fun q10 => (am_jp (P := fun z9 => ZP G 2 m_X7_nextOnChain 58 [some (.ref n), some (iv t), some (.ref u), some (iv z9), some (iv v4)] [] _ Q) (if_pos q10) k9)) (fun q10 => z_iload (pc' := 57) (j := 4) (by decide +kernel) rfl rfl <| z_istore_n (pc' := 58) (j := 3) (ls' := [some (.ref n), some (iv t), some (.ref u), some (iv v4), some (iv v4)]) (by decide +kernel) (by decide) rfl rfl <| (am_jp (P := fun z9 => ZP G 2 m_X7_nextOnChain 58 [some (.ref n), some (iv t), some (.ref u), some (iv z9), some (iv v4)] [] _ Q) (if_neg q10) k9)))) <| (am_jp (P := fun z9 => ZP G 2 m_X7_nextOnChain 58 [some (.ref n), some (iv t), some (.ref u), some (iv z9), some (iv v4)] [] _ Q) (if_neg q14) k13)))) <| (am_jp (P := fun z9 => ZP G 2 m_X7_nextOnChain 58 [some (.ref n), some (iv t), some (.ref u), some (iv z9), some (iv v4)] [] _ Q) (if_neg q18) k17)))) <| z_iinc (pc' := 61) (j := 4) (n := 1) (x := v4) (ls' := [some (.ref n), some (iv t), some (.ref u), some (iv (if s0 = 0 then v3 else (if v3 < 0 then v4 else (if (zI Z (n + 4) v3.toNat) ≤ (zI Z (n + 4) v4.toNat) then v3 else v4)))), some (iv (v4 + 1))]) (by decide +kernel) rfl (by decide) rfl rfl <| z_goto (tgt := 5) (off := -56) (by decide +kernel) (by decide) <| h
set_option maxRecDepth 20000 in
theorem e_X7_tellChain {G : Gx} {Q : Rv → Zm → Prop} {Z : Zm} {n : Nat} {u : Nat} (hn : atNet Z n) (hu : zA Z u 100 20) (h : (ZP G 3 m_X7_tellChain 9 [some (.ref n), some (.ref u), some (iv (-1)), some (iv ((zI Z n 1) - 1)), none] [] Z Q)) : ZM G 3 m_X7_tellChain [.ref n, .ref u] Z Q := ZM.of [some (.ref n), some (.ref u), none, none, none] rfl <| z_iconst (pc' := 1) (n := -1) (by decide +kernel) rfl <| z_istore_n (pc' := 2) (j := 2) (ls' := [some (.ref n), some (.ref u), some (iv (-1)), none, none]) (by decide +kernel) (by decide) rfl rfl <| z_aload_n (pc' := 3) (j := 0) (by decide +kernel) rfl rfl <| z_getI (pc' := 6) (idx := 49) (ci := 7) (f := 1) (by decide +kernel) f_RX7_49 rfl hn.o.1 hn.o.2 rfl <| z_iconst (pc' := 7) (n := 1) (by decide +kernel) rfl <| z_isub (pc' := 8) (by decide +kernel) rfl <| z_istore_n (pc' := 9) (j := 3) (ls' := [some (.ref n), some (.ref u), some (iv (-1)), some (iv ((zI Z n 1) - 1)), none]) (by decide +kernel) (by decide) rfl rfl <| h
set_option maxRecDepth 20000 in
theorem b_X7_tellChain_9 {G : Gx} {Q : Rv → Zm → Prop} {Z : Zm} {n : Nat} {u : Nat} {v2 : Int} {v3 : Int} (hn : atNet Z n) (hu : zA Z u 100 20) (h : ((R32 v3) ∧ (if v3 < 0 then (ZP G 3 m_X7_tellChain 35 [some (.ref n), some (.ref u), some (iv v2), some (iv 0), none] [] Z Q) else ((zIx v3 20) ∧ (R32 (zI Z n 3 - zI Z (n + 7) v3.toNat)) ∧ (R32 (zI Z n 3)) ∧ ZP G 3 m_X7_tellChain 9 [some (.ref n), some (.ref u), some (iv (if (zI Z n 3 - zI Z (n + 7) v3.toNat) = (zI Z n 3) then v3 else v2)), some (iv (v3 + (-1))), none] [] Z Q)))) : ZP G 3 m_X7_tellChain 9 [some (.ref n), some (.ref u), some (iv v2), some (iv v3), none] [] Z Q := z_iload_n (pc' := 10) (j := 3) (by decide +kernel) rfl rfl <| h.elim fun c1 h => z_if_lt (pc' := 13) (tgt := 33) (off := 23) (by decide +kernel) (by decide) rfl c1 (am_ite h (fun h => z_iconst (pc' := 34) (n := 0) (by decide +kernel) rfl <| z_istore_n (pc' := 35) (j := 3) (ls' := [some (.ref n), some (.ref u), some (iv v2), some (iv 0), none]) (by decide +kernel) (by decide) rfl rfl <| h) (fun h => z_aload_n (pc' := 14) (j := 0) (by decide +kernel) rfl rfl <| z_iload_n (pc' := 15) (j := 3) (by decide +kernel) rfl rfl <| h.elim fun c9 h => z_callV (pc' := 18) (idx := 102) (mj := m_X7_restOf) (av := [iv v3]) (d' := 0) (by decide +kernel) rfl k_X7_restOf l_RX7_102 rfl (by omega) (am_le rfl) rfl (am_le rfl) hn.o.1 hn.o.2 rfl <| zKf (s_restOf hn c9) <| z_aload_n (pc' := 19) (j := 0) (by decide +kernel) rfl rfl <| z_getI (pc' := 22) (idx := 79) (ci := 7) (f := 3) (by decide +kernel) f_RX7_79 rfl hn.o.1 hn.o.2 rfl <| h.elim fun c10 h => h.elim fun c11 h => am_use (fun k14 => z_icmp_ne (pc' := 25) (tgt := 27) (off := 5) (by decide +kernel) (by decide) rfl c10 c11 (am_ite2 (fun q15 => z_iload_n (pc' := 26) (j := 3) (by decide +kernel) rfl rfl <| z_istore_n (pc' := 27) (j := 2) (ls' := [some (.ref n), some (.ref u), some (iv v3), some (iv v3), none]) (by decide +kernel) (by decide) rfl rfl <| (am_jp (P := fun z9 => ZP G 3 m_X7_tellChain 27 [some (.ref n), some (.ref u), some (iv z9), some (iv v3), none] [] _ Q) (if_pos q15) k14)) (fun q15 => (am_jp (P := fun z9 => ZP G 3 m_X7_tellChain 27 [some (.ref n), some (.ref u), some (iv z9), some (iv v3), none] [] _ Q) (if_neg q15) k14)))) <| z_iinc (pc' := 30) (j := 3) (n := -1) (x := v3) (ls' := [some (.ref n), some (.ref u), some (iv (if (zI Z n 3 - zI Z (n + 7) v3.toNat) = (zI Z n 3) then v3 else v2)), some (iv (v3 + (-1))), none]) (by decide +kernel) rfl (by decide) rfl rfl <| z_goto (tgt := 9) (off := -21) (by decide +kernel) (by decide) <| h))
set_option maxRecDepth 20000 in
theorem b_X7_tellChain_35 {G : Gx} {Q : Rv → Zm → Prop} {Z : Zm} {n : Nat} {u : Nat} {v2 : Int} {v3 : Int} (hn : atNet Z n) (hu : zA Z u 100 20) (h : ((R32 v3) ∧ (R32 (zI Z n 1)) ∧ (if (zI Z n 1) ≤ v3 then (Q (.inl (some (iv v3))) Z) else ((R32 v2) ∧ (if v2 < 0 then (Q (.inl (some (iv v3))) Z) else ((zIx v3 20) ∧ ∀ Z8, Z8 = zSI Z (n + 8) (zu (zI Z (n + 8)) v3.toNat v2) → ZM G 2 m_X7_nextOnChain [.ref n, iv v2, .ref u] Z8 (zKc G 3 m_X7_tellChain 60 [some (.ref n), some (.ref u), none, some (iv v3), none] [] Q))))))) : ZP G 3 m_X7_tellChain 35 [some (.ref n), some (.ref u), some (iv v2), some (iv v3), none] [] Z Q := z_iload_n (pc' := 36) (j := 3) (by decide +kernel) rfl rfl <| z_aload_n (pc' := 37) (j := 0) (by decide +kernel) rfl rfl <| z_getI (pc' := 40) (idx := 49) (ci := 7) (f := 1) (by decide +kernel) f_RX7_49 rfl hn.o.1 hn.o.2 rfl <| h.elim fun c1 h => h.elim fun c2 h => z_icmp_ge (pc' := 43) (tgt := 107) (off := 67) (by decide +kernel) (by decide) rfl c1 c2 (am_ite h (fun h => z_iload_n (pc' := 108) (j := 3) (by decide +kernel) rfl rfl <| z_ireturn (by decide +kernel) ⟨_, rfl, rfl⟩ h) (fun h => z_iload_n (pc' := 44) (j := 2) (by decide +kernel) rfl rfl <| h.elim fun c5 h => z_if_lt (pc' := 47) (tgt := 107) (off := 63) (by decide +kernel) (by decide) rfl c5 (am_ite h (fun h => z_iload_n (pc' := 108) (j := 3) (by decide +kernel) rfl rfl <| z_ireturn (by decide +kernel) ⟨_, rfl, rfl⟩ h) (fun h => z_aload_n (pc' := 48) (j := 0) (by decide +kernel) rfl rfl <| z_getR (pc' := 51) (idx := 33) (ci := 7) (f := 11) (by decide +kernel) f_RX7_33 rfl hn.o.1 hn.o.2 hn.r11 rfl <| z_iload_n (pc' := 52) (j := 3) (by decide +kernel) rfl rfl <| z_iload_n (pc' := 53) (j := 2) (by decide +kernel) rfl rfl <| h.elim fun c7 h => z_iastore (pc' := 54) (by decide +kernel) hn.a11 c7 rfl <| have h := h _ rfl; z_aload_n (pc' := 55) (j := 0) (by decide +kernel) rfl rfl <| z_iload_n (pc' := 56) (j := 2) (by decide +kernel) rfl rfl <| z_aload_n (pc' := 57) (j := 1) (by decide +kernel) rfl rfl <| z_callV (pc' := 60) (idx := 110) (mj := m_X7_nextOnChain) (av := [iv v2, .ref u]) (d' := 2) (by decide +kernel) rfl k_X7_nextOnChain l_RX7_110 rfl (by omega) (am_le rfl) rfl (am_le rfl) hn.o.1 hn.o.2 rfl (ZM.mono h (zKc_wk (wk_some (wk_some (wk_none (wk_some (wk_none wk_nil)))))))))))
set_option maxRecDepth 20000 in
theorem b_X7_tellChain_60 {G : Gx} {Q : Rv → Zm → Prop} {Z : Zm} {n : Nat} {u : Nat} {v3 : Int} {s0 : Int} (hn : atNet Z n) (hu : zA Z u 100 20) (h : ((R32 s0) ∧ (0 ≤ s0 → (zIx s0 50) ∧ True) ∧ (zIx v3 20) ∧ ∀ Z8, Z8 = zSI Z (n + 9) (zu (zI Z (n + 9)) v3.toNat (if 0 ≤ s0 then zI Z (n + 5) s0.toNat else 0)) → (0 ≤ s0 → (zIx s0 50) ∧ True) ∧ ZP G 3 m_X7_tellChain 35 [some (.ref n), some (.ref u), some (iv (if 0 ≤ s0 then zI Z8 (n + 4) s0.toNat else (-1))), some (iv (v3 + 1)), none] [] Z8 Q)) : ZP G 3 m_X7_tellChain 60 [some (.ref n), some (.ref u), none, some (iv v3), none] [iv s0] Z Q := z_istore (pc' := 62) (j := 4) (ls' := [some (.ref n), some (.ref u), none, some (iv v3), some (iv s0)]) (by decide +kernel) (by decide) rfl rfl <| z_aload_n (pc' := 63) (j := 0) (by decide +kernel) rfl rfl <| z_getR (pc' := 66) (idx := 36) (ci := 7) (f := 12) (by decide +kernel) f_RX7_36 rfl hn.o.1 hn.o.2 hn.r12 rfl <| z_iload_n (pc' := 67) (j := 3) (by decide +kernel) rfl rfl <| z_iload (pc' := 69) (j := 4) (by decide +kernel) rfl rfl <| h.elim fun c1 h => h.elim fun g3 h => am_use (fun k5 => z_if_ge (pc' := 72) (tgt := 76) (off := 7) (by decide +kernel) (by decide) rfl c1 (am_ite2 (fun q6 => have h := g3 q6; z_aload_n (pc' := 77) (j := 0) (by decide +kernel) rfl rfl <| z_getR (pc' := 80) (idx := 24) (ci := 7) (f := 8) (by decide +kernel) f_RX7_24 rfl hn.o.1 hn.o.2 hn.r8 rfl <| z_iload (pc' := 82) (j := 4) (by decide +kernel) rfl rfl <| h.elim fun c2 h => z_iaload (pc' := 83) (by decide +kernel) hn.a8 c2 rfl <| (am_jp (P := fun z9 => ZP G 3 m_X7_tellChain 83 [some (.ref n), some (.ref u), none, some (iv v3), some (iv s0)] [iv z9, iv v3, .ref (n + 9)] _ Q) (if_pos q6) k5)) (fun q6 => z_iconst (pc' := 73) (n := 0) (by decide +kernel) rfl <| z_goto (tgt := 83) (off := 10) (by decide +kernel) (by decide) <| (am_jp (P := fun z9 => ZP G 3 m_X7_tellChain 83 [some (.ref n), some (.ref u), none, some (iv v3), some (iv s0)] [iv z9, iv v3, .ref (n + 9)] _ Q) (if_neg q6) k5)))) <| h.elim fun c7 h => z_iastore (pc' := 84) (by decide +kernel) hn.a12 c7 rfl <| have h := h _ rfl; z_iload (pc' := 86) (j := 4) (by decide +kernel) rfl rfl <| h.elim fun g10 h => am_use (fun k12 => z_if_ge (pc' := 89) (tgt := 93) (off := 7) (by decide +kernel) (by decide) rfl c1 (am_ite2 (fun q13 => have h := g10 q13; z_aload_n (pc' := 94) (j := 0) (by decide +kernel) rfl rfl <| z_getR (pc' := 97) (idx := 21) (ci := 7) (f := 7) (by decide +kernel) f_RX7_21 rfl hn.o.1 hn.o.2 hn.r7 rfl <| z_iload (pc' := 99) (j := 4) (by decide +kernel) rfl rfl <| h.elim fun c9 h => z_iaload (pc' := 100) (by decide +kernel) hn.a7 c9 rfl <| (am_jp (P := fun z9 => ZP G 3 m_X7_tellChain 100 [some (.ref n), some (.ref u), none, some (iv v3), some (iv s0)] [iv z9] _ Q) (if_pos q13) k12)) (fun q13 => z_iconst (pc' := 90) (n := -1) (by decide +kernel) rfl <| z_goto (tgt := 100) (off := 10) (by decide +kernel) (by decide) <| (am_jp (P := fun z9 => ZP G 3 m_X7_tellChain 100 [some (.ref n), some (.ref u), none, some (iv v3), some (iv s0)] [iv z9] _ Q) (if_neg q13) k12)))) <| z_istore_n (pc' := 101) (j := 2) (ls' := [some (.ref n), some (.ref u), some (iv (if 0 ≤ s0 then zI (zSI Z (n + 9) (zu (zI Z (n + 9)) v3.toNat (if 0 ≤ s0 then zI Z (n + 5) s0.toNat else 0))) (n + 4) s0.toNat else (-1))), some (iv v3), some (iv s0)]) (by decide +kernel) (by decide) rfl rfl <| z_iinc (pc' := 104) (j := 3) (n := 1) (x := v3) (ls' := [some (.ref n), some (.ref u), some (iv (if 0 ≤ s0 then zI (zSI Z (n + 9) (zu (zI Z (n + 9)) v3.toNat (if 0 ≤ s0 then zI Z (n + 5) s0.toNat else 0))) (n + 4) s0.toNat else (-1))), some (iv (v3 + 1)), some (iv s0)]) (by decide +kernel) rfl (by decide) rfl rfl <| z_goto (tgt := 35) (off := -69) (by decide +kernel) (by decide) <| (ZP.wk (wk_some (wk_some (wk_some (wk_some (wk_none wk_nil))))) h)
set_option maxRecDepth 20000 in
theorem e_X7_lengthOfChain {G : Gx} {Q : Rv → Zm → Prop} {Z : Zm} {n : Nat} {u : Nat} (hn : atNet Z n) (hu : zA Z u 100 20) (h : (ZM G 3 m_X7_tellChain [.ref n, .ref u] Z (zKc G 4 m_X7_lengthOfChain 5 [some (.ref n), some (.ref u), none, none, none] [] Q))) : ZM G 4 m_X7_lengthOfChain [.ref n, .ref u] Z Q := ZM.of [some (.ref n), some (.ref u), none, none, none] rfl <| z_aload_n (pc' := 1) (j := 0) (by decide +kernel) rfl rfl <| z_aload_n (pc' := 2) (j := 1) (by decide +kernel) rfl rfl <| z_callV (pc' := 5) (idx := 114) (mj := m_X7_tellChain) (av := [.ref u]) (d' := 3) (by decide +kernel) rfl k_X7_tellChain l_RX7_114 rfl (by omega) (am_le rfl) rfl (am_le rfl) hn.o.1 hn.o.2 rfl h
set_option maxRecDepth 20000 in
theorem b_X7_lengthOfChain_5 {G : Gx} {Q : Rv → Zm → Prop} {Z : Zm} {n : Nat} {u : Nat} {s0 : Int} (hn : atNet Z n) (hu : zA Z u 100 20) (h : (ZP G 4 m_X7_lengthOfChain 11 [some (.ref n), some (.ref u), some (iv s0), some (iv 0), some (iv 0)] [] Z Q)) : ZP G 4 m_X7_lengthOfChain 5 [some (.ref n), some (.ref u), none, none, none] [iv s0] Z Q := z_istore_n (pc' := 6) (j := 2) (ls' := [some (.ref n), some (.ref u), some (iv s0), none, none]) (by decide +kernel) (by decide) rfl rfl <| z_iconst (pc' := 7) (n := 0) (by decide +kernel) rfl <| z_istore_n (pc' := 8) (j := 3) (ls' := [some (.ref n), some (.ref u), some (iv s0), some (iv 0), none]) (by decide +kernel) (by decide) rfl rfl <| z_iconst (pc' := 9) (n := 0) (by decide +kernel) rfl <| z_istore (pc' := 11) (j := 4) (ls' := [some (.ref n), some (.ref u), some (iv s0), some (iv 0), some (iv 0)]) (by decide +kernel) (by decide) rfl rfl <| h
set_option maxRecDepth 20000 in
theorem b_X7_lengthOfChain_11 {G : Gx} {Q : Rv → Zm → Prop} {Z : Zm} {n : Nat} {u : Nat} {v2 : Int} {v3 : Int} {v4 : Int} (hn : atNet Z n) (hu : zA Z u 100 20) (h : ((R32 v4) ∧ (R32 v2) ∧ (if v2 ≤ v4 then (Q (.inl (some (iv v3))) Z) else ((zIx v4 20) ∧ (zIx (zI Z (n + 8) v4.toNat) 20) ∧ ZP G 4 m_X7_lengthOfChain 11 [some (.ref n), some (.ref u), some (iv v2), some (iv (v3 + ((zI Z u (zI Z (n + 8) v4.toNat).toNat) + (zI Z (n + 9) v4.toNat)))), some (iv (v4 + 1))] [] Z Q)))) : ZP G 4 m_X7_lengthOfChain 11 [some (.ref n), some (.ref u), some (iv v2), some (iv v3), some (iv v4)] [] Z Q := z_iload (pc' := 13) (j := 4) (by decide +kernel) rfl rfl <| z_iload_n (pc' := 14) (j := 2) (by decide +kernel) rfl rfl <| h.elim fun c1 h => h.elim fun c2 h => z_icmp_ge (pc' := 17) (tgt := 43) (off := 29) (by decide +kernel) (by decide) rfl c1 c2 (am_ite h (fun h => z_iload_n (pc' := 44) (j := 3) (by decide +kernel) rfl rfl <| z_ireturn (by decide +kernel) ⟨_, rfl, rfl⟩ h) (fun h => z_iload_n (pc' := 18) (j := 3) (by decide +kernel) rfl rfl <| z_aload_n (pc' := 19) (j := 1) (by decide +kernel) rfl rfl <| z_aload_n (pc' := 20) (j := 0) (by decide +kernel) rfl rfl <| z_getR (pc' := 23) (idx := 33) (ci := 7) (f := 11) (by decide +kernel) f_RX7_33 rfl hn.o.1 hn.o.2 hn.r11 rfl <| z_iload (pc' := 25) (j := 4) (by decide +kernel) rfl rfl <| h.elim fun c5 h => z_iaload (pc' := 26) (by decide +kernel) hn.a11 c5 rfl <| h.elim fun c6 h => z_iaload (pc' := 27) (by decide +kernel) hu c6 rfl <| z_aload_n (pc' := 28) (j := 0) (by decide +kernel) rfl rfl <| z_getR (pc' := 31) (idx := 36) (ci := 7) (f := 12) (by decide +kernel) f_RX7_36 rfl hn.o.1 hn.o.2 hn.r12 rfl <| z_iload (pc' := 33) (j := 4) (by decide +kernel) rfl rfl <| z_iaload (pc' := 34) (by decide +kernel) hn.a12 c5 rfl <| z_iadd (pc' := 35) (by decide +kernel) rfl <| z_iadd (pc' := 36) (by decide +kernel) rfl <| z_istore_n (pc' := 37) (j := 3) (ls' := [some (.ref n), some (.ref u), some (iv v2), some (iv (v3 + ((zI Z u (zI Z (n + 8) v4.toNat).toNat) + (zI Z (n + 9) v4.toNat)))), some (iv v4)]) (by decide +kernel) (by decide) rfl rfl <| z_iinc (pc' := 40) (j := 4) (n := 1) (x := v4) (ls' := [some (.ref n), some (.ref u), some (iv v2), some (iv (v3 + ((zI Z u (zI Z (n + 8) v4.toNat).toNat) + (zI Z (n + 9) v4.toNat)))), some (iv (v4 + 1))]) (by decide +kernel) rfl (by decide) rfl rfl <| z_goto (tgt := 11) (off := -29) (by decide +kernel) (by decide) <| h))
/-- sums over the needs don't ask for their order -/
theorem zsum_add (f g : Nat → Int) (n : Nat) : zsum (fun i => f i + g i) n = zsum f n + zsum g n := by
  induction n with
  | zero => rfl
  | succ n ih =>
    rw [zsum_s, zsum_s, zsum_s, ih]
    omega
theorem zsum_0 (n : Nat) : zsum (fun _ => 0) n = 0 := by
  induction n with
  | zero => rfl
  | succ n ih =>
    rw [zsum_s, ih]
    rfl
theorem zsum_swap (f : Nat → Nat → Int) (a b : Nat) : zsum (fun i => zsum (fun j => f i j) b) a = zsum (fun j => zsum (fun i => f i j) a) b := by
  induction a with
  | zero => exact (zsum_0 b).symm
  | succ a ih =>
    rw [zsum_s, ih, ← zsum_add]
    rfl
theorem zsum_pick (f : Nat → Int) {n i : Nat} (hi : i < n) : zsum (fun j => if j = i then f j else 0) n = f i := by
  have h := zsum_one (f := fun j => if j = i then f j else 0) (g := fun _ => 0) (n := n) (i := i) (fun j _ hj => if_neg hj) hi
  rw [zsum_0] at h
  simp only [if_true] at h
  omega
theorem zsum_perm {σ : Nat → Nat} {m : Nat} (f : Nat → Int) (s1 : ∀ j, j < m → σ j < m) (s2 : ∀ i j, i < m → j < m → σ i = σ j → i = j) (s3 : ∀ i, i < m → ∃ j, j < m ∧ σ j = i) : zsum (fun j => f (σ j)) m = zsum f m := by
  have e1 : zsum (fun j => f (σ j)) m = zsum (fun j => zsum (fun i => if i = σ j then f i else 0) m) m := zsum_eq fun j hj => (zsum_pick f (s1 j hj)).symm
  rw [e1, zsum_swap]
  refine zsum_eq fun i hi => ?_
  obtain ⟨j, hj, e⟩ := s3 i hi
  have e2 : zsum (fun j => if i = σ j then f i else 0) m = zsum (fun l => if l = j then f i else 0) m := zsum_eq fun l hl => by
    by_cases c : l = j
    · rw [if_pos c, if_pos (by rw [c, e])]
    · rw [if_neg c, if_neg (fun g => c (s2 l j hl hj (g.symm.trans e.symm)))]
  rw [e2]
  exact zsum_pick (fun _ => f i) hj
theorem s_isLongest {G : Gx} {Z : Zm} {n u j : Nat} {k k' : Bk} {o : Nat → Nat} (hn : atNet Z n) (hu : zA Z u 100 20) (hs : nS Z n k' o) (ho : kOk k) (ho' : kOk k') (hpm : kPm k k') (c2 : zI Z n 3 = eEnd k) (c3 : ∀ t, t < kN k → zI Z (n + 7) t = eL k t) (c4 : eOk k) (hlen : ∀ t, t < kN k → zI Z u t = kF k 0 t) (hj : j < kM k') : ZM G 1 m_X7_isLongest [.ref n, iv (j : Int), .ref u] Z (fun r Z' => (r = .inl (some (iv 1)) ∧ eR k (kE k' j) = kF k 0 (kE k' j) + kG k' j + eR k (kL k' j) ∨ r = .inl (some (iv 0)) ∧ ¬ eR k (kE k' j) = kF k 0 (kE k' j) + kG k' j + eR k (kL k' j)) ∧ Z' = Z) := by
  have hN := ho.n
  have hM := ho'.m
  have eN := hpm.1
  obtain ⟨e1, e2, e3⟩ := hs.2.2.2 j hj
  have he := ho'.e hj
  have hl := ho'.l hj
  have hg := ho'.g hj
  have hen := c4.en ho
  have g1 := c4.el ho (t := kE k' j) (by omega)
  have g0 := c4.e ho (t := kE k' j) (by omega)
  have g1' := c4.el ho (t := kL k' j) (by omega)
  have g0' := c4.e ho (t := kL k' j) (by omega)
  have g4 := ho.len (t := kE k' j) (by omega)
  have g5 := ho.len (t := kL k' j) (by omega)
  refine e_X7_isLongest hn hu ?_
  rw [Int.toNat_natCast, e1, e2, e3, Int.toNat_natCast, Int.toNat_natCast, c2, c3 _ (by omega), c3 _ (by omega), hlen _ (by omega)]
  refine ⟨zIx_nat (by omega) (by omega), zIx_nat (by omega) (by omega), zIx_nat (by omega) (by omega), by omega, by omega, ?_, rfl⟩
  unfold eR
  by_cases c : eEnd k - eL k (kE k' j) = kF k 0 (kE k' j) + kG k' j + (eEnd k - eL k (kL k' j))
  · exact Or.inl ⟨by rw [b2_p c], c⟩
  · exact Or.inr ⟨by rw [b2_f c], c⟩
/-- c counts the longest chains from each task on -/
def isCC (k : Bk) (c : Nat → Int) : Prop := ∀ t, t < kN k → c t = (if eR k t = kF k 0 t then 1 else 0) + zsum (fun j => @ite Int (kE k j = t ∧ tgt k j) (Classical.propDecidable _) (c (kL k j)) 0) (kM k)
theorem isCC_eq {k : Bk} (ho : kOk k) {c d : Nat → Int} (hc : isCC k c) (hd : isCC k d) : ∀ t, t < kN k → c t = d t := by
  obtain ⟨r, hr⟩ := ho.2.2.2.2
  obtain ⟨B, hB⟩ := nat_bound r (kN k)
  suffices key : ∀ (b t : Nat), B - r t ≤ b → t < kN k → c t = d t from fun t ht => key (B - r t) t (Nat.le_refl _) ht
  intro b
  induction b with
  | zero =>
    intro t hb ht
    rw [hc t ht, hd t ht]
    congr 1
    refine zsum_eq fun j hj => ?_
    by_cases g : kE k j = t ∧ tgt k j
    · have h1 := hr j hj
      have h2 := hB _ (ho.l hj)
      rw [g.1] at h1
      omega
    · simp only [if_neg g]
  | succ b ih =>
    intro t hb ht
    rw [hc t ht, hd t ht]
    congr 1
    refine zsum_eq fun j hj => ?_
    by_cases g : kE k j = t ∧ tgt k j
    · have h1 := hr j hj
      have h2 := hB _ (ho.l hj)
      rw [g.1] at h1
      simp only [if_pos g]
      exact ih _ (by omega) (ho.l hj)
    · simp only [if_neg g]
/-- the number of longest chains -/
def isAll (k : Bk) (x : Int) : Prop := ∃ c, isCC k c ∧ x = zsum (fun t => @ite Int (eR k t = eEnd k) (Classical.propDecidable _) (c t) 0) (kN k)
theorem isAll_eq {k : Bk} (ho : kOk k) {x y : Int} (hx : isAll k x) (hy : isAll k y) : x = y := by
  obtain ⟨c, hc, rfl⟩ := hx
  obtain ⟨d, hd, rfl⟩ := hy
  exact zsum_eq fun t ht => by rw [isCC_eq ho hc hd t ht]
theorem zL_same (Z : Zm) (a : Nat) (f : Nat → Int) : zL (zSL Z a f) a = f := if_pos rfl
theorem zSL_zSL (Z : Zm) (a : Nat) (f g : Nat → Int) : zSL (zSL Z a f) a g = zSL Z a g := by
  show (_, _, _, _, _, zu (zu (zL Z) a f) a g, _, _) = (_, _, _, _, _, zu (zL Z) a g, _, _)
  rw [zu_zu]
  rfl
theorem zSL_id (Z : Zm) (a : Nat) : zSL Z a (zL Z a) = Z := by
  show (_, _, _, _, _, zu (zL Z) a (zL Z a), _, _) = Z
  rw [zu_id]
  rfl
theorem s_countChains {G : Gx} {Z : Zm} {n u : Nat} {k : Bk} (hn : atNet Z n) (hu : zA Z u 100 20) (hc : cN Z n k) (ho : kOk k) (hlen : ∀ t, t < kN k → zI Z u t = kF k 0 t) : ZM G 2 m_X7_countChains [.ref n, .ref u] Z (fun r Z' => ∃ x f, isAll k x ∧ r = .inl (some (jv x)) ∧ Z' = zSL Z (n + 10) f) := by
  obtain ⟨c1, c2, c3, c4⟩ := hc.e ho
  have hen := c4.en ho
  have hN := ho.n
  have hM := ho.m
  obtain ⟨h0, k', o, pos, hpm, hord, hsrt, hs, -, -, -⟩ := hc
  have ho' := hpm.ok ho
  have eN := hpm.1
  have eM := hpm.2.1
  have rr : ∀ t, t < kN k → 0 ≤ eL k t ∧ eL k t ≤ eEnd k := fun t ht => by
    have := c4.el ho ht
    have := c4.e ho ht
    have := ho.len ht
    omega
  refine e_X7_countChains hn hu ?_
  -- the last loop
  have L3 : ∀ (c : Nat → Int), isCC k c → ∀ (f : Nat → Int), (∀ t, t < kN k → f t = c t) → ∀ (m j : Nat), j + m = kN k → ZP G 2 m_X7_countChains 94 [some (.ref n), none, some (jv (zsum (fun t => @ite Int (eR k t = eEnd k) (Classical.propDecidable _) (c t) 0) j)), none, some (iv (j : Int))] [] (zSL Z (n + 10) f) (fun r Z' => ∃ x f, isAll k x ∧ r = .inl (some (jv x)) ∧ Z' = zSL Z (n + 10) f) := by
    intro c hcc f hf m
    induction m with
    | zero =>
      intro j hj
      refine b_X7_countChains_94 (Z := zSL Z (n + 10) f) hn hu ⟨by omega, by rw [show zI (zSL Z (n + 10) f) n 1 = _ from hs.1]; omega, ?_⟩
      rw [show zI (zSL Z (n + 10) f) n 1 = _ from hs.1, if_pos (by omega), show j = kN k by omega]
      exact ⟨_, f, ⟨c, hcc, rfl⟩, rfl, rfl⟩
    | succ m ih =>
      intro j hj
      have g := rr j (by omega)
      refine b_X7_countChains_94 (Z := zSL Z (n + 10) f) hn hu ⟨by omega, by rw [show zI (zSL Z (n + 10) f) n 1 = _ from hs.1]; omega, ?_⟩
      rw [show zI (zSL Z (n + 10) f) n 1 = _ from hs.1, if_neg (by omega), Int.toNat_natCast, show zI (zSL Z (n + 10) f) n 3 = _ from c2, show zI (zSL Z (n + 10) f) (n + 7) j = _ from c3 j (by omega), zL_same, hf j (by omega)]
      refine ⟨zIx_nat (by omega) (by omega), by omega, by omega, ?_⟩
      have h3 := ih (j + 1) (by omega)
      rw [zsum_s] at h3
      by_cases d : eEnd k - eL k j = eEnd k
      · rw [if_pos d]
        simp only [if_pos (show eR k j = eEnd k from d)] at h3
        exact h3
      · rw [if_neg d]
        simp only [if_neg (show ¬ eR k j = eEnd k from d), Int.add_zero] at h3
        exact h3
  -- the second loop
  have L2 : ∀ (m : Nat) (f : Nat → Int), m ≤ kM k' → (∀ t, t < kN k → f t = (if eR k t = kF k 0 t then 1 else 0) + zsum (fun j => @ite Int (m ≤ j ∧ kE k' j = t ∧ eR k (kE k' j) = kF k 0 (kE k' j) + kG k' j + eR k (kL k' j)) (Classical.propDecidable _) (f (kL k' j)) 0) (kM k')) → ZP G 2 m_X7_countChains 45 [some (.ref n), some (.ref u), some (iv ((m : Int) - 1)), none, none] [] (zSL Z (n + 10) f) (fun r Z' => ∃ x f, isAll k x ∧ r = .inl (some (jv x)) ∧ Z' = zSL Z (n + 10) f) := by
    intro m
    induction m with
    | zero =>
      intro f hm hf
      refine b_X7_countChains_45 (Z := zSL Z (n + 10) f) hn hu ⟨by omega, ?_⟩
      rw [if_pos (by omega)]
      refine L3 f (fun t ht => ?_) f (fun _ _ => rfl) (kN k) 0 (by omega)
      have h9 := hf t ht
      obtain ⟨-, -, -, σ, s1, s2, s3, s4⟩ := hpm
      have h8 := zsum_perm (σ := σ) (m := kM k) (fun j => @ite Int (kE k j = t ∧ tgt k j) (Classical.propDecidable _) (f (kL k j)) 0) s1 s2 s3
      rw [← h8]
      rw [eM] at h9
      rw [h9]
      congr 1
      refine zsum_eq fun j hj => ?_
      obtain ⟨e1, e2, e3⟩ := s4 j hj
      rw [e1, e2, e3]
      by_cases g : kE k (σ j) = t ∧ tgt k (σ j)
      · have g' : 0 ≤ j ∧ kE k (σ j) = t ∧ eR k (kE k (σ j)) = kF k 0 (kE k (σ j)) + kG k (σ j) + eR k (kL k (σ j)) := ⟨Nat.zero_le _, g⟩
        rw [if_pos g', if_pos g]
      · have g' : ¬ (0 ≤ j ∧ kE k (σ j) = t ∧ eR k (kE k (σ j)) = kF k 0 (kE k (σ j)) + kG k (σ j) + eR k (kL k (σ j))) := fun z => g z.2
        rw [if_neg g', if_neg g]
    | succ m ih =>
      intro f hm hf
      have hjk : m < kM k' := by omega
      have hsf : nS (zSL Z (n + 10) f) n k' o := hs
      obtain ⟨e1, e2, e3⟩ := hsf.2.2.2 m hjk
      have he := ho'.e hjk
      have hl := ho'.l hjk
      refine b_X7_countChains_45 (Z := zSL Z (n + 10) f) hn hu ⟨by omega, ?_⟩
      rw [if_neg (by omega), show ((m + 1 : Nat) : Int) - 1 = (m : Int) by omega]
      refine (s_isLongest (Z := zSL Z (n + 10) f) hn hu hsf ho ho' hpm c2 c3 c4 hlen hjk).mono ?_
      rintro r W ⟨hr, rfl⟩
      have hne : kE k' m ≠ kL k' m := fun e => by
        have := hord.2.2 m hjk
        rw [e] at this
        omega
      rcases hr with ⟨rfl, ht⟩ | ⟨rfl, ht⟩
      · refine b_X7_countChains_55 (Z := zSL Z (n + 10) f) hn hu ⟨by decide, ?_⟩
        rw [if_neg (by decide), Int.toNat_natCast, e1, e2, Int.toNat_natCast, Int.toNat_natCast]
        refine ⟨zIx_nat (by omega) (by omega), zIx_nat (by omega) (by omega), zIx_nat (by omega) (by omega), ?_⟩
        rintro _ rfl
        rw [zL_same, zSL_zSL, show (m : Int) + -1 = (m : Int) - 1 by omega]
        refine ih _ (by omega) fun t ht9 => ?_
        have apart : ∀ i, i < kM k' → m ≤ i → kL k' i ≠ kE k' m := fun i hi hmi e => by
          have := hord.2.2 m hjk
          have := hsrt m i hmi hi
          rw [e] at *
          omega
        have h9 := hf t ht9
        by_cases d : t = kE k' m
        · rw [d, zu_same]
          rw [d] at h9
          have h8 := zsum_one (f := fun j => @ite Int (m ≤ j ∧ kE k' j = kE k' m ∧ eR k (kE k' j) = kF k 0 (kE k' j) + kG k' j + eR k (kL k' j)) (Classical.propDecidable _) (zu f (kE k' m) (f (kE k' m) + f (kL k' m)) (kL k' j)) 0) (g := fun j => @ite Int (m + 1 ≤ j ∧ kE k' j = kE k' m ∧ eR k (kE k' j) = kF k 0 (kE k' j) + kG k' j + eR k (kL k' j)) (Classical.propDecidable _) (f (kL k' j)) 0) (n := kM k') (i := m) (fun j hj hjm => by
            by_cases g : m ≤ j ∧ kE k' j = kE k' m ∧ eR k (kE k' j) = kF k 0 (kE k' j) + kG k' j + eR k (kL k' j)
            · have g2 : m + 1 ≤ j ∧ kE k' j = kE k' m ∧ eR k (kE k' j) = kF k 0 (kE k' j) + kG k' j + eR k (kL k' j) := ⟨by omega, g.2⟩
              simp only [if_pos g, if_pos g2]
              exact zu_other (apart j hj g.1)
            · have g2 : ¬ (m + 1 ≤ j ∧ kE k' j = kE k' m ∧ eR k (kE k' j) = kF k 0 (kE k' j) + kG k' j + eR k (kL k' j)) := fun z => g ⟨by omega, z.2⟩
              simp only [if_neg g, if_neg g2]) hjk
          have g3 : m ≤ m ∧ kE k' m = kE k' m ∧ eR k (kE k' m) = kF k 0 (kE k' m) + kG k' m + eR k (kL k' m) := ⟨Nat.le_refl _, rfl, ht⟩
          have g4 : ¬ (m + 1 ≤ m ∧ kE k' m = kE k' m ∧ eR k (kE k' m) = kF k 0 (kE k' m) + kG k' m + eR k (kL k' m)) := fun z => by omega
          rw [if_pos g3, if_neg g4] at h8
          rw [zu_other (Ne.symm hne)] at h8
          rw [h8]
          rw [Int.sub_zero, ← Int.add_assoc, ← h9]
        · rw [zu_other d, h9]
          congr 1
          refine zsum_eq fun j hj => ?_
          by_cases g : m ≤ j ∧ kE k' j = t ∧ eR k (kE k' j) = kF k 0 (kE k' j) + kG k' j + eR k (kL k' j)
          · have g2 : m + 1 ≤ j ∧ kE k' j = t ∧ eR k (kE k' j) = kF k 0 (kE k' j) + kG k' j + eR k (kL k' j) := ⟨by
              have : j ≠ m := fun z => d (by rw [← g.2.1, z])
              omega, g.2⟩
            simp only [if_pos g, if_pos g2]
            rw [zu_other (apart j hj g.1)]
          · have g2 : ¬ (m + 1 ≤ j ∧ kE k' j = t ∧ eR k (kE k' j) = kF k 0 (kE k' j) + kG k' j + eR k (kL k' j)) := fun z => g ⟨by omega, z.2⟩
            simp only [if_neg g, if_neg g2]
      · refine b_X7_countChains_55 (Z := zSL Z (n + 10) f) hn hu ⟨by decide, ?_⟩
        rw [if_pos rfl, show (m : Int) + -1 = (m : Int) - 1 by omega]
        refine ih f (by omega) fun t ht9 => ?_
        rw [hf t ht9]
        congr 1
        refine zsum_eq fun j hj => ?_
        by_cases g : m ≤ j ∧ kE k' j = t ∧ eR k (kE k' j) = kF k 0 (kE k' j) + kG k' j + eR k (kL k' j)
        · have g2 : m + 1 ≤ j ∧ kE k' j = t ∧ eR k (kE k' j) = kF k 0 (kE k' j) + kG k' j + eR k (kL k' j) := ⟨by
            have : j ≠ m := fun z => by
              rw [z] at g
              exact ht g.2.2
            omega, g.2⟩
          simp only [if_pos g, if_pos g2]
        · have g2 : ¬ (m + 1 ≤ j ∧ kE k' j = t ∧ eR k (kE k' j) = kF k 0 (kE k' j) + kG k' j + eR k (kL k' j)) := fun z => g ⟨by omega, z.2⟩
          simp only [if_neg g, if_neg g2]
  suffices L1 : ∀ (m j : Nat) (f : Nat → Int), j + m = kN k → (∀ t, t < j → f t = if eR k t = kF k 0 t then 1 else 0) → ZP G 2 m_X7_countChains 2 [some (.ref n), some (.ref u), some (iv (j : Int)), none, none] [] (zSL Z (n + 10) f) (fun r Z' => ∃ x f, isAll k x ∧ r = .inl (some (jv x)) ∧ Z' = zSL Z (n + 10) f) by
    have h := L1 (kN k) 0 (zL Z (n + 10)) (by omega) fun t ht => by omega
    rw [zSL_id] at h
    exact h
  intro m
  induction m with
  | zero =>
    intro j f hj hf
    refine b_X7_countChains_2 (Z := zSL Z (n + 10) f) hn hu ⟨by omega, by rw [show zI (zSL Z (n + 10) f) n 1 = _ from hs.1]; omega, ?_⟩
    rw [show zI (zSL Z (n + 10) f) n 1 = _ from hs.1, if_pos (by omega), show zI (zSL Z (n + 10) f) n 2 = _ from hs.2.1]
    refine L2 (kM k') f (Nat.le_refl _) fun t ht => ?_
    rw [hf t (by omega), zsum_eq (g := fun _ => 0) (fun i hi => by rw [if_neg (fun z => by omega)]), zsum_0, Int.add_zero]
  | succ m ih =>
    intro j f hj hf
    have g := rr j (by omega)
    have g2 := ho.len (t := j) (by omega)
    refine b_X7_countChains_2 (Z := zSL Z (n + 10) f) hn hu ⟨by omega, by rw [show zI (zSL Z (n + 10) f) n 1 = _ from hs.1]; omega, ?_⟩
    rw [show zI (zSL Z (n + 10) f) n 1 = _ from hs.1, if_neg (by omega), Int.toNat_natCast, show zI (zSL Z (n + 10) f) n 3 = _ from c2, show zI (zSL Z (n + 10) f) (n + 7) j = _ from c3 j (by omega), show zI (zSL Z (n + 10) f) u j = _ from hlen j (by omega)]
    refine ⟨zIx_nat (by omega) (by omega), by omega, by omega, ?_⟩
    by_cases d : eEnd k - eL k j = kF k 0 j
    · rw [if_pos d]
      rintro _ rfl
      rw [zL_same, zSL_zSL]
      refine ih (j + 1) _ (by omega) fun t ht => ?_
      by_cases e : t = j
      · rw [e, zu_same, if_pos (show eR k j = kF k 0 j from d)]
      · rw [zu_other e]
        exact hf t (by omega)
    · rw [if_neg d]
      rintro _ rfl
      rw [zL_same, zSL_zSL]
      refine ih (j + 1) _ (by omega) fun t ht => ?_
      by_cases e : t = j
      · rw [e, zu_same, if_neg (show ¬ eR k j = kF k 0 j from d)]
      · rw [zu_other e]
        exact hf t (by omega)
