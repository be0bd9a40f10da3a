set_option maxRecDepth 20000 in
theorem e_X4_areFew {G : Gx} {Q : Rv → Zm → Prop} {Z : Zm} {s : Nat} {b : Nat} {n : Nat} (hs : atLevels Z s b n) (hb : atBook Z b) (hn : atNet Z n) (h : (ZP G 1 m_X4_areFew 4 [some (.ref s), some (jv 1), none, some (iv 0)] [] Z Q)) : ZM G 1 m_X4_areFew [.ref s] Z Q := ZM.of [some (.ref s), none, none, none] rfl <| z_lconst (pc' := 1) (n := 1) (v := 1) (by decide +kernel) rfl rfl <| z_lstore_n (pc' := 2) (j := 1) (ls' := [some (.ref s), some (jv 1), none, none]) (by decide +kernel) (by decide) rfl rfl <| z_iconst (pc' := 3) (n := 0) (by decide +kernel) rfl <| z_istore_n (pc' := 4) (j := 3) (ls' := [some (.ref s), some (jv 1), none, some (iv 0)]) (by decide +kernel) (by decide) rfl rfl <| h
set_option maxRecDepth 20000 in
theorem b_X4_areFew_4 {G : Gx} {Q : Rv → Zm → Prop} {Z : Zm} {s : Nat} {b : Nat} {n : Nat} {v1 : Int} {v3 : Int} (hs : atLevels Z s b n) (hb : atBook Z b) (hn : atNet Z n) (h : ((R32 v3) ∧ (R32 (zI Z n 1)) ∧ (if (zI Z n 1) ≤ v3 then ((R64 v1) ∧ Q (.inl (some (iv (b2 (¬ (0 < (zcmp v1 2000))))))) Z) else ((R64 v1) ∧ (if 0 < (zcmp v1 2000) then (Q (.inl (some (iv (b2 (¬ (0 < (zcmp v1 2000))))))) Z) else ((zIx v3 20) ∧ (R32 ((zI Z (n + 7) v3.toNat - zI Z (n + 6) v3.toNat) + 1)) ∧ ZP G 1 m_X4_areFew 4 [some (.ref s), some (jv (v1 * ((zI Z (n + 7) v3.toNat - zI Z (n + 6) v3.toNat) + 1))), none, some (iv (v3 + 1))] [] Z Q)))))) : ZP G 1 m_X4_areFew 4 [some (.ref s), some (jv v1), none, some (iv v3)] [] Z Q := z_iload_n (pc' := 5) (j := 3) (by decide +kernel) rfl rfl <| z_aload_n (pc' := 6) (j := 0) (by decide +kernel) rfl rfl <| z_getR (pc' := 9) (idx := 15) (ci := 4) (f := 0) (by decide +kernel) f_RX4_15 rfl hs.o.1 hs.o.2 hs.r0 rfl <| z_getI (pc' := 12) (idx := 28) (ci := 7) (f := 1) (by decide +kernel) f_RX4_28 rfl hn.o.1 hn.o.2 rfl <| h.elim fun c1 h => h.elim fun c2 h => z_icmp_ge (pc' := 15) (tgt := 43) (off := 31) (by decide +kernel) (by decide) rfl c1 c2 (am_ite h (fun h => z_lload_n (pc' := 44) (j := 1) (by decide +kernel) rfl rfl <| z_ldc2 (pc' := 47) (idx := 34) (w := 2000) (v := 2000) (by decide +kernel) (amM7 3 rfl (by decide +kernel)) (by decide) rfl <| h.elim fun c6 h => z_lcmp (pc' := 48) (by decide +kernel) c6 (by decide : R64 2000) rfl <| am_use (fun k9 => z_if_gt (pc' := 51) (tgt := 55) (off := 7) (by decide +kernel) (by decide) rfl (zcmp_r _ _) (am_ite2 (fun q10 => z_iconst (pc' := 56) (n := 0) (by decide +kernel) rfl <| (am_jp (P := fun z9 => ZP G 1 m_X4_areFew 56 [some (.ref s), some (jv v1), none, some (iv v3)] [iv z9] _ Q) (b2_n q10) k9)) (fun q10 => z_iconst (pc' := 52) (n := 1) (by decide +kernel) rfl <| z_goto (tgt := 56) (off := 4) (by decide +kernel) (by decide) <| (am_jp (P := fun z9 => ZP G 1 m_X4_areFew 56 [some (.ref s), some (jv v1), none, some (iv v3)] [iv z9] _ Q) (b2_nn q10) k9)))) <| z_ireturn (by decide +kernel) (am_rb (b2_01 _)) h) (fun h => z_lload_n (pc' := 16) (j := 1) (by decide +kernel) rfl rfl <| z_ldc2 (pc' := 19) (idx := 34) (w := 2000) (v := 2000) (by decide +kernel) (amM7 3 rfl (by decide +kernel)) (by decide) rfl <| h.elim fun c11 h => z_lcmp (pc' := 20) (by decide +kernel) c11 (by decide : R64 2000) rfl <| z_if_gt (pc' := 23) (tgt := 43) (off := 23) (by decide +kernel) (by decide) rfl (zcmp_r _ _) (am_ite h (fun h => z_lload_n (pc' := 44) (j := 1) (by decide +kernel) rfl rfl <| z_ldc2 (pc' := 47) (idx := 34) (w := 2000) (v := 2000) (by decide +kernel) (amM7 3 rfl (by decide +kernel)) (by decide) rfl <| z_lcmp (pc' := 48) (by decide +kernel) c11 (by decide : R64 2000) rfl <| am_use (fun k16 => z_if_gt (pc' := 51) (tgt := 55) (off := 7) (by decide +kernel) (by decide) rfl (zcmp_r _ _) (am_ite2 (fun q17 => z_iconst (pc' := 56) (n := 0) (by decide +kernel) rfl <| (am_jp (P := fun z9 => ZP G 1 m_X4_areFew 56 [some (.ref s), some (jv v1), none, some (iv v3)] [iv z9] _ Q) (b2_n q17) k16)) (fun q17 => z_iconst (pc' := 52) (n := 1) (by decide +kernel) rfl <| z_goto (tgt := 56) (off := 4) (by decide +kernel) (by decide) <| (am_jp (P := fun z9 => ZP G 1 m_X4_areFew 56 [some (.ref s), some (jv v1), none, some (iv v3)] [iv z9] _ Q) (b2_nn q17) k16)))) <| z_ireturn (by decide +kernel) (am_rb (b2_01 _)) h) (fun h => z_lload_n (pc' := 24) (j := 1) (by decide +kernel) rfl rfl <| z_aload_n (pc' := 25) (j := 0) (by decide +kernel) rfl rfl <| z_getR (pc' := 28) (idx := 15) (ci := 4) (f := 0) (by decide +kernel) f_RX4_15 rfl hs.o.1 hs.o.2 hs.r0 rfl <| z_iload_n (pc' := 29) (j := 3) (by decide +kernel) rfl rfl <| h.elim fun c18 h => z_callV (pc' := 32) (idx := 36) (mj := m_X7_slackOf) (av := [iv v3]) (d' := 0) (by decide +kernel) rfl k_X7_slackOf l_RX4_36 rfl (by omega) (am_le rfl) rfl (am_le rfl) hn.o.1 hn.o.2 rfl <| zKf (s_slackOf hn c18) <| z_iconst (pc' := 33) (n := 1) (by decide +kernel) rfl <| z_iadd (pc' := 34) (by decide +kernel) rfl <| h.elim fun c19 h => z_i2l (pc' := 35) (by decide +kernel) c19 rfl <| z_lmul (pc' := 36) (by decide +kernel) rfl <| z_lstore_n (pc' := 37) (j := 1) (ls' := [some (.ref s), some (jv (v1 * ((zI Z (n + 7) v3.toNat - zI Z (n + 6) v3.toNat) + 1))), none, some (iv v3)]) (by decide +kernel) (by decide) rfl rfl <| z_iinc (pc' := 40) (j := 3) (n := 1) (x := v3) (ls' := [some (.ref s), some (jv (v1 * ((zI Z (n + 7) v3.toNat - zI Z (n + 6) v3.toNat) + 1))), none, some (iv (v3 + 1))]) (by decide +kernel) rfl (by decide) rfl rfl <| z_goto (tgt := 4) (off := -36) (by decide +kernel) (by decide) <| h))))
set_option maxRecDepth 20000 in
theorem e_X4_letOf {G : Gx} {Q : Rv → Zm → Prop} {Z : Zm} {s : Nat} {b : Nat} {n : Nat} {t : Int} (hs : atLevels Z s b n) (hb : atBook Z b) (hn : atNet Z n) (h : (ZP G 1 m_X4_letOf 4 [some (.ref s), some (iv t), some (iv 0), some (iv 0), none] [] Z Q)) : ZM G 1 m_X4_letOf [.ref s, iv t] Z Q := ZM.of [some (.ref s), some (iv t), none, none, none] rfl <| z_iconst (pc' := 1) (n := 0) (by decide +kernel) rfl <| z_istore_n (pc' := 2) (j := 2) (ls' := [some (.ref s), some (iv t), some (iv 0), none, none]) (by decide +kernel) (by decide) rfl rfl <| z_iconst (pc' := 3) (n := 0) (by decide +kernel) rfl <| z_istore_n (pc' := 4) (j := 3) (ls' := [some (.ref s), some (iv t), some (iv 0), some (iv 0), none]) (by decide +kernel) (by decide) rfl rfl <| h
set_option maxRecDepth 20000 in
theorem b_X4_letOf_4 {G : Gx} {Q : Rv → Zm → Prop} {Z : Zm} {s : Nat} {b : Nat} {n : Nat} {t : Int} {v2 : Int} {v3 : Int} (hs : atLevels Z s b n) (hb : atBook Z b) (hn : atNet Z n) (h : ((R32 v3) ∧ (R32 (zI Z n 2)) ∧ (if (zI Z n 2) ≤ v3 then (Q (.inl (some (iv v2))) Z) else ((zIx v3 50) ∧ (R32 (zI Z (n + 4) v3.toNat)) ∧ (R32 t) ∧ (if (zI Z (n + 4) v3.toNat) = t then ((zIx (zI Z (n + 3) v3.toNat) 20) ∧ (R32 v2) ∧ (R32 (((zI Z (s + 1) (zI Z (n + 3) v3.toNat).toNat) + (zI Z (b + 2) (zI Z (n + 3) v3.toNat).toNat)) + (zI Z (n + 5) v3.toNat))) ∧ ZP G 1 m_X4_letOf 4 [some (.ref s), some (iv t), some (iv (max v2 (((zI Z (s + 1) (zI Z (n + 3) v3.toNat).toNat) + (zI Z (b + 2) (zI Z (n + 3) v3.toNat).toNat)) + (zI Z (n + 5) v3.toNat)))), some (iv (v3 + 1)), none] [] Z Q) else (ZP G 1 m_X4_letOf 4 [some (.ref s), some (iv t), some (iv v2), some (iv (v3 + 1)), none] [] Z Q)))))) : ZP G 1 m_X4_letOf 4 [some (.ref s), some (iv t), some (iv v2), some (iv v3), none] [] Z Q := z_iload_n (pc' := 5) (j := 3) (by decide +kernel) rfl rfl <| z_aload_n (pc' := 6) (j := 0) (by decide +kernel) rfl rfl <| z_getR (pc' := 9) (idx := 15) (ci := 4) (f := 0) (by decide +kernel) f_RX4_15 rfl hs.o.1 hs.o.2 hs.r0 rfl <| z_getI (pc' := 12) (idx := 71) (ci := 7) (f := 2) (by decide +kernel) f_RX4_71 rfl hn.o.1 hn.o.2 rfl <| h.elim fun c1 h => h.elim fun c2 h => z_icmp_ge (pc' := 15) (tgt := 75) (off := 63) (by decide +kernel) (by decide) rfl c1 c2 (am_ite h (fun h => z_iload_n (pc' := 76) (j := 2) (by decide +kernel) rfl rfl <| z_ireturn (by decide +kernel) ⟨_, rfl, rfl⟩ h) (fun h => z_aload_n (pc' := 16) (j := 0) (by decide +kernel) rfl rfl <| z_getR (pc' := 19) (idx := 15) (ci := 4) (f := 0) (by decide +kernel) f_RX4_15 rfl hs.o.1 hs.o.2 hs.r0 rfl <| z_getR (pc' := 22) (idx := 74) (ci := 7) (f := 7) (by decide +kernel) f_RX4_74 rfl hn.o.1 hn.o.2 hn.r7 rfl <| z_iload_n (pc' := 23) (j := 3) (by decide +kernel) rfl rfl <| h.elim fun c9 h => z_iaload (pc' := 24) (by decide +kernel) hn.a7 c9 rfl <| z_iload_n (pc' := 25) (j := 1) (by decide +kernel) rfl rfl <| h.elim fun c10 h => h.elim fun c11 h => z_icmp_ne (pc' := 28) (tgt := 69) (off := 44) (by decide +kernel) (by decide) rfl c10 c11 (am_ite h (fun h => z_aload_n (pc' := 29) (j := 0) (by decide +kernel) rfl rfl <| z_getR (pc' := 32) (idx := 15) (ci := 4) (f := 0) (by decide +kernel) f_RX4_15 rfl hs.o.1 hs.o.2 hs.r0 rfl <| z_getR (pc' := 35) (idx := 77) (ci := 7) (f := 6) (by decide +kernel) f_RX4_77 rfl hn.o.1 hn.o.2 hn.r6 rfl <| z_iload_n (pc' := 36) (j := 3) (by decide +kernel) rfl rfl <| z_iaload (pc' := 37) (by decide +kernel) hn.a6 c9 rfl <| z_istore (pc' := 39) (j := 4) (ls' := [some (.ref s), some (iv t), some (iv v2), some (iv v3), some (iv (zI Z (n + 3) v3.toNat))]) (by decide +kernel) (by decide) rfl rfl <| z_iload_n (pc' := 40) (j := 2) (by decide +kernel) rfl rfl <| z_aload_n (pc' := 41) (j := 0) (by decide +kernel) rfl rfl <| z_getR (pc' := 44) (idx := 9) (ci := 4) (f := 2) (by decide +kernel) f_RX4_9 rfl hs.o.1 hs.o.2 hs.r2 rfl <| z_iload (pc' := 46) (j := 4) (by decide +kernel) rfl rfl <| h.elim fun c15 h => z_iaload (pc' := 47) (by decide +kernel) hs.a2 c15 rfl <| z_aload_n (pc' := 48) (j := 0) (by decide +kernel) rfl rfl <| z_getR (pc' := 51) (idx := 25) (ci := 4) (f := 1) (by decide +kernel) f_RX4_25 rfl hs.o.1 hs.o.2 hs.r1 rfl <| z_iload (pc' := 53) (j := 4) (by decide +kernel) rfl rfl <| z_iaload (pc' := 54) (by decide +kernel) hs.a1 c15 rfl <| z_iadd (pc' := 55) (by decide +kernel) rfl <| z_aload_n (pc' := 56) (j := 0) (by decide +kernel) rfl rfl <| z_getR (pc' := 59) (idx := 15) (ci := 4) (f := 0) (by decide +kernel) f_RX4_15 rfl hs.o.1 hs.o.2 hs.r0 rfl <| z_getR (pc' := 62) (idx := 80) (ci := 7) (f := 8) (by decide +kernel) f_RX4_80 rfl hn.o.1 hn.o.2 hn.r8 rfl <| z_iload_n (pc' := 63) (j := 3) (by decide +kernel) rfl rfl <| z_iaload (pc' := 64) (by decide +kernel) hn.a8 c9 rfl <| z_iadd (pc' := 65) (by decide +kernel) rfl <| h.elim fun c16 h => h.elim fun c17 h => z_max (pc' := 68) (idx := 65) (by decide +kernel) (amM7 18 rfl (by decide +kernel)) (amM3 108 rfl (by decide +kernel)) (amM1 21 rfl (by decide +kernel)) (amM3 109 rfl (by decide +kernel)) (by omega) (am_le rfl) c16 c17 rfl <| z_istore_n (pc' := 69) (j := 2) (ls' := [some (.ref s), some (iv t), some (iv (max v2 (((zI Z (s + 1) (zI Z (n + 3) v3.toNat).toNat) + (zI Z (b + 2) (zI Z (n + 3) v3.toNat).toNat)) + (zI Z (n + 5) v3.toNat)))), some (iv v3), some (iv (zI Z (n + 3) v3.toNat))]) (by decide +kernel) (by decide) rfl rfl <| z_iinc (pc' := 72) (j := 3) (n := 1) (x := v3) (ls' := [some (.ref s), some (iv t), some (iv (max v2 (((zI Z (s + 1) (zI Z (n + 3) v3.toNat).toNat) + (zI Z (b + 2) (zI Z (n + 3) v3.toNat).toNat)) + (zI Z (n + 5) v3.toNat)))), some (iv (v3 + 1)), some (iv (zI Z (n + 3) v3.toNat))]) (by decide +kernel) rfl (by decide) rfl rfl <| z_goto (tgt := 4) (off := -68) (by decide +kernel) (by decide) <| (ZP.wk (wk_some (wk_some (wk_some (wk_some (wk_none wk_nil))))) h)) (fun h => z_iinc (pc' := 72) (j := 3) (n := 1) (x := v3) (ls' := [some (.ref s), some (iv t), some (iv v2), some (iv (v3 + 1)), none]) (by decide +kernel) rfl (by decide) rfl rfl <| z_goto (tgt := 4) (off := -68) (by decide +kernel) (by decide) <| h))))
set_option maxRecDepth 20000 in
theorem e_X4_countAt {G : Gx} {Q : Rv → Zm → Prop} {Z : Zm} {s : Nat} {b : Nat} {n : Nat} {x : Int} (hs : atLevels Z s b n) (hb : atBook Z b) (hn : atNet Z n) (h : (ZP G 0 m_X4_countAt 4 [some (.ref s), some (iv x), some (iv 0), some (iv 0)] [] Z Q)) : ZM G 0 m_X4_countAt [.ref s, iv x] Z Q := ZM.of [some (.ref s), some (iv x), none, none] rfl <| z_iconst (pc' := 1) (n := 0) (by decide +kernel) rfl <| z_istore_n (pc' := 2) (j := 2) (ls' := [some (.ref s), some (iv x), some (iv 0), none]) (by decide +kernel) (by decide) rfl rfl <| z_iconst (pc' := 3) (n := 0) (by decide +kernel) rfl <| z_istore_n (pc' := 4) (j := 3) (ls' := [some (.ref s), some (iv x), some (iv 0), some (iv 0)]) (by decide +kernel) (by decide) rfl rfl <| h
set_option maxRecDepth 20000 in
theorem b_X4_countAt_4 {G : Gx} {Q : Rv → Zm → Prop} {Z : Zm} {s : Nat} {b : Nat} {n : Nat} {x : Int} {v2 : Int} {v3 : Int} (hs : atLevels Z s b n) (hb : atBook Z b) (hn : atNet Z n) (h : ((R32 v3) ∧ (R32 (zI Z n 1)) ∧ (if (zI Z n 1) ≤ v3 then (Q (.inl (some (iv v2))) Z) else ((zIx v3 20) ∧ (R32 (zI Z (s + 1) v3.toNat)) ∧ (¬ ((zI Z (s + 1) v3.toNat) = (-1)) → (R32 x) ∧ (¬ (x < (zI Z (s + 1) v3.toNat)) → (R32 ((zI Z (s + 1) v3.toNat) + (zI Z (b + 2) v3.toNat))) ∧ True) ∧ True) ∧ ZP G 0 m_X4_countAt 4 [some (.ref s), some (iv x), some (iv (if (zI Z (s + 1) v3.toNat) = (-1) then v2 else (if x < (zI Z (s + 1) v3.toNat) then v2 else (if ((zI Z (s + 1) v3.toNat) + (zI Z (b + 2) v3.toNat)) ≤ x then v2 else v2 + 1)))), some (iv (v3 + 1))] [] Z Q)))) : ZP G 0 m_X4_countAt 4 [some (.ref s), some (iv x), some (iv v2), some (iv v3)] [] Z Q := z_iload_n (pc' := 5) (j := 3) (by decide +kernel) rfl rfl <| z_aload_n (pc' := 6) (j := 0) (by decide +kernel) rfl rfl <| z_getR (pc' := 9) (idx := 15) (ci := 4) (f := 0) (by decide +kernel) f_RX4_15 rfl hs.o.1 hs.o.2 hs.r0 rfl <| z_getI (pc' := 12) (idx := 28) (ci := 7) (f := 1) (by decide +kernel) f_RX4_28 rfl hn.o.1 hn.o.2 rfl <| h.elim fun c1 h => h.elim fun c2 h => z_icmp_ge (pc' := 15) (tgt := 61) (off := 49) (by decide +kernel) (by decide) rfl c1 c2 (am_ite h (fun h => z_iload_n (pc' := 62) (j := 2) (by decide +kernel) rfl rfl <| z_ireturn (by decide +kernel) ⟨_, rfl, rfl⟩ h) (fun h => z_aload_n (pc' := 16) (j := 0) (by decide +kernel) rfl rfl <| z_getR (pc' := 19) (idx := 9) (ci := 4) (f := 2) (by decide +kernel) f_RX4_9 rfl hs.o.1 hs.o.2 hs.r2 rfl <| z_iload_n (pc' := 20) (j := 3) (by decide +kernel) rfl rfl <| h.elim fun c19 h => z_iaload (pc' := 21) (by decide +kernel) hs.a2 c19 rfl <| z_iconst (pc' := 22) (n := -1) (by decide +kernel) rfl <| h.elim fun c20 h => h.elim fun g32 h => am_use (fun k33 => z_icmp_eq (pc' := 25) (tgt := 55) (off := 33) (by decide +kernel) (by decide) rfl c20 (by decide : R32 (-1)) (am_ite2 (fun q34 => (am_jp (P := fun z9 => ZP G 0 m_X4_countAt 55 [some (.ref s), some (iv x), some (iv z9), some (iv v3)] [] _ Q) (if_pos q34) k33)) (fun q34 => have h := g32 q34; z_aload_n (pc' := 26) (j := 0) (by decide +kernel) rfl rfl <| z_getR (pc' := 29) (idx := 9) (ci := 4) (f := 2) (by decide +kernel) f_RX4_9 rfl hs.o.1 hs.o.2 hs.r2 rfl <| z_iload_n (pc' := 30) (j := 3) (by decide +kernel) rfl rfl <| z_iaload (pc' := 31) (by decide +kernel) hs.a2 c19 rfl <| z_iload_n (pc' := 32) (j := 1) (by decide +kernel) rfl rfl <| h.elim fun c21 h => h.elim fun g28 h => am_use (fun k29 => z_icmp_gt (pc' := 35) (tgt := 55) (off := 23) (by decide +kernel) (by decide) rfl c20 c21 (am_ite2 (fun q30 => (am_jp (P := fun z9 => ZP G 0 m_X4_countAt 55 [some (.ref s), some (iv x), some (iv z9), some (iv v3)] [] _ Q) (if_pos q30) k29)) (fun q30 => have h := g28 q30; z_iload_n (pc' := 36) (j := 1) (by decide +kernel) rfl rfl <| z_aload_n (pc' := 37) (j := 0) (by decide +kernel) rfl rfl <| z_getR (pc' := 40) (idx := 9) (ci := 4) (f := 2) (by decide +kernel) f_RX4_9 rfl hs.o.1 hs.o.2 hs.r2 rfl <| z_iload_n (pc' := 41) (j := 3) (by decide +kernel) rfl rfl <| z_iaload (pc' := 42) (by decide +kernel) hs.a2 c19 rfl <| z_aload_n (pc' := 43) (j := 0) (by decide +kernel) rfl rfl <| z_getR (pc' := 46) (idx := 25) (ci := 4) (f := 1) (by decide +kernel) f_RX4_25 rfl hs.o.1 hs.o.2 hs.r1 rfl <| z_iload_n (pc' := 47) (j := 3) (by decide +kernel) rfl rfl <| z_iaload (pc' := 48) (by decide +kernel) hs.a1 c19 rfl <| z_iadd (pc' := 49) (by decide +kernel) rfl <| h.elim fun c22 h => am_use (fun k25 => z_icmp_ge (pc' := 52) (tgt := 55) (off := 6) (by decide +kernel) (by decide) rfl c21 c22 (am_ite2 (fun q26 => (am_jp (P := fun z9 => ZP G 0 m_X4_countAt 55 [some (.ref s), some (iv x), some (iv z9), some (iv v3)] [] _ Q) (if_pos q26) k25)) (fun q26 => z_iinc (pc' := 55) (j := 2) (n := 1) (x := v2) (ls' := [some (.ref s), some (iv x), some (iv (v2 + 1)), some (iv v3)]) (by decide +kernel) rfl (by decide) rfl rfl <| (am_jp (P := fun z9 => ZP G 0 m_X4_countAt 55 [some (.ref s), some (iv x), some (iv z9), some (iv v3)] [] _ Q) (if_neg q26) k25)))) <| (am_jp (P := fun z9 => ZP G 0 m_X4_countAt 55 [some (.ref s), some (iv x), some (iv z9), some (iv v3)] [] _ Q) (if_neg q30) k29)))) <| (am_jp (P := fun z9 => ZP G 0 m_X4_countAt 55 [some (.ref s), some (iv x), some (iv z9), some (iv v3)] [] _ Q) (if_neg q34) k33)))) <| z_iinc (pc' := 58) (j := 3) (n := 1) (x := v3) (ls' := [some (.ref s), some (iv x), some (iv (if (zI Z (s + 1) v3.toNat) = (-1) then v2 else (if x < (zI Z (s + 1) v3.toNat) then v2 else (if ((zI Z (s + 1) v3.toNat) + (zI Z (b + 2) v3.toNat)) ≤ x then v2 else v2 + 1)))), some (iv (v3 + 1))]) (by decide +kernel) rfl (by decide) rfl rfl <| z_goto (tgt := 4) (off := -54) (by decide +kernel) (by decide) <| h))
set_option maxRecDepth 20000 in
theorem e_X4_peakWith {G : Gx} {Q : Rv → Zm → Prop} {Z : Zm} {s : Nat} {b : Nat} {n : Nat} {t : Int} (hs : atLevels Z s b n) (hb : atBook Z b) (hn : atNet Z n) (h : ((zIx t 20) ∧ ZM G 0 m_X4_countAt [.ref s, iv (zI Z (s + 1) t.toNat)] Z (zKc G 1 m_X4_peakWith 12 [some (.ref s), some (iv t), some (iv (zI Z (s + 1) t.toNat)), none, none] [] Q))) : ZM G 1 m_X4_peakWith [.ref s, iv t] Z Q := ZM.of [some (.ref s), some (iv t), none, none, none] rfl <| z_aload_n (pc' := 1) (j := 0) (by decide +kernel) rfl rfl <| z_getR (pc' := 4) (idx := 9) (ci := 4) (f := 2) (by decide +kernel) f_RX4_9 rfl hs.o.1 hs.o.2 hs.r2 rfl <| z_iload_n (pc' := 5) (j := 1) (by decide +kernel) rfl rfl <| h.elim fun c1 h => z_iaload (pc' := 6) (by decide +kernel) hs.a2 c1 rfl <| z_istore_n (pc' := 7) (j := 2) (ls' := [some (.ref s), some (iv t), some (iv (zI Z (s + 1) t.toNat)), none, none]) (by decide +kernel) (by decide) rfl rfl <| z_aload_n (pc' := 8) (j := 0) (by decide +kernel) rfl rfl <| z_iload_n (pc' := 9) (j := 2) (by decide +kernel) rfl rfl <| z_callV (pc' := 12) (idx := 83) (mj := m_X4_countAt) (av := [iv (zI Z (s + 1) t.toNat)]) (d' := 0) (by decide +kernel) rfl k_X4_countAt l_RX4_83 rfl (by omega) (am_le rfl) rfl (am_le rfl) hs.o.1 hs.o.2 rfl h
set_option maxRecDepth 20000 in
theorem b_X4_peakWith_12 {G : Gx} {Q : Rv → Zm → Prop} {Z : Zm} {s : Nat} {b : Nat} {n : Nat} {t : Int} {v2 : Int} {s0 : Int} (hs : atLevels Z s b n) (hb : atBook Z b) (hn : atNet Z n) (h : (ZP G 1 m_X4_peakWith 16 [some (.ref s), some (iv t), some (iv v2), some (iv s0), some (iv 0)] [] Z Q)) : ZP G 1 m_X4_peakWith 12 [some (.ref s), some (iv t), some (iv v2), none, none] [iv s0] Z Q := z_istore_n (pc' := 13) (j := 3) (ls' := [some (.ref s), some (iv t), some (iv v2), some (iv s0), none]) (by decide +kernel) (by decide) rfl rfl <| z_iconst (pc' := 14) (n := 0) (by decide +kernel) rfl <| z_istore (pc' := 16) (j := 4) (ls' := [some (.ref s), some (iv t), some (iv v2), some (iv s0), some (iv 0)]) (by decide +kernel) (by decide) rfl rfl <| h
set_option maxRecDepth 20000 in
theorem b_X4_peakWith_16 {G : Gx} {Q : Rv → Zm → Prop} {Z : Zm} {s : Nat} {b : Nat} {n : Nat} {t : Int} {v2 : Int} {v3 : Int} {v4 : Int} (hs : atLevels Z s b n) (hb : atBook Z b) (hn : atNet Z n) (h : ((R32 v4) ∧ (R32 (zI Z n 1)) ∧ (if (zI Z n 1) ≤ v4 then (Q (.inl (some (iv v3))) Z) else ((zIx v4 20) ∧ (R32 (zI Z (s + 1) v4.toNat)) ∧ (R32 v2) ∧ (if (zI Z (s + 1) v4.toNat) ≤ v2 then (ZP G 1 m_X4_peakWith 16 [some (.ref s), some (iv t), some (iv v2), some (iv v3), some (iv (v4 + 1))] [] Z Q) else ((zIx t 20) ∧ (R32 (v2 + (zI Z (b + 2) t.toNat))) ∧ (if (v2 + (zI Z (b + 2) t.toNat)) ≤ (zI Z (s + 1) v4.toNat) then (ZP G 1 m_X4_peakWith 16 [some (.ref s), some (iv t), some (iv v2), some (iv v3), some (iv (v4 + 1))] [] Z Q) else (ZM G 0 m_X4_countAt [.ref s, iv (zI Z (s + 1) v4.toNat)] Z (zKc G 1 m_X4_peakWith 69 [some (.ref s), some (iv t), some (iv v2), none, some (iv v4)] [iv v3] Q))))))))) : ZP G 1 m_X4_peakWith 16 [some (.ref s), some (iv t), some (iv v2), some (iv v3), some (iv v4)] [] Z Q := z_iload (pc' := 18) (j := 4) (by decide +kernel) rfl rfl <| z_aload_n (pc' := 19) (j := 0) (by decide +kernel) rfl rfl <| z_getR (pc' := 22) (idx := 15) (ci := 4) (f := 0) (by decide +kernel) f_RX4_15 rfl hs.o.1 hs.o.2 hs.r0 rfl <| z_getI (pc' := 25) (idx := 28) (ci := 7) (f := 1) (by decide +kernel) f_RX4_28 rfl hn.o.1 hn.o.2 rfl <| h.elim fun c1 h => h.elim fun c2 h => z_icmp_ge (pc' := 28) (tgt := 79) (off := 54) (by decide +kernel) (by decide) rfl c1 c2 (am_ite h (fun h => z_iload_n (pc' := 80) (j := 3) (by decide +kernel) rfl rfl <| z_ireturn (by decide +kernel) ⟨_, rfl, rfl⟩ h) (fun h => z_aload_n (pc' := 29) (j := 0) (by decide +kernel) rfl rfl <| z_getR (pc' := 32) (idx := 9) (ci := 4) (f := 2) (by decide +kernel) f_RX4_9 rfl hs.o.1 hs.o.2 hs.r2 rfl <| z_iload (pc' := 34) (j := 4) (by decide +kernel) rfl rfl <| h.elim fun c8 h => z_iaload (pc' := 35) (by decide +kernel) hs.a2 c8 rfl <| z_iload_n (pc' := 36) (j := 2) (by decide +kernel) rfl rfl <| h.elim fun c9 h => h.elim fun c10 h => z_icmp_le (pc' := 39) (tgt := 73) (off := 37) (by decide +kernel) (by decide) rfl c9 c10 (am_ite h (fun h => z_iinc (pc' := 76) (j := 4) (n := 1) (x := v4) (ls' := [some (.ref s), some (iv t), some (iv v2), some (iv v3), some (iv (v4 + 1))]) (by decide +kernel) rfl (by decide) rfl rfl <| z_goto (tgt := 16) (off := -60) (by decide +kernel) (by decide) <| h) (fun h => z_aload_n (pc' := 40) (j := 0) (by decide +kernel) rfl rfl <| z_getR (pc' := 43) (idx := 9) (ci := 4) (f := 2) (by decide +kernel) f_RX4_9 rfl hs.o.1 hs.o.2 hs.r2 rfl <| z_iload (pc' := 45) (j := 4) (by decide +kernel) rfl rfl <| z_iaload (pc' := 46) (by decide +kernel) hs.a2 c8 rfl <| z_iload_n (pc' := 47) (j := 2) (by decide +kernel) rfl rfl <| z_aload_n (pc' := 48) (j := 0) (by decide +kernel) rfl rfl <| z_getR (pc' := 51) (idx := 25) (ci := 4) (f := 1) (by decide +kernel) f_RX4_25 rfl hs.o.1 hs.o.2 hs.r1 rfl <| z_iload_n (pc' := 52) (j := 1) (by decide +kernel) rfl rfl <| h.elim fun c13 h => z_iaload (pc' := 53) (by decide +kernel) hs.a1 c13 rfl <| z_iadd (pc' := 54) (by decide +kernel) rfl <| h.elim fun c14 h => z_icmp_ge (pc' := 57) (tgt := 73) (off := 19) (by decide +kernel) (by decide) rfl c9 c14 (am_ite h (fun h => z_iinc (pc' := 76) (j := 4) (n := 1) (x := v4) (ls' := [some (.ref s), some (iv t), some (iv v2), some (iv v3), some (iv (v4 + 1))]) (by decide +kernel) rfl (by decide) rfl rfl <| z_goto (tgt := 16) (off := -60) (by decide +kernel) (by decide) <| h) (fun h => z_iload_n (pc' := 58) (j := 3) (by decide +kernel) rfl rfl <| z_aload_n (pc' := 59) (j := 0) (by decide +kernel) rfl rfl <| z_aload_n (pc' := 60) (j := 0) (by decide +kernel) rfl rfl <| z_getR (pc' := 63) (idx := 9) (ci := 4) (f := 2) (by decide +kernel) f_RX4_9 rfl hs.o.1 hs.o.2 hs.r2 rfl <| z_iload (pc' := 65) (j := 4) (by decide +kernel) rfl rfl <| z_iaload (pc' := 66) (by decide +kernel) hs.a2 c8 rfl <| z_callV (pc' := 69) (idx := 83) (mj := m_X4_countAt) (av := [iv (zI Z (s + 1) v4.toNat)]) (d' := 0) (by decide +kernel) rfl k_X4_countAt l_RX4_83 rfl (by omega) (am_le rfl) rfl (am_le rfl) hs.o.1 hs.o.2 rfl (ZM.mono h (zKc_wk (wk_some (wk_some (wk_some (wk_none (wk_some wk_nil)))))))))))))
set_option maxRecDepth 20000 in
theorem b_X4_peakWith_69 {G : Gx} {Q : Rv → Zm → Prop} {Z : Zm} {s : Nat} {b : Nat} {n : Nat} {t : Int} {v2 : Int} {v4 : Int} {s0 : Int} {s1 : Int} (hs : atLevels Z s b n) (hb : atBook Z b) (hn : atNet Z n) (h : ((R32 s1) ∧ (R32 s0) ∧ ZP G 1 m_X4_peakWith 16 [some (.ref s), some (iv t), some (iv v2), some (iv (max s1 s0)), some (iv (v4 + 1))] [] Z Q)) : ZP G 1 m_X4_peakWith 69 [some (.ref s), some (iv t), some (iv v2), none, some (iv v4)] [iv s0, iv s1] Z Q := h.elim fun c1 h => h.elim fun c2 h => z_max (pc' := 72) (idx := 65) (by decide +kernel) (amM7 18 rfl (by decide +kernel)) (amM3 108 rfl (by decide +kernel)) (amM1 21 rfl (by decide +kernel)) (amM3 109 rfl (by decide +kernel)) (by omega) (am_le rfl) c1 c2 rfl <| z_istore_n (pc' := 73) (j := 3) (ls' := [some (.ref s), some (iv t), some (iv v2), some (iv (max s1 s0)), some (iv v4)]) (by decide +kernel) (by decide) rfl rfl <| z_iinc (pc' := 76) (j := 4) (n := 1) (x := v4) (ls' := [some (.ref s), some (iv t), some (iv v2), some (iv (max s1 s0)), some (iv (v4 + 1))]) (by decide +kernel) rfl (by decide) rfl rfl <| z_goto (tgt := 16) (off := -60) (by decide +kernel) (by decide) <| h
set_option maxRecDepth 20000 in
theorem e_X4_putNext {G : Gx} {Q : Rv → Zm → Prop} {Z : Zm} {s : Nat} {b : Nat} {n : Nat} {dd : Nat} {x : Int} {y : Int} (hs : atLevels Z s b n) (hb : atBook Z b) (hn : atNet Z n) (hdd : 0 ≤ dd) (h : ((R32 y) ∧ (R32 (zI Z s 3)) ∧ (if y < (zI Z s 3) then ((R32 x) ∧ (R32 (zI Z n 1)) ∧ (if (zI Z n 1) ≤ x then (∀ Z5, Z5 = zSI Z s (zu (zI Z s) 3 y) → Q (.inl none) Z5) else ((if x < 6 then ((zIx x 20) ∧ (zIx (zI Z (n + 1) x.toNat) 20) ∧ ZM G (dd + 3) m_X4_letOf [.ref s, iv (zI Z (n + 1) x.toNat)] Z (zKc G (dd + 4) m_X4_putNext 58 [some (.ref s), some (iv x), some (iv y), some (iv (zI Z (n + 1) x.toNat)), some (iv (zI Z (n + 7) (zI Z (n + 1) x.toNat).toNat)), none] [] Q)) else (∀ Z8, Z8 = zSI Z s (zu (zI Z s) 3 y) → Q (.inl none) Z8))))) else (Q (.inl none) Z)))) : ZM G (dd + 4) m_X4_putNext [.ref s, iv x, iv y] Z Q := ZM.of [some (.ref s), some (iv x), some (iv y), none, none, none] rfl <| z_iload_n (pc' := 1) (j := 2) (by decide +kernel) rfl rfl <| z_aload_n (pc' := 2) (j := 0) (by decide +kernel) rfl rfl <| z_getI (pc' := 5) (idx := 40) (ci := 4) (f := 3) (by decide +kernel) f_RX4_40 rfl hs.o.1 hs.o.2 rfl <| h.elim fun c1 h => h.elim fun c2 h => z_icmp_lt (pc' := 8) (tgt := 9) (off := 4) (by decide +kernel) (by decide) rfl c1 c2 (am_ite h (fun h => z_iload_n (pc' := 10) (j := 1) (by decide +kernel) rfl rfl <| z_aload_n (pc' := 11) (j := 0) (by decide +kernel) rfl rfl <| z_getR (pc' := 14) (idx := 15) (ci := 4) (f := 0) (by decide +kernel) f_RX4_15 rfl hs.o.1 hs.o.2 hs.r0 rfl <| z_getI (pc' := 17) (idx := 28) (ci := 7) (f := 1) (by decide +kernel) f_RX4_28 rfl hn.o.1 hn.o.2 rfl <| h.elim fun c3 h => h.elim fun c4 h => z_icmp_ge (pc' := 20) (tgt := 26) (off := 9) (by decide +kernel) (by decide) rfl c3 c4 (am_ite h (fun h => z_aload_n (pc' := 27) (j := 0) (by decide +kernel) rfl rfl <| z_iload_n (pc' := 28) (j := 2) (by decide +kernel) rfl rfl <| z_putI (pc' := 31) (idx := 40) (ci := 4) (f := 3) (by decide +kernel) f_RX4_40 (am_nf rfl rfl) rfl rfl rfl hs.o.1 hs.o.2 rfl <| have h := h _ rfl; z_ret (by decide +kernel) rfl h) (fun h => z_iload_n (pc' := 21) (j := 1) (by decide +kernel) rfl rfl <| z_bipush (pc' := 23) (n := 6) (by decide +kernel) (by decide) rfl <| z_icmp_lt (pc' := 26) (tgt := 32) (off := 9) (by decide +kernel) (by decide) rfl c3 (by decide : R32 6) (am_ite h (fun h => z_aload_n (pc' := 33) (j := 0) (by decide +kernel) rfl rfl <| z_getR (pc' := 36) (idx := 15) (ci := 4) (f := 0) (by decide +kernel) f_RX4_15 rfl hs.o.1 hs.o.2 hs.r0 rfl <| z_getR (pc' := 39) (idx := 53) (ci := 7) (f := 4) (by decide +kernel) f_RX4_53 rfl hn.o.1 hn.o.2 hn.r4 rfl <| z_iload_n (pc' := 40) (j := 1) (by decide +kernel) rfl rfl <| h.elim fun c6 h => z_iaload (pc' := 41) (by decide +kernel) hn.a4 c6 rfl <| z_istore_n (pc' := 42) (j := 3) (ls' := [some (.ref s), some (iv x), some (iv y), some (iv (zI Z (n + 1) x.toNat)), none, none]) (by decide +kernel) (by decide) rfl rfl <| z_aload_n (pc' := 43) (j := 0) (by decide +kernel) rfl rfl <| z_getR (pc' := 46) (idx := 15) (ci := 4) (f := 0) (by decide +kernel) f_RX4_15 rfl hs.o.1 hs.o.2 hs.r0 rfl <| z_getR (pc' := 49) (idx := 56) (ci := 7) (f := 10) (by decide +kernel) f_RX4_56 rfl hn.o.1 hn.o.2 hn.r10 rfl <| z_iload_n (pc' := 50) (j := 3) (by decide +kernel) rfl rfl <| h.elim fun c7 h => z_iaload (pc' := 51) (by decide +kernel) hn.a10 c7 rfl <| z_istore (pc' := 53) (j := 4) (ls' := [some (.ref s), some (iv x), some (iv y), some (iv (zI Z (n + 1) x.toNat)), some (iv (zI Z (n + 7) (zI Z (n + 1) x.toNat).toNat)), none]) (by decide +kernel) (by decide) rfl rfl <| z_aload_n (pc' := 54) (j := 0) (by decide +kernel) rfl rfl <| z_iload_n (pc' := 55) (j := 3) (by decide +kernel) rfl rfl <| z_callV (pc' := 58) (idx := 59) (mj := m_X4_letOf) (av := [iv (zI Z (n + 1) x.toNat)]) (d' := (dd + 3)) (by decide +kernel) rfl k_X4_letOf l_RX4_59 rfl (by omega) (am_le rfl) rfl (am_le rfl) hs.o.1 hs.o.2 rfl h) (fun h => z_aload_n (pc' := 27) (j := 0) (by decide +kernel) rfl rfl <| z_iload_n (pc' := 28) (j := 2) (by decide +kernel) rfl rfl <| z_putI (pc' := 31) (idx := 40) (ci := 4) (f := 3) (by decide +kernel) f_RX4_40 (am_nf rfl rfl) rfl rfl rfl hs.o.1 hs.o.2 rfl <| have h := h _ rfl; z_ret (by decide +kernel) rfl h))))) (fun h => z_ret (by decide +kernel) rfl h))
set_option maxRecDepth 20000 in
theorem b_X4_putNext_58 {G : Gx} {Q : Rv → Zm → Prop} {Z : Zm} {s : Nat} {b : Nat} {n : Nat} {dd : Nat} {x : Int} {y : Int} {v3 : Int} {v4 : Int} {s0 : Int} (hs : atLevels Z s b n) (hb : atBook Z b) (hn : atNet Z n) (hdd : 0 ≤ dd) (h : (ZP G (dd + 4) m_X4_putNext 60 [some (.ref s), some (iv x), some (iv y), some (iv v3), some (iv v4), some (iv s0)] [] Z Q)) : ZP G (dd + 4) m_X4_putNext 58 [some (.ref s), some (iv x), some (iv y), some (iv v3), some (iv v4), none] [iv s0] Z Q := z_istore (pc' := 60) (j := 5) (ls' := [some (.ref s), some (iv x), some (iv y), some (iv v3), some (iv v4), some (iv s0)]) (by decide +kernel) (by decide) rfl rfl <| h
set_option maxRecDepth 20000 in
theorem b_X4_putNext_60 {G : Gx} {Q : Rv → Zm → Prop} {Z : Zm} {s : Nat} {b : Nat} {n : Nat} {dd : Nat} {x : Int} {y : Int} {v3 : Int} {v4 : Int} {v5 : Int} (hs : atLevels Z s b n) (hb : atBook Z b) (hn : atNet Z n) (hdd : 0 ≤ dd) (h : ((R32 v5) ∧ (R32 v4) ∧ (if v4 < v5 then ((zIx v3 20) ∧ ∀ Z5, Z5 = zSI Z (s + 1) (zu (zI Z (s + 1)) v3.toNat (-1)) → Q (.inl none) Z5) else ((zIx v3 20) ∧ ∀ Z7, Z7 = zSI Z (s + 1) (zu (zI Z (s + 1)) v3.toNat v5) → ZM G (dd + 3) m_X4_peakWith [.ref s, iv v3] Z7 (zKc G (dd + 4) m_X4_putNext 85 [some (.ref s), some (iv x), some (iv y), some (iv v3), some (iv v4), some (iv v5)] [iv y, iv (x + 1), .ref s] Q))))) : ZP G (dd + 4) m_X4_putNext 60 [some (.ref s), some (iv x), some (iv y), some (iv v3), some (iv v4), some (iv v5)] [] Z Q := z_iload (pc' := 62) (j := 5) (by decide +kernel) rfl rfl <| z_iload (pc' := 64) (j := 4) (by decide +kernel) rfl rfl <| h.elim fun c1 h => h.elim fun c2 h => z_icmp_gt (pc' := 67) (tgt := 97) (off := 33) (by decide +kernel) (by decide) rfl c1 c2 (am_ite h (fun h => z_aload_n (pc' := 98) (j := 0) (by decide +kernel) rfl rfl <| z_getR (pc' := 101) (idx := 9) (ci := 4) (f := 2) (by decide +kernel) f_RX4_9 rfl hs.o.1 hs.o.2 hs.r2 rfl <| z_iload_n (pc' := 102) (j := 3) (by decide +kernel) rfl rfl <| z_iconst (pc' := 103) (n := -1) (by decide +kernel) rfl <| h.elim fun c4 h => z_iastore (pc' := 104) (by decide +kernel) hs.a2 c4 rfl <| have h := h _ rfl; z_ret (by decide +kernel) rfl h) (fun h => z_aload_n (pc' := 68) (j := 0) (by decide +kernel) rfl rfl <| z_getR (pc' := 71) (idx := 9) (ci := 4) (f := 2) (by decide +kernel) f_RX4_9 rfl hs.o.1 hs.o.2 hs.r2 rfl <| z_iload_n (pc' := 72) (j := 3) (by decide +kernel) rfl rfl <| z_iload (pc' := 74) (j := 5) (by decide +kernel) rfl rfl <| h.elim fun c6 h => z_iastore (pc' := 75) (by decide +kernel) hs.a2 c6 rfl <| have h := h _ rfl; z_aload_n (pc' := 76) (j := 0) (by decide +kernel) rfl rfl <| z_iload_n (pc' := 77) (j := 1) (by decide +kernel) rfl rfl <| z_iconst (pc' := 78) (n := 1) (by decide +kernel) rfl <| z_iadd (pc' := 79) (by decide +kernel) rfl <| z_iload_n (pc' := 80) (j := 2) (by decide +kernel) rfl rfl <| z_aload_n (pc' := 81) (j := 0) (by decide +kernel) rfl rfl <| z_iload_n (pc' := 82) (j := 3) (by decide +kernel) rfl rfl <| z_callV (pc' := 85) (idx := 62) (mj := m_X4_peakWith) (av := [iv v3]) (d' := (dd + 3)) (by decide +kernel) rfl k_X4_peakWith l_RX4_62 rfl (by omega) (am_le rfl) rfl (am_le rfl) hs.o.1 hs.o.2 rfl h))
set_option maxRecDepth 20000 in
theorem b_X4_putNext_85 {G : Gx} {Q : Rv → Zm → Prop} {Z : Zm} {s : Nat} {b : Nat} {n : Nat} {dd : Nat} {x : Int} {y : Int} {v3 : Int} {v4 : Int} {v5 : Int} {s0 : Int} {s1 : Int} {s2 : Int} (hs : atLevels Z s b n) (hb : atBook Z b) (hn : atNet Z n) (hdd : 0 ≤ dd) (h : ((R32 s1) ∧ (R32 s0) ∧ ZM G (dd + 3) m_X4_putNext [.ref s, iv s2, iv (max s1 s0)] Z (zKc G (dd + 4) m_X4_putNext 91 [some (.ref s), some (iv x), some (iv y), some (iv v3), some (iv v4), some (iv v5)] [] Q))) : ZP G (dd + 4) m_X4_putNext 85 [some (.ref s), some (iv x), some (iv y), some (iv v3), some (iv v4), some (iv v5)] [iv s0, iv s1, iv s2, .ref s] Z Q := h.elim fun c1 h => h.elim fun c2 h => z_max (pc' := 88) (idx := 65) (by decide +kernel) (amM7 18 rfl (by decide +kernel)) (amM3 108 rfl (by decide +kernel)) (amM1 21 rfl (by decide +kernel)) (amM3 109 rfl (by decide +kernel)) (by omega) (am_le rfl) c1 c2 rfl <| z_callS (pc' := 91) (idx := 49) (mj := m_X4_putNext) (av := [.ref s, iv s2, iv (max s1 s0)]) (d' := (dd + 3)) (by decide +kernel) rfl k_X4_putNext l_RX4_49 rfl (by omega) (am_le rfl) rfl (am_le rfl) rfl h
set_option maxRecDepth 20000 in
theorem b_X4_putNext_91 {G : Gx} {Q : Rv → Zm → Prop} {Z : Zm} {s : Nat} {b : Nat} {n : Nat} {dd : Nat} {x : Int} {y : Int} {v3 : Int} {v4 : Int} {v5 : Int} (hs : atLevels Z s b n) (hb : atBook Z b) (hn : atNet Z n) (hdd : 0 ≤ dd) (h : (ZP G (dd + 4) m_X4_putNext 60 [some (.ref s), some (iv x), some (iv y), some (iv v3), some (iv v4), some (iv (v5 + 1))] [] Z Q)) : ZP G (dd + 4) m_X4_putNext 91 [some (.ref s), some (iv x), some (iv y), some (iv v3), some (iv v4), some (iv v5)] [] Z Q := z_iinc (pc' := 94) (j := 5) (n := 1) (x := v5) (ls' := [some (.ref s), some (iv x), some (iv y), some (iv v3), some (iv v4), some (iv (v5 + 1))]) (by decide +kernel) rfl (by decide) rfl rfl <| z_goto (tgt := 60) (off := -34) (by decide +kernel) (by decide) <| h
set_option maxRecDepth 20000 in
theorem e_X4_leastOf {G : Gx} {Q : Rv → Zm → Prop} {Z : Zm} {s : Nat} {b : Nat} {n : Nat} (hs : atLevels Z s b n) (hb : atBook Z b) (hn : atNet Z n) (h : (∀ Z1, Z1 = zSI Z s (zu (zI Z s) 3 (zI Z n 1)) → ∀ Z2, Z2 = zSI Z1 (s + 1) (zfl (zI Z1 (s + 1)) 20 (-1)) → ZM G 11 m_X4_putNext [.ref s, iv 0, iv 0] Z2 (zKc G 12 m_X4_leastOf 25 [some (.ref s)] [] Q))) : ZM G 12 m_X4_leastOf [.ref s] Z Q := ZM.of [some (.ref s)] rfl <| z_aload_n (pc' := 1) (j := 0) (by decide +kernel) rfl rfl <| z_aload_n (pc' := 2) (j := 0) (by decide +kernel) rfl rfl <| z_getR (pc' := 5) (idx := 15) (ci := 4) (f := 0) (by decide +kernel) f_RX4_15 rfl hs.o.1 hs.o.2 hs.r0 rfl <| z_getI (pc' := 8) (idx := 28) (ci := 7) (f := 1) (by decide +kernel) f_RX4_28 rfl hn.o.1 hn.o.2 rfl <| z_putI (pc' := 11) (idx := 40) (ci := 4) (f := 3) (by decide +kernel) f_RX4_40 (am_nf rfl rfl) rfl rfl rfl hs.o.1 hs.o.2 rfl <| have h := h _ rfl; z_aload_n (pc' := 12) (j := 0) (by decide +kernel) rfl rfl <| z_getR (pc' := 15) (idx := 9) (ci := 4) (f := 2) (by decide +kernel) f_RX4_9 rfl hs.o.1 hs.o.2 hs.r2 rfl <| z_iconst (pc' := 16) (n := -1) (by decide +kernel) rfl <| z_callS (pc' := 19) (idx := 43) (mj := m_J7_fill_53178) (av := [.ref (s + 1), iv (-1)]) (d' := 0) (by decide +kernel) rfl k_J7_fill_53178 l_RX4_43 rfl (by omega) (am_le rfl) rfl (am_le rfl) rfl <| zKf ((s_fill hs.a2 (by decide))) <| have h := h _ rfl; z_aload_n (pc' := 20) (j := 0) (by decide +kernel) rfl rfl <| z_iconst (pc' := 21) (n := 0) (by decide +kernel) rfl <| z_iconst (pc' := 22) (n := 0) (by decide +kernel) rfl <| z_callS (pc' := 25) (idx := 49) (mj := m_X4_putNext) (av := [.ref s, iv 0, iv 0]) (d' := 11) (by decide +kernel) rfl k_X4_putNext l_RX4_49 rfl (by omega) (am_le rfl) rfl (am_le rfl) rfl h
set_option maxRecDepth 20000 in
theorem b_X4_leastOf_25 {G : Gx} {Q : Rv → Zm → Prop} {Z : Zm} {s : Nat} {b : Nat} {n : Nat}  (hs : atLevels Z s b n) (hb : atBook Z b) (hn : atNet Z n) (h : (Q (.inl (some (iv (zI Z s 3)))) Z)) : ZP G 12 m_X4_leastOf 25 [some (.ref s)] [] Z Q := z_aload_n (pc' := 26) (j := 0) (by decide +kernel) rfl rfl <| z_getI (pc' := 29) (idx := 40) (ci := 4) (f := 3) (by decide +kernel) f_RX4_40 rfl hs.o.1 hs.o.2 rfl <| z_ireturn (by decide +kernel) ⟨_, rfl, rfl⟩ h
set_option maxRecDepth 20000 in
theorem e_X11_leastPeak {G : Gx} {Q : Rv → Zm → Prop} {Z : Zm}  (hx : atAll Z) (h : (ZM G 13 m_X11_freshNet [.ref 0] Z (zKc G 14 m_X11_leastPeak 4 [some (.ref 0)] [] Q))) : ZM G 14 m_X11_leastPeak [.ref 0] Z Q := ZM.of [some (.ref 0)] rfl <| z_aload_n (pc' := 1) (j := 0) (by decide +kernel) rfl rfl <| z_callV (pc' := 4) (idx := 238) (mj := m_X11_freshNet) (av := []) (d' := 13) (by decide +kernel) rfl k_X11_freshNet l_RX11_238 rfl (by omega) (am_le rfl) rfl (am_le rfl) hx.o.1 hx.o.2 rfl h
set_option maxRecDepth 20000 in
theorem b_X11_leastPeak_4 {G : Gx} {Q : Rv → Zm → Prop} {Z : Zm}   (hx : atAll Z) (h : ((R32 (zI Z 1 3)) ∧ (if 6 < (zI Z 1 3) then ((zSz Z < 1000000) ∧ Q (.inr "java/lang/UnsupportedOperationException") (zC Z 17 0 6)) else (ZM G 13 m_X4_areFew [.ref 279] Z (zKc G 14 m_X11_leastPeak 24 [some (.ref 0)] [] Q))))) : ZP G 14 m_X11_leastPeak 4 [some (.ref 0)] [.ref 233] Z Q := z_pop (pc' := 5) (by decide +kernel) rfl rfl <| z_aload_n (pc' := 6) (j := 0) (by decide +kernel) rfl rfl <| z_getR (pc' := 9) (idx := 10) (ci := 11) (f := 0) (by decide +kernel) f_RX11_10 rfl hx.o.1 hx.o.2 hx.r0 rfl <| z_getI (pc' := 12) (idx := 117) (ci := 0) (f := 3) (by decide +kernel) f_RX11_117 rfl hx.bk.o.1 hx.bk.o.2 rfl <| z_bipush (pc' := 14) (n := 6) (by decide +kernel) (by decide) rfl <| h.elim fun c1 h => z_icmp_gt (pc' := 17) (tgt := 27) (off := 13) (by decide +kernel) (by decide) rfl c1 (by decide : R32 6) (am_ite h (fun h => h.elim fun c2 h => z_throw (is := 395) (text := "there are too many tasks or begins") th_UnsupportedOperationException (amT7 (i := 5) rfl) rfl (by decide +kernel) (by decide +kernel) (Or.inr ⟨(by decide +kernel), (by decide +kernel), (by decide +kernel)⟩) (by omega) (am_le rfl) c2 h) (fun h => z_aload_n (pc' := 18) (j := 0) (by decide +kernel) rfl rfl <| z_getR (pc' := 21) (idx := 85) (ci := 11) (f := 16) (by decide +kernel) f_RX11_85 rfl hx.o.1 hx.o.2 hx.r16 rfl <| z_callV (pc' := 24) (idx := 391) (mj := m_X4_areFew) (av := []) (d' := 13) (by decide +kernel) rfl k_X4_areFew l_RX11_391 rfl (by omega) (am_le rfl) rfl (am_le rfl) hx.lv.o.1 hx.lv.o.2 rfl h))
set_option maxRecDepth 20000 in
theorem b_X11_leastPeak_24 {G : Gx} {Q : Rv → Zm → Prop} {Z : Zm}  {s0 : Int} (hx : atAll Z) (h : ((R32 s0) ∧ (if s0 = 0 then ((zSz Z < 1000000) ∧ Q (.inr "java/lang/UnsupportedOperationException") (zC Z 17 0 6)) else (ZM G 13 m_X4_leastOf [.ref 279] Z (zKc G 14 m_X11_leastPeak 45 [none] [] Q))))) : ZP G 14 m_X11_leastPeak 24 [some (.ref 0)] [iv s0] Z Q := h.elim fun c1 h => z_if_ne (pc' := 27) (tgt := 38) (off := 14) (by decide +kernel) (by decide) rfl c1 (am_ite h (fun h => h.elim fun c2 h => z_throw (is := 395) (text := "there are too many tasks or begins") th_UnsupportedOperationException (amT7 (i := 5) rfl) rfl (by decide +kernel) (by decide +kernel) (Or.inr ⟨(by decide +kernel), (by decide +kernel), (by decide +kernel)⟩) (by omega) (am_le rfl) c2 h) (fun h => z_aload_n (pc' := 39) (j := 0) (by decide +kernel) rfl rfl <| z_getR (pc' := 42) (idx := 85) (ci := 11) (f := 16) (by decide +kernel) f_RX11_85 rfl hx.o.1 hx.o.2 hx.r16 rfl <| z_callV (pc' := 45) (idx := 397) (mj := m_X4_leastOf) (av := []) (d' := 13) (by decide +kernel) rfl k_X4_leastOf l_RX11_397 rfl (by omega) (am_le rfl) rfl (am_le rfl) hx.lv.o.1 hx.lv.o.2 rfl (ZM.mono h (zKc_wk (wk_none wk_nil)))))
set_option maxRecDepth 20000 in
theorem b_X11_leastPeak_45 {G : Gx} {Q : Rv → Zm → Prop} {Z : Zm}  {s0 : Int} (hx : atAll Z) (h : (Q (.inl (some (iv s0))) Z)) : ZP G 14 m_X11_leastPeak 45 [none] [iv s0] Z Q := z_ireturn (by decide +kernel) ⟨_, rfl, rfl⟩ h
/-! ===== levels ===== -/
def vR (k : Bk) (L b : Nat → Int) : Prop := (∀ t, t < kN k → 0 ≤ b t ∧ b t ≤ L t) ∧ ∀ j, j < kM k → lateB k b j ≤ b (kL k j)
noncomputable def pkP (k : Bk) (b : Nat → Int) : Int := zmax (fun t => if b t = -1 then 0 else cntP k b (b t)) (kN k)
def isLp (k : Bk) (L : Nat → Int) (v : Int) : Prop := (∃ b, vR k L b ∧ v = pkP k b) ∧ ∀ b, vR k L b → v ≤ pkP k b
theorem isLp_eq {k : Bk} {L : Nat → Int} {v w : Int} (h : isLp k L v) (h' : isLp k L w) : v = w := by
  obtain ⟨⟨S, a, b⟩, c⟩ := h
  obtain ⟨⟨S', a', b'⟩, c'⟩ := h'
  have := c S' a'
  have := c' S a
  omega
noncomputable def vLp (k : Bk) (L : Nat → Int) : Int := Classical.epsilon (isLp k L)
theorem vLp_of {k : Bk} {L : Nat → Int} {x : Int} (h : isLp k L x) : x = vLp k L := isLp_eq h (Classical.epsilon_spec (p := isLp k L) ⟨x, h⟩)
noncomputable def o_leastPeak (σ : St) : Ou := cIf (kN (sK σ) ≤ 6) (cIf (prF (fun t => eL (sK σ) t - eE (sK σ) t + 1) (kN (sK σ)) ≤ 2000) (0, vLp (sK σ) (eL (sK σ)), σ) (1, 0, σ)) (1, 0, σ)
theorem cntP_up {k : Bk} {b q : Nat → Int} (h : ∀ t, t < kN k → b t ≠ -1 → q t = b t) (x : Int) : cntP k b x ≤ cntP k q x := zsum_le fun t ht => ci_le fun g => by
  obtain ⟨g1, g2⟩ := g
  unfold wk0
  rw [h t ht g1]
  exact ⟨g1, g2⟩
theorem pkP_0 (k : Bk) (b : Nat → Int) : 0 ≤ pkP k b := zmax_0 _ _
theorem pkP_ge {k : Bk} {b : Nat → Int} {t : Nat} (ht : t < kN k) (h : b t ≠ -1) : cntP k b (b t) ≤ pkP k b := by
  have a := zmax_ge (f := fun t => if b t = -1 then 0 else cntP k b (b t)) ht
  have a : (if b t = -1 then 0 else cntP k b (b t)) ≤ pkP k b := a
  rw [if_neg h] at a
  exact a
theorem pkP_le {k : Bk} {b : Nat → Int} {v : Int} (h0 : 0 ≤ v) (h : ∀ t, t < kN k → b t ≠ -1 → cntP k b (b t) ≤ v) : pkP k b ≤ v := zmax_le h0 fun t ht => by
  show (if b t = -1 then 0 else cntP k b (b t)) ≤ v
  by_cases g : b t = -1
  · rw [if_pos g]
    exact h0
  · rw [if_neg g]
    exact h t ht g
theorem pkP_up {k : Bk} {b q : Nat → Int} (h : ∀ t, t < kN k → b t ≠ -1 → q t = b t) : pkP k b ≤ pkP k q := pkP_le (pkP_0 _ _) fun t ht g => by
  have a := cntP_up h (b t)
  have e := h t ht g
  have c := pkP_ge (b := q) ht (by rw [e]; exact g)
  rw [e] at c
  omega
theorem pkP_n {k : Bk} {b : Nat → Int} : pkP k b ≤ kN k := pkP_le (by omega) fun t ht _ => (cntP_r k b (b t)).2
noncomputable def pkW (k : Bk) (b : Nat → Int) (t : Nat) : Int := max (cntP k b (b t)) (zmax (fun u => if b t < b u ∧ b u < b t + kF k 0 t then cntP k b (b u) else 0) (kN k))
theorem pkP_put {k : Bk} {a b : Nat → Int} {t : Nat} (ht : t < kN k) (h : ∀ u, u < kN k → u ≠ t → b u = a u) (ha : a t = -1) (hb : 0 ≤ b t) : pkP k b = max (pkP k a) (pkW k b t) := by
  have up := pkP_up (k := k) (b := a) (q := b) fun u hu g => h u hu fun e => g (by rw [e]; exact ha)
  have c1 : cntP k b (b t) ≤ pkW k b t := Int.le_max_left _ _
  have c2 : ∀ u, u < kN k → b t < b u ∧ b u < b t + kF k 0 t → cntP k b (b u) ≤ pkW k b t := fun u hu g => by
    have a := zmax_ge (f := fun u => if b t < b u ∧ b u < b t + kF k 0 t then cntP k b (b u) else 0) hu
    have a : (if b t < b u ∧ b u < b t + kF k 0 t then cntP k b (b u) else 0) ≤ _ := a
    rw [if_pos g] at a
    exact Int.le_trans a (Int.le_max_right _ _)
  refine Int.le_antisymm (pkP_le (by have := pkP_0 k a; omega) fun u hu g => ?_) ?_
  · by_cases e : u = t
    · rw [e]
      omega
    · by_cases c : b t ≤ b u ∧ b u < b t + kF k 0 t
      · by_cases d : b u = b t
        · rw [d]
          omega
        · have := c2 u hu (by omega)
          omega
      · have eq : cntP k b (b u) = cntP k a (b u) := zsum_eq fun v hv => ci_iff (by
          unfold wk0
          by_cases f : v = t
          · rw [f, ha]
            omega
          · rw [h v hv f])
        have hu' := h u hu e
        have := pkP_ge (b := a) hu (by rw [← hu']; exact g)
        rw [← hu'] at this
        omega
  · have w : pkW k b t ≤ pkP k b := Int.max_le.mpr ⟨pkP_ge ht (by omega), zmax_le (pkP_0 _ _) fun u hu => by
      show (if b t < b u ∧ b u < b t + kF k 0 t then cntP k b (b u) else 0) ≤ pkP k b
      by_cases g : b t < b u ∧ b u < b t + kF k 0 t
      · rw [if_pos g]
        exact pkP_ge hu (by omega)
      · rw [if_neg g]
        exact pkP_0 _ _⟩
    omega
noncomputable def ltV (k : Bk) (b : Nat → Int) (t : Nat) : Int := zmax (fun j => if kL k j = t then lateB k b j else 0) (kM k)
theorem ltV_ge {k : Bk} {b : Nat → Int} {j : Nat} (hj : j < kM k) : lateB k b j ≤ ltV k b (kL k j) := by
  have a := zmax_ge (f := fun i => if kL k i = kL k j then lateB k b i else 0) hj
  have a : (if kL k j = kL k j then lateB k b j else 0) ≤ ltV k b (kL k j) := a
  rw [if_pos rfl] at a
  exact a
theorem ltV_le {k : Bk} {b : Nat → Int} {t : Nat} {v : Int} (h0 : 0 ≤ v) (h : ∀ j, j < kM k → kL k j = t → lateB k b j ≤ v) : ltV k b t ≤ v := zmax_le h0 fun j hj => by
  show (if kL k j = t then lateB k b j else 0) ≤ v
  by_cases g : kL k j = t
  · rw [if_pos g]
    exact h j hj g
  · rw [if_neg g]
    exact h0
/-! ===== the class' levels ===== -/
def lvC (Z : Zm) (k : Bk) (o pos : Nat → Nat) (E L : Nat → Int) : Prop := atLevels Z 279 1 233 ∧ atBook Z 1 ∧ atNet Z 233 ∧ nS Z 233 k o ∧ kOk k ∧ kOrd k o pos ∧ ∀ t, t < kN k → zI Z 3 t = kF k 0 t ∧ zI Z 239 t = E t ∧ zI Z 240 t = L t ∧ 0 ≤ E t ∧ E t ≤ L t ∧ L t ≤ 1770
theorem lvC.s {Z : Zm} {k : Bk} {o pos : Nat → Nat} {E L : Nat → Int} {a : Nat} {f : Nat → Int} (h : lvC Z k o pos E L) (ha : 279 ≤ a) : lvC (zSI Z a f) k o pos E L := by
  obtain ⟨h1, h2, h3, h4, h5, h6, h7⟩ := h
  refine ⟨h1, h2, h3, h4.s (by omega), h5, h6, fun t ht => ?_⟩
  rw [zI_other (by omega), zI_other (by omega), zI_other (by omega)]
  exact h7 t ht
def lZ (Z : Zm) (a d : Nat → Int) : Zm := zSI (zSI Z 280 a) 279 d
theorem lZ_1 (Z : Zm) (a d f : Nat → Int) : zSI (lZ Z a d) 280 f = lZ Z f d := by
  unfold lZ
  rw [zSI_comm _ d f (by decide), zSI_zSI]
theorem lZ_0 (Z : Zm) (a d f : Nat → Int) : zSI (lZ Z a d) 279 f = lZ Z a f := by
  unfold lZ
  rw [zSI_zSI]
theorem lZ_i1 (Z : Zm) (a d : Nat → Int) : zI (lZ Z a d) 280 = a := by
  unfold lZ
  rw [zI_other (by decide), zI_same]
theorem lZ_i0 (Z : Zm) (a d : Nat → Int) : zI (lZ Z a d) 279 = d := zI_same _ _ _
theorem lZ_id (Z : Zm) : lZ Z (zI Z 280) (zI Z 279) = Z := by
  unfold lZ
  rw [zSI_id, zSI_id]
theorem lvC.w {Z : Zm} {k : Bk} {o pos : Nat → Nat} {E L : Nat → Int} {a d : Nat → Int} (h : lvC Z k o pos E L) : lvC (lZ Z a d) k o pos E L := (h.s (by omega)).s (by omega)
theorem lZ_f (Z : Zm) (a d : Nat → Int) : zF (zB 279 281) 0 0 Z (lZ Z a d) := (zF_I (by unfold zB; omega)).trans (zF_I (by unfold zB; omega))
theorem s_vareFew {G : Gx} {Z : Zm} {k : Bk} {o pos : Nat → Nat} {E L : Nat → Int} (h : lvC Z k o pos E L) : ZM G 1 m_X4_areFew [.ref 279] Z (fun r W => (∃ x, r = .inl (some (iv x)) ∧ isB x (prF (fun t => L t - E t + 1) (kN k) ≤ 2000)) ∧ W = Z) := by
  have ho : kOk k := h.2.2.2.2.1
  have hN := ho.n
  have e3 : zI Z 233 1 = (kN k : Int) := h.2.2.2.1.1
  have f1 : ∀ t, t < kN k → 1 ≤ L t - E t + 1 ∧ L t - E t + 1 ≤ 2000 := fun t ht => by have := h.2.2.2.2.2.2 t ht; omega
  refine e_X4_areFew h.1 h.2.1 h.2.2.1 ?_
  suffices key : ∀ j, j ≤ kN k → prF (fun t => L t - E t + 1) j ≤ 4000000 → ZP G 1 m_X4_areFew 4 [some (.ref 279), some (jv (prF (fun t => L t - E t + 1) j)), none, some (iv (j : Int))] [] Z (fun r W => (∃ x, r = .inl (some (iv x)) ∧ isB x (prF (fun t => L t - E t + 1) (kN k) ≤ 2000)) ∧ W = Z) from key 0 (Nat.zero_le _) (by show (1 : Int) ≤ 4000000; decide)
  refine am_up (n := kN k) fun j hj ih hb => ?_
  have p1 := prF_1 (f := fun t => L t - E t + 1) j fun t ht => (f1 t (by omega)).1
  have up := prF_up (f := fun t => L t - E t + 1) (j := j) (kN k - j) fun t ht => (f1 t (by omega)).1
  rw [show j + (kN k - j) = kN k by omega] at up
  refine b_X4_areFew_4 h.1 h.2.1 h.2.2.1 ⟨by omega, by rw [e3]; omega, ?_⟩
  rw [e3]
  by_cases c : j < kN k
  · rw [if_neg (by omega)]
    refine ⟨by omega, ?_⟩
    by_cases d : 0 < zcmp (prF (fun t => L t - E t + 1) j) 2000
    · rw [if_pos d]
      refine ⟨⟨_, rfl, isB_b2 ⟨fun q => absurd d q, fun q => ?_⟩⟩, rfl⟩
      have := zcmp_gt.mp d
      omega
    · rw [if_neg d]
      obtain ⟨-, e1, e2, -⟩ := h.2.2.2.2.2.2 j c
      have fj := f1 j c
      have le : prF (fun t => L t - E t + 1) j ≤ 2000 := Int.not_lt.mp fun g => d (zcmp_gt.mpr g)
      have m := mul_b (a := prF (fun t => L t - E t + 1) j) (b := L j - E j + 1) (A := 2000) (B := 2000) (by omega) (by omega)
      rw [Int.toNat_natCast, show zI Z (233 + 7) j = L j from e2, show zI Z (233 + 6) j = E j from e1]
      exact ⟨zIx_nat (by omega) (by omega), by omega, ih c (by show prF (fun t => L t - E t + 1) j * (L j - E j + 1) ≤ 4000000; omega)⟩
  · rw [if_pos (by omega)]
    rw [show j = kN k by omega] at hb p1 ⊢
    refine ⟨by omega, ⟨_, rfl, isB_b2 ⟨fun q => ?_, fun q => ?_⟩⟩, rfl⟩
    · exact Int.not_lt.mp fun g => q (zcmp_gt.mpr g)
    · intro g
      have := zcmp_gt.mp g
      omega
/-- begins that are put, or not -/
def pR (k : Bk) (a : Nat → Int) : Prop := ∀ t, t < kN k → a t = -1 ∨ (0 ≤ a t ∧ a t ≤ 1770)
theorem s_vcountAt {G : Gx} {Z : Zm} {k : Bk} {o pos : Nat → Nat} {E L a d : Nat → Int} {x : Int} (h : lvC Z k o pos E L) (hp : pR k a) (hx : R32 x) : ZM G 0 m_X4_countAt [.ref 279, iv x] (lZ Z a d) (fun r W => r = .inl (some (iv (cntP k a x))) ∧ W = lZ Z a d) := by
  have ho : kOk k := h.2.2.2.2.1
  have hN := ho.n
  have hw := h.w (a := a) (d := d)
  have e3 : zI (lZ Z a d) 233 1 = (kN k : Int) := hw.2.2.2.1.1
  refine e_X4_countAt hw.1 hw.2.1 hw.2.2.1 ?_
  suffices key : ∀ j, j ≤ kN k → ZP G 0 m_X4_countAt 4 [some (.ref 279), some (iv x), some (iv (zsum (fun t => ci (wk0 k a t x)) j)), some (iv (j : Int))] [] (lZ Z a d) (fun r W => r = .inl (some (iv (cntP k a x))) ∧ W = lZ Z a d) from key 0 (Nat.zero_le _)
  refine am_up (n := kN k) fun j hj ih => ?_
  refine b_X4_countAt_4 hw.1 hw.2.1 hw.2.2.1 ⟨by omega, by rw [e3]; omega, ?_⟩
  rw [e3]
  by_cases c : j < kN k
  · rw [if_neg (by omega), Int.toNat_natCast, show 279 + 1 = 280 from rfl, lZ_i1, show zI (lZ Z a d) (1 + 2) j = kF k 0 j from (hw.2.2.2.2.2.2 j c).1]
    have aj := hp j c
    have l := ho.len c
    refine ⟨zIx_nat (by omega) (by omega), by omega, fun _ => ⟨hx, fun _ => ⟨by omega, trivial⟩, trivial⟩, ?_⟩
    have ev : (if a j = -1 then zsum (fun t => ci (wk0 k a t x)) j else if x < a j then zsum (fun t => ci (wk0 k a t x)) j else if a j + kF k 0 j ≤ x then zsum (fun t => ci (wk0 k a t x)) j else zsum (fun t => ci (wk0 k a t x)) j + 1) = zsum (fun t => ci (wk0 k a t x)) (j + 1) := by
      show _ = zsum (fun t => ci (wk0 k a t x)) j + ci (wk0 k a j x)
      by_cases c1 : a j = -1
      · rw [if_pos c1, ci_f (fun q => q.1 c1), Int.add_zero]
      · rw [if_neg c1]
        by_cases c2 : x < a j
        · rw [if_pos c2, ci_f (fun q => by have := q.2; omega), Int.add_zero]
        · rw [if_neg c2]
          by_cases c3 : a j + kF k 0 j ≤ x
          · rw [if_pos c3, ci_f (fun q => by have := q.2; omega), Int.add_zero]
          · rw [if_neg c3, ci_p ⟨c1, by omega, by omega⟩]
    rw [ev]
    exact ih c
  · rw [if_pos (by omega), show j = kN k by omega]
    exact ⟨rfl, rfl⟩
theorem s_vpeakWith {G : Gx} {Z : Zm} {k : Bk} {o pos : Nat → Nat} {E L a d : Nat → Int} {t : Nat} (h : lvC Z k o pos E L) (hp : pR k a) (ht : t < kN k) (h0 : 0 ≤ a t) : ZM G 1 m_X4_peakWith [.ref 279, iv (t : Int)] (lZ Z a d) (fun r W => r = .inl (some (iv (pkW k a t))) ∧ W = lZ Z a d) := by
  have ho : kOk k := h.2.2.2.2.1
  have hN := ho.n
  have hw := h.w (a := a) (d := d)
  have e3 : zI (lZ Z a d) 233 1 = (kN k : Int) := hw.2.2.2.1.1
  have at' := hp t ht
  have lt := ho.len ht
  refine e_X4_peakWith hw.1 hw.2.1 hw.2.2.1 ⟨zIx_nat (by omega) (by decide), ?_⟩
  rw [show 279 + 1 = 280 from rfl, lZ_i1, Int.toNat_natCast]
  refine (s_vcountAt h hp (by omega)).mono ?_
  rintro r W ⟨rfl, rfl⟩
  refine b_X4_peakWith_12 hw.1 hw.2.1 hw.2.2.1 ?_
  have c0 := cntP_r k a (a t)
  generalize hf : (fun u => if a t < a u ∧ a u < a t + kF k 0 t then cntP k a (a u) else 0) = f
  have ew : pkW k a t = max (cntP k a (a t)) (zmax f (kN k)) := by rw [← hf]; rfl
  have fr : ∀ u, 0 ≤ f u ∧ f u ≤ kN k := fun u => by
    rw [← hf]
    show 0 ≤ (if a t < a u ∧ a u < a t + kF k 0 t then cntP k a (a u) else 0) ∧ (if a t < a u ∧ a u < a t + kF k 0 t then cntP k a (a u) else 0) ≤ _
    by_cases g : a t < a u ∧ a u < a t + kF k 0 t
    · rw [if_pos g]
      exact cntP_r k a (a u)
    · rw [if_neg g]
      omega
  suffices key : ∀ j, j ≤ kN k → ZP G 1 m_X4_peakWith 16 [some (.ref 279), some (iv (t : Int)), some (iv (a t)), some (iv (max (cntP k a (a t)) (zmax f j))), some (iv (j : Int))] [] (lZ Z a d) (fun r W => r = .inl (some (iv (pkW k a t))) ∧ W = lZ Z a d) by
    have h9 := key 0 (Nat.zero_le _)
    rw [show max (cntP k a (a t)) (zmax f 0) = cntP k a (a t) from Int.max_eq_left c0.1] at h9
    exact h9
  refine am_up (n := kN k) fun j hj ih => ?_
  have zr : 0 ≤ zmax f j ∧ zmax f j ≤ kN k := ⟨zmax_0 _ _, zmax_le (by omega) fun u _ => (fr u).2⟩
  refine b_X4_peakWith_16 hw.1 hw.2.1 hw.2.2.1 ⟨by omega, by rw [e3]; omega, ?_⟩
  rw [e3]
  by_cases c : j < kN k
  case neg =>
    rw [if_pos (by omega), show j = kN k by omega, ew]
    exact ⟨rfl, rfl⟩
  rw [if_neg (by omega), Int.toNat_natCast, Int.toNat_natCast, show 279 + 1 = 280 from rfl, lZ_i1, show zI (lZ Z a d) (1 + 2) t = kF k 0 t from (hw.2.2.2.2.2.2 t ht).1]
  have aj := hp j c
  have nx := ih c
  rw [zmax_s] at nx
  have skip : f j = 0 → ZP G 1 m_X4_peakWith 16 [some (.ref 279), some (iv (t : Int)), some (iv (a t)), some (iv (max (cntP k a (a t)) (zmax f j))), some (iv ((j : Int) + 1))] [] (lZ Z a d) (fun r W => r = .inl (some (iv (pkW k a t))) ∧ W = lZ Z a d) := fun e => by
    rw [e, Int.max_eq_left zr.1] at nx
    exact nx
  refine ⟨zIx_nat (by omega) (by omega), by omega, by omega, ?_⟩
  by_cases c1 : a j ≤ a t
  · rw [if_pos c1]
    exact skip (by rw [← hf]; exact if_neg (by omega))
  rw [if_neg c1]
  refine ⟨zIx_nat (by omega) (by decide), by omega, ?_⟩
  by_cases c2 : a t + kF k 0 t ≤ a j
  · rw [if_pos c2]
    exact skip (by rw [← hf]; exact if_neg (by omega))
  rw [if_neg c2]
  refine (s_vcountAt h hp (by omega)).mono ?_
  rintro r W ⟨rfl, rfl⟩
  have cj := cntP_r k a (a j)
  refine b_X4_peakWith_69 hw.1 hw.2.1 hw.2.2.1 ⟨by omega, by omega, ?_⟩
  rw [show f j = cntP k a (a j) from by rw [← hf]; exact if_pos (by omega), ← Int.max_assoc] at nx
  exact nx
theorem s_vletOf {G : Gx} {Z : Zm} {k : Bk} {o pos : Nat → Nat} {E L a d : Nat → Int} {t : Nat} (h : lvC Z k o pos E L) (hp : pR k a) (ht : t < kN k) (hq : ∀ j, j < kM k → kL k j = t → 0 ≤ a (kE k j)) : ZM G 1 m_X4_letOf [.ref 279, iv (t : Int)] (lZ Z a d) (fun r W => r = .inl (some (iv (ltV k a t))) ∧ W = lZ Z a d) := by
  have ho : kOk k := h.2.2.2.2.1
  have hN := ho.n
  have hM := ho.m
  have hw := h.w (a := a) (d := d)
  have e3 : zI (lZ Z a d) 233 2 = (kM k : Int) := hw.2.2.2.1.2.1
  refine e_X4_letOf hw.1 hw.2.1 hw.2.2.1 ?_
  generalize hf : (fun j => if kL k j = t then lateB k a j else 0) = f
  have el : ltV k a t = zmax f (kM k) := by rw [← hf]; rfl
  have lr : ∀ j, j < kM k → kL k j = t → 0 ≤ lateB k a j ∧ lateB k a j ≤ 1860 := fun j hj e => by
    have a1 := hq j hj e
    have a2 := hp _ (ho.e hj)
    have a3 := ho.len (ho.e hj)
    have a4 := ho.g hj
    unfold lateB
    omega
  have fr : ∀ j, j < kM k → 0 ≤ f j ∧ f j ≤ 1860 := fun j hj => by
    rw [← hf]
    show 0 ≤ (if kL k j = t then lateB k a j else 0) ∧ (if kL k j = t then lateB k a j else 0) ≤ 1860
    by_cases g : kL k j = t
    · rw [if_pos g]
      exact lr j hj g
    · rw [if_neg g]
      omega
  suffices key : ∀ j, j ≤ kM k → ZP G 1 m_X4_letOf 4 [some (.ref 279), some (iv (t : Int)), some (iv (zmax f j)), some (iv (j : Int)), none] [] (lZ Z a d) (fun r W => r = .inl (some (iv (ltV k a t))) ∧ W = lZ Z a d) from key 0 (Nat.zero_le _)
  refine am_up (n := kM k) fun j hj ih => ?_
  have zr : 0 ≤ zmax f j ∧ zmax f j ≤ 1860 := ⟨zmax_0 _ _, zmax_le (by omega) fun u hu => (fr u (by omega)).2⟩
  refine b_X4_letOf_4 hw.1 hw.2.1 hw.2.2.1 ⟨by omega, by rw [e3]; omega, ?_⟩
  rw [e3]
  by_cases c : j < kM k
  case neg =>
    rw [if_pos (by omega), show j = kM k by omega, el]
    exact ⟨rfl, rfl⟩
  obtain ⟨g1, g2, g3⟩ := hw.2.2.2.1.2.2.2 j c
  have le := ho.e c
  have ll := ho.l c
  rw [if_neg (by omega), Int.toNat_natCast, g2]
  refine ⟨zIx_nat (by omega) (by omega), by omega, by omega, ?_⟩
  have nx := ih c
  rw [zmax_s] at nx
  by_cases e : kL k j = t
  · have l := lr j c e
    rw [if_pos (by omega), g1, Int.toNat_natCast, g3, show 279 + 1 = 280 from rfl, lZ_i1, show zI (lZ Z a d) (1 + 2) (kE k j) = kF k 0 (kE k j) from (hw.2.2.2.2.2.2 _ le).1]
    rw [show f j = lateB k a j from by rw [← hf]; exact if_pos e] at nx
    exact ⟨zIx_nat (by omega) (by decide), by omega, by unfold lateB at l; omega, nx⟩
  · rw [if_neg (by omega)]
    rw [show f j = 0 from by rw [← hf]; exact if_neg e, Int.max_eq_left zr.1] at nx
    exact nx
def pV (k : Bk) (L : Nat → Int) (pos : Nat → Nat) (m : Nat) (a : Nat → Int) : Prop := (∀ t, t < kN k → (pos t < m → 0 ≤ a t ∧ a t ≤ L t) ∧ (m ≤ pos t → a t = -1)) ∧ ∀ j, j < kM k → pos (kL k j) < m → lateB k a j ≤ a (kL k j)
def exB (k : Bk) (a q : Nat → Int) : Prop := ∀ t, t < kN k → a t ≠ -1 → q t = a t
def atL (k : Bk) (L : Nat → Int) (x v : Int) : Prop := v = x ∨ ∃ q, vR k L q ∧ v = pkP k q
def vRes (Z : Zm) (k : Bk) (L a d : Nat → Int) : Rv → Zm → Prop := fun r W => r = .inl none ∧ ∃ a' d', W = lZ Z a' d' ∧ (∀ t, t < kN k → a' t = a t) ∧ (∀ i, i ≠ 3 → d' i = d i) ∧ (0 ≤ d' 3 ∧ d' 3 ≤ d 3) ∧ atL k L (d 3) (d' 3) ∧ ∀ q, vR k L q → exB k a q → d' 3 ≤ pkP k q
theorem s_vputNext {G : Gx} {Z : Zm} {k : Bk} {o pos : Nat → Nat} {E L : Nat → Int} (h : lvC Z k o pos E L) (h6 : kN k ≤ 6) : ∀ m p, p ≤ kN k → kN k ≤ p + m → ∀ a d, pV k L pos p a → (0 ≤ d 3 ∧ d 3 ≤ 100) → ZM G (m + 4) m_X4_putNext [.ref 279, iv (p : Int), iv (pkP k a)] (lZ Z a d) (vRes Z k L a d) := by
  have ho : kOk k := h.2.2.2.2.1
  have hord := h.2.2.2.2.2.1
  have hv := h.2.2.2.2.2.2
  intro m
  induction m with
  | zero =>
    intro p hp hm a d pv h3
    have hw := h.w (a := a) (d := d)
    have e3 : zI (lZ Z a d) 233 1 = (kN k : Int) := hw.2.2.2.1.1
    have pn := pkP_n (k := k) (b := a)
    have p0 := pkP_0 k a
    refine e_X4_putNext hw.1 hw.2.1 hw.2.2.1 (Nat.zero_le _) ?_
    rw [lZ_i0, e3]
    refine ⟨by omega, by omega, ?_⟩
    by_cases c : pkP k a < d 3
    · rw [if_pos c]
      refine ⟨by omega, by omega, ?_⟩
      rw [if_pos (by omega)]
      rintro _ rfl
      rw [lZ_0]
      refine ⟨rfl, a, _, rfl, fun _ _ => rfl, fun i hi => zu_other hi, ?_, ?_, ?_⟩
      · rw [zu_same]
        omega
      · rw [zu_same]
        exact Or.inr ⟨a, ⟨fun t ht => (pv.1 t ht).1 (by have := (hord.2.1 t ht).1; omega), fun j hj => pv.2 j hj (by have := (hord.2.1 _ (ho.l hj)).1; omega)⟩, rfl⟩
      · rw [zu_same]
        exact fun q _ hq => pkP_up hq
    · rw [if_neg c]
      exact ⟨rfl, a, d, rfl, fun _ _ => rfl, fun _ _ => rfl, ⟨h3.1, Int.le_refl _⟩, Or.inl rfl, fun q _ hq => by have := pkP_up hq; omega⟩
  | succ m ih =>
    intro p hp hm a d pv h3
    have hw := h.w (a := a) (d := d)
    have e3 : zI (lZ Z a d) 233 1 = (kN k : Int) := hw.2.2.2.1.1
    have pn := pkP_n (k := k) (b := a)
    have p0 := pkP_0 k a
    refine e_X4_putNext hw.1 hw.2.1 hw.2.2.1 (Nat.zero_le _) ?_
    rw [lZ_i0, e3]
    refine ⟨by omega, by omega, ?_⟩
    by_cases c : pkP k a < d 3
    case neg =>
      rw [if_neg c]
      exact ⟨rfl, a, d, rfl, fun _ _ => rfl, fun _ _ => rfl, ⟨h3.1, Int.le_refl _⟩, Or.inl rfl, fun q _ hq => by have := pkP_up hq; omega⟩
    rw [if_pos c]
    refine ⟨by omega, by omega, ?_⟩
    by_cases cp : p < kN k
    case neg =>
      rw [if_pos (by omega)]
      rintro _ rfl
      rw [lZ_0]
      refine ⟨rfl, a, _, rfl, fun _ _ => rfl, fun i hi => zu_other hi, ?_, ?_, ?_⟩
      · rw [zu_same]
        omega
      · rw [zu_same]
        exact Or.inr ⟨a, ⟨fun t ht => (pv.1 t ht).1 (by have := (hord.2.1 t ht).1; omega), fun j hj => pv.2 j hj (by have := (hord.2.1 _ (ho.l hj)).1; omega)⟩, rfl⟩
      · rw [zu_same]
        exact fun q _ hq => pkP_up hq
    rw [if_neg (by omega), if_pos (by omega)]
    obtain ⟨ht, hpt⟩ := hord.1 p cp
    have eo : zI (lZ Z a d) (233 + 1) p = (o p : Int) := hw.2.2.2.1.2.2.1 p cp
    rw [Int.toNat_natCast, eo, Int.toNat_natCast, show zI (lZ Z a d) (233 + 7) (o p) = L (o p) from (hw.2.2.2.2.2.2 _ ht).2.2.1]
    refine ⟨zIx_nat (by omega) (by decide), zIx_nat (by omega) (by decide), ?_⟩
    generalize eot : o p = t at *
    clear eo
    have vt := hv t ht
    have pR0 : pR k a := fun u hu => by
      have g := pv.1 u hu
      have g2 := hv u hu
      by_cases l : pos u < p
      · have := g.1 l
        omega
      · exact Or.inl (g.2 (by omega))
    have at1 : a t = -1 := (pv.1 t ht).2 (by omega)
    have hq : ∀ j, j < kM k → kL k j = t → 0 ≤ a (kE k j) := fun j hj e => by
      have g := hord.2.2 j hj
      rw [e, hpt] at g
      exact ((pv.1 _ (ho.e hj)).1 g).1
    refine ((s_vletOf (a := a) (d := d) h pR0 ht hq).deeper (by omega)).mono ?_
    rintro r W ⟨rfl, rfl⟩
    refine b_X4_putNext_58 hw.1 hw.2.1 hw.2.2.1 (Nat.zero_le _) ?_
    have lt0 : 0 ≤ ltV k a t := zmax_0 _ _
    have lt1 : ltV k a t ≤ 1860 := ltV_le (by omega) fun j hj e => by
      have a1 := hq j hj e
      have a2 := pR0 _ (ho.e hj)
      have a3 := ho.len (ho.e hj)
      have a4 := ho.g hj
      unfold lateB
      omega
    -- completions begin where the task is let, or later
    have lq : ∀ q, vR k L q → exB k a q → ltV k a t ≤ q t := fun q hv hx => ltV_le (hv.1 t ht).1 fun j hj e => by
      have g := hv.2 j hj
      rw [e] at g
      have e2 : lateB k a j = lateB k q j := by
        unfold lateB
        rw [hx _ (ho.e hj) (by have := hq j hj e; omega)]
      rw [e2]
      exact g
    clear hw e3
    generalize elt : ltV k a t = x0 at *
    suffices loop : ∀ j, j ≤ (L t + 1 - x0).toNat → ∀ a' d', (∀ u, u < kN k → u ≠ t → a' u = a u) → (∀ i, i ≠ 3 → d' i = d i) → (0 ≤ d' 3 ∧ d' 3 ≤ d 3) → atL k L (d 3) (d' 3) → (∀ q, vR k L q → exB k a q → q t < x0 + (j : Int) → d' 3 ≤ pkP k q) → ZP G (m + 1 + 4) m_X4_putNext 60 [some (.ref 279), some (iv (p : Int)), some (iv (pkP k a)), some (iv (t : Int)), some (iv (L t)), some (iv (x0 + (j : Int)))] [] (lZ Z a' d') (vRes Z k L a d) by
      have h9 := loop 0 (Nat.zero_le _) a d (fun _ _ _ => rfl) (fun _ _ => rfl) ⟨h3.1, Int.le_refl _⟩ (Or.inl rfl) fun q hv hx hl => by
        have := lq q hv hx
        omega
      rw [show x0 + ((0 : Nat) : Int) = x0 by omega] at h9
      exact h9
    refine am_up (n := (L t + 1 - x0).toNat) fun j hj ihj a' d' ha' hd' h3' at' sn => ?_
    have hw := h.w (a := a') (d := d')
    refine b_X4_putNext_60 hw.1 hw.2.1 hw.2.2.1 (Nat.zero_le _) ⟨by omega, by omega, ?_⟩
    by_cases cj : L t < x0 + (j : Int)
    · rw [if_pos cj]
      refine ⟨zIx_nat (by omega) (by decide), ?_⟩
      rintro _ rfl
      rw [Int.toNat_natCast, show 279 + 1 = 280 from rfl, lZ_1, lZ_i1]
      refine ⟨rfl, _, d', rfl, fun u hu => ?_, hd', h3', at', fun q hv hx => sn q hv hx ?_⟩
      · by_cases e : u = t
        · rw [e, zu_same, at1]
        · rw [zu_other e]
          exact ha' u hu e
      · have := (hv.1 t ht).2
        omega
    rw [if_neg cj]
    refine ⟨zIx_nat (by omega) (by decide), ?_⟩
    rintro _ rfl
    rw [Int.toNat_natCast, show 279 + 1 = 280 from rfl, lZ_1, lZ_i1]
    have b1 : ∀ u, u < kN k → u ≠ t → zu a' t (x0 + (j : Int)) u = a u := fun u hu e => by
      rw [zu_other e]
      exact ha' u hu e
    have b2' : zu a' t (x0 + (j : Int)) t = x0 + (j : Int) := zu_same _ _ _
    generalize zu a' t (x0 + (j : Int)) = b at *
    have pRb : pR k b := fun u hu => by
      by_cases e : u = t
      · rw [e, b2']
        omega
      · rw [b1 u hu e]
        exact pR0 u hu
    refine ((s_vpeakWith (a := b) (d := d') h pRb ht (by omega)).deeper (by omega)).mono ?_
    rintro r W ⟨rfl, rfl⟩
    have hw2 := h.w (a := b) (d := d')
    have ep := pkP_put (k := k) (a := a) (b := b) ht b1 at1 (by omega)
    have wn : 0 ≤ pkW k b t ∧ pkW k b t ≤ kN k := by
      have := pkP_n (k := k) (b := b)
      have := cntP_r k b (b t)
      have g : cntP k b (b t) ≤ pkW k b t := Int.le_max_left _ _
      omega
    refine b_X4_putNext_85 hw2.1 hw2.2.1 hw2.2.2.1 (Nat.zero_le _) ⟨by omega, by omega, ?_⟩
    rw [← ep, show (p : Int) + 1 = ((p + 1 : Nat) : Int) by omega]
    have pvb : pV k L pos (p + 1) b := ⟨fun u hu => by
      by_cases e : u = t
      · rw [e, b2']
        exact ⟨fun _ => by omega, fun g => by omega⟩
      · rw [b1 u hu e]
        have g := pv.1 u hu
        refine ⟨fun l => g.1 ?_, fun l => g.2 (by omega)⟩
        have ne : pos u ≠ p := fun q => e (by
          have := (hord.2.1 u hu).2
          rw [q, eot] at this
          exact this.symm)
        omega, fun i hi l => by
      have pe := hord.2.2 i hi
      have le := ho.e hi
      have ll := ho.l hi
      have lb : lateB k b i = lateB k a i := by
        unfold lateB
        rw [b1 _ le fun e => by rw [e] at pe; omega]
      rw [lb]
      by_cases e : kL k i = t
      · rw [e, b2']
        have g := ltV_ge (k := k) (b := a) hi
        rw [e, elt] at g
        omega
      · rw [b1 _ ll e]
        refine pv.2 i hi ?_
        have ne : pos (kL k i) ≠ p := fun q => e (by
          have := (hord.2.1 _ ll).2
          rw [q, eot] at this
          exact this.symm)
        omega⟩
    refine (show ZM G (m + 4) m_X4_putNext _ _ _ from ih (p + 1) (by omega) (by omega) b d' pvb (by omega)).mono ?_
    rintro r V ⟨rfl, a2, d2, rfl, q1, q2, q3, q4, q5⟩
    have hw3 := h.w (a := a2) (d := d2)
    refine b_X4_putNext_91 hw3.1 hw3.2.1 hw3.2.2.1 (Nat.zero_le _) ?_
    have h9 := ihj (by omega) a2 d2 (fun u hu e => by rw [q1 u hu]; exact b1 u hu e) (fun i hi => (q2 i hi).trans (hd' i hi)) (by omega) (show atL k L (d 3) (d2 3) by
      rcases q4 with g | g
      · rw [g]
        exact at'
      · exact Or.inr g) fun q hv hx hl => by
        by_cases e : q t = x0 + (j : Int)
        · refine q5 q hv fun u hu g => ?_
          by_cases e2 : u = t
          · rw [e2, b2']
            exact e
          · rw [b1 u hu e2] at g ⊢
            exact hx u hu g
        · have := sn q hv hx (by omega)
          omega
    rw [show x0 + (j : Int) + 1 = x0 + ((j + 1 : Nat) : Int) by omega]
    exact h9
theorem s_vleastOf {G : Gx} {Z : Zm} {k : Bk} {o pos : Nat → Nat} {E L : Nat → Int} (h : lvC Z k o pos E L) (h6 : kN k ≤ 6) (hE : vR k L E) : ZM G 12 m_X4_leastOf [.ref 279] Z (fun r W => r = .inl (some (iv (vLp k L))) ∧ ∃ a d, W = lZ Z a d) := by
  have ho : kOk k := h.2.2.2.2.1
  refine e_X4_leastOf h.1 h.2.1 h.2.2.1 ?_
  rintro _ rfl
  rintro _ rfl
  rw [show zI Z 233 1 = (kN k : Int) from h.2.2.2.1.1, show 279 + 1 = 280 from rfl]
  have ew : zSI (zSI Z 279 (zu (zI Z 279) 3 (kN k : Int))) 280 (zfl (zI (zSI Z 279 (zu (zI Z 279) 3 (kN k : Int))) 280) 20 (-1)) = lZ Z (zfl (zI (zSI Z 279 (zu (zI Z 279) 3 (kN k : Int))) 280) 20 (-1)) (zu (zI Z 279) 3 (kN k : Int)) := zSI_comm _ _ _ (by decide)
  rw [ew]
  have a0 : ∀ t, t < kN k → zfl (zI (zSI Z 279 (zu (zI Z 279) 3 (kN k : Int))) 280) 20 (-1) t = -1 := fun t ht => if_pos (by omega)
  have d3 : zu (zI Z 279) 3 (kN k : Int) 3 = kN k := zu_same _ _ _
  generalize zfl (zI (zSI Z 279 (zu (zI Z 279) 3 (kN k : Int))) 280) 20 (-1) = a at *
  generalize zu (zI Z 279) 3 (kN k : Int) = d at *
  clear ew
  have pz : pkP k a = 0 := Int.le_antisymm (pkP_le (Int.le_refl _) fun t ht g => absurd (a0 t ht) g) (pkP_0 _ _)
  have rc := s_vputNext (G := G) h h6 (kN k) 0 (Nat.zero_le _) (by omega) a d ⟨fun t ht => ⟨fun g => absurd g (Nat.not_lt_zero _), fun _ => a0 t ht⟩, fun j _ g => absurd g (Nat.not_lt_zero _)⟩ (by omega)
  rw [pz] at rc
  refine (rc.deeper (by omega)).mono ?_
  rintro r V ⟨rfl, a', d', rfl, q1, q2, q3, q4, q5⟩
  have hv := h.w (a := a') (d := d')
  refine b_X4_leastOf_25 hv.1 hv.2.1 hv.2.2.1 ?_
  rw [lZ_i0]
  refine ⟨?_, a', d', rfl⟩
  have le : ∀ q, vR k L q → d' 3 ≤ pkP k q := fun q hq => q5 q hq fun t ht g => absurd (a0 t ht) g
  rw [vLp_of ⟨?_, le⟩]
  rcases q4 with g | g
  · refine ⟨E, hE, ?_⟩
    have := le E hE
    have := pkP_n (k := k) (b := E)
    omega
  · exact g
theorem kPm.vR {k k' : Bk} (h : kPm k k') {L b : Nat → Int} : _root_.Jvm.Pilot.@@N@@.vR k' L b ↔ _root_.Jvm.Pilot.@@N@@.vR k L b := by
  have hn : kN k' = kN k := h.1
  have hf : kF k' = kF k := h.2.2.1
  unfold _root_.Jvm.Pilot.@@N@@.vR
  rw [hn]
  constructor
  · rintro ⟨h1, h2⟩
    refine ⟨h1, fun j hj => ?_⟩
    obtain ⟨i, hi, e1, e2, e3⟩ := h.to hj
    have g := h2 i hi
    unfold lateB at g ⊢
    rw [hf, e1, e2, e3] at g
    exact g
  · rintro ⟨h1, h2⟩
    refine ⟨h1, fun j hj => ?_⟩
    obtain ⟨i, hi, e1, e2, e3⟩ := h.of hj
    have g := h2 i hi
    unfold lateB at g ⊢
    rw [hf, ← e1, ← e2, ← e3]
    exact g
theorem kPm.pkP {k k' : Bk} (h : kPm k k') (b : Nat → Int) : _root_.Jvm.Pilot.@@N@@.pkP k' b = _root_.Jvm.Pilot.@@N@@.pkP k b := by
  have hn : kN k' = kN k := h.1
  unfold _root_.Jvm.Pilot.@@N@@.pkP
  rw [hn]
  exact zmax_eq fun t ht => by rw [h.cnt]
theorem kPm.vLp {k k' : Bk} (h : kPm k k') (L : Nat → Int) : _root_.Jvm.Pilot.@@N@@.vLp k' L = _root_.Jvm.Pilot.@@N@@.vLp k L := by
  have : isLp k' L = isLp k L := funext fun v => propext (by
    unfold isLp
    constructor
    · rintro ⟨⟨b, q1, q2⟩, q3⟩
      exact ⟨⟨b, h.vR.mp q1, by rw [q2, h.pkP]⟩, fun c hc => by rw [← h.pkP]; exact q3 c (h.vR.mpr hc)⟩
    · rintro ⟨⟨b, q1, q2⟩, q3⟩
      exact ⟨⟨b, h.vR.mpr q1, by rw [q2, h.pkP]⟩, fun c hc => by rw [h.pkP]; exact q3 c (h.vR.mp hc)⟩)
  unfold _root_.Jvm.Pilot.@@N@@.vLp
  rw [this]
theorem eE_vR {k : Bk} (ho : kOk k) : vR k (eL k) (eE k) := by
  have h := eOk_all ho
  refine ⟨fun t ht => ⟨(h.e ho ht).1, (h.el ho ht).1⟩, fun j hj => ?_⟩
  exact (h.1 _ (ho.l hj)).2.1 j hj rfl
theorem s_lvC {Z : Zm} {σ : St} (h : IC Z σ) (ho : kOk (sK σ)) (hc : cN Z 233 (sK σ)) : ∃ k' o pos, kPm (sK σ) k' ∧ lvC Z k' o pos (eE (sK σ)) (eL (sK σ)) := by
  have ec := hc.e ho
  have hk := eOk_all ho
  obtain ⟨-, k', o, pos, hpm, hord, hsrt, ns, -⟩ := hc
  have hn : kN k' = kN (sK σ) := hpm.1
  have hf : kF k' = kF (sK σ) := hpm.2.2.1
  refine ⟨k', o, pos, hpm, h.1.lv, h.1.bk, h.1.nt, ns, hpm.ok ho, hord, fun t ht => ?_⟩
  rw [hn] at ht
  rw [hf]
  have a := hk.e ho ht
  have b := hk.el ho ht
  have c := hk.en ho
  have l := ho.len ht
  exact ⟨h.2.1.2.2.1 0 t (by omega) ht, ec.1 t ht, ec.2.2.1 t ht, a.1, b.1, by omega⟩
theorem c_leastPeak {G : Gx} {Z : Zm} {σ : St} (h : IC Z σ) (ho : okS σ) (hz : zSz Z < 1000000) : ZM G 14 m_X11_leastPeak [.ref 0] Z (rC Z (E3 eU "" "") iv (o_leastPeak σ)) := by
  have hN := ho.1.n
  refine e_X11_leastPeak h.1 (((s_freshNet h ho.1).deeper (by omega)).mono ?_)
  rintro r V ⟨rfl, f, cn⟩
  obtain ⟨h1, f1⟩ := h.nt f cn
  obtain ⟨k', o, pos, hpm, lv⟩ := s_lvC h1 ho.1 cn
  have hn : kN k' = kN (sK σ) := hpm.1
  have szV : zSz V < 1000000 := by have := f1.2.1.1; omega
  have e3 : zI V 1 3 = (kN (sK σ) : Int) := h1.2.1.1
  unfold o_leastPeak
  refine b_X11_leastPeak_4 h1.1 ⟨by rw [e3]; omega, ?_⟩
  rw [e3]
  by_cases c1 : kN (sK σ) ≤ 6
  case neg =>
    rw [if_pos (by omega), cIf_f c1]
    exact ⟨szV, rC.nx h1 f1 (by decide) rfl⟩
  rw [if_neg (by omega), cIf_p c1]
  refine ((s_vareFew lv).deeper (by omega)).mono ?_
  rintro r W ⟨⟨v, rfl, hv⟩, hW⟩
  obtain rfl := hW.symm
  rw [hn] at hv
  refine b_X11_leastPeak_24 h1.1 ⟨b01_r hv.r, ?_⟩
  by_cases c2 : prF (fun t => eL (sK σ) t - eE (sK σ) t + 1) (kN (sK σ)) ≤ 2000
  case neg =>
    have v0 : v = 0 := hv.r.resolve_right fun e => c2 (hv.p.mp e)
    rw [if_pos v0, cIf_f c2]
    exact ⟨szV, rC.nx h1 f1 (by decide) rfl⟩
  have v1 : v = 1 := hv.p.mpr c2
  rw [if_neg (by omega), cIf_p c2]
  refine ((s_vleastOf lv (by omega) (hpm.vR.mpr (eE_vR ho.1))).deeper (by omega)).mono ?_
  rintro r W ⟨rfl, a, d, eW⟩
  have f2 := lZ_f V a d
  rw [← eW] at f2
  have h2 : IC W σ := h1.fr0 f2 (fun a q => by unfold zB at q; unfold scr; omega) fun a g1 g2 q => by unfold zB at q; omega
  exact b_X11_leastPeak_45 h2.1 (rC.ok h2 (f1.trans (f2.mono (fun a q => by unfold zB at q; show a < 300; omega) (Nat.le_refl _) (Nat.le_refl _))).c1 (hpm.vLp _))
