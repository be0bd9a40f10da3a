set_option maxRecDepth 20000 in
theorem e_X10_isDigit {G : Gx} {Q : Rv → Zm → Prop} {Z : Zm} {t : Nat} {c : Int} (ht : atText Z t) (h : ((R32 c) ∧ Q (.inl (some (iv (b2 (¬ (c < 48) ∧ (¬ (57 < c))))))) Z)) : ZM G 0 m_X10_isDigit [.ref t, iv c] Z Q := ZM.of [some (.ref t), some (iv c)] rfl <| z_iload_n (pc' := 1) (j := 1) (by decide +kernel) rfl rfl <| z_bipush (pc' := 3) (n := 48) (by decide +kernel) (by decide) rfl <| h.elim fun c1 h => am_use (fun k8 => z_icmp_lt (pc' := 6) (tgt := 16) (off := 13) (by decide +kernel) (by decide) rfl c1 (by decide : R32 48) (am_ite2 (fun q9 => z_iconst (pc' := 17) (n := 0) (by decide +kernel) rfl <| (am_jp (P := fun z9 => ZP G 0 m_X10_isDigit 17 [some (.ref t), some (iv c)] [iv z9] _ Q) (b2_a1 q9) k8)) (fun q9 => z_iload_n (pc' := 7) (j := 1) (by decide +kernel) rfl rfl <| z_bipush (pc' := 9) (n := 57) (by decide +kernel) (by decide) rfl <| am_use (fun k4 => z_icmp_gt (pc' := 12) (tgt := 16) (off := 7) (by decide +kernel) (by decide) rfl c1 (by decide : R32 57) (am_ite2 (fun q5 => z_iconst (pc' := 17) (n := 0) (by decide +kernel) rfl <| (am_jp (P := fun z9 => ZP G 0 m_X10_isDigit 17 [some (.ref t), some (iv c)] [iv z9] _ Q) (b2_n q5) k4)) (fun q5 => z_iconst (pc' := 13) (n := 1) (by decide +kernel) rfl <| z_goto (tgt := 17) (off := 4) (by decide +kernel) (by decide) <| (am_jp (P := fun z9 => ZP G 0 m_X10_isDigit 17 [some (.ref t), some (iv c)] [iv z9] _ Q) (b2_nn q5) k4)))) <| (am_jp (P := fun z9 => ZP G 0 m_X10_isDigit 17 [some (.ref t), some (iv c)] [iv z9] _ Q) (b2_a2 q9) k8)))) <| z_ireturn (by decide +kernel) (am_rb (b2_01 _)) h
set_option maxRecDepth 20000 in
theorem e_X10_isAt {G : Gx} {Q : Rv → Zm → Prop} {Z : Zm} {t : Nat} {c : Int} (ht : atText Z t) (h : ((R32 (zI Z t 2)) ∧ (¬ ((zI Z t 2) < 0) → (R32 (zI Z t 1)) ∧ (¬ ((zI Z t 1) ≤ (zI Z t 2)) → (zIx (zI Z t 2) 80) ∧ (R32 (zI Z (t + 1) (zI Z t 2).toNat)) ∧ (R32 c) ∧ True) ∧ True) ∧ Q (.inl (some (iv (b2 (¬ ((zI Z t 2) < 0) ∧ (¬ ((zI Z t 1) ≤ (zI Z t 2)) ∧ ((zI Z (t + 1) (zI Z t 2).toNat) = c))))))) Z)) : ZM G 0 m_X10_isAt [.ref t, iv c] Z Q := ZM.of [some (.ref t), some (iv c)] rfl <| z_aload_n (pc' := 1) (j := 0) (by decide +kernel) rfl rfl <| z_getI (pc' := 4) (idx := 20) (ci := 10) (f := 2) (by decide +kernel) f_RX10_20 rfl ht.o.1 ht.o.2 rfl <| h.elim fun c1 h => h.elim fun g15 h => am_use (fun k16 => z_if_lt (pc' := 7) (tgt := 35) (off := 31) (by decide +kernel) (by decide) rfl c1 (am_ite2 (fun q17 => z_iconst (pc' := 36) (n := 0) (by decide +kernel) rfl <| (am_jp (P := fun z9 => ZP G 0 m_X10_isAt 36 [some (.ref t), some (iv c)] [iv z9] _ Q) (b2_a1 q17) k16)) (fun q17 => have h := g15 q17; z_aload_n (pc' := 8) (j := 0) (by decide +kernel) rfl rfl <| z_getI (pc' := 11) (idx := 20) (ci := 10) (f := 2) (by decide +kernel) f_RX10_20 rfl ht.o.1 ht.o.2 rfl <| z_aload_n (pc' := 12) (j := 0) (by decide +kernel) rfl rfl <| z_getI (pc' := 15) (idx := 28) (ci := 10) (f := 1) (by decide +kernel) f_RX10_28 rfl ht.o.1 ht.o.2 rfl <| h.elim fun c2 h => h.elim fun g11 h => am_use (fun k12 => z_icmp_ge (pc' := 18) (tgt := 35) (off := 20) (by decide +kernel) (by decide) rfl c1 c2 (am_ite2 (fun q13 => z_iconst (pc' := 36) (n := 0) (by decide +kernel) rfl <| (am_jp (P := fun z9 => ZP G 0 m_X10_isAt 36 [some (.ref t), some (iv c)] [iv z9] _ Q) (b2_a1 q13) k12)) (fun q13 => have h := g11 q13; z_aload_n (pc' := 19) (j := 0) (by decide +kernel) rfl rfl <| z_getR (pc' := 22) (idx := 9) (ci := 10) (f := 0) (by decide +kernel) f_RX10_9 rfl ht.o.1 ht.o.2 ht.r0 rfl <| z_aload_n (pc' := 23) (j := 0) (by decide +kernel) rfl rfl <| z_getI (pc' := 26) (idx := 20) (ci := 10) (f := 2) (by decide +kernel) f_RX10_20 rfl ht.o.1 ht.o.2 rfl <| h.elim fun c3 h => z_caload (pc' := 27) (by decide +kernel) ht.a0 c3 rfl <| z_iload_n (pc' := 28) (j := 1) (by decide +kernel) rfl rfl <| h.elim fun c4 h => h.elim fun c5 h => am_use (fun k8 => z_icmp_ne (pc' := 31) (tgt := 35) (off := 7) (by decide +kernel) (by decide) rfl c4 c5 (am_ite2 (fun q9 => z_iconst (pc' := 32) (n := 1) (by decide +kernel) rfl <| z_goto (tgt := 36) (off := 4) (by decide +kernel) (by decide) <| (am_jp (P := fun z9 => ZP G 0 m_X10_isAt 36 [some (.ref t), some (iv c)] [iv z9] _ Q) (b2_p q9) k8)) (fun q9 => z_iconst (pc' := 36) (n := 0) (by decide +kernel) rfl <| (am_jp (P := fun z9 => ZP G 0 m_X10_isAt 36 [some (.ref t), some (iv c)] [iv z9] _ Q) (b2_f q9) k8)))) <| (am_jp (P := fun z9 => ZP G 0 m_X10_isAt 36 [some (.ref t), some (iv c)] [iv z9] _ Q) (b2_a2 q13) k12)))) <| (am_jp (P := fun z9 => ZP G 0 m_X10_isAt 36 [some (.ref t), some (iv c)] [iv z9] _ Q) (b2_a2 q17) k16)))) <| z_ireturn (by decide +kernel) (am_rb (b2_01 _)) h
set_option maxRecDepth 20000 in
theorem e_X10_readNumber {G : Gx} {Q : Rv → Zm → Prop} {Z : Zm} {t : Nat} (ht : atText Z t) (h : (ZP G 1 m_X10_readNumber 7 [some (.ref t), some (iv 0), some (iv (zI Z t 2)), none] [] Z Q)) : ZM G 1 m_X10_readNumber [.ref t] Z Q := ZM.of [some (.ref t), none, none, none] rfl <| z_iconst (pc' := 1) (n := 0) (by decide +kernel) rfl <| z_istore_n (pc' := 2) (j := 1) (ls' := [some (.ref t), some (iv 0), none, none]) (by decide +kernel) (by decide) rfl rfl <| z_aload_n (pc' := 3) (j := 0) (by decide +kernel) rfl rfl <| z_getI (pc' := 6) (idx := 20) (ci := 10) (f := 2) (by decide +kernel) f_RX10_20 rfl ht.o.1 ht.o.2 rfl <| z_istore_n (pc' := 7) (j := 2) (ls' := [some (.ref t), some (iv 0), some (iv (zI Z t 2)), none]) (by decide +kernel) (by decide) rfl rfl <| h
set_option maxRecDepth 20000 in
theorem b_X10_readNumber_7 {G : Gx} {Q : Rv → Zm → Prop} {Z : Zm} {t : Nat} {v1 : Int} {v2 : Int} (ht : atText Z t) (h : ((R32 v2) ∧ (R32 (zI Z t 1)) ∧ (if (zI Z t 1) ≤ v2 then ((R32 (zI Z t 2)) ∧ ∀ Z9, Z9 = zSI Z t (zu (zI Z t) 2 v2) → Q (.inl (some (iv (if ¬ (v2 ≤ (zI Z t 2)) then v1 else (-1))))) Z9) else ((zIx v2 80) ∧ ZM G 0 m_X10_isDigit [.ref t, iv (zI Z (t + 1) v2.toNat)] Z (zKc G 1 m_X10_readNumber 25 [some (.ref t), some (iv v1), some (iv v2), none] [] Q))))) : ZP G 1 m_X10_readNumber 7 [some (.ref t), some (iv v1), some (iv v2), none] [] Z Q := z_iload_n (pc' := 8) (j := 2) (by decide +kernel) rfl rfl <| z_aload_n (pc' := 9) (j := 0) (by decide +kernel) rfl rfl <| z_getI (pc' := 12) (idx := 28) (ci := 10) (f := 1) (by decide +kernel) f_RX10_28 rfl ht.o.1 ht.o.2 rfl <| h.elim fun c1 h => h.elim fun c2 h => z_icmp_ge (pc' := 15) (tgt := 55) (off := 43) (by decide +kernel) (by decide) rfl c1 c2 (am_ite h (fun h => z_iload_n (pc' := 56) (j := 2) (by decide +kernel) rfl rfl <| z_aload_n (pc' := 57) (j := 0) (by decide +kernel) rfl rfl <| z_getI (pc' := 60) (idx := 20) (ci := 10) (f := 2) (by decide +kernel) f_RX10_20 rfl ht.o.1 ht.o.2 rfl <| h.elim fun c4 h => am_use (fun k7 => z_icmp_le (pc' := 63) (tgt := 67) (off := 7) (by decide +kernel) (by decide) rfl c1 c4 (am_ite2 (fun q8 => z_iconst (pc' := 68) (n := 0) (by decide +kernel) rfl <| (am_jp (P := fun z9 => ZP G 1 m_X10_readNumber 68 [some (.ref t), some (iv v1), some (iv v2), none] [iv z9] _ Q) (b2_n q8) k7)) (fun q8 => z_iconst (pc' := 64) (n := 1) (by decide +kernel) rfl <| z_goto (tgt := 68) (off := 4) (by decide +kernel) (by decide) <| (am_jp (P := fun z9 => ZP G 1 m_X10_readNumber 68 [some (.ref t), some (iv v1), some (iv v2), none] [iv z9] _ Q) (b2_nn q8) k7)))) <| z_istore_n (pc' := 69) (j := 3) (ls' := [some (.ref t), some (iv v1), some (iv v2), some (iv (b2 (¬ (v2 ≤ (zI Z t 2)))))]) (by decide +kernel) (by decide) rfl rfl <| z_aload_n (pc' := 70) (j := 0) (by decide +kernel) rfl rfl <| z_iload_n (pc' := 71) (j := 2) (by decide +kernel) rfl rfl <| z_putI (pc' := 74) (idx := 20) (ci := 10) (f := 2) (by decide +kernel) f_RX10_20 (am_nf rfl rfl) rfl rfl rfl ht.o.1 ht.o.2 rfl <| have h := h _ rfl; z_iload_n (pc' := 75) (j := 3) (by decide +kernel) rfl rfl <| am_use (fun k12 => z_ifB_eq (pc' := 78) (tgt := 82) (off := 7) (by decide +kernel) (by decide) rfl (am_ite2 (fun q13 => z_iload_n (pc' := 79) (j := 1) (by decide +kernel) rfl rfl <| z_goto (tgt := 83) (off := 4) (by decide +kernel) (by decide) <| (am_jp (P := fun z9 => ZP G 1 m_X10_readNumber 83 [some (.ref t), some (iv v1), some (iv v2), some (iv (b2 (¬ (v2 ≤ (zI Z t 2)))))] [iv z9] _ Q) (if_pos q13) k12)) (fun q13 => z_iconst (pc' := 83) (n := -1) (by decide +kernel) rfl <| (am_jp (P := fun z9 => ZP G 1 m_X10_readNumber 83 [some (.ref t), some (iv v1), some (iv v2), some (iv (b2 (¬ (v2 ≤ (zI Z t 2)))))] [iv z9] _ Q) (if_neg q13) k12)))) <| z_ireturn (by decide +kernel) ⟨_, rfl, rfl⟩ h) (fun h => z_aload_n (pc' := 16) (j := 0) (by decide +kernel) rfl rfl <| z_aload_n (pc' := 17) (j := 0) (by decide +kernel) rfl rfl <| z_getR (pc' := 20) (idx := 9) (ci := 10) (f := 0) (by decide +kernel) f_RX10_9 rfl ht.o.1 ht.o.2 ht.r0 rfl <| z_iload_n (pc' := 21) (j := 2) (by decide +kernel) rfl rfl <| h.elim fun c14 h => z_caload (pc' := 22) (by decide +kernel) ht.a0 c14 rfl <| z_callV (pc' := 25) (idx := 57) (mj := m_X10_isDigit) (av := [iv (zI Z (t + 1) v2.toNat)]) (d' := 0) (by decide +kernel) rfl k_X10_isDigit l_RX10_57 rfl (by omega) (am_le rfl) rfl (am_le rfl) ht.o.1 ht.o.2 rfl h))
set_option maxRecDepth 20000 in
theorem b_X10_readNumber_25 {G : Gx} {Q : Rv → Zm → Prop} {Z : Zm} {t : Nat} {v1 : Int} {v2 : Int} {s0 : Int} (ht : atText Z t) (h : ((R32 s0) ∧ (if s0 = 0 then ((R32 v2) ∧ (R32 (zI Z t 2)) ∧ ∀ Z10, Z10 = zSI Z t (zu (zI Z t) 2 v2) → Q (.inl (some (iv (if ¬ (v2 ≤ (zI Z t 2)) then v1 else (-1))))) Z10) else ((zIx v2 80) ∧ (R32 (((v1 * 10) + (zI Z (t + 1) v2.toNat)) - 48)) ∧ ZP G 1 m_X10_readNumber 7 [some (.ref t), some (iv (min 1000 (((v1 * 10) + (zI Z (t + 1) v2.toNat)) - 48))), some (iv (v2 + 1)), none] [] Z Q)))) : ZP G 1 m_X10_readNumber 25 [some (.ref t), some (iv v1), some (iv v2), none] [iv s0] Z Q := h.elim fun c1 h => z_if_eq (pc' := 28) (tgt := 55) (off := 30) (by decide +kernel) (by decide) rfl c1 (am_ite h (fun h => z_iload_n (pc' := 56) (j := 2) (by decide +kernel) rfl rfl <| z_aload_n (pc' := 57) (j := 0) (by decide +kernel) rfl rfl <| z_getI (pc' := 60) (idx := 20) (ci := 10) (f := 2) (by decide +kernel) f_RX10_20 rfl ht.o.1 ht.o.2 rfl <| h.elim fun c4 h => h.elim fun c5 h => am_use (fun k8 => z_icmp_le (pc' := 63) (tgt := 67) (off := 7) (by decide +kernel) (by decide) rfl c4 c5 (am_ite2 (fun q9 => z_iconst (pc' := 68) (n := 0) (by decide +kernel) rfl <| (am_jp (P := fun z9 => ZP G 1 m_X10_readNumber 68 [some (.ref t), some (iv v1), some (iv v2), none] [iv z9] _ Q) (b2_n q9) k8)) (fun q9 => z_iconst (pc' := 64) (n := 1) (by decide +kernel) rfl <| z_goto (tgt := 68) (off := 4) (by decide +kernel) (by decide) <| (am_jp (P := fun z9 => ZP G 1 m_X10_readNumber 68 [some (.ref t), some (iv v1), some (iv v2), none] [iv z9] _ Q) (b2_nn q9) k8)))) <| z_istore_n (pc' := 69) (j := 3) (ls' := [some (.ref t), some (iv v1), some (iv v2), some (iv (b2 (¬ (v2 ≤ (zI Z t 2)))))]) (by decide +kernel) (by decide) rfl rfl <| z_aload_n (pc' := 70) (j := 0) (by decide +kernel) rfl rfl <| z_iload_n (pc' := 71) (j := 2) (by decide +kernel) rfl rfl <| z_putI (pc' := 74) (idx := 20) (ci := 10) (f := 2) (by decide +kernel) f_RX10_20 (am_nf rfl rfl) rfl rfl rfl ht.o.1 ht.o.2 rfl <| have h := h _ rfl; z_iload_n (pc' := 75) (j := 3) (by decide +kernel) rfl rfl <| am_use (fun k13 => z_ifB_eq (pc' := 78) (tgt := 82) (off := 7) (by decide +kernel) (by decide) rfl (am_ite2 (fun q14 => z_iload_n (pc' := 79) (j := 1) (by decide +kernel) rfl rfl <| z_goto (tgt := 83) (off := 4) (by decide +kernel) (by decide) <| (am_jp (P := fun z9 => ZP G 1 m_X10_readNumber 83 [some (.ref t), some (iv v1), some (iv v2), some (iv (b2 (¬ (v2 ≤ (zI Z t 2)))))] [iv z9] _ Q) (if_pos q14) k13)) (fun q14 => z_iconst (pc' := 83) (n := -1) (by decide +kernel) rfl <| (am_jp (P := fun z9 => ZP G 1 m_X10_readNumber 83 [some (.ref t), some (iv v1), some (iv v2), some (iv (b2 (¬ (v2 ≤ (zI Z t 2)))))] [iv z9] _ Q) (if_neg q14) k13)))) <| z_ireturn (by decide +kernel) ⟨_, rfl, rfl⟩ h) (fun h => z_sipush (pc' := 31) (n := 1000) (by decide +kernel) (by decide) rfl <| z_iload_n (pc' := 32) (j := 1) (by decide +kernel) rfl rfl <| z_bipush (pc' := 34) (n := 10) (by decide +kernel) (by decide) rfl <| z_imul (pc' := 35) (by decide +kernel) rfl <| z_aload_n (pc' := 36) (j := 0) (by decide +kernel) rfl rfl <| z_getR (pc' := 39) (idx := 9) (ci := 10) (f := 0) (by decide +kernel) f_RX10_9 rfl ht.o.1 ht.o.2 ht.r0 rfl <| z_iload_n (pc' := 40) (j := 2) (by decide +kernel) rfl rfl <| h.elim fun c15 h => z_caload (pc' := 41) (by decide +kernel) ht.a0 c15 rfl <| z_iadd (pc' := 42) (by decide +kernel) rfl <| z_bipush (pc' := 44) (n := 48) (by decide +kernel) (by decide) rfl <| z_isub (pc' := 45) (by decide +kernel) rfl <| h.elim fun c16 h => z_min (pc' := 48) (idx := 60) (by decide +kernel) (amM3 34 rfl (by decide +kernel)) (amM3 35 rfl (by decide +kernel)) (amM1 21 rfl (by decide +kernel)) (amM3 36 rfl (by decide +kernel)) (by omega) (am_le rfl) (by decide : R32 1000) c16 rfl <| z_istore_n (pc' := 49) (j := 1) (ls' := [some (.ref t), some (iv (min 1000 (((v1 * 10) + (zI Z (t + 1) v2.toNat)) - 48))), some (iv v2), none]) (by decide +kernel) (by decide) rfl rfl <| z_iinc (pc' := 52) (j := 2) (n := 1) (x := v2) (ls' := [some (.ref t), some (iv (min 1000 (((v1 * 10) + (zI Z (t + 1) v2.toNat)) - 48))), some (iv (v2 + 1)), none]) (by decide +kernel) rfl (by decide) rfl rfl <| z_goto (tgt := 7) (off := -45) (by decide +kernel) (by decide) <| h))
set_option maxRecDepth 20000 in
theorem e_X10_readNeed {G : Gx} {Q : Rv → Zm → Prop} {Z : Zm} {t : Nat} {b : Nat} (ht : atText Z t) (hb : atBook Z b) (h : (ZM G 2 m_X10_readNumber [.ref t] Z (zKc G 3 m_X10_readNeed 16 [some (.ref t), some (.ref b), some (iv (zI Z t 2)), some (iv ((zI Z b 3) - 1)), none, none] [] Q))) : ZM G 3 m_X10_readNeed [.ref t, .ref b] Z Q := ZM.of [some (.ref t), some (.ref b), none, none, none, none] rfl <| z_aload_n (pc' := 1) (j := 0) (by decide +kernel) rfl rfl <| z_getI (pc' := 4) (idx := 20) (ci := 10) (f := 2) (by decide +kernel) f_RX10_20 rfl ht.o.1 ht.o.2 rfl <| z_istore_n (pc' := 5) (j := 2) (ls' := [some (.ref t), some (.ref b), some (iv (zI Z t 2)), none, none, none]) (by decide +kernel) (by decide) rfl rfl <| z_aload_n (pc' := 6) (j := 1) (by decide +kernel) rfl rfl <| z_getI (pc' := 9) (idx := 35) (ci := 0) (f := 3) (by decide +kernel) f_RX10_35 rfl hb.o.1 hb.o.2 rfl <| z_iconst (pc' := 10) (n := 1) (by decide +kernel) rfl <| z_isub (pc' := 11) (by decide +kernel) rfl <| z_istore_n (pc' := 12) (j := 3) (ls' := [some (.ref t), some (.ref b), some (iv (zI Z t 2)), some (iv ((zI Z b 3) - 1)), none, none]) (by decide +kernel) (by decide) rfl rfl <| z_aload_n (pc' := 13) (j := 0) (by decide +kernel) rfl rfl <| z_callV (pc' := 16) (idx := 31) (mj := m_X10_readNumber) (av := []) (d' := 2) (by decide +kernel) rfl k_X10_readNumber l_RX10_31 rfl (by omega) (am_le rfl) rfl (am_le rfl) ht.o.1 ht.o.2 rfl h
set_option maxRecDepth 20000 in
theorem b_X10_readNeed_16 {G : Gx} {Q : Rv → Zm → Prop} {Z : Zm} {t : Nat} {b : Nat} {v2 : Int} {v3 : Int} {s0 : Int} (ht : atText Z t) (hb : atBook Z b) (h : ((R32 s0) ∧ (if s0 < 0 then (Q (.inl (some (iv v2))) Z) else ((R32 v3) ∧ (if v3 ≤ s0 then (Q (.inl (some (iv v2))) Z) else (ZM G 2 m_X0_hasNeed [.ref b, iv s0, iv v3] Z (zKc G 3 m_X10_readNeed 36 [some (.ref t), some (.ref b), some (iv v2), some (iv v3), some (iv s0), none] [] Q))))))) : ZP G 3 m_X10_readNeed 16 [some (.ref t), some (.ref b), some (iv v2), some (iv v3), none, none] [iv s0] Z Q := z_istore (pc' := 18) (j := 4) (ls' := [some (.ref t), some (.ref b), some (iv v2), some (iv v3), some (iv s0), none]) (by decide +kernel) (by decide) rfl rfl <| z_iload (pc' := 20) (j := 4) (by decide +kernel) rfl rfl <| h.elim fun c1 h => z_if_lt (pc' := 23) (tgt := 39) (off := 19) (by decide +kernel) (by decide) rfl c1 (am_ite h (fun h => z_iload_n (pc' := 40) (j := 2) (by decide +kernel) rfl rfl <| z_ireturn (by decide +kernel) ⟨_, rfl, rfl⟩ h) (fun h => z_iload (pc' := 25) (j := 4) (by decide +kernel) rfl rfl <| z_iload_n (pc' := 26) (j := 3) (by decide +kernel) rfl rfl <| h.elim fun c2 h => z_icmp_ge (pc' := 29) (tgt := 39) (off := 13) (by decide +kernel) (by decide) rfl c1 c2 (am_ite h (fun h => z_iload_n (pc' := 40) (j := 2) (by decide +kernel) rfl rfl <| z_ireturn (by decide +kernel) ⟨_, rfl, rfl⟩ h) (fun h => z_aload_n (pc' := 30) (j := 1) (by decide +kernel) rfl rfl <| z_iload (pc' := 32) (j := 4) (by decide +kernel) rfl rfl <| z_iload_n (pc' := 33) (j := 3) (by decide +kernel) rfl rfl <| z_callV (pc' := 36) (idx := 49) (mj := m_X0_hasNeed) (av := [iv s0, iv v3]) (d' := 2) (by decide +kernel) rfl k_X0_hasNeed l_RX10_49 rfl (by omega) (am_le rfl) rfl (am_le rfl) hb.o.1 hb.o.2 rfl h))))
set_option maxRecDepth 20000 in
theorem b_X10_readNeed_36 {G : Gx} {Q : Rv → Zm → Prop} {Z : Zm} {t : Nat} {b : Nat} {v2 : Int} {v3 : Int} {v4 : Int} {s0 : Int} (ht : atText Z t) (hb : atBook Z b) (h : ((R32 s0) ∧ (if s0 = 0 then (ZM G 2 m_X10_isAt [.ref t, iv 43] Z (zKc G 3 m_X10_readNeed 50 [some (.ref t), some (.ref b), none, some (iv v3), some (iv v4), some (iv 0)] [] Q)) else (Q (.inl (some (iv v2))) Z)))) : ZP G 3 m_X10_readNeed 36 [some (.ref t), some (.ref b), some (iv v2), some (iv v3), some (iv v4), none] [iv s0] Z Q := h.elim fun c1 h => z_if_eq (pc' := 39) (tgt := 41) (off := 5) (by decide +kernel) (by decide) rfl c1 (am_ite h (fun h => z_iconst (pc' := 42) (n := 0) (by decide +kernel) rfl <| z_istore (pc' := 44) (j := 5) (ls' := [some (.ref t), some (.ref b), some (iv v2), some (iv v3), some (iv v4), some (iv 0)]) (by decide +kernel) (by decide) rfl rfl <| z_aload_n (pc' := 45) (j := 0) (by decide +kernel) rfl rfl <| z_bipush (pc' := 47) (n := 43) (by decide +kernel) (by decide) rfl <| z_callV (pc' := 50) (idx := 42) (mj := m_X10_isAt) (av := [iv 43]) (d' := 2) (by decide +kernel) rfl k_X10_isAt l_RX10_42 rfl (by omega) (am_le rfl) rfl (am_le rfl) ht.o.1 ht.o.2 rfl (ZM.mono h (zKc_wk (wk_some (wk_some (wk_none (wk_some (wk_some (wk_some wk_nil))))))))) (fun h => z_iload_n (pc' := 40) (j := 2) (by decide +kernel) rfl rfl <| z_ireturn (by decide +kernel) ⟨_, rfl, rfl⟩ h))
set_option maxRecDepth 20000 in
theorem b_X10_readNeed_50 {G : Gx} {Q : Rv → Zm → Prop} {Z : Zm} {t : Nat} {b : Nat} {v3 : Int} {v4 : Int} {v5 : Int} {s0 : Int} (ht : atText Z t) (hb : atBook Z b) (h : ((R32 s0) ∧ (if s0 = 0 then (ZM G 2 m_X0_addNeed [.ref b, iv v4, iv v3, iv v5] Z (zKc G 3 m_X10_readNeed 97 [none, none, none, none, none, none] [] Q)) else (∀ Z2, Z2 = zSI Z t (zu (zI Z t) 2 ((zI Z t 2) + 1)) → ZM G 2 m_X10_readNumber [.ref t] Z2 (zKc G 3 m_X10_readNeed 72 [none, some (.ref b), some (iv (zI Z2 t 2)), some (iv v3), some (iv v4), none] [] Q))))) : ZP G 3 m_X10_readNeed 50 [some (.ref t), some (.ref b), none, some (iv v3), some (iv v4), some (iv v5)] [iv s0] Z Q := h.elim fun c1 h => z_if_eq (pc' := 53) (tgt := 88) (off := 38) (by decide +kernel) (by decide) rfl c1 (am_ite h (fun h => z_aload_n (pc' := 89) (j := 1) (by decide +kernel) rfl rfl <| z_iload (pc' := 91) (j := 4) (by decide +kernel) rfl rfl <| z_iload_n (pc' := 92) (j := 3) (by decide +kernel) rfl rfl <| z_iload (pc' := 94) (j := 5) (by decide +kernel) rfl rfl <| z_callV (pc' := 97) (idx := 53) (mj := m_X0_addNeed) (av := [iv v4, iv v3, iv v5]) (d' := 2) (by decide +kernel) rfl k_X0_addNeed l_RX10_53 rfl (by omega) (am_le rfl) rfl (am_le rfl) hb.o.1 hb.o.2 rfl (ZM.mono h (zKc_wk (wk_none (wk_none (wk_none (wk_none (wk_none (wk_none wk_nil))))))))) (fun h => z_aload_n (pc' := 54) (j := 0) (by decide +kernel) rfl rfl <| z_dup (pc' := 55) (by decide +kernel) rfl rfl <| z_getI (pc' := 58) (idx := 20) (ci := 10) (f := 2) (by decide +kernel) f_RX10_20 rfl ht.o.1 ht.o.2 rfl <| z_iconst (pc' := 59) (n := 1) (by decide +kernel) rfl <| z_iadd (pc' := 60) (by decide +kernel) rfl <| z_putI (pc' := 63) (idx := 20) (ci := 10) (f := 2) (by decide +kernel) f_RX10_20 (am_nf rfl rfl) rfl rfl rfl ht.o.1 ht.o.2 rfl <| have h := h _ rfl; z_aload_n (pc' := 64) (j := 0) (by decide +kernel) rfl rfl <| z_getI (pc' := 67) (idx := 20) (ci := 10) (f := 2) (by decide +kernel) f_RX10_20 rfl ht.o.1 ht.o.2 rfl <| z_istore_n (pc' := 68) (j := 2) (ls' := [some (.ref t), some (.ref b), some (iv (zI (zSI Z t (zu (zI Z t) 2 ((zI Z t 2) + 1))) t 2)), some (iv v3), some (iv v4), some (iv v5)]) (by decide +kernel) (by decide) rfl rfl <| z_aload_n (pc' := 69) (j := 0) (by decide +kernel) rfl rfl <| z_callV (pc' := 72) (idx := 31) (mj := m_X10_readNumber) (av := []) (d' := 2) (by decide +kernel) rfl k_X10_readNumber l_RX10_31 rfl (by omega) (am_le rfl) rfl (am_le rfl) ht.o.1 ht.o.2 rfl (ZM.mono h (zKc_wk (wk_none (wk_some (wk_some (wk_some (wk_some (wk_none wk_nil))))))))))
set_option maxRecDepth 20000 in
theorem b_X10_readNeed_97 {G : Gx} {Q : Rv → Zm → Prop} {Z : Zm} {t : Nat} {b : Nat} {s0 : Int} (ht : atText Z t) (hb : atBook Z b) (h : (Q (.inl (some (iv (-1)))) Z)) : ZP G 3 m_X10_readNeed 97 [none, none, none, none, none, none] [iv s0] Z Q := z_pop (pc' := 98) (by decide +kernel) rfl rfl <| z_iconst (pc' := 99) (n := -1) (by decide +kernel) rfl <| z_ireturn (by decide +kernel) ⟨_, rfl, rfl⟩ h
set_option maxRecDepth 20000 in
theorem b_X10_readNeed_72 {G : Gx} {Q : Rv → Zm → Prop} {Z : Zm} {t : Nat} {b : Nat} {v2 : Int} {v3 : Int} {v4 : Int} {s0 : Int} (ht : atText Z t) (hb : atBook Z b) (h : ((R32 s0) ∧ (if s0 < 0 then (Q (.inl (some (iv v2))) Z) else ((if s0 ≤ 30 then (ZM G 2 m_X0_addNeed [.ref b, iv v4, iv v3, iv s0] Z (zKc G 3 m_X10_readNeed 97 [none, none, none, none, none, none] [] Q)) else (Q (.inl (some (iv v2))) Z)))))) : ZP G 3 m_X10_readNeed 72 [none, some (.ref b), some (iv v2), some (iv v3), some (iv v4), none] [iv s0] Z Q := z_istore (pc' := 74) (j := 5) (ls' := [none, some (.ref b), some (iv v2), some (iv v3), some (iv v4), some (iv s0)]) (by decide +kernel) (by decide) rfl rfl <| z_iload (pc' := 76) (j := 5) (by decide +kernel) rfl rfl <| h.elim fun c1 h => z_if_lt (pc' := 79) (tgt := 86) (off := 10) (by decide +kernel) (by decide) rfl c1 (am_ite h (fun h => z_iload_n (pc' := 87) (j := 2) (by decide +kernel) rfl rfl <| z_ireturn (by decide +kernel) ⟨_, rfl, rfl⟩ h) (fun h => z_iload (pc' := 81) (j := 5) (by decide +kernel) rfl rfl <| z_bipush (pc' := 83) (n := 30) (by decide +kernel) (by decide) rfl <| z_icmp_le (pc' := 86) (tgt := 88) (off := 5) (by decide +kernel) (by decide) rfl c1 (by decide : R32 30) (am_ite h (fun h => z_aload_n (pc' := 89) (j := 1) (by decide +kernel) rfl rfl <| z_iload (pc' := 91) (j := 4) (by decide +kernel) rfl rfl <| z_iload_n (pc' := 92) (j := 3) (by decide +kernel) rfl rfl <| z_iload (pc' := 94) (j := 5) (by decide +kernel) rfl rfl <| z_callV (pc' := 97) (idx := 53) (mj := m_X0_addNeed) (av := [iv v4, iv v3, iv s0]) (d' := 2) (by decide +kernel) rfl k_X0_addNeed l_RX10_53 rfl (by omega) (am_le rfl) rfl (am_le rfl) hb.o.1 hb.o.2 rfl (ZM.mono h (zKc_wk (wk_none (wk_none (wk_none (wk_none (wk_none (wk_none wk_nil))))))))) (fun h => z_iload_n (pc' := 87) (j := 2) (by decide +kernel) rfl rfl <| z_ireturn (by decide +kernel) ⟨_, rfl, rfl⟩ h))))
set_option maxRecDepth 20000 in
theorem e_X10_readTask {G : Gx} {Q : Rv → Zm → Prop} {Z : Zm} {t : Nat} {b : Nat} (ht : atText Z t) (hb : atBook Z b) (h : (ZM G 3 m_X10_readNumber [.ref t] Z (zKc G 4 m_X10_readTask 9 [some (.ref t), some (.ref b), some (iv (zI Z t 2)), none, none, none] [] Q))) : ZM G 4 m_X10_readTask [.ref t, .ref b] Z Q := ZM.of [some (.ref t), some (.ref b), none, none, none, none] rfl <| z_aload_n (pc' := 1) (j := 0) (by decide +kernel) rfl rfl <| z_getI (pc' := 4) (idx := 20) (ci := 10) (f := 2) (by decide +kernel) f_RX10_20 rfl ht.o.1 ht.o.2 rfl <| z_istore_n (pc' := 5) (j := 2) (ls' := [some (.ref t), some (.ref b), some (iv (zI Z t 2)), none, none, none]) (by decide +kernel) (by decide) rfl rfl <| z_aload_n (pc' := 6) (j := 0) (by decide +kernel) rfl rfl <| z_callV (pc' := 9) (idx := 31) (mj := m_X10_readNumber) (av := []) (d' := 3) (by decide +kernel) rfl k_X10_readNumber l_RX10_31 rfl (by omega) (am_le rfl) rfl (am_le rfl) ht.o.1 ht.o.2 rfl h
set_option maxRecDepth 20000 in
theorem b_X10_readTask_9 {G : Gx} {Q : Rv → Zm → Prop} {Z : Zm} {t : Nat} {b : Nat} {v2 : Int} {s0 : Int} (ht : atText Z t) (hb : atBook Z b) (h : ((R32 s0) ∧ (if s0 < 1 then (Q (.inl (some (iv v2))) Z) else ((if 60 < s0 then (Q (.inl (some (iv v2))) Z) else ((R32 (zI Z b 3)) ∧ (if (zI Z b 3) < 20 then (ZM G 3 m_X0_addTask [.ref b, iv s0] Z (zKc G 4 m_X10_readTask 37 [some (.ref t), some (.ref b), none, none, none, none] [] Q)) else (Q (.inl (some (iv v2))) Z)))))))) : ZP G 4 m_X10_readTask 9 [some (.ref t), some (.ref b), some (iv v2), none, none, none] [iv s0] Z Q := z_istore_n (pc' := 10) (j := 3) (ls' := [some (.ref t), some (.ref b), some (iv v2), some (iv s0), none, none]) (by decide +kernel) (by decide) rfl rfl <| z_iload_n (pc' := 11) (j := 3) (by decide +kernel) rfl rfl <| z_iconst (pc' := 12) (n := 1) (by decide +kernel) rfl <| h.elim fun c1 h => z_icmp_lt (pc' := 15) (tgt := 30) (off := 18) (by decide +kernel) (by decide) rfl c1 (by decide : R32 1) (am_ite h (fun h => z_iload_n (pc' := 31) (j := 2) (by decide +kernel) rfl rfl <| z_ireturn (by decide +kernel) ⟨_, rfl, rfl⟩ h) (fun h => z_iload_n (pc' := 16) (j := 3) (by decide +kernel) rfl rfl <| z_bipush (pc' := 18) (n := 60) (by decide +kernel) (by decide) rfl <| z_icmp_gt (pc' := 21) (tgt := 30) (off := 12) (by decide +kernel) (by decide) rfl c1 (by decide : R32 60) (am_ite h (fun h => z_iload_n (pc' := 31) (j := 2) (by decide +kernel) rfl rfl <| z_ireturn (by decide +kernel) ⟨_, rfl, rfl⟩ h) (fun h => z_aload_n (pc' := 22) (j := 1) (by decide +kernel) rfl rfl <| z_getI (pc' := 25) (idx := 35) (ci := 0) (f := 3) (by decide +kernel) f_RX10_35 rfl hb.o.1 hb.o.2 rfl <| z_bipush (pc' := 27) (n := 20) (by decide +kernel) (by decide) rfl <| h.elim fun c2 h => z_icmp_lt (pc' := 30) (tgt := 32) (off := 5) (by decide +kernel) (by decide) rfl c2 (by decide : R32 20) (am_ite h (fun h => z_aload_n (pc' := 33) (j := 1) (by decide +kernel) rfl rfl <| z_iload_n (pc' := 34) (j := 3) (by decide +kernel) rfl rfl <| z_callV (pc' := 37) (idx := 38) (mj := m_X0_addTask) (av := [iv s0]) (d' := 3) (by decide +kernel) rfl k_X0_addTask l_RX10_38 rfl (by omega) (am_le rfl) rfl (am_le rfl) hb.o.1 hb.o.2 rfl (ZM.mono h (zKc_wk (wk_some (wk_some (wk_none (wk_none (wk_none (wk_none wk_nil))))))))) (fun h => z_iload_n (pc' := 31) (j := 2) (by decide +kernel) rfl rfl <| z_ireturn (by decide +kernel) ⟨_, rfl, rfl⟩ h))))))
set_option maxRecDepth 20000 in
theorem b_X10_readTask_37 {G : Gx} {Q : Rv → Zm → Prop} {Z : Zm} {t : Nat} {b : Nat} {s0 : Int} (ht : atText Z t) (hb : atBook Z b) (h : (ZM G 3 m_X10_isAt [.ref t, iv 58] Z (zKc G 4 m_X10_readTask 44 [some (.ref t), some (.ref b), none, none, none, none] [] Q))) : ZP G 4 m_X10_readTask 37 [some (.ref t), some (.ref b), none, none, none, none] [iv s0] Z Q := z_pop (pc' := 38) (by decide +kernel) rfl rfl <| z_aload_n (pc' := 39) (j := 0) (by decide +kernel) rfl rfl <| z_bipush (pc' := 41) (n := 58) (by decide +kernel) (by decide) rfl <| z_callV (pc' := 44) (idx := 42) (mj := m_X10_isAt) (av := [iv 58]) (d' := 3) (by decide +kernel) rfl k_X10_isAt l_RX10_42 rfl (by omega) (am_le rfl) rfl (am_le rfl) ht.o.1 ht.o.2 rfl h
set_option maxRecDepth 20000 in
theorem b_X10_readTask_44 {G : Gx} {Q : Rv → Zm → Prop} {Z : Zm} {t : Nat} {b : Nat} {s0 : Int} (ht : atText Z t) (hb : atBook Z b) (h : ((R32 s0) ∧ (if s0 = 0 then (Q (.inl (some (iv (-1)))) Z) else (∀ Z2, Z2 = zSI Z t (zu (zI Z t) 2 ((zI Z t 2) + 1)) → ZM G 3 m_X10_readNeed [.ref t, .ref b] Z2 (zKc G 4 m_X10_readTask 64 [some (.ref t), some (.ref b), none, none, none, none] [] Q))))) : ZP G 4 m_X10_readTask 44 [some (.ref t), some (.ref b), none, none, none, none] [iv s0] Z Q := h.elim fun c1 h => z_if_ne (pc' := 47) (tgt := 49) (off := 5) (by decide +kernel) (by decide) rfl c1 (am_ite h (fun h => z_iconst (pc' := 48) (n := -1) (by decide +kernel) rfl <| z_ireturn (by decide +kernel) ⟨_, rfl, rfl⟩ h) (fun h => z_aload_n (pc' := 50) (j := 0) (by decide +kernel) rfl rfl <| z_dup (pc' := 51) (by decide +kernel) rfl rfl <| z_getI (pc' := 54) (idx := 20) (ci := 10) (f := 2) (by decide +kernel) f_RX10_20 rfl ht.o.1 ht.o.2 rfl <| z_iconst (pc' := 55) (n := 1) (by decide +kernel) rfl <| z_iadd (pc' := 56) (by decide +kernel) rfl <| z_putI (pc' := 59) (idx := 20) (ci := 10) (f := 2) (by decide +kernel) f_RX10_20 (am_nf rfl rfl) rfl rfl rfl ht.o.1 ht.o.2 rfl <| have h := h _ rfl; z_aload_n (pc' := 60) (j := 0) (by decide +kernel) rfl rfl <| z_aload_n (pc' := 61) (j := 1) (by decide +kernel) rfl rfl <| z_callV (pc' := 64) (idx := 46) (mj := m_X10_readNeed) (av := [.ref b]) (d' := 3) (by decide +kernel) rfl k_X10_readNeed l_RX10_46 rfl (by omega) (am_le rfl) rfl (am_le rfl) ht.o.1 ht.o.2 rfl h))
set_option maxRecDepth 20000 in
theorem b_X10_readTask_64 {G : Gx} {Q : Rv → Zm → Prop} {Z : Zm} {t : Nat} {b : Nat} {s0 : Int} (ht : atText Z t) (hb : atBook Z b) (h : (ZP G 4 m_X10_readTask 69 [some (.ref t), some (.ref b), none, none, some (iv s0), some (iv 0)] [] Z Q)) : ZP G 4 m_X10_readTask 64 [some (.ref t), some (.ref b), none, none, none, none] [iv s0] Z Q := z_istore (pc' := 66) (j := 4) (ls' := [some (.ref t), some (.ref b), none, none, some (iv s0), none]) (by decide +kernel) (by decide) rfl rfl <| z_iconst (pc' := 67) (n := 0) (by decide +kernel) rfl <| z_istore (pc' := 69) (j := 5) (ls' := [some (.ref t), some (.ref b), none, none, some (iv s0), some (iv 0)]) (by decide +kernel) (by decide) rfl rfl <| h
set_option maxRecDepth 20000 in
theorem b_X10_readTask_69 {G : Gx} {Q : Rv → Zm → Prop} {Z : Zm} {t : Nat} {b : Nat} {v4 : Int} {v5 : Int} (ht : atText Z t) (hb : atBook Z b) (h : ((R32 v5) ∧ (if 80 ≤ v5 then (Q (.inl (some (iv v4))) Z) else ((R32 v4) ∧ (if v4 = (-1) then (ZM G 3 m_X10_isAt [.ref t, iv 44] Z (zKc G 4 m_X10_readTask 88 [some (.ref t), some (.ref b), none, none, some (iv v4), some (iv v5)] [] Q)) else (Q (.inl (some (iv v4))) Z)))))) : ZP G 4 m_X10_readTask 69 [some (.ref t), some (.ref b), none, none, some (iv v4), some (iv v5)] [] Z Q := z_iload (pc' := 71) (j := 5) (by decide +kernel) rfl rfl <| z_bipush (pc' := 73) (n := 80) (by decide +kernel) (by decide) rfl <| h.elim fun c1 h => z_icmp_ge (pc' := 76) (tgt := 114) (off := 41) (by decide +kernel) (by decide) rfl c1 (by decide : R32 80) (am_ite h (fun h => z_iload (pc' := 116) (j := 4) (by decide +kernel) rfl rfl <| z_ireturn (by decide +kernel) ⟨_, rfl, rfl⟩ h) (fun h => z_iload (pc' := 78) (j := 4) (by decide +kernel) rfl rfl <| z_iconst (pc' := 79) (n := -1) (by decide +kernel) rfl <| h.elim fun c3 h => z_icmp_ne (pc' := 82) (tgt := 114) (off := 35) (by decide +kernel) (by decide) rfl c3 (by decide : R32 (-1)) (am_ite h (fun h => z_aload_n (pc' := 83) (j := 0) (by decide +kernel) rfl rfl <| z_bipush (pc' := 85) (n := 44) (by decide +kernel) (by decide) rfl <| z_callV (pc' := 88) (idx := 42) (mj := m_X10_isAt) (av := [iv 44]) (d' := 3) (by decide +kernel) rfl k_X10_isAt l_RX10_42 rfl (by omega) (am_le rfl) rfl (am_le rfl) ht.o.1 ht.o.2 rfl h) (fun h => z_iload (pc' := 116) (j := 4) (by decide +kernel) rfl rfl <| z_ireturn (by decide +kernel) ⟨_, rfl, rfl⟩ h))))
set_option maxRecDepth 20000 in
theorem b_X10_readTask_88 {G : Gx} {Q : Rv → Zm → Prop} {Z : Zm} {t : Nat} {b : Nat} {v4 : Int} {v5 : Int} {s0 : Int} (ht : atText Z t) (hb : atBook Z b) (h : ((R32 s0) ∧ (if s0 = 0 then (Q (.inl (some (iv v4))) Z) else (∀ Z2, Z2 = zSI Z t (zu (zI Z t) 2 ((zI Z t 2) + 1)) → ZM G 3 m_X10_readNeed [.ref t, .ref b] Z2 (zKc G 4 m_X10_readTask 106 [some (.ref t), some (.ref b), none, none, none, some (iv v5)] [] Q))))) : ZP G 4 m_X10_readTask 88 [some (.ref t), some (.ref b), none, none, some (iv v4), some (iv v5)] [iv s0] Z Q := h.elim fun c1 h => z_if_eq (pc' := 91) (tgt := 114) (off := 26) (by decide +kernel) (by decide) rfl c1 (am_ite h (fun h => z_iload (pc' := 116) (j := 4) (by decide +kernel) rfl rfl <| z_ireturn (by decide +kernel) ⟨_, rfl, rfl⟩ h) (fun h => z_aload_n (pc' := 92) (j := 0) (by decide +kernel) rfl rfl <| z_dup (pc' := 93) (by decide +kernel) rfl rfl <| z_getI (pc' := 96) (idx := 20) (ci := 10) (f := 2) (by decide +kernel) f_RX10_20 rfl ht.o.1 ht.o.2 rfl <| z_iconst (pc' := 97) (n := 1) (by decide +kernel) rfl <| z_iadd (pc' := 98) (by decide +kernel) rfl <| z_putI (pc' := 101) (idx := 20) (ci := 10) (f := 2) (by decide +kernel) f_RX10_20 (am_nf rfl rfl) rfl rfl rfl ht.o.1 ht.o.2 rfl <| have h := h _ rfl; z_aload_n (pc' := 102) (j := 0) (by decide +kernel) rfl rfl <| z_aload_n (pc' := 103) (j := 1) (by decide +kernel) rfl rfl <| z_callV (pc' := 106) (idx := 46) (mj := m_X10_readNeed) (av := [.ref b]) (d' := 3) (by decide +kernel) rfl k_X10_readNeed l_RX10_46 rfl (by omega) (am_le rfl) rfl (am_le rfl) ht.o.1 ht.o.2 rfl (ZM.mono h (zKc_wk (wk_some (wk_some (wk_none (wk_none (wk_none (wk_some wk_nil))))))))))
set_option maxRecDepth 20000 in
theorem b_X10_readTask_106 {G : Gx} {Q : Rv → Zm → Prop} {Z : Zm} {t : Nat} {b : Nat} {v5 : Int} {s0 : Int} (ht : atText Z t) (hb : atBook Z b) (h : (ZP G 4 m_X10_readTask 69 [some (.ref t), some (.ref b), none, none, some (iv s0), some (iv (v5 + 1))] [] Z Q)) : ZP G 4 m_X10_readTask 106 [some (.ref t), some (.ref b), none, none, none, some (iv v5)] [iv s0] Z Q := z_istore (pc' := 108) (j := 4) (ls' := [some (.ref t), some (.ref b), none, none, some (iv s0), some (iv v5)]) (by decide +kernel) (by decide) rfl rfl <| z_iinc (pc' := 111) (j := 5) (n := 1) (x := v5) (ls' := [some (.ref t), some (.ref b), none, none, some (iv s0), some (iv (v5 + 1))]) (by decide +kernel) rfl (by decide) rfl rfl <| z_goto (tgt := 69) (off := -42) (by decide +kernel) (by decide) <| h
set_option maxRecDepth 20000 in
theorem e_X10_readInto {G : Gx} {Q : Rv → Zm → Prop} {Z : Zm} {t : Nat} {b : Nat} (ht : atText Z t) (hb : atBook Z b) (h : (ZM G 4 m_X0_makeEmpty [.ref b] Z (zKc G 5 m_X10_readInto 4 [some (.ref t), some (.ref b), none, none] [] Q))) : ZM G 5 m_X10_readInto [.ref t, .ref b] Z Q := ZM.of [some (.ref t), some (.ref b), none, none] rfl <| z_aload_n (pc' := 1) (j := 1) (by decide +kernel) rfl rfl <| z_callV (pc' := 4) (idx := 15) (mj := m_X0_makeEmpty) (av := []) (d' := 4) (by decide +kernel) rfl k_X0_makeEmpty l_RX10_15 rfl (by omega) (am_le rfl) rfl (am_le rfl) hb.o.1 hb.o.2 rfl h
set_option maxRecDepth 20000 in
theorem b_X10_readInto_4 {G : Gx} {Q : Rv → Zm → Prop} {Z : Zm} {t : Nat} {b : Nat}  (ht : atText Z t) (hb : atBook Z b) (h : (∀ Z1, Z1 = zSI Z t (zu (zI Z t) 2 0) → ZM G 4 m_X10_readTask [.ref t, .ref b] Z1 (zKc G 5 m_X10_readInto 14 [some (.ref t), some (.ref b), none, none] [] Q))) : ZP G 5 m_X10_readInto 4 [some (.ref t), some (.ref b), none, none] [] Z Q := z_aload_n (pc' := 5) (j := 0) (by decide +kernel) rfl rfl <| z_iconst (pc' := 6) (n := 0) (by decide +kernel) rfl <| z_putI (pc' := 9) (idx := 20) (ci := 10) (f := 2) (by decide +kernel) f_RX10_20 (am_nf rfl rfl) rfl rfl rfl ht.o.1 ht.o.2 rfl <| have h := h _ rfl; z_aload_n (pc' := 10) (j := 0) (by decide +kernel) rfl rfl <| z_aload_n (pc' := 11) (j := 1) (by decide +kernel) rfl rfl <| z_callV (pc' := 14) (idx := 24) (mj := m_X10_readTask) (av := [.ref b]) (d' := 4) (by decide +kernel) rfl k_X10_readTask l_RX10_24 rfl (by omega) (am_le rfl) rfl (am_le rfl) ht.o.1 ht.o.2 rfl h
set_option maxRecDepth 20000 in
theorem b_X10_readInto_14 {G : Gx} {Q : Rv → Zm → Prop} {Z : Zm} {t : Nat} {b : Nat} {s0 : Int} (ht : atText Z t) (hb : atBook Z b) (h : (ZP G 5 m_X10_readInto 17 [some (.ref t), some (.ref b), some (iv s0), some (iv 0)] [] Z Q)) : ZP G 5 m_X10_readInto 14 [some (.ref t), some (.ref b), none, none] [iv s0] Z Q := z_istore_n (pc' := 15) (j := 2) (ls' := [some (.ref t), some (.ref b), some (iv s0), none]) (by decide +kernel) (by decide) rfl rfl <| z_iconst (pc' := 16) (n := 0) (by decide +kernel) rfl <| z_istore_n (pc' := 17) (j := 3) (ls' := [some (.ref t), some (.ref b), some (iv s0), some (iv 0)]) (by decide +kernel) (by decide) rfl rfl <| h
set_option maxRecDepth 20000 in
theorem b_X10_readInto_17 {G : Gx} {Q : Rv → Zm → Prop} {Z : Zm} {t : Nat} {b : Nat} {v2 : Int} {v3 : Int} (ht : atText Z t) (hb : atBook Z b) (h : ((R32 v3) ∧ (if 80 ≤ v3 then (Q (.inl (some (iv v2))) Z) else ((R32 v2) ∧ (if v2 = (-1) then ((R32 (zI Z t 2)) ∧ (R32 (zI Z t 1)) ∧ (if (zI Z t 1) ≤ (zI Z t 2) then (Q (.inl (some (iv v2))) Z) else ((zIx (zI Z t 2) 80) ∧ (R32 (zI Z (t + 1) (zI Z t 2).toNat)) ∧ (if (zI Z (t + 1) (zI Z t 2).toNat) = 59 then (∀ Z7, Z7 = zSI Z t (zu (zI Z t) 2 ((zI Z t 2) + 1)) → ZM G 4 m_X10_readTask [.ref t, .ref b] Z7 (zKc G 5 m_X10_readInto 73 [some (.ref t), some (.ref b), none, some (iv v3)] [] Q)) else (Q (.inl (some (iv (zI Z t 2)))) Z))))) else (Q (.inl (some (iv v2))) Z)))))) : ZP G 5 m_X10_readInto 17 [some (.ref t), some (.ref b), some (iv v2), some (iv v3)] [] Z Q := z_iload_n (pc' := 18) (j := 3) (by decide +kernel) rfl rfl <| z_bipush (pc' := 20) (n := 80) (by decide +kernel) (by decide) rfl <| h.elim fun c1 h => z_icmp_ge (pc' := 23) (tgt := 80) (off := 60) (by decide +kernel) (by decide) rfl c1 (by decide : R32 80) (am_ite h (fun h => z_iload_n (pc' := 81) (j := 2) (by decide +kernel) rfl rfl <| z_ireturn (by decide +kernel) ⟨_, rfl, rfl⟩ h) (fun h => z_iload_n (pc' := 24) (j := 2) (by decide +kernel) rfl rfl <| z_iconst (pc' := 25) (n := -1) (by decide +kernel) rfl <| h.elim fun c2 h => z_icmp_ne (pc' := 28) (tgt := 80) (off := 55) (by decide +kernel) (by decide) rfl c2 (by decide : R32 (-1)) (am_ite h (fun h => z_aload_n (pc' := 29) (j := 0) (by decide +kernel) rfl rfl <| z_getI (pc' := 32) (idx := 20) (ci := 10) (f := 2) (by decide +kernel) f_RX10_20 rfl ht.o.1 ht.o.2 rfl <| z_aload_n (pc' := 33) (j := 0) (by decide +kernel) rfl rfl <| z_getI (pc' := 36) (idx := 28) (ci := 10) (f := 1) (by decide +kernel) f_RX10_28 rfl ht.o.1 ht.o.2 rfl <| h.elim fun c3 h => h.elim fun c4 h => z_icmp_ge (pc' := 39) (tgt := 80) (off := 44) (by decide +kernel) (by decide) rfl c3 c4 (am_ite h (fun h => z_iload_n (pc' := 81) (j := 2) (by decide +kernel) rfl rfl <| z_ireturn (by decide +kernel) ⟨_, rfl, rfl⟩ h) (fun h => z_aload_n (pc' := 40) (j := 0) (by decide +kernel) rfl rfl <| z_getR (pc' := 43) (idx := 9) (ci := 10) (f := 0) (by decide +kernel) f_RX10_9 rfl ht.o.1 ht.o.2 ht.r0 rfl <| z_aload_n (pc' := 44) (j := 0) (by decide +kernel) rfl rfl <| z_getI (pc' := 47) (idx := 20) (ci := 10) (f := 2) (by decide +kernel) f_RX10_20 rfl ht.o.1 ht.o.2 rfl <| h.elim fun c5 h => z_caload (pc' := 48) (by decide +kernel) ht.a0 c5 rfl <| z_bipush (pc' := 50) (n := 59) (by decide +kernel) (by decide) rfl <| h.elim fun c6 h => z_icmp_eq (pc' := 53) (tgt := 58) (off := 8) (by decide +kernel) (by decide) rfl c6 (by decide : R32 59) (am_ite h (fun h => z_aload_n (pc' := 59) (j := 0) (by decide +kernel) rfl rfl <| z_dup (pc' := 60) (by decide +kernel) rfl rfl <| z_getI (pc' := 63) (idx := 20) (ci := 10) (f := 2) (by decide +kernel) f_RX10_20 rfl ht.o.1 ht.o.2 rfl <| z_iconst (pc' := 64) (n := 1) (by decide +kernel) rfl <| z_iadd (pc' := 65) (by decide +kernel) rfl <| z_putI (pc' := 68) (idx := 20) (ci := 10) (f := 2) (by decide +kernel) f_RX10_20 (am_nf rfl rfl) rfl rfl rfl ht.o.1 ht.o.2 rfl <| have h := h _ rfl; z_aload_n (pc' := 69) (j := 0) (by decide +kernel) rfl rfl <| z_aload_n (pc' := 70) (j := 1) (by decide +kernel) rfl rfl <| z_callV (pc' := 73) (idx := 24) (mj := m_X10_readTask) (av := [.ref b]) (d' := 4) (by decide +kernel) rfl k_X10_readTask l_RX10_24 rfl (by omega) (am_le rfl) rfl (am_le rfl) ht.o.1 ht.o.2 rfl (ZM.mono h (zKc_wk (wk_some (wk_some (wk_none (wk_some wk_nil))))))) (fun h => z_aload_n (pc' := 54) (j := 0) (by decide +kernel) rfl rfl <| z_getI (pc' := 57) (idx := 20) (ci := 10) (f := 2) (by decide +kernel) f_RX10_20 rfl ht.o.1 ht.o.2 rfl <| z_ireturn (by decide +kernel) ⟨_, rfl, rfl⟩ h))))) (fun h => z_iload_n (pc' := 81) (j := 2) (by decide +kernel) rfl rfl <| z_ireturn (by decide +kernel) ⟨_, rfl, rfl⟩ h))))
set_option maxRecDepth 20000 in
theorem b_X10_readInto_73 {G : Gx} {Q : Rv → Zm → Prop} {Z : Zm} {t : Nat} {b : Nat} {v3 : Int} {s0 : Int} (ht : atText Z t) (hb : atBook Z b) (h : (ZP G 5 m_X10_readInto 17 [some (.ref t), some (.ref b), some (iv s0), some (iv (v3 + 1))] [] Z Q)) : ZP G 5 m_X10_readInto 73 [some (.ref t), some (.ref b), none, some (iv v3)] [iv s0] Z Q := z_istore_n (pc' := 74) (j := 2) (ls' := [some (.ref t), some (.ref b), some (iv s0), some (iv v3)]) (by decide +kernel) (by decide) rfl rfl <| z_iinc (pc' := 77) (j := 3) (n := 1) (x := v3) (ls' := [some (.ref t), some (.ref b), some (iv s0), some (iv (v3 + 1))]) (by decide +kernel) rfl (by decide) rfl rfl <| z_goto (tgt := 17) (off := -60) (by decide +kernel) (by decide) <| h
/-! ===== how a text is read ===== -/
def rdN (n : Nat) (x : Nat → Int) : Nat → Nat → Int → Int × Nat
  | 0, p, v => (v, p)
  | m + 1, p, v => if p < n ∧ 48 ≤ x p ∧ x p ≤ 57 then rdN n x m (p + 1) (min 1000 (v * 10 + x p - 48)) else (v, p)
theorem rdN_r {n : Nat} {x : Nat → Int} : ∀ (m p : Nat) (v : Int), 0 ≤ v → v ≤ 1000 → p ≤ n → (0 ≤ (rdN n x m p v).1 ∧ (rdN n x m p v).1 ≤ 1000) ∧ p ≤ (rdN n x m p v).2 ∧ (rdN n x m p v).2 ≤ n := by
  intro m
  induction m with
  | zero => exact fun p v h0 h1 h2 => ⟨⟨h0, h1⟩, Nat.le_refl _, h2⟩
  | succ m ih =>
    intro p v h0 h1 h2
    show (0 ≤ (if p < n ∧ 48 ≤ x p ∧ x p ≤ 57 then rdN n x m (p + 1) (min 1000 (v * 10 + x p - 48)) else (v, p)).1 ∧ (if p < n ∧ 48 ≤ x p ∧ x p ≤ 57 then rdN n x m (p + 1) (min 1000 (v * 10 + x p - 48)) else (v, p)).1 ≤ 1000) ∧ p ≤ (if p < n ∧ 48 ≤ x p ∧ x p ≤ 57 then rdN n x m (p + 1) (min 1000 (v * 10 + x p - 48)) else (v, p)).2 ∧ (if p < n ∧ 48 ≤ x p ∧ x p ≤ 57 then rdN n x m (p + 1) (min 1000 (v * 10 + x p - 48)) else (v, p)).2 ≤ n
    by_cases c : p < n ∧ 48 ≤ x p ∧ x p ≤ 57
    · rw [if_pos c]
      have := ih (p + 1) (min 1000 (v * 10 + x p - 48)) (by omega) (by omega) (by omega)
      omega
    · rw [if_neg c]
      exact ⟨⟨h0, h1⟩, Nat.le_refl _, h2⟩
/-- the number at p, and where it ends -/
def nmV (n : Nat) (x : Nat → Int) (p : Nat) : Int := (rdN n x (n - p) p 0).1
def nmE (n : Nat) (x : Nat → Int) (p : Nat) : Nat := (rdN n x (n - p) p 0).2
theorem nmv_r {n : Nat} {x : Nat → Int} {p : Nat} (h : p ≤ n) : (0 ≤ nmV n x p ∧ nmV n x p ≤ 1000) ∧ p ≤ nmE n x p ∧ nmE n x p ≤ n := rdN_r (n - p) p 0 (by omega) (by omega) h
theorem rdN_st {n : Nat} {x : Nat → Int} {m p : Nat} {v : Int} (h : p < n ∧ 48 ≤ x p ∧ x p ≤ 57) : rdN n x (m + 1) p v = rdN n x m (p + 1) (min 1000 (v * 10 + x p - 48)) := if_pos h
theorem rdN_no {n : Nat} {x : Nat → Int} {m p : Nat} {v : Int} (h : ¬ (p < n ∧ 48 ≤ x p ∧ x p ≤ 57)) : rdN n x m p v = (v, p) := by
  cases m with
  | zero => rfl
  | succ m => exact if_neg h
theorem nm_no {n : Nat} {x : Nat → Int} {p : Nat} (h : ¬ (p < n ∧ 48 ≤ x p ∧ x p ≤ 57)) : nmE n x p = p := by
  unfold nmE
  rw [rdN_no h]
theorem nm_yes {n : Nat} {x : Nat → Int} {p : Nat} (h : p < n ∧ 48 ≤ x p ∧ x p ≤ 57) : p < nmE n x p := by
  unfold nmE
  rw [show n - p = (n - p - 1) + 1 by omega, rdN_st h]
  have := (rdN_r (n := n) (x := x) (n - p - 1) (p + 1) (min 1000 (0 * 10 + x p - 48)) (by omega) (by omega) (by omega)).2
  omega
/-- a need, behind ':' or ','; the fault (-1: none), the book, the place -/
noncomputable def pNeed (n : Nat) (x : Nat → Int) (k : Bk) (p : Nat) : Int × Bk × Nat :=
  cIf (nmE n x p = p ∨ (kN k : Int) - 1 ≤ nmV n x p ∨ hasB k (nmV n x p) ((kN k : Int) - 1) = 1) ((p : Int), k, p)
    (cIf (nmE n x p < n ∧ x (nmE n x p) = 43)
      (cIf (nmE n x (nmE n x p + 1) = nmE n x p + 1 ∨ 30 < nmV n x (nmE n x p + 1)) (((nmE n x p + 1 : Nat) : Int), k, p) (-1, kPut k (nmV n x p).toNat (kN k - 1) (nmV n x (nmE n x p + 1)), nmE n x (nmE n x p + 1)))
      (-1, kPut k (nmV n x p).toNat (kN k - 1) 0, nmE n x p))
noncomputable def pNeeds (n : Nat) (x : Nat → Int) : Nat → Int × Bk × Nat → Int × Bk × Nat
  | 0, a => a
  | m + 1, a => cIf (a.1 = -1 ∧ a.2.2 < n ∧ x a.2.2 = 44) (pNeeds n x m (pNeed n x a.2.1 (a.2.2 + 1))) a
noncomputable def pTask (n : Nat) (x : Nat → Int) (k : Bk) (p : Nat) : Int × Bk × Nat :=
  cIf (nmE n x p = p ∨ nmV n x p < 1 ∨ 60 < nmV n x p ∨ 20 ≤ kN k) ((p : Int), k, p)
    (cIf (nmE n x p < n ∧ x (nmE n x p) = 58) (pNeeds n x 80 (pNeed n x (kAdd k (nmV n x p)) (nmE n x p + 1))) (-1, kAdd k (nmV n x p), nmE n x p))
noncomputable def pTasks (n : Nat) (x : Nat → Int) : Nat → Int × Bk × Nat → Int × Bk × Nat
  | 0, a => a
  | m + 1, a => cIf (a.1 = -1 ∧ a.2.2 < n) (cIf (x a.2.2 = 59) (pTasks n x m (pTask n x a.2.1 (a.2.2 + 1))) ((a.2.2 : Int), a.2.1, a.2.2)) a
noncomputable def pText (n : Nat) (x : Nat → Int) : Int × Bk × Nat := pTasks n x 80 (pTask n x k0 0)
/-- what holds of a book that is read -/
def pOk (k : Bk) (p : Nat) : Prop := kN k ≤ 20 ∧ 2 * kM k + kN k ≤ p + 1 ∧ (∀ t, t < kN k → (1 ≤ kF k 0 t ∧ kF k 0 t ≤ 60) ∧ (∀ r, 0 < r → kF k r t = if r = 2 then -1 else 0)) ∧ (∀ j, j < kM k → kE k j < kL k j ∧ kL k j < kN k ∧ 0 ≤ kG k j ∧ kG k j ≤ 30) ∧ ∀ i j, i < kM k → j < kM k → kE k i = kE k j → kL k i = kL k j → i = j
theorem pOk.k {k : Bk} {p : Nat} (h : pOk k p) (hp : p ≤ 80) : kOk k := by
  obtain ⟨h1, h2, h3, h4, h5⟩ := h
  refine ⟨⟨h1, by omega⟩, fun t ht => ?_, fun j hj => ?_, h5, fun t => t, fun j hj => (h4 j hj).1⟩
  · obtain ⟨a, b⟩ := h3 t ht
    have b1 : kF k 1 t = 0 := b 1 (by omega)
    have b2 : kF k 2 t = -1 := b 2 (by omega)
    have b3 : kF k 3 t = 0 := b 3 (by omega)
    have b4 : kF k 4 t = 0 := b 4 (by omega)
    have b5 : kF k 5 t = 0 := b 5 (by omega)
    have b6 : kF k 6 t = 0 := b 6 (by omega)
    have b7 : kF k 7 t = 0 := b 7 (by omega)
    have b8 : kF k 8 t = 0 := b 8 (by omega)
    have b9 : kF k 9 t = 0 := b 9 (by omega)
    have b10 : kF k 10 t = 0 := b 10 (by omega)
    have b11 : kF k 11 t = 0 := b 11 (by omega)
    rw [b1, b2, b3, b4, b5, b6, b7, b8, b9, b10, b11]
    omega
  · obtain ⟨a1, a2, a3, a4⟩ := h4 j hj
    exact ⟨by omega, a2, a3, a4⟩
theorem pOk.put {k : Bk} {p q v : Nat} {g : Int} (h : pOk k p) (hv : (v : Int) < (kN k : Int) - 1) (hb : ¬ hasB k (v : Int) ((kN k : Int) - 1) = 1) (hg : 0 ≤ g ∧ g ≤ 30) (hq : p + 2 ≤ q) : pOk (kPut k v (kN k - 1) g) q := by
  obtain ⟨h1, h2, h3, h4, h5⟩ := h
  have hno : ¬ hasN k (v : Int) ((kN k : Int) - 1) := fun g => hb (hasB_p g)
  have e1 : ∀ j, kE (kPut k v (kN k - 1) g) j = if j = kM k then v else kE k j := fun _ => rfl
  have e2 : ∀ j, kL (kPut k v (kN k - 1) g) j = if j = kM k then kN k - 1 else kL k j := fun _ => rfl
  have e3 : ∀ j, kG (kPut k v (kN k - 1) g) j = if j = kM k then g else kG k j := fun _ => rfl
  have eM : kM (kPut k v (kN k - 1) g) = kM k + 1 := rfl
  have eN : kN (kPut k v (kN k - 1) g) = kN k := rfl
  refine ⟨h1, by rw [eM, eN]; omega, h3, fun j hj => ?_, fun i j hi hj g1 g2 => ?_⟩
  · rw [e1, e2, e3, eN]
    rw [eM] at hj
    by_cases c : j = kM k
    · rw [if_pos c, if_pos c, if_pos c]
      omega
    · rw [if_neg c, if_neg c, if_neg c]
      exact h4 j (by omega)
  · rw [eM] at hi hj
    rw [e1, e1] at g1
    rw [e2, e2] at g2
    by_cases c : i = kM k
    · by_cases d : j = kM k
      · omega
      · rw [if_pos c, if_neg d] at g1 g2
        exact absurd ⟨j, by omega, by omega, by omega⟩ hno
    · by_cases d : j = kM k
      · rw [if_neg c, if_pos d] at g1 g2
        exact absurd ⟨i, by omega, by omega, by omega⟩ hno
      · rw [if_neg c, if_neg d] at g1 g2
        exact h5 i j (by omega) (by omega) g1 g2
theorem pOk.add {k : Bk} {p q : Nat} {x : Int} (h : pOk k p) (hn : kN k < 20) (hx : 1 ≤ x ∧ x ≤ 60) (hq : p + 1 ≤ q) : pOk (kAdd k x) q := by
  obtain ⟨h1, h2, h3, h4, h5⟩ := h
  have eN : kN (kAdd k x) = kN k + 1 := rfl
  have eF : ∀ r t, kF (kAdd k x) r t = if t = kN k then (if r = 0 then x else if r = 2 then -1 else 0) else kF k r t := fun _ _ => rfl
  refine ⟨by rw [eN]; omega, by rw [eN]; show 2 * kM k + (kN k + 1) ≤ q + 1; omega, fun t ht => ?_, fun j hj => ?_, h5⟩
  · rw [eN] at ht
    simp only [eF]
    by_cases c : t = kN k
    · simp only [if_pos c]
      exact ⟨hx, fun r hr => if_neg (by omega)⟩
    · simp only [if_neg c]
      exact h3 t (by omega)
  · obtain ⟨a1, a2, a3, a4⟩ := h4 j hj
    exact ⟨a1, by rw [eN]; show kL k j < kN k + 1; omega, a3, a4⟩
theorem pOk.mono {k : Bk} {p q : Nat} (h : pOk k p) (hq : p ≤ q) : pOk k q := ⟨h.1, by have := h.2.1; omega, h.2.2⟩
/-- what a step gives -/
def pRes (n p : Nat) (a : Int × Bk × Nat) : Prop := (a.1 = -1 ∧ pOk a.2.1 a.2.2 ∧ p < a.2.2 ∧ a.2.2 ≤ n) ∨ (0 ≤ a.1 ∧ a.1 ≤ n)
theorem pNeed_r {n : Nat} {x : Nat → Int} {k : Bk} {p q : Nat} (h : pOk k q) (hq : q < p) (hp : p ≤ n) : pRes n p (pNeed n x k p) := by
  have r1 := nmv_r (x := x) hp
  unfold pNeed
  by_cases c : nmE n x p = p ∨ (kN k : Int) - 1 ≤ nmV n x p ∨ hasB k (nmV n x p) ((kN k : Int) - 1) = 1
  · rw [cIf_p c]
    exact Or.inr ⟨by show (0 : Int) ≤ (p : Int); omega, by show (p : Int) ≤ n; omega⟩
  · rw [cIf_f c]
    have ev : (((nmV n x p).toNat : Nat) : Int) = nmV n x p := by omega
    have hb : ¬ hasB k (((nmV n x p).toNat : Nat) : Int) ((kN k : Int) - 1) = 1 := by
      rw [ev]
      exact fun g => c (Or.inr (Or.inr g))
    by_cases c2 : nmE n x p < n ∧ x (nmE n x p) = 43
    · rw [cIf_p c2]
      have r2 := nmv_r (x := x) (show nmE n x p + 1 ≤ n by omega)
      by_cases c3 : nmE n x (nmE n x p + 1) = nmE n x p + 1 ∨ 30 < nmV n x (nmE n x p + 1)
      · rw [cIf_p c3]
        exact Or.inr ⟨by show (0 : Int) ≤ ((nmE n x p + 1 : Nat) : Int); omega, by show ((nmE n x p + 1 : Nat) : Int) ≤ n; omega⟩
      · rw [cIf_f c3]
        exact Or.inl ⟨rfl, h.put (q := nmE n x (nmE n x p + 1)) (by omega) hb (by omega) (by omega), by show p < nmE n x (nmE n x p + 1); omega, r2.2.2⟩
    · rw [cIf_f c2]
      exact Or.inl ⟨rfl, h.put (q := nmE n x p) (by omega) hb (by omega) (by omega), by show p < nmE n x p; omega, r1.2.2⟩
theorem pNeeds_r {n : Nat} {x : Nat → Int} : ∀ (m p : Nat) (a : Int × Bk × Nat), pRes n p a → pRes n p (pNeeds n x m a) := by
  intro m
  induction m with
  | zero => exact fun p a h => h
  | succ m ih =>
    intro p a h
    show pRes n p (cIf (a.1 = -1 ∧ a.2.2 < n ∧ x a.2.2 = 44) (pNeeds n x m (pNeed n x a.2.1 (a.2.2 + 1))) a)
    by_cases c : a.1 = -1 ∧ a.2.2 < n ∧ x a.2.2 = 44
    · rw [cIf_p c]
      rcases h with ⟨h1, h2, h3, h4⟩ | ⟨h1, h2⟩
      · refine ih p _ ?_
        rcases pNeed_r (n := n) (x := x) h2 (show a.2.2 < a.2.2 + 1 by omega) (by omega) with ⟨g1, g2, g3, g4⟩ | g
        · exact Or.inl ⟨g1, g2, by omega, g4⟩
        · exact Or.inr g
      · omega
    · rw [cIf_f c]
      exact h
theorem pTask_r {n : Nat} {x : Nat → Int} {k : Bk} {p q : Nat} (h : pOk k q) (hq : q < p ∨ (p = 0 ∧ q = 0 ∧ kN k = 0)) (hp : p ≤ n) : pRes n p (pTask n x k p) := by
  have r1 := nmv_r (x := x) hp
  unfold pTask
  by_cases c : nmE n x p = p ∨ nmV n x p < 1 ∨ 60 < nmV n x p ∨ 20 ≤ kN k
  · rw [cIf_p c]
    exact Or.inr ⟨by show (0 : Int) ≤ (p : Int); omega, by show (p : Int) ≤ n; omega⟩
  · rw [cIf_f c]
    have ha : pOk (kAdd k (nmV n x p)) (nmE n x p) := by
      exact h.add (by omega) (by omega) (by omega)
    by_cases c2 : nmE n x p < n ∧ x (nmE n x p) = 58
    · rw [cIf_p c2]
      have h9 := pNeeds_r (n := n) (x := x) 80 _ _ (pNeed_r (n := n) (x := x) ha (show nmE n x p < nmE n x p + 1 by omega) (by omega))
      rcases h9 with ⟨g1, g2, g3, g4⟩ | g
      · exact Or.inl ⟨g1, g2, by omega, g4⟩
      · exact Or.inr g
    · rw [cIf_f c2]
      exact Or.inl ⟨rfl, ha, by show p < nmE n x p; omega, r1.2.2⟩
theorem k0_p : pOk k0 0 := ⟨by decide, by decide, fun t h => absurd h (Nat.not_lt_zero _), fun t h => absurd h (Nat.not_lt_zero _), fun i _ h => absurd h (Nat.not_lt_zero _)⟩
theorem pTasks_r {n : Nat} {x : Nat → Int} : ∀ (m p : Nat) (a : Int × Bk × Nat), pRes n p a → pRes n p (pTasks n x m a) := by
  intro m
  induction m with
  | zero => exact fun p a h => h
  | succ m ih =>
    intro p a h
    show pRes n p (cIf (a.1 = -1 ∧ a.2.2 < n) (cIf (x a.2.2 = 59) (pTasks n x m (pTask n x a.2.1 (a.2.2 + 1))) ((a.2.2 : Int), a.2.1, a.2.2)) a)
    by_cases c : a.1 = -1 ∧ a.2.2 < n
    · rw [cIf_p c]
      rcases h with ⟨h1, h2, h3, h4⟩ | ⟨h1, h2⟩
      · by_cases c2 : x a.2.2 = 59
        · rw [cIf_p c2]
          refine ih p _ ?_
          rcases pTask_r (n := n) (x := x) h2 (Or.inl (show a.2.2 < a.2.2 + 1 by omega)) (by omega) with ⟨g1, g2, g3, g4⟩ | g
          · exact Or.inl ⟨g1, g2, by omega, g4⟩
          · exact Or.inr g
        · rw [cIf_f c2]
          exact Or.inr ⟨by show (0 : Int) ≤ (a.2.2 : Int); omega, by show (a.2.2 : Int) ≤ n; omega⟩
      · omega
    · rw [cIf_f c]
      exact h
theorem pText_r (n : Nat) (x : Nat → Int) : pRes n 0 (pText n x) := pTasks_r 80 0 _ (pTask_r k0_p (Or.inr ⟨rfl, rfl, rfl⟩) (Nat.zero_le _))
/-! ===== the class reads ===== -/
def cTx (Z : Zm) (t n p : Nat) (x : Nat → Int) : Prop := zI Z t 1 = (n : Int) ∧ zI Z t 2 = (p : Int) ∧ n ≤ 80 ∧ ∀ i, i < n → zI Z (t + 1) i = x i ∧ 32 ≤ x i ∧ x i ≤ 126
theorem s_isDigit {G : Gx} {Z : Zm} {t : Nat} {c : Int} (ht : atText Z t) (hc : R32 c) : ZM G 0 m_X10_isDigit [.ref t, iv c] Z (fun r Z' => r = .inl (some (iv (b2 (48 ≤ c ∧ c ≤ 57)))) ∧ Z' = Z) := by
  refine e_X10_isDigit ht ⟨hc, ?_, rfl⟩
  refine congrArg (fun v => (Sum.inl (some (iv v)) : Rv)) (b2_iff ?_)
  omega
theorem s_isAt {G : Gx} {Z : Zm} {t n p : Nat} {x : Nat → Int} {c : Int} (ht : atText Z t) (h : cTx Z t n p x) (hp : p ≤ n) (hc : R32 c) : ZM G 0 m_X10_isAt [.ref t, iv c] Z (fun r Z' => r = .inl (some (iv (b2 (p < n ∧ x p = c)))) ∧ Z' = Z) := by
  obtain ⟨h1, h2, h3, h4⟩ := h
  refine e_X10_isAt ht ?_
  rw [h1, h2, Int.toNat_natCast]
  refine ⟨by omega, fun _ => ⟨by omega, fun g => ⟨zIx_nat (by omega) (by omega), ?_, hc, trivial⟩, trivial⟩, ?_, rfl⟩
  · have := h4 p (by omega)
    omega
  · refine congrArg (fun v => (Sum.inl (some (iv v)) : Rv)) (b2_iff ?_)
    by_cases d : p < n
    · have := h4 p d
      rw [this.1]
      omega
    · omega
theorem cTx.at {Z : Zm} {t n p q : Nat} {x : Nat → Int} (h : cTx Z t n p x) : cTx (zSI Z t (zu (zI Z t) 2 (q : Int))) t n q x := by
  obtain ⟨h1, h2, h3, h4⟩ := h
  refine ⟨by rw [zI_same, zu_other (by decide)]; exact h1, by rw [zI_same, zu_same], h3, fun i hi => ?_⟩
  rw [zI_other (by omega)]
  exact h4 i hi
theorem zSI_p {Z : Zm} {t n p : Nat} {x : Nat → Int} (h : cTx Z t n p x) : zSI Z t (zu (zI Z t) 2 (p : Int)) = Z := by
  rw [← h.2.1, zu_id, zSI_id]
theorem s_readNumber {G : Gx} {Z : Zm} {t n p : Nat} {x : Nat → Int} (ht : atText Z t) (h : cTx Z t n p x) (hp : p ≤ n) : ZM G 1 m_X10_readNumber [.ref t] Z (fun r Z' => r = .inl (some (iv (if nmE n x p = p then -1 else nmV n x p))) ∧ Z' = zSI Z t (zu (zI Z t) 2 (nmE n x p : Int))) := by
  have hn80 := h.2.2.1
  have r1 := nmv_r (x := x) hp
  have fin : ∀ (q : Nat) (v : Int), v = nmV n x p → q = nmE n x p → (Sum.inl (some (iv (if ¬ ((q : Int) ≤ zI Z t 2) then v else (-1)))) : Rv) = .inl (some (iv (if nmE n x p = p then -1 else nmV n x p))) ∧ zSI Z t (zu (zI Z t) 2 (q : Int)) = zSI Z t (zu (zI Z t) 2 (nmE n x p : Int)) := by
    rintro q v rfl rfl
    refine ⟨congrArg (fun v => (Sum.inl (some (iv v)) : Rv)) ?_, rfl⟩
    rw [h.2.1]
    by_cases c : nmE n x p = p
    · rw [if_pos c, if_neg (by omega)]
    · rw [if_neg c, if_pos (by omega)]
  have key : ∀ (m q : Nat) (v : Int), q + m = n → 0 ≤ v → v ≤ 1000 → (rdN n x m q v) = (nmV n x p, nmE n x p) → ZP G 1 m_X10_readNumber 7 [some (.ref t), some (iv v), some (iv (q : Int)), none] [] Z (fun r Z' => r = .inl (some (iv (if nmE n x p = p then -1 else nmV n x p))) ∧ Z' = zSI Z t (zu (zI Z t) 2 (nmE n x p : Int))) := by
    intro m
    induction m with
    | zero =>
      intro q v hq h0 h1 hr
      refine b_X10_readNumber_7 ht ⟨by omega, by rw [h.1]; omega, ?_⟩
      rw [h.1, if_pos (by omega)]
      refine ⟨by rw [h.2.1]; omega, ?_⟩
      rintro _ rfl
      exact fin q v (congrArg Prod.fst hr) (congrArg Prod.snd hr)
    | succ m ih =>
      intro q v hq h0 h1 hr
      have hx := h.2.2.2 q (by omega)
      refine b_X10_readNumber_7 ht ⟨by omega, by rw [h.1]; omega, ?_⟩
      rw [h.1, if_neg (by omega), Int.toNat_natCast, hx.1]
      refine ⟨zIx_nat (by omega) (by omega), (s_isDigit ht (by omega)).mono ?_⟩
      rintro r W ⟨rfl, hW⟩
      obtain rfl := hW.symm
      refine b_X10_readNumber_25 ht ⟨b01_r (b2_01 _), ?_⟩
      by_cases d : 48 ≤ x q ∧ x q ≤ 57
      · have d3 : q < n ∧ 48 ≤ x q ∧ x q ≤ 57 := ⟨by omega, d.1, d.2⟩
        rw [b2_p d, if_neg (by decide), Int.toNat_natCast, hx.1]
        refine ⟨zIx_nat (by omega) (by omega), by omega, ?_⟩
        exact ih (q + 1) _ (by omega) (by omega) (by omega) (by rw [← rdN_st d3]; exact hr)
      · rw [b2_f d, if_pos rfl]
        refine ⟨by omega, by rw [h.2.1]; omega, ?_⟩
        rintro _ rfl
        rw [rdN_no (fun z => d z.2)] at hr
        exact fin q v (congrArg Prod.fst hr) (congrArg Prod.snd hr)
  refine e_X10_readNumber ht ?_
  rw [h.2.1]
  exact key (n - p) p 0 (by omega) (by omega) (by omega) rfl
