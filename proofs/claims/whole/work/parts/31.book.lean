set_option maxRecDepth 20000 in
theorem e_X0_hasTask {G : Gx} {Q : Rv → Zm → Prop} {Z : Zm} {b : Nat} {t : Int} (hb : atBook Z b) (h : ((R32 t) ∧ (¬ (t < 0) → (R32 (zI Z b 3)) ∧ True) ∧ Q (.inl (some (iv (b2 (¬ (t < 0) ∧ (¬ ((zI Z b 3) ≤ t))))))) Z)) : ZM G 0 m_X0_hasTask [.ref b, iv t] Z Q := ZM.of [some (.ref b), some (iv t)] rfl <| z_iload_n (pc' := 1) (j := 1) (by decide +kernel) rfl rfl <| h.elim fun c1 h => h.elim fun g8 h => am_use (fun k9 => z_if_lt (pc' := 4) (tgt := 16) (off := 15) (by decide +kernel) (by decide) rfl c1 (am_ite2 (fun q10 => z_iconst (pc' := 17) (n := 0) (by decide +kernel) rfl <| (am_jp (P := fun z9 => ZP G 0 m_X0_hasTask 17 [some (.ref b), some (iv t)] [iv z9] _ Q) (b2_a1 q10) k9)) (fun q10 => have h := g8 q10; z_iload_n (pc' := 5) (j := 1) (by decide +kernel) rfl rfl <| z_aload_n (pc' := 6) (j := 0) (by decide +kernel) rfl rfl <| z_getI (pc' := 9) (idx := 29) (ci := 0) (f := 3) (by decide +kernel) f_RX0_29 rfl hb.o.1 hb.o.2 rfl <| h.elim fun c2 h => am_use (fun k5 => z_icmp_ge (pc' := 12) (tgt := 16) (off := 7) (by decide +kernel) (by decide) rfl c1 c2 (am_ite2 (fun q6 => z_iconst (pc' := 17) (n := 0) (by decide +kernel) rfl <| (am_jp (P := fun z9 => ZP G 0 m_X0_hasTask 17 [some (.ref b), some (iv t)] [iv z9] _ Q) (b2_n q6) k5)) (fun q6 => z_iconst (pc' := 13) (n := 1) (by decide +kernel) rfl <| z_goto (tgt := 17) (off := 4) (by decide +kernel) (by decide) <| (am_jp (P := fun z9 => ZP G 0 m_X0_hasTask 17 [some (.ref b), some (iv t)] [iv z9] _ Q) (b2_nn q6) k5)))) <| (am_jp (P := fun z9 => ZP G 0 m_X0_hasTask 17 [some (.ref b), some (iv t)] [iv z9] _ Q) (b2_a2 q10) k9)))) <| z_ireturn (by decide +kernel) (am_rb (b2_01 _)) h
set_option maxRecDepth 20000 in
theorem e_X0_makeEmpty {G : Gx} {Q : Rv → Zm → Prop} {Z : Zm} {b : Nat} (hb : atBook Z b) (h : (∀ Z1, Z1 = zSI Z b (zu (zI Z b) 3 0) → ∀ Z2, Z2 = zSI Z1 b (zu (zI Z1 b) 4 0) → Q (.inl none) Z2)) : ZM G 0 m_X0_makeEmpty [.ref b] Z Q := ZM.of [some (.ref b)] rfl <| z_aload_n (pc' := 1) (j := 0) (by decide +kernel) rfl rfl <| z_iconst (pc' := 2) (n := 0) (by decide +kernel) rfl <| z_putI (pc' := 5) (idx := 29) (ci := 0) (f := 3) (by decide +kernel) f_RX0_29 (am_nf rfl rfl) rfl rfl rfl hb.o.1 hb.o.2 rfl <| have h := h _ rfl; z_aload_n (pc' := 6) (j := 0) (by decide +kernel) rfl rfl <| z_iconst (pc' := 7) (n := 0) (by decide +kernel) rfl <| z_putI (pc' := 10) (idx := 33) (ci := 0) (f := 4) (by decide +kernel) f_RX0_33 (am_nf rfl rfl) rfl rfl rfl hb.o.1 hb.o.2 rfl <| have h := h _ rfl; z_ret (by decide +kernel) rfl h
set_option maxRecDepth 20000 in
theorem e_X0_becomeLike {G : Gx} {Q : Rv → Zm → Prop} {Z : Zm} {b : Nat} {c : Nat} (hb : atBook Z b) (hc : atBook Z c) (h : (ZP G 1 m_X0_becomeLike 2 [some (.ref b), some (.ref c), some (iv 0)] [] Z Q)) : ZM G 1 m_X0_becomeLike [.ref b, .ref c] Z Q := ZM.of [some (.ref b), some (.ref c), none] rfl <| z_iconst (pc' := 1) (n := 0) (by decide +kernel) rfl <| z_istore_n (pc' := 2) (j := 2) (ls' := [some (.ref b), some (.ref c), some (iv 0)]) (by decide +kernel) (by decide) rfl rfl <| h
set_option maxRecDepth 20000 in
theorem b_X0_becomeLike_2 {G : Gx} {Q : Rv → Zm → Prop} {Z : Zm} {b : Nat} {c : Nat} {v2 : Int} (hb : atBook Z b) (hc : atBook Z c) (h : ((R32 v2) ∧ (if 12 ≤ v2 then (ZP G 1 m_X0_becomeLike 35 [some (.ref b), some (.ref c), some (iv 0)] [] Z Q) else ((zIx v2 12) ∧ ∀ Z4, Z4 = zSI Z (b + 2 + v2.toNat) (zcpy (zI Z (c + 2 + v2.toNat)) (zI Z (b + 2 + v2.toNat)) 0 0 20) → ZP G 1 m_X0_becomeLike 2 [some (.ref b), some (.ref c), some (iv (v2 + 1))] [] Z4 Q)))) : ZP G 1 m_X0_becomeLike 2 [some (.ref b), some (.ref c), some (iv v2)] [] Z Q := z_iload_n (pc' := 3) (j := 2) (by decide +kernel) rfl rfl <| z_bipush (pc' := 5) (n := 12) (by decide +kernel) (by decide) rfl <| h.elim fun c1 h => z_icmp_ge (pc' := 8) (tgt := 33) (off := 28) (by decide +kernel) (by decide) rfl c1 (by decide : R32 12) (am_ite h (fun h => z_iconst (pc' := 34) (n := 0) (by decide +kernel) rfl <| z_istore_n (pc' := 35) (j := 2) (ls' := [some (.ref b), some (.ref c), some (iv 0)]) (by decide +kernel) (by decide) rfl rfl <| h) (fun h => z_aload_n (pc' := 9) (j := 1) (by decide +kernel) rfl rfl <| z_getR (pc' := 12) (idx := 11) (ci := 0) (f := 0) (by decide +kernel) f_RX0_11 rfl hc.o.1 hc.o.2 hc.r0 rfl <| z_iload_n (pc' := 13) (j := 2) (by decide +kernel) rfl rfl <| h.elim fun c3 h => z_aaload120 (pc' := 14) (by decide +kernel) hc.a0 c3 (hc.e0 _ c3.n) rfl <| z_iconst (pc' := 15) (n := 0) (by decide +kernel) rfl <| z_aload_n (pc' := 16) (j := 0) (by decide +kernel) rfl rfl <| z_getR (pc' := 19) (idx := 11) (ci := 0) (f := 0) (by decide +kernel) f_RX0_11 rfl hb.o.1 hb.o.2 hb.r0 rfl <| z_iload_n (pc' := 20) (j := 2) (by decide +kernel) rfl rfl <| z_aaload120 (pc' := 21) (by decide +kernel) hb.a0 c3 (hb.e0 _ c3.n) rfl <| z_iconst (pc' := 22) (n := 0) (by decide +kernel) rfl <| z_bipush (pc' := 24) (n := 20) (by decide +kernel) (by decide) rfl <| z_copy (pc' := 27) (idx := 23) (by decide +kernel) (amM3 69 rfl (by decide +kernel)) (amM3 71 rfl (by decide +kernel)) (amM3 70 rfl (by decide +kernel)) (amM1 20 rfl (by decide +kernel)) (by omega) (am_le rfl) (hc.x0 _ c3.n) (hb.x0 _ c3.n) (by decide) rfl <| have h := h _ rfl; z_iinc (pc' := 30) (j := 2) (n := 1) (x := v2) (ls' := [some (.ref b), some (.ref c), some (iv (v2 + 1))]) (by decide +kernel) rfl (by decide) rfl rfl <| z_goto (tgt := 2) (off := -28) (by decide +kernel) (by decide) <| h))
set_option maxRecDepth 20000 in
theorem b_X0_becomeLike_35 {G : Gx} {Q : Rv → Zm → Prop} {Z : Zm} {b : Nat} {c : Nat} {v2 : Int} (hb : atBook Z b) (hc : atBook Z c) (h : ((R32 v2) ∧ (if 3 ≤ v2 then (∀ Z3, Z3 = zSI Z b (zu (zI Z b) 3 (zI Z c 3)) → ∀ Z4, Z4 = zSI Z3 b (zu (zI Z3 b) 4 (zI Z3 c 4)) → Q (.inl none) Z4) else ((zIx v2 3) ∧ ∀ Z6, Z6 = zSI Z (b + 15 + v2.toNat) (zcpy (zI Z (c + 15 + v2.toNat)) (zI Z (b + 15 + v2.toNat)) 0 0 50) → ZP G 1 m_X0_becomeLike 35 [some (.ref b), some (.ref c), some (iv (v2 + 1))] [] Z6 Q)))) : ZP G 1 m_X0_becomeLike 35 [some (.ref b), some (.ref c), some (iv v2)] [] Z Q := z_iload_n (pc' := 36) (j := 2) (by decide +kernel) rfl rfl <| z_iconst (pc' := 37) (n := 3) (by decide +kernel) rfl <| h.elim fun c1 h => z_icmp_ge (pc' := 40) (tgt := 65) (off := 28) (by decide +kernel) (by decide) rfl c1 (by decide : R32 3) (am_ite h (fun h => z_aload_n (pc' := 66) (j := 0) (by decide +kernel) rfl rfl <| z_aload_n (pc' := 67) (j := 1) (by decide +kernel) rfl rfl <| z_getI (pc' := 70) (idx := 29) (ci := 0) (f := 3) (by decide +kernel) f_RX0_29 rfl hc.o.1 hc.o.2 rfl <| z_putI (pc' := 73) (idx := 29) (ci := 0) (f := 3) (by decide +kernel) f_RX0_29 (am_nf rfl rfl) rfl rfl rfl hb.o.1 hb.o.2 rfl <| have h := h _ rfl; z_aload_n (pc' := 74) (j := 0) (by decide +kernel) rfl rfl <| z_aload_n (pc' := 75) (j := 1) (by decide +kernel) rfl rfl <| z_getI (pc' := 78) (idx := 33) (ci := 0) (f := 4) (by decide +kernel) f_RX0_33 rfl hc.o.1 hc.o.2 rfl <| z_putI (pc' := 81) (idx := 33) (ci := 0) (f := 4) (by decide +kernel) f_RX0_33 (am_nf rfl rfl) rfl rfl rfl hb.o.1 hb.o.2 rfl <| have h := h _ rfl; z_ret (by decide +kernel) rfl h) (fun h => z_aload_n (pc' := 41) (j := 1) (by decide +kernel) rfl rfl <| z_getR (pc' := 44) (idx := 16) (ci := 0) (f := 1) (by decide +kernel) f_RX0_16 rfl hc.o.1 hc.o.2 hc.r1 rfl <| z_iload_n (pc' := 45) (j := 2) (by decide +kernel) rfl rfl <| h.elim fun c5 h => z_aaload120 (pc' := 46) (by decide +kernel) hc.a1 c5 (hc.e1 _ c5.n) rfl <| z_iconst (pc' := 47) (n := 0) (by decide +kernel) rfl <| z_aload_n (pc' := 48) (j := 0) (by decide +kernel) rfl rfl <| z_getR (pc' := 51) (idx := 16) (ci := 0) (f := 1) (by decide +kernel) f_RX0_16 rfl hb.o.1 hb.o.2 hb.r1 rfl <| z_iload_n (pc' := 52) (j := 2) (by decide +kernel) rfl rfl <| z_aaload120 (pc' := 53) (by decide +kernel) hb.a1 c5 (hb.e1 _ c5.n) rfl <| z_iconst (pc' := 54) (n := 0) (by decide +kernel) rfl <| z_bipush (pc' := 56) (n := 50) (by decide +kernel) (by decide) rfl <| z_copy (pc' := 59) (idx := 23) (by decide +kernel) (amM3 69 rfl (by decide +kernel)) (amM3 71 rfl (by decide +kernel)) (amM3 70 rfl (by decide +kernel)) (amM1 20 rfl (by decide +kernel)) (by omega) (am_le rfl) (hc.x1 _ c5.n) (hb.x1 _ c5.n) (by decide) rfl <| have h := h _ rfl; z_iinc (pc' := 62) (j := 2) (n := 1) (x := v2) (ls' := [some (.ref b), some (.ref c), some (iv (v2 + 1))]) (by decide +kernel) rfl (by decide) rfl rfl <| z_goto (tgt := 35) (off := -27) (by decide +kernel) (by decide) <| h))
set_option maxRecDepth 20000 in
theorem e_X0_addTask {G : Gx} {Q : Rv → Zm → Prop} {Z : Zm} {b : Nat} {x : Int} (hb : atBook Z b) (h : ((R32 (zI Z b 3)) ∧ (if 20 ≤ (zI Z b 3) then (Q (.inl (some (iv (zI Z b 3)))) Z) else (ZP G 0 m_X0_addTask 13 [some (.ref b), some (iv x), some (iv (zI Z b 3)), some (iv 0)] [] Z Q)))) : ZM G 0 m_X0_addTask [.ref b, iv x] Z Q := ZM.of [some (.ref b), some (iv x), none, none] rfl <| z_aload_n (pc' := 1) (j := 0) (by decide +kernel) rfl rfl <| z_getI (pc' := 4) (idx := 29) (ci := 0) (f := 3) (by decide +kernel) f_RX0_29 rfl hb.o.1 hb.o.2 rfl <| z_istore_n (pc' := 5) (j := 2) (ls' := [some (.ref b), some (iv x), some (iv (zI Z b 3)), none]) (by decide +kernel) (by decide) rfl rfl <| z_iload_n (pc' := 6) (j := 2) (by decide +kernel) rfl rfl <| z_bipush (pc' := 8) (n := 20) (by decide +kernel) (by decide) rfl <| h.elim fun c1 h => z_icmp_ge (pc' := 11) (tgt := 62) (off := 54) (by decide +kernel) (by decide) rfl c1 (by decide : R32 20) (am_ite h (fun h => z_iload_n (pc' := 63) (j := 2) (by decide +kernel) rfl rfl <| z_ireturn (by decide +kernel) ⟨_, rfl, rfl⟩ h) (fun h => z_iconst (pc' := 12) (n := 0) (by decide +kernel) rfl <| z_istore_n (pc' := 13) (j := 3) (ls' := [some (.ref b), some (iv x), some (iv (zI Z b 3)), some (iv 0)]) (by decide +kernel) (by decide) rfl rfl <| h))
set_option maxRecDepth 20000 in
theorem b_X0_addTask_13 {G : Gx} {Q : Rv → Zm → Prop} {Z : Zm} {b : Nat} {x : Int} {v2 : Int} {v3 : Int} (hb : atBook Z b) (h : ((R32 v3) ∧ (if 12 ≤ v3 then ((zIx v2 20) ∧ ∀ Z5, Z5 = zSI Z (b + 2) (zu (zI Z (b + 2)) v2.toNat x) → ∀ Z6, Z6 = zSI Z5 (b + 4) (zu (zI Z5 (b + 4)) v2.toNat (-1)) → ∀ Z7, Z7 = zSI Z6 b (zu (zI Z6 b) 3 ((zI Z6 b 3) + 1)) → Q (.inl (some (iv v2))) Z7) else ((zIx v3 12) ∧ (zIx v2 20) ∧ ∀ Z10, Z10 = zSI Z (b + 2 + v3.toNat) (zu (zI Z (b + 2 + v3.toNat)) v2.toNat 0) → ZP G 0 m_X0_addTask 13 [some (.ref b), some (iv x), some (iv v2), some (iv (v3 + 1))] [] Z10 Q)))) : ZP G 0 m_X0_addTask 13 [some (.ref b), some (iv x), some (iv v2), some (iv v3)] [] Z Q := z_iload_n (pc' := 14) (j := 3) (by decide +kernel) rfl rfl <| z_bipush (pc' := 16) (n := 12) (by decide +kernel) (by decide) rfl <| h.elim fun c1 h => z_icmp_ge (pc' := 19) (tgt := 34) (off := 18) (by decide +kernel) (by decide) rfl c1 (by decide : R32 12) (am_ite h (fun h => z_aload_n (pc' := 35) (j := 0) (by decide +kernel) rfl rfl <| z_getR (pc' := 38) (idx := 11) (ci := 0) (f := 0) (by decide +kernel) f_RX0_11 rfl hb.o.1 hb.o.2 hb.r0 rfl <| z_iconst (pc' := 39) (n := 0) (by decide +kernel) rfl <| z_aaload120 (pc' := 40) (by decide +kernel) hb.a0 ⟨by decide, by decide, by decide⟩ (hb.e0 0 (by decide)) rfl <| z_iload_n (pc' := 41) (j := 2) (by decide +kernel) rfl rfl <| z_iload_n (pc' := 42) (j := 1) (by decide +kernel) rfl rfl <| h.elim fun c4 h => z_iastore (pc' := 43) (by decide +kernel) (hb.x0 0 (by decide)) c4 rfl <| have h := h _ rfl; z_aload_n (pc' := 44) (j := 0) (by decide +kernel) rfl rfl <| z_getR (pc' := 47) (idx := 11) (ci := 0) (f := 0) (by decide +kernel) f_RX0_11 rfl hb.o.1 hb.o.2 hb.r0 rfl <| z_iconst (pc' := 48) (n := 2) (by decide +kernel) rfl <| z_aaload120 (pc' := 49) (by decide +kernel) hb.a0 ⟨by decide, by decide, by decide⟩ (hb.e0 2 (by decide)) rfl <| z_iload_n (pc' := 50) (j := 2) (by decide +kernel) rfl rfl <| z_iconst (pc' := 51) (n := -1) (by decide +kernel) rfl <| z_iastore (pc' := 52) (by decide +kernel) (hb.x0 2 (by decide)) c4 rfl <| have h := h _ rfl; z_aload_n (pc' := 53) (j := 0) (by decide +kernel) rfl rfl <| z_dup (pc' := 54) (by decide +kernel) rfl rfl <| z_getI (pc' := 57) (idx := 29) (ci := 0) (f := 3) (by decide +kernel) f_RX0_29 rfl hb.o.1 hb.o.2 rfl <| z_iconst (pc' := 58) (n := 1) (by decide +kernel) rfl <| z_iadd (pc' := 59) (by decide +kernel) rfl <| z_putI (pc' := 62) (idx := 29) (ci := 0) (f := 3) (by decide +kernel) f_RX0_29 (am_nf rfl rfl) rfl rfl rfl hb.o.1 hb.o.2 rfl <| have h := h _ rfl; z_iload_n (pc' := 63) (j := 2) (by decide +kernel) rfl rfl <| z_ireturn (by decide +kernel) ⟨_, rfl, rfl⟩ h) (fun h => z_aload_n (pc' := 20) (j := 0) (by decide +kernel) rfl rfl <| z_getR (pc' := 23) (idx := 11) (ci := 0) (f := 0) (by decide +kernel) f_RX0_11 rfl hb.o.1 hb.o.2 hb.r0 rfl <| z_iload_n (pc' := 24) (j := 3) (by decide +kernel) rfl rfl <| h.elim fun c8 h => z_aaload120 (pc' := 25) (by decide +kernel) hb.a0 c8 (hb.e0 _ c8.n) rfl <| z_iload_n (pc' := 26) (j := 2) (by decide +kernel) rfl rfl <| z_iconst (pc' := 27) (n := 0) (by decide +kernel) rfl <| h.elim fun c9 h => z_iastore (pc' := 28) (by decide +kernel) (hb.x0 _ c8.n) c9 rfl <| have h := h _ rfl; z_iinc (pc' := 31) (j := 3) (n := 1) (x := v3) (ls' := [some (.ref b), some (iv x), some (iv v2), some (iv (v3 + 1))]) (by decide +kernel) rfl (by decide) rfl rfl <| z_goto (tgt := 13) (off := -18) (by decide +kernel) (by decide) <| h))
set_option maxRecDepth 20000 in
theorem e_X0_addNeed {G : Gx} {Q : Rv → Zm → Prop} {Z : Zm} {b : Nat} {x : Int} {y : Int} {z : Int} (hb : atBook Z b) (h : ((R32 (zI Z b 4)) ∧ (if 50 ≤ (zI Z b 4) then (Q (.inl (some (iv (zI Z b 4)))) Z) else ((zIx (zI Z b 4) 50) ∧ ∀ Z4, Z4 = zSI Z (b + 15) (zu (zI Z (b + 15)) (zI Z b 4).toNat x) → ∀ Z5, Z5 = zSI Z4 (b + 16) (zu (zI Z4 (b + 16)) (zI Z b 4).toNat y) → ∀ Z6, Z6 = zSI Z5 (b + 17) (zu (zI Z5 (b + 17)) (zI Z b 4).toNat z) → ∀ Z7, Z7 = zSI Z6 b (zu (zI Z6 b) 4 ((zI Z6 b 4) + 1)) → Q (.inl (some (iv (zI Z b 4)))) Z7)))) : ZM G 0 m_X0_addNeed [.ref b, iv x, iv y, iv z] Z Q := ZM.of [some (.ref b), some (iv x), some (iv y), some (iv z), none] rfl <| z_aload_n (pc' := 1) (j := 0) (by decide +kernel) rfl rfl <| z_getI (pc' := 4) (idx := 33) (ci := 0) (f := 4) (by decide +kernel) f_RX0_33 rfl hb.o.1 hb.o.2 rfl <| z_istore (pc' := 6) (j := 4) (ls' := [some (.ref b), some (iv x), some (iv y), some (iv z), some (iv (zI Z b 4))]) (by decide +kernel) (by decide) rfl rfl <| z_iload (pc' := 8) (j := 4) (by decide +kernel) rfl rfl <| z_bipush (pc' := 10) (n := 50) (by decide +kernel) (by decide) rfl <| h.elim fun c1 h => z_icmp_ge (pc' := 13) (tgt := 53) (off := 43) (by decide +kernel) (by decide) rfl c1 (by decide : R32 50) (am_ite h (fun h => z_iload (pc' := 55) (j := 4) (by decide +kernel) rfl rfl <| z_ireturn (by decide +kernel) ⟨_, rfl, rfl⟩ h) (fun h => z_aload_n (pc' := 14) (j := 0) (by decide +kernel) rfl rfl <| z_getR (pc' := 17) (idx := 16) (ci := 0) (f := 1) (by decide +kernel) f_RX0_16 rfl hb.o.1 hb.o.2 hb.r1 rfl <| z_iconst (pc' := 18) (n := 0) (by decide +kernel) rfl <| z_aaload120 (pc' := 19) (by decide +kernel) hb.a1 ⟨by decide, by decide, by decide⟩ (hb.e1 0 (by decide)) rfl <| z_iload (pc' := 21) (j := 4) (by decide +kernel) rfl rfl <| z_iload_n (pc' := 22) (j := 1) (by decide +kernel) rfl rfl <| h.elim fun c3 h => z_iastore (pc' := 23) (by decide +kernel) (hb.x1 0 (by decide)) c3 rfl <| have h := h _ rfl; z_aload_n (pc' := 24) (j := 0) (by decide +kernel) rfl rfl <| z_getR (pc' := 27) (idx := 16) (ci := 0) (f := 1) (by decide +kernel) f_RX0_16 rfl hb.o.1 hb.o.2 hb.r1 rfl <| z_iconst (pc' := 28) (n := 1) (by decide +kernel) rfl <| z_aaload120 (pc' := 29) (by decide +kernel) hb.a1 ⟨by decide, by decide, by decide⟩ (hb.e1 1 (by decide)) rfl <| z_iload (pc' := 31) (j := 4) (by decide +kernel) rfl rfl <| z_iload_n (pc' := 32) (j := 2) (by decide +kernel) rfl rfl <| z_iastore (pc' := 33) (by decide +kernel) (hb.x1 1 (by decide)) c3 rfl <| have h := h _ rfl; z_aload_n (pc' := 34) (j := 0) (by decide +kernel) rfl rfl <| z_getR (pc' := 37) (idx := 16) (ci := 0) (f := 1) (by decide +kernel) f_RX0_16 rfl hb.o.1 hb.o.2 hb.r1 rfl <| z_iconst (pc' := 38) (n := 2) (by decide +kernel) rfl <| z_aaload120 (pc' := 39) (by decide +kernel) hb.a1 ⟨by decide, by decide, by decide⟩ (hb.e1 2 (by decide)) rfl <| z_iload (pc' := 41) (j := 4) (by decide +kernel) rfl rfl <| z_iload_n (pc' := 42) (j := 3) (by decide +kernel) rfl rfl <| z_iastore (pc' := 43) (by decide +kernel) (hb.x1 2 (by decide)) c3 rfl <| have h := h _ rfl; z_aload_n (pc' := 44) (j := 0) (by decide +kernel) rfl rfl <| z_dup (pc' := 45) (by decide +kernel) rfl rfl <| z_getI (pc' := 48) (idx := 33) (ci := 0) (f := 4) (by decide +kernel) f_RX0_33 rfl hb.o.1 hb.o.2 rfl <| z_iconst (pc' := 49) (n := 1) (by decide +kernel) rfl <| z_iadd (pc' := 50) (by decide +kernel) rfl <| z_putI (pc' := 53) (idx := 33) (ci := 0) (f := 4) (by decide +kernel) f_RX0_33 (am_nf rfl rfl) rfl rfl rfl hb.o.1 hb.o.2 rfl <| have h := h _ rfl; z_iload (pc' := 55) (j := 4) (by decide +kernel) rfl rfl <| z_ireturn (by decide +kernel) ⟨_, rfl, rfl⟩ h))
set_option maxRecDepth 20000 in
theorem e_X0_removeNeed {G : Gx} {Q : Rv → Zm → Prop} {Z : Zm} {b : Nat} {x : Int} (hb : atBook Z b) (h : ((R32 x) ∧ (if x < 0 then (Q (.inl none) Z) else ((R32 (zI Z b 4)) ∧ (if x < (zI Z b 4) then (∀ Z3, Z3 = zSI Z b (zu (zI Z b) 4 ((zI Z b 4) - 1)) → ZP G 1 m_X0_removeNeed 25 [some (.ref b), some (iv x), some (iv 0)] [] Z3 Q) else (Q (.inl none) Z)))))) : ZM G 1 m_X0_removeNeed [.ref b, iv x] Z Q := ZM.of [some (.ref b), some (iv x), none] rfl <| z_iload_n (pc' := 1) (j := 1) (by decide +kernel) rfl rfl <| h.elim fun c1 h => z_if_lt (pc' := 4) (tgt := 12) (off := 11) (by decide +kernel) (by decide) rfl c1 (am_ite h (fun h => z_ret (by decide +kernel) rfl h) (fun h => z_iload_n (pc' := 5) (j := 1) (by decide +kernel) rfl rfl <| z_aload_n (pc' := 6) (j := 0) (by decide +kernel) rfl rfl <| z_getI (pc' := 9) (idx := 33) (ci := 0) (f := 4) (by decide +kernel) f_RX0_33 rfl hb.o.1 hb.o.2 rfl <| h.elim fun c2 h => z_icmp_lt (pc' := 12) (tgt := 13) (off := 4) (by decide +kernel) (by decide) rfl c1 c2 (am_ite h (fun h => z_aload_n (pc' := 14) (j := 0) (by decide +kernel) rfl rfl <| z_dup (pc' := 15) (by decide +kernel) rfl rfl <| z_getI (pc' := 18) (idx := 33) (ci := 0) (f := 4) (by decide +kernel) f_RX0_33 rfl hb.o.1 hb.o.2 rfl <| z_iconst (pc' := 19) (n := 1) (by decide +kernel) rfl <| z_isub (pc' := 20) (by decide +kernel) rfl <| z_putI (pc' := 23) (idx := 33) (ci := 0) (f := 4) (by decide +kernel) f_RX0_33 (am_nf rfl rfl) rfl rfl rfl hb.o.1 hb.o.2 rfl <| have h := h _ rfl; z_iconst (pc' := 24) (n := 0) (by decide +kernel) rfl <| z_istore_n (pc' := 25) (j := 2) (ls' := [some (.ref b), some (iv x), some (iv 0)]) (by decide +kernel) (by decide) rfl rfl <| h) (fun h => z_ret (by decide +kernel) rfl h))))
set_option maxRecDepth 20000 in
theorem b_X0_removeNeed_25 {G : Gx} {Q : Rv → Zm → Prop} {Z : Zm} {b : Nat} {x : Int} {v2 : Int} (hb : atBook Z b) (h : ((R32 v2) ∧ (if 3 ≤ v2 then (Q (.inl none) Z) else ((zIx v2 3) ∧ (0 ≤ (x + 1) ∧ 0 ≤ x ∧ 0 ≤ ((zI Z b 4) - x) ∧ (x + 1) + ((zI Z b 4) - x) ≤ (50 : Nat) ∧ x + ((zI Z b 4) - x) ≤ (50 : Nat) ∧ (50 : Nat) < 1000 ∧ (50 : Nat) < 1000) ∧ ∀ Z6, Z6 = zSI Z (b + 15 + v2.toNat) (zcpy (zI Z (b + 15 + v2.toNat)) (zI Z (b + 15 + v2.toNat)) (x + 1).toNat x.toNat ((zI Z b 4) - x).toNat) → ZP G 1 m_X0_removeNeed 25 [some (.ref b), some (iv x), some (iv (v2 + 1))] [] Z6 Q)))) : ZP G 1 m_X0_removeNeed 25 [some (.ref b), some (iv x), some (iv v2)] [] Z Q := z_iload_n (pc' := 26) (j := 2) (by decide +kernel) rfl rfl <| z_iconst (pc' := 27) (n := 3) (by decide +kernel) rfl <| h.elim fun c1 h => z_icmp_ge (pc' := 30) (tgt := 61) (off := 34) (by decide +kernel) (by decide) rfl c1 (by decide : R32 3) (am_ite h (fun h => z_ret (by decide +kernel) rfl h) (fun h => z_aload_n (pc' := 31) (j := 0) (by decide +kernel) rfl rfl <| z_getR (pc' := 34) (idx := 16) (ci := 0) (f := 1) (by decide +kernel) f_RX0_16 rfl hb.o.1 hb.o.2 hb.r1 rfl <| z_iload_n (pc' := 35) (j := 2) (by decide +kernel) rfl rfl <| h.elim fun c4 h => z_aaload120 (pc' := 36) (by decide +kernel) hb.a1 c4 (hb.e1 _ c4.n) rfl <| z_iload_n (pc' := 37) (j := 1) (by decide +kernel) rfl rfl <| z_iconst (pc' := 38) (n := 1) (by decide +kernel) rfl <| z_iadd (pc' := 39) (by decide +kernel) rfl <| z_aload_n (pc' := 40) (j := 0) (by decide +kernel) rfl rfl <| z_getR (pc' := 43) (idx := 16) (ci := 0) (f := 1) (by decide +kernel) f_RX0_16 rfl hb.o.1 hb.o.2 hb.r1 rfl <| z_iload_n (pc' := 44) (j := 2) (by decide +kernel) rfl rfl <| z_aaload120 (pc' := 45) (by decide +kernel) hb.a1 c4 (hb.e1 _ c4.n) rfl <| z_iload_n (pc' := 46) (j := 1) (by decide +kernel) rfl rfl <| z_aload_n (pc' := 47) (j := 0) (by decide +kernel) rfl rfl <| z_getI (pc' := 50) (idx := 33) (ci := 0) (f := 4) (by decide +kernel) f_RX0_33 rfl hb.o.1 hb.o.2 rfl <| z_iload_n (pc' := 51) (j := 1) (by decide +kernel) rfl rfl <| z_isub (pc' := 52) (by decide +kernel) rfl <| h.elim fun c5 h => z_copy (pc' := 55) (idx := 23) (by decide +kernel) (amM3 69 rfl (by decide +kernel)) (amM3 71 rfl (by decide +kernel)) (amM3 70 rfl (by decide +kernel)) (amM1 20 rfl (by decide +kernel)) (by omega) (am_le rfl) (hb.x1 _ c4.n) (hb.x1 _ c4.n) c5 rfl <| have h := h _ rfl; z_iinc (pc' := 58) (j := 2) (n := 1) (x := v2) (ls' := [some (.ref b), some (iv x), some (iv (v2 + 1))]) (by decide +kernel) rfl (by decide) rfl rfl <| z_goto (tgt := 25) (off := -33) (by decide +kernel) (by decide) <| h))
set_option maxRecDepth 20000 in
theorem e_X0_hasNeed {G : Gx} {Q : Rv → Zm → Prop} {Z : Zm} {b : Nat} {x : Int} {y : Int} (hb : atBook Z b) (h : (ZP G 0 m_X0_hasNeed 2 [some (.ref b), some (iv x), some (iv y), some (iv 0)] [] Z Q)) : ZM G 0 m_X0_hasNeed [.ref b, iv x, iv y] Z Q := ZM.of [some (.ref b), some (iv x), some (iv y), none] rfl <| z_iconst (pc' := 1) (n := 0) (by decide +kernel) rfl <| z_istore_n (pc' := 2) (j := 3) (ls' := [some (.ref b), some (iv x), some (iv y), some (iv 0)]) (by decide +kernel) (by decide) rfl rfl <| h
set_option maxRecDepth 20000 in
theorem b_X0_hasNeed_2 {G : Gx} {Q : Rv → Zm → Prop} {Z : Zm} {b : Nat} {x : Int} {y : Int} {v3 : Int} (hb : atBook Z b) (h : ((R32 v3) ∧ (R32 (zI Z b 4)) ∧ (if (zI Z b 4) ≤ v3 then (Q (.inl (some (iv 0))) Z) else ((zIx v3 50) ∧ (R32 (zI Z (b + 15) v3.toNat)) ∧ (R32 x) ∧ (if (zI Z (b + 15) v3.toNat) = x then ((R32 (zI Z (b + 16) v3.toNat)) ∧ (R32 y) ∧ (if (zI Z (b + 16) v3.toNat) = y then (Q (.inl (some (iv 1))) Z) else (ZP G 0 m_X0_hasNeed 2 [some (.ref b), some (iv x), some (iv y), some (iv (v3 + 1))] [] Z Q))) else (ZP G 0 m_X0_hasNeed 2 [some (.ref b), some (iv x), some (iv y), some (iv (v3 + 1))] [] Z Q)))))) : ZP G 0 m_X0_hasNeed 2 [some (.ref b), some (iv x), some (iv y), some (iv v3)] [] Z Q := z_iload_n (pc' := 3) (j := 3) (by decide +kernel) rfl rfl <| z_aload_n (pc' := 4) (j := 0) (by decide +kernel) rfl rfl <| z_getI (pc' := 7) (idx := 33) (ci := 0) (f := 4) (by decide +kernel) f_RX0_33 rfl hb.o.1 hb.o.2 rfl <| h.elim fun c1 h => h.elim fun c2 h => z_icmp_ge (pc' := 10) (tgt := 42) (off := 35) (by decide +kernel) (by decide) rfl c1 c2 (am_ite h (fun h => z_iconst (pc' := 43) (n := 0) (by decide +kernel) rfl <| z_ireturn (by decide +kernel) (am_rb (Or.inl rfl)) h) (fun h => z_aload_n (pc' := 11) (j := 0) (by decide +kernel) rfl rfl <| z_getR (pc' := 14) (idx := 16) (ci := 0) (f := 1) (by decide +kernel) f_RX0_16 rfl hb.o.1 hb.o.2 hb.r1 rfl <| z_iconst (pc' := 15) (n := 0) (by decide +kernel) rfl <| z_aaload120 (pc' := 16) (by decide +kernel) hb.a1 ⟨by decide, by decide, by decide⟩ (hb.e1 0 (by decide)) rfl <| z_iload_n (pc' := 17) (j := 3) (by decide +kernel) rfl rfl <| h.elim fun c3 h => z_iaload (pc' := 18) (by decide +kernel) (hb.x1 0 (by decide)) c3 rfl <| z_iload_n (pc' := 19) (j := 1) (by decide +kernel) rfl rfl <| h.elim fun c4 h => h.elim fun c5 h => z_icmp_ne (pc' := 22) (tgt := 36) (off := 17) (by decide +kernel) (by decide) rfl c4 c5 (am_ite h (fun h => z_aload_n (pc' := 23) (j := 0) (by decide +kernel) rfl rfl <| z_getR (pc' := 26) (idx := 16) (ci := 0) (f := 1) (by decide +kernel) f_RX0_16 rfl hb.o.1 hb.o.2 hb.r1 rfl <| z_iconst (pc' := 27) (n := 1) (by decide +kernel) rfl <| z_aaload120 (pc' := 28) (by decide +kernel) hb.a1 ⟨by decide, by decide, by decide⟩ (hb.e1 1 (by decide)) rfl <| z_iload_n (pc' := 29) (j := 3) (by decide +kernel) rfl rfl <| z_iaload (pc' := 30) (by decide +kernel) (hb.x1 1 (by decide)) c3 rfl <| z_iload_n (pc' := 31) (j := 2) (by decide +kernel) rfl rfl <| h.elim fun c6 h => h.elim fun c7 h => z_icmp_ne (pc' := 34) (tgt := 36) (off := 5) (by decide +kernel) (by decide) rfl c6 c7 (am_ite h (fun h => z_iconst (pc' := 35) (n := 1) (by decide +kernel) rfl <| z_ireturn (by decide +kernel) (am_rb (Or.inr rfl)) h) (fun h => z_iinc (pc' := 39) (j := 3) (n := 1) (x := v3) (ls' := [some (.ref b), some (iv x), some (iv y), some (iv (v3 + 1))]) (by decide +kernel) rfl (by decide) rfl rfl <| z_goto (tgt := 2) (off := -37) (by decide +kernel) (by decide) <| h))) (fun h => z_iinc (pc' := 39) (j := 3) (n := 1) (x := v3) (ls' := [some (.ref b), some (iv x), some (iv y), some (iv (v3 + 1))]) (by decide +kernel) rfl (by decide) rfl rfl <| z_goto (tgt := 2) (off := -37) (by decide +kernel) (by decide) <| h))))
set_option maxRecDepth 20000 in
theorem e_X0_isGuessed {G : Gx} {Q : Rv → Zm → Prop} {Z : Zm} {b : Nat} {t : Int} (hb : atBook Z b) (h : ((zIx t 20) ∧ (R32 (zI Z (b + 12) t.toNat)) ∧ Q (.inl (some (iv (b2 (¬ ((zI Z (b + 12) t.toNat) ≤ 0)))))) Z)) : ZM G 0 m_X0_isGuessed [.ref b, iv t] Z Q := ZM.of [some (.ref b), some (iv t)] rfl <| z_aload_n (pc' := 1) (j := 0) (by decide +kernel) rfl rfl <| z_getR (pc' := 4) (idx := 11) (ci := 0) (f := 0) (by decide +kernel) f_RX0_11 rfl hb.o.1 hb.o.2 hb.r0 rfl <| z_bipush (pc' := 6) (n := 10) (by decide +kernel) (by decide) rfl <| z_aaload120 (pc' := 7) (by decide +kernel) hb.a0 ⟨by decide, by decide, by decide⟩ (hb.e0 10 (by decide)) rfl <| z_iload_n (pc' := 8) (j := 1) (by decide +kernel) rfl rfl <| h.elim fun c1 h => z_iaload (pc' := 9) (by decide +kernel) (hb.x0 10 (by decide)) c1 rfl <| h.elim fun c2 h => am_use (fun k5 => z_if_le (pc' := 12) (tgt := 16) (off := 7) (by decide +kernel) (by decide) rfl c2 (am_ite2 (fun q6 => z_iconst (pc' := 17) (n := 0) (by decide +kernel) rfl <| (am_jp (P := fun z9 => ZP G 0 m_X0_isGuessed 17 [some (.ref b), some (iv t)] [iv z9] _ Q) (b2_n q6) k5)) (fun q6 => z_iconst (pc' := 13) (n := 1) (by decide +kernel) rfl <| z_goto (tgt := 17) (off := 4) (by decide +kernel) (by decide) <| (am_jp (P := fun z9 => ZP G 0 m_X0_isGuessed 17 [some (.ref b), some (iv t)] [iv z9] _ Q) (b2_nn q6) k5)))) <| z_ireturn (by decide +kernel) (am_rb (b2_01 _)) h
set_option maxRecDepth 20000 in
theorem e_X0_countGuessed {G : Gx} {Q : Rv → Zm → Prop} {Z : Zm} {b : Nat} (hb : atBook Z b) (h : (ZP G 1 m_X0_countGuessed 4 [some (.ref b), some (iv 0), some (iv 0)] [] Z Q)) : ZM G 1 m_X0_countGuessed [.ref b] Z Q := ZM.of [some (.ref b), none, none] rfl <| z_iconst (pc' := 1) (n := 0) (by decide +kernel) rfl <| z_istore_n (pc' := 2) (j := 1) (ls' := [some (.ref b), some (iv 0), none]) (by decide +kernel) (by decide) rfl rfl <| z_iconst (pc' := 3) (n := 0) (by decide +kernel) rfl <| z_istore_n (pc' := 4) (j := 2) (ls' := [some (.ref b), some (iv 0), some (iv 0)]) (by decide +kernel) (by decide) rfl rfl <| h
set_option maxRecDepth 20000 in
theorem b_X0_countGuessed_4 {G : Gx} {Q : Rv → Zm → Prop} {Z : Zm} {b : Nat} {v1 : Int} {v2 : Int} (hb : atBook Z b) (h : ((R32 v2) ∧ (R32 (zI Z b 3)) ∧ (if (zI Z b 3) ≤ v2 then (Q (.inl (some (iv v1))) Z) else (ZM G 0 m_X0_isGuessed [.ref b, iv v2] Z (zKc G 1 m_X0_countGuessed 17 [some (.ref b), some (iv v1), some (iv v2)] [] Q))))) : ZP G 1 m_X0_countGuessed 4 [some (.ref b), some (iv v1), some (iv v2)] [] Z Q := z_iload_n (pc' := 5) (j := 2) (by decide +kernel) rfl rfl <| z_aload_n (pc' := 6) (j := 0) (by decide +kernel) rfl rfl <| z_getI (pc' := 9) (idx := 29) (ci := 0) (f := 3) (by decide +kernel) f_RX0_29 rfl hb.o.1 hb.o.2 rfl <| h.elim fun c1 h => h.elim fun c2 h => z_icmp_ge (pc' := 12) (tgt := 29) (off := 20) (by decide +kernel) (by decide) rfl c1 c2 (am_ite h (fun h => z_iload_n (pc' := 30) (j := 1) (by decide +kernel) rfl rfl <| z_ireturn (by decide +kernel) ⟨_, rfl, rfl⟩ h) (fun h => z_aload_n (pc' := 13) (j := 0) (by decide +kernel) rfl rfl <| z_iload_n (pc' := 14) (j := 2) (by decide +kernel) rfl rfl <| z_callV (pc' := 17) (idx := 42) (mj := m_X0_isGuessed) (av := [iv v2]) (d' := 0) (by decide +kernel) rfl k_X0_isGuessed l_RX0_42 rfl (by omega) (am_le rfl) rfl (am_le rfl) hb.o.1 hb.o.2 rfl h))
set_option maxRecDepth 20000 in
theorem b_X0_countGuessed_17 {G : Gx} {Q : Rv → Zm → Prop} {Z : Zm} {b : Nat} {v1 : Int} {v2 : Int} {s0 : Int} (hb : atBook Z b) (h : ((R32 s0) ∧ ZP G 1 m_X0_countGuessed 4 [some (.ref b), some (iv (if s0 = 0 then v1 else v1 + 1)), some (iv (v2 + 1))] [] Z Q)) : ZP G 1 m_X0_countGuessed 17 [some (.ref b), some (iv v1), some (iv v2)] [iv s0] Z Q := h.elim fun c1 h => am_use (fun k4 => z_if_eq (pc' := 20) (tgt := 23) (off := 6) (by decide +kernel) (by decide) rfl c1 (am_ite2 (fun q5 => (am_jp (P := fun z9 => ZP G 1 m_X0_countGuessed 23 [some (.ref b), some (iv z9), some (iv v2)] [] _ Q) (if_pos q5) k4)) (fun q5 => z_iinc (pc' := 23) (j := 1) (n := 1) (x := v1) (ls' := [some (.ref b), some (iv (v1 + 1)), some (iv v2)]) (by decide +kernel) rfl (by decide) rfl rfl <| (am_jp (P := fun z9 => ZP G 1 m_X0_countGuessed 23 [some (.ref b), some (iv z9), some (iv v2)] [] _ Q) (if_neg q5) k4)))) <| z_iinc (pc' := 26) (j := 2) (n := 1) (x := v2) (ls' := [some (.ref b), some (iv (if s0 = 0 then v1 else v1 + 1)), some (iv (v2 + 1))]) (by decide +kernel) rfl (by decide) rfl rfl <| z_goto (tgt := 4) (off := -22) (by decide +kernel) (by decide) <| h
set_option maxRecDepth 20000 in
theorem e_X0_canBeLong {G : Gx} {Q : Rv → Zm → Prop} {Z : Zm} {b : Nat} {t : Int} {x : Int} (hb : atBook Z b) (h : ((zIx t 20) ∧ (R32 x) ∧ (R32 (zI Z (b + 10) t.toNat)) ∧ (if (zI Z (b + 10) t.toNat) < x then (ZM G 0 m_X0_isGuessed [.ref b, iv t] Z (zKc G 1 m_X0_canBeLong 20 [some (.ref b), some (iv t), some (iv x)] [] Q)) else (Q (.inl (some (iv 0))) Z)))) : ZM G 1 m_X0_canBeLong [.ref b, iv t, iv x] Z Q := ZM.of [some (.ref b), some (iv t), some (iv x)] rfl <| z_iload_n (pc' := 1) (j := 2) (by decide +kernel) rfl rfl <| z_aload_n (pc' := 2) (j := 0) (by decide +kernel) rfl rfl <| z_getR (pc' := 5) (idx := 11) (ci := 0) (f := 0) (by decide +kernel) f_RX0_11 rfl hb.o.1 hb.o.2 hb.r0 rfl <| z_bipush (pc' := 7) (n := 8) (by decide +kernel) (by decide) rfl <| z_aaload120 (pc' := 8) (by decide +kernel) hb.a0 ⟨by decide, by decide, by decide⟩ (hb.e0 8 (by decide)) rfl <| z_iload_n (pc' := 9) (j := 1) (by decide +kernel) rfl rfl <| h.elim fun c1 h => z_iaload (pc' := 10) (by decide +kernel) (hb.x0 8 (by decide)) c1 rfl <| h.elim fun c2 h => h.elim fun c3 h => z_icmp_gt (pc' := 13) (tgt := 15) (off := 5) (by decide +kernel) (by decide) rfl c2 c3 (am_ite h (fun h => z_aload_n (pc' := 16) (j := 0) (by decide +kernel) rfl rfl <| z_iload_n (pc' := 17) (j := 1) (by decide +kernel) rfl rfl <| z_callV (pc' := 20) (idx := 42) (mj := m_X0_isGuessed) (av := [iv t]) (d' := 0) (by decide +kernel) rfl k_X0_isGuessed l_RX0_42 rfl (by omega) (am_le rfl) rfl (am_le rfl) hb.o.1 hb.o.2 rfl h) (fun h => z_iconst (pc' := 14) (n := 0) (by decide +kernel) rfl <| z_ireturn (by decide +kernel) (am_rb (Or.inl rfl)) h))
set_option maxRecDepth 20000 in
theorem b_X0_canBeLong_20 {G : Gx} {Q : Rv → Zm → Prop} {Z : Zm} {b : Nat} {t : Int} {x : Int} {s0 : Int} (hb : atBook Z b) (h : ((R32 s0) ∧ (¬ (s0 = 0) → (zIx t 20) ∧ (R32 x) ∧ (R32 (zI Z (b + 12) t.toNat)) ∧ (¬ (x < (zI Z (b + 12) t.toNat)) → (R32 (zI Z (b + 13) t.toNat)) ∧ True) ∧ True) ∧ Q (.inl (some (iv (b2 ((s0 = 0) ∨ (¬ (x < (zI Z (b + 12) t.toNat)) ∧ (¬ ((zI Z (b + 13) t.toNat) < x)))))))) Z)) : ZP G 1 m_X0_canBeLong 20 [some (.ref b), some (iv t), some (iv x)] [iv s0] Z Q := h.elim fun c1 h => h.elim fun g15 h => am_use (fun k16 => z_if_eq (pc' := 23) (tgt := 49) (off := 29) (by decide +kernel) (by decide) rfl c1 (am_ite2 (fun q17 => z_iconst (pc' := 50) (n := 1) (by decide +kernel) rfl <| z_goto (tgt := 54) (off := 4) (by decide +kernel) (by decide) <| (am_jp (P := fun z9 => ZP G 1 m_X0_canBeLong 54 [some (.ref b), some (iv t), some (iv x)] [iv z9] _ Q) (b2_o1 q17) k16)) (fun q17 => have h := g15 q17; z_iload_n (pc' := 24) (j := 2) (by decide +kernel) rfl rfl <| z_aload_n (pc' := 25) (j := 0) (by decide +kernel) rfl rfl <| z_getR (pc' := 28) (idx := 11) (ci := 0) (f := 0) (by decide +kernel) f_RX0_11 rfl hb.o.1 hb.o.2 hb.r0 rfl <| z_bipush (pc' := 30) (n := 10) (by decide +kernel) (by decide) rfl <| z_aaload120 (pc' := 31) (by decide +kernel) hb.a0 ⟨by decide, by decide, by decide⟩ (hb.e0 10 (by decide)) rfl <| z_iload_n (pc' := 32) (j := 1) (by decide +kernel) rfl rfl <| h.elim fun c2 h => z_iaload (pc' := 33) (by decide +kernel) (hb.x0 10 (by decide)) c2 rfl <| h.elim fun c3 h => h.elim fun c4 h => h.elim fun g11 h => am_use (fun k12 => z_icmp_lt (pc' := 36) (tgt := 53) (off := 20) (by decide +kernel) (by decide) rfl c3 c4 (am_ite2 (fun q13 => z_iconst (pc' := 54) (n := 0) (by decide +kernel) rfl <| (am_jp (P := fun z9 => ZP G 1 m_X0_canBeLong 54 [some (.ref b), some (iv t), some (iv x)] [iv z9] _ Q) (b2_a1 q13) k12)) (fun q13 => have h := g11 q13; z_iload_n (pc' := 37) (j := 2) (by decide +kernel) rfl rfl <| z_aload_n (pc' := 38) (j := 0) (by decide +kernel) rfl rfl <| z_getR (pc' := 41) (idx := 11) (ci := 0) (f := 0) (by decide +kernel) f_RX0_11 rfl hb.o.1 hb.o.2 hb.r0 rfl <| z_bipush (pc' := 43) (n := 11) (by decide +kernel) (by decide) rfl <| z_aaload120 (pc' := 44) (by decide +kernel) hb.a0 ⟨by decide, by decide, by decide⟩ (hb.e0 11 (by decide)) rfl <| z_iload_n (pc' := 45) (j := 1) (by decide +kernel) rfl rfl <| z_iaload (pc' := 46) (by decide +kernel) (hb.x0 11 (by decide)) c2 rfl <| h.elim fun c5 h => am_use (fun k8 => z_icmp_gt (pc' := 49) (tgt := 53) (off := 7) (by decide +kernel) (by decide) rfl c3 c5 (am_ite2 (fun q9 => z_iconst (pc' := 54) (n := 0) (by decide +kernel) rfl <| (am_jp (P := fun z9 => ZP G 1 m_X0_canBeLong 54 [some (.ref b), some (iv t), some (iv x)] [iv z9] _ Q) (b2_n q9) k8)) (fun q9 => z_iconst (pc' := 50) (n := 1) (by decide +kernel) rfl <| z_goto (tgt := 54) (off := 4) (by decide +kernel) (by decide) <| (am_jp (P := fun z9 => ZP G 1 m_X0_canBeLong 54 [some (.ref b), some (iv t), some (iv x)] [iv z9] _ Q) (b2_nn q9) k8)))) <| (am_jp (P := fun z9 => ZP G 1 m_X0_canBeLong 54 [some (.ref b), some (iv t), some (iv x)] [iv z9] _ Q) (b2_a2 q13) k12)))) <| (am_jp (P := fun z9 => ZP G 1 m_X0_canBeLong 54 [some (.ref b), some (iv t), some (iv x)] [iv z9] _ Q) (b2_o2 q17) k16)))) <| z_ireturn (by decide +kernel) (am_rb (b2_01 _)) h
set_option maxRecDepth 20000 in
theorem e_X0_countWith {G : Gx} {Q : Rv → Zm → Prop} {Z : Zm} {b : Nat} {x : Int} {y : Int} (hb : atBook Z b) (h : (ZP G 0 m_X0_countWith 5 [some (.ref b), some (iv x), some (iv y), some (iv 0), some (iv 0)] [] Z Q)) : ZM G 0 m_X0_countWith [.ref b, iv x, iv y] Z Q := ZM.of [some (.ref b), some (iv x), some (iv y), none, none] rfl <| z_iconst (pc' := 1) (n := 0) (by decide +kernel) rfl <| z_istore_n (pc' := 2) (j := 3) (ls' := [some (.ref b), some (iv x), some (iv y), some (iv 0), none]) (by decide +kernel) (by decide) rfl rfl <| z_iconst (pc' := 3) (n := 0) (by decide +kernel) rfl <| z_istore (pc' := 5) (j := 4) (ls' := [some (.ref b), some (iv x), some (iv y), some (iv 0), some (iv 0)]) (by decide +kernel) (by decide) rfl rfl <| h
set_option maxRecDepth 20000 in
theorem b_X0_countWith_5 {G : Gx} {Q : Rv → Zm → Prop} {Z : Zm} {b : Nat} {x : Int} {y : Int} {v3 : Int} {v4 : Int} (hb : atBook Z b) (h : ((R32 v4) ∧ (R32 (zI Z b 3)) ∧ (if (zI Z b 3) ≤ v4 then (Q (.inl (some (iv v3))) Z) else ((zIx x 12) ∧ (zIx v4 20) ∧ (R32 (zI Z (b + 2 + x.toNat) v4.toNat)) ∧ (R32 y) ∧ ZP G 0 m_X0_countWith 5 [some (.ref b), some (iv x), some (iv y), some (iv (if (zI Z (b + 2 + x.toNat) v4.toNat) = y then v3 + 1 else v3)), some (iv (v4 + 1))] [] Z Q)))) : ZP G 0 m_X0_countWith 5 [some (.ref b), some (iv x), some (iv y), some (iv v3), some (iv v4)] [] Z Q := z_iload (pc' := 7) (j := 4) (by decide +kernel) rfl rfl <| z_aload_n (pc' := 8) (j := 0) (by decide +kernel) rfl rfl <| z_getI (pc' := 11) (idx := 29) (ci := 0) (f := 3) (by decide +kernel) f_RX0_29 rfl hb.o.1 hb.o.2 rfl <| h.elim fun c1 h => h.elim fun c2 h => z_icmp_ge (pc' := 14) (tgt := 36) (off := 25) (by decide +kernel) (by decide) rfl c1 c2 (am_ite h (fun h => z_iload_n (pc' := 37) (j := 3) (by decide +kernel) rfl rfl <| z_ireturn (by decide +kernel) ⟨_, rfl, rfl⟩ h) (fun h => z_aload_n (pc' := 15) (j := 0) (by decide +kernel) rfl rfl <| z_getR (pc' := 18) (idx := 11) (ci := 0) (f := 0) (by decide +kernel) f_RX0_11 rfl hb.o.1 hb.o.2 hb.r0 rfl <| z_iload_n (pc' := 19) (j := 1) (by decide +kernel) rfl rfl <| h.elim fun c11 h => z_aaload120 (pc' := 20) (by decide +kernel) hb.a0 c11 (hb.e0 _ c11.n) rfl <| z_iload (pc' := 22) (j := 4) (by decide +kernel) rfl rfl <| h.elim fun c12 h => z_iaload (pc' := 23) (by decide +kernel) (hb.x0 _ c11.n) c12 rfl <| z_iload_n (pc' := 24) (j := 2) (by decide +kernel) rfl rfl <| h.elim fun c13 h => h.elim fun c14 h => am_use (fun k17 => z_icmp_ne (pc' := 27) (tgt := 30) (off := 6) (by decide +kernel) (by decide) rfl c13 c14 (am_ite2 (fun q18 => z_iinc (pc' := 30) (j := 3) (n := 1) (x := v3) (ls' := [some (.ref b), some (iv x), some (iv y), some (iv (v3 + 1)), some (iv v4)]) (by decide +kernel) rfl (by decide) rfl rfl <| (am_jp (P := fun z9 => ZP G 0 m_X0_countWith 30 [some (.ref b), some (iv x), some (iv y), some (iv z9), some (iv v4)] [] _ Q) (if_pos q18) k17)) (fun q18 => (am_jp (P := fun z9 => ZP G 0 m_X0_countWith 30 [some (.ref b), some (iv x), some (iv y), some (iv z9), some (iv v4)] [] _ Q) (if_neg q18) k17)))) <| z_iinc (pc' := 33) (j := 4) (n := 1) (x := v4) (ls' := [some (.ref b), some (iv x), some (iv y), some (iv (if (zI Z (b + 2 + x.toNat) v4.toNat) = y then v3 + 1 else v3)), some (iv (v4 + 1))]) (by decide +kernel) rfl (by decide) rfl rfl <| z_goto (tgt := 5) (off := -28) (by decide +kernel) (by decide) <| h))
set_option maxRecDepth 20000 in
theorem e_X0_hasNoLags {G : Gx} {Q : Rv → Zm → Prop} {Z : Zm} {b : Nat} (hb : atBook Z b) (h : (ZP G 0 m_X0_hasNoLags 2 [some (.ref b), some (iv 0)] [] Z Q)) : ZM G 0 m_X0_hasNoLags [.ref b] Z Q := ZM.of [some (.ref b), none] rfl <| z_iconst (pc' := 1) (n := 0) (by decide +kernel) rfl <| z_istore_n (pc' := 2) (j := 1) (ls' := [some (.ref b), some (iv 0)]) (by decide +kernel) (by decide) rfl rfl <| h
set_option maxRecDepth 20000 in
theorem b_X0_hasNoLags_2 {G : Gx} {Q : Rv → Zm → Prop} {Z : Zm} {b : Nat} {v1 : Int} (hb : atBook Z b) (h : ((R32 v1) ∧ (R32 (zI Z b 4)) ∧ (if (zI Z b 4) ≤ v1 then (Q (.inl (some (iv 1))) Z) else ((zIx v1 50) ∧ (R32 (zI Z (b + 17) v1.toNat)) ∧ (if (zI Z (b + 17) v1.toNat) = 0 then (ZP G 0 m_X0_hasNoLags 2 [some (.ref b), some (iv (v1 + 1))] [] Z Q) else (Q (.inl (some (iv 0))) Z)))))) : ZP G 0 m_X0_hasNoLags 2 [some (.ref b), some (iv v1)] [] Z Q := z_iload_n (pc' := 3) (j := 1) (by decide +kernel) rfl rfl <| z_aload_n (pc' := 4) (j := 0) (by decide +kernel) rfl rfl <| z_getI (pc' := 7) (idx := 33) (ci := 0) (f := 4) (by decide +kernel) f_RX0_33 rfl hb.o.1 hb.o.2 rfl <| h.elim fun c1 h => h.elim fun c2 h => z_icmp_ge (pc' := 10) (tgt := 29) (off := 22) (by decide +kernel) (by decide) rfl c1 c2 (am_ite h (fun h => z_iconst (pc' := 30) (n := 1) (by decide +kernel) rfl <| z_ireturn (by decide +kernel) (am_rb (Or.inr rfl)) h) (fun h => z_aload_n (pc' := 11) (j := 0) (by decide +kernel) rfl rfl <| z_getR (pc' := 14) (idx := 16) (ci := 0) (f := 1) (by decide +kernel) f_RX0_16 rfl hb.o.1 hb.o.2 hb.r1 rfl <| z_iconst (pc' := 15) (n := 2) (by decide +kernel) rfl <| z_aaload120 (pc' := 16) (by decide +kernel) hb.a1 ⟨by decide, by decide, by decide⟩ (hb.e1 2 (by decide)) rfl <| z_iload_n (pc' := 17) (j := 1) (by decide +kernel) rfl rfl <| h.elim fun c3 h => z_iaload (pc' := 18) (by decide +kernel) (hb.x1 2 (by decide)) c3 rfl <| h.elim fun c4 h => z_if_eq (pc' := 21) (tgt := 23) (off := 5) (by decide +kernel) (by decide) rfl c4 (am_ite h (fun h => z_iinc (pc' := 26) (j := 1) (n := 1) (x := v1) (ls' := [some (.ref b), some (iv (v1 + 1))]) (by decide +kernel) rfl (by decide) rfl rfl <| z_goto (tgt := 2) (off := -24) (by decide +kernel) (by decide) <| h) (fun h => z_iconst (pc' := 22) (n := 0) (by decide +kernel) rfl <| z_ireturn (by decide +kernel) (am_rb (Or.inl rfl)) h))))
set_option maxRecDepth 20000 in
theorem e_X0_sumOfLengths {G : Gx} {Q : Rv → Zm → Prop} {Z : Zm} {b : Nat} (hb : atBook Z b) (h : (ZP G 0 m_X0_sumOfLengths 4 [some (.ref b), some (iv 0), some (iv 0)] [] Z Q)) : ZM G 0 m_X0_sumOfLengths [.ref b] Z Q := ZM.of [some (.ref b), none, none] rfl <| z_iconst (pc' := 1) (n := 0) (by decide +kernel) rfl <| z_istore_n (pc' := 2) (j := 1) (ls' := [some (.ref b), some (iv 0), none]) (by decide +kernel) (by decide) rfl rfl <| z_iconst (pc' := 3) (n := 0) (by decide +kernel) rfl <| z_istore_n (pc' := 4) (j := 2) (ls' := [some (.ref b), some (iv 0), some (iv 0)]) (by decide +kernel) (by decide) rfl rfl <| h
set_option maxRecDepth 20000 in
theorem b_X0_sumOfLengths_4 {G : Gx} {Q : Rv → Zm → Prop} {Z : Zm} {b : Nat} {v1 : Int} {v2 : Int} (hb : atBook Z b) (h : ((R32 v2) ∧ (R32 (zI Z b 3)) ∧ (if (zI Z b 3) ≤ v2 then (Q (.inl (some (iv v1))) Z) else ((zIx v2 20) ∧ ZP G 0 m_X0_sumOfLengths 4 [some (.ref b), some (iv (v1 + (zI Z (b + 2) v2.toNat))), some (iv (v2 + 1))] [] Z Q)))) : ZP G 0 m_X0_sumOfLengths 4 [some (.ref b), some (iv v1), some (iv v2)] [] Z Q := z_iload_n (pc' := 5) (j := 2) (by decide +kernel) rfl rfl <| z_aload_n (pc' := 6) (j := 0) (by decide +kernel) rfl rfl <| z_getI (pc' := 9) (idx := 29) (ci := 0) (f := 3) (by decide +kernel) f_RX0_29 rfl hb.o.1 hb.o.2 rfl <| h.elim fun c1 h => h.elim fun c2 h => z_icmp_ge (pc' := 12) (tgt := 29) (off := 20) (by decide +kernel) (by decide) rfl c1 c2 (am_ite h (fun h => z_iload_n (pc' := 30) (j := 1) (by decide +kernel) rfl rfl <| z_ireturn (by decide +kernel) ⟨_, rfl, rfl⟩ h) (fun h => z_iload_n (pc' := 13) (j := 1) (by decide +kernel) rfl rfl <| z_aload_n (pc' := 14) (j := 0) (by decide +kernel) rfl rfl <| z_getR (pc' := 17) (idx := 11) (ci := 0) (f := 0) (by decide +kernel) f_RX0_11 rfl hb.o.1 hb.o.2 hb.r0 rfl <| z_iconst (pc' := 18) (n := 0) (by decide +kernel) rfl <| z_aaload120 (pc' := 19) (by decide +kernel) hb.a0 ⟨by decide, by decide, by decide⟩ (hb.e0 0 (by decide)) rfl <| z_iload_n (pc' := 20) (j := 2) (by decide +kernel) rfl rfl <| h.elim fun c4 h => z_iaload (pc' := 21) (by decide +kernel) (hb.x0 0 (by decide)) c4 rfl <| z_iadd (pc' := 22) (by decide +kernel) rfl <| z_istore_n (pc' := 23) (j := 1) (ls' := [some (.ref b), some (iv (v1 + (zI Z (b + 2) v2.toNat))), some (iv v2)]) (by decide +kernel) (by decide) rfl rfl <| z_iinc (pc' := 26) (j := 2) (n := 1) (x := v2) (ls' := [some (.ref b), some (iv (v1 + (zI Z (b + 2) v2.toNat))), some (iv (v2 + 1))]) (by decide +kernel) rfl (by decide) rfl rfl <| z_goto (tgt := 4) (off := -22) (by decide +kernel) (by decide) <| h))
set_option maxRecDepth 20000 in
theorem e_X0_ringSize {G : Gx} {Q : Rv → Zm → Prop} {Z : Zm} {b : Nat} {x : Int} {y : Int} (hb : atBook Z b) (h : (∀ Z1, Z1 = zSI Z (b + 18) (zfl (zI Z (b + 18)) 20 0) → (zIx x 20) ∧ ∀ Z3, Z3 = zSI Z1 (b + 18) (zu (zI Z1 (b + 18)) x.toNat 1) → ZP G 1 m_X0_ringSize 17 [some (.ref b), some (iv x), some (iv y), some (iv 1), none, none] [] Z3 Q)) : ZM G 1 m_X0_ringSize [.ref b, iv x, iv y] Z Q := ZM.of [some (.ref b), some (iv x), some (iv y), none, none, none] rfl <| z_aload_n (pc' := 1) (j := 0) (by decide +kernel) rfl rfl <| z_getR (pc' := 4) (idx := 19) (ci := 0) (f := 2) (by decide +kernel) f_RX0_19 rfl hb.o.1 hb.o.2 hb.r2 rfl <| z_iconst (pc' := 5) (n := 0) (by decide +kernel) rfl <| z_callS (pc' := 8) (idx := 36) (mj := m_J7_fill_53178) (av := [.ref (b + 18), iv 0]) (d' := 0) (by decide +kernel) rfl k_J7_fill_53178 l_RX0_36 rfl (by omega) (am_le rfl) rfl (am_le rfl) rfl <| zKf ((s_fill hb.a2 (by decide))) <| have h := h _ rfl; z_aload_n (pc' := 9) (j := 0) (by decide +kernel) rfl rfl <| z_getR (pc' := 12) (idx := 19) (ci := 0) (f := 2) (by decide +kernel) f_RX0_19 rfl hb.o.1 hb.o.2 hb.r2 rfl <| z_iload_n (pc' := 13) (j := 1) (by decide +kernel) rfl rfl <| z_iconst (pc' := 14) (n := 1) (by decide +kernel) rfl <| h.elim fun c2 h => z_iastore (pc' := 15) (by decide +kernel) hb.a2 c2 rfl <| have h := h _ rfl; z_iconst (pc' := 16) (n := 1) (by decide +kernel) rfl <| z_istore_n (pc' := 17) (j := 3) (ls' := [some (.ref b), some (iv x), some (iv y), some (iv 1), none, none]) (by decide +kernel) (by decide) rfl rfl <| h
set_option maxRecDepth 20000 in
theorem b_X0_ringSize_17 {G : Gx} {Q : Rv → Zm → Prop} {Z : Zm} {b : Nat} {y : Int} {o1 : Option Value} {v3 : Int} {o4 : Option Value} {o5 : Option Value} (hb : atBook Z b) (h : ((R32 v3) ∧ (R32 (zI Z b 3)) ∧ (if (zI Z b 3) ≤ v3 then ((zIx y 20) ∧ Q (.inl (some (iv (zI Z (b + 18) y.toNat)))) Z) else ((zIx y 20) ∧ (R32 (zI Z (b + 18) y.toNat)) ∧ (if (zI Z (b + 18) y.toNat) = 0 then (ZP G 1 m_X0_ringSize 37 [some (.ref b), o1, some (iv y), some (iv v3), some (iv 0), o5] [] Z Q) else (Q (.inl (some (iv (zI Z (b + 18) y.toNat)))) Z)))))) : ZP G 1 m_X0_ringSize 17 [some (.ref b), o1, some (iv y), some (iv v3), o4, o5] [] Z Q := z_iload_n (pc' := 18) (j := 3) (by decide +kernel) rfl rfl <| z_aload_n (pc' := 19) (j := 0) (by decide +kernel) rfl rfl <| z_getI (pc' := 22) (idx := 29) (ci := 0) (f := 3) (by decide +kernel) f_RX0_29 rfl hb.o.1 hb.o.2 rfl <| h.elim fun c1 h => h.elim fun c2 h => z_icmp_ge (pc' := 25) (tgt := 107) (off := 85) (by decide +kernel) (by decide) rfl c1 c2 (am_ite h (fun h => z_aload_n (pc' := 108) (j := 0) (by decide +kernel) rfl rfl <| z_getR (pc' := 111) (idx := 19) (ci := 0) (f := 2) (by decide +kernel) f_RX0_19 rfl hb.o.1 hb.o.2 hb.r2 rfl <| z_iload_n (pc' := 112) (j := 2) (by decide +kernel) rfl rfl <| h.elim fun c5 h => z_iaload (pc' := 113) (by decide +kernel) hb.a2 c5 rfl <| z_ireturn (by decide +kernel) ⟨_, rfl, rfl⟩ h) (fun h => z_aload_n (pc' := 26) (j := 0) (by decide +kernel) rfl rfl <| z_getR (pc' := 29) (idx := 19) (ci := 0) (f := 2) (by decide +kernel) f_RX0_19 rfl hb.o.1 hb.o.2 hb.r2 rfl <| z_iload_n (pc' := 30) (j := 2) (by decide +kernel) rfl rfl <| h.elim fun c6 h => z_iaload (pc' := 31) (by decide +kernel) hb.a2 c6 rfl <| h.elim fun c7 h => z_if_ne (pc' := 34) (tgt := 107) (off := 76) (by decide +kernel) (by decide) rfl c7 (am_ite h (fun h => z_iconst (pc' := 35) (n := 0) (by decide +kernel) rfl <| z_istore (pc' := 37) (j := 4) (ls' := [some (.ref b), o1, some (iv y), some (iv v3), some (iv 0), o5]) (by decide +kernel) (by decide) rfl rfl <| h) (fun h => z_aload_n (pc' := 108) (j := 0) (by decide +kernel) rfl rfl <| z_getR (pc' := 111) (idx := 19) (ci := 0) (f := 2) (by decide +kernel) f_RX0_19 rfl hb.o.1 hb.o.2 hb.r2 rfl <| z_iload_n (pc' := 112) (j := 2) (by decide +kernel) rfl rfl <| z_iaload (pc' := 113) (by decide +kernel) hb.a2 c6 rfl <| z_ireturn (by decide +kernel) ⟨_, rfl, rfl⟩ h))))
set_option maxRecDepth 20000 in
theorem b_X0_ringSize_37 {G : Gx} {Q : Rv → Zm → Prop} {Z : Zm} {b : Nat} {y : Int} {o1 : Option Value} {v3 : Int} {v4 : Int} {o5 : Option Value} (hb : atBook Z b) (h : ((R32 v4) ∧ (R32 (zI Z b 4)) ∧ (if (zI Z b 4) ≤ v4 then (ZP G 1 m_X0_ringSize 17 [some (.ref b), o1, some (iv y), some (iv (v3 + 1)), some (iv v4), o5] [] Z Q) else ((zIx v4 50) ∧ (zIx (zI Z (b + 16) v4.toNat) 20) ∧ (R32 (zI Z (b + 18) (zI Z (b + 16) v4.toNat).toNat)) ∧ (R32 v3) ∧ (if (zI Z (b + 18) (zI Z (b + 16) v4.toNat).toNat) = v3 then ((zIx (zI Z (b + 15) v4.toNat) 20) ∧ (R32 (zI Z (b + 18) (zI Z (b + 15) v4.toNat).toNat)) ∧ (if (zI Z (b + 18) (zI Z (b + 15) v4.toNat).toNat) = 0 then (∀ Z17, Z17 = zSI Z (b + 18) (zu (zI Z (b + 18)) (zI Z (b + 15) v4.toNat).toNat (v3 + 1)) → ZP G 1 m_X0_ringSize 37 [some (.ref b), o1, some (iv y), some (iv v3), some (iv (v4 + 1)), some (iv (zI Z (b + 15) v4.toNat))] [] Z17 Q) else (ZP G 1 m_X0_ringSize 37 [some (.ref b), o1, some (iv y), some (iv v3), some (iv (v4 + 1)), some (iv (zI Z (b + 15) v4.toNat))] [] Z Q))) else (ZP G 1 m_X0_ringSize 37 [some (.ref b), o1, some (iv y), some (iv v3), some (iv (v4 + 1)), some (iv (zI Z (b + 15) v4.toNat))] [] Z Q)))))) : ZP G 1 m_X0_ringSize 37 [some (.ref b), o1, some (iv y), some (iv v3), some (iv v4), o5] [] Z Q := z_iload (pc' := 39) (j := 4) (by decide +kernel) rfl rfl <| z_aload_n (pc' := 40) (j := 0) (by decide +kernel) rfl rfl <| z_getI (pc' := 43) (idx := 33) (ci := 0) (f := 4) (by decide +kernel) f_RX0_33 rfl hb.o.1 hb.o.2 rfl <| h.elim fun c1 h => h.elim fun c2 h => z_icmp_ge (pc' := 46) (tgt := 101) (off := 58) (by decide +kernel) (by decide) rfl c1 c2 (am_ite h (fun h => z_iinc (pc' := 104) (j := 3) (n := 1) (x := v3) (ls' := [some (.ref b), o1, some (iv y), some (iv (v3 + 1)), some (iv v4), o5]) (by decide +kernel) rfl (by decide) rfl rfl <| z_goto (tgt := 17) (off := -87) (by decide +kernel) (by decide) <| h) (fun h => z_aload_n (pc' := 47) (j := 0) (by decide +kernel) rfl rfl <| z_getR (pc' := 50) (idx := 16) (ci := 0) (f := 1) (by decide +kernel) f_RX0_16 rfl hb.o.1 hb.o.2 hb.r1 rfl <| z_iconst (pc' := 51) (n := 0) (by decide +kernel) rfl <| z_aaload120 (pc' := 52) (by decide +kernel) hb.a1 ⟨by decide, by decide, by decide⟩ (hb.e1 0 (by decide)) rfl <| z_iload (pc' := 54) (j := 4) (by decide +kernel) rfl rfl <| h.elim fun c9 h => z_iaload (pc' := 55) (by decide +kernel) (hb.x1 0 (by decide)) c9 rfl <| z_istore (pc' := 57) (j := 5) (ls' := [some (.ref b), o1, some (iv y), some (iv v3), some (iv v4), some (iv (zI Z (b + 15) v4.toNat))]) (by decide +kernel) (by decide) rfl rfl <| z_aload_n (pc' := 58) (j := 0) (by decide +kernel) rfl rfl <| z_getR (pc' := 61) (idx := 19) (ci := 0) (f := 2) (by decide +kernel) f_RX0_19 rfl hb.o.1 hb.o.2 hb.r2 rfl <| z_aload_n (pc' := 62) (j := 0) (by decide +kernel) rfl rfl <| z_getR (pc' := 65) (idx := 16) (ci := 0) (f := 1) (by decide +kernel) f_RX0_16 rfl hb.o.1 hb.o.2 hb.r1 rfl <| z_iconst (pc' := 66) (n := 1) (by decide +kernel) rfl <| z_aaload120 (pc' := 67) (by decide +kernel) hb.a1 ⟨by decide, by decide, by decide⟩ (hb.e1 1 (by decide)) rfl <| z_iload (pc' := 69) (j := 4) (by decide +kernel) rfl rfl <| z_iaload (pc' := 70) (by decide +kernel) (hb.x1 1 (by decide)) c9 rfl <| h.elim fun c10 h => z_iaload (pc' := 71) (by decide +kernel) hb.a2 c10 rfl <| z_iload_n (pc' := 72) (j := 3) (by decide +kernel) rfl rfl <| h.elim fun c11 h => h.elim fun c12 h => z_icmp_ne (pc' := 75) (tgt := 95) (off := 23) (by decide +kernel) (by decide) rfl c11 c12 (am_ite h (fun h => z_aload_n (pc' := 76) (j := 0) (by decide +kernel) rfl rfl <| z_getR (pc' := 79) (idx := 19) (ci := 0) (f := 2) (by decide +kernel) f_RX0_19 rfl hb.o.1 hb.o.2 hb.r2 rfl <| z_iload (pc' := 81) (j := 5) (by decide +kernel) rfl rfl <| h.elim fun c15 h => z_iaload (pc' := 82) (by decide +kernel) hb.a2 c15 rfl <| h.elim fun c16 h => z_if_ne (pc' := 85) (tgt := 95) (off := 13) (by decide +kernel) (by decide) rfl c16 (am_ite h (fun h => z_aload_n (pc' := 86) (j := 0) (by decide +kernel) rfl rfl <| z_getR (pc' := 89) (idx := 19) (ci := 0) (f := 2) (by decide +kernel) f_RX0_19 rfl hb.o.1 hb.o.2 hb.r2 rfl <| z_iload (pc' := 91) (j := 5) (by decide +kernel) rfl rfl <| z_iload_n (pc' := 92) (j := 3) (by decide +kernel) rfl rfl <| z_iconst (pc' := 93) (n := 1) (by decide +kernel) rfl <| z_iadd (pc' := 94) (by decide +kernel) rfl <| z_iastore (pc' := 95) (by decide +kernel) hb.a2 c15 rfl <| have h := h _ rfl; z_iinc (pc' := 98) (j := 4) (n := 1) (x := v4) (ls' := [some (.ref b), o1, some (iv y), some (iv v3), some (iv (v4 + 1)), some (iv (zI Z (b + 15) v4.toNat))]) (by decide +kernel) rfl (by decide) rfl rfl <| z_goto (tgt := 37) (off := -61) (by decide +kernel) (by decide) <| h) (fun h => z_iinc (pc' := 98) (j := 4) (n := 1) (x := v4) (ls' := [some (.ref b), o1, some (iv y), some (iv v3), some (iv (v4 + 1)), some (iv (zI Z (b + 15) v4.toNat))]) (by decide +kernel) rfl (by decide) rfl rfl <| z_goto (tgt := 37) (off := -61) (by decide +kernel) (by decide) <| h))) (fun h => z_iinc (pc' := 98) (j := 4) (n := 1) (x := v4) (ls' := [some (.ref b), o1, some (iv y), some (iv v3), some (iv (v4 + 1)), some (iv (zI Z (b + 15) v4.toNat))]) (by decide +kernel) rfl (by decide) rfl rfl <| z_goto (tgt := 37) (off := -61) (by decide +kernel) (by decide) <| h))))
/-! ===== frames ===== -/
/-- from Z to Z': at most c cells with w slots more; of the old ones only those in S have other numbers -/
def zF (S : Nat → Prop) (c w : Nat) (Z Z' : Zm) : Prop := zX Z Z' ∧ (zSz Z' ≤ zSz Z + c ∧ zSl Z ≤ zSl Z' ∧ zSl Z' ≤ zSl Z + w) ∧ ∀ a, a < zSz Z → ¬ S a → zI Z' a = zI Z a ∧ zL Z' a = zL Z a ∧ zD Z' a = zD Z a
theorem zF.refl {S : Nat → Prop} {Z : Zm} : zF S 0 0 Z Z := ⟨zX.rfl, ⟨Nat.le_refl _, Nat.le_refl _, Nat.le_refl _⟩, fun _ _ _ => ⟨rfl, rfl, rfl⟩⟩
theorem zF.trans {S : Nat → Prop} {c w c' w' : Nat} {Z Z' Z'' : Zm} (h : zF S c w Z Z') (k : zF S c' w' Z' Z'') : zF S (c + c') (w + w') Z Z'' := by
  obtain ⟨h1, ⟨h2, h3, h4⟩, h5⟩ := h
  obtain ⟨k1, ⟨k2, k3, k4⟩, k5⟩ := k
  refine ⟨h1.trans k1, ⟨by omega, by omega, by omega⟩, fun a ha hs => ?_⟩
  obtain ⟨g1, g2, g3⟩ := h5 a ha hs
  obtain ⟨f1, f2, f3⟩ := k5 a (Nat.lt_of_lt_of_le ha h1.1) hs
  exact ⟨f1.trans g1, f2.trans g2, f3.trans g3⟩
theorem zF.mono {S T : Nat → Prop} {c w c' w' : Nat} {Z Z' : Zm} (h : zF S c w Z Z') (hs : ∀ a, S a → T a) (hc : c ≤ c') (hw : w ≤ w') : zF T c' w' Z Z' := by
  obtain ⟨h1, ⟨h2, h3, h4⟩, h5⟩ := h
  exact ⟨h1, ⟨by omega, h3, by omega⟩, fun a ha hn => h5 a ha fun g => hn (hs a g)⟩
theorem zF_I {S : Nat → Prop} {Z : Zm} {a : Nat} {f : Nat → Int} (h : S a) : zF S 0 0 Z (zSI Z a f) := ⟨⟨Nat.le_refl _, fun _ _ => ⟨rfl, rfl, rfl⟩⟩, ⟨Nat.le_refl _, Nat.le_refl _, Nat.le_refl _⟩, fun b _ hs => ⟨zI_other (fun e => hs (e ▸ h)), rfl, rfl⟩⟩
theorem zF_L {S : Nat → Prop} {Z : Zm} {a : Nat} {f : Nat → Int} (h : S a) : zF S 0 0 Z (zSL Z a f) := ⟨⟨Nat.le_refl _, fun _ _ => ⟨rfl, rfl, rfl⟩⟩, ⟨Nat.le_refl _, Nat.le_refl _, Nat.le_refl _⟩, fun b _ hs => ⟨rfl, if_neg (fun (e : b = a) => hs (e ▸ h)), rfl⟩⟩
theorem zF_C {S : Nat → Prop} {Z : Zm} {k n w : Nat} : zF S 1 w Z (zC Z k n w) := ⟨zX_C _ _ _ _, ⟨Nat.le_refl _, Nat.le_add_right _ _, Nat.le_refl _⟩, fun b hb _ => by
  have h : ¬ b = zSz Z := Nat.ne_of_lt hb
  exact ⟨if_neg h, if_neg h, if_neg h⟩⟩
theorem zF.i {S : Nat → Prop} {c w : Nat} {Z Z' : Zm} (h : zF S c w Z Z') {a : Nat} (ha : a < zSz Z) (hs : ¬ S a) : zI Z' a = zI Z a := (h.2.2 a ha hs).1
theorem zF.l {S : Nat → Prop} {c w : Nat} {Z Z' : Zm} (h : zF S c w Z Z') {a : Nat} (ha : a < zSz Z) (hs : ¬ S a) : zL Z' a = zL Z a := (h.2.2 a ha hs).2.1
/-- the cells from lo to hi, without hi -/
def zB (lo hi : Nat) : Nat → Prop := fun a => lo ≤ a ∧ a < hi
/-! ===== a book: n tasks, m needs, what is told of a task, the earlier, the later, the lag of a need ===== -/
abbrev Bk : Type := Nat × Nat × (Nat → Nat → Int) × (Nat → Nat) × (Nat → Nat) × (Nat → Int)
def kN (k : Bk) : Nat := k.1
def kM (k : Bk) : Nat := k.2.1
def kF (k : Bk) : Nat → Nat → Int := k.2.2.1
def kE (k : Bk) : Nat → Nat := k.2.2.2.1
def kL (k : Bk) : Nat → Nat := k.2.2.2.2.1
def kG (k : Bk) : Nat → Int := k.2.2.2.2.2
/-- what holds of each book -/
def kOk (k : Bk) : Prop := (kN k ≤ 20 ∧ kM k ≤ 50) ∧
  (∀ t, t < kN k → (1 ≤ kF k 0 t ∧ kF k 0 t ≤ 60) ∧ (0 ≤ kF k 1 t ∧ kF k 1 t ≤ 2) ∧ (-1 ≤ kF k 2 t ∧ kF k 2 t ≤ 2) ∧ (0 ≤ kF k 3 t ∧ kF k 3 t ≤ 3) ∧ (0 ≤ kF k 4 t ∧ kF k 4 t ≤ 1) ∧ (0 ≤ kF k 5 t ∧ kF k 5 t ≤ 1) ∧ (0 ≤ kF k 6 t ∧ kF k 6 t ≤ 9999) ∧ (0 ≤ kF k 7 t ∧ kF k 7 t ≤ 100) ∧ (0 ≤ kF k 8 t ∧ kF k 8 t ≤ 5 ∧ kF k 8 t < kF k 0 t) ∧ (0 ≤ kF k 9 t ∧ kF k 9 t ≤ 99) ∧ (0 ≤ kF k 10 t ∧ kF k 10 t ≤ kF k 0 t ∧ (0 < kF k 10 t → kF k 0 t ≤ kF k 11 t) ∧ 0 ≤ kF k 11 t ∧ kF k 11 t ≤ 60)) ∧
  (∀ j, j < kM k → kE k j < kN k ∧ kL k j < kN k ∧ 0 ≤ kG k j ∧ kG k j ≤ 30) ∧
  (∀ i j, i < kM k → j < kM k → kE k i = kE k j → kL k i = kL k j → i = j) ∧
  ∃ r : Nat → Nat, ∀ j, j < kM k → r (kE k j) < r (kL k j)
/-- the book object b holds k -/
def cB (Z : Zm) (b : Nat) (k : Bk) : Prop := zI Z b 3 = (kN k : Int) ∧ zI Z b 4 = (kM k : Int) ∧ (∀ r t, r < 12 → t < kN k → zI Z (b + 2 + r) t = kF k r t) ∧ ∀ j, j < kM k → zI Z (b + 15) j = (kE k j : Int) ∧ zI Z (b + 16) j = (kL k j : Int) ∧ zI Z (b + 17) j = kG k j
theorem cB.of {Z Z' : Zm} {b : Nat} {k : Bk} (h : cB Z b k) (e : ∀ a, b ≤ a → a < b + 18 → zI Z' a = zI Z a) : cB Z' b k := by
  obtain ⟨h1, h2, h3, h4⟩ := h
  refine ⟨?_, ?_, fun r t hr ht => ?_, fun j hj => ?_⟩
  · rw [e b (by omega) (by omega)]
    exact h1
  · rw [e b (by omega) (by omega)]
    exact h2
  · rw [e (b + 2 + r) (by omega) (by omega)]
    exact h3 r t hr ht
  · rw [e (b + 15) (by omega) (by omega), e (b + 16) (by omega) (by omega), e (b + 17) (by omega) (by omega)]
    exact h4 j hj
theorem cB.frame {S : Nat → Prop} {c w : Nat} {Z Z' : Zm} {b : Nat} {k : Bk} (h : cB Z b k) (hb : atBook Z b) (f : zF S c w Z Z') (hs : ∀ a, b ≤ a → a < b + 18 → ¬ S a) : cB Z' b k := h.of fun a h1 h2 => f.i (by
  have := hb.a2.1
  omega) (hs a h1 h2)
theorem kOk.n {k : Bk} (h : kOk k) : kN k ≤ 20 := h.1.1
theorem kOk.m {k : Bk} (h : kOk k) : kM k ≤ 50 := h.1.2
theorem kOk.f {k : Bk} (h : kOk k) {r t : Nat} (hr : r < 12) (ht : t < kN k) : -1 ≤ kF k r t ∧ kF k r t ≤ 9999 := by
  obtain ⟨h0, h1, h2, h3, h4, h5, h6, h7, h8, h9, h10⟩ := h.2.1 t ht
  have h12 : r = 0 ∨ r = 1 ∨ r = 2 ∨ r = 3 ∨ r = 4 ∨ r = 5 ∨ r = 6 ∨ r = 7 ∨ r = 8 ∨ r = 9 ∨ r = 10 ∨ r = 11 := by omega
  rcases h12 with rfl | rfl | rfl | rfl | rfl | rfl | rfl | rfl | rfl | rfl | rfl | rfl <;> omega
theorem kOk.len {k : Bk} (h : kOk k) {t : Nat} (ht : t < kN k) : 1 ≤ kF k 0 t ∧ kF k 0 t ≤ 60 := (h.2.1 t ht).1
theorem kOk.e {k : Bk} (h : kOk k) {j : Nat} (hj : j < kM k) : kE k j < kN k := (h.2.2.1 j hj).1
theorem kOk.l {k : Bk} (h : kOk k) {j : Nat} (hj : j < kM k) : kL k j < kN k := (h.2.2.1 j hj).2.1
theorem kOk.g {k : Bk} (h : kOk k) {j : Nat} (hj : j < kM k) : 0 ≤ kG k j ∧ kG k j ≤ 30 := (h.2.2.1 j hj).2.2
def zsum (f : Nat → Int) : Nat → Int
  | 0 => 0
  | n + 1 => zsum f n + f n
theorem zsum_s (f : Nat → Int) (n : Nat) : zsum f (n + 1) = zsum f n + f n := rfl
theorem zsum_eq {f g : Nat → Int} {n : Nat} (h : ∀ i, i < n → f i = g i) : zsum f n = zsum g n := by
  induction n with
  | zero => rfl
  | succ n ih => rw [zsum_s, zsum_s, ih fun i hi => h i (by omega), h n (by omega)]
theorem zsum_bound {f : Nat → Int} {n : Nat} {a b : Int} (h : ∀ i, i < n → a ≤ f i ∧ f i ≤ b) : a * n ≤ zsum f n ∧ zsum f n ≤ b * n := by
  induction n with
  | zero => exact ⟨by simp [zsum], by simp [zsum]⟩
  | succ n ih =>
    have h1 := ih fun i hi => h i (by omega)
    have h2 := h n (by omega)
    rw [zsum_s]
    have e : ∀ c : Int, c * ((n + 1 : Nat) : Int) = c * n + c := fun c => by
      rw [Int.natCast_add, Int.mul_add]
      simp
    rw [e a, e b]
    omega
theorem s_hasTask {G : Gx} {Z : Zm} {b : Nat} {k : Bk} {t : Int} (hb : atBook Z b) (hk : cB Z b k) (ho : kOk k) (ht : R32 t) : ZM G 0 m_X0_hasTask [.ref b, iv t] Z (fun r Z' => r = .inl (some (iv (b2 (0 ≤ t ∧ t < (kN k : Int))))) ∧ Z' = Z) := by
  have := ho.n
  refine e_X0_hasTask hb ⟨ht, fun _ => ⟨?_, trivial⟩, ?_, rfl⟩
  · rw [hk.1]
    omega
  · rw [hk.1, show b2 (¬ t < 0 ∧ ¬ (kN k : Int) ≤ t) = b2 (0 ≤ t ∧ t < (kN k : Int)) from b2_iff (by omega)]
def hasN (k : Bk) (x y : Int) : Prop := ∃ j, j < kM k ∧ (kE k j : Int) = x ∧ (kL k j : Int) = y
noncomputable def hasB (k : Bk) (x y : Int) : Int := @b2 (hasN k x y) (Classical.propDecidable _)
theorem hasB_p {k : Bk} {x y : Int} (h : hasN k x y) : hasB k x y = 1 := @if_pos _ (Classical.propDecidable _) h _ _ _
theorem hasB_f {k : Bk} {x y : Int} (h : ¬ hasN k x y) : hasB k x y = 0 := @if_neg _ (Classical.propDecidable _) h _ _ _
theorem hasB_01 (k : Bk) (x y : Int) : hasB k x y = 0 ∨ hasB k x y = 1 := by
  by_cases h : hasN k x y
  · exact Or.inr (hasB_p h)
  · exact Or.inl (hasB_f h)
theorem s_hasNeed {G : Gx} {Z : Zm} {b : Nat} {k : Bk} {x y : Int} (hb : atBook Z b) (hk : cB Z b k) (ho : kOk k) (hx : R32 x) (hy : R32 y) : ZM G 0 m_X0_hasNeed [.ref b, iv x, iv y] Z (fun r Z' => r = .inl (some (iv (hasB k x y))) ∧ Z' = Z) := by
  have hm := ho.m
  have hn := ho.n
  refine e_X0_hasNeed hb ?_
  suffices key : ∀ (m j : Nat), j + m = kM k → (∀ i, i < j → ¬ ((kE k i : Int) = x ∧ (kL k i : Int) = y)) → ZP G 0 m_X0_hasNeed 2 [some (.ref b), some (iv x), some (iv y), some (iv (j : Int))] [] Z (fun r Z' => r = .inl (some (iv (hasB k x y))) ∧ Z' = Z) from key (kM k) 0 (by omega) fun i hi => by omega
  intro m
  induction m with
  | zero =>
    intro j hj hno
    refine b_X0_hasNeed_2 hb ⟨by omega, by rw [hk.2.1]; omega, ?_⟩
    rw [hk.2.1, if_pos (by omega), hasB_f (fun ⟨i, h1, h2⟩ => hno i (by omega) h2)]
    exact ⟨rfl, rfl⟩
  | succ m ih =>
    intro j hj hno
    have hjk : j < kM k := by omega
    obtain ⟨e1, e2, e3⟩ := hk.2.2.2 j hjk
    have he := ho.e hjk
    have hl := ho.l hjk
    refine b_X0_hasNeed_2 hb ⟨by omega, by rw [hk.2.1]; omega, ?_⟩
    rw [hk.2.1, if_neg (by omega), Int.toNat_natCast, e1, e2]
    refine ⟨zIx_nat (by omega) (by omega), by omega, hx, ?_⟩
    have next : ¬ ((kE k j : Int) = x ∧ (kL k j : Int) = y) → ZP G 0 m_X0_hasNeed 2 [some (.ref b), some (iv x), some (iv y), some (iv ((j : Int) + 1))] [] Z (fun r Z' => r = .inl (some (iv (hasB k x y))) ∧ Z' = Z) := fun hne => ih (j + 1) (by omega) fun i hi => by
      by_cases h : i = j
      · rw [h]
        exact hne
      · exact hno i (by omega)
    by_cases h1 : (kE k j : Int) = x
    · rw [if_pos h1]
      refine ⟨by omega, hy, ?_⟩
      by_cases h2 : (kL k j : Int) = y
      · rw [if_pos h2, hasB_p ⟨j, hjk, h1, h2⟩]
        exact ⟨rfl, rfl⟩
      · rw [if_neg h2]
        exact next fun g => h2 g.2
    · rw [if_neg h1]
      exact next fun g => h1 g.1
theorem s_isGuessed {G : Gx} {Z : Zm} {b : Nat} {k : Bk} {t : Nat} (hb : atBook Z b) (hk : cB Z b k) (ho : kOk k) (ht : t < kN k) : ZM G 0 m_X0_isGuessed [.ref b, iv (t : Int)] Z (fun r Z' => r = .inl (some (iv (b2 (0 < kF k 10 t)))) ∧ Z' = Z) := by
  have hn := ho.n
  have h1 := hk.2.2.1 10 t (by omega) ht
  have h2 := ho.f (r := 10) (by omega) ht
  refine e_X0_isGuessed hb ⟨zIx_nat (by omega) (by omega), ?_, ?_, rfl⟩
  · rw [Int.toNat_natCast, h1]
    omega
  · rw [Int.toNat_natCast, h1, show b2 (¬ kF k 10 t ≤ 0) = b2 (0 < kF k 10 t) from b2_iff (by omega)]
theorem s_countGuessed {G : Gx} {Z : Zm} {b : Nat} {k : Bk} (hb : atBook Z b) (hk : cB Z b k) (ho : kOk k) : ZM G 1 m_X0_countGuessed [.ref b] Z (fun r Z' => r = .inl (some (iv (zsum (fun t => b2 (0 < kF k 10 t)) (kN k)))) ∧ Z' = Z) := by
  have hn := ho.n
  refine e_X0_countGuessed hb ?_
  suffices key : ∀ (m j : Nat), j + m = kN k → ZP G 1 m_X0_countGuessed 4 [some (.ref b), some (iv (zsum (fun t => b2 (0 < kF k 10 t)) j)), some (iv (j : Int))] [] Z (fun r Z' => r = .inl (some (iv (zsum (fun t => b2 (0 < kF k 10 t)) (kN k)))) ∧ Z' = Z) from key (kN k) 0 (by omega)
  intro m
  induction m with
  | zero =>
    intro j hj
    refine b_X0_countGuessed_4 hb ⟨by omega, by rw [hk.1]; omega, ?_⟩
    rw [hk.1, if_pos (by omega), show j = kN k by omega]
    exact ⟨rfl, rfl⟩
  | succ m ih =>
    intro j hj
    refine b_X0_countGuessed_4 hb ⟨by omega, by rw [hk.1]; omega, ?_⟩
    rw [hk.1, if_neg (by omega)]
    refine zKf (s_isGuessed hb hk ho (by omega)) (b_X0_countGuessed_17 hb ⟨b01_r (b2_01 _), ?_⟩)
    have h3 := ih (j + 1) (by omega)
    rw [zsum_s] at h3
    by_cases h : 0 < kF k 10 j
    · rw [b2_p h] at h3 ⊢
      exact h3
    · rw [b2_f h, Int.add_zero] at h3
      rw [b2_f h]
      exact h3
theorem s_countWith {G : Gx} {Z : Zm} {b : Nat} {k : Bk} {r : Nat} {y : Int} (hb : atBook Z b) (hk : cB Z b k) (ho : kOk k) (hr : r < 12) (hy : R32 y) : ZM G 0 m_X0_countWith [.ref b, iv (r : Int), iv y] Z (fun q Z' => q = .inl (some (iv (zsum (fun t => if kF k r t = y then 1 else 0) (kN k)))) ∧ Z' = Z) := by
  have hn := ho.n
  refine e_X0_countWith hb ?_
  suffices key : ∀ (m j : Nat), j + m = kN k → ZP G 0 m_X0_countWith 5 [some (.ref b), some (iv (r : Int)), some (iv y), some (iv (zsum (fun t => if kF k r t = y then 1 else 0) j)), some (iv (j : Int))] [] Z (fun q Z' => q = .inl (some (iv (zsum (fun t => if kF k r t = y then 1 else 0) (kN k)))) ∧ Z' = Z) from key (kN k) 0 (by omega)
  intro m
  induction m with
  | zero =>
    intro j hj
    refine b_X0_countWith_5 hb ⟨by omega, by rw [hk.1]; omega, ?_⟩
    rw [hk.1, if_pos (by omega), show j = kN k by omega]
    exact ⟨rfl, rfl⟩
  | succ m ih =>
    intro j hj
    have h1 := hk.2.2.1 r j hr (by omega)
    have h2 := ho.f hr (t := j) (by omega)
    refine b_X0_countWith_5 hb ⟨by omega, by rw [hk.1]; omega, ?_⟩
    rw [hk.1, if_neg (by omega), Int.toNat_natCast, Int.toNat_natCast, h1]
    refine ⟨zIx_nat hr (by omega), zIx_nat (by omega) (by omega), by omega, hy, ?_⟩
    have h3 := ih (j + 1) (by omega)
    rw [zsum_s] at h3
    by_cases h : kF k r j = y
    · rw [if_pos h] at h3 ⊢
      exact h3
    · rw [if_neg h, Int.add_zero] at h3
      rw [if_neg h]
      exact h3
theorem s_hasNoLags {G : Gx} {Z : Zm} {b : Nat} {k : Bk} (hb : atBook Z b) (hk : cB Z b k) (ho : kOk k) : ZM G 0 m_X0_hasNoLags [.ref b] Z (fun q Z' => (q = .inl (some (iv 1)) ∧ (∀ j, j < kM k → kG k j = 0) ∨ q = .inl (some (iv 0)) ∧ ¬ ∀ j, j < kM k → kG k j = 0) ∧ Z' = Z) := by
  have hm := ho.m
  refine e_X0_hasNoLags hb ?_
  suffices key : ∀ (m j : Nat), j + m = kM k → (∀ i, i < j → kG k i = 0) → ZP G 0 m_X0_hasNoLags 2 [some (.ref b), some (iv (j : Int))] [] Z (fun q Z' => (q = .inl (some (iv 1)) ∧ (∀ j, j < kM k → kG k j = 0) ∨ q = .inl (some (iv 0)) ∧ ¬ ∀ j, j < kM k → kG k j = 0) ∧ Z' = Z) from key (kM k) 0 (by omega) fun i hi => by omega
  intro m
  induction m with
  | zero =>
    intro j hj hno
    refine b_X0_hasNoLags_2 hb ⟨by omega, by rw [hk.2.1]; omega, ?_⟩
    rw [hk.2.1, if_pos (by omega)]
    exact ⟨Or.inl ⟨rfl, fun i hi => hno i (by omega)⟩, rfl⟩
  | succ m ih =>
    intro j hj hno
    have hjk : j < kM k := by omega
    obtain ⟨e1, e2, e3⟩ := hk.2.2.2 j hjk
    have hg := ho.g hjk
    refine b_X0_hasNoLags_2 hb ⟨by omega, by rw [hk.2.1]; omega, ?_⟩
    rw [hk.2.1, if_neg (by omega), Int.toNat_natCast, e3]
    refine ⟨zIx_nat (by omega) (by omega), by omega, ?_⟩
    by_cases h : kG k j = 0
    · rw [if_pos h]
      exact ih (j + 1) (by omega) fun i hi => by
        by_cases h9 : i = j
        · rw [h9]
          exact h
        · exact hno i (by omega)
    · rw [if_neg h]
      exact ⟨Or.inr ⟨rfl, fun g => h (g j hjk)⟩, rfl⟩
theorem s_sumOfLengths {G : Gx} {Z : Zm} {b : Nat} {k : Bk} (hb : atBook Z b) (hk : cB Z b k) (ho : kOk k) : ZM G 0 m_X0_sumOfLengths [.ref b] Z (fun q Z' => q = .inl (some (iv (zsum (kF k 0) (kN k)))) ∧ Z' = Z) := by
  have hn := ho.n
  refine e_X0_sumOfLengths hb ?_
  suffices key : ∀ (m j : Nat), j + m = kN k → ZP G 0 m_X0_sumOfLengths 4 [some (.ref b), some (iv (zsum (kF k 0) j)), some (iv (j : Int))] [] Z (fun q Z' => q = .inl (some (iv (zsum (kF k 0) (kN k)))) ∧ Z' = Z) from key (kN k) 0 (by omega)
  intro m
  induction m with
  | zero =>
    intro j hj
    refine b_X0_sumOfLengths_4 hb ⟨by omega, by rw [hk.1]; omega, ?_⟩
    rw [hk.1, if_pos (by omega), show j = kN k by omega]
    exact ⟨rfl, rfl⟩
  | succ m ih =>
    intro j hj
    have h1 := hk.2.2.1 0 j (by omega) (by omega)
    refine b_X0_sumOfLengths_4 hb ⟨by omega, by rw [hk.1]; omega, ?_⟩
    rw [hk.1, if_neg (by omega), Int.toNat_natCast, h1]
    refine ⟨zIx_nat (by omega) (by omega), ?_⟩
    exact ih (j + 1) (by omega)
def canL (k : Bk) (t : Nat) (x : Int) : Prop := kF k 8 t < x ∧ (0 < kF k 10 t → kF k 10 t ≤ x ∧ x ≤ kF k 11 t)
theorem s_canBeLong {G : Gx} {Z : Zm} {b : Nat} {k : Bk} {t : Nat} {x : Int} (hb : atBook Z b) (hk : cB Z b k) (ho : kOk k) (ht : t < kN k) (hx : R32 x) : ZM G 1 m_X0_canBeLong [.ref b, iv (t : Int), iv x] Z (fun r Z' => (r = .inl (some (iv 1)) ∧ canL k t x ∨ r = .inl (some (iv 0)) ∧ ¬ canL k t x) ∧ Z' = Z) := by
  have hn := ho.n
  have h8 := hk.2.2.1 8 t (by omega) ht
  have h10 := hk.2.2.1 10 t (by omega) ht
  have h11 := hk.2.2.1 11 t (by omega) ht
  have f8 := ho.f (r := 8) (by omega) ht
  have f10 := ho.f (r := 10) (by omega) ht
  have f11 := ho.f (r := 11) (by omega) ht
  refine e_X0_canBeLong hb ⟨zIx_nat (by omega) (by omega), hx, ?_, ?_⟩
  · rw [Int.toNat_natCast, h8]
    omega
  · rw [Int.toNat_natCast, h8]
    by_cases h : kF k 8 t < x
    · rw [if_pos h]
      refine zKf (s_isGuessed hb hk ho ht) (b_X0_canBeLong_20 hb ?_)
      rw [Int.toNat_natCast, h10, h11]
      refine ⟨b01_r (b2_01 _), fun _ => ⟨zIx_nat (by omega) (by omega), hx, by omega, fun _ => ⟨by omega, trivial⟩, trivial⟩, ?_, rfl⟩
      by_cases hc : canL k t x
      · refine Or.inl ⟨?_, hc⟩
        rw [b2_p (c := b2 (0 < kF k 10 t) = 0 ∨ _)]
        by_cases hg : 0 < kF k 10 t
        · have := hc.2 hg
          exact Or.inr (by omega)
        · exact Or.inl (b2_f hg)
      · refine Or.inr ⟨?_, hc⟩
        rw [b2_f (c := b2 (0 < kF k 10 t) = 0 ∨ _)]
        rintro (h1 | h1)
        · exact hc ⟨h, fun hg => by rw [b2_p hg] at h1; omega⟩
        · exact hc ⟨h, fun hg => by omega⟩
    · rw [if_neg h]
      exact ⟨Or.inr ⟨rfl, fun hc => h hc.1⟩, rfl⟩
def k0 : Bk := (0, 0, fun _ _ => 0, fun _ => 0, fun _ => 0, fun _ => 0)
theorem k0_ok : kOk k0 := ⟨⟨by decide, by decide⟩, fun t h => absurd h (Nat.not_lt_zero _), fun t h => absurd h (Nat.not_lt_zero _), fun i _ h => absurd h (Nat.not_lt_zero _), fun _ => 0, fun t h => absurd h (Nat.not_lt_zero _)⟩
abbrev zBk (b : Nat) : Nat → Prop := zB b (b + 19)
theorem s_makeEmpty {G : Gx} {Z : Zm} {b : Nat} (hb : atBook Z b) : ZM G 0 m_X0_makeEmpty [.ref b] Z (fun r Z' => r = .inl none ∧ zF (zBk b) 0 0 Z Z' ∧ cB Z' b k0) := by
  refine e_X0_makeEmpty hb ?_
  rintro _ rfl _ rfl
  refine ⟨rfl, (zF_I ⟨by omega, by omega⟩).trans (zF_I ⟨by omega, by omega⟩), ?_, ?_, fun r t _ h => absurd h (Nat.not_lt_zero _), fun t h => absurd h (Nat.not_lt_zero _)⟩
  · rw [zI_same, zu_other (by decide), zI_same, zu_same]
    rfl
  · rw [zI_same, zu_same]
    rfl
/-- a task more -/
def kAdd (k : Bk) (x : Int) : Bk := (kN k + 1, kM k, fun r t => if t = kN k then (if r = 0 then x else if r = 2 then -1 else 0) else kF k r t, kE k, kL k, kG k)
theorem s_addTask {G : Gx} {Z : Zm} {b : Nat} {k : Bk} {x : Int} (hb : atBook Z b) (hk : cB Z b k) (hn : kN k < 20) : ZM G 0 m_X0_addTask [.ref b, iv x] Z (fun r Z' => r = .inl (some (iv (kN k))) ∧ zF (zBk b) 0 0 Z Z' ∧ cB Z' b (kAdd k x)) := by
  refine e_X0_addTask hb ⟨by rw [hk.1]; omega, ?_⟩
  rw [hk.1, if_neg (by omega)]
  suffices key : ∀ (m j : Nat) (W : Zm), j + m = 12 → zF (zBk b) 0 0 Z W → (zI W b = zI Z b ∧ zI W (b + 15) = zI Z (b + 15) ∧ zI W (b + 16) = zI Z (b + 16) ∧ zI W (b + 17) = zI Z (b + 17)) → (∀ r t, r < 12 → t < kN k → zI W (b + 2 + r) t = kF k r t) → (∀ r, r < j → zI W (b + 2 + r) (kN k) = 0) → ZP G 0 m_X0_addTask 13 [some (.ref b), some (iv x), some (iv (kN k)), some (iv (j : Int))] [] W (fun r Z' => r = .inl (some (iv (kN k))) ∧ zF (zBk b) 0 0 Z Z' ∧ cB Z' b (kAdd k x)) from key 12 0 Z rfl zF.refl ⟨rfl, rfl, rfl, rfl⟩ hk.2.2.1 fun r hr => by omega
  intro m
  induction m with
  | zero =>
    intro j W hj f ⟨w1, w2, w3, w4⟩ hr h0
    refine b_X0_addTask_13 (hb.ext f.1) ⟨by omega, ?_⟩
    rw [if_pos (by omega), Int.toNat_natCast]
    refine ⟨zIx_nat hn (by omega), ?_⟩
    rintro _ rfl _ rfl _ rfl
    have f2 : zF (zBk b) 0 0 Z _ := ((f.trans (zF_I (a := b + 2) (f := zu (zI W (b + 2)) (kN k) x) ⟨by omega, by omega⟩)).trans (zF_I (a := b + 4) (f := zu (zI W (b + 4)) (kN k) (-1)) ⟨by omega, by omega⟩)).trans (zF_I (a := b) (f := zu (zI W b) 3 (zI W b 3 + 1)) ⟨by omega, by omega⟩)
    have e4 : zI (zSI W (b + 2) (zu (zI W (b + 2)) (kN k) x)) (b + 4) = zI W (b + 4) := zI_other (by omega)
    have e0 : zI (zSI (zSI W (b + 2) (zu (zI W (b + 2)) (kN k) x)) (b + 4) (zu (zI W (b + 4)) (kN k) (-1))) b = zI W b := by
      rw [zI_other (by omega), zI_other (by omega)]
    rw [e4, e0]
    refine ⟨rfl, f2, ?_, ?_, fun r t hr9 ht => ?_, fun i hi => ?_⟩
    · rw [zI_same, zu_same, w1, hk.1]
      rfl
    · rw [zI_same, zu_other (by decide), w1, hk.2.1]
      rfl
    · rw [zI_other (by omega)]
      show _ = (if t = kN k then (if r = 0 then x else if r = 2 then -1 else 0) else kF k r t)
      by_cases hr2 : r = 2
      · subst hr2
        rw [zI_same]
        by_cases htn : t = kN k
        · rw [htn, zu_same, if_pos rfl]
          rfl
        · rw [zu_other htn, if_neg htn]
          exact hr 2 t hr9 (by have : t < kN k + 1 := ht; omega)
      · rw [zI_other (by omega)]
        by_cases hr0 : r = 0
        · subst hr0
          rw [zI_same]
          by_cases htn : t = kN k
          · rw [htn, zu_same, if_pos rfl]
            rfl
          · rw [zu_other htn, if_neg htn]
            exact hr 0 t hr9 (by have : t < kN k + 1 := ht; omega)
        · rw [zI_other (by omega)]
          by_cases htn : t = kN k
          · rw [htn, if_pos rfl, if_neg hr0, if_neg hr2]
            exact h0 r (by omega)
          · rw [if_neg htn]
            exact hr r t hr9 (by have : t < kN k + 1 := ht; omega)
    · rw [zI_other (by omega), zI_other (by omega), zI_other (by omega), zI_other (by omega), zI_other (by omega), zI_other (by omega), zI_other (by omega), zI_other (by omega), zI_other (by omega), w2, w3, w4]
      exact hk.2.2.2 i hi
  | succ m ih =>
    intro j W hj f ⟨w1, w2, w3, w4⟩ hr h0
    refine b_X0_addTask_13 (hb.ext f.1) ⟨by omega, ?_⟩
    rw [if_neg (by omega), Int.toNat_natCast, Int.toNat_natCast]
    refine ⟨zIx_nat (by omega) (by omega), zIx_nat hn (by omega), ?_⟩
    rintro _ rfl
    refine ih (j + 1) _ (by omega) (f.trans (zF_I ⟨by omega, by omega⟩)) ⟨by rw [zI_other (by omega), w1], by rw [zI_other (by omega), w2], by rw [zI_other (by omega), w3], by rw [zI_other (by omega), w4]⟩ (fun r t hr9 ht => ?_) fun r hr9 => ?_
    · by_cases h : r = j
      · subst h
        rw [zI_same, zu_other (by omega)]
        exact hr r t hr9 ht
      · rw [zI_other (by omega)]
        exact hr r t hr9 ht
    · by_cases h : r = j
      · subst h
        rw [zI_same, zu_same]
      · rw [zI_other (by omega)]
        exact h0 r (by omega)
