set_option maxRecDepth 20000 in
theorem e_X11_hands {G : Gx} {Q : Rv → Zm → Prop} {Z : Zm} {x : Int} {y : Int} (hx : atAll Z) (h : ((R32 x) ∧ (if x < 0 then ((zSz Z < 1000000) ∧ Q (.inr "java/lang/IllegalArgumentException") (zC Z 13 0 6)) else ((if 3 ≤ x then ((zSz Z < 1000000) ∧ Q (.inr "java/lang/IllegalArgumentException") (zC Z 13 0 6)) else ((R32 y) ∧ (if y < 1 then ((zSz Z < 1000000) ∧ Q (.inr "java/lang/IllegalArgumentException") (zC Z 13 0 6)) else ((if y ≤ 5 then ((zIx x 3) ∧ ∀ Z7, Z7 = zSI Z 252 (zu (zI Z 252) x.toNat y) → Q (.inl (some (iv (zI Z 252 x.toNat)))) Z7) else ((zSz Z < 1000000) ∧ Q (.inr "java/lang/IllegalArgumentException") (zC Z 13 0 6))))))))))) : ZM G 12 m_X11_hands [.ref 0, iv x, iv y] Z Q := ZM.of [some (.ref 0), some (iv x), some (iv y), none] rfl <| z_iload_n (pc' := 1) (j := 1) (by decide +kernel) rfl rfl <| h.elim fun c1 h => z_if_lt (pc' := 4) (tgt := 19) (off := 18) (by decide +kernel) (by decide) rfl c1 (am_ite h (fun h => h.elim fun c2 h => z_throw (is := 315) (text := "there is no such skill, or the number is out of range") th_IllegalArgumentException (amT6 (i := 18) rfl) rfl (by decide +kernel) (by decide +kernel) (Or.inr ⟨(by decide +kernel), (by decide +kernel), (by decide +kernel)⟩) (by omega) (am_le rfl) c2 h) (fun h => z_iload_n (pc' := 5) (j := 1) (by decide +kernel) rfl rfl <| z_iconst (pc' := 6) (n := 3) (by decide +kernel) rfl <| z_icmp_ge (pc' := 9) (tgt := 19) (off := 13) (by decide +kernel) (by decide) rfl c1 (by decide : R32 3) (am_ite h (fun h => h.elim fun c3 h => z_throw (is := 315) (text := "there is no such skill, or the number is out of range") th_IllegalArgumentException (amT6 (i := 18) rfl) rfl (by decide +kernel) (by decide +kernel) (Or.inr ⟨(by decide +kernel), (by decide +kernel), (by decide +kernel)⟩) (by omega) (am_le rfl) c3 h) (fun h => z_iload_n (pc' := 10) (j := 2) (by decide +kernel) rfl rfl <| z_iconst (pc' := 11) (n := 1) (by decide +kernel) rfl <| h.elim fun c4 h => z_icmp_lt (pc' := 14) (tgt := 19) (off := 8) (by decide +kernel) (by decide) rfl c4 (by decide : R32 1) (am_ite h (fun h => h.elim fun c5 h => z_throw (is := 315) (text := "there is no such skill, or the number is out of range") th_IllegalArgumentException (amT6 (i := 18) rfl) rfl (by decide +kernel) (by decide +kernel) (Or.inr ⟨(by decide +kernel), (by decide +kernel), (by decide +kernel)⟩) (by omega) (am_le rfl) c5 h) (fun h => z_iload_n (pc' := 15) (j := 2) (by decide +kernel) rfl rfl <| z_iconst (pc' := 16) (n := 5) (by decide +kernel) rfl <| z_icmp_le (pc' := 19) (tgt := 30) (off := 14) (by decide +kernel) (by decide) rfl c4 (by decide : R32 5) (am_ite h (fun h => z_aload_n (pc' := 31) (j := 0) (by decide +kernel) rfl rfl <| z_getR (pc' := 34) (idx := 47) (ci := 11) (f := 6) (by decide +kernel) f_RX11_47 rfl hx.o.1 hx.o.2 hx.r6 rfl <| z_iload_n (pc' := 35) (j := 1) (by decide +kernel) rfl rfl <| h.elim fun c6 h => z_iaload (pc' := 36) (by decide +kernel) hx.a6 c6 rfl <| z_istore_n (pc' := 37) (j := 3) (ls' := [some (.ref 0), some (iv x), some (iv y), some (iv (zI Z 252 x.toNat))]) (by decide +kernel) (by decide) rfl rfl <| z_aload_n (pc' := 38) (j := 0) (by decide +kernel) rfl rfl <| z_getR (pc' := 41) (idx := 47) (ci := 11) (f := 6) (by decide +kernel) f_RX11_47 rfl hx.o.1 hx.o.2 hx.r6 rfl <| z_iload_n (pc' := 42) (j := 1) (by decide +kernel) rfl rfl <| z_iload_n (pc' := 43) (j := 2) (by decide +kernel) rfl rfl <| z_iastore (pc' := 44) (by decide +kernel) hx.a6 c6 rfl <| have h := h _ rfl; z_iload_n (pc' := 45) (j := 3) (by decide +kernel) rfl rfl <| z_ireturn (by decide +kernel) ⟨_, rfl, rfl⟩ h) (fun h => h.elim fun c8 h => z_throw (is := 315) (text := "there is no such skill, or the number is out of range") th_IllegalArgumentException (amT6 (i := 18) rfl) rfl (by decide +kernel) (by decide +kernel) (Or.inr ⟨(by decide +kernel), (by decide +kernel), (by decide +kernel)⟩) (by omega) (am_le rfl) c8 h))))))))
set_option maxRecDepth 20000 in
theorem e_X11_typedPlace {G : Gx} {Q : Rv → Zm → Prop} {Z : Zm} {t : Int} (hx : atAll Z) (h : (ZP G 0 m_X11_typedPlace 2 [some (.ref 0), some (iv t), some (iv 0)] [] Z Q)) : ZM G 0 m_X11_typedPlace [.ref 0, iv t] Z Q := ZM.of [some (.ref 0), some (iv t), none] rfl <| z_iconst (pc' := 1) (n := 0) (by decide +kernel) rfl <| z_istore_n (pc' := 2) (j := 2) (ls' := [some (.ref 0), some (iv t), some (iv 0)]) (by decide +kernel) (by decide) rfl rfl <| h
set_option maxRecDepth 20000 in
theorem b_X11_typedPlace_2 {G : Gx} {Q : Rv → Zm → Prop} {Z : Zm} {t : Int} {v2 : Int} (hx : atAll Z) (h : ((R32 v2) ∧ (R32 (zI Z 0 8)) ∧ (if (zI Z 0 8) ≤ v2 then (Q (.inl (some (iv 20))) Z) else ((zIx v2 20) ∧ (R32 (zI Z 253 v2.toNat)) ∧ (R32 t) ∧ (if (zI Z 253 v2.toNat) = t then (Q (.inl (some (iv v2))) Z) else (ZP G 0 m_X11_typedPlace 2 [some (.ref 0), some (iv t), some (iv (v2 + 1))] [] Z Q)))))) : ZP G 0 m_X11_typedPlace 2 [some (.ref 0), some (iv t), some (iv v2)] [] Z Q := z_iload_n (pc' := 3) (j := 2) (by decide +kernel) rfl rfl <| z_aload_n (pc' := 4) (j := 0) (by decide +kernel) rfl rfl <| z_getI (pc' := 7) (idx := 214) (ci := 11) (f := 8) (by decide +kernel) f_RX11_214 rfl hx.o.1 hx.o.2 rfl <| h.elim fun c1 h => h.elim fun c2 h => z_icmp_ge (pc' := 10) (tgt := 28) (off := 21) (by decide +kernel) (by decide) rfl c1 c2 (am_ite h (fun h => z_bipush (pc' := 30) (n := 20) (by decide +kernel) (by decide) rfl <| z_ireturn (by decide +kernel) ⟨_, rfl, rfl⟩ h) (fun h => z_aload_n (pc' := 11) (j := 0) (by decide +kernel) rfl rfl <| z_getR (pc' := 14) (idx := 51) (ci := 11) (f := 7) (by decide +kernel) f_RX11_51 rfl hx.o.1 hx.o.2 hx.r7 rfl <| z_iload_n (pc' := 15) (j := 2) (by decide +kernel) rfl rfl <| h.elim fun c3 h => z_iaload (pc' := 16) (by decide +kernel) hx.a7 c3 rfl <| z_iload_n (pc' := 17) (j := 1) (by decide +kernel) rfl rfl <| h.elim fun c4 h => h.elim fun c5 h => z_icmp_ne (pc' := 20) (tgt := 22) (off := 5) (by decide +kernel) (by decide) rfl c4 c5 (am_ite h (fun h => z_iload_n (pc' := 21) (j := 2) (by decide +kernel) rfl rfl <| z_ireturn (by decide +kernel) ⟨_, rfl, rfl⟩ h) (fun h => z_iinc (pc' := 25) (j := 2) (n := 1) (x := v2) (ls' := [some (.ref 0), some (iv t), some (iv (v2 + 1))]) (by decide +kernel) rfl (by decide) rfl rfl <| z_goto (tgt := 2) (off := -23) (by decide +kernel) (by decide) <| h))))
set_option maxRecDepth 20000 in
theorem e_X11_list {G : Gx} {Q : Rv → Zm → Prop} {Z : Zm} {t : Int} (hx : atAll Z) (h : ((R32 t) ∧ (R32 (zI Z 1 3)) ∧ (zSz Z < 1000000) ∧ (if 0 ≤ t ∧ t < zI Z 1 3 then (ZM G 11 m_X11_typedPlace [.ref 0, iv t] Z (zKc G 12 m_X11_list 10 [some (.ref 0), some (iv t)] [] Q)) else Q (.inr "java/util/NoSuchElementException") (zC Z 15 0 6)))) : ZM G 12 m_X11_list [.ref 0, iv t] Z Q := ZM.of [some (.ref 0), some (iv t)] rfl <| z_aload_n (pc' := 1) (j := 0) (by decide +kernel) rfl rfl <| z_iload_n (pc' := 2) (j := 1) (by decide +kernel) rfl rfl <| h.elim fun c1 h => h.elim fun c2 h => h.elim fun c3 h => z_callV (pc' := 5) (idx := 133) (mj := m_X11_checkTask) (av := [iv t]) (d' := 8) (by decide +kernel) rfl k_X11_checkTask l_RX11_133 rfl (by omega) (am_le rfl) rfl (am_le rfl) hx.o.1 hx.o.2 rfl <| zKt (s_checkTask hx c1 c2 c3) (am_ite h (fun h => z_aload_n (pc' := 6) (j := 0) (by decide +kernel) rfl rfl <| z_iload_n (pc' := 7) (j := 1) (by decide +kernel) rfl rfl <| z_callV (pc' := 10) (idx := 317) (mj := m_X11_typedPlace) (av := [iv t]) (d' := 11) (by decide +kernel) rfl k_X11_typedPlace l_RX11_317 rfl (by omega) (am_le rfl) rfl (am_le rfl) hx.o.1 hx.o.2 rfl h) (fun h => h))
set_option maxRecDepth 20000 in
theorem b_X11_list_10 {G : Gx} {Q : Rv → Zm → Prop} {Z : Zm} {t : Int} {s0 : Int} (hx : atAll Z) (h : ((R32 s0) ∧ (R32 (zI Z 0 8)) ∧ (if (zI Z 0 8) ≤ s0 then ((if 20 ≤ (zI Z 0 8) then (Q (.inl (some (iv (zI Z 0 8)))) Z) else ((zIx (zI Z 0 8) 20) ∧ ∀ Z5, Z5 = zSI Z 253 (zu (zI Z 253) (zI Z 0 8).toNat t) → ∀ Z6, Z6 = zSI Z5 0 (zu (zI Z5 0) 8 ((zI Z5 0 8) + 1)) → Q (.inl (some (iv (zI Z6 0 8)))) Z6))) else ((zSz Z < 1000000) ∧ Q (.inr "java/lang/IllegalArgumentException") (zC Z 13 0 6))))) : ZP G 12 m_X11_list 10 [some (.ref 0), some (iv t)] [iv s0] Z Q := z_aload_n (pc' := 11) (j := 0) (by decide +kernel) rfl rfl <| z_getI (pc' := 14) (idx := 214) (ci := 11) (f := 8) (by decide +kernel) f_RX11_214 rfl hx.o.1 hx.o.2 rfl <| h.elim fun c1 h => h.elim fun c2 h => z_icmp_ge (pc' := 17) (tgt := 28) (off := 14) (by decide +kernel) (by decide) rfl c1 c2 (am_ite h (fun h => z_aload_n (pc' := 29) (j := 0) (by decide +kernel) rfl rfl <| z_getI (pc' := 32) (idx := 214) (ci := 11) (f := 8) (by decide +kernel) f_RX11_214 rfl hx.o.1 hx.o.2 rfl <| z_bipush (pc' := 34) (n := 20) (by decide +kernel) (by decide) rfl <| z_icmp_ge (pc' := 37) (tgt := 57) (off := 23) (by decide +kernel) (by decide) rfl c2 (by decide : R32 20) (am_ite h (fun h => z_aload_n (pc' := 58) (j := 0) (by decide +kernel) rfl rfl <| z_getI (pc' := 61) (idx := 214) (ci := 11) (f := 8) (by decide +kernel) f_RX11_214 rfl hx.o.1 hx.o.2 rfl <| z_ireturn (by decide +kernel) ⟨_, rfl, rfl⟩ h) (fun h => z_aload_n (pc' := 38) (j := 0) (by decide +kernel) rfl rfl <| z_getR (pc' := 41) (idx := 51) (ci := 11) (f := 7) (by decide +kernel) f_RX11_51 rfl hx.o.1 hx.o.2 hx.r7 rfl <| z_aload_n (pc' := 42) (j := 0) (by decide +kernel) rfl rfl <| z_getI (pc' := 45) (idx := 214) (ci := 11) (f := 8) (by decide +kernel) f_RX11_214 rfl hx.o.1 hx.o.2 rfl <| z_iload_n (pc' := 46) (j := 1) (by decide +kernel) rfl rfl <| h.elim fun c4 h => z_iastore (pc' := 47) (by decide +kernel) hx.a7 c4 rfl <| have h := h _ rfl; z_aload_n (pc' := 48) (j := 0) (by decide +kernel) rfl rfl <| z_dup (pc' := 49) (by decide +kernel) rfl rfl <| z_getI (pc' := 52) (idx := 214) (ci := 11) (f := 8) (by decide +kernel) f_RX11_214 rfl hx.o.1 hx.o.2 rfl <| z_iconst (pc' := 53) (n := 1) (by decide +kernel) rfl <| z_iadd (pc' := 54) (by decide +kernel) rfl <| z_putI (pc' := 57) (idx := 214) (ci := 11) (f := 8) (by decide +kernel) f_RX11_214 (am_nf rfl rfl) rfl rfl rfl hx.o.1 hx.o.2 rfl <| have h := h _ rfl; z_aload_n (pc' := 58) (j := 0) (by decide +kernel) rfl rfl <| z_getI (pc' := 61) (idx := 214) (ci := 11) (f := 8) (by decide +kernel) f_RX11_214 rfl hx.o.1 hx.o.2 rfl <| z_ireturn (by decide +kernel) ⟨_, rfl, rfl⟩ h))) (fun h => h.elim fun c7 h => z_throw (is := 320) (text := "the task is on the list") th_IllegalArgumentException (amT6 (i := 30) rfl) rfl (by decide +kernel) (by decide +kernel) (Or.inr ⟨(by decide +kernel), (by decide +kernel), (by decide +kernel)⟩) (by omega) (am_le rfl) c7 h))
set_option maxRecDepth 20000 in
theorem e_X11_wipe {G : Gx} {Q : Rv → Zm → Prop} {Z : Zm}  (hx : atAll Z) (h : (∀ Z1, Z1 = zSI Z 0 (zu (zI Z 0) 8 0) → Q (.inl (some (iv (zI Z 0 8)))) Z1)) : ZM G 12 m_X11_wipe [.ref 0] Z Q := ZM.of [some (.ref 0), none] rfl <| z_aload_n (pc' := 1) (j := 0) (by decide +kernel) rfl rfl <| z_getI (pc' := 4) (idx := 214) (ci := 11) (f := 8) (by decide +kernel) f_RX11_214 rfl hx.o.1 hx.o.2 rfl <| z_istore_n (pc' := 5) (j := 1) (ls' := [some (.ref 0), some (iv (zI Z 0 8))]) (by decide +kernel) (by decide) rfl rfl <| z_aload_n (pc' := 6) (j := 0) (by decide +kernel) rfl rfl <| z_iconst (pc' := 7) (n := 0) (by decide +kernel) rfl <| z_putI (pc' := 10) (idx := 214) (ci := 11) (f := 8) (by decide +kernel) f_RX11_214 (am_nf rfl rfl) rfl rfl rfl hx.o.1 hx.o.2 rfl <| have h := h _ rfl; z_iload_n (pc' := 11) (j := 1) (by decide +kernel) rfl rfl <| z_ireturn (by decide +kernel) ⟨_, rfl, rfl⟩ h
set_option maxRecDepth 20000 in
theorem e_X12_hands {G : Gx} {Q : Rv → Zm → Prop} {Z : Zm} {m : Nat} {B : Nat} {x : Int} {y : Int} (hm : atModel Z m B) (h : ((R32 x) ∧ (0 ≤ x ∧ x ≤ 2 → (R32 y) ∧ True) ∧ ∀ Z11, Z11 = zSI Z m (zu (zI Z m) 19 (fC (b2 (¬ (0 ≤ x ∧ x ≤ 2) ∨ (¬ (1 ≤ y ∧ y ≤ 5)))) 0 0)) → (if 0 < fC (b2 (¬ (0 ≤ x ∧ x ≤ 2) ∨ (¬ (1 ≤ y ∧ y ≤ 5)))) 0 0 then (Q (.inl (some (iv 0))) Z11) else ((zIx x 3) ∧ ∀ Z13, Z13 = zSI Z11 (m + 9) (zu (zI Z11 (m + 9)) x.toNat y) → Q (.inl (some (iv (zI Z11 (m + 9) x.toNat)))) Z13)))) : ZM G 12 m_X12_hands [.ref m, iv x, iv y] Z Q := ZM.of [some (.ref m), some (iv x), some (iv y), none] rfl <| z_aload_n (pc' := 1) (j := 0) (by decide +kernel) rfl rfl <| z_iload_n (pc' := 2) (j := 1) (by decide +kernel) rfl rfl <| z_iconst (pc' := 3) (n := 0) (by decide +kernel) rfl <| z_iconst (pc' := 4) (n := 2) (by decide +kernel) rfl <| h.elim fun c1 h => z_callS (pc' := 7) (idx := 68) (mj := m_X12_in) (av := [iv x, iv 0, iv 2]) (d' := 0) (by decide +kernel) rfl k_X12_in l_RX12_68 rfl (by omega) (am_le rfl) rfl (am_le rfl) rfl <| zKf (s_in c1 (by decide : R32 0) (by decide : R32 2)) <| h.elim fun g7 h => am_use (fun k9 => z_ifB_eq (pc' := 10) (tgt := 19) (off := 12) (by decide +kernel) (by decide) rfl (am_ite2 (fun q10 => have h := g7 q10; z_iload_n (pc' := 11) (j := 2) (by decide +kernel) rfl rfl <| z_iconst (pc' := 12) (n := 1) (by decide +kernel) rfl <| z_iconst (pc' := 13) (n := 5) (by decide +kernel) rfl <| h.elim fun c2 h => z_callS (pc' := 16) (idx := 68) (mj := m_X12_in) (av := [iv y, iv 1, iv 5]) (d' := 0) (by decide +kernel) rfl k_X12_in l_RX12_68 rfl (by omega) (am_le rfl) rfl (am_le rfl) rfl <| zKf (s_in c2 (by decide : R32 1) (by decide : R32 5)) <| am_use (fun k5 => z_ifB_ne (pc' := 19) (tgt := 23) (off := 7) (by decide +kernel) (by decide) rfl (am_ite2 (fun q6 => z_iconst (pc' := 24) (n := 0) (by decide +kernel) rfl <| (am_jp (P := fun z9 => ZP G 12 m_X12_hands 24 [some (.ref m), some (iv x), some (iv y), none] [iv z9, .ref m] _ Q) (b2_n q6) k5)) (fun q6 => z_iconst (pc' := 20) (n := 1) (by decide +kernel) rfl <| z_goto (tgt := 24) (off := 4) (by decide +kernel) (by decide) <| (am_jp (P := fun z9 => ZP G 12 m_X12_hands 24 [some (.ref m), some (iv x), some (iv y), none] [iv z9, .ref m] _ Q) (b2_nn q6) k5)))) <| (am_jp (P := fun z9 => ZP G 12 m_X12_hands 24 [some (.ref m), some (iv x), some (iv y), none] [iv z9, .ref m] _ Q) (b2_d1 q10) k9)) (fun q10 => z_iconst (pc' := 20) (n := 1) (by decide +kernel) rfl <| z_goto (tgt := 24) (off := 4) (by decide +kernel) (by decide) <| (am_jp (P := fun z9 => ZP G 12 m_X12_hands 24 [some (.ref m), some (iv x), some (iv y), none] [iv z9, .ref m] _ Q) (b2_d2 q10) k9)))) <| z_iconst (pc' := 25) (n := 0) (by decide +kernel) rfl <| z_iconst (pc' := 26) (n := 0) (by decide +kernel) rfl <| z_callV (pc' := 29) (idx := 133) (mj := m_X12_fails) (av := [iv (b2 (¬ (0 ≤ x ∧ x ≤ 2) ∨ (¬ (1 ≤ y ∧ y ≤ 5)))), iv 0, iv 0]) (d' := 0) (by decide +kernel) rfl k_X12_fails l_RX12_133 rfl (by omega) (am_le rfl) rfl (am_le rfl) hm.o.1 hm.o.2 rfl <| zKf (s_fails hm (b2_01 _) (Or.inl rfl) (Or.inl rfl)) <| have h := h _ rfl; z_ifB_eq (pc' := 32) (tgt := 34) (off := 5) (by decide +kernel) (by decide) rfl (am_ite h (fun h => z_iconst (pc' := 33) (n := 0) (by decide +kernel) rfl <| z_ireturn (by decide +kernel) ⟨_, rfl, rfl⟩ h) (fun h => z_aload_n (pc' := 35) (j := 0) (by decide +kernel) rfl rfl <| z_getR (pc' := 38) (idx := 27) (ci := 12) (f := 6) (by decide +kernel) f_RX12_27 rfl hm.o.1 hm.o.2 hm.r6 rfl <| z_iload_n (pc' := 39) (j := 1) (by decide +kernel) rfl rfl <| h.elim fun c12 h => z_iaload (pc' := 40) (by decide +kernel) hm.a6 c12 rfl <| z_istore_n (pc' := 41) (j := 3) (ls' := [some (.ref m), some (iv x), some (iv y), some (iv (zI (zSI Z m (zu (zI Z m) 19 (fC (b2 (¬ (0 ≤ x ∧ x ≤ 2) ∨ (¬ (1 ≤ y ∧ y ≤ 5)))) 0 0))) (m + 9) x.toNat))]) (by decide +kernel) (by decide) rfl rfl <| z_aload_n (pc' := 42) (j := 0) (by decide +kernel) rfl rfl <| z_getR (pc' := 45) (idx := 27) (ci := 12) (f := 6) (by decide +kernel) f_RX12_27 rfl hm.o.1 hm.o.2 hm.r6 rfl <| z_iload_n (pc' := 46) (j := 1) (by decide +kernel) rfl rfl <| z_iload_n (pc' := 47) (j := 2) (by decide +kernel) rfl rfl <| z_iastore (pc' := 48) (by decide +kernel) hm.a6 c12 rfl <| have h := h _ rfl; z_iload_n (pc' := 49) (j := 3) (by decide +kernel) rfl rfl <| z_ireturn (by decide +kernel) ⟨_, rfl, rfl⟩ h))
set_option maxRecDepth 20000 in
theorem e_X12_typedPlace {G : Gx} {Q : Rv → Zm → Prop} {Z : Zm} {m : Nat} {B : Nat} {t : Int} (hm : atModel Z m B) (h : (ZP G 0 m_X12_typedPlace 2 [some (.ref m), some (iv t), some (iv 0)] [] Z Q)) : ZM G 0 m_X12_typedPlace [.ref m, iv t] Z Q := ZM.of [some (.ref m), some (iv t), none] rfl <| z_iconst (pc' := 1) (n := 0) (by decide +kernel) rfl <| z_istore_n (pc' := 2) (j := 2) (ls' := [some (.ref m), some (iv t), some (iv 0)]) (by decide +kernel) (by decide) rfl rfl <| h
set_option maxRecDepth 20000 in
theorem b_X12_typedPlace_2 {G : Gx} {Q : Rv → Zm → Prop} {Z : Zm} {m : Nat} {B : Nat} {t : Int} {v2 : Int} (hm : atModel Z m B) (h : ((R32 v2) ∧ (R32 (zI Z m 8)) ∧ (if (zI Z m 8) ≤ v2 then (Q (.inl (some (iv 20))) Z) else ((zIx v2 20) ∧ (R32 (zI Z (m + 10) v2.toNat)) ∧ (R32 t) ∧ (if (zI Z (m + 10) v2.toNat) = t then (Q (.inl (some (iv v2))) Z) else (ZP G 0 m_X12_typedPlace 2 [some (.ref m), some (iv t), some (iv (v2 + 1))] [] Z Q)))))) : ZP G 0 m_X12_typedPlace 2 [some (.ref m), some (iv t), some (iv v2)] [] Z Q := z_iload_n (pc' := 3) (j := 2) (by decide +kernel) rfl rfl <| z_aload_n (pc' := 4) (j := 0) (by decide +kernel) rfl rfl <| z_getI (pc' := 7) (idx := 171) (ci := 12) (f := 8) (by decide +kernel) f_RX12_171 rfl hm.o.1 hm.o.2 rfl <| h.elim fun c1 h => h.elim fun c2 h => z_icmp_ge (pc' := 10) (tgt := 28) (off := 21) (by decide +kernel) (by decide) rfl c1 c2 (am_ite h (fun h => z_bipush (pc' := 30) (n := 20) (by decide +kernel) (by decide) rfl <| z_ireturn (by decide +kernel) ⟨_, rfl, rfl⟩ h) (fun h => z_aload_n (pc' := 11) (j := 0) (by decide +kernel) rfl rfl <| z_getR (pc' := 14) (idx := 30) (ci := 12) (f := 7) (by decide +kernel) f_RX12_30 rfl hm.o.1 hm.o.2 hm.r7 rfl <| z_iload_n (pc' := 15) (j := 2) (by decide +kernel) rfl rfl <| h.elim fun c3 h => z_iaload (pc' := 16) (by decide +kernel) hm.a7 c3 rfl <| z_iload_n (pc' := 17) (j := 1) (by decide +kernel) rfl rfl <| h.elim fun c4 h => h.elim fun c5 h => z_icmp_ne (pc' := 20) (tgt := 22) (off := 5) (by decide +kernel) (by decide) rfl c4 c5 (am_ite h (fun h => z_iload_n (pc' := 21) (j := 2) (by decide +kernel) rfl rfl <| z_ireturn (by decide +kernel) ⟨_, rfl, rfl⟩ h) (fun h => z_iinc (pc' := 25) (j := 2) (n := 1) (x := v2) (ls' := [some (.ref m), some (iv t), some (iv (v2 + 1))]) (by decide +kernel) rfl (by decide) rfl rfl <| z_goto (tgt := 2) (off := -23) (by decide +kernel) (by decide) <| h))))
set_option maxRecDepth 20000 in
theorem e_X12_list {G : Gx} {Q : Rv → Zm → Prop} {Z : Zm} {m : Nat} {B : Nat} {t : Int} (hm : atModel Z m B) (h : ((R32 t) ∧ (R32 (zI Z B 0 - 1)) ∧ (if 0 ≤ t ∧ t < zI Z B 0 then (ZM G 11 m_X12_typedPlace [.ref m, iv t] Z (zKc G 12 m_X12_list 25 [some (.ref m), some (iv t), none] [iv (b2 (¬ (0 ≤ t ∧ t < zI Z B 0))), .ref m] Q)) else (∀ Z7, Z7 = zSI Z m (zu (zI Z m) 19 (fC (b2 (¬ (0 ≤ t ∧ t < zI Z B 0))) 0 0)) → (if 0 < fC (b2 (¬ (0 ≤ t ∧ t < zI Z B 0))) 0 0 then (Q (.inl (some (iv 0))) Z7) else ((zIx (zI Z7 m 8) 20) ∧ ∀ Z9, Z9 = zSI Z7 (m + 10) (zu (zI Z7 (m + 10)) (zI Z7 m 8).toNat t) → ∀ Z10, Z10 = zSI Z9 m (zu (zI Z9 m) 8 ((zI Z9 m 8) + 1)) → Q (.inl (some (iv (zI Z10 m 8)))) Z10)))))) : ZM G 12 m_X12_list [.ref m, iv t] Z Q := ZM.of [some (.ref m), some (iv t), none] rfl <| z_aload_n (pc' := 1) (j := 0) (by decide +kernel) rfl rfl <| z_iload_n (pc' := 2) (j := 1) (by decide +kernel) rfl rfl <| h.elim fun c1 h => h.elim fun c2 h => z_callV (pc' := 5) (idx := 151) (mj := m_X12_isTask) (av := [iv t]) (d' := 1) (by decide +kernel) rfl k_X12_isTask l_RX12_151 rfl (by omega) (am_le rfl) rfl (am_le rfl) hm.o.1 hm.o.2 rfl <| zKf (s_isTask hm c1 c2) <| z_istore_n (pc' := 6) (j := 2) (ls' := [some (.ref m), some (iv t), some (iv (b2 (0 ≤ t ∧ t < zI Z B 0)))]) (by decide +kernel) (by decide) rfl rfl <| z_aload_n (pc' := 7) (j := 0) (by decide +kernel) rfl rfl <| z_iload_n (pc' := 8) (j := 2) (by decide +kernel) rfl rfl <| am_use (fun k5 => z_ifB_ne (pc' := 11) (tgt := 15) (off := 7) (by decide +kernel) (by decide) rfl (am_ite2 (fun q6 => z_iconst (pc' := 16) (n := 0) (by decide +kernel) rfl <| (am_jp (P := fun z9 => ZP G 12 m_X12_list 16 [some (.ref m), some (iv t), some (iv (b2 (0 ≤ t ∧ t < zI Z B 0)))] [iv z9, .ref m] _ Q) (b2_n q6) k5)) (fun q6 => z_iconst (pc' := 12) (n := 1) (by decide +kernel) rfl <| z_goto (tgt := 16) (off := 4) (by decide +kernel) (by decide) <| (am_jp (P := fun z9 => ZP G 12 m_X12_list 16 [some (.ref m), some (iv t), some (iv (b2 (0 ≤ t ∧ t < zI Z B 0)))] [iv z9, .ref m] _ Q) (b2_nn q6) k5)))) <| z_iload_n (pc' := 17) (j := 2) (by decide +kernel) rfl rfl <| z_ifB_eq (pc' := 20) (tgt := 34) (off := 17) (by decide +kernel) (by decide) rfl (am_ite h (fun h => z_aload_n (pc' := 21) (j := 0) (by decide +kernel) rfl rfl <| z_iload_n (pc' := 22) (j := 1) (by decide +kernel) rfl rfl <| z_callV (pc' := 25) (idx := 230) (mj := m_X12_typedPlace) (av := [iv t]) (d' := 11) (by decide +kernel) rfl k_X12_typedPlace l_RX12_230 rfl (by omega) (am_le rfl) rfl (am_le rfl) hm.o.1 hm.o.2 rfl (ZM.mono h (zKc_wk (wk_some (wk_some (wk_none wk_nil)))))) (fun h => z_iconst (pc' := 35) (n := 0) (by decide +kernel) rfl <| z_iconst (pc' := 36) (n := 0) (by decide +kernel) rfl <| z_callV (pc' := 39) (idx := 133) (mj := m_X12_fails) (av := [iv (b2 (¬ (0 ≤ t ∧ t < zI Z B 0))), iv 0, iv 0]) (d' := 0) (by decide +kernel) rfl k_X12_fails l_RX12_133 rfl (by omega) (am_le rfl) rfl (am_le rfl) hm.o.1 hm.o.2 rfl <| zKf (s_fails hm (b2_01 _) (Or.inl rfl) (Or.inl rfl)) <| have h := h _ rfl; z_ifB_eq (pc' := 42) (tgt := 44) (off := 5) (by decide +kernel) (by decide) rfl (am_ite h (fun h => z_iconst (pc' := 43) (n := 0) (by decide +kernel) rfl <| z_ireturn (by decide +kernel) ⟨_, rfl, rfl⟩ h) (fun h => z_aload_n (pc' := 45) (j := 0) (by decide +kernel) rfl rfl <| z_getR (pc' := 48) (idx := 30) (ci := 12) (f := 7) (by decide +kernel) f_RX12_30 rfl hm.o.1 hm.o.2 hm.r7 rfl <| z_aload_n (pc' := 49) (j := 0) (by decide +kernel) rfl rfl <| z_getI (pc' := 52) (idx := 171) (ci := 12) (f := 8) (by decide +kernel) f_RX12_171 rfl hm.o.1 hm.o.2 rfl <| z_iload_n (pc' := 53) (j := 1) (by decide +kernel) rfl rfl <| h.elim fun c8 h => z_iastore (pc' := 54) (by decide +kernel) hm.a7 c8 rfl <| have h := h _ rfl; z_aload_n (pc' := 55) (j := 0) (by decide +kernel) rfl rfl <| z_dup (pc' := 56) (by decide +kernel) rfl rfl <| z_getI (pc' := 59) (idx := 171) (ci := 12) (f := 8) (by decide +kernel) f_RX12_171 rfl hm.o.1 hm.o.2 rfl <| z_iconst (pc' := 60) (n := 1) (by decide +kernel) rfl <| z_iadd (pc' := 61) (by decide +kernel) rfl <| z_putI (pc' := 64) (idx := 171) (ci := 12) (f := 8) (by decide +kernel) f_RX12_171 (am_nf rfl rfl) rfl rfl rfl hm.o.1 hm.o.2 rfl <| have h := h _ rfl; z_aload_n (pc' := 65) (j := 0) (by decide +kernel) rfl rfl <| z_getI (pc' := 68) (idx := 171) (ci := 12) (f := 8) (by decide +kernel) f_RX12_171 rfl hm.o.1 hm.o.2 rfl <| z_ireturn (by decide +kernel) ⟨_, rfl, rfl⟩ h))))
set_option maxRecDepth 20000 in
theorem b_X12_list_25 {G : Gx} {Q : Rv → Zm → Prop} {Z : Zm} {m : Nat} {B : Nat} {t : Int} {s0 : Int} {s1 : Int} (hm : atModel Z m B) (h : ((R32 s0) ∧ (s1 = 0 ∨ s1 = 1) ∧ ∀ Z7, Z7 = zSI Z m (zu (zI Z m) 19 (fC s1 (b2 (¬ (20 ≤ s0))) 0)) → (if 0 < fC s1 (b2 (¬ (20 ≤ s0))) 0 then (Q (.inl (some (iv 0))) Z7) else ((zIx (zI Z7 m 8) 20) ∧ ∀ Z9, Z9 = zSI Z7 (m + 10) (zu (zI Z7 (m + 10)) (zI Z7 m 8).toNat t) → ∀ Z10, Z10 = zSI Z9 m (zu (zI Z9 m) 8 ((zI Z9 m 8) + 1)) → Q (.inl (some (iv (zI Z10 m 8)))) Z10)))) : ZP G 12 m_X12_list 25 [some (.ref m), some (iv t), none] [iv s0, iv s1, .ref m] Z Q := z_bipush (pc' := 27) (n := 20) (by decide +kernel) (by decide) rfl <| h.elim fun c1 h => am_use (fun k4 => z_icmp_ge (pc' := 30) (tgt := 34) (off := 7) (by decide +kernel) (by decide) rfl c1 (by decide : R32 20) (am_ite2 (fun q5 => z_iconst (pc' := 35) (n := 0) (by decide +kernel) rfl <| (am_jp (P := fun z9 => ZP G 12 m_X12_list 35 [some (.ref m), some (iv t), none] [iv z9, iv s1, .ref m] _ Q) (b2_n q5) k4)) (fun q5 => z_iconst (pc' := 31) (n := 1) (by decide +kernel) rfl <| z_goto (tgt := 35) (off := 4) (by decide +kernel) (by decide) <| (am_jp (P := fun z9 => ZP G 12 m_X12_list 35 [some (.ref m), some (iv t), none] [iv z9, iv s1, .ref m] _ Q) (b2_nn q5) k4)))) <| z_iconst (pc' := 36) (n := 0) (by decide +kernel) rfl <| h.elim fun c6 h => z_callV (pc' := 39) (idx := 133) (mj := m_X12_fails) (av := [iv s1, iv (b2 (¬ (20 ≤ s0))), iv 0]) (d' := 0) (by decide +kernel) rfl k_X12_fails l_RX12_133 rfl (by omega) (am_le rfl) rfl (am_le rfl) hm.o.1 hm.o.2 rfl <| zKf (s_fails hm c6 (b2_01 _) (Or.inl rfl)) <| have h := h _ rfl; z_ifB_eq (pc' := 42) (tgt := 44) (off := 5) (by decide +kernel) (by decide) rfl (am_ite h (fun h => z_iconst (pc' := 43) (n := 0) (by decide +kernel) rfl <| z_ireturn (by decide +kernel) ⟨_, rfl, rfl⟩ h) (fun h => z_aload_n (pc' := 45) (j := 0) (by decide +kernel) rfl rfl <| z_getR (pc' := 48) (idx := 30) (ci := 12) (f := 7) (by decide +kernel) f_RX12_30 rfl hm.o.1 hm.o.2 hm.r7 rfl <| z_aload_n (pc' := 49) (j := 0) (by decide +kernel) rfl rfl <| z_getI (pc' := 52) (idx := 171) (ci := 12) (f := 8) (by decide +kernel) f_RX12_171 rfl hm.o.1 hm.o.2 rfl <| z_iload_n (pc' := 53) (j := 1) (by decide +kernel) rfl rfl <| h.elim fun c8 h => z_iastore (pc' := 54) (by decide +kernel) hm.a7 c8 rfl <| have h := h _ rfl; z_aload_n (pc' := 55) (j := 0) (by decide +kernel) rfl rfl <| z_dup (pc' := 56) (by decide +kernel) rfl rfl <| z_getI (pc' := 59) (idx := 171) (ci := 12) (f := 8) (by decide +kernel) f_RX12_171 rfl hm.o.1 hm.o.2 rfl <| z_iconst (pc' := 60) (n := 1) (by decide +kernel) rfl <| z_iadd (pc' := 61) (by decide +kernel) rfl <| z_putI (pc' := 64) (idx := 171) (ci := 12) (f := 8) (by decide +kernel) f_RX12_171 (am_nf rfl rfl) rfl rfl rfl hm.o.1 hm.o.2 rfl <| have h := h _ rfl; z_aload_n (pc' := 65) (j := 0) (by decide +kernel) rfl rfl <| z_getI (pc' := 68) (idx := 171) (ci := 12) (f := 8) (by decide +kernel) f_RX12_171 rfl hm.o.1 hm.o.2 rfl <| z_ireturn (by decide +kernel) ⟨_, rfl, rfl⟩ h))
set_option maxRecDepth 20000 in
theorem e_X12_wipe {G : Gx} {Q : Rv → Zm → Prop} {Z : Zm} {m : Nat} {B : Nat} (hm : atModel Z m B) (h : (∀ Z1, Z1 = zSI Z m (zu (zI Z m) 19 0) → ∀ Z2, Z2 = zSI Z1 m (zu (zI Z1 m) 8 0) → Q (.inl (some (iv (zI Z1 m 8)))) Z2)) : ZM G 12 m_X12_wipe [.ref m] Z Q := ZM.of [some (.ref m), none] rfl <| z_aload_n (pc' := 1) (j := 0) (by decide +kernel) rfl rfl <| z_iconst (pc' := 2) (n := 0) (by decide +kernel) rfl <| z_putI (pc' := 5) (idx := 60) (ci := 12) (f := 19) (by decide +kernel) f_RX12_60 (am_nf rfl rfl) rfl rfl rfl hm.o.1 hm.o.2 rfl <| have h := h _ rfl; z_aload_n (pc' := 6) (j := 0) (by decide +kernel) rfl rfl <| z_getI (pc' := 9) (idx := 171) (ci := 12) (f := 8) (by decide +kernel) f_RX12_171 rfl hm.o.1 hm.o.2 rfl <| z_istore_n (pc' := 10) (j := 1) (ls' := [some (.ref m), some (iv (zI (zSI Z m (zu (zI Z m) 19 0)) m 8))]) (by decide +kernel) (by decide) rfl rfl <| z_aload_n (pc' := 11) (j := 0) (by decide +kernel) rfl rfl <| z_iconst (pc' := 12) (n := 0) (by decide +kernel) rfl <| z_putI (pc' := 15) (idx := 171) (ci := 12) (f := 8) (by decide +kernel) f_RX12_171 (am_nf rfl rfl) rfl rfl rfl hm.o.1 hm.o.2 rfl <| have h := h _ rfl; z_iload_n (pc' := 16) (j := 1) (by decide +kernel) rfl rfl <| z_ireturn (by decide +kernel) ⟨_, rfl, rfl⟩ h
/-! ===== hands, the typed list ===== -/
theorem IC.hand {Z : Zm} {σ : St} {f a : Nat → Int} (h : IC Z σ) (hf : ∀ s, s < 3 → f s = a s) : IC (zSI Z 252 f) (stA σ a) := by
  have fr : zF (fun b => b = 252) 0 0 Z (zSI Z 252 f) := zF_I rfl
  have e : ∀ b, b ≠ 252 → zI (zSI Z 252 f) b = zI Z b := fun b g1 => zI_other g1
  obtain ⟨h0, h1', h2', h3, h4, h5, h6, h7, h8, h9⟩ := h
  refine ⟨h0.ext fr.1, h1'.fr h0 fr (by omega) (fun a g1 g2 => by omega), h2'.fr h0 fr (fun a g1 g2 => by omega), ?_, cN.keep h4 h0 fr (fun a g1 g2 => by omega), fun c q g1 g2 => ?_, ?_, ?_, ?_, ?_⟩
  · rw [e 231 (by omega), e 232 (by omega)]
    exact h3
  · rw [e (246 + c) (by omega)]
    exact h5 c q g1 g2
  · rw [zI_same]
    exact hf
  · rw [e 0 (by omega), e 253 (by omega)]
    exact h7
  · rw [cPl, e 256 (by omega), e 257 (by omega), e 259 (by omega), e 260 (by omega), e 261 (by omega), e 264 (by omega), e 265 (by omega)]
    exact h8
  · rw [e 0 (by omega), e 276 (by omega)]
    exact h9
theorem IC.list {Z : Zm} {σ : St} {f g : Nat → Int} {n : Nat} {t : Nat → Nat} (h : IC Z σ) (h1 : g 8 = (n : Int)) (h2 : ∀ i, i < n → f i = (t i : Int)) (h3 : g 14 = zI Z 0 14) : IC (zSI (zSI Z 253 f) 0 g) (stT σ n t) := by
  have fr : zF (fun b => b = 253 ∨ b = 0) 0 0 Z (zSI (zSI Z 253 f) 0 g) := (zF_I (Or.inl rfl)).trans (zF_I (Or.inr rfl))
  have e : ∀ b, b ≠ 253 → b ≠ 0 → zI (zSI (zSI Z 253 f) 0 g) b = zI Z b := fun b g1 g2 => by rw [zI_other g2, zI_other g1]
  obtain ⟨h0, h1', h2', h3', h4, h5, h6, h7, h8, h9⟩ := h
  refine ⟨h0.ext fr.1, h1'.fr h0 fr (by omega) (fun a g1 g2 => by omega), h2'.fr h0 fr (fun a g1 g2 => by omega), ?_, cN.keep h4 h0 fr (fun a g1 g2 => by omega), fun c q g1 g2 => ?_, ?_, ⟨?_, fun i hi => ?_⟩, ?_, ?_⟩
  · rw [e 231 (by omega) (by omega), e 232 (by omega) (by omega)]
    exact h3'
  · rw [e (246 + c) (by omega) (by omega)]
    exact h5 c q g1 g2
  · rw [e 252 (by omega) (by omega)]
    exact h6
  · rw [zI_same]
    exact h1
  · rw [zI_other (by omega), zI_same]
    exact h2 i hi
  · rw [cPl, e 256 (by omega) (by omega), e 257 (by omega) (by omega), e 259 (by omega) (by omega), e 260 (by omega) (by omega), e 261 (by omega) (by omega), e 264 (by omega) (by omega), e 265 (by omega) (by omega)]
    exact h8
  · rw [zI_same, h3, e 276 (by omega) (by omega)]
    exact h9
theorem IMb.hand {Z : Zm} {B : Nat} {σ : St} {f a : Nat → Int} (h : IMb Z B σ) (ho : okS σ) (hf : ∀ s, s < 3 → f s = a s) : IMb (zSI Z 309 f) B (stA σ a) := by
  have e : ∀ b, b ≠ 309 → zI (zSI Z 309 f) b = zI Z b := fun b g => zI_other g
  refine h.up (σ' := stA σ a) ⟨Nat.le_refl _, fun _ _ => ⟨rfl, rfl, rfl⟩⟩ (fun b g1 g2 => e b (by omega)) rfl rfl rfl (by rw [e 300 (by omega)]) (by rw [e 300 (by omega), e 303 (by omega)]; exact h.tx) (fun c q g1 g2 => by rw [e (305 + c) (by omega)]; exact h.wk c q g1 g2) (by rw [zI_same]; exact hf) (by rw [e 300 (by omega), e 310 (by omega)]; exact h.ty) ?_ (by rw [e 300 (by omega), e 314 (by omega)]; exact h.kb) ho.k ho.h
  rw [mPl, e 300 (by omega), e 313 (by omega), e 311 (by omega), e 312 (by omega)]
  exact h.pl
theorem IMb.list {Z : Zm} {B : Nat} {σ : St} {f g : Nat → Int} {n : Nat} {t : Nat → Nat} (h : IMb Z B σ) (ho : okS σ) (h8 : g 8 = (n : Int)) (hf : ∀ i, i < n → f i = (t i : Int)) (hg : ∀ i, i < 17 → i ≠ 8 → g i = zI Z 300 i) : IMb (zSI (zSI Z 310 f) 300 g) B (stT σ n t) := by
  have e : ∀ b, b ≠ 310 → b ≠ 300 → zI (zSI (zSI Z 310 f) 300 g) b = zI Z b := fun b g1 g2 => by rw [zI_other g2, zI_other g1]
  refine h.up (σ' := stT σ n t) ⟨Nat.le_refl _, fun _ _ => ⟨rfl, rfl, rfl⟩⟩ (fun b g1 g2 => e b (by omega) (by omega)) rfl rfl rfl (by rw [zI_same, hg 2 (by omega) (by omega)]) (by rw [zI_same, hg 4 (by omega) (by omega), e 303 (by omega) (by omega)]; exact h.tx) (fun c q g1 g2 => by rw [e (305 + c) (by omega) (by omega)]; exact h.wk c q g1 g2) (by rw [e 309 (by omega) (by omega)]; exact h.ha) ⟨by rw [zI_same]; exact h8, fun i hi => by rw [zI_other (by omega), zI_same]; exact hf i hi⟩ ?_ (by rw [zI_same, hg 16 (by omega) (by omega), e 314 (by omega) (by omega)]; exact h.kb) ho.k ho.h
  rw [mPl, zI_same, hg 9 (by omega) (by omega), hg 10 (by omega) (by omega), hg 14 (by omega) (by omega), e 313 (by omega) (by omega), e 311 (by omega) (by omega), e 312 (by omega) (by omega)]
  exact h.pl
/-- the place of a task in the typed list; 20 -/
def isTp (σ : St) (t : Nat) (x : Int) : Prop := (x = 20 ∧ ∀ i, i < sTn σ → sTs σ i ≠ t) ∨ ∃ i : Nat, i < sTn σ ∧ x = (i : Int) ∧ sTs σ i = t ∧ ∀ j, j < i → sTs σ j ≠ t
theorem isTp_eq {σ : St} {t : Nat} {x y : Int} (h : isTp σ t x) (h' : isTp σ t y) : x = y := by
  rcases h with ⟨h1, h2⟩ | ⟨i, h1, h2, h3, h4⟩
  · rcases h' with ⟨g1, g2⟩ | ⟨j, g1, g2, g3, g4⟩
    · omega
    · exact absurd g3 (h2 j g1)
  · rcases h' with ⟨g1, g2⟩ | ⟨j, g1, g2, g3, g4⟩
    · exact absurd h3 (g2 i h1)
    · by_cases c : i < j
      · exact absurd h3 (g4 i c)
      · by_cases d : j < i
        · exact absurd g3 (h4 j d)
        · omega
theorem isTp.r {σ : St} (ho : okT σ) {t : Nat} {x : Int} (h : isTp σ t x) : 0 ≤ x ∧ x ≤ 20 := by
  have := ho.2.2.2.2.2.1.1
  rcases h with ⟨h1, h2⟩ | ⟨i, h1, h2, h3, h4⟩ <;> omega
noncomputable def vTp (σ : St) (t : Nat) : Int := Classical.epsilon (isTp σ t)
theorem vTp_of {σ : St} {t : Nat} {x : Int} (h : isTp σ t x) : x = vTp σ t := isTp_eq h (Classical.epsilon_spec (p := isTp σ t) ⟨x, h⟩)
theorem okS.t {σ : St} (h : okS σ) : sTn σ ≤ 20 := h.2.2.2.2.2.1.1
theorem s_typedPlace {G : Gx} {Z : Zm} {σ : St} {t : Nat} (h : IC Z σ) (ho : okS σ) (ht : t < 1000) : ZM G 0 m_X11_typedPlace [.ref 0, iv (t : Int)] Z (fun r W => (r = .inl (some (iv (vTp σ t))) ∧ isTp σ t (vTp σ t)) ∧ W = Z) := by
  have hn := ho.t
  obtain ⟨t1, t2⟩ := h.2.2.2.2.2.2.2.1
  refine e_X11_typedPlace h.1 ?_
  suffices key : ∀ j, j ≤ sTn σ → (∀ i, i < j → sTs σ i ≠ t) → ZP G 0 m_X11_typedPlace 2 [some (.ref 0), some (iv (t : Int)), some (iv (j : Int))] [] Z (fun r W => (r = .inl (some (iv (vTp σ t))) ∧ isTp σ t (vTp σ t)) ∧ W = Z) from key 0 (Nat.zero_le _) fun i hi => absurd hi (Nat.not_lt_zero _)
  refine am_up (n := sTn σ) fun j hj ih hl => ?_
  refine b_X11_typedPlace_2 h.1 ⟨by omega, by rw [t1]; omega, ?_⟩
  rw [t1]
  by_cases c : j < sTn σ
  · rw [if_neg (by omega), Int.toNat_natCast, t2 j c]
    have hb := ho.2.2.2.2.2.1.2.1 j c
    have hN := ho.1.n
    refine ⟨zIx_nat (by omega) (by omega), by omega, by omega, ?_⟩
    by_cases d : sTs σ j = t
    · rw [if_pos (by omega)]
      have q : isTp σ t (j : Int) := Or.inr ⟨j, c, rfl, d, hl⟩
      have e := vTp_of q
      rw [e] at q
      exact ⟨⟨by rw [e], q⟩, rfl⟩
    · rw [if_neg (by omega)]
      refine ih c fun i hi => ?_
      by_cases e : i = j
      · rw [e]
        exact d
      · exact hl i (by omega)
  · rw [if_pos (by omega)]
    have q : isTp σ t 20 := Or.inl ⟨rfl, fun i hi => hl i (by omega)⟩
    refine ⟨?_, rfl⟩
    rw [show (20 : Int) = vTp σ t from vTp_of q]
    rw [vTp_of q] at q
    exact ⟨rfl, q⟩
theorem s_mtypedPlace {G : Gx} {Z : Zm} {B : Nat} {σ : St} {t : Nat} (h : IMb Z B σ) (ho : okT σ) (ht : t < 1000) : ZM G 0 m_X12_typedPlace [.ref 300, iv (t : Int)] Z (fun r W => (r = .inl (some (iv (vTp σ t))) ∧ isTp σ t (vTp σ t)) ∧ W = Z) := by
  have hn := ho.t
  obtain ⟨t1, t2⟩ := h.ty
  refine e_X12_typedPlace h.1 ?_
  suffices key : ∀ j, j ≤ sTn σ → (∀ i, i < j → sTs σ i ≠ t) → ZP G 0 m_X12_typedPlace 2 [some (.ref 300), some (iv (t : Int)), some (iv (j : Int))] [] Z (fun r W => (r = .inl (some (iv (vTp σ t))) ∧ isTp σ t (vTp σ t)) ∧ W = Z) from key 0 (Nat.zero_le _) fun i hi => absurd hi (Nat.not_lt_zero _)
  refine am_up (n := sTn σ) fun j hj ih hl => ?_
  refine b_X12_typedPlace_2 h.1 ⟨by omega, by rw [t1]; omega, ?_⟩
  rw [t1]
  by_cases c : j < sTn σ
  · rw [if_neg (by omega), Int.toNat_natCast, show 300 + 10 = 310 from rfl, t2 j c]
    have hb := ho.2.2.2.2.2.1.2.1 j c
    have hN := ho.1.n
    refine ⟨zIx_nat (by omega) (by omega), by omega, by omega, ?_⟩
    by_cases d : sTs σ j = t
    · rw [if_pos (by omega)]
      have q : isTp σ t (j : Int) := Or.inr ⟨j, c, rfl, d, hl⟩
      have e := vTp_of q
      rw [e] at q
      exact ⟨⟨by rw [e], q⟩, rfl⟩
    · rw [if_neg (by omega)]
      refine ih c fun i hi => ?_
      by_cases e : i = j
      · rw [e]
        exact d
      · exact hl i (by omega)
  · rw [if_pos (by omega)]
    have q : isTp σ t 20 := Or.inl ⟨rfl, fun i hi => hl i (by omega)⟩
    refine ⟨?_, rfl⟩
    rw [show (20 : Int) = vTp σ t from vTp_of q]
    rw [vTp_of q] at q
    exact ⟨rfl, q⟩
noncomputable def o_hands (σ : St) (x y : Int) : Ou := cIf ((0 ≤ x ∧ x ≤ 2) ∧ 1 ≤ y ∧ y ≤ 5) (0, sA σ x.toNat, stA σ (zu (sA σ) x.toNat y)) (1, 0, σ)
noncomputable def o_list (σ : St) (t : Int) : Ou := cIf (0 ≤ t ∧ t < kN (sK σ)) (cIf (∀ i, i < sTn σ → sTs σ i ≠ t.toNat) (0, ((sTn σ + 1 : Nat) : Int), stT σ (sTn σ + 1) (zu (sTs σ) (sTn σ) t.toNat)) (2, 0, σ)) (1, 0, σ)
noncomputable def o_wipe (σ : St) : Ou := (0, (sTn σ : Int), stT σ 0 (sTs σ))
theorem c_hands {G : Gx} {Z : Zm} {σ : St} {x y : Int} (h : IC Z σ) (hz : zSz Z < 1000000) (hx : R32 x) (hy : R32 y) : ZM G 12 m_X11_hands [.ref 0, iv x, iv y] Z (rC Z (E3 eA "" "") iv (o_hands σ x y)) := by
  have no : ∀ P : Prop, (P → ¬ ((0 ≤ x ∧ x ≤ 2) ∧ 1 ≤ y ∧ y ≤ 5)) → P → (zSz Z < 1000000) ∧ rC Z (E3 eA "" "") iv (o_hands σ x y) (.inr "java/lang/IllegalArgumentException") (zC Z 13 0 6) := fun P hP p => by
    unfold o_hands
    rw [cIf_f (hP p)]
    exact ⟨hz, rC.no h (by decide) rfl⟩
  refine e_X11_hands h.1 ⟨hx, ?_⟩
  by_cases c1 : x < 0
  · rw [if_pos c1]
    exact no _ (fun g => by omega) c1
  rw [if_neg c1]
  by_cases c2 : 3 ≤ x
  · rw [if_pos c2]
    exact no _ (fun g => by omega) c2
  rw [if_neg c2]
  refine ⟨hy, ?_⟩
  by_cases c3 : y < 1
  · rw [if_pos c3]
    exact no _ (fun g => by omega) c3
  rw [if_neg c3]
  by_cases c4 : y ≤ 5
  · rw [if_pos c4]
    refine ⟨⟨by omega, by omega, by decide⟩, ?_⟩
    rintro _ rfl
    have ha := h.2.2.2.2.2.2.1
    unfold o_hands
    rw [cIf_p (by omega)]
    refine rC.ok (h.hand fun s hs => ?_) (zF_cA (by decide)).c1 (ha _ (by omega))
    by_cases c : s = x.toNat
    · rw [c, zu_same, zu_same]
    · rw [zu_other c, zu_other c]
      exact ha s hs
  · rw [if_neg c4]
    exact no _ (fun g => by omega) c4
theorem d_hands {G : Gx} {Z : Zm} {B : Nat} {σ : St} {x y : Int} (h : IMb Z B σ) (ho : okS σ) (hx : R32 x) (hy : R32 y) : ZM G 12 m_X12_hands [.ref 300, iv x, iv y] Z (rM Z iv (o_hands σ x y)) := by
  refine e_X12_hands h.1 ⟨hx, fun _ => ⟨hy, trivial⟩, ?_⟩
  rintro _ rfl
  unfold o_hands
  by_cases c : (0 ≤ x ∧ x ≤ 2) ∧ 1 ≤ y ∧ y ≤ 5
  · have ha := (h.t 0).ha
    rw [cIf_p c, fC_o1 (P := ¬ (0 ≤ x ∧ x ≤ 2) ∨ (¬ (1 ≤ y ∧ y ≤ 5))) (by omega), if_neg (by decide)]
    refine ⟨⟨by omega, by omega, by decide⟩, ?_⟩
    rintro _ rfl
    refine rM.ok ((h.t 0).hand ho fun s hs => ?_) ?_ (zV_t.trans (zV_I (by decide))) (by omega) (by omega) (ha _ (by omega))
    · by_cases c : s = x.toNat
      · rw [c, zu_same, zu_same]
      · rw [zu_other c, zu_other c]
        exact ha s hs
    · rw [zI_other (by decide)]
      exact zI_t _ _
  · rw [cIf_f c, fC_1 (P := ¬ (0 ≤ x ∧ x ≤ 2) ∨ (¬ (1 ≤ y ∧ y ≤ 5))) (by omega), if_pos (by decide)]
    exact rM.no h (by decide) rfl
theorem c_wipe {G : Gx} {Z : Zm} {σ : St} (h : IC Z σ) : ZM G 12 m_X11_wipe [.ref 0] Z (rC Z (E3 "" "" "") iv (o_wipe σ)) := by
  refine e_X11_wipe h.1 ?_
  rintro _ rfl
  exact rC.ok h.typed (zF_cA (by decide)).c1 h.2.2.2.2.2.2.2.1.1
theorem d_wipe {G : Gx} {Z : Zm} {B : Nat} {σ : St} (h : IMb Z B σ) (ho : okS σ) : ZM G 12 m_X12_wipe [.ref 300] Z (rM Z iv (o_wipe σ)) := by
  refine e_X12_wipe h.1 ?_
  rintro _ rfl
  rintro _ rfl
  rw [zI_same, zSI_zSI]
  have h9 := h.list (f := zI Z 310) (g := zu (zu (zI Z 300) 19 0) 8 0) (n := 0) (t := sTs σ) ho rfl (fun i hi => absurd hi (Nat.not_lt_zero _)) fun i h1 h2 => by rw [zu_other h2, zu_other (by omega)]
  rw [zSI_id] at h9
  refine rM.ok h9 ?_ (zV_I (by decide)) (by omega) (by omega) ?_
  · rw [zI_same, zu_other (by decide), zu_same]
  · rw [zu_other (by decide)]
    exact h.ty.1
theorem c_list {G : Gx} {Z : Zm} {σ : St} {t : Int} (h : IC Z σ) (ho : okS σ) (hz : zSz Z < 1000000) (ht : R32 t) : ZM G 12 m_X11_list [.ref 0, iv t] Z (rC Z (E3 eN eA "") iv (o_list σ t)) := by
  have hn := ho.1.n
  have ht20 := ho.t
  refine e_X11_list h.1 ⟨ht, ?_⟩
  rw [h.2.1.1]
  refine ⟨by omega, hz, ?_⟩
  unfold o_list
  by_cases c1 : 0 ≤ t ∧ t < (kN (sK σ) : Int)
  · rw [if_pos c1, cIf_p c1]
    obtain ⟨x, rfl⟩ : ∃ x : Nat, t = (x : Int) := ⟨t.toNat, by omega⟩
    refine ((s_typedPlace h ho (by omega)).deeper (by omega)).mono ?_
    rintro r W ⟨⟨rfl, hp⟩, hW⟩
    obtain rfl := hW.symm
    obtain ⟨t1, t2⟩ := h.2.2.2.2.2.2.2.1
    have hr := hp.r ho.T
    rw [Int.toNat_natCast]
    refine b_X11_list_10 h.1 ⟨by omega, by rw [t1]; omega, ?_⟩
    rw [t1]
    rcases hp with ⟨q1, q2⟩ | ⟨i, q1, q2, q3, q4⟩
    · have hlt := pig_miss (f := sTs σ) (N := kN (sK σ)) (a := sTn σ) (y := x) ho.2.2.2.2.2.1.2.1 (fun q q' g1 g2 g3 => ho.2.2.2.2.2.1.2.2 q q' g1 g2 g3) (by omega) q2
      rw [if_pos (by omega), if_neg (by omega), cIf_p q2]
      refine ⟨zIx_nat (by omega) (by omega), ?_⟩
      rintro _ rfl
      rintro _ rfl
      rw [Int.toNat_natCast, zI_other (show (0 : Nat) ≠ 253 by decide), zI_same, zu_same, t1]
      refine rC.ok (h.list ?_ (fun i hi => ?_) ?_) ((zF_cA (by decide)).trans (zF_cA (by decide))).c1 (by omega)
      · rw [zu_same]
        omega
      · by_cases c : i = sTn σ
        · rw [c, zu_same, zu_same]
        · rw [zu_other c, zu_other c]
          exact t2 i (by omega)
      · rw [zu_other (by decide)]
    · rw [if_neg (by omega), cIf_f (fun g => g i q1 q3)]
      exact ⟨hz, rC.no h (by decide) rfl⟩
  · rw [if_neg c1, cIf_f c1]
    exact rC.no h (by decide) rfl
theorem d_list {G : Gx} {Z : Zm} {B : Nat} {σ : St} {t : Int} (h : IMb Z B σ) (ho : okS σ) (ht : R32 t) : ZM G 12 m_X12_list [.ref 300, iv t] Z (rM Z iv (o_list σ t)) := by
  have hn := ho.1.n
  have ht20 := ho.t
  have h0 := h.2.2.1.1
  refine e_X12_list h.1 ⟨ht, by omega, ?_⟩
  rw [h0]
  unfold o_list
  by_cases c1 : 0 ≤ t ∧ t < (kN (sK σ) : Int)
  · rw [if_pos c1, cIf_p c1, b2_f (show ¬ ¬ (0 ≤ t ∧ t < (kN (sK σ) : Int)) by omega)]
    obtain ⟨x, rfl⟩ : ∃ x : Nat, t = (x : Int) := ⟨t.toNat, by omega⟩
    refine ((s_mtypedPlace h ho.T (by omega)).deeper (by omega)).mono ?_
    rintro r W ⟨⟨rfl, hp⟩, hW⟩
    obtain rfl := hW.symm
    obtain ⟨t1, t2⟩ := (h.t 0).ty
    have hr := hp.r ho.T
    rw [Int.toNat_natCast]
    refine b_X12_list_25 h.1 ⟨by omega, Or.inl rfl, ?_⟩
    rintro _ rfl
    rcases hp with ⟨q1, q2⟩ | ⟨i, q1, q2, q3, q4⟩
    · have hlt := pig_miss (f := sTs σ) (N := kN (sK σ)) (a := sTn σ) (y := x) ho.2.2.2.2.2.1.2.1 (fun q q' g1 g2 g3 => ho.2.2.2.2.2.1.2.2 q q' g1 g2 g3) (by omega) q2
      rw [show fC 0 (b2 (¬ (20 ≤ vTp σ x))) 0 = 0 by rw [b2_f (by omega)]; rfl, if_neg (by decide), cIf_p q2]
      show zIx (zI (zT Z 0) 300 8) 20 ∧ _
      rw [t1]
      refine ⟨zIx_nat (by omega) (by omega), ?_⟩
      rintro _ rfl
      rintro _ rfl
      rw [Int.toNat_natCast, zI_other (show (300 : Nat) ≠ 300 + 10 by decide), zI_same, zu_same]
      show rM Z iv _ (.inl (some (iv (zI (zT Z 0) 300 8 + 1)))) (zSI (zSI (zT Z 0) 310 (zu (zI (zT Z 0) 310) (sTn σ) (x : Int))) 300 (zu (zI (zT Z 0) 300) 8 (zI (zT Z 0) 300 8 + 1)))
      rw [t1]
      refine rM.ok ((h.t 0).list ho ?_ (fun i hi => ?_) fun i h1 h2 => zu_other h2) ?_ ((zV_t.trans (zV_I (by decide))).trans (zV_I (by decide))) (by omega) (by omega) (by omega)
      · rw [zu_same]
        omega
      · by_cases c : i = sTn σ
        · rw [c, zu_same, zu_same]
        · rw [zu_other c, zu_other c]
          exact t2 i (by omega)
      · rw [zI_same, zu_other (by decide)]
        exact zI_t _ _
    · rw [cIf_f (fun g => g i q1 q3), show fC 0 (b2 (¬ (20 ≤ vTp σ x))) 0 = 2 by rw [b2_p (by omega)]; rfl, if_pos (by decide)]
      exact rM.no h (by decide) rfl
  · rw [if_neg c1, cIf_f c1]
    rintro _ rfl
    rw [fC_1 (P := ¬ (0 ≤ t ∧ t < (kN (sK σ) : Int))) c1, if_pos (by decide)]
    exact rM.no h (by decide) rfl
