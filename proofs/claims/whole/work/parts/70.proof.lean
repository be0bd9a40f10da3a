set_option maxRecDepth 20000 in
theorem e_X11_proofLength {G : Gx} {Q : Rv → Zm → Prop} {Z : Zm}  (hx : atAll Z) (h : ((R32 (zI Z 256 0)) ∧ (zSz Z < 1000000) ∧ (if zI Z 256 0 ≠ 0 then (Q (.inl (some (iv (zI Z 256 5)))) Z) else Q (.inr "java/lang/IllegalStateException") (zC Z 14 0 6)))) : ZM G 12 m_X11_proofLength [.ref 0] Z Q := ZM.of [some (.ref 0)] rfl <| z_aload_n (pc' := 1) (j := 0) (by decide +kernel) rfl rfl <| h.elim fun c1 h => h.elim fun c2 h => z_callV (pc' := 4) (idx := 352) (mj := m_X11_checkPlan) (av := []) (d' := 8) (by decide +kernel) rfl k_X11_checkPlan l_RX11_352 rfl (by omega) (am_le rfl) rfl (am_le rfl) hx.o.1 hx.o.2 rfl <| zKt (s_checkPlan hx c1 c2) (am_ite h (fun h => z_aload_n (pc' := 5) (j := 0) (by decide +kernel) rfl rfl <| z_getR (pc' := 8) (idx := 63) (ci := 11) (f := 11) (by decide +kernel) f_RX11_63 rfl hx.o.1 hx.o.2 hx.r11 rfl <| z_getI (pc' := 11) (idx := 365) (ci := 9) (f := 5) (by decide +kernel) f_RX11_365 rfl hx.pm.o.1 hx.pm.o.2 rfl <| z_ireturn (by decide +kernel) ⟨_, rfl, rfl⟩ h) (fun h => h))
set_option maxRecDepth 20000 in
theorem e_X11_proofAt {G : Gx} {Q : Rv → Zm → Prop} {Z : Zm} {x : Int} (hx : atAll Z) (h : ((R32 (zI Z 256 0)) ∧ (zSz Z < 1000000) ∧ (if zI Z 256 0 ≠ 0 then ((R32 x) ∧ (if x < 0 then (Q (.inr "java/lang/IndexOutOfBoundsException") (zC Z 16 0 6)) else ((R32 (zI Z 256 5)) ∧ (if x < (zI Z 256 5) then ((zIx x 20) ∧ Q (.inl (some (iv (zI Z 264 x.toNat)))) Z) else (Q (.inr "java/lang/IndexOutOfBoundsException") (zC Z 16 0 6)))))) else Q (.inr "java/lang/IllegalStateException") (zC Z 14 0 6)))) : ZM G 12 m_X11_proofAt [.ref 0, iv x] Z Q := ZM.of [some (.ref 0), some (iv x)] rfl <| z_aload_n (pc' := 1) (j := 0) (by decide +kernel) rfl rfl <| h.elim fun c1 h => h.elim fun c2 h => z_callV (pc' := 4) (idx := 352) (mj := m_X11_checkPlan) (av := []) (d' := 8) (by decide +kernel) rfl k_X11_checkPlan l_RX11_352 rfl (by omega) (am_le rfl) rfl (am_le rfl) hx.o.1 hx.o.2 rfl <| zKt (s_checkPlan hx c1 c2) (am_ite h (fun h => z_iload_n (pc' := 5) (j := 1) (by decide +kernel) rfl rfl <| h.elim fun c3 h => z_if_lt (pc' := 8) (tgt := 19) (off := 14) (by decide +kernel) (by decide) rfl c3 (am_ite h (fun h => z_throw (is := 228) (text := "there is no such place") th_IndexOutOfBoundsException (amT5 (i := 106) rfl) rfl (by decide +kernel) (by decide +kernel) (Or.inl ⟨(by decide +kernel), (by decide +kernel), (by decide +kernel)⟩) (by omega) (am_le rfl) c2 h) (fun h => z_iload_n (pc' := 9) (j := 1) (by decide +kernel) rfl rfl <| z_aload_n (pc' := 10) (j := 0) (by decide +kernel) rfl rfl <| z_getR (pc' := 13) (idx := 63) (ci := 11) (f := 11) (by decide +kernel) f_RX11_63 rfl hx.o.1 hx.o.2 hx.r11 rfl <| z_getI (pc' := 16) (idx := 365) (ci := 9) (f := 5) (by decide +kernel) f_RX11_365 rfl hx.pm.o.1 hx.pm.o.2 rfl <| h.elim fun c4 h => z_icmp_lt (pc' := 19) (tgt := 29) (off := 13) (by decide +kernel) (by decide) rfl c3 c4 (am_ite h (fun h => z_aload_n (pc' := 30) (j := 0) (by decide +kernel) rfl rfl <| z_getR (pc' := 33) (idx := 63) (ci := 11) (f := 11) (by decide +kernel) f_RX11_63 rfl hx.o.1 hx.o.2 hx.r11 rfl <| z_getR (pc' := 36) (idx := 368) (ci := 9) (f := 13) (by decide +kernel) f_RX11_368 rfl hx.pm.o.1 hx.pm.o.2 hx.pm.r13 rfl <| z_iload_n (pc' := 37) (j := 1) (by decide +kernel) rfl rfl <| h.elim fun c5 h => z_iaload (pc' := 38) (by decide +kernel) hx.pm.a13 c5 rfl <| z_ireturn (by decide +kernel) ⟨_, rfl, rfl⟩ h) (fun h => z_throw (is := 228) (text := "there is no such place") th_IndexOutOfBoundsException (amT5 (i := 106) rfl) rfl (by decide +kernel) (by decide +kernel) (Or.inl ⟨(by decide +kernel), (by decide +kernel), (by decide +kernel)⟩) (by omega) (am_le rfl) c2 h))))) (fun h => h))
set_option maxRecDepth 20000 in
theorem e_X12_planned {G : Gx} {Q : Rv → Zm → Prop} {Z : Zm} {m : Nat} {B : Nat} {x : Int} {y : Int} (hm : atModel Z m B) (h : ((zIx x 20) ∧ Q (.inl (some (iv (((zI Z (m + 11) x.toNat) + (mG Z B x.toNat 0)) + y)))) Z)) : ZM G 1 m_X12_planned [.ref m, iv x, iv y] Z Q := ZM.of [some (.ref m), some (iv x), some (iv y)] rfl <| z_aload_n (pc' := 1) (j := 0) (by decide +kernel) rfl rfl <| z_getR (pc' := 4) (idx := 33) (ci := 12) (f := 11) (by decide +kernel) f_RX12_33 rfl hm.o.1 hm.o.2 hm.r11 rfl <| z_iload_n (pc' := 5) (j := 1) (by decide +kernel) rfl rfl <| h.elim fun c1 h => z_iaload (pc' := 6) (by decide +kernel) hm.a11 c1 rfl <| z_aload_n (pc' := 7) (j := 0) (by decide +kernel) rfl rfl <| z_iload_n (pc' := 8) (j := 1) (by decide +kernel) rfl rfl <| z_iconst (pc' := 9) (n := 0) (by decide +kernel) rfl <| z_callV (pc' := 12) (idx := 83) (mj := m_X12_get) (av := [iv x, iv 0]) (d' := 0) (by decide +kernel) rfl k_X12_get l_RX12_83 rfl (by omega) (am_le rfl) rfl (am_le rfl) hm.o.1 hm.o.2 rfl <| zKf (s_get hm c1 ⟨by decide, by decide, by decide⟩) <| z_iadd (pc' := 13) (by decide +kernel) rfl <| z_iload_n (pc' := 14) (j := 2) (by decide +kernel) rfl rfl <| z_iadd (pc' := 15) (by decide +kernel) rfl <| z_ireturn (by decide +kernel) ⟨_, rfl, rfl⟩ h
set_option maxRecDepth 20000 in
theorem e_X12_lastNeed {G : Gx} {Q : Rv → Zm → Prop} {Z : Zm} {m : Nat} {B : Nat} {t : Int} (hm : atModel Z m B) (h : (ZP G 2 m_X12_lastNeed 4 [some (.ref m), some (iv t), some (iv (-1)), some (iv 0), none] [] Z Q)) : ZM G 2 m_X12_lastNeed [.ref m, iv t] Z Q := ZM.of [some (.ref m), some (iv t), none, none, none] rfl <| z_iconst (pc' := 1) (n := -1) (by decide +kernel) rfl <| z_istore_n (pc' := 2) (j := 2) (ls' := [some (.ref m), some (iv t), some (iv (-1)), none, none]) (by decide +kernel) (by decide) rfl rfl <| z_iconst (pc' := 3) (n := 0) (by decide +kernel) rfl <| z_istore_n (pc' := 4) (j := 3) (ls' := [some (.ref m), some (iv t), some (iv (-1)), some (iv 0), none]) (by decide +kernel) (by decide) rfl rfl <| h
set_option maxRecDepth 20000 in
theorem b_X12_lastNeed_4 {G : Gx} {Q : Rv → Zm → Prop} {Z : Zm} {m : Nat} {B : Nat} {t : Int} {v2 : Int} {v3 : Int} (hm : atModel Z m B) (h : ((R32 v3) ∧ (R32 (zI Z B 1)) ∧ (if (zI Z B 1) ≤ v3 then (Q (.inl (some (iv v2))) Z) else ((zIx v3 50) ∧ (R32 (mQ Z B v3.toNat)) ∧ (R32 t) ∧ (if (mQ Z B v3.toNat) = t then ((R32 v2) ∧ (if v2 = (-1) then (ZP G 2 m_X12_lastNeed 4 [some (.ref m), some (iv t), some (iv v3), some (iv (v3 + 1)), none] [] Z Q) else (ZM G 1 m_X12_planned [.ref m, iv (mE Z B v3.toNat), iv (mK Z B v3.toNat)] Z (zKc G 2 m_X12_lastNeed 44 [some (.ref m), some (iv t), some (iv v2), some (iv v3), none] [] Q)))) else (ZP G 2 m_X12_lastNeed 4 [some (.ref m), some (iv t), some (iv v2), some (iv (v3 + 1)), none] [] Z Q)))))) : ZP G 2 m_X12_lastNeed 4 [some (.ref m), some (iv t), some (iv v2), some (iv v3), none] [] Z Q := z_iload_n (pc' := 5) (j := 3) (by decide +kernel) rfl rfl <| z_aload_n (pc' := 6) (j := 0) (by decide +kernel) rfl rfl <| z_callV (pc' := 9) (idx := 94) (mj := m_X12_needsMany) (av := []) (d' := 0) (by decide +kernel) rfl k_X12_needsMany l_RX12_94 rfl (by omega) (am_le rfl) rfl (am_le rfl) hm.o.1 hm.o.2 rfl <| zKf (s_needsMany hm) <| h.elim fun c1 h => h.elim fun c2 h => z_icmp_ge (pc' := 12) (tgt := 98) (off := 89) (by decide +kernel) (by decide) rfl c1 c2 (am_ite h (fun h => z_iload_n (pc' := 99) (j := 2) (by decide +kernel) rfl rfl <| z_ireturn (by decide +kernel) ⟨_, rfl, rfl⟩ h) (fun h => z_aload_n (pc' := 13) (j := 0) (by decide +kernel) rfl rfl <| z_iload_n (pc' := 14) (j := 3) (by decide +kernel) rfl rfl <| h.elim fun c7 h => z_callV (pc' := 17) (idx := 104) (mj := m_X12_later) (av := [iv v3]) (d' := 0) (by decide +kernel) rfl k_X12_later l_RX12_104 rfl (by omega) (am_le rfl) rfl (am_le rfl) hm.o.1 hm.o.2 rfl <| zKf (s_later hm c7) <| z_iload_n (pc' := 18) (j := 1) (by decide +kernel) rfl rfl <| h.elim fun c8 h => h.elim fun c9 h => z_icmp_ne (pc' := 21) (tgt := 92) (off := 74) (by decide +kernel) (by decide) rfl c8 c9 (am_ite h (fun h => z_iload_n (pc' := 22) (j := 2) (by decide +kernel) rfl rfl <| z_iconst (pc' := 23) (n := -1) (by decide +kernel) rfl <| h.elim fun c11 h => z_icmp_ne (pc' := 26) (tgt := 30) (off := 7) (by decide +kernel) (by decide) rfl c11 (by decide : R32 (-1)) (am_ite h (fun h => z_iconst (pc' := 27) (n := 1) (by decide +kernel) rfl <| z_goto (tgt := 61) (off := 34) (by decide +kernel) (by decide) <| z_istore (pc' := 63) (j := 4) (ls' := [some (.ref m), some (iv t), some (iv v2), some (iv v3), some (iv 1)]) (by decide +kernel) (by decide) rfl rfl <| z_iload (pc' := 65) (j := 4) (by decide +kernel) rfl rfl <| z_if_gt (pc' := 68) (tgt := 86) (off := 21) (by decide +kernel) (by decide) rfl (by decide : R32 1) <| am_ifT (by decide) <| z_iload_n (pc' := 87) (j := 3) (by decide +kernel) rfl rfl <| z_goto (tgt := 91) (off := 4) (by decide +kernel) (by decide) <| z_istore_n (pc' := 92) (j := 2) (ls' := [some (.ref m), some (iv t), some (iv v3), some (iv v3), some (iv 1)]) (by decide +kernel) (by decide) rfl rfl <| z_iinc (pc' := 95) (j := 3) (n := 1) (x := v3) (ls' := [some (.ref m), some (iv t), some (iv v3), some (iv (v3 + 1)), some (iv 1)]) (by decide +kernel) rfl (by decide) rfl rfl <| z_goto (tgt := 4) (off := -91) (by decide +kernel) (by decide) <| (ZP.wk (wk_some (wk_some (wk_some (wk_some (wk_none wk_nil))))) h)) (fun h => z_aload_n (pc' := 31) (j := 0) (by decide +kernel) rfl rfl <| z_aload_n (pc' := 32) (j := 0) (by decide +kernel) rfl rfl <| z_iload_n (pc' := 33) (j := 3) (by decide +kernel) rfl rfl <| z_callV (pc' := 36) (idx := 97) (mj := m_X12_earlier) (av := [iv v3]) (d' := 0) (by decide +kernel) rfl k_X12_earlier l_RX12_97 rfl (by omega) (am_le rfl) rfl (am_le rfl) hm.o.1 hm.o.2 rfl <| zKf (s_earlier hm c7) <| z_aload_n (pc' := 37) (j := 0) (by decide +kernel) rfl rfl <| z_iload_n (pc' := 38) (j := 3) (by decide +kernel) rfl rfl <| z_callV (pc' := 41) (idx := 101) (mj := m_X12_lag) (av := [iv v3]) (d' := 0) (by decide +kernel) rfl k_X12_lag l_RX12_101 rfl (by omega) (am_le rfl) rfl (am_le rfl) hm.o.1 hm.o.2 rfl <| zKf (s_lag hm c7) <| z_callV (pc' := 44) (idx := 281) (mj := m_X12_planned) (av := [iv (mE Z B v3.toNat), iv (mK Z B v3.toNat)]) (d' := 1) (by decide +kernel) rfl k_X12_planned l_RX12_281 rfl (by omega) (am_le rfl) rfl (am_le rfl) hm.o.1 hm.o.2 rfl h))) (fun h => z_iinc (pc' := 95) (j := 3) (n := 1) (x := v3) (ls' := [some (.ref m), some (iv t), some (iv v2), some (iv (v3 + 1)), none]) (by decide +kernel) rfl (by decide) rfl rfl <| z_goto (tgt := 4) (off := -91) (by decide +kernel) (by decide) <| h))))
set_option maxRecDepth 20000 in
theorem b_X12_lastNeed_44 {G : Gx} {Q : Rv → Zm → Prop} {Z : Zm} {m : Nat} {B : Nat} {t : Int} {v2 : Int} {v3 : Int} {s0 : Int} (hm : atModel Z m B) (h : ((zIx v2 50) ∧ ZM G 1 m_X12_planned [.ref m, iv (mE Z B v2.toNat), iv (mK Z B v2.toNat)] Z (zKc G 2 m_X12_lastNeed 58 [some (.ref m), some (iv t), some (iv v2), some (iv v3), none] [iv s0] Q))) : ZP G 2 m_X12_lastNeed 44 [some (.ref m), some (iv t), some (iv v2), some (iv v3), none] [iv s0] Z Q := z_aload_n (pc' := 45) (j := 0) (by decide +kernel) rfl rfl <| z_aload_n (pc' := 46) (j := 0) (by decide +kernel) rfl rfl <| z_iload_n (pc' := 47) (j := 2) (by decide +kernel) rfl rfl <| h.elim fun c1 h => z_callV (pc' := 50) (idx := 97) (mj := m_X12_earlier) (av := [iv v2]) (d' := 0) (by decide +kernel) rfl k_X12_earlier l_RX12_97 rfl (by omega) (am_le rfl) rfl (am_le rfl) hm.o.1 hm.o.2 rfl <| zKf (s_earlier hm c1) <| z_aload_n (pc' := 51) (j := 0) (by decide +kernel) rfl rfl <| z_iload_n (pc' := 52) (j := 2) (by decide +kernel) rfl rfl <| z_callV (pc' := 55) (idx := 101) (mj := m_X12_lag) (av := [iv v2]) (d' := 0) (by decide +kernel) rfl k_X12_lag l_RX12_101 rfl (by omega) (am_le rfl) rfl (am_le rfl) hm.o.1 hm.o.2 rfl <| zKf (s_lag hm c1) <| z_callV (pc' := 58) (idx := 281) (mj := m_X12_planned) (av := [iv (mE Z B v2.toNat), iv (mK Z B v2.toNat)]) (d' := 1) (by decide +kernel) rfl k_X12_planned l_RX12_281 rfl (by omega) (am_le rfl) rfl (am_le rfl) hm.o.1 hm.o.2 rfl h
set_option maxRecDepth 20000 in
theorem b_X12_lastNeed_58 {G : Gx} {Q : Rv → Zm → Prop} {Z : Zm} {m : Nat} {B : Nat} {t : Int} {v2 : Int} {v3 : Int} {s0 : Int} {s1 : Int} (hm : atModel Z m B) (h : ((R32 s1) ∧ (R32 s0) ∧ (R32 (zSgn s1 s0)) ∧ (¬ (0 < (zSgn s1 s0)) → ((zSgn s1 s0) = 0 → (zIx v3 50) ∧ (zIx v2 50) ∧ (R32 (mE Z B v3.toNat)) ∧ (R32 (mE Z B v2.toNat)) ∧ True) ∧ True) ∧ ZP G 2 m_X12_lastNeed 4 [some (.ref m), some (iv t), some (iv (if 0 < (zSgn s1 s0) then v3 else (if (zSgn s1 s0) = 0 then (if (mE Z B v2.toNat) ≤ (mE Z B v3.toNat) then v2 else v3) else v2))), some (iv (v3 + 1)), none] [] Z Q)) : ZP G 2 m_X12_lastNeed 58 [some (.ref m), some (iv t), some (iv v2), some (iv v3), none] [iv s0, iv s1] Z Q := h.elim fun c1 h => h.elim fun c2 h => z_callS (pc' := 61) (idx := 284) (mj := m_J6_compare_7cf53) (av := [iv s1, iv s0]) (d' := 0) (by decide +kernel) rfl k_J6_compare_7cf53 l_RX12_284 rfl (by omega) (am_le rfl) rfl (am_le rfl) rfl <| zKf (s_compare c1 c2) <| z_istore (pc' := 63) (j := 4) (ls' := [some (.ref m), some (iv t), some (iv v2), some (iv v3), some (iv (zSgn s1 s0))]) (by decide +kernel) (by decide) rfl rfl <| z_iload (pc' := 65) (j := 4) (by decide +kernel) rfl rfl <| h.elim fun c3 h => h.elim fun g17 h => am_use (fun k18 => z_if_gt (pc' := 68) (tgt := 86) (off := 21) (by decide +kernel) (by decide) rfl c3 (am_ite2 (fun q19 => z_iload_n (pc' := 87) (j := 3) (by decide +kernel) rfl rfl <| z_goto (tgt := 91) (off := 4) (by decide +kernel) (by decide) <| (am_jp (P := fun z9 => ZP G 2 m_X12_lastNeed 91 [some (.ref m), some (iv t), some (iv v2), some (iv v3), some (iv (zSgn s1 s0))] [iv z9] _ Q) (if_pos q19) k18)) (fun q19 => have h := g17 q19; z_iload (pc' := 70) (j := 4) (by decide +kernel) rfl rfl <| h.elim fun g12 h => am_use (fun k14 => z_if_ne (pc' := 73) (tgt := 90) (off := 20) (by decide +kernel) (by decide) rfl c3 (am_ite2 (fun q15 => have h := g12 q15; z_aload_n (pc' := 74) (j := 0) (by decide +kernel) rfl rfl <| z_iload_n (pc' := 75) (j := 3) (by decide +kernel) rfl rfl <| h.elim fun c4 h => z_callV (pc' := 78) (idx := 97) (mj := m_X12_earlier) (av := [iv v3]) (d' := 0) (by decide +kernel) rfl k_X12_earlier l_RX12_97 rfl (by omega) (am_le rfl) rfl (am_le rfl) hm.o.1 hm.o.2 rfl <| zKf (s_earlier hm c4) <| z_aload_n (pc' := 79) (j := 0) (by decide +kernel) rfl rfl <| z_iload_n (pc' := 80) (j := 2) (by decide +kernel) rfl rfl <| h.elim fun c5 h => z_callV (pc' := 83) (idx := 97) (mj := m_X12_earlier) (av := [iv v2]) (d' := 0) (by decide +kernel) rfl k_X12_earlier l_RX12_97 rfl (by omega) (am_le rfl) rfl (am_le rfl) hm.o.1 hm.o.2 rfl <| zKf (s_earlier hm c5) <| h.elim fun c6 h => h.elim fun c7 h => am_use (fun k10 => z_icmp_ge (pc' := 86) (tgt := 90) (off := 7) (by decide +kernel) (by decide) rfl c6 c7 (am_ite2 (fun q11 => z_iload_n (pc' := 91) (j := 2) (by decide +kernel) rfl rfl <| (am_jp (P := fun z9 => ZP G 2 m_X12_lastNeed 91 [some (.ref m), some (iv t), some (iv v2), some (iv v3), some (iv (zSgn s1 s0))] [iv z9] _ Q) (if_pos q11) k10)) (fun q11 => z_iload_n (pc' := 87) (j := 3) (by decide +kernel) rfl rfl <| z_goto (tgt := 91) (off := 4) (by decide +kernel) (by decide) <| (am_jp (P := fun z9 => ZP G 2 m_X12_lastNeed 91 [some (.ref m), some (iv t), some (iv v2), some (iv v3), some (iv (zSgn s1 s0))] [iv z9] _ Q) (if_neg q11) k10)))) <| (am_jp (P := fun z9 => ZP G 2 m_X12_lastNeed 91 [some (.ref m), some (iv t), some (iv v2), some (iv v3), some (iv (zSgn s1 s0))] [iv z9] _ Q) (if_pos q15) k14)) (fun q15 => z_iload_n (pc' := 91) (j := 2) (by decide +kernel) rfl rfl <| (am_jp (P := fun z9 => ZP G 2 m_X12_lastNeed 91 [some (.ref m), some (iv t), some (iv v2), some (iv v3), some (iv (zSgn s1 s0))] [iv z9] _ Q) (if_neg q15) k14)))) <| (am_jp (P := fun z9 => ZP G 2 m_X12_lastNeed 91 [some (.ref m), some (iv t), some (iv v2), some (iv v3), some (iv (zSgn s1 s0))] [iv z9] _ Q) (if_neg q19) k18)))) <| z_istore_n (pc' := 92) (j := 2) (ls' := [some (.ref m), some (iv t), some (iv (if 0 < (zSgn s1 s0) then v3 else (if (zSgn s1 s0) = 0 then (if (mE Z B v2.toNat) ≤ (mE Z B v3.toNat) then v2 else v3) else v2))), some (iv v3), some (iv (zSgn s1 s0))]) (by decide +kernel) (by decide) rfl rfl <| z_iinc (pc' := 95) (j := 3) (n := 1) (x := v3) (ls' := [some (.ref m), some (iv t), some (iv (if 0 < (zSgn s1 s0) then v3 else (if (zSgn s1 s0) = 0 then (if (mE Z B v2.toNat) ≤ (mE Z B v3.toNat) then v2 else v3) else v2))), some (iv (v3 + 1)), some (iv (zSgn s1 s0))]) (by decide +kernel) rfl (by decide) rfl rfl <| z_goto (tgt := 4) (off := -91) (by decide +kernel) (by decide) <| (ZP.wk (wk_some (wk_some (wk_some (wk_some (wk_none wk_nil))))) h)
set_option maxRecDepth 20000 in
theorem e_X12_proof {G : Gx} {Q : Rv → Zm → Prop} {Z : Zm} {m : Nat} {B : Nat} (hm : atModel Z m B) (h : ((zSz Z < 1000000) ∧ ∀ Z2, Z2 = zC Z 100 21 21 → ZP G 3 m_X12_proof 17 [some (.ref m), some (.ref (zSz Z)), some (iv 0), some (iv (-1)), some (iv ((zI Z2 B 0) - 1))] [] Z2 Q)) : ZM G 3 m_X12_proof [.ref m] Z Q := ZM.of [some (.ref m), none, none, none, none] rfl <| z_bipush (pc' := 2) (n := 21) (by decide +kernel) (by decide) rfl <| h.elim fun c1 h => z_new100 (pc' := 4) (by decide +kernel) (amM1 88 rfl (by decide +kernel)) (by decide) (by decide) c1 rfl <| have h := h _ rfl; z_astore_n (pc' := 5) (j := 1) (ls' := [some (.ref m), some (.ref (zSz Z)), none, none, none]) (by decide +kernel) (by decide) rfl rfl <| z_iconst (pc' := 6) (n := 0) (by decide +kernel) rfl <| z_istore_n (pc' := 7) (j := 2) (ls' := [some (.ref m), some (.ref (zSz Z)), some (iv 0), none, none]) (by decide +kernel) (by decide) rfl rfl <| z_iconst (pc' := 8) (n := -1) (by decide +kernel) rfl <| z_istore_n (pc' := 9) (j := 3) (ls' := [some (.ref m), some (.ref (zSz Z)), some (iv 0), some (iv (-1)), none]) (by decide +kernel) (by decide) rfl rfl <| z_aload_n (pc' := 10) (j := 0) (by decide +kernel) rfl rfl <| z_callV (pc' := 13) (idx := 64) (mj := m_X12_many) (av := []) (d' := 0) (by decide +kernel) rfl k_X12_many l_RX12_64 rfl (by omega) (am_le rfl) rfl (am_le rfl) (hm.o.ext (zX_C Z 100 21 21)).1 (hm.o.ext (zX_C Z 100 21 21)).2 rfl <| zKf (s_many (hm.ext (zX_C Z 100 21 21))) <| z_iconst (pc' := 14) (n := 1) (by decide +kernel) rfl <| z_isub (pc' := 15) (by decide +kernel) rfl <| z_istore (pc' := 17) (j := 4) (ls' := [some (.ref m), some (.ref (zSz Z)), some (iv 0), some (iv (-1)), some (iv ((zI (zC Z 100 21 21) B 0) - 1))]) (by decide +kernel) (by decide) rfl rfl <| h
set_option maxRecDepth 20000 in
theorem b_X12_proof_17 {G : Gx} {Q : Rv → Zm → Prop} {Z : Zm} {a2 : Nat} {m : Nat} {B : Nat} {v2 : Int} {v3 : Int} {v4 : Int} (hm : atModel Z m B) (ha2 : zA Z a2 100 21) (h : ((R32 v4) ∧ (if v4 < 0 then (ZP G 3 m_X12_proof 49 [some (.ref m), some (.ref a2), some (iv v2), some (iv v3), none] [] Z Q) else (ZM G 2 m_X12_planned [.ref m, iv v4, iv 0] Z (zKc G 3 m_X12_proof 29 [some (.ref m), some (.ref a2), some (iv v2), some (iv v3), some (iv v4)] [] Q))))) : ZP G 3 m_X12_proof 17 [some (.ref m), some (.ref a2), some (iv v2), some (iv v3), some (iv v4)] [] Z Q := z_iload (pc' := 19) (j := 4) (by decide +kernel) rfl rfl <| h.elim fun c1 h => z_if_lt (pc' := 22) (tgt := 49) (off := 30) (by decide +kernel) (by decide) rfl c1 (am_ite h (fun h => (ZP.wk (wk_some (wk_some (wk_some (wk_some (wk_none wk_nil))))) h)) (fun h => z_aload_n (pc' := 23) (j := 0) (by decide +kernel) rfl rfl <| z_iload (pc' := 25) (j := 4) (by decide +kernel) rfl rfl <| z_iconst (pc' := 26) (n := 0) (by decide +kernel) rfl <| z_callV (pc' := 29) (idx := 281) (mj := m_X12_planned) (av := [iv v4, iv 0]) (d' := 2) (by decide +kernel) rfl k_X12_planned l_RX12_281 rfl (by omega) (am_le rfl) rfl (am_le rfl) hm.o.1 hm.o.2 rfl h))
set_option maxRecDepth 20000 in
theorem b_X12_proof_49 {G : Gx} {Q : Rv → Zm → Prop} {Z : Zm} {a2 : Nat} {m : Nat} {B : Nat} {v2 : Int} {v3 : Int} (hm : atModel Z m B) (ha2 : zA Z a2 100 21) (h : ((R32 v3) ∧ (if v3 = (-1) then ((zIx v2 21) ∧ ∀ Z4, Z4 = zSI Z a2 (zu (zI Z a2) v2.toNat (-1)) → Q (.inl (some (.ref a2))) Z4) else ((zIx v2 21) ∧ ∀ Z6, Z6 = zSI Z a2 (zu (zI Z a2) v2.toNat v3) → ZM G 2 m_X12_lastNeed [.ref m, iv v3] Z6 (zKc G 3 m_X12_proof 66 [some (.ref m), some (.ref a2), some (iv (v2 + 1)), none, none] [] Q))))) : ZP G 3 m_X12_proof 49 [some (.ref m), some (.ref a2), some (iv v2), some (iv v3), none] [] Z Q := z_iload_n (pc' := 50) (j := 3) (by decide +kernel) rfl rfl <| z_iconst (pc' := 51) (n := -1) (by decide +kernel) rfl <| h.elim fun c1 h => z_icmp_eq (pc' := 54) (tgt := 88) (off := 37) (by decide +kernel) (by decide) rfl c1 (by decide : R32 (-1)) (am_ite h (fun h => z_aload_n (pc' := 89) (j := 1) (by decide +kernel) rfl rfl <| z_iload_n (pc' := 90) (j := 2) (by decide +kernel) rfl rfl <| z_iconst (pc' := 91) (n := -1) (by decide +kernel) rfl <| h.elim fun c3 h => z_iastore (pc' := 92) (by decide +kernel) ha2 c3 rfl <| have h := h _ rfl; z_aload_n (pc' := 93) (j := 1) (by decide +kernel) rfl rfl <| z_areturn (by decide +kernel) (by first | exact ⟨_, rfl, Or.inl ⟨_, rfl⟩⟩ | exact ⟨_, rfl, Or.inr ⟨_, rfl⟩⟩) h) (fun h => z_aload_n (pc' := 55) (j := 1) (by decide +kernel) rfl rfl <| z_iload_n (pc' := 56) (j := 2) (by decide +kernel) rfl rfl <| z_iload_n (pc' := 57) (j := 3) (by decide +kernel) rfl rfl <| h.elim fun c5 h => z_iastore (pc' := 58) (by decide +kernel) ha2 c5 rfl <| have h := h _ rfl; z_iinc (pc' := 61) (j := 2) (n := 1) (x := v2) (ls' := [some (.ref m), some (.ref a2), some (iv (v2 + 1)), some (iv v3), none]) (by decide +kernel) rfl (by decide) rfl rfl <| z_aload_n (pc' := 62) (j := 0) (by decide +kernel) rfl rfl <| z_iload_n (pc' := 63) (j := 3) (by decide +kernel) rfl rfl <| z_callV (pc' := 66) (idx := 289) (mj := m_X12_lastNeed) (av := [iv v3]) (d' := 2) (by decide +kernel) rfl k_X12_lastNeed l_RX12_289 rfl (by omega) (am_le rfl) rfl (am_le rfl) hm.o.1 hm.o.2 rfl (ZM.mono h (zKc_wk (wk_some (wk_some (wk_some (wk_none (wk_none wk_nil)))))))))
set_option maxRecDepth 20000 in
theorem b_X12_proof_29 {G : Gx} {Q : Rv → Zm → Prop} {Z : Zm} {a2 : Nat} {m : Nat} {B : Nat} {v2 : Int} {v3 : Int} {v4 : Int} {s0 : Int} (hm : atModel Z m B) (ha2 : zA Z a2 100 21) (h : ((R32 s0) ∧ (R32 (zI Z m 14)) ∧ ZP G 3 m_X12_proof 17 [some (.ref m), some (.ref a2), some (iv v2), some (iv (if s0 = (zI Z m 14) then v4 else v3)), some (iv (v4 + (-1)))] [] Z Q)) : ZP G 3 m_X12_proof 29 [some (.ref m), some (.ref a2), some (iv v2), some (iv v3), some (iv v4)] [iv s0] Z Q := z_aload_n (pc' := 30) (j := 0) (by decide +kernel) rfl rfl <| z_getI (pc' := 33) (idx := 275) (ci := 12) (f := 14) (by decide +kernel) f_RX12_275 rfl hm.o.1 hm.o.2 rfl <| h.elim fun c1 h => h.elim fun c2 h => am_use (fun k5 => z_icmp_ne (pc' := 36) (tgt := 41) (off := 8) (by decide +kernel) (by decide) rfl c1 c2 (am_ite2 (fun q6 => z_iload (pc' := 38) (j := 4) (by decide +kernel) rfl rfl <| z_goto (tgt := 42) (off := 4) (by decide +kernel) (by decide) <| (am_jp (P := fun z9 => ZP G 3 m_X12_proof 42 [some (.ref m), some (.ref a2), some (iv v2), some (iv v3), some (iv v4)] [iv z9] _ Q) (if_pos q6) k5)) (fun q6 => z_iload_n (pc' := 42) (j := 3) (by decide +kernel) rfl rfl <| (am_jp (P := fun z9 => ZP G 3 m_X12_proof 42 [some (.ref m), some (.ref a2), some (iv v2), some (iv v3), some (iv v4)] [iv z9] _ Q) (if_neg q6) k5)))) <| z_istore_n (pc' := 43) (j := 3) (ls' := [some (.ref m), some (.ref a2), some (iv v2), some (iv (if s0 = (zI Z m 14) then v4 else v3)), some (iv v4)]) (by decide +kernel) (by decide) rfl rfl <| z_iinc (pc' := 46) (j := 4) (n := -1) (x := v4) (ls' := [some (.ref m), some (.ref a2), some (iv v2), some (iv (if s0 = (zI Z m 14) then v4 else v3)), some (iv (v4 + (-1)))]) (by decide +kernel) rfl (by decide) rfl rfl <| z_goto (tgt := 17) (off := -29) (by decide +kernel) (by decide) <| h
set_option maxRecDepth 20000 in
theorem b_X12_proof_66 {G : Gx} {Q : Rv → Zm → Prop} {Z : Zm} {a2 : Nat} {m : Nat} {B : Nat} {v2 : Int} {s0 : Int} (hm : atModel Z m B) (ha2 : zA Z a2 100 21) (h : ((R32 s0) ∧ (¬ (s0 = (-1)) → (zIx s0 50) ∧ True) ∧ ZP G 3 m_X12_proof 49 [some (.ref m), some (.ref a2), some (iv v2), some (iv (if s0 = (-1) then (-1) else mE Z B s0.toNat)), none] [] Z Q)) : ZP G 3 m_X12_proof 66 [some (.ref m), some (.ref a2), some (iv v2), none, none] [iv s0] Z Q := z_istore (pc' := 68) (j := 4) (ls' := [some (.ref m), some (.ref a2), some (iv v2), none, some (iv s0)]) (by decide +kernel) (by decide) rfl rfl <| z_iload (pc' := 70) (j := 4) (by decide +kernel) rfl rfl <| z_iconst (pc' := 71) (n := -1) (by decide +kernel) rfl <| h.elim fun c1 h => h.elim fun g4 h => am_use (fun k5 => z_icmp_ne (pc' := 74) (tgt := 78) (off := 7) (by decide +kernel) (by decide) rfl c1 (by decide : R32 (-1)) (am_ite2 (fun q6 => z_iconst (pc' := 75) (n := -1) (by decide +kernel) rfl <| z_goto (tgt := 84) (off := 9) (by decide +kernel) (by decide) <| (am_jp (P := fun z9 => ZP G 3 m_X12_proof 84 [some (.ref m), some (.ref a2), some (iv v2), none, some (iv s0)] [iv z9] _ Q) (if_pos q6) k5)) (fun q6 => have h := g4 q6; z_aload_n (pc' := 79) (j := 0) (by decide +kernel) rfl rfl <| z_iload (pc' := 81) (j := 4) (by decide +kernel) rfl rfl <| h.elim fun c2 h => z_callV (pc' := 84) (idx := 97) (mj := m_X12_earlier) (av := [iv s0]) (d' := 0) (by decide +kernel) rfl k_X12_earlier l_RX12_97 rfl (by omega) (am_le rfl) rfl (am_le rfl) hm.o.1 hm.o.2 rfl <| zKf (s_earlier hm c2) <| (am_jp (P := fun z9 => ZP G 3 m_X12_proof 84 [some (.ref m), some (.ref a2), some (iv v2), none, some (iv s0)] [iv z9] _ Q) (if_neg q6) k5)))) <| z_istore_n (pc' := 85) (j := 3) (ls' := [some (.ref m), some (.ref a2), some (iv v2), some (iv (if s0 = (-1) then (-1) else mE Z B s0.toNat)), some (iv s0)]) (by decide +kernel) (by decide) rfl rfl <| z_goto (tgt := 49) (off := -36) (by decide +kernel) (by decide) <| (ZP.wk (wk_some (wk_some (wk_some (wk_some (wk_none wk_nil))))) h)
set_option maxRecDepth 20000 in
theorem e_X12_proofLength {G : Gx} {Q : Rv → Zm → Prop} {Z : Zm} {m : Nat} {B : Nat} (hm : atModel Z m B) (h : ((R32 (zI Z m 9)) ∧ ∀ Z6, Z6 = zSI Z m (zu (zI Z m) 19 (fC (b2 ((zI Z m 9) = 0)) 0 0)) → (if 0 < fC (b2 ((zI Z m 9) = 0)) 0 0 then (Q (.inl (some (iv 0))) Z6) else (ZM G 11 m_X12_proof [.ref m] Z6 (zKc G 12 m_X12_proofLength 29 [none] [] Q))))) : ZM G 12 m_X12_proofLength [.ref m] Z Q := ZM.of [some (.ref m)] rfl <| z_aload_n (pc' := 1) (j := 0) (by decide +kernel) rfl rfl <| z_aload_n (pc' := 2) (j := 0) (by decide +kernel) rfl rfl <| z_getI (pc' := 5) (idx := 79) (ci := 12) (f := 9) (by decide +kernel) f_RX12_79 rfl hm.o.1 hm.o.2 rfl <| h.elim fun c1 h => am_use (fun k4 => z_if_ne (pc' := 8) (tgt := 12) (off := 7) (by decide +kernel) (by decide) rfl c1 (am_ite2 (fun q5 => z_iconst (pc' := 9) (n := 1) (by decide +kernel) rfl <| z_goto (tgt := 13) (off := 4) (by decide +kernel) (by decide) <| (am_jp (P := fun z9 => ZP G 12 m_X12_proofLength 13 [some (.ref m)] [iv z9, .ref m] _ Q) (b2_p q5) k4)) (fun q5 => z_iconst (pc' := 13) (n := 0) (by decide +kernel) rfl <| (am_jp (P := fun z9 => ZP G 12 m_X12_proofLength 13 [some (.ref m)] [iv z9, .ref m] _ Q) (b2_f q5) k4)))) <| z_iconst (pc' := 14) (n := 0) (by decide +kernel) rfl <| z_iconst (pc' := 15) (n := 0) (by decide +kernel) rfl <| z_callV (pc' := 18) (idx := 133) (mj := m_X12_fails) (av := [iv (b2 ((zI Z m 9) = 0)), iv 0, iv 0]) (d' := 0) (by decide +kernel) rfl k_X12_fails l_RX12_133 rfl (by omega) (am_le rfl) rfl (am_le rfl) hm.o.1 hm.o.2 rfl <| zKf (s_fails hm (b2_01 _) (Or.inl rfl) (Or.inl rfl)) <| have h := h _ rfl; z_ifB_eq (pc' := 21) (tgt := 25) (off := 7) (by decide +kernel) (by decide) rfl (am_ite h (fun h => z_iconst (pc' := 22) (n := 0) (by decide +kernel) rfl <| z_goto (tgt := 32) (off := 10) (by decide +kernel) (by decide) <| z_ireturn (by decide +kernel) ⟨_, rfl, rfl⟩ h) (fun h => z_aload_n (pc' := 26) (j := 0) (by decide +kernel) rfl rfl <| z_callV (pc' := 29) (idx := 292) (mj := m_X12_proof) (av := []) (d' := 11) (by decide +kernel) rfl k_X12_proof l_RX12_292 rfl (by omega) (am_le rfl) rfl (am_le rfl) hm.o.1 hm.o.2 rfl (ZM.mono h (zKc_wk (wk_none wk_nil)))))
set_option maxRecDepth 20000 in
theorem b_X12_proofLength_29 {G : Gx} {Q : Rv → Zm → Prop} {Z : Zm} {r29 : Nat} {m : Nat} {B : Nat}  (hm : atModel Z m B) (hr29 : zA Z r29 100 21) (h : (ZM G 11 m_X12_sizeOf [.ref r29] Z (zKc G 12 m_X12_proofLength 32 [none] [] Q))) : ZP G 12 m_X12_proofLength 29 [none] [.ref r29] Z Q := z_callS (pc' := 32) (idx := 217) (mj := m_X12_sizeOf) (av := [.ref r29]) (d' := 11) (by decide +kernel) rfl k_X12_sizeOf l_RX12_217 rfl (by omega) (am_le rfl) rfl (am_le rfl) rfl h
set_option maxRecDepth 20000 in
theorem b_X12_proofLength_32 {G : Gx} {Q : Rv → Zm → Prop} {Z : Zm} {m : Nat} {B : Nat} {s0 : Int} (hm : atModel Z m B) (h : (Q (.inl (some (iv s0))) Z)) : ZP G 12 m_X12_proofLength 32 [none] [iv s0] Z Q := z_ireturn (by decide +kernel) ⟨_, rfl, rfl⟩ h
set_option maxRecDepth 20000 in
theorem e_X12_proofAt {G : Gx} {Q : Rv → Zm → Prop} {Z : Zm} {m : Nat} {B : Nat} {x : Int} (hm : atModel Z m B) (h : ((R32 (zI Z m 9)) ∧ (if (zI Z m 9) = 0 then ((R32 x) ∧ (R32 (0 - 1)) ∧ ∀ Z12, Z12 = zSI Z m (zu (zI Z m) 19 (fC (b2 ((zI Z m 9) = 0)) (b2 (¬ (0 ≤ x ∧ x ≤ (0 - 1)))) 0)) → (if 0 < fC (b2 ((zI Z m 9) = 0)) (b2 (¬ (0 ≤ x ∧ x ≤ (0 - 1)))) 0 then (Q (.inl (some (iv 0))) Z12) else (ZM G 11 m_X12_proof [.ref m] Z12 (zKc G 12 m_X12_proofAt 63 [none, some (iv x), some (iv 0)] [] Q)))) else (ZM G 11 m_X12_proof [.ref m] Z (zKc G 12 m_X12_proofAt 11 [some (.ref m), some (iv x), none] [] Q))))) : ZM G 12 m_X12_proofAt [.ref m, iv x] Z Q := ZM.of [some (.ref m), some (iv x), none] rfl <| z_aload_n (pc' := 1) (j := 0) (by decide +kernel) rfl rfl <| z_getI (pc' := 4) (idx := 79) (ci := 12) (f := 9) (by decide +kernel) f_RX12_79 rfl hm.o.1 hm.o.2 rfl <| h.elim fun c1 h => z_if_eq (pc' := 7) (tgt := 17) (off := 13) (by decide +kernel) (by decide) rfl c1 (am_ite h (fun h => z_iconst (pc' := 18) (n := 0) (by decide +kernel) rfl <| z_istore_n (pc' := 19) (j := 2) (ls' := [some (.ref m), some (iv x), some (iv 0)]) (by decide +kernel) (by decide) rfl rfl <| z_aload_n (pc' := 20) (j := 0) (by decide +kernel) rfl rfl <| z_aload_n (pc' := 21) (j := 0) (by decide +kernel) rfl rfl <| z_getI (pc' := 24) (idx := 79) (ci := 12) (f := 9) (by decide +kernel) f_RX12_79 rfl hm.o.1 hm.o.2 rfl <| am_use (fun k4 => z_if_ne (pc' := 27) (tgt := 31) (off := 7) (by decide +kernel) (by decide) rfl c1 (am_ite2 (fun q5 => z_iconst (pc' := 28) (n := 1) (by decide +kernel) rfl <| z_goto (tgt := 32) (off := 4) (by decide +kernel) (by decide) <| (am_jp (P := fun z9 => ZP G 12 m_X12_proofAt 32 [some (.ref m), some (iv x), some (iv 0)] [iv z9, .ref m] _ Q) (b2_p q5) k4)) (fun q5 => z_iconst (pc' := 32) (n := 0) (by decide +kernel) rfl <| (am_jp (P := fun z9 => ZP G 12 m_X12_proofAt 32 [some (.ref m), some (iv x), some (iv 0)] [iv z9, .ref m] _ Q) (b2_f q5) k4)))) <| z_iload_n (pc' := 33) (j := 1) (by decide +kernel) rfl rfl <| z_iconst (pc' := 34) (n := 0) (by decide +kernel) rfl <| z_iload_n (pc' := 35) (j := 2) (by decide +kernel) rfl rfl <| z_iconst (pc' := 36) (n := 1) (by decide +kernel) rfl <| z_isub (pc' := 37) (by decide +kernel) rfl <| h.elim fun c6 h => h.elim fun c7 h => z_callS (pc' := 40) (idx := 68) (mj := m_X12_in) (av := [iv x, iv 0, iv (0 - 1)]) (d' := 0) (by decide +kernel) rfl k_X12_in l_RX12_68 rfl (by omega) (am_le rfl) rfl (am_le rfl) rfl <| zKf (s_in c6 (by decide : R32 0) c7) <| am_use (fun k10 => z_ifB_ne (pc' := 43) (tgt := 47) (off := 7) (by decide +kernel) (by decide) rfl (am_ite2 (fun q11 => z_iconst (pc' := 48) (n := 0) (by decide +kernel) rfl <| (am_jp (P := fun z9 => ZP G 12 m_X12_proofAt 48 [some (.ref m), some (iv x), some (iv 0)] [iv z9, iv (b2 ((zI Z m 9) = 0)), .ref m] _ Q) (b2_n q11) k10)) (fun q11 => z_iconst (pc' := 44) (n := 1) (by decide +kernel) rfl <| z_goto (tgt := 48) (off := 4) (by decide +kernel) (by decide) <| (am_jp (P := fun z9 => ZP G 12 m_X12_proofAt 48 [some (.ref m), some (iv x), some (iv 0)] [iv z9, iv (b2 ((zI Z m 9) = 0)), .ref m] _ Q) (b2_nn q11) k10)))) <| z_iconst (pc' := 49) (n := 0) (by decide +kernel) rfl <| z_callV (pc' := 52) (idx := 133) (mj := m_X12_fails) (av := [iv (b2 ((zI Z m 9) = 0)), iv (b2 (¬ (0 ≤ x ∧ x ≤ (0 - 1)))), iv 0]) (d' := 0) (by decide +kernel) rfl k_X12_fails l_RX12_133 rfl (by omega) (am_le rfl) rfl (am_le rfl) hm.o.1 hm.o.2 rfl <| zKf (s_fails hm (b2_01 _) (b2_01 _) (Or.inl rfl)) <| have h := h _ rfl; z_ifB_eq (pc' := 55) (tgt := 59) (off := 7) (by decide +kernel) (by decide) rfl (am_ite h (fun h => z_iconst (pc' := 56) (n := 0) (by decide +kernel) rfl <| z_goto (tgt := 69) (off := 13) (by decide +kernel) (by decide) <| z_ireturn (by decide +kernel) ⟨_, rfl, rfl⟩ h) (fun h => z_aload_n (pc' := 60) (j := 0) (by decide +kernel) rfl rfl <| z_callV (pc' := 63) (idx := 292) (mj := m_X12_proof) (av := []) (d' := 11) (by decide +kernel) rfl k_X12_proof l_RX12_292 rfl (by omega) (am_le rfl) rfl (am_le rfl) hm.o.1 hm.o.2 rfl (ZM.mono h (zKc_wk (wk_none (wk_some (wk_some wk_nil)))))))) (fun h => z_aload_n (pc' := 8) (j := 0) (by decide +kernel) rfl rfl <| z_callV (pc' := 11) (idx := 292) (mj := m_X12_proof) (av := []) (d' := 11) (by decide +kernel) rfl k_X12_proof l_RX12_292 rfl (by omega) (am_le rfl) rfl (am_le rfl) hm.o.1 hm.o.2 rfl h))
set_option maxRecDepth 20000 in
theorem b_X12_proofAt_63 {G : Gx} {Q : Rv → Zm → Prop} {Z : Zm} {r63 : Nat} {m : Nat} {B : Nat} {x : Int} {v2 : Int} (hm : atModel Z m B) (hr63 : zA Z r63 100 21) (h : ((zIx ((v2 - 1) - x) 21) ∧ Q (.inl (some (iv (zI Z r63 ((v2 - 1) - x).toNat)))) Z)) : ZP G 12 m_X12_proofAt 63 [none, some (iv x), some (iv v2)] [.ref r63] Z Q := z_iload_n (pc' := 64) (j := 2) (by decide +kernel) rfl rfl <| z_iconst (pc' := 65) (n := 1) (by decide +kernel) rfl <| z_isub (pc' := 66) (by decide +kernel) rfl <| z_iload_n (pc' := 67) (j := 1) (by decide +kernel) rfl rfl <| z_isub (pc' := 68) (by decide +kernel) rfl <| h.elim fun c1 h => z_iaload (pc' := 69) (by decide +kernel) hr63 c1 rfl <| z_ireturn (by decide +kernel) ⟨_, rfl, rfl⟩ h
set_option maxRecDepth 20000 in
theorem b_X12_proofAt_11 {G : Gx} {Q : Rv → Zm → Prop} {Z : Zm} {r11 : Nat} {m : Nat} {B : Nat} {x : Int}  (hm : atModel Z m B) (hr11 : zA Z r11 100 21) (h : (ZM G 11 m_X12_sizeOf [.ref r11] Z (zKc G 12 m_X12_proofAt 14 [some (.ref m), some (iv x), none] [] Q))) : ZP G 12 m_X12_proofAt 11 [some (.ref m), some (iv x), none] [.ref r11] Z Q := z_callS (pc' := 14) (idx := 217) (mj := m_X12_sizeOf) (av := [.ref r11]) (d' := 11) (by decide +kernel) rfl k_X12_sizeOf l_RX12_217 rfl (by omega) (am_le rfl) rfl (am_le rfl) rfl h
set_option maxRecDepth 20000 in
theorem b_X12_proofAt_14 {G : Gx} {Q : Rv → Zm → Prop} {Z : Zm} {m : Nat} {B : Nat} {x : Int} {s0 : Int} (hm : atModel Z m B) (h : ((R32 (zI Z m 9)) ∧ (R32 x) ∧ (R32 (s0 - 1)) ∧ ∀ Z12, Z12 = zSI Z m (zu (zI Z m) 19 (fC (b2 ((zI Z m 9) = 0)) (b2 (¬ (0 ≤ x ∧ x ≤ (s0 - 1)))) 0)) → (if 0 < fC (b2 ((zI Z m 9) = 0)) (b2 (¬ (0 ≤ x ∧ x ≤ (s0 - 1)))) 0 then (Q (.inl (some (iv 0))) Z12) else (ZM G 11 m_X12_proof [.ref m] Z12 (zKc G 12 m_X12_proofAt 63 [none, some (iv x), some (iv s0)] [] Q))))) : ZP G 12 m_X12_proofAt 14 [some (.ref m), some (iv x), none] [iv s0] Z Q := z_goto (tgt := 18) (off := 4) (by decide +kernel) (by decide) <| z_istore_n (pc' := 19) (j := 2) (ls' := [some (.ref m), some (iv x), some (iv s0)]) (by decide +kernel) (by decide) rfl rfl <| z_aload_n (pc' := 20) (j := 0) (by decide +kernel) rfl rfl <| z_aload_n (pc' := 21) (j := 0) (by decide +kernel) rfl rfl <| z_getI (pc' := 24) (idx := 79) (ci := 12) (f := 9) (by decide +kernel) f_RX12_79 rfl hm.o.1 hm.o.2 rfl <| h.elim fun c1 h => am_use (fun k4 => z_if_ne (pc' := 27) (tgt := 31) (off := 7) (by decide +kernel) (by decide) rfl c1 (am_ite2 (fun q5 => z_iconst (pc' := 28) (n := 1) (by decide +kernel) rfl <| z_goto (tgt := 32) (off := 4) (by decide +kernel) (by decide) <| (am_jp (P := fun z9 => ZP G 12 m_X12_proofAt 32 [some (.ref m), some (iv x), some (iv s0)] [iv z9, .ref m] _ Q) (b2_p q5) k4)) (fun q5 => z_iconst (pc' := 32) (n := 0) (by decide +kernel) rfl <| (am_jp (P := fun z9 => ZP G 12 m_X12_proofAt 32 [some (.ref m), some (iv x), some (iv s0)] [iv z9, .ref m] _ Q) (b2_f q5) k4)))) <| z_iload_n (pc' := 33) (j := 1) (by decide +kernel) rfl rfl <| z_iconst (pc' := 34) (n := 0) (by decide +kernel) rfl <| z_iload_n (pc' := 35) (j := 2) (by decide +kernel) rfl rfl <| z_iconst (pc' := 36) (n := 1) (by decide +kernel) rfl <| z_isub (pc' := 37) (by decide +kernel) rfl <| h.elim fun c6 h => h.elim fun c7 h => z_callS (pc' := 40) (idx := 68) (mj := m_X12_in) (av := [iv x, iv 0, iv (s0 - 1)]) (d' := 0) (by decide +kernel) rfl k_X12_in l_RX12_68 rfl (by omega) (am_le rfl) rfl (am_le rfl) rfl <| zKf (s_in c6 (by decide : R32 0) c7) <| am_use (fun k10 => z_ifB_ne (pc' := 43) (tgt := 47) (off := 7) (by decide +kernel) (by decide) rfl (am_ite2 (fun q11 => z_iconst (pc' := 48) (n := 0) (by decide +kernel) rfl <| (am_jp (P := fun z9 => ZP G 12 m_X12_proofAt 48 [some (.ref m), some (iv x), some (iv s0)] [iv z9, iv (b2 ((zI Z m 9) = 0)), .ref m] _ Q) (b2_n q11) k10)) (fun q11 => z_iconst (pc' := 44) (n := 1) (by decide +kernel) rfl <| z_goto (tgt := 48) (off := 4) (by decide +kernel) (by decide) <| (am_jp (P := fun z9 => ZP G 12 m_X12_proofAt 48 [some (.ref m), some (iv x), some (iv s0)] [iv z9, iv (b2 ((zI Z m 9) = 0)), .ref m] _ Q) (b2_nn q11) k10)))) <| z_iconst (pc' := 49) (n := 0) (by decide +kernel) rfl <| z_callV (pc' := 52) (idx := 133) (mj := m_X12_fails) (av := [iv (b2 ((zI Z m 9) = 0)), iv (b2 (¬ (0 ≤ x ∧ x ≤ (s0 - 1)))), iv 0]) (d' := 0) (by decide +kernel) rfl k_X12_fails l_RX12_133 rfl (by omega) (am_le rfl) rfl (am_le rfl) hm.o.1 hm.o.2 rfl <| zKf (s_fails hm (b2_01 _) (b2_01 _) (Or.inl rfl)) <| have h := h _ rfl; z_ifB_eq (pc' := 55) (tgt := 59) (off := 7) (by decide +kernel) (by decide) rfl (am_ite h (fun h => z_iconst (pc' := 56) (n := 0) (by decide +kernel) rfl <| z_goto (tgt := 69) (off := 13) (by decide +kernel) (by decide) <| z_ireturn (by decide +kernel) ⟨_, rfl, rfl⟩ h) (fun h => z_aload_n (pc' := 60) (j := 0) (by decide +kernel) rfl rfl <| z_callV (pc' := 63) (idx := 292) (mj := m_X12_proof) (av := []) (d' := 11) (by decide +kernel) rfl k_X12_proof l_RX12_292 rfl (by omega) (am_le rfl) rfl (am_le rfl) hm.o.1 hm.o.2 rfl (ZM.mono h (zKc_wk (wk_none (wk_some (wk_some wk_nil)))))))
/-! ===== the proof of a plan ===== -/
theorem isPs_eq {k : Bk} {p : Pl} {x y : Int} (h : isPs k p x) (h' : isPs k p y) : x = y := by
  rcases h with ⟨h1, h2⟩ | ⟨t, h1, h2, h3, h4⟩
  · rcases h' with ⟨g1, g2⟩ | ⟨s, g1, g2, g3, g4⟩
    · omega
    · exact absurd g3 (h2 s g1)
  · rcases h' with ⟨g1, g2⟩ | ⟨s, g1, g2, g3, g4⟩
    · exact absurd h3 (g2 t h1)
    · by_cases c : t < s
      · exact absurd h3 (g4 t c)
      · by_cases d : s < t
        · exact absurd g3 (h4 s d)
        · omega
theorem isPn_eq {k : Bk} (ho : kOk k) {p : Pl} {t : Nat} {x g x' g' : Int} (h : isPn k p t x g) (h' : isPn k p t x' g') : x = x' ∧ g = g' := by
  rcases h with ⟨h1, h2, h3⟩ | ⟨j, h1, h2, h3, h4, h5⟩
  · rcases h' with ⟨g1, g2, g3⟩ | ⟨i, g1, g2, g3, g4, g5⟩
    · omega
    · exact absurd g2 (h3 i g1)
  · rcases h' with ⟨g1, g2, g3⟩ | ⟨i, g1, g2, g3, g4, g5⟩
    · exact absurd h2 (g3 j h1)
    · have a := h5 i g1 g2
      have b := g5 j h1 h2
      have e : kE k i = kE k j := by omega
      have eij : i = j := ho.2.2.2.1 i j g1 h1 e (by omega)
      rw [eij] at g3 g4
      omega
theorem isPf_eq {k : Bk} (ho : kOk k) {p : Pl} {d g d' g' : Nat → Int} {q q' : Nat} (h : isPf k p d g q) (h' : isPf k p d' g' q') : q = q' ∧ ∀ i, i < q → d i = d' i ∧ g i = g' i := by
  obtain ⟨h1, h2, h3, h4⟩ := h
  obtain ⟨k1, k2, k3, k4⟩ := h'
  have st : ∀ i, i ≤ q → i ≤ q' → d i = d' i := by
    intro i
    induction i with
    | zero => exact fun _ _ => isPs_eq h1 k1
    | succ i ih =>
      intro a b
      have e := ih (by omega) (by omega)
      have n1 := (h3 i (by omega)).2.2
      have n2 := (k3 i (by omega)).2.2
      rw [e] at n1
      exact (isPn_eq ho n1 n2).1
  have eq : q = q' := by
    by_cases c : q < q'
    · have e := st q (Nat.le_refl _) (by omega)
      have := (k3 q c).1
      omega
    · by_cases c' : q' < q
      · have e := st q' (by omega) (Nat.le_refl _)
        have := (h3 q' c').1
        omega
      · omega
  refine ⟨eq, fun i hi => ⟨st i (by omega) (by omega), ?_⟩⟩
  have n1 := (h3 i hi).2.2
  have n2 := (k3 i (by omega)).2.2
  rw [st i (by omega) (by omega)] at n1
  exact (isPn_eq ho n1 n2).2
noncomputable def vPf (k : Bk) (p : Pl) : (Nat → Int) × (Nat → Int) × Nat := @Classical.epsilon _ ⟨(fun _ => 0, fun _ => 0, 0)⟩ (fun a : (Nat → Int) × (Nat → Int) × Nat => isPf k p a.1 a.2.1 a.2.2)
theorem vPf_of {k : Bk} (ho : kOk k) {p : Pl} {d g : Nat → Int} {q : Nat} (h : isPf k p d g q) : isPf k p (vPf k p).1 (vPf k p).2.1 (vPf k p).2.2 ∧ q = (vPf k p).2.2 ∧ ∀ i, i < q → d i = (vPf k p).1 i ∧ g i = (vPf k p).2.1 i := by
  have h1 : isPf k p (vPf k p).1 (vPf k p).2.1 (vPf k p).2.2 := @Classical.epsilon_spec _ (fun a : (Nat → Int) × (Nat → Int) × Nat => isPf k p a.1 a.2.1 a.2.2) ⟨(d, g, q), h⟩
  exact ⟨h1, isPf_eq ho h h1⟩
noncomputable def o_proofLength (σ : St) : Ou := pIf σ fun p => (0, ((vPf (sK σ) p).2.2 : Int), σ)
noncomputable def o_proofAt (σ : St) (x : Int) : Ou := pIf σ fun p => cIf (0 ≤ x ∧ x < (vPf (sK σ) p).2.2) (0, (vPf (sK σ) p).1 ((vPf (sK σ) p).2.2 - 1 - x.toNat), σ) (2, 0, σ)
theorem IC.pf {Z : Zm} {σ : St} {p : Pl} (h : IC Z σ) (ho : okS σ) (hp : sP σ = some p) : isPf (sK σ) p (vPf (sK σ) p).1 (vPf (sK σ) p).2.1 (vPf (sK σ) p).2.2 ∧ zI Z 256 5 = ((vPf (sK σ) p).2.2 : Int) ∧ ∀ i, i < (vPf (sK σ) p).2.2 → zI Z 264 ((vPf (sK σ) p).2.2 - 1 - i) = (vPf (sK σ) p).1 i ∧ zI Z 265 ((vPf (sK σ) p).2.2 - 1 - i) = (if i = 0 then 0 else (vPf (sK σ) p).2.1 (i - 1)) := by
  obtain ⟨-, -, -, -, -, -, q, d, g, hf, h5, h6⟩ := h.pl.2 p hp
  obtain ⟨v1, v2, v3⟩ := vPf_of ho.1 hf
  rw [← v2]
  refine ⟨by rw [v2]; exact v1, h5, fun i hi => ?_⟩
  obtain ⟨a1, a2⟩ := h6 i hi
  refine ⟨a1.trans (v3 i hi).1, a2.trans ?_⟩
  by_cases c : i = 0
  · rw [if_pos c, if_pos c]
  · rw [if_neg c, if_neg c]
    exact (v3 (i - 1) (by omega)).2
theorem c_proofLength {G : Gx} {Z : Zm} {σ : St} (h : IC Z σ) (ho : okS σ) (hz : zSz Z < 1000000) : ZM G 12 m_X11_proofLength [.ref 0] Z (rC Z (E3 eT "" "") iv (o_proofLength σ)) := by
  unfold o_proofLength
  cases hp : sP σ with
  | none =>
    rw [pIf_n hp]
    have e0 := h.pn hp
    refine e_X11_proofLength h.1 ?_
    rw [e0, if_neg (by decide)]
    exact ⟨by decide, hz, rC.no h (by decide) rfl⟩
  | some p =>
    rw [pIf_s hp]
    have e0 := (h.pl.2 p hp).1
    obtain ⟨-, v2, v3⟩ := h.pf ho hp
    refine e_X11_proofLength h.1 ?_
    rw [e0, if_pos (by decide)]
    exact ⟨by decide, hz, rC.st h v2⟩
theorem c_proofAt {G : Gx} {Z : Zm} {σ : St} {x : Int} (h : IC Z σ) (ho : okS σ) (hz : zSz Z < 1000000) (hx : R32 x) : ZM G 12 m_X11_proofAt [.ref 0, iv x] Z (rC Z (E3 eT eI "") iv (o_proofAt σ x)) := by
  unfold o_proofAt
  cases hp : sP σ with
  | none =>
    rw [pIf_n hp]
    have e0 := h.pn hp
    refine e_X11_proofAt h.1 ?_
    rw [e0, if_neg (by decide)]
    exact ⟨by decide, hz, rC.no h (by decide) rfl⟩
  | some p =>
    rw [pIf_s hp]
    have e0 := (h.pl.2 p hp).1
    obtain ⟨v1, v2, v3⟩ := h.pf ho hp
    have hq := v1.2.1
    have hN := ho.1.n
    refine e_X11_proofAt h.1 ?_
    rw [e0, if_pos (by decide)]
    refine ⟨by decide, hz, hx, ?_⟩
    by_cases c1 : x < 0
    · rw [if_pos c1, cIf_f (by omega)]
      exact rC.no h (by decide) rfl
    rw [if_neg c1, v2]
    refine ⟨by omega, ?_⟩
    by_cases c2 : x < ((vPf (sK σ) p).2.2 : Int)
    · rw [if_pos c2, cIf_p (by omega)]
      refine ⟨⟨by omega, by omega, by decide⟩, rC.st h ?_⟩
      have := (v3 ((vPf (sK σ) p).2.2 - 1 - x.toNat) (by omega)).1
      rw [show (vPf (sK σ) p).2.2 - 1 - ((vPf (sK σ) p).2.2 - 1 - x.toNat) = x.toNat by omega] at this
      exact this
    · rw [if_neg c2, cIf_f (by omega)]
      exact rC.no h (by decide) rfl
/-! ===== the model's proof ===== -/
theorem s_planned {G : Gx} {Z : Zm} {B : Nat} {σ : St} {p : Pl} {t : Nat} {y : Int} (h : IMb Z B σ) (hp : sP σ = some p) (hN : kN (sK σ) ≤ 20) (ht : t < kN (sK σ)) : ZM G 1 m_X12_planned [.ref 300, iv (t : Int), iv y] Z (fun r W => r = .inl (some (iv (plB p t + kF (sK σ) 0 t + y))) ∧ W = Z) := by
  refine e_X12_planned h.1 ⟨zIx_nat (by omega) (by omega), ?_⟩
  have e5 : mG Z B t 0 = kF (sK σ) 0 t := (h.2.2.1.2.2.1 t ht).1 0 (by omega)
  have e1 : zI Z (300 + 11) t = plB p t := ((h.pl.2 p hp).2.2.2.2 t ht).1
  rw [Int.toNat_natCast, e5, e1]
  exact ⟨rfl, rfl⟩
theorem lateB_r {k : Bk} {p : Pl} (hp : okPl k p) (ho : kOk k) {j : Nat} (hj : j < kM k) : 1 ≤ lateB k (plB p) j ∧ lateB k (plB p) j ≤ 5090 := by
  have h1 := (hp.b (ho.e hj)).1
  have h2 := ho.len (ho.e hj)
  have h3 := ho.g hj
  unfold lateB
  omega
def isLn (k : Bk) (p : Pl) (t n : Nat) (y : Int) : Prop := (y = -1 ∧ ∀ i, i < n → kL k i ≠ t) ∨ ∃ j : Nat, j < n ∧ y = (j : Int) ∧ kL k j = t ∧ ∀ i, i < n → kL k i = t → lateB k (plB p) i < lateB k (plB p) j ∨ (lateB k (plB p) i = lateB k (plB p) j ∧ kE k j ≤ kE k i)
theorem s_lastNeed {G : Gx} {Z : Zm} {B : Nat} {σ : St} {p : Pl} {t : Nat} (h : IMb Z B σ) (ho : okS σ) (hp : sP σ = some p) (ht : t < kN (sK σ)) : ZM G 2 m_X12_lastNeed [.ref 300, iv (t : Int)] Z (fun r W => (∃ y, isLn (sK σ) p t (kM (sK σ)) y ∧ r = .inl (some (iv y))) ∧ W = Z) := by
  have hN := ho.1.n
  have hM := ho.1.m
  have ok := ho.p p hp
  have k1 := h.2.2.1
  refine e_X12_lastNeed h.1 ?_
  suffices key : ∀ j, j ≤ kM (sK σ) → ∀ y, isLn (sK σ) p t j y → ZP G 2 m_X12_lastNeed 4 [some (.ref 300), some (iv (t : Int)), some (iv y), some (iv (j : Int)), none] [] Z (fun r W => (∃ y, isLn (sK σ) p t (kM (sK σ)) y ∧ r = .inl (some (iv y))) ∧ W = Z) from key 0 (Nat.zero_le _) (-1) (Or.inl ⟨rfl, fun i hi => absurd hi (Nat.not_lt_zero _)⟩)
  refine am_up (n := kM (sK σ)) fun j hj ih y hy => ?_
  refine b_X12_lastNeed_4 h.1 ⟨by omega, by rw [k1.2.1]; omega, ?_⟩
  rw [k1.2.1]
  by_cases c : j < kM (sK σ)
  · obtain ⟨e1, e2, e3⟩ := k1.2.2.2 j c
    have hl := ho.1.l c
    have he := ho.1.e c
    have lj := lateB_r ok ho.1 c
    rw [if_neg (by omega), Int.toNat_natCast, e1, e2, e3]
    refine ⟨zIx_nat (by omega) (by omega), by omega, by omega, ?_⟩
    by_cases d : (kL (sK σ) j : Int) = (t : Int)
    · have d' : kL (sK σ) j = t := by omega
      rw [if_pos d]
      rcases hy with ⟨q1, q2⟩ | ⟨i, q1, q2, q3, q4⟩
      · rw [q1, if_pos rfl]
        refine ⟨by decide, ih c _ (Or.inr ⟨j, by omega, rfl, d', fun i hi hl => ?_⟩)⟩
        by_cases e : i = j
        · rw [e]
          exact Or.inr ⟨rfl, Nat.le_refl _⟩
        · exact absurd hl (q2 i (by omega))
      · rw [q2, if_neg (by omega)]
        refine ⟨by omega, (s_planned h hp hN he).mono ?_⟩
        rintro r W ⟨rfl, hW⟩
        obtain rfl := hW.symm
        have li := lateB_r ok ho.1 (show i < kM (sK σ) by omega)
        obtain ⟨f1, f2, f3⟩ := k1.2.2.2 i (by omega)
        have hei := ho.1.e (show i < kM (sK σ) by omega)
        refine b_X12_lastNeed_44 h.1 ⟨zIx_nat (by omega) (by omega), ?_⟩
        rw [Int.toNat_natCast, f1, f3]
        refine (s_planned h hp hN hei).mono ?_
        rintro r W ⟨rfl, hW⟩
        obtain rfl := hW.symm
        show zKc G 2 m_X12_lastNeed 58 _ [iv (lateB (sK σ) (plB p) j)] _ (.inl (some (iv (lateB (sK σ) (plB p) i)))) Z
        refine b_X12_lastNeed_58 h.1 ?_
        rw [Int.toNat_natCast, Int.toNat_natCast, f1, e1]
        have old : ∀ b : Nat, (lateB (sK σ) (plB p) i ≤ lateB (sK σ) (plB p) b) → (lateB (sK σ) (plB p) i = lateB (sK σ) (plB p) b → kE (sK σ) b ≤ kE (sK σ) i) → (lateB (sK σ) (plB p) j < lateB (sK σ) (plB p) b ∨ (lateB (sK σ) (plB p) j = lateB (sK σ) (plB p) b ∧ kE (sK σ) b ≤ kE (sK σ) j)) → ∀ i', i' < j + 1 → kL (sK σ) i' = t → lateB (sK σ) (plB p) i' < lateB (sK σ) (plB p) b ∨ (lateB (sK σ) (plB p) i' = lateB (sK σ) (plB p) b ∧ kE (sK σ) b ≤ kE (sK σ) i') := fun b b1 b2 b3 i' hi' hl' => by
          by_cases e : i' = j
          · rw [e]
            exact b3
          · have := q4 i' (by omega) hl'
            omega
        by_cases c1 : lateB (sK σ) (plB p) i < lateB (sK σ) (plB p) j
        · have sg : zSgn (lateB (sK σ) (plB p) j) (lateB (sK σ) (plB p) i) = 1 := by
            unfold zSgn
            rw [if_neg (by omega), if_neg (by omega)]
          rw [sg, if_pos (by decide)]
          exact ⟨by omega, by omega, by decide, fun q => absurd (by decide) q, ih c _ (Or.inr ⟨j, by omega, rfl, d', old j (by omega) (fun q => by omega) (Or.inr ⟨rfl, Nat.le_refl _⟩)⟩)⟩
        · by_cases c2 : lateB (sK σ) (plB p) i = lateB (sK σ) (plB p) j
          · have sg : zSgn (lateB (sK σ) (plB p) j) (lateB (sK σ) (plB p) i) = 0 := by
              unfold zSgn
              rw [if_neg (by omega), if_pos (by omega)]
            rw [sg, if_neg (by decide), if_pos rfl]
            refine ⟨by omega, by omega, by decide, fun q => ⟨fun _ => ⟨zIx_nat (by omega) (by omega), zIx_nat (by omega) (by omega), by omega, by omega, trivial⟩, trivial⟩, ih c _ ?_⟩
            by_cases c3 : (kE (sK σ) i : Int) ≤ (kE (sK σ) j : Int)
            · rw [if_pos c3]
              exact Or.inr ⟨i, by omega, rfl, q3, old i (by omega) (fun q => by omega) (Or.inr ⟨by omega, by omega⟩)⟩
            · rw [if_neg c3]
              exact Or.inr ⟨j, by omega, rfl, d', old j (by omega) (fun q => by omega) (Or.inr ⟨rfl, Nat.le_refl _⟩)⟩
          · have sg : zSgn (lateB (sK σ) (plB p) j) (lateB (sK σ) (plB p) i) = -1 := by
              unfold zSgn
              rw [if_pos (by omega)]
            rw [sg, if_neg (by decide), if_neg (by decide)]
            exact ⟨by omega, by omega, by decide, fun q => ⟨fun q2 => absurd q2 (by decide), trivial⟩, ih c _ (Or.inr ⟨i, by omega, rfl, q3, old i (by omega) (fun q => by omega) (Or.inl (by omega))⟩)⟩
    · rw [if_neg d]
      refine ih c y ?_
      have no : ∀ i, i < j + 1 → kL (sK σ) i = t → i < j := fun i hi e => by
        by_cases g : i = j
        · rw [g] at e
          omega
        · omega
      rcases hy with ⟨q1, q2⟩ | ⟨i, q1, q2, q3, q4⟩
      · exact Or.inl ⟨q1, fun i hi e => q2 i (no i hi e) e⟩
      · exact Or.inr ⟨i, by omega, q2, q3, fun i' hi' e => q4 i' (no i' hi' e) e⟩
  · rw [if_pos (by omega), ]
    rw [show j = kM (sK σ) by omega] at hy
    exact ⟨⟨y, hy, rfl⟩, rfl⟩
theorem isLn.pn {k : Bk} {p : Pl} {t : Nat} {y : Int} (h : isLn k p t (kM k) y) : ∃ g, isPn k p t (if y = -1 then -1 else (kE k y.toNat : Int)) g := by
  rcases h with ⟨h1, h2⟩ | ⟨j, h1, h2, h3, h4⟩
  · rw [if_pos h1]
    exact ⟨0, Or.inl ⟨rfl, rfl, h2⟩⟩
  · rw [if_neg (by omega), h2, Int.toNat_natCast]
    exact ⟨kG k j, Or.inr ⟨j, h1, h3, rfl, rfl, h4⟩⟩
def sPs (k : Bk) (p : Pl) (j : Nat) (x : Int) : Prop := (x = -1 ∧ ∀ t, j ≤ t → t < kN k → plB p t + kF k 0 t ≠ plE p) ∨ ∃ t : Nat, t < kN k ∧ x = (t : Int) ∧ plB p t + kF k 0 t = plE p ∧ ∀ s, j ≤ s → s < t → plB p s + kF k 0 s ≠ plE p
theorem sPs.step {k : Bk} {p : Pl} {j : Nat} {x : Int} (h : sPs k p (j + 1) x) (hj : j < kN k) : sPs k p j (if plB p j + kF k 0 j = plE p then (j : Int) else x) := by
  by_cases c : plB p j + kF k 0 j = plE p
  · rw [if_pos c]
    exact Or.inr ⟨j, hj, rfl, c, fun s h1 h2 => by omega⟩
  · rw [if_neg c]
    have q : ∀ s, j ≤ s → ¬ (j + 1 ≤ s) → plB p s + kF k 0 s ≠ plE p := fun s h1 h2 => by
      rw [show s = j by omega]
      exact c
    rcases h with ⟨h1, h2⟩ | ⟨t, t1, t2, t3, t4⟩
    · refine Or.inl ⟨h1, fun t g1 g2 => ?_⟩
      by_cases e : j + 1 ≤ t
      · exact h2 t e g2
      · exact q t g1 e
    · refine Or.inr ⟨t, t1, t2, t3, fun s g1 g2 => ?_⟩
      by_cases e : j + 1 ≤ s
      · exact t4 s e g2
      · exact q s g1 e
theorem sPs.st {k : Bk} {p : Pl} {x : Int} (h : sPs k p 0 x) : isPs k p x := by
  rcases h with ⟨h1, h2⟩ | ⟨t, t1, t2, t3, t4⟩
  · exact Or.inl ⟨h1, fun t ht => h2 t (Nat.zero_le _) ht⟩
  · exact Or.inr ⟨t, t1, t2, t3, fun s hs => t4 s (Nat.zero_le _) hs⟩
theorem sPs.r {k : Bk} {p : Pl} {j : Nat} {x : Int} (h : sPs k p j x) : x = -1 ∨ (0 ≤ x ∧ x < kN k) := by
  rcases h with ⟨h1, -⟩ | ⟨t, t1, t2, -⟩
  · exact Or.inl h1
  · exact Or.inr (by omega)
def sPc (k : Bk) (p : Pl) (d : Nat → Int) (n : Nat) (x : Int) : Prop := isPs k p (d 0) ∧ d n = x ∧ ∀ i, i < n → 0 ≤ d i ∧ d i < kN k ∧ ∃ g, isPn k p (d i).toNat (d (i + 1)) g
theorem sPc.step {k : Bk} {p : Pl} {d : Nat → Int} {n : Nat} {x y : Int} (h : sPc k p d n x) (hx : 0 ≤ x ∧ x < kN k) (hy : ∃ g, isPn k p x.toNat y g) : sPc k p (zu d (n + 1) y) (n + 1) y := by
  obtain ⟨h1, h2, h3⟩ := h
  refine ⟨by rw [zu_other (by omega)]; exact h1, zu_same _ _ _, fun i hi => ?_⟩
  rw [zu_other (by omega)]
  by_cases e : i = n
  · rw [e, zu_same, h2]
    exact ⟨hx.1, hx.2, hy⟩
  · rw [zu_other (by omega)]
    exact h3 i (by omega)
theorem sPc.pf {k : Bk} {p : Pl} {d : Nat → Int} {n : Nat} (h : sPc k p d n (-1)) (hn : n ≤ kN k) : ∃ g, isPf k p d g n := by
  obtain ⟨h1, h2, h3⟩ := h
  have hg : ∀ i, ∃ g, i < n → isPn k p (d i).toNat (d (i + 1)) g := fun i => by
    by_cases c : i < n
    · obtain ⟨g, hg⟩ := (h3 i c).2.2
      exact ⟨g, fun _ => hg⟩
    · exact ⟨0, fun g => absurd g c⟩
  obtain ⟨g, hg⟩ := Classical.axiomOfChoice hg
  exact ⟨g, h1, hn, fun i hi => ⟨(h3 i hi).1, (h3 i hi).2.1, hg i hi⟩, h2⟩
/-- the row a holds the proof, and -1 behind it -/
def isPt (Z : Zm) (a : Nat) (k : Bk) (p : Pl) : Prop := zA Z a 100 21 ∧ 322 ≤ a ∧ isPf k p (vPf k p).1 (vPf k p).2.1 (vPf k p).2.2 ∧ (∀ i, i < (vPf k p).2.2 → zI Z a i = (vPf k p).1 i) ∧ zI Z a (vPf k p).2.2 = -1
theorem s_mproof {G : Gx} {Z : Zm} {B : Nat} {σ : St} {p : Pl} (h : IMb Z B σ) (ho : okS σ) (hp : sP σ = some p) (hz : 322 ≤ zSz Z ∧ zSz Z < 999000) : ZM G 3 m_X12_proof [.ref 300] Z (fun r W => r = .inl (some (.ref (zSz Z))) ∧ zF mS 1 21 Z W ∧ IMb W B σ ∧ isPt W (zSz Z) (sK σ) p) := by
  have hN := ho.1.n
  have hM := ho.1.m
  have ok := ho.p p hp
  have hen := ok.e ho.1
  obtain ⟨pos, p1, p2⟩ := kPos ho.1
  refine e_X12_proof h.1 ⟨by omega, ?_⟩
  rintro _ rfl
  have fC : zF mS 1 21 Z (zC Z 100 21 21) := zF_C
  have aL : zA (zC Z 100 21 21) (zSz Z) 100 21 := zA_C Z 100 21 21
  have hY := h.m hz.1 fC
  rw [hY.2.2.1.1]
  generalize zC Z 100 21 21 = Y at fC aL hY ⊢
  generalize ha : zSz Z = a at *
  have fW : ∀ f, zF mS 1 21 Z (zSI Y a f) := fun f => fC.wr (Or.inr (by omega))
  have hU : ∀ f, IMb (zSI Y a f) B σ := fun f => h.m (by omega) (fW f)
  have aU : ∀ f, zA (zSI Y a f) a 100 21 := fun f => aL.s
  generalize hQ : (fun (r : Rv) (W : Zm) => r = .inl (some (.ref a)) ∧ zF mS 1 21 Z W ∧ IMb W B σ ∧ isPt W a (sK σ) p) = Q
  have L2 : ∀ (m n : Nat) (x : Int) (d f : Nat → Int), n + m = kN (sK σ) → (x = -1 ∨ (0 ≤ x ∧ x < kN (sK σ)) ∧ pos x.toNat < m) → sPc (sK σ) p d n x → (∀ i, i < n → f i = d i) → ZP G 3 m_X12_proof 49 [some (.ref 300), some (.ref a), some (iv (n : Int)), some (iv x), none] [] (zSI Y a f) Q := by
    intro m
    have fin : ∀ (n : Nat) (d f : Nat → Int), n ≤ kN (sK σ) → sPc (sK σ) p d n (-1) → (∀ i, i < n → f i = d i) → ZP G 3 m_X12_proof 49 [some (.ref 300), some (.ref a), some (iv (n : Int)), some (iv (-1)), none] [] (zSI Y a f) Q := fun n d f hn hd hf => by
      refine b_X12_proof_49 (hU f).1 (aU f) ⟨by decide, ?_⟩
      rw [if_pos rfl]
      refine ⟨⟨by omega, by omega, by decide⟩, ?_⟩
      rintro _ rfl
      rw [zI_same, zSI_zSI, Int.toNat_natCast, ← hQ]
      obtain ⟨g, hg⟩ := hd.pf hn
      obtain ⟨q1, q2, q3⟩ := vPf_of ho.1 hg
      refine ⟨rfl, fW _, hU _, aU _, by omega, q1, fun i hi => ?_, ?_⟩
      · rw [← q2] at hi
        rw [zI_same, zu_other (by omega), hf i hi, (q3 i hi).1]
      · rw [zI_same, ← q2, zu_same]
    induction m with
    | zero =>
      intro n x d f hn hx hd hf
      have hx1 : x = -1 := by
        rcases hx with q | ⟨q1, q2⟩
        · exact q
        · omega
      subst hx1
      exact fin n d f (by omega) hd hf
    | succ m ih =>
      intro n x d f hn hx hd hf
      rcases hx with rfl | ⟨q1, q2⟩
      · exact fin n d f (by omega) hd hf
      · refine b_X12_proof_49 (hU f).1 (aU f) ⟨by omega, ?_⟩
        rw [if_neg (by omega)]
        refine ⟨⟨by omega, by omega, by decide⟩, ?_⟩
        rintro _ rfl
        rw [zI_same, zSI_zSI, Int.toNat_natCast]
        obtain ⟨t, rfl⟩ : ∃ t : Nat, x = (t : Int) := ⟨x.toNat, by omega⟩
        refine (s_lastNeed (hU _) ho hp (by omega)).mono ?_
        rintro r W ⟨⟨y, hy, rfl⟩, hW⟩
        obtain rfl := hW.symm
        have ry : y = -1 ∨ (0 ≤ y ∧ y < kM (sK σ)) := by
          rcases hy with ⟨q, -⟩ | ⟨j, j1, j2, -⟩
          · exact Or.inl q
          · exact Or.inr (by omega)
        refine b_X12_proof_66 (hU _).1 (aU _) ⟨by omega, fun q => ⟨⟨by omega, by omega, by decide⟩, trivial⟩, ?_⟩
        have hn' := hy.pn
        have ev : (if y = -1 then (-1 : Int) else mE (zSI Y a (zu f n (t : Int))) B y.toNat) = (if y = -1 then -1 else (kE (sK σ) y.toNat : Int)) := by
          by_cases c : y = -1
          · rw [if_pos c, if_pos c]
          · rw [if_neg c, if_neg c]
            exact ((hU (zu f n (t : Int))).2.2.1.2.2.2 y.toNat (by omega)).1
        rw [ev]
        refine ih (n + 1) _ (zu d (n + 1) _) (zu f n (t : Int)) (by omega) ?_ (hd.step q1 (by rw [Int.toNat_natCast]; exact hn')) fun i hi => ?_
        · rcases hy with ⟨e, -⟩ | ⟨j, j1, j2, j3, -⟩
          · rw [if_pos e]
            exact Or.inl rfl
          · rw [if_neg (by omega), j2, Int.toNat_natCast]
            have a1 := p2 j j1
            have a2 := ho.1.e j1
            rw [j3] at a1
            rw [Int.toNat_natCast] at q2
            exact Or.inr ⟨by omega, by rw [Int.toNat_natCast]; omega⟩
        · rw [zu_other (f := d) (k := n + 1) (show i ≠ n + 1 by omega)]
          by_cases e : i = n
          · rw [e, zu_same]
            exact hd.2.1.symm
          · rw [zu_other e]
            exact hf i (by omega)
  suffices L1 : ∀ j, j ≤ kN (sK σ) → ∀ x, sPs (sK σ) p j x → ZP G 3 m_X12_proof 17 [some (.ref 300), some (.ref a), some (iv 0), some (iv x), some (iv ((j : Int) - 1))] [] Y Q from L1 (kN (sK σ)) (Nat.le_refl _) (-1) (Or.inl ⟨rfl, fun t h1 h2 => by omega⟩)
  intro j
  induction j with
  | zero =>
    intro hj x hs
    have rs := hs.r
    refine b_X12_proof_17 hY.1 aL ⟨by omega, ?_⟩
    rw [if_pos (by omega)]
    have h9 := L2 (kN (sK σ)) 0 x (fun _ => x) (zI Y a) (by omega) ?_ ⟨hs.st, rfl, fun i hi => absurd hi (Nat.not_lt_zero _)⟩ fun i hi => absurd hi (Nat.not_lt_zero _)
    · rw [zSI_id] at h9
      exact h9
    · rcases rs with q | q
      · exact Or.inl q
      · exact Or.inr ⟨q, p1 _ (by omega)⟩
  | succ j ih =>
    intro hj x hs
    have hjn : j < kN (sK σ) := by omega
    have ej : (((j + 1 : Nat) : Int) - 1) = (j : Int) := by omega
    refine b_X12_proof_17 hY.1 aL ⟨by omega, ?_⟩
    rw [if_neg (by omega), ej]
    refine ((s_planned hY hp hN hjn).deeper (by omega)).mono ?_
    rintro r W ⟨rfl, hW⟩
    obtain rfl := hW.symm
    have b1 := (ok.b hjn).1
    have b2' := ho.1.len hjn
    have e14 : zI Y 300 14 = plE p := (hY.pl.2 p hp).2.2.1
    refine b_X12_proof_29 hY.1 aL ?_
    rw [e14, Int.add_zero, show (j : Int) + -1 = (j : Int) - 1 by omega]
    exact ⟨by omega, by omega, ih (by omega) _ (hs.step hjn)⟩
theorem s_sizeP {G : Gx} {Z : Zm} {a : Nat} {k : Bk} {p : Pl} (h : isPt Z a k p) (ho : kOk k) : ZM G 0 m_X12_sizeOf [.ref a] Z (fun r W => r = .inl (some (iv ((vPf k p).2.2 : Int))) ∧ W = Z) := by
  obtain ⟨h1, h2, h3, h4, h5⟩ := h
  have hN := ho.n
  have hq := h3.2.1
  refine e_X12_sizeOf h1 ?_
  suffices key : ∀ j, j ≤ (vPf k p).2.2 → ZP G 0 m_X12_sizeOf 2 [some (.ref a), some (iv (j : Int))] [] Z (fun r W => r = .inl (some (iv ((vPf k p).2.2 : Int))) ∧ W = Z) from key 0 (Nat.zero_le _)
  refine am_up (n := (vPf k p).2.2) fun j hj ih => ?_
  refine b_X12_sizeOf_2 h1 ⟨zIx_nat (by omega) (by omega), ?_⟩
  rw [Int.toNat_natCast]
  by_cases c : j < (vPf k p).2.2
  · have a1 := h4 j c
    have a2 := h3.2.2.1 j c
    rw [a1, if_neg (by omega)]
    exact ⟨by omega, ih c⟩
  · rw [show j = (vPf k p).2.2 by omega, h5, if_pos rfl]
    exact ⟨by decide, rfl, rfl⟩
theorem d_proofLength {G : Gx} {Z : Zm} {B : Nat} {σ : St} (h : IMb Z B σ) (ho : okS σ) (hz : 322 ≤ zSz Z ∧ zSz Z < 990000) : ZM G 12 m_X12_proofLength [.ref 300] Z (rM Z iv (o_proofLength σ)) := by
  unfold o_proofLength
  cases hp : sP σ with
  | none =>
    rw [pIf_n hp]
    have e0 := h.pl.1 hp
    refine e_X12_proofLength h.1 ?_
    rw [e0]
    refine ⟨by decide, ?_⟩
    rintro _ rfl
    rw [fC_1 (P := (0 : Int) = 0) rfl, if_pos (by decide)]
    exact rM.no h (by decide) rfl
  | some p =>
    rw [pIf_s hp]
    have e0 := (h.pl.2 p hp).1
    refine e_X12_proofLength h.1 ?_
    rw [e0]
    refine ⟨by decide, ?_⟩
    rintro _ rfl
    rw [fC_o1 (P := (1 : Int) = 0) (by decide), if_neg (by decide)]
    refine ((s_mproof (h.t 0) ho hp ⟨hz.1, by show zSz Z < 999000; omega⟩).deeper (by omega)).mono ?_
    rintro r W ⟨rfl, f, h1, td⟩
    refine b_X12_proofLength_29 h1.1 td.1 (((s_sizeP td ho.1).deeper (by omega)).mono ?_)
    rintro r W' ⟨rfl, hW⟩
    obtain rfl := hW.symm
    obtain ⟨v, e⟩ := mS_t f hz.1
    exact b_X12_proofLength_32 h1.1 (rM.ok h1 e v (by omega) (by omega) rfl)
theorem d_proofAt {G : Gx} {Z : Zm} {B : Nat} {σ : St} {x : Int} (h : IMb Z B σ) (ho : okS σ) (hz : 322 ≤ zSz Z ∧ zSz Z < 990000) (hx : R32 x) : ZM G 12 m_X12_proofAt [.ref 300, iv x] Z (rM Z iv (o_proofAt σ x)) := by
  have hN := ho.1.n
  unfold o_proofAt
  cases hp : sP σ with
  | none =>
    rw [pIf_n hp]
    have e0 := h.pl.1 hp
    refine e_X12_proofAt h.1 ?_
    rw [e0, if_pos rfl]
    refine ⟨by decide, hx, by decide, ?_⟩
    rintro _ rfl
    rw [fC_1 (P := (0 : Int) = 0) rfl, if_pos (by decide)]
    exact rM.no h (by decide) rfl
  | some p =>
    rw [pIf_s hp]
    have e0 := (h.pl.2 p hp).1
    refine e_X12_proofAt h.1 ?_
    rw [e0, if_neg (by decide)]
    refine ⟨by decide, ((s_mproof h ho hp ⟨hz.1, by omega⟩).deeper (by omega)).mono ?_⟩
    rintro r W ⟨rfl, f, h1, td⟩
    refine b_X12_proofAt_11 h1.1 td.1 (((s_sizeP td ho.1).deeper (by omega)).mono ?_)
    rintro r W' ⟨rfl, hW⟩
    obtain rfl := hW.symm
    have hq := td.2.2.1.2.1
    have e0' := (h1.pl.2 p hp).1
    refine b_X12_proofAt_14 h1.1 ?_
    rw [e0']
    refine ⟨by decide, hx, by omega, ?_⟩
    rintro _ rfl
    have vv := mS_v f hz.1
    have sz := f.z
    have sz' := f.1.1
    by_cases c : 0 ≤ x ∧ x < ((vPf (sK σ) p).2.2 : Int)
    · rw [cIf_p c, fC_o2 (P := (1 : Int) = 0) (Q := ¬ (0 ≤ x ∧ x ≤ ((vPf (sK σ) p).2.2 : Int) - 1)) (by decide) (by omega), if_neg (by decide)]
      refine ((s_mproof (h1.t 0) ho hp ⟨by show 322 ≤ zSz W; omega, by show zSz W < 999000; omega⟩).deeper (by omega)).mono ?_
      rintro r V ⟨rfl, f2, h2, td2⟩
      obtain ⟨v2, e2⟩ := mS_t f2 (show 322 ≤ zSz W by omega)
      have ei : (((vPf (sK σ) p).2.2 : Int) - 1 - x).toNat = (vPf (sK σ) p).2.2 - 1 - x.toNat := by omega
      refine b_X12_proofAt_63 h2.1 td2.1 ⟨⟨by omega, by omega, by decide⟩, rM.ok h2 e2 (vv.trans v2) (by omega) (by omega) ?_⟩
      rw [ei]
      exact td2.2.2.2.1 _ (by omega)
    · rw [cIf_f c, fC_2 (P := (1 : Int) = 0) (Q := ¬ (0 ≤ x ∧ x ≤ ((vPf (sK σ) p).2.2 : Int) - 1)) (by decide) (by omega), if_pos (by decide)]
      exact ⟨⟨_, rfl, fun g => absurd (show (2 : Nat) = 0 from g) (by decide)⟩, zI_t _ _, ⟨B, h1.t _⟩, (vv.trans zV_t).mono (by omega) (by omega)⟩
