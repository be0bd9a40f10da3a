set_option maxRecDepth 20000 in
theorem e_X9_countWorking {G : Gx} {Q : Rv → Zm → Prop} {Z : Zm} {p : Nat} {b : Nat} {c : Int} {x : Int} (hp : atPlan Z p) (hb : atBook Z b) (h : (ZP G 0 m_X9_countWorking 6 [some (.ref p), some (.ref b), some (iv c), some (iv x), some (iv 0), some (iv 0)] [] Z Q)) : ZM G 0 m_X9_countWorking [.ref p, .ref b, iv c, iv x] Z Q := ZM.of [some (.ref p), some (.ref b), some (iv c), some (iv x), none, none] rfl <| z_iconst (pc' := 1) (n := 0) (by decide +kernel) rfl <| z_istore (pc' := 3) (j := 4) (ls' := [some (.ref p), some (.ref b), some (iv c), some (iv x), some (iv 0), none]) (by decide +kernel) (by decide) rfl rfl <| z_iconst (pc' := 4) (n := 0) (by decide +kernel) rfl <| z_istore (pc' := 6) (j := 5) (ls' := [some (.ref p), some (.ref b), some (iv c), some (iv x), some (iv 0), some (iv 0)]) (by decide +kernel) (by decide) rfl rfl <| h
set_option maxRecDepth 20000 in
theorem b_X9_countWorking_6 {G : Gx} {Q : Rv → Zm → Prop} {Z : Zm} {p : Nat} {b : Nat} {c : Int} {x : Int} {v4 : Int} {v5 : Int} (hp : atPlan Z p) (hb : atBook Z b) (h : ((R32 v5) ∧ (R32 (zI Z p 2)) ∧ (if (zI Z p 2) ≤ v5 then (Q (.inl (some (iv v4))) Z) else ((zIx v5 20) ∧ (R32 (zI Z (b + 3) v5.toNat)) ∧ (R32 c) ∧ ((zI Z (b + 3) v5.toNat) = c → (R32 (zI Z (p + 3) v5.toNat)) ∧ (R32 x) ∧ (¬ (x < (zI Z (p + 3) v5.toNat)) → (R32 (zI Z (p + 4) v5.toNat)) ∧ True) ∧ True) ∧ ZP G 0 m_X9_countWorking 6 [some (.ref p), some (.ref b), some (iv c), some (iv x), some (iv (if (zI Z (b + 3) v5.toNat) = c then (if x < (zI Z (p + 3) v5.toNat) then v4 else (if (zI Z (p + 4) v5.toNat) ≤ x then v4 else v4 + 1)) else v4)), some (iv (v5 + 1))] [] Z Q)))) : ZP G 0 m_X9_countWorking 6 [some (.ref p), some (.ref b), some (iv c), some (iv x), some (iv v4), some (iv v5)] [] Z Q := z_iload (pc' := 8) (j := 5) (by decide +kernel) rfl rfl <| z_aload_n (pc' := 9) (j := 0) (by decide +kernel) rfl rfl <| z_getI (pc' := 12) (idx := 48) (ci := 9) (f := 2) (by decide +kernel) f_RX9_48 rfl hp.o.1 hp.o.2 rfl <| h.elim fun c1 h => h.elim fun c2 h => z_icmp_ge (pc' := 15) (tgt := 59) (off := 47) (by decide +kernel) (by decide) rfl c1 c2 (am_ite h (fun h => z_iload (pc' := 61) (j := 4) (by decide +kernel) rfl rfl <| z_ireturn (by decide +kernel) ⟨_, rfl, rfl⟩ h) (fun h => z_aload_n (pc' := 16) (j := 1) (by decide +kernel) rfl rfl <| z_getR (pc' := 19) (idx := 49) (ci := 0) (f := 0) (by decide +kernel) f_RX9_49 rfl hb.o.1 hb.o.2 hb.r0 rfl <| z_iconst (pc' := 20) (n := 1) (by decide +kernel) rfl <| z_aaload120 (pc' := 21) (by decide +kernel) hb.a0 ⟨by decide, by decide, by decide⟩ (hb.e0 1 (by decide)) rfl <| z_iload (pc' := 23) (j := 5) (by decide +kernel) rfl rfl <| h.elim fun c21 h => z_iaload (pc' := 24) (by decide +kernel) (hb.x0 1 (by decide)) c21 rfl <| z_iload_n (pc' := 25) (j := 2) (by decide +kernel) rfl rfl <| h.elim fun c22 h => h.elim fun c23 h => h.elim fun g35 h => am_use (fun k37 => z_icmp_ne (pc' := 28) (tgt := 53) (off := 28) (by decide +kernel) (by decide) rfl c22 c23 (am_ite2 (fun q38 => have h := g35 q38; z_aload_n (pc' := 29) (j := 0) (by decide +kernel) rfl rfl <| z_getR (pc' := 32) (idx := 22) (ci := 9) (f := 8) (by decide +kernel) f_RX9_22 rfl hp.o.1 hp.o.2 hp.r8 rfl <| z_iload (pc' := 34) (j := 5) (by decide +kernel) rfl rfl <| z_iaload (pc' := 35) (by decide +kernel) hp.a8 c21 rfl <| z_iload_n (pc' := 36) (j := 3) (by decide +kernel) rfl rfl <| h.elim fun c24 h => h.elim fun c25 h => h.elim fun g32 h => am_use (fun k33 => z_icmp_gt (pc' := 39) (tgt := 53) (off := 17) (by decide +kernel) (by decide) rfl c24 c25 (am_ite2 (fun q34 => (am_jp (P := fun z9 => ZP G 0 m_X9_countWorking 53 [some (.ref p), some (.ref b), some (iv c), some (iv x), some (iv z9), some (iv v5)] [] _ Q) (if_pos q34) k33)) (fun q34 => have h := g32 q34; z_aload_n (pc' := 40) (j := 0) (by decide +kernel) rfl rfl <| z_getR (pc' := 43) (idx := 25) (ci := 9) (f := 9) (by decide +kernel) f_RX9_25 rfl hp.o.1 hp.o.2 hp.r9 rfl <| z_iload (pc' := 45) (j := 5) (by decide +kernel) rfl rfl <| z_iaload (pc' := 46) (by decide +kernel) hp.a9 c21 rfl <| z_iload_n (pc' := 47) (j := 3) (by decide +kernel) rfl rfl <| h.elim fun c26 h => am_use (fun k29 => z_icmp_le (pc' := 50) (tgt := 53) (off := 6) (by decide +kernel) (by decide) rfl c26 c25 (am_ite2 (fun q30 => (am_jp (P := fun z9 => ZP G 0 m_X9_countWorking 53 [some (.ref p), some (.ref b), some (iv c), some (iv x), some (iv z9), some (iv v5)] [] _ Q) (if_pos q30) k29)) (fun q30 => z_iinc (pc' := 53) (j := 4) (n := 1) (x := v4) (ls' := [some (.ref p), some (.ref b), some (iv c), some (iv x), some (iv (v4 + 1)), some (iv v5)]) (by decide +kernel) rfl (by decide) rfl rfl <| (am_jp (P := fun z9 => ZP G 0 m_X9_countWorking 53 [some (.ref p), some (.ref b), some (iv c), some (iv x), some (iv z9), some (iv v5)] [] _ Q) (if_neg q30) k29)))) <| (am_jp (P := fun z9 => ZP G 0 m_X9_countWorking 53 [some (.ref p), some (.ref b), some (iv c), some (iv x), some (iv z9), some (iv v5)] [] _ Q) (if_neg q34) k33)))) <| (am_jp (P := fun z9 => ZP G 0 m_X9_countWorking 53 [some (.ref p), some (.ref b), some (iv c), some (iv x), some (iv z9), some (iv v5)] [] _ Q) (if_pos q38) k37)) (fun q38 => (am_jp (P := fun z9 => ZP G 0 m_X9_countWorking 53 [some (.ref p), some (.ref b), some (iv c), some (iv x), some (iv z9), some (iv v5)] [] _ Q) (if_neg q38) k37)))) <| z_iinc (pc' := 56) (j := 5) (n := 1) (x := v5) (ls' := [some (.ref p), some (.ref b), some (iv c), some (iv x), some (iv (if (zI Z (b + 3) v5.toNat) = c then (if x < (zI Z (p + 3) v5.toNat) then v4 else (if (zI Z (p + 4) v5.toNat) ≤ x then v4 else v4 + 1)) else v4)), some (iv (v5 + 1))]) (by decide +kernel) rfl (by decide) rfl rfl <| z_goto (tgt := 6) (off := -50) (by decide +kernel) (by decide) <| h))
set_option maxRecDepth 20000 in
theorem e_X11_planBegin {G : Gx} {Q : Rv → Zm → Prop} {Z : Zm} {t : Int} (hx : atAll Z) (h : ((R32 (zI Z 256 0)) ∧ (zSz Z < 1000000) ∧ (if zI Z 256 0 ≠ 0 then ((R32 t) ∧ (R32 (zI Z 1 3)) ∧ (if 0 ≤ t ∧ t < zI Z 1 3 then ((zIx t 20) ∧ Q (.inl (some (iv (zI Z 259 t.toNat)))) Z) else Q (.inr "java/util/NoSuchElementException") (zC Z 15 0 6))) else Q (.inr "java/lang/IllegalStateException") (zC Z 14 0 6)))) : ZM G 12 m_X11_planBegin [.ref 0, iv t] Z Q := ZM.of [some (.ref 0), some (iv t)] rfl <| z_aload_n (pc' := 1) (j := 0) (by decide +kernel) rfl rfl <| h.elim fun c1 h => h.elim fun c2 h => z_callV (pc' := 4) (idx := 352) (mj := m_X11_checkPlan) (av := []) (d' := 8) (by decide +kernel) rfl k_X11_checkPlan l_RX11_352 rfl (by omega) (am_le rfl) rfl (am_le rfl) hx.o.1 hx.o.2 rfl <| zKt (s_checkPlan hx c1 c2) (am_ite h (fun h => z_aload_n (pc' := 5) (j := 0) (by decide +kernel) rfl rfl <| z_iload_n (pc' := 6) (j := 1) (by decide +kernel) rfl rfl <| h.elim fun c3 h => h.elim fun c4 h => z_callV (pc' := 9) (idx := 133) (mj := m_X11_checkTask) (av := [iv t]) (d' := 8) (by decide +kernel) rfl k_X11_checkTask l_RX11_133 rfl (by omega) (am_le rfl) rfl (am_le rfl) hx.o.1 hx.o.2 rfl <| zKt (s_checkTask hx c3 c4 c2) (am_ite h (fun h => z_aload_n (pc' := 10) (j := 0) (by decide +kernel) rfl rfl <| z_getR (pc' := 13) (idx := 63) (ci := 11) (f := 11) (by decide +kernel) f_RX11_63 rfl hx.o.1 hx.o.2 hx.r11 rfl <| z_getR (pc' := 16) (idx := 355) (ci := 9) (f := 8) (by decide +kernel) f_RX11_355 rfl hx.pm.o.1 hx.pm.o.2 hx.pm.r8 rfl <| z_iload_n (pc' := 17) (j := 1) (by decide +kernel) rfl rfl <| h.elim fun c5 h => z_iaload (pc' := 18) (by decide +kernel) hx.pm.a8 c5 rfl <| z_ireturn (by decide +kernel) ⟨_, rfl, rfl⟩ h) (fun h => h))) (fun h => h))
set_option maxRecDepth 20000 in
theorem e_X11_planHand {G : Gx} {Q : Rv → Zm → Prop} {Z : Zm} {t : Int} (hx : atAll Z) (h : ((R32 (zI Z 256 0)) ∧ (zSz Z < 1000000) ∧ (if zI Z 256 0 ≠ 0 then ((R32 t) ∧ (R32 (zI Z 1 3)) ∧ (if 0 ≤ t ∧ t < zI Z 1 3 then ((zIx t 20) ∧ Q (.inl (some (iv (zI Z 261 t.toNat)))) Z) else Q (.inr "java/util/NoSuchElementException") (zC Z 15 0 6))) else Q (.inr "java/lang/IllegalStateException") (zC Z 14 0 6)))) : ZM G 12 m_X11_planHand [.ref 0, iv t] Z Q := ZM.of [some (.ref 0), some (iv t)] rfl <| z_aload_n (pc' := 1) (j := 0) (by decide +kernel) rfl rfl <| h.elim fun c1 h => h.elim fun c2 h => z_callV (pc' := 4) (idx := 352) (mj := m_X11_checkPlan) (av := []) (d' := 8) (by decide +kernel) rfl k_X11_checkPlan l_RX11_352 rfl (by omega) (am_le rfl) rfl (am_le rfl) hx.o.1 hx.o.2 rfl <| zKt (s_checkPlan hx c1 c2) (am_ite h (fun h => z_aload_n (pc' := 5) (j := 0) (by decide +kernel) rfl rfl <| z_iload_n (pc' := 6) (j := 1) (by decide +kernel) rfl rfl <| h.elim fun c3 h => h.elim fun c4 h => z_callV (pc' := 9) (idx := 133) (mj := m_X11_checkTask) (av := [iv t]) (d' := 8) (by decide +kernel) rfl k_X11_checkTask l_RX11_133 rfl (by omega) (am_le rfl) rfl (am_le rfl) hx.o.1 hx.o.2 rfl <| zKt (s_checkTask hx c3 c4 c2) (am_ite h (fun h => z_aload_n (pc' := 10) (j := 0) (by decide +kernel) rfl rfl <| z_getR (pc' := 13) (idx := 63) (ci := 11) (f := 11) (by decide +kernel) f_RX11_63 rfl hx.o.1 hx.o.2 hx.r11 rfl <| z_getR (pc' := 16) (idx := 356) (ci := 9) (f := 10) (by decide +kernel) f_RX11_356 rfl hx.pm.o.1 hx.pm.o.2 hx.pm.r10 rfl <| z_iload_n (pc' := 17) (j := 1) (by decide +kernel) rfl rfl <| h.elim fun c5 h => z_iaload (pc' := 18) (by decide +kernel) hx.pm.a10 c5 rfl <| z_ireturn (by decide +kernel) ⟨_, rfl, rfl⟩ h) (fun h => h))) (fun h => h))
set_option maxRecDepth 20000 in
theorem e_X11_planEnd {G : Gx} {Q : Rv → Zm → Prop} {Z : Zm}  (hx : atAll Z) (h : ((R32 (zI Z 256 0)) ∧ (zSz Z < 1000000) ∧ (if zI Z 256 0 ≠ 0 then (Q (.inl (some (iv (zI Z 256 4)))) Z) else Q (.inr "java/lang/IllegalStateException") (zC Z 14 0 6)))) : ZM G 12 m_X11_planEnd [.ref 0] Z Q := ZM.of [some (.ref 0)] rfl <| z_aload_n (pc' := 1) (j := 0) (by decide +kernel) rfl rfl <| h.elim fun c1 h => h.elim fun c2 h => z_callV (pc' := 4) (idx := 352) (mj := m_X11_checkPlan) (av := []) (d' := 8) (by decide +kernel) rfl k_X11_checkPlan l_RX11_352 rfl (by omega) (am_le rfl) rfl (am_le rfl) hx.o.1 hx.o.2 rfl <| zKt (s_checkPlan hx c1 c2) (am_ite h (fun h => z_aload_n (pc' := 5) (j := 0) (by decide +kernel) rfl rfl <| z_getR (pc' := 8) (idx := 63) (ci := 11) (f := 11) (by decide +kernel) f_RX11_63 rfl hx.o.1 hx.o.2 hx.r11 rfl <| z_getI (pc' := 11) (idx := 351) (ci := 9) (f := 4) (by decide +kernel) f_RX11_351 rfl hx.pm.o.1 hx.pm.o.2 rfl <| z_ireturn (by decide +kernel) ⟨_, rfl, rfl⟩ h) (fun h => h))
set_option maxRecDepth 20000 in
theorem e_X11_busy {G : Gx} {Q : Rv → Zm → Prop} {Z : Zm} {x : Int} {y : Int} (hx : atAll Z) (h : ((R32 (zI Z 256 0)) ∧ (zSz Z < 1000000) ∧ (if zI Z 256 0 ≠ 0 then ((R32 x) ∧ (if x < 0 then (Q (.inr "java/lang/IllegalArgumentException") (zC Z 13 0 6)) else ((if 3 ≤ x then (Q (.inr "java/lang/IllegalArgumentException") (zC Z 13 0 6)) else ((R32 y) ∧ (if 0 ≤ y then (ZM G 11 m_X9_countWorking [.ref 256, .ref 1, iv x, iv y] Z (zKc G 12 m_X11_busy 41 [none, none, none] [] Q)) else (Q (.inr "java/lang/IllegalArgumentException") (zC Z 13 0 6)))))))) else Q (.inr "java/lang/IllegalStateException") (zC Z 14 0 6)))) : ZM G 12 m_X11_busy [.ref 0, iv x, iv y] Z Q := ZM.of [some (.ref 0), some (iv x), some (iv y)] rfl <| z_aload_n (pc' := 1) (j := 0) (by decide +kernel) rfl rfl <| h.elim fun c1 h => h.elim fun c2 h => z_callV (pc' := 4) (idx := 352) (mj := m_X11_checkPlan) (av := []) (d' := 8) (by decide +kernel) rfl k_X11_checkPlan l_RX11_352 rfl (by omega) (am_le rfl) rfl (am_le rfl) hx.o.1 hx.o.2 rfl <| zKt (s_checkPlan hx c1 c2) (am_ite h (fun h => z_iload_n (pc' := 5) (j := 1) (by decide +kernel) rfl rfl <| h.elim fun c3 h => z_if_lt (pc' := 8) (tgt := 17) (off := 12) (by decide +kernel) (by decide) rfl c3 (am_ite h (fun h => z_throw (is := 359) (text := "there is no such skill or hour") th_IllegalArgumentException (amT6 (i := 140) rfl) rfl (by decide +kernel) (by decide +kernel) (Or.inr ⟨(by decide +kernel), (by decide +kernel), (by decide +kernel)⟩) (by omega) (am_le rfl) c2 h) (fun h => z_iload_n (pc' := 9) (j := 1) (by decide +kernel) rfl rfl <| z_iconst (pc' := 10) (n := 3) (by decide +kernel) rfl <| z_icmp_ge (pc' := 13) (tgt := 17) (off := 7) (by decide +kernel) (by decide) rfl c3 (by decide : R32 3) (am_ite h (fun h => z_throw (is := 359) (text := "there is no such skill or hour") th_IllegalArgumentException (amT6 (i := 140) rfl) rfl (by decide +kernel) (by decide +kernel) (Or.inr ⟨(by decide +kernel), (by decide +kernel), (by decide +kernel)⟩) (by omega) (am_le rfl) c2 h) (fun h => z_iload_n (pc' := 14) (j := 2) (by decide +kernel) rfl rfl <| h.elim fun c4 h => z_if_ge (pc' := 17) (tgt := 28) (off := 14) (by decide +kernel) (by decide) rfl c4 (am_ite h (fun h => z_aload_n (pc' := 29) (j := 0) (by decide +kernel) rfl rfl <| z_getR (pc' := 32) (idx := 63) (ci := 11) (f := 11) (by decide +kernel) f_RX11_63 rfl hx.o.1 hx.o.2 hx.r11 rfl <| z_aload_n (pc' := 33) (j := 0) (by decide +kernel) rfl rfl <| z_getR (pc' := 36) (idx := 10) (ci := 11) (f := 0) (by decide +kernel) f_RX11_10 rfl hx.o.1 hx.o.2 hx.r0 rfl <| z_iload_n (pc' := 37) (j := 1) (by decide +kernel) rfl rfl <| z_iload_n (pc' := 38) (j := 2) (by decide +kernel) rfl rfl <| z_callV (pc' := 41) (idx := 361) (mj := m_X9_countWorking) (av := [.ref 1, iv x, iv y]) (d' := 11) (by decide +kernel) rfl k_X9_countWorking l_RX11_361 rfl (by omega) (am_le rfl) rfl (am_le rfl) hx.pm.o.1 hx.pm.o.2 rfl (ZM.mono h (zKc_wk (wk_none (wk_none (wk_none wk_nil)))))) (fun h => z_throw (is := 359) (text := "there is no such skill or hour") th_IllegalArgumentException (amT6 (i := 140) rfl) rfl (by decide +kernel) (by decide +kernel) (Or.inr ⟨(by decide +kernel), (by decide +kernel), (by decide +kernel)⟩) (by omega) (am_le rfl) c2 h))))))) (fun h => h))
set_option maxRecDepth 20000 in
theorem b_X11_busy_41 {G : Gx} {Q : Rv → Zm → Prop} {Z : Zm}  {s0 : Int} (hx : atAll Z) (h : (Q (.inl (some (iv s0))) Z)) : ZP G 12 m_X11_busy 41 [none, none, none] [iv s0] Z Q := z_ireturn (by decide +kernel) ⟨_, rfl, rfl⟩ h
set_option maxRecDepth 20000 in
theorem e_X12_planBegin {G : Gx} {Q : Rv → Zm → Prop} {Z : Zm} {m : Nat} {B : Nat} {t : Int} (hm : atModel Z m B) (h : ((R32 (zI Z m 9)) ∧ (R32 t) ∧ (R32 (zI Z B 0 - 1)) ∧ ∀ Z12, Z12 = zSI Z m (zu (zI Z m) 19 (fC (b2 ((zI Z m 9) = 0)) (b2 (¬ (0 ≤ t ∧ t < zI Z B 0))) 0)) → (¬ (0 < fC (b2 ((zI Z m 9) = 0)) (b2 (¬ (0 ≤ t ∧ t < zI Z B 0))) 0) → (zIx t 20) ∧ True) ∧ Q (.inl (some (iv (if 0 < fC (b2 ((zI Z m 9) = 0)) (b2 (¬ (0 ≤ t ∧ t < zI Z B 0))) 0 then 0 else zI Z12 (m + 11) t.toNat)))) Z12)) : ZM G 12 m_X12_planBegin [.ref m, iv t] Z Q := ZM.of [some (.ref m), some (iv t)] rfl <| z_aload_n (pc' := 1) (j := 0) (by decide +kernel) rfl rfl <| z_aload_n (pc' := 2) (j := 0) (by decide +kernel) rfl rfl <| z_getI (pc' := 5) (idx := 79) (ci := 12) (f := 9) (by decide +kernel) f_RX12_79 rfl hm.o.1 hm.o.2 rfl <| h.elim fun c1 h => am_use (fun k4 => z_if_ne (pc' := 8) (tgt := 12) (off := 7) (by decide +kernel) (by decide) rfl c1 (am_ite2 (fun q5 => z_iconst (pc' := 9) (n := 1) (by decide +kernel) rfl <| z_goto (tgt := 13) (off := 4) (by decide +kernel) (by decide) <| (am_jp (P := fun z9 => ZP G 12 m_X12_planBegin 13 [some (.ref m), some (iv t)] [iv z9, .ref m] _ Q) (b2_p q5) k4)) (fun q5 => z_iconst (pc' := 13) (n := 0) (by decide +kernel) rfl <| (am_jp (P := fun z9 => ZP G 12 m_X12_planBegin 13 [some (.ref m), some (iv t)] [iv z9, .ref m] _ Q) (b2_f q5) k4)))) <| z_aload_n (pc' := 14) (j := 0) (by decide +kernel) rfl rfl <| z_iload_n (pc' := 15) (j := 1) (by decide +kernel) rfl rfl <| h.elim fun c6 h => h.elim fun c7 h => z_callV (pc' := 18) (idx := 151) (mj := m_X12_isTask) (av := [iv t]) (d' := 1) (by decide +kernel) rfl k_X12_isTask l_RX12_151 rfl (by omega) (am_le rfl) rfl (am_le rfl) hm.o.1 hm.o.2 rfl <| zKf (s_isTask hm c6 c7) <| am_use (fun k10 => z_ifB_ne (pc' := 21) (tgt := 25) (off := 7) (by decide +kernel) (by decide) rfl (am_ite2 (fun q11 => z_iconst (pc' := 26) (n := 0) (by decide +kernel) rfl <| (am_jp (P := fun z9 => ZP G 12 m_X12_planBegin 26 [some (.ref m), some (iv t)] [iv z9, iv (b2 ((zI Z m 9) = 0)), .ref m] _ Q) (b2_n q11) k10)) (fun q11 => z_iconst (pc' := 22) (n := 1) (by decide +kernel) rfl <| z_goto (tgt := 26) (off := 4) (by decide +kernel) (by decide) <| (am_jp (P := fun z9 => ZP G 12 m_X12_planBegin 26 [some (.ref m), some (iv t)] [iv z9, iv (b2 ((zI Z m 9) = 0)), .ref m] _ Q) (b2_nn q11) k10)))) <| z_iconst (pc' := 27) (n := 0) (by decide +kernel) rfl <| z_callV (pc' := 30) (idx := 133) (mj := m_X12_fails) (av := [iv (b2 ((zI Z m 9) = 0)), iv (b2 (¬ (0 ≤ t ∧ t < zI Z B 0))), iv 0]) (d' := 0) (by decide +kernel) rfl k_X12_fails l_RX12_133 rfl (by omega) (am_le rfl) rfl (am_le rfl) hm.o.1 hm.o.2 rfl <| zKf (s_fails hm (b2_01 _) (b2_01 _) (Or.inl rfl)) <| have h := h _ rfl; h.elim fun g15 h => am_use (fun k16 => z_ifB_eq (pc' := 33) (tgt := 37) (off := 7) (by decide +kernel) (by decide) rfl (am_ite2 (fun q17 => z_iconst (pc' := 34) (n := 0) (by decide +kernel) rfl <| z_goto (tgt := 43) (off := 9) (by decide +kernel) (by decide) <| (am_jp (P := fun z9 => ZP G 12 m_X12_planBegin 43 [some (.ref m), some (iv t)] [iv z9] _ Q) (if_pos q17) k16)) (fun q17 => have h := g15 q17; z_aload_n (pc' := 38) (j := 0) (by decide +kernel) rfl rfl <| z_getR (pc' := 41) (idx := 33) (ci := 12) (f := 11) (by decide +kernel) f_RX12_33 rfl hm.o.1 hm.o.2 hm.r11 rfl <| z_iload_n (pc' := 42) (j := 1) (by decide +kernel) rfl rfl <| h.elim fun c13 h => z_iaload (pc' := 43) (by decide +kernel) hm.a11 c13 rfl <| (am_jp (P := fun z9 => ZP G 12 m_X12_planBegin 43 [some (.ref m), some (iv t)] [iv z9] _ Q) (if_neg q17) k16)))) <| z_ireturn (by decide +kernel) ⟨_, rfl, rfl⟩ h
set_option maxRecDepth 20000 in
theorem e_X12_planHand {G : Gx} {Q : Rv → Zm → Prop} {Z : Zm} {m : Nat} {B : Nat} {t : Int} (hm : atModel Z m B) (h : ((R32 (zI Z m 9)) ∧ (R32 t) ∧ (R32 (zI Z B 0 - 1)) ∧ ∀ Z12, Z12 = zSI Z m (zu (zI Z m) 19 (fC (b2 ((zI Z m 9) = 0)) (b2 (¬ (0 ≤ t ∧ t < zI Z B 0))) 0)) → (¬ (0 < fC (b2 ((zI Z m 9) = 0)) (b2 (¬ (0 ≤ t ∧ t < zI Z B 0))) 0) → (zIx t 20) ∧ True) ∧ Q (.inl (some (iv (if 0 < fC (b2 ((zI Z m 9) = 0)) (b2 (¬ (0 ≤ t ∧ t < zI Z B 0))) 0 then 0 else zI Z12 (m + 12) t.toNat)))) Z12)) : ZM G 12 m_X12_planHand [.ref m, iv t] Z Q := ZM.of [some (.ref m), some (iv t)] rfl <| z_aload_n (pc' := 1) (j := 0) (by decide +kernel) rfl rfl <| z_aload_n (pc' := 2) (j := 0) (by decide +kernel) rfl rfl <| z_getI (pc' := 5) (idx := 79) (ci := 12) (f := 9) (by decide +kernel) f_RX12_79 rfl hm.o.1 hm.o.2 rfl <| h.elim fun c1 h => am_use (fun k4 => z_if_ne (pc' := 8) (tgt := 12) (off := 7) (by decide +kernel) (by decide) rfl c1 (am_ite2 (fun q5 => z_iconst (pc' := 9) (n := 1) (by decide +kernel) rfl <| z_goto (tgt := 13) (off := 4) (by decide +kernel) (by decide) <| (am_jp (P := fun z9 => ZP G 12 m_X12_planHand 13 [some (.ref m), some (iv t)] [iv z9, .ref m] _ Q) (b2_p q5) k4)) (fun q5 => z_iconst (pc' := 13) (n := 0) (by decide +kernel) rfl <| (am_jp (P := fun z9 => ZP G 12 m_X12_planHand 13 [some (.ref m), some (iv t)] [iv z9, .ref m] _ Q) (b2_f q5) k4)))) <| z_aload_n (pc' := 14) (j := 0) (by decide +kernel) rfl rfl <| z_iload_n (pc' := 15) (j := 1) (by decide +kernel) rfl rfl <| h.elim fun c6 h => h.elim fun c7 h => z_callV (pc' := 18) (idx := 151) (mj := m_X12_isTask) (av := [iv t]) (d' := 1) (by decide +kernel) rfl k_X12_isTask l_RX12_151 rfl (by omega) (am_le rfl) rfl (am_le rfl) hm.o.1 hm.o.2 rfl <| zKf (s_isTask hm c6 c7) <| am_use (fun k10 => z_ifB_ne (pc' := 21) (tgt := 25) (off := 7) (by decide +kernel) (by decide) rfl (am_ite2 (fun q11 => z_iconst (pc' := 26) (n := 0) (by decide +kernel) rfl <| (am_jp (P := fun z9 => ZP G 12 m_X12_planHand 26 [some (.ref m), some (iv t)] [iv z9, iv (b2 ((zI Z m 9) = 0)), .ref m] _ Q) (b2_n q11) k10)) (fun q11 => z_iconst (pc' := 22) (n := 1) (by decide +kernel) rfl <| z_goto (tgt := 26) (off := 4) (by decide +kernel) (by decide) <| (am_jp (P := fun z9 => ZP G 12 m_X12_planHand 26 [some (.ref m), some (iv t)] [iv z9, iv (b2 ((zI Z m 9) = 0)), .ref m] _ Q) (b2_nn q11) k10)))) <| z_iconst (pc' := 27) (n := 0) (by decide +kernel) rfl <| z_callV (pc' := 30) (idx := 133) (mj := m_X12_fails) (av := [iv (b2 ((zI Z m 9) = 0)), iv (b2 (¬ (0 ≤ t ∧ t < zI Z B 0))), iv 0]) (d' := 0) (by decide +kernel) rfl k_X12_fails l_RX12_133 rfl (by omega) (am_le rfl) rfl (am_le rfl) hm.o.1 hm.o.2 rfl <| zKf (s_fails hm (b2_01 _) (b2_01 _) (Or.inl rfl)) <| have h := h _ rfl; h.elim fun g15 h => am_use (fun k16 => z_ifB_eq (pc' := 33) (tgt := 37) (off := 7) (by decide +kernel) (by decide) rfl (am_ite2 (fun q17 => z_iconst (pc' := 34) (n := 0) (by decide +kernel) rfl <| z_goto (tgt := 43) (off := 9) (by decide +kernel) (by decide) <| (am_jp (P := fun z9 => ZP G 12 m_X12_planHand 43 [some (.ref m), some (iv t)] [iv z9] _ Q) (if_pos q17) k16)) (fun q17 => have h := g15 q17; z_aload_n (pc' := 38) (j := 0) (by decide +kernel) rfl rfl <| z_getR (pc' := 41) (idx := 36) (ci := 12) (f := 12) (by decide +kernel) f_RX12_36 rfl hm.o.1 hm.o.2 hm.r12 rfl <| z_iload_n (pc' := 42) (j := 1) (by decide +kernel) rfl rfl <| h.elim fun c13 h => z_iaload (pc' := 43) (by decide +kernel) hm.a12 c13 rfl <| (am_jp (P := fun z9 => ZP G 12 m_X12_planHand 43 [some (.ref m), some (iv t)] [iv z9] _ Q) (if_neg q17) k16)))) <| z_ireturn (by decide +kernel) ⟨_, rfl, rfl⟩ h
set_option maxRecDepth 20000 in
theorem e_X12_planEnd {G : Gx} {Q : Rv → Zm → Prop} {Z : Zm} {m : Nat} {B : Nat} (hm : atModel Z m B) (h : ((R32 (zI Z m 9)) ∧ ∀ Z6, Z6 = zSI Z m (zu (zI Z m) 19 (fC (b2 ((zI Z m 9) = 0)) 0 0)) → Q (.inl (some (iv (if 0 < fC (b2 ((zI Z m 9) = 0)) 0 0 then 0 else zI Z6 m 14)))) Z6)) : ZM G 12 m_X12_planEnd [.ref m] Z Q := ZM.of [some (.ref m)] rfl <| z_aload_n (pc' := 1) (j := 0) (by decide +kernel) rfl rfl <| z_aload_n (pc' := 2) (j := 0) (by decide +kernel) rfl rfl <| z_getI (pc' := 5) (idx := 79) (ci := 12) (f := 9) (by decide +kernel) f_RX12_79 rfl hm.o.1 hm.o.2 rfl <| h.elim fun c1 h => am_use (fun k4 => z_if_ne (pc' := 8) (tgt := 12) (off := 7) (by decide +kernel) (by decide) rfl c1 (am_ite2 (fun q5 => z_iconst (pc' := 9) (n := 1) (by decide +kernel) rfl <| z_goto (tgt := 13) (off := 4) (by decide +kernel) (by decide) <| (am_jp (P := fun z9 => ZP G 12 m_X12_planEnd 13 [some (.ref m)] [iv z9, .ref m] _ Q) (b2_p q5) k4)) (fun q5 => z_iconst (pc' := 13) (n := 0) (by decide +kernel) rfl <| (am_jp (P := fun z9 => ZP G 12 m_X12_planEnd 13 [some (.ref m)] [iv z9, .ref m] _ Q) (b2_f q5) k4)))) <| z_iconst (pc' := 14) (n := 0) (by decide +kernel) rfl <| z_iconst (pc' := 15) (n := 0) (by decide +kernel) rfl <| z_callV (pc' := 18) (idx := 133) (mj := m_X12_fails) (av := [iv (b2 ((zI Z m 9) = 0)), iv 0, iv 0]) (d' := 0) (by decide +kernel) rfl k_X12_fails l_RX12_133 rfl (by omega) (am_le rfl) rfl (am_le rfl) hm.o.1 hm.o.2 rfl <| zKf (s_fails hm (b2_01 _) (Or.inl rfl) (Or.inl rfl)) <| have h := h _ rfl; am_use (fun k9 => z_ifB_eq (pc' := 21) (tgt := 25) (off := 7) (by decide +kernel) (by decide) rfl (am_ite2 (fun q10 => z_iconst (pc' := 22) (n := 0) (by decide +kernel) rfl <| z_goto (tgt := 29) (off := 7) (by decide +kernel) (by decide) <| (am_jp (P := fun z9 => ZP G 12 m_X12_planEnd 29 [some (.ref m)] [iv z9] _ Q) (if_pos q10) k9)) (fun q10 => z_aload_n (pc' := 26) (j := 0) (by decide +kernel) rfl rfl <| z_getI (pc' := 29) (idx := 275) (ci := 12) (f := 14) (by decide +kernel) f_RX12_275 rfl hm.o.1 hm.o.2 rfl <| (am_jp (P := fun z9 => ZP G 12 m_X12_planEnd 29 [some (.ref m)] [iv z9] _ Q) (if_neg q10) k9)))) <| z_ireturn (by decide +kernel) ⟨_, rfl, rfl⟩ h
set_option maxRecDepth 20000 in
theorem e_X12_busyIn {G : Gx} {Q : Rv → Zm → Prop} {Z : Zm} {m : Nat} {B : Nat} {s : Int} {x : Int} (hm : atModel Z m B) (h : (ZP G 1 m_X12_busyIn 5 [some (.ref m), some (iv s), some (iv x), some (iv 0), some (iv 0)] [] Z Q)) : ZM G 1 m_X12_busyIn [.ref m, iv s, iv x] Z Q := ZM.of [some (.ref m), some (iv s), some (iv x), none, none] rfl <| z_iconst (pc' := 1) (n := 0) (by decide +kernel) rfl <| z_istore_n (pc' := 2) (j := 3) (ls' := [some (.ref m), some (iv s), some (iv x), some (iv 0), none]) (by decide +kernel) (by decide) rfl rfl <| z_iconst (pc' := 3) (n := 0) (by decide +kernel) rfl <| z_istore (pc' := 5) (j := 4) (ls' := [some (.ref m), some (iv s), some (iv x), some (iv 0), some (iv 0)]) (by decide +kernel) (by decide) rfl rfl <| h
set_option maxRecDepth 20000 in
theorem b_X12_busyIn_5 {G : Gx} {Q : Rv → Zm → Prop} {Z : Zm} {m : Nat} {B : Nat} {s : Int} {x : Int} {v3 : Int} {v4 : Int} (hm : atModel Z m B) (h : ((R32 v4) ∧ (R32 (zI Z B 0)) ∧ (if (zI Z B 0) ≤ v4 then (Q (.inl (some (iv v3))) Z) else ((zIx v4 20) ∧ (R32 (mG Z B v4.toNat 1)) ∧ (R32 s) ∧ ((mG Z B v4.toNat 1) = s → (R32 (zI Z (m + 11) v4.toNat)) ∧ (R32 x) ∧ (¬ (x < (zI Z (m + 11) v4.toNat)) → (R32 ((zI Z (m + 11) v4.toNat) + (mG Z B v4.toNat 0))) ∧ True) ∧ True) ∧ ZP G 1 m_X12_busyIn 5 [some (.ref m), some (iv s), some (iv x), some (iv (v3 + (b2 (((mG Z B v4.toNat 1) = s) ∧ (¬ (x < (zI Z (m + 11) v4.toNat)) ∧ (¬ (((zI Z (m + 11) v4.toNat) + (mG Z B v4.toNat 0)) ≤ x))))))), some (iv (v4 + 1))] [] Z Q)))) : ZP G 1 m_X12_busyIn 5 [some (.ref m), some (iv s), some (iv x), some (iv v3), some (iv v4)] [] Z Q := z_iload (pc' := 7) (j := 4) (by decide +kernel) rfl rfl <| z_aload_n (pc' := 8) (j := 0) (by decide +kernel) rfl rfl <| z_callV (pc' := 11) (idx := 64) (mj := m_X12_many) (av := []) (d' := 0) (by decide +kernel) rfl k_X12_many l_RX12_64 rfl (by omega) (am_le rfl) rfl (am_le rfl) hm.o.1 hm.o.2 rfl <| zKf (s_many hm) <| h.elim fun c1 h => h.elim fun c2 h => z_icmp_ge (pc' := 14) (tgt := 69) (off := 58) (by decide +kernel) (by decide) rfl c1 c2 (am_ite h (fun h => z_iload_n (pc' := 70) (j := 3) (by decide +kernel) rfl rfl <| z_ireturn (by decide +kernel) ⟨_, rfl, rfl⟩ h) (fun h => z_iload_n (pc' := 15) (j := 3) (by decide +kernel) rfl rfl <| z_aload_n (pc' := 16) (j := 0) (by decide +kernel) rfl rfl <| z_iload (pc' := 18) (j := 4) (by decide +kernel) rfl rfl <| z_iconst (pc' := 19) (n := 1) (by decide +kernel) rfl <| h.elim fun c21 h => z_callV (pc' := 22) (idx := 83) (mj := m_X12_get) (av := [iv v4, iv 1]) (d' := 0) (by decide +kernel) rfl k_X12_get l_RX12_83 rfl (by omega) (am_le rfl) rfl (am_le rfl) hm.o.1 hm.o.2 rfl <| zKf (s_get hm c21 ⟨by decide, by decide, by decide⟩) <| z_iload_n (pc' := 23) (j := 1) (by decide +kernel) rfl rfl <| h.elim fun c22 h => h.elim fun c23 h => h.elim fun g35 h => am_use (fun k37 => z_icmp_ne (pc' := 26) (tgt := 60) (off := 37) (by decide +kernel) (by decide) rfl c22 c23 (am_ite2 (fun q38 => have h := g35 q38; z_aload_n (pc' := 27) (j := 0) (by decide +kernel) rfl rfl <| z_getR (pc' := 30) (idx := 33) (ci := 12) (f := 11) (by decide +kernel) f_RX12_33 rfl hm.o.1 hm.o.2 hm.r11 rfl <| z_iload (pc' := 32) (j := 4) (by decide +kernel) rfl rfl <| z_iaload (pc' := 33) (by decide +kernel) hm.a11 c21 rfl <| z_iload_n (pc' := 34) (j := 2) (by decide +kernel) rfl rfl <| h.elim fun c24 h => h.elim fun c25 h => h.elim fun g32 h => am_use (fun k33 => z_icmp_gt (pc' := 37) (tgt := 60) (off := 26) (by decide +kernel) (by decide) rfl c24 c25 (am_ite2 (fun q34 => z_iconst (pc' := 61) (n := 0) (by decide +kernel) rfl <| (am_jp (P := fun z9 => ZP G 1 m_X12_busyIn 61 [some (.ref m), some (iv s), some (iv x), some (iv v3), some (iv v4)] [iv z9, iv v3] _ Q) (b2_a1 q34) k33)) (fun q34 => have h := g32 q34; z_iload_n (pc' := 38) (j := 2) (by decide +kernel) rfl rfl <| z_aload_n (pc' := 39) (j := 0) (by decide +kernel) rfl rfl <| z_getR (pc' := 42) (idx := 33) (ci := 12) (f := 11) (by decide +kernel) f_RX12_33 rfl hm.o.1 hm.o.2 hm.r11 rfl <| z_iload (pc' := 44) (j := 4) (by decide +kernel) rfl rfl <| z_iaload (pc' := 45) (by decide +kernel) hm.a11 c21 rfl <| z_aload_n (pc' := 46) (j := 0) (by decide +kernel) rfl rfl <| z_iload (pc' := 48) (j := 4) (by decide +kernel) rfl rfl <| z_iconst (pc' := 49) (n := 0) (by decide +kernel) rfl <| z_callV (pc' := 52) (idx := 83) (mj := m_X12_get) (av := [iv v4, iv 0]) (d' := 0) (by decide +kernel) rfl k_X12_get l_RX12_83 rfl (by omega) (am_le rfl) rfl (am_le rfl) hm.o.1 hm.o.2 rfl <| zKf (s_get hm c21 ⟨by decide, by decide, by decide⟩) <| z_iadd (pc' := 53) (by decide +kernel) rfl <| h.elim fun c26 h => am_use (fun k29 => z_icmp_ge (pc' := 56) (tgt := 60) (off := 7) (by decide +kernel) (by decide) rfl c25 c26 (am_ite2 (fun q30 => z_iconst (pc' := 61) (n := 0) (by decide +kernel) rfl <| (am_jp (P := fun z9 => ZP G 1 m_X12_busyIn 61 [some (.ref m), some (iv s), some (iv x), some (iv v3), some (iv v4)] [iv z9, iv v3] _ Q) (b2_n q30) k29)) (fun q30 => z_iconst (pc' := 57) (n := 1) (by decide +kernel) rfl <| z_goto (tgt := 61) (off := 4) (by decide +kernel) (by decide) <| (am_jp (P := fun z9 => ZP G 1 m_X12_busyIn 61 [some (.ref m), some (iv s), some (iv x), some (iv v3), some (iv v4)] [iv z9, iv v3] _ Q) (b2_nn q30) k29)))) <| (am_jp (P := fun z9 => ZP G 1 m_X12_busyIn 61 [some (.ref m), some (iv s), some (iv x), some (iv v3), some (iv v4)] [iv z9, iv v3] _ Q) (b2_a2 q34) k33)))) <| (am_jp (P := fun z9 => ZP G 1 m_X12_busyIn 61 [some (.ref m), some (iv s), some (iv x), some (iv v3), some (iv v4)] [iv z9, iv v3] _ Q) (b2_c1 q38) k37)) (fun q38 => z_iconst (pc' := 61) (n := 0) (by decide +kernel) rfl <| (am_jp (P := fun z9 => ZP G 1 m_X12_busyIn 61 [some (.ref m), some (iv s), some (iv x), some (iv v3), some (iv v4)] [iv z9, iv v3] _ Q) (b2_c2 q38) k37)))) <| z_iadd (pc' := 62) (by decide +kernel) rfl <| z_istore_n (pc' := 63) (j := 3) (ls' := [some (.ref m), some (iv s), some (iv x), some (iv (v3 + (b2 (((mG Z B v4.toNat 1) = s) ∧ (¬ (x < (zI Z (m + 11) v4.toNat)) ∧ (¬ (((zI Z (m + 11) v4.toNat) + (mG Z B v4.toNat 0)) ≤ x))))))), some (iv v4)]) (by decide +kernel) (by decide) rfl rfl <| z_iinc (pc' := 66) (j := 4) (n := 1) (x := v4) (ls' := [some (.ref m), some (iv s), some (iv x), some (iv (v3 + (b2 (((mG Z B v4.toNat 1) = s) ∧ (¬ (x < (zI Z (m + 11) v4.toNat)) ∧ (¬ (((zI Z (m + 11) v4.toNat) + (mG Z B v4.toNat 0)) ≤ x))))))), some (iv (v4 + 1))]) (by decide +kernel) rfl (by decide) rfl rfl <| z_goto (tgt := 5) (off := -61) (by decide +kernel) (by decide) <| h))
set_option maxRecDepth 20000 in
theorem e_X12_busy {G : Gx} {Q : Rv → Zm → Prop} {Z : Zm} {m : Nat} {B : Nat} {s : Int} {x : Int} (hm : atModel Z m B) (h : ((R32 (zI Z m 9)) ∧ (R32 s) ∧ (0 ≤ s ∧ s ≤ 2 → (R32 x) ∧ True) ∧ ∀ Z16, Z16 = zSI Z m (zu (zI Z m) 19 (fC (b2 ((zI Z m 9) = 0)) (b2 (¬ (0 ≤ s ∧ s ≤ 2) ∨ (¬ (0 ≤ x)))) 0)) → (if 0 < fC (b2 ((zI Z m 9) = 0)) (b2 (¬ (0 ≤ s ∧ s ≤ 2) ∨ (¬ (0 ≤ x)))) 0 then (Q (.inl (some (iv 0))) Z16) else (ZM G 11 m_X12_busyIn [.ref m, iv s, iv x] Z16 (zKc G 12 m_X12_busy 48 [none, none, none] [] Q))))) : ZM G 12 m_X12_busy [.ref m, iv s, iv x] Z Q := ZM.of [some (.ref m), some (iv s), some (iv x)] rfl <| z_aload_n (pc' := 1) (j := 0) (by decide +kernel) rfl rfl <| z_aload_n (pc' := 2) (j := 0) (by decide +kernel) rfl rfl <| z_getI (pc' := 5) (idx := 79) (ci := 12) (f := 9) (by decide +kernel) f_RX12_79 rfl hm.o.1 hm.o.2 rfl <| h.elim fun c1 h => am_use (fun k4 => z_if_ne (pc' := 8) (tgt := 12) (off := 7) (by decide +kernel) (by decide) rfl c1 (am_ite2 (fun q5 => z_iconst (pc' := 9) (n := 1) (by decide +kernel) rfl <| z_goto (tgt := 13) (off := 4) (by decide +kernel) (by decide) <| (am_jp (P := fun z9 => ZP G 12 m_X12_busy 13 [some (.ref m), some (iv s), some (iv x)] [iv z9, .ref m] _ Q) (b2_p q5) k4)) (fun q5 => z_iconst (pc' := 13) (n := 0) (by decide +kernel) rfl <| (am_jp (P := fun z9 => ZP G 12 m_X12_busy 13 [some (.ref m), some (iv s), some (iv x)] [iv z9, .ref m] _ Q) (b2_f q5) k4)))) <| z_iload_n (pc' := 14) (j := 1) (by decide +kernel) rfl rfl <| z_iconst (pc' := 15) (n := 0) (by decide +kernel) rfl <| z_iconst (pc' := 16) (n := 2) (by decide +kernel) rfl <| h.elim fun c6 h => z_callS (pc' := 19) (idx := 68) (mj := m_X12_in) (av := [iv s, iv 0, iv 2]) (d' := 0) (by decide +kernel) rfl k_X12_in l_RX12_68 rfl (by omega) (am_le rfl) rfl (am_le rfl) rfl <| zKf (s_in c6 (by decide : R32 0) (by decide : R32 2)) <| h.elim fun g12 h => am_use (fun k14 => z_ifB_eq (pc' := 22) (tgt := 26) (off := 7) (by decide +kernel) (by decide) rfl (am_ite2 (fun q15 => have h := g12 q15; z_iload_n (pc' := 23) (j := 2) (by decide +kernel) rfl rfl <| h.elim fun c7 h => am_use (fun k10 => z_if_ge (pc' := 26) (tgt := 30) (off := 7) (by decide +kernel) (by decide) rfl c7 (am_ite2 (fun q11 => z_iconst (pc' := 31) (n := 0) (by decide +kernel) rfl <| (am_jp (P := fun z9 => ZP G 12 m_X12_busy 31 [some (.ref m), some (iv s), some (iv x)] [iv z9, iv (b2 ((zI Z m 9) = 0)), .ref m] _ Q) (b2_n q11) k10)) (fun q11 => z_iconst (pc' := 27) (n := 1) (by decide +kernel) rfl <| z_goto (tgt := 31) (off := 4) (by decide +kernel) (by decide) <| (am_jp (P := fun z9 => ZP G 12 m_X12_busy 31 [some (.ref m), some (iv s), some (iv x)] [iv z9, iv (b2 ((zI Z m 9) = 0)), .ref m] _ Q) (b2_nn q11) k10)))) <| (am_jp (P := fun z9 => ZP G 12 m_X12_busy 31 [some (.ref m), some (iv s), some (iv x)] [iv z9, iv (b2 ((zI Z m 9) = 0)), .ref m] _ Q) (b2_d1 q15) k14)) (fun q15 => z_iconst (pc' := 27) (n := 1) (by decide +kernel) rfl <| z_goto (tgt := 31) (off := 4) (by decide +kernel) (by decide) <| (am_jp (P := fun z9 => ZP G 12 m_X12_busy 31 [some (.ref m), some (iv s), some (iv x)] [iv z9, iv (b2 ((zI Z m 9) = 0)), .ref m] _ Q) (b2_d2 q15) k14)))) <| z_iconst (pc' := 32) (n := 0) (by decide +kernel) rfl <| z_callV (pc' := 35) (idx := 133) (mj := m_X12_fails) (av := [iv (b2 ((zI Z m 9) = 0)), iv (b2 (¬ (0 ≤ s ∧ s ≤ 2) ∨ (¬ (0 ≤ x)))), iv 0]) (d' := 0) (by decide +kernel) rfl k_X12_fails l_RX12_133 rfl (by omega) (am_le rfl) rfl (am_le rfl) hm.o.1 hm.o.2 rfl <| zKf (s_fails hm (b2_01 _) (b2_01 _) (Or.inl rfl)) <| have h := h _ rfl; z_ifB_eq (pc' := 38) (tgt := 42) (off := 7) (by decide +kernel) (by decide) rfl (am_ite h (fun h => z_iconst (pc' := 39) (n := 0) (by decide +kernel) rfl <| z_goto (tgt := 48) (off := 9) (by decide +kernel) (by decide) <| z_ireturn (by decide +kernel) ⟨_, rfl, rfl⟩ h) (fun h => z_aload_n (pc' := 43) (j := 0) (by decide +kernel) rfl rfl <| z_iload_n (pc' := 44) (j := 1) (by decide +kernel) rfl rfl <| z_iload_n (pc' := 45) (j := 2) (by decide +kernel) rfl rfl <| z_callV (pc' := 48) (idx := 278) (mj := m_X12_busyIn) (av := [iv s, iv x]) (d' := 11) (by decide +kernel) rfl k_X12_busyIn l_RX12_278 rfl (by omega) (am_le rfl) rfl (am_le rfl) hm.o.1 hm.o.2 rfl (ZM.mono h (zKc_wk (wk_none (wk_none (wk_none wk_nil)))))))
set_option maxRecDepth 20000 in
theorem b_X12_busy_48 {G : Gx} {Q : Rv → Zm → Prop} {Z : Zm} {m : Nat} {B : Nat} {s0 : Int} (hm : atModel Z m B) (h : (Q (.inl (some (iv s0))) Z)) : ZP G 12 m_X12_busy 48 [none, none, none] [iv s0] Z Q := z_ireturn (by decide +kernel) ⟨_, rfl, rfl⟩ h
/-! ===== what a plan tells ===== -/
theorem IC.pl {Z : Zm} {σ : St} (h : IC Z σ) : cPl Z (sK σ) (sP σ) := h.2.2.2.2.2.2.2.2.1
theorem okS.p {σ : St} (h : okS σ) : ∀ p, sP σ = some p → okPl (sK σ) p := h.2.2.2.2.2.2.1
theorem okPl.b {k : Bk} {p : Pl} (h : okPl k p) {t : Nat} (ht : t < kN k) : (0 ≤ plB p t ∧ plB p t ≤ 5000) ∧ 0 ≤ plW p t ∧ plW p t < plH p (kF k 1 t).toNat := h.2.2.2.1 t ht
theorem okPl.h {k : Bk} {p : Pl} (h : okPl k p) : ∀ s, s < 3 → 1 ≤ plH p s ∧ plH p s ≤ 5 := h.2.2.1
theorem okPl.e {k : Bk} {p : Pl} (h : okPl k p) (ho : kOk k) : 0 ≤ plE p ∧ plE p ≤ 5060 := by
  rw [h.1]
  refine ⟨zmax_0 _ _, zmax_le (by omega) fun i hi => ?_⟩
  have := (h.b hi).1
  have := ho.len hi
  omega
theorem kOk.s {k : Bk} (ho : kOk k) {t : Nat} (ht : t < kN k) : 0 ≤ kF k 1 t ∧ kF k 1 t ≤ 2 := by
  have := ho.2.1 t ht
  omega
noncomputable def pIf (σ : St) (f : Pl → Ou) : Ou := match sP σ with | none => (1, 0, σ) | some p => f p
theorem pIf_n {σ : St} {f : Pl → Ou} (h : sP σ = none) : pIf σ f = (1, 0, σ) := by
  unfold pIf
  rw [h]
theorem pIf_s {σ : St} {f : Pl → Ou} {p : Pl} (h : sP σ = some p) : pIf σ f = f p := by
  unfold pIf
  rw [h]
def busyN (k : Bk) (p : Pl) (s x : Int) (n : Nat) : Int := zsum (fun t => b2 (kF k 1 t = s ∧ plB p t ≤ x ∧ x < plB p t + kF k 0 t)) n
noncomputable def o_planBegin (σ : St) (t : Int) : Ou := pIf σ fun p => cIf (0 ≤ t ∧ t < kN (sK σ)) (0, plB p t.toNat, σ) (2, 0, σ)
noncomputable def o_planHand (σ : St) (t : Int) : Ou := pIf σ fun p => cIf (0 ≤ t ∧ t < kN (sK σ)) (0, plW p t.toNat, σ) (2, 0, σ)
noncomputable def o_planEnd (σ : St) : Ou := pIf σ fun p => (0, plE p, σ)
noncomputable def o_busy (σ : St) (s x : Int) : Ou := pIf σ fun p => cIf ((0 ≤ s ∧ s ≤ 2) ∧ 0 ≤ x) (0, busyN (sK σ) p s x (kN (sK σ)), σ) (2, 0, σ)
theorem busyN_r (k : Bk) (p : Pl) (s x : Int) (n : Nat) : 0 ≤ busyN k p s x n ∧ busyN k p s x n ≤ n := by
  have := zsum_bound (f := fun t => b2 (kF k 1 t = s ∧ plB p t ≤ x ∧ x < plB p t + kF k 0 t)) (n := n) (a := 0) (b := 1) fun i _ => by
    by_cases c : kF k 1 i = s ∧ plB p i ≤ x ∧ x < plB p i + kF k 0 i
    · rw [b2_p c]
      omega
    · rw [b2_f c]
      omega
  unfold busyN
  omega
theorem IC.pn {Z : Zm} {σ : St} (h : IC Z σ) (e : sP σ = none) : zI Z 256 0 = 0 := h.pl.1 e
theorem s_countWorking {G : Gx} {Z : Zm} {σ : St} {p : Pl} {s x : Int} (h : IC Z σ) (ho : okS σ) (hp : sP σ = some p) (hs : R32 s) (hx : R32 x) : ZM G 0 m_X9_countWorking [.ref 256, .ref 1, iv s, iv x] Z (fun r W => r = .inl (some (iv (busyN (sK σ) p s x (kN (sK σ))))) ∧ W = Z) := by
  have hN := ho.1.n
  have ok := ho.p p hp
  obtain ⟨-, q1, q2, q3, q4, q5, -⟩ := h.pl.2 p hp
  refine e_X9_countWorking h.1.pm h.1.bk ?_
  suffices key : ∀ j, j ≤ kN (sK σ) → ZP G 0 m_X9_countWorking 6 [some (.ref 256), some (.ref 1), some (iv s), some (iv x), some (iv (busyN (sK σ) p s x j)), some (iv (j : Int))] [] Z (fun r W => r = .inl (some (iv (busyN (sK σ) p s x (kN (sK σ))))) ∧ W = Z) from key 0 (Nat.zero_le _)
  refine am_up (n := kN (sK σ)) fun j hj ih => ?_
  refine b_X9_countWorking_6 h.1.pm h.1.bk ⟨by omega, by rw [q2]; omega, ?_⟩
  rw [q2]
  by_cases c : j < kN (sK σ)
  · have b1 := ok.b c
    have b2' := ho.1.len c
    have b3 := ho.1.s c
    obtain ⟨e1, e2, e3⟩ := q5 j c
    have e4 : zI Z (1 + 3) j = kF (sK σ) 1 j := h.2.1.2.2.1 1 j (by omega) c
    have e1' : zI Z (256 + 3) j = plB p j := e1
    have e2' : zI Z (256 + 4) j = plB p j + kF (sK σ) 0 j := e2
    rw [if_neg (by omega), Int.toNat_natCast, e4, e1', e2']
    refine ⟨zIx_nat (by omega) (by omega), by omega, hs, fun _ => ⟨by omega, hx, fun _ => ⟨by omega, trivial⟩, trivial⟩, ?_⟩
    have ev : (if kF (sK σ) 1 j = s then (if x < plB p j then busyN (sK σ) p s x j else (if plB p j + kF (sK σ) 0 j ≤ x then busyN (sK σ) p s x j else busyN (sK σ) p s x j + 1)) else busyN (sK σ) p s x j) = busyN (sK σ) p s x (j + 1) := by
      show _ = busyN (sK σ) p s x j + b2 (kF (sK σ) 1 j = s ∧ plB p j ≤ x ∧ x < plB p j + kF (sK σ) 0 j)
      by_cases c1 : kF (sK σ) 1 j = s
      · rw [if_pos c1]
        by_cases c2 : x < plB p j
        · rw [if_pos c2, b2_f (by omega)]
          omega
        · rw [if_neg c2]
          by_cases c3 : plB p j + kF (sK σ) 0 j ≤ x
          · rw [if_pos c3, b2_f (by omega)]
            omega
          · rw [if_neg c3, b2_p ⟨c1, by omega, by omega⟩]
      · rw [if_neg c1, b2_f (fun q => c1 q.1)]
        omega
    rw [ev]
    exact ih c
  · rw [if_pos (by omega), show j = kN (sK σ) by omega]
    exact ⟨rfl, rfl⟩
theorem s_busyIn {G : Gx} {Z : Zm} {B : Nat} {σ : St} {p : Pl} {s x : Int} (h : IMb Z B σ) (ho : okS σ) (hp : sP σ = some p) (hs : R32 s) (hx : R32 x) : ZM G 1 m_X12_busyIn [.ref 300, iv s, iv x] Z (fun r W => r = .inl (some (iv (busyN (sK σ) p s x (kN (sK σ))))) ∧ W = Z) := by
  have hN := ho.1.n
  have ok := ho.p p hp
  obtain ⟨-, q1, q2, q3, q5⟩ := h.pl.2 p hp
  refine e_X12_busyIn h.1 ?_
  suffices key : ∀ j, j ≤ kN (sK σ) → ZP G 1 m_X12_busyIn 5 [some (.ref 300), some (iv s), some (iv x), some (iv (busyN (sK σ) p s x j)), some (iv (j : Int))] [] Z (fun r W => r = .inl (some (iv (busyN (sK σ) p s x (kN (sK σ))))) ∧ W = Z) from key 0 (Nat.zero_le _)
  refine am_up (n := kN (sK σ)) fun j hj ih => ?_
  refine b_X12_busyIn_5 h.1 ⟨by omega, by rw [h.2.2.1.1]; omega, ?_⟩
  rw [h.2.2.1.1]
  by_cases c : j < kN (sK σ)
  · have b1 := ok.b c
    have b2' := ho.1.len c
    have b3 := ho.1.s c
    obtain ⟨e1, -⟩ := q5 j c
    have e4 : mG Z B j 1 = kF (sK σ) 1 j := (h.2.2.1.2.2.1 j c).1 1 (by omega)
    have e5 : mG Z B j 0 = kF (sK σ) 0 j := (h.2.2.1.2.2.1 j c).1 0 (by omega)
    have e1' : zI Z (300 + 11) j = plB p j := e1
    rw [if_neg (by omega), Int.toNat_natCast, e4, e5, e1']
    refine ⟨zIx_nat (by omega) (by omega), by omega, hs, fun _ => ⟨by omega, hx, fun _ => ⟨by omega, trivial⟩, trivial⟩, ?_⟩
    have ev : b2 (kF (sK σ) 1 j = s ∧ (¬ (x < plB p j) ∧ (¬ ((plB p j + kF (sK σ) 0 j) ≤ x)))) = b2 (kF (sK σ) 1 j = s ∧ plB p j ≤ x ∧ x < plB p j + kF (sK σ) 0 j) := by
      by_cases c1 : kF (sK σ) 1 j = s ∧ plB p j ≤ x ∧ x < plB p j + kF (sK σ) 0 j
      · rw [b2_p c1, b2_p ⟨c1.1, by omega, by omega⟩]
      · rw [b2_f c1, b2_f (fun q => c1 ⟨q.1, by omega, by omega⟩)]
    rw [ev]
    exact ih c
  · rw [if_pos (by omega), show j = kN (sK σ) by omega]
    exact ⟨rfl, rfl⟩
theorem c_planBegin {G : Gx} {Z : Zm} {σ : St} {t : Int} (h : IC Z σ) (ho : okS σ) (hz : zSz Z < 1000000) (ht : R32 t) : ZM G 12 m_X11_planBegin [.ref 0, iv t] Z (rC Z (E3 eT eN "") iv (o_planBegin σ t)) := by
  have hn := ho.1.n
  unfold o_planBegin
  cases hp : sP σ with
  | none =>
    rw [pIf_n hp]
    have e0 := h.pn hp
    refine e_X11_planBegin h.1 ?_
    rw [e0, if_neg (by decide)]
    exact ⟨by decide, hz, rC.no h (by decide) rfl⟩
  | some p =>
    rw [pIf_s hp]
    obtain ⟨e0, q1, q2, q3, q4, q5, -⟩ := h.pl.2 p hp
    refine e_X11_planBegin h.1 ?_
    rw [e0, if_pos (by decide), h.2.1.1]
    refine ⟨by decide, hz, ht, by omega, ?_⟩
    by_cases c : 0 ≤ t ∧ t < (kN (sK σ) : Int)
    · rw [if_pos c, cIf_p c]
      exact ⟨⟨c.1, by omega, by decide⟩, rC.st h (q5 _ (by omega)).1⟩
    · rw [if_neg c, cIf_f c]
      exact rC.no h (by decide) rfl
theorem c_planHand {G : Gx} {Z : Zm} {σ : St} {t : Int} (h : IC Z σ) (ho : okS σ) (hz : zSz Z < 1000000) (ht : R32 t) : ZM G 12 m_X11_planHand [.ref 0, iv t] Z (rC Z (E3 eT eN "") iv (o_planHand σ t)) := by
  have hn := ho.1.n
  unfold o_planHand
  cases hp : sP σ with
  | none =>
    rw [pIf_n hp]
    have e0 := h.pn hp
    refine e_X11_planHand h.1 ?_
    rw [e0, if_neg (by decide)]
    exact ⟨by decide, hz, rC.no h (by decide) rfl⟩
  | some p =>
    rw [pIf_s hp]
    obtain ⟨e0, q1, q2, q3, q4, q5, -⟩ := h.pl.2 p hp
    refine e_X11_planHand h.1 ?_
    rw [e0, if_pos (by decide), h.2.1.1]
    refine ⟨by decide, hz, ht, by omega, ?_⟩
    by_cases c : 0 ≤ t ∧ t < (kN (sK σ) : Int)
    · rw [if_pos c, cIf_p c]
      exact ⟨⟨c.1, by omega, by decide⟩, rC.st h (q5 _ (by omega)).2.2⟩
    · rw [if_neg c, cIf_f c]
      exact rC.no h (by decide) rfl
theorem c_planEnd {G : Gx} {Z : Zm} {σ : St} (h : IC Z σ) (hz : zSz Z < 1000000) : ZM G 12 m_X11_planEnd [.ref 0] Z (rC Z (E3 eT "" "") iv (o_planEnd σ)) := by
  unfold o_planEnd
  cases hp : sP σ with
  | none =>
    rw [pIf_n hp]
    have e0 := h.pn hp
    refine e_X11_planEnd h.1 ?_
    rw [e0, if_neg (by decide)]
    exact ⟨by decide, hz, rC.no h (by decide) rfl⟩
  | some p =>
    rw [pIf_s hp]
    obtain ⟨e0, q1, q2, q3, -⟩ := h.pl.2 p hp
    refine e_X11_planEnd h.1 ?_
    rw [e0, if_pos (by decide)]
    exact ⟨by decide, hz, rC.st h q3⟩
theorem c_busy {G : Gx} {Z : Zm} {σ : St} {x y : Int} (h : IC Z σ) (ho : okS σ) (hz : zSz Z < 1000000) (hx : R32 x) (hy : R32 y) : ZM G 12 m_X11_busy [.ref 0, iv x, iv y] Z (rC Z (E3 eT eA "") iv (o_busy σ x y)) := by
  have hn := ho.1.n
  unfold o_busy
  cases hp : sP σ with
  | none =>
    rw [pIf_n hp]
    have e0 := h.pn hp
    refine e_X11_busy h.1 ?_
    rw [e0, if_neg (by decide)]
    exact ⟨by decide, hz, rC.no h (by decide) rfl⟩
  | some p =>
    rw [pIf_s hp]
    have e0 := (h.pl.2 p hp).1
    refine e_X11_busy h.1 ?_
    rw [e0, if_pos (by decide)]
    refine ⟨by decide, hz, hx, ?_⟩
    by_cases c1 : x < 0
    · rw [if_pos c1, cIf_f (by omega)]
      exact rC.no h (by decide) rfl
    rw [if_neg c1]
    by_cases c2 : 3 ≤ x
    · rw [if_pos c2, cIf_f (by omega)]
      exact rC.no h (by decide) rfl
    rw [if_neg c2]
    refine ⟨hy, ?_⟩
    by_cases c3 : 0 ≤ y
    · rw [if_pos c3, cIf_p (by omega)]
      refine ((s_countWorking h ho hp hx hy).deeper (by omega)).mono ?_
      rintro r W ⟨rfl, hW⟩
      obtain rfl := hW.symm
      exact b_X11_busy_41 h.1 (rC.st h rfl)
    · rw [if_neg c3, cIf_f (by omega)]
      exact rC.no h (by decide) rfl
theorem d_planBegin {G : Gx} {Z : Zm} {B : Nat} {σ : St} {t : Int} (h : IMb Z B σ) (ho : okS σ) (ht : R32 t) : ZM G 12 m_X12_planBegin [.ref 300, iv t] Z (rM Z iv (o_planBegin σ t)) := by
  have hn := ho.1.n
  have h0 := h.2.2.1.1
  unfold o_planBegin
  cases hp : sP σ with
  | none =>
    rw [pIf_n hp]
    have e0 := h.pl.1 hp
    refine e_X12_planBegin h.1 ?_
    rw [e0, h0]
    refine ⟨by decide, ht, by omega, ?_⟩
    rintro _ rfl
    rw [fC_1 (P := (0 : Int) = 0) rfl]
    exact ⟨fun g => absurd (by decide) g, rM.no h (by decide) rfl⟩
  | some p =>
    rw [pIf_s hp]
    have e0 := (h.pl.2 p hp).1
    refine e_X12_planBegin h.1 ?_
    rw [e0, h0]
    refine ⟨by decide, ht, by omega, ?_⟩
    rintro _ rfl
    by_cases c : 0 ≤ t ∧ t < (kN (sK σ) : Int)
    · rw [cIf_p c, fC_o2 (P := (1 : Int) = 0) (Q := ¬ (0 ≤ t ∧ t < (kN (sK σ) : Int))) (by decide) (by omega), if_neg (by decide)]
      exact ⟨fun _ => ⟨⟨c.1, by omega, by decide⟩, trivial⟩, rM.st h rfl (((h.t 0).pl.2 p hp).2.2.2.2 _ (by omega)).1⟩
    · rw [cIf_f c, fC_2 (P := (1 : Int) = 0) (Q := ¬ (0 ≤ t ∧ t < (kN (sK σ) : Int))) (by decide) c]
      exact ⟨fun g => absurd (by decide) g, rM.no h (by decide) rfl⟩
theorem d_planHand {G : Gx} {Z : Zm} {B : Nat} {σ : St} {t : Int} (h : IMb Z B σ) (ho : okS σ) (ht : R32 t) : ZM G 12 m_X12_planHand [.ref 300, iv t] Z (rM Z iv (o_planHand σ t)) := by
  have hn := ho.1.n
  have h0 := h.2.2.1.1
  unfold o_planHand
  cases hp : sP σ with
  | none =>
    rw [pIf_n hp]
    have e0 := h.pl.1 hp
    refine e_X12_planHand h.1 ?_
    rw [e0, h0]
    refine ⟨by decide, ht, by omega, ?_⟩
    rintro _ rfl
    rw [fC_1 (P := (0 : Int) = 0) rfl]
    exact ⟨fun g => absurd (by decide) g, rM.no h (by decide) rfl⟩
  | some p =>
    rw [pIf_s hp]
    have e0 := (h.pl.2 p hp).1
    refine e_X12_planHand h.1 ?_
    rw [e0, h0]
    refine ⟨by decide, ht, by omega, ?_⟩
    rintro _ rfl
    by_cases c : 0 ≤ t ∧ t < (kN (sK σ) : Int)
    · rw [cIf_p c, fC_o2 (P := (1 : Int) = 0) (Q := ¬ (0 ≤ t ∧ t < (kN (sK σ) : Int))) (by decide) (by omega), if_neg (by decide)]
      exact ⟨fun _ => ⟨⟨c.1, by omega, by decide⟩, trivial⟩, rM.st h rfl (((h.t 0).pl.2 p hp).2.2.2.2 _ (by omega)).2⟩
    · rw [cIf_f c, fC_2 (P := (1 : Int) = 0) (Q := ¬ (0 ≤ t ∧ t < (kN (sK σ) : Int))) (by decide) c]
      exact ⟨fun g => absurd (by decide) g, rM.no h (by decide) rfl⟩
theorem d_planEnd {G : Gx} {Z : Zm} {B : Nat} {σ : St} (h : IMb Z B σ) : ZM G 12 m_X12_planEnd [.ref 300] Z (rM Z iv (o_planEnd σ)) := by
  unfold o_planEnd
  cases hp : sP σ with
  | none =>
    rw [pIf_n hp]
    have e0 := h.pl.1 hp
    refine e_X12_planEnd h.1 ?_
    rw [e0]
    refine ⟨by decide, ?_⟩
    rintro _ rfl
    rw [fC_1 (P := (0 : Int) = 0) rfl]
    exact rM.no h (by decide) rfl
  | some p =>
    rw [pIf_s hp]
    have e0 := (h.pl.2 p hp).1
    refine e_X12_planEnd h.1 ?_
    rw [e0]
    refine ⟨by decide, ?_⟩
    rintro _ rfl
    rw [fC_o1 (P := (1 : Int) = 0) (by decide), if_neg (by decide)]
    exact rM.st h rfl ((h.t 0).pl.2 p hp).2.2.1
theorem d_busy {G : Gx} {Z : Zm} {B : Nat} {σ : St} {s x : Int} (h : IMb Z B σ) (ho : okS σ) (hs : R32 s) (hx : R32 x) : ZM G 12 m_X12_busy [.ref 300, iv s, iv x] Z (rM Z iv (o_busy σ s x)) := by
  unfold o_busy
  cases hp : sP σ with
  | none =>
    rw [pIf_n hp]
    have e0 := h.pl.1 hp
    refine e_X12_busy h.1 ?_
    rw [e0]
    refine ⟨by decide, hs, fun _ => ⟨hx, trivial⟩, ?_⟩
    rintro _ rfl
    rw [fC_1 (P := (0 : Int) = 0) rfl, if_pos (by decide)]
    exact rM.no h (by decide) rfl
  | some p =>
    rw [pIf_s hp]
    have e0 := (h.pl.2 p hp).1
    refine e_X12_busy h.1 ?_
    rw [e0]
    refine ⟨by decide, hs, fun _ => ⟨hx, trivial⟩, ?_⟩
    rintro _ rfl
    by_cases c : (0 ≤ s ∧ s ≤ 2) ∧ 0 ≤ x
    · rw [cIf_p c, fC_o2 (P := (1 : Int) = 0) (Q := ¬ (0 ≤ s ∧ s ≤ 2) ∨ (¬ (0 ≤ x))) (by decide) (by omega), if_neg (by decide)]
      refine ((s_busyIn (h.t 0) ho hp hs hx).deeper (by omega)).mono ?_
      rintro r W ⟨rfl, hW⟩
      obtain rfl := hW.symm
      exact b_X12_busy_48 (h.t 0).1 (rM.st h rfl rfl)
    · rw [cIf_f c, fC_2 (P := (1 : Int) = 0) (Q := ¬ (0 ≤ s ∧ s ≤ 2) ∨ (¬ (0 ≤ x))) (by decide) (by omega), if_pos (by decide)]
      exact rM.no h (by decide) rfl
