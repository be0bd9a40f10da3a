set_option maxRecDepth 20000 in
theorem e_X11_shorten {G : Gx} {Q : Rv → Zm → Prop} {Z : Zm} {t : Int} {x : Int} {y : Int} (hx : atAll Z) (h : ((R32 t) ∧ (R32 (zI Z 1 3)) ∧ (zSz Z < 1000000) ∧ (if 0 ≤ t ∧ t < zI Z 1 3 then ((R32 x) ∧ (if x < 0 then (Q (.inr "java/lang/IllegalArgumentException") (zC Z 13 0 6)) else ((if 5 < x then (Q (.inr "java/lang/IllegalArgumentException") (zC Z 13 0 6)) else ((zIx t 20) ∧ (R32 (zI Z 3 t.toNat)) ∧ (if x < (zI Z 3 t.toNat) then ((R32 y) ∧ (if y < 0 then (Q (.inr "java/lang/IllegalArgumentException") (zC Z 13 0 6)) else ((if y ≤ 99 then (ZM G 11 m_X11_keepBook [.ref 0] Z (zKc G 12 m_X11_shorten 65 [some (.ref 0), some (iv t), some (iv x), some (iv y), none] [] Q)) else (Q (.inr "java/lang/IllegalArgumentException") (zC Z 13 0 6)))))) else (Q (.inr "java/lang/IllegalArgumentException") (zC Z 13 0 6)))))))) else Q (.inr "java/util/NoSuchElementException") (zC Z 15 0 6)))) : ZM G 12 m_X11_shorten [.ref 0, iv t, iv x, iv y] Z Q := ZM.of [some (.ref 0), some (iv t), some (iv x), some (iv y), none] rfl <| z_aload_n (pc' := 1) (j := 0) (by decide +kernel) rfl rfl <| z_iload_n (pc' := 2) (j := 1) (by decide +kernel) rfl rfl <| h.elim fun c1 h => h.elim fun c2 h => h.elim fun c3 h => z_callV (pc' := 5) (idx := 133) (mj := m_X11_checkTask) (av := [iv t]) (d' := 8) (by decide +kernel) rfl k_X11_checkTask l_RX11_133 rfl (by omega) (am_le rfl) rfl (am_le rfl) hx.o.1 hx.o.2 rfl <| zKt (s_checkTask hx c1 c2 c3) (am_ite h (fun h => z_iload_n (pc' := 6) (j := 2) (by decide +kernel) rfl rfl <| h.elim fun c4 h => z_if_lt (pc' := 9) (tgt := 29) (off := 23) (by decide +kernel) (by decide) rfl c4 (am_ite h (fun h => z_throw (is := 401) (text := "the hours are out of range") th_IllegalArgumentException (amT7 (i := 34) rfl) rfl (by decide +kernel) (by decide +kernel) (Or.inr ⟨(by decide +kernel), (by decide +kernel), (by decide +kernel)⟩) (by omega) (am_le rfl) c3 h) (fun h => z_iload_n (pc' := 10) (j := 2) (by decide +kernel) rfl rfl <| z_iconst (pc' := 11) (n := 5) (by decide +kernel) rfl <| z_icmp_gt (pc' := 14) (tgt := 29) (off := 18) (by decide +kernel) (by decide) rfl c4 (by decide : R32 5) (am_ite h (fun h => z_throw (is := 401) (text := "the hours are out of range") th_IllegalArgumentException (amT7 (i := 34) rfl) rfl (by decide +kernel) (by decide +kernel) (Or.inr ⟨(by decide +kernel), (by decide +kernel), (by decide +kernel)⟩) (by omega) (am_le rfl) c3 h) (fun h => z_iload_n (pc' := 15) (j := 2) (by decide +kernel) rfl rfl <| z_aload_n (pc' := 16) (j := 0) (by decide +kernel) rfl rfl <| z_getR (pc' := 19) (idx := 10) (ci := 11) (f := 0) (by decide +kernel) f_RX11_10 rfl hx.o.1 hx.o.2 hx.r0 rfl <| z_getR (pc' := 22) (idx := 155) (ci := 0) (f := 0) (by decide +kernel) f_RX11_155 rfl hx.bk.o.1 hx.bk.o.2 hx.bk.r0 rfl <| z_iconst (pc' := 23) (n := 0) (by decide +kernel) rfl <| z_aaload120 (pc' := 24) (by decide +kernel) hx.bk.a0 ⟨by decide, by decide, by decide⟩ (hx.bk.e0 0 (by decide)) rfl <| z_iload_n (pc' := 25) (j := 1) (by decide +kernel) rfl rfl <| h.elim fun c5 h => z_iaload (pc' := 26) (by decide +kernel) (hx.bk.x0 0 (by decide)) c5 rfl <| h.elim fun c6 h => z_icmp_lt (pc' := 29) (tgt := 40) (off := 14) (by decide +kernel) (by decide) rfl c4 c6 (am_ite h (fun h => z_iload_n (pc' := 41) (j := 3) (by decide +kernel) rfl rfl <| h.elim fun c7 h => z_if_lt (pc' := 44) (tgt := 50) (off := 9) (by decide +kernel) (by decide) rfl c7 (am_ite h (fun h => z_throw (is := 403) (text := "the cost is out of range") th_IllegalArgumentException (amT7 (i := 35) rfl) rfl (by decide +kernel) (by decide +kernel) (Or.inr ⟨(by decide +kernel), (by decide +kernel), (by decide +kernel)⟩) (by omega) (am_le rfl) c3 h) (fun h => z_iload_n (pc' := 45) (j := 3) (by decide +kernel) rfl rfl <| z_bipush (pc' := 47) (n := 99) (by decide +kernel) (by decide) rfl <| z_icmp_le (pc' := 50) (tgt := 61) (off := 14) (by decide +kernel) (by decide) rfl c7 (by decide : R32 99) (am_ite h (fun h => z_aload_n (pc' := 62) (j := 0) (by decide +kernel) rfl rfl <| z_callV (pc' := 65) (idx := 126) (mj := m_X11_keepBook) (av := []) (d' := 11) (by decide +kernel) rfl k_X11_keepBook l_RX11_126 rfl (by omega) (am_le rfl) rfl (am_le rfl) hx.o.1 hx.o.2 rfl h) (fun h => z_throw (is := 403) (text := "the cost is out of range") th_IllegalArgumentException (amT7 (i := 35) rfl) rfl (by decide +kernel) (by decide +kernel) (Or.inr ⟨(by decide +kernel), (by decide +kernel), (by decide +kernel)⟩) (by omega) (am_le rfl) c3 h))))) (fun h => z_throw (is := 401) (text := "the hours are out of range") th_IllegalArgumentException (amT7 (i := 34) rfl) rfl (by decide +kernel) (by decide +kernel) (Or.inr ⟨(by decide +kernel), (by decide +kernel), (by decide +kernel)⟩) (by omega) (am_le rfl) c3 h))))))) (fun h => h))
set_option maxRecDepth 20000 in
theorem b_X11_shorten_65 {G : Gx} {Q : Rv → Zm → Prop} {Z : Zm} {t : Int} {x : Int} {y : Int}  (hx : atAll Z) (h : ((zIx t 20) ∧ ∀ Z2, Z2 = zSI Z 11 (zu (zI Z 11) t.toNat x) → ∀ Z3, Z3 = zSI Z2 12 (zu (zI Z2 12) t.toNat y) → Q (.inl (some (iv (zI Z 11 t.toNat)))) Z3)) : ZP G 12 m_X11_shorten 65 [some (.ref 0), some (iv t), some (iv x), some (iv y), none] [] Z Q := z_aload_n (pc' := 66) (j := 0) (by decide +kernel) rfl rfl <| z_getR (pc' := 69) (idx := 10) (ci := 11) (f := 0) (by decide +kernel) f_RX11_10 rfl hx.o.1 hx.o.2 hx.r0 rfl <| z_getR (pc' := 72) (idx := 155) (ci := 0) (f := 0) (by decide +kernel) f_RX11_155 rfl hx.bk.o.1 hx.bk.o.2 hx.bk.r0 rfl <| z_bipush (pc' := 74) (n := 8) (by decide +kernel) (by decide) rfl <| z_aaload120 (pc' := 75) (by decide +kernel) hx.bk.a0 ⟨by decide, by decide, by decide⟩ (hx.bk.e0 8 (by decide)) rfl <| z_iload_n (pc' := 76) (j := 1) (by decide +kernel) rfl rfl <| h.elim fun c1 h => z_iaload (pc' := 77) (by decide +kernel) (hx.bk.x0 8 (by decide)) c1 rfl <| z_istore (pc' := 79) (j := 4) (ls' := [some (.ref 0), some (iv t), some (iv x), some (iv y), some (iv (zI Z 11 t.toNat))]) (by decide +kernel) (by decide) rfl rfl <| z_aload_n (pc' := 80) (j := 0) (by decide +kernel) rfl rfl <| z_getR (pc' := 83) (idx := 10) (ci := 11) (f := 0) (by decide +kernel) f_RX11_10 rfl hx.o.1 hx.o.2 hx.r0 rfl <| z_getR (pc' := 86) (idx := 155) (ci := 0) (f := 0) (by decide +kernel) f_RX11_155 rfl hx.bk.o.1 hx.bk.o.2 hx.bk.r0 rfl <| z_bipush (pc' := 88) (n := 8) (by decide +kernel) (by decide) rfl <| z_aaload120 (pc' := 89) (by decide +kernel) hx.bk.a0 ⟨by decide, by decide, by decide⟩ (hx.bk.e0 8 (by decide)) rfl <| z_iload_n (pc' := 90) (j := 1) (by decide +kernel) rfl rfl <| z_iload_n (pc' := 91) (j := 2) (by decide +kernel) rfl rfl <| z_iastore (pc' := 92) (by decide +kernel) (hx.bk.x0 8 (by decide)) c1 rfl <| have h := h _ rfl; z_aload_n (pc' := 93) (j := 0) (by decide +kernel) rfl rfl <| z_getR (pc' := 96) (idx := 10) (ci := 11) (f := 0) (by decide +kernel) f_RX11_10 rfl hx.o.1 hx.o.2 hx.r0 rfl <| z_getR (pc' := 99) (idx := 155) (ci := 0) (f := 0) (by decide +kernel) f_RX11_155 rfl hx.bk.o.1 hx.bk.o.2 hx.bk.r0 rfl <| z_bipush (pc' := 101) (n := 9) (by decide +kernel) (by decide) rfl <| z_aaload120 (pc' := 102) (by decide +kernel) hx.bk.a0 ⟨by decide, by decide, by decide⟩ (hx.bk.e0 9 (by decide)) rfl <| z_iload_n (pc' := 103) (j := 1) (by decide +kernel) rfl rfl <| z_iload_n (pc' := 104) (j := 3) (by decide +kernel) rfl rfl <| z_iastore (pc' := 105) (by decide +kernel) (hx.bk.x0 9 (by decide)) c1 rfl <| have h := h _ rfl; z_iload (pc' := 107) (j := 4) (by decide +kernel) rfl rfl <| z_ireturn (by decide +kernel) ⟨_, rfl, rfl⟩ h
set_option maxRecDepth 20000 in
theorem e_X11_guess {G : Gx} {Q : Rv → Zm → Prop} {Z : Zm} {t : Int} {x : Int} {y : Int} (hx : atAll Z) (h : ((R32 t) ∧ (R32 (zI Z 1 3)) ∧ (zSz Z < 1000000) ∧ (if 0 ≤ t ∧ t < zI Z 1 3 then ((zIx t 20) ∧ (R32 x) ∧ (if x < 1 then (Q (.inr "java/lang/IllegalArgumentException") (zC Z 13 0 6)) else ((R32 (zI Z 3 t.toNat)) ∧ (if (zI Z 3 t.toNat) < x then (Q (.inr "java/lang/IllegalArgumentException") (zC Z 13 0 6)) else ((R32 y) ∧ (if y < (zI Z 3 t.toNat) then (Q (.inr "java/lang/IllegalArgumentException") (zC Z 13 0 6)) else ((if y ≤ 60 then (ZM G 11 m_X11_keepBook [.ref 0] Z (zKc G 12 m_X11_guess 56 [some (.ref 0), some (iv t), some (iv x), some (iv y), none] [] Q)) else (Q (.inr "java/lang/IllegalArgumentException") (zC Z 13 0 6)))))))))) else Q (.inr "java/util/NoSuchElementException") (zC Z 15 0 6)))) : ZM G 12 m_X11_guess [.ref 0, iv t, iv x, iv y] Z Q := ZM.of [some (.ref 0), some (iv t), some (iv x), some (iv y), none] rfl <| z_aload_n (pc' := 1) (j := 0) (by decide +kernel) rfl rfl <| z_iload_n (pc' := 2) (j := 1) (by decide +kernel) rfl rfl <| h.elim fun c1 h => h.elim fun c2 h => h.elim fun c3 h => z_callV (pc' := 5) (idx := 133) (mj := m_X11_checkTask) (av := [iv t]) (d' := 8) (by decide +kernel) rfl k_X11_checkTask l_RX11_133 rfl (by omega) (am_le rfl) rfl (am_le rfl) hx.o.1 hx.o.2 rfl <| zKt (s_checkTask hx c1 c2 c3) (am_ite h (fun h => z_aload_n (pc' := 6) (j := 0) (by decide +kernel) rfl rfl <| z_getR (pc' := 9) (idx := 10) (ci := 11) (f := 0) (by decide +kernel) f_RX11_10 rfl hx.o.1 hx.o.2 hx.r0 rfl <| z_getR (pc' := 12) (idx := 155) (ci := 0) (f := 0) (by decide +kernel) f_RX11_155 rfl hx.bk.o.1 hx.bk.o.2 hx.bk.r0 rfl <| z_iconst (pc' := 13) (n := 0) (by decide +kernel) rfl <| z_aaload120 (pc' := 14) (by decide +kernel) hx.bk.a0 ⟨by decide, by decide, by decide⟩ (hx.bk.e0 0 (by decide)) rfl <| z_iload_n (pc' := 15) (j := 1) (by decide +kernel) rfl rfl <| h.elim fun c4 h => z_iaload (pc' := 16) (by decide +kernel) (hx.bk.x0 0 (by decide)) c4 rfl <| z_istore (pc' := 18) (j := 4) (ls' := [some (.ref 0), some (iv t), some (iv x), some (iv y), some (iv (zI Z 3 t.toNat))]) (by decide +kernel) (by decide) rfl rfl <| z_iload_n (pc' := 19) (j := 2) (by decide +kernel) rfl rfl <| z_iconst (pc' := 20) (n := 1) (by decide +kernel) rfl <| h.elim fun c5 h => z_icmp_lt (pc' := 23) (tgt := 41) (off := 21) (by decide +kernel) (by decide) rfl c5 (by decide : R32 1) (am_ite h (fun h => z_throw (is := 416) (text := "a number is out of range") th_IllegalArgumentException (amT7 (i := 69) rfl) rfl (by decide +kernel) (by decide +kernel) (Or.inr ⟨(by decide +kernel), (by decide +kernel), (by decide +kernel)⟩) (by omega) (am_le rfl) c3 h) (fun h => z_iload_n (pc' := 24) (j := 2) (by decide +kernel) rfl rfl <| z_iload (pc' := 26) (j := 4) (by decide +kernel) rfl rfl <| h.elim fun c6 h => z_icmp_gt (pc' := 29) (tgt := 41) (off := 15) (by decide +kernel) (by decide) rfl c5 c6 (am_ite h (fun h => z_throw (is := 416) (text := "a number is out of range") th_IllegalArgumentException (amT7 (i := 69) rfl) rfl (by decide +kernel) (by decide +kernel) (Or.inr ⟨(by decide +kernel), (by decide +kernel), (by decide +kernel)⟩) (by omega) (am_le rfl) c3 h) (fun h => z_iload_n (pc' := 30) (j := 3) (by decide +kernel) rfl rfl <| z_iload (pc' := 32) (j := 4) (by decide +kernel) rfl rfl <| h.elim fun c7 h => z_icmp_lt (pc' := 35) (tgt := 41) (off := 9) (by decide +kernel) (by decide) rfl c7 c6 (am_ite h (fun h => z_throw (is := 416) (text := "a number is out of range") th_IllegalArgumentException (amT7 (i := 69) rfl) rfl (by decide +kernel) (by decide +kernel) (Or.inr ⟨(by decide +kernel), (by decide +kernel), (by decide +kernel)⟩) (by omega) (am_le rfl) c3 h) (fun h => z_iload_n (pc' := 36) (j := 3) (by decide +kernel) rfl rfl <| z_bipush (pc' := 38) (n := 60) (by decide +kernel) (by decide) rfl <| z_icmp_le (pc' := 41) (tgt := 52) (off := 14) (by decide +kernel) (by decide) rfl c7 (by decide : R32 60) (am_ite h (fun h => z_aload_n (pc' := 53) (j := 0) (by decide +kernel) rfl rfl <| z_callV (pc' := 56) (idx := 126) (mj := m_X11_keepBook) (av := []) (d' := 11) (by decide +kernel) rfl k_X11_keepBook l_RX11_126 rfl (by omega) (am_le rfl) rfl (am_le rfl) hx.o.1 hx.o.2 rfl (ZM.mono h (zKc_wk (wk_some (wk_some (wk_some (wk_some (wk_none wk_nil)))))))) (fun h => z_throw (is := 416) (text := "a number is out of range") th_IllegalArgumentException (amT7 (i := 69) rfl) rfl (by decide +kernel) (by decide +kernel) (Or.inr ⟨(by decide +kernel), (by decide +kernel), (by decide +kernel)⟩) (by omega) (am_le rfl) c3 h))))))))) (fun h => h))
set_option maxRecDepth 20000 in
theorem b_X11_guess_56 {G : Gx} {Q : Rv → Zm → Prop} {Z : Zm} {t : Int} {x : Int} {y : Int}  (hx : atAll Z) (h : ((zIx t 20) ∧ ∀ Z2, Z2 = zSI Z 13 (zu (zI Z 13) t.toNat x) → ∀ Z3, Z3 = zSI Z2 14 (zu (zI Z2 14) t.toNat y) → ZM G 11 m_X0_countGuessed [.ref 1] Z3 (zKc G 12 m_X11_guess 89 [none, none, none, none, none] [] Q))) : ZP G 12 m_X11_guess 56 [some (.ref 0), some (iv t), some (iv x), some (iv y), none] [] Z Q := z_aload_n (pc' := 57) (j := 0) (by decide +kernel) rfl rfl <| z_getR (pc' := 60) (idx := 10) (ci := 11) (f := 0) (by decide +kernel) f_RX11_10 rfl hx.o.1 hx.o.2 hx.r0 rfl <| z_getR (pc' := 63) (idx := 155) (ci := 0) (f := 0) (by decide +kernel) f_RX11_155 rfl hx.bk.o.1 hx.bk.o.2 hx.bk.r0 rfl <| z_bipush (pc' := 65) (n := 10) (by decide +kernel) (by decide) rfl <| z_aaload120 (pc' := 66) (by decide +kernel) hx.bk.a0 ⟨by decide, by decide, by decide⟩ (hx.bk.e0 10 (by decide)) rfl <| z_iload_n (pc' := 67) (j := 1) (by decide +kernel) rfl rfl <| z_iload_n (pc' := 68) (j := 2) (by decide +kernel) rfl rfl <| h.elim fun c1 h => z_iastore (pc' := 69) (by decide +kernel) (hx.bk.x0 10 (by decide)) c1 rfl <| have h := h _ rfl; z_aload_n (pc' := 70) (j := 0) (by decide +kernel) rfl rfl <| z_getR (pc' := 73) (idx := 10) (ci := 11) (f := 0) (by decide +kernel) f_RX11_10 rfl hx.o.1 hx.o.2 hx.r0 rfl <| z_getR (pc' := 76) (idx := 155) (ci := 0) (f := 0) (by decide +kernel) f_RX11_155 rfl hx.bk.o.1 hx.bk.o.2 hx.bk.r0 rfl <| z_bipush (pc' := 78) (n := 11) (by decide +kernel) (by decide) rfl <| z_aaload120 (pc' := 79) (by decide +kernel) hx.bk.a0 ⟨by decide, by decide, by decide⟩ (hx.bk.e0 11 (by decide)) rfl <| z_iload_n (pc' := 80) (j := 1) (by decide +kernel) rfl rfl <| z_iload_n (pc' := 81) (j := 3) (by decide +kernel) rfl rfl <| z_iastore (pc' := 82) (by decide +kernel) (hx.bk.x0 11 (by decide)) c1 rfl <| have h := h _ rfl; z_aload_n (pc' := 83) (j := 0) (by decide +kernel) rfl rfl <| z_getR (pc' := 86) (idx := 10) (ci := 11) (f := 0) (by decide +kernel) f_RX11_10 rfl hx.o.1 hx.o.2 hx.r0 rfl <| z_callV (pc' := 89) (idx := 418) (mj := m_X0_countGuessed) (av := []) (d' := 11) (by decide +kernel) rfl k_X0_countGuessed l_RX11_418 rfl (by omega) (am_le rfl) rfl (am_le rfl) hx.bk.o.1 hx.bk.o.2 rfl (ZM.mono h (zKc_wk (wk_none (wk_none (wk_none (wk_none (wk_none wk_nil)))))))
set_option maxRecDepth 20000 in
theorem b_X11_guess_89 {G : Gx} {Q : Rv → Zm → Prop} {Z : Zm}  {s0 : Int} (hx : atAll Z) (h : (Q (.inl (some (iv s0))) Z)) : ZP G 12 m_X11_guess 89 [none, none, none, none, none] [iv s0] Z Q := z_ireturn (by decide +kernel) ⟨_, rfl, rfl⟩ h
set_option maxRecDepth 20000 in
theorem e_X12_shorten {G : Gx} {Q : Rv → Zm → Prop} {Z : Zm} {m : Nat} {B : Nat} {t : Int} {x : Int} {y : Int} (hm : atModel Z m B) (h : ((R32 t) ∧ (R32 (zI Z B 0 - 1)) ∧ (0 ≤ t ∧ t < zI Z B 0 → (R32 x) ∧ (0 ≤ x ∧ x ≤ 5 → (zIx t 20) ∧ (R32 (mG Z B t.toNat 0)) ∧ (¬ ((mG Z B t.toNat 0) ≤ x) → (R32 y) ∧ True) ∧ True) ∧ True) ∧ ∀ Z27, Z27 = zSI Z m (zu (zI Z m) 19 (fC (b2 (¬ (0 ≤ t ∧ t < zI Z B 0))) (b2 ((0 ≤ t ∧ t < zI Z B 0) ∧ (¬ (0 ≤ x ∧ x ≤ 5) ∨ (((mG Z B t.toNat 0) ≤ x) ∨ (¬ (0 ≤ y ∧ y ≤ 99)))))) 0)) → (if 0 < fC (b2 (¬ (0 ≤ t ∧ t < zI Z B 0))) (b2 ((0 ≤ t ∧ t < zI Z B 0) ∧ (¬ (0 ≤ x ∧ x ≤ 5) ∨ (((mG Z B t.toNat 0) ≤ x) ∨ (¬ (0 ≤ y ∧ y ≤ 99)))))) 0 then (Q (.inl (some (iv 0))) Z27) else ((zIx t 20) ∧ ZM G 11 m_X12_keeps [.ref m] Z27 (zKc G 12 m_X12_shorten 83 [some (.ref m), some (iv t), some (iv x), some (iv y), none, none, some (iv (mG Z27 B t.toNat 8))] [] Q))))) : ZM G 12 m_X12_shorten [.ref m, iv t, iv x, iv y] Z Q := ZM.of [some (.ref m), some (iv t), some (iv x), some (iv y), none, none, none] rfl <| z_aload_n (pc' := 1) (j := 0) (by decide +kernel) rfl rfl <| z_iload_n (pc' := 2) (j := 1) (by decide +kernel) rfl rfl <| h.elim fun c1 h => h.elim fun c2 h => z_callV (pc' := 5) (idx := 151) (mj := m_X12_isTask) (av := [iv t]) (d' := 1) (by decide +kernel) rfl k_X12_isTask l_RX12_151 rfl (by omega) (am_le rfl) rfl (am_le rfl) hm.o.1 hm.o.2 rfl <| zKf (s_isTask hm c1 c2) <| z_istore (pc' := 7) (j := 4) (ls' := [some (.ref m), some (iv t), some (iv x), some (iv y), some (iv (b2 (0 ≤ t ∧ t < zI Z B 0))), none, none]) (by decide +kernel) (by decide) rfl rfl <| z_iload (pc' := 9) (j := 4) (by decide +kernel) rfl rfl <| h.elim fun g19 h => am_use (fun k21 => z_ifB_eq (pc' := 12) (tgt := 45) (off := 36) (by decide +kernel) (by decide) rfl (am_ite2 (fun q22 => have h := g19 q22; z_iload_n (pc' := 13) (j := 2) (by decide +kernel) rfl rfl <| z_iconst (pc' := 14) (n := 0) (by decide +kernel) rfl <| z_iconst (pc' := 15) (n := 5) (by decide +kernel) rfl <| h.elim fun c3 h => z_callS (pc' := 18) (idx := 68) (mj := m_X12_in) (av := [iv x, iv 0, iv 5]) (d' := 0) (by decide +kernel) rfl k_X12_in l_RX12_68 rfl (by omega) (am_le rfl) rfl (am_le rfl) rfl <| zKf (s_in c3 (by decide : R32 0) (by decide : R32 5)) <| h.elim fun g15 h => am_use (fun k17 => z_ifB_eq (pc' := 21) (tgt := 41) (off := 23) (by decide +kernel) (by decide) rfl (am_ite2 (fun q18 => have h := g15 q18; z_iload_n (pc' := 22) (j := 2) (by decide +kernel) rfl rfl <| z_aload_n (pc' := 23) (j := 0) (by decide +kernel) rfl rfl <| z_iload_n (pc' := 24) (j := 1) (by decide +kernel) rfl rfl <| z_iconst (pc' := 25) (n := 0) (by decide +kernel) rfl <| h.elim fun c4 h => z_callV (pc' := 28) (idx := 83) (mj := m_X12_get) (av := [iv t, iv 0]) (d' := 0) (by decide +kernel) rfl k_X12_get l_RX12_83 rfl (by omega) (am_le rfl) rfl (am_le rfl) hm.o.1 hm.o.2 rfl <| zKf (s_get hm c4 ⟨by decide, by decide, by decide⟩) <| h.elim fun c5 h => h.elim fun g12 h => am_use (fun k13 => z_icmp_ge (pc' := 31) (tgt := 41) (off := 13) (by decide +kernel) (by decide) rfl c3 c5 (am_ite2 (fun q14 => z_iconst (pc' := 42) (n := 1) (by decide +kernel) rfl <| z_goto (tgt := 46) (off := 4) (by decide +kernel) (by decide) <| (am_jp (P := fun z9 => ZP G 12 m_X12_shorten 46 [some (.ref m), some (iv t), some (iv x), some (iv y), some (iv (b2 (0 ≤ t ∧ t < zI Z B 0))), none, none] [iv z9] _ Q) (b2_o1 q14) k13)) (fun q14 => have h := g12 q14; z_iload_n (pc' := 32) (j := 3) (by decide +kernel) rfl rfl <| z_iconst (pc' := 33) (n := 0) (by decide +kernel) rfl <| z_bipush (pc' := 35) (n := 99) (by decide +kernel) (by decide) rfl <| h.elim fun c6 h => z_callS (pc' := 38) (idx := 68) (mj := m_X12_in) (av := [iv y, iv 0, iv 99]) (d' := 0) (by decide +kernel) rfl k_X12_in l_RX12_68 rfl (by omega) (am_le rfl) rfl (am_le rfl) rfl <| zKf (s_in c6 (by decide : R32 0) (by decide : R32 99)) <| am_use (fun k9 => z_ifB_ne (pc' := 41) (tgt := 45) (off := 7) (by decide +kernel) (by decide) rfl (am_ite2 (fun q10 => z_iconst (pc' := 46) (n := 0) (by decide +kernel) rfl <| (am_jp (P := fun z9 => ZP G 12 m_X12_shorten 46 [some (.ref m), some (iv t), some (iv x), some (iv y), some (iv (b2 (0 ≤ t ∧ t < zI Z B 0))), none, none] [iv z9] _ Q) (b2_n q10) k9)) (fun q10 => z_iconst (pc' := 42) (n := 1) (by decide +kernel) rfl <| z_goto (tgt := 46) (off := 4) (by decide +kernel) (by decide) <| (am_jp (P := fun z9 => ZP G 12 m_X12_shorten 46 [some (.ref m), some (iv t), some (iv x), some (iv y), some (iv (b2 (0 ≤ t ∧ t < zI Z B 0))), none, none] [iv z9] _ Q) (b2_nn q10) k9)))) <| (am_jp (P := fun z9 => ZP G 12 m_X12_shorten 46 [some (.ref m), some (iv t), some (iv x), some (iv y), some (iv (b2 (0 ≤ t ∧ t < zI Z B 0))), none, none] [iv z9] _ Q) (b2_o2 q14) k13)))) <| (am_jp (P := fun z9 => ZP G 12 m_X12_shorten 46 [some (.ref m), some (iv t), some (iv x), some (iv y), some (iv (b2 (0 ≤ t ∧ t < zI Z B 0))), none, none] [iv z9] _ Q) (b2_d1 q18) k17)) (fun q18 => z_iconst (pc' := 42) (n := 1) (by decide +kernel) rfl <| z_goto (tgt := 46) (off := 4) (by decide +kernel) (by decide) <| (am_jp (P := fun z9 => ZP G 12 m_X12_shorten 46 [some (.ref m), some (iv t), some (iv x), some (iv y), some (iv (b2 (0 ≤ t ∧ t < zI Z B 0))), none, none] [iv z9] _ Q) (b2_d2 q18) k17)))) <| (am_jp (P := fun z9 => ZP G 12 m_X12_shorten 46 [some (.ref m), some (iv t), some (iv x), some (iv y), some (iv (b2 (0 ≤ t ∧ t < zI Z B 0))), none, none] [iv z9] _ Q) (b2_c1 q22) k21)) (fun q22 => z_iconst (pc' := 46) (n := 0) (by decide +kernel) rfl <| (am_jp (P := fun z9 => ZP G 12 m_X12_shorten 46 [some (.ref m), some (iv t), some (iv x), some (iv y), some (iv (b2 (0 ≤ t ∧ t < zI Z B 0))), none, none] [iv z9] _ Q) (b2_c2 q22) k21)))) <| z_istore (pc' := 48) (j := 5) (ls' := [some (.ref m), some (iv t), some (iv x), some (iv y), some (iv (b2 (0 ≤ t ∧ t < zI Z B 0))), some (iv (b2 ((0 ≤ t ∧ t < zI Z B 0) ∧ (¬ (0 ≤ x ∧ x ≤ 5) ∨ (((mG Z B t.toNat 0) ≤ x) ∨ (¬ (0 ≤ y ∧ y ≤ 99))))))), none]) (by decide +kernel) (by decide) rfl rfl <| z_aload_n (pc' := 49) (j := 0) (by decide +kernel) rfl rfl <| z_iload (pc' := 51) (j := 4) (by decide +kernel) rfl rfl <| am_use (fun k25 => z_ifB_ne (pc' := 54) (tgt := 58) (off := 7) (by decide +kernel) (by decide) rfl (am_ite2 (fun q26 => z_iconst (pc' := 59) (n := 0) (by decide +kernel) rfl <| (am_jp (P := fun z9 => ZP G 12 m_X12_shorten 59 [some (.ref m), some (iv t), some (iv x), some (iv y), some (iv (b2 (0 ≤ t ∧ t < zI Z B 0))), some (iv (b2 ((0 ≤ t ∧ t < zI Z B 0) ∧ (¬ (0 ≤ x ∧ x ≤ 5) ∨ (((mG Z B t.toNat 0) ≤ x) ∨ (¬ (0 ≤ y ∧ y ≤ 99))))))), none] [iv z9, .ref m] _ Q) (b2_n q26) k25)) (fun q26 => z_iconst (pc' := 55) (n := 1) (by decide +kernel) rfl <| z_goto (tgt := 59) (off := 4) (by decide +kernel) (by decide) <| (am_jp (P := fun z9 => ZP G 12 m_X12_shorten 59 [some (.ref m), some (iv t), some (iv x), some (iv y), some (iv (b2 (0 ≤ t ∧ t < zI Z B 0))), some (iv (b2 ((0 ≤ t ∧ t < zI Z B 0) ∧ (¬ (0 ≤ x ∧ x ≤ 5) ∨ (((mG Z B t.toNat 0) ≤ x) ∨ (¬ (0 ≤ y ∧ y ≤ 99))))))), none] [iv z9, .ref m] _ Q) (b2_nn q26) k25)))) <| z_iload (pc' := 61) (j := 5) (by decide +kernel) rfl rfl <| z_iconst (pc' := 62) (n := 0) (by decide +kernel) rfl <| z_callV (pc' := 65) (idx := 133) (mj := m_X12_fails) (av := [iv (b2 (¬ (0 ≤ t ∧ t < zI Z B 0))), iv (b2 ((0 ≤ t ∧ t < zI Z B 0) ∧ (¬ (0 ≤ x ∧ x ≤ 5) ∨ (((mG Z B t.toNat 0) ≤ x) ∨ (¬ (0 ≤ y ∧ y ≤ 99)))))), iv 0]) (d' := 0) (by decide +kernel) rfl k_X12_fails l_RX12_133 rfl (by omega) (am_le rfl) rfl (am_le rfl) hm.o.1 hm.o.2 rfl <| zKf (s_fails hm (b2_01 _) (b2_01 _) (Or.inl rfl)) <| have h := h _ rfl; z_ifB_eq (pc' := 68) (tgt := 70) (off := 5) (by decide +kernel) (by decide) rfl (am_ite h (fun h => z_iconst (pc' := 69) (n := 0) (by decide +kernel) rfl <| z_ireturn (by decide +kernel) ⟨_, rfl, rfl⟩ h) (fun h => z_aload_n (pc' := 71) (j := 0) (by decide +kernel) rfl rfl <| z_iload_n (pc' := 72) (j := 1) (by decide +kernel) rfl rfl <| z_bipush (pc' := 74) (n := 8) (by decide +kernel) (by decide) rfl <| h.elim fun c28 h => z_callV (pc' := 77) (idx := 83) (mj := m_X12_get) (av := [iv t, iv 8]) (d' := 0) (by decide +kernel) rfl k_X12_get l_RX12_83 rfl (by omega) (am_le rfl) rfl (am_le rfl) hm.o.1 hm.o.2 rfl <| zKf (s_get hm c28 ⟨by decide, by decide, by decide⟩) <| z_istore (pc' := 79) (j := 6) (ls' := [some (.ref m), some (iv t), some (iv x), some (iv y), some (iv (b2 (0 ≤ t ∧ t < zI Z B 0))), some (iv (b2 ((0 ≤ t ∧ t < zI Z B 0) ∧ (¬ (0 ≤ x ∧ x ≤ 5) ∨ (((mG Z B t.toNat 0) ≤ x) ∨ (¬ (0 ≤ y ∧ y ≤ 99))))))), some (iv (mG (zSI Z m (zu (zI Z m) 19 (fC (b2 (¬ (0 ≤ t ∧ t < zI Z B 0))) (b2 ((0 ≤ t ∧ t < zI Z B 0) ∧ (¬ (0 ≤ x ∧ x ≤ 5) ∨ (((mG Z B t.toNat 0) ≤ x) ∨ (¬ (0 ≤ y ∧ y ≤ 99)))))) 0))) B t.toNat 8))]) (by decide +kernel) (by decide) rfl rfl <| z_aload_n (pc' := 80) (j := 0) (by decide +kernel) rfl rfl <| z_callV (pc' := 83) (idx := 137) (mj := m_X12_keeps) (av := []) (d' := 11) (by decide +kernel) rfl k_X12_keeps l_RX12_137 rfl (by omega) (am_le rfl) rfl (am_le rfl) hm.o.1 hm.o.2 rfl (ZM.mono h (zKc_wk (wk_some (wk_some (wk_some (wk_some (wk_none (wk_none (wk_some wk_nil)))))))))))
set_option maxRecDepth 20000 in
theorem b_X12_shorten_83 {G : Gx} {Q : Rv → Zm → Prop} {Z : Zm} {m : Nat} {B : Nat} {t : Int} {x : Int} {y : Int} {v6 : Int} (hm : atModel Z m B) (h : ((zIx t 20) ∧ ∀ Z2, Z2 = zSI Z B (zu (zI Z B) (2 + 13 * t.toNat + 8) x) → ∀ Z3, Z3 = zSI Z2 B (zu (zI Z2 B) (2 + 13 * t.toNat + 9) y) → Q (.inl (some (iv v6))) Z3)) : ZP G 12 m_X12_shorten 83 [some (.ref m), some (iv t), some (iv x), some (iv y), none, none, some (iv v6)] [] Z Q := z_aload_n (pc' := 84) (j := 0) (by decide +kernel) rfl rfl <| z_iload_n (pc' := 85) (j := 1) (by decide +kernel) rfl rfl <| z_bipush (pc' := 87) (n := 8) (by decide +kernel) (by decide) rfl <| z_iload_n (pc' := 88) (j := 2) (by decide +kernel) rfl rfl <| h.elim fun c1 h => z_callV (pc' := 91) (idx := 140) (mj := m_X12_put) (av := [iv t, iv 8, iv x]) (d' := 0) (by decide +kernel) rfl k_X12_put l_RX12_140 rfl (by omega) (am_le rfl) rfl (am_le rfl) hm.o.1 hm.o.2 rfl <| zKf (s_put hm c1 ⟨by decide, by decide, by decide⟩) <| have h := h _ rfl; z_aload_n (pc' := 92) (j := 0) (by decide +kernel) rfl rfl <| z_iload_n (pc' := 93) (j := 1) (by decide +kernel) rfl rfl <| z_bipush (pc' := 95) (n := 9) (by decide +kernel) (by decide) rfl <| z_iload_n (pc' := 96) (j := 3) (by decide +kernel) rfl rfl <| z_callV (pc' := 99) (idx := 140) (mj := m_X12_put) (av := [iv t, iv 9, iv y]) (d' := 0) (by decide +kernel) rfl k_X12_put l_RX12_140 rfl (by omega) (am_le rfl) rfl (am_le rfl) hm.o.1 hm.o.2 rfl <| zKf (s_put hm c1 ⟨by decide, by decide, by decide⟩) <| have h := h _ rfl; z_iload (pc' := 101) (j := 6) (by decide +kernel) rfl rfl <| z_ireturn (by decide +kernel) ⟨_, rfl, rfl⟩ h
set_option maxRecDepth 20000 in
theorem e_X12_guess {G : Gx} {Q : Rv → Zm → Prop} {Z : Zm} {m : Nat} {B : Nat} {t : Int} {x : Int} {y : Int} (hm : atModel Z m B) (h : ((R32 t) ∧ (R32 (zI Z B 0 - 1)) ∧ (0 ≤ t ∧ t < zI Z B 0 → (zIx t 20) ∧ (R32 x) ∧ (R32 (mG Z B t.toNat 0)) ∧ (1 ≤ x ∧ x ≤ (mG Z B t.toNat 0) → (R32 y) ∧ True) ∧ True) ∧ ∀ Z23, Z23 = zSI Z m (zu (zI Z m) 19 (fC (b2 (¬ (0 ≤ t ∧ t < zI Z B 0))) (b2 ((0 ≤ t ∧ t < zI Z B 0) ∧ (¬ (1 ≤ x ∧ x ≤ (mG Z B t.toNat 0)) ∨ (¬ ((mG Z B t.toNat 0) ≤ y ∧ y ≤ 60))))) 0)) → (if 0 < fC (b2 (¬ (0 ≤ t ∧ t < zI Z B 0))) (b2 ((0 ≤ t ∧ t < zI Z B 0) ∧ (¬ (1 ≤ x ∧ x ≤ (mG Z B t.toNat 0)) ∨ (¬ ((mG Z B t.toNat 0) ≤ y ∧ y ≤ 60))))) 0 then (Q (.inl (some (iv 0))) Z23) else (ZM G 11 m_X12_keeps [.ref m] Z23 (zKc G 12 m_X12_guess 74 [some (.ref m), some (iv t), some (iv x), some (iv y), none, none] [] Q))))) : ZM G 12 m_X12_guess [.ref m, iv t, iv x, iv y] Z Q := ZM.of [some (.ref m), some (iv t), some (iv x), some (iv y), none, none] rfl <| z_aload_n (pc' := 1) (j := 0) (by decide +kernel) rfl rfl <| z_iload_n (pc' := 2) (j := 1) (by decide +kernel) rfl rfl <| h.elim fun c1 h => h.elim fun c2 h => z_callV (pc' := 5) (idx := 151) (mj := m_X12_isTask) (av := [iv t]) (d' := 1) (by decide +kernel) rfl k_X12_isTask l_RX12_151 rfl (by omega) (am_le rfl) rfl (am_le rfl) hm.o.1 hm.o.2 rfl <| zKf (s_isTask hm c1 c2) <| z_istore (pc' := 7) (j := 4) (ls' := [some (.ref m), some (iv t), some (iv x), some (iv y), some (iv (b2 (0 ≤ t ∧ t < zI Z B 0))), none]) (by decide +kernel) (by decide) rfl rfl <| z_iload (pc' := 9) (j := 4) (by decide +kernel) rfl rfl <| h.elim fun g15 h => am_use (fun k17 => z_ifB_eq (pc' := 12) (tgt := 45) (off := 36) (by decide +kernel) (by decide) rfl (am_ite2 (fun q18 => have h := g15 q18; z_iload_n (pc' := 13) (j := 2) (by decide +kernel) rfl rfl <| z_iconst (pc' := 14) (n := 1) (by decide +kernel) rfl <| z_aload_n (pc' := 15) (j := 0) (by decide +kernel) rfl rfl <| z_iload_n (pc' := 16) (j := 1) (by decide +kernel) rfl rfl <| z_iconst (pc' := 17) (n := 0) (by decide +kernel) rfl <| h.elim fun c3 h => z_callV (pc' := 20) (idx := 83) (mj := m_X12_get) (av := [iv t, iv 0]) (d' := 0) (by decide +kernel) rfl k_X12_get l_RX12_83 rfl (by omega) (am_le rfl) rfl (am_le rfl) hm.o.1 hm.o.2 rfl <| zKf (s_get hm c3 ⟨by decide, by decide, by decide⟩) <| h.elim fun c4 h => h.elim fun c5 h => z_callS (pc' := 23) (idx := 68) (mj := m_X12_in) (av := [iv x, iv 1, iv (mG Z B t.toNat 0)]) (d' := 0) (by decide +kernel) rfl k_X12_in l_RX12_68 rfl (by omega) (am_le rfl) rfl (am_le rfl) rfl <| zKf (s_in c4 (by decide : R32 1) c5) <| h.elim fun g11 h => am_use (fun k13 => z_ifB_eq (pc' := 26) (tgt := 41) (off := 18) (by decide +kernel) (by decide) rfl (am_ite2 (fun q14 => have h := g11 q14; z_iload_n (pc' := 27) (j := 3) (by decide +kernel) rfl rfl <| z_aload_n (pc' := 28) (j := 0) (by decide +kernel) rfl rfl <| z_iload_n (pc' := 29) (j := 1) (by decide +kernel) rfl rfl <| z_iconst (pc' := 30) (n := 0) (by decide +kernel) rfl <| z_callV (pc' := 33) (idx := 83) (mj := m_X12_get) (av := [iv t, iv 0]) (d' := 0) (by decide +kernel) rfl k_X12_get l_RX12_83 rfl (by omega) (am_le rfl) rfl (am_le rfl) hm.o.1 hm.o.2 rfl <| zKf (s_get hm c3 ⟨by decide, by decide, by decide⟩) <| z_bipush (pc' := 35) (n := 60) (by decide +kernel) (by decide) rfl <| h.elim fun c6 h => z_callS (pc' := 38) (idx := 68) (mj := m_X12_in) (av := [iv y, iv (mG Z B t.toNat 0), iv 60]) (d' := 0) (by decide +kernel) rfl k_X12_in l_RX12_68 rfl (by omega) (am_le rfl) rfl (am_le rfl) rfl <| zKf (s_in c6 c5 (by decide : R32 60)) <| am_use (fun k9 => z_ifB_ne (pc' := 41) (tgt := 45) (off := 7) (by decide +kernel) (by decide) rfl (am_ite2 (fun q10 => z_iconst (pc' := 46) (n := 0) (by decide +kernel) rfl <| (am_jp (P := fun z9 => ZP G 12 m_X12_guess 46 [some (.ref m), some (iv t), some (iv x), some (iv y), some (iv (b2 (0 ≤ t ∧ t < zI Z B 0))), none] [iv z9] _ Q) (b2_n q10) k9)) (fun q10 => z_iconst (pc' := 42) (n := 1) (by decide +kernel) rfl <| z_goto (tgt := 46) (off := 4) (by decide +kernel) (by decide) <| (am_jp (P := fun z9 => ZP G 12 m_X12_guess 46 [some (.ref m), some (iv t), some (iv x), some (iv y), some (iv (b2 (0 ≤ t ∧ t < zI Z B 0))), none] [iv z9] _ Q) (b2_nn q10) k9)))) <| (am_jp (P := fun z9 => ZP G 12 m_X12_guess 46 [some (.ref m), some (iv t), some (iv x), some (iv y), some (iv (b2 (0 ≤ t ∧ t < zI Z B 0))), none] [iv z9] _ Q) (b2_d1 q14) k13)) (fun q14 => z_iconst (pc' := 42) (n := 1) (by decide +kernel) rfl <| z_goto (tgt := 46) (off := 4) (by decide +kernel) (by decide) <| (am_jp (P := fun z9 => ZP G 12 m_X12_guess 46 [some (.ref m), some (iv t), some (iv x), some (iv y), some (iv (b2 (0 ≤ t ∧ t < zI Z B 0))), none] [iv z9] _ Q) (b2_d2 q14) k13)))) <| (am_jp (P := fun z9 => ZP G 12 m_X12_guess 46 [some (.ref m), some (iv t), some (iv x), some (iv y), some (iv (b2 (0 ≤ t ∧ t < zI Z B 0))), none] [iv z9] _ Q) (b2_c1 q18) k17)) (fun q18 => z_iconst (pc' := 46) (n := 0) (by decide +kernel) rfl <| (am_jp (P := fun z9 => ZP G 12 m_X12_guess 46 [some (.ref m), some (iv t), some (iv x), some (iv y), some (iv (b2 (0 ≤ t ∧ t < zI Z B 0))), none] [iv z9] _ Q) (b2_c2 q18) k17)))) <| z_istore (pc' := 48) (j := 5) (ls' := [some (.ref m), some (iv t), some (iv x), some (iv y), some (iv (b2 (0 ≤ t ∧ t < zI Z B 0))), some (iv (b2 ((0 ≤ t ∧ t < zI Z B 0) ∧ (¬ (1 ≤ x ∧ x ≤ (mG Z B t.toNat 0)) ∨ (¬ ((mG Z B t.toNat 0) ≤ y ∧ y ≤ 60))))))]) (by decide +kernel) (by decide) rfl rfl <| z_aload_n (pc' := 49) (j := 0) (by decide +kernel) rfl rfl <| z_iload (pc' := 51) (j := 4) (by decide +kernel) rfl rfl <| am_use (fun k21 => z_ifB_ne (pc' := 54) (tgt := 58) (off := 7) (by decide +kernel) (by decide) rfl (am_ite2 (fun q22 => z_iconst (pc' := 59) (n := 0) (by decide +kernel) rfl <| (am_jp (P := fun z9 => ZP G 12 m_X12_guess 59 [some (.ref m), some (iv t), some (iv x), some (iv y), some (iv (b2 (0 ≤ t ∧ t < zI Z B 0))), some (iv (b2 ((0 ≤ t ∧ t < zI Z B 0) ∧ (¬ (1 ≤ x ∧ x ≤ (mG Z B t.toNat 0)) ∨ (¬ ((mG Z B t.toNat 0) ≤ y ∧ y ≤ 60))))))] [iv z9, .ref m] _ Q) (b2_n q22) k21)) (fun q22 => z_iconst (pc' := 55) (n := 1) (by decide +kernel) rfl <| z_goto (tgt := 59) (off := 4) (by decide +kernel) (by decide) <| (am_jp (P := fun z9 => ZP G 12 m_X12_guess 59 [some (.ref m), some (iv t), some (iv x), some (iv y), some (iv (b2 (0 ≤ t ∧ t < zI Z B 0))), some (iv (b2 ((0 ≤ t ∧ t < zI Z B 0) ∧ (¬ (1 ≤ x ∧ x ≤ (mG Z B t.toNat 0)) ∨ (¬ ((mG Z B t.toNat 0) ≤ y ∧ y ≤ 60))))))] [iv z9, .ref m] _ Q) (b2_nn q22) k21)))) <| z_iload (pc' := 61) (j := 5) (by decide +kernel) rfl rfl <| z_iconst (pc' := 62) (n := 0) (by decide +kernel) rfl <| z_callV (pc' := 65) (idx := 133) (mj := m_X12_fails) (av := [iv (b2 (¬ (0 ≤ t ∧ t < zI Z B 0))), iv (b2 ((0 ≤ t ∧ t < zI Z B 0) ∧ (¬ (1 ≤ x ∧ x ≤ (mG Z B t.toNat 0)) ∨ (¬ ((mG Z B t.toNat 0) ≤ y ∧ y ≤ 60))))), iv 0]) (d' := 0) (by decide +kernel) rfl k_X12_fails l_RX12_133 rfl (by omega) (am_le rfl) rfl (am_le rfl) hm.o.1 hm.o.2 rfl <| zKf (s_fails hm (b2_01 _) (b2_01 _) (Or.inl rfl)) <| have h := h _ rfl; z_ifB_eq (pc' := 68) (tgt := 70) (off := 5) (by decide +kernel) (by decide) rfl (am_ite h (fun h => z_iconst (pc' := 69) (n := 0) (by decide +kernel) rfl <| z_ireturn (by decide +kernel) ⟨_, rfl, rfl⟩ h) (fun h => z_aload_n (pc' := 71) (j := 0) (by decide +kernel) rfl rfl <| z_callV (pc' := 74) (idx := 137) (mj := m_X12_keeps) (av := []) (d' := 11) (by decide +kernel) rfl k_X12_keeps l_RX12_137 rfl (by omega) (am_le rfl) rfl (am_le rfl) hm.o.1 hm.o.2 rfl (ZM.mono h (zKc_wk (wk_some (wk_some (wk_some (wk_some (wk_none (wk_none wk_nil))))))))))
set_option maxRecDepth 20000 in
theorem b_X12_guess_74 {G : Gx} {Q : Rv → Zm → Prop} {Z : Zm} {m : Nat} {B : Nat} {t : Int} {x : Int} {y : Int}  (hm : atModel Z m B) (h : ((zIx t 20) ∧ ∀ Z2, Z2 = zSI Z B (zu (zI Z B) (2 + 13 * t.toNat + 10) 1) → ∀ Z3, Z3 = zSI Z2 B (zu (zI Z2 B) (2 + 13 * t.toNat + 11) x) → ∀ Z4, Z4 = zSI Z3 B (zu (zI Z3 B) (2 + 13 * t.toNat + 12) y) → ZM G 11 m_X12_guessed [.ref m] Z4 (zKc G 12 m_X12_guess 102 [none, none, none, none, none, none] [] Q))) : ZP G 12 m_X12_guess 74 [some (.ref m), some (iv t), some (iv x), some (iv y), none, none] [] Z Q := z_aload_n (pc' := 75) (j := 0) (by decide +kernel) rfl rfl <| z_iload_n (pc' := 76) (j := 1) (by decide +kernel) rfl rfl <| z_bipush (pc' := 78) (n := 10) (by decide +kernel) (by decide) rfl <| z_iconst (pc' := 79) (n := 1) (by decide +kernel) rfl <| h.elim fun c1 h => z_callV (pc' := 82) (idx := 140) (mj := m_X12_put) (av := [iv t, iv 10, iv 1]) (d' := 0) (by decide +kernel) rfl k_X12_put l_RX12_140 rfl (by omega) (am_le rfl) rfl (am_le rfl) hm.o.1 hm.o.2 rfl <| zKf (s_put hm c1 ⟨by decide, by decide, by decide⟩) <| have h := h _ rfl; z_aload_n (pc' := 83) (j := 0) (by decide +kernel) rfl rfl <| z_iload_n (pc' := 84) (j := 1) (by decide +kernel) rfl rfl <| z_bipush (pc' := 86) (n := 11) (by decide +kernel) (by decide) rfl <| z_iload_n (pc' := 87) (j := 2) (by decide +kernel) rfl rfl <| z_callV (pc' := 90) (idx := 140) (mj := m_X12_put) (av := [iv t, iv 11, iv x]) (d' := 0) (by decide +kernel) rfl k_X12_put l_RX12_140 rfl (by omega) (am_le rfl) rfl (am_le rfl) hm.o.1 hm.o.2 rfl <| zKf (s_put hm c1 ⟨by decide, by decide, by decide⟩) <| have h := h _ rfl; z_aload_n (pc' := 91) (j := 0) (by decide +kernel) rfl rfl <| z_iload_n (pc' := 92) (j := 1) (by decide +kernel) rfl rfl <| z_bipush (pc' := 94) (n := 12) (by decide +kernel) (by decide) rfl <| z_iload_n (pc' := 95) (j := 3) (by decide +kernel) rfl rfl <| z_callV (pc' := 98) (idx := 140) (mj := m_X12_put) (av := [iv t, iv 12, iv y]) (d' := 0) (by decide +kernel) rfl k_X12_put l_RX12_140 rfl (by omega) (am_le rfl) rfl (am_le rfl) hm.o.1 hm.o.2 rfl <| zKf (s_put hm c1 ⟨by decide, by decide, by decide⟩) <| have h := h _ rfl; z_aload_n (pc' := 99) (j := 0) (by decide +kernel) rfl rfl <| z_callV (pc' := 102) (idx := 344) (mj := m_X12_guessed) (av := []) (d' := 11) (by decide +kernel) rfl k_X12_guessed l_RX12_344 rfl (by omega) (am_le rfl) rfl (am_le rfl) hm.o.1 hm.o.2 rfl (ZM.mono h (zKc_wk (wk_none (wk_none (wk_none (wk_none (wk_none (wk_none wk_nil))))))))
set_option maxRecDepth 20000 in
theorem b_X12_guess_102 {G : Gx} {Q : Rv → Zm → Prop} {Z : Zm} {m : Nat} {B : Nat} {s0 : Int} (hm : atModel Z m B) (h : (Q (.inl (some (iv s0))) Z)) : ZP G 12 m_X12_guess 102 [none, none, none, none, none, none] [iv s0] Z Q := z_ireturn (by decide +kernel) ⟨_, rfl, rfl⟩ h
set_option maxRecDepth 20000 in
theorem e_X12_guessed {G : Gx} {Q : Rv → Zm → Prop} {Z : Zm} {m : Nat} {B : Nat} (hm : atModel Z m B) (h : (ZP G 1 m_X12_guessed 4 [some (.ref m), some (iv 0), some (iv 0)] [] Z Q)) : ZM G 1 m_X12_guessed [.ref m] Z Q := ZM.of [some (.ref m), none, none] rfl <| z_iconst (pc' := 1) (n := 0) (by decide +kernel) rfl <| z_istore_n (pc' := 2) (j := 1) (ls' := [some (.ref m), some (iv 0), none]) (by decide +kernel) (by decide) rfl rfl <| z_iconst (pc' := 3) (n := 0) (by decide +kernel) rfl <| z_istore_n (pc' := 4) (j := 2) (ls' := [some (.ref m), some (iv 0), some (iv 0)]) (by decide +kernel) (by decide) rfl rfl <| h
set_option maxRecDepth 20000 in
theorem b_X12_guessed_4 {G : Gx} {Q : Rv → Zm → Prop} {Z : Zm} {m : Nat} {B : Nat} {v1 : Int} {v2 : Int} (hm : atModel Z m B) (h : ((R32 v2) ∧ (R32 (zI Z B 0)) ∧ (if (zI Z B 0) ≤ v2 then (Q (.inl (some (iv v1))) Z) else ((zIx v2 20) ∧ ZP G 1 m_X12_guessed 4 [some (.ref m), some (iv (v1 + (mG Z B v2.toNat 10))), some (iv (v2 + 1))] [] Z Q)))) : ZP G 1 m_X12_guessed 4 [some (.ref m), some (iv v1), some (iv v2)] [] Z Q := z_iload_n (pc' := 5) (j := 2) (by decide +kernel) rfl rfl <| z_aload_n (pc' := 6) (j := 0) (by decide +kernel) rfl rfl <| z_callV (pc' := 9) (idx := 64) (mj := m_X12_many) (av := []) (d' := 0) (by decide +kernel) rfl k_X12_many l_RX12_64 rfl (by omega) (am_le rfl) rfl (am_le rfl) hm.o.1 hm.o.2 rfl <| zKf (s_many hm) <| h.elim fun c1 h => h.elim fun c2 h => z_icmp_ge (pc' := 12) (tgt := 28) (off := 19) (by decide +kernel) (by decide) rfl c1 c2 (am_ite h (fun h => z_iload_n (pc' := 29) (j := 1) (by decide +kernel) rfl rfl <| z_ireturn (by decide +kernel) ⟨_, rfl, rfl⟩ h) (fun h => z_iload_n (pc' := 13) (j := 1) (by decide +kernel) rfl rfl <| z_aload_n (pc' := 14) (j := 0) (by decide +kernel) rfl rfl <| z_iload_n (pc' := 15) (j := 2) (by decide +kernel) rfl rfl <| z_bipush (pc' := 17) (n := 10) (by decide +kernel) (by decide) rfl <| h.elim fun c4 h => z_callV (pc' := 20) (idx := 83) (mj := m_X12_get) (av := [iv v2, iv 10]) (d' := 0) (by decide +kernel) rfl k_X12_get l_RX12_83 rfl (by omega) (am_le rfl) rfl (am_le rfl) hm.o.1 hm.o.2 rfl <| zKf (s_get hm c4 ⟨by decide, by decide, by decide⟩) <| z_iadd (pc' := 21) (by decide +kernel) rfl <| z_istore_n (pc' := 22) (j := 1) (ls' := [some (.ref m), some (iv (v1 + (mG Z B v2.toNat 10))), some (iv v2)]) (by decide +kernel) (by decide) rfl rfl <| z_iinc (pc' := 25) (j := 2) (n := 1) (x := v2) (ls' := [some (.ref m), some (iv (v1 + (mG Z B v2.toNat 10))), some (iv (v2 + 1))]) (by decide +kernel) rfl (by decide) rfl rfl <| z_goto (tgt := 4) (off := -21) (by decide +kernel) (by decide) <| h))
/-! ===== shorten and guess ===== -/
def kSh (k : Bk) (r t : Nat) (x y : Int) : Bk := kSet (kSet k r t x) (r + 1) t y
theorem kSh_f (k : Bk) (r t : Nat) (x y : Int) (i j : Nat) : kF (kSh k r t x y) i j = if i = r + 1 ∧ j = t then y else if i = r ∧ j = t then x else kF k i j := rfl
theorem kSh_o {k : Bk} {r t : Nat} {x y : Int} {i j : Nat} (h : (i ≠ r ∧ i ≠ r + 1) ∨ j ≠ t) : kF (kSh k r t x y) i j = kF k i j := by rw [kSh_f, if_neg (by omega), if_neg (by omega)]
theorem kSh_1 (k : Bk) (r t : Nat) (x y : Int) : kF (kSh k r t x y) r t = x := by rw [kSh_f, if_neg (by omega), if_pos ⟨rfl, rfl⟩]
theorem kSh_2 (k : Bk) (r t : Nat) (x y : Int) : kF (kSh k r t x y) (r + 1) t = y := by rw [kSh_f, if_pos ⟨rfl, rfl⟩]
theorem kSh8_ok {k : Bk} {t : Nat} {x y : Int} (ho : kOk k) (hx : 0 ≤ x ∧ x ≤ 5 ∧ x < kF k 0 t) (hy : 0 ≤ y ∧ y ≤ 99) : kOk (kSh k 8 t x y) := by
  obtain ⟨h1, h2, h3⟩ := ho
  refine ⟨h1, fun s hs => ?_, h3⟩
  have g := h2 s hs
  rw [kSh_o (i := 0) (by omega), kSh_o (i := 1) (by omega), kSh_o (i := 2) (by omega), kSh_o (i := 3) (by omega), kSh_o (i := 4) (by omega), kSh_o (i := 5) (by omega), kSh_o (i := 6) (by omega), kSh_o (i := 7) (by omega), kSh_o (i := 10) (by omega), kSh_o (i := 11) (by omega)]
  by_cases c : s = t
  · rw [c] at g ⊢
    rw [kSh_1, kSh_2 k 8 t x y]
    omega
  · rw [kSh_o (i := 8) (Or.inr c), kSh_o (i := 9) (Or.inr c)]
    exact g
theorem kSh10_ok {k : Bk} {t : Nat} {x y : Int} (ho : kOk k) (hx : 1 ≤ x ∧ x ≤ kF k 0 t) (hy : kF k 0 t ≤ y ∧ y ≤ 60) : kOk (kSh k 10 t x y) := by
  obtain ⟨h1, h2, h3⟩ := ho
  refine ⟨h1, fun s hs => ?_, h3⟩
  have g := h2 s hs
  rw [kSh_o (i := 0) (by omega), kSh_o (i := 1) (by omega), kSh_o (i := 2) (by omega), kSh_o (i := 3) (by omega), kSh_o (i := 4) (by omega), kSh_o (i := 5) (by omega), kSh_o (i := 6) (by omega), kSh_o (i := 7) (by omega), kSh_o (i := 8) (by omega), kSh_o (i := 9) (by omega)]
  by_cases c : s = t
  · rw [c] at g ⊢
    rw [kSh_1, kSh_2 k 10 t x y]
    omega
  · rw [kSh_o (i := 10) (Or.inr c), kSh_o (i := 11) (Or.inr c)]
    exact g
theorem rowM.sh8 {f : Nat → Int} {k : Bk} {t : Nat} {x y : Int} (h : rowM f k) (hn : kN k ≤ 20) (ht : t < kN k) : rowM (zu (zu f (2 + 13 * t + 8) x) (2 + 13 * t + 9) y) (kSh k 8 t x y) := by
  obtain ⟨a1, a2, a3, a4⟩ := h
  have o : ∀ i, i ≠ 2 + 13 * t + 8 → i ≠ 2 + 13 * t + 9 → zu (zu f (2 + 13 * t + 8) x) (2 + 13 * t + 9) y i = f i := fun i g1 g2 => by rw [zu_other g2, zu_other g1]
  refine ⟨by rw [o _ (by omega) (by omega)]; exact a1, by rw [o _ (by omega) (by omega)]; exact a2, fun s hs => ?_, fun j hj => ?_⟩
  · obtain ⟨b1, b2', b3, b4⟩ := a3 s hs
    rw [o _ (by omega) (by omega), o _ (by omega) (by omega), o _ (by omega) (by omega), kSh_o (i := 10) (by omega), kSh_o (i := 11) (by omega)]
    refine ⟨fun i hi => ?_, b2', b3, b4⟩
    by_cases c : s = t
    · rw [c] at b1 ⊢
      by_cases d : i = 9
      · rw [d, zu_same]
        exact (kSh_2 k 8 t x y).symm
      · rw [zu_other (by omega)]
        by_cases e : i = 8
        · rw [e, zu_same]
          exact (kSh_1 k 8 t x y).symm
        · rw [zu_other (by omega), kSh_o (by omega)]
          exact b1 i hi
    · rw [o _ (by omega) (by omega), kSh_o (Or.inr c)]
      exact b1 i hi
  · rw [o _ (by omega) (by omega), o _ (by omega) (by omega), o _ (by omega) (by omega)]
    exact a4 j hj
theorem rowM.sh10 {f : Nat → Int} {k : Bk} {t : Nat} {x y : Int} (h : rowM f k) (hn : kN k ≤ 20) (ht : t < kN k) (hx : 0 < x) : rowM (zu (zu (zu f (2 + 13 * t + 10) 1) (2 + 13 * t + 11) x) (2 + 13 * t + 12) y) (kSh k 10 t x y) := by
  obtain ⟨a1, a2, a3, a4⟩ := h
  have o : ∀ i, i ≠ 2 + 13 * t + 10 → i ≠ 2 + 13 * t + 11 → i ≠ 2 + 13 * t + 12 → zu (zu (zu f (2 + 13 * t + 10) 1) (2 + 13 * t + 11) x) (2 + 13 * t + 12) y i = f i := fun i g1 g2 g3 => by rw [zu_other g3, zu_other g2, zu_other g1]
  refine ⟨by rw [o _ (by omega) (by omega) (by omega)]; exact a1, by rw [o _ (by omega) (by omega) (by omega)]; exact a2, fun s hs => ?_, fun j hj => ?_⟩
  · obtain ⟨b1, b2', b3, b4⟩ := a3 s hs
    refine ⟨fun i hi => ?_, ?_⟩
    · rw [o _ (by omega) (by omega) (by omega), kSh_o (by omega)]
      exact b1 i hi
    by_cases c : s = t
    · rw [c]
      rw [zu_other (by omega), zu_other (by omega), zu_same, zu_other (by omega), zu_same, zu_same, kSh_1, kSh_2 k 10 t x y, b2_p hx]
      exact ⟨rfl, rfl, rfl⟩
    · rw [o _ (by omega) (by omega) (by omega), o _ (by omega) (by omega) (by omega), o _ (by omega) (by omega) (by omega), kSh_o (Or.inr c), kSh_o (Or.inr c)]
      exact ⟨b2', b3, b4⟩
  · rw [o _ (by omega) (by omega) (by omega), o _ (by omega) (by omega) (by omega), o _ (by omega) (by omega) (by omega)]
    exact a4 j hj
def gsN (k : Bk) : Int := zsum (fun t => b2 (0 < kF k 10 t)) (kN k)
noncomputable def o_shorten (σ : St) (t x y : Int) : Ou := cIf (0 ≤ t ∧ t < kN (sK σ)) (cIf ((0 ≤ x ∧ x ≤ 5 ∧ x < kF (sK σ) 0 t.toNat) ∧ 0 ≤ y ∧ y ≤ 99) (0, kF (sK σ) 8 t.toNat, stK (stKeep σ) (kSh (sK σ) 8 t.toNat x y)) (2, 0, σ)) (1, 0, σ)
noncomputable def o_guess (σ : St) (t x y : Int) : Ou := cIf (0 ≤ t ∧ t < kN (sK σ)) (cIf ((1 ≤ x ∧ x ≤ kF (sK σ) 0 t.toNat) ∧ kF (sK σ) 0 t.toNat ≤ y ∧ y ≤ 60) (0, gsN (kSh (sK σ) 10 t.toNat x y), stK (stKeep σ) (kSh (sK σ) 10 t.toNat x y)) (2, 0, σ)) (1, 0, σ)
theorem c_shorten {G : Gx} {Z : Zm} {σ : St} {t x y : Int} (h : IC Z σ) (ho : okS σ) (hz : zSz Z < 1000000) (ht : R32 t) (hx : R32 x) (hy : R32 y) : ZM G 12 m_X11_shorten [.ref 0, iv t, iv x, iv y] Z (rC Z (E3 eN eA "") iv (o_shorten σ t x y)) := by
  have hn := ho.1.n
  refine e_X11_shorten h.1 ⟨ht, ?_⟩
  rw [h.2.1.1]
  refine ⟨by omega, hz, ?_⟩
  unfold o_shorten
  by_cases c1 : 0 ≤ t ∧ t < (kN (sK σ) : Int)
  case neg =>
    rw [if_neg c1, cIf_f c1]
    exact rC.no h (by decide) rfl
  rw [if_pos c1, cIf_p c1]
  have lt := ho.1.len (t := t.toNat) (by omega)
  have el : zI Z 3 t.toNat = kF (sK σ) 0 t.toNat := h.2.1.len t.toNat (by omega)
  rw [el]
  refine ⟨hx, ?_⟩
  by_cases c2 : x < 0
  · rw [if_pos c2, cIf_f (by omega)]
    exact rC.no h (by decide) rfl
  rw [if_neg c2]
  by_cases c3 : 5 < x
  · rw [if_pos c3, cIf_f (by omega)]
    exact rC.no h (by decide) rfl
  rw [if_neg c3]
  refine ⟨⟨c1.1, by omega, by decide⟩, by omega, ?_⟩
  by_cases c4 : x < kF (sK σ) 0 t.toNat
  case neg =>
    rw [if_neg c4, cIf_f (by omega)]
    exact rC.no h (by decide) rfl
  rw [if_pos c4]
  refine ⟨hy, ?_⟩
  by_cases c5 : y < 0
  · rw [if_pos c5, cIf_f (by omega)]
    exact rC.no h (by decide) rfl
  rw [if_neg c5]
  by_cases c6 : y ≤ 99
  case neg =>
    rw [if_neg c6, cIf_f (by omega)]
    exact rC.no h (by decide) rfl
  rw [if_pos c6, cIf_p (by omega)]
  refine ((s_keepBook h ho).deeper (by omega)).mono ?_
  rintro r W ⟨rfl, f, n, hw⟩
  refine b_X11_shorten_65 hw.1 ⟨⟨c1.1, by omega, by decide⟩, ?_⟩
  rintro _ rfl
  rintro _ rfl
  have fw : zF (zBk 1) 0 0 W (zSI (zSI W 11 (zu (zI W 11) t.toNat x)) 12 (zu (zI (zSI W 11 (zu (zI W 11) t.toNat x)) 12) t.toNat y)) := (zF_I ⟨by omega, by omega⟩).trans (zF_I ⟨by omega, by omega⟩)
  have st : cB (zSI (zSI W 11 (zu (zI W 11) t.toNat x)) 12 (zu (zI (zSI W 11 (zu (zI W 11) t.toNat x)) 12) t.toNat y)) 1 (kSh (sK σ) 8 t.toNat x y) := (hw.2.1.set (r := 8) (by omega)).set (r := 9) (by omega)
  refine rC.ok (hw.keep2 n fw st) ((f.trans (fw.mono (fun a g => by unfold zBk zB at g; show a < 300; omega) (Nat.le_refl _) (Nat.le_refl _))).mono (fun _ g => g) (by omega) (by omega)) ?_
  exact hw.2.1.2.2.1 8 t.toNat (by omega) (by show t.toNat < kN (sK σ); omega)
theorem c_guess {G : Gx} {Z : Zm} {σ : St} {t x y : Int} (h : IC Z σ) (ho : okS σ) (hz : zSz Z < 1000000) (ht : R32 t) (hx : R32 x) (hy : R32 y) : ZM G 12 m_X11_guess [.ref 0, iv t, iv x, iv y] Z (rC Z (E3 eN eA "") iv (o_guess σ t x y)) := by
  have hn := ho.1.n
  refine e_X11_guess h.1 ⟨ht, ?_⟩
  rw [h.2.1.1]
  refine ⟨by omega, hz, ?_⟩
  unfold o_guess
  by_cases c1 : 0 ≤ t ∧ t < (kN (sK σ) : Int)
  case neg =>
    rw [if_neg c1, cIf_f c1]
    exact rC.no h (by decide) rfl
  rw [if_pos c1, cIf_p c1]
  have lt := ho.1.len (t := t.toNat) (by omega)
  have el : zI Z 3 t.toNat = kF (sK σ) 0 t.toNat := h.2.1.len t.toNat (by omega)
  rw [el]
  refine ⟨⟨c1.1, by omega, by decide⟩, hx, ?_⟩
  by_cases c2 : x < 1
  · rw [if_pos c2, cIf_f (by omega)]
    exact rC.no h (by decide) rfl
  rw [if_neg c2]
  refine ⟨by omega, ?_⟩
  by_cases c3 : kF (sK σ) 0 t.toNat < x
  · rw [if_pos c3, cIf_f (by omega)]
    exact rC.no h (by decide) rfl
  rw [if_neg c3]
  refine ⟨hy, ?_⟩
  by_cases c4 : y < kF (sK σ) 0 t.toNat
  · rw [if_pos c4, cIf_f (by omega)]
    exact rC.no h (by decide) rfl
  rw [if_neg c4]
  by_cases c6 : y ≤ 60
  case neg =>
    rw [if_neg c6, cIf_f (by omega)]
    exact rC.no h (by decide) rfl
  rw [if_pos c6, cIf_p (by omega)]
  refine ((s_keepBook h ho).deeper (by omega)).mono ?_
  rintro r W ⟨rfl, f, n, hw⟩
  refine b_X11_guess_56 hw.1 ⟨⟨c1.1, by omega, by decide⟩, ?_⟩
  rintro _ rfl
  rintro _ rfl
  have fw : zF (zBk 1) 0 0 W (zSI (zSI W 13 (zu (zI W 13) t.toNat x)) 14 (zu (zI (zSI W 13 (zu (zI W 13) t.toNat x)) 14) t.toNat y)) := (zF_I ⟨by omega, by omega⟩).trans (zF_I ⟨by omega, by omega⟩)
  have st : cB (zSI (zSI W 13 (zu (zI W 13) t.toNat x)) 14 (zu (zI (zSI W 13 (zu (zI W 13) t.toNat x)) 14) t.toNat y)) 1 (kSh (sK σ) 10 t.toNat x y) := (hw.2.1.set (r := 10) (by omega)).set (r := 11) (by omega)
  have h2 := hw.keep2 n fw st
  have ok : kOk (kSh (sK σ) 10 t.toNat x y) := kSh10_ok ho.1 (by omega) (by omega)
  refine ((s_countGuessed h2.1.bk st ok).deeper (by omega)).mono ?_
  rintro r V ⟨rfl, hV⟩
  obtain rfl := hV.symm
  exact b_X11_guess_89 h2.1 (rC.ok h2 ((f.trans (fw.mono (fun a g => by unfold zBk zB at g; show a < 300; omega) (Nat.le_refl _) (Nat.le_refl _))).mono (fun _ g => g) (by omega) (by omega)) rfl)
theorem d_shorten {G : Gx} {Z : Zm} {B : Nat} {σ : St} {t x y : Int} (h : IMb Z B σ) (ho : okS σ) (hz : 322 ≤ zSz Z ∧ zSz Z < 1000000) (ht : R32 t) (hx : R32 x) (hy : R32 y) : ZM G 12 m_X12_shorten [.ref 300, iv t, iv x, iv y] Z (rM Z iv (o_shorten σ t x y)) := by
  have hn := ho.1.n
  obtain ⟨hB1, hB2, hB3⟩ := h.big hz.1
  have hk : cM Z B (sK σ) := h.2.2.1
  have h0 := hk.1
  have e0 : 0 ≤ t ∧ t < (kN (sK σ) : Int) → mG Z B t.toNat 0 = kF (sK σ) 0 t.toNat := fun q => hk.f (t := t.toNat) (by omega) (by omega)
  refine e_X12_shorten h.1 ⟨ht, by omega, fun q => ⟨hx, fun q2 => ⟨⟨by omega, by omega, by decide⟩, ?_, fun _ => ⟨hy, trivial⟩, trivial⟩, trivial⟩, ?_⟩
  · rw [e0 (by omega)]
    have := ho.1.len (t := t.toNat) (by omega)
    omega
  intro Y eY
  rw [h0] at eY ⊢
  unfold o_shorten
  by_cases c1 : 0 ≤ t ∧ t < (kN (sK σ) : Int)
  case neg =>
    rw [fC_1 (P := ¬ (0 ≤ t ∧ t < (kN (sK σ) : Int))) c1] at eY ⊢
    rw [cIf_f c1, if_pos (by decide), eY]
    exact rM.no h (by decide) rfl
  rw [cIf_p c1]
  rw [e0 c1] at eY ⊢
  by_cases c2 : (0 ≤ x ∧ x ≤ 5 ∧ x < kF (sK σ) 0 t.toNat) ∧ 0 ≤ y ∧ y ≤ 99
  case neg =>
    rw [fC_2 (P := ¬ (0 ≤ t ∧ t < (kN (sK σ) : Int))) (Q := (0 ≤ t ∧ t < (kN (sK σ) : Int)) ∧ (¬ (0 ≤ x ∧ x ≤ 5) ∨ ((kF (sK σ) 0 t.toNat ≤ x) ∨ (¬ (0 ≤ y ∧ y ≤ 99))))) (fun q => q c1) (by omega)] at eY ⊢
    rw [cIf_f c2, if_pos (by decide), eY]
    exact rM.no h (by decide) rfl
  rw [fC_o2 (P := ¬ (0 ≤ t ∧ t < (kN (sK σ) : Int))) (Q := (0 ≤ t ∧ t < (kN (sK σ) : Int)) ∧ (¬ (0 ≤ x ∧ x ≤ 5) ∨ ((kF (sK σ) 0 t.toNat ≤ x) ∨ (¬ (0 ≤ y ∧ y ≤ 99))))) (fun q => q c1) (by omega)] at eY ⊢
  rw [cIf_p c2, if_neg (by decide)]
  have eY : Y = zT Z 0 := eY
  subst eY
  refine ⟨⟨c1.1, by omega, by decide⟩, ((s_keeps (h.t 0) ho hz).deeper (by omega)).mono ?_⟩
  rintro r V ⟨rfl, hv, v, htt⟩
  rw [zI_t] at htt
  have hzV : 322 ≤ zSz V := Nat.le_trans hz.1 v.1.1
  obtain ⟨hV1, -, -⟩ := hv.big hzV
  have hkV : cM V B (sK σ) := hv.2.2.1
  refine b_X12_shorten_83 hv.1 ⟨⟨c1.1, by omega, by decide⟩, ?_⟩
  rintro _ rfl
  rintro _ rfl
  rw [zI_same, zSI_zSI]
  refine rM.ok (hv.book ho hzV (hkV.row.sh8 hn (by omega))) ?_ ((zV_t.trans v).trans (zV_I (by omega))) (by omega) (by omega) ?_
  · rw [zI_other (Ne.symm hV1)]
    exact htt
  · unfold mG
    rw [zI_other hB1]
    exact hk.f (t := t.toNat) (r := 8) (by omega) (by omega)
theorem s_guessed {G : Gx} {Z : Zm} {B : Nat} {k : Bk} (hm : atModel Z 300 B) (hk : cM Z B k) (ho : kOk k) : ZM G 1 m_X12_guessed [.ref 300] Z (fun r W => r = .inl (some (iv (gsN k))) ∧ W = Z) := by
  have hN := ho.n
  refine e_X12_guessed hm ?_
  suffices key : ∀ j, j ≤ kN k → ZP G 1 m_X12_guessed 4 [some (.ref 300), some (iv (zsum (fun t => b2 (0 < kF k 10 t)) j)), some (iv (j : Int))] [] Z (fun r W => r = .inl (some (iv (gsN k))) ∧ W = Z) from key 0 (Nat.zero_le _)
  refine am_up (n := kN k) fun j hj ih => ?_
  refine b_X12_guessed_4 hm ⟨by omega, by rw [hk.1]; omega, ?_⟩
  rw [hk.1]
  by_cases c : j < kN k
  · rw [if_neg (by omega), Int.toNat_natCast, (hk.2.2.1 j c).2.1]
    exact ⟨zIx_nat (by omega) (by omega), ih c⟩
  · rw [if_pos (by omega), show j = kN k by omega]
    exact ⟨rfl, rfl⟩
theorem d_guess {G : Gx} {Z : Zm} {B : Nat} {σ : St} {t x y : Int} (h : IMb Z B σ) (ho : okS σ) (hz : 322 ≤ zSz Z ∧ zSz Z < 1000000) (ht : R32 t) (hx : R32 x) (hy : R32 y) : ZM G 12 m_X12_guess [.ref 300, iv t, iv x, iv y] Z (rM Z iv (o_guess σ t x y)) := by
  have hn := ho.1.n
  obtain ⟨hB1, hB2, hB3⟩ := h.big hz.1
  have hk : cM Z B (sK σ) := h.2.2.1
  have h0 := hk.1
  have e0 : 0 ≤ t ∧ t < (kN (sK σ) : Int) → mG Z B t.toNat 0 = kF (sK σ) 0 t.toNat := fun q => hk.f (t := t.toNat) (by omega) (by omega)
  refine e_X12_guess h.1 ⟨ht, by omega, fun q => ⟨⟨by omega, by omega, by decide⟩, hx, ?_, fun _ => ⟨hy, trivial⟩, trivial⟩, ?_⟩
  · rw [e0 (by omega)]
    have := ho.1.len (t := t.toNat) (by omega)
    omega
  intro Y eY
  rw [h0] at eY ⊢
  unfold o_guess
  by_cases c1 : 0 ≤ t ∧ t < (kN (sK σ) : Int)
  case neg =>
    rw [fC_1 (P := ¬ (0 ≤ t ∧ t < (kN (sK σ) : Int))) c1] at eY ⊢
    rw [cIf_f c1, if_pos (by decide), eY]
    exact rM.no h (by decide) rfl
  rw [cIf_p c1]
  rw [e0 c1] at eY ⊢
  by_cases c2 : (1 ≤ x ∧ x ≤ kF (sK σ) 0 t.toNat) ∧ kF (sK σ) 0 t.toNat ≤ y ∧ y ≤ 60
  case neg =>
    rw [fC_2 (P := ¬ (0 ≤ t ∧ t < (kN (sK σ) : Int))) (Q := (0 ≤ t ∧ t < (kN (sK σ) : Int)) ∧ (¬ (1 ≤ x ∧ x ≤ kF (sK σ) 0 t.toNat) ∨ (¬ (kF (sK σ) 0 t.toNat ≤ y ∧ y ≤ 60)))) (fun q => q c1) (by omega)] at eY ⊢
    rw [cIf_f c2, if_pos (by decide), eY]
    exact rM.no h (by decide) rfl
  rw [fC_o2 (P := ¬ (0 ≤ t ∧ t < (kN (sK σ) : Int))) (Q := (0 ≤ t ∧ t < (kN (sK σ) : Int)) ∧ (¬ (1 ≤ x ∧ x ≤ kF (sK σ) 0 t.toNat) ∨ (¬ (kF (sK σ) 0 t.toNat ≤ y ∧ y ≤ 60)))) (fun q => q c1) (by omega)] at eY ⊢
  rw [cIf_p c2, if_neg (by decide)]
  have eY : Y = zT Z 0 := eY
  subst eY
  refine ((s_keeps (h.t 0) ho hz).deeper (by omega)).mono ?_
  rintro r V ⟨rfl, hv, v, htt⟩
  rw [zI_t] at htt
  have hzV : 322 ≤ zSz V := Nat.le_trans hz.1 v.1.1
  obtain ⟨hV1, -, -⟩ := hv.big hzV
  have hkV : cM V B (sK σ) := hv.2.2.1
  refine b_X12_guess_74 hv.1 ⟨⟨c1.1, by omega, by decide⟩, ?_⟩
  rintro _ rfl
  rintro _ rfl
  rintro _ rfl
  rw [zI_same, zSI_zSI, zI_same, zSI_zSI]
  have h2 := hv.book ho hzV (hkV.row.sh10 hn (t := t.toNat) (x := x) (y := y) (by omega) (by omega))
  have ok : kOk (kSh (sK σ) 10 t.toNat x y) := kSh10_ok ho.1 (by omega) (by omega)
  refine ((s_guessed h2.1 h2.2.2.1 ok).deeper (by omega)).mono ?_
  rintro r U ⟨rfl, hU⟩
  obtain rfl := hU.symm
  refine b_X12_guess_102 h2.1 (rM.ok h2 ?_ ((zV_t.trans v).trans (zV_I (by omega))) (by omega) (by omega) rfl)
  rw [zI_other (Ne.symm hV1)]
  exact htt
