set_option maxRecDepth 20000 in
theorem e_X11_task {G : Gx} {Q : Rv → Zm → Prop} {Z : Zm} {x : Int} (hx : atAll Z) (h : ((R32 x) ∧ (if x < 1 then ((zSz Z < 1000000) ∧ Q (.inr "java/lang/IllegalArgumentException") (zC Z 13 0 6)) else ((if x ≤ 60 then ((R32 (zI Z 1 3)) ∧ (if (zI Z 1 3) < 20 then (ZM G 11 m_X11_keepBook [.ref 0] Z (zKc G 12 m_X11_task 47 [some (.ref 0), some (iv x)] [] Q)) else ((zSz Z < 1000000) ∧ Q (.inr "java/lang/IllegalStateException") (zC Z 14 0 6)))) else ((zSz Z < 1000000) ∧ Q (.inr "java/lang/IllegalArgumentException") (zC Z 13 0 6))))))) : ZM G 12 m_X11_task [.ref 0, iv x] Z Q := ZM.of [some (.ref 0), some (iv x)] rfl <| z_iload_n (pc' := 1) (j := 1) (by decide +kernel) rfl rfl <| z_iconst (pc' := 2) (n := 1) (by decide +kernel) rfl <| h.elim fun c1 h => z_icmp_lt (pc' := 5) (tgt := 11) (off := 9) (by decide +kernel) (by decide) rfl c1 (by decide : R32 1) (am_ite h (fun h => h.elim fun c2 h => z_throw (is := 112) (text := "the length is out of range") th_IllegalArgumentException (amT4 (i := 55) rfl) rfl (by decide +kernel) (by decide +kernel) (Or.inl ⟨(by decide +kernel), (by decide +kernel), (by decide +kernel)⟩) (by omega) (am_le rfl) c2 h) (fun h => z_iload_n (pc' := 6) (j := 1) (by decide +kernel) rfl rfl <| z_bipush (pc' := 8) (n := 60) (by decide +kernel) (by decide) rfl <| z_icmp_le (pc' := 11) (tgt := 21) (off := 13) (by decide +kernel) (by decide) rfl c1 (by decide : R32 60) (am_ite h (fun h => z_aload_n (pc' := 22) (j := 0) (by decide +kernel) rfl rfl <| z_getR (pc' := 25) (idx := 10) (ci := 11) (f := 0) (by decide +kernel) f_RX11_10 rfl hx.o.1 hx.o.2 hx.r0 rfl <| z_getI (pc' := 28) (idx := 117) (ci := 0) (f := 3) (by decide +kernel) f_RX11_117 rfl hx.bk.o.1 hx.bk.o.2 rfl <| z_bipush (pc' := 30) (n := 20) (by decide +kernel) (by decide) rfl <| h.elim fun c3 h => z_icmp_lt (pc' := 33) (tgt := 43) (off := 13) (by decide +kernel) (by decide) rfl c3 (by decide : R32 20) (am_ite h (fun h => z_aload_n (pc' := 44) (j := 0) (by decide +kernel) rfl rfl <| z_callV (pc' := 47) (idx := 126) (mj := m_X11_keepBook) (av := []) (d' := 11) (by decide +kernel) rfl k_X11_keepBook l_RX11_126 rfl (by omega) (am_le rfl) rfl (am_le rfl) hx.o.1 hx.o.2 rfl h) (fun h => h.elim fun c4 h => z_throw (is := 123) (text := "there are 20 tasks") th_IllegalStateException (amT4 (i := 91) rfl) rfl (by decide +kernel) (by decide +kernel) (Or.inl ⟨(by decide +kernel), (by decide +kernel), (by decide +kernel)⟩) (by omega) (am_le rfl) c4 h))) (fun h => h.elim fun c5 h => z_throw (is := 112) (text := "the length is out of range") th_IllegalArgumentException (amT4 (i := 55) rfl) rfl (by decide +kernel) (by decide +kernel) (Or.inl ⟨(by decide +kernel), (by decide +kernel), (by decide +kernel)⟩) (by omega) (am_le rfl) c5 h))))
set_option maxRecDepth 20000 in
theorem b_X11_task_47 {G : Gx} {Q : Rv → Zm → Prop} {Z : Zm} {x : Int}  (hx : atAll Z) (h : (ZM G 11 m_X0_addTask [.ref 1, iv x] Z (zKc G 12 m_X11_task 55 [none, none] [] Q))) : ZP G 12 m_X11_task 47 [some (.ref 0), some (iv x)] [] Z Q := z_aload_n (pc' := 48) (j := 0) (by decide +kernel) rfl rfl <| z_getR (pc' := 51) (idx := 10) (ci := 11) (f := 0) (by decide +kernel) f_RX11_10 rfl hx.o.1 hx.o.2 hx.r0 rfl <| z_iload_n (pc' := 52) (j := 1) (by decide +kernel) rfl rfl <| z_callV (pc' := 55) (idx := 129) (mj := m_X0_addTask) (av := [iv x]) (d' := 11) (by decide +kernel) rfl k_X0_addTask l_RX11_129 rfl (by omega) (am_le rfl) rfl (am_le rfl) hx.bk.o.1 hx.bk.o.2 rfl (ZM.mono h (zKc_wk (wk_none (wk_none wk_nil))))
set_option maxRecDepth 20000 in
theorem b_X11_task_55 {G : Gx} {Q : Rv → Zm → Prop} {Z : Zm}  {s0 : Int} (hx : atAll Z) (h : (Q (.inl (some (iv s0))) Z)) : ZP G 12 m_X11_task 55 [none, none] [iv s0] Z Q := z_ireturn (by decide +kernel) ⟨_, rfl, rfl⟩ h
set_option maxRecDepth 20000 in
theorem e_X11_set {G : Gx} {Q : Rv → Zm → Prop} {Z : Zm} {t : Int} {c : Int} {x : Int} (hx : atAll Z) (h : ((R32 t) ∧ (R32 (zI Z 1 3)) ∧ (zSz Z < 1000000) ∧ (if 0 ≤ t ∧ t < zI Z 1 3 then ((R32 c) ∧ (if 0 ≤ zIdx 0 c then ((zIx (zIdx 0 c) 8) ∧ (R32 x) ∧ (R32 (zLow (zIdx 0 c).toNat)) ∧ (if x < (zLow (zIdx 0 c).toNat) then (Q (.inr "java/lang/IllegalArgumentException") (zC Z 13 0 6)) else ((R32 (zHigh (zIdx 0 c).toNat)) ∧ (if x ≤ (zHigh (zIdx 0 c).toNat) then ((R32 (zIdx 0 c)) ∧ (if (zIdx 0 c) = 0 then (ZM G 11 m_X0_canBeLong [.ref 1, iv t, iv x] Z (zKc G 12 m_X11_set 56 [some (.ref 0), some (iv t), none, some (iv x), some (iv (zIdx 0 c)), none] [] Q)) else (ZM G 11 m_X11_keepBook [.ref 0] Z (zKc G 12 m_X11_set 73 [some (.ref 0), some (iv t), none, some (iv x), some (iv (zIdx 0 c)), none] [] Q)))) else (Q (.inr "java/lang/IllegalArgumentException") (zC Z 13 0 6)))))) else Q (.inr "java/lang/IllegalArgumentException") (zC Z 13 0 6))) else Q (.inr "java/util/NoSuchElementException") (zC Z 15 0 6)))) : ZM G 12 m_X11_set [.ref 0, iv t, iv c, iv x] Z Q := ZM.of [some (.ref 0), some (iv t), some (iv c), some (iv x), none, none] rfl <| z_aload_n (pc' := 1) (j := 0) (by decide +kernel) rfl rfl <| z_iload_n (pc' := 2) (j := 1) (by decide +kernel) rfl rfl <| h.elim fun c1 h => h.elim fun c2 h => h.elim fun c3 h => z_callV (pc' := 5) (idx := 133) (mj := m_X11_checkTask) (av := [iv t]) (d' := 8) (by decide +kernel) rfl k_X11_checkTask l_RX11_133 rfl (by omega) (am_le rfl) rfl (am_le rfl) hx.o.1 hx.o.2 rfl <| zKt (s_checkTask hx c1 c2 c3) (am_ite h (fun h => z_aload_n (pc' := 6) (j := 0) (by decide +kernel) rfl rfl <| z_iload_n (pc' := 7) (j := 2) (by decide +kernel) rfl rfl <| h.elim fun c4 h => z_callV (pc' := 10) (idx := 137) (mj := m_X11_rowOf) (av := [iv c]) (d' := 8) (by decide +kernel) rfl k_X11_rowOf l_RX11_137 rfl (by omega) (am_le rfl) rfl (am_le rfl) hx.o.1 hx.o.2 rfl <| zKt (s_rowOf hx c4 c3) (am_ite h (fun h => z_istore (pc' := 12) (j := 4) (ls' := [some (.ref 0), some (iv t), some (iv c), some (iv x), some (iv (zIdx 0 c)), none]) (by decide +kernel) (by decide) rfl rfl <| z_iload_n (pc' := 13) (j := 3) (by decide +kernel) rfl rfl <| z_gets_low (pc' := 16) (idx := 141) (by decide +kernel) (amM4 215 rfl (by decide +kernel)) rfl <| z_iload (pc' := 18) (j := 4) (by decide +kernel) rfl rfl <| h.elim fun c5 h => z_t_low (pc' := 19) (by decide +kernel) c5 rfl <| h.elim fun c6 h => h.elim fun c7 h => z_icmp_lt (pc' := 22) (tgt := 32) (off := 13) (by decide +kernel) (by decide) rfl c6 c7 (am_ite h (fun h => z_throw (is := 147) (text := "the number is out of range") th_IllegalArgumentException (amT4 (i := 219) rfl) rfl (by decide +kernel) (by decide +kernel) (Or.inl ⟨(by decide +kernel), (by decide +kernel), (by decide +kernel)⟩) (by omega) (am_le rfl) c3 h) (fun h => z_iload_n (pc' := 23) (j := 3) (by decide +kernel) rfl rfl <| z_gets_high (pc' := 26) (idx := 144) (by decide +kernel) (amM4 217 rfl (by decide +kernel)) rfl <| z_iload (pc' := 28) (j := 4) (by decide +kernel) rfl rfl <| z_t_high (pc' := 29) (by decide +kernel) c5 rfl <| h.elim fun c8 h => z_icmp_le (pc' := 32) (tgt := 42) (off := 13) (by decide +kernel) (by decide) rfl c6 c8 (am_ite h (fun h => z_iload (pc' := 44) (j := 4) (by decide +kernel) rfl rfl <| h.elim fun c9 h => z_if_ne (pc' := 47) (tgt := 69) (off := 25) (by decide +kernel) (by decide) rfl c9 (am_ite h (fun h => z_aload_n (pc' := 48) (j := 0) (by decide +kernel) rfl rfl <| z_getR (pc' := 51) (idx := 10) (ci := 11) (f := 0) (by decide +kernel) f_RX11_10 rfl hx.o.1 hx.o.2 hx.r0 rfl <| z_iload_n (pc' := 52) (j := 1) (by decide +kernel) rfl rfl <| z_iload_n (pc' := 53) (j := 3) (by decide +kernel) rfl rfl <| z_callV (pc' := 56) (idx := 149) (mj := m_X0_canBeLong) (av := [iv t, iv x]) (d' := 11) (by decide +kernel) rfl k_X0_canBeLong l_RX11_149 rfl (by omega) (am_le rfl) rfl (am_le rfl) hx.bk.o.1 hx.bk.o.2 rfl (ZM.mono h (zKc_wk (wk_some (wk_some (wk_none (wk_some (wk_some (wk_none wk_nil))))))))) (fun h => z_aload_n (pc' := 70) (j := 0) (by decide +kernel) rfl rfl <| z_callV (pc' := 73) (idx := 126) (mj := m_X11_keepBook) (av := []) (d' := 11) (by decide +kernel) rfl k_X11_keepBook l_RX11_126 rfl (by omega) (am_le rfl) rfl (am_le rfl) hx.o.1 hx.o.2 rfl (ZM.mono h (zKc_wk (wk_some (wk_some (wk_none (wk_some (wk_some (wk_none wk_nil))))))))))) (fun h => z_throw (is := 147) (text := "the number is out of range") th_IllegalArgumentException (amT4 (i := 219) rfl) rfl (by decide +kernel) (by decide +kernel) (Or.inl ⟨(by decide +kernel), (by decide +kernel), (by decide +kernel)⟩) (by omega) (am_le rfl) c3 h))))) (fun h => h))) (fun h => h))
set_option maxRecDepth 20000 in
theorem b_X11_set_56 {G : Gx} {Q : Rv → Zm → Prop} {Z : Zm} {t : Int} {x : Int} {v4 : Int} {s0 : Int} (hx : atAll Z) (h : ((R32 s0) ∧ (if s0 = 0 then ((zSz Z < 1000000) ∧ Q (.inr "java/lang/IllegalArgumentException") (zC Z 13 0 6)) else (ZM G 11 m_X11_keepBook [.ref 0] Z (zKc G 12 m_X11_set 73 [some (.ref 0), some (iv t), none, some (iv x), some (iv v4), none] [] Q))))) : ZP G 12 m_X11_set 56 [some (.ref 0), some (iv t), none, some (iv x), some (iv v4), none] [iv s0] Z Q := h.elim fun c1 h => z_if_ne (pc' := 59) (tgt := 69) (off := 13) (by decide +kernel) (by decide) rfl c1 (am_ite h (fun h => h.elim fun c2 h => z_throw (is := 153) (text := "the length is not above what can be cut, or not as guessed") th_IllegalArgumentException (amT4 (i := 228) rfl) rfl (by decide +kernel) (by decide +kernel) (Or.inl ⟨(by decide +kernel), (by decide +kernel), (by decide +kernel)⟩) (by omega) (am_le rfl) c2 h) (fun h => z_aload_n (pc' := 70) (j := 0) (by decide +kernel) rfl rfl <| z_callV (pc' := 73) (idx := 126) (mj := m_X11_keepBook) (av := []) (d' := 11) (by decide +kernel) rfl k_X11_keepBook l_RX11_126 rfl (by omega) (am_le rfl) rfl (am_le rfl) hx.o.1 hx.o.2 rfl h))
set_option maxRecDepth 20000 in
theorem b_X11_set_73 {G : Gx} {Q : Rv → Zm → Prop} {Z : Zm} {t : Int} {x : Int} {v4 : Int} (hx : atAll Z) (h : ((zIx v4 12) ∧ (zIx t 20) ∧ ∀ Z3, Z3 = zSI Z (3 + v4.toNat) (zu (zI Z (3 + v4.toNat)) t.toNat x) → Q (.inl (some (iv (zI Z (3 + v4.toNat) t.toNat)))) Z3)) : ZP G 12 m_X11_set 73 [some (.ref 0), some (iv t), none, some (iv x), some (iv v4), none] [] Z Q := z_aload_n (pc' := 74) (j := 0) (by decide +kernel) rfl rfl <| z_getR (pc' := 77) (idx := 10) (ci := 11) (f := 0) (by decide +kernel) f_RX11_10 rfl hx.o.1 hx.o.2 hx.r0 rfl <| z_getR (pc' := 80) (idx := 155) (ci := 0) (f := 0) (by decide +kernel) f_RX11_155 rfl hx.bk.o.1 hx.bk.o.2 hx.bk.r0 rfl <| z_iload (pc' := 82) (j := 4) (by decide +kernel) rfl rfl <| h.elim fun c1 h => z_aaload120 (pc' := 83) (by decide +kernel) hx.bk.a0 c1 (hx.bk.e0 _ c1.n) rfl <| z_iload_n (pc' := 84) (j := 1) (by decide +kernel) rfl rfl <| h.elim fun c2 h => z_iaload (pc' := 85) (by decide +kernel) (hx.bk.x0 _ c1.n) c2 rfl <| z_istore (pc' := 87) (j := 5) (ls' := [some (.ref 0), some (iv t), none, some (iv x), some (iv v4), some (iv (zI Z (3 + v4.toNat) t.toNat))]) (by decide +kernel) (by decide) rfl rfl <| z_aload_n (pc' := 88) (j := 0) (by decide +kernel) rfl rfl <| z_getR (pc' := 91) (idx := 10) (ci := 11) (f := 0) (by decide +kernel) f_RX11_10 rfl hx.o.1 hx.o.2 hx.r0 rfl <| z_getR (pc' := 94) (idx := 155) (ci := 0) (f := 0) (by decide +kernel) f_RX11_155 rfl hx.bk.o.1 hx.bk.o.2 hx.bk.r0 rfl <| z_iload (pc' := 96) (j := 4) (by decide +kernel) rfl rfl <| z_aaload120 (pc' := 97) (by decide +kernel) hx.bk.a0 c1 (hx.bk.e0 _ c1.n) rfl <| z_iload_n (pc' := 98) (j := 1) (by decide +kernel) rfl rfl <| z_iload_n (pc' := 99) (j := 3) (by decide +kernel) rfl rfl <| z_iastore (pc' := 100) (by decide +kernel) (hx.bk.x0 _ c1.n) c2 rfl <| have h := h _ rfl; z_iload (pc' := 102) (j := 5) (by decide +kernel) rfl rfl <| z_ireturn (by decide +kernel) ⟨_, rfl, rfl⟩ h
set_option maxRecDepth 20000 in
theorem e_X11_of {G : Gx} {Q : Rv → Zm → Prop} {Z : Zm} {t : Int} {c : Int} (hx : atAll Z) (h : ((R32 t) ∧ (R32 (zI Z 1 3)) ∧ (zSz Z < 1000000) ∧ (if 0 ≤ t ∧ t < zI Z 1 3 then ((R32 c) ∧ (if 0 ≤ zIdx 0 c then ((zIx (zIdx 0 c) 12) ∧ (zIx t 20) ∧ Q (.inl (some (iv (zI Z (3 + (zIdx 0 c).toNat) t.toNat)))) Z) else Q (.inr "java/lang/IllegalArgumentException") (zC Z 13 0 6))) else Q (.inr "java/util/NoSuchElementException") (zC Z 15 0 6)))) : ZM G 12 m_X11_of [.ref 0, iv t, iv c] Z Q := ZM.of [some (.ref 0), some (iv t), some (iv c)] rfl <| z_aload_n (pc' := 1) (j := 0) (by decide +kernel) rfl rfl <| z_iload_n (pc' := 2) (j := 1) (by decide +kernel) rfl rfl <| h.elim fun c1 h => h.elim fun c2 h => h.elim fun c3 h => z_callV (pc' := 5) (idx := 133) (mj := m_X11_checkTask) (av := [iv t]) (d' := 8) (by decide +kernel) rfl k_X11_checkTask l_RX11_133 rfl (by omega) (am_le rfl) rfl (am_le rfl) hx.o.1 hx.o.2 rfl <| zKt (s_checkTask hx c1 c2 c3) (am_ite h (fun h => z_aload_n (pc' := 6) (j := 0) (by decide +kernel) rfl rfl <| z_getR (pc' := 9) (idx := 10) (ci := 11) (f := 0) (by decide +kernel) f_RX11_10 rfl hx.o.1 hx.o.2 hx.r0 rfl <| z_getR (pc' := 12) (idx := 155) (ci := 0) (f := 0) (by decide +kernel) f_RX11_155 rfl hx.bk.o.1 hx.bk.o.2 hx.bk.r0 rfl <| z_aload_n (pc' := 13) (j := 0) (by decide +kernel) rfl rfl <| z_iload_n (pc' := 14) (j := 2) (by decide +kernel) rfl rfl <| h.elim fun c4 h => z_callV (pc' := 17) (idx := 137) (mj := m_X11_rowOf) (av := [iv c]) (d' := 8) (by decide +kernel) rfl k_X11_rowOf l_RX11_137 rfl (by omega) (am_le rfl) rfl (am_le rfl) hx.o.1 hx.o.2 rfl <| zKt (s_rowOf hx c4 c3) (am_ite h (fun h => h.elim fun c5 h => z_aaload120 (pc' := 18) (by decide +kernel) hx.bk.a0 c5 (hx.bk.e0 _ c5.n) rfl <| z_iload_n (pc' := 19) (j := 1) (by decide +kernel) rfl rfl <| h.elim fun c6 h => z_iaload (pc' := 20) (by decide +kernel) (hx.bk.x0 _ c5.n) c6 rfl <| z_ireturn (by decide +kernel) ⟨_, rfl, rfl⟩ h) (fun h => h))) (fun h => h))
set_option maxRecDepth 20000 in
theorem e_X11_tasks {G : Gx} {Q : Rv → Zm → Prop} {Z : Zm}  (hx : atAll Z) (h : (Q (.inl (some (iv (zI Z 1 3)))) Z)) : ZM G 12 m_X11_tasks [.ref 0] Z Q := ZM.of [some (.ref 0)] rfl <| z_aload_n (pc' := 1) (j := 0) (by decide +kernel) rfl rfl <| z_getR (pc' := 4) (idx := 10) (ci := 11) (f := 0) (by decide +kernel) f_RX11_10 rfl hx.o.1 hx.o.2 hx.r0 rfl <| z_getI (pc' := 7) (idx := 117) (ci := 0) (f := 3) (by decide +kernel) f_RX11_117 rfl hx.bk.o.1 hx.bk.o.2 rfl <| z_ireturn (by decide +kernel) ⟨_, rfl, rfl⟩ h
set_option maxRecDepth 20000 in
theorem e_X11_need {G : Gx} {Q : Rv → Zm → Prop} {Z : Zm} {x : Int} {y : Int} {z : Int} (hx : atAll Z) (h : ((R32 x) ∧ (R32 (zI Z 1 3)) ∧ (zSz Z < 1000000) ∧ (if 0 ≤ x ∧ x < zI Z 1 3 then ((R32 y) ∧ (if 0 ≤ y ∧ y < zI Z 1 3 then ((R32 z) ∧ (if z < 0 then (Q (.inr "java/lang/IllegalArgumentException") (zC Z 13 0 6)) else ((if z ≤ 30 then (ZM G 11 m_X0_hasNeed [.ref 1, iv x, iv y] Z (zKc G 12 m_X11_need 39 [some (.ref 0), some (iv x), some (iv y), some (iv z)] [] Q)) else (Q (.inr "java/lang/IllegalArgumentException") (zC Z 13 0 6)))))) else Q (.inr "java/util/NoSuchElementException") (zC Z 15 0 6))) else Q (.inr "java/util/NoSuchElementException") (zC Z 15 0 6)))) : ZM G 12 m_X11_need [.ref 0, iv x, iv y, iv z] Z Q := ZM.of [some (.ref 0), some (iv x), some (iv y), some (iv z)] rfl <| z_aload_n (pc' := 1) (j := 0) (by decide +kernel) rfl rfl <| z_iload_n (pc' := 2) (j := 1) (by decide +kernel) rfl rfl <| h.elim fun c1 h => h.elim fun c2 h => h.elim fun c3 h => z_callV (pc' := 5) (idx := 133) (mj := m_X11_checkTask) (av := [iv x]) (d' := 8) (by decide +kernel) rfl k_X11_checkTask l_RX11_133 rfl (by omega) (am_le rfl) rfl (am_le rfl) hx.o.1 hx.o.2 rfl <| zKt (s_checkTask hx c1 c2 c3) (am_ite h (fun h => z_aload_n (pc' := 6) (j := 0) (by decide +kernel) rfl rfl <| z_iload_n (pc' := 7) (j := 2) (by decide +kernel) rfl rfl <| h.elim fun c4 h => z_callV (pc' := 10) (idx := 133) (mj := m_X11_checkTask) (av := [iv y]) (d' := 8) (by decide +kernel) rfl k_X11_checkTask l_RX11_133 rfl (by omega) (am_le rfl) rfl (am_le rfl) hx.o.1 hx.o.2 rfl <| zKt (s_checkTask hx c4 c2 c3) (am_ite h (fun h => z_iload_n (pc' := 11) (j := 3) (by decide +kernel) rfl rfl <| h.elim fun c5 h => z_if_lt (pc' := 14) (tgt := 20) (off := 9) (by decide +kernel) (by decide) rfl c5 (am_ite h (fun h => z_throw (is := 159) (text := "the lag is out of range") th_IllegalArgumentException (amT5 (i := 3) rfl) rfl (by decide +kernel) (by decide +kernel) (Or.inl ⟨(by decide +kernel), (by decide +kernel), (by decide +kernel)⟩) (by omega) (am_le rfl) c3 h) (fun h => z_iload_n (pc' := 15) (j := 3) (by decide +kernel) rfl rfl <| z_bipush (pc' := 17) (n := 30) (by decide +kernel) (by decide) rfl <| z_icmp_le (pc' := 20) (tgt := 30) (off := 13) (by decide +kernel) (by decide) rfl c5 (by decide : R32 30) (am_ite h (fun h => z_aload_n (pc' := 31) (j := 0) (by decide +kernel) rfl rfl <| z_getR (pc' := 34) (idx := 10) (ci := 11) (f := 0) (by decide +kernel) f_RX11_10 rfl hx.o.1 hx.o.2 hx.r0 rfl <| z_iload_n (pc' := 35) (j := 1) (by decide +kernel) rfl rfl <| z_iload_n (pc' := 36) (j := 2) (by decide +kernel) rfl rfl <| z_callV (pc' := 39) (idx := 161) (mj := m_X0_hasNeed) (av := [iv x, iv y]) (d' := 11) (by decide +kernel) rfl k_X0_hasNeed l_RX11_161 rfl (by omega) (am_le rfl) rfl (am_le rfl) hx.bk.o.1 hx.bk.o.2 rfl h) (fun h => z_throw (is := 159) (text := "the lag is out of range") th_IllegalArgumentException (amT5 (i := 3) rfl) rfl (by decide +kernel) (by decide +kernel) (Or.inl ⟨(by decide +kernel), (by decide +kernel), (by decide +kernel)⟩) (by omega) (am_le rfl) c3 h))))) (fun h => h))) (fun h => h))
set_option maxRecDepth 20000 in
theorem b_X11_need_39 {G : Gx} {Q : Rv → Zm → Prop} {Z : Zm} {x : Int} {y : Int} {z : Int} {s0 : Int} (hx : atAll Z) (h : ((R32 s0) ∧ (if s0 = 0 then (ZM G 11 m_X0_ringSize [.ref 1, iv x, iv y] Z (zKc G 12 m_X11_need 61 [some (.ref 0), some (iv x), some (iv y), some (iv z)] [] Q)) else ((zSz Z < 1000000) ∧ Q (.inr "java/lang/IllegalArgumentException") (zC Z 13 0 6))))) : ZP G 12 m_X11_need 39 [some (.ref 0), some (iv x), some (iv y), some (iv z)] [iv s0] Z Q := h.elim fun c1 h => z_if_eq (pc' := 42) (tgt := 52) (off := 13) (by decide +kernel) (by decide) rfl c1 (am_ite h (fun h => z_aload_n (pc' := 53) (j := 0) (by decide +kernel) rfl rfl <| z_getR (pc' := 56) (idx := 10) (ci := 11) (f := 0) (by decide +kernel) f_RX11_10 rfl hx.o.1 hx.o.2 hx.r0 rfl <| z_iload_n (pc' := 57) (j := 1) (by decide +kernel) rfl rfl <| z_iload_n (pc' := 58) (j := 2) (by decide +kernel) rfl rfl <| z_callV (pc' := 61) (idx := 166) (mj := m_X0_ringSize) (av := [iv x, iv y]) (d' := 11) (by decide +kernel) rfl k_X0_ringSize l_RX11_166 rfl (by omega) (am_le rfl) rfl (am_le rfl) hx.bk.o.1 hx.bk.o.2 rfl h) (fun h => h.elim fun c2 h => z_throw (is := 164) (text := "the one needs the other already") th_IllegalArgumentException (amT5 (i := 5) rfl) rfl (by decide +kernel) (by decide +kernel) (Or.inl ⟨(by decide +kernel), (by decide +kernel), (by decide +kernel)⟩) (by omega) (am_le rfl) c2 h))
set_option maxRecDepth 20000 in
theorem b_X11_need_61 {G : Gx} {Q : Rv → Zm → Prop} {Z : Zm} {x : Int} {y : Int} {z : Int} {s0 : Int} (hx : atAll Z) (h : ((R32 s0) ∧ (if s0 ≤ 0 then ((R32 (zI Z 1 4)) ∧ (if (zI Z 1 4) < 50 then (ZM G 11 m_X11_keepBook [.ref 0] Z (zKc G 12 m_X11_need 100 [some (.ref 0), some (iv x), some (iv y), some (iv z)] [] Q)) else ((zSz Z < 1000000) ∧ Q (.inr "java/lang/IllegalStateException") (zC Z 14 0 6)))) else ((zSz Z < 1000000) ∧ Q (.inr "java/lang/IllegalArgumentException") (zC Z 13 0 6))))) : ZP G 12 m_X11_need 61 [some (.ref 0), some (iv x), some (iv y), some (iv z)] [iv s0] Z Q := h.elim fun c1 h => z_if_le (pc' := 64) (tgt := 74) (off := 13) (by decide +kernel) (by decide) rfl c1 (am_ite h (fun h => z_aload_n (pc' := 75) (j := 0) (by decide +kernel) rfl rfl <| z_getR (pc' := 78) (idx := 10) (ci := 11) (f := 0) (by decide +kernel) f_RX11_10 rfl hx.o.1 hx.o.2 hx.r0 rfl <| z_getI (pc' := 81) (idx := 172) (ci := 0) (f := 4) (by decide +kernel) f_RX11_172 rfl hx.bk.o.1 hx.bk.o.2 rfl <| z_bipush (pc' := 83) (n := 50) (by decide +kernel) (by decide) rfl <| h.elim fun c2 h => z_icmp_lt (pc' := 86) (tgt := 96) (off := 13) (by decide +kernel) (by decide) rfl c2 (by decide : R32 50) (am_ite h (fun h => z_aload_n (pc' := 97) (j := 0) (by decide +kernel) rfl rfl <| z_callV (pc' := 100) (idx := 126) (mj := m_X11_keepBook) (av := []) (d' := 11) (by decide +kernel) rfl k_X11_keepBook l_RX11_126 rfl (by omega) (am_le rfl) rfl (am_le rfl) hx.o.1 hx.o.2 rfl h) (fun h => h.elim fun c3 h => z_throw (is := 175) (text := "there are 50 needs") th_IllegalStateException (amT5 (i := 12) rfl) rfl (by decide +kernel) (by decide +kernel) (Or.inl ⟨(by decide +kernel), (by decide +kernel), (by decide +kernel)⟩) (by omega) (am_le rfl) c3 h))) (fun h => h.elim fun c4 h => z_throw (is := 170) (text := "a ring would be closed") th_IllegalArgumentException (amT5 (i := 11) rfl) rfl (by decide +kernel) (by decide +kernel) (Or.inl ⟨(by decide +kernel), (by decide +kernel), (by decide +kernel)⟩) (by omega) (am_le rfl) c4 h))
set_option maxRecDepth 20000 in
theorem b_X11_need_100 {G : Gx} {Q : Rv → Zm → Prop} {Z : Zm} {x : Int} {y : Int} {z : Int}  (hx : atAll Z) (h : (ZM G 11 m_X0_addNeed [.ref 1, iv x, iv y, iv z] Z (zKc G 12 m_X11_need 110 [none, none, none, none] [] Q))) : ZP G 12 m_X11_need 100 [some (.ref 0), some (iv x), some (iv y), some (iv z)] [] Z Q := z_aload_n (pc' := 101) (j := 0) (by decide +kernel) rfl rfl <| z_getR (pc' := 104) (idx := 10) (ci := 11) (f := 0) (by decide +kernel) f_RX11_10 rfl hx.o.1 hx.o.2 hx.r0 rfl <| z_iload_n (pc' := 105) (j := 1) (by decide +kernel) rfl rfl <| z_iload_n (pc' := 106) (j := 2) (by decide +kernel) rfl rfl <| z_iload_n (pc' := 107) (j := 3) (by decide +kernel) rfl rfl <| z_callV (pc' := 110) (idx := 177) (mj := m_X0_addNeed) (av := [iv x, iv y, iv z]) (d' := 11) (by decide +kernel) rfl k_X0_addNeed l_RX11_177 rfl (by omega) (am_le rfl) rfl (am_le rfl) hx.bk.o.1 hx.bk.o.2 rfl (ZM.mono h (zKc_wk (wk_none (wk_none (wk_none (wk_none wk_nil))))))
set_option maxRecDepth 20000 in
theorem b_X11_need_110 {G : Gx} {Q : Rv → Zm → Prop} {Z : Zm}  {s0 : Int} (hx : atAll Z) (h : (Q (.inl (some (iv s0))) Z)) : ZP G 12 m_X11_need 110 [none, none, none, none] [iv s0] Z Q := z_ireturn (by decide +kernel) ⟨_, rfl, rfl⟩ h
set_option maxRecDepth 20000 in
theorem e_X11_dropNeed {G : Gx} {Q : Rv → Zm → Prop} {Z : Zm} {x : Int} (hx : atAll Z) (h : ((R32 x) ∧ (R32 (zI Z 1 4)) ∧ (zSz Z < 1000000) ∧ (if 0 ≤ x ∧ x < zI Z 1 4 then (ZM G 11 m_X11_keepBook [.ref 0] Z (zKc G 12 m_X11_dropNeed 9 [some (.ref 0), some (iv x)] [] Q)) else Q (.inr "java/util/NoSuchElementException") (zC Z 15 0 6)))) : ZM G 12 m_X11_dropNeed [.ref 0, iv x] Z Q := ZM.of [some (.ref 0), some (iv x)] rfl <| z_aload_n (pc' := 1) (j := 0) (by decide +kernel) rfl rfl <| z_iload_n (pc' := 2) (j := 1) (by decide +kernel) rfl rfl <| h.elim fun c1 h => h.elim fun c2 h => h.elim fun c3 h => z_callV (pc' := 5) (idx := 181) (mj := m_X11_checkNeed) (av := [iv x]) (d' := 8) (by decide +kernel) rfl k_X11_checkNeed l_RX11_181 rfl (by omega) (am_le rfl) rfl (am_le rfl) hx.o.1 hx.o.2 rfl <| zKt (s_checkNeed hx c1 c2 c3) (am_ite h (fun h => z_aload_n (pc' := 6) (j := 0) (by decide +kernel) rfl rfl <| z_callV (pc' := 9) (idx := 126) (mj := m_X11_keepBook) (av := []) (d' := 11) (by decide +kernel) rfl k_X11_keepBook l_RX11_126 rfl (by omega) (am_le rfl) rfl (am_le rfl) hx.o.1 hx.o.2 rfl h) (fun h => h))
set_option maxRecDepth 20000 in
theorem b_X11_dropNeed_9 {G : Gx} {Q : Rv → Zm → Prop} {Z : Zm} {x : Int}  (hx : atAll Z) (h : (ZM G 11 m_X0_removeNeed [.ref 1, iv x] Z (zKc G 12 m_X11_dropNeed 17 [some (.ref 0), none] [] Q))) : ZP G 12 m_X11_dropNeed 9 [some (.ref 0), some (iv x)] [] Z Q := z_aload_n (pc' := 10) (j := 0) (by decide +kernel) rfl rfl <| z_getR (pc' := 13) (idx := 10) (ci := 11) (f := 0) (by decide +kernel) f_RX11_10 rfl hx.o.1 hx.o.2 hx.r0 rfl <| z_iload_n (pc' := 14) (j := 1) (by decide +kernel) rfl rfl <| z_callV (pc' := 17) (idx := 184) (mj := m_X0_removeNeed) (av := [iv x]) (d' := 11) (by decide +kernel) rfl k_X0_removeNeed l_RX11_184 rfl (by omega) (am_le rfl) rfl (am_le rfl) hx.bk.o.1 hx.bk.o.2 rfl (ZM.mono h (zKc_wk (wk_some (wk_none wk_nil))))
set_option maxRecDepth 20000 in
theorem b_X11_dropNeed_17 {G : Gx} {Q : Rv → Zm → Prop} {Z : Zm}   (hx : atAll Z) (h : (Q (.inl (some (iv (zI Z 1 4)))) Z)) : ZP G 12 m_X11_dropNeed 17 [some (.ref 0), none] [] Z Q := z_aload_n (pc' := 18) (j := 0) (by decide +kernel) rfl rfl <| z_getR (pc' := 21) (idx := 10) (ci := 11) (f := 0) (by decide +kernel) f_RX11_10 rfl hx.o.1 hx.o.2 hx.r0 rfl <| z_getI (pc' := 24) (idx := 172) (ci := 0) (f := 4) (by decide +kernel) f_RX11_172 rfl hx.bk.o.1 hx.bk.o.2 rfl <| z_ireturn (by decide +kernel) ⟨_, rfl, rfl⟩ h
set_option maxRecDepth 20000 in
theorem e_X11_needs {G : Gx} {Q : Rv → Zm → Prop} {Z : Zm}  (hx : atAll Z) (h : (Q (.inl (some (iv (zI Z 1 4)))) Z)) : ZM G 12 m_X11_needs [.ref 0] Z Q := ZM.of [some (.ref 0)] rfl <| z_aload_n (pc' := 1) (j := 0) (by decide +kernel) rfl rfl <| z_getR (pc' := 4) (idx := 10) (ci := 11) (f := 0) (by decide +kernel) f_RX11_10 rfl hx.o.1 hx.o.2 hx.r0 rfl <| z_getI (pc' := 7) (idx := 172) (ci := 0) (f := 4) (by decide +kernel) f_RX11_172 rfl hx.bk.o.1 hx.bk.o.2 rfl <| z_ireturn (by decide +kernel) ⟨_, rfl, rfl⟩ h
set_option maxRecDepth 20000 in
theorem e_X11_needAt {G : Gx} {Q : Rv → Zm → Prop} {Z : Zm} {x : Int} {c : Int} (hx : atAll Z) (h : ((R32 x) ∧ (R32 (zI Z 1 4)) ∧ (zSz Z < 1000000) ∧ (if 0 ≤ x ∧ x < zI Z 1 4 then ((R32 c) ∧ (R32 (zIdx 1 c)) ∧ (if 0 ≤ (zIdx 1 c) then ((zIx (zIdx 1 c) 3) ∧ (zIx x 50) ∧ Q (.inl (some (iv (zI Z (16 + (zIdx 1 c).toNat) x.toNat)))) Z) else (Q (.inr "java/lang/IllegalArgumentException") (zC Z 13 0 6)))) else Q (.inr "java/util/NoSuchElementException") (zC Z 15 0 6)))) : ZM G 12 m_X11_needAt [.ref 0, iv x, iv c] Z Q := ZM.of [some (.ref 0), some (iv x), some (iv c), none] rfl <| z_aload_n (pc' := 1) (j := 0) (by decide +kernel) rfl rfl <| z_iload_n (pc' := 2) (j := 1) (by decide +kernel) rfl rfl <| h.elim fun c1 h => h.elim fun c2 h => h.elim fun c3 h => z_callV (pc' := 5) (idx := 181) (mj := m_X11_checkNeed) (av := [iv x]) (d' := 8) (by decide +kernel) rfl k_X11_checkNeed l_RX11_181 rfl (by omega) (am_le rfl) rfl (am_le rfl) hx.o.1 hx.o.2 rfl <| zKt (s_checkNeed hx c1 c2 c3) (am_ite h (fun h => z_ldcS (pc' := 7) (idx := 187) (i := 1) (by decide +kernel) (by decide) (by decide) (by decide) rfl <| z_iload_n (pc' := 8) (j := 2) (by decide +kernel) rfl rfl <| h.elim fun c4 h => z_callT (pc' := 11) (idx := 189) (i := 1) (mj := m_J0_indexOf_0f7a4) (av := [iv c]) (d' := 3) (by decide +kernel) rfl k_J0_indexOf_0f7a4 (by decide) (amM4 132 rfl (by decide +kernel)) rfl (by omega) (am_le rfl) rfl (am_le rfl) rfl <| zKf (s_indexOf (by decide) c4) <| z_istore_n (pc' := 12) (j := 3) (ls' := [some (.ref 0), some (iv x), some (iv c), some (iv (zIdx 1 c))]) (by decide +kernel) (by decide) rfl rfl <| z_iload_n (pc' := 13) (j := 3) (by decide +kernel) rfl rfl <| h.elim fun c5 h => z_if_ge (pc' := 16) (tgt := 26) (off := 13) (by decide +kernel) (by decide) rfl c5 (am_ite h (fun h => z_aload_n (pc' := 27) (j := 0) (by decide +kernel) rfl rfl <| z_getR (pc' := 30) (idx := 10) (ci := 11) (f := 0) (by decide +kernel) f_RX11_10 rfl hx.o.1 hx.o.2 hx.r0 rfl <| z_getR (pc' := 33) (idx := 196) (ci := 0) (f := 1) (by decide +kernel) f_RX11_196 rfl hx.bk.o.1 hx.bk.o.2 hx.bk.r1 rfl <| z_iload_n (pc' := 34) (j := 3) (by decide +kernel) rfl rfl <| h.elim fun c6 h => z_aaload120 (pc' := 35) (by decide +kernel) hx.bk.a1 c6 (hx.bk.e1 _ c6.n) rfl <| z_iload_n (pc' := 36) (j := 1) (by decide +kernel) rfl rfl <| h.elim fun c7 h => z_iaload (pc' := 37) (by decide +kernel) (hx.bk.x1 _ c6.n) c7 rfl <| z_ireturn (by decide +kernel) ⟨_, rfl, rfl⟩ h) (fun h => z_throw (is := 194) (text := "there is no such letter") th_IllegalArgumentException (amT4 (i := 214) rfl) rfl (by decide +kernel) (by decide +kernel) (Or.inl ⟨(by decide +kernel), (by decide +kernel), (by decide +kernel)⟩) (by omega) (am_le rfl) c3 h))) (fun h => h))
set_option maxRecDepth 20000 in
theorem e_X11_ring {G : Gx} {Q : Rv → Zm → Prop} {Z : Zm} {x : Int} {y : Int} (hx : atAll Z) (h : ((R32 x) ∧ (R32 (zI Z 1 3)) ∧ (zSz Z < 1000000) ∧ (if 0 ≤ x ∧ x < zI Z 1 3 then ((R32 y) ∧ (if 0 ≤ y ∧ y < zI Z 1 3 then (ZM G 11 m_X0_ringSize [.ref 1, iv x, iv y] Z (zKc G 12 m_X11_ring 19 [none, none, none] [] Q)) else Q (.inr "java/util/NoSuchElementException") (zC Z 15 0 6))) else Q (.inr "java/util/NoSuchElementException") (zC Z 15 0 6)))) : ZM G 12 m_X11_ring [.ref 0, iv x, iv y] Z Q := ZM.of [some (.ref 0), some (iv x), some (iv y)] rfl <| z_aload_n (pc' := 1) (j := 0) (by decide +kernel) rfl rfl <| z_iload_n (pc' := 2) (j := 1) (by decide +kernel) rfl rfl <| h.elim fun c1 h => h.elim fun c2 h => h.elim fun c3 h => z_callV (pc' := 5) (idx := 133) (mj := m_X11_checkTask) (av := [iv x]) (d' := 8) (by decide +kernel) rfl k_X11_checkTask l_RX11_133 rfl (by omega) (am_le rfl) rfl (am_le rfl) hx.o.1 hx.o.2 rfl <| zKt (s_checkTask hx c1 c2 c3) (am_ite h (fun h => z_aload_n (pc' := 6) (j := 0) (by decide +kernel) rfl rfl <| z_iload_n (pc' := 7) (j := 2) (by decide +kernel) rfl rfl <| h.elim fun c4 h => z_callV (pc' := 10) (idx := 133) (mj := m_X11_checkTask) (av := [iv y]) (d' := 8) (by decide +kernel) rfl k_X11_checkTask l_RX11_133 rfl (by omega) (am_le rfl) rfl (am_le rfl) hx.o.1 hx.o.2 rfl <| zKt (s_checkTask hx c4 c2 c3) (am_ite h (fun h => z_aload_n (pc' := 11) (j := 0) (by decide +kernel) rfl rfl <| z_getR (pc' := 14) (idx := 10) (ci := 11) (f := 0) (by decide +kernel) f_RX11_10 rfl hx.o.1 hx.o.2 hx.r0 rfl <| z_iload_n (pc' := 15) (j := 1) (by decide +kernel) rfl rfl <| z_iload_n (pc' := 16) (j := 2) (by decide +kernel) rfl rfl <| z_callV (pc' := 19) (idx := 166) (mj := m_X0_ringSize) (av := [iv x, iv y]) (d' := 11) (by decide +kernel) rfl k_X0_ringSize l_RX11_166 rfl (by omega) (am_le rfl) rfl (am_le rfl) hx.bk.o.1 hx.bk.o.2 rfl (ZM.mono h (zKc_wk (wk_none (wk_none (wk_none wk_nil)))))) (fun h => h))) (fun h => h))
set_option maxRecDepth 20000 in
theorem b_X11_ring_19 {G : Gx} {Q : Rv → Zm → Prop} {Z : Zm}  {s0 : Int} (hx : atAll Z) (h : (Q (.inl (some (iv s0))) Z)) : ZP G 12 m_X11_ring 19 [none, none, none] [iv s0] Z Q := z_ireturn (by decide +kernel) ⟨_, rfl, rfl⟩ h
set_option maxRecDepth 20000 in
theorem e_X11_undo {G : Gx} {Q : Rv → Zm → Prop} {Z : Zm}  (hx : atAll Z) (h : ((R32 (zI Z 39 1)) ∧ (if (zI Z 39 1) = 0 then ((zSz Z < 1000000) ∧ Q (.inr "java/util/NoSuchElementException") (zC Z 15 0 6)) else (ZM G 11 m_X3_takeBack [.ref 39, .ref 1] Z (zKc G 12 m_X11_undo 31 [some (.ref 0)] [] Q))))) : ZM G 12 m_X11_undo [.ref 0] Z Q := ZM.of [some (.ref 0)] rfl <| z_aload_n (pc' := 1) (j := 0) (by decide +kernel) rfl rfl <| z_getR (pc' := 4) (idx := 22) (ci := 11) (f := 2) (by decide +kernel) f_RX11_22 rfl hx.o.1 hx.o.2 hx.r2 rfl <| z_getI (pc' := 7) (idx := 199) (ci := 3) (f := 1) (by decide +kernel) f_RX11_199 rfl hx.hi.o.1 hx.hi.o.2 rfl <| h.elim fun c1 h => z_if_ne (pc' := 10) (tgt := 20) (off := 13) (by decide +kernel) (by decide) rfl c1 (am_ite h (fun h => h.elim fun c2 h => z_throw (is := 204) (text := "no change is kept") th_NoSuchElementException (amT5 (i := 52) rfl) rfl (by decide +kernel) (by decide +kernel) (Or.inl ⟨(by decide +kernel), (by decide +kernel), (by decide +kernel)⟩) (by omega) (am_le rfl) c2 h) (fun h => z_aload_n (pc' := 21) (j := 0) (by decide +kernel) rfl rfl <| z_getR (pc' := 24) (idx := 22) (ci := 11) (f := 2) (by decide +kernel) f_RX11_22 rfl hx.o.1 hx.o.2 hx.r2 rfl <| z_aload_n (pc' := 25) (j := 0) (by decide +kernel) rfl rfl <| z_getR (pc' := 28) (idx := 10) (ci := 11) (f := 0) (by decide +kernel) f_RX11_10 rfl hx.o.1 hx.o.2 hx.r0 rfl <| z_callV (pc' := 31) (idx := 207) (mj := m_X3_takeBack) (av := [.ref 1]) (d' := 11) (by decide +kernel) rfl k_X3_takeBack l_RX11_207 rfl (by omega) (am_le rfl) rfl (am_le rfl) hx.hi.o.1 hx.hi.o.2 rfl h))
set_option maxRecDepth 20000 in
theorem b_X11_undo_31 {G : Gx} {Q : Rv → Zm → Prop} {Z : Zm}   (hx : atAll Z) (h : (ZM G 11 m_X11_leaveOldBook [.ref 0] Z (zKc G 12 m_X11_undo 35 [some (.ref 0)] [] Q))) : ZP G 12 m_X11_undo 31 [some (.ref 0)] [] Z Q := z_aload_n (pc' := 32) (j := 0) (by decide +kernel) rfl rfl <| z_callV (pc' := 35) (idx := 211) (mj := m_X11_leaveOldBook) (av := []) (d' := 11) (by decide +kernel) rfl k_X11_leaveOldBook l_RX11_211 rfl (by omega) (am_le rfl) rfl (am_le rfl) hx.o.1 hx.o.2 rfl h
set_option maxRecDepth 20000 in
theorem b_X11_undo_35 {G : Gx} {Q : Rv → Zm → Prop} {Z : Zm}   (hx : atAll Z) (h : (∀ Z1, Z1 = zSI Z 0 (zu (zI Z 0) 8 0) → Q (.inl (some (iv (zI Z1 39 1)))) Z1)) : ZP G 12 m_X11_undo 35 [some (.ref 0)] [] Z Q := z_aload_n (pc' := 36) (j := 0) (by decide +kernel) rfl rfl <| z_iconst (pc' := 37) (n := 0) (by decide +kernel) rfl <| z_putI (pc' := 40) (idx := 214) (ci := 11) (f := 8) (by decide +kernel) f_RX11_214 (am_nf rfl rfl) rfl rfl rfl hx.o.1 hx.o.2 rfl <| have h := h _ rfl; z_aload_n (pc' := 41) (j := 0) (by decide +kernel) rfl rfl <| z_getR (pc' := 44) (idx := 22) (ci := 11) (f := 2) (by decide +kernel) f_RX11_22 rfl hx.o.1 hx.o.2 hx.r2 rfl <| z_getI (pc' := 47) (idx := 199) (ci := 3) (f := 1) (by decide +kernel) f_RX11_199 rfl hx.hi.o.1 hx.hi.o.2 rfl <| z_ireturn (by decide +kernel) ⟨_, rfl, rfl⟩ h
set_option maxRecDepth 20000 in
theorem e_X11_type {G : Gx} {Q : Rv → Zm → Prop} {Z : Zm} {c : Int} (hx : atAll Z) (h : ((R32 c) ∧ (if c < 32 then ((zSz Z < 1000000) ∧ Q (.inr "java/lang/IllegalArgumentException") (zC Z 13 0 6)) else ((if c ≤ 126 then ((R32 (zI Z 231 1)) ∧ (if (zI Z 231 1) < 80 then ((zIx (zI Z 231 1) 80) ∧ (0 ≤ c) ∧ (c < 65536) ∧ ∀ Z7, Z7 = zSI Z 232 (zu (zI Z 232) (zI Z 231 1).toNat c) → ∀ Z8, Z8 = zSI Z7 231 (zu (zI Z7 231) 1 ((zI Z7 231 1) + 1)) → Q (.inl (some (iv (zI Z8 231 1)))) Z8) else ((zSz Z < 1000000) ∧ Q (.inr "java/lang/IllegalStateException") (zC Z 14 0 6)))) else ((zSz Z < 1000000) ∧ Q (.inr "java/lang/IllegalArgumentException") (zC Z 13 0 6))))))) : ZM G 12 m_X11_type [.ref 0, iv c] Z Q := ZM.of [some (.ref 0), some (iv c)] rfl <| z_iload_n (pc' := 1) (j := 1) (by decide +kernel) rfl rfl <| z_bipush (pc' := 3) (n := 32) (by decide +kernel) (by decide) rfl <| h.elim fun c1 h => z_icmp_lt (pc' := 6) (tgt := 12) (off := 9) (by decide +kernel) (by decide) rfl c1 (by decide : R32 32) (am_ite h (fun h => h.elim fun c2 h => z_throw (is := 217) (text := "the code is not 32 to 126") th_IllegalArgumentException (amT5 (i := 64) rfl) rfl (by decide +kernel) (by decide +kernel) (Or.inl ⟨(by decide +kernel), (by decide +kernel), (by decide +kernel)⟩) (by omega) (am_le rfl) c2 h) (fun h => z_iload_n (pc' := 7) (j := 1) (by decide +kernel) rfl rfl <| z_bipush (pc' := 9) (n := 126) (by decide +kernel) (by decide) rfl <| z_icmp_le (pc' := 12) (tgt := 22) (off := 13) (by decide +kernel) (by decide) rfl c1 (by decide : R32 126) (am_ite h (fun h => z_aload_n (pc' := 23) (j := 0) (by decide +kernel) rfl rfl <| z_getR (pc' := 26) (idx := 29) (ci := 11) (f := 3) (by decide +kernel) f_RX11_29 rfl hx.o.1 hx.o.2 hx.r3 rfl <| z_getI (pc' := 29) (idx := 219) (ci := 10) (f := 1) (by decide +kernel) f_RX11_219 rfl hx.tx.o.1 hx.tx.o.2 rfl <| z_bipush (pc' := 31) (n := 80) (by decide +kernel) (by decide) rfl <| h.elim fun c3 h => z_icmp_lt (pc' := 34) (tgt := 44) (off := 13) (by decide +kernel) (by decide) rfl c3 (by decide : R32 80) (am_ite h (fun h => z_aload_n (pc' := 45) (j := 0) (by decide +kernel) rfl rfl <| z_getR (pc' := 48) (idx := 29) (ci := 11) (f := 3) (by decide +kernel) f_RX11_29 rfl hx.o.1 hx.o.2 hx.r3 rfl <| z_getR (pc' := 51) (idx := 222) (ci := 10) (f := 0) (by decide +kernel) f_RX11_222 rfl hx.tx.o.1 hx.tx.o.2 hx.tx.r0 rfl <| z_aload_n (pc' := 52) (j := 0) (by decide +kernel) rfl rfl <| z_getR (pc' := 55) (idx := 29) (ci := 11) (f := 3) (by decide +kernel) f_RX11_29 rfl hx.o.1 hx.o.2 hx.r3 rfl <| z_getI (pc' := 58) (idx := 219) (ci := 10) (f := 1) (by decide +kernel) f_RX11_219 rfl hx.tx.o.1 hx.tx.o.2 rfl <| z_iload_n (pc' := 59) (j := 1) (by decide +kernel) rfl rfl <| h.elim fun c4 h => h.elim fun c5 h => h.elim fun c6 h => z_castore (pc' := 60) (by decide +kernel) hx.tx.a0 c4 c5 c6 rfl <| have h := h _ rfl; z_aload_n (pc' := 61) (j := 0) (by decide +kernel) rfl rfl <| z_getR (pc' := 64) (idx := 29) (ci := 11) (f := 3) (by decide +kernel) f_RX11_29 rfl hx.o.1 hx.o.2 hx.r3 rfl <| z_dup (pc' := 65) (by decide +kernel) rfl rfl <| z_getI (pc' := 68) (idx := 219) (ci := 10) (f := 1) (by decide +kernel) f_RX11_219 rfl hx.tx.o.1 hx.tx.o.2 rfl <| z_iconst (pc' := 69) (n := 1) (by decide +kernel) rfl <| z_iadd (pc' := 70) (by decide +kernel) rfl <| z_putI (pc' := 73) (idx := 219) (ci := 10) (f := 1) (by decide +kernel) f_RX11_219 (am_nf rfl rfl) rfl rfl rfl hx.tx.o.1 hx.tx.o.2 rfl <| have h := h _ rfl; z_aload_n (pc' := 74) (j := 0) (by decide +kernel) rfl rfl <| z_getR (pc' := 77) (idx := 29) (ci := 11) (f := 3) (by decide +kernel) f_RX11_29 rfl hx.o.1 hx.o.2 hx.r3 rfl <| z_getI (pc' := 80) (idx := 219) (ci := 10) (f := 1) (by decide +kernel) f_RX11_219 rfl hx.tx.o.1 hx.tx.o.2 rfl <| z_ireturn (by decide +kernel) ⟨_, rfl, rfl⟩ h) (fun h => h.elim fun c9 h => z_throw (is := 220) (text := "the text has 80 signs") th_IllegalStateException (amT5 (i := 65) rfl) rfl (by decide +kernel) (by decide +kernel) (Or.inl ⟨(by decide +kernel), (by decide +kernel), (by decide +kernel)⟩) (by omega) (am_le rfl) c9 h))) (fun h => h.elim fun c10 h => z_throw (is := 217) (text := "the code is not 32 to 126") th_IllegalArgumentException (amT5 (i := 64) rfl) rfl (by decide +kernel) (by decide +kernel) (Or.inl ⟨(by decide +kernel), (by decide +kernel), (by decide +kernel)⟩) (by omega) (am_le rfl) c10 h))))
set_option maxRecDepth 20000 in
theorem e_X11_erase {G : Gx} {Q : Rv → Zm → Prop} {Z : Zm}  (hx : atAll Z) (h : (∀ Z1, Z1 = zSI Z 231 (zu (zI Z 231) 1 0) → Q (.inl (some (iv (zI Z 231 1)))) Z1)) : ZM G 12 m_X11_erase [.ref 0] Z Q := ZM.of [some (.ref 0), none] rfl <| z_aload_n (pc' := 1) (j := 0) (by decide +kernel) rfl rfl <| z_getR (pc' := 4) (idx := 29) (ci := 11) (f := 3) (by decide +kernel) f_RX11_29 rfl hx.o.1 hx.o.2 hx.r3 rfl <| z_getI (pc' := 7) (idx := 219) (ci := 10) (f := 1) (by decide +kernel) f_RX11_219 rfl hx.tx.o.1 hx.tx.o.2 rfl <| z_istore_n (pc' := 8) (j := 1) (ls' := [some (.ref 0), some (iv (zI Z 231 1))]) (by decide +kernel) (by decide) rfl rfl <| z_aload_n (pc' := 9) (j := 0) (by decide +kernel) rfl rfl <| z_getR (pc' := 12) (idx := 29) (ci := 11) (f := 3) (by decide +kernel) f_RX11_29 rfl hx.o.1 hx.o.2 hx.r3 rfl <| z_iconst (pc' := 13) (n := 0) (by decide +kernel) rfl <| z_putI (pc' := 16) (idx := 219) (ci := 10) (f := 1) (by decide +kernel) f_RX11_219 (am_nf rfl rfl) rfl rfl rfl hx.tx.o.1 hx.tx.o.2 rfl <| have h := h _ rfl; z_iload_n (pc' := 17) (j := 1) (by decide +kernel) rfl rfl <| z_ireturn (by decide +kernel) ⟨_, rfl, rfl⟩ h
set_option maxRecDepth 20000 in
theorem e_X11_signAt {G : Gx} {Q : Rv → Zm → Prop} {Z : Zm} {x : Int} (hx : atAll Z) (h : ((R32 x) ∧ (if x < 0 then ((zSz Z < 1000000) ∧ Q (.inr "java/lang/IndexOutOfBoundsException") (zC Z 16 0 6)) else ((R32 (zI Z 231 1)) ∧ (if x < (zI Z 231 1) then ((zIx x 80) ∧ (0 ≤ (zI Z 232 x.toNat)) ∧ ((zI Z 232 x.toNat) < 65536) ∧ Q (.inl (some (iv (zI Z 232 x.toNat)))) Z) else ((zSz Z < 1000000) ∧ Q (.inr "java/lang/IndexOutOfBoundsException") (zC Z 16 0 6))))))) : ZM G 12 m_X11_signAt [.ref 0, iv x] Z Q := ZM.of [some (.ref 0), some (iv x)] rfl <| z_iload_n (pc' := 1) (j := 1) (by decide +kernel) rfl rfl <| h.elim fun c1 h => z_if_lt (pc' := 4) (tgt := 15) (off := 14) (by decide +kernel) (by decide) rfl c1 (am_ite h (fun h => h.elim fun c2 h => z_throw (is := 228) (text := "there is no such place") th_IndexOutOfBoundsException (amT5 (i := 106) rfl) rfl (by decide +kernel) (by decide +kernel) (Or.inl ⟨(by decide +kernel), (by decide +kernel), (by decide +kernel)⟩) (by omega) (am_le rfl) c2 h) (fun h => z_iload_n (pc' := 5) (j := 1) (by decide +kernel) rfl rfl <| z_aload_n (pc' := 6) (j := 0) (by decide +kernel) rfl rfl <| z_getR (pc' := 9) (idx := 29) (ci := 11) (f := 3) (by decide +kernel) f_RX11_29 rfl hx.o.1 hx.o.2 hx.r3 rfl <| z_getI (pc' := 12) (idx := 219) (ci := 10) (f := 1) (by decide +kernel) f_RX11_219 rfl hx.tx.o.1 hx.tx.o.2 rfl <| h.elim fun c3 h => z_icmp_lt (pc' := 15) (tgt := 25) (off := 13) (by decide +kernel) (by decide) rfl c1 c3 (am_ite h (fun h => z_aload_n (pc' := 26) (j := 0) (by decide +kernel) rfl rfl <| z_getR (pc' := 29) (idx := 29) (ci := 11) (f := 3) (by decide +kernel) f_RX11_29 rfl hx.o.1 hx.o.2 hx.r3 rfl <| z_getR (pc' := 32) (idx := 222) (ci := 10) (f := 0) (by decide +kernel) f_RX11_222 rfl hx.tx.o.1 hx.tx.o.2 hx.tx.r0 rfl <| z_iload_n (pc' := 33) (j := 1) (by decide +kernel) rfl rfl <| h.elim fun c4 h => z_caload (pc' := 34) (by decide +kernel) hx.tx.a0 c4 rfl <| h.elim fun c5 h => h.elim fun c6 h => z_ireturn (by decide +kernel) (am_rc c5 c6) h) (fun h => h.elim fun c7 h => z_throw (is := 228) (text := "there is no such place") th_IndexOutOfBoundsException (amT5 (i := 106) rfl) rfl (by decide +kernel) (by decide +kernel) (Or.inl ⟨(by decide +kernel), (by decide +kernel), (by decide +kernel)⟩) (by omega) (am_le rfl) c7 h))))
noncomputable def cIf {α : Type} (c : Prop) (a b : α) : α := @ite α c (Classical.propDecidable c) a b
theorem cIf_p {α : Type} {c : Prop} {a b : α} (h : c) : cIf c a b = a := @if_pos c (Classical.propDecidable c) h α a b
theorem cIf_f {α : Type} {c : Prop} {a b : α} (h : ¬ c) : cIf c a b = b := @if_neg c (Classical.propDecidable c) h α a b
/-! ===== what the class' call ends with ===== -/
def eN : String := "java/util/NoSuchElementException"
def eA : String := "java/lang/IllegalArgumentException"
def eT : String := "java/lang/IllegalStateException"
def eU : String := "java/lang/UnsupportedOperationException"
def eI : String := "java/lang/IndexOutOfBoundsException"
def eR' : String := "java/lang/ArithmeticException"
def E3 (a b c : String) : Nat → String := fun n => if n = 1 then a else if n = 2 then b else c
def rC (Z : Zm) (E : Nat → String) (f : Int → Value) (o : Ou) : Rv → Zm → Prop := fun r Z' => r = rO E f o ∧ IC Z' o.2.2 ∧ zF cF 1 6 Z Z'
theorem IC.cC {Z : Zm} {σ : St} (h : IC Z σ) (k n w : Nat) : IC (zC Z k n w) σ := h.fr0 (S := zNo) zF_C (fun _ g => g.elim) fun _ _ _ g => g
theorem zF.cf {S : Nat → Prop} {c w : Nat} {Z Z' : Zm} (f : zF S c w Z Z') (hs : ∀ a, S a → a < 300) (hc : c ≤ 1) (hw : w ≤ 6) : zF cF 1 6 Z Z' := f.mono hs hc hw
theorem zF_cI {Z : Zm} {a : Nat} {f : Nat → Int} (h : a < 300) : zF cF 0 0 Z (zSI Z a f) := zF_I h
theorem rC.no {Z : Zm} {E : Nat → String} {f : Int → Value} {σ : St} {c : Nat} {v : Int} {ci : Nat} {s : String} (h : IC Z σ) (hc : c ≠ 0) (hs : E c = s) : rC Z E f (c, v, σ) (.inr s) (zC Z ci 0 6) := ⟨by rw [← hs]; exact (if_neg hc).symm, h.cC _ _ _, zF_C⟩
theorem rC.ok {Z Z' : Zm} {E : Nat → String} {f : Int → Value} {σ : St} {v v' : Int} (h : IC Z' σ) (fr : zF cF 1 6 Z Z') (e : v' = v) : rC Z E f (0, v, σ) (.inl (some (f v'))) Z' := ⟨by rw [e]; rfl, h, fr⟩
theorem rC.st {Z : Zm} {E : Nat → String} {f : Int → Value} {σ : St} {v v' : Int} (h : IC Z σ) (e : v' = v) : rC Z E f (0, v, σ) (.inl (some (f v'))) Z := rC.ok h (zF.refl.mono (fun _ g => g) (Nat.zero_le _) (Nat.zero_le _)) e
theorem IC.keep2 {W V : Zm} {σ : St} {k : Bk} (hc : IC W (stKeep σ)) (hn : cNo W) (f : zF (zBk 1) 0 0 W V) (hk : cB V 1 k) : IC V (stK (stKeep σ) k) := by
  have hx := hc.1
  have e : ∀ a, a < 300 → 20 ≤ a → zI V a = zI W a := fun a g1 g2 => f.i (hx.lt a g1) (by unfold zBk zB; omega)
  exact hc.re (k := k) (n := sHn (stKeep σ)) (h := sHb (stKeep σ)) f (fun a g => by unfold zBk zB at g; omega) hk (hc.2.2.1.fr hx f fun a g1 g2 => by unfold zBk zB; omega) (by rw [e 233 (by omega) (by omega)]; exact hn.1) (by rw [e 256 (by omega) (by omega)]; exact hn.2)
/-! ===== the book ===== -/
noncomputable def o_task (σ : St) (x : Int) : Ou := cIf (1 ≤ x ∧ x ≤ 60) (cIf (kN (sK σ) < 20) (0, kN (sK σ), stK (stKeep σ) (kAdd (sK σ) x)) (2, 0, σ)) (1, 0, σ)
theorem c_task {G : Gx} {Z : Zm} {σ : St} {x : Int} (h : IC Z σ) (ho : okS σ) (hz : zSz Z < 1000000) (hx : R32 x) : ZM G 12 m_X11_task [.ref 0, iv x] Z (rC Z (E3 eA eT "") iv (o_task σ x)) := by
  have hn := ho.1.n
  refine e_X11_task h.1 ⟨hx, ?_⟩
  rw [h.2.1.1]
  unfold o_task
  by_cases c1 : x < 1
  · rw [if_pos c1, cIf_f (by omega)]
    exact ⟨hz, rC.no h (by decide) rfl⟩
  · rw [if_neg c1]
    by_cases c2 : x ≤ 60
    · rw [if_pos c2, cIf_p (by omega)]
      refine ⟨by omega, ?_⟩
      by_cases c3 : kN (sK σ) < 20
      · rw [if_pos (by omega), cIf_p c3]
        refine ((s_keepBook h ho).deeper (by omega)).mono ?_
        rintro r W ⟨rfl, f, n, hw⟩
        refine b_X11_task_47 hw.1 (((s_addTask hw.1.bk hw.2.1 c3).deeper (by omega)).mono ?_)
        rintro r V ⟨rfl, f2, w⟩
        exact b_X11_task_55 (hw.1.ext f2.1) (rC.ok (hw.keep2 n f2 w) ((f.trans (f2.mono (fun a g => by unfold zBk zB at g; show a < 300; omega) (Nat.le_refl _) (Nat.le_refl _))).mono (fun _ g => g) (by omega) (by omega)) rfl)
      · rw [if_neg (by omega), cIf_f c3]
        exact ⟨hz, rC.no h (by decide) rfl⟩
    · rw [if_neg c2, cIf_f (by omega)]
      exact ⟨hz, rC.no h (by decide) rfl⟩
def kSet (k : Bk) (r t : Nat) (x : Int) : Bk := (kN k, kM k, fun i j => if i = r ∧ j = t then x else kF k i j, kE k, kL k, kG k)
theorem cB.set {Z : Zm} {k : Bk} {r t : Nat} {x : Int} (h : cB Z 1 k) (hr : r < 12) : cB (zSI Z (3 + r) (zu (zI Z (3 + r)) t x)) 1 (kSet k r t x) := by
  obtain ⟨h1, h2, h3, h4⟩ := h
  refine ⟨by rw [zI_other (by omega)]; exact h1, by rw [zI_other (by omega)]; exact h2, fun i j hi hj => ?_, fun j hj => ?_⟩
  · show _ = (if i = r ∧ j = t then x else kF k i j)
    by_cases c : i = r
    · subst c
      rw [show 1 + 2 + i = 3 + i by omega, zI_same]
      by_cases d : j = t
      · rw [d, zu_same, if_pos ⟨rfl, rfl⟩]
      · rw [zu_other d, if_neg (fun g => d g.2)]
        have := h3 i j hi hj
        rw [show 1 + 2 + i = 3 + i by omega] at this
        exact this
    · rw [zI_other (by omega), if_neg (fun g => c g.1)]
      exact h3 i j hi hj
  · rw [zI_other (by omega), zI_other (by omega), zI_other (by omega)]
    exact h4 j hj
theorem zLow_b : ∀ i, i < 8 → R32 (zLow i) ∧ R32 (zHigh i) := by decide +kernel
noncomputable def o_set (σ : St) (t c x : Int) : Ou := cIf (0 ≤ t ∧ t < kN (sK σ)) (cIf (0 ≤ zIdx 0 c ∧ zLow (zIdx 0 c).toNat ≤ x ∧ x ≤ zHigh (zIdx 0 c).toNat ∧ (zIdx 0 c = 0 → canL (sK σ) t.toNat x)) (0, kF (sK σ) (zIdx 0 c).toNat t.toNat, stK (stKeep σ) (kSet (sK σ) (zIdx 0 c).toNat t.toNat x)) (2, 0, σ)) (1, 0, σ)
theorem c_set {G : Gx} {Z : Zm} {σ : St} {t c x : Int} (h : IC Z σ) (ho : okS σ) (hz : zSz Z < 1000000) (ht : R32 t) (hc : R32 c) (hx : R32 x) : ZM G 12 m_X11_set [.ref 0, iv t, iv c, iv x] Z (rC Z (E3 eN eA "") iv (o_set σ t c x)) := by
  have hn := ho.1.n
  have hr := zIdx_r 0 c
  have hl : zLen 0 = 8 := rfl
  refine e_X11_set h.1 ⟨ht, ?_⟩
  rw [h.2.1.1]
  refine ⟨by omega, hz, ?_⟩
  unfold o_set
  by_cases c1 : 0 ≤ t ∧ t < (kN (sK σ) : Int)
  · rw [if_pos c1, cIf_p c1]
    refine ⟨hc, ?_⟩
    by_cases c2 : 0 ≤ zIdx 0 c
    · rw [if_pos c2]
      have hlo := zLow_b (zIdx 0 c).toNat (by omega)
      refine ⟨⟨c2, by omega, by decide⟩, hx, hlo.1, ?_⟩
      by_cases c3 : x < zLow (zIdx 0 c).toNat
      · rw [if_pos c3, cIf_f (by omega)]
        exact rC.no h (by decide) rfl
      · rw [if_neg c3]
        refine ⟨hlo.2, ?_⟩
        by_cases c4 : x ≤ zHigh (zIdx 0 c).toNat
        · rw [if_pos c4]
          refine ⟨by omega, ?_⟩
          have fin : (zIdx 0 c = 0 → canL (sK σ) t.toNat x) → ZM G 11 m_X11_keepBook [.ref 0] Z (zKc G 12 m_X11_set 73 [some (.ref 0), some (iv t), none, some (iv x), some (iv (zIdx 0 c)), none] [] (rC Z (E3 eN eA "") iv (cIf (0 ≤ zIdx 0 c ∧ zLow (zIdx 0 c).toNat ≤ x ∧ x ≤ zHigh (zIdx 0 c).toNat ∧ (zIdx 0 c = 0 → canL (sK σ) t.toNat x)) (0, kF (sK σ) (zIdx 0 c).toNat t.toNat, stK (stKeep σ) (kSet (sK σ) (zIdx 0 c).toNat t.toNat x)) (2, 0, σ)))) := fun hcl => by
            rw [cIf_p ⟨c2, by omega, c4, hcl⟩]
            refine ((s_keepBook h ho).deeper (by omega)).mono ?_
            rintro r W ⟨rfl, f, n, hw⟩
            refine b_X11_set_73 hw.1 ⟨⟨c2, by omega, by decide⟩, ⟨c1.1, by omega, by decide⟩, ?_⟩
            rintro _ rfl
            have fw : zF (zBk 1) 0 0 W (zSI W (3 + (zIdx 0 c).toNat) (zu (zI W (3 + (zIdx 0 c).toNat)) t.toNat x)) := zF_I ⟨by omega, by omega⟩
            refine rC.ok (hw.keep2 n fw (hw.2.1.set (by omega))) ((f.trans (fw.mono (fun a g => by unfold zBk zB at g; show a < 300; omega) (Nat.le_refl _) (Nat.le_refl _))).mono (fun _ g => g) (by omega) (by omega)) ?_
            have := hw.2.1.2.2.1 (zIdx 0 c).toNat t.toNat (by omega) (by show t.toNat < kN (sK σ); omega)
            rw [show 1 + 2 + (zIdx 0 c).toNat = 3 + (zIdx 0 c).toNat by omega] at this
            exact this
          by_cases c5 : zIdx 0 c = 0
          · rw [if_pos c5]
            have ha := (s_canBeLong (G := G) (t := t.toNat) h.1.bk h.2.1 ho.1 (by omega) hx).deeper (d' := 11) (by omega)
            rw [Int.toNat_of_nonneg c1.1] at ha
            refine ha.mono ?_
            rintro r W ⟨⟨rfl, hcl⟩ | ⟨rfl, hcl⟩, rfl⟩
            · exact b_X11_set_56 h.1 ⟨by decide, by rw [if_neg (by decide)]; exact fin fun _ => hcl⟩
            · refine b_X11_set_56 h.1 ⟨by decide, ?_⟩
              rw [if_pos rfl, cIf_f (fun g => hcl (g.2.2.2 c5))]
              exact ⟨hz, rC.no h (by decide) rfl⟩
          · rw [if_neg c5]
            exact fin fun g => absurd g c5
        · rw [if_neg c4, cIf_f (by omega)]
          exact rC.no h (by decide) rfl
    · rw [if_neg c2, cIf_f (by omega)]
      exact rC.no h (by decide) rfl
  · rw [if_neg c1, cIf_f c1]
    exact rC.no h (by decide) rfl
noncomputable def o_of (σ : St) (t c : Int) : Ou := cIf (0 ≤ t ∧ t < kN (sK σ)) (cIf (0 ≤ zIdx 0 c) (0, kF (sK σ) (zIdx 0 c).toNat t.toNat, σ) (2, 0, σ)) (1, 0, σ)
theorem c_of {G : Gx} {Z : Zm} {σ : St} {t c : Int} (h : IC Z σ) (ho : okS σ) (hz : zSz Z < 1000000) (ht : R32 t) (hc : R32 c) : ZM G 12 m_X11_of [.ref 0, iv t, iv c] Z (rC Z (E3 eN eA "") iv (o_of σ t c)) := by
  have hn := ho.1.n
  have hr := zIdx_r 0 c
  have hl : zLen 0 = 8 := rfl
  refine e_X11_of h.1 ⟨ht, ?_⟩
  rw [h.2.1.1]
  refine ⟨by omega, hz, ?_⟩
  unfold o_of
  by_cases c1 : 0 ≤ t ∧ t < (kN (sK σ) : Int)
  · rw [if_pos c1, cIf_p c1]
    refine ⟨hc, ?_⟩
    by_cases c2 : 0 ≤ zIdx 0 c
    · rw [if_pos c2, cIf_p c2]
      refine ⟨⟨c2, by omega, by decide⟩, ⟨c1.1, by omega, by decide⟩, rC.st h ?_⟩
      have := h.2.1.2.2.1 (zIdx 0 c).toNat t.toNat (by omega) (by omega)
      rw [show 1 + 2 + (zIdx 0 c).toNat = 3 + (zIdx 0 c).toNat by omega] at this
      exact this
    · rw [if_neg c2, cIf_f c2]
      exact rC.no h (by decide) rfl
  · rw [if_neg c1, cIf_f c1]
    exact rC.no h (by decide) rfl
def o_tasks (σ : St) : Ou := (0, kN (sK σ), σ)
theorem c_tasks {G : Gx} {Z : Zm} {σ : St} (h : IC Z σ) : ZM G 12 m_X11_tasks [.ref 0] Z (rC Z (E3 "" "" "") iv (o_tasks σ)) := e_X11_tasks h.1 (rC.st h h.2.1.1)
def o_needs (σ : St) : Ou := (0, kM (sK σ), σ)
theorem c_needs {G : Gx} {Z : Zm} {σ : St} (h : IC Z σ) : ZM G 12 m_X11_needs [.ref 0] Z (rC Z (E3 "" "" "") iv (o_needs σ)) := e_X11_needs h.1 (rC.st h h.2.1.2.1)
noncomputable def o_need (σ : St) (x y z : Int) : Ou := cIf ((0 ≤ x ∧ x < kN (sK σ)) ∧ 0 ≤ y ∧ y < kN (sK σ)) (cIf ((0 ≤ z ∧ z ≤ 30) ∧ hasB (sK σ) x y = 0 ∧ rgV (sK σ) x.toNat y.toNat ≤ 0) (cIf (kM (sK σ) < 50) (0, kM (sK σ), stK (stKeep σ) (kPut (sK σ) x.toNat y.toNat z)) (3, 0, σ)) (2, 0, σ)) (1, 0, σ)
theorem c_need {G : Gx} {Z : Zm} {σ : St} {x y z : Int} (h : IC Z σ) (ho : okS σ) (hz : zSz Z < 1000000) (hx : R32 x) (hy : R32 y) (hg : R32 z) : ZM G 12 m_X11_need [.ref 0, iv x, iv y, iv z] Z (rC Z (E3 eN eA eT) iv (o_need σ x y z)) := by
  have hn := ho.1.n
  have hm := ho.1.m
  refine e_X11_need h.1 ⟨hx, ?_⟩
  rw [h.2.1.1]
  refine ⟨by omega, hz, ?_⟩
  unfold o_need
  by_cases c1 : 0 ≤ x ∧ x < (kN (sK σ) : Int)
  · rw [if_pos c1]
    refine ⟨hy, ?_⟩
    by_cases c2 : 0 ≤ y ∧ y < (kN (sK σ) : Int)
    · rw [if_pos c2, cIf_p (show _ ∧ _ from ⟨c1, c2⟩)]
      refine ⟨hg, ?_⟩
      by_cases c3 : z < 0
      · rw [if_pos c3, cIf_f (by omega)]
        exact rC.no h (by decide) rfl
      · rw [if_neg c3]
        by_cases c4 : z ≤ 30
        · rw [if_pos c4]
          refine ((s_hasNeed h.1.bk h.2.1 ho.1 hx hy).deeper (by omega)).mono ?_
          rintro r Y ⟨rfl, rfl⟩
          refine b_X11_need_39 h.1 ⟨b01_r (hasB_01 _ _ _), ?_⟩
          by_cases c5 : hasB (sK σ) x y = 0
          · rw [if_pos c5]
            have ha := (s_ringSize (G := G) (x := x.toNat) (y := y.toNat) h.1.bk h.2.1 ho.1 (by omega) (by omega)).deeper (d' := 11) (by omega)
            rw [Int.toNat_of_nonneg c1.1, Int.toNat_of_nonneg c2.1] at ha
            refine ha.mono ?_
            rintro r W ⟨rfl, f⟩
            have hw : IC W σ := h.fr0 f (fun a g => by unfold zB at g; unfold scr; omega) fun a g1 g2 => by unfold zB; omega
            have fc : zF cF 0 0 Y W := f.mono (fun a g => by unfold zB at g; show a < 300; omega) (Nat.le_refl _) (Nat.le_refl _)
            have hr := rgV_r (k := sK σ) (x := x.toNat) (y := y.toNat) (by omega)
            have hzw : zSz W < 1000000 := by have := f.2.1.1; omega
            refine b_X11_need_61 hw.1 ⟨by omega, ?_⟩
            rw [hw.2.1.2.1]
            have thr : ∀ (c : Nat) (v : Int) (ci : Nat) (s : String), c ≠ 0 → E3 eN eA eT c = s → rC Y (E3 eN eA eT) iv (c, v, σ) (.inr s) (zC W ci 0 6) := fun c v ci s hc hs => ⟨by rw [← hs]; exact (if_neg hc).symm, hw.cC _ _ _, (fc.trans zF_C).mono (fun _ g => g) (by omega) (by omega)⟩
            by_cases c6 : rgV (sK σ) x.toNat y.toNat ≤ 0
            · rw [if_pos c6, cIf_p (show _ ∧ _ ∧ _ from ⟨by omega, c5, c6⟩)]
              refine ⟨by omega, ?_⟩
              by_cases c7 : kM (sK σ) < 50
              · rw [if_pos (by omega), cIf_p c7]
                refine ((s_keepBook hw ho).deeper (by omega)).mono ?_
                rintro r V ⟨rfl, f1, n, hv⟩
                have hb := (s_addNeed (G := G) (x := x.toNat) (y := y.toNat) (z := z) hv.1.bk hv.2.1 c7).deeper (d' := 11) (by omega)
                rw [Int.toNat_of_nonneg c1.1, Int.toNat_of_nonneg c2.1] at hb
                refine b_X11_need_100 hv.1 (hb.mono ?_)
                rintro r U ⟨rfl, f2, w⟩
                exact b_X11_need_110 (hv.1.ext f2.1) (rC.ok (hv.keep2 n f2 w) (((fc.trans f1).trans (f2.mono (fun a g => by unfold zBk zB at g; show a < 300; omega) (Nat.le_refl _) (Nat.le_refl _))).mono (fun _ g => g) (by omega) (by omega)) rfl)
              · rw [if_neg (by omega), cIf_f c7]
                exact ⟨hzw, thr 3 0 _ _ (by decide) rfl⟩
            · rw [if_neg c6, cIf_f (fun g => c6 g.2.2)]
              exact ⟨hzw, thr 2 0 _ _ (by decide) rfl⟩
          · rw [if_neg c5, cIf_f (fun g => c5 g.2.1)]
            exact ⟨hz, rC.no h (by decide) rfl⟩
        · rw [if_neg c4, cIf_f (by omega)]
          exact rC.no h (by decide) rfl
    · rw [if_neg c2, cIf_f (fun g => c2 g.2)]
      exact rC.no h (by decide) rfl
  · rw [if_neg c1, cIf_f (fun g => c1 g.1)]
    exact rC.no h (by decide) rfl
noncomputable def o_dropNeed (σ : St) (x : Int) : Ou := cIf (0 ≤ x ∧ x < kM (sK σ)) (0, kM (sK σ) - 1, stK (stKeep σ) (kDel (sK σ) x.toNat)) (1, 0, σ)
theorem c_dropNeed {G : Gx} {Z : Zm} {σ : St} {x : Int} (h : IC Z σ) (ho : okS σ) (hz : zSz Z < 1000000) (hx : R32 x) : ZM G 12 m_X11_dropNeed [.ref 0, iv x] Z (rC Z (E3 eN "" "") iv (o_dropNeed σ x)) := by
  have hm := ho.1.m
  refine e_X11_dropNeed h.1 ⟨hx, ?_⟩
  rw [h.2.1.2.1]
  refine ⟨by omega, hz, ?_⟩
  unfold o_dropNeed
  by_cases c1 : 0 ≤ x ∧ x < (kM (sK σ) : Int)
  · rw [if_pos c1, cIf_p c1]
    refine ((s_keepBook h ho).deeper (by omega)).mono ?_
    rintro r W ⟨rfl, f, n, hw⟩
    have ha := (s_removeNeed (G := G) (i := x.toNat) hw.1.bk hw.2.1 ho.1 (by show x.toNat < kM (sK σ); omega)).deeper (d' := 11) (by omega)
    rw [Int.toNat_of_nonneg c1.1] at ha
    refine b_X11_dropNeed_9 hw.1 (ha.mono ?_)
    rintro r V ⟨rfl, f2, w⟩
    refine b_X11_dropNeed_17 (hw.1.ext f2.1) (rC.ok (hw.keep2 n f2 w) ((f.trans (f2.mono (fun a g => by unfold zBk zB at g; show a < 300; omega) (Nat.le_refl _) (Nat.le_refl _))).mono (fun _ g => g) (by omega) (by omega)) ?_)
    rw [w.2.1]
    show ((kM (sK σ) - 1 : Nat) : Int) = _
    omega
  · rw [if_neg c1, cIf_f c1]
    exact rC.no h (by decide) rfl
noncomputable def o_needAt (σ : St) (x c : Int) : Ou := cIf (0 ≤ x ∧ x < kM (sK σ)) (cIf (0 ≤ zIdx 1 c) (0, if zIdx 1 c = 0 then (kE (sK σ) x.toNat : Int) else if zIdx 1 c = 1 then (kL (sK σ) x.toNat : Int) else kG (sK σ) x.toNat, σ) (2, 0, σ)) (1, 0, σ)
theorem c_needAt {G : Gx} {Z : Zm} {σ : St} {x c : Int} (h : IC Z σ) (ho : okS σ) (hz : zSz Z < 1000000) (hx : R32 x) (hc : R32 c) : ZM G 12 m_X11_needAt [.ref 0, iv x, iv c] Z (rC Z (E3 eN eA "") iv (o_needAt σ x c)) := by
  have hm := ho.1.m
  have hr := zIdx_r 1 c
  have hl : zLen 1 = 3 := rfl
  refine e_X11_needAt h.1 ⟨hx, ?_⟩
  rw [h.2.1.2.1]
  refine ⟨by omega, hz, ?_⟩
  unfold o_needAt
  by_cases c1 : 0 ≤ x ∧ x < (kM (sK σ) : Int)
  · rw [if_pos c1, cIf_p c1]
    refine ⟨hc, zIdx_r32 _ _, ?_⟩
    by_cases c2 : 0 ≤ zIdx 1 c
    · rw [if_pos c2, cIf_p c2]
      refine ⟨⟨c2, by omega, by decide⟩, ⟨c1.1, by omega, by decide⟩, rC.st h ?_⟩
      obtain ⟨e1, e2, e3⟩ := h.2.1.2.2.2 x.toNat (by omega)
      have h3 : zIdx 1 c = 0 ∨ zIdx 1 c = 1 ∨ zIdx 1 c = 2 := by omega
      rcases h3 with e | e | e
      · rw [e]
        exact e1
      · rw [e]
        exact e2
      · rw [e]
        exact e3
    · rw [if_neg c2, cIf_f c2]
      exact rC.no h (by decide) rfl
  · rw [if_neg c1, cIf_f c1]
    exact rC.no h (by decide) rfl
noncomputable def o_ring (σ : St) (x y : Int) : Ou := cIf ((0 ≤ x ∧ x < kN (sK σ)) ∧ 0 ≤ y ∧ y < kN (sK σ)) (0, rgV (sK σ) x.toNat y.toNat, σ) (1, 0, σ)
theorem c_ring {G : Gx} {Z : Zm} {σ : St} {x y : Int} (h : IC Z σ) (ho : okS σ) (hz : zSz Z < 1000000) (hx : R32 x) (hy : R32 y) : ZM G 12 m_X11_ring [.ref 0, iv x, iv y] Z (rC Z (E3 eN "" "") iv (o_ring σ x y)) := by
  have hn := ho.1.n
  refine e_X11_ring h.1 ⟨hx, ?_⟩
  rw [h.2.1.1]
  refine ⟨by omega, hz, ?_⟩
  unfold o_ring
  by_cases c1 : 0 ≤ x ∧ x < (kN (sK σ) : Int)
  · rw [if_pos c1]
    refine ⟨hy, ?_⟩
    by_cases c2 : 0 ≤ y ∧ y < (kN (sK σ) : Int)
    · rw [if_pos c2, cIf_p (show _ ∧ _ from ⟨c1, c2⟩)]
      have ha := (s_ringSize (G := G) (x := x.toNat) (y := y.toNat) h.1.bk h.2.1 ho.1 (by omega) (by omega)).deeper (d' := 11) (by omega)
      rw [Int.toNat_of_nonneg c1.1, Int.toNat_of_nonneg c2.1] at ha
      refine ha.mono ?_
      rintro r W ⟨rfl, f⟩
      have hw : IC W σ := h.fr0 f (fun a g => by unfold zB at g; unfold scr; omega) fun a g1 g2 => by unfold zB; omega
      exact b_X11_ring_19 hw.1 (rC.ok hw (f.cf (fun a g => by unfold zB at g; omega) (by omega) (by omega)) rfl)
    · rw [if_neg c2, cIf_f (fun g => c2 g.2)]
      exact rC.no h (by decide) rfl
  · rw [if_neg c1, cIf_f (fun g => c1 g.1)]
    exact rC.no h (by decide) rfl
noncomputable def o_undo (σ : St) : Ou := cIf (sHn σ = 0) (1, 0, σ) (0, sHn σ - 1, stBack σ)
theorem IC.typed {Z : Zm} {σ : St} (h : IC Z σ) : IC (zSI Z 0 (zu (zI Z 0) 8 0)) (stT σ 0 (sTs σ)) := by
  have f : zF (fun a => a = 0) 0 0 Z (zSI Z 0 (zu (zI Z 0) 8 0)) := zF_I rfl
  have e : ∀ a, a ≠ 0 → zI (zSI Z 0 (zu (zI Z 0) 8 0)) a = zI Z a := fun a g => zI_other g
  obtain ⟨h0, h1, h2, h3, h4, h5, h6, h7, h8, h9⟩ := h
  refine ⟨h0.ext f.1, h1.fr h0 f (by omega) (fun a g1 g2 => by omega), h2.fr h0 f (fun a g1 g2 => by omega), ?_, cN.keep h4 h0 f (fun a g1 g2 => by omega), fun c q g1 g2 => ?_, ?_, ⟨?_, fun i hi => absurd hi (Nat.not_lt_zero _)⟩, ?_, ?_⟩
  · rw [e 231 (by omega), e 232 (by omega)]
    exact h3
  · rw [e (246 + c) (by omega)]
    exact h5 c q g1 g2
  · rw [e 252 (by omega)]
    exact h6
  · rw [zI_same, zu_same]
    rfl
  · rw [cPl, e 256 (by omega), e 257 (by omega), e 259 (by omega), e 260 (by omega), e 261 (by omega), e 264 (by omega), e 265 (by omega)]
    exact h8
  · rw [zI_same, zu_other (by decide), e 276 (by omega)]
    exact h9
theorem c_undo {G : Gx} {Z : Zm} {σ : St} (h : IC Z σ) (ho : okS σ) (hz : zSz Z < 1000000) : ZM G 12 m_X11_undo [.ref 0] Z (rC Z (E3 eN "" "") iv (o_undo σ)) := by
  have hh := ho.2.1
  refine e_X11_undo h.1 ?_
  rw [h.2.2.1.1]
  refine ⟨by omega, ?_⟩
  unfold o_undo
  by_cases c1 : sHn σ = 0
  · rw [if_pos (by omega), cIf_p c1]
    exact ⟨hz, rC.no h (by decide) rfl⟩
  · rw [if_neg (by omega), cIf_f c1]
    refine ((s_takeBack h.1 (hh.2 0 (by omega)) h.2.2.1 ⟨by omega, hh.1⟩).deeper (by omega)).mono ?_
    rintro r W ⟨rfl, f, w1, w2⟩
    have hxw := h.1.ext f.1
    refine b_X11_undo_31 hxw (((s_leave hxw).deeper (by omega)).mono ?_)
    rintro r V ⟨rfl, f2, v1, v2⟩
    have hxv := hxw.ext f2.1
    refine b_X11_undo_35 hxv ?_
    rintro _ rfl
    have f3 : zF (fun a => a = 39 ∨ zBk 1 a ∨ a = 233 ∨ a = 256) 0 0 Z V := (f.mono (fun a g => by rcases g with g | g; exact Or.inl g; exact Or.inr (Or.inl g)) (Nat.le_refl _) (Nat.le_refl _)).trans (f2.mono (fun a g => Or.inr (Or.inr g)) (Nat.le_refl _) (Nat.le_refl _))
    have hv := h.re (k := sHb σ 0) (n := sHn σ - 1) (h := fun i => sHb σ (i + 1)) f3 (fun a g => by unfold zBk zB at g; omega) (w1.fr hxw f2 (by omega) fun a g1 g2 => by omega) (w2.fr hxw f2 fun a g1 g2 => by omega) v1 v2
    have f4 : zF cF 0 0 Z V := f3.mono (fun a g => by unfold zBk zB at g; show a < 300; omega) (Nat.le_refl _) (Nat.le_refl _)
    refine rC.ok hv.typed ((f4.trans (zF_cI (by omega))).mono (fun _ g => g) (by omega) (by omega)) ?_
    rw [zI_other (by omega), hv.2.2.1.1]
    show ((sHn σ - 1 : Nat) : Int) = _
    omega
/-! ===== the text ===== -/
theorem IC.text {Z : Zm} {σ : St} {n : Nat} {x : Nat → Int} {f g : Nat → Int} (h : IC Z σ) (h1 : g 1 = (n : Int)) (h2 : ∀ i, i < n → f i = x i) : IC (zSI (zSI Z 232 f) 231 g) (stX σ n x) := by
  have fr : zF (fun a => a = 232 ∨ a = 231) 0 0 Z (zSI (zSI Z 232 f) 231 g) := (zF_I (Or.inl rfl)).trans (zF_I (Or.inr rfl))
  have e : ∀ a, a ≠ 231 → a ≠ 232 → zI (zSI (zSI Z 232 f) 231 g) a = zI Z a := fun a g1 g2 => by rw [zI_other g1, zI_other g2]
  obtain ⟨h0, h1', h2', h3, h4, h5, h6, h7, h8, h9⟩ := h
  refine ⟨h0.ext fr.1, h1'.fr h0 fr (by omega) (fun a g1 g2 => by omega), h2'.fr h0 fr (fun a g1 g2 => by omega), ?_, cN.keep h4 h0 fr (fun a g1 g2 => by omega), fun c q g1 g2 => ?_, ?_, ?_, ?_, ?_⟩
  · rw [zI_same, zI_other (by omega), zI_same]
    exact ⟨h1, h2⟩
  · rw [e (246 + c) (by omega) (by omega)]
    exact h5 c q g1 g2
  · rw [e 252 (by omega) (by omega)]
    exact h6
  · rw [e 0 (by omega) (by omega), e 253 (by omega) (by omega)]
    exact h7
  · rw [cPl, e 256 (by omega) (by omega), e 257 (by omega) (by omega), e 259 (by omega) (by omega), e 260 (by omega) (by omega), e 261 (by omega) (by omega), e 264 (by omega) (by omega), e 265 (by omega) (by omega)]
    exact h8
  · rw [e 0 (by omega) (by omega), e 276 (by omega) (by omega)]
    exact h9
noncomputable def o_type (σ : St) (c : Int) : Ou := cIf (32 ≤ c ∧ c ≤ 126) (cIf (sXn σ < 80) (0, sXn σ + 1, stX σ (sXn σ + 1) (zu (sXs σ) (sXn σ) c)) (2, 0, σ)) (1, 0, σ)
theorem c_type {G : Gx} {Z : Zm} {σ : St} {c : Int} (h : IC Z σ) (ho : okS σ) (hz : zSz Z < 1000000) (hc : R32 c) : ZM G 12 m_X11_type [.ref 0, iv c] Z (rC Z (E3 eA eT "") iv (o_type σ c)) := by
  have hn := ho.2.2.1.1
  obtain ⟨t1, t2⟩ := h.2.2.2.1
  refine e_X11_type h.1 ⟨hc, ?_⟩
  rw [t1]
  unfold o_type
  by_cases c1 : c < 32
  · rw [if_pos c1, cIf_f (by omega)]
    exact ⟨hz, rC.no h (by decide) rfl⟩
  · rw [if_neg c1]
    by_cases c2 : c ≤ 126
    · rw [if_pos c2, cIf_p (by omega)]
      refine ⟨by omega, ?_⟩
      by_cases c3 : sXn σ < 80
      · rw [if_pos (by omega), cIf_p c3]
        refine ⟨zIx_nat (by omega) (by omega), by omega, by omega, ?_⟩
        rintro _ rfl _ rfl
        refine rC.ok (h.text ?_ fun i hi => ?_) (((zF_cI (by omega)).trans (zF_cI (by omega))).mono (fun _ g => g) (by omega) (by omega)) ?_
        · rw [zu_same, zI_other (by omega), t1]
          omega
        · rw [Int.toNat_natCast]
          unfold zu
          by_cases d : i = sXn σ
          · rw [if_pos d, if_pos d]
          · rw [if_neg d, if_neg d]
            exact t2 i (by omega)
        · rw [zI_same, zu_same, zI_other (by omega), t1]
      · rw [if_neg (by omega), cIf_f c3]
        exact ⟨hz, rC.no h (by decide) rfl⟩
    · rw [if_neg c2, cIf_f (by omega)]
      exact ⟨hz, rC.no h (by decide) rfl⟩
def o_erase (σ : St) : Ou := (0, sXn σ, stX σ 0 (sXs σ))
theorem c_erase {G : Gx} {Z : Zm} {σ : St} (h : IC Z σ) : ZM G 12 m_X11_erase [.ref 0] Z (rC Z (E3 "" "" "") iv (o_erase σ)) := by
  refine e_X11_erase h.1 ?_
  rintro _ rfl
  have h1 := h.text (n := 0) (x := sXs σ) (f := zI Z 232) (g := zu (zI Z 231) 1 0) (zu_same _ _ _) fun i hi => absurd hi (Nat.not_lt_zero _)
  rw [zSI_id] at h1
  exact rC.ok h1 ((zF_cI (by omega)).mono (fun _ g => g) (by omega) (by omega)) h.2.2.2.1.1
noncomputable def o_signAt (σ : St) (x : Int) : Ou := cIf (0 ≤ x ∧ x < sXn σ) (0, sXs σ x.toNat, σ) (1, 0, σ)
theorem c_signAt {G : Gx} {Z : Zm} {σ : St} {x : Int} (h : IC Z σ) (ho : okS σ) (hz : zSz Z < 1000000) (hx : R32 x) : ZM G 12 m_X11_signAt [.ref 0, iv x] Z (rC Z (E3 eI "" "") iv (o_signAt σ x)) := by
  have hn := ho.2.2.1
  obtain ⟨t1, t2⟩ := h.2.2.2.1
  refine e_X11_signAt h.1 ⟨hx, ?_⟩
  rw [t1]
  unfold o_signAt
  by_cases c1 : x < 0
  · rw [if_pos c1, cIf_f (by omega)]
    exact ⟨hz, rC.no h (by decide) rfl⟩
  · rw [if_neg c1]
    refine ⟨by omega, ?_⟩
    by_cases c2 : x < (sXn σ : Int)
    · have e := t2 x.toNat (by omega)
      have b := hn.2 x.toNat (by omega)
      rw [if_pos c2, cIf_p (by omega), e]
      exact ⟨⟨by omega, by omega, by decide⟩, by omega, by omega, rC.st h rfl⟩
    · rw [if_neg c2, cIf_f (by omega)]
      exact ⟨hz, rC.no h (by decide) rfl⟩
