set_option maxRecDepth 20000 in
theorem e_X3_put {G : Gx} {Q : Rv → Zm → Prop} {Z : Zm} {q : Nat} {b : Nat} (hq : atHist Z q) (hb : atBook Z b) (h : ((zIx (zI Z q 2) 10) ∧ ZM G 1 m_X0_becomeLike [.ref (q + 2 + 19 * (zI Z q 2).toNat), .ref b] Z (zKc G 2 m_X3_put 13 [some (.ref q), none] [] Q))) : ZM G 2 m_X3_put [.ref q, .ref b] Z Q := ZM.of [some (.ref q), some (.ref b)] rfl <| z_aload_n (pc' := 1) (j := 0) (by decide +kernel) rfl rfl <| z_getR (pc' := 4) (idx := 11) (ci := 3) (f := 0) (by decide +kernel) f_RX3_11 rfl hq.o.1 hq.o.2 hq.r0 rfl <| z_aload_n (pc' := 5) (j := 0) (by decide +kernel) rfl rfl <| z_getI (pc' := 8) (idx := 18) (ci := 3) (f := 2) (by decide +kernel) f_RX3_18 rfl hq.o.1 hq.o.2 rfl <| h.elim fun c1 h => z_aaload122 (pc' := 9) (by decide +kernel) hq.a0 c1 (hq.e0 _ c1.n) rfl <| z_aload_n (pc' := 10) (j := 1) (by decide +kernel) rfl rfl <| z_callV (pc' := 13) (idx := 22) (mj := m_X0_becomeLike) (av := [.ref b]) (d' := 1) (by decide +kernel) rfl k_X0_becomeLike l_RX3_22 rfl (by omega) (am_le rfl) rfl (am_le rfl) (hq.x0 _ c1.n).o.1 (hq.x0 _ c1.n).o.2 rfl (ZM.mono h (zKc_wk (wk_some (wk_none wk_nil))))
set_option maxRecDepth 20000 in
theorem b_X3_put_13 {G : Gx} {Q : Rv → Zm → Prop} {Z : Zm} {q : Nat} {b : Nat}  (hq : atHist Z q) (hb : atBook Z b) (h : ((R32 ((zI Z q 2) + 1)) ∧ (0 ≤ ((zI Z q 2) + 1)) ∧ ∀ Z3, Z3 = zSI Z q (zu (zI Z q) 2 (((zI Z q 2) + 1) % 10)) → (R32 ((zI Z3 q 1) + 1)) ∧ ∀ Z5, Z5 = zSI Z3 q (zu (zI Z3 q) 1 (min ((zI Z3 q 1) + 1) 10)) → Q (.inl none) Z5)) : ZP G 2 m_X3_put 13 [some (.ref q), none] [] Z Q := z_aload_n (pc' := 14) (j := 0) (by decide +kernel) rfl rfl <| z_aload_n (pc' := 15) (j := 0) (by decide +kernel) rfl rfl <| z_getI (pc' := 18) (idx := 18) (ci := 3) (f := 2) (by decide +kernel) f_RX3_18 rfl hq.o.1 hq.o.2 rfl <| z_iconst (pc' := 19) (n := 1) (by decide +kernel) rfl <| z_iadd (pc' := 20) (by decide +kernel) rfl <| z_bipush (pc' := 22) (n := 10) (by decide +kernel) (by decide) rfl <| h.elim fun c1 h => h.elim fun c2 h => z_irem (pc' := 23) (by decide +kernel) c1 (by decide : R32 10) c2 (by decide) rfl <| z_putI (pc' := 26) (idx := 18) (ci := 3) (f := 2) (by decide +kernel) f_RX3_18 (am_nf rfl rfl) rfl rfl rfl hq.o.1 hq.o.2 rfl <| have h := h _ rfl; z_aload_n (pc' := 27) (j := 0) (by decide +kernel) rfl rfl <| z_aload_n (pc' := 28) (j := 0) (by decide +kernel) rfl rfl <| z_getI (pc' := 31) (idx := 26) (ci := 3) (f := 1) (by decide +kernel) f_RX3_26 rfl hq.o.1 hq.o.2 rfl <| z_iconst (pc' := 32) (n := 1) (by decide +kernel) rfl <| z_iadd (pc' := 33) (by decide +kernel) rfl <| z_bipush (pc' := 35) (n := 10) (by decide +kernel) (by decide) rfl <| h.elim fun c4 h => z_min (pc' := 38) (idx := 29) (by decide +kernel) (amM3 72 rfl (by decide +kernel)) (amM3 35 rfl (by decide +kernel)) (amM1 21 rfl (by decide +kernel)) (amM3 36 rfl (by decide +kernel)) (by omega) (am_le rfl) c4 (by decide : R32 10) rfl <| z_putI (pc' := 41) (idx := 26) (ci := 3) (f := 1) (by decide +kernel) f_RX3_26 (am_nf rfl rfl) rfl rfl rfl hq.o.1 hq.o.2 rfl <| have h := h _ rfl; z_ret (by decide +kernel) rfl h
set_option maxRecDepth 20000 in
theorem e_X3_takeBack {G : Gx} {Q : Rv → Zm → Prop} {Z : Zm} {q : Nat} {b : Nat} (hq : atHist Z q) (hb : atBook Z b) (h : ((R32 (((zI Z q 2) + 10) - 1)) ∧ (0 ≤ (((zI Z q 2) + 10) - 1)) ∧ ∀ Z3, Z3 = zSI Z q (zu (zI Z q) 2 ((((zI Z q 2) + 10) - 1) % 10)) → ∀ Z4, Z4 = zSI Z3 q (zu (zI Z3 q) 1 ((zI Z3 q 1) - 1)) → (zIx (zI Z4 q 2) 10) ∧ ZM G 1 m_X0_becomeLike [.ref b, .ref (q + 2 + 19 * (zI Z4 q 2).toNat)] Z4 (zKc G 2 m_X3_takeBack 39 [none, none] [] Q))) : ZM G 2 m_X3_takeBack [.ref q, .ref b] Z Q := ZM.of [some (.ref q), some (.ref b)] rfl <| z_aload_n (pc' := 1) (j := 0) (by decide +kernel) rfl rfl <| z_aload_n (pc' := 2) (j := 0) (by decide +kernel) rfl rfl <| z_getI (pc' := 5) (idx := 18) (ci := 3) (f := 2) (by decide +kernel) f_RX3_18 rfl hq.o.1 hq.o.2 rfl <| z_bipush (pc' := 7) (n := 10) (by decide +kernel) (by decide) rfl <| z_iadd (pc' := 8) (by decide +kernel) rfl <| z_iconst (pc' := 9) (n := 1) (by decide +kernel) rfl <| z_isub (pc' := 10) (by decide +kernel) rfl <| z_bipush (pc' := 12) (n := 10) (by decide +kernel) (by decide) rfl <| h.elim fun c1 h => h.elim fun c2 h => z_irem (pc' := 13) (by decide +kernel) c1 (by decide : R32 10) c2 (by decide) rfl <| z_putI (pc' := 16) (idx := 18) (ci := 3) (f := 2) (by decide +kernel) f_RX3_18 (am_nf rfl rfl) rfl rfl rfl hq.o.1 hq.o.2 rfl <| have h := h _ rfl; z_aload_n (pc' := 17) (j := 0) (by decide +kernel) rfl rfl <| z_dup (pc' := 18) (by decide +kernel) rfl rfl <| z_getI (pc' := 21) (idx := 26) (ci := 3) (f := 1) (by decide +kernel) f_RX3_26 rfl hq.o.1 hq.o.2 rfl <| z_iconst (pc' := 22) (n := 1) (by decide +kernel) rfl <| z_isub (pc' := 23) (by decide +kernel) rfl <| z_putI (pc' := 26) (idx := 26) (ci := 3) (f := 1) (by decide +kernel) f_RX3_26 (am_nf rfl rfl) rfl rfl rfl hq.o.1 hq.o.2 rfl <| have h := h _ rfl; z_aload_n (pc' := 27) (j := 1) (by decide +kernel) rfl rfl <| z_aload_n (pc' := 28) (j := 0) (by decide +kernel) rfl rfl <| z_getR (pc' := 31) (idx := 11) (ci := 3) (f := 0) (by decide +kernel) f_RX3_11 rfl hq.o.1 hq.o.2 hq.r0 rfl <| z_aload_n (pc' := 32) (j := 0) (by decide +kernel) rfl rfl <| z_getI (pc' := 35) (idx := 18) (ci := 3) (f := 2) (by decide +kernel) f_RX3_18 rfl hq.o.1 hq.o.2 rfl <| h.elim fun c5 h => z_aaload122 (pc' := 36) (by decide +kernel) hq.a0 c5 (hq.e0 _ c5.n) rfl <| z_callV (pc' := 39) (idx := 22) (mj := m_X0_becomeLike) (av := [.ref (q + 2 + 19 * (zI (zSI (zSI Z q (zu (zI Z q) 2 ((((zI Z q 2) + 10) - 1) % 10))) q (zu (zI (zSI Z q (zu (zI Z q) 2 ((((zI Z q 2) + 10) - 1) % 10))) q) 1 ((zI (zSI Z q (zu (zI Z q) 2 ((((zI Z q 2) + 10) - 1) % 10))) q 1) - 1))) q 2).toNat)]) (d' := 1) (by decide +kernel) rfl k_X0_becomeLike l_RX3_22 rfl (by omega) (am_le rfl) rfl (am_le rfl) hb.o.1 hb.o.2 rfl (ZM.mono h (zKc_wk (wk_none (wk_none wk_nil))))
set_option maxRecDepth 20000 in
theorem b_X3_takeBack_39 {G : Gx} {Q : Rv → Zm → Prop} {Z : Zm} {q : Nat} {b : Nat}  (hq : atHist Z q) (hb : atBook Z b) (h : (Q (.inl none) Z)) : ZP G 2 m_X3_takeBack 39 [none, none] [] Z Q := z_ret (by decide +kernel) rfl h
set_option maxRecDepth 20000 in
theorem e_X11_leaveOldBook {G : Gx} {Q : Rv → Zm → Prop} {Z : Zm}  (hx : atAll Z) (h : (∀ Z1, Z1 = zSI Z 256 (zu (zI Z 256) 0 0) → ∀ Z2, Z2 = zSI Z1 233 (zu (zI Z1 233) 0 0) → Q (.inl none) Z2)) : ZM G 0 m_X11_leaveOldBook [.ref 0] Z Q := ZM.of [some (.ref 0)] rfl <| z_aload_n (pc' := 1) (j := 0) (by decide +kernel) rfl rfl <| z_getR (pc' := 4) (idx := 63) (ci := 11) (f := 11) (by decide +kernel) f_RX11_63 rfl hx.o.1 hx.o.2 hx.r11 rfl <| z_iconst (pc' := 5) (n := 0) (by decide +kernel) rfl <| z_putI (pc' := 8) (idx := 348) (ci := 9) (f := 0) (by decide +kernel) f_RX11_348 (am_nf rfl rfl) rfl (iN_narB (Or.inl rfl)) rfl hx.pm.o.1 hx.pm.o.2 rfl <| have h := h _ rfl; z_aload_n (pc' := 9) (j := 0) (by decide +kernel) rfl rfl <| z_getR (pc' := 12) (idx := 36) (ci := 11) (f := 4) (by decide +kernel) f_RX11_36 rfl hx.o.1 hx.o.2 hx.r4 rfl <| z_iconst (pc' := 13) (n := 0) (by decide +kernel) rfl <| z_putI (pc' := 16) (idx := 519) (ci := 7) (f := 0) (by decide +kernel) f_RX11_519 (am_nf rfl rfl) rfl (iN_narB (Or.inl rfl)) rfl hx.nt.o.1 hx.nt.o.2 rfl <| have h := h _ rfl; z_ret (by decide +kernel) rfl h
set_option maxRecDepth 20000 in
theorem e_X11_keepBook {G : Gx} {Q : Rv → Zm → Prop} {Z : Zm}  (hx : atAll Z) (h : (ZM G 2 m_X3_put [.ref 39, .ref 1] Z (zKc G 3 m_X11_keepBook 11 [some (.ref 0)] [] Q))) : ZM G 3 m_X11_keepBook [.ref 0] Z Q := ZM.of [some (.ref 0)] rfl <| z_aload_n (pc' := 1) (j := 0) (by decide +kernel) rfl rfl <| z_getR (pc' := 4) (idx := 22) (ci := 11) (f := 2) (by decide +kernel) f_RX11_22 rfl hx.o.1 hx.o.2 hx.r2 rfl <| z_aload_n (pc' := 5) (j := 0) (by decide +kernel) rfl rfl <| z_getR (pc' := 8) (idx := 10) (ci := 11) (f := 0) (by decide +kernel) f_RX11_10 rfl hx.o.1 hx.o.2 hx.r0 rfl <| z_callV (pc' := 11) (idx := 516) (mj := m_X3_put) (av := [.ref 1]) (d' := 2) (by decide +kernel) rfl k_X3_put l_RX11_516 rfl (by omega) (am_le rfl) rfl (am_le rfl) hx.hi.o.1 hx.hi.o.2 rfl h
set_option maxRecDepth 20000 in
theorem b_X11_keepBook_11 {G : Gx} {Q : Rv → Zm → Prop} {Z : Zm}   (hx : atAll Z) (h : (ZM G 2 m_X11_leaveOldBook [.ref 0] Z (zKc G 3 m_X11_keepBook 15 [none] [] Q))) : ZP G 3 m_X11_keepBook 11 [some (.ref 0)] [] Z Q := z_aload_n (pc' := 12) (j := 0) (by decide +kernel) rfl rfl <| z_callV (pc' := 15) (idx := 211) (mj := m_X11_leaveOldBook) (av := []) (d' := 2) (by decide +kernel) rfl k_X11_leaveOldBook l_RX11_211 rfl (by omega) (am_le rfl) rfl (am_le rfl) hx.o.1 hx.o.2 rfl (ZM.mono h (zKc_wk (wk_none wk_nil)))
set_option maxRecDepth 20000 in
theorem b_X11_keepBook_15 {G : Gx} {Q : Rv → Zm → Prop} {Z : Zm}   (hx : atAll Z) (h : (Q (.inl none) Z)) : ZP G 3 m_X11_keepBook 15 [none] [] Z Q := z_ret (by decide +kernel) rfl h
set_option maxRecDepth 20000 in
theorem e_X11_freshNet {G : Gx} {Q : Rv → Zm → Prop} {Z : Zm}  (hx : atAll Z) (h : ((R32 (zI Z 233 0)) ∧ (if (zI Z 233 0) = 0 then (ZM G 2 m_X7_lay [.ref 233, .ref 1] Z (zKc G 3 m_X11_freshNet 21 [some (.ref 0)] [] Q)) else (ZP G 3 m_X11_freshNet 21 [some (.ref 0)] [] Z Q)))) : ZM G 3 m_X11_freshNet [.ref 0] Z Q := ZM.of [some (.ref 0)] rfl <| z_aload_n (pc' := 1) (j := 0) (by decide +kernel) rfl rfl <| z_getR (pc' := 4) (idx := 36) (ci := 11) (f := 4) (by decide +kernel) f_RX11_36 rfl hx.o.1 hx.o.2 hx.r4 rfl <| z_getI (pc' := 7) (idx := 519) (ci := 7) (f := 0) (by decide +kernel) f_RX11_519 rfl hx.nt.o.1 hx.nt.o.2 rfl <| h.elim fun c1 h => z_if_ne (pc' := 10) (tgt := 21) (off := 14) (by decide +kernel) (by decide) rfl c1 (am_ite h (fun h => z_aload_n (pc' := 11) (j := 0) (by decide +kernel) rfl rfl <| z_getR (pc' := 14) (idx := 36) (ci := 11) (f := 4) (by decide +kernel) f_RX11_36 rfl hx.o.1 hx.o.2 hx.r4 rfl <| z_aload_n (pc' := 15) (j := 0) (by decide +kernel) rfl rfl <| z_getR (pc' := 18) (idx := 10) (ci := 11) (f := 0) (by decide +kernel) f_RX11_10 rfl hx.o.1 hx.o.2 hx.r0 rfl <| z_callV (pc' := 21) (idx := 522) (mj := m_X7_lay) (av := [.ref 1]) (d' := 2) (by decide +kernel) rfl k_X7_lay l_RX11_522 rfl (by omega) (am_le rfl) rfl (am_le rfl) hx.nt.o.1 hx.nt.o.2 rfl h) (fun h => h))
set_option maxRecDepth 20000 in
theorem b_X11_freshNet_21 {G : Gx} {Q : Rv → Zm → Prop} {Z : Zm}   (hx : atAll Z) (h : (Q (.inl (some (.ref 233))) Z)) : ZP G 3 m_X11_freshNet 21 [some (.ref 0)] [] Z Q := z_aload_n (pc' := 22) (j := 0) (by decide +kernel) rfl rfl <| z_getR (pc' := 25) (idx := 36) (ci := 11) (f := 4) (by decide +kernel) f_RX11_36 rfl hx.o.1 hx.o.2 hx.r4 rfl <| z_areturn (by decide +kernel) (by first | exact ⟨_, rfl, Or.inl ⟨_, rfl⟩⟩ | exact ⟨_, rfl, Or.inr ⟨_, rfl⟩⟩) h
set_option maxRecDepth 20000 in
theorem e_X11_checkTask {G : Gx} {Q : Rv → Zm → Prop} {Z : Zm} {t : Int} (hx : atAll Z) (h : (ZM G 7 m_X0_hasTask [.ref 1, iv t] Z (zKc G 8 m_X11_checkTask 8 [none, none] [] Q))) : ZM G 8 m_X11_checkTask [.ref 0, iv t] Z Q := ZM.of [some (.ref 0), some (iv t)] rfl <| z_aload_n (pc' := 1) (j := 0) (by decide +kernel) rfl rfl <| z_getR (pc' := 4) (idx := 10) (ci := 11) (f := 0) (by decide +kernel) f_RX11_10 rfl hx.o.1 hx.o.2 hx.r0 rfl <| z_iload_n (pc' := 5) (j := 1) (by decide +kernel) rfl rfl <| z_callV (pc' := 8) (idx := 453) (mj := m_X0_hasTask) (av := [iv t]) (d' := 7) (by decide +kernel) rfl k_X0_hasTask l_RX11_453 rfl (by omega) (am_le rfl) rfl (am_le rfl) hx.bk.o.1 hx.bk.o.2 rfl (ZM.mono h (zKc_wk (wk_none (wk_none wk_nil))))
set_option maxRecDepth 20000 in
theorem b_X11_checkTask_8 {G : Gx} {Q : Rv → Zm → Prop} {Z : Zm}  {s0 : Int} (hx : atAll Z) (h : ((R32 s0) ∧ (if s0 = 0 then ((zSz Z < 1000000) ∧ Q (.inr "java/util/NoSuchElementException") (zC Z 15 0 6)) else (Q (.inl none) Z)))) : ZP G 8 m_X11_checkTask 8 [none, none] [iv s0] Z Q := h.elim fun c1 h => z_if_ne (pc' := 11) (tgt := 22) (off := 14) (by decide +kernel) (by decide) rfl c1 (am_ite h (fun h => h.elim fun c2 h => z_throw (is := 492) (text := "there is no such task") th_NoSuchElementException (amT4 (i := 120) rfl) rfl (by decide +kernel) (by decide +kernel) (Or.inr ⟨(by decide +kernel), (by decide +kernel), (by decide +kernel)⟩) (by omega) (am_le rfl) c2 h) (fun h => z_ret (by decide +kernel) rfl h))
set_option maxRecDepth 20000 in
theorem e_X11_checkNeed {G : Gx} {Q : Rv → Zm → Prop} {Z : Zm} {t : Int} (hx : atAll Z) (h : ((R32 t) ∧ (if t < 0 then ((zSz Z < 1000000) ∧ Q (.inr "java/util/NoSuchElementException") (zC Z 15 0 6)) else ((R32 (zI Z 1 4)) ∧ (if t < (zI Z 1 4) then (Q (.inl none) Z) else ((zSz Z < 1000000) ∧ Q (.inr "java/util/NoSuchElementException") (zC Z 15 0 6))))))) : ZM G 8 m_X11_checkNeed [.ref 0, iv t] Z Q := ZM.of [some (.ref 0), some (iv t)] rfl <| z_iload_n (pc' := 1) (j := 1) (by decide +kernel) rfl rfl <| h.elim fun c1 h => z_if_lt (pc' := 4) (tgt := 15) (off := 14) (by decide +kernel) (by decide) rfl c1 (am_ite h (fun h => h.elim fun c2 h => z_throw (is := 494) (text := "there is no such need") th_NoSuchElementException (amT5 (i := 25) rfl) rfl (by decide +kernel) (by decide +kernel) (Or.inr ⟨(by decide +kernel), (by decide +kernel), (by decide +kernel)⟩) (by omega) (am_le rfl) c2 h) (fun h => z_iload_n (pc' := 5) (j := 1) (by decide +kernel) rfl rfl <| z_aload_n (pc' := 6) (j := 0) (by decide +kernel) rfl rfl <| z_getR (pc' := 9) (idx := 10) (ci := 11) (f := 0) (by decide +kernel) f_RX11_10 rfl hx.o.1 hx.o.2 hx.r0 rfl <| z_getI (pc' := 12) (idx := 172) (ci := 0) (f := 4) (by decide +kernel) f_RX11_172 rfl hx.bk.o.1 hx.bk.o.2 rfl <| h.elim fun c3 h => z_icmp_lt (pc' := 15) (tgt := 26) (off := 14) (by decide +kernel) (by decide) rfl c1 c3 (am_ite h (fun h => z_ret (by decide +kernel) rfl h) (fun h => h.elim fun c4 h => z_throw (is := 494) (text := "there is no such need") th_NoSuchElementException (amT5 (i := 25) rfl) rfl (by decide +kernel) (by decide +kernel) (Or.inr ⟨(by decide +kernel), (by decide +kernel), (by decide +kernel)⟩) (by omega) (am_le rfl) c4 h))))
set_option maxRecDepth 20000 in
theorem e_X11_checkTime {G : Gx} {Q : Rv → Zm → Prop} {Z : Zm} {t : Int} (hx : atAll Z) (h : ((R32 t) ∧ (if 0 ≤ t then (Q (.inl none) Z) else ((zSz Z < 1000000) ∧ Q (.inr "java/lang/IllegalArgumentException") (zC Z 13 0 6))))) : ZM G 8 m_X11_checkTime [.ref 0, iv t] Z Q := ZM.of [some (.ref 0), some (iv t)] rfl <| z_iload_n (pc' := 1) (j := 1) (by decide +kernel) rfl rfl <| h.elim fun c1 h => z_if_ge (pc' := 4) (tgt := 15) (off := 14) (by decide +kernel) (by decide) rfl c1 (am_ite h (fun h => z_ret (by decide +kernel) rfl h) (fun h => h.elim fun c2 h => z_throw (is := 504) (text := "the time is below 0") th_IllegalArgumentException (amT7 (i := 134) rfl) rfl (by decide +kernel) (by decide +kernel) (Or.inr ⟨(by decide +kernel), (by decide +kernel), (by decide +kernel)⟩) (by omega) (am_le rfl) c2 h))
set_option maxRecDepth 20000 in
theorem e_X11_checkBegun {G : Gx} {Q : Rv → Zm → Prop} {Z : Zm} {t : Int} (hx : atAll Z) (h : ((R32 t) ∧ (if 0 ≤ t then (Q (.inl none) Z) else ((zSz Z < 1000000) ∧ Q (.inr "java/lang/UnsupportedOperationException") (zC Z 17 0 6))))) : ZM G 8 m_X11_checkBegun [.ref 0, iv t] Z Q := ZM.of [some (.ref 0), some (iv t)] rfl <| z_iload_n (pc' := 1) (j := 1) (by decide +kernel) rfl rfl <| h.elim fun c1 h => z_if_ge (pc' := 4) (tgt := 15) (off := 14) (by decide +kernel) (by decide) rfl c1 (am_ite h (fun h => z_ret (by decide +kernel) rfl h) (fun h => h.elim fun c2 h => z_throw (is := 506) (text := "a task never begins") th_UnsupportedOperationException (amT5 (i := 236) rfl) rfl (by decide +kernel) (by decide +kernel) (Or.inr ⟨(by decide +kernel), (by decide +kernel), (by decide +kernel)⟩) (by omega) (am_le rfl) c2 h))
set_option maxRecDepth 20000 in
theorem e_X11_checkLikeHands {G : Gx} {Q : Rv → Zm → Prop} {Z : Zm} {t : Int} (hx : atAll Z) (h : ((R32 t) ∧ (if t < 1 then ((zSz Z < 1000000) ∧ Q (.inr "java/lang/IllegalArgumentException") (zC Z 13 0 6)) else ((if t ≤ 4 then ((R32 (zI Z 1 3)) ∧ (if (zI Z 1 3) ≤ 6 then (Q (.inl none) Z) else ((zSz Z < 1000000) ∧ Q (.inr "java/lang/UnsupportedOperationException") (zC Z 17 0 6)))) else ((zSz Z < 1000000) ∧ Q (.inr "java/lang/IllegalArgumentException") (zC Z 13 0 6))))))) : ZM G 8 m_X11_checkLikeHands [.ref 0, iv t] Z Q := ZM.of [some (.ref 0), some (iv t)] rfl <| z_iload_n (pc' := 1) (j := 1) (by decide +kernel) rfl rfl <| z_iconst (pc' := 2) (n := 1) (by decide +kernel) rfl <| h.elim fun c1 h => z_icmp_lt (pc' := 5) (tgt := 10) (off := 8) (by decide +kernel) (by decide) rfl c1 (by decide : R32 1) (am_ite h (fun h => h.elim fun c2 h => z_throw (is := 508) (text := "the number of hands is out of range") th_IllegalArgumentException (amT6 (i := 174) rfl) rfl (by decide +kernel) (by decide +kernel) (Or.inr ⟨(by decide +kernel), (by decide +kernel), (by decide +kernel)⟩) (by omega) (am_le rfl) c2 h) (fun h => z_iload_n (pc' := 6) (j := 1) (by decide +kernel) rfl rfl <| z_iconst (pc' := 7) (n := 4) (by decide +kernel) rfl <| z_icmp_le (pc' := 10) (tgt := 21) (off := 14) (by decide +kernel) (by decide) rfl c1 (by decide : R32 4) (am_ite h (fun h => z_aload_n (pc' := 22) (j := 0) (by decide +kernel) rfl rfl <| z_getR (pc' := 25) (idx := 10) (ci := 11) (f := 0) (by decide +kernel) f_RX11_10 rfl hx.o.1 hx.o.2 hx.r0 rfl <| z_getI (pc' := 28) (idx := 117) (ci := 0) (f := 3) (by decide +kernel) f_RX11_117 rfl hx.bk.o.1 hx.bk.o.2 rfl <| z_bipush (pc' := 30) (n := 6) (by decide +kernel) (by decide) rfl <| h.elim fun c3 h => z_icmp_le (pc' := 33) (tgt := 44) (off := 14) (by decide +kernel) (by decide) rfl c3 (by decide : R32 6) (am_ite h (fun h => z_ret (by decide +kernel) rfl h) (fun h => h.elim fun c4 h => z_throw (is := 510) (text := "there are more than 6 tasks") th_UnsupportedOperationException (amT6 (i := 175) rfl) rfl (by decide +kernel) (by decide +kernel) (Or.inr ⟨(by decide +kernel), (by decide +kernel), (by decide +kernel)⟩) (by omega) (am_le rfl) c4 h))) (fun h => h.elim fun c5 h => z_throw (is := 508) (text := "the number of hands is out of range") th_IllegalArgumentException (amT6 (i := 174) rfl) rfl (by decide +kernel) (by decide +kernel) (Or.inr ⟨(by decide +kernel), (by decide +kernel), (by decide +kernel)⟩) (by omega) (am_le rfl) c5 h))))
set_option maxRecDepth 20000 in
theorem e_X11_checkRule {G : Gx} {Q : Rv → Zm → Prop} {Z : Zm} {t : Int} (hx : atAll Z) (h : ((R32 t) ∧ (R32 (zIdx 2 t)) ∧ (if 0 ≤ (zIdx 2 t) then (Q (.inl none) Z) else ((zSz Z < 1000000) ∧ Q (.inr "java/lang/IllegalArgumentException") (zC Z 13 0 6))))) : ZM G 8 m_X11_checkRule [.ref 0, iv t] Z Q := ZM.of [some (.ref 0), some (iv t)] rfl <| z_ldcSw (pc' := 3) (idx := 498) (i := 2) (by decide +kernel) (by decide) (by decide) (by decide) rfl <| z_iload_n (pc' := 4) (j := 1) (by decide +kernel) rfl rfl <| h.elim fun c1 h => z_callT (pc' := 7) (idx := 189) (i := 2) (mj := m_J0_indexOf_0f7a4) (av := [iv t]) (d' := 3) (by decide +kernel) rfl k_J0_indexOf_0f7a4 (by decide) (amM4 132 rfl (by decide +kernel)) rfl (by omega) (am_le rfl) rfl (am_le rfl) rfl <| zKf (s_indexOf (by decide) c1) <| h.elim fun c2 h => z_if_ge (pc' := 10) (tgt := 21) (off := 14) (by decide +kernel) (by decide) rfl c2 (am_ite h (fun h => z_ret (by decide +kernel) rfl h) (fun h => h.elim fun c3 h => z_throw (is := 500) (text := "there is no such rule") th_IllegalArgumentException (amT6 (i := 43) rfl) rfl (by decide +kernel) (by decide +kernel) (Or.inr ⟨(by decide +kernel), (by decide +kernel), (by decide +kernel)⟩) (by omega) (am_le rfl) c3 h))
set_option maxRecDepth 20000 in
theorem e_X11_checkAnyTask {G : Gx} {Q : Rv → Zm → Prop} {Z : Zm}  (hx : atAll Z) (h : ((R32 (zI Z 1 3)) ∧ (if (zI Z 1 3) = 0 then ((zSz Z < 1000000) ∧ Q (.inr "java/lang/ArithmeticException") (zC Z 18 0 6)) else (Q (.inl none) Z)))) : ZM G 8 m_X11_checkAnyTask [.ref 0] Z Q := ZM.of [some (.ref 0)] rfl <| z_aload_n (pc' := 1) (j := 0) (by decide +kernel) rfl rfl <| z_getR (pc' := 4) (idx := 10) (ci := 11) (f := 0) (by decide +kernel) f_RX11_10 rfl hx.o.1 hx.o.2 hx.r0 rfl <| z_getI (pc' := 7) (idx := 117) (ci := 0) (f := 3) (by decide +kernel) f_RX11_117 rfl hx.bk.o.1 hx.bk.o.2 rfl <| h.elim fun c1 h => z_if_ne (pc' := 10) (tgt := 21) (off := 14) (by decide +kernel) (by decide) rfl c1 (am_ite h (fun h => h.elim fun c2 h => z_throw (is := 496) (text := "there are no tasks") th_ArithmeticException (amT7 (i := 215) rfl) rfl (by decide +kernel) (by decide +kernel) (Or.inr ⟨(by decide +kernel), (by decide +kernel), (by decide +kernel)⟩) (by omega) (am_le rfl) c2 h) (fun h => z_ret (by decide +kernel) rfl h))
set_option maxRecDepth 20000 in
theorem e_X11_checkPlan {G : Gx} {Q : Rv → Zm → Prop} {Z : Zm}  (hx : atAll Z) (h : ((R32 (zI Z 256 0)) ∧ (if (zI Z 256 0) = 0 then ((zSz Z < 1000000) ∧ Q (.inr "java/lang/IllegalStateException") (zC Z 14 0 6)) else (Q (.inl none) Z)))) : ZM G 8 m_X11_checkPlan [.ref 0] Z Q := ZM.of [some (.ref 0)] rfl <| z_aload_n (pc' := 1) (j := 0) (by decide +kernel) rfl rfl <| z_getR (pc' := 4) (idx := 63) (ci := 11) (f := 11) (by decide +kernel) f_RX11_63 rfl hx.o.1 hx.o.2 hx.r11 rfl <| z_getI (pc' := 7) (idx := 348) (ci := 9) (f := 0) (by decide +kernel) f_RX11_348 rfl hx.pm.o.1 hx.pm.o.2 rfl <| h.elim fun c1 h => z_if_ne (pc' := 10) (tgt := 21) (off := 14) (by decide +kernel) (by decide) rfl c1 (am_ite h (fun h => h.elim fun c2 h => z_throw (is := 502) (text := "there is no plan") th_IllegalStateException (amT6 (i := 118) rfl) rfl (by decide +kernel) (by decide +kernel) (Or.inr ⟨(by decide +kernel), (by decide +kernel), (by decide +kernel)⟩) (by omega) (am_le rfl) c2 h) (fun h => z_ret (by decide +kernel) rfl h))
set_option maxRecDepth 20000 in
theorem e_X11_checkGuesses {G : Gx} {Q : Rv → Zm → Prop} {Z : Zm}  (hx : atAll Z) (h : (ZM G 7 m_X0_countGuessed [.ref 1] Z (zKc G 8 m_X11_checkGuesses 7 [none] [] Q))) : ZM G 8 m_X11_checkGuesses [.ref 0] Z Q := ZM.of [some (.ref 0)] rfl <| z_aload_n (pc' := 1) (j := 0) (by decide +kernel) rfl rfl <| z_getR (pc' := 4) (idx := 10) (ci := 11) (f := 0) (by decide +kernel) f_RX11_10 rfl hx.o.1 hx.o.2 hx.r0 rfl <| z_callV (pc' := 7) (idx := 418) (mj := m_X0_countGuessed) (av := []) (d' := 7) (by decide +kernel) rfl k_X0_countGuessed l_RX11_418 rfl (by omega) (am_le rfl) rfl (am_le rfl) hx.bk.o.1 hx.bk.o.2 rfl (ZM.mono h (zKc_wk (wk_none wk_nil)))
set_option maxRecDepth 20000 in
theorem b_X11_checkGuesses_7 {G : Gx} {Q : Rv → Zm → Prop} {Z : Zm}  {s0 : Int} (hx : atAll Z) (h : ((R32 s0) ∧ (if s0 ≤ 6 then (Q (.inl none) Z) else ((zSz Z < 1000000) ∧ Q (.inr "java/lang/UnsupportedOperationException") (zC Z 17 0 6))))) : ZP G 8 m_X11_checkGuesses 7 [none] [iv s0] Z Q := z_bipush (pc' := 9) (n := 6) (by decide +kernel) (by decide) rfl <| h.elim fun c1 h => z_icmp_le (pc' := 12) (tgt := 23) (off := 14) (by decide +kernel) (by decide) rfl c1 (by decide : R32 6) (am_ite h (fun h => z_ret (by decide +kernel) rfl h) (fun h => h.elim fun c2 h => z_throw (is := 512) (text := "more than 6 tasks are guessed") th_UnsupportedOperationException (amT7 (i := 85) rfl) rfl (by decide +kernel) (by decide +kernel) (Or.inr ⟨(by decide +kernel), (by decide +kernel), (by decide +kernel)⟩) (by omega) (am_le rfl) c2 h))
set_option maxRecDepth 20000 in
theorem e_X11_rowOf {G : Gx} {Q : Rv → Zm → Prop} {Z : Zm} {t : Int} (hx : atAll Z) (h : ((R32 t) ∧ (R32 (zIdx 0 t)) ∧ (if 0 ≤ (zIdx 0 t) then (Q (.inl (some (iv (zIdx 0 t)))) Z) else ((zSz Z < 1000000) ∧ Q (.inr "java/lang/IllegalArgumentException") (zC Z 13 0 6))))) : ZM G 8 m_X11_rowOf [.ref 0, iv t] Z Q := ZM.of [some (.ref 0), some (iv t), none] rfl <| z_ldcSw (pc' := 3) (idx := 514) (i := 0) (by decide +kernel) (by decide) (by decide) (by decide) rfl <| z_iload_n (pc' := 4) (j := 1) (by decide +kernel) rfl rfl <| h.elim fun c1 h => z_callT (pc' := 7) (idx := 189) (i := 0) (mj := m_J0_indexOf_0f7a4) (av := [iv t]) (d' := 3) (by decide +kernel) rfl k_J0_indexOf_0f7a4 (by decide) (amM4 132 rfl (by decide +kernel)) rfl (by omega) (am_le rfl) rfl (am_le rfl) rfl <| zKf (s_indexOf (by decide) c1) <| z_istore_n (pc' := 8) (j := 2) (ls' := [some (.ref 0), some (iv t), some (iv (zIdx 0 t))]) (by decide +kernel) (by decide) rfl rfl <| z_iload_n (pc' := 9) (j := 2) (by decide +kernel) rfl rfl <| h.elim fun c2 h => z_if_ge (pc' := 12) (tgt := 22) (off := 13) (by decide +kernel) (by decide) rfl c2 (am_ite h (fun h => z_iload_n (pc' := 23) (j := 2) (by decide +kernel) rfl rfl <| z_ireturn (by decide +kernel) ⟨_, rfl, rfl⟩ h) (fun h => h.elim fun c3 h => z_throw (is := 194) (text := "there is no such letter") th_IllegalArgumentException (amT4 (i := 214) rfl) rfl (by decide +kernel) (by decide +kernel) (Or.inl ⟨(by decide +kernel), (by decide +kernel), (by decide +kernel)⟩) (by omega) (am_le rfl) c3 h))
/-! ===== the main object's checks ===== -/
def cF : Nat → Prop := fun a => a < 300
theorem s_checkTask {G : Gx} {Z : Zm} {t : Int} (hx : atAll Z) (ht : R32 t) (hn : R32 (zI Z 1 3)) (hz : zSz Z < 1000000) : ZM G 8 m_X11_checkTask [.ref 0, iv t] Z (fun r Z' => if 0 ≤ t ∧ t < zI Z 1 3 then r = .inl none ∧ Z' = Z else r = .inr "java/util/NoSuchElementException" ∧ Z' = zC Z 15 0 6) := by
  refine e_X11_checkTask hx (ZM.deeper (d := 0) (e_X0_hasTask hx.bk ⟨ht, fun _ => ⟨hn, trivial⟩, ?_⟩) (by omega))
  refine b_X11_checkTask_8 hx ⟨b01_r (b2_01 _), ?_⟩
  by_cases c : 0 ≤ t ∧ t < zI Z 1 3
  · rw [b2_p (by omega), if_neg (by decide), if_pos c]
    exact ⟨rfl, rfl⟩
  · rw [b2_f (by omega), if_pos rfl, if_neg c]
    exact ⟨hz, rfl, rfl⟩
theorem s_checkNeed {G : Gx} {Z : Zm} {t : Int} (hx : atAll Z) (ht : R32 t) (hn : R32 (zI Z 1 4)) (hz : zSz Z < 1000000) : ZM G 8 m_X11_checkNeed [.ref 0, iv t] Z (fun r Z' => if 0 ≤ t ∧ t < zI Z 1 4 then r = .inl none ∧ Z' = Z else r = .inr "java/util/NoSuchElementException" ∧ Z' = zC Z 15 0 6) := by
  refine e_X11_checkNeed hx ⟨ht, ?_⟩
  by_cases c1 : t < 0
  · rw [if_pos c1, if_neg (by omega)]
    exact ⟨hz, rfl, rfl⟩
  · rw [if_neg c1]
    refine ⟨hn, ?_⟩
    by_cases c : t < zI Z 1 4
    · rw [if_pos c, if_pos (by omega)]
      exact ⟨rfl, rfl⟩
    · rw [if_neg c, if_neg (by omega)]
      exact ⟨hz, rfl, rfl⟩
theorem am_not {c : Prop} [Decidable c] {a b : Prop} (h : if c then a else b) : if ¬ c then b else a := by
  by_cases k : c
  · rw [if_pos k] at h
    rw [if_neg (fun g => g k)]
    exact h
  · rw [if_neg k] at h
    rw [if_pos k]
    exact h
theorem am_not2 {c : Prop} [Decidable c] {a b : Prop} (h : if ¬ c then b else a) : if c then a else b := by
  by_cases k : c
  · rw [if_neg (fun g => g k)] at h
    rw [if_pos k]
    exact h
  · rw [if_pos k] at h
    rw [if_neg k]
    exact h
theorem am_ites {c : Prop} [Decidable c] {a b a' b' : Prop} (f : c → a → a') (g : ¬ c → b → b') (ha : a) (hb : b) : if c then a' else b' := by
  by_cases k : c
  · rw [if_pos k]
    exact f k ha
  · rw [if_neg k]
    exact g k hb
theorem s_checkTime {G : Gx} {Z : Zm} {t : Int} (hx : atAll Z) (ht : R32 t) (hz : zSz Z < 1000000) : ZM G 8 m_X11_checkTime [.ref 0, iv t] Z (fun r Z' => if 0 ≤ t then r = .inl none ∧ Z' = Z else r = .inr "java/lang/IllegalArgumentException" ∧ Z' = zC Z 13 0 6) :=
  e_X11_checkTime hx ⟨ht, by by_cases c : 0 ≤ t <;> simp [c, hz]⟩
theorem s_checkBegun {G : Gx} {Z : Zm} {t : Int} (hx : atAll Z) (ht : R32 t) (hz : zSz Z < 1000000) : ZM G 8 m_X11_checkBegun [.ref 0, iv t] Z (fun r Z' => if 0 ≤ t then r = .inl none ∧ Z' = Z else r = .inr "java/lang/UnsupportedOperationException" ∧ Z' = zC Z 17 0 6) :=
  e_X11_checkBegun hx ⟨ht, by by_cases c : 0 ≤ t <;> simp [c, hz]⟩
theorem zIdx_r32 (i : Nat) (x : Int) : R32 (zIdx i x) := by
  have := zIdx_r i x
  have := zLen_le i
  omega
theorem s_checkRule {G : Gx} {Z : Zm} {t : Int} (hx : atAll Z) (ht : R32 t) (hz : zSz Z < 1000000) : ZM G 8 m_X11_checkRule [.ref 0, iv t] Z (fun r Z' => if 0 ≤ zIdx 2 t then r = .inl none ∧ Z' = Z else r = .inr "java/lang/IllegalArgumentException" ∧ Z' = zC Z 13 0 6) :=
  e_X11_checkRule hx ⟨ht, zIdx_r32 _ _, by by_cases c : 0 ≤ zIdx 2 t <;> simp [c, hz]⟩
theorem s_rowOf {G : Gx} {Z : Zm} {t : Int} (hx : atAll Z) (ht : R32 t) (hz : zSz Z < 1000000) : ZM G 8 m_X11_rowOf [.ref 0, iv t] Z (fun r Z' => if 0 ≤ zIdx 0 t then r = .inl (some (iv (zIdx 0 t))) ∧ Z' = Z else r = .inr "java/lang/IllegalArgumentException" ∧ Z' = zC Z 13 0 6) :=
  e_X11_rowOf hx ⟨ht, zIdx_r32 _ _, by by_cases c : 0 ≤ zIdx 0 t <;> simp [c, hz]⟩
theorem s_checkAnyTask {G : Gx} {Z : Zm} (hx : atAll Z) (hn : R32 (zI Z 1 3)) (hz : zSz Z < 1000000) : ZM G 8 m_X11_checkAnyTask [.ref 0] Z (fun r Z' => if zI Z 1 3 ≠ 0 then r = .inl none ∧ Z' = Z else r = .inr "java/lang/ArithmeticException" ∧ Z' = zC Z 18 0 6) :=
  e_X11_checkAnyTask hx ⟨hn, by by_cases c : zI Z 1 3 = 0 <;> simp [c, hz]⟩
theorem s_checkPlan {G : Gx} {Z : Zm} (hx : atAll Z) (hn : R32 (zI Z 256 0)) (hz : zSz Z < 1000000) : ZM G 8 m_X11_checkPlan [.ref 0] Z (fun r Z' => if zI Z 256 0 ≠ 0 then r = .inl none ∧ Z' = Z else r = .inr "java/lang/IllegalStateException" ∧ Z' = zC Z 14 0 6) :=
  e_X11_checkPlan hx ⟨hn, by by_cases c : zI Z 256 0 = 0 <;> simp [c, hz]⟩
/-! ===== the state is changed ===== -/
def stK (σ : St) (k : Bk) : St := (k, σ.2)
def stH (σ : St) (n : Nat) (h : Nat → Bk) : St := (σ.1, (n, h), σ.2.2)
def stX (σ : St) (n : Nat) (x : Nat → Int) : St := (σ.1, σ.2.1, (n, x), σ.2.2.2)
def stW (σ : St) (w : Nat → Nat → Int) : St := (σ.1, σ.2.1, σ.2.2.1, w, σ.2.2.2.2)
def stA (σ : St) (a : Nat → Int) : St := (σ.1, σ.2.1, σ.2.2.1, σ.2.2.2.1, a, σ.2.2.2.2.2)
def stT (σ : St) (n : Nat) (t : Nat → Nat) : St := (σ.1, σ.2.1, σ.2.2.1, σ.2.2.2.1, σ.2.2.2.2.1, (n, t), σ.2.2.2.2.2.2)
def stP (σ : St) (o : Option Pl) : St := (σ.1, σ.2.1, σ.2.2.1, σ.2.2.2.1, σ.2.2.2.2.1, σ.2.2.2.2.2.1, o, σ.2.2.2.2.2.2.2)
def stB (σ : St) (n : Nat) (b : Nat → Int) : St := (σ.1, σ.2.1, σ.2.2.1, σ.2.2.2.1, σ.2.2.2.2.1, σ.2.2.2.2.2.1, σ.2.2.2.2.2.2.1, (n, b))
/-- the book is kept -/
def kpush (h : Nat → Bk) (k : Bk) : Nat → Bk := fun i => if i = 0 then k else h (i - 1)
def stKeep (σ : St) : St := stP (stH σ (min (sHn σ + 1) 10) (kpush (sHb σ) (sK σ))) none
def stBack (σ : St) : St := stT (stP (stH (stK σ (sHb σ 0)) (sHn σ - 1) (fun i => sHb σ (i + 1))) none) 0 (sTs σ)
theorem s_hput {G : Gx} {Z : Zm} {k : Bk} {n : Nat} {h : Nat → Bk} (hx : atAll Z) (hk : cB Z 1 k) (ho : kOk k) (hh : cH Z n h) (hn : n ≤ 10) : ZM G 2 m_X3_put [.ref 39, .ref 1] Z (fun r Z' => r = .inl none ∧ zF (zB 39 231) 0 0 Z Z' ∧ cH Z' (min (n + 1) 10) (kpush h k)) := by
  obtain ⟨a1, x, a2, a3, a4⟩ := hh
  refine e_X3_put hx.hi hx.bk ?_
  rw [a3, Int.toNat_natCast]
  refine ⟨zIx_nat a2 (by omega), ?_⟩
  refine (s_becomeLike (hx.hi.x0 x a2) hx.bk hk ho (by omega)).mono ?_
  rintro r W ⟨rfl, f, w⟩
  have f2 : zF (zB 39 231) 0 0 Z W := f.mono (fun a g => by unfold zBk zB at *; omega) (Nat.le_refl _) (Nat.le_refl _)
  have e39 : zI W 39 = zI Z 39 := f.i (hx.lt _ (by omega)) (by unfold zBk zB; omega)
  refine b_X3_put_13 (hx.ext f.1).hi (hx.ext f.1).bk ?_
  rw [e39, a3]
  refine ⟨by omega, by omega, ?_⟩
  rintro _ rfl
  rw [zI_same, zu_other (by decide), a1]
  refine ⟨by omega, ?_⟩
  rintro _ rfl
  rw [zSI_zSI]
  refine ⟨rfl, f2.trans (zF_I ⟨by omega, by omega⟩), ?_, (x + 1) % 10, by omega, ?_, fun i hi => ?_⟩
  · rw [zI_same, zu_same]
    omega
  · rw [zI_same, zu_other (by decide), zu_same]
    omega
  · unfold kpush
    refine cB.of ?_ fun a g1 g2 => zI_other (by omega)
    by_cases c : i = 0
    · rw [if_pos c, c, show 41 + 19 * (((x + 1) % 10 + 9 - 0) % 10) = 39 + 2 + 19 * x by omega]
      exact w
    · rw [if_neg c, show 41 + 19 * (((x + 1) % 10 + 9 - i) % 10) = 41 + 19 * ((x + 9 - (i - 1)) % 10) by omega]
      exact (a4 (i - 1) (by omega)).of fun a g1 g2 => f.i (hx.lt _ (by omega)) (by unfold zBk zB; omega)
theorem s_takeBack {G : Gx} {Z : Zm} {n : Nat} {h : Nat → Bk} (hx : atAll Z) (ho : kOk (h 0)) (hh : cH Z n h) (hn : 0 < n ∧ n ≤ 10) : ZM G 2 m_X3_takeBack [.ref 39, .ref 1] Z (fun r Z' => r = .inl none ∧ zF (fun a => a = 39 ∨ zBk 1 a) 0 0 Z Z' ∧ cB Z' 1 (h 0) ∧ cH Z' (n - 1) (fun i => h (i + 1))) := by
  obtain ⟨a1, x, a2, a3, a4⟩ := hh
  refine e_X3_takeBack hx.hi hx.bk ?_
  rw [a3]
  refine ⟨by omega, by omega, ?_⟩
  rintro _ rfl
  rw [zI_same, zu_other (by decide), a1]
  rintro _ rfl
  rw [zSI_zSI, zI_same, zu_other (by decide), zu_same, show ((x : Int) + 10 - 1) % 10 = (((x + 9) % 10 : Nat) : Int) by omega, Int.toNat_natCast]
  refine ⟨zIx_nat (by omega) (by omega), ?_⟩
  generalize hW : zSI Z 39 (zu (zu (zI Z 39) 2 (((x + 9) % 10 : Nat) : Int)) 1 ((n : Int) - 1)) = W
  have f1 : zF (fun a => a = 39 ∨ zBk 1 a) 0 0 Z W := by rw [← hW]; exact zF_I (Or.inl rfl)
  have e1 : ∀ a, a ≠ 39 → zI W a = zI Z a := fun a g => by rw [← hW]; exact zI_other g
  have h0 := a4 0 hn.1
  rw [show (x + 9 - 0) % 10 = (x + 9) % 10 by omega] at h0
  refine (s_becomeLike (hx.ext f1.1).bk ((hx.ext f1.1).hi.x0 _ (by omega)) (h0.of fun a g1 g2 => e1 a (by omega)) ho (by omega)).mono ?_
  rintro r V ⟨rfl, f, w⟩
  refine b_X3_takeBack_39 ((hx.ext f1.1).ext f.1).hi ((hx.ext f1.1).ext f.1).bk ?_
  have e39 : zI V 39 = zu (zu (zI Z 39) 2 (((x + 9) % 10 : Nat) : Int)) 1 ((n : Int) - 1) := by
    rw [f.i ((hx.ext f1.1).lt _ (by omega)) (by unfold zBk zB; omega), ← hW, zI_same]
  refine ⟨rfl, f1.trans (f.mono (fun a g => Or.inr g) (Nat.le_refl _) (Nat.le_refl _)), w, ?_, (x + 9) % 10, by omega, ?_, fun i hi => ?_⟩
  · rw [e39, zu_same]
    omega
  · rw [e39, zu_other (by decide), zu_same]
  · rw [show 41 + 19 * (((x + 9) % 10 + 9 - i) % 10) = 41 + 19 * ((x + 9 - (i + 1)) % 10) by omega]
    exact (a4 (i + 1) (by omega)).of fun a g1 g2 => by rw [f.i ((hx.ext f1.1).lt _ (by omega)) (by unfold zBk zB; omega), e1 a (by omega)]
theorem cPl_none {Z : Zm} {k : Bk} (h : zI Z 256 0 = 0) : cPl Z k none := ⟨fun _ => h, fun p e => by cases e⟩
theorem cB.fr {S : Nat → Prop} {c w : Nat} {Z Z' : Zm} {b : Nat} {k : Bk} (h : cB Z b k) (hx : atAll Z) (f : zF S c w Z Z') (hb : b + 18 ≤ 300) (hs : ∀ a, b ≤ a → a < b + 18 → ¬ S a) : cB Z' b k := h.of fun a g1 g2 => f.i (hx.lt _ (by omega)) (hs a g1 g2)
theorem cH.fr {S : Nat → Prop} {c w : Nat} {Z Z' : Zm} {n : Nat} {h : Nat → Bk} (hh : cH Z n h) (hx : atAll Z) (f : zF S c w Z Z') (hs : ∀ a, 39 ≤ a → a < 231 → ¬ S a) : cH Z' n h := by
  obtain ⟨a1, x, a2, a3, a4⟩ := hh
  rw [cH, f.i (hx.lt 39 (by omega)) (hs _ (by omega) (by omega))]
  exact ⟨a1, x, a2, a3, fun i hi => (a4 i hi).fr hx f (by omega) fun a g1 g2 => hs a (by omega) (by omega)⟩
/-- all but the book, the history, the plan stands -/
theorem IC.re {Z Z' : Zm} {σ : St} {k : Bk} {n : Nat} {h : Nat → Bk} {S : Nat → Prop} {c w : Nat} (hc : IC Z σ) (f : zF S c w Z Z') (hs : ∀ a, S a → a < 231 ∧ a ≠ 0 ∨ a = 233 ∨ a = 256) (hk : cB Z' 1 k) (hh : cH Z' n h) (h1 : zI Z' 233 0 = 0) (h2 : zI Z' 256 0 = 0) : IC Z' (stP (stH (stK σ k) n h) none) := by
  obtain ⟨b0, b1, b2, b3, b4, b5, b6, b7, b8, b9⟩ := hc
  have e : ∀ a, a < 300 → (a = 0 ∨ 231 ≤ a) → a ≠ 233 → a ≠ 256 → zI Z' a = zI Z a := fun a g1 g2 g3 g4 => f.i (b0.lt a g1) fun g => by have := hs a g; omega
  refine ⟨b0.ext f.1, hk, hh, ?_, Or.inl h1, fun c h g1 g2 => ?_, ?_, ?_, cPl_none h2, ?_⟩
  · rw [e 231 (by omega) (by omega) (by omega) (by omega), e 232 (by omega) (by omega) (by omega) (by omega)]
    exact b3
  · rw [e (246 + c) (by omega) (by omega) (by omega) (by omega)]
    exact b5 c h g1 g2
  · rw [e 252 (by omega) (by omega) (by omega) (by omega)]
    exact b6
  · rw [e 0 (by omega) (by omega) (by omega) (by omega), e 253 (by omega) (by omega) (by omega) (by omega)]
    exact b7
  · rw [e 0 (by omega) (by omega) (by omega) (by omega), e 276 (by omega) (by omega) (by omega) (by omega)]
    exact b9
/-- behind a change of the book -/
def cNo (Z : Zm) : Prop := zI Z 233 0 = 0 ∧ zI Z 256 0 = 0
theorem s_leave {G : Gx} {Z : Zm} (hx : atAll Z) : ZM G 0 m_X11_leaveOldBook [.ref 0] Z (fun r Z' => r = .inl none ∧ zF (fun a => a = 233 ∨ a = 256) 0 0 Z Z' ∧ cNo Z') := by
  refine e_X11_leaveOldBook hx ?_
  rintro _ rfl _ rfl
  refine ⟨rfl, (zF_I (Or.inr rfl)).trans (zF_I (Or.inl rfl)), ?_, ?_⟩
  · rw [zI_same, zu_same]
  · rw [zI_other (by decide), zI_same, zu_same]
theorem s_keepBook {G : Gx} {Z : Zm} {σ : St} (h : IC Z σ) (ho : okS σ) : ZM G 3 m_X11_keepBook [.ref 0] Z (fun r Z' => r = .inl none ∧ zF cF 0 0 Z Z' ∧ cNo Z' ∧ IC Z' (stKeep σ)) := by
  have hx := h.1
  refine e_X11_keepBook hx ((s_hput hx h.2.1 ho.1 h.2.2.1 ho.2.1.1).mono ?_)
  rintro r W ⟨rfl, f, w⟩
  have hx1 := hx.ext f.1
  refine b_X11_keepBook_11 hx1 (((s_leave hx1).deeper (by omega)).mono ?_)
  rintro r V ⟨rfl, f1, g1, g2⟩
  refine b_X11_keepBook_15 (hx1.ext f1.1) ⟨rfl, (f.mono (fun a g => by unfold zB at g; show a < 300; omega) (Nat.le_refl _) (Nat.le_refl _)).trans (f1.mono (fun a g => by show a < 300; omega) (Nat.le_refl _) (Nat.le_refl _)), ⟨g1, g2⟩, ?_⟩
  have f2 : zF (fun a => zB 39 231 a ∨ a = 233 ∨ a = 256) 0 0 Z V := (f.mono (fun a g => Or.inl g) (Nat.le_refl _) (Nat.le_refl _)).trans (f1.mono (fun a g => Or.inr g) (Nat.le_refl _) (Nat.le_refl _))
  refine h.re (k := sK σ) f2 (fun a g => by unfold zB at g; omega) (h.2.1.fr hx f2 (by omega) fun a g1 g2 => by unfold zB; omega) (w.fr hx1 f1 fun a g1 g2 => by omega) g1 g2
theorem s_freshNet {G : Gx} {Z : Zm} {σ : St} (h : IC Z σ) (ho : kOk (sK σ)) : ZM G 3 m_X11_freshNet [.ref 0] Z (fun r Z' => r = .inl (some (.ref 233)) ∧ zF (zB 233 241) 0 0 Z Z' ∧ cN Z' 233 (sK σ)) := by
  have hx := h.1
  have h0 : zI Z 233 0 = 0 ∨ cN Z 233 (sK σ) := h.2.2.2.2.1
  by_cases c : zI Z 233 0 = 0
  · refine e_X11_freshNet hx ⟨by omega, ?_⟩
    rw [if_pos c]
    refine (s_lay hx.nt hx.bk h.2.1 ho (by omega)).mono ?_
    rintro r W ⟨rfl, f, w⟩
    exact b_X11_freshNet_21 (hx.ext f.1) ⟨rfl, f, w⟩
  · have h1 := h0.resolve_left c
    refine e_X11_freshNet hx ⟨by rw [h1.1]; decide, ?_⟩
    rw [if_neg c]
    exact b_X11_freshNet_21 hx ⟨rfl, zF.refl, h1⟩
/-- the net is laid: nothing that counts is changed -/
theorem IC.net {Z Z' : Zm} {σ : St} {S : Nat → Prop} {c w : Nat} (h : IC Z σ) (f : zF S c w Z Z') (hs : ∀ a, S a → 233 ≤ a ∧ a < 244) (hn : cN Z' 233 (sK σ)) : IC Z' σ :=
  h.fr f (fun a g => by have := hs a g; unfold scr; omega) (Or.inr hn)
theorem s_checkGuesses {G : Gx} {Z : Zm} {σ : St} (h : IC Z σ) (ho : kOk (sK σ)) (hz : zSz Z < 1000000) : ZM G 8 m_X11_checkGuesses [.ref 0] Z (fun r Z' => if zsum (fun t => b2 (0 < kF (sK σ) 10 t)) (kN (sK σ)) ≤ 6 then r = .inl none ∧ Z' = Z else r = .inr "java/lang/UnsupportedOperationException" ∧ Z' = zC Z 17 0 6) := by
  have hN := ho.n
  have hb := zsum_bound (f := fun t => b2 (0 < kF (sK σ) 10 t)) (n := kN (sK σ)) (a := 0) (b := 1) fun i _ => by have := b2_01 (0 < kF (sK σ) 10 i); omega
  refine e_X11_checkGuesses h.1 (((s_countGuessed h.1.bk h.2.1 ho).deeper (by omega)).mono ?_)
  rintro r W ⟨rfl, rfl⟩
  refine b_X11_checkGuesses_7 h.1 ⟨by omega, ?_⟩
  by_cases c : zsum (fun t => b2 (0 < kF (sK σ) 10 t)) (kN (sK σ)) ≤ 6 <;> simp [c, hz]
theorem s_checkLikeHands {G : Gx} {Z : Zm} {σ : St} {t : Int} (h : IC Z σ) (ho : kOk (sK σ)) (ht : R32 t) (hz : zSz Z < 1000000) : ZM G 8 m_X11_checkLikeHands [.ref 0, iv t] Z (fun r Z' => if 1 ≤ t ∧ t ≤ 4 then (if kN (sK σ) ≤ 6 then r = .inl none ∧ Z' = Z else r = .inr "java/lang/UnsupportedOperationException" ∧ Z' = zC Z 17 0 6) else r = .inr "java/lang/IllegalArgumentException" ∧ Z' = zC Z 13 0 6) := by
  have hN := ho.n
  refine e_X11_checkLikeHands h.1 ⟨ht, ?_⟩
  rw [h.2.1.1]
  by_cases c1 : t < 1
  · rw [if_pos c1, if_neg (by omega)]
    exact ⟨hz, rfl, rfl⟩
  · rw [if_neg c1]
    by_cases c2 : t ≤ 4
    · rw [if_pos c2]
      refine ⟨by omega, ?_⟩
      by_cases c3 : kN (sK σ) ≤ 6
      · rw [if_pos (show (kN (sK σ) : Int) ≤ 6 by omega), if_pos (show 1 ≤ t ∧ t ≤ 4 by omega), if_pos c3]
        exact ⟨rfl, rfl⟩
      · rw [if_neg (show ¬ (kN (sK σ) : Int) ≤ 6 by omega), if_pos (show 1 ≤ t ∧ t ≤ 4 by omega), if_neg c3]
        exact ⟨hz, rfl, rfl⟩
    · rw [if_neg c2, if_neg (by omega)]
      exact ⟨hz, rfl, rfl⟩
