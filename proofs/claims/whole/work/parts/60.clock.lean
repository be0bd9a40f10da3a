set_option maxRecDepth 20000 in
theorem e_X11_hours {G : Gx} {Q : Rv → Zm → Prop} {Z : Zm} {x : Int} {y : Int} {z : Int} {q : Int} (hx : atAll Z) (h : ((R32 x) ∧ (if x < 0 then ((zSz Z < 1000000) ∧ Q (.inr "java/lang/IllegalArgumentException") (zC Z 13 0 6)) else ((if x < 4 then ((R32 y) ∧ (if y < 0 then ((zSz Z < 1000000) ∧ Q (.inr "java/lang/IllegalArgumentException") (zC Z 13 0 6)) else ((if 168 ≤ y then ((zSz Z < 1000000) ∧ Q (.inr "java/lang/IllegalArgumentException") (zC Z 13 0 6)) else ((R32 z) ∧ (if z ≤ y then ((zSz Z < 1000000) ∧ Q (.inr "java/lang/IllegalArgumentException") (zC Z 13 0 6)) else ((if z ≤ 168 then ((R32 q) ∧ (if q = 0 then (ZM G 11 m_X1_countOutside [.ref 244, iv x, iv y, iv z] Z (zKc G 12 m_X11_hours 69 [some (.ref 0), some (iv x), some (iv y), some (iv z), some (iv q)] [] Q)) else (ZM G 11 m_X1_tellHours [.ref 244, iv x, iv y, iv z, iv q] Z (zKc G 12 m_X11_hours 95 [none, none, none, none, none] [] Q)))) else ((zSz Z < 1000000) ∧ Q (.inr "java/lang/IllegalArgumentException") (zC Z 13 0 6)))))))))) else ((zSz Z < 1000000) ∧ Q (.inr "java/lang/IllegalArgumentException") (zC Z 13 0 6))))))) : ZM G 12 m_X11_hours [.ref 0, iv x, iv y, iv z, iv q] Z Q := ZM.of [some (.ref 0), some (iv x), some (iv y), some (iv z), some (iv q)] rfl <| z_iload_n (pc' := 1) (j := 1) (by decide +kernel) rfl rfl <| h.elim fun c1 h => z_if_lt (pc' := 4) (tgt := 9) (off := 8) (by decide +kernel) (by decide) rfl c1 (am_ite h (fun h => h.elim fun c2 h => z_throw (is := 284) (text := "there is no such calendar") th_IllegalArgumentException (amT5 (i := 166) rfl) rfl (by decide +kernel) (by decide +kernel) (Or.inr ⟨(by decide +kernel), (by decide +kernel), (by decide +kernel)⟩) (by omega) (am_le rfl) c2 h) (fun h => z_iload_n (pc' := 5) (j := 1) (by decide +kernel) rfl rfl <| z_iconst (pc' := 6) (n := 4) (by decide +kernel) rfl <| z_icmp_lt (pc' := 9) (tgt := 20) (off := 14) (by decide +kernel) (by decide) rfl c1 (by decide : R32 4) (am_ite h (fun h => z_iload_n (pc' := 21) (j := 2) (by decide +kernel) rfl rfl <| h.elim fun c3 h => z_if_lt (pc' := 24) (tgt := 43) (off := 22) (by decide +kernel) (by decide) rfl c3 (am_ite h (fun h => h.elim fun c4 h => z_throw (is := 286) (text := "an hour is out of range") th_IllegalArgumentException (amT5 (i := 167) rfl) rfl (by decide +kernel) (by decide +kernel) (Or.inr ⟨(by decide +kernel), (by decide +kernel), (by decide +kernel)⟩) (by omega) (am_le rfl) c4 h) (fun h => z_iload_n (pc' := 25) (j := 2) (by decide +kernel) rfl rfl <| z_sipush (pc' := 28) (n := 168) (by decide +kernel) (by decide) rfl <| z_icmp_ge (pc' := 31) (tgt := 43) (off := 15) (by decide +kernel) (by decide) rfl c3 (by decide : R32 168) (am_ite h (fun h => h.elim fun c5 h => z_throw (is := 286) (text := "an hour is out of range") th_IllegalArgumentException (amT5 (i := 167) rfl) rfl (by decide +kernel) (by decide +kernel) (Or.inr ⟨(by decide +kernel), (by decide +kernel), (by decide +kernel)⟩) (by omega) (am_le rfl) c5 h) (fun h => z_iload_n (pc' := 32) (j := 3) (by decide +kernel) rfl rfl <| z_iload_n (pc' := 33) (j := 2) (by decide +kernel) rfl rfl <| h.elim fun c6 h => z_icmp_le (pc' := 36) (tgt := 43) (off := 10) (by decide +kernel) (by decide) rfl c6 c3 (am_ite h (fun h => h.elim fun c7 h => z_throw (is := 286) (text := "an hour is out of range") th_IllegalArgumentException (amT5 (i := 167) rfl) rfl (by decide +kernel) (by decide +kernel) (Or.inr ⟨(by decide +kernel), (by decide +kernel), (by decide +kernel)⟩) (by omega) (am_le rfl) c7 h) (fun h => z_iload_n (pc' := 37) (j := 3) (by decide +kernel) rfl rfl <| z_sipush (pc' := 40) (n := 168) (by decide +kernel) (by decide) rfl <| z_icmp_le (pc' := 43) (tgt := 54) (off := 14) (by decide +kernel) (by decide) rfl c6 (by decide : R32 168) (am_ite h (fun h => z_iload (pc' := 56) (j := 4) (by decide +kernel) rfl rfl <| h.elim fun c8 h => z_if_ne (pc' := 59) (tgt := 83) (off := 27) (by decide +kernel) (by decide) rfl c8 (am_ite h (fun h => z_aload_n (pc' := 60) (j := 0) (by decide +kernel) rfl rfl <| z_getR (pc' := 63) (idx := 43) (ci := 11) (f := 5) (by decide +kernel) f_RX11_43 rfl hx.o.1 hx.o.2 hx.r5 rfl <| z_iload_n (pc' := 64) (j := 1) (by decide +kernel) rfl rfl <| z_iload_n (pc' := 65) (j := 2) (by decide +kernel) rfl rfl <| z_iload_n (pc' := 66) (j := 3) (by decide +kernel) rfl rfl <| z_callV (pc' := 69) (idx := 288) (mj := m_X1_countOutside) (av := [iv x, iv y, iv z]) (d' := 11) (by decide +kernel) rfl k_X1_countOutside l_RX11_288 rfl (by omega) (am_le rfl) rfl (am_le rfl) hx.cl.o.1 hx.cl.o.2 rfl h) (fun h => z_aload_n (pc' := 84) (j := 0) (by decide +kernel) rfl rfl <| z_getR (pc' := 87) (idx := 43) (ci := 11) (f := 5) (by decide +kernel) f_RX11_43 rfl hx.o.1 hx.o.2 hx.r5 rfl <| z_iload_n (pc' := 88) (j := 1) (by decide +kernel) rfl rfl <| z_iload_n (pc' := 89) (j := 2) (by decide +kernel) rfl rfl <| z_iload_n (pc' := 90) (j := 3) (by decide +kernel) rfl rfl <| z_iload (pc' := 92) (j := 4) (by decide +kernel) rfl rfl <| z_callV (pc' := 95) (idx := 296) (mj := m_X1_tellHours) (av := [iv x, iv y, iv z, iv q]) (d' := 11) (by decide +kernel) rfl k_X1_tellHours l_RX11_296 rfl (by omega) (am_le rfl) rfl (am_le rfl) hx.cl.o.1 hx.cl.o.2 rfl (ZM.mono h (zKc_wk (wk_none (wk_none (wk_none (wk_none (wk_none wk_nil)))))))))) (fun h => h.elim fun c9 h => z_throw (is := 286) (text := "an hour is out of range") th_IllegalArgumentException (amT5 (i := 167) rfl) rfl (by decide +kernel) (by decide +kernel) (Or.inr ⟨(by decide +kernel), (by decide +kernel), (by decide +kernel)⟩) (by omega) (am_le rfl) c9 h))))))))) (fun h => h.elim fun c10 h => z_throw (is := 284) (text := "there is no such calendar") th_IllegalArgumentException (amT5 (i := 166) rfl) rfl (by decide +kernel) (by decide +kernel) (Or.inr ⟨(by decide +kernel), (by decide +kernel), (by decide +kernel)⟩) (by omega) (am_le rfl) c10 h))))
set_option maxRecDepth 20000 in
theorem b_X11_hours_69 {G : Gx} {Q : Rv → Zm → Prop} {Z : Zm} {x : Int} {y : Int} {z : Int} {q : Int} {s0 : Int} (hx : atAll Z) (h : ((R32 s0) ∧ (if s0 = 0 then ((zSz Z < 1000000) ∧ Q (.inr "java/lang/UnsupportedOperationException") (zC Z 17 0 6)) else (ZM G 11 m_X1_tellHours [.ref 244, iv x, iv y, iv z, iv q] Z (zKc G 12 m_X11_hours 95 [none, none, none, none, none] [] Q))))) : ZP G 12 m_X11_hours 69 [some (.ref 0), some (iv x), some (iv y), some (iv z), some (iv q)] [iv s0] Z Q := h.elim fun c1 h => z_if_ne (pc' := 72) (tgt := 83) (off := 14) (by decide +kernel) (by decide) rfl c1 (am_ite h (fun h => h.elim fun c2 h => z_throw (is := 293) (text := "no hour would work") th_UnsupportedOperationException (amT5 (i := 185) rfl) rfl (by decide +kernel) (by decide +kernel) (Or.inr ⟨(by decide +kernel), (by decide +kernel), (by decide +kernel)⟩) (by omega) (am_le rfl) c2 h) (fun h => z_aload_n (pc' := 84) (j := 0) (by decide +kernel) rfl rfl <| z_getR (pc' := 87) (idx := 43) (ci := 11) (f := 5) (by decide +kernel) f_RX11_43 rfl hx.o.1 hx.o.2 hx.r5 rfl <| z_iload_n (pc' := 88) (j := 1) (by decide +kernel) rfl rfl <| z_iload_n (pc' := 89) (j := 2) (by decide +kernel) rfl rfl <| z_iload_n (pc' := 90) (j := 3) (by decide +kernel) rfl rfl <| z_iload (pc' := 92) (j := 4) (by decide +kernel) rfl rfl <| z_callV (pc' := 95) (idx := 296) (mj := m_X1_tellHours) (av := [iv x, iv y, iv z, iv q]) (d' := 11) (by decide +kernel) rfl k_X1_tellHours l_RX11_296 rfl (by omega) (am_le rfl) rfl (am_le rfl) hx.cl.o.1 hx.cl.o.2 rfl (ZM.mono h (zKc_wk (wk_none (wk_none (wk_none (wk_none (wk_none wk_nil)))))))))
set_option maxRecDepth 20000 in
theorem b_X11_hours_95 {G : Gx} {Q : Rv → Zm → Prop} {Z : Zm}  {s0 : Int} (hx : atAll Z) (h : (Q (.inl (some (iv s0))) Z)) : ZP G 12 m_X11_hours 95 [none, none, none, none, none] [iv s0] Z Q := z_ireturn (by decide +kernel) ⟨_, rfl, rfl⟩ h
set_option maxRecDepth 20000 in
theorem e_X11_isWork {G : Gx} {Q : Rv → Zm → Prop} {Z : Zm} {x : Int} {y : Int} (hx : atAll Z) (h : ((R32 x) ∧ (if x < 0 then ((zSz Z < 1000000) ∧ Q (.inr "java/lang/IllegalArgumentException") (zC Z 13 0 6)) else ((if 4 ≤ x then ((zSz Z < 1000000) ∧ Q (.inr "java/lang/IllegalArgumentException") (zC Z 13 0 6)) else ((R32 y) ∧ (if 0 ≤ y then ((zIx x 4) ∧ (0 ≤ y) ∧ (zIx (y % 168) 168) ∧ (R32 (zI Z (246 + x.toNat) (y % 168).toNat)) ∧ Q (.inl (some (iv (b2 ((zI Z (246 + x.toNat) (y % 168).toNat) = 1))))) Z) else ((zSz Z < 1000000) ∧ Q (.inr "java/lang/IllegalArgumentException") (zC Z 13 0 6))))))))) : ZM G 12 m_X11_isWork [.ref 0, iv x, iv y] Z Q := ZM.of [some (.ref 0), some (iv x), some (iv y)] rfl <| z_iload_n (pc' := 1) (j := 1) (by decide +kernel) rfl rfl <| h.elim fun c1 h => z_if_lt (pc' := 4) (tgt := 13) (off := 12) (by decide +kernel) (by decide) rfl c1 (am_ite h (fun h => h.elim fun c2 h => z_throw (is := 300) (text := "there is no such calendar or hour") th_IllegalArgumentException (amT5 (i := 203) rfl) rfl (by decide +kernel) (by decide +kernel) (Or.inr ⟨(by decide +kernel), (by decide +kernel), (by decide +kernel)⟩) (by omega) (am_le rfl) c2 h) (fun h => z_iload_n (pc' := 5) (j := 1) (by decide +kernel) rfl rfl <| z_iconst (pc' := 6) (n := 4) (by decide +kernel) rfl <| z_icmp_ge (pc' := 9) (tgt := 13) (off := 7) (by decide +kernel) (by decide) rfl c1 (by decide : R32 4) (am_ite h (fun h => h.elim fun c3 h => z_throw (is := 300) (text := "there is no such calendar or hour") th_IllegalArgumentException (amT5 (i := 203) rfl) rfl (by decide +kernel) (by decide +kernel) (Or.inr ⟨(by decide +kernel), (by decide +kernel), (by decide +kernel)⟩) (by omega) (am_le rfl) c3 h) (fun h => z_iload_n (pc' := 10) (j := 2) (by decide +kernel) rfl rfl <| h.elim fun c4 h => z_if_ge (pc' := 13) (tgt := 24) (off := 14) (by decide +kernel) (by decide) rfl c4 (am_ite h (fun h => z_aload_n (pc' := 25) (j := 0) (by decide +kernel) rfl rfl <| z_getR (pc' := 28) (idx := 43) (ci := 11) (f := 5) (by decide +kernel) f_RX11_43 rfl hx.o.1 hx.o.2 hx.r5 rfl <| z_getR (pc' := 31) (idx := 302) (ci := 1) (f := 0) (by decide +kernel) f_RX11_302 rfl hx.cl.o.1 hx.cl.o.2 hx.cl.r0 rfl <| z_iload_n (pc' := 32) (j := 1) (by decide +kernel) rfl rfl <| h.elim fun c5 h => z_aaload120 (pc' := 33) (by decide +kernel) hx.cl.a0 c5 (hx.cl.e0 _ c5.n) rfl <| z_iload_n (pc' := 34) (j := 2) (by decide +kernel) rfl rfl <| z_sipush (pc' := 37) (n := 168) (by decide +kernel) (by decide) rfl <| h.elim fun c6 h => z_irem (pc' := 38) (by decide +kernel) c4 (by decide : R32 168) c6 (by decide) rfl <| h.elim fun c7 h => z_iaload (pc' := 39) (by decide +kernel) (hx.cl.x0 _ c5.n) c7 rfl <| z_iconst (pc' := 40) (n := 1) (by decide +kernel) rfl <| h.elim fun c8 h => am_use (fun k11 => z_icmp_ne (pc' := 43) (tgt := 47) (off := 7) (by decide +kernel) (by decide) rfl c8 (by decide : R32 1) (am_ite2 (fun q12 => z_iconst (pc' := 44) (n := 1) (by decide +kernel) rfl <| z_goto (tgt := 48) (off := 4) (by decide +kernel) (by decide) <| (am_jp (P := fun z9 => ZP G 12 m_X11_isWork 48 [some (.ref 0), some (iv x), some (iv y)] [iv z9] _ Q) (b2_p q12) k11)) (fun q12 => z_iconst (pc' := 48) (n := 0) (by decide +kernel) rfl <| (am_jp (P := fun z9 => ZP G 12 m_X11_isWork 48 [some (.ref 0), some (iv x), some (iv y)] [iv z9] _ Q) (b2_f q12) k11)))) <| z_ireturn (by decide +kernel) (am_rb (b2_01 _)) h) (fun h => h.elim fun c13 h => z_throw (is := 300) (text := "there is no such calendar or hour") th_IllegalArgumentException (amT5 (i := 203) rfl) rfl (by decide +kernel) (by decide +kernel) (Or.inr ⟨(by decide +kernel), (by decide +kernel), (by decide +kernel)⟩) (by omega) (am_le rfl) c13 h))))))
set_option maxRecDepth 20000 in
theorem e_X11_clockBegin {G : Gx} {Q : Rv → Zm → Prop} {Z : Zm} {t : Int} (hx : atAll Z) (h : ((R32 t) ∧ (R32 (zI Z 1 3)) ∧ (zSz Z < 1000000) ∧ (if 0 ≤ t ∧ t < zI Z 1 3 then (ZM G 11 m_X11_freshNet [.ref 0] Z (zKc G 12 m_X11_clockBegin 17 [some (.ref 0), some (iv t)] [.ref 1, .ref 244] Q)) else Q (.inr "java/util/NoSuchElementException") (zC Z 15 0 6)))) : ZM G 12 m_X11_clockBegin [.ref 0, iv t] Z Q := ZM.of [some (.ref 0), some (iv t)] rfl <| z_aload_n (pc' := 1) (j := 0) (by decide +kernel) rfl rfl <| z_iload_n (pc' := 2) (j := 1) (by decide +kernel) rfl rfl <| h.elim fun c1 h => h.elim fun c2 h => h.elim fun c3 h => z_callV (pc' := 5) (idx := 133) (mj := m_X11_checkTask) (av := [iv t]) (d' := 8) (by decide +kernel) rfl k_X11_checkTask l_RX11_133 rfl (by omega) (am_le rfl) rfl (am_le rfl) hx.o.1 hx.o.2 rfl <| zKt (s_checkTask hx c1 c2 c3) (am_ite h (fun h => z_aload_n (pc' := 6) (j := 0) (by decide +kernel) rfl rfl <| z_getR (pc' := 9) (idx := 43) (ci := 11) (f := 5) (by decide +kernel) f_RX11_43 rfl hx.o.1 hx.o.2 hx.r5 rfl <| z_aload_n (pc' := 10) (j := 0) (by decide +kernel) rfl rfl <| z_getR (pc' := 13) (idx := 10) (ci := 11) (f := 0) (by decide +kernel) f_RX11_10 rfl hx.o.1 hx.o.2 hx.r0 rfl <| z_aload_n (pc' := 14) (j := 0) (by decide +kernel) rfl rfl <| z_callV (pc' := 17) (idx := 238) (mj := m_X11_freshNet) (av := []) (d' := 11) (by decide +kernel) rfl k_X11_freshNet l_RX11_238 rfl (by omega) (am_le rfl) rfl (am_le rfl) hx.o.1 hx.o.2 rfl h) (fun h => h))
set_option maxRecDepth 20000 in
theorem b_X11_clockBegin_17 {G : Gx} {Q : Rv → Zm → Prop} {Z : Zm} {t : Int}  (hx : atAll Z) (h : (ZM G 11 m_X1_putAll [.ref 244, .ref 1, .ref 233] Z (zKc G 12 m_X11_clockBegin 20 [some (.ref 0), some (iv t)] [] Q))) : ZP G 12 m_X11_clockBegin 17 [some (.ref 0), some (iv t)] [.ref 233, .ref 1, .ref 244] Z Q := z_callV (pc' := 20) (idx := 305) (mj := m_X1_putAll) (av := [.ref 1, .ref 233]) (d' := 11) (by decide +kernel) rfl k_X1_putAll l_RX11_305 rfl (by omega) (am_le rfl) rfl (am_le rfl) hx.cl.o.1 hx.cl.o.2 rfl h
set_option maxRecDepth 20000 in
theorem b_X11_clockBegin_20 {G : Gx} {Q : Rv → Zm → Prop} {Z : Zm} {t : Int}  (hx : atAll Z) (h : ((zIx t 20) ∧ (R32 (zI Z 250 t.toNat)) ∧ (zSz Z < 1000000) ∧ (if 0 ≤ (zI Z 250 t.toNat) then (Q (.inl (some (iv (zI Z 250 t.toNat)))) Z) else Q (.inr "java/lang/UnsupportedOperationException") (zC Z 17 0 6)))) : ZP G 12 m_X11_clockBegin 20 [some (.ref 0), some (iv t)] [] Z Q := z_aload_n (pc' := 21) (j := 0) (by decide +kernel) rfl rfl <| z_aload_n (pc' := 22) (j := 0) (by decide +kernel) rfl rfl <| z_getR (pc' := 25) (idx := 43) (ci := 11) (f := 5) (by decide +kernel) f_RX11_43 rfl hx.o.1 hx.o.2 hx.r5 rfl <| z_getR (pc' := 28) (idx := 308) (ci := 1) (f := 1) (by decide +kernel) f_RX11_308 rfl hx.cl.o.1 hx.cl.o.2 hx.cl.r1 rfl <| z_iload_n (pc' := 29) (j := 1) (by decide +kernel) rfl rfl <| h.elim fun c1 h => z_iaload (pc' := 30) (by decide +kernel) hx.cl.a1 c1 rfl <| h.elim fun c2 h => h.elim fun c3 h => z_callV (pc' := 33) (idx := 309) (mj := m_X11_checkBegun) (av := [iv (zI Z 250 t.toNat)]) (d' := 8) (by decide +kernel) rfl k_X11_checkBegun l_RX11_309 rfl (by omega) (am_le rfl) rfl (am_le rfl) hx.o.1 hx.o.2 rfl <| zKt (s_checkBegun hx c2 c3) (am_ite h (fun h => z_aload_n (pc' := 34) (j := 0) (by decide +kernel) rfl rfl <| z_getR (pc' := 37) (idx := 43) (ci := 11) (f := 5) (by decide +kernel) f_RX11_43 rfl hx.o.1 hx.o.2 hx.r5 rfl <| z_getR (pc' := 40) (idx := 308) (ci := 1) (f := 1) (by decide +kernel) f_RX11_308 rfl hx.cl.o.1 hx.cl.o.2 hx.cl.r1 rfl <| z_iload_n (pc' := 41) (j := 1) (by decide +kernel) rfl rfl <| z_iaload (pc' := 42) (by decide +kernel) hx.cl.a1 c1 rfl <| z_ireturn (by decide +kernel) ⟨_, rfl, rfl⟩ h) (fun h => h))
set_option maxRecDepth 20000 in
theorem e_X11_clockEnd {G : Gx} {Q : Rv → Zm → Prop} {Z : Zm} {t : Int} (hx : atAll Z) (h : ((R32 t) ∧ (R32 (zI Z 1 3)) ∧ (zSz Z < 1000000) ∧ (if 0 ≤ t ∧ t < zI Z 1 3 then (ZM G 11 m_X11_freshNet [.ref 0] Z (zKc G 12 m_X11_clockEnd 17 [some (.ref 0), some (iv t)] [.ref 1, .ref 244] Q)) else Q (.inr "java/util/NoSuchElementException") (zC Z 15 0 6)))) : ZM G 12 m_X11_clockEnd [.ref 0, iv t] Z Q := ZM.of [some (.ref 0), some (iv t)] rfl <| z_aload_n (pc' := 1) (j := 0) (by decide +kernel) rfl rfl <| z_iload_n (pc' := 2) (j := 1) (by decide +kernel) rfl rfl <| h.elim fun c1 h => h.elim fun c2 h => h.elim fun c3 h => z_callV (pc' := 5) (idx := 133) (mj := m_X11_checkTask) (av := [iv t]) (d' := 8) (by decide +kernel) rfl k_X11_checkTask l_RX11_133 rfl (by omega) (am_le rfl) rfl (am_le rfl) hx.o.1 hx.o.2 rfl <| zKt (s_checkTask hx c1 c2 c3) (am_ite h (fun h => z_aload_n (pc' := 6) (j := 0) (by decide +kernel) rfl rfl <| z_getR (pc' := 9) (idx := 43) (ci := 11) (f := 5) (by decide +kernel) f_RX11_43 rfl hx.o.1 hx.o.2 hx.r5 rfl <| z_aload_n (pc' := 10) (j := 0) (by decide +kernel) rfl rfl <| z_getR (pc' := 13) (idx := 10) (ci := 11) (f := 0) (by decide +kernel) f_RX11_10 rfl hx.o.1 hx.o.2 hx.r0 rfl <| z_aload_n (pc' := 14) (j := 0) (by decide +kernel) rfl rfl <| z_callV (pc' := 17) (idx := 238) (mj := m_X11_freshNet) (av := []) (d' := 11) (by decide +kernel) rfl k_X11_freshNet l_RX11_238 rfl (by omega) (am_le rfl) rfl (am_le rfl) hx.o.1 hx.o.2 rfl h) (fun h => h))
set_option maxRecDepth 20000 in
theorem b_X11_clockEnd_17 {G : Gx} {Q : Rv → Zm → Prop} {Z : Zm} {t : Int}  (hx : atAll Z) (h : (ZM G 11 m_X1_putAll [.ref 244, .ref 1, .ref 233] Z (zKc G 12 m_X11_clockEnd 20 [some (.ref 0), some (iv t)] [] Q))) : ZP G 12 m_X11_clockEnd 17 [some (.ref 0), some (iv t)] [.ref 233, .ref 1, .ref 244] Z Q := z_callV (pc' := 20) (idx := 305) (mj := m_X1_putAll) (av := [.ref 1, .ref 233]) (d' := 11) (by decide +kernel) rfl k_X1_putAll l_RX11_305 rfl (by omega) (am_le rfl) rfl (am_le rfl) hx.cl.o.1 hx.cl.o.2 rfl h
set_option maxRecDepth 20000 in
theorem b_X11_clockEnd_20 {G : Gx} {Q : Rv → Zm → Prop} {Z : Zm} {t : Int}  (hx : atAll Z) (h : ((zIx t 20) ∧ (R32 (zI Z 250 t.toNat)) ∧ (zSz Z < 1000000) ∧ (if 0 ≤ (zI Z 250 t.toNat) then (Q (.inl (some (iv (zI Z 251 t.toNat)))) Z) else Q (.inr "java/lang/UnsupportedOperationException") (zC Z 17 0 6)))) : ZP G 12 m_X11_clockEnd 20 [some (.ref 0), some (iv t)] [] Z Q := z_aload_n (pc' := 21) (j := 0) (by decide +kernel) rfl rfl <| z_aload_n (pc' := 22) (j := 0) (by decide +kernel) rfl rfl <| z_getR (pc' := 25) (idx := 43) (ci := 11) (f := 5) (by decide +kernel) f_RX11_43 rfl hx.o.1 hx.o.2 hx.r5 rfl <| z_getR (pc' := 28) (idx := 308) (ci := 1) (f := 1) (by decide +kernel) f_RX11_308 rfl hx.cl.o.1 hx.cl.o.2 hx.cl.r1 rfl <| z_iload_n (pc' := 29) (j := 1) (by decide +kernel) rfl rfl <| h.elim fun c1 h => z_iaload (pc' := 30) (by decide +kernel) hx.cl.a1 c1 rfl <| h.elim fun c2 h => h.elim fun c3 h => z_callV (pc' := 33) (idx := 309) (mj := m_X11_checkBegun) (av := [iv (zI Z 250 t.toNat)]) (d' := 8) (by decide +kernel) rfl k_X11_checkBegun l_RX11_309 rfl (by omega) (am_le rfl) rfl (am_le rfl) hx.o.1 hx.o.2 rfl <| zKt (s_checkBegun hx c2 c3) (am_ite h (fun h => z_aload_n (pc' := 34) (j := 0) (by decide +kernel) rfl rfl <| z_getR (pc' := 37) (idx := 43) (ci := 11) (f := 5) (by decide +kernel) f_RX11_43 rfl hx.o.1 hx.o.2 hx.r5 rfl <| z_getR (pc' := 40) (idx := 312) (ci := 1) (f := 2) (by decide +kernel) f_RX11_312 rfl hx.cl.o.1 hx.cl.o.2 hx.cl.r2 rfl <| z_iload_n (pc' := 41) (j := 1) (by decide +kernel) rfl rfl <| z_iaload (pc' := 42) (by decide +kernel) hx.cl.a2 c1 rfl <| z_ireturn (by decide +kernel) ⟨_, rfl, rfl⟩ h) (fun h => h))
set_option maxRecDepth 20000 in
theorem e_X11_clockAll {G : Gx} {Q : Rv → Zm → Prop} {Z : Zm}  (hx : atAll Z) (h : (ZM G 11 m_X11_freshNet [.ref 0] Z (zKc G 12 m_X11_clockAll 12 [some (.ref 0), none, none] [.ref 1, .ref 244] Q))) : ZM G 12 m_X11_clockAll [.ref 0] Z Q := ZM.of [some (.ref 0), none, none] rfl <| z_aload_n (pc' := 1) (j := 0) (by decide +kernel) rfl rfl <| z_getR (pc' := 4) (idx := 43) (ci := 11) (f := 5) (by decide +kernel) f_RX11_43 rfl hx.o.1 hx.o.2 hx.r5 rfl <| z_aload_n (pc' := 5) (j := 0) (by decide +kernel) rfl rfl <| z_getR (pc' := 8) (idx := 10) (ci := 11) (f := 0) (by decide +kernel) f_RX11_10 rfl hx.o.1 hx.o.2 hx.r0 rfl <| z_aload_n (pc' := 9) (j := 0) (by decide +kernel) rfl rfl <| z_callV (pc' := 12) (idx := 238) (mj := m_X11_freshNet) (av := []) (d' := 11) (by decide +kernel) rfl k_X11_freshNet l_RX11_238 rfl (by omega) (am_le rfl) rfl (am_le rfl) hx.o.1 hx.o.2 rfl h
set_option maxRecDepth 20000 in
theorem b_X11_clockAll_12 {G : Gx} {Q : Rv → Zm → Prop} {Z : Zm}   (hx : atAll Z) (h : (ZM G 11 m_X1_putAll [.ref 244, .ref 1, .ref 233] Z (zKc G 12 m_X11_clockAll 15 [some (.ref 0), none, none] [] Q))) : ZP G 12 m_X11_clockAll 12 [some (.ref 0), none, none] [.ref 233, .ref 1, .ref 244] Z Q := z_callV (pc' := 15) (idx := 305) (mj := m_X1_putAll) (av := [.ref 1, .ref 233]) (d' := 11) (by decide +kernel) rfl k_X1_putAll l_RX11_305 rfl (by omega) (am_le rfl) rfl (am_le rfl) hx.cl.o.1 hx.cl.o.2 rfl h
set_option maxRecDepth 20000 in
theorem b_X11_clockAll_15 {G : Gx} {Q : Rv → Zm → Prop} {Z : Zm}   (hx : atAll Z) (h : (ZP G 12 m_X11_clockAll 19 [some (.ref 0), some (iv 0), some (iv 0)] [] Z Q)) : ZP G 12 m_X11_clockAll 15 [some (.ref 0), none, none] [] Z Q := z_iconst (pc' := 16) (n := 0) (by decide +kernel) rfl <| z_istore_n (pc' := 17) (j := 1) (ls' := [some (.ref 0), some (iv 0), none]) (by decide +kernel) (by decide) rfl rfl <| z_iconst (pc' := 18) (n := 0) (by decide +kernel) rfl <| z_istore_n (pc' := 19) (j := 2) (ls' := [some (.ref 0), some (iv 0), some (iv 0)]) (by decide +kernel) (by decide) rfl rfl <| h
set_option maxRecDepth 20000 in
theorem b_X11_clockAll_19 {G : Gx} {Q : Rv → Zm → Prop} {Z : Zm}  {v1 : Int} {v2 : Int} (hx : atAll Z) (h : ((R32 v2) ∧ (R32 (zI Z 1 3)) ∧ (if (zI Z 1 3) ≤ v2 then (Q (.inl (some (iv v1))) Z) else ((zIx v2 20) ∧ (R32 (zI Z 250 v2.toNat)) ∧ (zSz Z < 1000000) ∧ (if 0 ≤ (zI Z 250 v2.toNat) then ((R32 v1) ∧ (R32 (zI Z 251 v2.toNat)) ∧ ZP G 12 m_X11_clockAll 19 [some (.ref 0), some (iv (max v1 (zI Z 251 v2.toNat))), some (iv (v2 + 1))] [] Z Q) else Q (.inr "java/lang/UnsupportedOperationException") (zC Z 17 0 6)))))) : ZP G 12 m_X11_clockAll 19 [some (.ref 0), some (iv v1), some (iv v2)] [] Z Q := z_iload_n (pc' := 20) (j := 2) (by decide +kernel) rfl rfl <| z_aload_n (pc' := 21) (j := 0) (by decide +kernel) rfl rfl <| z_getR (pc' := 24) (idx := 10) (ci := 11) (f := 0) (by decide +kernel) f_RX11_10 rfl hx.o.1 hx.o.2 hx.r0 rfl <| z_getI (pc' := 27) (idx := 117) (ci := 0) (f := 3) (by decide +kernel) f_RX11_117 rfl hx.bk.o.1 hx.bk.o.2 rfl <| h.elim fun c1 h => h.elim fun c2 h => z_icmp_ge (pc' := 30) (tgt := 63) (off := 36) (by decide +kernel) (by decide) rfl c1 c2 (am_ite h (fun h => z_iload_n (pc' := 64) (j := 1) (by decide +kernel) rfl rfl <| z_ireturn (by decide +kernel) ⟨_, rfl, rfl⟩ h) (fun h => z_aload_n (pc' := 31) (j := 0) (by decide +kernel) rfl rfl <| z_aload_n (pc' := 32) (j := 0) (by decide +kernel) rfl rfl <| z_getR (pc' := 35) (idx := 43) (ci := 11) (f := 5) (by decide +kernel) f_RX11_43 rfl hx.o.1 hx.o.2 hx.r5 rfl <| z_getR (pc' := 38) (idx := 308) (ci := 1) (f := 1) (by decide +kernel) f_RX11_308 rfl hx.cl.o.1 hx.cl.o.2 hx.cl.r1 rfl <| z_iload_n (pc' := 39) (j := 2) (by decide +kernel) rfl rfl <| h.elim fun c6 h => z_iaload (pc' := 40) (by decide +kernel) hx.cl.a1 c6 rfl <| h.elim fun c7 h => h.elim fun c8 h => z_callV (pc' := 43) (idx := 309) (mj := m_X11_checkBegun) (av := [iv (zI Z 250 v2.toNat)]) (d' := 8) (by decide +kernel) rfl k_X11_checkBegun l_RX11_309 rfl (by omega) (am_le rfl) rfl (am_le rfl) hx.o.1 hx.o.2 rfl <| zKt (s_checkBegun hx c7 c8) (am_ite h (fun h => z_iload_n (pc' := 44) (j := 1) (by decide +kernel) rfl rfl <| z_aload_n (pc' := 45) (j := 0) (by decide +kernel) rfl rfl <| z_getR (pc' := 48) (idx := 43) (ci := 11) (f := 5) (by decide +kernel) f_RX11_43 rfl hx.o.1 hx.o.2 hx.r5 rfl <| z_getR (pc' := 51) (idx := 312) (ci := 1) (f := 2) (by decide +kernel) f_RX11_312 rfl hx.cl.o.1 hx.cl.o.2 hx.cl.r2 rfl <| z_iload_n (pc' := 52) (j := 2) (by decide +kernel) rfl rfl <| z_iaload (pc' := 53) (by decide +kernel) hx.cl.a2 c6 rfl <| h.elim fun c9 h => h.elim fun c10 h => z_max (pc' := 56) (idx := 265) (by decide +kernel) (amM5 142 rfl (by decide +kernel)) (amM3 108 rfl (by decide +kernel)) (amM1 21 rfl (by decide +kernel)) (amM3 109 rfl (by decide +kernel)) (by omega) (am_le rfl) c9 c10 rfl <| z_istore_n (pc' := 57) (j := 1) (ls' := [some (.ref 0), some (iv (max v1 (zI Z 251 v2.toNat))), some (iv v2)]) (by decide +kernel) (by decide) rfl rfl <| z_iinc (pc' := 60) (j := 2) (n := 1) (x := v2) (ls' := [some (.ref 0), some (iv (max v1 (zI Z 251 v2.toNat))), some (iv (v2 + 1))]) (by decide +kernel) rfl (by decide) rfl rfl <| z_goto (tgt := 19) (off := -41) (by decide +kernel) (by decide) <| h) (fun h => h))))
/-! ===== the class' clock ===== -/
theorem zsum_split (f : Nat → Int) (a : Nat) : ∀ m, zsum f (a + m) = zsum f a + zsum (fun i => f (a + i)) m := by
  intro m
  induction m with
  | zero => exact (Int.add_zero _).symm
  | succ m ih =>
    rw [show a + (m + 1) = (a + m) + 1 by omega, zsum_s, ih, zsum_s]
    omega
theorem s_countWork {G : Gx} {Z : Zm} {q c x y : Nat} {w : Nat → Int} (hq : atClock Z q) (hc : c < 4) (hw : cWk Z (q + 2 + c) w) (hx : x ≤ y ∧ y ≤ 168) : ZM G 0 m_X1_countWork [.ref q, iv (c : Int), iv (x : Int), iv (y : Int)] Z (fun r Z' => r = .inl (some (iv (zsum (fun i => w (x + i)) (y - x)))) ∧ Z' = Z) := by
  refine e_X1_countWork hq ?_
  suffices key : ∀ j, j ≤ y - x → ZP G 0 m_X1_countWork 6 [some (.ref q), some (iv (c : Int)), none, some (iv (y : Int)), some (iv (zsum (fun i => w (x + i)) j)), some (iv ((x + j : Nat) : Int))] [] Z (fun r Z' => r = .inl (some (iv (zsum (fun i => w (x + i)) (y - x)))) ∧ Z' = Z) from key 0 (Nat.zero_le _)
  refine am_up (n := y - x) fun j hj ih => ?_
  refine b_X1_countWork_6 hq ⟨by omega, by omega, ?_⟩
  by_cases d : j < y - x
  · rw [if_neg (by omega), Int.toNat_natCast, Int.toNat_natCast, hw.2 (x + j) (by omega)]
    exact ⟨zIx_nat (by omega) (by omega), zIx_nat (by omega) (by omega), ih d⟩
  · rw [if_pos (by omega), show j = y - x by omega]
    exact ⟨rfl, rfl⟩
/-- the weeks with hours told anew -/
def newW (W : Nat → Nat → Int) (c y z : Nat) (q : Int) : Nat → Nat → Int := fun c' h => if c' = c ∧ y ≤ h ∧ h < z then q else W c' h
theorem newW_01 {W : Nat → Nat → Int} {c y z : Nat} {q : Int} (hW : w01 (W c)) (hq : q = 0 ∨ q = 1) : w01 (newW W c y z q c) := fun h hh => by
  unfold newW
  by_cases d : c = c ∧ y ≤ h ∧ h < z
  · rw [if_pos d]
    exact hq
  · rw [if_neg d]
    exact hW h hh
theorem newW_out {W : Nat → Nat → Int} {c y z : Nat} (hy : y ≤ z ∧ z ≤ 168) : zsum (newW W c y z 0 c) 168 = zsum (W c) y + zsum (fun i => W c (z + i)) (168 - z) := by
  have h1 := zsum_split (newW W c y z 0 c) z (168 - z)
  have h2 := zsum_split (newW W c y z 0 c) y (z - y)
  rw [show z + (168 - z) = 168 by omega] at h1
  rw [show y + (z - y) = z by omega] at h2
  have e1 : zsum (newW W c y z 0 c) y = zsum (W c) y := zsum_eq fun i hi => if_neg (by omega)
  have e2 : zsum (fun i => newW W c y z 0 c (y + i)) (z - y) = 0 := by
    rw [zsum_eq (g := fun _ => 0), zsum_0]
    exact fun i hi => if_pos (by omega)
  have e3 : zsum (fun i => newW W c y z 0 c (z + i)) (168 - z) = zsum (fun i => W c (z + i)) (168 - z) := zsum_eq fun i hi => if_neg (by omega)
  omega
theorem newW_in {W : Nat → Nat → Int} {c y z : Nat} (hW : w01 (W c)) (hy : y < z ∧ z ≤ 168) : 0 < zsum (newW W c y z 1 c) 168 := by
  have := zsum_w1 (newW_01 (y := y) (z := z) (q := 1) hW (Or.inr rfl)) ⟨y, by omega, if_pos ⟨rfl, by omega, by omega⟩⟩
  omega
noncomputable def o_hours (σ : St) (x y z q : Int) : Ou := cIf ((0 ≤ x ∧ x ≤ 3) ∧ (0 ≤ y ∧ y ≤ 167) ∧ y + 1 ≤ z ∧ z ≤ 168) (cIf (0 < zsum (newW (sW σ) x.toNat y.toNat z.toNat q x.toNat) 168) (0, zsum (newW (sW σ) x.toNat y.toNat z.toNat q x.toNat) 168, stW σ (newW (sW σ) x.toNat y.toNat z.toNat q)) (2, 0, σ)) (1, 0, σ)
noncomputable def o_isWork (σ : St) (x y : Int) : Ou := cIf ((0 ≤ x ∧ x ≤ 3) ∧ 0 ≤ y) (0, sW σ x.toNat (y.toNat % 168), σ) (1, 0, σ)
noncomputable def vCb (σ : St) (t : Nat) : Int := (vClk (sK σ) (sW σ)).1 t
noncomputable def vCe (σ : St) (t : Nat) : Int := (vClk (sK σ) (sW σ)).2 t
noncomputable def o_clockBegin (σ : St) (t : Int) : Ou := cIf (0 ≤ t ∧ t < kN (sK σ)) (cIf (vCb σ t.toNat ≠ -1) (0, vCb σ t.toNat, σ) (2, 0, σ)) (1, 0, σ)
noncomputable def o_clockEnd (σ : St) (t : Int) : Ou := cIf (0 ≤ t ∧ t < kN (sK σ)) (cIf (vCb σ t.toNat ≠ -1) (0, vCe σ t.toNat, σ) (2, 0, σ)) (1, 0, σ)
noncomputable def o_clockAll (σ : St) : Ou := cIf (∀ t, t < kN (sK σ) → vCb σ t ≠ -1) (0, zmax (vCe σ) (kN (sK σ)), σ) (1, 0, σ)
theorem IC.week {Z : Zm} {σ : St} {a : Nat} {f : Nat → Int} {W : Nat → Nat → Int} (h : IC Z σ) (ha : 246 ≤ a ∧ a < 250) (hf : ∀ h, h < 168 → f h = W (a - 246) h) (hW : ∀ c h, c < 4 → h < 168 → c ≠ a - 246 → W c h = sW σ c h) : IC (zSI Z a f) (stW σ W) := by
  have fr : zF (fun b => b = a) 0 0 Z (zSI Z a f) := zF_I rfl
  have e : ∀ b, b ≠ a → zI (zSI Z a f) b = zI Z b := fun b g1 => zI_other g1
  obtain ⟨h0, h1', h2', h3, h4, h5, h6, h7, h8, h9⟩ := h
  refine ⟨h0.ext fr.1, h1'.fr h0 fr (by omega) (fun a g1 g2 => by omega), h2'.fr h0 fr (fun a g1 g2 => by omega), ?_, cN.keep h4 h0 fr (fun a g1 g2 => by omega), fun c q g1 g2 => ?_, ?_, ?_, ?_, ?_⟩
  · rw [e 231 (by omega), e 232 (by omega)]
    exact h3
  · show _ = W c q
    by_cases d : c = a - 246
    · rw [d, show 246 + (a - 246) = a by omega, zI_same]
      exact hf q g2
    · rw [e (246 + c) (by omega), h5 c q g1 g2, hW c q g1 g2 d]
  · rw [e 252 (by omega)]
    exact h6
  · rw [e 0 (by omega), e 253 (by omega)]
    exact h7
  · rw [cPl, e 256 (by omega), e 257 (by omega), e 259 (by omega), e 260 (by omega), e 261 (by omega), e 264 (by omega), e 265 (by omega)]
    exact h8
  · rw [e 0 (by omega), e 276 (by omega)]
    exact h9
theorem IC.wk {Z : Zm} {σ : St} (h : IC Z σ) {c : Nat} (hc : c < 4) (hW : w01 (sW σ c)) : cWk Z (246 + c) (sW σ c) := ⟨hW, fun x hx => h.2.2.2.2.2.1 c x hc hx⟩
theorem atClock.s {Z : Zm} {q a : Nat} {f : Nat → Int} (h : atClock Z q) : atClock (zSI Z a f) q := h
theorem zF_cA {Z : Zm} {a : Nat} {f : Nat → Int} (h : a < 300) : zF cF 0 0 Z (zSI Z a f) := zF_I h
theorem s_tellHours {G : Gx} {Z : Zm} {σ : St} {c y z : Nat} {q : Int} (h : IC Z σ) (ho : okS σ) (hc : c < 4) (hy : y < z ∧ z ≤ 168) (hq : q = 0 ∨ q = 1) : ZM G 1 m_X1_tellHours [.ref 244, iv (c : Int), iv (y : Int), iv (z : Int), iv q] Z (fun r Z' => r = .inl (some (iv (zsum (newW (sW σ) c y z q c) 168))) ∧ IC Z' (stW σ (newW (sW σ) c y z q)) ∧ zF cF 0 0 Z Z') := by
  have hw0 := (ho.w c hc).1
  have hw := newW_01 (y := y) (z := z) hw0 hq
  have hcl : atClock Z 244 := h.1.cl
  refine e_X1_tellHours hcl ?_
  have e0 := (h.wk hc hw0).2
  suffices key : ∀ j, j ≤ z - y → ∀ f, (∀ h, h < 168 → f h = newW (sW σ) c y (y + j) q c h) → ZP G 1 m_X1_tellHours 3 [some (.ref 244), some (iv (c : Int)), none, some (iv (z : Int)), some (iv q), some (iv ((y + j : Nat) : Int))] [] (zSI Z (246 + c) f) (fun r Z' => r = .inl (some (iv (zsum (newW (sW σ) c y z q c) 168))) ∧ IC Z' (stW σ (newW (sW σ) c y z q)) ∧ zF cF 0 0 Z Z') by
    have h9 := key 0 (Nat.zero_le _) (zI Z (246 + c)) fun x hx => by
      rw [e0 x hx]
      exact (if_neg (by omega)).symm
    rw [zSI_id] at h9
    exact h9
  refine am_up (n := z - y) fun j hj ih f hf => ?_
  refine b_X1_tellHours_3 hcl.s ⟨by omega, by omega, ?_⟩
  by_cases d : j < z - y
  · rw [if_neg (by omega)]
    refine ⟨zIx_nat (by omega) (by omega), by omega, zIx_nat (by omega) (by omega), ?_⟩
    rw [Int.toNat_natCast, Int.toNat_natCast]
    rintro _ rfl
    rw [show 244 + 2 + c = 246 + c by omega, zI_same, zSI_zSI]
    refine ih d _ fun x hx => ?_
    have eq : b2 (¬ q = 0) = q := by
      rcases hq with g | g
      · rw [g]
        rfl
      · rw [g]
        rfl
    by_cases g : x = y + j
    · rw [g, zu_same, eq]
      exact (if_pos ⟨rfl, by omega, by omega⟩).symm
    · rw [zu_other g, hf x hx]
      unfold newW
      by_cases g2 : c = c ∧ y ≤ x ∧ x < y + j
      · rw [if_pos g2, if_pos (by omega)]
      · rw [if_neg g2, if_neg (by omega)]
  · rw [if_pos (by omega)]
    have ej : y + j = z := by omega
    rw [ej] at hf
    have h1 : IC (zSI Z (246 + c) f) (stW σ (newW (sW σ) c y z q)) := h.week (by omega) (fun x hx => by rw [show 246 + c - 246 = c by omega]; exact hf x hx) fun c' x g1 g2 g3 => if_neg (by omega)
    have hk : cWk (zSI Z (246 + c) f) (244 + 2 + c) (newW (sW σ) c y z q c) := ⟨hw, fun x hx => by rw [show 244 + 2 + c = 246 + c by omega, zI_same]; exact hf x hx⟩
    refine ((s_countWork (x := 0) (y := 168) hcl.s hc hk (by omega)).deeper (by omega)).mono ?_
    rintro r W ⟨rfl, hW⟩
    obtain rfl := hW.symm
    refine b_X1_tellHours_43 hcl.s ⟨?_, h1, zF_cA (by omega)⟩
    rw [zsum_eq (f := fun i => newW (sW σ) c y z q c (0 + i)) (g := newW (sW σ) c y z q c) fun i _ => by rw [Nat.zero_add]]
theorem c_hours {G : Gx} {Z : Zm} {σ : St} {x y z q : Int} (h : IC Z σ) (ho : okS σ) (hz : zSz Z < 1000000) (hx : R32 x) (hy : R32 y) (hzz : R32 z) (hq : q = 0 ∨ q = 1) : ZM G 12 m_X11_hours [.ref 0, iv x, iv y, iv z, iv q] Z (rC Z (E3 eA eU "") iv (o_hours σ x y z q)) := by
  have no : ∀ P : Prop, (P → ¬ ((0 ≤ x ∧ x ≤ 3) ∧ (0 ≤ y ∧ y ≤ 167) ∧ y + 1 ≤ z ∧ z ≤ 168)) → P → (zSz Z < 1000000) ∧ rC Z (E3 eA eU "") iv (o_hours σ x y z q) (.inr "java/lang/IllegalArgumentException") (zC Z 13 0 6) := fun P hP p => by
    unfold o_hours
    rw [cIf_f (hP p)]
    exact ⟨hz, rC.no h (by decide) rfl⟩
  refine e_X11_hours h.1 ⟨hx, ?_⟩
  by_cases c1 : x < 0
  · rw [if_pos c1]
    exact no _ (fun g => by omega) c1
  rw [if_neg c1]
  by_cases c2 : x < 4
  case neg =>
    rw [if_neg c2]
    exact no _ (fun g => by omega) c2
  rw [if_pos c2]
  refine ⟨hy, ?_⟩
  by_cases c3 : y < 0
  · rw [if_pos c3]
    exact no _ (fun g => by omega) c3
  rw [if_neg c3]
  by_cases c4 : 168 ≤ y
  · rw [if_pos c4]
    exact no _ (fun g => by omega) c4
  rw [if_neg c4]
  refine ⟨hzz, ?_⟩
  by_cases c5 : z ≤ y
  · rw [if_pos c5]
    exact no _ (fun g => by omega) c5
  rw [if_neg c5]
  by_cases c6 : z ≤ 168
  case neg =>
    rw [if_neg c6]
    exact no _ (fun g => by omega) c6
  rw [if_pos c6]
  refine ⟨by omega, ?_⟩
  obtain ⟨c, rfl⟩ : ∃ n : Nat, x = (n : Int) := ⟨x.toNat, by omega⟩
  obtain ⟨a, rfl⟩ : ∃ n : Nat, y = (n : Int) := ⟨y.toNat, by omega⟩
  obtain ⟨b, rfl⟩ : ∃ n : Nat, z = (n : Int) := ⟨z.toNat, by omega⟩
  have hc : c < 4 := by omega
  have hw0 := (ho.w c hc).1
  unfold o_hours
  rw [cIf_p (by omega), Int.toNat_natCast, Int.toNat_natCast, Int.toNat_natCast]
  have tell : 0 < zsum (newW (sW σ) c a b q c) 168 → ZM G 11 m_X1_tellHours [.ref 244, iv (c : Int), iv (a : Int), iv (b : Int), iv q] Z (zKc G 12 m_X11_hours 95 [none, none, none, none, none] [] (rC Z (E3 eA eU "") iv (cIf (0 < zsum (newW (sW σ) c a b q c) 168) (0, zsum (newW (sW σ) c a b q c) 168, stW σ (newW (sW σ) c a b q)) (2, 0, σ)))) := fun g => by
    rw [cIf_p g]
    refine ((s_tellHours h ho hc (by omega) hq).deeper (by omega)).mono ?_
    rintro r W ⟨rfl, h1, f1⟩
    exact b_X11_hours_95 h1.1 (rC.ok h1 f1.c1 rfl)
  by_cases c7 : q = 0
  · rw [if_pos c7]
    have hk := h.wk hc hw0
    have e1 := newW_out (W := sW σ) (c := c) (y := a) (z := b) (by omega)
    refine ZM.deeper (d := 1) ?_ (by omega)
    refine e_X1_countOutside h.1.cl (((s_countWork (x := 0) (y := a) h.1.cl hc hk (by omega)).deeper (by omega)).mono ?_)
    rintro r W ⟨rfl, hW⟩
    obtain rfl := hW.symm
    refine b_X1_countOutside_7 h.1.cl (((s_countWork (x := b) (y := 168) h.1.cl hc hk (by omega)).deeper (by omega)).mono ?_)
    rintro r W ⟨rfl, hW⟩
    obtain rfl := hW.symm
    refine b_X1_countOutside_16 h.1.cl ?_
    have e2 : zsum (fun i => sW σ c (0 + i)) (a - 0) = zsum (sW σ c) a := zsum_eq fun i _ => by rw [Nat.zero_add]
    have e3 : zsum (fun i => sW σ c (0 + i)) (a - 0) + zsum (fun i => sW σ c (b + i)) (168 - b) = zsum (newW (sW σ) c a b q c) 168 := by
      rw [e2, c7]
      omega
    rw [e3]
    have r1 := zsum_bound (f := newW (sW σ) c a b q c) (n := 168) (a := 0) (b := 1) fun i hi => by
      rcases newW_01 (y := a) (z := b) hw0 hq i hi with e | e <;> omega
    refine b_X11_hours_69 h.1 ?_
    clear e3 e2 e1
    generalize zsum (newW (sW σ) c a b q c) 168 = S at tell r1 ⊢
    refine ⟨by omega, ?_⟩
    by_cases c8 : S = 0
    · rw [if_pos c8, cIf_f (by omega)]
      exact ⟨hz, rC.no h (by decide) rfl⟩
    · rw [if_neg c8]
      exact tell (by omega)
  · rw [if_neg c7]
    refine tell ?_
    rw [hq.resolve_left c7]
    exact newW_in hw0 (by omega)
theorem c_isWork {G : Gx} {Z : Zm} {σ : St} {x y : Int} (h : IC Z σ) (ho : okS σ) (hz : zSz Z < 1000000) (hx : R32 x) (hy : R32 y) : ZM G 12 m_X11_isWork [.ref 0, iv x, iv y] Z (rC Z (E3 eA "" "") iv (o_isWork σ x y)) := by
  refine e_X11_isWork h.1 ⟨hx, ?_⟩
  unfold o_isWork
  by_cases c1 : x < 0
  · rw [if_pos c1, cIf_f (by omega)]
    exact ⟨hz, rC.no h (by decide) rfl⟩
  rw [if_neg c1]
  by_cases c2 : 4 ≤ x
  · rw [if_pos c2, cIf_f (by omega)]
    exact ⟨hz, rC.no h (by decide) rfl⟩
  rw [if_neg c2]
  refine ⟨hy, ?_⟩
  by_cases c3 : 0 ≤ y
  · rw [if_pos c3, cIf_p (by omega)]
    have e1 : (y % 168).toNat = y.toNat % 168 := by omega
    have hc : x.toNat < 4 := by omega
    have e2 := h.2.2.2.2.2.1 x.toNat (y.toNat % 168) hc (by omega)
    have e3 := (ho.w x.toNat hc).1 (y.toNat % 168) (by omega)
    rw [e1, e2]
    refine ⟨⟨by omega, by omega, by decide⟩, c3, ⟨by omega, by omega, by decide⟩, by omega, rC.st h ?_⟩
    rcases e3 with e | e
    · rw [e]
      rfl
    · rw [e]
      rfl
  · rw [if_neg c3, cIf_f (by omega)]
    exact ⟨hz, rC.no h (by decide) rfl⟩
