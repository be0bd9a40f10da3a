set_option maxRecDepth 20000 in
theorem e_X11_anomaly {G : Gx} {Q : Rv → Zm → Prop} {Z : Zm} {c : Int} {y : Int} (hx : atAll Z) (h : ((R32 c) ∧ (R32 (zIdx 4 c)) ∧ (if 0 ≤ (zIdx 4 c) then ((R32 y) ∧ (zSz Z < 1000000) ∧ (if 0 ≤ zIdx 2 y then (ZM G 11 m_X11_makeList [.ref 0, iv y] Z (zKc G 12 m_X11_anomaly 30 [some (.ref 0), some (iv c), none, none, none, none] [] Q)) else Q (.inr "java/lang/IllegalArgumentException") (zC Z 13 0 6))) else ((zSz Z < 1000000) ∧ Q (.inr "java/lang/IllegalArgumentException") (zC Z 13 0 6))))) : ZM G 12 m_X11_anomaly [.ref 0, iv c, iv y] Z Q := ZM.of [some (.ref 0), some (iv c), some (iv y), none, none, none] rfl <| z_ldcSw (pc' := 3) (idx := 382) (i := 4) (by decide +kernel) (by decide) (by decide) (by decide) rfl <| z_iload_n (pc' := 4) (j := 1) (by decide +kernel) rfl rfl <| h.elim fun c1 h => z_callT (pc' := 7) (idx := 189) (i := 4) (mj := m_J0_indexOf_0f7a4) (av := [iv c]) (d' := 3) (by decide +kernel) rfl k_J0_indexOf_0f7a4 (by decide) (amM4 132 rfl (by decide +kernel)) rfl (by omega) (am_le rfl) rfl (am_le rfl) rfl <| zKf (s_indexOf (by decide) c1) <| h.elim fun c2 h => z_if_ge (pc' := 10) (tgt := 20) (off := 13) (by decide +kernel) (by decide) rfl c2 (am_ite h (fun h => z_aload_n (pc' := 21) (j := 0) (by decide +kernel) rfl rfl <| z_iload_n (pc' := 22) (j := 2) (by decide +kernel) rfl rfl <| h.elim fun c3 h => h.elim fun c4 h => z_callV (pc' := 25) (idx := 322) (mj := m_X11_checkRule) (av := [iv y]) (d' := 8) (by decide +kernel) rfl k_X11_checkRule l_RX11_322 rfl (by omega) (am_le rfl) rfl (am_le rfl) hx.o.1 hx.o.2 rfl <| zKt (s_checkRule hx c3 c4) (am_ite h (fun h => z_aload_n (pc' := 26) (j := 0) (by decide +kernel) rfl rfl <| z_iload_n (pc' := 27) (j := 2) (by decide +kernel) rfl rfl <| z_callV (pc' := 30) (idx := 326) (mj := m_X11_makeList) (av := [iv y]) (d' := 11) (by decide +kernel) rfl k_X11_makeList l_RX11_326 rfl (by omega) (am_le rfl) rfl (am_le rfl) hx.o.1 hx.o.2 rfl (ZM.mono h (zKc_wk (wk_some (wk_some (wk_none (wk_none (wk_none (wk_none wk_nil))))))))) (fun h => h))) (fun h => h.elim fun c5 h => z_throw (is := 253) (text := "there is no such kind") th_IllegalArgumentException (amT5 (i := 132) rfl) rfl (by decide +kernel) (by decide +kernel) (Or.inl ⟨(by decide +kernel), (by decide +kernel), (by decide +kernel)⟩) (by omega) (am_le rfl) c5 h))
set_option maxRecDepth 20000 in
theorem b_X11_anomaly_30 {G : Gx} {Q : Rv → Zm → Prop} {Z : Zm} {c : Int}  (hx : atAll Z) (h : (ZM G 11 m_X9_takeOver [.ref 266, .ref 1, .ref 252] Z (zKc G 12 m_X11_anomaly 45 [some (.ref 0), some (iv c), none, none, none, none] [] Q))) : ZP G 12 m_X11_anomaly 30 [some (.ref 0), some (iv c), none, none, none, none] [] Z Q := z_aload_n (pc' := 31) (j := 0) (by decide +kernel) rfl rfl <| z_getR (pc' := 34) (idx := 67) (ci := 11) (f := 12) (by decide +kernel) f_RX11_67 rfl hx.o.1 hx.o.2 hx.r12 rfl <| z_aload_n (pc' := 35) (j := 0) (by decide +kernel) rfl rfl <| z_getR (pc' := 38) (idx := 10) (ci := 11) (f := 0) (by decide +kernel) f_RX11_10 rfl hx.o.1 hx.o.2 hx.r0 rfl <| z_aload_n (pc' := 39) (j := 0) (by decide +kernel) rfl rfl <| z_getR (pc' := 42) (idx := 47) (ci := 11) (f := 6) (by decide +kernel) f_RX11_47 rfl hx.o.1 hx.o.2 hx.r6 rfl <| z_callV (pc' := 45) (idx := 331) (mj := m_X9_takeOver) (av := [.ref 1, .ref 252]) (d' := 11) (by decide +kernel) rfl k_X9_takeOver l_RX11_331 rfl (by omega) (am_le rfl) rfl (am_le rfl) hx.pt.o.1 hx.pt.o.2 rfl h
set_option maxRecDepth 20000 in
theorem b_X11_anomaly_45 {G : Gx} {Q : Rv → Zm → Prop} {Z : Zm} {c : Int}  (hx : atAll Z) (h : (ZM G 11 m_X9_makeByFreeHands [.ref 266, .ref 1, .ref 254] Z (zKc G 12 m_X11_anomaly 60 [some (.ref 0), some (iv c), none, none, none, none] [] Q))) : ZP G 12 m_X11_anomaly 45 [some (.ref 0), some (iv c), none, none, none, none] [] Z Q := z_aload_n (pc' := 46) (j := 0) (by decide +kernel) rfl rfl <| z_getR (pc' := 49) (idx := 67) (ci := 11) (f := 12) (by decide +kernel) f_RX11_67 rfl hx.o.1 hx.o.2 hx.r12 rfl <| z_aload_n (pc' := 50) (j := 0) (by decide +kernel) rfl rfl <| z_getR (pc' := 53) (idx := 10) (ci := 11) (f := 0) (by decide +kernel) f_RX11_10 rfl hx.o.1 hx.o.2 hx.r0 rfl <| z_aload_n (pc' := 54) (j := 0) (by decide +kernel) rfl rfl <| z_getR (pc' := 57) (idx := 54) (ci := 11) (f := 9) (by decide +kernel) f_RX11_54 rfl hx.o.1 hx.o.2 hx.r9 rfl <| z_callV (pc' := 60) (idx := 335) (mj := m_X9_makeByFreeHands) (av := [.ref 1, .ref 254]) (d' := 11) (by decide +kernel) rfl k_X9_makeByFreeHands l_RX11_335 rfl (by omega) (am_le rfl) rfl (am_le rfl) hx.pt.o.1 hx.pt.o.2 rfl h
set_option maxRecDepth 20000 in
theorem b_X11_anomaly_60 {G : Gx} {Q : Rv → Zm → Prop} {Z : Zm} {c : Int}  (hx : atAll Z) (h : (ZM G 11 m_X11_changesOf [.ref 0, iv c] Z (zKc G 12 m_X11_anomaly 73 [some (.ref 0), some (iv c), none, some (iv (zI Z 266 4)), none, none] [] Q))) : ZP G 12 m_X11_anomaly 60 [some (.ref 0), some (iv c), none, none, none, none] [] Z Q := z_aload_n (pc' := 61) (j := 0) (by decide +kernel) rfl rfl <| z_getR (pc' := 64) (idx := 67) (ci := 11) (f := 12) (by decide +kernel) f_RX11_67 rfl hx.o.1 hx.o.2 hx.r12 rfl <| z_getI (pc' := 67) (idx := 351) (ci := 9) (f := 4) (by decide +kernel) f_RX11_351 rfl hx.pt.o.1 hx.pt.o.2 rfl <| z_istore_n (pc' := 68) (j := 3) (ls' := [some (.ref 0), some (iv c), none, some (iv (zI Z 266 4)), none, none]) (by decide +kernel) (by decide) rfl rfl <| z_aload_n (pc' := 69) (j := 0) (by decide +kernel) rfl rfl <| z_iload_n (pc' := 70) (j := 1) (by decide +kernel) rfl rfl <| z_callV (pc' := 73) (idx := 384) (mj := m_X11_changesOf) (av := [iv c]) (d' := 11) (by decide +kernel) rfl k_X11_changesOf l_RX11_384 rfl (by omega) (am_le rfl) rfl (am_le rfl) hx.o.1 hx.o.2 rfl h
set_option maxRecDepth 20000 in
theorem b_X11_anomaly_73 {G : Gx} {Q : Rv → Zm → Prop} {Z : Zm} {c : Int} {v3 : Int} {s0 : Int} (hx : atAll Z) (h : (ZP G 12 m_X11_anomaly 78 [some (.ref 0), some (iv c), none, some (iv v3), some (iv s0), some (iv 0)] [] Z Q)) : ZP G 12 m_X11_anomaly 73 [some (.ref 0), some (iv c), none, some (iv v3), none, none] [iv s0] Z Q := z_istore (pc' := 75) (j := 4) (ls' := [some (.ref 0), some (iv c), none, some (iv v3), some (iv s0), none]) (by decide +kernel) (by decide) rfl rfl <| z_iconst (pc' := 76) (n := 0) (by decide +kernel) rfl <| z_istore (pc' := 78) (j := 5) (ls' := [some (.ref 0), some (iv c), none, some (iv v3), some (iv s0), some (iv 0)]) (by decide +kernel) (by decide) rfl rfl <| h
set_option maxRecDepth 20000 in
theorem b_X11_anomaly_78 {G : Gx} {Q : Rv → Zm → Prop} {Z : Zm} {c : Int} {v3 : Int} {v4 : Int} {v5 : Int} (hx : atAll Z) (h : ((R32 v5) ∧ (R32 v4) ∧ (if v4 ≤ v5 then (Q (.inl (some (iv (-1)))) Z) else (ZM G 11 m_X11_endAfterChange [.ref 0, iv c, iv v5] Z (zKc G 12 m_X11_anomaly 92 [some (.ref 0), some (iv c), none, some (iv v3), some (iv v4), some (iv v5)] [] Q))))) : ZP G 12 m_X11_anomaly 78 [some (.ref 0), some (iv c), none, some (iv v3), some (iv v4), some (iv v5)] [] Z Q := z_iload (pc' := 80) (j := 5) (by decide +kernel) rfl rfl <| z_iload (pc' := 82) (j := 4) (by decide +kernel) rfl rfl <| h.elim fun c1 h => h.elim fun c2 h => z_icmp_ge (pc' := 85) (tgt := 105) (off := 23) (by decide +kernel) (by decide) rfl c1 c2 (am_ite h (fun h => z_iconst (pc' := 106) (n := -1) (by decide +kernel) rfl <| z_ireturn (by decide +kernel) ⟨_, rfl, rfl⟩ h) (fun h => z_aload_n (pc' := 86) (j := 0) (by decide +kernel) rfl rfl <| z_iload_n (pc' := 87) (j := 1) (by decide +kernel) rfl rfl <| z_iload (pc' := 89) (j := 5) (by decide +kernel) rfl rfl <| z_callV (pc' := 92) (idx := 387) (mj := m_X11_endAfterChange) (av := [iv c, iv v5]) (d' := 11) (by decide +kernel) rfl k_X11_endAfterChange l_RX11_387 rfl (by omega) (am_le rfl) rfl (am_le rfl) hx.o.1 hx.o.2 rfl h))
set_option maxRecDepth 20000 in
theorem b_X11_anomaly_92 {G : Gx} {Q : Rv → Zm → Prop} {Z : Zm} {c : Int} {v3 : Int} {v4 : Int} {v5 : Int} {s0 : Int} (hx : atAll Z) (h : ((R32 s0) ∧ (R32 v3) ∧ (if s0 ≤ v3 then (ZP G 12 m_X11_anomaly 78 [some (.ref 0), some (iv c), none, some (iv v3), some (iv v4), some (iv (v5 + 1))] [] Z Q) else (Q (.inl (some (iv v5))) Z)))) : ZP G 12 m_X11_anomaly 92 [some (.ref 0), some (iv c), none, some (iv v3), some (iv v4), some (iv v5)] [iv s0] Z Q := z_iload_n (pc' := 93) (j := 3) (by decide +kernel) rfl rfl <| h.elim fun c1 h => h.elim fun c2 h => z_icmp_le (pc' := 96) (tgt := 99) (off := 6) (by decide +kernel) (by decide) rfl c1 c2 (am_ite h (fun h => z_iinc (pc' := 102) (j := 5) (n := 1) (x := v5) (ls' := [some (.ref 0), some (iv c), none, some (iv v3), some (iv v4), some (iv (v5 + 1))]) (by decide +kernel) rfl (by decide) rfl rfl <| z_goto (tgt := 78) (off := -24) (by decide +kernel) (by decide) <| h) (fun h => z_iload (pc' := 98) (j := 5) (by decide +kernel) rfl rfl <| z_ireturn (by decide +kernel) ⟨_, rfl, rfl⟩ h))
set_option maxRecDepth 20000 in
theorem e_X11_endAfterChange {G : Gx} {Q : Rv → Zm → Prop} {Z : Zm} {c : Int} {x : Int} (hx : atAll Z) (h : (ZM G 10 m_X9_takeOver [.ref 266, .ref 1, .ref 252] Z (zKc G 11 m_X11_endAfterChange 15 [some (.ref 0), some (iv c), some (iv x)] [] Q))) : ZM G 11 m_X11_endAfterChange [.ref 0, iv c, iv x] Z Q := ZM.of [some (.ref 0), some (iv c), some (iv x)] rfl <| z_aload_n (pc' := 1) (j := 0) (by decide +kernel) rfl rfl <| z_getR (pc' := 4) (idx := 67) (ci := 11) (f := 12) (by decide +kernel) f_RX11_67 rfl hx.o.1 hx.o.2 hx.r12 rfl <| z_aload_n (pc' := 5) (j := 0) (by decide +kernel) rfl rfl <| z_getR (pc' := 8) (idx := 10) (ci := 11) (f := 0) (by decide +kernel) f_RX11_10 rfl hx.o.1 hx.o.2 hx.r0 rfl <| z_aload_n (pc' := 9) (j := 0) (by decide +kernel) rfl rfl <| z_getR (pc' := 12) (idx := 47) (ci := 11) (f := 6) (by decide +kernel) f_RX11_47 rfl hx.o.1 hx.o.2 hx.r6 rfl <| z_callV (pc' := 15) (idx := 331) (mj := m_X9_takeOver) (av := [.ref 1, .ref 252]) (d' := 10) (by decide +kernel) rfl k_X9_takeOver l_RX11_331 rfl (by omega) (am_le rfl) rfl (am_le rfl) hx.pt.o.1 hx.pt.o.2 rfl h
set_option maxRecDepth 20000 in
theorem b_X11_endAfterChange_15 {G : Gx} {Q : Rv → Zm → Prop} {Z : Zm} {c : Int} {x : Int}  (hx : atAll Z) (h : ((R32 c) ∧ (if c = 104 then (∀ Z2, Z2 = zSI Z 267 (zu (zI Z 267) 0 ((zI Z 267 0) + 1)) → ZM G 10 m_X9_makeByFreeHands [.ref 266, .ref 1, .ref 254] Z2 (zKc G 11 m_X11_endAfterChange 95 [some (.ref 0), none, none] [] Q)) else ((if c = 110 then (∀ Z3, Z3 = zSI Z 266 (zu (zI Z 266) 3 x) → ZM G 10 m_X9_makeByFreeHands [.ref 266, .ref 1, .ref 254] Z3 (zKc G 11 m_X11_endAfterChange 95 [some (.ref 0), none, none] [] Q)) else ((zIx x 20) ∧ (R32 (zI Z 268 x.toNat)) ∧ (if (zI Z 268 x.toNat) ≤ 1 then (ZM G 10 m_X9_makeByFreeHands [.ref 266, .ref 1, .ref 254] Z (zKc G 11 m_X11_endAfterChange 95 [some (.ref 0), none, none] [] Q)) else (∀ Z6, Z6 = zSI Z 268 (zu (zI Z 268) x.toNat ((zI Z 268 x.toNat) - 1)) → ZM G 10 m_X9_makeByFreeHands [.ref 266, .ref 1, .ref 254] Z6 (zKc G 11 m_X11_endAfterChange 95 [some (.ref 0), none, none] [] Q))))))))) : ZP G 11 m_X11_endAfterChange 15 [some (.ref 0), some (iv c), some (iv x)] [] Z Q := z_iload_n (pc' := 16) (j := 1) (by decide +kernel) rfl rfl <| z_bipush (pc' := 18) (n := 104) (by decide +kernel) (by decide) rfl <| h.elim fun c1 h => z_icmp_ne (pc' := 21) (tgt := 37) (off := 19) (by decide +kernel) (by decide) rfl c1 (by decide : R32 104) (am_ite h (fun h => z_aload_n (pc' := 22) (j := 0) (by decide +kernel) rfl rfl <| z_getR (pc' := 25) (idx := 67) (ci := 11) (f := 12) (by decide +kernel) f_RX11_67 rfl hx.o.1 hx.o.2 hx.r12 rfl <| z_getR (pc' := 28) (idx := 528) (ci := 9) (f := 6) (by decide +kernel) f_RX11_528 rfl hx.pt.o.1 hx.pt.o.2 hx.pt.r6 rfl <| z_iconst (pc' := 29) (n := 0) (by decide +kernel) rfl <| z_dup2 (pc' := 30) (by decide +kernel) rfl rfl rfl <| z_iaload (pc' := 31) (by decide +kernel) hx.pt.a6 ⟨by decide, by decide, by decide⟩ rfl <| z_iconst (pc' := 32) (n := 1) (by decide +kernel) rfl <| z_iadd (pc' := 33) (by decide +kernel) rfl <| z_iastore (pc' := 34) (by decide +kernel) hx.pt.a6 ⟨by decide, by decide, by decide⟩ rfl <| have h := h _ rfl; z_goto (tgt := 80) (off := 46) (by decide +kernel) (by decide) <| z_aload_n (pc' := 81) (j := 0) (by decide +kernel) rfl rfl <| z_getR (pc' := 84) (idx := 67) (ci := 11) (f := 12) (by decide +kernel) f_RX11_67 rfl hx.o.1 hx.o.2 hx.r12 rfl <| z_aload_n (pc' := 85) (j := 0) (by decide +kernel) rfl rfl <| z_getR (pc' := 88) (idx := 10) (ci := 11) (f := 0) (by decide +kernel) f_RX11_10 rfl hx.o.1 hx.o.2 hx.r0 rfl <| z_aload_n (pc' := 89) (j := 0) (by decide +kernel) rfl rfl <| z_getR (pc' := 92) (idx := 54) (ci := 11) (f := 9) (by decide +kernel) f_RX11_54 rfl hx.o.1 hx.o.2 hx.r9 rfl <| z_callV (pc' := 95) (idx := 335) (mj := m_X9_makeByFreeHands) (av := [.ref 1, .ref 254]) (d' := 10) (by decide +kernel) rfl k_X9_makeByFreeHands l_RX11_335 rfl (by omega) (am_le rfl) rfl (am_le rfl) hx.pt.o.1 hx.pt.o.2 rfl (ZM.mono h (zKc_wk (wk_some (wk_none (wk_none wk_nil)))))) (fun h => z_iload_n (pc' := 38) (j := 1) (by decide +kernel) rfl rfl <| z_bipush (pc' := 40) (n := 110) (by decide +kernel) (by decide) rfl <| z_icmp_ne (pc' := 43) (tgt := 54) (off := 14) (by decide +kernel) (by decide) rfl c1 (by decide : R32 110) (am_ite h (fun h => z_aload_n (pc' := 44) (j := 0) (by decide +kernel) rfl rfl <| z_getR (pc' := 47) (idx := 67) (ci := 11) (f := 12) (by decide +kernel) f_RX11_67 rfl hx.o.1 hx.o.2 hx.r12 rfl <| z_iload_n (pc' := 48) (j := 2) (by decide +kernel) rfl rfl <| z_putI (pc' := 51) (idx := 529) (ci := 9) (f := 3) (by decide +kernel) f_RX11_529 (am_nf rfl rfl) rfl rfl rfl hx.pt.o.1 hx.pt.o.2 rfl <| have h := h _ rfl; z_goto (tgt := 80) (off := 29) (by decide +kernel) (by decide) <| z_aload_n (pc' := 81) (j := 0) (by decide +kernel) rfl rfl <| z_getR (pc' := 84) (idx := 67) (ci := 11) (f := 12) (by decide +kernel) f_RX11_67 rfl hx.o.1 hx.o.2 hx.r12 rfl <| z_aload_n (pc' := 85) (j := 0) (by decide +kernel) rfl rfl <| z_getR (pc' := 88) (idx := 10) (ci := 11) (f := 0) (by decide +kernel) f_RX11_10 rfl hx.o.1 hx.o.2 hx.r0 rfl <| z_aload_n (pc' := 89) (j := 0) (by decide +kernel) rfl rfl <| z_getR (pc' := 92) (idx := 54) (ci := 11) (f := 9) (by decide +kernel) f_RX11_54 rfl hx.o.1 hx.o.2 hx.r9 rfl <| z_callV (pc' := 95) (idx := 335) (mj := m_X9_makeByFreeHands) (av := [.ref 1, .ref 254]) (d' := 10) (by decide +kernel) rfl k_X9_makeByFreeHands l_RX11_335 rfl (by omega) (am_le rfl) rfl (am_le rfl) hx.pt.o.1 hx.pt.o.2 rfl (ZM.mono h (zKc_wk (wk_some (wk_none (wk_none wk_nil)))))) (fun h => z_aload_n (pc' := 55) (j := 0) (by decide +kernel) rfl rfl <| z_getR (pc' := 58) (idx := 67) (ci := 11) (f := 12) (by decide +kernel) f_RX11_67 rfl hx.o.1 hx.o.2 hx.r12 rfl <| z_getR (pc' := 61) (idx := 532) (ci := 9) (f := 7) (by decide +kernel) f_RX11_532 rfl hx.pt.o.1 hx.pt.o.2 hx.pt.r7 rfl <| z_iload_n (pc' := 62) (j := 2) (by decide +kernel) rfl rfl <| h.elim fun c4 h => z_iaload (pc' := 63) (by decide +kernel) hx.pt.a7 c4 rfl <| z_iconst (pc' := 64) (n := 1) (by decide +kernel) rfl <| h.elim fun c5 h => z_icmp_le (pc' := 67) (tgt := 80) (off := 16) (by decide +kernel) (by decide) rfl c5 (by decide : R32 1) (am_ite h (fun h => z_aload_n (pc' := 81) (j := 0) (by decide +kernel) rfl rfl <| z_getR (pc' := 84) (idx := 67) (ci := 11) (f := 12) (by decide +kernel) f_RX11_67 rfl hx.o.1 hx.o.2 hx.r12 rfl <| z_aload_n (pc' := 85) (j := 0) (by decide +kernel) rfl rfl <| z_getR (pc' := 88) (idx := 10) (ci := 11) (f := 0) (by decide +kernel) f_RX11_10 rfl hx.o.1 hx.o.2 hx.r0 rfl <| z_aload_n (pc' := 89) (j := 0) (by decide +kernel) rfl rfl <| z_getR (pc' := 92) (idx := 54) (ci := 11) (f := 9) (by decide +kernel) f_RX11_54 rfl hx.o.1 hx.o.2 hx.r9 rfl <| z_callV (pc' := 95) (idx := 335) (mj := m_X9_makeByFreeHands) (av := [.ref 1, .ref 254]) (d' := 10) (by decide +kernel) rfl k_X9_makeByFreeHands l_RX11_335 rfl (by omega) (am_le rfl) rfl (am_le rfl) hx.pt.o.1 hx.pt.o.2 rfl (ZM.mono h (zKc_wk (wk_some (wk_none (wk_none wk_nil)))))) (fun h => z_aload_n (pc' := 68) (j := 0) (by decide +kernel) rfl rfl <| z_getR (pc' := 71) (idx := 67) (ci := 11) (f := 12) (by decide +kernel) f_RX11_67 rfl hx.o.1 hx.o.2 hx.r12 rfl <| z_getR (pc' := 74) (idx := 532) (ci := 9) (f := 7) (by decide +kernel) f_RX11_532 rfl hx.pt.o.1 hx.pt.o.2 hx.pt.r7 rfl <| z_iload_n (pc' := 75) (j := 2) (by decide +kernel) rfl rfl <| z_dup2 (pc' := 76) (by decide +kernel) rfl rfl rfl <| z_iaload (pc' := 77) (by decide +kernel) hx.pt.a7 c4 rfl <| z_iconst (pc' := 78) (n := 1) (by decide +kernel) rfl <| z_isub (pc' := 79) (by decide +kernel) rfl <| z_iastore (pc' := 80) (by decide +kernel) hx.pt.a7 c4 rfl <| have h := h _ rfl; z_aload_n (pc' := 81) (j := 0) (by decide +kernel) rfl rfl <| z_getR (pc' := 84) (idx := 67) (ci := 11) (f := 12) (by decide +kernel) f_RX11_67 rfl hx.o.1 hx.o.2 hx.r12 rfl <| z_aload_n (pc' := 85) (j := 0) (by decide +kernel) rfl rfl <| z_getR (pc' := 88) (idx := 10) (ci := 11) (f := 0) (by decide +kernel) f_RX11_10 rfl hx.o.1 hx.o.2 hx.r0 rfl <| z_aload_n (pc' := 89) (j := 0) (by decide +kernel) rfl rfl <| z_getR (pc' := 92) (idx := 54) (ci := 11) (f := 9) (by decide +kernel) f_RX11_54 rfl hx.o.1 hx.o.2 hx.r9 rfl <| z_callV (pc' := 95) (idx := 335) (mj := m_X9_makeByFreeHands) (av := [.ref 1, .ref 254]) (d' := 10) (by decide +kernel) rfl k_X9_makeByFreeHands l_RX11_335 rfl (by omega) (am_le rfl) rfl (am_le rfl) hx.pt.o.1 hx.pt.o.2 rfl (ZM.mono h (zKc_wk (wk_some (wk_none (wk_none wk_nil)))))))))))
set_option maxRecDepth 20000 in
theorem b_X11_endAfterChange_95 {G : Gx} {Q : Rv → Zm → Prop} {Z : Zm}   (hx : atAll Z) (h : (Q (.inl (some (iv (zI Z 266 4)))) Z)) : ZP G 11 m_X11_endAfterChange 95 [some (.ref 0), none, none] [] Z Q := z_aload_n (pc' := 96) (j := 0) (by decide +kernel) rfl rfl <| z_getR (pc' := 99) (idx := 67) (ci := 11) (f := 12) (by decide +kernel) f_RX11_67 rfl hx.o.1 hx.o.2 hx.r12 rfl <| z_getI (pc' := 102) (idx := 351) (ci := 9) (f := 4) (by decide +kernel) f_RX11_351 rfl hx.pt.o.1 hx.pt.o.2 rfl <| z_ireturn (by decide +kernel) ⟨_, rfl, rfl⟩ h
set_option maxRecDepth 20000 in
theorem e_X11_changesOf {G : Gx} {Q : Rv → Zm → Prop} {Z : Zm} {c : Int} (hx : atAll Z) (h : ((R32 c) ∧ (if c = 104 then (Q (.inl (some (iv 1))) Z) else (Q (.inl (some (iv (if c = 115 then zI Z 1 3 else zI Z 1 4)))) Z)))) : ZM G 0 m_X11_changesOf [.ref 0, iv c] Z Q := ZM.of [some (.ref 0), some (iv c)] rfl <| z_iload_n (pc' := 1) (j := 1) (by decide +kernel) rfl rfl <| z_bipush (pc' := 3) (n := 104) (by decide +kernel) (by decide) rfl <| h.elim fun c1 h => z_icmp_ne (pc' := 6) (tgt := 8) (off := 5) (by decide +kernel) (by decide) rfl c1 (by decide : R32 104) (am_ite h (fun h => z_iconst (pc' := 7) (n := 1) (by decide +kernel) rfl <| z_ireturn (by decide +kernel) ⟨_, rfl, rfl⟩ h) (fun h => z_iload_n (pc' := 9) (j := 1) (by decide +kernel) rfl rfl <| z_bipush (pc' := 11) (n := 115) (by decide +kernel) (by decide) rfl <| am_use (fun k4 => z_icmp_ne (pc' := 14) (tgt := 24) (off := 13) (by decide +kernel) (by decide) rfl c1 (by decide : R32 115) (am_ite2 (fun q5 => z_aload_n (pc' := 15) (j := 0) (by decide +kernel) rfl rfl <| z_getR (pc' := 18) (idx := 10) (ci := 11) (f := 0) (by decide +kernel) f_RX11_10 rfl hx.o.1 hx.o.2 hx.r0 rfl <| z_getI (pc' := 21) (idx := 117) (ci := 0) (f := 3) (by decide +kernel) f_RX11_117 rfl hx.bk.o.1 hx.bk.o.2 rfl <| z_goto (tgt := 31) (off := 10) (by decide +kernel) (by decide) <| (am_jp (P := fun z9 => ZP G 0 m_X11_changesOf 31 [some (.ref 0), some (iv c)] [iv z9] _ Q) (if_pos q5) k4)) (fun q5 => z_aload_n (pc' := 25) (j := 0) (by decide +kernel) rfl rfl <| z_getR (pc' := 28) (idx := 10) (ci := 11) (f := 0) (by decide +kernel) f_RX11_10 rfl hx.o.1 hx.o.2 hx.r0 rfl <| z_getI (pc' := 31) (idx := 172) (ci := 0) (f := 4) (by decide +kernel) f_RX11_172 rfl hx.bk.o.1 hx.bk.o.2 rfl <| (am_jp (P := fun z9 => ZP G 0 m_X11_changesOf 31 [some (.ref 0), some (iv c)] [iv z9] _ Q) (if_neg q5) k4)))) <| z_ireturn (by decide +kernel) ⟨_, rfl, rfl⟩ h))
/-! ===== anomalies: the class ===== -/
theorem z_hsn {c : Int} (h : 0 ≤ zIdx 4 c) : c = 104 ∨ c = 115 ∨ c = 110 := by
  by_cases a : c = 104
  · exact Or.inl a
  by_cases b : c = 115
  · exact Or.inr (Or.inl b)
  by_cases d : c = 110
  · exact Or.inr (Or.inr d)
  exfalso
  have e : zIdxF 4 c (zLen 4) 0 = -1 := by
    show (if zByt 4 0 = c then ((0 : Nat) : Int) else if zByt 4 1 = c then ((0 + 1 : Nat) : Int) else if zByt 4 2 = c then ((0 + 1 + 1 : Nat) : Int) else -1) = -1
    have e0 : zByt 4 0 = 104 := by decide
    have e1 : zByt 4 1 = 115 := by decide
    have e2 : zByt 4 2 = 110 := by decide
    rw [e0, e1, e2, if_neg (by omega), if_neg (by omega), if_neg (by omega)]
  unfold zIdx at h
  by_cases q : 0 ≤ c ∧ c ≤ 255
  · rw [if_pos q, e] at h
    omega
  · rw [if_neg q] at h
    omega
/-- what a change of a kind stands on -/
def anP (σ : St) (c : Int) (i : Nat) : Sp := (sK σ, if c = 110 then (i : Int) else -1, fun t => if c = 115 ∧ t = i ∧ 1 < kF (sK σ) 0 t then kF (sK σ) 0 t - 1 else kF (sK σ) 0 t, fun t => (kF (sK σ) 1 t).toNat, fun s => if c = 104 ∧ s = 0 then sA σ s + 1 else sA σ s, kF (sK σ) 2)
theorem anP_ok {σ : St} (ho : okS σ) (c : Int) (i : Nat) : okP (anP σ c i) := by
  refine ⟨ho.1, fun t ht => ?_, fun t ht => ?_, fun t ht => ho.1.f (r := 2) (by omega) ht⟩
  · have l := ho.1.len (show t < kN (sK σ) from ht)
    show 1 ≤ (if c = 115 ∧ t = i ∧ 1 < kF (sK σ) 0 t then kF (sK σ) 0 t - 1 else kF (sK σ) 0 t) ∧ (if c = 115 ∧ t = i ∧ 1 < kF (sK σ) 0 t then kF (sK σ) 0 t - 1 else kF (sK σ) 0 t) ≤ 60
    by_cases q : c = 115 ∧ t = i ∧ 1 < kF (sK σ) 0 t
    · rw [if_pos q]
      omega
    · rw [if_neg q]
      omega
  · have hs := ho.1.s (show t < kN (sK σ) from ht)
    have := ho.2.2.2.2.1 (kF (sK σ) 1 t).toNat (by omega)
    show 1 ≤ (if c = 104 ∧ (kF (sK σ) 1 t).toNat = 0 then sA σ (kF (sK σ) 1 t).toNat + 1 else sA σ (kF (sK σ) 1 t).toNat) ∧ (if c = 104 ∧ (kF (sK σ) 1 t).toNat = 0 then sA σ (kF (sK σ) 1 t).toNat + 1 else sA σ (kF (sK σ) 1 t).toNat) ≤ 6
    by_cases q : c = 104 ∧ (kF (sK σ) 1 t).toNat = 0
    · rw [if_pos q]
      omega
    · rw [if_neg q]
      omega
theorem anP_d {σ : St} {c : Int} {i t : Nat} (h : c ≠ 115) : pD (anP σ c i) t = pD (sP0 σ) t := if_neg fun q => h q.1
noncomputable def enP (P : Sp) (L : Nat → Nat) : Int := zmax (fun t => (simE P L).1 t + pD P t) (kN (pK P))
theorem enP_r {P : Sp} (hP : okP P) {L : Nat → Nat} (hL : okL P L) : 0 ≤ enP P L ∧ enP P L ≤ 3660 := by
  refine ⟨zmax_0 _ _, zmax_le (by omega) fun t ht => ?_⟩
  have so := (simF_ok hP hL 3601).1.1 t ht
  have a := simE_all hP hL t ht
  have l := hP.2.1 t ht
  show (simF P L 3601).1 t + pD P t ≤ 3660
  have a : (simF P L 3601).1 t ≠ -1 := a
  omega
theorem cSt_en {Z : Zm} {p : Nat} {P : Sp} (hP : okP P) {L : Nat → Nat} (hL : okL P L) (h : cSt Z p P (simE P L)) : zI Z p 4 = enP P L := by
  rw [h.2]
  exact zmax_eq fun t ht => if_neg (simE_all hP hL t ht)
def anM (σ : St) (c : Int) : Nat := if c = 104 then 1 else if c = 115 then kN (sK σ) else kM (sK σ)
noncomputable def anF (σ : St) (c : Int) (L : Nat → Nat) : Nat → Nat → Int
  | 0, _ => -1
  | f + 1, i => cIf (enP (sP0 σ) L < enP (anP σ c i) L) (i : Int) (anF σ c L f (i + 1))
noncomputable def o_anomaly (σ : St) (c y : Int) : Ou := cIf (0 ≤ zIdx 4 c ∧ 0 ≤ zIdx 2 y) (0, anF σ c (vLs σ y) (anM σ c) 0, σ) (1, 0, σ)
theorem anM_r {σ : St} (ho : okS σ) (c : Int) : anM σ c ≤ 50 := by
  have := ho.1.n
  have := ho.1.m
  unfold anM
  split
  · omega
  · split <;> omega
theorem s_takeTrial {G : Gx} {Z : Zm} {σ : St} (h : IC Z σ) (ho : okS σ) : ZM G 1 m_X9_takeOver [.ref 266, .ref 1, .ref 252] Z (fun r W => r = .inl none ∧ cCx W 266 (sP0 σ) ∧ zF (zB 266 (266 + 10)) 0 0 Z W) := by
  have hN := ho.1.n
  have h1 := h.2.1
  refine e_X9_takeOver h.1.pt h.1.bk h.1.a6 ?_
  rintro _ rfl _ rfl _ rfl _ rfl
  refine ⟨rfl, ⟨h.1.pt, h.1.bk, h1.of fun a g1 g2 => ?_, sP0_ok ho, by omega, ?_, ?_, ⟨by show (-1 : Int) ≤ -1; decide, by show (-1 : Int) ≤ 50; decide⟩, fun t ht => ?_, fun c hc => ?_, fun t ht => ⟨rfl, rfl⟩⟩, ?_⟩
  · rw [zI_other (by omega), zI_other (by omega), zI_other (by omega), zI_other (by omega)]
  · rw [zI_other (by decide), zI_other (by decide), zI_same, zu_other (by decide), zI_same, zu_same]
    exact h1.1
  · rw [zI_other (by decide), zI_other (by decide), zI_same, zu_same]
    rfl
  · have ht' : t < kN (sK σ) := ht
    rw [zI_other (by decide), zI_same]
    show (if 0 ≤ t ∧ t < 0 + 20 then zI (zSI (zSI Z 266 _) 266 _) (1 + 2) (0 + (t - 0)) else _) = _
    rw [if_pos (by omega), zI_other (by decide), zI_other (by decide), show 0 + (t - 0) = t by omega]
    exact h1.2.2.1 0 t (by omega) ht'
  · rw [zI_same]
    show (if 0 ≤ c ∧ c < 0 + 3 then zI (zSI (zSI (zSI Z 266 _) 266 _) (266 + 2) _) 252 (0 + (c - 0)) else _) = _
    rw [if_pos (by omega), zI_other (by decide), zI_other (by decide), zI_other (by decide), show 0 + (c - 0) = c by omega]
    exact h.2.2.2.2.2.2.1 c hc
  · exact (((zF_p (p := 266) (by omega)).trans (zF_p (by omega))).trans (zF_p (by omega))).trans (zF_p (by omega))
theorem s_endAfterChange {G : Gx} {Z : Zm} {σ : St} {c : Int} {i : Nat} {L : Nat → Nat} (h : IC Z σ) (ho : okS σ) (hL : okL (sP0 σ) L) (hv : ∀ v, v < kN (sK σ) → zI Z 254 v = (L v : Int)) (hc : c = 104 ∨ c = 115 ∨ c = 110) (hi : i < anM σ c) : ZM G 11 m_X11_endAfterChange [.ref 0, iv c, iv (i : Int)] Z (fun r W => r = .inl (some (iv (enP (anP σ c i) L))) ∧ zF (zB 266 (266 + 10)) 0 0 Z W) := by
  have hN := ho.1.n
  have hM := ho.1.m
  have hL' : okL (anP σ c i) L := hL
  refine e_X11_endAfterChange h.1 (((s_takeTrial h ho).deeper (by omega)).mono ?_)
  rintro r W ⟨rfl, cW, fW⟩
  have xW := h.1.ext fW.1
  have l254 : ∀ v, v < kN (sK σ) → zI W 254 v = (L v : Int) := fun v q => by
    rw [fW.i h.1.a9.1 (by unfold zB; omega)]
    exact hv v q
  have run : ∀ Y, cCx Y 266 (anP σ c i) → zF (zB 266 (266 + 10)) 0 0 W Y → ZM G 10 m_X9_makeByFreeHands [.ref 266, .ref 1, .ref 254] Y (zKc G 11 m_X11_endAfterChange 95 [some (.ref 0), none, none] [] (fun r W => r = .inl (some (iv (enP (anP σ c i) L))) ∧ zF (zB 266 (266 + 10)) 0 0 Z W)) := fun Y cY fY => by
    refine ((s_makeByFreeHands cY ⟨(xW.ext fY.1).a9, Or.inl (by omega)⟩ hL' fun v q => ?_).deeper (by omega)).mono ?_
    · rw [fY.i xW.a9.1 (by unfold zB; omega)]
      exact l254 v q
    rintro r V ⟨rfl, cV, sV, fV⟩
    refine b_X11_endAfterChange_95 ((xW.ext fY.1).ext fV.1) ⟨?_, (fW.trans fY).trans fV⟩
    rw [cSt_en (anP_ok ho c i) hL' sV]
  obtain ⟨w1, w2, w3, w4, w5, w6, w7, w8, w9, w10, w11⟩ := cW
  refine b_X11_endAfterChange_15 xW ⟨by omega, ?_⟩
  rcases hc with rfl | rfl | rfl
  · rw [if_pos rfl]
    rintro _ rfl
    refine run _ ⟨w1, w2, w3.of fun a g1 g2 => zI_other (by omega), anP_ok ho 104 i, w5, ?_, ?_, ⟨by show (-1 : Int) ≤ (if (104 : Int) = 110 then (i : Int) else -1); rw [if_neg (by decide)]; decide, by show (if (104 : Int) = 110 then (i : Int) else -1) ≤ 50; rw [if_neg (by decide)]; decide⟩, fun t ht => ?_, fun s hs => ?_, fun t ht => ⟨rfl, rfl⟩⟩ (zF_p (by omega))
    · rw [zI_other (by decide)]
      exact w6
    · rw [zI_other (by decide)]
      exact w7
    · rw [zI_other (by decide), w9 t ht]
      exact (anP_d (by decide)).symm
    · rw [show 266 + 1 = 267 from rfl, zI_same]
      show _ = if (104 : Int) = 104 ∧ s = 0 then sA σ s + 1 else sA σ s
      by_cases e : s = 0
      · rw [e, zu_same, if_pos ⟨rfl, rfl⟩]
        exact congrArg (· + 1) (w10 0 (by omega))
      · rw [zu_other e, if_neg fun q => e q.2]
        exact w10 s hs
  · rw [if_neg (by decide), if_neg (by decide)]
    have hi : i < kN (sK σ) := hi
    have e2 : zI W 268 i = kF (sK σ) 0 i := w9 i hi
    have l := ho.1.len hi
    rw [Int.toNat_natCast, e2]
    refine ⟨zIx_nat (by omega) (by omega), by omega, ?_⟩
    by_cases d : kF (sK σ) 0 i ≤ 1
    · rw [if_pos d]
      refine run W ⟨w1, w2, w3, anP_ok ho 115 i, w5, w6, w7, w8, fun t ht => ?_, w10, w11⟩ zF.refl
      rw [w9 t ht]
      show kF (sK σ) 0 t = if (115 : Int) = 115 ∧ t = i ∧ 1 < kF (sK σ) 0 t then _ else _
      rw [if_neg fun q => by have := q.2.2; rw [q.2.1] at this; omega]
    · rw [if_neg d]
      rintro _ rfl
      refine run _ ⟨w1, w2, w3.of fun a g1 g2 => zI_other (by omega), anP_ok ho 115 i, w5, ?_, ?_, w8, fun t ht => ?_, fun s hs => ?_, fun t ht => ⟨rfl, rfl⟩⟩ (zF_p (by omega))
      · rw [zI_other (by decide)]
        exact w6
      · rw [zI_other (by decide)]
        exact w7
      · rw [show 266 + 2 = 268 from rfl, zI_same]
        show _ = if (115 : Int) = 115 ∧ t = i ∧ 1 < kF (sK σ) 0 t then kF (sK σ) 0 t - 1 else kF (sK σ) 0 t
        by_cases e : t = i
        · rw [e, zu_same, if_pos ⟨rfl, rfl, by omega⟩]
        · rw [zu_other e, if_neg fun q => e q.2.1]
          exact w9 t ht
      · rw [zI_other (by decide)]
        exact w10 s hs
  · rw [if_neg (by decide), if_pos rfl]
    rintro _ rfl
    have hi : i < kM (sK σ) := hi
    refine run _ ⟨w1, w2, w3.of fun a g1 g2 => zI_other (by omega), anP_ok ho 110 i, w5, ?_, ?_, ⟨by show (-1 : Int) ≤ (if (110 : Int) = 110 then (i : Int) else -1); rw [if_pos rfl]; omega, by show (if (110 : Int) = 110 then (i : Int) else -1) ≤ 50; rw [if_pos rfl]; omega⟩, fun t ht => ?_, fun s hs => ?_, fun t ht => ⟨rfl, rfl⟩⟩ (zF_p (by omega))
    · rw [zI_same, zu_other (by decide)]
      exact w6
    · rw [zI_same, zu_same]
      show (i : Int) = if (110 : Int) = 110 then (i : Int) else -1
      rw [if_pos rfl]
    · rw [zI_other (by decide), w9 t ht]
      exact (anP_d (by decide)).symm
    · rw [zI_other (by decide)]
      show _ = if (110 : Int) = 104 ∧ s = 0 then sA σ s + 1 else sA σ s
      rw [if_neg fun q => by have := q.1; omega]
      exact w10 s hs
theorem s_changesOf {G : Gx} {Z : Zm} {σ : St} {c : Int} (h : IC Z σ) (hc : R32 c) : ZM G 0 m_X11_changesOf [.ref 0, iv c] Z (fun r W => r = .inl (some (iv (anM σ c : Int))) ∧ W = Z) := by
  refine e_X11_changesOf h.1 ⟨hc, ?_⟩
  unfold anM
  by_cases d : c = 104
  · rw [if_pos d, if_pos d]
    exact ⟨rfl, rfl⟩
  · rw [if_neg d, if_neg d, h.2.1.1, h.2.1.2.1]
    by_cases e : c = 115
    · rw [if_pos e, if_pos e]
      exact ⟨rfl, rfl⟩
    · rw [if_neg e, if_neg e]
      exact ⟨rfl, rfl⟩
theorem c_anomaly {G : Gx} {Z : Zm} {σ : St} {c y : Int} (h : IC Z σ) (ho : okS σ) (hz : zSz Z < 1000000) (hc : R32 c) (hy : R32 y) : ZM G 12 m_X11_anomaly [.ref 0, iv c, iv y] Z (rC Z (E3 eA "" "") iv (o_anomaly σ c y)) := by
  have hN := ho.1.n
  refine e_X11_anomaly h.1 ⟨hc, zIdx_r32 _ _, ?_⟩
  unfold o_anomaly
  by_cases c1 : 0 ≤ zIdx 4 c
  case neg =>
    rw [if_neg c1, cIf_f (fun q => c1 q.1)]
    exact ⟨hz, rC.no h (by decide) rfl⟩
  rw [if_pos c1]
  refine ⟨hy, hz, ?_⟩
  by_cases c2 : 0 ≤ zIdx 2 y
  case neg =>
    rw [if_neg c2, cIf_f (fun q => c2 q.2)]
    exact rC.no h (by decide) rfl
  rw [if_pos c2, cIf_p ⟨c1, c2⟩]
  have cc := z_hsn c1
  refine ((s_makeList h ho hy).deeper (by omega)).mono ?_
  rintro r W ⟨rfl, h1, f1, cn1, ls, e1⟩
  have hL : okL (sP0 σ) (vLs σ y) := ls.okL (P := sP0 σ)
  have r0 := enP_r (sP0_ok ho) hL
  refine b_X11_anomaly_30 h1.1 (((s_takeTrial h1 ho).deeper (by omega)).mono ?_)
  rintro r V ⟨rfl, cV, fV⟩
  have xV := h1.1.ext fV.1
  refine b_X11_anomaly_45 xV (((s_makeByFreeHands cV ⟨xV.a9, Or.inl (by omega)⟩ hL fun v q => ?_).deeper (by omega)).mono ?_)
  · rw [fV.i h1.1.a9.1 (by unfold zB; omega)]
    exact e1 v q
  rintro r Y ⟨rfl, cY, sY, fY⟩
  have ic : ∀ X, zF (zB 266 (266 + 10)) 0 0 W X → IC X σ := fun X fX => h1.fr0 fX (fun a q => by unfold zB at q; unfold scr; omega) fun a g1 g2 q => by unfold zB at q; omega
  have hY := ic Y (fV.trans fY)
  refine b_X11_anomaly_60 hY.1 (((s_changesOf hY hc).deeper (by omega)).mono ?_)
  rintro r X ⟨rfl, hX⟩
  obtain rfl := hX.symm
  rw [cSt_en (sP0_ok ho) hL sY]
  refine b_X11_anomaly_73 hY.1 ?_
  have mr := anM_r ho c
  suffices key : ∀ j, j ≤ anM σ c → ∀ X, zF (zB 266 (266 + 10)) 0 0 W X → anF σ c (vLs σ y) (anM σ c) 0 = anF σ c (vLs σ y) (anM σ c - j) j → ZP G 12 m_X11_anomaly 78 [some (.ref 0), some (iv c), none, some (iv (enP (sP0 σ) (vLs σ y))), some (iv (anM σ c : Int)), some (iv (j : Int))] [] X (rC Z (E3 eA "" "") iv (0, anF σ c (vLs σ y) (anM σ c) 0, σ)) from key 0 (Nat.zero_le _) Y (fV.trans fY) rfl
  refine am_up (n := anM σ c) fun j hj ih X fX ej => ?_
  have hX := ic X fX
  have fZ0 : zF (fun a => a < 300) 0 0 Z X := ((f1.mono (T := fun a => a < 300) (fun a q => by unfold sLs at q; omega) (Nat.le_refl _) (Nat.le_refl _)).trans (fX.mono (T := fun a => a < 300) (fun a q => by unfold zB at q; omega) (Nat.le_refl _) (Nat.le_refl _)))
  have fZ : zF cF 1 6 Z X := fZ0.cc fun a q => q
  refine b_X11_anomaly_78 hX.1 ⟨by omega, by omega, ?_⟩
  by_cases cj : j < anM σ c
  · rw [if_neg (by omega)]
    have en : anF σ c (vLs σ y) (anM σ c - j) j = cIf (enP (sP0 σ) (vLs σ y) < enP (anP σ c j) (vLs σ y)) (j : Int) (anF σ c (vLs σ y) (anM σ c - (j + 1)) (j + 1)) := by
      rw [show anM σ c - j = anM σ c - (j + 1) + 1 by omega]
      rfl
    have r1 := enP_r (P := anP σ c j) (L := vLs σ y) (anP_ok ho c j) hL
    refine (s_endAfterChange hX ho hL (fun v q => ?_) cc cj).mono ?_
    · rw [fX.i h1.1.a9.1 (by unfold zB; omega)]
      exact e1 v q
    rintro r U ⟨rfl, fU⟩
    have hU := ic U (fX.trans fU)
    refine b_X11_anomaly_92 hU.1 ⟨by omega, by omega, ?_⟩
    by_cases d : enP (anP σ c j) (vLs σ y) ≤ enP (sP0 σ) (vLs σ y)
    · rw [if_pos d]
      refine ih cj U (fX.trans fU) ?_
      rw [ej, en, cIf_f (by omega)]
    · rw [if_neg d]
      refine rC.ok hU ((fZ0.trans (fU.mono (T := fun a => a < 300) (fun a q => by unfold zB at q; omega) (Nat.le_refl _) (Nat.le_refl _))).cc fun a q => q) ?_
      rw [ej, en, cIf_p (by omega)]
  · rw [if_pos (by omega)]
    refine rC.ok hX fZ ?_
    rw [ej, show anM σ c - j = 0 by omega]
    rfl
