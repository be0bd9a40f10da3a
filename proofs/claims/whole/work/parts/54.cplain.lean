set_option maxRecDepth 20000 in
theorem e_X11_earliest {G : Gx} {Q : Rv → Zm → Prop} {Z : Zm} {t : Int} (hx : atAll Z) (h : ((R32 t) ∧ (R32 (zI Z 1 3)) ∧ (zSz Z < 1000000) ∧ (if 0 ≤ t ∧ t < zI Z 1 3 then (ZM G 11 m_X11_freshNet [.ref 0] Z (zKc G 12 m_X11_earliest 9 [none, some (iv t)] [] Q)) else Q (.inr "java/util/NoSuchElementException") (zC Z 15 0 6)))) : ZM G 12 m_X11_earliest [.ref 0, iv t] Z Q := ZM.of [some (.ref 0), some (iv t)] rfl <| z_aload_n (pc' := 1) (j := 0) (by decide +kernel) rfl rfl <| z_iload_n (pc' := 2) (j := 1) (by decide +kernel) rfl rfl <| h.elim fun c1 h => h.elim fun c2 h => h.elim fun c3 h => z_callV (pc' := 5) (idx := 133) (mj := m_X11_checkTask) (av := [iv t]) (d' := 8) (by decide +kernel) rfl k_X11_checkTask l_RX11_133 rfl (by omega) (am_le rfl) rfl (am_le rfl) hx.o.1 hx.o.2 rfl <| zKt (s_checkTask hx c1 c2 c3) (am_ite h (fun h => z_aload_n (pc' := 6) (j := 0) (by decide +kernel) rfl rfl <| z_callV (pc' := 9) (idx := 238) (mj := m_X11_freshNet) (av := []) (d' := 11) (by decide +kernel) rfl k_X11_freshNet l_RX11_238 rfl (by omega) (am_le rfl) rfl (am_le rfl) hx.o.1 hx.o.2 rfl (ZM.mono h (zKc_wk (wk_none (wk_some wk_nil))))) (fun h => h))
set_option maxRecDepth 20000 in
theorem b_X11_earliest_9 {G : Gx} {Q : Rv → Zm → Prop} {Z : Zm} {t : Int}  (hx : atAll Z) (h : ((zIx t 20) ∧ Q (.inl (some (iv (zI Z 239 t.toNat)))) Z)) : ZP G 12 m_X11_earliest 9 [none, some (iv t)] [.ref 233] Z Q := z_getR (pc' := 12) (idx := 242) (ci := 7) (f := 9) (by decide +kernel) f_RX11_242 rfl hx.nt.o.1 hx.nt.o.2 hx.nt.r9 rfl <| z_iload_n (pc' := 13) (j := 1) (by decide +kernel) rfl rfl <| h.elim fun c1 h => z_iaload (pc' := 14) (by decide +kernel) hx.nt.a9 c1 rfl <| z_ireturn (by decide +kernel) ⟨_, rfl, rfl⟩ h
set_option maxRecDepth 20000 in
theorem e_X11_latest {G : Gx} {Q : Rv → Zm → Prop} {Z : Zm} {t : Int} (hx : atAll Z) (h : ((R32 t) ∧ (R32 (zI Z 1 3)) ∧ (zSz Z < 1000000) ∧ (if 0 ≤ t ∧ t < zI Z 1 3 then (ZM G 11 m_X11_freshNet [.ref 0] Z (zKc G 12 m_X11_latest 9 [none, some (iv t)] [] Q)) else Q (.inr "java/util/NoSuchElementException") (zC Z 15 0 6)))) : ZM G 12 m_X11_latest [.ref 0, iv t] Z Q := ZM.of [some (.ref 0), some (iv t)] rfl <| z_aload_n (pc' := 1) (j := 0) (by decide +kernel) rfl rfl <| z_iload_n (pc' := 2) (j := 1) (by decide +kernel) rfl rfl <| h.elim fun c1 h => h.elim fun c2 h => h.elim fun c3 h => z_callV (pc' := 5) (idx := 133) (mj := m_X11_checkTask) (av := [iv t]) (d' := 8) (by decide +kernel) rfl k_X11_checkTask l_RX11_133 rfl (by omega) (am_le rfl) rfl (am_le rfl) hx.o.1 hx.o.2 rfl <| zKt (s_checkTask hx c1 c2 c3) (am_ite h (fun h => z_aload_n (pc' := 6) (j := 0) (by decide +kernel) rfl rfl <| z_callV (pc' := 9) (idx := 238) (mj := m_X11_freshNet) (av := []) (d' := 11) (by decide +kernel) rfl k_X11_freshNet l_RX11_238 rfl (by omega) (am_le rfl) rfl (am_le rfl) hx.o.1 hx.o.2 rfl (ZM.mono h (zKc_wk (wk_none (wk_some wk_nil))))) (fun h => h))
set_option maxRecDepth 20000 in
theorem b_X11_latest_9 {G : Gx} {Q : Rv → Zm → Prop} {Z : Zm} {t : Int}  (hx : atAll Z) (h : ((zIx t 20) ∧ Q (.inl (some (iv (zI Z 240 t.toNat)))) Z)) : ZP G 12 m_X11_latest 9 [none, some (iv t)] [.ref 233] Z Q := z_getR (pc' := 12) (idx := 245) (ci := 7) (f := 10) (by decide +kernel) f_RX11_245 rfl hx.nt.o.1 hx.nt.o.2 hx.nt.r10 rfl <| z_iload_n (pc' := 13) (j := 1) (by decide +kernel) rfl rfl <| h.elim fun c1 h => z_iaload (pc' := 14) (by decide +kernel) hx.nt.a10 c1 rfl <| z_ireturn (by decide +kernel) ⟨_, rfl, rfl⟩ h
set_option maxRecDepth 20000 in
theorem e_X11_end {G : Gx} {Q : Rv → Zm → Prop} {Z : Zm}  (hx : atAll Z) (h : (ZM G 11 m_X11_freshNet [.ref 0] Z (zKc G 12 m_X11_end 4 [none] [] Q))) : ZM G 12 m_X11_end [.ref 0] Z Q := ZM.of [some (.ref 0)] rfl <| z_aload_n (pc' := 1) (j := 0) (by decide +kernel) rfl rfl <| z_callV (pc' := 4) (idx := 238) (mj := m_X11_freshNet) (av := []) (d' := 11) (by decide +kernel) rfl k_X11_freshNet l_RX11_238 rfl (by omega) (am_le rfl) rfl (am_le rfl) hx.o.1 hx.o.2 rfl (ZM.mono h (zKc_wk (wk_none wk_nil)))
set_option maxRecDepth 20000 in
theorem b_X11_end_4 {G : Gx} {Q : Rv → Zm → Prop} {Z : Zm}   (hx : atAll Z) (h : (Q (.inl (some (iv (zI Z 233 3)))) Z)) : ZP G 12 m_X11_end 4 [none] [.ref 233] Z Q := z_getI (pc' := 7) (idx := 248) (ci := 7) (f := 3) (by decide +kernel) f_RX11_248 rfl hx.nt.o.1 hx.nt.o.2 rfl <| z_ireturn (by decide +kernel) ⟨_, rfl, rfl⟩ h
set_option maxRecDepth 20000 in
theorem e_X11_slack {G : Gx} {Q : Rv → Zm → Prop} {Z : Zm} {t : Int} {c : Int} (hx : atAll Z) (h : ((R32 t) ∧ (R32 (zI Z 1 3)) ∧ (zSz Z < 1000000) ∧ (if 0 ≤ t ∧ t < zI Z 1 3 then ((R32 c) ∧ (R32 (zIdx 3 c)) ∧ (if 0 ≤ (zIdx 3 c) then (ZM G 11 m_X11_freshNet [.ref 0] Z (zKc G 12 m_X11_slack 38 [some (.ref 0), some (iv t), some (iv c), some (.ref 3), none, none] [] Q)) else (Q (.inr "java/lang/IllegalArgumentException") (zC Z 13 0 6)))) else Q (.inr "java/util/NoSuchElementException") (zC Z 15 0 6)))) : ZM G 12 m_X11_slack [.ref 0, iv t, iv c] Z Q := ZM.of [some (.ref 0), some (iv t), some (iv c), none, none, none] rfl <| z_aload_n (pc' := 1) (j := 0) (by decide +kernel) rfl rfl <| z_iload_n (pc' := 2) (j := 1) (by decide +kernel) rfl rfl <| h.elim fun c1 h => h.elim fun c2 h => h.elim fun c3 h => z_callV (pc' := 5) (idx := 133) (mj := m_X11_checkTask) (av := [iv t]) (d' := 8) (by decide +kernel) rfl k_X11_checkTask l_RX11_133 rfl (by omega) (am_le rfl) rfl (am_le rfl) hx.o.1 hx.o.2 rfl <| zKt (s_checkTask hx c1 c2 c3) (am_ite h (fun h => z_ldcS (pc' := 7) (idx := 251) (i := 3) (by decide +kernel) (by decide) (by decide) (by decide) rfl <| z_iload_n (pc' := 8) (j := 2) (by decide +kernel) rfl rfl <| h.elim fun c4 h => z_callT (pc' := 11) (idx := 189) (i := 3) (mj := m_J0_indexOf_0f7a4) (av := [iv c]) (d' := 3) (by decide +kernel) rfl k_J0_indexOf_0f7a4 (by decide) (amM4 132 rfl (by decide +kernel)) rfl (by omega) (am_le rfl) rfl (am_le rfl) rfl <| zKf (s_indexOf (by decide) c4) <| h.elim fun c5 h => z_if_ge (pc' := 14) (tgt := 24) (off := 13) (by decide +kernel) (by decide) rfl c5 (am_ite h (fun h => z_aload_n (pc' := 25) (j := 0) (by decide +kernel) rfl rfl <| z_getR (pc' := 28) (idx := 10) (ci := 11) (f := 0) (by decide +kernel) f_RX11_10 rfl hx.o.1 hx.o.2 hx.r0 rfl <| z_getR (pc' := 31) (idx := 155) (ci := 0) (f := 0) (by decide +kernel) f_RX11_155 rfl hx.bk.o.1 hx.bk.o.2 hx.bk.r0 rfl <| z_iconst (pc' := 32) (n := 0) (by decide +kernel) rfl <| z_aaload120 (pc' := 33) (by decide +kernel) hx.bk.a0 ⟨by decide, by decide, by decide⟩ (hx.bk.e0 0 (by decide)) rfl <| z_astore_n (pc' := 34) (j := 3) (ls' := [some (.ref 0), some (iv t), some (iv c), some (.ref 3), none, none]) (by decide +kernel) (by decide) rfl rfl <| z_aload_n (pc' := 35) (j := 0) (by decide +kernel) rfl rfl <| z_callV (pc' := 38) (idx := 238) (mj := m_X11_freshNet) (av := []) (d' := 11) (by decide +kernel) rfl k_X11_freshNet l_RX11_238 rfl (by omega) (am_le rfl) rfl (am_le rfl) hx.o.1 hx.o.2 rfl h) (fun h => z_throw (is := 253) (text := "there is no such kind") th_IllegalArgumentException (amT5 (i := 132) rfl) rfl (by decide +kernel) (by decide +kernel) (Or.inl ⟨(by decide +kernel), (by decide +kernel), (by decide +kernel)⟩) (by omega) (am_le rfl) c3 h))) (fun h => h))
set_option maxRecDepth 20000 in
theorem b_X11_slack_38 {G : Gx} {Q : Rv → Zm → Prop} {Z : Zm} {t : Int} {c : Int}  (hx : atAll Z) (h : ((zIx t 20) ∧ ZM G 11 m_X7_leastAfter [.ref 233, iv t] Z (zKc G 12 m_X11_slack 52 [some (.ref 0), some (iv t), some (iv c), some (.ref 3), some (iv (zI Z (233 + 7) t.toNat - zI Z (233 + 6) t.toNat)), none] [] Q))) : ZP G 12 m_X11_slack 38 [some (.ref 0), some (iv t), some (iv c), some (.ref 3), none, none] [.ref 233] Z Q := z_iload_n (pc' := 39) (j := 1) (by decide +kernel) rfl rfl <| h.elim fun c1 h => z_callV (pc' := 42) (idx := 255) (mj := m_X7_slackOf) (av := [iv t]) (d' := 0) (by decide +kernel) rfl k_X7_slackOf l_RX11_255 rfl (by omega) (am_le rfl) rfl (am_le rfl) hx.nt.o.1 hx.nt.o.2 rfl <| zKf (s_slackOf hx.nt c1) <| z_istore (pc' := 44) (j := 4) (ls' := [some (.ref 0), some (iv t), some (iv c), some (.ref 3), some (iv (zI Z (233 + 7) t.toNat - zI Z (233 + 6) t.toNat)), none]) (by decide +kernel) (by decide) rfl rfl <| z_aload_n (pc' := 45) (j := 0) (by decide +kernel) rfl rfl <| z_getR (pc' := 48) (idx := 36) (ci := 11) (f := 4) (by decide +kernel) f_RX11_36 rfl hx.o.1 hx.o.2 hx.r4 rfl <| z_iload_n (pc' := 49) (j := 1) (by decide +kernel) rfl rfl <| z_callV (pc' := 52) (idx := 258) (mj := m_X7_leastAfter) (av := [iv t]) (d' := 11) (by decide +kernel) rfl k_X7_leastAfter l_RX11_258 rfl (by omega) (am_le rfl) rfl (am_le rfl) hx.nt.o.1 hx.nt.o.2 rfl h
set_option maxRecDepth 20000 in
theorem b_X11_slack_52 {G : Gx} {Q : Rv → Zm → Prop} {Z : Zm} {t : Int} {c : Int} {v4 : Int} {s0 : Int} (hx : atAll Z) (h : ((zIx t 20) ∧ (R32 c) ∧ (if c = 116 then (Q (.inl (some (iv v4))) Z) else ((if c = 102 then (Q (.inl (some (iv ((s0 - (zI Z 239 t.toNat)) - (zI Z 3 t.toNat))))) Z) else ((if c = 105 then (Q (.inl (some (iv (v4 - ((s0 - (zI Z 239 t.toNat)) - (zI Z 3 t.toNat)))))) Z) else (ZM G 11 m_X7_leastAfter [.ref 233, iv t] Z (zKc G 12 m_X11_slack 107 [some (.ref 0), some (iv t), none, some (.ref 3), none, none] [iv 0] Q))))))))) : ZP G 12 m_X11_slack 52 [some (.ref 0), some (iv t), some (iv c), some (.ref 3), some (iv v4), none] [iv s0] Z Q := z_aload_n (pc' := 53) (j := 0) (by decide +kernel) rfl rfl <| z_getR (pc' := 56) (idx := 36) (ci := 11) (f := 4) (by decide +kernel) f_RX11_36 rfl hx.o.1 hx.o.2 hx.r4 rfl <| z_getR (pc' := 59) (idx := 242) (ci := 7) (f := 9) (by decide +kernel) f_RX11_242 rfl hx.nt.o.1 hx.nt.o.2 hx.nt.r9 rfl <| z_iload_n (pc' := 60) (j := 1) (by decide +kernel) rfl rfl <| h.elim fun c1 h => z_iaload (pc' := 61) (by decide +kernel) hx.nt.a9 c1 rfl <| z_isub (pc' := 62) (by decide +kernel) rfl <| z_aload_n (pc' := 63) (j := 3) (by decide +kernel) rfl rfl <| z_iload_n (pc' := 64) (j := 1) (by decide +kernel) rfl rfl <| z_iaload (pc' := 65) (by decide +kernel) (hx.bk.x0 0 (by decide)) c1 rfl <| z_isub (pc' := 66) (by decide +kernel) rfl <| z_istore (pc' := 68) (j := 5) (ls' := [some (.ref 0), some (iv t), some (iv c), some (.ref 3), some (iv v4), some (iv ((s0 - (zI Z 239 t.toNat)) - (zI Z 3 t.toNat)))]) (by decide +kernel) (by decide) rfl rfl <| z_iload_n (pc' := 69) (j := 2) (by decide +kernel) rfl rfl <| z_bipush (pc' := 71) (n := 116) (by decide +kernel) (by decide) rfl <| h.elim fun c2 h => z_icmp_ne (pc' := 74) (tgt := 77) (off := 6) (by decide +kernel) (by decide) rfl c2 (by decide : R32 116) (am_ite h (fun h => z_iload (pc' := 76) (j := 4) (by decide +kernel) rfl rfl <| z_ireturn (by decide +kernel) ⟨_, rfl, rfl⟩ h) (fun h => z_iload_n (pc' := 78) (j := 2) (by decide +kernel) rfl rfl <| z_bipush (pc' := 80) (n := 102) (by decide +kernel) (by decide) rfl <| z_icmp_ne (pc' := 83) (tgt := 86) (off := 6) (by decide +kernel) (by decide) rfl c2 (by decide : R32 102) (am_ite h (fun h => z_iload (pc' := 85) (j := 5) (by decide +kernel) rfl rfl <| z_ireturn (by decide +kernel) ⟨_, rfl, rfl⟩ h) (fun h => z_iload_n (pc' := 87) (j := 2) (by decide +kernel) rfl rfl <| z_bipush (pc' := 89) (n := 105) (by decide +kernel) (by decide) rfl <| z_icmp_ne (pc' := 92) (tgt := 98) (off := 9) (by decide +kernel) (by decide) rfl c2 (by decide : R32 105) (am_ite h (fun h => z_iload (pc' := 94) (j := 4) (by decide +kernel) rfl rfl <| z_iload (pc' := 96) (j := 5) (by decide +kernel) rfl rfl <| z_isub (pc' := 97) (by decide +kernel) rfl <| z_ireturn (by decide +kernel) ⟨_, rfl, rfl⟩ h) (fun h => z_iconst (pc' := 99) (n := 0) (by decide +kernel) rfl <| z_aload_n (pc' := 100) (j := 0) (by decide +kernel) rfl rfl <| z_getR (pc' := 103) (idx := 36) (ci := 11) (f := 4) (by decide +kernel) f_RX11_36 rfl hx.o.1 hx.o.2 hx.r4 rfl <| z_iload_n (pc' := 104) (j := 1) (by decide +kernel) rfl rfl <| z_callV (pc' := 107) (idx := 258) (mj := m_X7_leastAfter) (av := [iv t]) (d' := 11) (by decide +kernel) rfl k_X7_leastAfter l_RX11_258 rfl (by omega) (am_le rfl) rfl (am_le rfl) hx.nt.o.1 hx.nt.o.2 rfl (ZM.mono h (zKc_wk (wk_some (wk_some (wk_none (wk_some (wk_none (wk_none wk_nil))))))))))))))
set_option maxRecDepth 20000 in
theorem b_X11_slack_107 {G : Gx} {Q : Rv → Zm → Prop} {Z : Zm} {t : Int} {s0 : Int} {s1 : Int} (hx : atAll Z) (h : (ZM G 11 m_X7_greatestAhead [.ref 233, iv t, .ref 3] Z (zKc G 12 m_X11_slack 116 [none, some (iv t), none, some (.ref 3), none, none] [iv s0, iv s1] Q))) : ZP G 12 m_X11_slack 107 [some (.ref 0), some (iv t), none, some (.ref 3), none, none] [iv s0, iv s1] Z Q := z_aload_n (pc' := 108) (j := 0) (by decide +kernel) rfl rfl <| z_getR (pc' := 111) (idx := 36) (ci := 11) (f := 4) (by decide +kernel) f_RX11_36 rfl hx.o.1 hx.o.2 hx.r4 rfl <| z_iload_n (pc' := 112) (j := 1) (by decide +kernel) rfl rfl <| z_aload_n (pc' := 113) (j := 3) (by decide +kernel) rfl rfl <| z_callV (pc' := 116) (idx := 261) (mj := m_X7_greatestAhead) (av := [iv t, .ref 3]) (d' := 11) (by decide +kernel) rfl k_X7_greatestAhead l_RX11_261 rfl (by omega) (am_le rfl) rfl (am_le rfl) hx.nt.o.1 hx.nt.o.2 rfl (ZM.mono h (zKc_wk (wk_none (wk_some (wk_none (wk_some (wk_none (wk_none wk_nil))))))))
set_option maxRecDepth 20000 in
theorem b_X11_slack_116 {G : Gx} {Q : Rv → Zm → Prop} {Z : Zm} {t : Int} {s0 : Int} {s1 : Int} {s2 : Int} (hx : atAll Z) (h : ((zIx t 20) ∧ (R32 s2) ∧ (R32 ((s1 - s0) - (zI Z 3 t.toNat))) ∧ Q (.inl (some (iv (max s2 ((s1 - s0) - (zI Z 3 t.toNat)))))) Z)) : ZP G 12 m_X11_slack 116 [none, some (iv t), none, some (.ref 3), none, none] [iv s0, iv s1, iv s2] Z Q := z_isub (pc' := 117) (by decide +kernel) rfl <| z_aload_n (pc' := 118) (j := 3) (by decide +kernel) rfl rfl <| z_iload_n (pc' := 119) (j := 1) (by decide +kernel) rfl rfl <| h.elim fun c1 h => z_iaload (pc' := 120) (by decide +kernel) (hx.bk.x0 0 (by decide)) c1 rfl <| z_isub (pc' := 121) (by decide +kernel) rfl <| h.elim fun c2 h => h.elim fun c3 h => z_max (pc' := 124) (idx := 265) (by decide +kernel) (amM5 142 rfl (by decide +kernel)) (amM3 108 rfl (by decide +kernel)) (amM1 21 rfl (by decide +kernel)) (amM3 109 rfl (by decide +kernel)) (by omega) (am_le rfl) c2 c3 rfl <| z_ireturn (by decide +kernel) ⟨_, rfl, rfl⟩ h
set_option maxRecDepth 20000 in
theorem e_X11_rest {G : Gx} {Q : Rv → Zm → Prop} {Z : Zm} {t : Int} (hx : atAll Z) (h : ((R32 t) ∧ (R32 (zI Z 1 3)) ∧ (zSz Z < 1000000) ∧ (if 0 ≤ t ∧ t < zI Z 1 3 then (ZM G 11 m_X11_freshNet [.ref 0] Z (zKc G 12 m_X11_rest 9 [none, some (iv t)] [] Q)) else Q (.inr "java/util/NoSuchElementException") (zC Z 15 0 6)))) : ZM G 12 m_X11_rest [.ref 0, iv t] Z Q := ZM.of [some (.ref 0), some (iv t)] rfl <| z_aload_n (pc' := 1) (j := 0) (by decide +kernel) rfl rfl <| z_iload_n (pc' := 2) (j := 1) (by decide +kernel) rfl rfl <| h.elim fun c1 h => h.elim fun c2 h => h.elim fun c3 h => z_callV (pc' := 5) (idx := 133) (mj := m_X11_checkTask) (av := [iv t]) (d' := 8) (by decide +kernel) rfl k_X11_checkTask l_RX11_133 rfl (by omega) (am_le rfl) rfl (am_le rfl) hx.o.1 hx.o.2 rfl <| zKt (s_checkTask hx c1 c2 c3) (am_ite h (fun h => z_aload_n (pc' := 6) (j := 0) (by decide +kernel) rfl rfl <| z_callV (pc' := 9) (idx := 238) (mj := m_X11_freshNet) (av := []) (d' := 11) (by decide +kernel) rfl k_X11_freshNet l_RX11_238 rfl (by omega) (am_le rfl) rfl (am_le rfl) hx.o.1 hx.o.2 rfl (ZM.mono h (zKc_wk (wk_none (wk_some wk_nil))))) (fun h => h))
set_option maxRecDepth 20000 in
theorem b_X11_rest_9 {G : Gx} {Q : Rv → Zm → Prop} {Z : Zm} {t : Int}  (hx : atAll Z) (h : ((zIx t 20) ∧ Q (.inl (some (iv (zI Z 233 3 - zI Z (233 + 7) t.toNat)))) Z)) : ZP G 12 m_X11_rest 9 [none, some (iv t)] [.ref 233] Z Q := z_iload_n (pc' := 10) (j := 1) (by decide +kernel) rfl rfl <| h.elim fun c1 h => z_callV (pc' := 13) (idx := 270) (mj := m_X7_restOf) (av := [iv t]) (d' := 0) (by decide +kernel) rfl k_X7_restOf l_RX11_270 rfl (by omega) (am_le rfl) rfl (am_le rfl) hx.nt.o.1 hx.nt.o.2 rfl <| zKf (s_restOf hx.nt c1) <| z_ireturn (by decide +kernel) ⟨_, rfl, rfl⟩ h
set_option maxRecDepth 20000 in
theorem e_X11_chains {G : Gx} {Q : Rv → Zm → Prop} {Z : Zm}  (hx : atAll Z) (h : (ZM G 11 m_X11_freshNet [.ref 0] Z (zKc G 12 m_X11_chains 4 [some (.ref 0)] [] Q))) : ZM G 12 m_X11_chains [.ref 0] Z Q := ZM.of [some (.ref 0)] rfl <| z_aload_n (pc' := 1) (j := 0) (by decide +kernel) rfl rfl <| z_callV (pc' := 4) (idx := 238) (mj := m_X11_freshNet) (av := []) (d' := 11) (by decide +kernel) rfl k_X11_freshNet l_RX11_238 rfl (by omega) (am_le rfl) rfl (am_le rfl) hx.o.1 hx.o.2 rfl h
set_option maxRecDepth 20000 in
theorem b_X11_chains_4 {G : Gx} {Q : Rv → Zm → Prop} {Z : Zm}   (hx : atAll Z) (h : (ZM G 11 m_X7_countChains [.ref 233, .ref 3] Z (zKc G 12 m_X11_chains 16 [none] [] Q))) : ZP G 12 m_X11_chains 4 [some (.ref 0)] [.ref 233] Z Q := z_aload_n (pc' := 5) (j := 0) (by decide +kernel) rfl rfl <| z_getR (pc' := 8) (idx := 10) (ci := 11) (f := 0) (by decide +kernel) f_RX11_10 rfl hx.o.1 hx.o.2 hx.r0 rfl <| z_getR (pc' := 11) (idx := 155) (ci := 0) (f := 0) (by decide +kernel) f_RX11_155 rfl hx.bk.o.1 hx.bk.o.2 hx.bk.r0 rfl <| z_iconst (pc' := 12) (n := 0) (by decide +kernel) rfl <| z_aaload120 (pc' := 13) (by decide +kernel) hx.bk.a0 ⟨by decide, by decide, by decide⟩ (hx.bk.e0 0 (by decide)) rfl <| z_callV (pc' := 16) (idx := 273) (mj := m_X7_countChains) (av := [.ref 3]) (d' := 11) (by decide +kernel) rfl k_X7_countChains l_RX11_273 rfl (by omega) (am_le rfl) rfl (am_le rfl) hx.nt.o.1 hx.nt.o.2 rfl (ZM.mono h (zKc_wk (wk_none wk_nil)))
set_option maxRecDepth 20000 in
theorem b_X11_chains_16 {G : Gx} {Q : Rv → Zm → Prop} {Z : Zm}  {s0 : Int} (hx : atAll Z) (h : (Q (.inl (some (jv s0))) Z)) : ZP G 12 m_X11_chains 16 [none] [jv s0] Z Q := z_lreturn (by decide +kernel) rfl h
set_option maxRecDepth 20000 in
theorem e_X11_chainLength {G : Gx} {Q : Rv → Zm → Prop} {Z : Zm}  (hx : atAll Z) (h : (ZM G 11 m_X11_freshNet [.ref 0] Z (zKc G 12 m_X11_chainLength 4 [some (.ref 0)] [] Q))) : ZM G 12 m_X11_chainLength [.ref 0] Z Q := ZM.of [some (.ref 0)] rfl <| z_aload_n (pc' := 1) (j := 0) (by decide +kernel) rfl rfl <| z_callV (pc' := 4) (idx := 238) (mj := m_X11_freshNet) (av := []) (d' := 11) (by decide +kernel) rfl k_X11_freshNet l_RX11_238 rfl (by omega) (am_le rfl) rfl (am_le rfl) hx.o.1 hx.o.2 rfl h
set_option maxRecDepth 20000 in
theorem b_X11_chainLength_4 {G : Gx} {Q : Rv → Zm → Prop} {Z : Zm}   (hx : atAll Z) (h : (ZM G 11 m_X7_tellChain [.ref 233, .ref 3] Z (zKc G 12 m_X11_chainLength 16 [none] [] Q))) : ZP G 12 m_X11_chainLength 4 [some (.ref 0)] [.ref 233] Z Q := z_aload_n (pc' := 5) (j := 0) (by decide +kernel) rfl rfl <| z_getR (pc' := 8) (idx := 10) (ci := 11) (f := 0) (by decide +kernel) f_RX11_10 rfl hx.o.1 hx.o.2 hx.r0 rfl <| z_getR (pc' := 11) (idx := 155) (ci := 0) (f := 0) (by decide +kernel) f_RX11_155 rfl hx.bk.o.1 hx.bk.o.2 hx.bk.r0 rfl <| z_iconst (pc' := 12) (n := 0) (by decide +kernel) rfl <| z_aaload120 (pc' := 13) (by decide +kernel) hx.bk.a0 ⟨by decide, by decide, by decide⟩ (hx.bk.e0 0 (by decide)) rfl <| z_callV (pc' := 16) (idx := 277) (mj := m_X7_tellChain) (av := [.ref 3]) (d' := 11) (by decide +kernel) rfl k_X7_tellChain l_RX11_277 rfl (by omega) (am_le rfl) rfl (am_le rfl) hx.nt.o.1 hx.nt.o.2 rfl (ZM.mono h (zKc_wk (wk_none wk_nil)))
set_option maxRecDepth 20000 in
theorem b_X11_chainLength_16 {G : Gx} {Q : Rv → Zm → Prop} {Z : Zm}  {s0 : Int} (hx : atAll Z) (h : (Q (.inl (some (iv s0))) Z)) : ZP G 12 m_X11_chainLength 16 [none] [iv s0] Z Q := z_ireturn (by decide +kernel) ⟨_, rfl, rfl⟩ h
set_option maxRecDepth 20000 in
theorem e_X11_chainAt {G : Gx} {Q : Rv → Zm → Prop} {Z : Zm} {x : Int} (hx : atAll Z) (h : (ZM G 11 m_X11_freshNet [.ref 0] Z (zKc G 12 m_X11_chainAt 4 [some (.ref 0), some (iv x), none] [] Q))) : ZM G 12 m_X11_chainAt [.ref 0, iv x] Z Q := ZM.of [some (.ref 0), some (iv x), none] rfl <| z_aload_n (pc' := 1) (j := 0) (by decide +kernel) rfl rfl <| z_callV (pc' := 4) (idx := 238) (mj := m_X11_freshNet) (av := []) (d' := 11) (by decide +kernel) rfl k_X11_freshNet l_RX11_238 rfl (by omega) (am_le rfl) rfl (am_le rfl) hx.o.1 hx.o.2 rfl h
set_option maxRecDepth 20000 in
theorem b_X11_chainAt_4 {G : Gx} {Q : Rv → Zm → Prop} {Z : Zm} {x : Int}  (hx : atAll Z) (h : (ZM G 11 m_X7_tellChain [.ref 233, .ref 3] Z (zKc G 12 m_X11_chainAt 16 [some (.ref 0), some (iv x), none] [] Q))) : ZP G 12 m_X11_chainAt 4 [some (.ref 0), some (iv x), none] [.ref 233] Z Q := z_aload_n (pc' := 5) (j := 0) (by decide +kernel) rfl rfl <| z_getR (pc' := 8) (idx := 10) (ci := 11) (f := 0) (by decide +kernel) f_RX11_10 rfl hx.o.1 hx.o.2 hx.r0 rfl <| z_getR (pc' := 11) (idx := 155) (ci := 0) (f := 0) (by decide +kernel) f_RX11_155 rfl hx.bk.o.1 hx.bk.o.2 hx.bk.r0 rfl <| z_iconst (pc' := 12) (n := 0) (by decide +kernel) rfl <| z_aaload120 (pc' := 13) (by decide +kernel) hx.bk.a0 ⟨by decide, by decide, by decide⟩ (hx.bk.e0 0 (by decide)) rfl <| z_callV (pc' := 16) (idx := 277) (mj := m_X7_tellChain) (av := [.ref 3]) (d' := 11) (by decide +kernel) rfl k_X7_tellChain l_RX11_277 rfl (by omega) (am_le rfl) rfl (am_le rfl) hx.nt.o.1 hx.nt.o.2 rfl h
set_option maxRecDepth 20000 in
theorem b_X11_chainAt_16 {G : Gx} {Q : Rv → Zm → Prop} {Z : Zm} {x : Int} {s0 : Int} (hx : atAll Z) (h : ((R32 x) ∧ (if x < 0 then ((zSz Z < 1000000) ∧ Q (.inr "java/lang/IndexOutOfBoundsException") (zC Z 16 0 6)) else ((R32 s0) ∧ (if x < s0 then ((zIx x 20) ∧ Q (.inl (some (iv (zI Z 241 x.toNat)))) Z) else ((zSz Z < 1000000) ∧ Q (.inr "java/lang/IndexOutOfBoundsException") (zC Z 16 0 6))))))) : ZP G 12 m_X11_chainAt 16 [some (.ref 0), some (iv x), none] [iv s0] Z Q := z_istore_n (pc' := 17) (j := 2) (ls' := [some (.ref 0), some (iv x), some (iv s0)]) (by decide +kernel) (by decide) rfl rfl <| z_iload_n (pc' := 18) (j := 1) (by decide +kernel) rfl rfl <| h.elim fun c1 h => z_if_lt (pc' := 21) (tgt := 26) (off := 8) (by decide +kernel) (by decide) rfl c1 (am_ite h (fun h => h.elim fun c2 h => z_throw (is := 228) (text := "there is no such place") th_IndexOutOfBoundsException (amT5 (i := 106) rfl) rfl (by decide +kernel) (by decide +kernel) (Or.inl ⟨(by decide +kernel), (by decide +kernel), (by decide +kernel)⟩) (by omega) (am_le rfl) c2 h) (fun h => z_iload_n (pc' := 22) (j := 1) (by decide +kernel) rfl rfl <| z_iload_n (pc' := 23) (j := 2) (by decide +kernel) rfl rfl <| h.elim fun c3 h => z_icmp_lt (pc' := 26) (tgt := 36) (off := 13) (by decide +kernel) (by decide) rfl c1 c3 (am_ite h (fun h => z_aload_n (pc' := 37) (j := 0) (by decide +kernel) rfl rfl <| z_getR (pc' := 40) (idx := 36) (ci := 11) (f := 4) (by decide +kernel) f_RX11_36 rfl hx.o.1 hx.o.2 hx.r4 rfl <| z_getR (pc' := 43) (idx := 281) (ci := 7) (f := 11) (by decide +kernel) f_RX11_281 rfl hx.nt.o.1 hx.nt.o.2 hx.nt.r11 rfl <| z_iload_n (pc' := 44) (j := 1) (by decide +kernel) rfl rfl <| h.elim fun c4 h => z_iaload (pc' := 45) (by decide +kernel) hx.nt.a11 c4 rfl <| z_ireturn (by decide +kernel) ⟨_, rfl, rfl⟩ h) (fun h => h.elim fun c5 h => z_throw (is := 228) (text := "there is no such place") th_IndexOutOfBoundsException (amT5 (i := 106) rfl) rfl (by decide +kernel) (by decide +kernel) (Or.inl ⟨(by decide +kernel), (by decide +kernel), (by decide +kernel)⟩) (by omega) (am_le rfl) c5 h))))
/-! ===== the plain plan: values ===== -/
theorem eOk_all {k : Bk} (ho : kOk k) : eOk k := by
  obtain ⟨f, hf⟩ := isLF_ex ho (kF k 0) (fun _ => 0)
  have h1 := (eLF_spec ho hf).1
  obtain ⟨L, hL⟩ := isLat_ex ho (kF k 0) (eEnd k)
  exact ⟨h1, (eLat_spec ho hL).1⟩
theorem eE_of {k : Bk} (ho : kOk k) {f : Nat → Int} (h : isLF k (kF k 0) (fun _ => 0) f) : ∀ t, t < kN k → f t = eE k t := (eLF_spec ho h).2
theorem eEnd_of {k : Bk} (ho : kOk k) {f : Nat → Int} (h : isLF k (kF k 0) (fun _ => 0) f) : kEnd k (kF k 0) f = eEnd k := zmax_eq fun t ht => by
  rw [eE_of ho h t ht]
theorem eL_of {k : Bk} (ho : kOk k) {f L : Nat → Int} (h : isLF k (kF k 0) (fun _ => 0) f) (hL : isLat k (kF k 0) (kEnd k (kF k 0) f) L) : ∀ t, t < kN k → L t = eL k t := by
  rw [eEnd_of ho h] at hL
  exact (eLat_spec ho hL).2
theorem eR_of {k : Bk} (ho : kOk k) {R : Nat → Int} (h : isLat k (kF k 0) 0 (fun t => - R t)) : ∀ t, t < kN k → R t = eR k t := fun t ht => by
  have h1 := isLat_shift ho h (eEnd k)
  rw [Int.zero_add] at h1
  have h2 : - R t + eEnd k = eL k t := (eLat_spec ho h1).2 t ht
  unfold eR
  omega
theorem isAft_eq {k : Bk} {t : Nat} {x y : Int} (hx : isAft k t x) (hy : isAft k t y) : x = y := by
  have le : ∀ {a b : Int}, isAft k t a → isAft k t b → a ≤ b := fun {a b} ha hb => by
    rcases hb.2.2 with e | ⟨j, hj, e1, e2⟩
    · rw [e]
      exact ha.1
    · rw [e2]
      exact ha.2.1 j hj e1
  exact Int.le_antisymm (le hx hy) (le hy hx)
theorem isAhd_eq {k : Bk} {t : Nat} {x y : Int} (hx : isAhd k t x) (hy : isAhd k t y) : x = y := by
  have le : ∀ {a b : Int}, isAhd k t a → isAhd k t b → a ≤ b := fun {a b} ha hb => by
    rcases ha.2.2 with e | ⟨j, hj, e1, e2⟩
    · rw [e]
      exact hb.1
    · rw [e2]
      exact hb.2.1 j hj e1
  exact Int.le_antisymm (le hx hy) (le hy hx)
noncomputable def vAft (k : Bk) (t : Nat) : Int := Classical.epsilon (isAft k t)
noncomputable def vAhd (k : Bk) (t : Nat) : Int := Classical.epsilon (isAhd k t)
noncomputable def vAll (k : Bk) : Int := Classical.epsilon (isAll k)
theorem vAft_of {k : Bk} {t : Nat} {x : Int} (h : isAft k t x) : x = vAft k t := isAft_eq h (Classical.epsilon_spec (p := isAft k t) ⟨x, h⟩)
theorem vAhd_of {k : Bk} {t : Nat} {x : Int} (h : isAhd k t x) : x = vAhd k t := isAhd_eq h (Classical.epsilon_spec (p := isAhd k t) ⟨x, h⟩)
theorem vAll_of {k : Bk} (ho : kOk k) {x : Int} (h : isAll k x) : x = vAll k := isAll_eq ho h (Classical.epsilon_spec (p := isAll k) ⟨x, h⟩)
noncomputable def vTd (k : Bk) : (Nat → Int) × (Nat → Int) × Nat := @Classical.epsilon _ ⟨(fun _ => 0, fun _ => 0, 0)⟩ (fun a : (Nat → Int) × (Nat → Int) × Nat => isTold k a.1 a.2.1 a.2.2)
theorem vTd_of {k : Bk} (ho : kOk k) {d g : Nat → Int} {q : Nat} (h : isTold k d g q) : q = (vTd k).2.2 ∧ ∀ i, i < q → d i = (vTd k).1 i := by
  have h1 : isTold k (vTd k).1 (vTd k).2.1 (vTd k).2.2 := @Classical.epsilon_spec _ (fun a : (Nat → Int) × (Nat → Int) × Nat => isTold k a.1 a.2.1 a.2.2) ⟨(d, g, q), h⟩
  obtain ⟨e, h2⟩ := isTold_eq ho h h1
  exact ⟨e, fun i hi => (h2 i hi).1⟩
/-! ===== the class' calls on the plain plan ===== -/
theorem IC.nt {Z Z' : Zm} {σ : St} (h : IC Z σ) (f : zF (zB 233 241) 0 0 Z Z') (hn : cN Z' 233 (sK σ)) : IC Z' σ ∧ zF cF 0 0 Z Z' := ⟨h.net f (fun a g => by unfold zB at g; omega) hn, f.mono (fun a g => by unfold zB at g; show a < 300; omega) (Nat.le_refl _) (Nat.le_refl _)⟩
theorem cB.len {Z : Zm} {k : Bk} (h : cB Z 1 k) : ∀ t, t < kN k → zI Z 3 t = kF k 0 t := fun t ht => h.2.2.1 0 t (by omega) ht
theorem zF.c1 {Z Z' : Zm} (f : zF cF 0 0 Z Z') : zF cF 1 6 Z Z' := f.mono (fun _ g => g) (by omega) (by omega)
noncomputable def o_earliest (σ : St) (t : Int) : Ou := cIf (0 ≤ t ∧ t < kN (sK σ)) (0, eE (sK σ) t.toNat, σ) (1, 0, σ)
noncomputable def o_latest (σ : St) (t : Int) : Ou := cIf (0 ≤ t ∧ t < kN (sK σ)) (0, eL (sK σ) t.toNat, σ) (1, 0, σ)
noncomputable def o_end (σ : St) : Ou := (0, eEnd (sK σ), σ)
noncomputable def o_rest (σ : St) (t : Int) : Ou := cIf (0 ≤ t ∧ t < kN (sK σ)) (0, eR (sK σ) t.toNat, σ) (1, 0, σ)
noncomputable def vFree (k : Bk) (t : Nat) : Int := vAft k t - eE k t - kF k 0 t
noncomputable def o_slack (σ : St) (t c : Int) : Ou := cIf (0 ≤ t ∧ t < kN (sK σ)) (cIf (0 ≤ zIdx 3 c) (0, if c = 116 then eL (sK σ) t.toNat - eE (sK σ) t.toNat else if c = 102 then vFree (sK σ) t.toNat else if c = 105 then eL (sK σ) t.toNat - eE (sK σ) t.toNat - vFree (sK σ) t.toNat else max 0 (vAft (sK σ) t.toNat - vAhd (sK σ) t.toNat - kF (sK σ) 0 t.toNat), σ) (2, 0, σ)) (1, 0, σ)
noncomputable def o_chains (σ : St) : Ou := (0, vAll (sK σ), σ)
noncomputable def o_chainLength (σ : St) : Ou := (0, ((vTd (sK σ)).2.2 : Int), σ)
noncomputable def o_chainAt (σ : St) (x : Int) : Ou := cIf (0 ≤ x ∧ x < (vTd (sK σ)).2.2) (0, (vTd (sK σ)).1 x.toNat, σ) (1, 0, σ)
theorem c_earliest {G : Gx} {Z : Zm} {σ : St} {t : Int} (h : IC Z σ) (ho : okS σ) (hz : zSz Z < 1000000) (ht : R32 t) : ZM G 12 m_X11_earliest [.ref 0, iv t] Z (rC Z (E3 eN "" "") iv (o_earliest σ t)) := by
  have hn := ho.1.n
  refine e_X11_earliest h.1 ⟨ht, ?_⟩
  rw [h.2.1.1]
  refine ⟨by omega, hz, ?_⟩
  unfold o_earliest
  by_cases c1 : 0 ≤ t ∧ t < (kN (sK σ) : Int)
  · rw [if_pos c1, cIf_p c1]
    refine ((s_freshNet h ho.1).deeper (by omega)).mono ?_
    rintro r W ⟨rfl, f, hc⟩
    obtain ⟨h1, f1⟩ := h.nt f hc
    exact b_X11_earliest_9 h1.1 ⟨⟨c1.1, by omega, by decide⟩, rC.ok h1 f1.c1 ((hc.e ho.1).1 _ (by omega))⟩
  · rw [if_neg c1, cIf_f c1]
    exact rC.no h (by decide) rfl
theorem c_latest {G : Gx} {Z : Zm} {σ : St} {t : Int} (h : IC Z σ) (ho : okS σ) (hz : zSz Z < 1000000) (ht : R32 t) : ZM G 12 m_X11_latest [.ref 0, iv t] Z (rC Z (E3 eN "" "") iv (o_latest σ t)) := by
  have hn := ho.1.n
  refine e_X11_latest h.1 ⟨ht, ?_⟩
  rw [h.2.1.1]
  refine ⟨by omega, hz, ?_⟩
  unfold o_latest
  by_cases c1 : 0 ≤ t ∧ t < (kN (sK σ) : Int)
  · rw [if_pos c1, cIf_p c1]
    refine ((s_freshNet h ho.1).deeper (by omega)).mono ?_
    rintro r W ⟨rfl, f, hc⟩
    obtain ⟨h1, f1⟩ := h.nt f hc
    exact b_X11_latest_9 h1.1 ⟨⟨c1.1, by omega, by decide⟩, rC.ok h1 f1.c1 ((hc.e ho.1).2.2.1 _ (by omega))⟩
  · rw [if_neg c1, cIf_f c1]
    exact rC.no h (by decide) rfl
theorem c_end {G : Gx} {Z : Zm} {σ : St} (h : IC Z σ) (ho : okS σ) : ZM G 12 m_X11_end [.ref 0] Z (rC Z (E3 "" "" "") iv (o_end σ)) := by
  refine e_X11_end h.1 (((s_freshNet h ho.1).deeper (by omega)).mono ?_)
  rintro r W ⟨rfl, f, hc⟩
  obtain ⟨h1, f1⟩ := h.nt f hc
  exact b_X11_end_4 h1.1 (rC.ok h1 f1.c1 (hc.e ho.1).2.1)
theorem c_rest {G : Gx} {Z : Zm} {σ : St} {t : Int} (h : IC Z σ) (ho : okS σ) (hz : zSz Z < 1000000) (ht : R32 t) : ZM G 12 m_X11_rest [.ref 0, iv t] Z (rC Z (E3 eN "" "") iv (o_rest σ t)) := by
  have hn := ho.1.n
  refine e_X11_rest h.1 ⟨ht, ?_⟩
  rw [h.2.1.1]
  refine ⟨by omega, hz, ?_⟩
  unfold o_rest
  by_cases c1 : 0 ≤ t ∧ t < (kN (sK σ) : Int)
  · rw [if_pos c1, cIf_p c1]
    refine ((s_freshNet h ho.1).deeper (by omega)).mono ?_
    rintro r W ⟨rfl, f, hc⟩
    obtain ⟨h1, f1⟩ := h.nt f hc
    have e := hc.e ho.1
    refine b_X11_rest_9 h1.1 ⟨⟨c1.1, by omega, by decide⟩, rC.ok h1 f1.c1 ?_⟩
    rw [e.2.1, e.2.2.1 _ (by omega)]
    rfl
  · rw [if_neg c1, cIf_f c1]
    exact rC.no h (by decide) rfl
theorem c_chains {G : Gx} {Z : Zm} {σ : St} (h : IC Z σ) (ho : okS σ) : ZM G 12 m_X11_chains [.ref 0] Z (rC Z (E3 "" "" "") jv (o_chains σ)) := by
  refine e_X11_chains h.1 (((s_freshNet h ho.1).deeper (by omega)).mono ?_)
  rintro r W ⟨rfl, f, hc⟩
  obtain ⟨h1, f1⟩ := h.nt f hc
  refine b_X11_chains_4 h1.1 (((s_countChains h1.1.nt (h1.1.bk.x0 0 (by omega)) hc ho.1 h1.2.1.len).deeper (by omega)).mono ?_)
  rintro r V ⟨x, g, hx, rfl, rfl⟩
  have f2 : zF (fun a => a = 243) 0 0 W (zSL W (233 + 10) g) := zF_L rfl
  have h2 : IC (zSL W (233 + 10) g) σ := h1.fr0 f2 (fun a g => by unfold scr; omega) fun a g1 g2 g => by omega
  exact b_X11_chains_16 h2.1 (rC.ok h2 (f1.trans (f2.mono (fun a g => by show a < 300; omega) (Nat.le_refl _) (Nat.le_refl _))).c1 (vAll_of ho.1 hx))
theorem s_told {G : Gx} {W : Zm} {σ : St} (h1 : IC W σ) (ho : okS σ) (hc : cN W 233 (sK σ)) : ZM G 3 m_X7_tellChain [.ref 233, .ref 3] W (fun r V => r = .inl (some (iv ((vTd (sK σ)).2.2 : Int))) ∧ IC V σ ∧ zF cF 0 0 W V ∧ ((vTd (sK σ)).2.2 ≤ 20) ∧ ∀ i, i < (vTd (sK σ)).2.2 → zI V 241 i = (vTd (sK σ)).1 i) := by
  have hn := ho.1.n
  refine (s_tellChain h1.1.nt (h1.1.bk.x0 0 (by omega)) hc ho.1 h1.2.1.len (by omega)).mono ?_
  rintro r V ⟨q, d, g, ht, rfl, f, w⟩
  obtain ⟨e1, e2⟩ := vTd_of ho.1 ht
  have hq := ht.2.1
  refine ⟨by rw [e1], h1.fr0 f (fun a g => by unfold zB at g; unfold scr; omega) (fun a g1 g2 g => by unfold zB at g; omega), f.mono (fun a g => by unfold zB at g; show a < 300; omega) (Nat.le_refl _) (Nat.le_refl _), by omega, fun i hi => ?_⟩
  rw [← e2 i (by omega)]
  exact (w i (by omega)).1
theorem c_chainLength {G : Gx} {Z : Zm} {σ : St} (h : IC Z σ) (ho : okS σ) : ZM G 12 m_X11_chainLength [.ref 0] Z (rC Z (E3 "" "" "") iv (o_chainLength σ)) := by
  refine e_X11_chainLength h.1 (((s_freshNet h ho.1).deeper (by omega)).mono ?_)
  rintro r W ⟨rfl, f, hc⟩
  obtain ⟨h1, f1⟩ := h.nt f hc
  refine b_X11_chainLength_4 h1.1 (((s_told h1 ho hc).deeper (by omega)).mono ?_)
  rintro r V ⟨rfl, h2, f2, -, -⟩
  exact b_X11_chainLength_16 h2.1 (rC.ok h2 (f1.trans f2).c1 rfl)
theorem c_chainAt {G : Gx} {Z : Zm} {σ : St} {x : Int} (h : IC Z σ) (ho : okS σ) (hz : zSz Z < 1000000) (hx : R32 x) : ZM G 12 m_X11_chainAt [.ref 0, iv x] Z (rC Z (E3 eI "" "") iv (o_chainAt σ x)) := by
  refine e_X11_chainAt h.1 (((s_freshNet h ho.1).deeper (by omega)).mono ?_)
  rintro r W ⟨rfl, f, hc⟩
  obtain ⟨h1, f1⟩ := h.nt f hc
  refine b_X11_chainAt_4 h1.1 (((s_told h1 ho hc).deeper (by omega)).mono ?_)
  rintro r V ⟨rfl, h2, f2, hq, w⟩
  have f3 := f1.trans f2
  have hzV : zSz V < 1000000 := by have := f3.2.1.1; omega
  have no : rC Z (E3 eI "" "") iv (1, 0, σ) (.inr eI) (zC V 16 0 6) := ⟨rfl, h2.cC _ _ _, (f3.trans zF_C).mono (fun _ g => g) (by omega) (by omega)⟩
  refine b_X11_chainAt_16 h2.1 ⟨hx, ?_⟩
  unfold o_chainAt
  by_cases c1 : x < 0
  · rw [if_pos c1, cIf_f (by omega)]
    exact ⟨hzV, no⟩
  · rw [if_neg c1]
    refine ⟨by omega, ?_⟩
    by_cases c2 : x < ((vTd (sK σ)).2.2 : Int)
    · rw [if_pos c2, cIf_p (by omega)]
      exact ⟨⟨by omega, by omega, by decide⟩, rC.ok h2 f3.c1 (w _ (by omega))⟩
    · rw [if_neg c2, cIf_f (by omega)]
      exact ⟨hzV, no⟩
theorem isAft_r {k : Bk} (ho : kOk k) {t : Nat} {x : Int} (h : isAft k t x) : -30 ≤ x ∧ x ≤ 1770 := by
  have he := (eOk_all ho).en ho
  rcases h.2.2 with e | ⟨j, hj, e1, e2⟩
  · omega
  · have := (eOk_all ho).e ho (ho.l hj)
    have := ho.g hj
    omega
theorem isAhd_r {k : Bk} (ho : kOk k) {t : Nat} {x : Int} (h : isAhd k t x) : 0 ≤ x ∧ x ≤ 1900 := by
  have he := (eOk_all ho).en ho
  rcases h.2.2 with e | ⟨j, hj, e1, e2⟩
  · omega
  · have := (eOk_all ho).e ho (ho.e hj)
    have := (eOk_all ho).el ho (ho.e hj)
    have := ho.g hj
    have := ho.len (ho.e hj)
    omega
theorem c_slack {G : Gx} {Z : Zm} {σ : St} {t c : Int} (h : IC Z σ) (ho : okS σ) (hz : zSz Z < 1000000) (ht : R32 t) (hcc : R32 c) : ZM G 12 m_X11_slack [.ref 0, iv t, iv c] Z (rC Z (E3 eN eA "") iv (o_slack σ t c)) := by
  have hn := ho.1.n
  refine e_X11_slack h.1 ⟨ht, ?_⟩
  rw [h.2.1.1]
  refine ⟨by omega, hz, ?_⟩
  unfold o_slack
  by_cases c1 : 0 ≤ t ∧ t < (kN (sK σ) : Int)
  · rw [if_pos c1, cIf_p c1]
    refine ⟨hcc, zIdx_r32 _ _, ?_⟩
    by_cases c2 : 0 ≤ zIdx 3 c
    · rw [if_pos c2, cIf_p c2]
      have et : ((t.toNat : Nat) : Int) = t := by omega
      have htn : t.toNat < kN (sK σ) := by omega
      refine ((s_freshNet h ho.1).deeper (by omega)).mono ?_
      rintro r W ⟨rfl, f, hc⟩
      obtain ⟨h1, f1⟩ := h.nt f hc
      obtain ⟨a1, a2, a3, a4⟩ := hc.e ho.1
      have q1 := a4.e ho.1 htn
      have q2 := a4.el ho.1 htn
      have q3 := a4.en ho.1
      have q4 := ho.1.len htn
      have hl := s_leastAfter (G := G) h1.1.nt hc ho.1 htn
      rw [et] at hl
      refine b_X11_slack_38 h1.1 ⟨⟨c1.1, by omega, by decide⟩, (hl.deeper (by omega)).mono ?_⟩
      rintro r V ⟨x, hx, rfl, hV⟩
      obtain rfl := hV.symm
      have ex := vAft_of hx
      have rx := isAft_r ho.1 hx
      have e1 : zI W 239 t.toNat = eE (sK σ) t.toNat := a1 _ htn
      have e2 : zI W (233 + 7) t.toNat = eL (sK σ) t.toNat := a3 _ htn
      have e2' : zI W (233 + 6) t.toNat = eE (sK σ) t.toNat := a1 _ htn
      have e3 : zI W 3 t.toNat = kF (sK σ) 0 t.toNat := h1.2.1.len _ htn
      rw [e2, e2']
      refine b_X11_slack_52 h1.1 ⟨⟨c1.1, by omega, by decide⟩, hcc, ?_⟩
      rw [e1, e3]
      unfold vFree
      rw [← ex]
      by_cases d1 : c = 116
      · rw [if_pos d1, if_pos d1]
        exact rC.ok h1 f1.c1 rfl
      · rw [if_neg d1, if_neg d1]
        by_cases d2 : c = 102
        · rw [if_pos d2, if_pos d2]
          exact rC.ok h1 f1.c1 rfl
        · rw [if_neg d2, if_neg d2]
          by_cases d3 : c = 105
          · rw [if_pos d3, if_pos d3]
            exact rC.ok h1 f1.c1 rfl
          · rw [if_neg d3, if_neg d3]
            refine (hl.deeper (by omega)).mono ?_
            rintro r U ⟨y, hy, rfl, hU⟩
            obtain rfl := hU.symm
            have ey : y = x := isAft_eq hy hx
            subst ey
            have hg := s_greatestAhead (G := G) h1.1.nt (h1.1.bk.x0 0 (by omega)) hc ho.1 h1.2.1.len htn
            rw [et] at hg
            refine b_X11_slack_107 h1.1 ((hg.deeper (by omega)).mono ?_)
            rintro r V ⟨w, hw, rfl, hV⟩
            obtain rfl := hV.symm
            have ew := vAhd_of hw
            have rw9 := isAhd_r ho.1 hw
            refine b_X11_slack_116 h1.1 ?_
            rw [e3, ← ew]
            exact ⟨⟨c1.1, by omega, by decide⟩, by decide, by omega, rC.ok h1 f1.c1 rfl⟩
    · rw [if_neg c2, cIf_f c2]
      exact rC.no h (by decide) rfl
  · rw [if_neg c1, cIf_f c1]
    exact rC.no h (by decide) rfl
