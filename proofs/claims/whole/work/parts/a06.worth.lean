set_option maxRecDepth 20000 in
theorem e_X11_allOdds {G : Gx} {Q : Rv → Zm → Prop} {Z : Zm}  (hx : atAll Z) (h : (ZM G 11 m_X11_checkGuesses [.ref 0] Z (zKc G 12 m_X11_allOdds 4 [some (.ref 0), none, none, none, none] [] Q))) : ZM G 12 m_X11_allOdds [.ref 0] Z Q := ZM.of [some (.ref 0), none, none, none, none] rfl <| z_aload_n (pc' := 1) (j := 0) (by decide +kernel) rfl rfl <| z_callV (pc' := 4) (idx := 421) (mj := m_X11_checkGuesses) (av := []) (d' := 11) (by decide +kernel) rfl k_X11_checkGuesses l_RX11_421 rfl (by omega) (am_le rfl) rfl (am_le rfl) hx.o.1 hx.o.2 rfl h
set_option maxRecDepth 20000 in
theorem b_X11_allOdds_4 {G : Gx} {Q : Rv → Zm → Prop} {Z : Zm}   (hx : atAll Z) (h : (ZM G 11 m_X0_countGuessed [.ref 1] Z (zKc G 12 m_X11_allOdds 13 [none, some (jv 1), none, none, none] [] Q))) : ZP G 12 m_X11_allOdds 4 [some (.ref 0), none, none, none, none] [] Z Q := z_lconst (pc' := 5) (n := 1) (v := 1) (by decide +kernel) rfl rfl <| z_lstore_n (pc' := 6) (j := 1) (ls' := [some (.ref 0), some (jv 1), none, none, none]) (by decide +kernel) (by decide) rfl rfl <| z_aload_n (pc' := 7) (j := 0) (by decide +kernel) rfl rfl <| z_getR (pc' := 10) (idx := 10) (ci := 11) (f := 0) (by decide +kernel) f_RX11_10 rfl hx.o.1 hx.o.2 hx.r0 rfl <| z_callV (pc' := 13) (idx := 418) (mj := m_X0_countGuessed) (av := []) (d' := 11) (by decide +kernel) rfl k_X0_countGuessed l_RX11_418 rfl (by omega) (am_le rfl) rfl (am_le rfl) hx.bk.o.1 hx.bk.o.2 rfl (ZM.mono h (zKc_wk (wk_none (wk_some (wk_none (wk_none (wk_none wk_nil)))))))
set_option maxRecDepth 20000 in
theorem b_X11_allOdds_13 {G : Gx} {Q : Rv → Zm → Prop} {Z : Zm}  {v1 : Int} {s0 : Int} (hx : atAll Z) (h : (ZP G 12 m_X11_allOdds 17 [none, some (jv v1), none, some (iv s0), some (iv 0)] [] Z Q)) : ZP G 12 m_X11_allOdds 13 [none, some (jv v1), none, none, none] [iv s0] Z Q := z_istore_n (pc' := 14) (j := 3) (ls' := [none, some (jv v1), none, some (iv s0), none]) (by decide +kernel) (by decide) rfl rfl <| z_iconst (pc' := 15) (n := 0) (by decide +kernel) rfl <| z_istore (pc' := 17) (j := 4) (ls' := [none, some (jv v1), none, some (iv s0), some (iv 0)]) (by decide +kernel) (by decide) rfl rfl <| h
set_option maxRecDepth 20000 in
theorem b_X11_allOdds_17 {G : Gx} {Q : Rv → Zm → Prop} {Z : Zm}  {v1 : Int} {v3 : Int} {v4 : Int} (hx : atAll Z) (h : ((R32 v4) ∧ (R32 v3) ∧ (if v3 ≤ v4 then (Q (.inl (some (jv v1))) Z) else (ZP G 12 m_X11_allOdds 17 [none, some (jv (v1 * 6)), none, some (iv v3), some (iv (v4 + 1))] [] Z Q)))) : ZP G 12 m_X11_allOdds 17 [none, some (jv v1), none, some (iv v3), some (iv v4)] [] Z Q := z_iload (pc' := 19) (j := 4) (by decide +kernel) rfl rfl <| z_iload_n (pc' := 20) (j := 3) (by decide +kernel) rfl rfl <| h.elim fun c1 h => h.elim fun c2 h => z_icmp_ge (pc' := 23) (tgt := 35) (off := 15) (by decide +kernel) (by decide) rfl c1 c2 (am_ite h (fun h => z_lload_n (pc' := 36) (j := 1) (by decide +kernel) rfl rfl <| z_lreturn (by decide +kernel) rfl h) (fun h => z_lload_n (pc' := 24) (j := 1) (by decide +kernel) rfl rfl <| z_ldc2 (pc' := 27) (idx := 424) (w := 6) (v := 6) (by decide +kernel) (amM7 86 rfl (by decide +kernel)) (by decide) rfl <| z_lmul (pc' := 28) (by decide +kernel) rfl <| z_lstore_n (pc' := 29) (j := 1) (ls' := [none, some (jv (v1 * 6)), none, some (iv v3), some (iv v4)]) (by decide +kernel) (by decide) rfl rfl <| z_iinc (pc' := 32) (j := 4) (n := 1) (x := v4) (ls' := [none, some (jv (v1 * 6)), none, some (iv v3), some (iv (v4 + 1))]) (by decide +kernel) rfl (by decide) rfl rfl <| z_goto (tgt := 17) (off := -15) (by decide +kernel) (by decide) <| h))
set_option maxRecDepth 20000 in
theorem e_X11_planned {G : Gx} {Q : Rv → Zm → Prop} {Z : Zm} {x : Int} (hx : atAll Z) (h : ((R32 x) ∧ (zSz Z < 1000000) ∧ (if 0 ≤ x then (ZM G 11 m_X11_worthBy [.ref 0, iv x] Z (zKc G 12 m_X11_planned 10 [none, none] [] Q)) else Q (.inr "java/lang/IllegalArgumentException") (zC Z 13 0 6)))) : ZM G 12 m_X11_planned [.ref 0, iv x] Z Q := ZM.of [some (.ref 0), some (iv x)] rfl <| z_aload_n (pc' := 1) (j := 0) (by decide +kernel) rfl rfl <| z_iload_n (pc' := 2) (j := 1) (by decide +kernel) rfl rfl <| h.elim fun c1 h => h.elim fun c2 h => z_callV (pc' := 5) (idx := 430) (mj := m_X11_checkTime) (av := [iv x]) (d' := 8) (by decide +kernel) rfl k_X11_checkTime l_RX11_430 rfl (by omega) (am_le rfl) rfl (am_le rfl) hx.o.1 hx.o.2 rfl <| zKt (s_checkTime hx c1 c2) (am_ite h (fun h => z_aload_n (pc' := 6) (j := 0) (by decide +kernel) rfl rfl <| z_iload_n (pc' := 7) (j := 1) (by decide +kernel) rfl rfl <| z_callV (pc' := 10) (idx := 433) (mj := m_X11_worthBy) (av := [iv x]) (d' := 11) (by decide +kernel) rfl k_X11_worthBy l_RX11_433 rfl (by omega) (am_le rfl) rfl (am_le rfl) hx.o.1 hx.o.2 rfl (ZM.mono h (zKc_wk (wk_none (wk_none wk_nil))))) (fun h => h))
set_option maxRecDepth 20000 in
theorem b_X11_planned_10 {G : Gx} {Q : Rv → Zm → Prop} {Z : Zm}  {s0 : Int} (hx : atAll Z) (h : (Q (.inl (some (iv s0))) Z)) : ZP G 12 m_X11_planned 10 [none, none] [iv s0] Z Q := z_ireturn (by decide +kernel) ⟨_, rfl, rfl⟩ h
set_option maxRecDepth 20000 in
theorem e_X11_worthBy {G : Gx} {Q : Rv → Zm → Prop} {Z : Zm} {x : Int} (hx : atAll Z) (h : (ZM G 10 m_X11_freshNet [.ref 0] Z (zKc G 11 m_X11_worthBy 4 [some (.ref 0), some (iv x), none, none, none, none, none] [] Q))) : ZM G 11 m_X11_worthBy [.ref 0, iv x] Z Q := ZM.of [some (.ref 0), some (iv x), none, none, none, none, none] rfl <| z_aload_n (pc' := 1) (j := 0) (by decide +kernel) rfl rfl <| z_callV (pc' := 4) (idx := 238) (mj := m_X11_freshNet) (av := []) (d' := 10) (by decide +kernel) rfl k_X11_freshNet l_RX11_238 rfl (by omega) (am_le rfl) rfl (am_le rfl) hx.o.1 hx.o.2 rfl h
set_option maxRecDepth 20000 in
theorem b_X11_worthBy_4 {G : Gx} {Q : Rv → Zm → Prop} {Z : Zm} {x : Int}  (hx : atAll Z) (h : (ZP G 11 m_X11_worthBy 13 [some (.ref 0), some (iv x), some (.ref 239), some (iv 0), some (iv 0), none, none] [] Z Q)) : ZP G 11 m_X11_worthBy 4 [some (.ref 0), some (iv x), none, none, none, none, none] [.ref 233] Z Q := z_getR (pc' := 7) (idx := 242) (ci := 7) (f := 9) (by decide +kernel) f_RX11_242 rfl hx.nt.o.1 hx.nt.o.2 hx.nt.r9 rfl <| z_astore_n (pc' := 8) (j := 2) (ls' := [some (.ref 0), some (iv x), some (.ref 239), none, none, none, none]) (by decide +kernel) (by decide) rfl rfl <| z_iconst (pc' := 9) (n := 0) (by decide +kernel) rfl <| z_istore_n (pc' := 10) (j := 3) (ls' := [some (.ref 0), some (iv x), some (.ref 239), some (iv 0), none, none, none]) (by decide +kernel) (by decide) rfl rfl <| z_iconst (pc' := 11) (n := 0) (by decide +kernel) rfl <| z_istore (pc' := 13) (j := 4) (ls' := [some (.ref 0), some (iv x), some (.ref 239), some (iv 0), some (iv 0), none, none]) (by decide +kernel) (by decide) rfl rfl <| h
set_option maxRecDepth 20000 in
theorem b_X11_worthBy_13 {G : Gx} {Q : Rv → Zm → Prop} {Z : Zm} {x : Int} {v3 : Int} {v4 : Int} (hx : atAll Z) (h : ((R32 v4) ∧ (R32 (zI Z 1 3)) ∧ (if (zI Z 1 3) ≤ v4 then (Q (.inl (some (iv v3))) Z) else ((zIx v4 20) ∧ (R32 (x - (zI Z 239 v4.toNat))) ∧ (R32 (zI Z 3 v4.toNat)) ∧ (R32 (max 0 (x - (zI Z 239 v4.toNat)))) ∧ (¬ ((zI Z 3 v4.toNat) ≤ 0) → (R32 ((zI Z 9 v4.toNat) * (min (zI Z 3 v4.toNat) (max 0 (x - (zI Z 239 v4.toNat)))))) ∧ (0 ≤ ((zI Z 9 v4.toNat) * (min (zI Z 3 v4.toNat) (max 0 (x - (zI Z 239 v4.toNat)))))) ∧ (0 < (zI Z 3 v4.toNat)) ∧ True) ∧ ZP G 11 m_X11_worthBy 13 [some (.ref 0), some (iv x), some (.ref 239), some (iv (if (zI Z 3 v4.toNat) ≤ 0 then v3 else v3 + (((zI Z 9 v4.toNat) * (min (zI Z 3 v4.toNat) (max 0 (x - (zI Z 239 v4.toNat))))) / (zI Z 3 v4.toNat)))), some (iv (v4 + 1)), none, none] [] Z Q)))) : ZP G 11 m_X11_worthBy 13 [some (.ref 0), some (iv x), some (.ref 239), some (iv v3), some (iv v4), none, none] [] Z Q := z_iload (pc' := 15) (j := 4) (by decide +kernel) rfl rfl <| z_aload_n (pc' := 16) (j := 0) (by decide +kernel) rfl rfl <| z_getR (pc' := 19) (idx := 10) (ci := 11) (f := 0) (by decide +kernel) f_RX11_10 rfl hx.o.1 hx.o.2 hx.r0 rfl <| z_getI (pc' := 22) (idx := 117) (ci := 0) (f := 3) (by decide +kernel) f_RX11_117 rfl hx.bk.o.1 hx.bk.o.2 rfl <| h.elim fun c1 h => h.elim fun c2 h => z_icmp_ge (pc' := 25) (tgt := 89) (off := 67) (by decide +kernel) (by decide) rfl c1 c2 (am_ite h (fun h => z_iload_n (pc' := 90) (j := 3) (by decide +kernel) rfl rfl <| z_ireturn (by decide +kernel) ⟨_, rfl, rfl⟩ h) (fun h => z_aload_n (pc' := 26) (j := 0) (by decide +kernel) rfl rfl <| z_getR (pc' := 29) (idx := 10) (ci := 11) (f := 0) (by decide +kernel) f_RX11_10 rfl hx.o.1 hx.o.2 hx.r0 rfl <| z_getR (pc' := 32) (idx := 155) (ci := 0) (f := 0) (by decide +kernel) f_RX11_155 rfl hx.bk.o.1 hx.bk.o.2 hx.bk.r0 rfl <| z_iconst (pc' := 33) (n := 0) (by decide +kernel) rfl <| z_aaload120 (pc' := 34) (by decide +kernel) hx.bk.a0 ⟨by decide, by decide, by decide⟩ (hx.bk.e0 0 (by decide)) rfl <| z_iload (pc' := 36) (j := 4) (by decide +kernel) rfl rfl <| h.elim fun c14 h => z_iaload (pc' := 37) (by decide +kernel) (hx.bk.x0 0 (by decide)) c14 rfl <| z_istore (pc' := 39) (j := 5) (ls' := [some (.ref 0), some (iv x), some (.ref 239), some (iv v3), some (iv v4), some (iv (zI Z 3 v4.toNat)), none]) (by decide +kernel) (by decide) rfl rfl <| z_iload (pc' := 41) (j := 5) (by decide +kernel) rfl rfl <| z_iconst (pc' := 42) (n := 0) (by decide +kernel) rfl <| z_iload_n (pc' := 43) (j := 1) (by decide +kernel) rfl rfl <| z_aload_n (pc' := 44) (j := 2) (by decide +kernel) rfl rfl <| z_iload (pc' := 46) (j := 4) (by decide +kernel) rfl rfl <| z_iaload (pc' := 47) (by decide +kernel) hx.nt.a9 c14 rfl <| z_isub (pc' := 48) (by decide +kernel) rfl <| h.elim fun c15 h => z_max (pc' := 51) (idx := 265) (by decide +kernel) (amM5 142 rfl (by decide +kernel)) (amM3 108 rfl (by decide +kernel)) (amM1 21 rfl (by decide +kernel)) (amM3 109 rfl (by decide +kernel)) (by omega) (am_le rfl) (by decide : R32 0) c15 rfl <| h.elim fun c16 h => h.elim fun c17 h => z_min (pc' := 54) (idx := 535) (by decide +kernel) (amM7 139 rfl (by decide +kernel)) (amM3 35 rfl (by decide +kernel)) (amM1 21 rfl (by decide +kernel)) (amM3 36 rfl (by decide +kernel)) (by omega) (am_le rfl) c16 c17 rfl <| z_istore (pc' := 56) (j := 6) (ls' := [some (.ref 0), some (iv x), some (.ref 239), some (iv v3), some (iv v4), some (iv (zI Z 3 v4.toNat)), some (iv (min (zI Z 3 v4.toNat) (max 0 (x - (zI Z 239 v4.toNat)))))]) (by decide +kernel) (by decide) rfl rfl <| z_iload (pc' := 58) (j := 5) (by decide +kernel) rfl rfl <| h.elim fun g22 h => am_use (fun k23 => z_if_le (pc' := 61) (tgt := 83) (off := 25) (by decide +kernel) (by decide) rfl c16 (am_ite2 (fun q24 => (am_jp (P := fun z9 => ZP G 11 m_X11_worthBy 83 [some (.ref 0), some (iv x), some (.ref 239), some (iv z9), some (iv v4), some (iv (zI Z 3 v4.toNat)), some (iv (min (zI Z 3 v4.toNat) (max 0 (x - (zI Z 239 v4.toNat)))))] [] _ Q) (if_pos q24) k23)) (fun q24 => have h := g22 q24; z_iload_n (pc' := 62) (j := 3) (by decide +kernel) rfl rfl <| z_aload_n (pc' := 63) (j := 0) (by decide +kernel) rfl rfl <| z_getR (pc' := 66) (idx := 10) (ci := 11) (f := 0) (by decide +kernel) f_RX11_10 rfl hx.o.1 hx.o.2 hx.r0 rfl <| z_getR (pc' := 69) (idx := 155) (ci := 0) (f := 0) (by decide +kernel) f_RX11_155 rfl hx.bk.o.1 hx.bk.o.2 hx.bk.r0 rfl <| z_bipush (pc' := 71) (n := 6) (by decide +kernel) (by decide) rfl <| z_aaload120 (pc' := 72) (by decide +kernel) hx.bk.a0 ⟨by decide, by decide, by decide⟩ (hx.bk.e0 6 (by decide)) rfl <| z_iload (pc' := 74) (j := 4) (by decide +kernel) rfl rfl <| z_iaload (pc' := 75) (by decide +kernel) (hx.bk.x0 6 (by decide)) c14 rfl <| z_iload (pc' := 77) (j := 6) (by decide +kernel) rfl rfl <| z_imul (pc' := 78) (by decide +kernel) rfl <| z_iload (pc' := 80) (j := 5) (by decide +kernel) rfl rfl <| h.elim fun c18 h => h.elim fun c19 h => h.elim fun c20 h => z_idiv (pc' := 81) (by decide +kernel) c18 c16 c19 c20 rfl <| z_iadd (pc' := 82) (by decide +kernel) rfl <| z_istore_n (pc' := 83) (j := 3) (ls' := [some (.ref 0), some (iv x), some (.ref 239), some (iv (v3 + (((zI Z 9 v4.toNat) * (min (zI Z 3 v4.toNat) (max 0 (x - (zI Z 239 v4.toNat))))) / (zI Z 3 v4.toNat)))), some (iv v4), some (iv (zI Z 3 v4.toNat)), some (iv (min (zI Z 3 v4.toNat) (max 0 (x - (zI Z 239 v4.toNat)))))]) (by decide +kernel) (by decide) rfl rfl <| (am_jp (P := fun z9 => ZP G 11 m_X11_worthBy 83 [some (.ref 0), some (iv x), some (.ref 239), some (iv z9), some (iv v4), some (iv (zI Z 3 v4.toNat)), some (iv (min (zI Z 3 v4.toNat) (max 0 (x - (zI Z 239 v4.toNat)))))] [] _ Q) (if_neg q24) k23)))) <| z_iinc (pc' := 86) (j := 4) (n := 1) (x := v4) (ls' := [some (.ref 0), some (iv x), some (.ref 239), some (iv (if (zI Z 3 v4.toNat) ≤ 0 then v3 else v3 + (((zI Z 9 v4.toNat) * (min (zI Z 3 v4.toNat) (max 0 (x - (zI Z 239 v4.toNat))))) / (zI Z 3 v4.toNat)))), some (iv (v4 + 1)), some (iv (zI Z 3 v4.toNat)), some (iv (min (zI Z 3 v4.toNat) (max 0 (x - (zI Z 239 v4.toNat)))))]) (by decide +kernel) rfl (by decide) rfl rfl <| z_goto (tgt := 13) (off := -73) (by decide +kernel) (by decide) <| (ZP.wk (wk_some (wk_some (wk_some (wk_some (wk_some (wk_none (wk_none wk_nil))))))) h)))
set_option maxRecDepth 20000 in
theorem e_X11_earned {G : Gx} {Q : Rv → Zm → Prop} {Z : Zm}  (hx : atAll Z) (h : (ZM G 11 m_X11_worthDone [.ref 0] Z (zKc G 12 m_X11_earned 4 [none] [] Q))) : ZM G 12 m_X11_earned [.ref 0] Z Q := ZM.of [some (.ref 0)] rfl <| z_aload_n (pc' := 1) (j := 0) (by decide +kernel) rfl rfl <| z_callV (pc' := 4) (idx := 436) (mj := m_X11_worthDone) (av := []) (d' := 11) (by decide +kernel) rfl k_X11_worthDone l_RX11_436 rfl (by omega) (am_le rfl) rfl (am_le rfl) hx.o.1 hx.o.2 rfl (ZM.mono h (zKc_wk (wk_none wk_nil)))
set_option maxRecDepth 20000 in
theorem b_X11_earned_4 {G : Gx} {Q : Rv → Zm → Prop} {Z : Zm}  {s0 : Int} (hx : atAll Z) (h : (Q (.inl (some (iv s0))) Z)) : ZP G 12 m_X11_earned 4 [none] [iv s0] Z Q := z_ireturn (by decide +kernel) ⟨_, rfl, rfl⟩ h
set_option maxRecDepth 20000 in
theorem e_X11_worthDone {G : Gx} {Q : Rv → Zm → Prop} {Z : Zm}  (hx : atAll Z) (h : (ZP G 0 m_X11_worthDone 4 [some (.ref 0), some (iv 0), some (iv 0)] [] Z Q)) : ZM G 0 m_X11_worthDone [.ref 0] Z Q := ZM.of [some (.ref 0), none, none] rfl <| z_iconst (pc' := 1) (n := 0) (by decide +kernel) rfl <| z_istore_n (pc' := 2) (j := 1) (ls' := [some (.ref 0), some (iv 0), none]) (by decide +kernel) (by decide) rfl rfl <| z_iconst (pc' := 3) (n := 0) (by decide +kernel) rfl <| z_istore_n (pc' := 4) (j := 2) (ls' := [some (.ref 0), some (iv 0), some (iv 0)]) (by decide +kernel) (by decide) rfl rfl <| h
set_option maxRecDepth 20000 in
theorem b_X11_worthDone_4 {G : Gx} {Q : Rv → Zm → Prop} {Z : Zm}  {v1 : Int} {v2 : Int} (hx : atAll Z) (h : ((R32 v2) ∧ (R32 (zI Z 1 3)) ∧ (if (zI Z 1 3) ≤ v2 then (Q (.inl (some (iv v1))) Z) else ((zIx v2 20) ∧ (R32 ((zI Z 9 v2.toNat) * (zI Z 10 v2.toNat))) ∧ (0 ≤ ((zI Z 9 v2.toNat) * (zI Z 10 v2.toNat))) ∧ ZP G 0 m_X11_worthDone 4 [some (.ref 0), some (iv (v1 + (((zI Z 9 v2.toNat) * (zI Z 10 v2.toNat)) / 100))), some (iv (v2 + 1))] [] Z Q)))) : ZP G 0 m_X11_worthDone 4 [some (.ref 0), some (iv v1), some (iv v2)] [] Z Q := z_iload_n (pc' := 5) (j := 2) (by decide +kernel) rfl rfl <| z_aload_n (pc' := 6) (j := 0) (by decide +kernel) rfl rfl <| z_getR (pc' := 9) (idx := 10) (ci := 11) (f := 0) (by decide +kernel) f_RX11_10 rfl hx.o.1 hx.o.2 hx.r0 rfl <| z_getI (pc' := 12) (idx := 117) (ci := 0) (f := 3) (by decide +kernel) f_RX11_117 rfl hx.bk.o.1 hx.bk.o.2 rfl <| h.elim fun c1 h => h.elim fun c2 h => z_icmp_ge (pc' := 15) (tgt := 52) (off := 40) (by decide +kernel) (by decide) rfl c1 c2 (am_ite h (fun h => z_iload_n (pc' := 53) (j := 1) (by decide +kernel) rfl rfl <| z_ireturn (by decide +kernel) ⟨_, rfl, rfl⟩ h) (fun h => z_iload_n (pc' := 16) (j := 1) (by decide +kernel) rfl rfl <| z_aload_n (pc' := 17) (j := 0) (by decide +kernel) rfl rfl <| z_getR (pc' := 20) (idx := 10) (ci := 11) (f := 0) (by decide +kernel) f_RX11_10 rfl hx.o.1 hx.o.2 hx.r0 rfl <| z_getR (pc' := 23) (idx := 155) (ci := 0) (f := 0) (by decide +kernel) f_RX11_155 rfl hx.bk.o.1 hx.bk.o.2 hx.bk.r0 rfl <| z_bipush (pc' := 25) (n := 6) (by decide +kernel) (by decide) rfl <| z_aaload120 (pc' := 26) (by decide +kernel) hx.bk.a0 ⟨by decide, by decide, by decide⟩ (hx.bk.e0 6 (by decide)) rfl <| z_iload_n (pc' := 27) (j := 2) (by decide +kernel) rfl rfl <| h.elim fun c6 h => z_iaload (pc' := 28) (by decide +kernel) (hx.bk.x0 6 (by decide)) c6 rfl <| z_aload_n (pc' := 29) (j := 0) (by decide +kernel) rfl rfl <| z_getR (pc' := 32) (idx := 10) (ci := 11) (f := 0) (by decide +kernel) f_RX11_10 rfl hx.o.1 hx.o.2 hx.r0 rfl <| z_getR (pc' := 35) (idx := 155) (ci := 0) (f := 0) (by decide +kernel) f_RX11_155 rfl hx.bk.o.1 hx.bk.o.2 hx.bk.r0 rfl <| z_bipush (pc' := 37) (n := 7) (by decide +kernel) (by decide) rfl <| z_aaload120 (pc' := 38) (by decide +kernel) hx.bk.a0 ⟨by decide, by decide, by decide⟩ (hx.bk.e0 7 (by decide)) rfl <| z_iload_n (pc' := 39) (j := 2) (by decide +kernel) rfl rfl <| z_iaload (pc' := 40) (by decide +kernel) (hx.bk.x0 7 (by decide)) c6 rfl <| z_imul (pc' := 41) (by decide +kernel) rfl <| z_bipush (pc' := 43) (n := 100) (by decide +kernel) (by decide) rfl <| h.elim fun c7 h => h.elim fun c8 h => z_idiv (pc' := 44) (by decide +kernel) c7 (by decide : R32 100) c8 (by decide) rfl <| z_iadd (pc' := 45) (by decide +kernel) rfl <| z_istore_n (pc' := 46) (j := 1) (ls' := [some (.ref 0), some (iv (v1 + (((zI Z 9 v2.toNat) * (zI Z 10 v2.toNat)) / 100))), some (iv v2)]) (by decide +kernel) (by decide) rfl rfl <| z_iinc (pc' := 49) (j := 2) (n := 1) (x := v2) (ls' := [some (.ref 0), some (iv (v1 + (((zI Z 9 v2.toNat) * (zI Z 10 v2.toNat)) / 100))), some (iv (v2 + 1))]) (by decide +kernel) rfl (by decide) rfl rfl <| z_goto (tgt := 4) (off := -45) (by decide +kernel) (by decide) <| h))
set_option maxRecDepth 20000 in
theorem e_X11_index {G : Gx} {Q : Rv → Zm → Prop} {Z : Zm} {x : Int} (hx : atAll Z) (h : ((R32 x) ∧ (zSz Z < 1000000) ∧ (if 0 ≤ x then (ZM G 11 m_X11_worthBy [.ref 0, iv x] Z (zKc G 12 m_X11_index 10 [some (.ref 0), none, none] [] Q)) else Q (.inr "java/lang/IllegalArgumentException") (zC Z 13 0 6)))) : ZM G 12 m_X11_index [.ref 0, iv x] Z Q := ZM.of [some (.ref 0), some (iv x), none] rfl <| z_aload_n (pc' := 1) (j := 0) (by decide +kernel) rfl rfl <| z_iload_n (pc' := 2) (j := 1) (by decide +kernel) rfl rfl <| h.elim fun c1 h => h.elim fun c2 h => z_callV (pc' := 5) (idx := 430) (mj := m_X11_checkTime) (av := [iv x]) (d' := 8) (by decide +kernel) rfl k_X11_checkTime l_RX11_430 rfl (by omega) (am_le rfl) rfl (am_le rfl) hx.o.1 hx.o.2 rfl <| zKt (s_checkTime hx c1 c2) (am_ite h (fun h => z_aload_n (pc' := 6) (j := 0) (by decide +kernel) rfl rfl <| z_iload_n (pc' := 7) (j := 1) (by decide +kernel) rfl rfl <| z_callV (pc' := 10) (idx := 433) (mj := m_X11_worthBy) (av := [iv x]) (d' := 11) (by decide +kernel) rfl k_X11_worthBy l_RX11_433 rfl (by omega) (am_le rfl) rfl (am_le rfl) hx.o.1 hx.o.2 rfl (ZM.mono h (zKc_wk (wk_some (wk_none (wk_none wk_nil)))))) (fun h => h))
set_option maxRecDepth 20000 in
theorem b_X11_index_10 {G : Gx} {Q : Rv → Zm → Prop} {Z : Zm}  {s0 : Int} (hx : atAll Z) (h : ((R32 s0) ∧ (if s0 = 0 then ((zSz Z < 1000000) ∧ Q (.inr "java/lang/ArithmeticException") (zC Z 18 0 6)) else (ZM G 11 m_X11_worthDone [.ref 0] Z (zKc G 12 m_X11_index 30 [none, none, some (iv s0)] [] Q))))) : ZP G 12 m_X11_index 10 [some (.ref 0), none, none] [iv s0] Z Q := z_istore_n (pc' := 11) (j := 2) (ls' := [some (.ref 0), none, some (iv s0)]) (by decide +kernel) (by decide) rfl rfl <| z_iload_n (pc' := 12) (j := 2) (by decide +kernel) rfl rfl <| h.elim fun c1 h => z_if_ne (pc' := 15) (tgt := 26) (off := 14) (by decide +kernel) (by decide) rfl c1 (am_ite h (fun h => h.elim fun c2 h => z_throw (is := 441) (text := "nothing is planned by then") th_ArithmeticException (amT7 (i := 162) rfl) rfl (by decide +kernel) (by decide +kernel) (Or.inr ⟨(by decide +kernel), (by decide +kernel), (by decide +kernel)⟩) (by omega) (am_le rfl) c2 h) (fun h => z_aload_n (pc' := 27) (j := 0) (by decide +kernel) rfl rfl <| z_callV (pc' := 30) (idx := 436) (mj := m_X11_worthDone) (av := []) (d' := 11) (by decide +kernel) rfl k_X11_worthDone l_RX11_436 rfl (by omega) (am_le rfl) rfl (am_le rfl) hx.o.1 hx.o.2 rfl (ZM.mono h (zKc_wk (wk_none (wk_none (wk_some wk_nil)))))))
set_option maxRecDepth 20000 in
theorem b_X11_index_30 {G : Gx} {Q : Rv → Zm → Prop} {Z : Zm}  {v2 : Int} {s0 : Int} (hx : atAll Z) (h : ((vf_n32 (FP.fdiv (FP.i2f (iN s0)) (FP.i2f (iN v2)))) ∧ Q (.inl (some (.float (FP.fdiv (FP.i2f (iN s0)) (FP.i2f (iN v2)))))) Z)) : ZP G 12 m_X11_index 30 [none, none, some (iv v2)] [iv s0] Z Q := z_i2f (pc' := 31) (by decide +kernel) rfl <| z_iload_n (pc' := 32) (j := 2) (by decide +kernel) rfl rfl <| z_i2f (pc' := 33) (by decide +kernel) rfl <| h.elim fun c1 h => z_fdiv (pc' := 34) (by decide +kernel) c1 rfl <| z_freturn (by decide +kernel) rfl h
set_option maxRecDepth 20000 in
theorem e_X12_allOdds {G : Gx} {Q : Rv → Zm → Prop} {Z : Zm} {m : Nat} {B : Nat} (hm : atModel Z m B) (h : (ZM G 11 m_X12_guessed [.ref m] Z (zKc G 12 m_X12_allOdds 5 [some (.ref m), none, none, none] [.ref m] Q))) : ZM G 12 m_X12_allOdds [.ref m] Z Q := ZM.of [some (.ref m), none, none, none] rfl <| z_aload_n (pc' := 1) (j := 0) (by decide +kernel) rfl rfl <| z_aload_n (pc' := 2) (j := 0) (by decide +kernel) rfl rfl <| z_callV (pc' := 5) (idx := 344) (mj := m_X12_guessed) (av := []) (d' := 11) (by decide +kernel) rfl k_X12_guessed l_RX12_344 rfl (by omega) (am_le rfl) rfl (am_le rfl) hm.o.1 hm.o.2 rfl h
set_option maxRecDepth 20000 in
theorem b_X12_allOdds_5 {G : Gx} {Q : Rv → Zm → Prop} {Z : Zm} {m : Nat} {B : Nat} {s0 : Int} (hm : atModel Z m B) (h : ((R32 s0) ∧ ∀ Z6, Z6 = zSI Z m (zu (zI Z m) 19 (fC (b2 (¬ (s0 ≤ 6))) 0 0)) → (if 0 < fC (b2 (¬ (s0 ≤ 6))) 0 0 then (Q (.inl (some (jv 0))) Z6) else (ZP G 12 m_X12_allOdds 29 [some (.ref m), some (jv 1), none, some (iv 0)] [] Z6 Q)))) : ZP G 12 m_X12_allOdds 5 [some (.ref m), none, none, none] [iv s0, .ref m] Z Q := z_bipush (pc' := 7) (n := 6) (by decide +kernel) (by decide) rfl <| h.elim fun c1 h => am_use (fun k4 => z_icmp_le (pc' := 10) (tgt := 14) (off := 7) (by decide +kernel) (by decide) rfl c1 (by decide : R32 6) (am_ite2 (fun q5 => z_iconst (pc' := 15) (n := 0) (by decide +kernel) rfl <| (am_jp (P := fun z9 => ZP G 12 m_X12_allOdds 15 [some (.ref m), none, none, none] [iv z9, .ref m] _ Q) (b2_n q5) k4)) (fun q5 => z_iconst (pc' := 11) (n := 1) (by decide +kernel) rfl <| z_goto (tgt := 15) (off := 4) (by decide +kernel) (by decide) <| (am_jp (P := fun z9 => ZP G 12 m_X12_allOdds 15 [some (.ref m), none, none, none] [iv z9, .ref m] _ Q) (b2_nn q5) k4)))) <| z_iconst (pc' := 16) (n := 0) (by decide +kernel) rfl <| z_iconst (pc' := 17) (n := 0) (by decide +kernel) rfl <| z_callV (pc' := 20) (idx := 133) (mj := m_X12_fails) (av := [iv (b2 (¬ (s0 ≤ 6))), iv 0, iv 0]) (d' := 0) (by decide +kernel) rfl k_X12_fails l_RX12_133 rfl (by omega) (am_le rfl) rfl (am_le rfl) hm.o.1 hm.o.2 rfl <| zKf (s_fails hm (b2_01 _) (Or.inl rfl) (Or.inl rfl)) <| have h := h _ rfl; z_ifB_eq (pc' := 23) (tgt := 25) (off := 5) (by decide +kernel) (by decide) rfl (am_ite h (fun h => z_lconst (pc' := 24) (n := 0) (v := 0) (by decide +kernel) rfl rfl <| z_lreturn (by decide +kernel) rfl h) (fun h => z_lconst (pc' := 26) (n := 1) (v := 1) (by decide +kernel) rfl rfl <| z_lstore_n (pc' := 27) (j := 1) (ls' := [some (.ref m), some (jv 1), none, none]) (by decide +kernel) (by decide) rfl rfl <| z_iconst (pc' := 28) (n := 0) (by decide +kernel) rfl <| z_istore_n (pc' := 29) (j := 3) (ls' := [some (.ref m), some (jv 1), none, some (iv 0)]) (by decide +kernel) (by decide) rfl rfl <| h))
set_option maxRecDepth 20000 in
theorem b_X12_allOdds_29 {G : Gx} {Q : Rv → Zm → Prop} {Z : Zm} {m : Nat} {B : Nat} {v1 : Int} {v3 : Int} (hm : atModel Z m B) (h : (ZM G 11 m_X12_guessed [.ref m] Z (zKc G 12 m_X12_allOdds 34 [some (.ref m), some (jv v1), none, some (iv v3)] [iv v3] Q))) : ZP G 12 m_X12_allOdds 29 [some (.ref m), some (jv v1), none, some (iv v3)] [] Z Q := z_iload_n (pc' := 30) (j := 3) (by decide +kernel) rfl rfl <| z_aload_n (pc' := 31) (j := 0) (by decide +kernel) rfl rfl <| z_callV (pc' := 34) (idx := 344) (mj := m_X12_guessed) (av := []) (d' := 11) (by decide +kernel) rfl k_X12_guessed l_RX12_344 rfl (by omega) (am_le rfl) rfl (am_le rfl) hm.o.1 hm.o.2 rfl h
set_option maxRecDepth 20000 in
theorem b_X12_allOdds_34 {G : Gx} {Q : Rv → Zm → Prop} {Z : Zm} {m : Nat} {B : Nat} {v1 : Int} {v3 : Int} {s0 : Int} {s1 : Int} (hm : atModel Z m B) (h : ((R32 s1) ∧ (R32 s0) ∧ (if s0 ≤ s1 then (Q (.inl (some (jv v1))) Z) else (ZP G 12 m_X12_allOdds 29 [some (.ref m), some (jv (v1 * 6)), none, some (iv (v3 + 1))] [] Z Q)))) : ZP G 12 m_X12_allOdds 34 [some (.ref m), some (jv v1), none, some (iv v3)] [iv s0, iv s1] Z Q := h.elim fun c1 h => h.elim fun c2 h => z_icmp_ge (pc' := 37) (tgt := 49) (off := 15) (by decide +kernel) (by decide) rfl c1 c2 (am_ite h (fun h => z_lload_n (pc' := 50) (j := 1) (by decide +kernel) rfl rfl <| z_lreturn (by decide +kernel) rfl h) (fun h => z_lload_n (pc' := 38) (j := 1) (by decide +kernel) rfl rfl <| z_ldc2 (pc' := 41) (idx := 347) (w := 6) (v := 6) (by decide +kernel) (amM10 55 rfl (by decide +kernel)) (by decide) rfl <| z_lmul (pc' := 42) (by decide +kernel) rfl <| z_lstore_n (pc' := 43) (j := 1) (ls' := [some (.ref m), some (jv (v1 * 6)), none, some (iv v3)]) (by decide +kernel) (by decide) rfl rfl <| z_iinc (pc' := 46) (j := 3) (n := 1) (x := v3) (ls' := [some (.ref m), some (jv (v1 * 6)), none, some (iv (v3 + 1))]) (by decide +kernel) rfl (by decide) rfl rfl <| z_goto (tgt := 29) (off := -17) (by decide +kernel) (by decide) <| h))
set_option maxRecDepth 20000 in
theorem e_X12_plannedBy {G : Gx} {Q : Rv → Zm → Prop} {Z : Zm} {m : Nat} {B : Nat} {x : Int} (hm : atModel Z m B) (h : (ZM G 10 m_X12_lengths [.ref m] Z (zKc G 11 m_X12_plannedBy 5 [some (.ref m), some (iv x), none, none, none, none] [.ref m] Q))) : ZM G 11 m_X12_plannedBy [.ref m, iv x] Z Q := ZM.of [some (.ref m), some (iv x), none, none, none, none] rfl <| z_aload_n (pc' := 1) (j := 0) (by decide +kernel) rfl rfl <| z_aload_n (pc' := 2) (j := 0) (by decide +kernel) rfl rfl <| z_callV (pc' := 5) (idx := 123) (mj := m_X12_lengths) (av := []) (d' := 10) (by decide +kernel) rfl k_X12_lengths l_RX12_123 rfl (by omega) (am_le rfl) rfl (am_le rfl) hm.o.1 hm.o.2 rfl h
set_option maxRecDepth 20000 in
theorem b_X12_plannedBy_5 {G : Gx} {Q : Rv → Zm → Prop} {Z : Zm} {r5 : Nat} {m : Nat} {B : Nat} {x : Int}  (hm : atModel Z m B) (hr5 : zA Z r5 100 20) (h : (ZM G 10 m_X12_earliestBegins [.ref m, .ref r5] Z (zKc G 11 m_X12_plannedBy 8 [some (.ref m), some (iv x), none, none, none, none] [] Q))) : ZP G 11 m_X12_plannedBy 5 [some (.ref m), some (iv x), none, none, none, none] [.ref r5, .ref m] Z Q := z_callV (pc' := 8) (idx := 130) (mj := m_X12_earliestBegins) (av := [.ref r5]) (d' := 10) (by decide +kernel) rfl k_X12_earliestBegins l_RX12_130 rfl (by omega) (am_le rfl) rfl (am_le rfl) hm.o.1 hm.o.2 rfl h
set_option maxRecDepth 20000 in
theorem b_X12_plannedBy_8 {G : Gx} {Q : Rv → Zm → Prop} {Z : Zm} {r8 : Nat} {m : Nat} {B : Nat} {x : Int}  (hm : atModel Z m B) (hr8 : zA Z r8 100 20) (h : (ZP G 11 m_X12_plannedBy 14 [some (.ref m), some (iv x), some (.ref r8), some (iv 0), some (iv 0), none] [] Z Q)) : ZP G 11 m_X12_plannedBy 8 [some (.ref m), some (iv x), none, none, none, none] [.ref r8] Z Q := z_astore_n (pc' := 9) (j := 2) (ls' := [some (.ref m), some (iv x), some (.ref r8), none, none, none]) (by decide +kernel) (by decide) rfl rfl <| z_iconst (pc' := 10) (n := 0) (by decide +kernel) rfl <| z_istore_n (pc' := 11) (j := 3) (ls' := [some (.ref m), some (iv x), some (.ref r8), some (iv 0), none, none]) (by decide +kernel) (by decide) rfl rfl <| z_iconst (pc' := 12) (n := 0) (by decide +kernel) rfl <| z_istore (pc' := 14) (j := 4) (ls' := [some (.ref m), some (iv x), some (.ref r8), some (iv 0), some (iv 0), none]) (by decide +kernel) (by decide) rfl rfl <| h
set_option maxRecDepth 20000 in
theorem b_X12_plannedBy_14 {G : Gx} {Q : Rv → Zm → Prop} {Z : Zm} {r8 : Nat} {m : Nat} {B : Nat} {x : Int} {v3 : Int} {v4 : Int} (hm : atModel Z m B) (hr8 : zA Z r8 100 20) (h : ((R32 v4) ∧ (R32 (zI Z B 0)) ∧ (if (zI Z B 0) ≤ v4 then (Q (.inl (some (iv v3))) Z) else ((zIx v4 20) ∧ (R32 (mG Z B v4.toNat 0)) ∧ (R32 (x - (zI Z r8 v4.toNat))) ∧ (R32 (min (mG Z B v4.toNat 0) (x - (zI Z r8 v4.toNat)))) ∧ (R32 ((mG Z B v4.toNat 6) * (max 0 (min (mG Z B v4.toNat 0) (x - (zI Z r8 v4.toNat)))))) ∧ (0 ≤ ((mG Z B v4.toNat 6) * (max 0 (min (mG Z B v4.toNat 0) (x - (zI Z r8 v4.toNat)))))) ∧ (0 < (mG Z B v4.toNat 0)) ∧ ZP G 11 m_X12_plannedBy 14 [some (.ref m), some (iv x), some (.ref r8), some (iv (v3 + (((mG Z B v4.toNat 6) * (max 0 (min (mG Z B v4.toNat 0) (x - (zI Z r8 v4.toNat))))) / (mG Z B v4.toNat 0)))), some (iv (v4 + 1)), none] [] Z Q)))) : ZP G 11 m_X12_plannedBy 14 [some (.ref m), some (iv x), some (.ref r8), some (iv v3), some (iv v4), none] [] Z Q := z_iload (pc' := 16) (j := 4) (by decide +kernel) rfl rfl <| z_aload_n (pc' := 17) (j := 0) (by decide +kernel) rfl rfl <| z_callV (pc' := 20) (idx := 64) (mj := m_X12_many) (av := []) (d' := 0) (by decide +kernel) rfl k_X12_many l_RX12_64 rfl (by omega) (am_le rfl) rfl (am_le rfl) hm.o.1 hm.o.2 rfl <| zKf (s_many hm) <| h.elim fun c1 h => h.elim fun c2 h => z_icmp_ge (pc' := 23) (tgt := 73) (off := 53) (by decide +kernel) (by decide) rfl c1 c2 (am_ite h (fun h => z_iload_n (pc' := 74) (j := 3) (by decide +kernel) rfl rfl <| z_ireturn (by decide +kernel) ⟨_, rfl, rfl⟩ h) (fun h => z_iconst (pc' := 24) (n := 0) (by decide +kernel) rfl <| z_aload_n (pc' := 25) (j := 0) (by decide +kernel) rfl rfl <| z_iload (pc' := 27) (j := 4) (by decide +kernel) rfl rfl <| z_iconst (pc' := 28) (n := 0) (by decide +kernel) rfl <| h.elim fun c10 h => z_callV (pc' := 31) (idx := 83) (mj := m_X12_get) (av := [iv v4, iv 0]) (d' := 0) (by decide +kernel) rfl k_X12_get l_RX12_83 rfl (by omega) (am_le rfl) rfl (am_le rfl) hm.o.1 hm.o.2 rfl <| zKf (s_get hm c10 ⟨by decide, by decide, by decide⟩) <| z_iload_n (pc' := 32) (j := 1) (by decide +kernel) rfl rfl <| z_aload_n (pc' := 33) (j := 2) (by decide +kernel) rfl rfl <| z_iload (pc' := 35) (j := 4) (by decide +kernel) rfl rfl <| z_iaload (pc' := 36) (by decide +kernel) hr8 c10 rfl <| z_isub (pc' := 37) (by decide +kernel) rfl <| h.elim fun c11 h => h.elim fun c12 h => z_min (pc' := 40) (idx := 186) (by decide +kernel) (amM8 209 rfl (by decide +kernel)) (amM3 35 rfl (by decide +kernel)) (amM1 21 rfl (by decide +kernel)) (amM3 36 rfl (by decide +kernel)) (by omega) (am_le rfl) c11 c12 rfl <| h.elim fun c13 h => z_max (pc' := 43) (idx := 107) (by decide +kernel) (amM9 18 rfl (by decide +kernel)) (amM3 108 rfl (by decide +kernel)) (amM1 21 rfl (by decide +kernel)) (amM3 109 rfl (by decide +kernel)) (by omega) (am_le rfl) (by decide : R32 0) c13 rfl <| z_istore (pc' := 45) (j := 5) (ls' := [some (.ref m), some (iv x), some (.ref r8), some (iv v3), some (iv v4), some (iv (max 0 (min (mG Z B v4.toNat 0) (x - (zI Z r8 v4.toNat)))))]) (by decide +kernel) (by decide) rfl rfl <| z_iload_n (pc' := 46) (j := 3) (by decide +kernel) rfl rfl <| z_aload_n (pc' := 47) (j := 0) (by decide +kernel) rfl rfl <| z_iload (pc' := 49) (j := 4) (by decide +kernel) rfl rfl <| z_bipush (pc' := 51) (n := 6) (by decide +kernel) (by decide) rfl <| z_callV (pc' := 54) (idx := 83) (mj := m_X12_get) (av := [iv v4, iv 6]) (d' := 0) (by decide +kernel) rfl k_X12_get l_RX12_83 rfl (by omega) (am_le rfl) rfl (am_le rfl) hm.o.1 hm.o.2 rfl <| zKf (s_get hm c10 ⟨by decide, by decide, by decide⟩) <| z_iload (pc' := 56) (j := 5) (by decide +kernel) rfl rfl <| z_imul (pc' := 57) (by decide +kernel) rfl <| z_aload_n (pc' := 58) (j := 0) (by decide +kernel) rfl rfl <| z_iload (pc' := 60) (j := 4) (by decide +kernel) rfl rfl <| z_iconst (pc' := 61) (n := 0) (by decide +kernel) rfl <| z_callV (pc' := 64) (idx := 83) (mj := m_X12_get) (av := [iv v4, iv 0]) (d' := 0) (by decide +kernel) rfl k_X12_get l_RX12_83 rfl (by omega) (am_le rfl) rfl (am_le rfl) hm.o.1 hm.o.2 rfl <| zKf (s_get hm c10 ⟨by decide, by decide, by decide⟩) <| h.elim fun c14 h => h.elim fun c15 h => h.elim fun c16 h => z_idiv (pc' := 65) (by decide +kernel) c14 c11 c15 c16 rfl <| z_iadd (pc' := 66) (by decide +kernel) rfl <| z_istore_n (pc' := 67) (j := 3) (ls' := [some (.ref m), some (iv x), some (.ref r8), some (iv (v3 + (((mG Z B v4.toNat 6) * (max 0 (min (mG Z B v4.toNat 0) (x - (zI Z r8 v4.toNat))))) / (mG Z B v4.toNat 0)))), some (iv v4), some (iv (max 0 (min (mG Z B v4.toNat 0) (x - (zI Z r8 v4.toNat)))))]) (by decide +kernel) (by decide) rfl rfl <| z_iinc (pc' := 70) (j := 4) (n := 1) (x := v4) (ls' := [some (.ref m), some (iv x), some (.ref r8), some (iv (v3 + (((mG Z B v4.toNat 6) * (max 0 (min (mG Z B v4.toNat 0) (x - (zI Z r8 v4.toNat))))) / (mG Z B v4.toNat 0)))), some (iv (v4 + 1)), some (iv (max 0 (min (mG Z B v4.toNat 0) (x - (zI Z r8 v4.toNat)))))]) (by decide +kernel) rfl (by decide) rfl rfl <| z_goto (tgt := 14) (off := -56) (by decide +kernel) (by decide) <| (ZP.wk (wk_some (wk_some (wk_some (wk_some (wk_some (wk_none wk_nil)))))) h)))
set_option maxRecDepth 20000 in
theorem e_X12_earned {G : Gx} {Q : Rv → Zm → Prop} {Z : Zm} {m : Nat} {B : Nat} (hm : atModel Z m B) (h : (∀ Z1, Z1 = zSI Z m (zu (zI Z m) 19 0) → ZM G 11 m_X12_earnedNow [.ref m] Z1 (zKc G 12 m_X12_earned 9 [none] [] Q))) : ZM G 12 m_X12_earned [.ref m] Z Q := ZM.of [some (.ref m)] rfl <| z_aload_n (pc' := 1) (j := 0) (by decide +kernel) rfl rfl <| z_iconst (pc' := 2) (n := 0) (by decide +kernel) rfl <| z_putI (pc' := 5) (idx := 60) (ci := 12) (f := 19) (by decide +kernel) f_RX12_60 (am_nf rfl rfl) rfl rfl rfl hm.o.1 hm.o.2 rfl <| have h := h _ rfl; z_aload_n (pc' := 6) (j := 0) (by decide +kernel) rfl rfl <| z_callV (pc' := 9) (idx := 358) (mj := m_X12_earnedNow) (av := []) (d' := 11) (by decide +kernel) rfl k_X12_earnedNow l_RX12_358 rfl (by omega) (am_le rfl) rfl (am_le rfl) hm.o.1 hm.o.2 rfl (ZM.mono h (zKc_wk (wk_none wk_nil)))
set_option maxRecDepth 20000 in
theorem b_X12_earned_9 {G : Gx} {Q : Rv → Zm → Prop} {Z : Zm} {m : Nat} {B : Nat} {s0 : Int} (hm : atModel Z m B) (h : (Q (.inl (some (iv s0))) Z)) : ZP G 12 m_X12_earned 9 [none] [iv s0] Z Q := z_ireturn (by decide +kernel) ⟨_, rfl, rfl⟩ h
set_option maxRecDepth 20000 in
theorem e_X12_earnedNow {G : Gx} {Q : Rv → Zm → Prop} {Z : Zm} {m : Nat} {B : Nat} (hm : atModel Z m B) (h : (ZP G 1 m_X12_earnedNow 4 [some (.ref m), some (iv 0), some (iv 0)] [] Z Q)) : ZM G 1 m_X12_earnedNow [.ref m] Z Q := ZM.of [some (.ref m), none, none] rfl <| z_iconst (pc' := 1) (n := 0) (by decide +kernel) rfl <| z_istore_n (pc' := 2) (j := 1) (ls' := [some (.ref m), some (iv 0), none]) (by decide +kernel) (by decide) rfl rfl <| z_iconst (pc' := 3) (n := 0) (by decide +kernel) rfl <| z_istore_n (pc' := 4) (j := 2) (ls' := [some (.ref m), some (iv 0), some (iv 0)]) (by decide +kernel) (by decide) rfl rfl <| h
set_option maxRecDepth 20000 in
theorem b_X12_earnedNow_4 {G : Gx} {Q : Rv → Zm → Prop} {Z : Zm} {m : Nat} {B : Nat} {v1 : Int} {v2 : Int} (hm : atModel Z m B) (h : ((R32 v2) ∧ (R32 (zI Z B 0)) ∧ (if (zI Z B 0) ≤ v2 then (Q (.inl (some (iv v1))) Z) else ((zIx v2 20) ∧ (R32 ((mG Z B v2.toNat 6) * (mG Z B v2.toNat 7))) ∧ (0 ≤ ((mG Z B v2.toNat 6) * (mG Z B v2.toNat 7))) ∧ ZP G 1 m_X12_earnedNow 4 [some (.ref m), some (iv (v1 + (((mG Z B v2.toNat 6) * (mG Z B v2.toNat 7)) / 100))), some (iv (v2 + 1))] [] Z Q)))) : ZP G 1 m_X12_earnedNow 4 [some (.ref m), some (iv v1), some (iv v2)] [] Z Q := z_iload_n (pc' := 5) (j := 2) (by decide +kernel) rfl rfl <| z_aload_n (pc' := 6) (j := 0) (by decide +kernel) rfl rfl <| z_callV (pc' := 9) (idx := 64) (mj := m_X12_many) (av := []) (d' := 0) (by decide +kernel) rfl k_X12_many l_RX12_64 rfl (by omega) (am_le rfl) rfl (am_le rfl) hm.o.1 hm.o.2 rfl <| zKf (s_many hm) <| h.elim fun c1 h => h.elim fun c2 h => z_icmp_ge (pc' := 12) (tgt := 39) (off := 30) (by decide +kernel) (by decide) rfl c1 c2 (am_ite h (fun h => z_iload_n (pc' := 40) (j := 1) (by decide +kernel) rfl rfl <| z_ireturn (by decide +kernel) ⟨_, rfl, rfl⟩ h) (fun h => z_iload_n (pc' := 13) (j := 1) (by decide +kernel) rfl rfl <| z_aload_n (pc' := 14) (j := 0) (by decide +kernel) rfl rfl <| z_iload_n (pc' := 15) (j := 2) (by decide +kernel) rfl rfl <| z_bipush (pc' := 17) (n := 6) (by decide +kernel) (by decide) rfl <| h.elim fun c6 h => z_callV (pc' := 20) (idx := 83) (mj := m_X12_get) (av := [iv v2, iv 6]) (d' := 0) (by decide +kernel) rfl k_X12_get l_RX12_83 rfl (by omega) (am_le rfl) rfl (am_le rfl) hm.o.1 hm.o.2 rfl <| zKf (s_get hm c6 ⟨by decide, by decide, by decide⟩) <| z_aload_n (pc' := 21) (j := 0) (by decide +kernel) rfl rfl <| z_iload_n (pc' := 22) (j := 2) (by decide +kernel) rfl rfl <| z_bipush (pc' := 24) (n := 7) (by decide +kernel) (by decide) rfl <| z_callV (pc' := 27) (idx := 83) (mj := m_X12_get) (av := [iv v2, iv 7]) (d' := 0) (by decide +kernel) rfl k_X12_get l_RX12_83 rfl (by omega) (am_le rfl) rfl (am_le rfl) hm.o.1 hm.o.2 rfl <| zKf (s_get hm c6 ⟨by decide, by decide, by decide⟩) <| z_imul (pc' := 28) (by decide +kernel) rfl <| z_bipush (pc' := 30) (n := 100) (by decide +kernel) (by decide) rfl <| h.elim fun c7 h => h.elim fun c8 h => z_idiv (pc' := 31) (by decide +kernel) c7 (by decide : R32 100) c8 (by decide) rfl <| z_iadd (pc' := 32) (by decide +kernel) rfl <| z_istore_n (pc' := 33) (j := 1) (ls' := [some (.ref m), some (iv (v1 + (((mG Z B v2.toNat 6) * (mG Z B v2.toNat 7)) / 100))), some (iv v2)]) (by decide +kernel) (by decide) rfl rfl <| z_iinc (pc' := 36) (j := 2) (n := 1) (x := v2) (ls' := [some (.ref m), some (iv (v1 + (((mG Z B v2.toNat 6) * (mG Z B v2.toNat 7)) / 100))), some (iv (v2 + 1))]) (by decide +kernel) rfl (by decide) rfl rfl <| z_goto (tgt := 4) (off := -32) (by decide +kernel) (by decide) <| h))
set_option maxRecDepth 20000 in
theorem e_X12_index {G : Gx} {Q : Rv → Zm → Prop} {Z : Zm} {m : Nat} {B : Nat} {x : Int} (hm : atModel Z m B) (h : ((R32 x) ∧ (if 0 ≤ x then (ZM G 11 m_X12_plannedBy [.ref m, iv x] Z (zKc G 12 m_X12_index 13 [some (.ref m), some (iv x), none] [] Q)) else (ZP G 12 m_X12_index 13 [some (.ref m), some (iv x), none] [iv 0] Z Q)))) : ZM G 12 m_X12_index [.ref m, iv x] Z Q := ZM.of [some (.ref m), some (iv x), none] rfl <| z_iload_n (pc' := 1) (j := 1) (by decide +kernel) rfl rfl <| h.elim fun c1 h => z_if_ge (pc' := 4) (tgt := 8) (off := 7) (by decide +kernel) (by decide) rfl c1 (am_ite h (fun h => z_aload_n (pc' := 9) (j := 0) (by decide +kernel) rfl rfl <| z_iload_n (pc' := 10) (j := 1) (by decide +kernel) rfl rfl <| z_callV (pc' := 13) (idx := 355) (mj := m_X12_plannedBy) (av := [iv x]) (d' := 11) (by decide +kernel) rfl k_X12_plannedBy l_RX12_355 rfl (by omega) (am_le rfl) rfl (am_le rfl) hm.o.1 hm.o.2 rfl h) (fun h => z_iconst (pc' := 5) (n := 0) (by decide +kernel) rfl <| z_goto (tgt := 13) (off := 8) (by decide +kernel) (by decide) <| h))
set_option maxRecDepth 20000 in
theorem b_X12_index_13 {G : Gx} {Q : Rv → Zm → Prop} {Z : Zm} {m : Nat} {B : Nat} {x : Int} {s0 : Int} (hm : atModel Z m B) (h : ((R32 x) ∧ (R32 s0) ∧ ∀ Z11, Z11 = zSI Z m (zu (zI Z m) 19 (fC (b2 (¬ (0 ≤ x))) (b2 (s0 = 0)) 0)) → (if 0 < fC (b2 (¬ (0 ≤ x))) (b2 (s0 = 0)) 0 then (Q (.inl (some (.float 0))) Z11) else (ZM G 11 m_X12_earnedNow [.ref m] Z11 (zKc G 12 m_X12_index 48 [none, none, some (iv s0)] [] Q))))) : ZP G 12 m_X12_index 13 [some (.ref m), some (iv x), none] [iv s0] Z Q := z_istore_n (pc' := 14) (j := 2) (ls' := [some (.ref m), some (iv x), some (iv s0)]) (by decide +kernel) (by decide) rfl rfl <| z_aload_n (pc' := 15) (j := 0) (by decide +kernel) rfl rfl <| z_iload_n (pc' := 16) (j := 1) (by decide +kernel) rfl rfl <| h.elim fun c1 h => am_use (fun k4 => z_if_ge (pc' := 19) (tgt := 23) (off := 7) (by decide +kernel) (by decide) rfl c1 (am_ite2 (fun q5 => z_iconst (pc' := 24) (n := 0) (by decide +kernel) rfl <| (am_jp (P := fun z9 => ZP G 12 m_X12_index 24 [some (.ref m), some (iv x), some (iv s0)] [iv z9, .ref m] _ Q) (b2_n q5) k4)) (fun q5 => z_iconst (pc' := 20) (n := 1) (by decide +kernel) rfl <| z_goto (tgt := 24) (off := 4) (by decide +kernel) (by decide) <| (am_jp (P := fun z9 => ZP G 12 m_X12_index 24 [some (.ref m), some (iv x), some (iv s0)] [iv z9, .ref m] _ Q) (b2_nn q5) k4)))) <| z_iload_n (pc' := 25) (j := 2) (by decide +kernel) rfl rfl <| h.elim fun c6 h => am_use (fun k9 => z_if_ne (pc' := 28) (tgt := 32) (off := 7) (by decide +kernel) (by decide) rfl c6 (am_ite2 (fun q10 => z_iconst (pc' := 29) (n := 1) (by decide +kernel) rfl <| z_goto (tgt := 33) (off := 4) (by decide +kernel) (by decide) <| (am_jp (P := fun z9 => ZP G 12 m_X12_index 33 [some (.ref m), some (iv x), some (iv s0)] [iv z9, iv (b2 (¬ (0 ≤ x))), .ref m] _ Q) (b2_p q10) k9)) (fun q10 => z_iconst (pc' := 33) (n := 0) (by decide +kernel) rfl <| (am_jp (P := fun z9 => ZP G 12 m_X12_index 33 [some (.ref m), some (iv x), some (iv s0)] [iv z9, iv (b2 (¬ (0 ≤ x))), .ref m] _ Q) (b2_f q10) k9)))) <| z_iconst (pc' := 34) (n := 0) (by decide +kernel) rfl <| z_callV (pc' := 37) (idx := 133) (mj := m_X12_fails) (av := [iv (b2 (¬ (0 ≤ x))), iv (b2 (s0 = 0)), iv 0]) (d' := 0) (by decide +kernel) rfl k_X12_fails l_RX12_133 rfl (by omega) (am_le rfl) rfl (am_le rfl) hm.o.1 hm.o.2 rfl <| zKf (s_fails hm (b2_01 _) (b2_01 _) (Or.inl rfl)) <| have h := h _ rfl; z_ifB_eq (pc' := 40) (tgt := 44) (off := 7) (by decide +kernel) (by decide) rfl (am_ite h (fun h => z_fconst0 (pc' := 41) (by decide +kernel) rfl <| z_goto (tgt := 52) (off := 11) (by decide +kernel) (by decide) <| z_freturn (by decide +kernel) rfl h) (fun h => z_aload_n (pc' := 45) (j := 0) (by decide +kernel) rfl rfl <| z_callV (pc' := 48) (idx := 358) (mj := m_X12_earnedNow) (av := []) (d' := 11) (by decide +kernel) rfl k_X12_earnedNow l_RX12_358 rfl (by omega) (am_le rfl) rfl (am_le rfl) hm.o.1 hm.o.2 rfl (ZM.mono h (zKc_wk (wk_none (wk_none (wk_some wk_nil)))))))
set_option maxRecDepth 20000 in
theorem b_X12_index_48 {G : Gx} {Q : Rv → Zm → Prop} {Z : Zm} {m : Nat} {B : Nat} {v2 : Int} {s0 : Int} (hm : atModel Z m B) (h : ((vf_n32 (FP.fdiv (FP.i2f (iN s0)) (FP.i2f (iN v2)))) ∧ Q (.inl (some (.float (FP.fdiv (FP.i2f (iN s0)) (FP.i2f (iN v2)))))) Z)) : ZP G 12 m_X12_index 48 [none, none, some (iv v2)] [iv s0] Z Q := z_i2f (pc' := 49) (by decide +kernel) rfl <| z_iload_n (pc' := 50) (j := 2) (by decide +kernel) rfl rfl <| z_i2f (pc' := 51) (by decide +kernel) rfl <| h.elim fun c1 h => z_fdiv (pc' := 52) (by decide +kernel) c1 rfl <| z_freturn (by decide +kernel) rfl h
set_option maxRecDepth 20000 in
theorem e_X12_planned_ {G : Gx} {Q : Rv → Zm → Prop} {Z : Zm} {m : Nat} {B : Nat} {x : Int} (hm : atModel Z m B) (h : ((R32 x) ∧ ∀ Z6, Z6 = zSI Z m (zu (zI Z m) 19 (fC (b2 (¬ (0 ≤ x))) 0 0)) → (if 0 < fC (b2 (¬ (0 ≤ x))) 0 0 then (Q (.inl (some (iv 0))) Z6) else (ZM G 11 m_X12_plannedBy [.ref m, iv x] Z6 (zKc G 12 m_X12_planned_ 27 [none, none] [] Q))))) : ZM G 12 m_X12_planned_ [.ref m, iv x] Z Q := ZM.of [some (.ref m), some (iv x)] rfl <| z_aload_n (pc' := 1) (j := 0) (by decide +kernel) rfl rfl <| z_iload_n (pc' := 2) (j := 1) (by decide +kernel) rfl rfl <| h.elim fun c1 h => am_use (fun k4 => z_if_ge (pc' := 5) (tgt := 9) (off := 7) (by decide +kernel) (by decide) rfl c1 (am_ite2 (fun q5 => z_iconst (pc' := 10) (n := 0) (by decide +kernel) rfl <| (am_jp (P := fun z9 => ZP G 12 m_X12_planned_ 10 [some (.ref m), some (iv x)] [iv z9, .ref m] _ Q) (b2_n q5) k4)) (fun q5 => z_iconst (pc' := 6) (n := 1) (by decide +kernel) rfl <| z_goto (tgt := 10) (off := 4) (by decide +kernel) (by decide) <| (am_jp (P := fun z9 => ZP G 12 m_X12_planned_ 10 [some (.ref m), some (iv x)] [iv z9, .ref m] _ Q) (b2_nn q5) k4)))) <| z_iconst (pc' := 11) (n := 0) (by decide +kernel) rfl <| z_iconst (pc' := 12) (n := 0) (by decide +kernel) rfl <| z_callV (pc' := 15) (idx := 133) (mj := m_X12_fails) (av := [iv (b2 (¬ (0 ≤ x))), iv 0, iv 0]) (d' := 0) (by decide +kernel) rfl k_X12_fails l_RX12_133 rfl (by omega) (am_le rfl) rfl (am_le rfl) hm.o.1 hm.o.2 rfl <| zKf (s_fails hm (b2_01 _) (Or.inl rfl) (Or.inl rfl)) <| have h := h _ rfl; z_ifB_eq (pc' := 18) (tgt := 22) (off := 7) (by decide +kernel) (by decide) rfl (am_ite h (fun h => z_iconst (pc' := 19) (n := 0) (by decide +kernel) rfl <| z_goto (tgt := 27) (off := 8) (by decide +kernel) (by decide) <| z_ireturn (by decide +kernel) ⟨_, rfl, rfl⟩ h) (fun h => z_aload_n (pc' := 23) (j := 0) (by decide +kernel) rfl rfl <| z_iload_n (pc' := 24) (j := 1) (by decide +kernel) rfl rfl <| z_callV (pc' := 27) (idx := 355) (mj := m_X12_plannedBy) (av := [iv x]) (d' := 11) (by decide +kernel) rfl k_X12_plannedBy l_RX12_355 rfl (by omega) (am_le rfl) rfl (am_le rfl) hm.o.1 hm.o.2 rfl (ZM.mono h (zKc_wk (wk_none (wk_none wk_nil))))))
set_option maxRecDepth 20000 in
theorem b_X12_planned__27 {G : Gx} {Q : Rv → Zm → Prop} {Z : Zm} {m : Nat} {B : Nat} {s0 : Int} (hm : atModel Z m B) (h : (Q (.inl (some (iv s0))) Z)) : ZP G 12 m_X12_planned_ 27 [none, none] [iv s0] Z Q := z_ireturn (by decide +kernel) ⟨_, rfl, rfl⟩ h
/-! ===== worth and odds ===== -/
theorem mul_b {a b A B : Int} (ha : 0 ≤ a ∧ a ≤ A) (hb : 0 ≤ b ∧ b ≤ B) : 0 ≤ a * b ∧ a * b ≤ A * B := ⟨Int.mul_nonneg ha.1 hb.1, Int.mul_le_mul ha.2 hb.2 hb.1 (Int.le_trans ha.1 ha.2)⟩
def p6 : Nat → Int
  | 0 => 1
  | n + 1 => p6 n * 6
theorem gsN_r {k : Bk} (ho : kOk k) : 0 ≤ gsN k ∧ gsN k ≤ 20 := by
  have := zsum_bound (f := fun t => b2 (0 < kF k 10 t)) (n := kN k) (a := 0) (b := 1) fun i _ => by
    rcases b2_01 (0 < kF k 10 i) with q | q <;> omega
  have := ho.n
  unfold gsN
  omega
noncomputable def o_allOdds (σ : St) : Ou := cIf (gsN (sK σ) ≤ 6) (0, p6 (gsN (sK σ)).toNat, σ) (1, 0, σ)
theorem c_allOdds {G : Gx} {Z : Zm} {σ : St} (h : IC Z σ) (ho : okS σ) (hz : zSz Z < 1000000) : ZM G 12 m_X11_allOdds [.ref 0] Z (rC Z (E3 eU "" "") jv (o_allOdds σ)) := by
  have gr := gsN_r ho.1
  refine e_X11_allOdds h.1 (((s_checkGuesses h ho.1 hz).deeper (by omega)).mono fun r W q => ?_)
  unfold o_allOdds
  by_cases c : zsum (fun t => b2 (0 < kF (sK σ) 10 t)) (kN (sK σ)) ≤ 6
  · rw [if_pos c] at q
    obtain ⟨rfl, rfl⟩ := q
    rw [cIf_p (show gsN (sK σ) ≤ 6 from c)]
    refine b_X11_allOdds_4 h.1 (((s_countGuessed h.1.bk h.2.1 ho.1).deeper (by omega)).mono ?_)
    rintro r V ⟨rfl, hV⟩
    obtain rfl := hV.symm
    refine b_X11_allOdds_13 h.1 ?_
    show ZP G 12 m_X11_allOdds 17 [none, some (jv 1), none, some (iv (gsN (sK σ))), some (iv 0)] [] _ _
    generalize gsN (sK σ) = g at *
    suffices key : ∀ j, j ≤ g.toNat → ZP G 12 m_X11_allOdds 17 [none, some (jv (p6 j)), none, some (iv g), some (iv (j : Int))] [] W (rC W (E3 eU "" "") jv (0, p6 g.toNat, σ)) from key 0 (Nat.zero_le _)
    refine am_up (n := g.toNat) fun j hj ih => ?_
    refine b_X11_allOdds_17 h.1 ⟨by omega, by omega, ?_⟩
    by_cases d : j < g.toNat
    · rw [if_neg (by omega)]
      exact ih d
    · rw [if_pos (by omega)]
      exact rC.st h (by rw [show j = g.toNat by omega])
  · rw [if_neg c] at q
    obtain ⟨rfl, rfl⟩ := q
    rw [cIf_f (show ¬ gsN (sK σ) ≤ 6 from c)]
    exact rC.no h (by decide) rfl
theorem d_allOdds {G : Gx} {Z : Zm} {B : Nat} {σ : St} (h : IMb Z B σ) (ho : okS σ) : ZM G 12 m_X12_allOdds [.ref 300] Z (rM Z jv (o_allOdds σ)) := by
  have gr := gsN_r ho.1
  refine e_X12_allOdds h.1 (((s_guessed h.1 h.2.2.1 ho.1).deeper (by omega)).mono ?_)
  rintro r W ⟨rfl, hW⟩
  obtain rfl := hW.symm
  refine b_X12_allOdds_5 h.1 ⟨by omega, ?_⟩
  rintro _ rfl
  unfold o_allOdds
  by_cases c : gsN (sK σ) ≤ 6
  case neg =>
    rw [cIf_f c, fC_1 (P := ¬ (gsN (sK σ) ≤ 6)) c, if_pos (by decide)]
    exact rM.no h (by decide) rfl
  rw [cIf_p c, fC_o1 (P := ¬ (gsN (sK σ) ≤ 6)) (fun q => q c), if_neg (by decide)]
  have ht := h.t 0
  suffices key : ∀ j, j ≤ (gsN (sK σ)).toNat → ZP G 12 m_X12_allOdds 29 [some (.ref 300), some (jv (p6 j)), none, some (iv (j : Int))] [] (zT Z 0) (rM Z jv (0, p6 (gsN (sK σ)).toNat, σ)) from key 0 (Nat.zero_le _)
  refine am_up (n := (gsN (sK σ)).toNat) fun j hj ih => ?_
  refine b_X12_allOdds_29 ht.1 (((s_guessed ht.1 ht.2.2.1 ho.1).deeper (by omega)).mono ?_)
  rintro r W ⟨rfl, hW⟩
  obtain rfl := hW.symm
  refine b_X12_allOdds_34 ht.1 ⟨by omega, by omega, ?_⟩
  by_cases d : j < (gsN (sK σ)).toNat
  · rw [if_neg (by omega)]
    exact ih d
  · rw [if_pos (by omega)]
    exact rM.st h rfl (by rw [show j = (gsN (sK σ)).toNat by omega])
/-! ===== worth ===== -/
def wBt (k : Bk) (e : Nat → Int) (x : Int) (t : Nat) : Int := kF k 6 t * min (kF k 0 t) (max 0 (x - e t)) / kF k 0 t
noncomputable def wBy (k : Bk) (x : Int) : Int := zsum (wBt k (eE k) x) (kN k)
def wDt (k : Bk) (t : Nat) : Int := kF k 6 t * kF k 7 t / 100
def wDn (k : Bk) : Int := zsum (wDt k) (kN k)
theorem kOk.w {k : Bk} (ho : kOk k) {t : Nat} (ht : t < kN k) : (0 ≤ kF k 6 t ∧ kF k 6 t ≤ 9999) ∧ (0 ≤ kF k 7 t ∧ kF k 7 t ≤ 100) := ⟨(ho.2.1 t ht).2.2.2.2.2.2.1, (ho.2.1 t ht).2.2.2.2.2.2.2.1⟩
theorem wBt_r {k : Bk} (ho : kOk k) (e : Nat → Int) (x : Int) {t : Nat} (ht : t < kN k) : (0 ≤ kF k 6 t * min (kF k 0 t) (max 0 (x - e t)) ∧ kF k 6 t * min (kF k 0 t) (max 0 (x - e t)) ≤ 599940) ∧ 0 ≤ wBt k e x t ∧ wBt k e x t ≤ 599940 := by
  have l := ho.len ht
  have w := (ho.w ht).1
  have m := mul_b (a := kF k 6 t) (b := min (kF k 0 t) (max 0 (x - e t))) (A := 9999) (B := 60) w (by omega)
  refine ⟨by omega, ?_⟩
  unfold wBt
  generalize kF k 6 t * min (kF k 0 t) (max 0 (x - e t)) = p at *
  exact ⟨Int.ediv_nonneg m.1 (by omega), Int.le_trans (Int.ediv_le_self _ m.1) (by omega)⟩
theorem wDt_r {k : Bk} (ho : kOk k) {t : Nat} (ht : t < kN k) : (0 ≤ kF k 6 t * kF k 7 t ∧ kF k 6 t * kF k 7 t ≤ 999900) ∧ 0 ≤ wDt k t ∧ wDt k t ≤ 9999 := by
  have w := ho.w ht
  have m := mul_b w.1 w.2
  unfold wDt
  generalize kF k 6 t * kF k 7 t = p at *
  omega
theorem wBy_r {k : Bk} (ho : kOk k) (x : Int) : 0 ≤ wBy k x ∧ wBy k x ≤ 11998800 := by
  have := zsum_bound (f := wBt k (eE k) x) (n := kN k) (a := 0) (b := 599940) fun i hi => (wBt_r ho (eE k) x hi).2
  have := ho.n
  unfold wBy
  omega
theorem wDn_r {k : Bk} (ho : kOk k) : 0 ≤ wDn k ∧ wDn k ≤ 199980 := by
  have := zsum_bound (f := wDt k) (n := kN k) (a := 0) (b := 9999) fun i hi => (wDt_r ho hi).2
  have := ho.n
  unfold wDn
  omega
theorem s_worthBy {G : Gx} {Z : Zm} {σ : St} {x : Int} (h : IC Z σ) (ho : okS σ) (hx : 0 ≤ x ∧ x < 2147483648) : ZM G 11 m_X11_worthBy [.ref 0, iv x] Z (fun r W => r = .inl (some (iv (wBy (sK σ) x))) ∧ IC W σ ∧ zF cF 0 0 Z W) := by
  have hN := ho.1.n
  refine e_X11_worthBy h.1 (((s_freshNet h ho.1).deeper (by omega)).mono ?_)
  rintro r W ⟨rfl, f, hc⟩
  obtain ⟨h1, f1⟩ := h.nt f hc
  obtain ⟨e6, -, -, eo⟩ := hc.e ho.1
  refine b_X11_worthBy_4 h1.1 ?_
  suffices key : ∀ j, j ≤ kN (sK σ) → ZP G 11 m_X11_worthBy 13 [some (.ref 0), some (iv x), some (.ref 239), some (iv (zsum (wBt (sK σ) (eE (sK σ)) x) j)), some (iv (j : Int)), none, none] [] W (fun r W => r = .inl (some (iv (wBy (sK σ) x))) ∧ IC W σ ∧ zF cF 0 0 Z W) from key 0 (Nat.zero_le _)
  refine am_up (n := kN (sK σ)) fun j hj ih => ?_
  refine b_X11_worthBy_13 h1.1 ⟨by omega, by rw [h1.2.1.1]; omega, ?_⟩
  rw [h1.2.1.1]
  by_cases c : j < kN (sK σ)
  · have l := ho.1.len c
    have ee := eo.e ho.1 c
    have wr := wBt_r ho.1 (eE (sK σ)) x c
    have q6 : zI W 9 j = kF (sK σ) 6 j := h1.2.1.2.2.1 6 j (by omega) c
    rw [if_neg (by omega), Int.toNat_natCast, show zI W 239 j = eE (sK σ) j from e6 j c, h1.2.1.len j c, q6]
    refine ⟨zIx_nat (by omega) (by omega), by omega, by omega, by omega, fun _ => ⟨by omega, by omega, by omega, trivial⟩, ?_⟩
    rw [if_neg (by omega)]
    exact ih c
  · rw [if_pos (by omega), show j = kN (sK σ) by omega]
    exact ⟨rfl, h1, f1⟩
theorem s_worthDone {G : Gx} {Z : Zm} {σ : St} (h : IC Z σ) (ho : okS σ) : ZM G 0 m_X11_worthDone [.ref 0] Z (fun r W => r = .inl (some (iv (wDn (sK σ)))) ∧ W = Z) := by
  have hN := ho.1.n
  refine e_X11_worthDone h.1 ?_
  suffices key : ∀ j, j ≤ kN (sK σ) → ZP G 0 m_X11_worthDone 4 [some (.ref 0), some (iv (zsum (wDt (sK σ)) j)), some (iv (j : Int))] [] Z (fun r W => r = .inl (some (iv (wDn (sK σ)))) ∧ W = Z) from key 0 (Nat.zero_le _)
  refine am_up (n := kN (sK σ)) fun j hj ih => ?_
  refine b_X11_worthDone_4 h.1 ⟨by omega, by rw [h.2.1.1]; omega, ?_⟩
  rw [h.2.1.1]
  by_cases c : j < kN (sK σ)
  · have wr := wDt_r ho.1 c
    have q6 : zI Z 9 j = kF (sK σ) 6 j := h.2.1.2.2.1 6 j (by omega) c
    have q7 : zI Z 10 j = kF (sK σ) 7 j := h.2.1.2.2.1 7 j (by omega) c
    rw [if_neg (by omega), Int.toNat_natCast, q6, q7]
    exact ⟨zIx_nat (by omega) (by omega), by omega, by omega, ih c⟩
  · rw [if_pos (by omega), show j = kN (sK σ) by omega]
    exact ⟨rfl, rfl⟩
theorem s_plannedBy {G : Gx} {Z : Zm} {B : Nat} {σ : St} {x : Int} (h : IMb Z B σ) (ho : okS σ) (hz : 322 ≤ zSz Z ∧ zSz Z < 990000) (hx : 0 ≤ x ∧ x < 2147483648) : ZM G 11 m_X12_plannedBy [.ref 300, iv x] Z (fun r W => r = .inl (some (iv (wBy (sK σ) x))) ∧ zF mS 2 40 Z W ∧ IMb W B σ) := by
  have hN := ho.1.n
  refine e_X12_plannedBy h.1 (((m_len h ho.T ⟨hz.1, by omega⟩).deeper (by omega)).mono ?_)
  rintro r W ⟨rfl, f1, h1, u1⟩
  refine b_X12_plannedBy_5 h1.1 u1.1 (((m_E h1 ho.T (mHz.f hz f1 (by omega)) u1).deeper (by omega)).mono ?_)
  rintro r V ⟨rfl, f2, h2, u2⟩
  generalize zSz W = u at *
  refine b_X12_plannedBy_8 h2.1 u2.1 ?_
  have h0 := h2.2.2.1.1
  suffices key : ∀ j, j ≤ kN (sK σ) → ZP G 11 m_X12_plannedBy 14 [some (.ref 300), some (iv x), some (.ref u), some (iv (zsum (wBt (sK σ) (eE (sK σ)) x) j)), some (iv (j : Int)), none] [] V (fun r W => r = .inl (some (iv (wBy (sK σ) x))) ∧ zF mS 2 40 Z W ∧ IMb W B σ) from key 0 (Nat.zero_le _)
  refine am_up (n := kN (sK σ)) fun j hj ih => ?_
  refine b_X12_plannedBy_14 h2.1 u2.1 ⟨by omega, by rw [h0]; omega, ?_⟩
  rw [h0]
  by_cases c : j < kN (sK σ)
  · have l := ho.1.len c
    have ee := (eOk_all ho.1).e ho.1 c
    have wr := wBt_r ho.1 (eE (sK σ)) x c
    have em : max 0 (min (kF (sK σ) 0 j) (x - eE (sK σ) j)) = min (kF (sK σ) 0 j) (max 0 (x - eE (sK σ) j)) := by omega
    rw [if_neg (by omega), Int.toNat_natCast, h2.2.2.1.k c (r := 0) (by omega), h2.2.2.1.k c (r := 6) (by omega), u2.2.2 j c, em]
    exact ⟨zIx_nat (by omega) (by omega), by omega, by omega, by omega, by omega, by omega, by omega, ih c⟩
  · rw [if_pos (by omega), show j = kN (sK σ) by omega]
    exact ⟨rfl, f1.trans f2, h2⟩
theorem s_earnedNow {G : Gx} {Z : Zm} {B : Nat} {σ : St} (h : IMb Z B σ) (ho : okS σ) : ZM G 1 m_X12_earnedNow [.ref 300] Z (fun r W => r = .inl (some (iv (wDn (sK σ)))) ∧ W = Z) := by
  have hN := ho.1.n
  have h0 := h.2.2.1.1
  refine e_X12_earnedNow h.1 ?_
  suffices key : ∀ j, j ≤ kN (sK σ) → ZP G 1 m_X12_earnedNow 4 [some (.ref 300), some (iv (zsum (wDt (sK σ)) j)), some (iv (j : Int))] [] Z (fun r W => r = .inl (some (iv (wDn (sK σ)))) ∧ W = Z) from key 0 (Nat.zero_le _)
  refine am_up (n := kN (sK σ)) fun j hj ih => ?_
  refine b_X12_earnedNow_4 h.1 ⟨by omega, by rw [h0]; omega, ?_⟩
  rw [h0]
  by_cases c : j < kN (sK σ)
  · have wr := wDt_r ho.1 c
    rw [if_neg (by omega), Int.toNat_natCast, h.2.2.1.k c (r := 6) (by omega), h.2.2.1.k c (r := 7) (by omega)]
    exact ⟨zIx_nat (by omega) (by omega), by omega, by omega, ih c⟩
  · rw [if_pos (by omega), show j = kN (sK σ) by omega]
    exact ⟨rfl, rfl⟩
noncomputable def o_planned (σ : St) (x : Int) : Ou := cIf (0 ≤ x) (0, wBy (sK σ) x, σ) (1, 0, σ)
def o_earned (σ : St) : Ou := (0, wDn (sK σ), σ)
noncomputable def o_index (σ : St) (x : Int) : Ou := cIf (0 ≤ x) (cIf (wBy (sK σ) x = 0) (2, 0, σ) (0, 0, σ)) (1, 0, σ)
noncomputable def vIx (σ : St) (x : Int) : UInt32 := FP.fdiv (FP.i2f (iN (wDn (sK σ)))) (FP.i2f (iN (wBy (sK σ) x)))
theorem c_planned {G : Gx} {Z : Zm} {σ : St} {x : Int} (h : IC Z σ) (ho : okS σ) (hz : zSz Z < 1000000) (hx : R32 x) : ZM G 12 m_X11_planned [.ref 0, iv x] Z (rC Z (E3 eA "" "") iv (o_planned σ x)) := by
  refine e_X11_planned h.1 ⟨hx, hz, ?_⟩
  unfold o_planned
  by_cases c : 0 ≤ x
  · rw [if_pos c, cIf_p c]
    refine (s_worthBy h ho ⟨c, hx.2⟩).mono ?_
    rintro r W ⟨rfl, h1, f⟩
    exact b_X11_planned_10 h1.1 (rC.ok h1 f.c1 rfl)
  · rw [if_neg c, cIf_f c]
    exact rC.no h (by decide) rfl
theorem c_earned {G : Gx} {Z : Zm} {σ : St} (h : IC Z σ) (ho : okS σ) : ZM G 12 m_X11_earned [.ref 0] Z (rC Z (E3 "" "" "") iv (o_earned σ)) := by
  refine e_X11_earned h.1 (((s_worthDone h ho).deeper (by omega)).mono ?_)
  rintro r W ⟨rfl, hW⟩
  obtain rfl := hW.symm
  exact b_X11_earned_4 h.1 (rC.st h rfl)
def vF (a : UInt32) : Int → Value := fun v => .float (if v = 0 then a else 0)
def vD (a : UInt64) : Int → Value := fun v => .double (if v = 0 then a else 0)
theorem c_index {G : Gx} {Z : Zm} {σ : St} {x : Int} (h : IC Z σ) (ho : okS σ) (hz : zSz Z < 999999) (hx : R32 x) : ZM G 12 m_X11_index [.ref 0, iv x] Z (rC Z (E3 eA eR' "") (vF (vIx σ x)) (o_index σ x)) := by
  refine e_X11_index h.1 ⟨hx, by omega, ?_⟩
  unfold o_index
  by_cases c : 0 ≤ x
  case neg =>
    rw [if_neg c, cIf_f c]
    exact rC.no h (by decide) rfl
  rw [if_pos c, cIf_p c]
  refine (s_worthBy h ho ⟨c, hx.2⟩).mono ?_
  rintro r W ⟨rfl, h1, f⟩
  have wr := wBy_r ho.1 x
  have dr := wDn_r ho.1
  refine b_X11_index_10 h1.1 ⟨by omega, ?_⟩
  by_cases d : wBy (sK σ) x = 0
  · rw [if_pos d, cIf_p d]
    exact ⟨by have := f.2.1.1; omega, rC.nx h1 f (by decide) rfl⟩
  · rw [if_neg d, cIf_f d]
    refine ((s_worthDone h1 ho).deeper (by omega)).mono ?_
    rintro r V ⟨rfl, hV⟩
    obtain rfl := hV.symm
    refine b_X11_index_30 h1.1 ⟨fb32_div dr.1 (by omega) (by omega) (by omega), ?_⟩
    exact rC.ok (f := vF (vIx σ x)) (v' := 0) h1 f.c1 rfl
theorem d_earned {G : Gx} {Z : Zm} {B : Nat} {σ : St} (h : IMb Z B σ) (ho : okS σ) : ZM G 12 m_X12_earned [.ref 300] Z (rM Z iv (o_earned σ)) := by
  refine e_X12_earned h.1 ?_
  rintro _ rfl
  refine ((s_earnedNow (h.t 0) ho).deeper (by omega)).mono ?_
  rintro r W ⟨rfl, hW⟩
  obtain rfl := hW.symm
  exact b_X12_earned_9 (h.t 0).1 (rM.st h rfl rfl)
theorem d_planned {G : Gx} {Z : Zm} {B : Nat} {σ : St} {x : Int} (h : IMb Z B σ) (ho : okS σ) (hz : 322 ≤ zSz Z ∧ zSz Z < 990000) (hx : R32 x) : ZM G 12 m_X12_planned_ [.ref 300, iv x] Z (rM Z iv (o_planned σ x)) := by
  refine e_X12_planned_ h.1 ⟨hx, ?_⟩
  rintro _ rfl
  unfold o_planned
  by_cases c : 0 ≤ x
  case neg =>
    rw [cIf_f c, fC_1 (P := ¬ (0 ≤ x)) c, if_pos (by decide)]
    exact rM.no h (by decide) rfl
  rw [cIf_p c, fC_o1 (P := ¬ (0 ≤ x)) (fun q => q c), if_neg (by decide)]
  refine (s_plannedBy (h.t 0) ho hz ⟨c, hx.2⟩).mono ?_
  rintro r W ⟨rfl, f, h1⟩
  obtain ⟨v, e⟩ := mS_t f hz.1
  exact b_X12_planned__27 h1.1 (rM.ok h1 e v (by omega) (by omega) rfl)
theorem d_index {G : Gx} {Z : Zm} {B : Nat} {σ : St} {x : Int} (h : IMb Z B σ) (ho : okS σ) (hz : 322 ≤ zSz Z ∧ zSz Z < 990000) (hx : R32 x) : ZM G 12 m_X12_index [.ref 300, iv x] Z (rM Z (vF (vIx σ x)) (o_index σ x)) := by
  have wr := wBy_r ho.1 x
  have dr := wDn_r ho.1
  refine e_X12_index h.1 ⟨hx, ?_⟩
  unfold o_index
  by_cases c : 0 ≤ x
  case neg =>
    rw [if_neg c, cIf_f c]
    refine b_X12_index_13 h.1 ⟨hx, by decide, ?_⟩
    rintro _ rfl
    rw [fC_1 (P := ¬ (0 ≤ x)) c, if_pos (by decide)]
    exact rM.no (f := vF (vIx σ x)) (w := 1) h (by decide) rfl
  rw [if_pos c, cIf_p c]
  refine (s_plannedBy h ho hz ⟨c, hx.2⟩).mono ?_
  rintro r W ⟨rfl, f, h1⟩
  have hw : 322 ≤ zSz W := Nat.le_trans hz.1 f.sz
  refine b_X12_index_13 h1.1 ⟨hx, by omega, ?_⟩
  rintro _ rfl
  have V := (mS_v f hz.1).trans (zV_t (Z := W) (c := 0))
  by_cases d : wBy (sK σ) x = 0
  · have V2 := (mS_v f hz.1).trans (zV_t (Z := W) (c := 2))
    rw [cIf_p d, fC_2 (P := ¬ (0 ≤ x)) (Q := wBy (sK σ) x = 0) (fun q => q c) d, if_pos (by decide)]
    exact ⟨⟨1, rfl, fun g => absurd (show (2 : Nat) = 0 from g) (by decide)⟩, zI_t W 2, ⟨B, h1.t 2⟩, V2.mono (by omega) (by omega)⟩
  · rw [cIf_f d, fC_o2 (P := ¬ (0 ≤ x)) (Q := wBy (sK σ) x = 0) (fun q => q c) d, if_neg (by decide)]
    refine ((s_earnedNow (h1.t 0) ho).deeper (by omega)).mono ?_
    rintro r U ⟨rfl, hU⟩
    obtain rfl := hU.symm
    refine b_X12_index_48 (h1.t 0).1 ⟨fb32_div dr.1 (by omega) (by omega) (by omega), ?_⟩
    exact rM.ok (f := vF (vIx σ x)) (w := 0) (h1.t 0) (zI_t W 0) V (by omega) (by omega) rfl
