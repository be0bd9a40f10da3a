set_option maxRecDepth 20000 in
theorem e_X12_odds {G : Gx} {Q : Rv → Zm → Prop} {Z : Zm} {m : Nat} {B : Nat} {x : Int} {t : Int} (hm : atModel Z m B) (h : ((zSz Z < 1000000) ∧ ∀ Z2, Z2 = zC Z 100 20 20 → (zSz Z2 < 1000000) ∧ ∀ Z4, Z4 = zC Z2 100 20 20 → ZP G 6 m_X12_odds 14 [some (.ref m), some (iv x), some (iv t), some (.ref (zSz Z)), some (.ref (zSz Z2)), some (iv 0), none, none, none, none, none, none, none] [] Z4 Q)) : ZM G 6 m_X12_odds [.ref m, iv x, iv t] Z Q := ZM.of [some (.ref m), some (iv x), some (iv t), none, none, none, none, none, none, none, none, none, none] rfl <| z_bipush (pc' := 2) (n := 20) (by decide +kernel) (by decide) rfl <| h.elim fun c1 h => z_new100 (pc' := 4) (by decide +kernel) (amM1 88 rfl (by decide +kernel)) (by decide) (by decide) c1 rfl <| have h := h _ rfl; z_astore_n (pc' := 5) (j := 3) (ls' := [some (.ref m), some (iv x), some (iv t), some (.ref (zSz Z)), none, none, none, none, none, none, none, none, none]) (by decide +kernel) (by decide) rfl rfl <| z_bipush (pc' := 7) (n := 20) (by decide +kernel) (by decide) rfl <| h.elim fun c3 h => z_new100 (pc' := 9) (by decide +kernel) (amM1 88 rfl (by decide +kernel)) (by decide) (by decide) c3 rfl <| have h := h _ rfl; z_astore (pc' := 11) (j := 4) (ls' := [some (.ref m), some (iv x), some (iv t), some (.ref (zSz Z)), some (.ref (zSz (zC Z 100 20 20))), none, none, none, none, none, none, none, none]) (by decide +kernel) (by decide) rfl rfl <| z_iconst (pc' := 12) (n := 0) (by decide +kernel) rfl <| z_istore (pc' := 14) (j := 5) (ls' := [some (.ref m), some (iv x), some (iv t), some (.ref (zSz Z)), some (.ref (zSz (zC Z 100 20 20))), some (iv 0), none, none, none, none, none, none, none]) (by decide +kernel) (by decide) rfl rfl <| h
set_option maxRecDepth 20000 in
theorem b_X12_odds_14 {G : Gx} {Q : Rv → Zm → Prop} {Z : Zm} {a2 : Nat} {a7 : Nat} {m : Nat} {B : Nat} {x : Int} {t : Int} {v5 : Int} (hm : atModel Z m B) (ha2 : zA Z a2 100 20) (ha7 : zA Z a7 100 20) (h : ((R32 v5) ∧ (R32 (zI Z B 0)) ∧ (if (zI Z B 0) ≤ v5 then ((zSz Z < 1000000) ∧ ∀ Z5, Z5 = zC Z 100 20 20 → ZP G 6 m_X12_odds 56 [some (.ref m), some (iv x), some (iv t), some (.ref a2), some (.ref a7), some (.ref (zSz Z)), some (jv 0), none, some (iv 1), none, none, none, none] [] Z5 Q) else ((zIx v5 20) ∧ ∀ Z7, Z7 = zSI Z a7 (zu (zI Z a7) v5.toNat (2 * (mG Z B v5.toNat 10))) → ZP G 6 m_X12_odds 14 [some (.ref m), some (iv x), some (iv t), some (.ref a2), some (.ref a7), some (iv (v5 + 1)), none, none, none, none, none, none, none] [] Z7 Q)))) : ZP G 6 m_X12_odds 14 [some (.ref m), some (iv x), some (iv t), some (.ref a2), some (.ref a7), some (iv v5), none, none, none, none, none, none, none] [] Z Q := z_iload (pc' := 16) (j := 5) (by decide +kernel) rfl rfl <| z_aload_n (pc' := 17) (j := 0) (by decide +kernel) rfl rfl <| z_callV (pc' := 20) (idx := 64) (mj := m_X12_many) (av := []) (d' := 0) (by decide +kernel) rfl k_X12_many l_RX12_64 rfl (by omega) (am_le rfl) rfl (am_le rfl) hm.o.1 hm.o.2 rfl <| zKf (s_many hm) <| h.elim fun c1 h => h.elim fun c2 h => z_icmp_ge (pc' := 23) (tgt := 44) (off := 24) (by decide +kernel) (by decide) rfl c1 c2 (am_ite h (fun h => z_bipush (pc' := 46) (n := 20) (by decide +kernel) (by decide) rfl <| h.elim fun c4 h => z_new100 (pc' := 48) (by decide +kernel) (amM1 88 rfl (by decide +kernel)) (by decide) (by decide) c4 rfl <| have h := h _ rfl; z_astore (pc' := 50) (j := 5) (ls' := [some (.ref m), some (iv x), some (iv t), some (.ref a2), some (.ref a7), some (.ref (zSz Z)), none, none, none, none, none, none, none]) (by decide +kernel) (by decide) rfl rfl <| z_lconst (pc' := 51) (n := 0) (v := 0) (by decide +kernel) rfl rfl <| z_lstore (pc' := 53) (j := 6) (ls' := [some (.ref m), some (iv x), some (iv t), some (.ref a2), some (.ref a7), some (.ref (zSz Z)), some (jv 0), none, none, none, none, none, none]) (by decide +kernel) (by decide) rfl rfl <| z_iconst (pc' := 54) (n := 1) (by decide +kernel) rfl <| z_istore (pc' := 56) (j := 8) (ls' := [some (.ref m), some (iv x), some (iv t), some (.ref a2), some (.ref a7), some (.ref (zSz Z)), some (jv 0), none, some (iv 1), none, none, none, none]) (by decide +kernel) (by decide) rfl rfl <| h) (fun h => z_aload (pc' := 25) (j := 4) (by decide +kernel) rfl rfl <| z_iload (pc' := 27) (j := 5) (by decide +kernel) rfl rfl <| z_iconst (pc' := 28) (n := 2) (by decide +kernel) rfl <| z_aload_n (pc' := 29) (j := 0) (by decide +kernel) rfl rfl <| z_iload (pc' := 31) (j := 5) (by decide +kernel) rfl rfl <| z_bipush (pc' := 33) (n := 10) (by decide +kernel) (by decide) rfl <| h.elim fun c6 h => z_callV (pc' := 36) (idx := 83) (mj := m_X12_get) (av := [iv v5, iv 10]) (d' := 0) (by decide +kernel) rfl k_X12_get l_RX12_83 rfl (by omega) (am_le rfl) rfl (am_le rfl) hm.o.1 hm.o.2 rfl <| zKf (s_get hm c6 ⟨by decide, by decide, by decide⟩) <| z_imul (pc' := 37) (by decide +kernel) rfl <| z_iastore (pc' := 38) (by decide +kernel) ha7 c6 rfl <| have h := h _ rfl; z_iinc (pc' := 41) (j := 5) (n := 1) (x := v5) (ls' := [some (.ref m), some (iv x), some (iv t), some (.ref a2), some (.ref a7), some (iv (v5 + 1)), none, none, none, none, none, none, none]) (by decide +kernel) rfl (by decide) rfl rfl <| z_goto (tgt := 14) (off := -27) (by decide +kernel) (by decide) <| h))
set_option maxRecDepth 20000 in
theorem b_X12_odds_56 {G : Gx} {Q : Rv → Zm → Prop} {Z : Zm} {a2 : Nat} {a7 : Nat} {a46 : Nat} {m : Nat} {B : Nat} {x : Int} {t : Int} {v6 : Int} {v8 : Int} (hm : atModel Z m B) (ha2 : zA Z a2 100 20) (ha7 : zA Z a7 100 20) (ha46 : zA Z a46 100 20) (h : ((R32 v8) ∧ (if v8 = 0 then (Q (.inl (some (jv v6))) Z) else (ZM G 5 m_X12_lengthsInto [.ref m, .ref (m + 17)] Z (zKc G 6 m_X12_odds 69 [some (.ref m), some (iv x), some (iv t), some (.ref a2), some (.ref a7), some (.ref a46), some (jv v6), none, none, none, none, none, none] [] Q))))) : ZP G 6 m_X12_odds 56 [some (.ref m), some (iv x), some (iv t), some (.ref a2), some (.ref a7), some (.ref a46), some (jv v6), none, some (iv v8), none, none, none, none] [] Z Q := z_iload (pc' := 58) (j := 8) (by decide +kernel) rfl rfl <| h.elim fun c1 h => z_if_eq (pc' := 61) (tgt := 261) (off := 203) (by decide +kernel) (by decide) rfl c1 (am_ite h (fun h => z_lload (pc' := 263) (j := 6) (by decide +kernel) rfl rfl <| z_lreturn (by decide +kernel) rfl h) (fun h => z_aload_n (pc' := 62) (j := 0) (by decide +kernel) rfl rfl <| z_aload_n (pc' := 63) (j := 0) (by decide +kernel) rfl rfl <| z_getR (pc' := 66) (idx := 51) (ci := 12) (f := 20) (by decide +kernel) f_RX12_51 rfl hm.o.1 hm.o.2 hm.r20 rfl <| z_callV (pc' := 69) (idx := 87) (mj := m_X12_lengthsInto) (av := [.ref (m + 17)]) (d' := 5) (by decide +kernel) rfl k_X12_lengthsInto l_RX12_87 rfl (by omega) (am_le rfl) rfl (am_le rfl) hm.o.1 hm.o.2 rfl (ZM.mono h (zKc_wk (wk_some (wk_some (wk_some (wk_some (wk_some (wk_some (wk_some (wk_none (wk_none (wk_none (wk_none (wk_none (wk_none wk_nil)))))))))))))))))
set_option maxRecDepth 20000 in
theorem b_X12_odds_69 {G : Gx} {Q : Rv → Zm → Prop} {Z : Zm} {a2 : Nat} {a7 : Nat} {a46 : Nat} {r69 : Nat} {m : Nat} {B : Nat} {x : Int} {t : Int} {v6 : Int} (hm : atModel Z m B) (ha2 : zA Z a2 100 20) (ha7 : zA Z a7 100 20) (ha46 : zA Z a46 100 20) (hr69 : zA Z r69 100 20) (h : (ZP G 6 m_X12_odds 77 [some (.ref m), some (iv x), some (iv t), some (.ref a2), some (.ref a7), some (.ref a46), some (jv v6), none, none, some (.ref r69), some (jv 1), none, some (iv 0)] [] Z Q)) : ZP G 6 m_X12_odds 69 [some (.ref m), some (iv x), some (iv t), some (.ref a2), some (.ref a7), some (.ref a46), some (jv v6), none, none, none, none, none, none] [.ref r69] Z Q := z_astore (pc' := 71) (j := 9) (ls' := [some (.ref m), some (iv x), some (iv t), some (.ref a2), some (.ref a7), some (.ref a46), some (jv v6), none, none, some (.ref r69), none, none, none]) (by decide +kernel) (by decide) rfl rfl <| z_lconst (pc' := 72) (n := 1) (v := 1) (by decide +kernel) rfl rfl <| z_lstore (pc' := 74) (j := 10) (ls' := [some (.ref m), some (iv x), some (iv t), some (.ref a2), some (.ref a7), some (.ref a46), some (jv v6), none, none, some (.ref r69), some (jv 1), none, none]) (by decide +kernel) (by decide) rfl rfl <| z_iconst (pc' := 75) (n := 0) (by decide +kernel) rfl <| z_istore (pc' := 77) (j := 12) (ls' := [some (.ref m), some (iv x), some (iv t), some (.ref a2), some (.ref a7), some (.ref a46), some (jv v6), none, none, some (.ref r69), some (jv 1), none, some (iv 0)]) (by decide +kernel) (by decide) rfl rfl <| h
set_option maxRecDepth 20000 in
theorem b_X12_odds_77 {G : Gx} {Q : Rv → Zm → Prop} {Z : Zm} {a2 : Nat} {a7 : Nat} {a46 : Nat} {r69 : Nat} {m : Nat} {B : Nat} {x : Int} {t : Int} {v6 : Int} {v10 : Int} {v12 : Int} (hm : atModel Z m B) (ha2 : zA Z a2 100 20) (ha7 : zA Z a7 100 20) (ha46 : zA Z a46 100 20) (hr69 : zA Z r69 100 20) (h : ((R32 v12) ∧ (R32 (zI Z B 0)) ∧ (if (zI Z B 0) ≤ v12 then ((R32 t) ∧ (if t = (-1) then (ZM G 5 m_X12_endOf [.ref m, .ref r69] Z (zKc G 6 m_X12_odds 185 [some (.ref m), some (iv x), some (iv t), some (.ref a2), some (.ref a7), some (.ref a46), some (jv v6), none, none, none, some (jv v10), none, none] [] Q)) else (ZM G 5 m_X12_latestInto [.ref m, .ref (m + 19), .ref r69] Z (zKc G 6 m_X12_odds 207 [some (.ref m), some (iv x), some (iv t), some (.ref a2), some (.ref a7), some (.ref a46), some (jv v6), none, none, some (.ref r69), some (jv v10), none, none] [] Q)))) else ((zIx v12 20) ∧ (R32 (mG Z B v12.toNat 10)) ∧ (if (mG Z B v12.toNat 10) = 1 then ((R32 (zI Z a46 v12.toNat)) ∧ (if (zI Z a46 v12.toNat) = 1 then (∀ Z19, Z19 = zSI Z r69 (zu (zI Z r69) v12.toNat (if (zI Z a46 v12.toNat) = 0 then mG Z B v12.toNat 11 else (if (zI Z a46 v12.toNat) = 1 then zI Z r69 v12.toNat else mG Z B v12.toNat 12))) → ZP G 6 m_X12_odds 77 [some (.ref m), some (iv x), some (iv t), some (.ref a2), some (.ref a7), some (.ref a46), some (jv v6), none, none, some (.ref r69), some (jv (v10 * 4)), none, some (iv (v12 + 1))] [] Z19 Q) else (∀ Z28, Z28 = zSI Z r69 (zu (zI Z r69) v12.toNat (if (zI Z a46 v12.toNat) = 0 then mG Z B v12.toNat 11 else (if (zI Z a46 v12.toNat) = 1 then zI Z r69 v12.toNat else mG Z B v12.toNat 12))) → ZP G 6 m_X12_odds 77 [some (.ref m), some (iv x), some (iv t), some (.ref a2), some (.ref a7), some (.ref a46), some (jv v6), none, none, some (.ref r69), some (jv (v10 * 1)), none, some (iv (v12 + 1))] [] Z28 Q))) else (ZP G 6 m_X12_odds 77 [some (.ref m), some (iv x), some (iv t), some (.ref a2), some (.ref a7), some (.ref a46), some (jv v6), none, none, some (.ref r69), some (jv v10), none, some (iv (v12 + 1))] [] Z Q)))))) : ZP G 6 m_X12_odds 77 [some (.ref m), some (iv x), some (iv t), some (.ref a2), some (.ref a7), some (.ref a46), some (jv v6), none, none, some (.ref r69), some (jv v10), none, some (iv v12)] [] Z Q := z_iload (pc' := 79) (j := 12) (by decide +kernel) rfl rfl <| z_aload_n (pc' := 80) (j := 0) (by decide +kernel) rfl rfl <| z_callV (pc' := 83) (idx := 64) (mj := m_X12_many) (av := []) (d' := 0) (by decide +kernel) rfl k_X12_many l_RX12_64 rfl (by omega) (am_le rfl) rfl (am_le rfl) hm.o.1 hm.o.2 rfl <| zKf (s_many hm) <| h.elim fun c1 h => h.elim fun c2 h => z_icmp_ge (pc' := 86) (tgt := 174) (off := 91) (by decide +kernel) (by decide) rfl c1 c2 (am_ite h (fun h => z_iload_n (pc' := 175) (j := 2) (by decide +kernel) rfl rfl <| z_iconst (pc' := 176) (n := -1) (by decide +kernel) rfl <| h.elim fun c6 h => z_icmp_ne (pc' := 179) (tgt := 197) (off := 21) (by decide +kernel) (by decide) rfl c6 (by decide : R32 (-1)) (am_ite h (fun h => z_aload_n (pc' := 180) (j := 0) (by decide +kernel) rfl rfl <| z_aload (pc' := 182) (j := 9) (by decide +kernel) rfl rfl <| z_callV (pc' := 185) (idx := 119) (mj := m_X12_endOf) (av := [.ref r69]) (d' := 5) (by decide +kernel) rfl k_X12_endOf l_RX12_119 rfl (by omega) (am_le rfl) rfl (am_le rfl) hm.o.1 hm.o.2 rfl (ZM.mono h (zKc_wk (wk_some (wk_some (wk_some (wk_some (wk_some (wk_some (wk_some (wk_none (wk_none (wk_none (wk_some (wk_none (wk_none wk_nil)))))))))))))))) (fun h => z_aload_n (pc' := 198) (j := 0) (by decide +kernel) rfl rfl <| z_aload_n (pc' := 199) (j := 0) (by decide +kernel) rfl rfl <| z_getR (pc' := 202) (idx := 57) (ci := 12) (f := 22) (by decide +kernel) f_RX12_57 rfl hm.o.1 hm.o.2 hm.r22 rfl <| z_aload (pc' := 204) (j := 9) (by decide +kernel) rfl rfl <| z_callV (pc' := 207) (idx := 116) (mj := m_X12_latestInto) (av := [.ref (m + 19), .ref r69]) (d' := 5) (by decide +kernel) rfl k_X12_latestInto l_RX12_116 rfl (by omega) (am_le rfl) rfl (am_le rfl) hm.o.1 hm.o.2 rfl (ZM.mono h (zKc_wk (wk_some (wk_some (wk_some (wk_some (wk_some (wk_some (wk_some (wk_none (wk_none (wk_some (wk_some (wk_none (wk_none wk_nil)))))))))))))))))) (fun h => z_aload_n (pc' := 87) (j := 0) (by decide +kernel) rfl rfl <| z_iload (pc' := 89) (j := 12) (by decide +kernel) rfl rfl <| z_bipush (pc' := 91) (n := 10) (by decide +kernel) (by decide) rfl <| h.elim fun c7 h => z_callV (pc' := 94) (idx := 83) (mj := m_X12_get) (av := [iv v12, iv 10]) (d' := 0) (by decide +kernel) rfl k_X12_get l_RX12_83 rfl (by omega) (am_le rfl) rfl (am_le rfl) hm.o.1 hm.o.2 rfl <| zKf (s_get hm c7 ⟨by decide, by decide, by decide⟩) <| z_iconst (pc' := 95) (n := 1) (by decide +kernel) rfl <| h.elim fun c8 h => z_icmp_ne (pc' := 98) (tgt := 168) (off := 73) (by decide +kernel) (by decide) rfl c8 (by decide : R32 1) (am_ite h (fun h => z_lload (pc' := 100) (j := 10) (by decide +kernel) rfl rfl <| z_aload (pc' := 102) (j := 5) (by decide +kernel) rfl rfl <| z_iload (pc' := 104) (j := 12) (by decide +kernel) rfl rfl <| z_iaload (pc' := 105) (by decide +kernel) ha46 c7 rfl <| z_iconst (pc' := 106) (n := 1) (by decide +kernel) rfl <| h.elim fun c10 h => z_icmp_ne (pc' := 109) (tgt := 115) (off := 9) (by decide +kernel) (by decide) rfl c10 (by decide : R32 1) (am_ite h (fun h => z_ldc2 (pc' := 112) (idx := 349) (w := 4) (v := 4) (by decide +kernel) (amM10 64 rfl (by decide +kernel)) (by decide) rfl <| z_goto (tgt := 116) (off := 4) (by decide +kernel) (by decide) <| z_lmul (pc' := 117) (by decide +kernel) rfl <| z_lstore (pc' := 119) (j := 10) (ls' := [some (.ref m), some (iv x), some (iv t), some (.ref a2), some (.ref a7), some (.ref a46), some (jv v6), none, none, some (.ref r69), some (jv (v10 * 4)), none, some (iv v12)]) (by decide +kernel) (by decide) rfl rfl <| z_aload (pc' := 121) (j := 9) (by decide +kernel) rfl rfl <| z_iload (pc' := 123) (j := 12) (by decide +kernel) rfl rfl <| z_aload (pc' := 125) (j := 5) (by decide +kernel) rfl rfl <| z_iload (pc' := 127) (j := 12) (by decide +kernel) rfl rfl <| z_iaload (pc' := 128) (by decide +kernel) ha46 c7 rfl <| am_use (fun k17 => z_if_ne (pc' := 131) (tgt := 142) (off := 14) (by decide +kernel) (by decide) rfl c10 (am_ite2 (fun q18 => z_aload_n (pc' := 132) (j := 0) (by decide +kernel) rfl rfl <| z_iload (pc' := 134) (j := 12) (by decide +kernel) rfl rfl <| z_bipush (pc' := 136) (n := 11) (by decide +kernel) (by decide) rfl <| z_callV (pc' := 139) (idx := 83) (mj := m_X12_get) (av := [iv v12, iv 11]) (d' := 0) (by decide +kernel) rfl k_X12_get l_RX12_83 rfl (by omega) (am_le rfl) rfl (am_le rfl) hm.o.1 hm.o.2 rfl <| zKf (s_get hm c7 ⟨by decide, by decide, by decide⟩) <| z_goto (tgt := 167) (off := 28) (by decide +kernel) (by decide) <| (am_jp (P := fun z9 => ZP G 6 m_X12_odds 167 [some (.ref m), some (iv x), some (iv t), some (.ref a2), some (.ref a7), some (.ref a46), some (jv v6), none, none, some (.ref r69), some (jv (v10 * 4)), none, some (iv v12)] [iv z9, iv v12, .ref r69] _ Q) (if_pos q18) k17)) (fun q18 => z_aload (pc' := 144) (j := 5) (by decide +kernel) rfl rfl <| z_iload (pc' := 146) (j := 12) (by decide +kernel) rfl rfl <| z_iaload (pc' := 147) (by decide +kernel) ha46 c7 rfl <| z_iconst (pc' := 148) (n := 1) (by decide +kernel) rfl <| am_use (fun k13 => z_icmp_ne (pc' := 151) (tgt := 159) (off := 11) (by decide +kernel) (by decide) rfl c10 (by decide : R32 1) (am_ite2 (fun q14 => z_aload (pc' := 153) (j := 9) (by decide +kernel) rfl rfl <| z_iload (pc' := 155) (j := 12) (by decide +kernel) rfl rfl <| z_iaload (pc' := 156) (by decide +kernel) hr69 c7 rfl <| z_goto (tgt := 167) (off := 11) (by decide +kernel) (by decide) <| (am_jp (P := fun z9 => ZP G 6 m_X12_odds 167 [some (.ref m), some (iv x), some (iv t), some (.ref a2), some (.ref a7), some (.ref a46), some (jv v6), none, none, some (.ref r69), some (jv (v10 * 4)), none, some (iv v12)] [iv z9, iv v12, .ref r69] _ Q) (if_pos q14) k13)) (fun q14 => z_aload_n (pc' := 160) (j := 0) (by decide +kernel) rfl rfl <| z_iload (pc' := 162) (j := 12) (by decide +kernel) rfl rfl <| z_bipush (pc' := 164) (n := 12) (by decide +kernel) (by decide) rfl <| z_callV (pc' := 167) (idx := 83) (mj := m_X12_get) (av := [iv v12, iv 12]) (d' := 0) (by decide +kernel) rfl k_X12_get l_RX12_83 rfl (by omega) (am_le rfl) rfl (am_le rfl) hm.o.1 hm.o.2 rfl <| zKf (s_get hm c7 ⟨by decide, by decide, by decide⟩) <| (am_jp (P := fun z9 => ZP G 6 m_X12_odds 167 [some (.ref m), some (iv x), some (iv t), some (.ref a2), some (.ref a7), some (.ref a46), some (jv v6), none, none, some (.ref r69), some (jv (v10 * 4)), none, some (iv v12)] [iv z9, iv v12, .ref r69] _ Q) (if_neg q14) k13)))) <| (am_jp (P := fun z9 => ZP G 6 m_X12_odds 167 [some (.ref m), some (iv x), some (iv t), some (.ref a2), some (.ref a7), some (.ref a46), some (jv v6), none, none, some (.ref r69), some (jv (v10 * 4)), none, some (iv v12)] [iv z9, iv v12, .ref r69] _ Q) (if_neg q18) k17)))) <| z_iastore (pc' := 168) (by decide +kernel) hr69 c7 rfl <| have h := h _ rfl; z_iinc (pc' := 171) (j := 12) (n := 1) (x := v12) (ls' := [some (.ref m), some (iv x), some (iv t), some (.ref a2), some (.ref a7), some (.ref a46), some (jv v6), none, none, some (.ref r69), some (jv (v10 * 4)), none, some (iv (v12 + 1))]) (by decide +kernel) rfl (by decide) rfl rfl <| z_goto (tgt := 77) (off := -94) (by decide +kernel) (by decide) <| h) (fun h => z_lconst (pc' := 116) (n := 1) (v := 1) (by decide +kernel) rfl rfl <| z_lmul (pc' := 117) (by decide +kernel) rfl <| z_lstore (pc' := 119) (j := 10) (ls' := [some (.ref m), some (iv x), some (iv t), some (.ref a2), some (.ref a7), some (.ref a46), some (jv v6), none, none, some (.ref r69), some (jv (v10 * 1)), none, some (iv v12)]) (by decide +kernel) (by decide) rfl rfl <| z_aload (pc' := 121) (j := 9) (by decide +kernel) rfl rfl <| z_iload (pc' := 123) (j := 12) (by decide +kernel) rfl rfl <| z_aload (pc' := 125) (j := 5) (by decide +kernel) rfl rfl <| z_iload (pc' := 127) (j := 12) (by decide +kernel) rfl rfl <| z_iaload (pc' := 128) (by decide +kernel) ha46 c7 rfl <| am_use (fun k26 => z_if_ne (pc' := 131) (tgt := 142) (off := 14) (by decide +kernel) (by decide) rfl c10 (am_ite2 (fun q27 => z_aload_n (pc' := 132) (j := 0) (by decide +kernel) rfl rfl <| z_iload (pc' := 134) (j := 12) (by decide +kernel) rfl rfl <| z_bipush (pc' := 136) (n := 11) (by decide +kernel) (by decide) rfl <| z_callV (pc' := 139) (idx := 83) (mj := m_X12_get) (av := [iv v12, iv 11]) (d' := 0) (by decide +kernel) rfl k_X12_get l_RX12_83 rfl (by omega) (am_le rfl) rfl (am_le rfl) hm.o.1 hm.o.2 rfl <| zKf (s_get hm c7 ⟨by decide, by decide, by decide⟩) <| z_goto (tgt := 167) (off := 28) (by decide +kernel) (by decide) <| (am_jp (P := fun z9 => ZP G 6 m_X12_odds 167 [some (.ref m), some (iv x), some (iv t), some (.ref a2), some (.ref a7), some (.ref a46), some (jv v6), none, none, some (.ref r69), some (jv (v10 * 1)), none, some (iv v12)] [iv z9, iv v12, .ref r69] _ Q) (if_pos q27) k26)) (fun q27 => z_aload (pc' := 144) (j := 5) (by decide +kernel) rfl rfl <| z_iload (pc' := 146) (j := 12) (by decide +kernel) rfl rfl <| z_iaload (pc' := 147) (by decide +kernel) ha46 c7 rfl <| z_iconst (pc' := 148) (n := 1) (by decide +kernel) rfl <| am_use (fun k22 => z_icmp_ne (pc' := 151) (tgt := 159) (off := 11) (by decide +kernel) (by decide) rfl c10 (by decide : R32 1) (am_ite2 (fun q23 => z_aload (pc' := 153) (j := 9) (by decide +kernel) rfl rfl <| z_iload (pc' := 155) (j := 12) (by decide +kernel) rfl rfl <| z_iaload (pc' := 156) (by decide +kernel) hr69 c7 rfl <| z_goto (tgt := 167) (off := 11) (by decide +kernel) (by decide) <| (am_jp (P := fun z9 => ZP G 6 m_X12_odds 167 [some (.ref m), some (iv x), some (iv t), some (.ref a2), some (.ref a7), some (.ref a46), some (jv v6), none, none, some (.ref r69), some (jv (v10 * 1)), none, some (iv v12)] [iv z9, iv v12, .ref r69] _ Q) (if_pos q23) k22)) (fun q23 => z_aload_n (pc' := 160) (j := 0) (by decide +kernel) rfl rfl <| z_iload (pc' := 162) (j := 12) (by decide +kernel) rfl rfl <| z_bipush (pc' := 164) (n := 12) (by decide +kernel) (by decide) rfl <| z_callV (pc' := 167) (idx := 83) (mj := m_X12_get) (av := [iv v12, iv 12]) (d' := 0) (by decide +kernel) rfl k_X12_get l_RX12_83 rfl (by omega) (am_le rfl) rfl (am_le rfl) hm.o.1 hm.o.2 rfl <| zKf (s_get hm c7 ⟨by decide, by decide, by decide⟩) <| (am_jp (P := fun z9 => ZP G 6 m_X12_odds 167 [some (.ref m), some (iv x), some (iv t), some (.ref a2), some (.ref a7), some (.ref a46), some (jv v6), none, none, some (.ref r69), some (jv (v10 * 1)), none, some (iv v12)] [iv z9, iv v12, .ref r69] _ Q) (if_neg q23) k22)))) <| (am_jp (P := fun z9 => ZP G 6 m_X12_odds 167 [some (.ref m), some (iv x), some (iv t), some (.ref a2), some (.ref a7), some (.ref a46), some (jv v6), none, none, some (.ref r69), some (jv (v10 * 1)), none, some (iv v12)] [iv z9, iv v12, .ref r69] _ Q) (if_neg q27) k26)))) <| z_iastore (pc' := 168) (by decide +kernel) hr69 c7 rfl <| have h := h _ rfl; z_iinc (pc' := 171) (j := 12) (n := 1) (x := v12) (ls' := [some (.ref m), some (iv x), some (iv t), some (.ref a2), some (.ref a7), some (.ref a46), some (jv v6), none, none, some (.ref r69), some (jv (v10 * 1)), none, some (iv (v12 + 1))]) (by decide +kernel) rfl (by decide) rfl rfl <| z_goto (tgt := 77) (off := -94) (by decide +kernel) (by decide) <| h))) (fun h => z_iinc (pc' := 171) (j := 12) (n := 1) (x := v12) (ls' := [some (.ref m), some (iv x), some (iv t), some (.ref a2), some (.ref a7), some (.ref a46), some (jv v6), none, none, some (.ref r69), some (jv v10), none, some (iv (v12 + 1))]) (by decide +kernel) rfl (by decide) rfl rfl <| z_goto (tgt := 77) (off := -94) (by decide +kernel) (by decide) <| h))))
set_option maxRecDepth 20000 in
theorem b_X12_odds_185 {G : Gx} {Q : Rv → Zm → Prop} {Z : Zm} {a2 : Nat} {a7 : Nat} {a46 : Nat} {m : Nat} {B : Nat} {x : Int} {t : Int} {v6 : Int} {v10 : Int} {s0 : Int} (hm : atModel Z m B) (ha2 : zA Z a2 100 20) (ha7 : zA Z a7 100 20) (ha46 : zA Z a46 100 20) (h : ((R32 s0) ∧ (R32 x) ∧ (if ¬ (x < s0) then (ZM G 5 m_X12_goesOn [.ref m, .ref a46, .ref a2, .ref a7] Z (zKc G 6 m_X12_odds 256 [some (.ref m), some (iv x), some (iv t), some (.ref a2), some (.ref a7), some (.ref a46), some (jv (v6 + v10)), none, none, none, none, none, none] [] Q)) else (ZM G 5 m_X12_goesOn [.ref m, .ref a46, .ref a2, .ref a7] Z (zKc G 6 m_X12_odds 256 [some (.ref m), some (iv x), some (iv t), some (.ref a2), some (.ref a7), some (.ref a46), some (jv (v6 + 0)), none, none, none, none, none, none] [] Q))))) : ZP G 6 m_X12_odds 185 [some (.ref m), some (iv x), some (iv t), some (.ref a2), some (.ref a7), some (.ref a46), some (jv v6), none, none, none, some (jv v10), none, none] [iv s0] Z Q := z_iload_n (pc' := 186) (j := 1) (by decide +kernel) rfl rfl <| h.elim fun c1 h => h.elim fun c2 h => am_use (fun k5 => z_icmp_gt (pc' := 189) (tgt := 193) (off := 7) (by decide +kernel) (by decide) rfl c1 c2 (am_ite2 (fun q6 => z_iconst (pc' := 194) (n := 0) (by decide +kernel) rfl <| z_goto (tgt := 229) (off := 35) (by decide +kernel) (by decide) <| (am_jp (P := fun z9 => ZP G 6 m_X12_odds 229 [some (.ref m), some (iv x), some (iv t), some (.ref a2), some (.ref a7), some (.ref a46), some (jv v6), none, none, none, some (jv v10), none, none] [iv z9] _ Q) (b2_n q6) k5)) (fun q6 => z_iconst (pc' := 190) (n := 1) (by decide +kernel) rfl <| z_goto (tgt := 229) (off := 39) (by decide +kernel) (by decide) <| (am_jp (P := fun z9 => ZP G 6 m_X12_odds 229 [some (.ref m), some (iv x), some (iv t), some (.ref a2), some (.ref a7), some (.ref a46), some (jv v6), none, none, none, some (jv v10), none, none] [iv z9] _ Q) (b2_nn q6) k5)))) <| z_istore (pc' := 231) (j := 12) (ls' := [some (.ref m), some (iv x), some (iv t), some (.ref a2), some (.ref a7), some (.ref a46), some (jv v6), none, none, none, some (jv v10), none, some (iv (b2 (¬ (x < s0))))]) (by decide +kernel) (by decide) rfl rfl <| z_lload (pc' := 233) (j := 6) (by decide +kernel) rfl rfl <| z_iload (pc' := 235) (j := 12) (by decide +kernel) rfl rfl <| z_ifB_eq (pc' := 238) (tgt := 243) (off := 8) (by decide +kernel) (by decide) rfl (am_ite h (fun h => z_lload (pc' := 240) (j := 10) (by decide +kernel) rfl rfl <| z_goto (tgt := 244) (off := 4) (by decide +kernel) (by decide) <| z_ladd (pc' := 245) (by decide +kernel) rfl <| z_lstore (pc' := 247) (j := 6) (ls' := [some (.ref m), some (iv x), some (iv t), some (.ref a2), some (.ref a7), some (.ref a46), some (jv (v6 + v10)), none, none, none, some (jv v10), none, some (iv (b2 (¬ (x < s0))))]) (by decide +kernel) (by decide) rfl rfl <| z_aload_n (pc' := 248) (j := 0) (by decide +kernel) rfl rfl <| z_aload (pc' := 250) (j := 5) (by decide +kernel) rfl rfl <| z_aload_n (pc' := 251) (j := 3) (by decide +kernel) rfl rfl <| z_aload (pc' := 253) (j := 4) (by decide +kernel) rfl rfl <| z_callV (pc' := 256) (idx := 331) (mj := m_X12_goesOn) (av := [.ref a46, .ref a2, .ref a7]) (d' := 5) (by decide +kernel) rfl k_X12_goesOn l_RX12_331 rfl (by omega) (am_le rfl) rfl (am_le rfl) hm.o.1 hm.o.2 rfl (ZM.mono h (zKc_wk (wk_some (wk_some (wk_some (wk_some (wk_some (wk_some (wk_some (wk_none (wk_none (wk_none (wk_none (wk_none (wk_none wk_nil)))))))))))))))) (fun h => z_lconst (pc' := 244) (n := 0) (v := 0) (by decide +kernel) rfl rfl <| z_ladd (pc' := 245) (by decide +kernel) rfl <| z_lstore (pc' := 247) (j := 6) (ls' := [some (.ref m), some (iv x), some (iv t), some (.ref a2), some (.ref a7), some (.ref a46), some (jv (v6 + 0)), none, none, none, some (jv v10), none, some (iv (b2 (¬ (x < s0))))]) (by decide +kernel) (by decide) rfl rfl <| z_aload_n (pc' := 248) (j := 0) (by decide +kernel) rfl rfl <| z_aload (pc' := 250) (j := 5) (by decide +kernel) rfl rfl <| z_aload_n (pc' := 251) (j := 3) (by decide +kernel) rfl rfl <| z_aload (pc' := 253) (j := 4) (by decide +kernel) rfl rfl <| z_callV (pc' := 256) (idx := 331) (mj := m_X12_goesOn) (av := [.ref a46, .ref a2, .ref a7]) (d' := 5) (by decide +kernel) rfl k_X12_goesOn l_RX12_331 rfl (by omega) (am_le rfl) rfl (am_le rfl) hm.o.1 hm.o.2 rfl (ZM.mono h (zKc_wk (wk_some (wk_some (wk_some (wk_some (wk_some (wk_some (wk_some (wk_none (wk_none (wk_none (wk_none (wk_none (wk_none wk_nil)))))))))))))))))
set_option maxRecDepth 20000 in
theorem b_X12_odds_207 {G : Gx} {Q : Rv → Zm → Prop} {Z : Zm} {a2 : Nat} {a7 : Nat} {a46 : Nat} {r69 : Nat} {r207 : Nat} {m : Nat} {B : Nat} {x : Int} {t : Int} {v6 : Int} {v10 : Int} (hm : atModel Z m B) (ha2 : zA Z a2 100 20) (ha7 : zA Z a7 100 20) (ha46 : zA Z a46 100 20) (hr69 : zA Z r69 100 20) (hr207 : zA Z r207 100 20) (h : ((zIx t 20) ∧ ZM G 5 m_X12_earliestInto [.ref m, .ref (m + 18), .ref r69] Z (zKc G 6 m_X12_odds 219 [some (.ref m), some (iv x), some (iv t), some (.ref a2), some (.ref a7), some (.ref a46), some (jv v6), none, none, none, some (jv v10), none, none] [iv (zI Z r207 t.toNat)] Q))) : ZP G 6 m_X12_odds 207 [some (.ref m), some (iv x), some (iv t), some (.ref a2), some (.ref a7), some (.ref a46), some (jv v6), none, none, some (.ref r69), some (jv v10), none, none] [.ref r207] Z Q := z_iload_n (pc' := 208) (j := 2) (by decide +kernel) rfl rfl <| h.elim fun c1 h => z_iaload (pc' := 209) (by decide +kernel) hr207 c1 rfl <| z_aload_n (pc' := 210) (j := 0) (by decide +kernel) rfl rfl <| z_aload_n (pc' := 211) (j := 0) (by decide +kernel) rfl rfl <| z_getR (pc' := 214) (idx := 54) (ci := 12) (f := 21) (by decide +kernel) f_RX12_54 rfl hm.o.1 hm.o.2 hm.r21 rfl <| z_aload (pc' := 216) (j := 9) (by decide +kernel) rfl rfl <| z_callV (pc' := 219) (idx := 90) (mj := m_X12_earliestInto) (av := [.ref (m + 18), .ref r69]) (d' := 5) (by decide +kernel) rfl k_X12_earliestInto l_RX12_90 rfl (by omega) (am_le rfl) rfl (am_le rfl) hm.o.1 hm.o.2 rfl (ZM.mono h (zKc_wk (wk_some (wk_some (wk_some (wk_some (wk_some (wk_some (wk_some (wk_none (wk_none (wk_none (wk_some (wk_none (wk_none wk_nil)))))))))))))))
set_option maxRecDepth 20000 in
theorem b_X12_odds_256 {G : Gx} {Q : Rv → Zm → Prop} {Z : Zm} {a2 : Nat} {a7 : Nat} {a46 : Nat} {m : Nat} {B : Nat} {x : Int} {t : Int} {v6 : Int} {s0 : Int} (hm : atModel Z m B) (ha2 : zA Z a2 100 20) (ha7 : zA Z a7 100 20) (ha46 : zA Z a46 100 20) (h : (ZP G 6 m_X12_odds 56 [some (.ref m), some (iv x), some (iv t), some (.ref a2), some (.ref a7), some (.ref a46), some (jv v6), none, some (iv s0), none, none, none, none] [] Z Q)) : ZP G 6 m_X12_odds 256 [some (.ref m), some (iv x), some (iv t), some (.ref a2), some (.ref a7), some (.ref a46), some (jv v6), none, none, none, none, none, none] [iv s0] Z Q := z_istore (pc' := 258) (j := 8) (ls' := [some (.ref m), some (iv x), some (iv t), some (.ref a2), some (.ref a7), some (.ref a46), some (jv v6), none, some (iv s0), none, none, none, none]) (by decide +kernel) (by decide) rfl rfl <| z_goto (tgt := 56) (off := -202) (by decide +kernel) (by decide) <| h
set_option maxRecDepth 20000 in
theorem b_X12_odds_219 {G : Gx} {Q : Rv → Zm → Prop} {Z : Zm} {a2 : Nat} {a7 : Nat} {a46 : Nat} {r219 : Nat} {m : Nat} {B : Nat} {x : Int} {t : Int} {v6 : Int} {v10 : Int} {s1 : Int} (hm : atModel Z m B) (ha2 : zA Z a2 100 20) (ha7 : zA Z a7 100 20) (ha46 : zA Z a46 100 20) (hr219 : zA Z r219 100 20) (h : ((zIx t 20) ∧ (R32 s1) ∧ (R32 (zI Z r219 t.toNat)) ∧ (if s1 = (zI Z r219 t.toNat) then (ZM G 5 m_X12_goesOn [.ref m, .ref a46, .ref a2, .ref a7] Z (zKc G 6 m_X12_odds 256 [some (.ref m), some (iv x), some (iv t), some (.ref a2), some (.ref a7), some (.ref a46), some (jv (v6 + v10)), none, none, none, none, none, none] [] Q)) else (ZM G 5 m_X12_goesOn [.ref m, .ref a46, .ref a2, .ref a7] Z (zKc G 6 m_X12_odds 256 [some (.ref m), some (iv x), some (iv t), some (.ref a2), some (.ref a7), some (.ref a46), some (jv (v6 + 0)), none, none, none, none, none, none] [] Q))))) : ZP G 6 m_X12_odds 219 [some (.ref m), some (iv x), some (iv t), some (.ref a2), some (.ref a7), some (.ref a46), some (jv v6), none, none, none, some (jv v10), none, none] [.ref r219, iv s1] Z Q := z_iload_n (pc' := 220) (j := 2) (by decide +kernel) rfl rfl <| h.elim fun c1 h => z_iaload (pc' := 221) (by decide +kernel) hr219 c1 rfl <| h.elim fun c2 h => h.elim fun c3 h => am_use (fun k6 => z_icmp_ne (pc' := 224) (tgt := 228) (off := 7) (by decide +kernel) (by decide) rfl c2 c3 (am_ite2 (fun q7 => z_iconst (pc' := 225) (n := 1) (by decide +kernel) rfl <| z_goto (tgt := 229) (off := 4) (by decide +kernel) (by decide) <| (am_jp (P := fun z9 => ZP G 6 m_X12_odds 229 [some (.ref m), some (iv x), some (iv t), some (.ref a2), some (.ref a7), some (.ref a46), some (jv v6), none, none, none, some (jv v10), none, none] [iv z9] _ Q) (b2_p q7) k6)) (fun q7 => z_iconst (pc' := 229) (n := 0) (by decide +kernel) rfl <| (am_jp (P := fun z9 => ZP G 6 m_X12_odds 229 [some (.ref m), some (iv x), some (iv t), some (.ref a2), some (.ref a7), some (.ref a46), some (jv v6), none, none, none, some (jv v10), none, none] [iv z9] _ Q) (b2_f q7) k6)))) <| z_istore (pc' := 231) (j := 12) (ls' := [some (.ref m), some (iv x), some (iv t), some (.ref a2), some (.ref a7), some (.ref a46), some (jv v6), none, none, none, some (jv v10), none, some (iv (b2 (s1 = (zI Z r219 t.toNat))))]) (by decide +kernel) (by decide) rfl rfl <| z_lload (pc' := 233) (j := 6) (by decide +kernel) rfl rfl <| z_iload (pc' := 235) (j := 12) (by decide +kernel) rfl rfl <| z_ifB_eq (pc' := 238) (tgt := 243) (off := 8) (by decide +kernel) (by decide) rfl (am_ite h (fun h => z_lload (pc' := 240) (j := 10) (by decide +kernel) rfl rfl <| z_goto (tgt := 244) (off := 4) (by decide +kernel) (by decide) <| z_ladd (pc' := 245) (by decide +kernel) rfl <| z_lstore (pc' := 247) (j := 6) (ls' := [some (.ref m), some (iv x), some (iv t), some (.ref a2), some (.ref a7), some (.ref a46), some (jv (v6 + v10)), none, none, none, some (jv v10), none, some (iv (b2 (s1 = (zI Z r219 t.toNat))))]) (by decide +kernel) (by decide) rfl rfl <| z_aload_n (pc' := 248) (j := 0) (by decide +kernel) rfl rfl <| z_aload (pc' := 250) (j := 5) (by decide +kernel) rfl rfl <| z_aload_n (pc' := 251) (j := 3) (by decide +kernel) rfl rfl <| z_aload (pc' := 253) (j := 4) (by decide +kernel) rfl rfl <| z_callV (pc' := 256) (idx := 331) (mj := m_X12_goesOn) (av := [.ref a46, .ref a2, .ref a7]) (d' := 5) (by decide +kernel) rfl k_X12_goesOn l_RX12_331 rfl (by omega) (am_le rfl) rfl (am_le rfl) hm.o.1 hm.o.2 rfl (ZM.mono h (zKc_wk (wk_some (wk_some (wk_some (wk_some (wk_some (wk_some (wk_some (wk_none (wk_none (wk_none (wk_none (wk_none (wk_none wk_nil)))))))))))))))) (fun h => z_lconst (pc' := 244) (n := 0) (v := 0) (by decide +kernel) rfl rfl <| z_ladd (pc' := 245) (by decide +kernel) rfl <| z_lstore (pc' := 247) (j := 6) (ls' := [some (.ref m), some (iv x), some (iv t), some (.ref a2), some (.ref a7), some (.ref a46), some (jv (v6 + 0)), none, none, none, some (jv v10), none, some (iv (b2 (s1 = (zI Z r219 t.toNat))))]) (by decide +kernel) (by decide) rfl rfl <| z_aload_n (pc' := 248) (j := 0) (by decide +kernel) rfl rfl <| z_aload (pc' := 250) (j := 5) (by decide +kernel) rfl rfl <| z_aload_n (pc' := 251) (j := 3) (by decide +kernel) rfl rfl <| z_aload (pc' := 253) (j := 4) (by decide +kernel) rfl rfl <| z_callV (pc' := 256) (idx := 331) (mj := m_X12_goesOn) (av := [.ref a46, .ref a2, .ref a7]) (d' := 5) (by decide +kernel) rfl k_X12_goesOn l_RX12_331 rfl (by omega) (am_le rfl) rfl (am_le rfl) hm.o.1 hm.o.2 rfl (ZM.mono h (zKc_wk (wk_some (wk_some (wk_some (wk_some (wk_some (wk_some (wk_some (wk_none (wk_none (wk_none (wk_none (wk_none (wk_none wk_nil)))))))))))))))))
set_option maxRecDepth 20000 in
theorem e_X12_oddsBy {G : Gx} {Q : Rv → Zm → Prop} {Z : Zm} {m : Nat} {B : Nat} {x : Int} (hm : atModel Z m B) (h : (ZM G 11 m_X12_guessed [.ref m] Z (zKc G 12 m_X12_oddsBy 5 [some (.ref m), some (iv x)] [.ref m] Q))) : ZM G 12 m_X12_oddsBy [.ref m, iv x] Z Q := ZM.of [some (.ref m), some (iv x)] rfl <| z_aload_n (pc' := 1) (j := 0) (by decide +kernel) rfl rfl <| z_aload_n (pc' := 2) (j := 0) (by decide +kernel) rfl rfl <| z_callV (pc' := 5) (idx := 344) (mj := m_X12_guessed) (av := []) (d' := 11) (by decide +kernel) rfl k_X12_guessed l_RX12_344 rfl (by omega) (am_le rfl) rfl (am_le rfl) hm.o.1 hm.o.2 rfl h
set_option maxRecDepth 20000 in
theorem b_X12_oddsBy_5 {G : Gx} {Q : Rv → Zm → Prop} {Z : Zm} {m : Nat} {B : Nat} {x : Int} {s0 : Int} (hm : atModel Z m B) (h : ((R32 s0) ∧ ∀ Z6, Z6 = zSI Z m (zu (zI Z m) 19 (fC (b2 (¬ (s0 ≤ 6))) 0 0)) → (if 0 < fC (b2 (¬ (s0 ≤ 6))) 0 0 then (Q (.inl (some (jv 0))) Z6) else (ZM G 11 m_X12_odds [.ref m, iv x, iv (-1)] Z6 (zKc G 12 m_X12_oddsBy 33 [none, none] [] Q))))) : ZP G 12 m_X12_oddsBy 5 [some (.ref m), some (iv x)] [iv s0, .ref m] Z Q := z_bipush (pc' := 7) (n := 6) (by decide +kernel) (by decide) rfl <| h.elim fun c1 h => am_use (fun k4 => z_icmp_le (pc' := 10) (tgt := 14) (off := 7) (by decide +kernel) (by decide) rfl c1 (by decide : R32 6) (am_ite2 (fun q5 => z_iconst (pc' := 15) (n := 0) (by decide +kernel) rfl <| (am_jp (P := fun z9 => ZP G 12 m_X12_oddsBy 15 [some (.ref m), some (iv x)] [iv z9, .ref m] _ Q) (b2_n q5) k4)) (fun q5 => z_iconst (pc' := 11) (n := 1) (by decide +kernel) rfl <| z_goto (tgt := 15) (off := 4) (by decide +kernel) (by decide) <| (am_jp (P := fun z9 => ZP G 12 m_X12_oddsBy 15 [some (.ref m), some (iv x)] [iv z9, .ref m] _ Q) (b2_nn q5) k4)))) <| z_iconst (pc' := 16) (n := 0) (by decide +kernel) rfl <| z_iconst (pc' := 17) (n := 0) (by decide +kernel) rfl <| z_callV (pc' := 20) (idx := 133) (mj := m_X12_fails) (av := [iv (b2 (¬ (s0 ≤ 6))), iv 0, iv 0]) (d' := 0) (by decide +kernel) rfl k_X12_fails l_RX12_133 rfl (by omega) (am_le rfl) rfl (am_le rfl) hm.o.1 hm.o.2 rfl <| zKf (s_fails hm (b2_01 _) (Or.inl rfl) (Or.inl rfl)) <| have h := h _ rfl; z_ifB_eq (pc' := 23) (tgt := 27) (off := 7) (by decide +kernel) (by decide) rfl (am_ite h (fun h => z_lconst (pc' := 24) (n := 0) (v := 0) (by decide +kernel) rfl rfl <| z_goto (tgt := 33) (off := 9) (by decide +kernel) (by decide) <| z_lreturn (by decide +kernel) rfl h) (fun h => z_aload_n (pc' := 28) (j := 0) (by decide +kernel) rfl rfl <| z_iload_n (pc' := 29) (j := 1) (by decide +kernel) rfl rfl <| z_iconst (pc' := 30) (n := -1) (by decide +kernel) rfl <| z_callV (pc' := 33) (idx := 351) (mj := m_X12_odds) (av := [iv x, iv (-1)]) (d' := 11) (by decide +kernel) rfl k_X12_odds l_RX12_351 rfl (by omega) (am_le rfl) rfl (am_le rfl) hm.o.1 hm.o.2 rfl (ZM.mono h (zKc_wk (wk_none (wk_none wk_nil))))))
set_option maxRecDepth 20000 in
theorem b_X12_oddsBy_33 {G : Gx} {Q : Rv → Zm → Prop} {Z : Zm} {m : Nat} {B : Nat} {s0 : Int} (hm : atModel Z m B) (h : (Q (.inl (some (jv s0))) Z)) : ZP G 12 m_X12_oddsBy 33 [none, none] [jv s0] Z Q := z_lreturn (by decide +kernel) rfl h
set_option maxRecDepth 20000 in
theorem e_X12_oddsCritical {G : Gx} {Q : Rv → Zm → Prop} {Z : Zm} {m : Nat} {B : Nat} {t : Int} (hm : atModel Z m B) (h : ((R32 t) ∧ (R32 (zI Z B 0 - 1)) ∧ ZM G 11 m_X12_guessed [.ref m] Z (zKc G 12 m_X12_oddsCritical 18 [some (.ref m), some (iv t)] [iv (b2 (¬ (0 ≤ t ∧ t < zI Z B 0))), .ref m] Q))) : ZM G 12 m_X12_oddsCritical [.ref m, iv t] Z Q := ZM.of [some (.ref m), some (iv t)] rfl <| z_aload_n (pc' := 1) (j := 0) (by decide +kernel) rfl rfl <| z_aload_n (pc' := 2) (j := 0) (by decide +kernel) rfl rfl <| z_iload_n (pc' := 3) (j := 1) (by decide +kernel) rfl rfl <| h.elim fun c1 h => h.elim fun c2 h => z_callV (pc' := 6) (idx := 151) (mj := m_X12_isTask) (av := [iv t]) (d' := 1) (by decide +kernel) rfl k_X12_isTask l_RX12_151 rfl (by omega) (am_le rfl) rfl (am_le rfl) hm.o.1 hm.o.2 rfl <| zKf (s_isTask hm c1 c2) <| am_use (fun k5 => z_ifB_ne (pc' := 9) (tgt := 13) (off := 7) (by decide +kernel) (by decide) rfl (am_ite2 (fun q6 => z_iconst (pc' := 14) (n := 0) (by decide +kernel) rfl <| (am_jp (P := fun z9 => ZP G 12 m_X12_oddsCritical 14 [some (.ref m), some (iv t)] [iv z9, .ref m] _ Q) (b2_n q6) k5)) (fun q6 => z_iconst (pc' := 10) (n := 1) (by decide +kernel) rfl <| z_goto (tgt := 14) (off := 4) (by decide +kernel) (by decide) <| (am_jp (P := fun z9 => ZP G 12 m_X12_oddsCritical 14 [some (.ref m), some (iv t)] [iv z9, .ref m] _ Q) (b2_nn q6) k5)))) <| z_aload_n (pc' := 15) (j := 0) (by decide +kernel) rfl rfl <| z_callV (pc' := 18) (idx := 344) (mj := m_X12_guessed) (av := []) (d' := 11) (by decide +kernel) rfl k_X12_guessed l_RX12_344 rfl (by omega) (am_le rfl) rfl (am_le rfl) hm.o.1 hm.o.2 rfl h
set_option maxRecDepth 20000 in
theorem b_X12_oddsCritical_18 {G : Gx} {Q : Rv → Zm → Prop} {Z : Zm} {m : Nat} {B : Nat} {t : Int} {s0 : Int} {s1 : Int} (hm : atModel Z m B) (h : ((R32 s0) ∧ (s1 = 0 ∨ s1 = 1) ∧ ∀ Z7, Z7 = zSI Z m (zu (zI Z m) 19 (fC s1 (b2 (¬ (s0 ≤ 6))) 0)) → (if 0 < fC s1 (b2 (¬ (s0 ≤ 6))) 0 then (Q (.inl (some (jv 0))) Z7) else (ZM G 11 m_X12_odds [.ref m, iv 0, iv t] Z7 (zKc G 12 m_X12_oddsCritical 45 [none, none] [] Q))))) : ZP G 12 m_X12_oddsCritical 18 [some (.ref m), some (iv t)] [iv s0, iv s1, .ref m] Z Q := z_bipush (pc' := 20) (n := 6) (by decide +kernel) (by decide) rfl <| h.elim fun c1 h => am_use (fun k4 => z_icmp_le (pc' := 23) (tgt := 27) (off := 7) (by decide +kernel) (by decide) rfl c1 (by decide : R32 6) (am_ite2 (fun q5 => z_iconst (pc' := 28) (n := 0) (by decide +kernel) rfl <| (am_jp (P := fun z9 => ZP G 12 m_X12_oddsCritical 28 [some (.ref m), some (iv t)] [iv z9, iv s1, .ref m] _ Q) (b2_n q5) k4)) (fun q5 => z_iconst (pc' := 24) (n := 1) (by decide +kernel) rfl <| z_goto (tgt := 28) (off := 4) (by decide +kernel) (by decide) <| (am_jp (P := fun z9 => ZP G 12 m_X12_oddsCritical 28 [some (.ref m), some (iv t)] [iv z9, iv s1, .ref m] _ Q) (b2_nn q5) k4)))) <| z_iconst (pc' := 29) (n := 0) (by decide +kernel) rfl <| h.elim fun c6 h => z_callV (pc' := 32) (idx := 133) (mj := m_X12_fails) (av := [iv s1, iv (b2 (¬ (s0 ≤ 6))), iv 0]) (d' := 0) (by decide +kernel) rfl k_X12_fails l_RX12_133 rfl (by omega) (am_le rfl) rfl (am_le rfl) hm.o.1 hm.o.2 rfl <| zKf (s_fails hm c6 (b2_01 _) (Or.inl rfl)) <| have h := h _ rfl; z_ifB_eq (pc' := 35) (tgt := 39) (off := 7) (by decide +kernel) (by decide) rfl (am_ite h (fun h => z_lconst (pc' := 36) (n := 0) (v := 0) (by decide +kernel) rfl rfl <| z_goto (tgt := 45) (off := 9) (by decide +kernel) (by decide) <| z_lreturn (by decide +kernel) rfl h) (fun h => z_aload_n (pc' := 40) (j := 0) (by decide +kernel) rfl rfl <| z_iconst (pc' := 41) (n := 0) (by decide +kernel) rfl <| z_iload_n (pc' := 42) (j := 1) (by decide +kernel) rfl rfl <| z_callV (pc' := 45) (idx := 351) (mj := m_X12_odds) (av := [iv 0, iv t]) (d' := 11) (by decide +kernel) rfl k_X12_odds l_RX12_351 rfl (by omega) (am_le rfl) rfl (am_le rfl) hm.o.1 hm.o.2 rfl (ZM.mono h (zKc_wk (wk_none (wk_none wk_nil))))))
set_option maxRecDepth 20000 in
theorem b_X12_oddsCritical_45 {G : Gx} {Q : Rv → Zm → Prop} {Z : Zm} {m : Nat} {B : Nat} {s0 : Int} (hm : atModel Z m B) (h : (Q (.inl (some (jv s0))) Z)) : ZP G 12 m_X12_oddsCritical 45 [none, none] [jv s0] Z Q := z_lreturn (by decide +kernel) rfl h
/-! ===== the model's odds ===== -/
def hiO (F : Nat → Nat → Int) (t : Nat) : Int := 2 * b2 (0 < F 10 t)
theorem hiO_p {F : Nat → Nat → Int} {t : Nat} (h : 0 < F 10 t) : hiO F t = 2 := by
  unfold hiO
  rw [b2_p h]
  rfl
theorem hiO_n {F : Nat → Nat → Int} {t : Nat} (h : ¬ 0 < F 10 t) : hiO F t = 0 := by
  unfold hiO
  rw [b2_f h]
  rfl
theorem hiO_r (F : Nat → Nat → Int) (t : Nat) : 0 ≤ hiO F t ∧ hiO F t ≤ 2 := by
  by_cases g : 0 < F 10 t
  · rw [hiO_p g]
    omega
  · rw [hiO_n g]
    omega
def aO (F : Nat → Nat → Int) (p : Nat → Int) : Nat → ((Nat → Int) → Int) → Int
  | 0, _ => 0
  | t + 1, v => if 0 < F 10 t then (if p t = 0 then aO F p t (fun f => v (zu f t (F 10 t))) else if p t = 1 then oO F t (fun f => v (zu f t (F 10 t))) + 4 * aO F p t v else oO F t (fun f => v (zu f t (F 10 t))) + 4 * oO F t v + aO F p t (fun f => v (zu f t (F 11 t)))) else aO F p t v
def wO (F : Nat → Nat → Int) (p : Nat → Int) : Nat → Int
  | 0 => 1
  | t + 1 => if 0 < F 10 t ∧ p t = 1 then wO F p t * 4 else wO F p t
def chO (F : Nat → Nat → Int) (p : Nat → Int) (t : Nat) : Int := if 0 < F 10 t then (if p t = 0 then F 10 t else if p t = 1 then F 0 t else F 11 t) else F 0 t
def lnO (F : Nat → Nat → Int) (p : Nat → Int) (t u : Nat) : Int := if u < t then chO F p u else F 0 u
theorem lnO_s (F : Nat → Nat → Int) (p : Nat → Int) (t : Nat) : lnO F p (t + 1) = zu (lnO F p t) t (chO F p t) := by
  funext u
  by_cases c : u = t
  · rw [c, zu_same]
    exact if_pos (Nat.lt_succ_self _)
  · rw [zu_other c]
    unfold lnO
    by_cases c2 : u < t
    · rw [if_pos c2, if_pos (by omega)]
    · rw [if_neg c2, if_neg (by omega)]
theorem lnO_own (F : Nat → Nat → Int) (p : Nat → Int) (t : Nat) : zu (lnO F p t) t (F 0 t) = lnO F p t := by
  funext u
  by_cases c : u = t
  · rw [c, zu_same]
    exact (if_neg (Nat.lt_irrefl _)).symm
  · rw [zu_other c]
def cO (F : Nat → Nat → Int) (p : Nat → Int) (t : Nat) (v : (Nat → Int) → Int) : Int := wO F p t * v (lnO F p t)
theorem cO_0 {F : Nat → Nat → Int} {p : Nat → Int} {t : Nat} (g : 0 < F 10 t) (e : p t = 0) (v : (Nat → Int) → Int) : cO F p (t + 1) v = cO F p t (fun f => v (zu f t (F 10 t))) := by
  unfold cO
  rw [lnO_s, show chO F p t = F 10 t from by unfold chO; rw [if_pos g, if_pos e], show wO F p (t + 1) = wO F p t from if_neg fun q => by have := q.2; omega]
theorem cO_1 {F : Nat → Nat → Int} {p : Nat → Int} {t : Nat} (g : 0 < F 10 t) (e : p t = 1) (v : (Nat → Int) → Int) : cO F p (t + 1) v = 4 * cO F p t v := by
  unfold cO
  rw [lnO_s, show chO F p t = F 0 t from by unfold chO; rw [if_pos g, if_neg (by omega), if_pos e], lnO_own, show wO F p (t + 1) = wO F p t * 4 from if_pos ⟨g, e⟩, Int.mul_comm (wO F p t) 4, Int.mul_assoc]
theorem cO_2 {F : Nat → Nat → Int} {p : Nat → Int} {t : Nat} (g : 0 < F 10 t) (e0 : p t ≠ 0) (e1 : p t ≠ 1) (v : (Nat → Int) → Int) : cO F p (t + 1) v = cO F p t (fun f => v (zu f t (F 11 t))) := by
  unfold cO
  rw [lnO_s, show chO F p t = F 11 t from by unfold chO; rw [if_pos g, if_neg e0, if_neg e1], show wO F p (t + 1) = wO F p t from if_neg fun q => e1 q.2]
theorem cO_n {F : Nat → Nat → Int} {p : Nat → Int} {t : Nat} (g : ¬ 0 < F 10 t) (v : (Nat → Int) → Int) : cO F p (t + 1) v = cO F p t v := by
  unfold cO
  rw [lnO_s, show chO F p t = F 0 t from if_neg g, lnO_own, show wO F p (t + 1) = wO F p t from if_neg fun q => g q.1]
theorem aO_0 {F : Nat → Nat → Int} {p : Nat → Int} {t : Nat} (g : 0 < F 10 t) (e : p t = 0) (v : (Nat → Int) → Int) : aO F p (t + 1) v = aO F p t (fun f => v (zu f t (F 10 t))) := by
  show (if 0 < F 10 t then _ else _) = _
  rw [if_pos g, if_pos e]
theorem aO_1 {F : Nat → Nat → Int} {p : Nat → Int} {t : Nat} (g : 0 < F 10 t) (e : p t = 1) (v : (Nat → Int) → Int) : aO F p (t + 1) v = oO F t (fun f => v (zu f t (F 10 t))) + 4 * aO F p t v := by
  show (if 0 < F 10 t then _ else _) = _
  rw [if_pos g, if_neg (by omega), if_pos e]
theorem aO_2 {F : Nat → Nat → Int} {p : Nat → Int} {t : Nat} (g : 0 < F 10 t) (e0 : p t ≠ 0) (e1 : p t ≠ 1) (v : (Nat → Int) → Int) : aO F p (t + 1) v = oO F t (fun f => v (zu f t (F 10 t))) + 4 * oO F t v + aO F p t (fun f => v (zu f t (F 11 t))) := by
  show (if 0 < F 10 t then _ else _) = _
  rw [if_pos g, if_neg e0, if_neg e1]
theorem aO_n {F : Nat → Nat → Int} {p : Nat → Int} {t : Nat} (g : ¬ 0 < F 10 t) (v : (Nat → Int) → Int) : aO F p (t + 1) v = aO F p t v := by
  show (if 0 < F 10 t then _ else _) = _
  rw [if_neg g]
theorem oO_p {F : Nat → Nat → Int} {t : Nat} (g : 0 < F 10 t) (v : (Nat → Int) → Int) : oO F (t + 1) v = 4 * oO F t v + oO F t (fun f => v (zu f t (F 10 t))) + oO F t (fun f => v (zu f t (F 11 t))) := by
  show (if 0 < F 10 t then _ else _) = _
  rw [if_pos g]
theorem oO_n {F : Nat → Nat → Int} {t : Nat} (g : ¬ 0 < F 10 t) (v : (Nat → Int) → Int) : oO F (t + 1) v = oO F t v := by
  show (if 0 < F 10 t then _ else _) = _
  rw [if_neg g]
theorem aO_full {F : Nat → Nat → Int} {p : Nat → Int} : ∀ t, (∀ s, s < t → hiO F s ≤ p s) → ∀ v, aO F p t v + cO F p t v = oO F t v := by
  intro t
  induction t with
  | zero =>
    intro _ v
    show 0 + 1 * v (lnO F p 0) = v (F 0)
    rw [show lnO F p 0 = F 0 from funext fun u => if_neg (Nat.not_lt_zero _)]
    omega
  | succ t ih =>
    intro h v
    have ih := ih fun s hs => h s (by omega)
    have ht := h t (Nat.lt_succ_self _)
    by_cases g : 0 < F 10 t
    · rw [hiO_p g] at ht
      rw [aO_2 g (by omega) (by omega), cO_2 g (by omega) (by omega), oO_p g, ← ih (fun f => v (zu f t (F 11 t)))]
      omega
    · rw [aO_n g, cO_n g, oO_n g, ih]
theorem aO_zero {F : Nat → Nat → Int} {p : Nat → Int} : ∀ t, (∀ s, s < t → p s = 0) → ∀ v, aO F p t v = 0 := by
  intro t
  induction t with
  | zero => exact fun _ _ => rfl
  | succ t ih =>
    intro h v
    have ih := ih fun s hs => h s (by omega)
    by_cases g : 0 < F 10 t
    · rw [aO_0 g (h t (Nat.lt_succ_self _)), ih]
    · rw [aO_n g, ih]
theorem aO_next {F : Nat → Nat → Int} {p : Nat → Int} {i : Nat} (hi0 : ∀ t, t < i → hiO F t ≤ p t) (hlt : p i < hiO F i) (h0 : 0 ≤ p i) : ∀ m v, aO F (nxB zz p i) (i + 1 + m) v = aO F p (i + 1 + m) v + cO F p (i + 1 + m) v := by
  intro m
  have g : 0 < F 10 i := Classical.byContradiction fun g => by
    rw [hiO_n g] at hlt
    omega
  rw [hiO_p g] at hlt
  have z : ∀ v, aO F (nxB zz p i) i v = 0 := aO_zero i fun s hs => nxB_lo hs
  have full := aO_full (F := F) (p := p) i hi0
  induction m with
  | zero =>
    intro v
    rw [Nat.add_zero]
    by_cases e : p i = 0
    · rw [aO_1 g (by rw [nxB_at]; omega), aO_0 g e, cO_0 g e, full, z]
      omega
    · have e1 : p i = 1 := by omega
      rw [aO_2 g (by rw [nxB_at]; omega) (by rw [nxB_at]; omega), aO_1 g e1, cO_1 g e1, z, ← full v]
      omega
  | succ m ih =>
    intro v
    have eq : nxB zz p i (i + 1 + m) = p (i + 1 + m) := nxB_hi (by omega)
    show aO F (nxB zz p i) (i + 1 + m + 1) v = aO F p (i + 1 + m + 1) v + cO F p (i + 1 + m + 1) v
    generalize i + 1 + m = t at *
    by_cases g : 0 < F 10 t
    · by_cases e0 : p t = 0
      · rw [aO_0 g (by rw [eq]; exact e0), aO_0 g e0, cO_0 g e0, ih]
      · by_cases e1 : p t = 1
        · rw [aO_1 g (by rw [eq]; exact e1), aO_1 g e1, cO_1 g e1, ih]
          omega
        · rw [aO_2 g (by rw [eq]; exact e0) (by rw [eq]; exact e1), aO_2 g e0 e1, cO_2 g e0 e1, ih]
          omega
    · rw [aO_n g, aO_n g, cO_n g, ih]
theorem lnO_r {k : Bk} (ho : kOk k) {p : Nat → Int} {t u : Nat} (hu : u < kN k) : 1 ≤ lnO (kF k) p t u ∧ lnO (kF k) p t u ≤ 60 := by
  have a := gs_r ho hu
  unfold lnO chO
  by_cases c : u < t
  · rw [if_pos c]
    by_cases d : 0 < kF k 10 u
    · rw [if_pos d]
      have a5 := a.2.2.2.1 d
      by_cases e : p u = 0
      · rw [if_pos e]
        omega
      · rw [if_neg e]
        by_cases e2 : p u = 1
        · rw [if_pos e2]
          omega
        · rw [if_neg e2]
          omega
    · rw [if_neg d]
      omega
  · rw [if_neg c]
    omega
theorem m_odds {G : Gx} {Z : Zm} {B : Nat} {σ : St} {x y : Int} (h : IMb Z B σ) (ho : okS σ) (hz : 322 ≤ zSz Z ∧ zSz Z < 995000) (hx : R32 x) (hy : y = -1 ∨ (0 ≤ y ∧ y < kN (sK σ))) : ZM G 6 m_X12_odds [.ref 300, iv x, iv y] Z (fun r W => r = .inl (some (jv (oO (kF (sK σ)) (kN (sK σ)) (odV (sK σ) x y)))) ∧ zF mS 3 60 Z W ∧ IMb W B σ) := by
  have hN := ho.1.n
  refine e_X12_odds h.1 ⟨by omega, ?_⟩
  intro Z2 z2
  have s2 : zSz Z2 = zSz Z + 1 := by rw [z2]; rfl
  refine ⟨by omega, ?_⟩
  intro Z4 z4
  have fa : zF mS 1 20 Z Z2 := by rw [z2]; exact zF_C
  have va : isV Z2 (zSz Z) (kN (sK σ)) zz := ⟨by rw [z2]; exact zA_C Z 100 20 20, hz.1, fun t ht => by rw [z2, zI_C]; rfl⟩
  have fb : zF mS 1 20 Z2 Z4 := by rw [z4]; exact zF_C
  have vb := va.fr fb
  have ab : zA Z4 (zSz Z2) 100 20 := by rw [z4]; exact zA_C Z2 100 20 20
  have f0 : zF mS 2 40 Z Z4 := fa.trans fb
  clear z4 z2 fa fb va
  generalize eno : zSz Z = no at *
  generalize emo : zSz Z2 = mo at *
  generalize hQ : (fun (r : Rv) (W : Zm) => r = .inl (some (jv (oO (kF (sK σ)) (kN (sK σ)) (odV (sK σ) x y)))) ∧ zF mS 3 60 Z W ∧ IMb W B σ) = Q
  suffices fill : ∀ j, j ≤ kN (sK σ) → ∀ W, zF mS 2 40 Z W → zA W mo 100 20 → isV W no (kN (sK σ)) zz → (∀ t, t < j → zI W mo t = hiO (kF (sK σ)) t) → ZP G 6 m_X12_odds 14 [some (.ref 300), some (iv x), some (iv y), some (.ref no), some (.ref mo), some (iv (j : Int)), none, none, none, none, none, none, none] [] W Q from fill 0 (Nat.zero_le _) Z4 f0 ab vb fun t ht => absurd ht (Nat.not_lt_zero _)
  refine am_up (n := kN (sK σ)) fun j hj ih Y fY aY vY eY => ?_
  have hY := h.m (by omega) fY
  have h0 := hY.2.2.1.1
  refine b_X12_odds_14 hY.1 vY.1 aY ⟨by omega, by rw [h0]; omega, ?_⟩
  rw [h0]
  by_cases c : j < kN (sK σ)
  · rw [if_neg (by omega)]
    refine ⟨zIx_nat (by omega) (by omega), ?_⟩
    rintro _ rfl
    rw [Int.toNat_natCast, (hY.2.2.1.2.2.1 j c).2.1]
    refine ih c _ (fY.wr (Or.inr (by omega))) aY.s ⟨vY.1.s, vY.2.1, fun t ht => by rw [zI_other (by omega)]; exact vY.2.2 t ht⟩ fun t ht => ?_
    rw [zI_same]
    by_cases e : t = j
    · rw [e, zu_same]
      rfl
    · rw [zu_other e]
      exact eY t (by omega)
  rw [if_pos (by omega)]
  have ej : j = kN (sK σ) := by omega
  rw [ej] at eY
  clear ih ej c hj
  have uY : isV Y mo (kN (sK σ)) (hiO (kF (sK σ))) := ⟨aY, by omega, eY⟩
  clear eY aY f0 ab vb
  have szY := fY.2.1.1
  have szY2 := fY.sz
  refine ⟨by omega, ?_⟩
  intro X yX
  have fX : zF mS 1 20 Y X := by rw [yX]; exact zF_C
  have vX : isV X (zSz Y) (kN (sK σ)) zz := ⟨by rw [yX]; exact zA_C Y 100 20 20, by omega, fun t ht => by rw [yX, zI_C]; rfl⟩
  clear yX
  generalize el : zSz Y = l at *
  have zY : 322 ≤ zSz Y := by omega
  have hX := hY.m zY fX
  have uX := uY.fr fX
  have nX := vY.fr fX
  have lmo : l ≠ mo := fun e => by have := uY.1.1; omega
  have lno : l ≠ no := fun e => by have := vY.1.1; omega
  have hB := hY.big zY
  have fW : ∀ W p, mRw X l (kN (sK σ)) W p → zF mS 1 20 Y W := fun W p hW => fX.tr hW.1 (c' := 0) (w' := 0) fun a ha q => q.resolve_right (by omega)
  have iW : ∀ W p, mRw X l (kN (sK σ)) W p → IMb W B σ := fun W p hW => hY.m zY (fW W p hW)
  have uW : ∀ W p, mRw X l (kN (sK σ)) W p → isV W no (kN (sK σ)) zz ∧ isV W mo (kN (sK σ)) (hiO (kF (sK σ))) ∧ isV W l (kN (sK σ)) p := fun W p hW => ⟨⟨nX.1.ext hW.1.1, nX.2.1, fun t ht => by
    rw [hW.1.i nX.1.1 (by have := nX.2.1; unfold mS zB; omega)]
    exact nX.2.2 t ht⟩, ⟨uX.1.ext hW.1.1, uX.2.1, fun t ht => by
    rw [hW.1.i uX.1.1 (by have := uX.2.1; unfold mS zB; omega)]
    exact uX.2.2 t ht⟩, ⟨vX.1.ext hW.1.1, vX.2.1, hW.2⟩⟩
  have mv : ∀ W V p, mRw X l (kN (sK σ)) W p → zF mS 0 0 W V → mRw X l (kN (sK σ)) V p := fun W V p hW f => ⟨hW.1.trans (f.mono (fun a g => Or.inl g) (Nat.le_refl _) (Nat.le_refl _)), fun t ht => by
    rw [f.i ((uW W p hW).2.2.1).1 (by unfold mS zB; omega)]
    exact hW.2 t ht⟩
  generalize eV : odV (sK σ) x y = V at *
  generalize eF : kF (sK σ) = F at *
  suffices key : ∀ m p, bx (kN (sK σ)) zz (hiO F) p → bW (kN (sK σ)) ≤ bV zz p (kN (sK σ)) + m → ∀ W, mRw X l (kN (sK σ)) W p → ZP G 6 m_X12_odds 56 [some (.ref 300), some (iv x), some (iv y), some (.ref no), some (.ref mo), some (.ref l), some (jv (aO F p (kN (sK σ)) V)), none, some (iv 1), none, none, none, none] [] W Q by
    have h9 := key (bW (kN (sK σ))) zz (fun t ht => ⟨Int.le_refl _, (hiO_r F t).1⟩) (by omega) X ⟨zF.refl, vX.2.2⟩
    rw [aO_zero (p := zz) (kN (sK σ)) fun s _ => rfl] at h9
    exact h9
  intro m
  induction m with
  | zero =>
    intro p hp hm
    have := bV_le (lo := zz) (p := p) (kN (sK σ)) fun t ht => by
      have a := hp t ht
      have b := hiO_r F t
      have e : zz t = 0 := rfl
      omega
    omega
  | succ m ih =>
    intro p hp hm W hW
    -- on to the next row
    have go : ∀ W, mRw X l (kN (sK σ)) W p → ZM G 5 m_X12_goesOn [.ref 300, .ref l, .ref no, .ref mo] W (zKc G 6 m_X12_odds 256 [some (.ref 300), some (iv x), some (iv y), some (.ref no), some (.ref mo), some (.ref l), some (jv (aO F p (kN (sK σ)) V + cO F p (kN (sK σ)) V)), none, none, none, none, none, none] [] Q) := by
      intro W hW
      obtain ⟨w2, w1, w3⟩ := uW W p hW
      refine ((s_goesOn (lo := zz) (hi := hiO F) (p := p) (iW W p hW).1 (iW W p hW).2.2.1.1 hN w3.1 w2.1 w1.1 (by omega) lno lmo fun t ht => ⟨w3.2.2 t ht, w2.2.2 t ht, w1.2.2 t ht, ?_⟩).deeper (by omega)).mono ?_
      · have a := hp t ht
        have b := hiO_r F t
        have e : zz t = 0 := rfl
        omega
      rintro r V2 (⟨rfl, hd, f, rfl⟩ | ⟨rfl, i, f, hi, hlt, hd, rfl, hf⟩)
      · have hV : mRw X l (kN (sK σ)) (zSI W l f) f := ⟨hW.1.trans (zF_I (Or.inr rfl)), fun t ht => by rw [zI_same]⟩
        obtain ⟨w2, w1, w3⟩ := uW _ _ hV
        refine b_X12_odds_256 (iW _ _ hV).1 w2.1 w1.1 w3.1 ?_
        refine b_X12_odds_56 (iW _ _ hV).1 w2.1 w1.1 w3.1 ⟨by decide, ?_⟩
        rw [if_pos rfl, aO_full _ hd, ← hQ]
        exact ⟨rfl, fY.trans (fW _ _ hV), iW _ _ hV⟩
      · have hV : mRw X l (kN (sK σ)) (zSI W l f) (nxB zz p i) := ⟨hW.1.trans (zF_I (Or.inr rfl)), fun t ht => by rw [zI_same]; exact hf t ht⟩
        obtain ⟨w2, w1, w3⟩ := uW _ _ hV
        refine b_X12_odds_256 (iW _ _ hV).1 w2.1 w1.1 w3.1 ?_
        have nv := bV_nx (lo := zz) (p := p) (i := i) (hp i hi).1 (fun t ht => by
          have a := hp t (by omega)
          have b := hiO_r F t
          have e : zz t = 0 := rfl
          omega) (kN (sK σ) - (i + 1))
        have an := aO_next (F := F) (p := p) hd hlt (hp i hi).1 (kN (sK σ) - (i + 1)) V
        rw [show i + 1 + (kN (sK σ) - (i + 1)) = kN (sK σ) by omega] at nv an
        rw [← an]
        exact ih _ (hp.next (fun t ht => (hiO_r F t).1) hi hlt) (by omega) _ hV
    obtain ⟨w2, w1, w3⟩ := uW W p hW
    refine b_X12_odds_56 (iW _ _ hW).1 w2.1 w1.1 w3.1 ⟨by decide, ?_⟩
    rw [if_neg (by decide)]
    refine ((s_lengthsInto (iW _ _ hW).1 (iW _ _ hW).1.a20 (iW _ _ hW).2.2.1 ho.1 (by omega)).deeper (by omega)).mono ?_
    rintro r V0 ⟨rfl, f, rfl, hf, -⟩
    have hV0 := mv _ _ p hW (zF_I (Z := W) (a := 300 + 17) (f := f) (show mS (300 + 17) by unfold mS zB; omega))
    have e0 : ∀ t, t < kN (sK σ) → zI (zSI W (300 + 17) f) (300 + 17) t = lnO F p 0 t := fun t ht => by
      rw [zI_same, hf t ht, eF]
      exact (if_neg (Nat.not_lt_zero _)).symm
    generalize zSI W (300 + 17) f = V0 at *
    clear hf
    obtain ⟨w2, w1, w3⟩ := uW _ _ hV0
    refine b_X12_odds_69 (iW _ _ hV0).1 w2.1 w1.1 w3.1 (iW _ _ hV0).1.a20 ?_
    suffices inner : ∀ j, j ≤ kN (sK σ) → ∀ W, mRw X l (kN (sK σ)) W p → (∀ t, t < kN (sK σ) → zI W (300 + 17) t = lnO F p j t) → ZP G 6 m_X12_odds 77 [some (.ref 300), some (iv x), some (iv y), some (.ref no), some (.ref mo), some (.ref l), some (jv (aO F p (kN (sK σ)) V)), none, none, some (.ref (300 + 17)), some (jv (wO F p j)), none, some (iv (j : Int))] [] W Q from inner 0 (Nat.zero_le _) V0 hV0 e0
    clear w1 w2 w3 hV0 e0 V0
    refine am_up (n := kN (sK σ)) fun j hj ihj W hW eW => ?_
    have hI := iW _ _ hW
    have h0 := hI.2.2.1.1
    obtain ⟨w2, w1, w3⟩ := uW _ _ hW
    refine b_X12_odds_77 hI.1 w2.1 w1.1 w3.1 hI.1.a20 ⟨by omega, by rw [h0]; omega, ?_⟩
    rw [h0]
    by_cases d : j < kN (sK σ)
    · rw [if_neg (by omega)]
      obtain ⟨-, g10, g11, g12⟩ := hI.2.2.1.2.2.1 j d
      rw [eF] at g10 g11 g12
      have bp := hp j d
      have bh := hiO_r F j
      have e0 : zz j = 0 := rfl
      rw [Int.toNat_natCast, g10, g11, g12, w3.2.2 j d, eW j d]
      refine ⟨zIx_nat (by omega) (by omega), b01_r (b2_01 _), ?_⟩
      have up : ∀ v, v = chO F p j → mRw X l (kN (sK σ)) (zSI W (300 + 17) (zu (zI W (300 + 17)) j v)) p ∧ ∀ t, t < kN (sK σ) → zI (zSI W (300 + 17) (zu (zI W (300 + 17)) j v)) (300 + 17) t = lnO F p (j + 1) t := fun v hv => ⟨mv _ _ p hW (zF_I (show mS (300 + 17) by unfold mS zB; omega)), fun t ht => by
        rw [zI_same, lnO_s, ← hv]
        by_cases e : t = j
        · rw [e, zu_same, zu_same]
        · rw [zu_other e, zu_other e]
          exact eW t ht⟩
      have own : lnO F p j j = F 0 j := if_neg (Nat.lt_irrefl _)
      by_cases g : 0 < F 10 j
      · rw [if_pos (b2_p g)]
        refine ⟨by omega, ?_⟩
        by_cases e1 : p j = 1
        · rw [if_pos e1]
          rintro _ rfl
          rw [if_neg (by omega), if_pos e1]
          obtain ⟨u1, u2⟩ := up (lnO F p j j) (by rw [own]; unfold chO; rw [if_pos g, if_neg (by omega), if_pos e1])
          have h9 := ihj d _ u1 u2
          rw [show wO F p (j + 1) = wO F p j * 4 from if_pos ⟨g, e1⟩] at h9
          exact h9
        · rw [if_neg e1]
          rintro _ rfl
          rw [if_neg e1]
          obtain ⟨u1, u2⟩ := up (if p j = 0 then F 10 j else F 11 j) (by unfold chO; rw [if_pos g, if_neg e1])
          have h9 := ihj d _ u1 u2
          rw [show wO F p (j + 1) = wO F p j * 1 from by rw [Int.mul_one]; exact if_neg fun q => e1 q.2] at h9
          exact h9
      · rw [if_neg (by rw [b2_f g]; decide)]
        have h9 := ihj d W hW fun t ht => by
          rw [eW t ht, lnO_s, show chO F p j = F 0 j from if_neg g, lnO_own]
        rw [show wO F p (j + 1) = wO F p j from if_neg fun q => g q.1] at h9
        exact h9
    rw [if_pos (by omega)]
    have ej : j = kN (sK σ) := by omega
    rw [ej] at eW ⊢
    clear ihj hj d ej
    have go1 : ∀ W, mRw X l (kN (sK σ)) W p → odQ (sK σ) x y (lnO F p (kN (sK σ))) → ZM G 5 m_X12_goesOn [.ref 300, .ref l, .ref no, .ref mo] W (zKc G 6 m_X12_odds 256 [some (.ref 300), some (iv x), some (iv y), some (.ref no), some (.ref mo), some (.ref l), some (jv (aO F p (kN (sK σ)) V + wO F p (kN (sK σ)))), none, none, none, none, none, none] [] Q) := fun W hW q => by
      have h9 := go W hW
      unfold cO at h9
      rw [← eV, show odV (sK σ) x y (lnO F p (kN (sK σ))) = 1 from cIf_p q, Int.mul_one, eV] at h9
      exact h9
    have go0 : ∀ W, mRw X l (kN (sK σ)) W p → ¬ odQ (sK σ) x y (lnO F p (kN (sK σ))) → ZM G 5 m_X12_goesOn [.ref 300, .ref l, .ref no, .ref mo] W (zKc G 6 m_X12_odds 256 [some (.ref 300), some (iv x), some (iv y), some (.ref no), some (.ref mo), some (.ref l), some (jv (aO F p (kN (sK σ)) V + 0)), none, none, none, none, none, none] [] Q) := fun W hW q => by
      have h9 := go W hW
      unfold cO at h9
      rw [← eV, show odV (sK σ) x y (lnO F p (kN (sK σ))) = 0 from cIf_f q, Int.mul_zero, eV] at h9
      exact h9
    have lr : ∀ t, t < kN (sK σ) → zI W (300 + 17) t = lnO F p (kN (sK σ)) t ∧ 1 ≤ lnO F p (kN (sK σ)) t ∧ lnO F p (kN (sK σ)) t ≤ 60 := fun t ht => ⟨eW t ht, by rw [← eF]; exact lnO_r ho.1 ht⟩
    clear eW go
    generalize lnO F p (kN (sK σ)) = len at *
    have hb : 300 + 18 ≠ B := by omega
    have er := endF_r ho.1 (len := len) fun t ht => (lr t ht).2
    refine ⟨by omega, ?_⟩
    rcases hy with hy | hy
    · rw [if_pos hy]
      refine ((s_endOf (len := len) hI.1 hI.1.a20 hI.2.2.1 ho.1 lr hb (by decide)).deeper (by omega)).mono ?_
      rintro r V2 ⟨f, lf, rfl, rfl⟩
      have hV := mv _ _ p hW (zF_I (Z := W) (a := 300 + 18) (f := f) (show mS (300 + 18) by unfold mS zB; omega))
      have hI2 := iW _ _ hV
      obtain ⟨w2, w1, w3⟩ := uW _ _ hV
      rw [endF_of ho.1 lf]
      refine b_X12_odds_185 hI2.1 w2.1 w1.1 w3.1 ⟨by omega, hx, ?_⟩
      by_cases q : x < endF (sK σ) len
      · rw [if_neg (fun g => g q)]
        exact go0 _ hV fun g => by
          rcases g with ⟨-, g⟩ | ⟨g, -⟩ <;> omega
      · rw [if_pos q]
        exact go1 _ hV (Or.inl ⟨hy, by omega⟩)
    · rw [if_neg (by omega)]
      refine ((s_latestInto (len := len) (v := 300 + 19) hI.1 hI.1.a20 hI.1.a22 hI.2.2.1 ho.1 lr (by omega) (by decide) hb (by decide) (by decide)).deeper (by omega)).mono ?_
      rintro r V2 ⟨rfl, f, L, lf, hL, rfl⟩
      have fV : zF mS 0 0 W (zSI (zSI W (300 + 18) f) (300 + 19) L) := (zF_I (show mS (300 + 18) by unfold mS zB; omega)).trans (zF_I (show mS (300 + 19) by unfold mS zB; omega))
      have hV := mv _ _ p hW fV
      have hI2 := iW _ _ hV
      have eL : zI (zSI (zSI W (300 + 18) f) (300 + 19) L) (300 + 19) = L := zI_same _ _ _
      have e17 : zI (zSI (zSI W (300 + 18) f) (300 + 19) L) (300 + 17) = zI W (300 + 17) := by rw [zI_other (by decide), zI_other (by decide)]
      generalize zSI (zSI W (300 + 18) f) (300 + 19) L = V2 at *
      obtain ⟨w2, w1, w3⟩ := uW _ _ hV
      have bd := isLF_bound ho.1 lf (fun t ht => (lr t ht).2) (c := 0) (fun _ _ => ⟨Int.le_refl _, Int.le_refl _⟩)
      refine b_X12_odds_207 hI2.1 w2.1 w1.1 w3.1 hI2.1.a20 hI2.1.a22 ⟨⟨by omega, by omega, by decide⟩, ?_⟩
      rw [eL]
      refine ((s_earliestInto (len := len) (v := 300 + 18) hI2.1 hI2.1.a20 hI2.1.a21 hI2.2.2.1 ho.1 (fun t ht => by rw [e17]; exact lr t ht) hb (by decide)).deeper (by omega)).mono ?_
      rintro r V3 ⟨rfl, f2, rfl, lf2⟩
      have hV3 := mv _ _ p hV (zF_I (Z := V2) (a := 300 + 18) (f := f2) (show mS (300 + 18) by unfold mS zB; omega))
      have hI3 := iW _ _ hV3
      obtain ⟨w2', w1', w3'⟩ := uW _ _ hV3
      have ef := isLF_eq ho.1 lf2 lf y.toNat (by omega)
      have cr := crQ_of ho.1 (t := y.toNat) (by omega) lf hL
      rw [endF_of ho.1 lf] at hL
      have Lr := lat_r ho.1 lf hL y.toNat (by omega)
      have b1 := bd y.toNat (by omega)
      have b2' := lr y.toNat (by omega)
      refine b_X12_odds_219 hI3.1 w2'.1 w1'.1 w3'.1 hI3.1.a21 ⟨⟨by omega, by omega, by decide⟩, by omega, ?_, ?_⟩
      · rw [zI_same, ef]
        omega
      rw [zI_same, ef]
      by_cases q : L y.toNat = f y.toNat
      · rw [if_pos q]
        exact go1 _ hV3 (Or.inr ⟨hy.1, cr.mpr q⟩)
      · rw [if_neg q]
        exact go0 _ hV3 fun g => by
          rcases g with ⟨g, -⟩ | ⟨-, g⟩
          · omega
          · exact q (cr.mp g)
theorem d_oddsBy {G : Gx} {Z : Zm} {B : Nat} {σ : St} {x : Int} (h : IMb Z B σ) (ho : okS σ) (hz : 322 ≤ zSz Z ∧ zSz Z < 990000) (hx : R32 x) : ZM G 12 m_X12_oddsBy [.ref 300, iv x] Z (rM Z jv (o_oddsBy σ x)) := by
  have gr := gsN_r ho.1
  refine e_X12_oddsBy h.1 (((s_guessed h.1 h.2.2.1 ho.1).deeper (by omega)).mono ?_)
  rintro r W ⟨rfl, hW⟩
  obtain rfl := hW.symm
  refine b_X12_oddsBy_5 h.1 ⟨by omega, ?_⟩
  rintro _ rfl
  unfold o_oddsBy
  by_cases c : gsN (sK σ) ≤ 6
  case neg =>
    rw [cIf_f c, fC_1 (P := ¬ (gsN (sK σ) ≤ 6)) c, if_pos (by decide)]
    exact rM.no h (by decide) rfl
  rw [cIf_p c, fC_o1 (P := ¬ (gsN (sK σ) ≤ 6)) (fun q => q c), if_neg (by decide)]
  refine ((m_odds (h.t 0) ho ⟨hz.1, by show zSz Z < 995000; omega⟩ hx (Or.inl rfl)).deeper (by omega)).mono ?_
  rintro r V ⟨rfl, f, h2⟩
  obtain ⟨v, e⟩ := mS_t f hz.1
  exact b_X12_oddsBy_33 h2.1 (rM.ok h2 e v (by omega) (by omega) rfl)
theorem d_oddsCritical {G : Gx} {Z : Zm} {B : Nat} {σ : St} {t : Int} (h : IMb Z B σ) (ho : okS σ) (hz : 322 ≤ zSz Z ∧ zSz Z < 990000) (ht : R32 t) : ZM G 12 m_X12_oddsCritical [.ref 300, iv t] Z (rM Z jv (o_oddsCritical σ t)) := by
  have hN := ho.1.n
  have gr := gsN_r ho.1
  have h0 := h.2.2.1.1
  refine e_X12_oddsCritical h.1 ⟨ht, by rw [h0]; omega, ((s_guessed h.1 h.2.2.1 ho.1).deeper (by omega)).mono ?_⟩
  rintro r W ⟨rfl, hW⟩
  obtain rfl := hW.symm
  refine b_X12_oddsCritical_18 h.1 ⟨by omega, b2_01 _, ?_⟩
  rintro _ rfl
  rw [h0]
  unfold o_oddsCritical
  by_cases c1 : 0 ≤ t ∧ t < (kN (sK σ) : Int)
  case neg =>
    rw [cIf_f c1, fC_1 (P := ¬ (0 ≤ t ∧ t < (kN (sK σ) : Int))) c1, if_pos (by decide)]
    exact rM.no h (by decide) rfl
  rw [cIf_p c1]
  by_cases c : gsN (sK σ) ≤ 6
  case neg =>
    rw [cIf_f c, fC_2 (P := ¬ (0 ≤ t ∧ t < (kN (sK σ) : Int))) (Q := ¬ (gsN (sK σ) ≤ 6)) (fun q => q c1) c, if_pos (by decide)]
    exact rM.no h (by decide) rfl
  rw [cIf_p c, fC_o2 (P := ¬ (0 ≤ t ∧ t < (kN (sK σ) : Int))) (Q := ¬ (gsN (sK σ) ≤ 6)) (fun q => q c1) (fun q => q c), if_neg (by decide)]
  refine ((m_odds (h.t 0) ho ⟨hz.1, by show zSz Z < 995000; omega⟩ (by decide) (Or.inr c1)).deeper (by omega)).mono ?_
  rintro r V ⟨rfl, f, h2⟩
  obtain ⟨v, e⟩ := mS_t f hz.1
  exact b_X12_oddsCritical_45 h2.1 (rM.ok h2 e v (by omega) (by omega) rfl)
