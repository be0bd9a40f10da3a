set_option maxRecDepth 20000 in
theorem e_X12_best {G : Gx} {Q : Rv → Zm → Prop} {Z : Zm} {m : Nat} {B : Nat} {x : Int} (hm : atModel Z m B) (h : ((R32 x) ∧ (R32 (zI Z B 0)) ∧ ∀ Z11, Z11 = zSI Z m (zu (zI Z m) 19 (fC (b2 (¬ (1 ≤ x ∧ x ≤ 4))) (b2 (¬ ((zI Z B 0) ≤ 6))) 0)) → (if 0 < fC (b2 (¬ (1 ≤ x ∧ x ≤ 4))) (b2 (¬ ((zI Z B 0) ≤ 6))) 0 then (Q (.inl (some (iv 0))) Z11) else (ZM G 11 m_X12_lengths [.ref m] Z11 (zKc G 12 m_X12_best 42 [some (.ref m), some (iv x), none, none, none] [] Q))))) : ZM G 12 m_X12_best [.ref m, iv x] Z Q := ZM.of [some (.ref m), some (iv x), none, none, none] rfl <| z_aload_n (pc' := 1) (j := 0) (by decide +kernel) rfl rfl <| z_iload_n (pc' := 2) (j := 1) (by decide +kernel) rfl rfl <| z_iconst (pc' := 3) (n := 1) (by decide +kernel) rfl <| z_iconst (pc' := 4) (n := 4) (by decide +kernel) rfl <| h.elim fun c1 h => z_callS (pc' := 7) (idx := 68) (mj := m_X12_in) (av := [iv x, iv 1, iv 4]) (d' := 0) (by decide +kernel) rfl k_X12_in l_RX12_68 rfl (by omega) (am_le rfl) rfl (am_le rfl) rfl <| zKf (s_in c1 (by decide : R32 1) (by decide : R32 4)) <| am_use (fun k4 => z_ifB_ne (pc' := 10) (tgt := 14) (off := 7) (by decide +kernel) (by decide) rfl (am_ite2 (fun q5 => z_iconst (pc' := 15) (n := 0) (by decide +kernel) rfl <| (am_jp (P := fun z9 => ZP G 12 m_X12_best 15 [some (.ref m), some (iv x), none, none, none] [iv z9, .ref m] _ Q) (b2_n q5) k4)) (fun q5 => z_iconst (pc' := 11) (n := 1) (by decide +kernel) rfl <| z_goto (tgt := 15) (off := 4) (by decide +kernel) (by decide) <| (am_jp (P := fun z9 => ZP G 12 m_X12_best 15 [some (.ref m), some (iv x), none, none, none] [iv z9, .ref m] _ Q) (b2_nn q5) k4)))) <| z_aload_n (pc' := 16) (j := 0) (by decide +kernel) rfl rfl <| z_callV (pc' := 19) (idx := 64) (mj := m_X12_many) (av := []) (d' := 0) (by decide +kernel) rfl k_X12_many l_RX12_64 rfl (by omega) (am_le rfl) rfl (am_le rfl) hm.o.1 hm.o.2 rfl <| zKf (s_many hm) <| z_bipush (pc' := 21) (n := 6) (by decide +kernel) (by decide) rfl <| h.elim fun c6 h => am_use (fun k9 => z_icmp_le (pc' := 24) (tgt := 28) (off := 7) (by decide +kernel) (by decide) rfl c6 (by decide : R32 6) (am_ite2 (fun q10 => z_iconst (pc' := 29) (n := 0) (by decide +kernel) rfl <| (am_jp (P := fun z9 => ZP G 12 m_X12_best 29 [some (.ref m), some (iv x), none, none, none] [iv z9, iv (b2 (¬ (1 ≤ x ∧ x ≤ 4))), .ref m] _ Q) (b2_n q10) k9)) (fun q10 => z_iconst (pc' := 25) (n := 1) (by decide +kernel) rfl <| z_goto (tgt := 29) (off := 4) (by decide +kernel) (by decide) <| (am_jp (P := fun z9 => ZP G 12 m_X12_best 29 [some (.ref m), some (iv x), none, none, none] [iv z9, iv (b2 (¬ (1 ≤ x ∧ x ≤ 4))), .ref m] _ Q) (b2_nn q10) k9)))) <| z_iconst (pc' := 30) (n := 0) (by decide +kernel) rfl <| z_callV (pc' := 33) (idx := 133) (mj := m_X12_fails) (av := [iv (b2 (¬ (1 ≤ x ∧ x ≤ 4))), iv (b2 (¬ ((zI Z B 0) ≤ 6))), iv 0]) (d' := 0) (by decide +kernel) rfl k_X12_fails l_RX12_133 rfl (by omega) (am_le rfl) rfl (am_le rfl) hm.o.1 hm.o.2 rfl <| zKf (s_fails hm (b2_01 _) (b2_01 _) (Or.inl rfl)) <| have h := h _ rfl; z_ifB_eq (pc' := 36) (tgt := 38) (off := 5) (by decide +kernel) (by decide) rfl (am_ite h (fun h => z_iconst (pc' := 37) (n := 0) (by decide +kernel) rfl <| z_ireturn (by decide +kernel) ⟨_, rfl, rfl⟩ h) (fun h => z_aload_n (pc' := 39) (j := 0) (by decide +kernel) rfl rfl <| z_callV (pc' := 42) (idx := 123) (mj := m_X12_lengths) (av := []) (d' := 11) (by decide +kernel) rfl k_X12_lengths l_RX12_123 rfl (by omega) (am_le rfl) rfl (am_le rfl) hm.o.1 hm.o.2 rfl h))
set_option maxRecDepth 20000 in
theorem b_X12_best_42 {G : Gx} {Q : Rv → Zm → Prop} {Z : Zm} {r42 : Nat} {m : Nat} {B : Nat} {x : Int}  (hm : atModel Z m B) (hr42 : zA Z r42 100 20) (h : (ZM G 11 m_X12_numbers [iv (zI Z B 0)] Z (zKc G 12 m_X12_best 50 [some (.ref m), some (iv x), some (.ref r42), none, none] [] Q))) : ZP G 12 m_X12_best 42 [some (.ref m), some (iv x), none, none, none] [.ref r42] Z Q := z_astore_n (pc' := 43) (j := 2) (ls' := [some (.ref m), some (iv x), some (.ref r42), none, none]) (by decide +kernel) (by decide) rfl rfl <| z_aload_n (pc' := 44) (j := 0) (by decide +kernel) rfl rfl <| z_callV (pc' := 47) (idx := 64) (mj := m_X12_many) (av := []) (d' := 0) (by decide +kernel) rfl k_X12_many l_RX12_64 rfl (by omega) (am_le rfl) rfl (am_le rfl) hm.o.1 hm.o.2 rfl <| zKf (s_many hm) <| z_callS (pc' := 50) (idx := 309) (mj := m_X12_numbers) (av := [iv (zI Z B 0)]) (d' := 11) (by decide +kernel) rfl k_X12_numbers l_RX12_309 rfl (by omega) (am_le rfl) rfl (am_le rfl) rfl h
set_option maxRecDepth 20000 in
theorem b_X12_best_50 {G : Gx} {Q : Rv → Zm → Prop} {Z : Zm} {r42 : Nat} {r50 : Nat} {Nr50 : Nat} {m : Nat} {B : Nat} {x : Int}  (hm : atModel Z m B) (hr42 : zA Z r42 100 20) (hr50 : zA Z r50 100 Nr50) (h : (ZM G 11 m_X12_roomy [.ref m, .ref r50, .ref r42, iv x] Z (zKc G 12 m_X12_best 58 [some (.ref m), some (iv x), some (.ref r42), some (.ref r50), none] [] Q))) : ZP G 12 m_X12_best 50 [some (.ref m), some (iv x), some (.ref r42), none, none] [.ref r50] Z Q := z_astore_n (pc' := 51) (j := 3) (ls' := [some (.ref m), some (iv x), some (.ref r42), some (.ref r50), none]) (by decide +kernel) (by decide) rfl rfl <| z_aload_n (pc' := 52) (j := 0) (by decide +kernel) rfl rfl <| z_aload_n (pc' := 53) (j := 3) (by decide +kernel) rfl rfl <| z_aload_n (pc' := 54) (j := 2) (by decide +kernel) rfl rfl <| z_iload_n (pc' := 55) (j := 1) (by decide +kernel) rfl rfl <| z_callV (pc' := 58) (idx := 313) (mj := m_X12_roomy) (av := [.ref r50, .ref r42, iv x]) (d' := 11) (by decide +kernel) rfl k_X12_roomy l_RX12_313 rfl (by omega) (am_le rfl) rfl (am_le rfl) hm.o.1 hm.o.2 rfl h
set_option maxRecDepth 20000 in
theorem b_X12_best_58 {G : Gx} {Q : Rv → Zm → Prop} {Z : Zm} {r42 : Nat} {r50 : Nat} {Nr50 : Nat} {m : Nat} {B : Nat} {x : Int} {s0 : Int} (hm : atModel Z m B) (hr42 : zA Z r42 100 20) (hr50 : zA Z r50 100 Nr50) (h : (ZP G 12 m_X12_best 60 [some (.ref m), some (iv x), some (.ref r42), some (.ref r50), some (iv s0)] [] Z Q)) : ZP G 12 m_X12_best 58 [some (.ref m), some (iv x), some (.ref r42), some (.ref r50), none] [iv s0] Z Q := z_istore (pc' := 60) (j := 4) (ls' := [some (.ref m), some (iv x), some (.ref r42), some (.ref r50), some (iv s0)]) (by decide +kernel) (by decide) rfl rfl <| h
set_option maxRecDepth 20000 in
theorem b_X12_best_60 {G : Gx} {Q : Rv → Zm → Prop} {Z : Zm} {r42 : Nat} {r50 : Nat} {Nr50 : Nat} {m : Nat} {B : Nat} {x : Int} {v4 : Int} (hm : atModel Z m B) (hr42 : zA Z r42 100 20) (hr50 : zA Z r50 100 Nr50) (h : (ZM G 11 m_X12_hasNext [.ref r50] Z (zKc G 12 m_X12_best 64 [some (.ref m), some (iv x), some (.ref r42), some (.ref r50), some (iv v4)] [] Q))) : ZP G 12 m_X12_best 60 [some (.ref m), some (iv x), some (.ref r42), some (.ref r50), some (iv v4)] [] Z Q := z_aload_n (pc' := 61) (j := 3) (by decide +kernel) rfl rfl <| z_callS (pc' := 64) (idx := 317) (mj := m_X12_hasNext) (av := [.ref r50]) (d' := 11) (by decide +kernel) rfl k_X12_hasNext l_RX12_317 rfl (by omega) (am_le rfl) rfl (am_le rfl) rfl h
set_option maxRecDepth 20000 in
theorem b_X12_best_64 {G : Gx} {Q : Rv → Zm → Prop} {Z : Zm} {r42 : Nat} {r50 : Nat} {Nr50 : Nat} {m : Nat} {B : Nat} {x : Int} {v4 : Int} {s0 : Int} (hm : atModel Z m B) (hr42 : zA Z r42 100 20) (hr50 : zA Z r50 100 Nr50) (h : ((R32 s0) ∧ (if s0 = 0 then (Q (.inl (some (iv v4))) Z) else (ZM G 11 m_X12_roomy [.ref m, .ref r50, .ref r42, iv x] Z (zKc G 12 m_X12_best 76 [some (.ref m), some (iv x), some (.ref r42), some (.ref r50), none] [iv v4] Q))))) : ZP G 12 m_X12_best 64 [some (.ref m), some (iv x), some (.ref r42), some (.ref r50), some (iv v4)] [iv s0] Z Q := h.elim fun c1 h => z_if_eq (pc' := 67) (tgt := 84) (off := 20) (by decide +kernel) (by decide) rfl c1 (am_ite h (fun h => z_iload (pc' := 86) (j := 4) (by decide +kernel) rfl rfl <| z_ireturn (by decide +kernel) ⟨_, rfl, rfl⟩ h) (fun h => z_iload (pc' := 69) (j := 4) (by decide +kernel) rfl rfl <| z_aload_n (pc' := 70) (j := 0) (by decide +kernel) rfl rfl <| z_aload_n (pc' := 71) (j := 3) (by decide +kernel) rfl rfl <| z_aload_n (pc' := 72) (j := 2) (by decide +kernel) rfl rfl <| z_iload_n (pc' := 73) (j := 1) (by decide +kernel) rfl rfl <| z_callV (pc' := 76) (idx := 313) (mj := m_X12_roomy) (av := [.ref r50, .ref r42, iv x]) (d' := 11) (by decide +kernel) rfl k_X12_roomy l_RX12_313 rfl (by omega) (am_le rfl) rfl (am_le rfl) hm.o.1 hm.o.2 rfl (ZM.mono h (zKc_wk (wk_some (wk_some (wk_some (wk_some (wk_none wk_nil)))))))))
set_option maxRecDepth 20000 in
theorem b_X12_best_76 {G : Gx} {Q : Rv → Zm → Prop} {Z : Zm} {r42 : Nat} {r50 : Nat} {Nr50 : Nat} {m : Nat} {B : Nat} {x : Int} {s0 : Int} {s1 : Int} (hm : atModel Z m B) (hr42 : zA Z r42 100 20) (hr50 : zA Z r50 100 Nr50) (h : ((R32 s1) ∧ (R32 s0) ∧ ZP G 12 m_X12_best 60 [some (.ref m), some (iv x), some (.ref r42), some (.ref r50), some (iv (min s1 s0))] [] Z Q)) : ZP G 12 m_X12_best 76 [some (.ref m), some (iv x), some (.ref r42), some (.ref r50), none] [iv s0, iv s1] Z Q := h.elim fun c1 h => h.elim fun c2 h => z_min (pc' := 79) (idx := 186) (by decide +kernel) (amM8 209 rfl (by decide +kernel)) (amM3 35 rfl (by decide +kernel)) (amM1 21 rfl (by decide +kernel)) (amM3 36 rfl (by decide +kernel)) (by omega) (am_le rfl) c1 c2 rfl <| z_istore (pc' := 81) (j := 4) (ls' := [some (.ref m), some (iv x), some (.ref r42), some (.ref r50), some (iv (min s1 s0))]) (by decide +kernel) (by decide) rfl rfl <| z_goto (tgt := 60) (off := -21) (by decide +kernel) (by decide) <| h
set_option maxRecDepth 20000 in
theorem e_X12_bestByLists {G : Gx} {Q : Rv → Zm → Prop} {Z : Zm} {m : Nat} {B : Nat} {x : Int} (hm : atModel Z m B) (h : ((R32 x) ∧ (R32 (zI Z B 0)) ∧ ∀ Z11, Z11 = zSI Z m (zu (zI Z m) 19 (fC (b2 (¬ (1 ≤ x ∧ x ≤ 4))) (b2 (¬ ((zI Z B 0) ≤ 6))) 0)) → (if 0 < fC (b2 (¬ (1 ≤ x ∧ x ≤ 4))) (b2 (¬ ((zI Z B 0) ≤ 6))) 0 then (Q (.inl (some (iv 0))) Z11) else (ZM G 11 m_X12_lengths [.ref m] Z11 (zKc G 12 m_X12_bestByLists 42 [some (.ref m), some (iv x), none, none, none, none] [] Q))))) : ZM G 12 m_X12_bestByLists [.ref m, iv x] Z Q := ZM.of [some (.ref m), some (iv x), none, none, none, none] rfl <| z_aload_n (pc' := 1) (j := 0) (by decide +kernel) rfl rfl <| z_iload_n (pc' := 2) (j := 1) (by decide +kernel) rfl rfl <| z_iconst (pc' := 3) (n := 1) (by decide +kernel) rfl <| z_iconst (pc' := 4) (n := 4) (by decide +kernel) rfl <| h.elim fun c1 h => z_callS (pc' := 7) (idx := 68) (mj := m_X12_in) (av := [iv x, iv 1, iv 4]) (d' := 0) (by decide +kernel) rfl k_X12_in l_RX12_68 rfl (by omega) (am_le rfl) rfl (am_le rfl) rfl <| zKf (s_in c1 (by decide : R32 1) (by decide : R32 4)) <| am_use (fun k4 => z_ifB_ne (pc' := 10) (tgt := 14) (off := 7) (by decide +kernel) (by decide) rfl (am_ite2 (fun q5 => z_iconst (pc' := 15) (n := 0) (by decide +kernel) rfl <| (am_jp (P := fun z9 => ZP G 12 m_X12_bestByLists 15 [some (.ref m), some (iv x), none, none, none, none] [iv z9, .ref m] _ Q) (b2_n q5) k4)) (fun q5 => z_iconst (pc' := 11) (n := 1) (by decide +kernel) rfl <| z_goto (tgt := 15) (off := 4) (by decide +kernel) (by decide) <| (am_jp (P := fun z9 => ZP G 12 m_X12_bestByLists 15 [some (.ref m), some (iv x), none, none, none, none] [iv z9, .ref m] _ Q) (b2_nn q5) k4)))) <| z_aload_n (pc' := 16) (j := 0) (by decide +kernel) rfl rfl <| z_callV (pc' := 19) (idx := 64) (mj := m_X12_many) (av := []) (d' := 0) (by decide +kernel) rfl k_X12_many l_RX12_64 rfl (by omega) (am_le rfl) rfl (am_le rfl) hm.o.1 hm.o.2 rfl <| zKf (s_many hm) <| z_bipush (pc' := 21) (n := 6) (by decide +kernel) (by decide) rfl <| h.elim fun c6 h => am_use (fun k9 => z_icmp_le (pc' := 24) (tgt := 28) (off := 7) (by decide +kernel) (by decide) rfl c6 (by decide : R32 6) (am_ite2 (fun q10 => z_iconst (pc' := 29) (n := 0) (by decide +kernel) rfl <| (am_jp (P := fun z9 => ZP G 12 m_X12_bestByLists 29 [some (.ref m), some (iv x), none, none, none, none] [iv z9, iv (b2 (¬ (1 ≤ x ∧ x ≤ 4))), .ref m] _ Q) (b2_n q10) k9)) (fun q10 => z_iconst (pc' := 25) (n := 1) (by decide +kernel) rfl <| z_goto (tgt := 29) (off := 4) (by decide +kernel) (by decide) <| (am_jp (P := fun z9 => ZP G 12 m_X12_bestByLists 29 [some (.ref m), some (iv x), none, none, none, none] [iv z9, iv (b2 (¬ (1 ≤ x ∧ x ≤ 4))), .ref m] _ Q) (b2_nn q10) k9)))) <| z_iconst (pc' := 30) (n := 0) (by decide +kernel) rfl <| z_callV (pc' := 33) (idx := 133) (mj := m_X12_fails) (av := [iv (b2 (¬ (1 ≤ x ∧ x ≤ 4))), iv (b2 (¬ ((zI Z B 0) ≤ 6))), iv 0]) (d' := 0) (by decide +kernel) rfl k_X12_fails l_RX12_133 rfl (by omega) (am_le rfl) rfl (am_le rfl) hm.o.1 hm.o.2 rfl <| zKf (s_fails hm (b2_01 _) (b2_01 _) (Or.inl rfl)) <| have h := h _ rfl; z_ifB_eq (pc' := 36) (tgt := 38) (off := 5) (by decide +kernel) (by decide) rfl (am_ite h (fun h => z_iconst (pc' := 37) (n := 0) (by decide +kernel) rfl <| z_ireturn (by decide +kernel) ⟨_, rfl, rfl⟩ h) (fun h => z_aload_n (pc' := 39) (j := 0) (by decide +kernel) rfl rfl <| z_callV (pc' := 42) (idx := 123) (mj := m_X12_lengths) (av := []) (d' := 11) (by decide +kernel) rfl k_X12_lengths l_RX12_123 rfl (by omega) (am_le rfl) rfl (am_le rfl) hm.o.1 hm.o.2 rfl h))
set_option maxRecDepth 20000 in
theorem b_X12_bestByLists_42 {G : Gx} {Q : Rv → Zm → Prop} {Z : Zm} {r42 : Nat} {m : Nat} {B : Nat} {x : Int}  (hm : atModel Z m B) (hr42 : zA Z r42 100 20) (h : ((zSz Z < 1000000) ∧ ∀ Z2, Z2 = zC Z 100 1 1 → ∀ Z3, Z3 = zSI Z2 (zSz Z) (zu (zI Z2 (zSz Z)) 0 x) → ZM G 11 m_X12_numbers [iv (zI Z3 B 0)] Z3 (zKc G 12 m_X12_bestByLists 58 [some (.ref m), none, some (.ref r42), some (.ref (zSz Z)), none, none] [] Q))) : ZP G 12 m_X12_bestByLists 42 [some (.ref m), some (iv x), none, none, none, none] [.ref r42] Z Q := z_astore_n (pc' := 43) (j := 2) (ls' := [some (.ref m), some (iv x), some (.ref r42), none, none, none]) (by decide +kernel) (by decide) rfl rfl <| z_iconst (pc' := 44) (n := 1) (by decide +kernel) rfl <| h.elim fun c1 h => z_new100 (pc' := 46) (by decide +kernel) (amM1 88 rfl (by decide +kernel)) (by decide) (by decide) c1 rfl <| have h := h _ rfl; z_dup (pc' := 47) (by decide +kernel) rfl rfl <| z_iconst (pc' := 48) (n := 0) (by decide +kernel) rfl <| z_iload_n (pc' := 49) (j := 1) (by decide +kernel) rfl rfl <| z_iastore (pc' := 50) (by decide +kernel) (zA_C _ _ _ _) ⟨by decide, by decide, by decide⟩ rfl <| have h := h _ rfl; z_astore_n (pc' := 51) (j := 3) (ls' := [some (.ref m), some (iv x), some (.ref r42), some (.ref (zSz Z)), none, none]) (by decide +kernel) (by decide) rfl rfl <| z_aload_n (pc' := 52) (j := 0) (by decide +kernel) rfl rfl <| z_callV (pc' := 55) (idx := 64) (mj := m_X12_many) (av := []) (d' := 0) (by decide +kernel) rfl k_X12_many l_RX12_64 rfl (by omega) (am_le rfl) rfl (am_le rfl) (hm.o.ext (zX_C Z 100 1 1)).1 (hm.o.ext (zX_C Z 100 1 1)).2 rfl <| zKf (s_many (hm.ext (zX_C Z 100 1 1))) <| z_callS (pc' := 58) (idx := 309) (mj := m_X12_numbers) (av := [iv (zI (zSI (zC Z 100 1 1) (zSz Z) (zu (zI (zC Z 100 1 1) (zSz Z)) 0 x)) B 0)]) (d' := 11) (by decide +kernel) rfl k_X12_numbers l_RX12_309 rfl (by omega) (am_le rfl) rfl (am_le rfl) rfl (ZM.mono h (zKc_wk (wk_some (wk_none (wk_some (wk_some (wk_none (wk_none wk_nil))))))))
set_option maxRecDepth 20000 in
theorem b_X12_bestByLists_58 {G : Gx} {Q : Rv → Zm → Prop} {Z : Zm} {r42 : Nat} {a44 : Nat} {r58 : Nat} {Nr58 : Nat} {m : Nat} {B : Nat}  (hm : atModel Z m B) (hr42 : zA Z r42 100 20) (ha44 : zA Z a44 100 1) (hr58 : zA Z r58 100 Nr58) (h : (ZM G 11 m_X12_free [.ref m, .ref r58, .ref r42, .ref a44, iv 1, iv (-1)] Z (zKc G 12 m_X12_bestByLists 70 [some (.ref m), none, some (.ref r42), some (.ref a44), some (.ref r58), none] [] Q))) : ZP G 12 m_X12_bestByLists 58 [some (.ref m), none, some (.ref r42), some (.ref a44), none, none] [.ref r58] Z Q := z_astore (pc' := 60) (j := 4) (ls' := [some (.ref m), none, some (.ref r42), some (.ref a44), some (.ref r58), none]) (by decide +kernel) (by decide) rfl rfl <| z_aload_n (pc' := 61) (j := 0) (by decide +kernel) rfl rfl <| z_aload (pc' := 63) (j := 4) (by decide +kernel) rfl rfl <| z_aload_n (pc' := 64) (j := 2) (by decide +kernel) rfl rfl <| z_aload_n (pc' := 65) (j := 3) (by decide +kernel) rfl rfl <| z_iconst (pc' := 66) (n := 1) (by decide +kernel) rfl <| z_iconst (pc' := 67) (n := -1) (by decide +kernel) rfl <| z_callV (pc' := 70) (idx := 268) (mj := m_X12_free) (av := [.ref r58, .ref r42, .ref a44, iv 1, iv (-1)]) (d' := 11) (by decide +kernel) rfl k_X12_free l_RX12_268 rfl (by omega) (am_le rfl) rfl (am_le rfl) hm.o.1 hm.o.2 rfl h
set_option maxRecDepth 20000 in
theorem b_X12_bestByLists_70 {G : Gx} {Q : Rv → Zm → Prop} {Z : Zm} {r42 : Nat} {a44 : Nat} {r58 : Nat} {Nr58 : Nat} {m : Nat} {B : Nat} {s0 : Int} (hm : atModel Z m B) (hr42 : zA Z r42 100 20) (ha44 : zA Z a44 100 1) (hr58 : zA Z r58 100 Nr58) (h : (ZP G 12 m_X12_bestByLists 72 [some (.ref m), none, some (.ref r42), some (.ref a44), some (.ref r58), some (iv s0)] [] Z Q)) : ZP G 12 m_X12_bestByLists 70 [some (.ref m), none, some (.ref r42), some (.ref a44), some (.ref r58), none] [iv s0] Z Q := z_istore (pc' := 72) (j := 5) (ls' := [some (.ref m), none, some (.ref r42), some (.ref a44), some (.ref r58), some (iv s0)]) (by decide +kernel) (by decide) rfl rfl <| h
set_option maxRecDepth 20000 in
theorem b_X12_bestByLists_72 {G : Gx} {Q : Rv → Zm → Prop} {Z : Zm} {r42 : Nat} {a44 : Nat} {r58 : Nat} {Nr58 : Nat} {m : Nat} {B : Nat} {v5 : Int} (hm : atModel Z m B) (hr42 : zA Z r42 100 20) (ha44 : zA Z a44 100 1) (hr58 : zA Z r58 100 Nr58) (h : (ZM G 11 m_X12_hasNext [.ref r58] Z (zKc G 12 m_X12_bestByLists 77 [some (.ref m), none, some (.ref r42), some (.ref a44), some (.ref r58), some (iv v5)] [] Q))) : ZP G 12 m_X12_bestByLists 72 [some (.ref m), none, some (.ref r42), some (.ref a44), some (.ref r58), some (iv v5)] [] Z Q := z_aload (pc' := 74) (j := 4) (by decide +kernel) rfl rfl <| z_callS (pc' := 77) (idx := 317) (mj := m_X12_hasNext) (av := [.ref r58]) (d' := 11) (by decide +kernel) rfl k_X12_hasNext l_RX12_317 rfl (by omega) (am_le rfl) rfl (am_le rfl) rfl h
set_option maxRecDepth 20000 in
theorem b_X12_bestByLists_77 {G : Gx} {Q : Rv → Zm → Prop} {Z : Zm} {r42 : Nat} {a44 : Nat} {r58 : Nat} {Nr58 : Nat} {m : Nat} {B : Nat} {v5 : Int} {s0 : Int} (hm : atModel Z m B) (hr42 : zA Z r42 100 20) (ha44 : zA Z a44 100 1) (hr58 : zA Z r58 100 Nr58) (h : ((R32 s0) ∧ (if s0 = 0 then (Q (.inl (some (iv v5))) Z) else (ZM G 11 m_X12_free [.ref m, .ref r58, .ref r42, .ref a44, iv 1, iv (-1)] Z (zKc G 12 m_X12_bestByLists 92 [some (.ref m), none, some (.ref r42), some (.ref a44), some (.ref r58), none] [iv v5] Q))))) : ZP G 12 m_X12_bestByLists 77 [some (.ref m), none, some (.ref r42), some (.ref a44), some (.ref r58), some (iv v5)] [iv s0] Z Q := h.elim fun c1 h => z_if_eq (pc' := 80) (tgt := 100) (off := 23) (by decide +kernel) (by decide) rfl c1 (am_ite h (fun h => z_iload (pc' := 102) (j := 5) (by decide +kernel) rfl rfl <| z_ireturn (by decide +kernel) ⟨_, rfl, rfl⟩ h) (fun h => z_iload (pc' := 82) (j := 5) (by decide +kernel) rfl rfl <| z_aload_n (pc' := 83) (j := 0) (by decide +kernel) rfl rfl <| z_aload (pc' := 85) (j := 4) (by decide +kernel) rfl rfl <| z_aload_n (pc' := 86) (j := 2) (by decide +kernel) rfl rfl <| z_aload_n (pc' := 87) (j := 3) (by decide +kernel) rfl rfl <| z_iconst (pc' := 88) (n := 1) (by decide +kernel) rfl <| z_iconst (pc' := 89) (n := -1) (by decide +kernel) rfl <| z_callV (pc' := 92) (idx := 268) (mj := m_X12_free) (av := [.ref r58, .ref r42, .ref a44, iv 1, iv (-1)]) (d' := 11) (by decide +kernel) rfl k_X12_free l_RX12_268 rfl (by omega) (am_le rfl) rfl (am_le rfl) hm.o.1 hm.o.2 rfl (ZM.mono h (zKc_wk (wk_some (wk_none (wk_some (wk_some (wk_some (wk_none wk_nil))))))))))
set_option maxRecDepth 20000 in
theorem b_X12_bestByLists_92 {G : Gx} {Q : Rv → Zm → Prop} {Z : Zm} {r42 : Nat} {a44 : Nat} {r58 : Nat} {Nr58 : Nat} {m : Nat} {B : Nat} {s0 : Int} {s1 : Int} (hm : atModel Z m B) (hr42 : zA Z r42 100 20) (ha44 : zA Z a44 100 1) (hr58 : zA Z r58 100 Nr58) (h : ((R32 s1) ∧ (R32 s0) ∧ ZP G 12 m_X12_bestByLists 72 [some (.ref m), none, some (.ref r42), some (.ref a44), some (.ref r58), some (iv (min s1 s0))] [] Z Q)) : ZP G 12 m_X12_bestByLists 92 [some (.ref m), none, some (.ref r42), some (.ref a44), some (.ref r58), none] [iv s0, iv s1] Z Q := h.elim fun c1 h => h.elim fun c2 h => z_min (pc' := 95) (idx := 186) (by decide +kernel) (amM8 209 rfl (by decide +kernel)) (amM3 35 rfl (by decide +kernel)) (amM1 21 rfl (by decide +kernel)) (amM3 36 rfl (by decide +kernel)) (by omega) (am_le rfl) c1 c2 rfl <| z_istore (pc' := 97) (j := 5) (ls' := [some (.ref m), none, some (.ref r42), some (.ref a44), some (.ref r58), some (iv (min s1 s0))]) (by decide +kernel) (by decide) rfl rfl <| z_goto (tgt := 72) (off := -25) (by decide +kernel) (by decide) <| h
/-! ===== the model's best ===== -/
theorem mLs_of {Z : Zm} {k : Bk} {H : Int} {l : Nat} {L : Nat → Nat} (hl : zA Z l 100 (kN k)) (h1 : 322 ≤ l) (hp : pm (kN k) (fun i => i) L) (e : ∀ i, i < kN k → zI Z l i = (L i : Int)) : mLs Z (P1 k H) l L := ⟨hl, by omega, by omega, pm.okL (P := P1 k H) hp, e⟩
theorem id_asc (N : Nat) : ∀ i, i + 1 < N → (fun i => i : Nat → Nat) i < (fun i => i : Nat → Nat) (i + 1) := fun i _ => Nat.lt_succ_self i
/-- a world behind some tries -/
def mW (Z : Zm) (l : Nat) (N : Nat) (W : Zm) (p : Nat → Nat) : Prop := zF (fun a => mS a ∨ a = l) 0 0 Z W ∧ ∀ i, i < N → zI W l i = (p i : Int)
theorem mW.tr {Z W : Zm} {l N : Nat} {p : Nat → Nat} (h : mW Z l N W p) (hl : 322 ≤ l) (f g : Nat → Int) : mW Z l N (zSI (zSI W 315 f) 316 g) p := by
  refine ⟨(h.1.trans (zF_I (Or.inl (by unfold mS zB; omega)))).trans (zF_I (Or.inl (by unfold mS zB; omega))), fun i hi => ?_⟩
  rw [zI_other (by omega), zI_other (by omega)]
  exact h.2 i hi
theorem mW.put {Z W : Zm} {l N : Nat} {p q : Nat → Nat} {f : Nat → Int} (h : mW Z l N W p) (hf : ∀ i, i < N → f i = (q i : Int)) : mW Z l N (zSI W l f) q := ⟨h.1.trans (zF_I (Or.inr rfl)), fun i hi => by rw [zI_same]; exact hf i hi⟩
theorem seen.be {k : Bk} {H v : Int} {p : Nat → Nat} (h : seen (kN k) (fun i => i) (rvB k H) p v) (hp : pm (kN k) (fun i => i) p) (hd : ∀ i, i + 1 < kN k → p (i + 1) < p i) : isBe k H v := by
  obtain ⟨⟨L, -, S, a, b, -⟩, c⟩ := h.last hp hd
  refine ⟨⟨S, a, b⟩, fun S' hS' => ?_⟩
  obtain ⟨T, hT, le⟩ := tg_of hS'
  obtain ⟨L0, ls⟩ := isLs_ex T (kN k)
  obtain ⟨L', w, e, ⟨R, r1, r2, r3⟩, l⟩ := c L0 ls.pm
  have eq := r3 T hT (ls.congr e)
  have : enS k R = enS k T := zmax_eq fun t ht => by rw [eq t ht]
  omega
def rvL (k : Bk) (H : Int) (L : Nat → Nat) (v : Int) : Prop := okL (P1 k H) L ∧ v = enS k (simE (P1 k H) L).1
theorem seen.bl {k : Bk} (ho : kOk k) {H v : Int} (hH : 1 ≤ H ∧ H ≤ 4) {p : Nat → Nat} (h : seen (kN k) (fun i => i) (rvL k H) p v) (hp : pm (kN k) (fun i => i) p) (hd : ∀ i, i + 1 < kN k → p (i + 1) < p i) : isBl k H v := by
  obtain ⟨⟨L, -, a, b⟩, c⟩ := h.last hp hd
  refine ⟨⟨_, sim_fs ho hH a, b⟩, fun S hS hn => ?_⟩
  obtain ⟨L0, ls⟩ := isLs_ex S (kN k)
  obtain ⟨L', w, e, ⟨r1, r2⟩, l⟩ := c L0 ls.pm
  have eq := sim_of ho hH hS hn (ls.congr e)
  have : enS k (simE (P1 k H) L').1 = enS k S := zmax_eq fun t ht => by rw [eq t ht]
  omega
theorem d_best {G : Gx} {Z : Zm} {B : Nat} {σ : St} {x : Int} (h : IMb Z B σ) (ho : okS σ) (hz : 322 ≤ zSz Z ∧ zSz Z < 990000) (hx : R32 x) : ZM G 12 m_X12_best [.ref 300, iv x] Z (rM Z iv (o_best σ x)) := by
  have hN := ho.1.n
  have h0 := h.2.2.1.1
  refine e_X12_best h.1 ⟨hx, by rw [h0]; omega, ?_⟩
  rintro _ rfl
  rw [h0]
  unfold o_best
  by_cases c1 : 1 ≤ x ∧ x ≤ 4
  case neg =>
    rw [cIf_f c1, fC_1 (P := ¬ (1 ≤ x ∧ x ≤ 4)) c1, if_pos (by decide)]
    exact rM.no h (by decide) rfl
  rw [cIf_p c1]
  by_cases c2 : kN (sK σ) ≤ 6
  case neg =>
    rw [cIf_f c2, fC_2 (P := ¬ (1 ≤ x ∧ x ≤ 4)) (Q := ¬ ((kN (sK σ) : Int) ≤ 6)) (fun q => q c1) (by omega), if_pos (by decide)]
    exact rM.no h (by decide) rfl
  rw [cIf_p c2, fC_o2 (P := ¬ (1 ≤ x ∧ x ≤ 4)) (Q := ¬ ((kN (sK σ) : Int) ≤ 6)) (fun q => q c1) (by omega), if_neg (by decide)]
  refine ((m_len (h.t 0) ho.T ⟨hz.1, by show zSz Z < 999000; omega⟩).deeper (by omega)).mono ?_
  rintro r Y ⟨rfl, fY, hY, vY⟩
  have zY : 322 ≤ zSz Y ∧ zSz Y < 999000 := ⟨Nat.le_trans hz.1 fY.sz, by have := fY.2.1.1; have e : zSz (zT Z 0) = zSz Z := rfl; omega⟩
  generalize eu : zSz (zT Z 0) = u at *
  refine b_X12_best_42 hY.1 vY.1 ?_
  rw [hY.2.2.1.1]
  refine ((s_numbers (by omega) (by omega)).deeper (by omega)).mono ?_
  rintro r X ⟨rfl, fX, aX, eX⟩
  generalize el : zSz Y = l at *
  have zY1 : 322 ≤ zSz Y := by rw [el]; exact zY.1
  have hX := hY.n zY1 fX
  have vX := vY.fr (zNo_m fX)
  have ul : u ≠ l := fun e => by have := vY.1.1; omega
  have cx : ∀ W p, mW X l (kN (sK σ)) W p → mCx W B u (P1 (sK σ) x) := fun W p hW => by
    have hB := hX.big (by have := fX.sz; omega)
    have hB2 : B < l := by have := hY.1.a0.1; omega
    refine ⟨hX.1.ext hW.1.1, hX.2.2.1.frame hX.1.a0.1 hW.1 (by unfold mS zB; omega), P1_ok ho.1 c1, hX.2.1, vX.1.ext hW.1.1, by have := vX.2.1; omega, by have := vX.2.1; omega, fun t ht => ?_⟩
    rw [hW.1.i vX.1.1 (by have := vX.2.1; unfold mS zB; omega)]
    exact vX.2.2 t ht
  have ls : ∀ W p, mW X l (kN (sK σ)) W p → pm (kN (sK σ)) (fun i => i) p → mLs W (P1 (sK σ) x) l p := fun W p hW hp => mLs_of (aX.ext hW.1.1) (by omega) hp hW.2
  have w0 : mW X l (kN (sK σ)) X (fun i => i) := ⟨zF.refl, eX⟩
  have iW : ∀ W p, mW X l (kN (sK σ)) W p → IMb W B σ := fun W p hW => by
    have hB2 : B < l := by have := hY.1.a0.1; omega
    have f2 : zF mS 1 (kN (sK σ)) Y W := (fX.mono (T := mS) (fun _ g => g.elim) (Nat.le_refl _) (Nat.le_refl _)).tr hW.1 (c' := 0) (w' := 0) fun a ha q => q.resolve_right (by omega)
    exact hY.m zY1 f2
  refine b_X12_best_50 hX.1 vX.1 aX (((s_roomy (cx X _ w0) c1 (ls X _ w0 (pm.self _))).deeper (by omega)).mono ?_)
  rintro r W ⟨⟨v, rfl, rv, v1, v2⟩, f, g, rfl⟩
  have w1 := w0.tr (by omega) f g
  refine b_X12_best_58 (iW _ _ w1).1 (vX.1.ext w1.1.1) (aX.ext w1.1.1) ?_
  suffices key : ∀ m p, pm (kN (sK σ)) (fun i => i) p → lxb (kN (sK σ)) ≤ lxv p (kN (sK σ)) + m → ∀ W v, mW X l (kN (sK σ)) W p → seen (kN (sK σ)) (fun i => i) (rvB (sK σ) x) p v → 0 ≤ v ∧ v ≤ 10000 → ZP G 12 m_X12_best 60 [some (.ref 300), some (iv x), some (.ref u), some (.ref l), some (iv v)] [] W (rM Z iv (0, vBe (sK σ) x, σ)) from key (lxb (kN (sK σ))) _ (pm.self _) (by omega) _ v w1 (seen.first (id_asc _) (pm.self _) rv) ⟨v1, v2⟩
  intro m
  induction m with
  | zero =>
    intro p hp hm
    have := lxv_b (p := p) (kN (sK σ)) fun i hi => by
      obtain ⟨j, hj, e⟩ := hp.1 i hi
      have e : p i = j := e
      omega
    omega
  | succ m ih =>
    intro p hp hm W v hW sn vr
    have pb : ∀ i, i < kN (sK σ) → p i < 20 := fun i hi => by
      obtain ⟨j, hj, e⟩ := hp.1 i hi
      have e : p i = j := e
      omega
    refine b_X12_best_60 (iW _ _ hW).1 (vX.1.ext hW.1.1) (aX.ext hW.1.1) (((s_hasNext (aX.ext hW.1.1) (by omega) hW.2 pb hp.2).deeper (by omega)).mono ?_)
    rintro r V (⟨rfl, hV, de⟩ | ⟨rfl, pl, ot, f, nx, rfl, hf⟩)
    · obtain rfl := hV.symm
      refine b_X12_best_64 (iW _ _ hW).1 (vX.1.ext hW.1.1) (aX.ext hW.1.1) ⟨by decide, ?_⟩
      rw [if_pos rfl]
      have f2 : zF mS 1 (kN (sK σ)) Y W := (fX.mono (T := mS) (fun _ g => g.elim) (Nat.le_refl _) (Nat.le_refl _)).tr hW.1 (c' := 0) (w' := 0) fun a ha q => q.resolve_right (by omega)
      obtain ⟨V, e0⟩ := mS_t (fY.trans f2) hz.1
      exact rM.ok (iW _ _ hW) e0 V (by omega) (by omega) (vBe_of (sn.be hp de))
    · have w2 := hW.put hf
      have hp2 := hp.nx nx.2.2.2.1 nx.2.2.2.2.1
      refine b_X12_best_64 (iW _ _ w2).1 (vX.1.ext w2.1.1) (aX.ext w2.1.1) ⟨by decide, ?_⟩
      rw [if_neg (by decide)]
      refine ((s_roomy (cx _ _ w2) c1 (ls _ _ w2 hp2)).deeper (by omega)).mono ?_
      rintro r V ⟨⟨w, rfl, rw', v3, v4⟩, f', g', rfl⟩
      have w3 := w2.tr (by omega) f' g'
      refine b_X12_best_76 (iW _ _ w3).1 (vX.1.ext w3.1.1) (aX.ext w3.1.1) ⟨by omega, by omega, ?_⟩
      have lt := lxv_nx nx pb
      exact ih _ hp2 (by omega) _ _ w3 (sn.next hp nx rw') (by omega)
theorem d_bestByLists {G : Gx} {Z : Zm} {B : Nat} {σ : St} {x : Int} (h : IMb Z B σ) (ho : okS σ) (hz : 322 ≤ zSz Z ∧ zSz Z < 990000) (hx : R32 x) : ZM G 12 m_X12_bestByLists [.ref 300, iv x] Z (rM Z iv (o_bestByLists σ x)) := by
  have hN := ho.1.n
  have h0 := h.2.2.1.1
  refine e_X12_bestByLists h.1 ⟨hx, by rw [h0]; omega, ?_⟩
  rintro _ rfl
  rw [h0]
  unfold o_bestByLists
  by_cases c1 : 1 ≤ x ∧ x ≤ 4
  case neg =>
    rw [cIf_f c1, fC_1 (P := ¬ (1 ≤ x ∧ x ≤ 4)) c1, if_pos (by decide)]
    exact rM.no h (by decide) rfl
  rw [cIf_p c1]
  by_cases c2 : kN (sK σ) ≤ 6
  case neg =>
    rw [cIf_f c2, fC_2 (P := ¬ (1 ≤ x ∧ x ≤ 4)) (Q := ¬ ((kN (sK σ) : Int) ≤ 6)) (fun q => q c1) (by omega), if_pos (by decide)]
    exact rM.no h (by decide) rfl
  rw [cIf_p c2, fC_o2 (P := ¬ (1 ≤ x ∧ x ≤ 4)) (Q := ¬ ((kN (sK σ) : Int) ≤ 6)) (fun q => q c1) (by omega), if_neg (by decide)]
  refine ((m_len (h.t 0) ho.T ⟨hz.1, by show zSz Z < 999000; omega⟩).deeper (by omega)).mono ?_
  rintro r Y0 ⟨rfl, fY0, hY0, vY0⟩
  have zY0 : 322 ≤ zSz Y0 ∧ zSz Y0 < 999000 := ⟨Nat.le_trans hz.1 fY0.sz, by have := fY0.2.1.1; have e : zSz (zT Z 0) = zSz Z := rfl; omega⟩
  generalize eu : zSz (zT Z 0) = u at *
  refine b_X12_bestByLists_42 hY0.1 vY0.1 ⟨by omega, ?_⟩
  rintro _ rfl
  rintro _ rfl
  have fq : zF zNo 1 1 Y0 (zSI (zC Y0 100 1 1) (zSz Y0) (zu (zI (zC Y0 100 1 1) (zSz Y0)) 0 x)) := zF_mk
  have aq : zA (zSI (zC Y0 100 1 1) (zSz Y0) (zu (zI (zC Y0 100 1 1) (zSz Y0)) 0 x)) (zSz Y0) 100 1 := zA_C Y0 100 1 1
  have eq0 : zI (zSI (zC Y0 100 1 1) (zSz Y0) (zu (zI (zC Y0 100 1 1) (zSz Y0)) 0 x)) (zSz Y0) 0 = x := by rw [zI_same, zu_same]
  have szq : zSz (zSI (zC Y0 100 1 1) (zSz Y0) (zu (zI (zC Y0 100 1 1) (zSz Y0)) 0 x)) = zSz Y0 + 1 := rfl
  generalize zSI (zC Y0 100 1 1) (zSz Y0) (zu (zI (zC Y0 100 1 1) (zSz Y0)) 0 x) = Y at *
  have hY := hY0.n zY0.1 fq
  have vY := vY0.fr (zNo_m fq)
  have fY := fY0.trans (zNo_m fq)
  have zY : 322 ≤ zSz Y ∧ zSz Y < 999500 := by omega
  generalize eq : zSz Y0 = q at *
  rw [hY.2.2.1.1]
  refine ((s_numbers (by omega) (by omega)).deeper (by omega)).mono ?_
  rintro r X ⟨rfl, fX, aX, eX⟩
  generalize el : zSz Y = l at *
  have zY1 : 322 ≤ zSz Y := by rw [el]; exact zY.1
  have hX := hY.n zY1 fX
  have vX := vY.fr (zNo_m fX)
  have qX := aq.ext fX.1
  have eqX : zI X q 0 = x := by
    rw [fX.i aq.1 (fun g => g)]
    exact eq0
  have ul : u ≠ l := fun e => by have := vY.1.1; omega
  have cx : ∀ W p, mW X l (kN (sK σ)) W p → mCx W B u (P1 (sK σ) x) := fun W p hW => by
    have hB := hX.big (by have := fX.sz; omega)
    have hB2 : B < l := by have := hY.1.a0.1; omega
    refine ⟨hX.1.ext hW.1.1, hX.2.2.1.frame hX.1.a0.1 hW.1 (by unfold mS zB; omega), P1_ok ho.1 c1, hX.2.1, vX.1.ext hW.1.1, by have := vX.2.1; omega, by have := vX.2.1; omega, fun t ht => ?_⟩
    rw [hW.1.i vX.1.1 (by have := vX.2.1; unfold mS zB; omega)]
    exact vX.2.2 t ht
  have hd : ∀ W p, mW X l (kN (sK σ)) W p → mHd W (P1 (sK σ) x) q 1 1 := fun W p hW => by
    refine ⟨qX.ext hW.1.1, by omega, by omega, by omega, Or.inr ⟨rfl, fun t ht => ⟨rfl, rfl⟩, by omega, ?_⟩⟩
    rw [hW.1.i qX.1 (by unfold mS zB; omega)]
    exact eqX
  have ls : ∀ W p, mW X l (kN (sK σ)) W p → pm (kN (sK σ)) (fun i => i) p → mLs W (P1 (sK σ) x) l p := fun W p hW hp => mLs_of (aX.ext hW.1.1) (by omega) hp hW.2
  have w0 : mW X l (kN (sK σ)) X (fun i => i) := ⟨zF.refl, eX⟩
  have f2 : ∀ W p, mW X l (kN (sK σ)) W p → zF mS 1 (kN (sK σ)) Y W := fun W p hW => (fX.mono (T := mS) (fun _ g => g.elim) (Nat.le_refl _) (Nat.le_refl _)).tr hW.1 (c' := 0) (w' := 0) fun a ha q => q.resolve_right (by omega)
  have iW : ∀ W p, mW X l (kN (sK σ)) W p → IMb W B σ := fun W p hW => hY.m zY1 (f2 W p hW)
  have rv0 : ∀ p, pm (kN (sK σ)) (fun i => i) p → rvL (sK σ) x p (enS (sK σ) (simE (P1 (sK σ) x) p).1) := fun p hp => ⟨pm.okL (P := P1 (sK σ) x) hp, rfl⟩
  have rr : ∀ p, pm (kN (sK σ)) (fun i => i) p → 0 ≤ enS (sK σ) (simE (P1 (sK σ) x) p).1 ∧ enS (sK σ) (simE (P1 (sK σ) x) p).1 ≤ 10000 := fun p hp => by
    obtain ⟨a, b⟩ := sim_fs ho.1 c1 (rv0 p hp).1
    have := ndl_bound ho.1 a b c1.1
    have := fs_len ho.1
    exact ⟨zmax_0 _ _, by omega⟩
  have fr : ∀ W p, mW X l (kN (sK σ)) W p → pm (kN (sK σ)) (fun i => i) p → ZM G 2 m_X12_free [.ref 300, .ref l, .ref u, .ref q, iv 1, iv (-1)] W (fun r V => r = .inl (some (iv (enS (sK σ) (simE (P1 (sK σ) x) p).1))) ∧ mW X l (kN (sK σ)) V p) := fun W p hW hp => (s_free (P := P1 (sK σ) x) (cx W p hW) (by show R32 (-1); decide) (hd W p hW) (ls W p hW hp)).mono fun r V g => by
    obtain ⟨g1, ⟨f', g', rfl⟩, -⟩ := g
    exact ⟨g1, hW.tr (by omega) f' g'⟩
  refine b_X12_bestByLists_58 hX.1 vX.1 qX aX (((fr X _ w0 (pm.self _)).deeper (by omega)).mono ?_)
  rintro r W ⟨rfl, w1⟩
  refine b_X12_bestByLists_70 (iW _ _ w1).1 (vX.1.ext w1.1.1) (qX.ext w1.1.1) (aX.ext w1.1.1) ?_
  suffices key : ∀ m p, pm (kN (sK σ)) (fun i => i) p → lxb (kN (sK σ)) ≤ lxv p (kN (sK σ)) + m → ∀ W v, mW X l (kN (sK σ)) W p → seen (kN (sK σ)) (fun i => i) (rvL (sK σ) x) p v → 0 ≤ v ∧ v ≤ 10000 → ZP G 12 m_X12_bestByLists 72 [some (.ref 300), none, some (.ref u), some (.ref q), some (.ref l), some (iv v)] [] W (rM Z iv (0, vBl (sK σ) x, σ)) from key (lxb (kN (sK σ))) _ (pm.self _) (by omega) _ _ w1 (seen.first (id_asc _) (pm.self _) (rv0 _ (pm.self _))) (rr _ (pm.self _))
  intro m
  induction m with
  | zero =>
    intro p hp hm
    have := lxv_b (p := p) (kN (sK σ)) fun i hi => by
      obtain ⟨j, hj, e⟩ := hp.1 i hi
      have e : p i = j := e
      omega
    omega
  | succ m ih =>
    intro p hp hm W v hW sn vr
    have pb : ∀ i, i < kN (sK σ) → p i < 20 := fun i hi => by
      obtain ⟨j, hj, e⟩ := hp.1 i hi
      have e : p i = j := e
      omega
    refine b_X12_bestByLists_72 (iW _ _ hW).1 (vX.1.ext hW.1.1) (qX.ext hW.1.1) (aX.ext hW.1.1) (((s_hasNext (aX.ext hW.1.1) (by omega) hW.2 pb hp.2).deeper (by omega)).mono ?_)
    rintro r V (⟨rfl, hV, de⟩ | ⟨rfl, pl, ot, f, nx, rfl, hf⟩)
    · obtain rfl := hV.symm
      refine b_X12_bestByLists_77 (iW _ _ hW).1 (vX.1.ext hW.1.1) (qX.ext hW.1.1) (aX.ext hW.1.1) ⟨by decide, ?_⟩
      rw [if_pos rfl]
      obtain ⟨V, e0⟩ := mS_t (fY.trans (f2 _ _ hW)) hz.1
      exact rM.ok (iW _ _ hW) e0 V (by omega) (by omega) (vBl_of (sn.bl ho.1 c1 hp de))
    · have w2 := hW.put hf
      have hp2 := hp.nx nx.2.2.2.1 nx.2.2.2.2.1
      refine b_X12_bestByLists_77 (iW _ _ w2).1 (vX.1.ext w2.1.1) (qX.ext w2.1.1) (aX.ext w2.1.1) ⟨by decide, ?_⟩
      rw [if_neg (by decide)]
      refine ((fr _ _ w2 hp2).deeper (by omega)).mono ?_
      rintro r V ⟨rfl, w3⟩
      have r3 := rr _ hp2
      refine b_X12_bestByLists_92 (iW _ _ w3).1 (vX.1.ext w3.1.1) (qX.ext w3.1.1) (aX.ext w3.1.1) ⟨by omega, by omega, ?_⟩
      have lt := lxv_nx nx pb
      exact ih _ hp2 (by omega) _ _ w3 (sn.next hp nx (rv0 _ hp2)) (by omega)
