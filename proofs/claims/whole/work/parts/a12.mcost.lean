set_option maxRecDepth 20000 in
theorem e_X12_cuts {G : Gx} {Q : Rv → Zm → Prop} {Z : Zm} {m : Nat} {B : Nat} (hm : atModel Z m B) (h : ((zSz Z < 1000000) ∧ ∀ Z2, Z2 = zC Z 100 20 20 → ZP G 1 m_X12_cuts 7 [some (.ref m), some (.ref (zSz Z)), some (iv 0)] [] Z2 Q)) : ZM G 1 m_X12_cuts [.ref m] Z Q := ZM.of [some (.ref m), none, none] rfl <| z_bipush (pc' := 2) (n := 20) (by decide +kernel) (by decide) rfl <| h.elim fun c1 h => z_new100 (pc' := 4) (by decide +kernel) (amM1 88 rfl (by decide +kernel)) (by decide) (by decide) c1 rfl <| have h := h _ rfl; z_astore_n (pc' := 5) (j := 1) (ls' := [some (.ref m), some (.ref (zSz Z)), none]) (by decide +kernel) (by decide) rfl rfl <| z_iconst (pc' := 6) (n := 0) (by decide +kernel) rfl <| z_istore_n (pc' := 7) (j := 2) (ls' := [some (.ref m), some (.ref (zSz Z)), some (iv 0)]) (by decide +kernel) (by decide) rfl rfl <| h
set_option maxRecDepth 20000 in
theorem b_X12_cuts_7 {G : Gx} {Q : Rv → Zm → Prop} {Z : Zm} {a2 : Nat} {m : Nat} {B : Nat} {v2 : Int} (hm : atModel Z m B) (ha2 : zA Z a2 100 20) (h : ((R32 v2) ∧ (R32 (zI Z B 0)) ∧ (if (zI Z B 0) ≤ v2 then (Q (.inl (some (.ref a2))) Z) else ((zIx v2 20) ∧ ∀ Z5, Z5 = zSI Z a2 (zu (zI Z a2) v2.toNat (mG Z B v2.toNat 8)) → ZP G 1 m_X12_cuts 7 [some (.ref m), some (.ref a2), some (iv (v2 + 1))] [] Z5 Q)))) : ZP G 1 m_X12_cuts 7 [some (.ref m), some (.ref a2), some (iv v2)] [] Z Q := z_iload_n (pc' := 8) (j := 2) (by decide +kernel) rfl rfl <| z_aload_n (pc' := 9) (j := 0) (by decide +kernel) rfl rfl <| z_callV (pc' := 12) (idx := 64) (mj := m_X12_many) (av := []) (d' := 0) (by decide +kernel) rfl k_X12_many l_RX12_64 rfl (by omega) (am_le rfl) rfl (am_le rfl) hm.o.1 hm.o.2 rfl <| zKf (s_many hm) <| h.elim fun c1 h => h.elim fun c2 h => z_icmp_ge (pc' := 15) (tgt := 31) (off := 19) (by decide +kernel) (by decide) rfl c1 c2 (am_ite h (fun h => z_aload_n (pc' := 32) (j := 1) (by decide +kernel) rfl rfl <| z_areturn (by decide +kernel) (by first | exact ⟨_, rfl, Or.inl ⟨_, rfl⟩⟩ | exact ⟨_, rfl, Or.inr ⟨_, rfl⟩⟩) h) (fun h => z_aload_n (pc' := 16) (j := 1) (by decide +kernel) rfl rfl <| z_iload_n (pc' := 17) (j := 2) (by decide +kernel) rfl rfl <| z_aload_n (pc' := 18) (j := 0) (by decide +kernel) rfl rfl <| z_iload_n (pc' := 19) (j := 2) (by decide +kernel) rfl rfl <| z_bipush (pc' := 21) (n := 8) (by decide +kernel) (by decide) rfl <| h.elim fun c4 h => z_callV (pc' := 24) (idx := 83) (mj := m_X12_get) (av := [iv v2, iv 8]) (d' := 0) (by decide +kernel) rfl k_X12_get l_RX12_83 rfl (by omega) (am_le rfl) rfl (am_le rfl) hm.o.1 hm.o.2 rfl <| zKf (s_get hm c4 ⟨by decide, by decide, by decide⟩) <| z_iastore (pc' := 25) (by decide +kernel) ha2 c4 rfl <| have h := h _ rfl; z_iinc (pc' := 28) (j := 2) (n := 1) (x := v2) (ls' := [some (.ref m), some (.ref a2), some (iv (v2 + 1))]) (by decide +kernel) rfl (by decide) rfl rfl <| z_goto (tgt := 7) (off := -21) (by decide +kernel) (by decide) <| h))
set_option maxRecDepth 20000 in
theorem e_X12_endCut {G : Gx} {Q : Rv → Zm → Prop} {Z : Zm} {m : Nat} {B : Nat} {u : Nat} (hm : atModel Z m B) (hu : zA Z u 100 20) (h : (ZM G 2 m_X12_lengthsInto [.ref m, .ref (m + 17)] Z (zKc G 3 m_X12_endCut 8 [some (.ref m), some (.ref u), none, none] [] Q))) : ZM G 3 m_X12_endCut [.ref m, .ref u] Z Q := ZM.of [some (.ref m), some (.ref u), none, none] rfl <| z_aload_n (pc' := 1) (j := 0) (by decide +kernel) rfl rfl <| z_aload_n (pc' := 2) (j := 0) (by decide +kernel) rfl rfl <| z_getR (pc' := 5) (idx := 51) (ci := 12) (f := 20) (by decide +kernel) f_RX12_51 rfl hm.o.1 hm.o.2 hm.r20 rfl <| z_callV (pc' := 8) (idx := 87) (mj := m_X12_lengthsInto) (av := [.ref (m + 17)]) (d' := 2) (by decide +kernel) rfl k_X12_lengthsInto l_RX12_87 rfl (by omega) (am_le rfl) rfl (am_le rfl) hm.o.1 hm.o.2 rfl h
set_option maxRecDepth 20000 in
theorem b_X12_endCut_8 {G : Gx} {Q : Rv → Zm → Prop} {Z : Zm} {r8 : Nat} {m : Nat} {B : Nat} {u : Nat}  (hm : atModel Z m B) (hu : zA Z u 100 20) (hr8 : zA Z r8 100 20) (h : (ZP G 3 m_X12_endCut 11 [some (.ref m), some (.ref u), some (.ref r8), some (iv 0)] [] Z Q)) : ZP G 3 m_X12_endCut 8 [some (.ref m), some (.ref u), none, none] [.ref r8] Z Q := z_astore_n (pc' := 9) (j := 2) (ls' := [some (.ref m), some (.ref u), some (.ref r8), none]) (by decide +kernel) (by decide) rfl rfl <| z_iconst (pc' := 10) (n := 0) (by decide +kernel) rfl <| z_istore_n (pc' := 11) (j := 3) (ls' := [some (.ref m), some (.ref u), some (.ref r8), some (iv 0)]) (by decide +kernel) (by decide) rfl rfl <| h
set_option maxRecDepth 20000 in
theorem b_X12_endCut_11 {G : Gx} {Q : Rv → Zm → Prop} {Z : Zm} {r8 : Nat} {m : Nat} {B : Nat} {u : Nat} {v3 : Int} (hm : atModel Z m B) (hu : zA Z u 100 20) (hr8 : zA Z r8 100 20) (h : ((R32 v3) ∧ (R32 (zI Z B 0)) ∧ (if (zI Z B 0) ≤ v3 then (ZM G 2 m_X12_endOf [.ref m, .ref r8] Z (zKc G 3 m_X12_endCut 39 [none, none, none, none] [] Q)) else ((zIx v3 20) ∧ ∀ Z5, Z5 = zSI Z r8 (zu (zI Z r8) v3.toNat ((zI Z r8 v3.toNat) - (zI Z u v3.toNat))) → ZP G 3 m_X12_endCut 11 [some (.ref m), some (.ref u), some (.ref r8), some (iv (v3 + 1))] [] Z5 Q)))) : ZP G 3 m_X12_endCut 11 [some (.ref m), some (.ref u), some (.ref r8), some (iv v3)] [] Z Q := z_iload_n (pc' := 12) (j := 3) (by decide +kernel) rfl rfl <| z_aload_n (pc' := 13) (j := 0) (by decide +kernel) rfl rfl <| z_callV (pc' := 16) (idx := 64) (mj := m_X12_many) (av := []) (d' := 0) (by decide +kernel) rfl k_X12_many l_RX12_64 rfl (by omega) (am_le rfl) rfl (am_le rfl) hm.o.1 hm.o.2 rfl <| zKf (s_many hm) <| h.elim fun c1 h => h.elim fun c2 h => z_icmp_ge (pc' := 19) (tgt := 34) (off := 18) (by decide +kernel) (by decide) rfl c1 c2 (am_ite h (fun h => z_aload_n (pc' := 35) (j := 0) (by decide +kernel) rfl rfl <| z_aload_n (pc' := 36) (j := 2) (by decide +kernel) rfl rfl <| z_callV (pc' := 39) (idx := 119) (mj := m_X12_endOf) (av := [.ref r8]) (d' := 2) (by decide +kernel) rfl k_X12_endOf l_RX12_119 rfl (by omega) (am_le rfl) rfl (am_le rfl) hm.o.1 hm.o.2 rfl (ZM.mono h (zKc_wk (wk_none (wk_none (wk_none (wk_none wk_nil))))))) (fun h => z_aload_n (pc' := 20) (j := 2) (by decide +kernel) rfl rfl <| z_iload_n (pc' := 21) (j := 3) (by decide +kernel) rfl rfl <| z_dup2 (pc' := 22) (by decide +kernel) rfl rfl rfl <| h.elim fun c4 h => z_iaload (pc' := 23) (by decide +kernel) hr8 c4 rfl <| z_aload_n (pc' := 24) (j := 1) (by decide +kernel) rfl rfl <| z_iload_n (pc' := 25) (j := 3) (by decide +kernel) rfl rfl <| z_iaload (pc' := 26) (by decide +kernel) hu c4 rfl <| z_isub (pc' := 27) (by decide +kernel) rfl <| z_iastore (pc' := 28) (by decide +kernel) hr8 c4 rfl <| have h := h _ rfl; z_iinc (pc' := 31) (j := 3) (n := 1) (x := v3) (ls' := [some (.ref m), some (.ref u), some (.ref r8), some (iv (v3 + 1))]) (by decide +kernel) rfl (by decide) rfl rfl <| z_goto (tgt := 11) (off := -20) (by decide +kernel) (by decide) <| h))
set_option maxRecDepth 20000 in
theorem b_X12_endCut_39 {G : Gx} {Q : Rv → Zm → Prop} {Z : Zm} {m : Nat} {B : Nat} {u : Nat} {s0 : Int} (hm : atModel Z m B) (hu : zA Z u 100 20) (h : (Q (.inl (some (iv s0))) Z)) : ZP G 3 m_X12_endCut 39 [none, none, none, none] [iv s0] Z Q := z_ireturn (by decide +kernel) ⟨_, rfl, rfl⟩ h
set_option maxRecDepth 20000 in
theorem e_X12_leastEnd {G : Gx} {Q : Rv → Zm → Prop} {Z : Zm} {m : Nat} {B : Nat} (hm : atModel Z m B) (h : (∀ Z1, Z1 = zSI Z m (zu (zI Z m) 19 0) → ZM G 11 m_X12_cuts [.ref m] Z1 (zKc G 12 m_X12_leastEnd 10 [none] [.ref m] Q))) : ZM G 12 m_X12_leastEnd [.ref m] Z Q := ZM.of [some (.ref m)] rfl <| z_aload_n (pc' := 1) (j := 0) (by decide +kernel) rfl rfl <| z_iconst (pc' := 2) (n := 0) (by decide +kernel) rfl <| z_putI (pc' := 5) (idx := 60) (ci := 12) (f := 19) (by decide +kernel) f_RX12_60 (am_nf rfl rfl) rfl rfl rfl hm.o.1 hm.o.2 rfl <| have h := h _ rfl; z_aload_n (pc' := 6) (j := 0) (by decide +kernel) rfl rfl <| z_aload_n (pc' := 7) (j := 0) (by decide +kernel) rfl rfl <| z_callV (pc' := 10) (idx := 338) (mj := m_X12_cuts) (av := []) (d' := 11) (by decide +kernel) rfl k_X12_cuts l_RX12_338 rfl (by omega) (am_le rfl) rfl (am_le rfl) hm.o.1 hm.o.2 rfl (ZM.mono h (zKc_wk (wk_none wk_nil)))
set_option maxRecDepth 20000 in
theorem b_X12_leastEnd_10 {G : Gx} {Q : Rv → Zm → Prop} {Z : Zm} {r10 : Nat} {m : Nat} {B : Nat}  (hm : atModel Z m B) (hr10 : zA Z r10 100 20) (h : (ZM G 11 m_X12_endCut [.ref m, .ref r10] Z (zKc G 12 m_X12_leastEnd 13 [none] [] Q))) : ZP G 12 m_X12_leastEnd 10 [none] [.ref r10, .ref m] Z Q := z_callV (pc' := 13) (idx := 341) (mj := m_X12_endCut) (av := [.ref r10]) (d' := 11) (by decide +kernel) rfl k_X12_endCut l_RX12_341 rfl (by omega) (am_le rfl) rfl (am_le rfl) hm.o.1 hm.o.2 rfl h
set_option maxRecDepth 20000 in
theorem b_X12_leastEnd_13 {G : Gx} {Q : Rv → Zm → Prop} {Z : Zm} {m : Nat} {B : Nat} {s0 : Int} (hm : atModel Z m B) (h : (Q (.inl (some (iv s0))) Z)) : ZP G 12 m_X12_leastEnd 13 [none] [iv s0] Z Q := z_ireturn (by decide +kernel) ⟨_, rfl, rfl⟩ h
set_option maxRecDepth 20000 in
theorem e_X12_leastCost {G : Gx} {Q : Rv → Zm → Prop} {Z : Zm} {m : Nat} {B : Nat} {x : Int} (hm : atModel Z m B) (h : (ZM G 11 m_X12_cuts [.ref m] Z (zKc G 12 m_X12_leastCost 4 [some (.ref m), some (iv x), none, none, none, none, none, none, none] [] Q))) : ZM G 12 m_X12_leastCost [.ref m, iv x] Z Q := ZM.of [some (.ref m), some (iv x), none, none, none, none, none, none, none] rfl <| z_aload_n (pc' := 1) (j := 0) (by decide +kernel) rfl rfl <| z_callV (pc' := 4) (idx := 338) (mj := m_X12_cuts) (av := []) (d' := 11) (by decide +kernel) rfl k_X12_cuts l_RX12_338 rfl (by omega) (am_le rfl) rfl (am_le rfl) hm.o.1 hm.o.2 rfl h
set_option maxRecDepth 20000 in
theorem b_X12_leastCost_4 {G : Gx} {Q : Rv → Zm → Prop} {Z : Zm} {r4 : Nat} {m : Nat} {B : Nat} {x : Int}  (hm : atModel Z m B) (hr4 : zA Z r4 100 20) (h : ((zSz Z < 1000000) ∧ ∀ Z2, Z2 = zC Z 100 20 20 → ZM G 11 m_X12_endCut [.ref m, .ref r4] Z2 (zKc G 12 m_X12_leastCost 16 [some (.ref m), some (iv x), some (.ref r4), some (.ref (zSz Z)), none, none, none, none, none] [.ref m] Q))) : ZP G 12 m_X12_leastCost 4 [some (.ref m), some (iv x), none, none, none, none, none, none, none] [.ref r4] Z Q := z_astore_n (pc' := 5) (j := 2) (ls' := [some (.ref m), some (iv x), some (.ref r4), none, none, none, none, none, none]) (by decide +kernel) (by decide) rfl rfl <| z_bipush (pc' := 7) (n := 20) (by decide +kernel) (by decide) rfl <| h.elim fun c1 h => z_new100 (pc' := 9) (by decide +kernel) (amM1 88 rfl (by decide +kernel)) (by decide) (by decide) c1 rfl <| have h := h _ rfl; z_astore_n (pc' := 10) (j := 3) (ls' := [some (.ref m), some (iv x), some (.ref r4), some (.ref (zSz Z)), none, none, none, none, none]) (by decide +kernel) (by decide) rfl rfl <| z_aload_n (pc' := 11) (j := 0) (by decide +kernel) rfl rfl <| z_aload_n (pc' := 12) (j := 0) (by decide +kernel) rfl rfl <| z_aload_n (pc' := 13) (j := 2) (by decide +kernel) rfl rfl <| z_callV (pc' := 16) (idx := 341) (mj := m_X12_endCut) (av := [.ref r4]) (d' := 11) (by decide +kernel) rfl k_X12_endCut l_RX12_341 rfl (by omega) (am_le rfl) rfl (am_le rfl) (hm.o.ext (zX_C Z 100 20 20)).1 (hm.o.ext (zX_C Z 100 20 20)).2 rfl h
set_option maxRecDepth 20000 in
theorem b_X12_leastCost_16 {G : Gx} {Q : Rv → Zm → Prop} {Z : Zm} {r4 : Nat} {a7 : Nat} {m : Nat} {B : Nat} {x : Int} {s0 : Int} (hm : atModel Z m B) (hr4 : zA Z r4 100 20) (ha7 : zA Z a7 100 20) (h : ((R32 s0) ∧ (R32 x) ∧ ZM G 11 m_X12_areTooMany [.ref m, .ref a7, .ref r4] Z (zKc G 12 m_X12_leastCost 31 [some (.ref m), some (iv x), some (.ref r4), some (.ref a7), none, none, none, none, none] [iv (b2 (¬ (s0 ≤ x))), .ref m] Q))) : ZP G 12 m_X12_leastCost 16 [some (.ref m), some (iv x), some (.ref r4), some (.ref a7), none, none, none, none, none] [iv s0, .ref m] Z Q := z_iload_n (pc' := 17) (j := 1) (by decide +kernel) rfl rfl <| h.elim fun c1 h => h.elim fun c2 h => am_use (fun k5 => z_icmp_le (pc' := 20) (tgt := 24) (off := 7) (by decide +kernel) (by decide) rfl c1 c2 (am_ite2 (fun q6 => z_iconst (pc' := 25) (n := 0) (by decide +kernel) rfl <| (am_jp (P := fun z9 => ZP G 12 m_X12_leastCost 25 [some (.ref m), some (iv x), some (.ref r4), some (.ref a7), none, none, none, none, none] [iv z9, .ref m] _ Q) (b2_n q6) k5)) (fun q6 => z_iconst (pc' := 21) (n := 1) (by decide +kernel) rfl <| z_goto (tgt := 25) (off := 4) (by decide +kernel) (by decide) <| (am_jp (P := fun z9 => ZP G 12 m_X12_leastCost 25 [some (.ref m), some (iv x), some (.ref r4), some (.ref a7), none, none, none, none, none] [iv z9, .ref m] _ Q) (b2_nn q6) k5)))) <| z_aload_n (pc' := 26) (j := 0) (by decide +kernel) rfl rfl <| z_aload_n (pc' := 27) (j := 3) (by decide +kernel) rfl rfl <| z_aload_n (pc' := 28) (j := 2) (by decide +kernel) rfl rfl <| z_callV (pc' := 31) (idx := 324) (mj := m_X12_areTooMany) (av := [.ref a7, .ref r4]) (d' := 11) (by decide +kernel) rfl k_X12_areTooMany l_RX12_324 rfl (by omega) (am_le rfl) rfl (am_le rfl) hm.o.1 hm.o.2 rfl h
set_option maxRecDepth 20000 in
theorem b_X12_leastCost_31 {G : Gx} {Q : Rv → Zm → Prop} {Z : Zm} {r4 : Nat} {a7 : Nat} {m : Nat} {B : Nat} {x : Int} {s0 : Int} {s1 : Int} (hm : atModel Z m B) (hr4 : zA Z r4 100 20) (ha7 : zA Z a7 100 20) (h : ((s1 = 0 ∨ s1 = 1) ∧ (s0 = 0 ∨ s0 = 1) ∧ ∀ Z3, Z3 = zSI Z m (zu (zI Z m) 19 (fC s1 s0 0)) → (if 0 < fC s1 s0 0 then (Q (.inl (some (iv 0))) Z3) else ((zSz Z3 < 1000000) ∧ ∀ Z5, Z5 = zC Z3 100 20 20 → ZP G 12 m_X12_leastCost 54 [some (.ref m), some (iv x), some (.ref r4), some (.ref a7), some (.ref (zSz Z3)), some (iv 1000000), some (iv 1), none, none] [] Z5 Q)))) : ZP G 12 m_X12_leastCost 31 [some (.ref m), some (iv x), some (.ref r4), some (.ref a7), none, none, none, none, none] [iv s0, iv s1, .ref m] Z Q := z_iconst (pc' := 32) (n := 0) (by decide +kernel) rfl <| h.elim fun c1 h => h.elim fun c2 h => z_callV (pc' := 35) (idx := 133) (mj := m_X12_fails) (av := [iv s1, iv s0, iv 0]) (d' := 0) (by decide +kernel) rfl k_X12_fails l_RX12_133 rfl (by omega) (am_le rfl) rfl (am_le rfl) hm.o.1 hm.o.2 rfl <| zKf (s_fails hm c1 c2 (Or.inl rfl)) <| have h := h _ rfl; z_ifB_eq (pc' := 38) (tgt := 40) (off := 5) (by decide +kernel) (by decide) rfl (am_ite h (fun h => z_iconst (pc' := 39) (n := 0) (by decide +kernel) rfl <| z_ireturn (by decide +kernel) ⟨_, rfl, rfl⟩ h) (fun h => z_bipush (pc' := 42) (n := 20) (by decide +kernel) (by decide) rfl <| h.elim fun c4 h => z_new100 (pc' := 44) (by decide +kernel) (amM1 88 rfl (by decide +kernel)) (by decide) (by decide) c4 rfl <| have h := h _ rfl; z_astore (pc' := 46) (j := 4) (ls' := [some (.ref m), some (iv x), some (.ref r4), some (.ref a7), some (.ref (zSz (zSI Z m (zu (zI Z m) 19 (fC s1 s0 0))))), none, none, none, none]) (by decide +kernel) (by decide) rfl rfl <| z_ldcw (pc' := 49) (idx := 261) (w := 1000000) (v := 1000000) (by decide +kernel) (amM9 148 rfl (by decide +kernel)) (by decide) rfl <| z_istore (pc' := 51) (j := 5) (ls' := [some (.ref m), some (iv x), some (.ref r4), some (.ref a7), some (.ref (zSz (zSI Z m (zu (zI Z m) 19 (fC s1 s0 0))))), some (iv 1000000), none, none, none]) (by decide +kernel) (by decide) rfl rfl <| z_iconst (pc' := 52) (n := 1) (by decide +kernel) rfl <| z_istore (pc' := 54) (j := 6) (ls' := [some (.ref m), some (iv x), some (.ref r4), some (.ref a7), some (.ref (zSz (zSI Z m (zu (zI Z m) 19 (fC s1 s0 0))))), some (iv 1000000), some (iv 1), none, none]) (by decide +kernel) (by decide) rfl rfl <| h))
set_option maxRecDepth 20000 in
theorem b_X12_leastCost_54 {G : Gx} {Q : Rv → Zm → Prop} {Z : Zm} {r4 : Nat} {a7 : Nat} {a42 : Nat} {m : Nat} {B : Nat} {x : Int} {v5 : Int} {v6 : Int} (hm : atModel Z m B) (hr4 : zA Z r4 100 20) (ha7 : zA Z a7 100 20) (ha42 : zA Z a42 100 20) (h : ((R32 v6) ∧ (if v6 = 0 then (Q (.inl (some (iv v5))) Z) else (ZP G 12 m_X12_leastCost 65 [some (.ref m), some (iv x), some (.ref r4), some (.ref a7), some (.ref a42), some (iv v5), none, some (iv 0), some (iv 0)] [] Z Q)))) : ZP G 12 m_X12_leastCost 54 [some (.ref m), some (iv x), some (.ref r4), some (.ref a7), some (.ref a42), some (iv v5), some (iv v6), none, none] [] Z Q := z_iload (pc' := 56) (j := 6) (by decide +kernel) rfl rfl <| h.elim fun c1 h => z_if_eq (pc' := 59) (tgt := 138) (off := 82) (by decide +kernel) (by decide) rfl c1 (am_ite h (fun h => z_iload (pc' := 140) (j := 5) (by decide +kernel) rfl rfl <| z_ireturn (by decide +kernel) ⟨_, rfl, rfl⟩ h) (fun h => z_iconst (pc' := 60) (n := 0) (by decide +kernel) rfl <| z_istore (pc' := 62) (j := 7) (ls' := [some (.ref m), some (iv x), some (.ref r4), some (.ref a7), some (.ref a42), some (iv v5), some (iv v6), some (iv 0), none]) (by decide +kernel) (by decide) rfl rfl <| z_iconst (pc' := 63) (n := 0) (by decide +kernel) rfl <| z_istore (pc' := 65) (j := 8) (ls' := [some (.ref m), some (iv x), some (.ref r4), some (.ref a7), some (.ref a42), some (iv v5), some (iv v6), some (iv 0), some (iv 0)]) (by decide +kernel) (by decide) rfl rfl <| (ZP.wk (wk_some (wk_some (wk_some (wk_some (wk_some (wk_some (wk_none (wk_some (wk_some wk_nil))))))))) h)))
set_option maxRecDepth 20000 in
theorem b_X12_leastCost_65 {G : Gx} {Q : Rv → Zm → Prop} {Z : Zm} {r4 : Nat} {a7 : Nat} {a42 : Nat} {m : Nat} {B : Nat} {x : Int} {v5 : Int} {v7 : Int} {v8 : Int} (hm : atModel Z m B) (hr4 : zA Z r4 100 20) (ha7 : zA Z a7 100 20) (ha42 : zA Z a42 100 20) (h : ((R32 v8) ∧ (R32 (zI Z B 0)) ∧ (if (zI Z B 0) ≤ v8 then ((R32 v7) ∧ (R32 v5) ∧ (if v5 ≤ v7 then (ZM G 11 m_X12_goesOn [.ref m, .ref a42, .ref a7, .ref r4] Z (zKc G 12 m_X12_leastCost 133 [some (.ref m), some (iv x), some (.ref r4), some (.ref a7), some (.ref a42), some (iv v5), none, none, none] [] Q)) else (ZM G 11 m_X12_endCut [.ref m, .ref a42] Z (zKc G 12 m_X12_leastCost 112 [some (.ref m), some (iv x), some (.ref r4), some (.ref a7), some (.ref a42), some (iv v5), none, some (iv v7), none] [] Q)))) else ((zIx v8 20) ∧ ZP G 12 m_X12_leastCost 65 [some (.ref m), some (iv x), some (.ref r4), some (.ref a7), some (.ref a42), some (iv v5), none, some (iv (v7 + ((zI Z a42 v8.toNat) * (mG Z B v8.toNat 9)))), some (iv (v8 + 1))] [] Z Q)))) : ZP G 12 m_X12_leastCost 65 [some (.ref m), some (iv x), some (.ref r4), some (.ref a7), some (.ref a42), some (iv v5), none, some (iv v7), some (iv v8)] [] Z Q := z_iload (pc' := 67) (j := 8) (by decide +kernel) rfl rfl <| z_aload_n (pc' := 68) (j := 0) (by decide +kernel) rfl rfl <| z_callV (pc' := 71) (idx := 64) (mj := m_X12_many) (av := []) (d' := 0) (by decide +kernel) rfl k_X12_many l_RX12_64 rfl (by omega) (am_le rfl) rfl (am_le rfl) hm.o.1 hm.o.2 rfl <| zKf (s_many hm) <| h.elim fun c1 h => h.elim fun c2 h => z_icmp_ge (pc' := 74) (tgt := 99) (off := 28) (by decide +kernel) (by decide) rfl c1 c2 (am_ite h (fun h => z_iload (pc' := 101) (j := 7) (by decide +kernel) rfl rfl <| z_iload (pc' := 103) (j := 5) (by decide +kernel) rfl rfl <| h.elim fun c4 h => h.elim fun c5 h => z_icmp_ge (pc' := 106) (tgt := 121) (off := 18) (by decide +kernel) (by decide) rfl c4 c5 (am_ite h (fun h => z_iload (pc' := 123) (j := 5) (by decide +kernel) rfl rfl <| z_istore (pc' := 125) (j := 5) (ls' := [some (.ref m), some (iv x), some (.ref r4), some (.ref a7), some (.ref a42), some (iv v5), none, some (iv v7), some (iv v8)]) (by decide +kernel) (by decide) rfl rfl <| z_aload_n (pc' := 126) (j := 0) (by decide +kernel) rfl rfl <| z_aload (pc' := 128) (j := 4) (by decide +kernel) rfl rfl <| z_aload_n (pc' := 129) (j := 3) (by decide +kernel) rfl rfl <| z_aload_n (pc' := 130) (j := 2) (by decide +kernel) rfl rfl <| z_callV (pc' := 133) (idx := 331) (mj := m_X12_goesOn) (av := [.ref a42, .ref a7, .ref r4]) (d' := 11) (by decide +kernel) rfl k_X12_goesOn l_RX12_331 rfl (by omega) (am_le rfl) rfl (am_le rfl) hm.o.1 hm.o.2 rfl (ZM.mono h (zKc_wk (wk_some (wk_some (wk_some (wk_some (wk_some (wk_some (wk_none (wk_none (wk_none wk_nil)))))))))))) (fun h => z_aload_n (pc' := 107) (j := 0) (by decide +kernel) rfl rfl <| z_aload (pc' := 109) (j := 4) (by decide +kernel) rfl rfl <| z_callV (pc' := 112) (idx := 341) (mj := m_X12_endCut) (av := [.ref a42]) (d' := 11) (by decide +kernel) rfl k_X12_endCut l_RX12_341 rfl (by omega) (am_le rfl) rfl (am_le rfl) hm.o.1 hm.o.2 rfl (ZM.mono h (zKc_wk (wk_some (wk_some (wk_some (wk_some (wk_some (wk_some (wk_none (wk_some (wk_none wk_nil)))))))))))))) (fun h => z_iload (pc' := 76) (j := 7) (by decide +kernel) rfl rfl <| z_aload (pc' := 78) (j := 4) (by decide +kernel) rfl rfl <| z_iload (pc' := 80) (j := 8) (by decide +kernel) rfl rfl <| h.elim fun c6 h => z_iaload (pc' := 81) (by decide +kernel) ha42 c6 rfl <| z_aload_n (pc' := 82) (j := 0) (by decide +kernel) rfl rfl <| z_iload (pc' := 84) (j := 8) (by decide +kernel) rfl rfl <| z_bipush (pc' := 86) (n := 9) (by decide +kernel) (by decide) rfl <| z_callV (pc' := 89) (idx := 83) (mj := m_X12_get) (av := [iv v8, iv 9]) (d' := 0) (by decide +kernel) rfl k_X12_get l_RX12_83 rfl (by omega) (am_le rfl) rfl (am_le rfl) hm.o.1 hm.o.2 rfl <| zKf (s_get hm c6 ⟨by decide, by decide, by decide⟩) <| z_imul (pc' := 90) (by decide +kernel) rfl <| z_iadd (pc' := 91) (by decide +kernel) rfl <| z_istore (pc' := 93) (j := 7) (ls' := [some (.ref m), some (iv x), some (.ref r4), some (.ref a7), some (.ref a42), some (iv v5), none, some (iv (v7 + ((zI Z a42 v8.toNat) * (mG Z B v8.toNat 9)))), some (iv v8)]) (by decide +kernel) (by decide) rfl rfl <| z_iinc (pc' := 96) (j := 8) (n := 1) (x := v8) (ls' := [some (.ref m), some (iv x), some (.ref r4), some (.ref a7), some (.ref a42), some (iv v5), none, some (iv (v7 + ((zI Z a42 v8.toNat) * (mG Z B v8.toNat 9)))), some (iv (v8 + 1))]) (by decide +kernel) rfl (by decide) rfl rfl <| z_goto (tgt := 65) (off := -31) (by decide +kernel) (by decide) <| h))
set_option maxRecDepth 20000 in
theorem b_X12_leastCost_133 {G : Gx} {Q : Rv → Zm → Prop} {Z : Zm} {r4 : Nat} {a7 : Nat} {a42 : Nat} {m : Nat} {B : Nat} {x : Int} {v5 : Int} {s0 : Int} (hm : atModel Z m B) (hr4 : zA Z r4 100 20) (ha7 : zA Z a7 100 20) (ha42 : zA Z a42 100 20) (h : (ZP G 12 m_X12_leastCost 54 [some (.ref m), some (iv x), some (.ref r4), some (.ref a7), some (.ref a42), some (iv v5), some (iv s0), none, none] [] Z Q)) : ZP G 12 m_X12_leastCost 133 [some (.ref m), some (iv x), some (.ref r4), some (.ref a7), some (.ref a42), some (iv v5), none, none, none] [iv s0] Z Q := z_istore (pc' := 135) (j := 6) (ls' := [some (.ref m), some (iv x), some (.ref r4), some (.ref a7), some (.ref a42), some (iv v5), some (iv s0), none, none]) (by decide +kernel) (by decide) rfl rfl <| z_goto (tgt := 54) (off := -81) (by decide +kernel) (by decide) <| h
set_option maxRecDepth 20000 in
theorem b_X12_leastCost_112 {G : Gx} {Q : Rv → Zm → Prop} {Z : Zm} {r4 : Nat} {a7 : Nat} {a42 : Nat} {m : Nat} {B : Nat} {x : Int} {v5 : Int} {v7 : Int} {s0 : Int} (hm : atModel Z m B) (hr4 : zA Z r4 100 20) (ha7 : zA Z a7 100 20) (ha42 : zA Z a42 100 20) (h : ((R32 s0) ∧ (R32 x) ∧ ZM G 11 m_X12_goesOn [.ref m, .ref a42, .ref a7, .ref r4] Z (zKc G 12 m_X12_leastCost 133 [some (.ref m), some (iv x), some (.ref r4), some (.ref a7), some (.ref a42), some (iv (if x < s0 then v5 else v7)), none, none, none] [] Q))) : ZP G 12 m_X12_leastCost 112 [some (.ref m), some (iv x), some (.ref r4), some (.ref a7), some (.ref a42), some (iv v5), none, some (iv v7), none] [iv s0] Z Q := z_iload_n (pc' := 113) (j := 1) (by decide +kernel) rfl rfl <| h.elim fun c1 h => h.elim fun c2 h => am_use (fun k5 => z_icmp_gt (pc' := 116) (tgt := 121) (off := 8) (by decide +kernel) (by decide) rfl c1 c2 (am_ite2 (fun q6 => z_iload (pc' := 123) (j := 5) (by decide +kernel) rfl rfl <| (am_jp (P := fun z9 => ZP G 12 m_X12_leastCost 123 [some (.ref m), some (iv x), some (.ref r4), some (.ref a7), some (.ref a42), some (iv v5), none, some (iv v7), none] [iv z9] _ Q) (if_pos q6) k5)) (fun q6 => z_iload (pc' := 118) (j := 7) (by decide +kernel) rfl rfl <| z_goto (tgt := 123) (off := 5) (by decide +kernel) (by decide) <| (am_jp (P := fun z9 => ZP G 12 m_X12_leastCost 123 [some (.ref m), some (iv x), some (.ref r4), some (.ref a7), some (.ref a42), some (iv v5), none, some (iv v7), none] [iv z9] _ Q) (if_neg q6) k5)))) <| z_istore (pc' := 125) (j := 5) (ls' := [some (.ref m), some (iv x), some (.ref r4), some (.ref a7), some (.ref a42), some (iv (if x < s0 then v5 else v7)), none, some (iv v7), none]) (by decide +kernel) (by decide) rfl rfl <| z_aload_n (pc' := 126) (j := 0) (by decide +kernel) rfl rfl <| z_aload (pc' := 128) (j := 4) (by decide +kernel) rfl rfl <| z_aload_n (pc' := 129) (j := 3) (by decide +kernel) rfl rfl <| z_aload_n (pc' := 130) (j := 2) (by decide +kernel) rfl rfl <| z_callV (pc' := 133) (idx := 331) (mj := m_X12_goesOn) (av := [.ref a42, .ref a7, .ref r4]) (d' := 11) (by decide +kernel) rfl k_X12_goesOn l_RX12_331 rfl (by omega) (am_le rfl) rfl (am_le rfl) hm.o.1 hm.o.2 rfl (ZM.mono h (zKc_wk (wk_some (wk_some (wk_some (wk_some (wk_some (wk_some (wk_none (wk_none (wk_none wk_nil)))))))))))
/-! ===== the model: leastEnd and leastCost ===== -/
theorem m_cuts {G : Gx} {Z : Zm} {B : Nat} {σ : St} (h : IMb Z B σ) (ho : kOk (sK σ)) (hz : mHz Z) : ZM G 1 m_X12_cuts [.ref 300] Z (fun r W => r = .inl (some (.ref (zSz Z))) ∧ zF mS 1 20 Z W ∧ IMb W B σ ∧ isV W (zSz Z) (kN (sK σ)) (kF (sK σ) 8)) := by
  have hN := ho.n
  refine e_X12_cuts h.1 ⟨by have := hz.2; omega, ?_⟩
  intro Z2 z2
  have f0 : zF mS 1 20 Z Z2 := by rw [z2]; exact zF_C
  have a0 : zA Z2 (zSz Z) 100 20 := by rw [z2]; exact zA_C Z 100 20 20
  clear z2
  suffices key : ∀ j, j ≤ kN (sK σ) → ∀ W, zF mS 1 20 Z W → zA W (zSz Z) 100 20 → (∀ t, t < j → zI W (zSz Z) t = kF (sK σ) 8 t) → ZP G 1 m_X12_cuts 7 [some (.ref 300), some (.ref (zSz Z)), some (iv (j : Int))] [] W (fun r W => r = .inl (some (.ref (zSz Z))) ∧ zF mS 1 20 Z W ∧ IMb W B σ ∧ isV W (zSz Z) (kN (sK σ)) (kF (sK σ) 8)) from key 0 (Nat.zero_le _) Z2 f0 a0 fun t ht => absurd ht (Nat.not_lt_zero _)
  refine am_up (n := kN (sK σ)) fun j hj ih W f a e => ?_
  have hW := h.m hz.1 f
  have h0 := hW.2.2.1.1
  refine b_X12_cuts_7 hW.1 a ⟨by omega, by rw [h0]; omega, ?_⟩
  rw [h0]
  by_cases c : j < kN (sK σ)
  · rw [if_neg (by omega)]
    refine ⟨zIx_nat (by omega) (by omega), ?_⟩
    rintro _ rfl
    rw [Int.toNat_natCast, hW.2.2.1.k c (r := 8) (by omega)]
    refine ih c _ (f.wr (Or.inr (Nat.le_refl _))) a.s fun t ht => ?_
    rw [zI_same]
    by_cases g : t = j
    · rw [g, zu_same]
    · rw [zu_other g]
      exact e t (by omega)
  · rw [if_pos (by omega)]
    exact ⟨rfl, f, hW, a, hz.1, fun t ht => e t (by omega)⟩
theorem m_endCut {G : Gx} {Z : Zm} {B u : Nat} {σ : St} {c : Nat → Int} (h : IMb Z B σ) (ho : kOk (sK σ)) (hz : 322 ≤ zSz Z) (hu : isV Z u (kN (sK σ)) c) (hc : bx (kN (sK σ)) (fun _ => 0) (kF (sK σ) 8) c) : ZM G 3 m_X12_endCut [.ref 300, .ref u] Z (fun r W => r = .inl (some (iv (endF (sK σ) (cLn (sK σ) c)))) ∧ zF mS 0 0 Z W ∧ IMb W B σ) := by
  have hN := ho.n
  have hB := h.big hz
  have hb : 300 + 17 ≠ B := by omega
  refine e_X12_endCut h.1 hu.1 (((s_lengthsInto h.1 h.1.a20 h.2.2.1 ho hb).deeper (by omega)).mono ?_)
  rintro r W ⟨rfl, f, hW, hf, -⟩
  have fW : zF mS 0 0 Z W := by rw [hW]; exact zF_I ⟨by omega, by omega⟩
  have eW : zI W (300 + 17) = f := by rw [hW]; exact zI_same _ _ _
  clear hW
  have h1 := h.m hz fW
  refine b_X12_endCut_8 h1.1 (hu.fr fW).1 h1.1.a20 ?_
  suffices key : ∀ j, j ≤ kN (sK σ) → ∀ W, zF mS 0 0 Z W → (∀ t, t < kN (sK σ) → zI W (300 + 17) t = if t < j then cLn (sK σ) c t else kF (sK σ) 0 t) → ZP G 3 m_X12_endCut 11 [some (.ref 300), some (.ref u), some (.ref (300 + 17)), some (iv (j : Int))] [] W (fun r W => r = .inl (some (iv (endF (sK σ) (cLn (sK σ) c)))) ∧ zF mS 0 0 Z W ∧ IMb W B σ) from key 0 (Nat.zero_le _) W fW fun t ht => by
    rw [if_neg (Nat.not_lt_zero _), eW]
    exact hf t ht
  clear fW eW h1
  refine am_up (n := kN (sK σ)) fun j hj ih W fW e => ?_
  have hW := h.m hz fW
  have h0 := hW.2.2.1.1
  have uW := hu.fr fW
  refine b_X12_endCut_11 hW.1 uW.1 hW.1.a20 ⟨by omega, by rw [h0]; omega, ?_⟩
  rw [h0]
  by_cases d : j < kN (sK σ)
  · rw [if_neg (by omega)]
    refine ⟨zIx_nat (by omega) (by omega), ?_⟩
    rintro _ rfl
    rw [Int.toNat_natCast, uW.2.2 j d, e j d, if_neg (Nat.lt_irrefl _)]
    refine ih d _ (fW.trans (zF_I (S := mS) ⟨by omega, by omega⟩)) fun t ht => ?_
    rw [zI_same]
    by_cases g : t = j
    · rw [g, zu_same, if_pos (by omega)]
      rfl
    · rw [zu_other g, e t ht]
      by_cases g2 : t < j
      · rw [if_pos g2, if_pos (by omega)]
      · rw [if_neg g2, if_neg (by omega)]
  · rw [if_pos (by omega)]
    refine (s_endOf (len := cLn (sK σ) c) hW.1 hW.1.a20 hW.2.2.1 ho (fun t ht => ?_) (by omega) (by decide)).mono ?_
    · rw [e t ht, if_pos (by omega)]
      have q : 0 ≤ c t ∧ c t ≤ kF (sK σ) 8 t := hc t ht
      have := ho.o8 t ht
      have := ho.len ht
      refine ⟨rfl, ?_⟩
      show 1 ≤ kF (sK σ) 0 t - c t ∧ kF (sK σ) 0 t - c t ≤ 60
      omega
    rintro r V ⟨g, lf, rfl, rfl⟩
    have fV : zF mS 0 0 Z (zSI W (300 + 18) g) := fW.trans (zF_I (S := mS) ⟨by omega, by omega⟩)
    have hV := h.m hz fV
    exact b_X12_endCut_39 hV.1 (hu.fr fV).1 ⟨by rw [endF_of ho lf], fV, hV⟩
theorem bx_top {k : Bk} (ho : kOk k) : bx (kN k) (fun _ => 0) (kF k 8) (kF k 8) := fun t ht => f8_r ho t ht
theorem bx_bot {k : Bk} (ho : kOk k) : bx (kN k) (fun _ => 0) (kF k 8) zz := fun t ht => zz_r ho t ht
theorem d_leastEnd {G : Gx} {Z : Zm} {B : Nat} {σ : St} (h : IMb Z B σ) (ho : okS σ) (hz : 322 ≤ zSz Z ∧ zSz Z < 990000) : ZM G 12 m_X12_leastEnd [.ref 300] Z (rM Z iv (o_leastEnd σ)) := by
  refine e_X12_leastEnd h.1 ?_
  rintro _ rfl
  refine ((m_cuts (h.t 0) ho.1 ⟨hz.1, by show zSz Z < 999000; omega⟩).deeper (by omega)).mono ?_
  rintro r W ⟨rfl, f1, h1, u1⟩
  have zW : 322 ≤ zSz W := Nat.le_trans hz.1 f1.sz
  refine b_X12_leastEnd_10 h1.1 u1.1 (((m_endCut h1 ho.1 zW u1 (bx_top ho.1)).deeper (by omega)).mono ?_)
  rintro r V ⟨rfl, f2, h2⟩
  obtain ⟨v, e⟩ := mS_t (f1.trans f2) hz.1
  exact b_X12_leastEnd_13 h2.1 (rM.ok h2 e v (by omega) (by omega) rfl)
theorem isV.t {Z : Zm} {a n : Nat} {f : Nat → Int} {c : Int} (h : isV Z a n f) : isV (zT Z c) a n f := ⟨h.1.s, h.2.1, fun t ht => by
  rw [show zI (zT Z c) a = zI Z a from zI_other (by have := h.2.1; omega)]
  exact h.2.2 t ht⟩
def mRw (X : Zm) (l n : Nat) (W : Zm) (p : Nat → Int) : Prop := zF (fun a => mS a ∨ a = l) 0 0 X W ∧ ∀ t, t < n → zI W l t = p t
def cSn (k : Bk) (x v : Int) (q : Nat → Int) : Prop := okC k x q → v ≤ coS k q (kN k)
theorem d_leastCost {G : Gx} {Z : Zm} {B : Nat} {σ : St} {x : Int} (h : IMb Z B σ) (ho : okS σ) (hz : 322 ≤ zSz Z ∧ zSz Z < 990000) (hx : R32 x) : ZM G 12 m_X12_leastCost [.ref 300, iv x] Z (rM Z iv (o_leastCost σ x)) := by
  have hN := ho.1.n
  refine e_X12_leastCost h.1 (((m_cuts h ho.1 ⟨hz.1, by omega⟩).deeper (by omega)).mono ?_)
  rintro r W ⟨rfl, f1, h1, u1⟩
  have zW : 322 ≤ zSz W ∧ zSz W < 990001 := ⟨Nat.le_trans hz.1 f1.sz, by have := f1.2.1.1; omega⟩
  generalize emo : zSz Z = mo at *
  refine b_X12_leastCost_4 h1.1 u1.1 ⟨by omega, ?_⟩
  intro Y0 y0
  have f2 : zF mS 1 20 W Y0 := by rw [y0]; exact zF_C
  have v2 : isV Y0 (zSz W) (kN (sK σ)) zz := ⟨by rw [y0]; exact zA_C W 100 20 20, zW.1, fun t ht => by rw [y0, zI_C]; rfl⟩
  have sY : zSz Y0 = zSz W + 1 := by rw [y0]; rfl
  clear y0
  have h2 := h1.m zW.1 f2
  have u2 := u1.fr f2
  generalize eno : zSz W = no at *
  refine ((m_endCut h2 ho.1 (by omega) u2 (bx_top ho.1)).deeper (by omega)).mono ?_
  rintro r Y1 ⟨rfl, f3, h3⟩
  have u3 := u2.fr f3
  have v3 := v2.fr f3
  have h0 := h3.2.2.1.1
  have er := endF_r ho.1 (len := cLn (sK σ) (kF (sK σ) 8)) fun t ht => by
    have := ho.1.o8 t ht
    have := ho.1.len ht
    show 1 ≤ kF (sK σ) 0 t - kF (sK σ) 8 t ∧ kF (sK σ) 0 t - kF (sK σ) 8 t ≤ 60
    omega
  refine b_X12_leastCost_16 h3.1 u3.1 v3.1 ⟨by omega, hx, ?_⟩
  refine ((s_areTooMany (f := fun t => kF (sK σ) 8 t + 1) h3.1 h0 hN v3.1 u3.1 fun t ht => ?_).deeper (by omega)).mono ?_
  · have o8 := ho.1.o8 t ht
    have e2 : zz t = 0 := rfl
    rw [u3.2.2 t ht, v3.2.2 t ht, e2]
    omega
  rintro r W2 ⟨⟨w, rfl, hw⟩, hW⟩
  obtain rfl := hW.symm
  refine b_X12_leastCost_31 h3.1 u3.1 v3.1 ⟨b2_01 _, hw.r, ?_⟩
  have f4 : zF mS 2 40 Z Y1 := (f1.trans f2).trans f3
  have V4 := mS_v f4 (by omega)
  unfold o_leastCost
  rintro _ rfl
  by_cases c1 : endF (sK σ) (cLn (sK σ) (kF (sK σ) 8)) ≤ x
  case neg =>
    rw [cIf_f c1, fC_1 (P := ¬ (endF (sK σ) (cLn (sK σ) (kF (sK σ) 8)) ≤ x)) c1, if_pos (by decide)]
    exact ⟨⟨0, rfl, fun g => absurd (show (1 : Nat) = 0 from g) (by decide)⟩, zI_t Y1 1, ⟨B, h3.t 1⟩, (V4.trans zV_t).mono (by omega) (by omega)⟩
  rw [cIf_p c1]
  by_cases c2 : prF (fun t => kF (sK σ) 8 t + 1) (kN (sK σ)) ≤ 2000
  case neg =>
    have w1 : w = 1 := hw.p.mpr (by omega)
    rw [w1, cIf_f c2, fC_2' (P := ¬ (endF (sK σ) (cLn (sK σ) (kF (sK σ) 8)) ≤ x)) (fun q => q c1), if_pos (by decide)]
    exact ⟨⟨0, rfl, fun g => absurd (show (2 : Nat) = 0 from g) (by decide)⟩, zI_t Y1 2, ⟨B, h3.t 2⟩, (V4.trans zV_t).mono (by omega) (by omega)⟩
  have w0 : w = 0 := hw.r.resolve_right fun e => by
    have := hw.p.mp e
    omega
  rw [w0, cIf_p c2, fC_o1 (P := ¬ (endF (sK σ) (cLn (sK σ) (kF (sK σ) 8)) ≤ x)) (fun q => q c1), if_neg (by decide)]
  have hY := h3.t 0
  have uY := u3.t (c := 0)
  have vY := v3.t (c := 0)
  have VY := V4.trans (zV_t (Z := Y1) (c := 0))
  have tY := zI_t Y1 0
  have szY : zSz (zT Y1 0) = zSz Y1 := rfl
  have sY1 := f3.2.1.1
  have sY2 := f3.sz
  rw [show zSI Y1 300 (zu (zI Y1 300) 19 0) = zT Y1 0 from rfl]
  generalize zT Y1 0 = Y at *
  refine ⟨by omega, ?_⟩
  intro X yX
  have fX : zF mS 1 20 Y X := by rw [yX]; exact zF_C
  have vX : isV X (zSz Y) (kN (sK σ)) zz := ⟨by rw [yX]; exact zA_C Y 100 20 20, by omega, fun t ht => by rw [yX, zI_C]; rfl⟩
  clear yX
  generalize el : zSz Y = l at *
  have zY : 322 ≤ zSz Y := by omega
  have hX := hY.m zY fX
  have uX := uY.fr fX
  have nX := vY.fr fX
  have lmo : l ≠ mo := fun e => by have := uY.1.1; omega
  have lno : l ≠ no := fun e => by have := vY.1.1; omega
  have hB := hY.big zY
  have fW : ∀ W p, mRw X l (kN (sK σ)) W p → zF mS 1 20 Y W := fun W p hW => fX.tr hW.1 (c' := 0) (w' := 0) fun a ha q => q.resolve_right (by omega)
  have iW : ∀ W p, mRw X l (kN (sK σ)) W p → IMb W B σ := fun W p hW => hY.m zY (fW W p hW)
  have uW : ∀ W p, mRw X l (kN (sK σ)) W p → isV W mo (kN (sK σ)) (kF (sK σ) 8) ∧ isV W no (kN (sK σ)) zz ∧ isV W l (kN (sK σ)) p := fun W p hW => ⟨⟨uX.1.ext hW.1.1, uX.2.1, fun t ht => by
    rw [hW.1.i uX.1.1 (by have := uX.2.1; unfold mS zB; omega)]
    exact uX.2.2 t ht⟩, ⟨nX.1.ext hW.1.1, nX.2.1, fun t ht => by
    rw [hW.1.i nX.1.1 (by have := nX.2.1; unfold mS zB; omega)]
    exact nX.2.2 t ht⟩, ⟨vX.1.ext hW.1.1, vX.2.1, hW.2⟩⟩
  suffices key : ∀ m p v, bx (kN (sK σ)) zz (kF (sK σ) 8) p → bW (kN (sK σ)) ≤ bV zz p (kN (sK σ)) + m → (0 ≤ v ∧ v ≤ 1000000) → (v = 1000000 ∨ ∃ c, okC (sK σ) x c ∧ v = coS (sK σ) c (kN (sK σ))) → (∀ v', v' ≤ v → cSn (sK σ) x v' p → seenB (kN (sK σ)) zz (kF (sK σ) 8) (cSn (sK σ) x v') p) → ∀ W, mRw X l (kN (sK σ)) W p → ZP G 12 m_X12_leastCost 54 [some (.ref 300), some (iv x), some (.ref mo), some (.ref no), some (.ref l), some (iv v), some (iv 1), none, none] [] W (rM Z iv (0, vLc (sK σ) x, σ)) from key (bW (kN (sK σ))) zz 1000000 (fun t ht => zz_r ho.1 t ht) (by omega) (by decide) (Or.inl rfl) (fun v' _ g => seenB.first g) X ⟨zF.refl, vX.2.2⟩
  intro m
  induction m with
  | zero =>
    intro p v hp hm
    have := bV_le (lo := zz) (p := p) (kN (sK σ)) fun t ht => by
      have a := hp t ht
      have b := ho.1.o8 t ht
      have e : zz t = 0 := rfl
      omega
    omega
  | succ m ih =>
    intro p v hp hm hv hat hpre W hW
    have pr := coS_r ho.1 (c := p) (fun t ht => hp t ht)
    have prn := pr (kN (sK σ)) (Nat.le_refl _)
    -- on to the next row
    have go : ∀ W v', mRw X l (kN (sK σ)) W p → (0 ≤ v' ∧ v' ≤ v) → (v' = 1000000 ∨ ∃ c, okC (sK σ) x c ∧ v' = coS (sK σ) c (kN (sK σ))) → cSn (sK σ) x v' p → ZM G 11 m_X12_goesOn [.ref 300, .ref l, .ref no, .ref mo] W (zKc G 12 m_X12_leastCost 133 [some (.ref 300), some (iv x), some (.ref mo), some (.ref no), some (.ref l), some (iv v'), none, none, none] [] (rM Z iv (0, vLc (sK σ) x, σ))) := by
      intro W v' hW hv' hat' hc'
      obtain ⟨w1, w2, w3⟩ := uW W p hW
      have sn := hpre v' hv'.2 hc'
      refine ((s_goesOn (lo := zz) (hi := kF (sK σ) 8) (p := p) (iW W p hW).1 (iW W p hW).2.2.1.1 hN w3.1 w2.1 w1.1 (by omega) lno lmo fun t ht => ⟨w3.2.2 t ht, w2.2.2 t ht, w1.2.2 t ht, ?_⟩).deeper (by omega)).mono ?_
      · have a := hp t ht
        have b := ho.1.o8 t ht
        have e : zz t = 0 := rfl
        omega
      rintro r V (⟨rfl, hd, f, rfl⟩ | ⟨rfl, i, f, hi, hlt, hd, rfl, hf⟩)
      · have hV : mRw X l (kN (sK σ)) (zSI W l f) f := ⟨hW.1.trans (zF_I (Or.inr rfl)), fun t ht => by rw [zI_same]⟩
        obtain ⟨w1, w2, w3⟩ := uW _ _ hV
        refine b_X12_leastCost_133 (iW _ _ hV).1 w1.1 w2.1 w3.1 ?_
        refine b_X12_leastCost_54 (iW _ _ hV).1 w1.1 w2.1 w3.1 ⟨by decide, ?_⟩
        rw [if_pos rfl]
        have fV := fW _ _ hV
        have all := sn.last hd
        have ok8 : okC (sK σ) x (kF (sK σ) 8) := ⟨fun t ht => f8_r ho.1 t ht, c1⟩
        have le : ∀ c, okC (sK σ) x c → v' ≤ coS (sK σ) c (kN (sK σ)) := fun c hc => by
          obtain ⟨q', e, r⟩ := all c (fun t ht => hc.1 t ht)
          have := r (hc.congr ho.1 e)
          rw [coS_congr e] at this
          exact this
        have l8 := le _ ok8
        have r8 := coS_r ho.1 ok8.1 (kN (sK σ)) (Nat.le_refl _)
        have V2 := mS_v fV zY
        refine rM.ok (iW _ _ hV) ?_ (VY.trans V2) (by omega) (by omega) (vLc_of ⟨hat'.resolve_left fun e => by omega, le⟩)
        rw [fV.i (by omega) (by unfold mS zB; omega)]
        exact tY
      · have hV : mRw X l (kN (sK σ)) (zSI W l f) (nxB zz p i) := ⟨hW.1.trans (zF_I (Or.inr rfl)), fun t ht => by rw [zI_same]; exact hf t ht⟩
        obtain ⟨w1, w2, w3⟩ := uW _ _ hV
        refine b_X12_leastCost_133 (iW _ _ hV).1 w1.1 w2.1 w3.1 ?_
        have nv := bV_nx (lo := zz) (p := p) (i := i) (hp i hi).1 (fun t ht => by
          have a := hp t (by omega)
          have b := ho.1.o8 t (by omega)
          have e : zz t = 0 := rfl
          omega) (kN (sK σ) - (i + 1))
        rw [show i + 1 + (kN (sK σ) - (i + 1)) = kN (sK σ) by omega] at nv
        exact ih _ v' (hp.next (fun t ht => (ho.1.o8 t ht).1) hi hlt) (by omega) (by omega) hat' (fun v2 h2 g => (sn.mono fun q r ok => Int.le_trans h2 (r ok)).next hd hi g) _ hV
    obtain ⟨w1, w2, w3⟩ := uW W p hW
    refine b_X12_leastCost_54 (iW _ _ hW).1 w1.1 w2.1 w3.1 ⟨by decide, ?_⟩
    rw [if_neg (by decide)]
    suffices inner : ∀ j, j ≤ kN (sK σ) → ZP G 12 m_X12_leastCost 65 [some (.ref 300), some (iv x), some (.ref mo), some (.ref no), some (.ref l), some (iv v), none, some (iv (coS (sK σ) p j)), some (iv (j : Int))] [] W (rM Z iv (0, vLc (sK σ) x, σ)) from inner 0 (Nat.zero_le _)
    refine am_up (n := kN (sK σ)) fun j hj ihj => ?_
    have prj := pr j hj
    have h0 := (iW W p hW).2.2.1.1
    refine b_X12_leastCost_65 (iW _ _ hW).1 w1.1 w2.1 w3.1 ⟨by omega, by rw [h0]; omega, ?_⟩
    rw [h0]
    by_cases d : j < kN (sK σ)
    · rw [if_neg (by omega)]
      refine ⟨zIx_nat (by omega) (by omega), ?_⟩
      rw [Int.toNat_natCast, w3.2.2 j d, (iW W p hW).2.2.1.k d (r := 9) (by omega)]
      exact ihj d
    · rw [if_pos (by omega)]
      have ej : j = kN (sK σ) := by omega
      rw [ej]
      refine ⟨by omega, by omega, ?_⟩
      by_cases e : v ≤ coS (sK σ) p (kN (sK σ))
      · rw [if_pos e]
        exact go W v hW ⟨hv.1, Int.le_refl _⟩ hat fun _ => e
      · rw [if_neg e]
        refine ((m_endCut (iW W p hW) ho.1 (Nat.le_trans zY (fW W p hW).sz) w3 (fun t ht => hp t ht)).deeper (by omega)).mono ?_
        rintro r V ⟨rfl, fV, hV⟩
        have hV2 : mRw X l (kN (sK σ)) V p := ⟨hW.1.trans (fV.mono (fun a g => Or.inl g) (Nat.le_refl _) (Nat.le_refl _)), fun t ht => by
          rw [fV.i w3.1.1 (by unfold mS zB; omega)]
          exact hW.2 t ht⟩
        obtain ⟨w1', w2', w3'⟩ := uW V p hV2
        have er2 := endF_r ho.1 (len := cLn (sK σ) p) fun t ht => by
          have a := hp t ht
          have b := ho.1.o8 t ht
          have c := ho.1.len ht
          have e : zz t = 0 := rfl
          show 1 ≤ kF (sK σ) 0 t - p t ∧ kF (sK σ) 0 t - p t ≤ 60
          omega
        refine b_X12_leastCost_112 hV.1 w1'.1 w2'.1 w3'.1 ⟨by omega, hx, ?_⟩
        by_cases g : x < endF (sK σ) (cLn (sK σ) p)
        · rw [if_pos g]
          exact go V v hV2 ⟨hv.1, Int.le_refl _⟩ hat fun ok => by have := ok.2; omega
        · rw [if_neg g]
          exact go V _ hV2 ⟨prn.1, by omega⟩ (Or.inr ⟨p, ⟨fun t ht => hp t ht, Int.not_lt.mp g⟩, rfl⟩) fun _ => Int.le_refl _
