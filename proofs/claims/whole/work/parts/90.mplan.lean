set_option maxRecDepth 20000 in
theorem e_X12_plan {G : Gx} {Q : Rv → Zm → Prop} {Z : Zm} {m : Nat} {B : Nat} {c : Int} {y : Int} (hm : atModel Z m B) (h : ((R32 c) ∧ (R32 (zIdx 8 c)) ∧ (¬ ((zIdx 8 c) < 0) → (R32 y) ∧ True) ∧ ∀ Z16, Z16 = zSI Z m (zu (zI Z m) 19 (fC (b2 (((zIdx 8 c) < 0) ∨ (¬ (y = 112) ∧ (¬ (y = 115))))) 0 0)) → (if 0 < fC (b2 (((zIdx 8 c) < 0) ∨ (¬ (y = 112) ∧ (¬ (y = 115))))) 0 0 then (Q (.inl (some (iv 0))) Z16) else ((R32 y) ∧ ∀ Z22, Z22 = zSI Z16 m (zu (zI Z16 m) 10 (b2 (y = 112))) → (R32 (zI Z22 m 10)) ∧ (if (zI Z22 m 10) = 0 then (ZM G 11 m_X12_listBy [.ref m, iv c] Z22 (zKc G 12 m_X12_plan 88 [some (.ref m), none, none, none] [.ref m, .ref m] Q)) else (ZM G 11 m_X12_listBy [.ref m, iv c] Z22 (zKc G 12 m_X12_plan 66 [some (.ref m), none, none, none] [.ref m, .ref m] Q))))))) : ZM G 12 m_X12_plan [.ref m, iv c, iv y] Z Q := ZM.of [some (.ref m), some (iv c), some (iv y), none] rfl <| z_aload_n (pc' := 1) (j := 0) (by decide +kernel) rfl rfl <| z_ldcS (pc' := 3) (idx := 233) (i := 8) (by decide +kernel) (by decide) (by decide) (by decide) rfl <| z_iload_n (pc' := 4) (j := 1) (by decide +kernel) rfl rfl <| h.elim fun c1 h => z_callT (pc' := 7) (idx := 146) (i := 8) (mj := m_J0_indexOf_0f7a4) (av := [iv c]) (d' := 3) (by decide +kernel) rfl k_J0_indexOf_0f7a4 (by decide) (amM8 107 rfl (by decide +kernel)) rfl (by omega) (am_le rfl) rfl (am_le rfl) rfl <| zKf (s_indexOf (by decide) c1) <| h.elim fun c2 h => h.elim fun g13 h => am_use (fun k14 => z_if_lt (pc' := 10) (tgt := 22) (off := 15) (by decide +kernel) (by decide) rfl c2 (am_ite2 (fun q15 => z_iconst (pc' := 23) (n := 1) (by decide +kernel) rfl <| z_goto (tgt := 27) (off := 4) (by decide +kernel) (by decide) <| (am_jp (P := fun z9 => ZP G 12 m_X12_plan 27 [some (.ref m), some (iv c), some (iv y), none] [iv z9, .ref m] _ Q) (b2_o1 q15) k14)) (fun q15 => have h := g13 q15; z_iload_n (pc' := 11) (j := 2) (by decide +kernel) rfl rfl <| z_bipush (pc' := 13) (n := 112) (by decide +kernel) (by decide) rfl <| h.elim fun c3 h => am_use (fun k10 => z_icmp_eq (pc' := 16) (tgt := 26) (off := 13) (by decide +kernel) (by decide) rfl c3 (by decide : R32 112) (am_ite2 (fun q11 => z_iconst (pc' := 27) (n := 0) (by decide +kernel) rfl <| (am_jp (P := fun z9 => ZP G 12 m_X12_plan 27 [some (.ref m), some (iv c), some (iv y), none] [iv z9, .ref m] _ Q) (b2_a1 q11) k10)) (fun q11 => z_iload_n (pc' := 17) (j := 2) (by decide +kernel) rfl rfl <| z_bipush (pc' := 19) (n := 115) (by decide +kernel) (by decide) rfl <| am_use (fun k6 => z_icmp_eq (pc' := 22) (tgt := 26) (off := 7) (by decide +kernel) (by decide) rfl c3 (by decide : R32 115) (am_ite2 (fun q7 => z_iconst (pc' := 27) (n := 0) (by decide +kernel) rfl <| (am_jp (P := fun z9 => ZP G 12 m_X12_plan 27 [some (.ref m), some (iv c), some (iv y), none] [iv z9, .ref m] _ Q) (b2_n q7) k6)) (fun q7 => z_iconst (pc' := 23) (n := 1) (by decide +kernel) rfl <| z_goto (tgt := 27) (off := 4) (by decide +kernel) (by decide) <| (am_jp (P := fun z9 => ZP G 12 m_X12_plan 27 [some (.ref m), some (iv c), some (iv y), none] [iv z9, .ref m] _ Q) (b2_nn q7) k6)))) <| (am_jp (P := fun z9 => ZP G 12 m_X12_plan 27 [some (.ref m), some (iv c), some (iv y), none] [iv z9, .ref m] _ Q) (b2_a2 q11) k10)))) <| (am_jp (P := fun z9 => ZP G 12 m_X12_plan 27 [some (.ref m), some (iv c), some (iv y), none] [iv z9, .ref m] _ Q) (b2_o2 q15) k14)))) <| z_iconst (pc' := 28) (n := 0) (by decide +kernel) rfl <| z_iconst (pc' := 29) (n := 0) (by decide +kernel) rfl <| z_callV (pc' := 32) (idx := 133) (mj := m_X12_fails) (av := [iv (b2 (((zIdx 8 c) < 0) ∨ (¬ (y = 112) ∧ (¬ (y = 115))))), iv 0, iv 0]) (d' := 0) (by decide +kernel) rfl k_X12_fails l_RX12_133 rfl (by omega) (am_le rfl) rfl (am_le rfl) hm.o.1 hm.o.2 rfl <| zKf (s_fails hm (b2_01 _) (Or.inl rfl) (Or.inl rfl)) <| have h := h _ rfl; z_ifB_eq (pc' := 35) (tgt := 37) (off := 5) (by decide +kernel) (by decide) rfl (am_ite h (fun h => z_iconst (pc' := 36) (n := 0) (by decide +kernel) rfl <| z_ireturn (by decide +kernel) ⟨_, rfl, rfl⟩ h) (fun h => z_aload_n (pc' := 38) (j := 0) (by decide +kernel) rfl rfl <| z_iload_n (pc' := 39) (j := 2) (by decide +kernel) rfl rfl <| z_bipush (pc' := 41) (n := 112) (by decide +kernel) (by decide) rfl <| h.elim fun c17 h => am_use (fun k20 => z_icmp_ne (pc' := 44) (tgt := 48) (off := 7) (by decide +kernel) (by decide) rfl c17 (by decide : R32 112) (am_ite2 (fun q21 => z_iconst (pc' := 45) (n := 1) (by decide +kernel) rfl <| z_goto (tgt := 49) (off := 4) (by decide +kernel) (by decide) <| (am_jp (P := fun z9 => ZP G 12 m_X12_plan 49 [some (.ref m), some (iv c), some (iv y), none] [iv z9, .ref m] _ Q) (b2_p q21) k20)) (fun q21 => z_iconst (pc' := 49) (n := 0) (by decide +kernel) rfl <| (am_jp (P := fun z9 => ZP G 12 m_X12_plan 49 [some (.ref m), some (iv c), some (iv y), none] [iv z9, .ref m] _ Q) (b2_f q21) k20)))) <| z_putI (pc' := 52) (idx := 265) (ci := 12) (f := 10) (by decide +kernel) f_RX12_265 (am_nf rfl rfl) rfl (iN_narB (b2_01 _)) (iN_fitB (b2_01 _)) hm.o.1 hm.o.2 rfl <| have h := h _ rfl; z_aload_n (pc' := 53) (j := 0) (by decide +kernel) rfl rfl <| z_aload_n (pc' := 54) (j := 0) (by decide +kernel) rfl rfl <| z_getI (pc' := 57) (idx := 265) (ci := 12) (f := 10) (by decide +kernel) f_RX12_265 rfl hm.o.1 hm.o.2 rfl <| h.elim fun c23 h => z_if_eq (pc' := 60) (tgt := 82) (off := 25) (by decide +kernel) (by decide) rfl c23 (am_ite h (fun h => z_aload_n (pc' := 83) (j := 0) (by decide +kernel) rfl rfl <| z_aload_n (pc' := 84) (j := 0) (by decide +kernel) rfl rfl <| z_iload_n (pc' := 85) (j := 1) (by decide +kernel) rfl rfl <| z_callV (pc' := 88) (idx := 235) (mj := m_X12_listBy) (av := [iv c]) (d' := 11) (by decide +kernel) rfl k_X12_listBy l_RX12_235 rfl (by omega) (am_le rfl) rfl (am_le rfl) hm.o.1 hm.o.2 rfl (ZM.mono h (zKc_wk (wk_some (wk_none (wk_none (wk_none wk_nil))))))) (fun h => z_aload_n (pc' := 61) (j := 0) (by decide +kernel) rfl rfl <| z_aload_n (pc' := 62) (j := 0) (by decide +kernel) rfl rfl <| z_iload_n (pc' := 63) (j := 1) (by decide +kernel) rfl rfl <| z_callV (pc' := 66) (idx := 235) (mj := m_X12_listBy) (av := [iv c]) (d' := 11) (by decide +kernel) rfl k_X12_listBy l_RX12_235 rfl (by omega) (am_le rfl) rfl (am_le rfl) hm.o.1 hm.o.2 rfl (ZM.mono h (zKc_wk (wk_some (wk_none (wk_none (wk_none wk_nil))))))))))
set_option maxRecDepth 20000 in
theorem b_X12_plan_88 {G : Gx} {Q : Rv → Zm → Prop} {Z : Zm} {r88 : Nat} {Nr88 : Nat} {m : Nat} {B : Nat}  (hm : atModel Z m B) (hr88 : zA Z r88 100 Nr88) (h : (ZM G 11 m_X12_lengths [.ref m] Z (zKc G 12 m_X12_plan 92 [some (.ref m), none, none, none] [.ref r88, .ref m, .ref m] Q))) : ZP G 12 m_X12_plan 88 [some (.ref m), none, none, none] [.ref r88, .ref m, .ref m] Z Q := z_aload_n (pc' := 89) (j := 0) (by decide +kernel) rfl rfl <| z_callV (pc' := 92) (idx := 123) (mj := m_X12_lengths) (av := []) (d' := 11) (by decide +kernel) rfl k_X12_lengths l_RX12_123 rfl (by omega) (am_le rfl) rfl (am_le rfl) hm.o.1 hm.o.2 rfl h
set_option maxRecDepth 20000 in
theorem b_X12_plan_66 {G : Gx} {Q : Rv → Zm → Prop} {Z : Zm} {r66 : Nat} {Nr66 : Nat} {m : Nat} {B : Nat}  (hm : atModel Z m B) (hr66 : zA Z r66 100 Nr66) (h : (ZM G 11 m_X12_lengths [.ref m] Z (zKc G 12 m_X12_plan 70 [some (.ref m), none, none, none] [.ref r66, .ref m, .ref m] Q))) : ZP G 12 m_X12_plan 66 [some (.ref m), none, none, none] [.ref r66, .ref m, .ref m] Z Q := z_aload_n (pc' := 67) (j := 0) (by decide +kernel) rfl rfl <| z_callV (pc' := 70) (idx := 123) (mj := m_X12_lengths) (av := []) (d' := 11) (by decide +kernel) rfl k_X12_lengths l_RX12_123 rfl (by omega) (am_le rfl) rfl (am_le rfl) hm.o.1 hm.o.2 rfl h
set_option maxRecDepth 20000 in
theorem b_X12_plan_92 {G : Gx} {Q : Rv → Zm → Prop} {Z : Zm} {r88 : Nat} {Nr88 : Nat} {r92 : Nat} {m : Nat} {B : Nat}  (hm : atModel Z m B) (hr88 : zA Z r88 100 Nr88) (hr92 : zA Z r92 100 20) (h : (ZM G 11 m_X12_oneByOne [.ref m, .ref r88, .ref r92] Z (zKc G 12 m_X12_plan 95 [some (.ref m), none, none, none] [.ref m] Q))) : ZP G 12 m_X12_plan 92 [some (.ref m), none, none, none] [.ref r92, .ref r88, .ref m, .ref m] Z Q := z_callV (pc' := 95) (idx := 272) (mj := m_X12_oneByOne) (av := [.ref r88, .ref r92]) (d' := 11) (by decide +kernel) rfl k_X12_oneByOne l_RX12_272 rfl (by omega) (am_le rfl) rfl (am_le rfl) hm.o.1 hm.o.2 rfl h
set_option maxRecDepth 20000 in
theorem b_X12_plan_70 {G : Gx} {Q : Rv → Zm → Prop} {Z : Zm} {r66 : Nat} {Nr66 : Nat} {r70 : Nat} {m : Nat} {B : Nat}  (hm : atModel Z m B) (hr66 : zA Z r66 100 Nr66) (hr70 : zA Z r70 100 20) (h : (ZM G 11 m_X12_free [.ref m, .ref r66, .ref r70, .ref (m + 9), iv 0, iv (-1)] Z (zKc G 12 m_X12_plan 79 [some (.ref m), none, none, none] [.ref m] Q))) : ZP G 12 m_X12_plan 70 [some (.ref m), none, none, none] [.ref r70, .ref r66, .ref m, .ref m] Z Q := z_aload_n (pc' := 71) (j := 0) (by decide +kernel) rfl rfl <| z_getR (pc' := 74) (idx := 27) (ci := 12) (f := 6) (by decide +kernel) f_RX12_27 rfl hm.o.1 hm.o.2 hm.r6 rfl <| z_iconst (pc' := 75) (n := 0) (by decide +kernel) rfl <| z_iconst (pc' := 76) (n := -1) (by decide +kernel) rfl <| z_callV (pc' := 79) (idx := 268) (mj := m_X12_free) (av := [.ref r66, .ref r70, .ref (m + 9), iv 0, iv (-1)]) (d' := 11) (by decide +kernel) rfl k_X12_free l_RX12_268 rfl (by omega) (am_le rfl) rfl (am_le rfl) hm.o.1 hm.o.2 rfl h
set_option maxRecDepth 20000 in
theorem b_X12_plan_95 {G : Gx} {Q : Rv → Zm → Prop} {Z : Zm} {m : Nat} {B : Nat} {s0 : Int} (hm : atModel Z m B) (h : (∀ Z1, Z1 = zSI Z m (zu (zI Z m) 14 s0) → ZP G 12 m_X12_plan 100 [some (.ref m), none, none, some (iv 0)] [] Z1 Q)) : ZP G 12 m_X12_plan 95 [some (.ref m), none, none, none] [iv s0, .ref m] Z Q := z_putI (pc' := 98) (idx := 275) (ci := 12) (f := 14) (by decide +kernel) f_RX12_275 (am_nf rfl rfl) rfl rfl rfl hm.o.1 hm.o.2 rfl <| have h := h _ rfl; z_iconst (pc' := 99) (n := 0) (by decide +kernel) rfl <| z_istore_n (pc' := 100) (j := 3) (ls' := [some (.ref m), none, none, some (iv 0)]) (by decide +kernel) (by decide) rfl rfl <| h
set_option maxRecDepth 20000 in
theorem b_X12_plan_79 {G : Gx} {Q : Rv → Zm → Prop} {Z : Zm} {m : Nat} {B : Nat} {s0 : Int} (hm : atModel Z m B) (h : (ZP G 12 m_X12_plan 95 [some (.ref m), none, none, none] [iv s0, .ref m] Z Q)) : ZP G 12 m_X12_plan 79 [some (.ref m), none, none, none] [iv s0, .ref m] Z Q := z_goto (tgt := 95) (off := 16) (by decide +kernel) (by decide) <| h
set_option maxRecDepth 20000 in
theorem b_X12_plan_100 {G : Gx} {Q : Rv → Zm → Prop} {Z : Zm} {m : Nat} {B : Nat} {v3 : Int} (hm : atModel Z m B) (h : ((R32 v3) ∧ (if 20 ≤ v3 then (ZP G 12 m_X12_plan 138 [some (.ref m), none, none, some (iv 0)] [] Z Q) else ((zIx v3 20) ∧ ∀ Z4, Z4 = zSI Z (m + 11) (zu (zI Z (m + 11)) v3.toNat (zI Z (m + 15) v3.toNat)) → ∀ Z5, Z5 = zSI Z4 (m + 12) (zu (zI Z4 (m + 12)) v3.toNat (zI Z4 (m + 16) v3.toNat)) → ZP G 12 m_X12_plan 100 [some (.ref m), none, none, some (iv (v3 + 1))] [] Z5 Q)))) : ZP G 12 m_X12_plan 100 [some (.ref m), none, none, some (iv v3)] [] Z Q := z_iload_n (pc' := 101) (j := 3) (by decide +kernel) rfl rfl <| z_bipush (pc' := 103) (n := 20) (by decide +kernel) (by decide) rfl <| h.elim fun c1 h => z_icmp_ge (pc' := 106) (tgt := 136) (off := 33) (by decide +kernel) (by decide) rfl c1 (by decide : R32 20) (am_ite h (fun h => z_iconst (pc' := 137) (n := 0) (by decide +kernel) rfl <| z_istore_n (pc' := 138) (j := 3) (ls' := [some (.ref m), none, none, some (iv 0)]) (by decide +kernel) (by decide) rfl rfl <| h) (fun h => z_aload_n (pc' := 107) (j := 0) (by decide +kernel) rfl rfl <| z_getR (pc' := 110) (idx := 33) (ci := 12) (f := 11) (by decide +kernel) f_RX12_33 rfl hm.o.1 hm.o.2 hm.r11 rfl <| z_iload_n (pc' := 111) (j := 3) (by decide +kernel) rfl rfl <| z_aload_n (pc' := 112) (j := 0) (by decide +kernel) rfl rfl <| z_getR (pc' := 115) (idx := 45) (ci := 12) (f := 17) (by decide +kernel) f_RX12_45 rfl hm.o.1 hm.o.2 hm.r17 rfl <| z_iload_n (pc' := 116) (j := 3) (by decide +kernel) rfl rfl <| h.elim fun c3 h => z_iaload (pc' := 117) (by decide +kernel) hm.a17 c3 rfl <| z_iastore (pc' := 118) (by decide +kernel) hm.a11 c3 rfl <| have h := h _ rfl; z_aload_n (pc' := 119) (j := 0) (by decide +kernel) rfl rfl <| z_getR (pc' := 122) (idx := 36) (ci := 12) (f := 12) (by decide +kernel) f_RX12_36 rfl hm.o.1 hm.o.2 hm.r12 rfl <| z_iload_n (pc' := 123) (j := 3) (by decide +kernel) rfl rfl <| z_aload_n (pc' := 124) (j := 0) (by decide +kernel) rfl rfl <| z_getR (pc' := 127) (idx := 48) (ci := 12) (f := 18) (by decide +kernel) f_RX12_48 rfl hm.o.1 hm.o.2 hm.r18 rfl <| z_iload_n (pc' := 128) (j := 3) (by decide +kernel) rfl rfl <| z_iaload (pc' := 129) (by decide +kernel) hm.a18 c3 rfl <| z_iastore (pc' := 130) (by decide +kernel) hm.a12 c3 rfl <| have h := h _ rfl; z_iinc (pc' := 133) (j := 3) (n := 1) (x := v3) (ls' := [some (.ref m), none, none, some (iv (v3 + 1))]) (by decide +kernel) rfl (by decide) rfl rfl <| z_goto (tgt := 100) (off := -33) (by decide +kernel) (by decide) <| h))
set_option maxRecDepth 20000 in
theorem b_X12_plan_138 {G : Gx} {Q : Rv → Zm → Prop} {Z : Zm} {m : Nat} {B : Nat} {v3 : Int} (hm : atModel Z m B) (h : ((R32 v3) ∧ (if 3 ≤ v3 then (∀ Z3, Z3 = zSI Z m (zu (zI Z m) 9 1) → Q (.inl (some (iv (zI Z3 m 14)))) Z3) else ((zIx v3 3) ∧ ∀ Z5, Z5 = zSI Z (m + 13) (zu (zI Z (m + 13)) v3.toNat (zI Z (m + 9) v3.toNat)) → ZP G 12 m_X12_plan 138 [some (.ref m), none, none, some (iv (v3 + 1))] [] Z5 Q)))) : ZP G 12 m_X12_plan 138 [some (.ref m), none, none, some (iv v3)] [] Z Q := z_iload_n (pc' := 139) (j := 3) (by decide +kernel) rfl rfl <| z_iconst (pc' := 140) (n := 3) (by decide +kernel) rfl <| h.elim fun c1 h => z_icmp_ge (pc' := 143) (tgt := 161) (off := 21) (by decide +kernel) (by decide) rfl c1 (by decide : R32 3) (am_ite h (fun h => z_aload_n (pc' := 162) (j := 0) (by decide +kernel) rfl rfl <| z_iconst (pc' := 163) (n := 1) (by decide +kernel) rfl <| z_putI (pc' := 166) (idx := 79) (ci := 12) (f := 9) (by decide +kernel) f_RX12_79 (am_nf rfl rfl) rfl (iN_narB (Or.inr rfl)) rfl hm.o.1 hm.o.2 rfl <| have h := h _ rfl; z_aload_n (pc' := 167) (j := 0) (by decide +kernel) rfl rfl <| z_getI (pc' := 170) (idx := 275) (ci := 12) (f := 14) (by decide +kernel) f_RX12_275 rfl hm.o.1 hm.o.2 rfl <| z_ireturn (by decide +kernel) ⟨_, rfl, rfl⟩ h) (fun h => z_aload_n (pc' := 144) (j := 0) (by decide +kernel) rfl rfl <| z_getR (pc' := 147) (idx := 39) (ci := 12) (f := 13) (by decide +kernel) f_RX12_39 rfl hm.o.1 hm.o.2 hm.r13 rfl <| z_iload_n (pc' := 148) (j := 3) (by decide +kernel) rfl rfl <| z_aload_n (pc' := 149) (j := 0) (by decide +kernel) rfl rfl <| z_getR (pc' := 152) (idx := 27) (ci := 12) (f := 6) (by decide +kernel) f_RX12_27 rfl hm.o.1 hm.o.2 hm.r6 rfl <| z_iload_n (pc' := 153) (j := 3) (by decide +kernel) rfl rfl <| h.elim fun c4 h => z_iaload (pc' := 154) (by decide +kernel) hm.a6 c4 rfl <| z_iastore (pc' := 155) (by decide +kernel) hm.a13 c4 rfl <| have h := h _ rfl; z_iinc (pc' := 158) (j := 3) (n := 1) (x := v3) (ls' := [some (.ref m), none, none, some (iv (v3 + 1))]) (by decide +kernel) rfl (by decide) rfl rfl <| z_goto (tgt := 138) (off := -20) (by decide +kernel) (by decide) <| h))
/-! ===== the model's plan ===== -/
theorem IMb.cx {Z : Zm} {B u : Nat} {σ : St} {P : Sp} (h : IMb Z B σ) (hP : okP P) (hk : pK P = sK σ) (hu : isV Z u (kN (sK σ)) (pD P)) : mCx Z B u P := by
  refine ⟨h.1, by rw [hk]; exact h.2.2.1, hP, h.2.1, hu.1, by have := hu.2.1; omega, by have := hu.2.1; omega, ?_⟩
  rw [hk]
  exact hu.2.2
/-- the old plan with the new way -/
def flO (o : Option Pl) (v : Int) : Option Pl := match o with | none => none | some p => some (v, p.2)
theorem IMb.flag {Z : Zm} {B : Nat} {σ : St} {g : Nat → Int} {v : Int} (h : IMb Z B σ) (ho : okS σ) (h10 : g 10 = v) (hg : ∀ i, i < 17 → i ≠ 10 → g i = zI Z 300 i) : IMb (zSI Z 300 g) B (stP σ (flO (sP σ) v)) := by
  have e : ∀ a, a ≠ 300 → zI (zSI Z 300 g) a = zI Z a := fun a g => zI_other g
  refine h.up (σ' := stP σ (flO (sP σ) v)) ⟨Nat.le_refl _, fun _ _ => ⟨rfl, rfl, rfl⟩⟩ (fun a g1 g2 => e a (by omega)) rfl rfl rfl (by rw [zI_same, hg 2 (by omega) (by omega)]) (by rw [zI_same, hg 4 (by omega) (by omega), e 303 (by omega)]; exact h.tx) (fun c q g1 g2 => by rw [e _ (by omega)]; exact h.wk c q g1 g2) (by rw [e 309 (by omega)]; exact h.ha) (by rw [zI_same, hg 8 (by omega) (by omega), e 310 (by omega)]; exact h.ty) ?_ (by rw [zI_same, hg 16 (by omega) (by omega), e 314 (by omega)]; exact h.kb) ho.k ho.h
  show mPl (zSI Z 300 g) (sK σ) (flO (sP σ) v)
  have hp := h.pl
  rw [mPl, zI_same, hg 9 (by omega) (by omega), h10, hg 14 (by omega) (by omega), e 313 (by omega), e 311 (by omega), e 312 (by omega)]
  unfold flO
  cases ep : sP σ with
  | none => exact ⟨fun _ => hp.1 ep, fun p q => (by cases q)⟩
  | some p0 =>
    refine ⟨fun q => (by cases q), fun p q => ?_⟩
    obtain ⟨a1, a2, a3, a4, a5⟩ := hp.2 p0 ep
    have eq : (v, p0.2) = p := by
      cases q
      rfl
    rw [← eq]
    exact ⟨a1, rfl, a3, a4, a5⟩
theorem okT.flag {σ : St} (h : okS σ) (o : Option Pl) : okT (stP σ o) := h.T
theorem up4 (Z : Zm) {a b : Nat} (hab : a ≠ b) (f g f' g' : Nat → Int) : zSI (zSI (zSI (zSI Z a f) b g) a f') b g' = zSI (zSI Z a f') b g' := by
  rw [zSI_comm (zSI Z a f) g f' (fun e => hab e.symm), zSI_zSI, zSI_zSI]
theorem d_plan {G : Gx} {Z : Zm} {B : Nat} {σ : St} {c y : Int} (h : IMb Z B σ) (ho : okS σ) (hz : 322 ≤ zSz Z ∧ zSz Z < 990000) (hc : R32 c) (hy : R32 y) : ZM G 12 m_X12_plan [.ref 300, iv c, iv y] Z (rM Z iv (o_plan σ c y)) := by
  have hn := ho.1.n
  have e8 : zIdx 8 c = zIdx 2 c := (zIdx_eq rfl c).symm
  refine e_X12_plan h.1 ⟨hc, zIdx_r32 _ _, fun _ => ⟨hy, trivial⟩, ?_⟩
  rintro _ rfl
  rw [e8]
  unfold o_plan
  by_cases c1 : 0 ≤ zIdx 2 c ∧ (y = 112 ∨ y = 115)
  case neg =>
    rw [cIf_f c1, fC_1 (P := (zIdx 2 c < 0) ∨ (¬ (y = 112) ∧ (¬ (y = 115)))) (by omega), if_pos (by decide)]
    exact rM.no h (by decide) rfl
  rw [cIf_p c1, fC_o1 (P := (zIdx 2 c < 0) ∨ (¬ (y = 112) ∧ (¬ (y = 115)))) (by omega), if_neg (by decide)]
  refine ⟨hy, ?_⟩
  rintro _ rfl
  have h0 : IMb (zSI (zT Z 0) 300 (zu (zI (zT Z 0) 300) 10 (b2 (y = 112)))) B (stP σ (flO (sP σ) (b2 (y = 112)))) := (h.t 0).flag ho (zu_same _ _ _) fun i _ g => zu_other g
  have hT : okT (stP σ (flO (sP σ) (b2 (y = 112)))) := okT.flag ho _
  have e10 : zI (zSI (zT Z 0) 300 (zu (zI (zT Z 0) 300) 10 (b2 (y = 112)))) 300 10 = b2 (y = 112) := by rw [zI_same, zu_same]
  have e19 : zI (zSI (zT Z 0) 300 (zu (zI (zT Z 0) 300) 10 (b2 (y = 112)))) 300 19 = 0 := by rw [zI_same, zu_other (by decide), zI_t]
  have v0 : zV 0 0 Z (zSI (zT Z 0) 300 (zu (zI (zT Z 0) 300) 10 (b2 (y = 112)))) := zV_t.trans (zV_I (by decide))
  have sz : zSz (zSI (zT Z 0) 300 (zu (zI (zT Z 0) 300) 10 (b2 (y = 112)))) = zSz Z := rfl
  rw [e10]
  generalize zSI (zT Z 0) 300 (zu (zI (zT Z 0) 300) 10 (b2 (y = 112))) = Y at *
  have okP0 : okP (sP0 σ) := sP0_ok ho
  -- the end: rows are copied
  have fin : ∀ W, IMb W B (stP σ (flO (sP σ) (b2 (y = 112)))) → zF mS 7 140 Y W → isLs (lk σ c) (kN (sK σ)) (vLs σ c) → (∀ t, t < kN (sK σ) → zI W 315 t = (vSs σ c y).1 t ∧ zI W 316 t = (vSs σ c y).2 t) → ZP G 12 m_X12_plan 95 [some (.ref 300), none, none, none] [iv (plE (vPl σ c y)), .ref 300] W (rM Z iv (0, plE (vPl σ c y), stP σ (some (vPl σ c y)))) := fun W hW fW ls ht => by
    have hL : okL (sP0 σ) (vLs σ c) := ls.okL (P := sP0 σ)
    have w0 : ∀ i, zI W 300 i = zI Y 300 i := fun i => by rw [fW.i (by omega) (by unfold mS zB; omega)]
    refine b_X12_plan_95 hW.1 ?_
    rintro _ rfl
    have e3 : ∀ f g a, a ≠ 300 → a ≠ 311 → a ≠ 312 → zI (zSI (zSI (zSI W 300 (zu (zI W 300) 14 (plE (vPl σ c y)))) 311 f) 312 g) a = zI W a := fun f g a g1 g2 g3 => by rw [zI_other g3, zI_other g2, zI_other g1]
    suffices k1 : ∀ j, j ≤ 20 → ∀ f g, (∀ t, t < j → f t = zI W 315 t ∧ g t = zI W 316 t) → ZP G 12 m_X12_plan 100 [some (.ref 300), none, none, some (iv (j : Int))] [] (zSI (zSI (zSI W 300 (zu (zI W 300) 14 (plE (vPl σ c y)))) 311 f) 312 g) (rM Z iv (0, plE (vPl σ c y), stP σ (some (vPl σ c y)))) by
      have h9 := k1 0 (by omega) (zI (zSI W 300 (zu (zI W 300) 14 (plE (vPl σ c y)))) 311) (zI (zSI W 300 (zu (zI W 300) 14 (plE (vPl σ c y)))) 312) fun t q => absurd q (Nat.not_lt_zero _)
      have q : ∀ V : Zm, zSI (zSI V 311 (zI V 311)) 312 (zI V 312) = V := fun V => by rw [zSI_id, zSI_id]
      rw [q] at h9
      exact h9
    refine am_up (n := 20) fun j hj ih f g hfg => ?_
    have hm := ((hW.1.s (a := 300) (f := (zu (zI W 300) 14 (plE (vPl σ c y))))).s (a := 311) (f := f)).s (a := 312) (f := g)
    refine b_X12_plan_100 hm ⟨by omega, ?_⟩
    by_cases cj : j < 20
    · rw [if_neg (by omega)]
      refine ⟨zIx_nat cj (by omega), ?_⟩
      rintro _ rfl
      rintro _ rfl
      rw [Int.toNat_natCast, show 300 + 11 = 311 from rfl, show 300 + 12 = 312 from rfl, show 300 + 15 = 315 from rfl, show 300 + 16 = 316 from rfl, zI_other (a := 311) (b := 312) (by decide), zI_other (a := 311) (b := 316) (by decide), e3 f g 315 (by decide) (by decide) (by decide), e3 f g 316 (by decide) (by decide) (by decide), zI_same, zI_other (a := 312) (b := 311) (by decide), zI_same, up4 _ (by decide)]
      refine ih cj _ _ fun t q => ?_
      by_cases e : t = j
      · rw [e, zu_same, zu_same]
        exact ⟨rfl, rfl⟩
      · rw [zu_other e, zu_other e]
        exact hfg t (by omega)
    · rw [if_pos (by omega)]
      have hfg' : ∀ t, t < kN (sK σ) → f t = (vSs σ c y).1 t ∧ g t = (vSs σ c y).2 t := fun t q => by
        rw [← (ht t q).1, ← (ht t q).2]
        exact hfg t (by omega)
      suffices k2 : ∀ i, i ≤ 3 → ∀ q, (∀ s, s < i → q s = sA σ s) → ZP G 12 m_X12_plan 138 [some (.ref 300), none, none, some (iv (i : Int))] [] (zSI (zSI (zSI (zSI W 300 (zu (zI W 300) 14 (plE (vPl σ c y)))) 311 f) 312 g) 313 q) (rM Z iv (0, plE (vPl σ c y), stP σ (some (vPl σ c y)))) by
        have h9 := k2 0 (by omega) (zI (zSI (zSI (zSI W 300 (zu (zI W 300) 14 (plE (vPl σ c y)))) 311 f) 312 g) 313) fun s q => absurd q (Nat.not_lt_zero _)
        rw [zSI_id] at h9
        exact h9
      refine am_up (n := 3) fun i hi ihi q hq => ?_
      refine b_X12_plan_138 (hm.s (a := 313) (f := q)) ⟨by omega, ?_⟩
      have e5 : ∀ a, a ≠ 300 → a ≠ 311 → a ≠ 312 → a ≠ 313 → zI (zSI (zSI (zSI (zSI W 300 (zu (zI W 300) 14 (plE (vPl σ c y)))) 311 f) 312 g) 313 q) a = zI W a := fun a g1 g2 g3 g4 => by rw [zI_other g4, e3 f g a g1 g2 g3]
      have e53 : zI (zSI (zSI (zSI (zSI W 300 (zu (zI W 300) 14 (plE (vPl σ c y)))) 311 f) 312 g) 313 q) 300 = zu (zI W 300) 14 (plE (vPl σ c y)) := by rw [zI_other (by decide), zI_other (by decide), zI_other (by decide), zI_same]
      by_cases ci : i < 3
      · rw [if_neg (by omega)]
        refine ⟨zIx_nat ci (by omega), ?_⟩
        rintro _ rfl
        rw [Int.toNat_natCast, show 300 + 13 = 313 from rfl, show 300 + 9 = 309 from rfl, zSI_zSI, zI_same, e5 309 (by decide) (by decide) (by decide) (by decide)]
        refine ihi ci _ fun s q2 => ?_
        by_cases e : s = i
        · rw [e, zu_same]
          exact hW.ha i ci
        · rw [zu_other e]
          exact hq s (by omega)
      · rw [if_pos (by omega)]
        rintro _ rfl
        have V : zV 7 140 Z (zSI (zSI (zSI (zSI (zSI W 300 (zu (zI W 300) 14 (plE (vPl σ c y)))) 311 f) 312 g) 313 q) 300 (zu (zI (zSI (zSI (zSI (zSI W 300 (zu (zI W 300) 14 (plE (vPl σ c y)))) 311 f) 312 g) 313 q) 300) 9 1)) := (v0.trans (mS_v fW (by omega))).trans (((((zV_I (a := 300) (by decide)).trans (zV_I (a := 311) (by decide))).trans (zV_I (a := 312) (by decide))).trans (zV_I (a := 313) (by decide))).trans (zV_I (a := 300) (by decide)))
        refine rM.ok (B := B) ?_ ?_ V (by omega) (by omega) ?_
        · refine hW.up (σ' := stP σ (some (vPl σ c y))) ⟨Nat.le_refl _, fun _ _ => ⟨rfl, rfl, rfl⟩⟩ (fun a g1 g2 => ?_) rfl rfl rfl ?_ ?_ (fun c h g1 g2 => ?_) ?_ ?_ ⟨fun q => (by cases q), fun p hp => ?_⟩ ?_ ho.k ho.h
          · rw [zI_other (by omega), e5 a (by omega) (by omega) (by omega) (by omega)]
          · rw [zI_same, e53, zu_other (by decide), zu_other (by decide)]
          · rw [zI_same, e53, zu_other (by decide), zu_other (by decide), zI_other (by decide), e5 303 (by decide) (by decide) (by decide) (by decide)]
            exact hW.tx
          · rw [zI_other (by omega), e5 (305 + c) (by omega) (by omega) (by omega) (by omega)]
            exact hW.wk c h g1 g2
          · rw [zI_other (by decide), e5 309 (by decide) (by decide) (by decide) (by decide)]
            exact hW.ha
          · rw [zI_same, e53, zu_other (by decide), zu_other (by decide), zI_other (by decide), e5 310 (by decide) (by decide) (by decide) (by decide)]
            exact hW.ty
          · obtain rfl : vPl σ c y = p := by
              cases hp
              rfl
            refine ⟨?_, ?_, ?_, fun s hs => ?_, fun t ht' => ?_⟩
            · rw [zI_same, zu_same]
            · rw [zI_same, e53, zu_other (by decide), zu_other (by decide), w0, e10]
              rfl
            · rw [zI_same, e53, zu_other (by decide), zu_same]
            · rw [zI_other (by decide), zI_same]
              exact hq s (by omega)
            · rw [zI_other (by decide), zI_other (by decide), zI_other (by decide), zI_same, zI_other (by decide), zI_other (by decide), zI_same]
              exact hfg' t ht'
          · rw [zI_same, e53, zu_other (by decide), zu_other (by decide), zI_other (by decide), e5 314 (by decide) (by decide) (by decide) (by decide)]
            exact hW.kb
        · rw [zI_same, e53, zu_other (by decide), zu_other (by decide), w0, e19]
        · rw [zI_same, e53, zu_other (by decide), zu_same]
  have li := s_listBy (G := G) (c := c) h0 hT (by rw [sz]; exact hz) hc
  have lsE : vLs (stP σ (flO (sP σ) (b2 (y = 112)))) c = vLs σ c := rfl
  have hzY : 322 ≤ zSz Y ∧ zSz Y < 990000 := by rw [sz]; exact hz
  have simP : ∀ W, zF mS 7 140 Y W → isLs (lk σ c) (kN (sK σ)) (vLs σ c) → ∀ f g, zF mS 7 140 Y (zSI (zSI W 315 f) 316 g) := fun W fW _ f g => (fW.trans (zF_I (by unfold mS zB; omega))).trans (zF_I (by unfold mS zB; omega))
  have mRow : ∀ W a, zA W a 100 (kN (sK σ)) → 322 ≤ a → isLs (lk σ c) (kN (sK σ)) (vLs σ c) → (∀ p, p < kN (sK σ) → zI W a p = (vLs σ c p : Int)) → mLs W (sP0 σ) a (vLs σ c) := fun W a h1 h2 h3 h4 => ⟨h1, by omega, by omega, h3.okL (P := sP0 σ), h4⟩
  by_cases d : y = 112
  · have hy1 : b2 (y = 112) = 1 := b2_p d
    have eS : vSs σ c y = simE (sP0 σ) (vLs σ c) := if_pos d
    refine ⟨by rw [hy1]; decide, ?_⟩
    rw [if_neg (by rw [hy1]; decide)]
    refine (li.deeper (by omega)).mono ?_
    rintro r W ⟨rfl, fW, hW, aW, ls, el⟩
    refine b_X12_plan_66 hW.1 aW (((m_len hW hT (mHz.f hzY fW (by omega))).deeper (by omega)).mono ?_)
    rintro r X ⟨rfl, fX, hX, vX⟩
    have aX := aW.ext fX.1
    have fYX := fW.trans fX
    refine b_X12_plan_70 hX.1 aX vX.1 ?_
    have rX : mLs X (sP0 σ) (zSz Y + 4) (vLs σ c) := mRow X _ aX (by omega) ls fun p hp => by
      rw [fX.i aW.1 (by unfold mS zB; omega)]
      exact el p hp
    refine ((s_free (P := sP0 σ) (H := 3) (hX.cx okP0 rfl vX) (by show R32 (-1); decide) ⟨hX.1.a6, by decide, by decide, by decide, Or.inl ⟨rfl, fun t ht => ⟨rfl, rfl⟩, by decide, fun c hc => hX.ha c hc⟩⟩ rX).deeper (by omega)).mono ?_
    rintro r V ⟨rfl, ⟨f, g, rfl⟩, ht⟩
    have hV : IMb (zSI (zSI X 315 f) 316 g) B (stP σ (flO (sP σ) (b2 (y = 112)))) := hX.m (by have := fYX.sz; omega) ((zF_I (S := mS) (by unfold mS zB; omega)).trans (zF_I (by unfold mS zB; omega)))
    refine b_X12_plan_79 hV.1 ?_
    have h9 := fin _ hV (simP X fYX ls f g) ls (by rw [eS]; exact ht)
    have eE : plE (vPl σ c y) = zmax (fun t => (simE (sP0 σ) (vLs σ c)).1 t + pD (sP0 σ) t) (kN (pK (sP0 σ))) := by
      show zmax (fun t => (vSs σ c y).1 t + kF (sK σ) 0 t) (kN (sK σ)) = _
      rw [eS]
      rfl
    rw [← eE]
    exact h9
  · have hy1 : b2 (y = 112) = 0 := b2_f d
    have eS : vSs σ c y = srE (sP0 σ) (vLs σ c) := if_neg d
    refine ⟨by rw [hy1]; decide, ?_⟩
    rw [if_pos (by rw [hy1])]
    refine (li.deeper (by omega)).mono ?_
    rintro r W ⟨rfl, fW, hW, aW, ls, el⟩
    refine b_X12_plan_88 hW.1 aW (((m_len hW hT (mHz.f hzY fW (by omega))).deeper (by omega)).mono ?_)
    rintro r X ⟨rfl, fX, hX, vX⟩
    have aX := aW.ext fX.1
    have fYX := fW.trans fX
    refine b_X12_plan_92 hX.1 aX vX.1 ?_
    have rX : mLs X (sP0 σ) (zSz Y + 4) (vLs σ c) := mRow X _ aX (by omega) ls fun p hp => by
      rw [fX.i aW.1 (by unfold mS zB; omega)]
      exact el p hp
    refine ((s_oneByOne (P := sP0 σ) (hX.cx okP0 rfl vX) rfl rX (fun t ht => ⟨rfl, rfl⟩) (fun c hc => hX.ha c hc)).deeper (by omega)).mono ?_
    rintro r V ⟨rfl, ⟨f, g, rfl⟩, ht⟩
    have hV : IMb (zSI (zSI X 315 f) 316 g) B (stP σ (flO (sP σ) (b2 (y = 112)))) := hX.m (by have := fYX.sz; omega) ((zF_I (S := mS) (by unfold mS zB; omega)).trans (zF_I (by unfold mS zB; omega)))
    have h9 := fin _ hV (simP X fYX ls f g) ls (by rw [eS]; exact ht)
    have eE : plE (vPl σ c y) = zmax (fun t => (srE (sP0 σ) (vLs σ c)).1 t + pD (sP0 σ) t) (kN (pK (sP0 σ))) := by
      show zmax (fun t => (vSs σ c y).1 t + kF (sK σ) 0 t) (kN (sK σ)) = _
      rw [eS]
      rfl
    rw [← eE]
    exact h9
