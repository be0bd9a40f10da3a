set_option maxRecDepth 20000 in
theorem e_X12_crane {G : Gx} {Q : Rv → Zm → Prop} {Z : Zm} {m : Nat} {B : Nat} (hm : atModel Z m B) (h : ((zSz Z < 1000000) ∧ ∀ Z2, Z2 = zC Z 100 20 20 → ZP G 12 m_X12_crane 9 [some (.ref m), some (iv 0), some (.ref (zSz Z)), some (iv 0), none, none, none, none] [] Z2 Q)) : ZM G 12 m_X12_crane [.ref m] Z Q := ZM.of [some (.ref m), none, none, none, none, none, none, none] rfl <| z_iconst (pc' := 1) (n := 0) (by decide +kernel) rfl <| z_istore_n (pc' := 2) (j := 1) (ls' := [some (.ref m), some (iv 0), none, none, none, none, none, none]) (by decide +kernel) (by decide) rfl rfl <| z_bipush (pc' := 4) (n := 20) (by decide +kernel) (by decide) rfl <| h.elim fun c1 h => z_new100 (pc' := 6) (by decide +kernel) (amM1 88 rfl (by decide +kernel)) (by decide) (by decide) c1 rfl <| have h := h _ rfl; z_astore_n (pc' := 7) (j := 2) (ls' := [some (.ref m), some (iv 0), some (.ref (zSz Z)), none, none, none, none, none]) (by decide +kernel) (by decide) rfl rfl <| z_iconst (pc' := 8) (n := 0) (by decide +kernel) rfl <| z_istore_n (pc' := 9) (j := 3) (ls' := [some (.ref m), some (iv 0), some (.ref (zSz Z)), some (iv 0), none, none, none, none]) (by decide +kernel) (by decide) rfl rfl <| h
set_option maxRecDepth 20000 in
theorem b_X12_crane_9 {G : Gx} {Q : Rv → Zm → Prop} {Z : Zm} {a4 : Nat} {m : Nat} {B : Nat} {v1 : Int} {v3 : Int} (hm : atModel Z m B) (ha4 : zA Z a4 100 20) (h : ((R32 v3) ∧ (R32 (zI Z B 0)) ∧ (if (zI Z B 0) ≤ v3 then ((R32 v1) ∧ ∀ Z11, Z11 = zSI Z m (zu (zI Z m) 19 (fC (b2 (¬ (v1 ≤ 5))) 0 0)) → (if 0 < fC (b2 (¬ (v1 ≤ 5))) 0 0 then (Q (.inl (some (iv 0))) Z11) else ((0 ≤ v1) ∧ (v1 < 1000) ∧ (zSz Z11 < 1000000) ∧ ∀ Z15, Z15 = zC Z11 100 v1.toNat v1.toNat → ZP G 12 m_X12_crane 67 [some (.ref m), some (iv v1), some (.ref a4), some (.ref (zSz Z11)), some (iv 0), none, none, none] [] Z15 Q))) else ((zIx v3 20) ∧ (R32 (mG Z B v3.toNat 2)) ∧ (if (mG Z B v3.toNat 2) = 0 then ((zIx v1 20) ∧ ∀ Z20, Z20 = zSI Z a4 (zu (zI Z a4) v1.toNat v3) → ZP G 12 m_X12_crane 9 [some (.ref m), some (iv (v1 + 1)), some (.ref a4), some (iv (v3 + 1)), none, none, none, none] [] Z20 Q) else (ZP G 12 m_X12_crane 9 [some (.ref m), some (iv v1), some (.ref a4), some (iv (v3 + 1)), none, none, none, none] [] Z Q)))))) : ZP G 12 m_X12_crane 9 [some (.ref m), some (iv v1), some (.ref a4), some (iv v3), none, none, none, none] [] Z Q := z_iload_n (pc' := 10) (j := 3) (by decide +kernel) rfl rfl <| z_aload_n (pc' := 11) (j := 0) (by decide +kernel) rfl rfl <| z_callV (pc' := 14) (idx := 64) (mj := m_X12_many) (av := []) (d' := 0) (by decide +kernel) rfl k_X12_many l_RX12_64 rfl (by omega) (am_le rfl) rfl (am_le rfl) hm.o.1 hm.o.2 rfl <| zKf (s_many hm) <| h.elim fun c1 h => h.elim fun c2 h => z_icmp_ge (pc' := 17) (tgt := 39) (off := 25) (by decide +kernel) (by decide) rfl c1 c2 (am_ite h (fun h => z_aload_n (pc' := 40) (j := 0) (by decide +kernel) rfl rfl <| z_iload_n (pc' := 41) (j := 1) (by decide +kernel) rfl rfl <| z_iconst (pc' := 42) (n := 5) (by decide +kernel) rfl <| h.elim fun c6 h => am_use (fun k9 => z_icmp_le (pc' := 45) (tgt := 49) (off := 7) (by decide +kernel) (by decide) rfl c6 (by decide : R32 5) (am_ite2 (fun q10 => z_iconst (pc' := 50) (n := 0) (by decide +kernel) rfl <| (am_jp (P := fun z9 => ZP G 12 m_X12_crane 50 [some (.ref m), some (iv v1), some (.ref a4), some (iv v3), none, none, none, none] [iv z9, .ref m] _ Q) (b2_n q10) k9)) (fun q10 => z_iconst (pc' := 46) (n := 1) (by decide +kernel) rfl <| z_goto (tgt := 50) (off := 4) (by decide +kernel) (by decide) <| (am_jp (P := fun z9 => ZP G 12 m_X12_crane 50 [some (.ref m), some (iv v1), some (.ref a4), some (iv v3), none, none, none, none] [iv z9, .ref m] _ Q) (b2_nn q10) k9)))) <| z_iconst (pc' := 51) (n := 0) (by decide +kernel) rfl <| z_iconst (pc' := 52) (n := 0) (by decide +kernel) rfl <| z_callV (pc' := 55) (idx := 133) (mj := m_X12_fails) (av := [iv (b2 (¬ (v1 ≤ 5))), iv 0, iv 0]) (d' := 0) (by decide +kernel) rfl k_X12_fails l_RX12_133 rfl (by omega) (am_le rfl) rfl (am_le rfl) hm.o.1 hm.o.2 rfl <| zKf (s_fails hm (b2_01 _) (Or.inl rfl) (Or.inl rfl)) <| have h := h _ rfl; z_ifB_eq (pc' := 58) (tgt := 60) (off := 5) (by decide +kernel) (by decide) rfl (am_ite h (fun h => z_iconst (pc' := 59) (n := 0) (by decide +kernel) rfl <| z_ireturn (by decide +kernel) ⟨_, rfl, rfl⟩ h) (fun h => z_iload_n (pc' := 61) (j := 1) (by decide +kernel) rfl rfl <| h.elim fun c12 h => h.elim fun c13 h => h.elim fun c14 h => z_new100 (pc' := 63) (by decide +kernel) (amM1 88 rfl (by decide +kernel)) c12 c13 c14 rfl <| have h := h _ rfl; z_astore_n (pc' := 64) (j := 3) (ls' := [some (.ref m), some (iv v1), some (.ref a4), some (.ref (zSz (zSI Z m (zu (zI Z m) 19 (fC (b2 (¬ (v1 ≤ 5))) 0 0))))), none, none, none, none]) (by decide +kernel) (by decide) rfl rfl <| z_iconst (pc' := 65) (n := 0) (by decide +kernel) rfl <| z_istore (pc' := 67) (j := 4) (ls' := [some (.ref m), some (iv v1), some (.ref a4), some (.ref (zSz (zSI Z m (zu (zI Z m) 19 (fC (b2 (¬ (v1 ≤ 5))) 0 0))))), some (iv 0), none, none, none]) (by decide +kernel) (by decide) rfl rfl <| h))) (fun h => z_aload_n (pc' := 18) (j := 0) (by decide +kernel) rfl rfl <| z_iload_n (pc' := 19) (j := 3) (by decide +kernel) rfl rfl <| z_iconst (pc' := 20) (n := 2) (by decide +kernel) rfl <| h.elim fun c16 h => z_callV (pc' := 23) (idx := 83) (mj := m_X12_get) (av := [iv v3, iv 2]) (d' := 0) (by decide +kernel) rfl k_X12_get l_RX12_83 rfl (by omega) (am_le rfl) rfl (am_le rfl) hm.o.1 hm.o.2 rfl <| zKf (s_get hm c16 ⟨by decide, by decide, by decide⟩) <| h.elim fun c17 h => z_if_ne (pc' := 26) (tgt := 33) (off := 10) (by decide +kernel) (by decide) rfl c17 (am_ite h (fun h => z_aload_n (pc' := 27) (j := 2) (by decide +kernel) rfl rfl <| z_iload_n (pc' := 28) (j := 1) (by decide +kernel) rfl rfl <| z_iload_n (pc' := 29) (j := 3) (by decide +kernel) rfl rfl <| h.elim fun c19 h => z_iastore (pc' := 30) (by decide +kernel) ha4 c19 rfl <| have h := h _ rfl; z_iinc (pc' := 33) (j := 1) (n := 1) (x := v1) (ls' := [some (.ref m), some (iv (v1 + 1)), some (.ref a4), some (iv v3), none, none, none, none]) (by decide +kernel) rfl (by decide) rfl rfl <| z_iinc (pc' := 36) (j := 3) (n := 1) (x := v3) (ls' := [some (.ref m), some (iv (v1 + 1)), some (.ref a4), some (iv (v3 + 1)), none, none, none, none]) (by decide +kernel) rfl (by decide) rfl rfl <| z_goto (tgt := 9) (off := -27) (by decide +kernel) (by decide) <| h) (fun h => z_iinc (pc' := 36) (j := 3) (n := 1) (x := v3) (ls' := [some (.ref m), some (iv v1), some (.ref a4), some (iv (v3 + 1)), none, none, none, none]) (by decide +kernel) rfl (by decide) rfl rfl <| z_goto (tgt := 9) (off := -27) (by decide +kernel) (by decide) <| h))))
set_option maxRecDepth 20000 in
theorem b_X12_crane_67 {G : Gx} {Q : Rv → Zm → Prop} {Z : Zm} {a4 : Nat} {a61 : Nat} {Na61 : Nat} {m : Nat} {B : Nat} {v1 : Int} {v4 : Int} (hm : atModel Z m B) (ha4 : zA Z a4 100 20) (ha61 : zA Z a61 100 Na61) (h : ((R32 v4) ∧ (R32 v1) ∧ (if v1 ≤ v4 then (ZM G 11 m_X12_lengths [.ref m] Z (zKc G 12 m_X12_crane 91 [some (.ref m), none, none, some (.ref a61), none, none, none, none] [] Q)) else ((zIx v4 20) ∧ (zIx v4 Na61) ∧ ∀ Z7, Z7 = zSI Z a61 (zu (zI Z a61) v4.toNat (zI Z a4 v4.toNat)) → ZP G 12 m_X12_crane 67 [some (.ref m), some (iv v1), some (.ref a4), some (.ref a61), some (iv (v4 + 1)), none, none, none] [] Z7 Q)))) : ZP G 12 m_X12_crane 67 [some (.ref m), some (iv v1), some (.ref a4), some (.ref a61), some (iv v4), none, none, none] [] Z Q := z_iload (pc' := 69) (j := 4) (by decide +kernel) rfl rfl <| z_iload_n (pc' := 70) (j := 1) (by decide +kernel) rfl rfl <| h.elim fun c1 h => h.elim fun c2 h => z_icmp_ge (pc' := 73) (tgt := 87) (off := 17) (by decide +kernel) (by decide) rfl c1 c2 (am_ite h (fun h => z_aload_n (pc' := 88) (j := 0) (by decide +kernel) rfl rfl <| z_callV (pc' := 91) (idx := 123) (mj := m_X12_lengths) (av := []) (d' := 11) (by decide +kernel) rfl k_X12_lengths l_RX12_123 rfl (by omega) (am_le rfl) rfl (am_le rfl) hm.o.1 hm.o.2 rfl (ZM.mono h (zKc_wk (wk_some (wk_none (wk_none (wk_some (wk_none (wk_none (wk_none (wk_none wk_nil))))))))))) (fun h => z_aload_n (pc' := 74) (j := 3) (by decide +kernel) rfl rfl <| z_iload (pc' := 76) (j := 4) (by decide +kernel) rfl rfl <| z_aload_n (pc' := 77) (j := 2) (by decide +kernel) rfl rfl <| z_iload (pc' := 79) (j := 4) (by decide +kernel) rfl rfl <| h.elim fun c5 h => z_iaload (pc' := 80) (by decide +kernel) ha4 c5 rfl <| h.elim fun c6 h => z_iastore (pc' := 81) (by decide +kernel) ha61 c6 rfl <| have h := h _ rfl; z_iinc (pc' := 84) (j := 4) (n := 1) (x := v4) (ls' := [some (.ref m), some (iv v1), some (.ref a4), some (.ref a61), some (iv (v4 + 1)), none, none, none]) (by decide +kernel) rfl (by decide) rfl rfl <| z_goto (tgt := 67) (off := -17) (by decide +kernel) (by decide) <| h))
set_option maxRecDepth 20000 in
theorem b_X12_crane_91 {G : Gx} {Q : Rv → Zm → Prop} {Z : Zm} {a61 : Nat} {Na61 : Nat} {r91 : Nat} {m : Nat} {B : Nat}  (hm : atModel Z m B) (ha61 : zA Z a61 100 Na61) (hr91 : zA Z r91 100 20) (h : (ZP G 12 m_X12_crane 101 [some (.ref m), none, none, some (.ref a61), some (.ref r91), some (iv 1000000), some (iv 1), none] [] Z Q)) : ZP G 12 m_X12_crane 91 [some (.ref m), none, none, some (.ref a61), none, none, none, none] [.ref r91] Z Q := z_astore (pc' := 93) (j := 4) (ls' := [some (.ref m), none, none, some (.ref a61), some (.ref r91), none, none, none]) (by decide +kernel) (by decide) rfl rfl <| z_ldcw (pc' := 96) (idx := 261) (w := 1000000) (v := 1000000) (by decide +kernel) (amM9 148 rfl (by decide +kernel)) (by decide) rfl <| z_istore (pc' := 98) (j := 5) (ls' := [some (.ref m), none, none, some (.ref a61), some (.ref r91), some (iv 1000000), none, none]) (by decide +kernel) (by decide) rfl rfl <| z_iconst (pc' := 99) (n := 1) (by decide +kernel) rfl <| z_istore (pc' := 101) (j := 6) (ls' := [some (.ref m), none, none, some (.ref a61), some (.ref r91), some (iv 1000000), some (iv 1), none]) (by decide +kernel) (by decide) rfl rfl <| h
set_option maxRecDepth 20000 in
theorem b_X12_crane_101 {G : Gx} {Q : Rv → Zm → Prop} {Z : Zm} {a61 : Nat} {Na61 : Nat} {r91 : Nat} {m : Nat} {B : Nat} {v5 : Int} {v6 : Int} (hm : atModel Z m B) (ha61 : zA Z a61 100 Na61) (hr91 : zA Z r91 100 20) (h : ((R32 v6) ∧ (if v6 = 0 then (Q (.inl (some (iv v5))) Z) else (ZM G 11 m_X12_ordered [.ref m, .ref a61, .ref r91] Z (zKc G 12 m_X12_crane 113 [some (.ref m), none, none, some (.ref a61), some (.ref r91), some (iv v5), none, none] [] Q))))) : ZP G 12 m_X12_crane 101 [some (.ref m), none, none, some (.ref a61), some (.ref r91), some (iv v5), some (iv v6), none] [] Z Q := z_iload (pc' := 103) (j := 6) (by decide +kernel) rfl rfl <| h.elim fun c1 h => z_if_eq (pc' := 106) (tgt := 144) (off := 41) (by decide +kernel) (by decide) rfl c1 (am_ite h (fun h => z_iload (pc' := 146) (j := 5) (by decide +kernel) rfl rfl <| z_ireturn (by decide +kernel) ⟨_, rfl, rfl⟩ h) (fun h => z_aload_n (pc' := 107) (j := 0) (by decide +kernel) rfl rfl <| z_aload_n (pc' := 108) (j := 3) (by decide +kernel) rfl rfl <| z_aload (pc' := 110) (j := 4) (by decide +kernel) rfl rfl <| z_callV (pc' := 113) (idx := 364) (mj := m_X12_ordered) (av := [.ref a61, .ref r91]) (d' := 11) (by decide +kernel) rfl k_X12_ordered l_RX12_364 rfl (by omega) (am_le rfl) rfl (am_le rfl) hm.o.1 hm.o.2 rfl (ZM.mono h (zKc_wk (wk_some (wk_none (wk_none (wk_some (wk_some (wk_some (wk_none (wk_none wk_nil))))))))))))
set_option maxRecDepth 20000 in
theorem b_X12_crane_113 {G : Gx} {Q : Rv → Zm → Prop} {Z : Zm} {a61 : Nat} {Na61 : Nat} {r91 : Nat} {m : Nat} {B : Nat} {v5 : Int} {s0 : Int} (hm : atModel Z m B) (ha61 : zA Z a61 100 Na61) (hr91 : zA Z r91 100 20) (h : ((R32 s0) ∧ (¬ (s0 = (-1)) → (R32 v5) ∧ True) ∧ ZM G 11 m_X12_hasNext [.ref a61] Z (zKc G 12 m_X12_crane 139 [some (.ref m), none, none, some (.ref a61), some (.ref r91), some (iv (if s0 = (-1) then v5 else min v5 s0)), none, none] [] Q))) : ZP G 12 m_X12_crane 113 [some (.ref m), none, none, some (.ref a61), some (.ref r91), some (iv v5), none, none] [iv s0] Z Q := z_istore (pc' := 115) (j := 7) (ls' := [some (.ref m), none, none, some (.ref a61), some (.ref r91), some (iv v5), none, some (iv s0)]) (by decide +kernel) (by decide) rfl rfl <| z_iload (pc' := 117) (j := 7) (by decide +kernel) rfl rfl <| z_iconst (pc' := 118) (n := -1) (by decide +kernel) rfl <| h.elim fun c1 h => h.elim fun g4 h => am_use (fun k5 => z_icmp_eq (pc' := 121) (tgt := 131) (off := 13) (by decide +kernel) (by decide) rfl c1 (by decide : R32 (-1)) (am_ite2 (fun q6 => z_iload (pc' := 133) (j := 5) (by decide +kernel) rfl rfl <| (am_jp (P := fun z9 => ZP G 12 m_X12_crane 133 [some (.ref m), none, none, some (.ref a61), some (.ref r91), some (iv v5), none, some (iv s0)] [iv z9] _ Q) (if_pos q6) k5)) (fun q6 => have h := g4 q6; z_iload (pc' := 123) (j := 5) (by decide +kernel) rfl rfl <| z_iload (pc' := 125) (j := 7) (by decide +kernel) rfl rfl <| h.elim fun c2 h => z_min (pc' := 128) (idx := 186) (by decide +kernel) (amM8 209 rfl (by decide +kernel)) (amM3 35 rfl (by decide +kernel)) (amM1 21 rfl (by decide +kernel)) (amM3 36 rfl (by decide +kernel)) (by omega) (am_le rfl) c2 c1 rfl <| z_goto (tgt := 133) (off := 5) (by decide +kernel) (by decide) <| (am_jp (P := fun z9 => ZP G 12 m_X12_crane 133 [some (.ref m), none, none, some (.ref a61), some (.ref r91), some (iv v5), none, some (iv s0)] [iv z9] _ Q) (if_neg q6) k5)))) <| z_istore (pc' := 135) (j := 5) (ls' := [some (.ref m), none, none, some (.ref a61), some (.ref r91), some (iv (if s0 = (-1) then v5 else min v5 s0)), none, some (iv s0)]) (by decide +kernel) (by decide) rfl rfl <| z_aload_n (pc' := 136) (j := 3) (by decide +kernel) rfl rfl <| z_callS (pc' := 139) (idx := 317) (mj := m_X12_hasNext) (av := [.ref a61]) (d' := 11) (by decide +kernel) rfl k_X12_hasNext l_RX12_317 rfl (by omega) (am_le rfl) rfl (am_le rfl) rfl (ZM.mono h (zKc_wk (wk_some (wk_none (wk_none (wk_some (wk_some (wk_some (wk_none (wk_none wk_nil))))))))))
set_option maxRecDepth 20000 in
theorem b_X12_crane_139 {G : Gx} {Q : Rv → Zm → Prop} {Z : Zm} {a61 : Nat} {Na61 : Nat} {r91 : Nat} {m : Nat} {B : Nat} {v5 : Int} {s0 : Int} (hm : atModel Z m B) (ha61 : zA Z a61 100 Na61) (hr91 : zA Z r91 100 20) (h : (ZP G 12 m_X12_crane 101 [some (.ref m), none, none, some (.ref a61), some (.ref r91), some (iv v5), some (iv s0), none] [] Z Q)) : ZP G 12 m_X12_crane 139 [some (.ref m), none, none, some (.ref a61), some (.ref r91), some (iv v5), none, none] [iv s0] Z Q := z_istore (pc' := 141) (j := 6) (ls' := [some (.ref m), none, none, some (.ref a61), some (.ref r91), some (iv v5), some (iv s0), none]) (by decide +kernel) (by decide) rfl rfl <| z_goto (tgt := 101) (off := -40) (by decide +kernel) (by decide) <| h
/-! ===== how many orders there are ===== -/
def cd5 (p : Nat → Nat) : Nat → Nat
  | 0 => 0
  | n + 1 => cd5 p n * 5 + p n
theorem cd5_eq {p q : Nat → Nat} : ∀ N, (∀ i, i < N → p i = q i) → cd5 p N = cd5 q N := by
  intro N
  induction N with
  | zero => exact fun _ => rfl
  | succ N ih =>
    intro h
    show cd5 p N * 5 + p N = cd5 q N * 5 + q N
    rw [ih fun i hi => h i (by omega), h N (by omega)]
theorem cd5_lt {p q : Nat → Nat} {i : Nat} (h2 : ∀ j, j < i → p j = q j) (h3 : p i < q i) : ∀ m, (∀ j, j < i + 1 + m → p j < 5) → cd5 p (i + 1 + m) < cd5 q (i + 1 + m) := by
  intro m
  induction m with
  | zero =>
    intro _
    show cd5 p i * 5 + p i < cd5 q i * 5 + q i
    rw [cd5_eq i h2]
    omega
  | succ m ih =>
    intro h
    have a := ih fun j hj => h j (by omega)
    have b := h (i + 1 + m) (by omega)
    show cd5 p (i + 1 + m) * 5 + p (i + 1 + m) < cd5 q (i + 1 + m) * 5 + q (i + 1 + m)
    omega
theorem cd5_b {p : Nat → Nat} : ∀ N, (∀ i, i < N → p i < 5) → cd5 p N + 1 ≤ 5 ^ N := by
  intro N
  induction N with
  | zero => exact fun _ => Nat.le_refl _
  | succ N ih =>
    intro h
    have a := ih fun i hi => h i (by omega)
    have b := h N (by omega)
    show cd5 p N * 5 + p N + 1 ≤ 5 ^ (N + 1)
    rw [Nat.pow_succ]
    omega
theorem cd5_dg {p : Nat → Nat} {i : Nat} : ∀ m, (∀ j, j < i + 1 + m → p j < 5) → cd5 p (i + 1 + m) / 5 ^ m % 5 = p i := by
  intro m
  induction m with
  | zero =>
    intro h
    have b := h i (by omega)
    rw [Nat.pow_zero, Nat.div_one]
    show (cd5 p i * 5 + p i) % 5 = p i
    omega
  | succ m ih =>
    intro h
    have b := h (i + 1 + m) (by omega)
    rw [Nat.pow_succ, Nat.mul_comm, ← Nat.div_div_eq_div_mul]
    rw [show cd5 p (i + 1 + (m + 1)) / 5 = cd5 p (i + 1 + m) from by
      show (cd5 p (i + 1 + m) * 5 + p (i + 1 + m)) / 5 = _
      omega]
    exact ih fun j hj => h j (by omega)
def gd5 (N x : Nat) : Bool := decide (∀ i, i < N - 1 → x / 5 ^ (N - 1 - 1 - i) % 5 < N ∧ ∀ j, j < N - 1 → i ≠ j → x / 5 ^ (N - 1 - 1 - i) % 5 ≠ x / 5 ^ (N - 1 - 1 - j) % 5)
def ct5 (N : Nat) : Nat → Nat
  | 0 => 0
  | m + 1 => ct5 N m + (if gd5 N m = true then 1 else 0)
set_option maxRecDepth 20000 in
theorem ct5_all : ∀ N, N < 6 → ct5 N (5 ^ (N - 1)) ≤ 120 := by decide +kernel
theorem ct5_le (N x : Nat) : ∀ m, ct5 N x ≤ ct5 N (x + m) := by
  intro m
  induction m with
  | zero => exact Nat.le_refl _
  | succ m ih =>
    show ct5 N x ≤ ct5 N (x + m) + _
    omega
theorem ct5_lt {N x y : Nat} (h : x < y) (g : gd5 N x = true) : ct5 N x + 1 ≤ ct5 N y := by
  have a := ct5_le N (x + 1) (y - (x + 1))
  rw [show x + 1 + (y - (x + 1)) = y by omega] at a
  have b : ct5 N (x + 1) = ct5 N x + 1 := by
    show ct5 N x + _ = _
    rw [if_pos g]
  omega
noncomputable def ixB (N : Nat) (base : Nat → Nat) (v : Nat) : Nat := Classical.epsilon fun j => j < N ∧ base j = v
theorem ixB_of {N : Nat} {base : Nat → Nat} (ha : ∀ i j, i < j → j < N → base i < base j) {j : Nat} (hj : j < N) : ixB N base (base j) = j := by
  obtain ⟨h1, h2⟩ := Classical.epsilon_spec (p := fun i => i < N ∧ base i = base j) ⟨j, hj, rfl⟩
  have h1 : ixB N base (base j) < N := h1
  have h2 : base (ixB N base (base j)) = base j := h2
  by_cases c : ixB N base (base j) < j
  · have := ha _ _ c hj
    omega
  · by_cases d : j < ixB N base (base j)
    · have := ha _ _ d h1
      omega
    · omega
noncomputable def ixP (N : Nat) (base p : Nat → Nat) (i : Nat) : Nat := ixB N base (p i)
noncomputable def rkP (N : Nat) (base p : Nat → Nat) : Nat := ct5 N (cd5 (ixP N base p) (N - 1))
theorem ixP_lt {N : Nat} {base p : Nat → Nat} (ha : ∀ i j, i < j → j < N → base i < base j) (hp : pm N base p) {i : Nat} (hi : i < N) : ixP N base p i < N ∧ base (ixP N base p i) = p i := by
  obtain ⟨j, hj, e⟩ := hp.1 i hi
  unfold ixP
  rw [e, ixB_of ha hj]
  exact ⟨hj, rfl⟩
theorem rkP_gd {N : Nat} {base p : Nat → Nat} (h5 : N ≤ 5) (ha : ∀ i j, i < j → j < N → base i < base j) (hp : pm N base p) : gd5 N (cd5 (ixP N base p) (N - 1)) = true := by
  refine decide_eq_true fun i hi => ?_
  have dg : ∀ i, i < N - 1 → cd5 (ixP N base p) (N - 1) / 5 ^ (N - 1 - 1 - i) % 5 = ixP N base p i := fun i hi => by
    have a := cd5_dg (p := ixP N base p) (i := i) (N - 1 - 1 - i) fun j hj => by have := (ixP_lt ha hp (i := j) (by omega)).1; omega
    rw [show i + 1 + (N - 1 - 1 - i) = N - 1 by omega] at a
    exact a
  rw [dg i hi]
  refine ⟨(ixP_lt ha hp (by omega)).1, fun j hj ne q => ?_⟩
  rw [dg j hj] at q
  have a := (ixP_lt ha hp (i := i) (by omega)).2
  have b := (ixP_lt ha hp (i := j) (by omega)).2
  rw [q] at a
  exact ne (hp.2 i j (by omega) (by omega) (a.symm.trans b))
theorem rkP_b {N : Nat} {base p : Nat → Nat} (h5 : N ≤ 5) (ha : ∀ i j, i < j → j < N → base i < base j) (hp : pm N base p) : rkP N base p + 1 ≤ 120 := by
  have a := cd5_b (p := ixP N base p) (N - 1) fun j hj => by have := (ixP_lt ha hp (i := j) (by omega)).1; omega
  have b := ct5_lt (N := N) (x := cd5 (ixP N base p) (N - 1)) (y := 5 ^ (N - 1)) (by omega) (rkP_gd h5 ha hp)
  have c := ct5_all N (by omega)
  unfold rkP
  omega
theorem rkP_nx {N : Nat} {base p : Nat → Nat} (h5 : N ≤ 5) (ha : ∀ i j, i < j → j < N → base i < base j) (hp : pm N base p) {pl ot : Nat} (h : isNxt N p pl ot) : rkP N base p + 1 ≤ rkP N base (fun i => p (tau N pl ot i)) := by
  have hp2 := hp.nx h.2.2.2.1 h.2.2.2.2.1
  have h1 := h.1
  have lt := cd5_lt (p := ixP N base p) (q := ixP N base fun i => p (tau N pl ot i)) (i := pl) (fun j hj => by
    unfold ixP
    show ixB N base (p j) = ixB N base (p (tau N pl ot j))
    unfold tau
    rw [if_pos hj]) (by
    have a := ixP_lt ha hp (i := pl) (by omega)
    have b := ixP_lt ha hp2 (i := pl) (by omega)
    have c : p pl < p (tau N pl ot pl) := by
      unfold tau
      rw [if_neg (Nat.lt_irrefl _), if_pos rfl]
      exact h.2.2.2.2.2.1
    refine Nat.lt_of_not_le fun q => ?_
    have c : p pl < (fun i => p (tau N pl ot i)) pl := c
    by_cases e : ixP N base p pl = ixP N base (fun i => p (tau N pl ot i)) pl
    · rw [← e, a.2] at b
      omega
    · have := ha _ _ (Nat.lt_of_le_of_ne q fun r => e r.symm) a.1
      omega) (N - 1 - (pl + 1)) fun j hj => by have := (ixP_lt ha hp (i := j) (by omega)).1; omega
  rw [show pl + 1 + (N - 1 - (pl + 1)) = N - 1 by omega] at lt
  exact ct5_lt lt (rkP_gd h5 ha hp)
/-! ===== the model's crane ===== -/
def cnF (k : Bk) (_ t : Nat) : Int := b2 (kF k 2 t = 0)
theorem cnF_p {k : Bk} {t : Nat} : 0 < cnF k 10 t ↔ kF k 2 t = 0 := by
  unfold cnF
  by_cases g : kF k 2 t = 0
  · rw [b2_p g]
    exact ⟨fun _ => g, fun _ => by decide⟩
  · rw [b2_f g]
    exact ⟨fun q => absurd q (by decide), fun q => absurd q g⟩
theorem cnN_gc (k : Bk) : cnN k = (gcN (cnF k) (kN k) : Int) := by
  unfold cnN
  generalize kN k = n
  induction n with
  | zero => rfl
  | succ n ih =>
    show zsum _ n + (if kF k 2 n = 0 then 1 else 0) = _
    rw [ih]
    by_cases g : kF k 2 n = 0
    · rw [gcN_p (cnF_p.mpr g), if_pos g]
      omega
    · rw [gcN_n (fun q => g (cnF_p.mp q)), if_neg g]
      omega
/-- the tasks of the machine 0, in their order -/
def cnB (k : Bk) (N : Nat) (base : Nat → Nat) : Prop := (∀ i, i < N → base i < kN k ∧ kF k 2 (base i) = 0) ∧ (∀ i j, i < j → j < N → base i < base j) ∧ ∀ t, t < kN k → kF k 2 t = 0 → ∃ i, i < N ∧ base i = t
theorem cnB_of {k : Bk} {f : Nat → Int} (hf : ∀ t, t < kN k → 0 < cnF k 10 t → f (gcN (cnF k) t) = (t : Int)) : cnB k (gcN (cnF k) (kN k)) fun i => (f i).toNat := by
  have ex : ∀ i, i < gcN (cnF k) (kN k) → ∃ t, t < kN k ∧ 0 < cnF k 10 t ∧ gcN (cnF k) t = i ∧ (f i).toNat = t := fun i hi => by
    obtain ⟨t, h1, h2, h3⟩ := gcN_ex (F := cnF k) (kN k) hi
    refine ⟨t, h1, h2, h3, ?_⟩
    rw [← h3, hf t h1 h2]
    exact Int.toNat_natCast t
  refine ⟨fun i hi => ?_, fun i j hij hj => ?_, fun t ht g => ⟨gcN (cnF k) t, gcN_lt ht (cnF_p.mpr g), ?_⟩⟩
  · obtain ⟨t, h1, h2, h3, h4⟩ := ex i hi
    show (f i).toNat < kN k ∧ kF k 2 (f i).toNat = 0
    rw [h4]
    exact ⟨h1, cnF_p.mp h2⟩
  · obtain ⟨t, h1, h2, h3, h4⟩ := ex i (by omega)
    obtain ⟨u, g1, g2, g3, g4⟩ := ex j hj
    show (f i).toNat < (f j).toNat
    rw [h4, g4]
    refine Nat.lt_of_not_le fun q => ?_
    have := gcN_mo (F := cnF k) q
    omega
  · show (f (gcN (cnF k) t)).toNat = t
    rw [hf t ht (cnF_p.mpr g)]
    exact Int.toNat_natCast t
theorem cnB.lt {k : Bk} {N : Nat} {base : Nat → Nat} (h : cnB k N base) {L : Nat → Nat} (hL : pm N base L) : ∀ i, i < N → L i < kN k ∧ kF k 2 (L i) = 0 := fun i hi => by
  obtain ⟨j, hj, e⟩ := hL.1 i hi
  rw [e]
  exact h.1 j hj
theorem orB.ch {k : Bk} (ho : kOk k) {N : Nat} {L : Nat → Nat} (hL : ∀ i, i < N → L i < kN k) {b : Nat → Int} (hb : orB k N L b) {i : Nat} : ∀ m, i + 1 + m < N → b (L i) + kF k 0 (L i) ≤ b (L (i + 1 + m)) := by
  have one : ∀ j, j + 1 < N → b (L j) + kF k 0 (L j) ≤ b (L (j + 1)) := fun j hj => by
    have a := hb.2 (kM k + j) (by unfold orE; omega)
    unfold orS orF orT orG at a
    rw [if_neg (by omega), if_neg (by omega), if_neg (by omega), show kM k + j - kM k = j by omega] at a
    omega
  intro m
  induction m with
  | zero => exact one i
  | succ m ih =>
    intro h
    have a := ih (by omega)
    have c := one (i + 1 + m) h
    have l := ho.len (hL (i + 1 + m) (by omega))
    show b (L i) + kF k 0 (L i) ≤ b (L (i + 1 + m + 1))
    omega
theorem orB.fe {k : Bk} (ho : kOk k) {N : Nat} {base L : Nat → Nat} (hB : cnB k N base) (hL : pm N base L) {b : Nat → Int} (hb : orB k N L b) : feC k b := by
  have hlt := hB.lt hL
  have ch := fun i m => hb.ch ho (fun i hi => (hlt i hi).1) (i := i) m
  refine ⟨hb.1, fun j hj => ?_, fun t u ht hu ne g1 g2 => ?_⟩
  · have a := hb.2 j (by unfold orE; omega)
    unfold orS orF orT orG at a
    rw [if_pos hj, if_pos hj, if_pos hj] at a
    exact a
  · obtain ⟨i, i1, i2⟩ := hB.2.2 t ht g1
    obtain ⟨j, j1, j2⟩ := hB.2.2 u hu g2
    obtain ⟨x, x1, x2⟩ := hL.sur i1
    obtain ⟨y, y1, y2⟩ := hL.sur j1
    rw [i2] at x2
    rw [j2] at y2
    have nxy : x ≠ y := fun e => ne (by rw [← x2, ← y2, e])
    unfold noV
    by_cases c : x < y
    · have a := ch x (y - (x + 1)) (by omega)
      rw [show x + 1 + (y - (x + 1)) = y by omega, x2, y2] at a
      exact Or.inl a
    · have a := ch y (x - (y + 1)) (by omega)
      rw [show y + 1 + (x - (y + 1)) = x by omega, x2, y2] at a
      exact Or.inr a
theorem orB_ex {k : Bk} (ho : kOk k) {N : Nat} {base : Nat → Nat} (hB : cnB k N base) {b : Nat → Int} (hb : feC k b) : ∃ L, pm N base L ∧ orB k N L b := by
  obtain ⟨S, hS⟩ := isLs_ex (fun j => b (base j)) N
  refine ⟨fun i => base (S i), ⟨fun i hi => ⟨S i, hS.1 i hi, rfl⟩, fun i j hi hj e => ?_⟩, hb.1, fun e he => ?_⟩
  · refine hS.inj i j hi hj ?_
    have a := hS.1 i hi
    have c := hS.1 j hj
    have e : base (S i) = base (S j) := e
    by_cases d : S i < S j
    · have := hB.2.1 _ _ d c
      omega
    · by_cases d2 : S j < S i
      · have := hB.2.1 _ _ d2 a
        omega
      · omega
  · unfold orS orF orT orG
    by_cases c : e < kM k
    · rw [if_pos c, if_pos c, if_pos c]
      exact hb.2.1 e c
    · rw [if_neg c, if_neg c, if_neg c, Int.add_zero]
      unfold orE at he
      have h1 : e - kM k < N := by omega
      have h2 : e - kM k + 1 < N := by omega
      have bf := hS.2 (e - kM k) (e - kM k + 1) (Nat.lt_succ_self _) h2
      have p1 := hS.1 _ h1
      have p2 := hS.1 _ h2
      have ne : S (e - kM k) ≠ S (e - kM k + 1) := fun q => by
        have := hS.inj _ _ h1 h2 q
        omega
      have t1 := hB.1 _ p1
      have t2 := hB.1 _ p2
      have neb : base (S (e - kM k)) ≠ base (S (e - kM k + 1)) := fun q => ne (by
        by_cases d : S (e - kM k) < S (e - kM k + 1)
        · have := hB.2.1 _ _ d p2
          omega
        · by_cases d2 : S (e - kM k + 1) < S (e - kM k)
          · have := hB.2.1 _ _ d2 p1
            omega
          · omega)
      have le : b (base (S (e - kM k))) ≤ b (base (S (e - kM k + 1))) := by
        have bf : b (base (S (e - kM k))) < b (base (S (e - kM k + 1))) ∨ (b (base (S (e - kM k))) = b (base (S (e - kM k + 1))) ∧ S (e - kM k) < S (e - kM k + 1)) := bf
        omega
      have l := ho.len t2.1
      rcases hb.2.2 _ _ t1.1 t2.1 neb t1.2 t2.2 with q | q
      · exact q
      · omega
def rvC (k : Bk) (N : Nat) (L : Nat → Nat) (v : Int) : Prop := ∃ w, orR k N L w ∧ v = if w = -1 then 1000000 else w
theorem rvC_r {k : Bk} (ho : kOk k) {N : Nat} {L : Nat → Nat} {v : Int} (h : rvC k N L v) : 0 ≤ v ∧ v ≤ 1000000 := by
  obtain ⟨w, hw, rfl⟩ := h
  rcases hw with ⟨e, -⟩ | ⟨b, b1, b2', b3, -⟩
  · rw [if_pos e]
    decide
  · have := seC_r ho b2' (by decide)
    by_cases c : w = -1
    · omega
    · rw [if_neg c]
      omega
theorem seen.cr {k : Bk} (ho : kOk k) {N : Nat} {base p : Nat → Nat} {v : Int} (hB : cnB k N base) (h : seen N base (rvC k N) p v) (hp : pm N base p) (hd : ∀ i, i + 1 < N → p (i + 1) < p i) : isCr k v := by
  obtain ⟨⟨L, hL, w, hw, hv⟩, c⟩ := h.last hp hd
  have le : ∀ b, feC k b → v ≤ seC k b := fun b hb => by
    obtain ⟨q, q1, q2⟩ := orB_ex ho hB hb
    obtain ⟨L', x, e, ⟨y, hy, rfl⟩, l⟩ := c q q1
    have q3 : orB k N L' b := ⟨q2.1, fun e' he => by
      have a := q2.2 e' he
      have f1 : orF k L' e' = orF k q e' := by
        unfold orF
        by_cases d : e' < kM k
        · rw [if_pos d, if_pos d]
        · rw [if_neg d, if_neg d, e _ (by unfold orE at he; omega)]
      have f2 : orT k L' e' = orT k q e' := by
        unfold orT
        by_cases d : e' < kM k
        · rw [if_pos d, if_pos d]
        · rw [if_neg d, if_neg d, e _ (by unfold orE at he; omega)]
      unfold orS at a ⊢
      rw [f1, f2]
      exact a⟩
    rcases hy with ⟨-, g⟩ | ⟨b0, g1, g2, g3, g4⟩
    · exact absurd q3 (g b)
    · have r := seC_r ho g2 (by decide)
      rw [if_neg (by omega)] at l
      have := g4 b q3
      omega
  refine ⟨?_, le⟩
  rcases hw with ⟨e, -⟩ | ⟨b0, g1, g2, g3, g4⟩
  · obtain ⟨r, hr⟩ := ho.2.2.2.2
    rw [if_pos e] at hv
    -- some begins there are
    have hN := ho.n
    have mo : ∀ t u, t < kN k → u < kN k → 21 * (r t : Int) + (t : Int) < 21 * (r u : Int) + (u : Int) → rkB k (fun t => 21 * (r t : Int) + (t : Int)) t + 1 ≤ rkB k (fun t => 21 * (r t : Int) + (t : Int)) u := fun t u ht hu q => cBelow_lt (f := fun t => 21 * (r t : Int) + (t : Int)) ht (by show 21 * (r t : Int) + (t : Int) ≤ 21 * (r u : Int) + (u : Int); omega) (Int.lt_irrefl _) q
    have rr : ∀ t, t < kN k → 0 ≤ rkB k (fun t => 21 * (r t : Int) + (t : Int)) t ∧ rkB k (fun t => 21 * (r t : Int) + (t : Int)) t + 1 ≤ kN k := fun t ht => rkB_r k _ ht
    generalize rkB k (fun t => 21 * (r t : Int) + (t : Int)) = rk at *
    obtain ⟨b, b1, b2'⟩ := feC_ex ho (pos := fun t => (rk t).toNat) (fun t ht => by
      have := rr t ht
      show (rk t).toNat < 20
      omega) (fun t u ht hu q => by
      have q : (rk t).toNat = (rk u).toNat := q
      have a := rr t ht
      have c := rr u hu
      by_cases d : 21 * (r t : Int) + (t : Int) < 21 * (r u : Int) + (u : Int)
      · have := mo t u ht hu d
        omega
      · by_cases d2 : 21 * (r u : Int) + (u : Int) < 21 * (r t : Int) + (t : Int)
        · have := mo u t hu ht d2
          omega
        · omega) (fun j hj => by
      have a := hr j hj
      have l1 := ho.e hj
      have l2 := ho.l hj
      have := mo _ _ l1 l2 (by omega)
      have c := rr _ l1
      have d := rr _ l2
      show (rk (kE k j)).toNat < (rk (kL k j)).toNat
      omega)
    have := le b b1
    omega
  · have r := seC_r ho g2 (by decide)
    rw [if_neg (by omega)] at hv
    exact ⟨b0, g1.fe ho hB hL, by rw [hv, g3]⟩
def gW (X : Zm) (l N c : Nat) (W : Zm) (p : Nat → Nat) : Prop := zF (fun a => a = l) (2 * c) (22 * c) X W ∧ ∀ i, i < N → zI W l i = (p i : Int)
theorem d_crane {G : Gx} {Z : Zm} {B : Nat} {σ : St} (h : IMb Z B σ) (ho : okS σ) (hz : 322 ≤ zSz Z ∧ zSz Z < 990000) : ZM G 12 m_X12_crane [.ref 300] Z (rM Z iv (o_crane σ)) := by
  have hN := ho.1.n
  have ec := cnN_gc (sK σ)
  refine e_X12_crane h.1 ⟨by omega, ?_⟩
  intro Z2 z2
  have f0 : zF mS 1 20 Z Z2 := by rw [z2]; exact zF_C
  have a0 : zA Z2 (zSz Z) 100 20 := by rw [z2]; exact zA_C Z 100 20 20
  clear z2
  generalize esm : zSz Z = sm at *
  suffices count : ∀ j, j ≤ kN (sK σ) → ∀ W, zF mS 1 20 Z W → zA W sm 100 20 → (∀ t, t < j → 0 < cnF (sK σ) 10 t → zI W sm (gcN (cnF (sK σ)) t) = (t : Int)) → ZP G 12 m_X12_crane 9 [some (.ref 300), some (iv (gcN (cnF (sK σ)) j : Int)), some (.ref sm), some (iv (j : Int)), none, none, none, none] [] W (rM Z iv (o_crane σ)) from count 0 (Nat.zero_le _) Z2 f0 a0 fun t ht => absurd ht (Nat.not_lt_zero _)
  clear f0 a0 Z2
  refine am_up (n := kN (sK σ)) fun j hj ih W fW aW eW => ?_
  have hW := h.m (by omega) fW
  have h0 := hW.2.2.1.1
  have gj : gcN (cnF (sK σ)) j ≤ j := by
    have a : ∀ j, gcN (cnF (sK σ)) j ≤ j := fun j => by
      induction j with
      | zero => exact Nat.le_refl _
      | succ j ih =>
        by_cases g : 0 < cnF (sK σ) 10 j
        · rw [gcN_p g]
          omega
        · rw [gcN_n g]
          omega
    exact a j
  refine b_X12_crane_9 hW.1 aW ⟨by omega, by rw [h0]; omega, ?_⟩
  rw [h0]
  by_cases c : j < kN (sK σ)
  · rw [if_neg (by omega), Int.toNat_natCast, hW.2.2.1.k c (r := 2) (by omega)]
    have mj := (ho.1.2.1 j c).2.2.1
    refine ⟨zIx_nat (by omega) (by omega), by omega, ?_⟩
    by_cases g : kF (sK σ) 2 j = 0
    · rw [if_pos g]
      refine ⟨zIx_nat (by omega) (by decide), ?_⟩
      rintro _ rfl
      have h9 := ih c (zSI W sm (zu (zI W sm) (gcN (cnF (sK σ)) j) (j : Int))) (fW.wr (Or.inr (by omega))) aW.s fun t ht gt => by
        rw [zI_same]
        by_cases e : t = j
        · rw [e, zu_same]
        · have := gcN_lt (F := cnF (sK σ)) (show t < j by omega) gt
          rw [zu_other (by omega)]
          exact eW t (by omega) gt
      rw [gcN_p (cnF_p.mpr g)] at h9
      exact h9
    · rw [if_neg g]
      have h9 := ih c W fW aW fun t ht gt => by
        by_cases e : t = j
        · rw [e] at gt
          exact absurd (cnF_p.mp gt) g
        · exact eW t (by omega) gt
      rw [gcN_n fun q => g (cnF_p.mp q)] at h9
      exact h9
  rw [if_pos (by omega)]
  have ej : j = kN (sK σ) := by omega
  rw [ej] at eW gj ⊢
  clear ih c hj ej
  have hB := cnB_of eW
  generalize eN : gcN (cnF (sK σ)) (kN (sK σ)) = N at *
  have sW := fW.2.1.1
  have sW2 := fW.sz
  refine ⟨by omega, ?_⟩
  rintro _ rfl
  have VW := mS_v fW (by omega)
  unfold o_crane
  by_cases c1 : cnN (sK σ) ≤ 5
  case neg =>
    rw [cIf_f c1, fC_1 (P := ¬ ((N : Int) ≤ 5)) (by omega), if_pos (by decide)]
    exact ⟨⟨0, rfl, fun g => absurd (show (1 : Nat) = 0 from g) (by decide)⟩, zI_t W 1, ⟨B, hW.t 1⟩, (VW.trans zV_t).mono (by omega) (by omega)⟩
  have N5 : N ≤ 5 := by omega
  rw [cIf_p c1, fC_o1 (P := ¬ ((N : Int) ≤ 5)) (by omega), if_neg (by decide)]
  rw [show zSI W 300 (zu (zI W 300) 19 0) = zT W 0 from rfl, Int.toNat_natCast]
  have hY := hW.t 0
  have aY : zA (zT W 0) sm 100 20 := aW.s
  have eY : zI (zT W 0) sm = zI W sm := zI_other (by have := aW.1; omega)
  have VY := VW.trans (zV_t (Z := W) (c := 0))
  have tY := zI_t W 0
  have szY : zSz (zT W 0) = zSz W := rfl
  generalize zT W 0 = Y at *
  refine ⟨by omega, by omega, by omega, ?_⟩
  intro X0 x0
  have fX0 : zF mS 1 N Y X0 := by rw [x0]; exact zF_C
  have aX0 : zA X0 (zSz Y) 100 N := by rw [x0]; exact zA_C Y 100 N N
  clear x0
  generalize el : zSz Y = l at *
  have zY : 322 ≤ zSz Y := by omega
  have lsm : sm ≠ l := fun e => by have := aY.1; omega
  -- the first order
  suffices rest : ∀ X1, zF mS 1 N Y X1 → zA X1 l 100 N → (∀ i, i < N → zI X1 l i = zI W sm i) → ZM G 11 m_X12_lengths [.ref 300] X1 (zKc G 12 m_X12_crane 91 [some (.ref 300), none, none, some (.ref l), none, none, none, none] [] (rM Z iv (0, vCn (sK σ), σ))) by
    suffices copy : ∀ j, j ≤ N → ∀ V, zF mS 1 N Y V → zA V l 100 N → (∀ i, i < j → zI V l i = zI W sm i) → ZP G 12 m_X12_crane 67 [some (.ref 300), some (iv (N : Int)), some (.ref sm), some (.ref l), some (iv (j : Int)), none, none, none] [] V (rM Z iv (0, vCn (sK σ), σ)) from copy 0 (Nat.zero_le _) X0 fX0 aX0 fun i hi => absurd hi (Nat.not_lt_zero _)
    refine am_up (n := N) fun j hj ih V fV aV eV => ?_
    have hV := hY.m zY fV
    have aS := aY.ext fV.1
    have eS : zI V sm = zI W sm := by
      rw [fV.i aY.1 (by unfold mS zB; omega)]
      exact eY
    refine b_X12_crane_67 hV.1 aS aV ⟨by omega, by omega, ?_⟩
    by_cases d : j < N
    · rw [if_neg (by omega)]
      refine ⟨zIx_nat (by omega) (by omega), zIx_nat d (by omega), ?_⟩
      rintro _ rfl
      rw [Int.toNat_natCast]
      refine ih d _ (fV.wr (Or.inr (by omega))) aV.s fun i hi => ?_
      rw [zI_same]
      by_cases e : i = j
      · rw [e, zu_same, eS]
      · rw [zu_other e]
        exact eV i (by omega)
    · rw [if_pos (by omega)]
      exact rest V fV aV fun i hi => eV i (by omega)
  clear fX0 aX0 X0
  intro X1 f1 a1 e1
  have h1 := hY.m zY f1
  have s1 := f1.2.1.1
  have s1' := f1.sz
  refine ((m_len h1 ho.T ⟨by omega, by omega⟩).deeper (by omega)).mono ?_
  rintro r X ⟨rfl, f2, h2, u2⟩
  have aX := a1.ext f2.1
  have eX : ∀ i, i < N → zI X l i = ((zI W sm i).toNat : Int) := fun i hi => by
    rw [f2.i a1.1 (by unfold mS zB; omega), e1 i hi]
    have := (hB.1 i hi).1
    obtain ⟨t, t1, t2, t3⟩ := gcN_ex (F := cnF (sK σ)) (kN (sK σ)) (show i < gcN (cnF (sK σ)) (kN (sK σ)) by omega)
    have g := eW t t1 t2
    rw [t3] at g
    omega
  have s2 := f2.2.1.1
  have s2' := f2.sz
  generalize eu : zSz X1 = u at *
  have lu : u ≠ l := fun e => by have := a1.1; omega
  refine b_X12_crane_91 h2.1 aX u2.1 ?_
  have f12 := f1.trans f2
  generalize hb : (fun i => (zI W sm i).toNat) = base at *
  have eX : ∀ i, i < N → zI X l i = (base i : Int) := fun i hi => by rw [eX i hi, ← hb]
  have fG : ∀ c V p, gW X l N c V p → zF mS (1 + 1 + 2 * c) (N + 20 + 22 * c) Y V := fun c V p hV => f12.tr hV.1 fun a ha q => by
    exfalso
    omega
  have iG : ∀ c V p, gW X l N c V p → IMb V B σ := fun c V p hV => hY.m zY (fG c V p hV)
  have uG : ∀ c V p, gW X l N c V p → zA V l 100 N ∧ isV V u (kN (sK σ)) (kF (sK σ) 0) := fun c V p hV => ⟨aX.ext hV.1.1, u2.1.ext hV.1.1, u2.2.1, fun t ht => by
    rw [hV.1.i u2.1.1 (fun q => lu q)]
    exact u2.2.2 t ht⟩
  have hBig := hY.big zY
  suffices key : ∀ m p v c, pm N base p → 120 ≤ rkP N base p + m → c ≤ rkP N base p → (0 ≤ v ∧ v ≤ 1000000) → (∀ w, rvC (sK σ) N p w → seen N base (rvC (sK σ) N) p (min v w)) → ∀ V, gW X l N c V p → ZP G 12 m_X12_crane 101 [some (.ref 300), none, none, some (.ref l), some (.ref u), some (iv v), some (iv 1), none] [] V (rM Z iv (0, vCn (sK σ), σ)) by
    have pb : pm N base base := ⟨fun i hi => ⟨i, hi, rfl⟩, fun i j hi hj e => by
      by_cases d : i < j
      · have := hB.2.1 i j d hj
        omega
      · by_cases d2 : j < i
        · have := hB.2.1 j i d2 hi
          omega
        · omega⟩
    refine key 120 base 1000000 0 pb (by omega) (Nat.zero_le _) (by decide) (fun w hw => ?_) X ⟨zF.refl, eX⟩
    have := rvC_r ho.1 hw
    rw [Int.min_eq_right this.2]
    exact seen.first (fun i hi => hB.2.1 i (i + 1) (Nat.lt_succ_self _) hi) pb hw
  intro m
  induction m with
  | zero =>
    intro p v c hp hm
    have := rkP_b N5 hB.2.1 hp
    omega
  | succ m ih =>
    intro p v c hp hm hc hv hpre V hV
    have rb := rkP_b N5 hB.2.1 hp
    obtain ⟨aV, uV⟩ := uG c V p hV
    have hI := iG c V p hV
    have sV := hV.1.2.1.1
    have sV2 := hV.1.sz
    have hlt := hB.lt hp
    refine b_X12_crane_101 hI.1 aV uV.1 ⟨by decide, ?_⟩
    rw [if_neg (by decide)]
    refine ((s_ordered hI.1 hI.2.2.1 ho.1 ⟨by omega, by omega⟩ (by omega) N5 aV (fun i hi => ⟨hV.2 i hi, (hlt i hi).1⟩) uV.1 uV.2.2).deeper (by omega)).mono ?_
    rintro r V1 ⟨⟨w, rfl, hw⟩, fV1⟩
    have hV1 : gW X l N (c + 1) V1 p := ⟨(hV.1.trans (fV1.mono (fun _ g => g.elim) (Nat.le_refl _) (Nat.le_refl _))).mono (fun _ g => g) (by omega) (by omega), fun i hi => by
      rw [fV1.i aV.1 (fun g => g)]
      exact hV.2 i hi⟩
    obtain ⟨aV1, uV1⟩ := uG _ _ _ hV1
    have hI1 := iG _ _ _ hV1
    have rw' : rvC (sK σ) N p (if w = -1 then 1000000 else w) := ⟨w, hw, rfl⟩
    have rr := rvC_r ho.1 rw'
    have sn := hpre _ rw'
    have wr : -1 ≤ w ∧ w ≤ 1000000 := by
      by_cases q : w = -1
      · omega
      · rw [if_neg q] at rr
        omega
    refine b_X12_crane_113 hI1.1 aV1 uV1.1 ⟨by omega, fun _ => ⟨by omega, trivial⟩, ?_⟩
    rw [show (if w = -1 then v else min v w) = min v (if w = -1 then 1000000 else w) from by
      by_cases q : w = -1
      · rw [if_pos q, if_pos q, Int.min_eq_left hv.2]
      · rw [if_neg q, if_neg q]]
    generalize (if w = -1 then 1000000 else w) = x at *
    refine ((s_hasNext aV1 (by omega) hV1.2 (fun i hi => by have := (hlt i hi).1; omega) hp.2).deeper (by omega)).mono ?_
    rintro r V2 (⟨rfl, hV2, de⟩ | ⟨rfl, pl, ot, f, nx, rfl, hf⟩)
    · obtain rfl := hV2.symm
      refine b_X12_crane_139 hI1.1 aV1 uV1.1 ?_
      refine b_X12_crane_101 hI1.1 aV1 uV1.1 ⟨by decide, ?_⟩
      rw [if_pos rfl]
      have ff := fG _ _ _ hV1
      refine rM.ok hI1 ?_ (VY.trans (mS_v ff zY)) (by omega) (by omega) (vCn_of (sn.cr ho.1 hB hp de))
      rw [ff.i (by omega) (by unfold mS zB; omega)]
      exact tY
    · have hV2 : gW X l N (c + 1) (zSI V1 l f) (fun i => p (tau N pl ot i)) := ⟨hV1.1.trans (zF_I rfl), fun i hi => by
        rw [zI_same]
        exact hf i hi⟩
      obtain ⟨aV2, uV2⟩ := uG _ _ _ hV2
      have hI2 := iG _ _ _ hV2
      have rn := rkP_nx N5 hB.2.1 hp nx
      refine b_X12_crane_139 hI2.1 aV2 uV2.1 ?_
      exact ih _ (min v x) (c + 1) (hp.nx nx.2.2.2.1 nx.2.2.2.2.1) (by omega) (by omega) (by omega) (fun w hw => sn.next hp nx hw) _ hV2
