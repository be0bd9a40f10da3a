set_option maxRecDepth 20000 in
theorem e_X12_in {G : Gx} {Q : Rv → Zm → Prop} {Z : Zm} {x : Int} {y : Int} {z : Int}  (h : ((R32 x) ∧ (R32 y) ∧ (¬ (x < y) → (R32 z) ∧ True) ∧ Q (.inl (some (iv (b2 (¬ (x < y) ∧ (¬ (z < x))))))) Z)) : ZM G 0 m_X12_in [iv x, iv y, iv z] Z Q := ZM.of [some (iv x), some (iv y), some (iv z)] rfl <| z_iload_n (pc' := 1) (j := 0) (by decide +kernel) rfl rfl <| z_iload_n (pc' := 2) (j := 1) (by decide +kernel) rfl rfl <| h.elim fun c1 h => h.elim fun c2 h => h.elim fun g9 h => am_use (fun k10 => z_icmp_lt (pc' := 5) (tgt := 14) (off := 12) (by decide +kernel) (by decide) rfl c1 c2 (am_ite2 (fun q11 => z_iconst (pc' := 15) (n := 0) (by decide +kernel) rfl <| (am_jp (P := fun z9 => ZP G 0 m_X12_in 15 [some (iv x), some (iv y), some (iv z)] [iv z9] _ Q) (b2_a1 q11) k10)) (fun q11 => have h := g9 q11; z_iload_n (pc' := 6) (j := 0) (by decide +kernel) rfl rfl <| z_iload_n (pc' := 7) (j := 2) (by decide +kernel) rfl rfl <| h.elim fun c3 h => am_use (fun k6 => z_icmp_gt (pc' := 10) (tgt := 14) (off := 7) (by decide +kernel) (by decide) rfl c1 c3 (am_ite2 (fun q7 => z_iconst (pc' := 15) (n := 0) (by decide +kernel) rfl <| (am_jp (P := fun z9 => ZP G 0 m_X12_in 15 [some (iv x), some (iv y), some (iv z)] [iv z9] _ Q) (b2_n q7) k6)) (fun q7 => z_iconst (pc' := 11) (n := 1) (by decide +kernel) rfl <| z_goto (tgt := 15) (off := 4) (by decide +kernel) (by decide) <| (am_jp (P := fun z9 => ZP G 0 m_X12_in 15 [some (iv x), some (iv y), some (iv z)] [iv z9] _ Q) (b2_nn q7) k6)))) <| (am_jp (P := fun z9 => ZP G 0 m_X12_in 15 [some (iv x), some (iv y), some (iv z)] [iv z9] _ Q) (b2_a2 q11) k10)))) <| z_ireturn (by decide +kernel) (am_rb (b2_01 _)) h
set_option maxRecDepth 20000 in
theorem e_X12_many {G : Gx} {Q : Rv → Zm → Prop} {Z : Zm} {m : Nat} {B : Nat} (hm : atModel Z m B) (h : (Q (.inl (some (iv (zI Z B 0)))) Z)) : ZM G 0 m_X12_many [.ref m] Z Q := ZM.of [some (.ref m)] rfl <| z_aload_n (pc' := 1) (j := 0) (by decide +kernel) rfl rfl <| z_getR (pc' := 4) (idx := 9) (ci := 12) (f := 0) (by decide +kernel) f_RX12_9 rfl hm.o.1 hm.o.2 hm.r0 rfl <| z_iconst (pc' := 5) (n := 0) (by decide +kernel) rfl <| z_iaload (pc' := 6) (by decide +kernel) hm.a0 ⟨by decide, by decide, by decide⟩ rfl <| z_ireturn (by decide +kernel) ⟨_, rfl, rfl⟩ h
set_option maxRecDepth 20000 in
theorem e_X12_needsMany {G : Gx} {Q : Rv → Zm → Prop} {Z : Zm} {m : Nat} {B : Nat} (hm : atModel Z m B) (h : (Q (.inl (some (iv (zI Z B 1)))) Z)) : ZM G 0 m_X12_needsMany [.ref m] Z Q := ZM.of [some (.ref m)] rfl <| z_aload_n (pc' := 1) (j := 0) (by decide +kernel) rfl rfl <| z_getR (pc' := 4) (idx := 9) (ci := 12) (f := 0) (by decide +kernel) f_RX12_9 rfl hm.o.1 hm.o.2 hm.r0 rfl <| z_iconst (pc' := 5) (n := 1) (by decide +kernel) rfl <| z_iaload (pc' := 6) (by decide +kernel) hm.a0 ⟨by decide, by decide, by decide⟩ rfl <| z_ireturn (by decide +kernel) ⟨_, rfl, rfl⟩ h
set_option maxRecDepth 20000 in
theorem e_X12_get {G : Gx} {Q : Rv → Zm → Prop} {Z : Zm} {m : Nat} {B : Nat} {t : Int} {f : Int} (hm : atModel Z m B) (h : ((zIx ((2 + (13 * t)) + f) 412) ∧ Q (.inl (some (iv (zI Z B ((2 + (13 * t)) + f).toNat)))) Z)) : ZM G 0 m_X12_get [.ref m, iv t, iv f] Z Q := ZM.of [some (.ref m), some (iv t), some (iv f)] rfl <| z_aload_n (pc' := 1) (j := 0) (by decide +kernel) rfl rfl <| z_getR (pc' := 4) (idx := 9) (ci := 12) (f := 0) (by decide +kernel) f_RX12_9 rfl hm.o.1 hm.o.2 hm.r0 rfl <| z_iconst (pc' := 5) (n := 2) (by decide +kernel) rfl <| z_bipush (pc' := 7) (n := 13) (by decide +kernel) (by decide) rfl <| z_iload_n (pc' := 8) (j := 1) (by decide +kernel) rfl rfl <| z_imul (pc' := 9) (by decide +kernel) rfl <| z_iadd (pc' := 10) (by decide +kernel) rfl <| z_iload_n (pc' := 11) (j := 2) (by decide +kernel) rfl rfl <| z_iadd (pc' := 12) (by decide +kernel) rfl <| h.elim fun c1 h => z_iaload (pc' := 13) (by decide +kernel) hm.a0 c1 rfl <| z_ireturn (by decide +kernel) ⟨_, rfl, rfl⟩ h
set_option maxRecDepth 20000 in
theorem e_X12_put {G : Gx} {Q : Rv → Zm → Prop} {Z : Zm} {m : Nat} {B : Nat} {t : Int} {f : Int} {x : Int} (hm : atModel Z m B) (h : ((zIx ((2 + (13 * t)) + f) 412) ∧ ∀ Z2, Z2 = zSI Z B (zu (zI Z B) ((2 + (13 * t)) + f).toNat x) → Q (.inl none) Z2)) : ZM G 0 m_X12_put [.ref m, iv t, iv f, iv x] Z Q := ZM.of [some (.ref m), some (iv t), some (iv f), some (iv x)] rfl <| z_aload_n (pc' := 1) (j := 0) (by decide +kernel) rfl rfl <| z_getR (pc' := 4) (idx := 9) (ci := 12) (f := 0) (by decide +kernel) f_RX12_9 rfl hm.o.1 hm.o.2 hm.r0 rfl <| z_iconst (pc' := 5) (n := 2) (by decide +kernel) rfl <| z_bipush (pc' := 7) (n := 13) (by decide +kernel) (by decide) rfl <| z_iload_n (pc' := 8) (j := 1) (by decide +kernel) rfl rfl <| z_imul (pc' := 9) (by decide +kernel) rfl <| z_iadd (pc' := 10) (by decide +kernel) rfl <| z_iload_n (pc' := 11) (j := 2) (by decide +kernel) rfl rfl <| z_iadd (pc' := 12) (by decide +kernel) rfl <| z_iload_n (pc' := 13) (j := 3) (by decide +kernel) rfl rfl <| h.elim fun c1 h => z_iastore (pc' := 14) (by decide +kernel) hm.a0 c1 rfl <| have h := h _ rfl; z_ret (by decide +kernel) rfl h
set_option maxRecDepth 20000 in
theorem e_X12_earlier {G : Gx} {Q : Rv → Zm → Prop} {Z : Zm} {m : Nat} {B : Nat} {j : Int} (hm : atModel Z m B) (h : ((zIx (262 + (3 * j)) 412) ∧ Q (.inl (some (iv (zI Z B (262 + (3 * j)).toNat)))) Z)) : ZM G 0 m_X12_earlier [.ref m, iv j] Z Q := ZM.of [some (.ref m), some (iv j)] rfl <| z_aload_n (pc' := 1) (j := 0) (by decide +kernel) rfl rfl <| z_getR (pc' := 4) (idx := 9) (ci := 12) (f := 0) (by decide +kernel) f_RX12_9 rfl hm.o.1 hm.o.2 hm.r0 rfl <| z_sipush (pc' := 7) (n := 262) (by decide +kernel) (by decide) rfl <| z_iconst (pc' := 8) (n := 3) (by decide +kernel) rfl <| z_iload_n (pc' := 9) (j := 1) (by decide +kernel) rfl rfl <| z_imul (pc' := 10) (by decide +kernel) rfl <| z_iadd (pc' := 11) (by decide +kernel) rfl <| h.elim fun c1 h => z_iaload (pc' := 12) (by decide +kernel) hm.a0 c1 rfl <| z_ireturn (by decide +kernel) ⟨_, rfl, rfl⟩ h
set_option maxRecDepth 20000 in
theorem e_X12_later {G : Gx} {Q : Rv → Zm → Prop} {Z : Zm} {m : Nat} {B : Nat} {j : Int} (hm : atModel Z m B) (h : ((zIx ((262 + (3 * j)) + 1) 412) ∧ Q (.inl (some (iv (zI Z B ((262 + (3 * j)) + 1).toNat)))) Z)) : ZM G 0 m_X12_later [.ref m, iv j] Z Q := ZM.of [some (.ref m), some (iv j)] rfl <| z_aload_n (pc' := 1) (j := 0) (by decide +kernel) rfl rfl <| z_getR (pc' := 4) (idx := 9) (ci := 12) (f := 0) (by decide +kernel) f_RX12_9 rfl hm.o.1 hm.o.2 hm.r0 rfl <| z_sipush (pc' := 7) (n := 262) (by decide +kernel) (by decide) rfl <| z_iconst (pc' := 8) (n := 3) (by decide +kernel) rfl <| z_iload_n (pc' := 9) (j := 1) (by decide +kernel) rfl rfl <| z_imul (pc' := 10) (by decide +kernel) rfl <| z_iadd (pc' := 11) (by decide +kernel) rfl <| z_iconst (pc' := 12) (n := 1) (by decide +kernel) rfl <| z_iadd (pc' := 13) (by decide +kernel) rfl <| h.elim fun c1 h => z_iaload (pc' := 14) (by decide +kernel) hm.a0 c1 rfl <| z_ireturn (by decide +kernel) ⟨_, rfl, rfl⟩ h
set_option maxRecDepth 20000 in
theorem e_X12_lag {G : Gx} {Q : Rv → Zm → Prop} {Z : Zm} {m : Nat} {B : Nat} {j : Int} (hm : atModel Z m B) (h : ((zIx ((262 + (3 * j)) + 2) 412) ∧ Q (.inl (some (iv (zI Z B ((262 + (3 * j)) + 2).toNat)))) Z)) : ZM G 0 m_X12_lag [.ref m, iv j] Z Q := ZM.of [some (.ref m), some (iv j)] rfl <| z_aload_n (pc' := 1) (j := 0) (by decide +kernel) rfl rfl <| z_getR (pc' := 4) (idx := 9) (ci := 12) (f := 0) (by decide +kernel) f_RX12_9 rfl hm.o.1 hm.o.2 hm.r0 rfl <| z_sipush (pc' := 7) (n := 262) (by decide +kernel) (by decide) rfl <| z_iconst (pc' := 8) (n := 3) (by decide +kernel) rfl <| z_iload_n (pc' := 9) (j := 1) (by decide +kernel) rfl rfl <| z_imul (pc' := 10) (by decide +kernel) rfl <| z_iadd (pc' := 11) (by decide +kernel) rfl <| z_iconst (pc' := 12) (n := 2) (by decide +kernel) rfl <| z_iadd (pc' := 13) (by decide +kernel) rfl <| h.elim fun c1 h => z_iaload (pc' := 14) (by decide +kernel) hm.a0 c1 rfl <| z_ireturn (by decide +kernel) ⟨_, rfl, rfl⟩ h
set_option maxRecDepth 20000 in
theorem e_X12_fails {G : Gx} {Q : Rv → Zm → Prop} {Z : Zm} {m : Nat} {B : Nat} {p : Int} {q : Int} {r : Int} (hm : atModel Z m B) (hp : p = 0 ∨ p = 1) (hq : q = 0 ∨ q = 1) (hr : r = 0 ∨ r = 1) (h : (∀ Z13, Z13 = zSI Z m (zu (zI Z m) 19 (if p = 0 then (if q = 0 then (if r = 0 then 0 else 3) else 2) else 1)) → (R32 (zI Z13 m 19)) ∧ Q (.inl (some (iv (b2 (¬ ((zI Z13 m 19) ≤ 0)))))) Z13)) : ZM G 0 m_X12_fails [.ref m, iv p, iv q, iv r] Z Q := ZM.of [some (.ref m), some (iv p), some (iv q), some (iv r)] rfl <| z_aload_n (pc' := 1) (j := 0) (by decide +kernel) rfl rfl <| z_iload_n (pc' := 2) (j := 1) (by decide +kernel) rfl rfl <| am_use (fun k11 => z_if_eq (pc' := 5) (tgt := 9) (off := 7) (by decide +kernel) (by decide) rfl (b01_r hp) (am_ite2 (fun q12 => z_iload_n (pc' := 10) (j := 2) (by decide +kernel) rfl rfl <| am_use (fun k7 => z_if_eq (pc' := 13) (tgt := 17) (off := 7) (by decide +kernel) (by decide) rfl (b01_r hq) (am_ite2 (fun q8 => z_iload_n (pc' := 18) (j := 3) (by decide +kernel) rfl rfl <| am_use (fun k3 => z_if_eq (pc' := 21) (tgt := 25) (off := 7) (by decide +kernel) (by decide) rfl (b01_r hr) (am_ite2 (fun q4 => z_iconst (pc' := 26) (n := 0) (by decide +kernel) rfl <| (am_jp (P := fun z9 => ZP G 0 m_X12_fails 26 [some (.ref m), some (iv p), some (iv q), some (iv r)] [iv z9, .ref m] _ Q) (if_pos q4) k3)) (fun q4 => z_iconst (pc' := 22) (n := 3) (by decide +kernel) rfl <| z_goto (tgt := 26) (off := 4) (by decide +kernel) (by decide) <| (am_jp (P := fun z9 => ZP G 0 m_X12_fails 26 [some (.ref m), some (iv p), some (iv q), some (iv r)] [iv z9, .ref m] _ Q) (if_neg q4) k3)))) <| (am_jp (P := fun z9 => ZP G 0 m_X12_fails 26 [some (.ref m), some (iv p), some (iv q), some (iv r)] [iv z9, .ref m] _ Q) (if_pos q8) k7)) (fun q8 => z_iconst (pc' := 14) (n := 2) (by decide +kernel) rfl <| z_goto (tgt := 26) (off := 12) (by decide +kernel) (by decide) <| (am_jp (P := fun z9 => ZP G 0 m_X12_fails 26 [some (.ref m), some (iv p), some (iv q), some (iv r)] [iv z9, .ref m] _ Q) (if_neg q8) k7)))) <| (am_jp (P := fun z9 => ZP G 0 m_X12_fails 26 [some (.ref m), some (iv p), some (iv q), some (iv r)] [iv z9, .ref m] _ Q) (if_pos q12) k11)) (fun q12 => z_iconst (pc' := 6) (n := 1) (by decide +kernel) rfl <| z_goto (tgt := 26) (off := 20) (by decide +kernel) (by decide) <| (am_jp (P := fun z9 => ZP G 0 m_X12_fails 26 [some (.ref m), some (iv p), some (iv q), some (iv r)] [iv z9, .ref m] _ Q) (if_neg q12) k11)))) <| z_putI (pc' := 29) (idx := 60) (ci := 12) (f := 19) (by decide +kernel) f_RX12_60 (am_nf rfl rfl) rfl rfl rfl hm.o.1 hm.o.2 rfl <| have h := h _ rfl; z_aload_n (pc' := 30) (j := 0) (by decide +kernel) rfl rfl <| z_getI (pc' := 33) (idx := 60) (ci := 12) (f := 19) (by decide +kernel) f_RX12_60 rfl hm.o.1 hm.o.2 rfl <| h.elim fun c14 h => am_use (fun k17 => z_if_le (pc' := 36) (tgt := 40) (off := 7) (by decide +kernel) (by decide) rfl c14 (am_ite2 (fun q18 => z_iconst (pc' := 41) (n := 0) (by decide +kernel) rfl <| (am_jp (P := fun z9 => ZP G 0 m_X12_fails 41 [some (.ref m), some (iv p), some (iv q), some (iv r)] [iv z9] _ Q) (b2_n q18) k17)) (fun q18 => z_iconst (pc' := 37) (n := 1) (by decide +kernel) rfl <| z_goto (tgt := 41) (off := 4) (by decide +kernel) (by decide) <| (am_jp (P := fun z9 => ZP G 0 m_X12_fails 41 [some (.ref m), some (iv p), some (iv q), some (iv r)] [iv z9] _ Q) (b2_nn q18) k17)))) <| z_ireturn (by decide +kernel) (am_rb (b2_01 _)) h
set_option maxRecDepth 20000 in
theorem e_X12_thrown {G : Gx} {Q : Rv → Zm → Prop} {Z : Zm} {m : Nat} {B : Nat} (hm : atModel Z m B) (h : (Q (.inl (some (iv (zI Z m 19)))) Z)) : ZM G 0 m_X12_thrown [.ref m] Z Q := ZM.of [some (.ref m)] rfl <| z_aload_n (pc' := 1) (j := 0) (by decide +kernel) rfl rfl <| z_getI (pc' := 4) (idx := 60) (ci := 12) (f := 19) (by decide +kernel) f_RX12_60 rfl hm.o.1 hm.o.2 rfl <| z_ireturn (by decide +kernel) ⟨_, rfl, rfl⟩ h
/-! ===== the model: its smallest methods; a book as one row ===== -/
def mG (Z : Zm) (B t f : Nat) : Int := zI Z B (2 + 13 * t + f)
def mE (Z : Zm) (B j : Nat) : Int := zI Z B (262 + 3 * j)
def mQ (Z : Zm) (B j : Nat) : Int := zI Z B (263 + 3 * j)
def mK (Z : Zm) (B j : Nat) : Int := zI Z B (264 + 3 * j)
def fC (p q r : Int) : Int := if p = 0 then (if q = 0 then (if r = 0 then 0 else 3) else 2) else 1
theorem s_in {G : Gx} {Z : Zm} {x y z : Int} (hx : R32 x) (hy : R32 y) (hz : R32 z) : ZM G 0 m_X12_in [iv x, iv y, iv z] Z (fun r Z' => r = .inl (some (iv (b2 (y ≤ x ∧ x ≤ z)))) ∧ Z' = Z) := by
  refine e_X12_in ⟨hx, hy, fun _ => ⟨hz, trivial⟩, ?_, rfl⟩
  rw [show b2 (¬ x < y ∧ ¬ z < x) = b2 (y ≤ x ∧ x ≤ z) from b2_iff (by omega)]
theorem s_many {G : Gx} {Z : Zm} {m B : Nat} (hm : atModel Z m B) : ZM G 0 m_X12_many [.ref m] Z (fun r Z' => r = .inl (some (iv (zI Z B 0))) ∧ Z' = Z) := e_X12_many hm ⟨rfl, rfl⟩
theorem s_needsMany {G : Gx} {Z : Zm} {m B : Nat} (hm : atModel Z m B) : ZM G 0 m_X12_needsMany [.ref m] Z (fun r Z' => r = .inl (some (iv (zI Z B 1))) ∧ Z' = Z) := e_X12_needsMany hm ⟨rfl, rfl⟩
theorem s_get {G : Gx} {Z : Zm} {m B : Nat} {t f : Int} (hm : atModel Z m B) (ht : zIx t 20) (hf : zIx f 13) : ZM G 0 m_X12_get [.ref m, iv t, iv f] Z (fun r Z' => r = .inl (some (iv (mG Z B t.toNat f.toNat))) ∧ Z' = Z) := by
  obtain ⟨t0, t1, -⟩ := ht
  obtain ⟨f0, f1, -⟩ := hf
  refine e_X12_get hm ⟨⟨by omega, by omega, by decide⟩, ?_, rfl⟩
  rw [show (2 + 13 * t + f).toNat = 2 + 13 * t.toNat + f.toNat by omega]
  rfl
theorem s_put {G : Gx} {Z : Zm} {m B : Nat} {t f x : Int} (hm : atModel Z m B) (ht : zIx t 20) (hf : zIx f 13) : ZM G 0 m_X12_put [.ref m, iv t, iv f, iv x] Z (fun r Z' => r = .inl none ∧ Z' = zSI Z B (zu (zI Z B) (2 + 13 * t.toNat + f.toNat) x)) := by
  obtain ⟨t0, t1, -⟩ := ht
  obtain ⟨f0, f1, -⟩ := hf
  refine e_X12_put hm ⟨⟨by omega, by omega, by decide⟩, ?_⟩
  rintro _ rfl
  rw [show (2 + 13 * t + f).toNat = 2 + 13 * t.toNat + f.toNat by omega]
  exact ⟨rfl, rfl⟩
theorem s_earlier {G : Gx} {Z : Zm} {m B : Nat} {j : Int} (hm : atModel Z m B) (hj : zIx j 50) : ZM G 0 m_X12_earlier [.ref m, iv j] Z (fun r Z' => r = .inl (some (iv (mE Z B j.toNat))) ∧ Z' = Z) := by
  obtain ⟨t0, t1, -⟩ := hj
  refine e_X12_earlier hm ⟨⟨by omega, by omega, by decide⟩, ?_, rfl⟩
  rw [show (262 + 3 * j).toNat = 262 + 3 * j.toNat by omega]
  rfl
theorem s_later {G : Gx} {Z : Zm} {m B : Nat} {j : Int} (hm : atModel Z m B) (hj : zIx j 50) : ZM G 0 m_X12_later [.ref m, iv j] Z (fun r Z' => r = .inl (some (iv (mQ Z B j.toNat))) ∧ Z' = Z) := by
  obtain ⟨t0, t1, -⟩ := hj
  refine e_X12_later hm ⟨⟨by omega, by omega, by decide⟩, ?_, rfl⟩
  rw [show (262 + 3 * j + 1).toNat = 263 + 3 * j.toNat by omega]
  rfl
theorem s_lag {G : Gx} {Z : Zm} {m B : Nat} {j : Int} (hm : atModel Z m B) (hj : zIx j 50) : ZM G 0 m_X12_lag [.ref m, iv j] Z (fun r Z' => r = .inl (some (iv (mK Z B j.toNat))) ∧ Z' = Z) := by
  obtain ⟨t0, t1, -⟩ := hj
  refine e_X12_lag hm ⟨⟨by omega, by omega, by decide⟩, ?_, rfl⟩
  rw [show (262 + 3 * j + 2).toNat = 264 + 3 * j.toNat by omega]
  rfl
theorem fC_r {p q r : Int} : 0 ≤ fC p q r ∧ fC p q r ≤ 3 := by
  unfold fC
  by_cases h : p = 0
  · rw [if_pos h]
    by_cases h : q = 0
    · rw [if_pos h]
      by_cases h : r = 0
      · rw [if_pos h]
        omega
      · rw [if_neg h]
        omega
    · rw [if_neg h]
      omega
  · rw [if_neg h]
    omega
theorem s_fails {G : Gx} {Z : Zm} {m B : Nat} {p q r : Int} (hm : atModel Z m B) (hp : p = 0 ∨ p = 1) (hq : q = 0 ∨ q = 1) (hr : r = 0 ∨ r = 1) : ZM G 0 m_X12_fails [.ref m, iv p, iv q, iv r] Z (fun o Z' => o = .inl (some (iv (b2 (0 < fC p q r)))) ∧ Z' = zSI Z m (zu (zI Z m) 19 (fC p q r))) := by
  refine e_X12_fails hm hp hq hr ?_
  rintro _ rfl
  have h := fC_r (p := p) (q := q) (r := r)
  unfold fC at h
  rw [zI_same, zu_same]
  refine ⟨by omega, ?_, rfl⟩
  rw [show b2 (¬ (if p = 0 then (if q = 0 then (if r = 0 then (0 : Int) else 3) else 2) else 1) ≤ 0) = b2 (0 < fC p q r) from b2_iff (by unfold fC; omega)]
theorem fC_0 : fC 0 0 0 = 0 := by decide
theorem s_thrown {G : Gx} {Z : Zm} {m B : Nat} (hm : atModel Z m B) : ZM G 0 m_X12_thrown [.ref m] Z (fun r Z' => r = .inl (some (iv (zI Z m 19))) ∧ Z' = Z) := e_X12_thrown hm ⟨rfl, rfl⟩
set_option maxRecDepth 20000 in
theorem e_X12_isTask {G : Gx} {Q : Rv → Zm → Prop} {Z : Zm} {m : Nat} {B : Nat} {t : Int} (hm : atModel Z m B) (h : ((R32 t) ∧ (R32 ((zI Z B 0) - 1)) ∧ Q (.inl (some (iv (b2 (0 ≤ t ∧ t ≤ ((zI Z B 0) - 1)))))) Z)) : ZM G 1 m_X12_isTask [.ref m, iv t] Z Q := ZM.of [some (.ref m), some (iv t)] rfl <| z_iload_n (pc' := 1) (j := 1) (by decide +kernel) rfl rfl <| z_iconst (pc' := 2) (n := 0) (by decide +kernel) rfl <| z_aload_n (pc' := 3) (j := 0) (by decide +kernel) rfl rfl <| z_callV (pc' := 6) (idx := 64) (mj := m_X12_many) (av := []) (d' := 0) (by decide +kernel) rfl k_X12_many l_RX12_64 rfl (by omega) (am_le rfl) rfl (am_le rfl) hm.o.1 hm.o.2 rfl <| zKf (s_many hm) <| z_iconst (pc' := 7) (n := 1) (by decide +kernel) rfl <| z_isub (pc' := 8) (by decide +kernel) rfl <| h.elim fun c1 h => h.elim fun c2 h => z_callS (pc' := 11) (idx := 68) (mj := m_X12_in) (av := [iv t, iv 0, iv ((zI Z B 0) - 1)]) (d' := 0) (by decide +kernel) rfl k_X12_in l_RX12_68 rfl (by omega) (am_le rfl) rfl (am_le rfl) rfl <| zKf (s_in c1 (by decide : R32 0) c2) <| z_ireturn (by decide +kernel) (am_rb (b2_01 _)) h
theorem s_isTask {G : Gx} {Z : Zm} {m B : Nat} {t : Int} (hm : atModel Z m B) (ht : R32 t) (hn : R32 (zI Z B 0 - 1)) : ZM G 1 m_X12_isTask [.ref m, iv t] Z (fun r Z' => r = .inl (some (iv (b2 (0 ≤ t ∧ t < zI Z B 0)))) ∧ Z' = Z) := by
  refine e_X12_isTask hm ⟨ht, hn, ?_, rfl⟩
  rw [show b2 (0 ≤ t ∧ t ≤ zI Z B 0 - 1) = b2 (0 ≤ t ∧ t < zI Z B 0) from b2_iff (by omega)]
/-- the row B holds the book k -/
def cM (Z : Zm) (B : Nat) (k : Bk) : Prop := zI Z B 0 = (kN k : Int) ∧ zI Z B 1 = (kM k : Int) ∧ (∀ t, t < kN k → (∀ r, r < 10 → mG Z B t r = kF k r t) ∧ mG Z B t 10 = b2 (0 < kF k 10 t) ∧ mG Z B t 11 = kF k 10 t ∧ mG Z B t 12 = kF k 11 t) ∧ ∀ j, j < kM k → mE Z B j = (kE k j : Int) ∧ mQ Z B j = (kL k j : Int) ∧ mK Z B j = kG k j
theorem cM.of {Z Z' : Zm} {B B' : Nat} {k : Bk} (h : cM Z B k) (e : ∀ i, i < 412 → zI Z' B' i = zI Z B i) (ho : kN k ≤ 20 ∧ kM k ≤ 50) : cM Z' B' k := by
  obtain ⟨h1, h2, h3, h4⟩ := h
  have eG : ∀ t f, t < 20 → f < 13 → mG Z' B' t f = mG Z B t f := fun t f ht hf => e _ (by omega)
  refine ⟨by rw [e 0 (by omega)]; exact h1, by rw [e 1 (by omega)]; exact h2, fun t ht => ?_, fun j hj => ?_⟩
  · obtain ⟨g1, g2, g3, g4⟩ := h3 t ht
    refine ⟨fun r hr => ?_, ?_, ?_, ?_⟩
    · rw [eG t r (by omega) (by omega)]
      exact g1 r hr
    · rw [eG t 10 (by omega) (by omega)]
      exact g2
    · rw [eG t 11 (by omega) (by omega)]
      exact g3
    · rw [eG t 12 (by omega) (by omega)]
      exact g4
  · have e1 : mE Z' B' j = mE Z B j := e _ (by omega)
    have e2 : mQ Z' B' j = mQ Z B j := e _ (by omega)
    have e3 : mK Z' B' j = mK Z B j := e _ (by omega)
    rw [e1, e2, e3]
    exact h4 j hj
theorem cM.frame {S : Nat → Prop} {c w : Nat} {Z Z' : Zm} {B : Nat} {k : Bk} (h : cM Z B k) (hB : B < zSz Z) (f : zF S c w Z Z') (hs : ¬ S B) : cM Z' B k := by
  have e : zI Z' B = zI Z B := f.i hB hs
  unfold cM mG mE mQ mK at h ⊢
  rw [e]
  exact h
theorem cM.f {Z : Zm} {B : Nat} {k : Bk} (h : cM Z B k) {t r : Nat} (ht : t < kN k) (hr : r < 10) : mG Z B t r = kF k r t := (h.2.2.1 t ht).1 r hr
