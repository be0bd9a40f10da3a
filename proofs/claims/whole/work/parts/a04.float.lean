/-! ===== quotients of small whole numbers are numbers (b32) ===== -/
theorem fb32_t : FP.Core.Fmt.tails FP.Core.b32 = 8388608 := by decide
theorem fb32_e : FP.Core.Fmt.exps FP.Core.b32 = 256 := by decide
theorem fb32_m : FP.Core.Fmt.qmin FP.Core.b32 = -149 := by decide
theorem fb32_x : FP.Core.Fmt.qmax FP.Core.b32 = 104 := by decide
theorem fb32_p : 2 ^ FP.Core.Fmt.p FP.Core.b32 = 16777216 := by decide
/-- a number or an infinity that can be written -/
def fb32_ok (d : FP.Core.Datum) : Prop := (∃ s, d = .inf s) ∨ ∃ s c q, d = .fin s c q ∧ c < 16777216 ∧ q ≤ 104
theorem fb32_set (s : Bool) (c : Nat) (q : Int) : fb32_ok (FP.Core.settle FP.Core.b32 s c q) := by
  unfold FP.Core.settle FP.Core.bound
  rw [fb32_p, fb32_x, fb32_t]
  by_cases h : c < 16777216
  · rw [if_pos h]
    by_cases g : q ≤ 104
    · rw [if_pos g]
      exact Or.inr ⟨s, c, q, rfl, h, g⟩
    · rw [if_neg g]
      exact Or.inl ⟨s, rfl⟩
  · rw [if_neg h]
    by_cases g : q + 1 ≤ 104
    · rw [if_pos g]
      exact Or.inr ⟨s, _, _, rfl, by decide, g⟩
    · rw [if_neg g]
      exact Or.inl ⟨s, rfl⟩
theorem fb32_rat (s : Bool) (a b : Nat) (e : Int) : fb32_ok (FP.Core.roundRatio FP.Core.b32 s a b e) := by
  unfold FP.Core.roundRatio
  by_cases h : a = 0
  · rw [if_pos h]
    exact Or.inr ⟨s, 0, _, rfl, by decide, by decide⟩
  · rw [if_neg h]
    exact fb32_set _ _ _
theorem fb32_enc {d : FP.Core.Datum} (h : fb32_ok d) : ∃ S E T : Nat, FP.Core.encode FP.Core.b32 d = (S * 256 + E) * 8388608 + T ∧ S ≤ 1 ∧ T < 8388608 ∧ (E ≤ 256 - 2 ∨ (E = 256 - 1 ∧ T = 0)) := by
  have bs : ∀ s : Bool, s.toNat ≤ 1 := fun s => by cases s <;> decide
  rcases h with ⟨s, rfl⟩ | ⟨s, c, q, rfl, h1, h2⟩
  · refine ⟨s.toNat, 256 - 1, 0, ?_, bs s, by decide, Or.inr ⟨rfl, rfl⟩⟩
    show (s.toNat * FP.Core.Fmt.exps FP.Core.b32 + (FP.Core.Fmt.exps FP.Core.b32 - 1)) * FP.Core.Fmt.tails FP.Core.b32 + 0 = _
    rw [fb32_e, fb32_t]
  · show ∃ S E T : Nat, (if c < FP.Core.Fmt.tails FP.Core.b32 then (s.toNat * FP.Core.Fmt.exps FP.Core.b32 + 0) * FP.Core.Fmt.tails FP.Core.b32 + c else (s.toNat * FP.Core.Fmt.exps FP.Core.b32 + ((q - FP.Core.Fmt.qmin FP.Core.b32).toNat + 1)) * FP.Core.Fmt.tails FP.Core.b32 + (c - FP.Core.Fmt.tails FP.Core.b32)) = _ ∧ _
    rw [fb32_e, fb32_t, fb32_m]
    by_cases g : c < 8388608
    · rw [if_pos g]
      exact ⟨s.toNat, 0, c, rfl, bs s, g, Or.inl (by decide)⟩
    · rw [if_neg g]
      exact ⟨s.toNat, _, _, rfl, bs s, by omega, Or.inl (by omega)⟩
theorem fb32_num {d : FP.Core.Datum} (h : fb32_ok d) : vf_n32 (UInt32.ofNat (FP.Core.encode FP.Core.b32 d)) := by
  obtain ⟨S, E, T, e, h1, h2, h3⟩ := fb32_enc h
  rw [e]
  show UInt32.ofNat ((S * 256 + E) * 8388608 + T) &&& 0x7fffffff ≤ 0x7f800000
  rw [UInt32.le_iff_toNat_le, UInt32.toNat_and, UInt32.toNat_ofNat']
  show ((S * 256 + E) * 8388608 + T) % 2 ^ 32 &&& (2 ^ (32 - 1) - 1) ≤ 2139095040
  rw [Nat.and_two_pow_sub_one_eq_mod]
  omega
/-- a whole number as a datum -/
theorem fb32_int {a : Int} (h0 : 0 ≤ a) (h1 : a < 16777216) : ∃ c q, FP.Core.decode FP.Core.b32 (FP.i2f (iN a)).toNat = .fin false c q ∧ (0 < a → 0 < c) := by
  have r : FP.Core.round FP.Core.b32 (FP.Core.ofInt a) = FP.Core.roundRatio FP.Core.b32 false a.natAbs 1 0 := by
    show FP.Core.roundRatio FP.Core.b32 (decide (a < 0)) a.natAbs 1 0 = _
    rw [decide_eq_false (by omega)]
  have key : ∃ c q, FP.Core.roundRatio FP.Core.b32 false a.natAbs 1 0 = .fin false c q ∧ c < 16777216 ∧ q ≤ 104 ∧ (0 < a → 0 < c) := by
    unfold FP.Core.roundRatio
    by_cases h : a.natAbs = 0
    · rw [if_pos h]
      exact ⟨0, _, rfl, by decide, by decide, fun g => by omega⟩
    · rw [if_neg h]
      have lg : a.natAbs.log2 < 24 := (Nat.log2_lt h).mpr (by omega)
      have ld : FP.Core.leading a.natAbs 1 ≤ 23 := by
        have l1 : Nat.log2 1 = 0 := by decide
        unfold FP.Core.leading
        rw [l1]
        by_cases g : 1 * 2 ^ ((a.natAbs.log2 : Int) - ((0 : Nat) : Int)).toNat ≤ a.natAbs * 2 ^ (-((a.natAbs.log2 : Int) - ((0 : Nat) : Int))).toNat
        · have e : (let k : Int := (a.natAbs.log2 : Int) - ((0 : Nat) : Int); if 1 * 2 ^ k.toNat ≤ a.natAbs * 2 ^ (-k).toNat then k else k - 1) = (a.natAbs.log2 : Int) - ((0 : Nat) : Int) := if_pos g
          rw [e]
          omega
        · have e : (let k : Int := (a.natAbs.log2 : Int) - ((0 : Nat) : Int); if 1 * 2 ^ k.toNat ≤ a.natAbs * 2 ^ (-k).toNat then k else k - 1) = (a.natAbs.log2 : Int) - ((0 : Nat) : Int) - 1 := if_neg g
          rw [e]
          omega
      have qd : FP.Core.quantum FP.Core.b32 a.natAbs 1 0 ≤ 0 := by
        show max (FP.Core.Fmt.qmin FP.Core.b32) (FP.Core.leading a.natAbs 1 + 0 - ((24 : Int) - 1)) ≤ 0
        rw [fb32_m]
        omega
      generalize FP.Core.quantum FP.Core.b32 a.natAbs 1 0 = q at *
      have ud : FP.Core.unitsDen 1 0 q = 1 := by
        show 1 * 2 ^ (q - 0).toNat = 1
        rw [show (q - 0).toNat = 0 by omega]
      have un : 1 ≤ FP.Core.unitsNum a.natAbs 0 q := by
        show 1 ≤ a.natAbs * 2 ^ (0 - q).toNat
        exact Nat.mul_pos (by omega) (Nat.two_pow_pos _)
      show ∃ c q', FP.Core.settle FP.Core.b32 false (FP.Core.nearest (FP.Core.unitsNum a.natAbs 0 q) (FP.Core.unitsDen 1 0 q)) q = .fin false c q' ∧ _
      rw [ud]
      have nr : FP.Core.nearest (FP.Core.unitsNum a.natAbs 0 q) 1 = FP.Core.unitsNum a.natAbs 0 q := by
        unfold FP.Core.nearest
        rw [Nat.mod_one, if_pos (by decide), Nat.div_one]
      rw [nr]
      generalize FP.Core.unitsNum a.natAbs 0 q = c at *
      unfold FP.Core.settle FP.Core.bound
      rw [fb32_p, fb32_x, fb32_t]
      by_cases g : c < 16777216
      · rw [if_pos g, if_pos (by omega)]
        exact ⟨c, q, rfl, g, by omega, fun _ => un⟩
      · rw [if_neg g, if_pos (by omega)]
        exact ⟨_, _, rfl, by decide, by omega, fun _ => by decide⟩
  obtain ⟨c, q, k1, k2, k3, k4⟩ := key
  have en : (FP.i2f (iN a)).toNat = FP.Core.encode FP.Core.b32 (.fin false c q) := by
    show (UInt32.ofNat (FP.Core.encode FP.Core.b32 (FP.Core.round FP.Core.b32 (FP.Core.ofInt (iN a).toInt)))).toNat = _
    rw [iN_toInt (by omega), r, k1, UInt32.toNat_ofNat']
    obtain ⟨S, E, T, e, h1, h2, h3⟩ := fb32_enc (Or.inr ⟨false, c, q, rfl, k2, k3⟩)
    rw [e]
    omega
  have ev : FP.Core.encode FP.Core.b32 (.fin false c q) = (if c < 8388608 then c else ((q - (-149)).toNat + 1) * 8388608 + (c - 8388608)) := by
    show (if c < FP.Core.Fmt.tails FP.Core.b32 then (false.toNat * FP.Core.Fmt.exps FP.Core.b32 + 0) * FP.Core.Fmt.tails FP.Core.b32 + c else (false.toNat * FP.Core.Fmt.exps FP.Core.b32 + ((q - FP.Core.Fmt.qmin FP.Core.b32).toNat + 1)) * FP.Core.Fmt.tails FP.Core.b32 + (c - FP.Core.Fmt.tails FP.Core.b32)) = _
    rw [fb32_e, fb32_t, fb32_m]
    by_cases g : c < 8388608
    · rw [if_pos g, if_pos g]
      show (0 * 256 + 0) * 8388608 + c = c
      omega
    · rw [if_neg g, if_neg g]
      show (0 * 256 + ((q - (-149)).toNat + 1)) * 8388608 + (c - 8388608) = _
      omega
  rw [en, ev]
  unfold FP.Core.decode FP.Core.fieldE FP.Core.fieldT FP.Core.fieldS
  rw [fb32_e, fb32_t, fb32_m]
  by_cases g : c < 8388608
  · rw [if_pos g]
    rw [show c / 8388608 = 0 by omega, show c % 8388608 = c by omega]
    exact ⟨c, -149, rfl, k4⟩
  · rw [if_neg g]
    have a1 : (((q - (-149)).toNat + 1) * 8388608 + (c - 8388608)) / 8388608 = (q - (-149)).toNat + 1 := by omega
    have a2 : (((q - (-149)).toNat + 1) * 8388608 + (c - 8388608)) % 8388608 = c - 8388608 := by omega
    rw [a1, a2, show ((q - (-149)).toNat + 1) % 256 = (q - (-149)).toNat + 1 by omega, show ((q - (-149)).toNat + 1) / 256 = 0 by omega, if_neg (by omega), if_neg (by omega)]
    exact ⟨_, _, rfl, fun _ => by omega⟩
theorem fb32_div {a b : Int} (h0 : 0 ≤ a) (h1 : a < 16777216) (g0 : 0 < b) (g1 : b < 16777216) : vf_n32 (FP.fdiv (FP.i2f (iN a)) (FP.i2f (iN b))) := by
  obtain ⟨c, q, e1, -⟩ := fb32_int h0 h1
  obtain ⟨d, r, e2, e3⟩ := fb32_int (a := b) (by omega) g1
  show vf_n32 (UInt32.ofNat (FP.Core.encode FP.Core.b32 (FP.Core.quotient FP.Core.b32 (FP.Core.decode FP.Core.b32 (FP.i2f (iN a)).toNat) (FP.Core.decode FP.Core.b32 (FP.i2f (iN b)).toNat))))
  rw [e1, e2]
  refine fb32_num ?_
  show fb32_ok (if d = 0 then _ else _)
  rw [if_neg (by have := e3 g0; omega)]
  exact fb32_rat _ _ _ _
/-! ===== quotients of small whole numbers are numbers (b64) ===== -/
theorem fb64_t : FP.Core.Fmt.tails FP.Core.b64 = 4503599627370496 := by decide
theorem fb64_e : FP.Core.Fmt.exps FP.Core.b64 = 2048 := by decide
theorem fb64_m : FP.Core.Fmt.qmin FP.Core.b64 = -1074 := by decide
theorem fb64_x : FP.Core.Fmt.qmax FP.Core.b64 = 971 := by decide
theorem fb64_p : 2 ^ FP.Core.Fmt.p FP.Core.b64 = 9007199254740992 := by decide
/-- a number or an infinity that can be written -/
def fb64_ok (d : FP.Core.Datum) : Prop := (∃ s, d = .inf s) ∨ ∃ s c q, d = .fin s c q ∧ c < 9007199254740992 ∧ q ≤ 971
theorem fb64_set (s : Bool) (c : Nat) (q : Int) : fb64_ok (FP.Core.settle FP.Core.b64 s c q) := by
  unfold FP.Core.settle FP.Core.bound
  rw [fb64_p, fb64_x, fb64_t]
  by_cases h : c < 9007199254740992
  · rw [if_pos h]
    by_cases g : q ≤ 971
    · rw [if_pos g]
      exact Or.inr ⟨s, c, q, rfl, h, g⟩
    · rw [if_neg g]
      exact Or.inl ⟨s, rfl⟩
  · rw [if_neg h]
    by_cases g : q + 1 ≤ 971
    · rw [if_pos g]
      exact Or.inr ⟨s, _, _, rfl, by decide, g⟩
    · rw [if_neg g]
      exact Or.inl ⟨s, rfl⟩
theorem fb64_rat (s : Bool) (a b : Nat) (e : Int) : fb64_ok (FP.Core.roundRatio FP.Core.b64 s a b e) := by
  unfold FP.Core.roundRatio
  by_cases h : a = 0
  · rw [if_pos h]
    exact Or.inr ⟨s, 0, _, rfl, by decide, by decide⟩
  · rw [if_neg h]
    exact fb64_set _ _ _
theorem fb64_enc {d : FP.Core.Datum} (h : fb64_ok d) : ∃ S E T : Nat, FP.Core.encode FP.Core.b64 d = (S * 2048 + E) * 4503599627370496 + T ∧ S ≤ 1 ∧ T < 4503599627370496 ∧ (E ≤ 2048 - 2 ∨ (E = 2048 - 1 ∧ T = 0)) := by
  have bs : ∀ s : Bool, s.toNat ≤ 1 := fun s => by cases s <;> decide
  rcases h with ⟨s, rfl⟩ | ⟨s, c, q, rfl, h1, h2⟩
  · refine ⟨s.toNat, 2048 - 1, 0, ?_, bs s, by decide, Or.inr ⟨rfl, rfl⟩⟩
    show (s.toNat * FP.Core.Fmt.exps FP.Core.b64 + (FP.Core.Fmt.exps FP.Core.b64 - 1)) * FP.Core.Fmt.tails FP.Core.b64 + 0 = _
    rw [fb64_e, fb64_t]
  · show ∃ S E T : Nat, (if c < FP.Core.Fmt.tails FP.Core.b64 then (s.toNat * FP.Core.Fmt.exps FP.Core.b64 + 0) * FP.Core.Fmt.tails FP.Core.b64 + c else (s.toNat * FP.Core.Fmt.exps FP.Core.b64 + ((q - FP.Core.Fmt.qmin FP.Core.b64).toNat + 1)) * FP.Core.Fmt.tails FP.Core.b64 + (c - FP.Core.Fmt.tails FP.Core.b64)) = _ ∧ _
    rw [fb64_e, fb64_t, fb64_m]
    by_cases g : c < 4503599627370496
    · rw [if_pos g]
      exact ⟨s.toNat, 0, c, rfl, bs s, g, Or.inl (by decide)⟩
    · rw [if_neg g]
      exact ⟨s.toNat, _, _, rfl, bs s, by omega, Or.inl (by omega)⟩
theorem fb64_num {d : FP.Core.Datum} (h : fb64_ok d) : vf_n64 (UInt64.ofNat (FP.Core.encode FP.Core.b64 d)) := by
  obtain ⟨S, E, T, e, h1, h2, h3⟩ := fb64_enc h
  rw [e]
  show UInt64.ofNat ((S * 2048 + E) * 4503599627370496 + T) &&& 0x7fffffffffffffff ≤ 0x7ff0000000000000
  rw [UInt64.le_iff_toNat_le, UInt64.toNat_and, UInt64.toNat_ofNat']
  show ((S * 2048 + E) * 4503599627370496 + T) % 2 ^ 64 &&& (2 ^ (64 - 1) - 1) ≤ 9218868437227405312
  rw [Nat.and_two_pow_sub_one_eq_mod]
  omega
/-- a whole number as a datum -/
theorem fb64_int {a : Int} (h0 : 0 ≤ a) (h1 : a < 16777216) : ∃ c q, FP.Core.decode FP.Core.b64 (FP.i2d (iN a)).toNat = .fin false c q ∧ (0 < a → 0 < c) := by
  have r : FP.Core.round FP.Core.b64 (FP.Core.ofInt a) = FP.Core.roundRatio FP.Core.b64 false a.natAbs 1 0 := by
    show FP.Core.roundRatio FP.Core.b64 (decide (a < 0)) a.natAbs 1 0 = _
    rw [decide_eq_false (by omega)]
  have key : ∃ c q, FP.Core.roundRatio FP.Core.b64 false a.natAbs 1 0 = .fin false c q ∧ c < 9007199254740992 ∧ q ≤ 971 ∧ (0 < a → 0 < c) := by
    unfold FP.Core.roundRatio
    by_cases h : a.natAbs = 0
    · rw [if_pos h]
      exact ⟨0, _, rfl, by decide, by decide, fun g => by omega⟩
    · rw [if_neg h]
      have lg : a.natAbs.log2 < 24 := (Nat.log2_lt h).mpr (by omega)
      have ld : FP.Core.leading a.natAbs 1 ≤ 23 := by
        have l1 : Nat.log2 1 = 0 := by decide
        unfold FP.Core.leading
        rw [l1]
        by_cases g : 1 * 2 ^ ((a.natAbs.log2 : Int) - ((0 : Nat) : Int)).toNat ≤ a.natAbs * 2 ^ (-((a.natAbs.log2 : Int) - ((0 : Nat) : Int))).toNat
        · have e : (let k : Int := (a.natAbs.log2 : Int) - ((0 : Nat) : Int); if 1 * 2 ^ k.toNat ≤ a.natAbs * 2 ^ (-k).toNat then k else k - 1) = (a.natAbs.log2 : Int) - ((0 : Nat) : Int) := if_pos g
          rw [e]
          omega
        · have e : (let k : Int := (a.natAbs.log2 : Int) - ((0 : Nat) : Int); if 1 * 2 ^ k.toNat ≤ a.natAbs * 2 ^ (-k).toNat then k else k - 1) = (a.natAbs.log2 : Int) - ((0 : Nat) : Int) - 1 := if_neg g
          rw [e]
          omega
      have qd : FP.Core.quantum FP.Core.b64 a.natAbs 1 0 ≤ 0 := by
        show max (FP.Core.Fmt.qmin FP.Core.b64) (FP.Core.leading a.natAbs 1 + 0 - ((53 : Int) - 1)) ≤ 0
        rw [fb64_m]
        omega
      generalize FP.Core.quantum FP.Core.b64 a.natAbs 1 0 = q at *
      have ud : FP.Core.unitsDen 1 0 q = 1 := by
        show 1 * 2 ^ (q - 0).toNat = 1
        rw [show (q - 0).toNat = 0 by omega]
      have un : 1 ≤ FP.Core.unitsNum a.natAbs 0 q := by
        show 1 ≤ a.natAbs * 2 ^ (0 - q).toNat
        exact Nat.mul_pos (by omega) (Nat.two_pow_pos _)
      show ∃ c q', FP.Core.settle FP.Core.b64 false (FP.Core.nearest (FP.Core.unitsNum a.natAbs 0 q) (FP.Core.unitsDen 1 0 q)) q = .fin false c q' ∧ _
      rw [ud]
      have nr : FP.Core.nearest (FP.Core.unitsNum a.natAbs 0 q) 1 = FP.Core.unitsNum a.natAbs 0 q := by
        unfold FP.Core.nearest
        rw [Nat.mod_one, if_pos (by decide), Nat.div_one]
      rw [nr]
      generalize FP.Core.unitsNum a.natAbs 0 q = c at *
      unfold FP.Core.settle FP.Core.bound
      rw [fb64_p, fb64_x, fb64_t]
      by_cases g : c < 9007199254740992
      · rw [if_pos g, if_pos (by omega)]
        exact ⟨c, q, rfl, g, by omega, fun _ => un⟩
      · rw [if_neg g, if_pos (by omega)]
        exact ⟨_, _, rfl, by decide, by omega, fun _ => by decide⟩
  obtain ⟨c, q, k1, k2, k3, k4⟩ := key
  have en : (FP.i2d (iN a)).toNat = FP.Core.encode FP.Core.b64 (.fin false c q) := by
    show (UInt64.ofNat (FP.Core.encode FP.Core.b64 (FP.Core.round FP.Core.b64 (FP.Core.ofInt (iN a).toInt)))).toNat = _
    rw [iN_toInt (by omega), r, k1, UInt64.toNat_ofNat']
    obtain ⟨S, E, T, e, h1, h2, h3⟩ := fb64_enc (Or.inr ⟨false, c, q, rfl, k2, k3⟩)
    rw [e]
    omega
  have ev : FP.Core.encode FP.Core.b64 (.fin false c q) = (if c < 4503599627370496 then c else ((q - (-1074)).toNat + 1) * 4503599627370496 + (c - 4503599627370496)) := by
    show (if c < FP.Core.Fmt.tails FP.Core.b64 then (false.toNat * FP.Core.Fmt.exps FP.Core.b64 + 0) * FP.Core.Fmt.tails FP.Core.b64 + c else (false.toNat * FP.Core.Fmt.exps FP.Core.b64 + ((q - FP.Core.Fmt.qmin FP.Core.b64).toNat + 1)) * FP.Core.Fmt.tails FP.Core.b64 + (c - FP.Core.Fmt.tails FP.Core.b64)) = _
    rw [fb64_e, fb64_t, fb64_m]
    by_cases g : c < 4503599627370496
    · rw [if_pos g, if_pos g]
      show (0 * 2048 + 0) * 4503599627370496 + c = c
      omega
    · rw [if_neg g, if_neg g]
      show (0 * 2048 + ((q - (-1074)).toNat + 1)) * 4503599627370496 + (c - 4503599627370496) = _
      omega
  rw [en, ev]
  unfold FP.Core.decode FP.Core.fieldE FP.Core.fieldT FP.Core.fieldS
  rw [fb64_e, fb64_t, fb64_m]
  by_cases g : c < 4503599627370496
  · rw [if_pos g]
    rw [show c / 4503599627370496 = 0 by omega, show c % 4503599627370496 = c by omega]
    exact ⟨c, -1074, rfl, k4⟩
  · rw [if_neg g]
    have a1 : (((q - (-1074)).toNat + 1) * 4503599627370496 + (c - 4503599627370496)) / 4503599627370496 = (q - (-1074)).toNat + 1 := by omega
    have a2 : (((q - (-1074)).toNat + 1) * 4503599627370496 + (c - 4503599627370496)) % 4503599627370496 = c - 4503599627370496 := by omega
    rw [a1, a2, show ((q - (-1074)).toNat + 1) % 2048 = (q - (-1074)).toNat + 1 by omega, show ((q - (-1074)).toNat + 1) / 2048 = 0 by omega, if_neg (by omega), if_neg (by omega)]
    exact ⟨_, _, rfl, fun _ => by omega⟩
theorem fb64_div {a b : Int} (h0 : 0 ≤ a) (h1 : a < 16777216) (g0 : 0 < b) (g1 : b < 16777216) : vf_n64 (FP.ddiv (FP.i2d (iN a)) (FP.i2d (iN b))) := by
  obtain ⟨c, q, e1, -⟩ := fb64_int h0 h1
  obtain ⟨d, r, e2, e3⟩ := fb64_int (a := b) (by omega) g1
  show vf_n64 (UInt64.ofNat (FP.Core.encode FP.Core.b64 (FP.Core.quotient FP.Core.b64 (FP.Core.decode FP.Core.b64 (FP.i2d (iN a)).toNat) (FP.Core.decode FP.Core.b64 (FP.i2d (iN b)).toNat))))
  rw [e1, e2]
  refine fb64_num ?_
  show fb64_ok (if d = 0 then _ else _)
  rw [if_neg (by have := e3 g0; omega)]
  exact fb64_rat _ _ _ _
