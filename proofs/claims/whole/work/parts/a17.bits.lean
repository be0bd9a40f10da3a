/-! ===== bits ===== -/
def bq (x : Int) (t : Nat) : Bool := (iN x).toBitVec.getLsbD t
theorem bq_or (x y : Int) (t : Nat) : bq (zor x y) t = (bq x t || bq y t) := by
  unfold bq zor
  rw [iN_toInt_id, Int32.toBitVec_or, BitVec.getLsbD_or]
theorem bq_and (x y : Int) (t : Nat) : bq (zand x y) t = (bq x t && bq y t) := by
  unfold bq zand
  rw [iN_toInt_id, Int32.toBitVec_and, BitVec.getLsbD_and]
theorem bq_m1 : ∀ t, t < 32 → (iN (-1)).toBitVec.getLsbD t = true := by decide +kernel
theorem bq_not (x : Int) {t : Nat} (h : t < 32) : bq (zxor x (-1)) t = !bq x t := by
  unfold bq zxor
  rw [iN_toInt_id, Int32.toBitVec_xor, BitVec.getLsbD_xor, bq_m1 t h, Bool.xor_true]
theorem bq_bit : ∀ v : Nat, v < 20 → ∀ t, t < 32 → bq (zshl 1 (v : Int)) t = decide (t = v) := by decide +kernel
theorem bq_0 : ∀ t, t < 32 → bq 0 t = false := by decide +kernel
theorem bq_1 : ∀ t, t < 32 → bq 1 t = decide (t = 0) := by decide +kernel
theorem bq_ext {x y : Int} (hx : R32 x) (hy : R32 y) (h : ∀ t, t < 32 → bq x t = bq y t) : x = y := by
  have e : iN x = iN y := Int32.toBitVec_inj.mp (BitVec.eq_of_getLsbD_eq fun i hi => h i hi)
  rw [iN_eq hx hy] at e
  exact e
theorem zand_r (x y : Int) : R32 (zand x y) := R32_of _
theorem zor_r (x y : Int) : R32 (zor x y) := R32_of _
theorem bq_s : ∀ v : Nat, v < 20 → ((iN (v : Int) &&& 31).toBitVec.smod 32).toNat = v := by decide +kernel
theorem bq_shr (x : Int) {v : Nat} (hv : v < 20) : bq (zshr x (v : Int)) 0 = bq x v := by
  unfold bq zshr
  rw [iN_toInt_id, Int32.toBitVec_shiftRight]
  show ((iN x).toBitVec.sshiftRight ((iN (v : Int) &&& 31).toBitVec.smod 32).toNat).getLsbD 0 = _
  rw [bq_s v hv, BitVec.getLsbD_sshiftRight]
  simp [show v < 32 by omega]
theorem bq_sel (x : Int) {v : Nat} (hv : v < 20) : zand (zshr x (v : Int)) 1 = if bq x v = true then 1 else 0 := by
  refine bq_ext (zand_r _ _) (by split <;> decide) fun t ht => ?_
  rw [bq_and, bq_1 t ht]
  by_cases e : t = 0
  · rw [e, bq_shr x hv]
    by_cases g : bq x v = true
    · rw [if_pos g, g]
      rfl
    · rw [if_neg g, bq_0 0 (by decide), Bool.eq_false_iff.mpr g]
      rfl
  · rw [decide_eq_false e, Bool.and_false]
    by_cases g : bq x v = true
    · rw [if_pos g, bq_1 t ht, decide_eq_false e]
    · rw [if_neg g, bq_0 t ht]
theorem zand_0 (x y : Int) : zand x y = 0 ↔ ∀ t, t < 32 → ¬ (bq x t = true ∧ bq y t = true) := by
  constructor
  · intro h t ht g
    have e := bq_and x y t
    rw [h, bq_0 t ht, g.1, g.2] at e
    exact absurd e (by decide)
  · intro h
    refine bq_ext (zand_r _ _) (by decide) fun t ht => ?_
    rw [bq_and, bq_0 t ht]
    by_cases g : bq x t = true
    · rw [Bool.eq_false_iff.mpr fun q => h t ht ⟨g, q⟩, Bool.and_false]
    · rw [Bool.eq_false_iff.mpr g, Bool.false_and]
/-! ===== the crane ===== -/
def nsB (k : Bk) (b : Nat → Int) : Prop := ∀ j, j < kM k → lateB k b j ≤ b (kL k j)
def noV (k : Bk) (b : Nat → Int) (t u : Nat) : Prop := b t + kF k 0 t ≤ b u ∨ b u + kF k 0 u ≤ b t
def feC (k : Bk) (b : Nat → Int) : Prop := (∀ t, t < kN k → 0 ≤ b t) ∧ nsB k b ∧ ∀ t u, t < kN k → u < kN k → t ≠ u → kF k 2 t = 0 → kF k 2 u = 0 → noV k b t u
def prE (k : Bk) (b : Nat → Int) (p : Int) : Int := zmax (fun t => if kF k 4 t = p then b t + kF k 0 t else 0) (kN k)
def seC (k : Bk) (b : Nat → Int) : Int := prE k b 0 + prE k b 1
def isCr (k : Bk) (v : Int) : Prop := (∃ b, feC k b ∧ v = seC k b) ∧ ∀ b, feC k b → v ≤ seC k b
theorem isCr_eq {k : Bk} {v w : Int} (h : isCr k v) (h' : isCr k w) : v = w := by
  obtain ⟨⟨S, a, b⟩, c⟩ := h
  obtain ⟨⟨S', a', b'⟩, c'⟩ := h'
  have := c S' a'
  have := c' S a
  omega
noncomputable def vCn (k : Bk) : Int := Classical.epsilon (isCr k)
theorem vCn_of {k : Bk} {x : Int} (h : isCr k x) : x = vCn k := isCr_eq h (Classical.epsilon_spec (p := isCr k) ⟨x, h⟩)
def cnN (k : Bk) : Int := zsum (fun t => if kF k 2 t = 0 then 1 else 0) (kN k)
noncomputable def o_crane (σ : St) : Ou := cIf (cnN (sK σ) ≤ 5) (0, vCn (sK σ), σ) (1, 0, σ)
theorem prE_up {k : Bk} (ho : kOk k) {f b : Nat → Int} (h : ∀ t, t < kN k → f t ≤ b t) (p : Int) : prE k f p ≤ prE k b p := zmax_le (zmax_0 _ _) fun t ht => by
  have a := zmax_ge (f := fun t => if kF k 4 t = p then b t + kF k 0 t else 0) ht
  have a : (if kF k 4 t = p then b t + kF k 0 t else 0) ≤ prE k b p := a
  show (if kF k 4 t = p then f t + kF k 0 t else 0) ≤ prE k b p
  by_cases g : kF k 4 t = p
  · rw [if_pos g] at a ⊢
    have := h t ht
    omega
  · rw [if_neg g] at a ⊢
    exact a
theorem seC_up {k : Bk} (ho : kOk k) {f b : Nat → Int} (h : ∀ t, t < kN k → f t ≤ b t) : seC k f ≤ seC k b := by
  have a := prE_up ho h 0
  have b := prE_up ho h 1
  unfold seC
  omega
theorem prE_r {k : Bk} (ho : kOk k) {f : Nat → Int} {c : Int} (h : ∀ t, t < kN k → f t ≤ c) (hc : 0 ≤ c) (p : Int) : 0 ≤ prE k f p ∧ prE k f p ≤ c + 60 := ⟨zmax_0 _ _, zmax_le (by omega) fun t ht => by
  show (if kF k 4 t = p then f t + kF k 0 t else 0) ≤ c + 60
  have a := h t ht
  have l := ho.len ht
  by_cases g : kF k 4 t = p
  · rw [if_pos g]
    omega
  · rw [if_neg g]
    omega⟩
theorem seC_r {k : Bk} (ho : kOk k) {f : Nat → Int} {c : Int} (h : ∀ t, t < kN k → f t ≤ c) (hc : 0 ≤ c) : 0 ≤ seC k f ∧ seC k f ≤ 2 * c + 120 := by
  have a := prE_r ho h hc 0
  have b := prE_r ho h hc 1
  unfold seC
  omega
theorem isLF_ns {k : Bk} (ho : kOk k) {lo f : Nat → Int} (h : isLF k (kF k 0) lo f) : nsB k f := fun j hj => (h _ (ho.l hj)).2.1 j hj rfl
theorem nsB_lf {k : Bk} (ho : kOk k) {lo f b : Nat → Int} (h : isLF k (kF k 0) lo f) (hb : nsB k b) (hl : ∀ t, t < kN k → lo t ≤ b t) : ∀ t, t < kN k → f t ≤ b t := isLF_le ho h fun t ht => ⟨hl t ht, fun j hj e => by
  have g := hb j hj
  rw [e] at g
  exact g⟩
/-- begins depend on what comes ahead alone -/
theorem isLF_loc {k : Bk} (ho : kOk k) {lo lo' f f' : Nat → Int} {D : Nat → Prop} (h : isLF k (kF k 0) lo f) (h' : isLF k (kF k 0) lo' f') (hD : ∀ j, j < kM k → D (kL k j) → D (kE k j)) (e : ∀ t, t < kN k → D t → lo t = lo' t) : ∀ t, t < kN k → D t → f t = f' t := by
  obtain ⟨r, hr⟩ := ho.2.2.2.2
  suffices key : ∀ m t, r t < m → t < kN k → D t → f t = f' t from fun t => key (r t + 1) t (Nat.lt_succ_self _)
  intro m
  induction m with
  | zero => exact fun t ht => absurd ht (Nat.not_lt_zero _)
  | succ m ih =>
    have le : ∀ {lo lo' f f' : Nat → Int}, isLF k (kF k 0) lo f → isLF k (kF k 0) lo' f' → (∀ t, t < kN k → D t → lo t = lo' t) → (∀ t, r t < m → t < kN k → D t → f t = f' t) → ∀ t, r t < m + 1 → t < kN k → D t → f t ≤ f' t := by
      intro lo lo' f f' h h' e ih t hrt ht hd
      rcases (h t ht).2.2 with g | ⟨j, hj, g1, g2⟩
      · rw [g, e t ht hd]
        exact (h' t ht).1
      · have a := (h' t ht).2.1 j hj g1
        have b := hr j hj
        rw [g1] at b
        have c := ih (kE k j) (by omega) (ho.e hj) (hD j hj (by rw [g1]; exact hd))
        omega
    exact fun t hrt ht hd => Int.le_antisymm (le h h' e ih t hrt ht hd) (le h' h (fun t ht hd => (e t ht hd).symm) (fun t a b c => (ih t a b c).symm) t hrt ht hd)
theorem feC_ex {k : Bk} (ho : kOk k) {pos : Nat → Nat} (h1 : ∀ t, t < kN k → pos t < 20) (h2 : ∀ t u, t < kN k → u < kN k → pos t = pos u → t = u) (h3 : ∀ j, j < kM k → pos (kE k j) < pos (kL k j)) : ∃ b, feC k b ∧ seC k b ≤ 3920 := by
  refine ⟨fun t => 90 * (pos t : Int), ⟨fun t ht => by show (0 : Int) ≤ 90 * (pos t : Int); omega, fun j hj => ?_, fun t u ht hu ne _ _ => ?_⟩, ?_⟩
  · have a := ho.len (ho.e hj)
    have b := ho.g hj
    have c := h3 j hj
    show 90 * (pos (kE k j) : Int) + kF k 0 (kE k j) + kG k j ≤ 90 * (pos (kL k j) : Int)
    omega
  · have a := ho.len ht
    have b := ho.len hu
    show 90 * (pos t : Int) + kF k 0 t ≤ 90 * (pos u : Int) ∨ 90 * (pos u : Int) + kF k 0 u ≤ 90 * (pos t : Int)
    have c : pos t ≠ pos u := fun q => ne (h2 t u ht hu q)
    omega
  · have := seC_r ho (f := fun t => 90 * (pos t : Int)) (c := 1710) (fun t ht => by
      have := h1 t ht
      show 90 * (pos t : Int) ≤ 1710
      omega) (by decide)
    omega
/-- the one that begins first -/
theorem min_ex {Q : Nat → Prop} (b : Nat → Int) : ∀ n, (∃ t, t < n ∧ Q t) → ∃ t, t < n ∧ Q t ∧ ∀ u, u < n → Q u → b t ≤ b u := by
  intro n
  induction n with
  | zero =>
    rintro ⟨t, h, -⟩
    omega
  | succ n ih =>
    rintro ⟨t, ht, hq⟩
    by_cases c : ∃ t, t < n ∧ Q t
    · obtain ⟨s, s1, s2, s3⟩ := ih c
      by_cases d : Q n ∧ b n < b s
      · refine ⟨n, Nat.lt_succ_self _, d.1, fun u hu hqu => ?_⟩
        by_cases e : u = n
        · rw [e]
          exact Int.le_refl _
        · have := s3 u (by omega) hqu
          omega
      · refine ⟨s, by omega, s2, fun u hu hqu => ?_⟩
        by_cases e : u = n
        · rw [e]
          rw [e] at hqu
          exact Int.not_lt.mp fun q => d ⟨hqu, q⟩
        · exact s3 u (by omega) hqu
    · have e : t = n := Classical.byContradiction fun e => c ⟨t, by omega, hq⟩
      rw [e] at hq
      refine ⟨n, Nat.lt_succ_self _, hq, fun u hu hqu => ?_⟩
      have e2 : u = n := Classical.byContradiction fun e => c ⟨u, by omega, hqu⟩
      rw [e2]
      exact Int.le_refl _
