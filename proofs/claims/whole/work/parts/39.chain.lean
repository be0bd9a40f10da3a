/-! ===== the told chain ===== -/
def isNx (k : Bk) (t : Nat) (x : Int) : Prop := (x = -1 ∧ ∀ j, j < kM k → kE k j = t → ¬ tgt k j) ∨ ∃ j, j < kM k ∧ kE k j = t ∧ tgt k j ∧ x = (kL k j : Int) ∧ ∀ i, i < kM k → kE k i = t → tgt k i → kL k j ≤ kL k i
def isLg (k : Bk) (t : Nat) (y g : Int) : Prop := (y = -1 ∧ g = 0) ∨ ∃ j, j < kM k ∧ kE k j = t ∧ y = (kL k j : Int) ∧ g = kG k j
def isSt (k : Bk) (x : Int) : Prop := (x = -1 ∧ ∀ t, t < kN k → eR k t ≠ eEnd k) ∨ ∃ t : Nat, t < kN k ∧ x = (t : Int) ∧ eR k t = eEnd k ∧ ∀ s, s < t → eR k s ≠ eEnd k
def isTold (k : Bk) (d g : Nat → Int) (q : Nat) : Prop := isSt k (d 0) ∧ q ≤ kN k ∧ (∀ i, i < q → 0 ≤ d i ∧ d i < kN k ∧ isNx k (d i).toNat (d (i + 1)) ∧ isLg k (d i).toNat (d (i + 1)) (g i)) ∧ d q = -1
theorem isNx_eq {k : Bk} {t : Nat} {x y : Int} (hx : isNx k t x) (hy : isNx k t y) : x = y := by
  rcases hx with ⟨rfl, h⟩ | ⟨j, hj, h1, h2, rfl, h3⟩
  · rcases hy with ⟨rfl, _⟩ | ⟨i, hi, g1, g2, rfl, g3⟩
    · rfl
    · exact absurd g2 (h i hi g1)
  · rcases hy with ⟨rfl, h⟩ | ⟨i, hi, g1, g2, rfl, g3⟩
    · exact absurd h2 (h j hj h1)
    · have := h3 i hi g1 g2
      have := g3 j hj h1 h2
      omega
theorem isSt_eq {k : Bk} {x y : Int} (hx : isSt k x) (hy : isSt k y) : x = y := by
  rcases hx with ⟨rfl, h⟩ | ⟨t, ht, rfl, h1, h2⟩
  · rcases hy with ⟨rfl, _⟩ | ⟨s, hs, rfl, g1, g2⟩
    · rfl
    · exact absurd g1 (h s hs)
  · rcases hy with ⟨rfl, h⟩ | ⟨s, hs, rfl, g1, g2⟩
    · exact absurd h1 (h t ht)
    · have a1 : ¬ s < t := fun c => h2 s c g1
      have a2 : ¬ t < s := fun c => g2 t c h1
      omega
theorem isLg_eq {k : Bk} (ho : kOk k) {t : Nat} {y g h : Int} (hg : isLg k t y g) (hh : isLg k t y h) : g = h := by
  rcases hg with ⟨h1, rfl⟩ | ⟨j, hj, e1, e2, rfl⟩
  · rcases hh with ⟨_, rfl⟩ | ⟨i, hi, g1, g2, rfl⟩
    · rfl
    · omega
  · rcases hh with ⟨h1, rfl⟩ | ⟨i, hi, g1, g2, rfl⟩
    · omega
    · rw [ho.2.2.2.1 i j hi hj (by omega) (by omega)]
theorem isTold_eq {k : Bk} (ho : kOk k) {d d' g g' : Nat → Int} {q q' : Nat} (h : isTold k d g q) (h' : isTold k d' g' q') : q = q' ∧ ∀ i, i < q → d i = d' i ∧ g i = g' i := by
  obtain ⟨a1, a2, a3, a4⟩ := h
  obtain ⟨b1, b2, b3, b4⟩ := h'
  have key : ∀ i, i ≤ q → i ≤ q' → d i = d' i := by
    intro i
    induction i with
    | zero => intro _ _; exact isSt_eq a1 b1
    | succ i ih =>
      intro h1 h2
      have e := ih (by omega) (by omega)
      have c1 := (a3 i (by omega)).2.2.1
      have c2 := (b3 i (by omega)).2.2.1
      rw [e] at c1
      exact isNx_eq c1 c2
  have eq : q = q' := by
    rcases Nat.lt_trichotomy q q' with c | c | c
    · have := key q (Nat.le_refl _) (by omega)
      have := (b3 q c).1
      omega
    · exact c
    · have := key q' (by omega) (Nat.le_refl _)
      have := (a3 q' c).1
      omega
  refine ⟨eq, fun i hi => ⟨key i (by omega) (by omega), ?_⟩⟩
  have c1 := (a3 i hi).2.2.2
  have c2 := (b3 i (by omega)).2.2.2
  rw [key i (by omega) (by omega), key (i + 1) (by omega) (by omega)] at c1
  exact isLg_eq ho c1 c2
/-- a task without a next one ends with the end -/
theorem eR_last {k : Bk} (h : eOk k) {t : Nat} (ht : t < kN k) (hn : ∀ j, j < kM k → kE k j = t → ¬ tgt k j) : eR k t = kF k 0 t := by
  rcases (h.2 t ht).2.2 with e | ⟨j, hj, e1, e2⟩
  · unfold eR
    omega
  · refine absurd ?_ (hn j hj e1)
    unfold tgt eR
    rw [e1, e2]
    omega
theorem eR_start {k : Bk} (ho : kOk k) (h : eOk k) (hn : 0 < kN k) : ∃ t, t < kN k ∧ eR k t = eEnd k := by
  obtain ⟨r, hr⟩ := ho.2.2.2.2
  suffices key : ∀ (b t : Nat), r t ≤ b → t < kN k → eL k t = eE k t → ∃ t, t < kN k ∧ eR k t = eEnd k by
    obtain ⟨t, ht, e⟩ := zmax_at (f := fun t => eE k t + kF k 0 t) hn fun i hi => by
      have := h.e ho hi
      have := ho.len hi
      show 0 ≤ eE k i + kF k 0 i
      omega
    have e' : eE k t + kF k 0 t = eEnd k := e
    have := h.el ho ht
    exact key (r t) t (Nat.le_refl _) ht (by omega)
  intro b
  induction b with
  | zero =>
    intro t hb ht e
    rcases (h.1 t ht).2.2 with e1 | ⟨j, hj, hl, e1⟩
    · have e2 : eE k t = 0 := e1
      exact ⟨t, ht, by unfold eR; omega⟩
    · have := hr j hj
      rw [hl] at this
      omega
  | succ b ih =>
    intro t hb ht e
    rcases (h.1 t ht).2.2 with e1 | ⟨j, hj, hl, e1⟩
    · have e2 : eE k t = 0 := e1
      exact ⟨t, ht, by unfold eR; omega⟩
    · have h1 := hr j hj
      rw [hl] at h1
      have h2 := (h.2 _ (ho.e hj)).2.1 j hj rfl
      have h3 := h.el ho (ho.e hj)
      rw [hl] at h2
      exact ih (kE k j) (by omega) (ho.e hj) (by omega)
/-- the told chain is as long as the plain plan -/
theorem isTold_sum {k : Bk} (ho : kOk k) (h : eOk k) {d g : Nat → Int} {q : Nat} (ht : isTold k d g q) : zsum (fun i => kF k 0 (d i).toNat + g i) q = eEnd k := by
  obtain ⟨a1, a2, a3, a4⟩ := ht
  have key : ∀ (m i : Nat), i + m = q → 0 < m → zsum (fun i => kF k 0 (d i).toNat + g i) i + eR k (d i).toNat = zsum (fun i => kF k 0 (d i).toNat + g i) q := by
    intro m
    induction m with
    | zero => intro i _ c; omega
    | succ m ih =>
      intro i hi _
      obtain ⟨c1, c2, c3, c4⟩ := a3 i (by omega)
      by_cases e : i + 1 = q
      · subst e
        rw [a4] at c3 c4
        have g0 : g i = 0 := by
          rcases c4 with ⟨_, e⟩ | ⟨j, _, _, e, _⟩
          · exact e
          · omega
        have hno : ∀ j, j < kM k → kE k j = (d i).toNat → ¬ tgt k j := by
          rcases c3 with ⟨_, e⟩ | ⟨j, _, _, _, e, _⟩
          · exact e
          · omega
        rw [zsum_s, eR_last h (by omega) hno, g0]
        omega
      · have h1 := ih (i + 1) (by omega) (by omega)
        have hd := (a3 (i + 1) (by omega)).1
        rw [← h1, zsum_s]
        rcases c3 with ⟨e, _⟩ | ⟨j, hj, e1, e2, e3, _⟩
        · omega
        · rcases c4 with ⟨e, _⟩ | ⟨i', hi', f1, f2, f3⟩
          · omega
          · have ej : i' = j := ho.2.2.2.1 i' j hi' hj (by omega) (by omega)
            subst ej
            unfold tgt at e2
            rw [e3, Int.toNat_natCast, f3, ← e1, e2]
            omega
  rcases Nat.eq_zero_or_pos q with e | e
  · subst e
    rcases a1 with ⟨_, hno⟩ | ⟨t, _, e, _⟩
    · rcases Nat.eq_zero_or_pos (kN k) with c | c
      · show 0 = kEnd k _ _
        unfold kEnd
        rw [c]
        rfl
      · obtain ⟨t, ht, e⟩ := eR_start ho h c
        exact absurd e (hno t ht)
    · omega
  · have h1 := key q 0 (by omega) e
    rcases a1 with ⟨e9, _⟩ | ⟨t, ht, e9, e8, _⟩
    · have := (a3 0 e).1
      omega
    · rw [e9, Int.toNat_natCast, e8] at h1
      rw [← h1]
      show 0 + eEnd k = eEnd k
      omega
