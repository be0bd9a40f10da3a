/-! ===== times over the needs: the least ones from lo on, the greatest ones up to an end ===== -/
def isLF (k : Bk) (len lo f : Nat → Int) : Prop := ∀ t, t < kN k → lo t ≤ f t ∧ (∀ j, j < kM k → kL k j = t → f (kE k j) + len (kE k j) + kG k j ≤ f t) ∧ (f t = lo t ∨ ∃ j, j < kM k ∧ kL k j = t ∧ f t = f (kE k j) + len (kE k j) + kG k j)
def isLat (k : Bk) (len : Nat → Int) (en : Int) (f : Nat → Int) : Prop := ∀ t, t < kN k → f t ≤ en - len t ∧ (∀ j, j < kM k → kE k j = t → f t ≤ f (kL k j) - kG k j - len t) ∧ (f t = en - len t ∨ ∃ j, j < kM k ∧ kE k j = t ∧ f t = f (kL k j) - kG k j - len t)
theorem isLF_le {k : Bk} (ho : kOk k) {len lo f f' : Nat → Int} (h : isLF k len lo f) (h' : ∀ t, t < kN k → lo t ≤ f' t ∧ ∀ j, j < kM k → kL k j = t → f' (kE k j) + len (kE k j) + kG k j ≤ f' t) : ∀ t, t < kN k → f t ≤ f' t := by
  obtain ⟨r, hr⟩ := ho.2.2.2.2
  suffices key : ∀ (b t : Nat), r t ≤ b → t < kN k → f t ≤ f' t from fun t ht => key (r t) t (Nat.le_refl _) ht
  intro b
  induction b with
  | zero =>
    intro t hb ht
    rcases (h t ht).2.2 with e | ⟨j, hj, hl, e⟩
    · rw [e]
      exact (h' t ht).1
    · have := hr j hj
      rw [hl] at this
      omega
  | succ b ih =>
    intro t hb ht
    rcases (h t ht).2.2 with e | ⟨j, hj, hl, e⟩
    · rw [e]
      exact (h' t ht).1
    · have h1 := hr j hj
      rw [hl] at h1
      have h2 := ih (kE k j) (by omega) (ho.e hj)
      have h3 := (h' t ht).2 j hj hl
      omega
theorem isLF_eq {k : Bk} (ho : kOk k) {len lo f f' : Nat → Int} (h : isLF k len lo f) (h' : isLF k len lo f') : ∀ t, t < kN k → f t = f' t := fun t ht =>
  Int.le_antisymm (isLF_le ho h (fun t ht => ⟨(h' t ht).1, (h' t ht).2.1⟩) t ht) (isLF_le ho h' (fun t ht => ⟨(h t ht).1, (h t ht).2.1⟩) t ht)
theorem isLF_congr {k : Bk} (ho : kOk k) {len len' lo lo' f f' : Nat → Int} (h : isLF k len lo f) (hl : ∀ t, t < kN k → len t = len' t) (h0 : ∀ t, t < kN k → lo t = lo' t) (hf : ∀ t, t < kN k → f t = f' t) : isLF k len' lo' f' := fun t ht => by
  obtain ⟨h1, h2, h3⟩ := h t ht
  rw [← h0 t ht, ← hf t ht]
  refine ⟨h1, fun j hj e => ?_, ?_⟩
  · rw [← hf _ (ho.e hj), ← hl _ (ho.e hj)]
    exact h2 j hj e
  · rcases h3 with e | ⟨j, hj, e1, e2⟩
    · exact Or.inl e
    · refine Or.inr ⟨j, hj, e1, ?_⟩
      rw [← hf _ (ho.e hj), ← hl _ (ho.e hj)]
      exact e2
theorem nat_bound (r : Nat → Nat) (n : Nat) : ∃ b, ∀ t, t < n → r t ≤ b := by
  induction n with
  | zero => exact ⟨0, fun t h => absurd h (Nat.not_lt_zero _)⟩
  | succ n ih =>
    obtain ⟨b, hb⟩ := ih
    refine ⟨b + r n, fun t ht => ?_⟩
    by_cases e : t = n
    · rw [e]
      omega
    · have := hb t (by omega)
      omega
theorem isLat_ge {k : Bk} (ho : kOk k) {len f f' : Nat → Int} {en : Int} (h : isLat k len en f) (h' : ∀ t, t < kN k → f' t ≤ en - len t ∧ ∀ j, j < kM k → kE k j = t → f' t ≤ f' (kL k j) - kG k j - len t) : ∀ t, t < kN k → f' t ≤ f t := by
  obtain ⟨r, hr⟩ := ho.2.2.2.2
  obtain ⟨B, hB⟩ := nat_bound r (kN k)
  suffices key : ∀ (b t : Nat), B - r t ≤ b → t < kN k → f' t ≤ f t from fun t ht => key (B - r t) t (Nat.le_refl _) ht
  intro b
  induction b with
  | zero =>
    intro t hb ht
    rcases (h t ht).2.2 with e | ⟨j, hj, hl, e⟩
    · rw [e]
      exact (h' t ht).1
    · have := hr j hj
      have := hB _ (ho.l hj)
      rw [hl] at *
      omega
  | succ b ih =>
    intro t hb ht
    rcases (h t ht).2.2 with e | ⟨j, hj, hl, e⟩
    · rw [e]
      exact (h' t ht).1
    · have h1 := hr j hj
      have h4 := hB _ (ho.l hj)
      have h2 := ih (kL k j) (by rw [hl] at h1; omega) (ho.l hj)
      have h3 := (h' t ht).2 j hj hl
      omega
theorem isLat_eq {k : Bk} (ho : kOk k) {len f f' : Nat → Int} {en : Int} (h : isLat k len en f) (h' : isLat k len en f') : ∀ t, t < kN k → f t = f' t := fun t ht =>
  Int.le_antisymm (isLat_ge ho h' (fun t ht => ⟨(h t ht).1, (h t ht).2.1⟩) t ht) (isLat_ge ho h (fun t ht => ⟨(h' t ht).1, (h' t ht).2.1⟩) t ht)
theorem isLat_congr {k : Bk} (ho : kOk k) {len len' f f' : Nat → Int} {en : Int} (h : isLat k len en f) (hl : ∀ t, t < kN k → len t = len' t) (hf : ∀ t, t < kN k → f t = f' t) : isLat k len' en f' := fun t ht => by
  obtain ⟨h1, h2, h3⟩ := h t ht
  rw [← hl t ht, ← hf t ht]
  refine ⟨h1, fun j hj e => ?_, ?_⟩
  · rw [← hf _ (ho.l hj)]
    exact h2 j hj e
  · rcases h3 with e | ⟨j, hj, e1, e2⟩
    · exact Or.inl e
    · refine Or.inr ⟨j, hj, e1, ?_⟩
      rw [← hf _ (ho.l hj)]
      exact e2
/-- how many tasks have a time below x -/
def cBelow (f : Nat → Int) (x : Int) (n : Nat) : Int := zsum (fun t => if f t < x then 1 else 0) n
theorem cBelow_r (f : Nat → Int) (x : Int) (n : Nat) : 0 ≤ cBelow f x n ∧ cBelow f x n ≤ n := by
  have h := zsum_bound (f := fun t => if f t < x then (1 : Int) else 0) (n := n) (a := 0) (b := 1) fun i _ => by
    show 0 ≤ (if f i < x then (1 : Int) else 0) ∧ (if f i < x then (1 : Int) else 0) ≤ 1
    by_cases h : f i < x
    · rw [if_pos h]
      omega
    · rw [if_neg h]
      omega
  unfold cBelow
  omega
theorem cBelow_lt {f : Nat → Int} {x y : Int} {n i : Nat} (hi : i < n) (h : x ≤ y) (h1 : ¬ f i < x) (h2 : f i < y) : cBelow f x n + 1 ≤ cBelow f y n := zsum_lt (fun t _ => by
    show (if f t < x then (1 : Int) else 0) ≤ (if f t < y then (1 : Int) else 0)
    by_cases c : f t < x
    · rw [if_pos c, if_pos (by omega)]
      exact Int.le_refl _
    · rw [if_neg c]
      by_cases d : f t < y
      · rw [if_pos d]
        decide
      · rw [if_neg d]
        exact Int.le_refl _) hi (by
  show (if f i < x then (1 : Int) else 0) < (if f i < y then (1 : Int) else 0)
  rw [if_neg h1, if_pos h2]
  decide)
/-- the times are bounded -/
theorem isLF_bound {k : Bk} (ho : kOk k) {len lo f : Nat → Int} {c : Int} (h : isLF k len lo f) (hlen : ∀ t, t < kN k → 1 ≤ len t ∧ len t ≤ 60) (hlo : ∀ t, t < kN k → 0 ≤ lo t ∧ lo t ≤ c) : ∀ t, t < kN k → 0 ≤ f t ∧ f t ≤ c + 1710 := by
  have h0 : ∀ t, t < kN k → 0 ≤ f t := fun t ht => by
    have := (h t ht).1
    have := hlo t ht
    omega
  have hn := ho.n
  suffices key : ∀ (b t : Nat), (f t).toNat ≤ b → t < kN k → f t ≤ c + 90 * cBelow f (f t) (kN k) by
    intro t ht
    have h1 := key (f t).toNat t (Nat.le_refl _) ht
    have h2 : cBelow f (f t) (kN k) + 1 ≤ cBelow f (f t + 1) (kN k) := cBelow_lt ht (by omega) (by omega) (by omega)
    have h3 := cBelow_r f (f t + 1) (kN k)
    exact ⟨h0 t ht, by omega⟩
  intro b
  induction b with
  | zero =>
    intro t hb ht
    have := h0 t ht
    have := cBelow_r f (f t) (kN k)
    have := hlo t ht
    omega
  | succ b ih =>
    intro t hb ht
    rcases (h t ht).2.2 with e | ⟨j, hj, hl, e⟩
    · have := hlo t ht
      have := cBelow_r f (f t) (kN k)
      omega
    · have he := ho.e hj
      have hg := ho.g hj
      have h1 := hlen _ he
      have h2 := h0 _ he
      have h3 := ih (kE k j) (by omega) he
      have h4 : cBelow f (f (kE k j)) (kN k) + 1 ≤ cBelow f (f t) (kN k) := cBelow_lt he (by omega) (by omega) (by omega)
      omega
/-! ===== the end ===== -/
def zmax (f : Nat → Int) : Nat → Int
  | 0 => 0
  | n + 1 => max (zmax f n) (f n)
theorem zmax_s (f : Nat → Int) (n : Nat) : zmax f (n + 1) = max (zmax f n) (f n) := rfl
theorem zmax_eq {f g : Nat → Int} {n : Nat} (h : ∀ i, i < n → f i = g i) : zmax f n = zmax g n := by
  induction n with
  | zero => rfl
  | succ n ih => rw [zmax_s, zmax_s, ih fun i hi => h i (by omega), h n (by omega)]
theorem zmax_ge {f : Nat → Int} {n i : Nat} (hi : i < n) : f i ≤ zmax f n := by
  induction n with
  | zero => exact absurd hi (Nat.not_lt_zero _)
  | succ n ih =>
    rw [zmax_s]
    by_cases e : i = n
    · rw [e]
      omega
    · have := ih (by omega)
      omega
theorem zmax_0 (f : Nat → Int) (n : Nat) : 0 ≤ zmax f n := by
  induction n with
  | zero => exact Int.le_refl _
  | succ n ih =>
    rw [zmax_s]
    omega
theorem zmax_le {f : Nat → Int} {n : Nat} {b : Int} (h0 : 0 ≤ b) (h : ∀ i, i < n → f i ≤ b) : zmax f n ≤ b := by
  induction n with
  | zero => exact h0
  | succ n ih =>
    have := ih fun i hi => h i (by omega)
    have := h n (by omega)
    rw [zmax_s]
    omega
theorem zmax_at {f : Nat → Int} {n : Nat} (h : 0 < n) (h0 : ∀ i, i < n → 0 ≤ f i) : ∃ i, i < n ∧ f i = zmax f n := by
  induction n with
  | zero => exact absurd h (Nat.not_lt_zero _)
  | succ n ih =>
    rw [zmax_s]
    by_cases e : n = 0
    · subst e
      have := h0 0 (by omega)
      refine ⟨0, by omega, ?_⟩
      show f 0 = max 0 (f 0)
      omega
    · obtain ⟨i, hi, e2⟩ := ih (by omega) fun i hi => h0 i (by omega)
      by_cases c : zmax f n ≤ f n
      · exact ⟨n, by omega, by omega⟩
      · exact ⟨i, by omega, by omega⟩
