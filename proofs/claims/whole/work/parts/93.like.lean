/-! ===== like hands: which begins can be ===== -/
noncomputable def ci (Q : Prop) : Int := cIf Q 1 0
theorem ci_p {Q : Prop} (h : Q) : ci Q = 1 := cIf_p h
theorem ci_f {Q : Prop} (h : ¬ Q) : ci Q = 0 := cIf_f h
theorem ci_r (Q : Prop) : 0 ≤ ci Q ∧ ci Q ≤ 1 := by
  by_cases h : Q
  · rw [ci_p h]
    omega
  · rw [ci_f h]
    omega
theorem ci_le {Q R : Prop} (h : Q → R) : ci Q ≤ ci R := by
  by_cases g : Q
  · rw [ci_p g, ci_p (h g)]
    exact Int.le_refl _
  · rw [ci_f g]
    exact (ci_r R).1
theorem ci_iff {Q R : Prop} (h : Q ↔ R) : ci Q = ci R := Int.le_antisymm (ci_le h.mp) (ci_le h.mpr)
theorem zsum_1 (n : Nat) : zsum (fun _ => 1) n = (n : Int) := by
  induction n with
  | zero => rfl
  | succ n ih =>
    rw [zsum_s, ih]
    omega
theorem zsum_le1 {f g : Nat → Int} {n t : Nat} (ht : t < n) (h : ∀ u, u < n → u ≠ t → f u ≤ g u) (h1 : f t ≤ g t + 1) : zsum f n ≤ zsum g n + 1 := by
  have a := zsum_one (f := f) (g := zu f t (g t)) (n := n) (i := t) (fun j _ e => (zu_other e).symm) ht
  have b : zsum (zu f t (g t)) n ≤ zsum g n := zsum_le fun u hu => by
    by_cases e : u = t
    · rw [e, zu_same]
      exact Int.le_refl _
    · rw [zu_other e]
      exact h u hu e
  rw [zu_same] at a
  omega
theorem zsum_ci_1 {Q : Nat → Prop} {n : Nat} (h : ∀ i j, i < n → j < n → Q i → Q j → i = j) : zsum (fun i => ci (Q i)) n ≤ 1 := by
  by_cases c : ∃ i, i < n ∧ Q i
  · obtain ⟨i, hi, q⟩ := c
    have a := zsum_le1 (f := fun i => ci (Q i)) (g := fun _ => 0) hi (fun u hu e => by
      show ci (Q u) ≤ 0
      rw [ci_f fun g => e (h u i hu hi g q)]
      exact Int.le_refl _) (by
      show ci (Q i) ≤ 0 + 1
      exact (ci_r _).2)
    rw [zsum_0] at a
    exact a
  · have a := zsum_le (f := fun i => ci (Q i)) (g := fun _ => 0) (n := n) fun i hi => by
      show ci (Q i) ≤ 0
      rw [ci_f fun g => c ⟨i, hi, g⟩]
      exact Int.le_refl _
    rw [zsum_0] at a
    omega
theorem zsum_ci_e {Q : Nat → Prop} {n i : Nat} (hi : i < n) (h : Q i) : 1 ≤ zsum (fun i => ci (Q i)) n := zsum_pos (fun j _ => (ci_r _).1) hi (by
  show 0 < ci (Q i)
  rw [ci_p h]
  decide)
/-- hands that are held: no more than there are -/
theorem hd_le {Q F : Nat → Prop} {w : Nat → Int} {n H : Nat} (hw : ∀ t, t < n → Q t → 0 ≤ w t ∧ w t < (H : Int) ∧ F (w t).toNat) (hi : ∀ t u, t < n → u < n → Q t → Q u → w t = w u → t = u) : zsum (fun t => ci (Q t)) n ≤ zsum (fun h => ci (F h)) H := by
  have a : zsum (fun t => ci (Q t)) n ≤ zsum (fun t => zsum (fun h => ci (Q t ∧ w t = (h : Int))) H) n := zsum_le fun t ht => by
    by_cases c : Q t
    · obtain ⟨w1, w2, -⟩ := hw t ht c
      show ci (Q t) ≤ _
      rw [ci_p c]
      exact zsum_ci_e (Q := fun h => Q t ∧ w t = (h : Int)) (i := (w t).toNat) (by omega) ⟨c, by omega⟩
    · show ci (Q t) ≤ _
      rw [ci_f c]
      exact zsum_nn fun i _ => (ci_r _).1
  rw [zsum_swap] at a
  refine Int.le_trans a (zsum_le fun h hh => ?_)
  show zsum (fun t => ci (Q t ∧ w t = (h : Int))) n ≤ ci (F h)
  by_cases c : F h
  · rw [ci_p c]
    exact zsum_ci_1 fun t u ht hu q1 q2 => hi t u ht hu q1.1 q2.1 (by rw [q1.2, q2.2])
  · rw [ci_f c, zsum_eq (g := fun _ => 0) fun t ht => ci_f fun q => c (by
      have := (hw t ht q.1).2.2
      rw [q.2, Int.toNat_natCast] at this
      exact this), zsum_0]
    exact Int.le_refl _
theorem hd_ge {Q F : Nat → Prop} {w : Nat → Int} {n H : Nat} (h : ∀ i, i < H → F i → ∃ t, t < n ∧ Q t ∧ w t = (i : Int)) : zsum (fun h => ci (F h)) H ≤ zsum (fun t => ci (Q t)) n := by
  have a : zsum (fun h => ci (F h)) H ≤ zsum (fun h => zsum (fun t => ci (Q t ∧ w t = (h : Int))) n) H := zsum_le fun i hi => by
    by_cases c : F i
    · obtain ⟨t, t1, t2, t3⟩ := h i hi c
      show ci (F i) ≤ _
      rw [ci_p c]
      exact zsum_ci_e (Q := fun t => Q t ∧ w t = (i : Int)) t1 ⟨t2, t3⟩
    · show ci (F i) ≤ _
      rw [ci_f c]
      exact zsum_nn fun i _ => (ci_r _).1
  rw [zsum_swap] at a
  refine Int.le_trans a (zsum_le fun t ht => ?_)
  show zsum (fun h => ci (Q t ∧ w t = (h : Int))) H ≤ ci (Q t)
  by_cases c : Q t
  · rw [ci_p c]
    exact zsum_ci_1 fun i j _ _ q1 q2 => by
      have := q1.2
      have := q2.2
      omega
  · rw [ci_f c, zsum_eq (g := fun _ => 0) fun i _ => ci_f fun q => c q.1, zsum_0]
    exact Int.le_refl _
/-- an hour in which a task works; -1 for a begin: it has not begun -/
def wk0 (k : Bk) (b : Nat → Int) (t : Nat) (x : Int) : Prop := b t ≠ -1 ∧ b t ≤ x ∧ x < b t + kF k 0 t
noncomputable def cntP (k : Bk) (b : Nat → Int) (x : Int) : Int := zsum (fun t => ci (wk0 k b t x)) (kN k)
/-- the needs let it begin at x -/
def letQ (k : Bk) (b : Nat → Int) (t : Nat) (x : Int) : Prop := ∀ j, j < kM k → kL k j = t → b (kE k j) ≠ -1 ∧ lateB k b j ≤ x
/-- begins that the needs and H hands let be -/
def fs (k : Bk) (H : Int) (S : Nat → Int) : Prop := (∀ t, t < kN k → 0 ≤ S t) ∧ (∀ t, t < kN k → letQ k S t (S t)) ∧ ∀ x, 0 ≤ x → cntP k S x ≤ H
/-- no task waits while the needs let it and a hand is free -/
def ndl (k : Bk) (H : Int) (S : Nat → Int) : Prop := ∀ t x, t < kN k → 0 ≤ x → x < S t → letQ k S t x → H ≤ cntP k S x
/-- no task alone can be put earlier -/
def tgS (k : Bk) (H : Int) (S : Nat → Int) : Prop := fs k H S ∧ ∀ t y, t < kN k → 0 ≤ y → y < S t → ¬ fs k H (zu S t y)
def enS (k : Bk) (S : Nat → Int) : Int := kEnd k (kF k 0) S
theorem kOk.ne {k : Bk} (ho : kOk k) {j : Nat} (hj : j < kM k) : kE k j ≠ kL k j := fun e => by
  obtain ⟨pos, -, h⟩ := kPos ho
  have := h j hj
  rw [e] at this
  omega
/-- moving a task ahead -/
theorem fs_mv {k : Bk} (ho : kOk k) {H : Int} {S : Nat → Int} (h : fs k H S) {t : Nat} {y : Int} (ht : t < kN k) (hy : 0 ≤ y ∧ y < S t) (hl : letQ k S t y) (hc : ∀ z, y ≤ z → z < S t → z < y + kF k 0 t → zsum (fun u => ci (u ≠ t ∧ wk0 k S u z)) (kN k) < H) : fs k H (zu S t y) := by
  obtain ⟨h1, h2, h3⟩ := h
  have hlen := ho.len ht
  have s1 : ∀ u, u ≠ t → zu S t y u = S u := fun u e => zu_other e
  have le : ∀ u, zu S t y u ≤ S u := fun u => by
    by_cases e : u = t
    · rw [e, zu_same]
      omega
    · rw [s1 u e]
      exact Int.le_refl _
  have nn : ∀ u, u < kN k → 0 ≤ zu S t y u := fun u hu => by
    by_cases e : u = t
    · rw [e, zu_same]
      exact hy.1
    · rw [s1 u e]
      exact h1 u hu
  refine ⟨nn, fun u hu j hj e => ⟨by have := nn _ (ho.e hj); omega, ?_⟩, fun x hx => ?_⟩
  · have lb : lateB k (zu S t y) j ≤ lateB k S j := by
      have := le (kE k j)
      unfold lateB
      omega
    by_cases c : u = t
    · rw [c, zu_same]
      have := (hl j hj (e.trans c)).2
      omega
    · rw [s1 u c]
      have := (h2 u hu j hj e).2
      omega
  · by_cases c : y ≤ x ∧ x < S t ∧ x < y + kF k 0 t
    · have a := hc x c.1 c.2.1 c.2.2
      have b := zsum_le1 (f := fun u => ci (wk0 k (zu S t y) u x)) (g := fun u => ci (u ≠ t ∧ wk0 k S u x)) ht (fun u hu e => ci_le fun q => by
        refine ⟨e, ?_⟩
        unfold wk0 at *
        rw [s1 u e] at q
        exact q) (by
        have r1 := ci_r (wk0 k (zu S t y) t x)
        have r2 := ci_r (t ≠ t ∧ wk0 k S t x)
        show ci (wk0 k (zu S t y) t x) ≤ ci (t ≠ t ∧ wk0 k S t x) + 1
        omega)
      unfold cntP
      omega
    · refine Int.le_trans (zsum_le fun u hu => ci_le fun q => ?_) (h3 x hx)
      have g := h1 u hu
      unfold wk0 at *
      by_cases e : u = t
      · rw [e, zu_same] at q
        rw [e] at g ⊢
        omega
      · rw [s1 u e] at q
        exact q
theorem enS_ge {k : Bk} {S : Nat → Int} {t : Nat} (ht : t < kN k) : S t + kF k 0 t ≤ enS k S := zmax_ge (f := fun t => S t + kF k 0 t) ht
theorem tg_ex {k : Bk} {H E : Int} : ∀ (m : Nat) (S : Nat → Int), fs k H S → enS k S ≤ E → zsum S (kN k) ≤ (m : Int) → ∃ S', tgS k H S' ∧ enS k S' ≤ E := by
  intro m
  induction m with
  | zero =>
    intro S h he hm
    by_cases c : tgS k H S
    · exact ⟨S, c, he⟩
    · have : ∃ t y, t < kN k ∧ 0 ≤ y ∧ y < S t ∧ fs k H (zu S t y) := Classical.byContradiction fun g => c ⟨h, fun t y g1 g2 g3 g4 => g ⟨t, y, g1, g2, g3, g4⟩⟩
      obtain ⟨t, y, g1, g2, g3, g4⟩ := this
      have a := zsum_pos (f := S) (fun j hj => h.1 j hj) g1 (by omega)
      omega
  | succ m ih =>
    intro S h he hm
    by_cases c : tgS k H S
    · exact ⟨S, c, he⟩
    · have : ∃ t y, t < kN k ∧ 0 ≤ y ∧ y < S t ∧ fs k H (zu S t y) := Classical.byContradiction fun g => c ⟨h, fun t y g1 g2 g3 g4 => g ⟨t, y, g1, g2, g3, g4⟩⟩
      obtain ⟨t, y, g1, g2, g3, g4⟩ := this
      refine ih _ g4 (zmax_le (Int.le_trans (zmax_0 _ _) he) fun u hu => ?_) ?_
      · have a := enS_ge (S := S) hu
        show zu S t y u + kF k 0 u ≤ E
        by_cases e : u = t
        · rw [e, zu_same]
          rw [e] at a
          omega
        · rw [zu_other e]
          omega
      · have a := zsum_lt (f := zu S t y) (g := S) (n := kN k) (i := t) (fun u _ => by
          by_cases e : u = t
          · rw [e, zu_same]
            omega
          · rw [zu_other e]
            exact Int.le_refl _) g1 (by rw [zu_same]; exact g3)
        omega
theorem tg_of {k : Bk} {H : Int} {S : Nat → Int} (h : fs k H S) : ∃ S', tgS k H S' ∧ enS k S' ≤ enS k S := tg_ex (zsum S (kN k)).toNat S h (Int.le_refl _) (by have := zsum_nn (f := S) (n := kN k) fun i hi => h.1 i hi; omega)
/-! ===== bounds of the end ===== -/
theorem fs_end {k : Bk} (ho : kOk k) {H : Int} {S : Nat → Int} (h : fs k H S) : eEnd k ≤ enS k S := by
  have e := eOk_all ho
  have le := isLF_le ho e.1 (f' := S) fun t ht => ⟨h.1 t ht, fun j hj q => (h.2.1 t ht j hj q).2⟩
  refine zmax_le (zmax_0 _ _) fun t ht => ?_
  have a := le t ht
  have b := enS_ge (S := S) ht
  show eE k t + kF k 0 t ≤ _
  omega
theorem fs_rest {k : Bk} (ho : kOk k) {H : Int} {S : Nat → Int} (h : fs k H S) : ∀ t, t < kN k → S t + eR k t ≤ enS k S := by
  have e := eOk_all ho
  obtain ⟨pos, p1, p2⟩ := kPos ho
  suffices key : ∀ m t, t < kN k → kN k ≤ pos t + m → S t + eR k t ≤ enS k S from fun t ht => key (kN k) t ht (by omega)
  intro m
  induction m with
  | zero =>
    intro t ht hm
    have := p1 t ht
    omega
  | succ m ih =>
    intro t ht hm
    have d : eR k t = eEnd k - eL k t := rfl
    rcases (e.2 t ht).2.2 with q | ⟨j, hj, q1, q2⟩
    · have := enS_ge (S := S) ht
      omega
    · have a := p2 j hj
      rw [q1] at a
      have b := ih (kL k j) (ho.l hj) (by omega)
      have d2 : eR k (kL k j) = eEnd k - eL k (kL k j) := rfl
      have c := (h.2.1 (kL k j) (ho.l hj) j hj rfl).2
      unfold lateB at c
      rw [q1] at c
      omega
theorem zsum_iv {a c : Nat} (h : a ≤ c) : ∀ E : Nat, zsum (fun x => ci ((a : Int) ≤ (x : Int) ∧ (x : Int) < (c : Int))) E = (min E c : Nat) - (min E a : Nat) := by
  intro E
  induction E with
  | zero =>
    show (0 : Int) = _
    omega
  | succ E ih =>
    rw [zsum_s, ih]
    by_cases q : (a : Int) ≤ (E : Int) ∧ (E : Int) < (c : Int)
    · rw [ci_p q]
      omega
    · rw [ci_f q]
      omega
theorem zsum_iv2 {a l : Int} {E : Nat} (h0 : 0 ≤ a) (hl : 0 ≤ l) : zsum (fun x => ci (a ≤ (x : Int) ∧ (x : Int) < a + l)) E ≤ l ∧ (a + l ≤ E → zsum (fun x => ci (a ≤ (x : Int) ∧ (x : Int) < a + l)) E = l) := by
  have := zsum_iv (a := a.toNat) (c := (a + l).toNat) (by omega) E
  rw [show ((a.toNat : Nat) : Int) = a by omega, show (((a + l).toNat : Nat) : Int) = a + l by omega] at this
  rw [this]
  omega
theorem fs_work {k : Bk} (ho : kOk k) {H : Int} {S : Nat → Int} (h : fs k H S) (hH : 0 ≤ H) : zsum (kF k 0) (kN k) ≤ H * enS k S := by
  have h0 : 0 ≤ enS k S := zmax_0 _ _
  obtain ⟨E, hE⟩ : ∃ E : Nat, enS k S = (E : Int) := ⟨(enS k S).toNat, by omega⟩
  have a : zsum (kF k 0) (kN k) = zsum (fun t => zsum (fun x => ci (wk0 k S t (x : Int))) E) (kN k) := zsum_eq fun t ht => by
    have g := h.1 t ht
    have l := ho.len ht
    have e := enS_ge (S := S) ht
    rw [← (zsum_iv2 (a := S t) (l := kF k 0 t) (E := E) g (by omega)).2 (by omega)]
    exact zsum_eq fun x _ => ci_iff ⟨fun q => ⟨by omega, q.1, q.2⟩, fun q => q.2⟩
  rw [a, zsum_swap, hE]
  have b := zsum_le (f := fun x : Nat => zsum (fun t => ci (wk0 k S t (x : Int))) (kN k)) (g := fun _ => H) (n := E) fun x _ => h.2.2 (x : Int) (by omega)
  have c : ∀ E : Nat, zsum (fun _ => H) E = H * (E : Int) := fun E => by
    induction E with
    | zero => exact (Int.mul_zero H).symm
    | succ E ih =>
      rw [zsum_s, ih, show ((E + 1 : Nat) : Int) = (E : Int) + 1 by omega, Int.mul_add, Int.mul_one]
  rw [c] at b
  exact b
theorem fs_bound {k : Bk} (ho : kOk k) {H : Int} {S : Nat → Int} (h : fs k H S) (hH : 1 ≤ H ∧ H ≤ 4) : max (eEnd k) ((zsum (kF k 0) (kN k) + H - 1) / H) ≤ enS k S := by
  have a := fs_end ho h
  have b := fs_work ho h (by omega)
  have c : H = 1 ∨ H = 2 ∨ H = 3 ∨ H = 4 := by omega
  have h0 : 0 ≤ enS k S := zmax_0 _ _
  generalize zsum (kF k 0) (kN k) = s at *
  generalize enS k S = e at *
  rcases c with rfl | rfl | rfl | rfl
  · omega
  · omega
  · omega
  · omega
/-- without waiting, the end is not late -/
theorem ndl_bound {k : Bk} (ho : kOk k) {H : Int} {S : Nat → Int} (h : fs k H S) (hn : ndl k H S) (hH : 1 ≤ H) : enS k S ≤ zsum (kF k 0) (kN k) + 30 * (kN k : Int) := by
  have h0 : 0 ≤ enS k S := zmax_0 _ _
  obtain ⟨E, hE⟩ : ∃ E : Nat, enS k S = (E : Int) := ⟨(enS k S).toNat, by omega⟩
  obtain ⟨pos, p1, p2⟩ := kPos ho
  have cov : ∀ x : Nat, x < E → ∃ t, t < kN k ∧ S t ≤ (x : Int) ∧ (x : Int) < S t + (kF k 0 t + 30) := fun x hx => by
    by_cases c : ∃ t, t < kN k ∧ wk0 k S t (x : Int)
    · obtain ⟨t, ht, w1, w2, w3⟩ := c
      exact ⟨t, ht, w2, by omega⟩
    · have z : cntP k S (x : Int) = 0 := by
        unfold cntP
        rw [zsum_eq (g := fun _ => 0) fun t ht => ci_f fun q => c ⟨t, ht, q⟩, zsum_0]
      -- some task begins behind x
      have late : ∃ t, t < kN k ∧ (x : Int) < S t := by
        refine Classical.byContradiction fun g => ?_
        have : enS k S ≤ (x : Int) := zmax_le (by omega) fun t ht => by
          have g1 := h.1 t ht
          refine Int.not_lt.mp fun g2 => c ⟨t, ht, by omega, ?_, g2⟩
          exact Int.not_lt.mp fun g3 => g ⟨t, ht, g3⟩
        omega
      have mn : ∀ m t, pos t < m → t < kN k → (x : Int) < S t → ∃ t, t < kN k ∧ (x : Int) < S t ∧ ∀ j, j < kM k → kL k j = t → S (kE k j) ≤ (x : Int) := by
        intro m
        induction m with
        | zero => exact fun t ht => absurd ht (Nat.not_lt_zero _)
        | succ m ih =>
          intro t hp ht hl
          by_cases d : ∃ j, j < kM k ∧ kL k j = t ∧ (x : Int) < S (kE k j)
          · obtain ⟨j, j1, j2, j3⟩ := d
            have := p2 j j1
            rw [j2] at this
            exact ih _ (by omega) (ho.e j1) j3
          · exact ⟨t, ht, hl, fun j hj e => Int.not_lt.mp fun q => d ⟨j, hj, e, q⟩⟩
      obtain ⟨t, ht, hl⟩ := late
      obtain ⟨t, ht, hl, hp⟩ := mn _ t (Nat.lt_succ_self _) ht hl
      have nl : ¬ letQ k S t (x : Int) := fun q => by
        have := hn t (x : Int) ht (by omega) hl q
        omega
      have : ∃ j, j < kM k ∧ kL k j = t ∧ (x : Int) < lateB k S j := Classical.byContradiction fun g => nl fun j hj e => ⟨by have := h.1 _ (ho.e hj); omega, Int.not_lt.mp fun q => g ⟨j, hj, e, q⟩⟩
      obtain ⟨j, j1, j2, j3⟩ := this
      have hg := ho.g j1
      have hs := hp j j1 j2
      have b := h.1 _ (ho.e j1)
      refine ⟨kE k j, ho.e j1, hs, ?_⟩
      unfold lateB at j3
      omega
  have a : (E : Int) ≤ zsum (fun x : Nat => zsum (fun t => ci (S t ≤ (x : Int) ∧ (x : Int) < S t + (kF k 0 t + 30))) (kN k)) E := by
    rw [← zsum_1 E]
    refine zsum_le fun x hx => ?_
    obtain ⟨t, ht, q⟩ := cov x hx
    exact zsum_ci_e (Q := fun t => S t ≤ (x : Int) ∧ (x : Int) < S t + (kF k 0 t + 30)) ht q
  rw [zsum_swap] at a
  have b : zsum (fun t => zsum (fun x : Nat => ci (S t ≤ (x : Int) ∧ (x : Int) < S t + (kF k 0 t + 30))) E) (kN k) ≤ zsum (fun t => kF k 0 t + 30) (kN k) := zsum_le fun t ht => (zsum_iv2 (h.1 t ht) (by have := ho.len ht; omega)).1
  have c : ∀ n : Nat, zsum (fun t => kF k 0 t + 30) n = zsum (kF k 0) n + 30 * (n : Int) := fun n => by
    induction n with
    | zero => rfl
    | succ n ih =>
      rw [zsum_s, ih, zsum_s]
      omega
  rw [c] at b
  omega
