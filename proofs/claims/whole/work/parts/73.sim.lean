/-! ===== as hands are free: hour by hour ===== -/
/-- the book; a need that is left out, or -1; lengths; the skill that counts; the hands of each skill; machines -/
abbrev Sp : Type := Bk × Int × (Nat → Int) × (Nat → Nat) × (Nat → Int) × (Nat → Int)
def pK (P : Sp) : Bk := P.1
def pX (P : Sp) : Int := P.2.1
def pD (P : Sp) : Nat → Int := P.2.2.1
def pS (P : Sp) : Nat → Nat := P.2.2.2.1
def pH (P : Sp) : Nat → Int := P.2.2.2.2.1
def pM (P : Sp) : Nat → Int := P.2.2.2.2.2
/-- begins, -1 while it has not begun; hands -/
abbrev Ss : Type := (Nat → Int) × (Nat → Int)
def okP (P : Sp) : Prop := kOk (pK P) ∧ (∀ t, t < kN (pK P) → 1 ≤ pD P t ∧ pD P t ≤ 60) ∧ (∀ t, t < kN (pK P) → 1 ≤ pH P (pS P t) ∧ pH P (pS P t) ≤ 6) ∧ ∀ t, t < kN (pK P) → -1 ≤ pM P t ∧ pM P t ≤ 9999
def nd (P : Sp) (j t : Nat) : Prop := kL (pK P) j = t ∧ (j : Int) ≠ pX P
def ltB (P : Sp) (b : Nat → Int) (j : Nat) : Int := b (kE (pK P) j) + pD P (kE (pK P) j) + kG (pK P) j
/-- the let of a task, by the first n needs; -1 if one of those that it needs has not begun -/
noncomputable def ltF (P : Sp) (b : Nat → Int) (t : Nat) : Nat → Int
  | 0 => 0
  | n + 1 => cIf (nd P n t) (if ltF P b t n = -1 then -1 else if b (kE (pK P) n) = -1 then -1 else max (ltF P b t n) (ltB P b n)) (ltF P b t n)
noncomputable def ltA (P : Sp) (b : Nat → Int) (t : Nat) : Int := ltF P b t (kM (pK P))
def isL (P : Sp) (b : Nat → Int) (t n : Nat) (L : Int) : Prop := (L = -1 ∧ ∃ j, j < n ∧ nd P j t ∧ b (kE (pK P) j) = -1) ∨ (0 ≤ L ∧ (∀ j, j < n → nd P j t → b (kE (pK P) j) ≠ -1 ∧ ltB P b j ≤ L) ∧ (L = 0 ∨ ∃ j, j < n ∧ nd P j t ∧ L = ltB P b j))
theorem ltF_is (P : Sp) (b : Nat → Int) (t : Nat) : ∀ n, isL P b t n (ltF P b t n) := by
  intro n
  induction n with
  | zero => exact Or.inr ⟨Int.le_refl _, fun j hj => absurd hj (Nat.not_lt_zero _), Or.inl rfl⟩
  | succ n ih =>
    show isL P b t (n + 1) (cIf (nd P n t) (if ltF P b t n = -1 then -1 else if b (kE (pK P) n) = -1 then -1 else max (ltF P b t n) (ltB P b n)) (ltF P b t n))
    generalize ltF P b t n = L at ih ⊢
    by_cases c : nd P n t
    · rw [cIf_p c]
      rcases ih with ⟨h1, j, h2, h3, h4⟩ | ⟨h1, h2, h3⟩
      · rw [if_pos h1]
        exact Or.inl ⟨rfl, j, by omega, h3, h4⟩
      · rw [if_neg (show ¬ L = -1 by omega)]
        by_cases d : b (kE (pK P) n) = -1
        · rw [if_pos d]
          exact Or.inl ⟨rfl, n, by omega, c, d⟩
        · rw [if_neg d]
          refine Or.inr ⟨by omega, fun j hj e => ?_, ?_⟩
          · by_cases g : j = n
            · rw [g]
              exact ⟨d, by omega⟩
            · have := h2 j (by omega) e
              exact ⟨this.1, by omega⟩
          · by_cases g : L ≤ ltB P b n
            · exact Or.inr ⟨n, by omega, c, by omega⟩
            · rcases h3 with h3 | ⟨j, j1, j2, j3⟩
              · exact Or.inl (by omega)
              · exact Or.inr ⟨j, by omega, j2, by omega⟩
    · rw [cIf_f c]
      have q : ∀ j, j < n + 1 → nd P j t → j < n := fun j hj e => by
        by_cases g : j = n
        · rw [g] at e
          exact absurd e c
        · omega
      rcases ih with ⟨h1, j, h2, h3, h4⟩ | ⟨h1, h2, h3⟩
      · exact Or.inl ⟨h1, j, by omega, h3, h4⟩
      · refine Or.inr ⟨h1, fun j hj e => h2 j (q j hj e) e, ?_⟩
        rcases h3 with h3 | ⟨j, j1, j2, j3⟩
        · exact Or.inl h3
        · exact Or.inr ⟨j, by omega, j2, j3⟩
/-- all that it needs have begun, and let it begin at x -/
def letA (P : Sp) (b : Nat → Int) (t : Nat) (x : Int) : Prop := ∀ j, j < kM (pK P) → nd P j t → b (kE (pK P) j) ≠ -1 ∧ ltB P b j ≤ x
theorem ltA_let {P : Sp} {b : Nat → Int} {t : Nat} {x : Int} (hx : 0 ≤ x) : (ltA P b t ≠ -1 ∧ ltA P b t ≤ x) ↔ letA P b t x := by
  have h := ltF_is P b t (kM (pK P))
  unfold ltA
  constructor
  · rintro ⟨h1, h2⟩ j hj e
    rcases h with ⟨g, -⟩ | ⟨g1, g2, -⟩
    · exact absurd g h1
    · have := g2 j hj e
      exact ⟨this.1, by omega⟩
  · intro l
    rcases h with ⟨g, j, j1, j2, j3⟩ | ⟨g1, g2, g3⟩
    · exact absurd j3 (l j j1 j2).1
    · refine ⟨by omega, ?_⟩
      rcases g3 with g3 | ⟨j, j1, j2, j3⟩
      · omega
      · have := (l j j1 j2).2
        omega
def wkS (P : Sp) (s : Ss) (u : Nat) (x : Int) : Prop := s.1 u ≠ -1 ∧ s.1 u ≤ x ∧ x < s.1 u + pD P u
/-- it works in some of the hours from x on, ahead of y -/
def mts (P : Sp) (s : Ss) (u : Nat) (x y : Int) : Prop := s.1 u ≠ -1 ∧ s.1 u < y ∧ x < s.1 u + pD P u
def fhd (P : Sp) (s : Ss) (c : Nat) (x y : Int) (h : Int) : Prop := ∀ u, u < kN (pK P) → ¬ (mts P s u x y ∧ s.2 u = h ∧ pS P u = c)
def fmc (P : Sp) (s : Ss) (m : Int) (x y : Int) : Prop := m = -1 ∨ ∀ u, u < kN (pK P) → ¬ (pM P u = m ∧ mts P s u x y)
noncomputable def hdR (P : Sp) (s : Ss) (c : Nat) (x y : Int) : Nat → Nat → Int
  | 0, _ => -1
  | f + 1, h => cIf (fhd P s c x y (h : Int)) (h : Int) (hdR P s c x y f (h + 1))
noncomputable def hdF (P : Sp) (s : Ss) (c : Nat) (x y : Int) : Int := hdR P s c x y (pH P c).toNat 0
theorem hdR_is (P : Sp) (s : Ss) (c : Nat) (x y : Int) : ∀ f h, (hdR P s c x y f h = -1 ∧ ∀ i : Nat, h ≤ i → i < h + f → ¬ fhd P s c x y (i : Int)) ∨ ∃ i : Nat, h ≤ i ∧ i < h + f ∧ hdR P s c x y f h = (i : Int) ∧ fhd P s c x y (i : Int) ∧ ∀ i' : Nat, h ≤ i' → i' < i → ¬ fhd P s c x y (i' : Int) := by
  intro f
  induction f with
  | zero => exact fun h => Or.inl ⟨rfl, fun i h1 h2 => by omega⟩
  | succ f ih =>
    intro h
    show (cIf (fhd P s c x y (h : Int)) (h : Int) (hdR P s c x y f (h + 1)) = -1 ∧ _) ∨ ∃ i : Nat, h ≤ i ∧ i < h + (f + 1) ∧ cIf (fhd P s c x y (h : Int)) (h : Int) (hdR P s c x y f (h + 1)) = (i : Int) ∧ _
    by_cases d : fhd P s c x y (h : Int)
    · rw [cIf_p d]
      exact Or.inr ⟨h, Nat.le_refl _, by omega, rfl, d, fun i' h1 h2 => by omega⟩
    · rw [cIf_f d]
      have cs : ∀ i : Nat, h ≤ i → ¬ (h + 1 ≤ i) → ¬ fhd P s c x y (i : Int) := fun i h1 h2 => by
        rw [show i = h by omega]
        exact d
      rcases ih (h + 1) with ⟨h1, h2⟩ | ⟨i, i1, i2, i3, i4, i5⟩
      · refine Or.inl ⟨h1, fun i g1 g2 => ?_⟩
        by_cases e : h + 1 ≤ i
        · exact h2 i e (by omega)
        · exact cs i g1 e
      · refine Or.inr ⟨i, by omega, by omega, i3, i4, fun i' g1 g2 => ?_⟩
        by_cases e : h + 1 ≤ i'
        · exact i5 i' e g2
        · exact cs i' g1 e
theorem hdF_no {P : Sp} {s : Ss} {c : Nat} {x y : Int} (h : hdF P s c x y = -1) : ∀ i : Int, 0 ≤ i → i < pH P c → ¬ fhd P s c x y i := fun i i1 i2 => by
  rcases hdR_is P s c x y (pH P c).toNat 0 with ⟨-, h2⟩ | ⟨j, -, -, j3, -⟩
  · have := h2 i.toNat (Nat.zero_le _) (by omega)
    rw [show (i.toNat : Int) = i by omega] at this
    exact this
  · have e : hdF P s c x y = (j : Int) := j3
    omega
theorem hdF_yes {P : Sp} {s : Ss} {c : Nat} {x y : Int} (h : hdF P s c x y ≠ -1) : 0 ≤ hdF P s c x y ∧ hdF P s c x y < pH P c ∧ fhd P s c x y (hdF P s c x y) := by
  rcases hdR_is P s c x y (pH P c).toNat 0 with ⟨h1, -⟩ | ⟨j, j1, j2, j3, j4, -⟩
  · exact absurd h1 h
  · have e : hdF P s c x y = (j : Int) := j3
    rw [e]
    exact ⟨by omega, by omega, j4⟩
/-- whether it begins at x -/
def goes (P : Sp) (x : Int) (t : Nat) (s : Ss) : Prop := s.1 t = -1 ∧ letA P s.1 t x ∧ hdF P s (pS P t) x (x + 1) ≠ -1 ∧ fmc P s (pM P t) x (x + 1)
noncomputable def stF (P : Sp) (x : Int) (t : Nat) (s : Ss) : Ss := cIf (goes P x t s) (zu s.1 t x, zu s.2 t (hdF P s (pS P t) x (x + 1))) s
noncomputable def psF (P : Sp) (L : Nat → Nat) (x : Int) (s : Ss) : Nat → Ss
  | 0 => s
  | v + 1 => stF P x (L v) (psF P L x s v)
noncomputable def simF (P : Sp) (L : Nat → Nat) : Nat → Ss
  | 0 => (fun _ => -1, fun _ => -1)
  | x + 1 => psF P L (x : Int) (simF P L x) (kN (pK P))
/-- no hand of its skill, or not its machine, is free at x -/
def blk (P : Sp) (s : Ss) (x : Int) (t : Nat) : Prop := (∀ h : Int, 0 ≤ h → h < pH P (pS P t) → ∃ u, u < kN (pK P) ∧ pS P u = pS P t ∧ s.2 u = h ∧ wkS P s u x) ∨ (0 ≤ pM P t ∧ ∃ u, u < kN (pK P) ∧ pM P u = pM P t ∧ wkS P s u x)
/-- s' has begun what s has, in the same way -/
def mor (P : Sp) (s s' : Ss) : Prop := ∀ u, u < kN (pK P) → s.1 u ≠ -1 → s'.1 u = s.1 u ∧ s'.2 u = s.2 u
theorem mor.rfl (P : Sp) (s : Ss) : mor P s s := fun _ _ _ => ⟨_root_.rfl, _root_.rfl⟩
theorem mor.tr {P : Sp} {s s' s'' : Ss} (h : mor P s s') (h' : mor P s' s'') : mor P s s'' := fun u hu g => by
  obtain ⟨a, b⟩ := h u hu g
  obtain ⟨c, d⟩ := h' u hu (by rw [a]; exact g)
  exact ⟨c.trans a, d.trans b⟩
theorem mor.wk {P : Sp} {s s' : Ss} (h : mor P s s') {u : Nat} (hu : u < kN (pK P)) {x : Int} (w : wkS P s u x) : wkS P s' u x := by
  unfold wkS at *
  rw [(h u hu w.1).1]
  exact w
theorem mor.blk {P : Sp} {s s' : Ss} (h : mor P s s') {x : Int} {t : Nat} (b : blk P s x t) : blk P s' x t := by
  rcases b with b | ⟨b1, u, b2, b3, b4⟩
  · refine Or.inl fun i i1 i2 => ?_
    obtain ⟨u, u1, u2, u3, u4⟩ := b i i1 i2
    exact ⟨u, u1, u2, (h u u1 u4.1).2.trans u3, h.wk u1 u4⟩
  · exact Or.inr ⟨b1, u, b2, b3, h.wk b2 b4⟩
theorem stF_mor (P : Sp) (x : Int) (t : Nat) (s : Ss) : mor P s (stF P x t s) := fun u hu g => by
  unfold stF
  by_cases c : goes P x t s
  · rw [cIf_p c]
    have ne : u ≠ t := fun e => by
      rw [e] at g
      exact g c.1
    exact ⟨zu_other ne, zu_other ne⟩
  · rw [cIf_f c]
    exact ⟨rfl, rfl⟩
theorem psF_mor (P : Sp) (L : Nat → Nat) (x : Int) (s : Ss) : ∀ v, mor P s (psF P L x s v) := by
  intro v
  induction v with
  | zero => exact mor.rfl P s
  | succ v ih => exact ih.tr (stF_mor P x _ _)
theorem simF_mor (P : Sp) (L : Nat → Nat) (x : Nat) : ∀ m, mor P (simF P L x) (simF P L (x + m)) := by
  intro m
  induction m with
  | zero => exact mor.rfl P _
  | succ m ih => exact ih.tr (psF_mor P L _ _ _)
/-- what holds while the hour x is gone through -/
def wfS (P : Sp) (x : Int) (s : Ss) : Prop := (∀ t, t < kN (pK P) → s.1 t = -1 ∨ (0 ≤ s.1 t ∧ s.1 t ≤ x)) ∧ (∀ t, t < kN (pK P) → s.1 t ≠ -1 → letA P s.1 t (s.1 t) ∧ 0 ≤ s.2 t ∧ s.2 t < pH P (pS P t)) ∧ (∀ t u y, t < kN (pK P) → u < kN (pK P) → t ≠ u → wkS P s t y → wkS P s u y → (pS P t = pS P u → s.2 t ≠ s.2 u) ∧ (0 ≤ pM P t → pM P t ≠ pM P u))
def grd (P : Sp) (s : Ss) (y : Int) (t : Nat) : Prop := (s.1 t = -1 ∨ y < s.1 t) → letA P s.1 t y → blk P s y t
theorem letA.mo {P : Sp} (hP : okP P) {s s' : Ss} (h : mor P s s') {t : Nat} {y : Int} (l : letA P s.1 t y) : letA P s'.1 t y := fun j hj e => by
  obtain ⟨a, b⟩ := l j hj e
  have e' := (h _ (hP.1.e hj) a).1
  unfold ltB at *
  rw [e']
  exact ⟨a, b⟩
theorem stF_wf {P : Sp} (hP : okP P) {x : Int} (hx : 0 ≤ x) {t : Nat} (ht : t < kN (pK P)) {s : Ss} (h : wfS P x s) : wfS P x (stF P x t s) := by
  have mo := stF_mor P x t s
  unfold stF at mo ⊢
  by_cases c : goes P x t s
  · rw [cIf_p c] at mo ⊢
    obtain ⟨h1, h2, h3⟩ := h
    obtain ⟨c1, c2, c3, c4⟩ := c
    obtain ⟨d1, d2, d3⟩ := hdF_yes c3
    generalize hdF P s (pS P t) x (x + 1) = h at *
    have cs : ∀ u, u ≠ t → zu s.1 t x u = s.1 u ∧ zu s.2 t h u = s.2 u := fun u e => ⟨zu_other e, zu_other e⟩
    have wo : ∀ u y, u ≠ t → wkS P (zu s.1 t x, zu s.2 t h) u y → wkS P s u y := fun u y e w => by
      unfold wkS at *
      rw [show (zu s.1 t x, zu s.2 t h).1 u = s.1 u from (cs u e).1] at w
      exact w
    have new : ∀ u y, u < kN (pK P) → u ≠ t → wkS P (zu s.1 t x, zu s.2 t h) t y → wkS P (zu s.1 t x, zu s.2 t h) u y → (pS P t = pS P u → h ≠ s.2 u) ∧ (0 ≤ pM P t → pM P t ≠ pM P u) := fun u y hu e w1 w2 => by
      have w3 := wo u y e w2
      have w4 : x ≤ y := by
        have := w1.2.1
        rw [show (zu s.1 t x, zu s.2 t h).1 t = x from zu_same _ _ _] at this
        exact this
      have bu := h1 u hu
      have mt : mts P s u x (x + 1) := ⟨w3.1, by have := w3.1; omega, by have := w3.2.2; omega⟩
      refine ⟨fun q1 q2 => d3 u hu ⟨mt, q2.symm, q1.symm⟩, fun q1 q2 => ?_⟩
      rcases c4 with c4 | c4
      · omega
      · exact c4 u hu ⟨q2.symm, mt⟩
    refine ⟨fun u hu => ?_, fun u hu g => ?_, fun u v y hu hv huv w1 w2 => ?_⟩
    · by_cases e : u = t
      · rw [e]
        exact Or.inr (by show 0 ≤ zu s.1 t x t ∧ zu s.1 t x t ≤ x; rw [zu_same]; omega)
      · show zu s.1 t x u = -1 ∨ (0 ≤ zu s.1 t x u ∧ zu s.1 t x u ≤ x)
        rw [zu_other e]
        exact h1 u hu
    · by_cases e : u = t
      · rw [e]
        show letA P (zu s.1 t x) t (zu s.1 t x t) ∧ 0 ≤ zu s.2 t h t ∧ zu s.2 t h t < pH P (pS P t)
        rw [zu_same, zu_same]
        exact ⟨letA.mo hP (s' := (zu s.1 t x, zu s.2 t h)) mo c2, d1, d2⟩
      · have g' : s.1 u ≠ -1 := by
          rw [show (zu s.1 t x, zu s.2 t h).1 u = s.1 u from (cs u e).1] at g
          exact g
        obtain ⟨a, b⟩ := h2 u hu g'
        show letA P (zu s.1 t x) u (zu s.1 t x u) ∧ 0 ≤ zu s.2 t h u ∧ zu s.2 t h u < pH P (pS P u)
        rw [(cs u e).1, (cs u e).2]
        exact ⟨letA.mo hP (s' := (zu s.1 t x, zu s.2 t h)) mo a, b⟩
    · show (pS P u = pS P v → zu s.2 t h u ≠ zu s.2 t h v) ∧ (0 ≤ pM P u → pM P u ≠ pM P v)
      by_cases e : u = t
      · have e2 : v ≠ t := fun q => huv (e.trans q.symm)
        rw [e] at w1 ⊢
        rw [zu_same, (cs v e2).2]
        exact new v y hv e2 w1 w2
      · by_cases e2 : v = t
        · rw [e2] at w2 ⊢
          rw [zu_same, (cs u e).2]
          obtain ⟨a, b⟩ := new u y hu e w2 w1
          refine ⟨fun q1 q2 => a q1.symm q2.symm, fun q1 q2 => b (by omega) q2.symm⟩
        · rw [(cs u e).2, (cs v e2).2]
          exact h3 u v y hu hv huv (wo u y e w1) (wo v y e2 w2)
  · rw [cIf_f c]
    exact h
