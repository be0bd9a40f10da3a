/-! ===== rows in all orders: the next one ===== -/
def pm (N : Nat) (base f : Nat → Nat) : Prop := (∀ i, i < N → ∃ j, j < N ∧ f i = base j) ∧ ∀ i j, i < N → j < N → f i = f j → i = j
def lxl (N : Nat) (p q : Nat → Nat) : Prop := (∀ i, i < N → p i = q i) ∨ ∃ i, i < N ∧ (∀ j, j < i → p j = q j) ∧ p i < q i
theorem pm.sur {N : Nat} {base f : Nat → Nat} (h : pm N base f) {j : Nat} (hj : j < N) : ∃ i, i < N ∧ f i = base j := by
  refine Classical.byContradiction fun g => ?_
  have cd : ∀ i, ∃ c, i < N → c < N ∧ f i = base c := fun i => by
    by_cases hi : i < N
    · obtain ⟨c, c1, c2⟩ := h.1 i hi
      exact ⟨c, fun _ => ⟨c1, c2⟩⟩
    · exact ⟨0, fun q => absurd q hi⟩
  obtain ⟨c, hc⟩ := Classical.axiomOfChoice cd
  have := pig_miss (f := c) (N := N) (a := N) (y := j) (fun q hq => (hc q hq).1) (fun q q' hq hq' e => by
    refine h.2 q q' hq hq' ?_
    rw [(hc q hq).2, (hc q' hq').2, e]) hj fun q hq e => g ⟨q, hq, by rw [(hc q hq).2, e]⟩
  omega
theorem pm.rem {N : Nat} {base p q : Nat → Nat} (hp : pm N base p) (hq : pm N base q) {i : Nat} (he : ∀ j, j < i → p j = q j) {a : Nat} (ha : i ≤ a) (haN : a < N) : ∃ c, i ≤ c ∧ c < N ∧ q a = p c := by
  obtain ⟨j, hj, e⟩ := hq.1 a haN
  obtain ⟨c, hc, e2⟩ := hp.sur hj
  refine ⟨c, ?_, hc, e.trans e2.symm⟩
  refine Nat.le_of_not_lt fun g => ?_
  have e3 := hq.2 c a (by omega) haN (by rw [← he c g, e2, e])
  omega
theorem fdiff (p q : Nat → Nat) : ∀ N, (∀ i, i < N → p i = q i) ∨ ∃ i, i < N ∧ (∀ j, j < i → p j = q j) ∧ p i ≠ q i := by
  intro N
  induction N with
  | zero => exact Or.inl fun i hi => absurd hi (Nat.not_lt_zero _)
  | succ N ih =>
    rcases ih with h | ⟨i, h1, h2, h3⟩
    · by_cases e : p N = q N
      · refine Or.inl fun i hi => ?_
        by_cases g : i = N
        · rw [g]
          exact e
        · exact h i (by omega)
      · exact Or.inr ⟨N, by omega, h, e⟩
    · exact Or.inr ⟨i, by omega, h2, h3⟩
theorem desc_ge {p : Nat → Nat} {lo N : Nat} (hd : ∀ i, lo ≤ i → i + 1 < N → p (i + 1) < p i) : ∀ m i, lo ≤ i → i + m < N → p (i + m) ≤ p i := by
  intro m
  induction m with
  | zero => exact fun i _ _ => Nat.le_refl _
  | succ m ih =>
    intro i hi hm
    have a := ih i hi (by omega)
    have b := hd (i + m) (by omega) (by omega)
    rw [show i + (m + 1) = i + m + 1 by omega]
    omega
theorem lx_max {N : Nat} {base p : Nat → Nat} (hp : pm N base p) (hd : ∀ i, i + 1 < N → p (i + 1) < p i) {q : Nat → Nat} (hq : pm N base q) : lxl N q p := by
  rcases fdiff p q N with h | ⟨i, h1, h2, h3⟩
  · exact Or.inl fun i hi => (h i hi).symm
  · by_cases c : q i < p i
    · exact Or.inr ⟨i, h1, fun j hj => (h2 j hj).symm, c⟩
    · obtain ⟨d, d1, d2, d3⟩ := hp.rem hq h2 (Nat.le_refl i) h1
      have := desc_ge (lo := 0) (fun i _ g => hd i g) (d - i) i (Nat.zero_le _) (by omega)
      rw [show i + (d - i) = d by omega] at this
      omega
/-- the places of the next row: pl the place that grows, ot where its number comes from -/
def tau (N pl ot i : Nat) : Nat := if i < pl then i else if i = pl then ot else if pl + N - i = ot then pl else pl + N - i
def isNxt (N : Nat) (p : Nat → Nat) (pl ot : Nat) : Prop := pl + 1 < N ∧ p pl < p (pl + 1) ∧ (∀ i, pl + 1 ≤ i → i + 1 < N → p (i + 1) < p i) ∧ pl < ot ∧ ot < N ∧ p pl < p ot ∧ ∀ i, ot < i → i < N → p i < p pl
theorem tau_lt {N pl ot i : Nat} (h1 : pl < ot) (h2 : ot < N) (hi : i < N) : tau N pl ot i < N := by
  unfold tau
  split
  · omega
  · split
    · omega
    · split <;> omega
theorem tau_inj {N pl ot i j : Nat} (h1 : pl < ot) (h2 : ot < N) (hi : i < N) (hj : j < N) (e : tau N pl ot i = tau N pl ot j) : i = j := by
  unfold tau at e
  by_cases a1 : i < pl
  · rw [if_pos a1] at e
    by_cases b1 : j < pl
    · rw [if_pos b1] at e
      exact e
    · rw [if_neg b1] at e
      by_cases b2 : j = pl
      · rw [if_pos b2] at e
        omega
      · rw [if_neg b2] at e
        by_cases b3 : pl + N - j = ot
        · rw [if_pos b3] at e
          omega
        · rw [if_neg b3] at e
          omega
  · rw [if_neg a1] at e
    by_cases a2 : i = pl
    · rw [if_pos a2] at e
      by_cases b1 : j < pl
      · rw [if_pos b1] at e
        omega
      · rw [if_neg b1] at e
        by_cases b2 : j = pl
        · omega
        · rw [if_neg b2] at e
          by_cases b3 : pl + N - j = ot
          · rw [if_pos b3] at e
            omega
          · rw [if_neg b3] at e
            omega
    · rw [if_neg a2] at e
      by_cases a3 : pl + N - i = ot
      · rw [if_pos a3] at e
        by_cases b1 : j < pl
        · rw [if_pos b1] at e
          omega
        · rw [if_neg b1] at e
          by_cases b2 : j = pl
          · rw [if_pos b2] at e
            omega
          · rw [if_neg b2] at e
            by_cases b3 : pl + N - j = ot
            · omega
            · rw [if_neg b3] at e
              omega
      · rw [if_neg a3] at e
        by_cases b1 : j < pl
        · rw [if_pos b1] at e
          omega
        · rw [if_neg b1] at e
          by_cases b2 : j = pl
          · rw [if_pos b2] at e
            omega
          · rw [if_neg b2] at e
            by_cases b3 : pl + N - j = ot
            · rw [if_pos b3] at e
              omega
            · rw [if_neg b3] at e
              omega
theorem pm.nx {N : Nat} {base p : Nat → Nat} (hp : pm N base p) {pl ot : Nat} (h1 : pl < ot) (h2 : ot < N) : pm N base (fun i => p (tau N pl ot i)) :=
  ⟨fun i hi => hp.1 _ (tau_lt h1 h2 hi), fun i j hi hj e => tau_inj h1 h2 hi hj (hp.2 _ _ (tau_lt h1 h2 hi) (tau_lt h1 h2 hj) e)⟩
theorem tau_hi {N pl ot i : Nat} (h : pl < i) : tau N pl ot i = if pl + N - i = ot then pl else pl + N - i := by
  unfold tau
  rw [if_neg (show ¬ i < pl by omega), if_neg (show ¬ i = pl by omega)]
theorem isNxt.asc {N : Nat} {base p : Nat → Nat} (hp : pm N base p) {pl ot : Nat} (h : isNxt N p pl ot) : ∀ i, pl < i → i + 1 < N → p (tau N pl ot i) < p (tau N pl ot (i + 1)) := by
  obtain ⟨a1, a2, a3, a4, a5, a6, a7⟩ := h
  intro i hi hi1
  rw [tau_hi hi, tau_hi (show pl < i + 1 by omega)]
  by_cases c : pl + N - i = ot
  · rw [if_pos c, if_neg (show ¬ pl + N - (i + 1) = ot by omega)]
    have b := desc_ge (lo := pl + 1) a3 1 (pl + N - (i + 1)) (by omega) (by omega)
    rw [show pl + N - (i + 1) + 1 = ot by omega] at b
    omega
  · rw [if_neg c]
    by_cases d : pl + N - (i + 1) = ot
    · rw [if_pos d]
      exact a7 _ (by omega) (by omega)
    · rw [if_neg d]
      have := a3 (pl + N - (i + 1)) (by omega) (by omega)
      rw [show pl + N - (i + 1) + 1 = pl + N - i by omega] at this
      exact this
theorem asc_ge {p : Nat → Nat} {lo N : Nat} (hd : ∀ i, lo ≤ i → i + 1 < N → p i < p (i + 1)) : ∀ m i, lo ≤ i → i + m < N → p i ≤ p (i + m) := by
  intro m
  induction m with
  | zero => exact fun i _ _ => Nat.le_refl _
  | succ m ih =>
    intro i hi hm
    have a := ih i hi (by omega)
    have b := hd (i + m) (by omega) (by omega)
    rw [show i + (m + 1) = i + m + 1 by omega]
    omega
/-- no row lies between a row and the next one -/
theorem lx_nx {N : Nat} {base p : Nat → Nat} (hp : pm N base p) {pl ot : Nat} (h : isNxt N p pl ot) {q : Nat → Nat} (hq : pm N base q) : lxl N q p ∨ lxl N (fun i => p (tau N pl ot i)) q := by
  have as := h.asc hp
  have hn := hp.nx h.2.2.2.1 h.2.2.2.2.1
  obtain ⟨a1, a2, a3, a4, a5, a6, a7⟩ := h
  rcases fdiff p q N with g | ⟨i, h1, h2, h3⟩
  · exact Or.inl (Or.inl fun i hi => (g i hi).symm)
  by_cases c : q i < p i
  · exact Or.inl (Or.inr ⟨i, h1, fun j hj => (h2 j hj).symm, c⟩)
  right
  have tl : ∀ j, j < pl → tau N pl ot j = j := fun j hj => if_pos hj
  have tp : tau N pl ot pl = ot := by
    unfold tau
    rw [if_neg (Nat.lt_irrefl _), if_pos rfl]
  by_cases d : i < pl
  · refine Or.inr ⟨i, h1, fun j hj => ?_, ?_⟩
    · show p (tau N pl ot j) = q j
      rw [tl j (by omega)]
      exact h2 j hj
    · show p (tau N pl ot i) < q i
      rw [tl i d]
      omega
  obtain ⟨e, e1, e2, e3⟩ := hp.rem hq h2 (Nat.le_refl i) h1
  by_cases d2 : i = pl
  · rw [d2] at h2 e1 e3 c h3
    have h2' : ∀ j, j < pl → p (tau N pl ot j) = q j := fun j hj => by
      rw [tl j hj]
      exact h2 j hj
    -- the number there is at least that of ot
    have le : p ot ≤ q pl := by
      rw [e3]
      by_cases g : e ≤ ot
      · by_cases g2 : e = pl
        · rw [g2] at e3
          omega
        · have := desc_ge (lo := pl + 1) a3 (ot - e) e (by omega) (by omega)
          rw [show e + (ot - e) = ot by omega] at this
          exact this
      · have := a7 e (by omega) e2
        omega
    by_cases g : p ot < q pl
    · refine Or.inr ⟨pl, by omega, h2', ?_⟩
      show p (tau N pl ot pl) < q pl
      rw [tp]
      exact g
    · have eq : p (tau N pl ot pl) = q pl := by
        rw [tp]
        omega
      rcases fdiff (fun i => p (tau N pl ot i)) q N with k | ⟨k, k1, k2, k3⟩
      · exact Or.inl k
      · have kp : pl < k := by
          refine Nat.lt_of_not_le fun g2 => ?_
          by_cases g3 : k = pl
          · rw [g3] at k3
            exact k3 eq
          · exact k3 (h2' k (by omega))
        refine Or.inr ⟨k, k1, k2, ?_⟩
        show p (tau N pl ot k) < q k
        have k3 : p (tau N pl ot k) ≠ q k := k3
        obtain ⟨w, w1, w2, w3⟩ := hn.rem hq k2 (Nat.le_refl k) k1
        have w3 : q k = p (tau N pl ot w) := w3
        have := asc_ge (p := fun i => p (tau N pl ot i)) (lo := pl + 1) (fun i g1 g2 => as i (by omega) g2) (w - k) k (by omega) (by omega)
        rw [show k + (w - k) = w by omega] at this
        omega
  · have := desc_ge (lo := pl + 1) a3 (e - i) i (by omega) (by omega)
    rw [show i + (e - i) = e by omega] at this
    omega
theorem lxl.an {N : Nat} {p q : Nat → Nat} (h : lxl N p q) (h' : lxl N q p) : ∀ i, i < N → p i = q i := by
  rcases h with h | ⟨i, i1, i2, i3⟩
  · exact h
  rcases h' with h' | ⟨j, j1, j2, j3⟩
  · exact fun i hi => (h' i hi).symm
  · by_cases c : i < j
    · have := j2 i c
      omega
    · by_cases d : j < i
      · have := i2 j d
        omega
      · have e : i = j := by omega
        rw [e] at i3
        omega
theorem lx_first {N : Nat} {base : Nat → Nat} (ha : ∀ i, i + 1 < N → base i < base (i + 1)) {q : Nat → Nat} (hq : pm N base q) (h : lxl N q base) : ∀ i, i < N → q i = base i := by
  have hb : pm N base base := ⟨fun i hi => ⟨i, hi, rfl⟩, fun i j hi hj e => by
    by_cases c : i < j
    · have a := asc_ge (lo := 0) (fun i _ g => ha i g) (j - (i + 1)) (i + 1) (Nat.zero_le _) (by omega)
      have b := ha i (by omega)
      rw [show i + 1 + (j - (i + 1)) = j by omega] at a
      omega
    · by_cases d : j < i
      · have a := asc_ge (lo := 0) (fun i _ g => ha i g) (i - (j + 1)) (j + 1) (Nat.zero_le _) (by omega)
        have b := ha j (by omega)
        rw [show j + 1 + (i - (j + 1)) = i by omega] at a
        omega
      · omega⟩
  rcases h with h | ⟨i, i1, i2, i3⟩
  · exact h
  · obtain ⟨w, w1, w2, w3⟩ := hb.rem hq (fun j hj => (i2 j hj).symm) (Nat.le_refl i) i1
    have := asc_ge (lo := 0) (fun i _ g => ha i g) (w - i) i (Nat.zero_le _) (by omega)
    rw [show i + (w - i) = w by omega] at this
    omega
/-- a number that grows with the row -/
def lxv (p : Nat → Nat) : Nat → Nat
  | 0 => 0
  | n + 1 => lxv p n * 20 + p n
def lxb : Nat → Nat
  | 0 => 1
  | n + 1 => lxb n * 20
theorem lxv_b {p : Nat → Nat} : ∀ N, (∀ i, i < N → p i < 20) → lxv p N + 1 ≤ lxb N := by
  intro N
  induction N with
  | zero => exact fun _ => Nat.le_refl _
  | succ N ih =>
    intro h
    have a := ih fun i hi => h i (by omega)
    have b := h N (by omega)
    show lxv p N * 20 + p N + 1 ≤ lxb N * 20
    omega
theorem lxv_eq {p q : Nat → Nat} : ∀ N, (∀ i, i < N → p i = q i) → lxv p N = lxv q N := by
  intro N
  induction N with
  | zero => exact fun _ => rfl
  | succ N ih =>
    intro h
    show lxv p N * 20 + p N = lxv q N * 20 + q N
    rw [ih fun i hi => h i (by omega), h N (by omega)]
theorem lxv_lt {p q : Nat → Nat} {i : Nat} (h2 : ∀ j, j < i → p j = q j) (h3 : p i < q i) : ∀ m, (∀ j, j < i + 1 + m → p j < 20) → lxv p (i + 1 + m) < lxv q (i + 1 + m) := by
  intro m
  induction m with
  | zero =>
    intro _
    show lxv p i * 20 + p i < lxv q i * 20 + q i
    rw [lxv_eq i h2]
    omega
  | succ m ih =>
    intro h
    have a := ih fun j hj => h j (by omega)
    have b := h (i + 1 + m) (by omega)
    show lxv p (i + 1 + m) * 20 + p (i + 1 + m) < lxv q (i + 1 + m) * 20 + q (i + 1 + m)
    omega
theorem lxv_nx {N : Nat} {p : Nat → Nat} {pl ot : Nat} (h : isNxt N p pl ot) (hb : ∀ i, i < N → p i < 20) : lxv p N < lxv (fun i => p (tau N pl ot i)) N := by
  have := lxv_lt (p := p) (q := fun i => p (tau N pl ot i)) (i := pl) (fun j hj => by
    show p j = p (tau N pl ot j)
    unfold tau
    rw [if_pos hj]) (by
    show p pl < p (tau N pl ot pl)
    unfold tau
    rw [if_neg (Nat.lt_irrefl _), if_pos rfl]
    exact h.2.2.2.2.2.1) (N - (pl + 1)) (fun j hj => hb j (by have := h.1; omega))
  rw [show pl + 1 + (N - (pl + 1)) = N by have := h.1; omega] at this
  exact this
