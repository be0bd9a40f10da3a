/-- a need more -/
def kPut (k : Bk) (x y : Nat) (z : Int) : Bk := (kN k, kM k + 1, kF k, fun j => if j = kM k then x else kE k j, fun j => if j = kM k then y else kL k j, fun j => if j = kM k then z else kG k j)
theorem s_addNeed {G : Gx} {Z : Zm} {b : Nat} {k : Bk} {x y : Nat} {z : Int} (hb : atBook Z b) (hk : cB Z b k) (hm : kM k < 50) : ZM G 0 m_X0_addNeed [.ref b, iv (x : Int), iv (y : Int), iv z] Z (fun r Z' => r = .inl (some (iv (kM k))) ∧ zF (zBk b) 0 0 Z Z' ∧ cB Z' b (kPut k x y z)) := by
  refine e_X0_addNeed hb ⟨by rw [hk.2.1]; omega, ?_⟩
  rw [hk.2.1, if_neg (by omega), Int.toNat_natCast]
  refine ⟨zIx_nat hm (by omega), ?_⟩
  rintro _ rfl _ rfl _ rfl _ rfl
  rw [zI_other (a := b + 15) (b := b + 16) (by omega)]
  rw [zI_other (a := b + 16) (b := b + 17) (by omega), zI_other (a := b + 15) (b := b + 17) (by omega)]
  rw [zI_other (a := b + 17) (b := b) (by omega), zI_other (a := b + 16) (b := b) (by omega), zI_other (a := b + 15) (b := b) (by omega)]
  refine ⟨rfl, (((zF_I ⟨by omega, by omega⟩).trans (zF_I ⟨by omega, by omega⟩)).trans (zF_I ⟨by omega, by omega⟩)).trans (zF_I ⟨by omega, by omega⟩), ?_, ?_, fun r t hr ht => ?_, fun j hj => ?_⟩
  · rw [zI_same, zu_other (by decide)]
    exact hk.1
  · rw [zI_same, zu_same, hk.2.1]
    rfl
  · rw [zI_other (by omega), zI_other (by omega), zI_other (by omega), zI_other (by omega)]
    exact hk.2.2.1 r t hr ht
  · have hj' : j < kM k + 1 := hj
    rw [zI_other (by omega), zI_other (by omega), zI_other (by omega), zI_same, zI_other (by omega), zI_other (by omega), zI_same, zI_other (by omega), zI_same]
    show _ = (((if j = kM k then x else kE k j : Nat)) : Int) ∧ _ = (((if j = kM k then y else kL k j : Nat)) : Int) ∧ _ = (if j = kM k then z else kG k j)
    by_cases h : j = kM k
    · rw [h, zu_same, zu_same, zu_same, if_pos rfl, if_pos rfl, if_pos rfl]
      exact ⟨rfl, rfl, rfl⟩
    · rw [zu_other h, zu_other h, zu_other h, if_neg h, if_neg h, if_neg h]
      exact hk.2.2.2 j (by omega)
/-- a need less -/
def kDel (k : Bk) (i : Nat) : Bk := (kN k, kM k - 1, kF k, fun j => if j < i then kE k j else kE k (j + 1), fun j => if j < i then kL k j else kL k (j + 1), fun j => if j < i then kG k j else kG k (j + 1))
theorem zcpy_del (f : Nat → Int) (i n j : Nat) (hj : j < n) (hi : i ≤ n) : zcpy f f (i + 1) i (n - i) j = if j < i then f j else f (j + 1) := by
  unfold zcpy
  by_cases h : j < i
  · rw [if_pos h, if_neg (by omega)]
  · rw [if_neg h, if_pos (by omega), show i + 1 + (j - i) = j + 1 by omega]
theorem s_removeNeed {G : Gx} {Z : Zm} {b : Nat} {k : Bk} {i : Nat} (hb : atBook Z b) (hk : cB Z b k) (ho : kOk k) (hi : i < kM k) : ZM G 1 m_X0_removeNeed [.ref b, iv (i : Int)] Z (fun r Z' => r = .inl none ∧ zF (zBk b) 0 0 Z Z' ∧ cB Z' b (kDel k i)) := by
  have hm := ho.m
  refine e_X0_removeNeed hb ⟨by omega, ?_⟩
  rw [if_neg (by omega)]
  refine ⟨by rw [hk.2.1]; omega, ?_⟩
  rw [hk.2.1, if_pos (by omega)]
  rintro _ rfl
  have hc0 : ∀ c : Nat, c ≠ b → zI (zSI Z b (zu (zI Z b) 4 ((kM k : Int) - 1))) c = zI Z c := fun c hc => zI_other hc
  suffices key : ∀ (m j : Nat) (W : Zm), j + m = 3 → zF (zBk b) 0 0 Z W → zI W b = zu (zI Z b) 4 ((kM k : Int) - 1) → (∀ r, r < 12 → zI W (b + 2 + r) = zI Z (b + 2 + r)) → (∀ r, r < 3 → zI W (b + 15 + r) = if r < j then zcpy (zI Z (b + 15 + r)) (zI Z (b + 15 + r)) (i + 1) i (kM k - 1 - i) else zI Z (b + 15 + r)) → ZP G 1 m_X0_removeNeed 25 [some (.ref b), some (iv (i : Int)), some (iv (j : Int))] [] W (fun r Z' => r = .inl none ∧ zF (zBk b) 0 0 Z Z' ∧ cB Z' b (kDel k i)) from key 3 0 _ rfl (zF_I ⟨by omega, by omega⟩) (zI_same _ _ _) (fun r hr => hc0 _ (by omega)) (fun r hr => by rw [if_neg (Nat.not_lt_zero _)]; exact hc0 _ (by omega))
  intro m
  induction m with
  | zero =>
    intro j W hj f w0 w1 w2
    refine b_X0_removeNeed_25 (hb.ext f.1) ⟨by omega, ?_⟩
    rw [if_pos (by omega)]
    refine ⟨rfl, f, ?_, ?_, fun r t hr ht => ?_, fun c hc => ?_⟩
    · rw [w0, zu_other (by decide)]
      exact hk.1
    · rw [w0, zu_same]
      show _ = ((kM k - 1 : Nat) : Int)
      omega
    · rw [w1 r hr]
      exact hk.2.2.1 r t hr ht
    · have hc' : c < kM k - 1 := hc
      have e0 := w2 0 (by omega)
      have e1 := w2 1 (by omega)
      have e2 := w2 2 (by omega)
      rw [if_pos (by omega)] at e0 e1 e2
      have e0' : zI W (b + 15) = zcpy (zI Z (b + 15)) (zI Z (b + 15)) (i + 1) i (kM k - 1 - i) := e0
      have e1' : zI W (b + 16) = zcpy (zI Z (b + 16)) (zI Z (b + 16)) (i + 1) i (kM k - 1 - i) := e1
      have e2' : zI W (b + 17) = zcpy (zI Z (b + 17)) (zI Z (b + 17)) (i + 1) i (kM k - 1 - i) := e2
      rw [e0', e1', e2', zcpy_del _ _ _ _ hc' (by omega), zcpy_del _ _ _ _ hc' (by omega), zcpy_del _ _ _ _ hc' (by omega)]
      show _ = (((if c < i then kE k c else kE k (c + 1) : Nat)) : Int) ∧ _ = (((if c < i then kL k c else kL k (c + 1) : Nat)) : Int) ∧ _ = (if c < i then kG k c else kG k (c + 1))
      by_cases h : c < i
      · simp only [if_pos h]
        exact hk.2.2.2 c (by omega)
      · simp only [if_neg h]
        exact hk.2.2.2 (c + 1) (by omega)
  | succ m ih =>
    intro j W hj f w0 w1 w2
    have e4 : zI W b 4 = (kM k : Int) - 1 := by rw [w0, zu_same]
    refine b_X0_removeNeed_25 (hb.ext f.1) ⟨by omega, ?_⟩
    rw [if_neg (by omega), e4, Int.toNat_natCast]
    refine ⟨zIx_nat (by omega) (by omega), ⟨by omega, by omega, by omega, by omega, by omega, by omega, by omega⟩, ?_⟩
    rintro _ rfl
    rw [show ((i : Int) + 1).toNat = i + 1 by omega, show (i : Int).toNat = i by omega, show ((kM k : Int) - 1 - (i : Int)).toNat = kM k - 1 - i by omega]
    refine ih (j + 1) _ (by omega) (f.trans (zF_I ⟨by omega, by omega⟩)) (by rw [zI_other (by omega)]; exact w0) (fun r hr => by rw [zI_other (by omega)]; exact w1 r hr) fun r hr => ?_
    by_cases h : r = j
    · subst h
      rw [zI_same, if_pos (by omega)]
      have := w2 r hr
      rw [if_neg (by omega)] at this
      rw [this]
    · rw [zI_other (by omega), w2 r hr]
      by_cases h2 : r < j
      · rw [if_pos h2, if_pos (by omega)]
      · rw [if_neg h2, if_neg (by omega)]
theorem s_becomeLike {G : Gx} {Z : Zm} {b c : Nat} {k : Bk} (hb : atBook Z b) (hc : atBook Z c) (hk : cB Z c k) (ho : kOk k) (hd : c + 19 ≤ b ∨ b + 19 ≤ c) : ZM G 1 m_X0_becomeLike [.ref b, .ref c] Z (fun r Z' => r = .inl none ∧ zF (zBk b) 0 0 Z Z' ∧ cB Z' b k) := by
  have hn := ho.n
  have hm := ho.m
  refine e_X0_becomeLike hb hc ?_
  suffices key2 : ∀ (m j : Nat) (W : Zm), j + m = 3 → zF (zBk b) 0 0 Z W → (∀ r t, r < 12 → t < kN k → zI W (b + 2 + r) t = kF k r t) → (∀ r t, r < j → t < 50 → zI W (b + 15 + r) t = zI Z (c + 15 + r) t) → ZP G 1 m_X0_becomeLike 35 [some (.ref b), some (.ref c), some (iv (j : Int))] [] W (fun r Z' => r = .inl none ∧ zF (zBk b) 0 0 Z Z' ∧ cB Z' b k) by
    suffices key : ∀ (m j : Nat) (W : Zm), j + m = 12 → zF (zBk b) 0 0 Z W → (∀ r t, r < j → t < 20 → zI W (b + 2 + r) t = zI Z (c + 2 + r) t) → ZP G 1 m_X0_becomeLike 2 [some (.ref b), some (.ref c), some (iv (j : Int))] [] W (fun r Z' => r = .inl none ∧ zF (zBk b) 0 0 Z Z' ∧ cB Z' b k) from key 12 0 Z rfl zF.refl fun r t hr => by omega
    intro m
    induction m with
    | zero =>
      intro j W hj f w
      refine b_X0_becomeLike_2 (hb.ext f.1) (hc.ext f.1) ⟨by omega, ?_⟩
      rw [if_pos (by omega)]
      exact key2 3 0 W rfl f (fun r t hr ht => by rw [w r t (by omega) (by omega)]; exact hk.2.2.1 r t hr ht) fun r t hr => by omega
    | succ m ih =>
      intro j W hj f w
      refine b_X0_becomeLike_2 (hb.ext f.1) (hc.ext f.1) ⟨by omega, ?_⟩
      rw [if_neg (by omega)]
      refine ⟨zIx_nat (by omega) (by omega), ?_⟩
      rintro _ rfl
      rw [Int.toNat_natCast]
      refine ih (j + 1) _ (by omega) (f.trans (zF_I ⟨by omega, by omega⟩)) fun r t hr ht => ?_
      by_cases h : r = j
      · subst h
        rw [zI_same]
        unfold zcpy
        rw [if_pos (by omega), show 0 + (t - 0) = t by omega, f.i (hc.x0 r (by omega)).1 (fun g => by unfold zBk zB at g; omega)]
      · rw [zI_other (by omega)]
        exact w r t (by omega) ht
  intro m
  induction m with
  | zero =>
    intro j W hj f w0 w
    refine b_X0_becomeLike_35 (hb.ext f.1) (hc.ext f.1) ⟨by omega, ?_⟩
    rw [if_pos (by omega)]
    rintro _ rfl _ rfl
    have ec : zI W c = zI Z c := f.i hc.o.1 (fun g => by unfold zBk zB at g; omega)
    rw [zI_same, zI_other (a := b) (b := c) (by omega), ec, hk.1, hk.2.1]
    refine ⟨rfl, (f.trans (zF_I ⟨by omega, by omega⟩)).trans (zF_I ⟨by omega, by omega⟩), ?_, ?_, fun r t hr ht => ?_, fun i hi => ?_⟩
    · rw [zI_same, zu_other (by decide), zu_same]
    · rw [zI_same, zu_same]
    · rw [zI_other (by omega), zI_other (by omega)]
      exact w0 r t hr ht
    · rw [zI_other (by omega), zI_other (by omega), zI_other (by omega), zI_other (by omega), zI_other (by omega), zI_other (by omega)]
      have e0 := w 0 i (by omega) (by omega)
      have e1 := w 1 i (by omega) (by omega)
      have e2 := w 2 i (by omega) (by omega)
      obtain ⟨g0, g1, g2⟩ := hk.2.2.2 i hi
      exact ⟨e0.trans g0, e1.trans g1, e2.trans g2⟩
  | succ m ih =>
    intro j W hj f w0 w
    refine b_X0_becomeLike_35 (hb.ext f.1) (hc.ext f.1) ⟨by omega, ?_⟩
    rw [if_neg (by omega)]
    refine ⟨zIx_nat (by omega) (by omega), ?_⟩
    rintro _ rfl
    rw [Int.toNat_natCast]
    refine ih (j + 1) _ (by omega) (f.trans (zF_I ⟨by omega, by omega⟩)) (fun r t hr ht => by rw [zI_other (by omega)]; exact w0 r t hr ht) fun r t hr ht => ?_
    by_cases h : r = j
    · subst h
      rw [zI_same]
      unfold zcpy
      rw [if_pos (by omega), show 0 + (t - 0) = t by omega, f.i (hc.x1 r (by omega)).1 (fun g => by unfold zBk zB at g; omega)]
    · rw [zI_other (by omega)]
      exact w r t (by omega) ht
/-! ===== rings ===== -/
def rgF (k : Bk) (s : Int) (f : Nat → Int) : Nat → (Nat → Int)
  | 0 => f
  | j + 1 => if rgF k s f j (kL k j) = s ∧ rgF k s f j (kE k j) = 0 then zu (rgF k s f j) (kE k j) (s + 1) else rgF k s f j
/-- after s rounds from the task x -/
def rgL (k : Bk) (x : Nat) : Nat → (Nat → Int)
  | 0 => zu (fun _ => 0) x 1
  | s + 1 => rgF k ((s : Int) + 1) (rgL k x s) (kM k)
theorem rgF_keep {k : Bk} {s : Int} {f : Nat → Int} {i : Nat} (h : f i ≠ 0) : ∀ j, rgF k s f j i = f i := by
  intro j
  induction j with
  | zero => rfl
  | succ j ih =>
    show (if rgF k s f j (kL k j) = s ∧ rgF k s f j (kE k j) = 0 then zu (rgF k s f j) (kE k j) (s + 1) else rgF k s f j) i = f i
    by_cases c : rgF k s f j (kL k j) = s ∧ rgF k s f j (kE k j) = 0
    · rw [if_pos c]
      by_cases e : i = kE k j
      · rw [← e] at c
        exact absurd (ih.symm.trans c.2) h
      · rw [zu_other e]
        exact ih
    · rw [if_neg c]
      exact ih
theorem rgL_keep {k : Bk} {x i s : Nat} (h : rgL k x s i ≠ 0) : ∀ m, rgL k x (s + m) i = rgL k x s i := by
  intro m
  induction m with
  | zero => rfl
  | succ m ih =>
    show rgF k _ (rgL k x (s + m)) (kM k) i = _
    rw [rgF_keep (by rw [ih]; exact h), ih]
theorem rgF_or {k : Bk} {s : Int} {f : Nat → Int} (i : Nat) : ∀ j, rgF k s f j i = f i ∨ (f i = 0 ∧ rgF k s f j i = s + 1) := by
  intro j
  induction j with
  | zero => exact Or.inl rfl
  | succ j ih =>
    show (if rgF k s f j (kL k j) = s ∧ rgF k s f j (kE k j) = 0 then zu (rgF k s f j) (kE k j) (s + 1) else rgF k s f j) i = f i ∨ (f i = 0 ∧ (if rgF k s f j (kL k j) = s ∧ rgF k s f j (kE k j) = 0 then zu (rgF k s f j) (kE k j) (s + 1) else rgF k s f j) i = s + 1)
    by_cases c : rgF k s f j (kL k j) = s ∧ rgF k s f j (kE k j) = 0
    · rw [if_pos c]
      by_cases e : i = kE k j
      · rw [e, zu_same]
        rw [e] at ih
        rcases ih with h | h
        · exact Or.inr ⟨h.symm.trans c.2, rfl⟩
        · exact Or.inr ⟨h.1, rfl⟩
      · rw [zu_other e]
        exact ih
    · rw [if_neg c]
      exact ih
theorem rgL_r (k : Bk) (x i : Nat) : ∀ s : Nat, 0 ≤ rgL k x s i ∧ rgL k x s i ≤ (s : Int) + 1 := by
  intro s
  induction s with
  | zero =>
    show 0 ≤ zu (fun _ => (0 : Int)) x 1 i ∧ zu (fun _ => (0 : Int)) x 1 i ≤ _
    unfold zu
    by_cases h : i = x
    · rw [if_pos h]
      omega
    · rw [if_neg h]
      show (0 : Int) ≤ 0 ∧ (0 : Int) ≤ _
      omega
  | succ s ih =>
    have h := rgF_or (k := k) (s := (s : Int) + 1) (f := rgL k x s) i (kM k)
    show 0 ≤ rgF k ((s : Int) + 1) (rgL k x s) (kM k) i ∧ rgF k ((s : Int) + 1) (rgL k x s) (kM k) i ≤ _
    omega
/-- of how many tasks the shortest ring would be -/
def rgV (k : Bk) (x y : Nat) : Int := rgL k x (kN k - 1) y
theorem rgV_r {k : Bk} {x y : Nat} (h : 0 < kN k) : 0 ≤ rgV k x y ∧ rgV k x y ≤ kN k := by
  have := rgL_r k x y (kN k - 1)
  unfold rgV
  omega
theorem zsum_le {f g : Nat → Int} {n : Nat} (h : ∀ i, i < n → f i ≤ g i) : zsum f n ≤ zsum g n := by
  induction n with
  | zero => exact Int.le_refl _
  | succ n ih =>
    have h1 := ih fun i hi => h i (by omega)
    have h2 := h n (by omega)
    rw [zsum_s, zsum_s]
    omega
theorem zsum_lt {f g : Nat → Int} {n i : Nat} (h : ∀ i, i < n → f i ≤ g i) (hi : i < n) (h1 : f i < g i) : zsum f n + 1 ≤ zsum g n := by
  induction n with
  | zero => exact absurd hi (Nat.not_lt_zero _)
  | succ n ih =>
    have h2 := h n (by omega)
    rw [zsum_s, zsum_s]
    by_cases e : i = n
    · subst e
      have := zsum_le fun i hi => h i (Nat.lt_succ_of_lt hi)
      omega
    · have := ih (fun i hi => h i (by omega)) (by omega)
      omega
def nz (f : Nat → Int) : Nat → Int := fun t => if f t = 0 then 0 else 1
theorem nz_p {f : Nat → Int} {t : Nat} (h : f t ≠ 0) : nz f t = 1 := if_neg h
theorem nz_f {f : Nat → Int} {t : Nat} (h : f t = 0) : nz f t = 0 := if_pos h
theorem nz_r (f : Nat → Int) (t : Nat) : 0 ≤ nz f t ∧ nz f t ≤ 1 := by
  by_cases h : f t = 0
  · rw [nz_f h]
    omega
  · rw [nz_p h]
    omega
theorem nz_all {f : Nat → Int} {n : Nat} (h : (n : Int) ≤ zsum (nz f) n) {t : Nat} (ht : t < n) : f t ≠ 0 := by
  intro h0
  have h1 : zsum (nz f) n + 1 ≤ zsum (fun _ => 1) n := zsum_lt (fun i _ => (nz_r f i).2) ht (by rw [nz_f h0]; omega)
  have h2 := (zsum_bound (f := fun _ => (1 : Int)) (n := n) (a := 1) (b := 1) fun _ _ => ⟨Int.le_refl _, Int.le_refl _⟩).2
  omega
theorem rgF_hit {k : Bk} {s : Int} {f : Nat → Int} (hs : s ≠ s + 1) (hs0 : s + 1 ≠ 0) {j : Nat} (h : f (kL k j) = s) (h0 : f (kL k j) ≠ 0) : ∀ m, j < m → rgF k s f m (kE k j) ≠ 0 := by
  intro m hm
  induction m with
  | zero => exact absurd hm (Nat.not_lt_zero _)
  | succ m ih =>
    show (if rgF k s f m (kL k m) = s ∧ rgF k s f m (kE k m) = 0 then zu (rgF k s f m) (kE k m) (s + 1) else rgF k s f m) (kE k j) ≠ 0
    by_cases e : j = m
    · subst e
      have hl : rgF k s f j (kL k j) = s := by rw [rgF_keep h0, h]
      by_cases c : rgF k s f j (kE k j) = 0
      · rw [if_pos ⟨hl, c⟩, zu_same]
        exact hs0
      · rw [if_neg (fun g => c g.2)]
        exact c
    · have h1 := ih (by omega)
      by_cases c : rgF k s f m (kL k m) = s ∧ rgF k s f m (kE k m) = 0
      · rw [if_pos c]
        by_cases e2 : kE k j = kE k m
        · rw [e2, zu_same]
          exact hs0
        · rw [zu_other e2]
          exact h1
      · rw [if_neg c]
        exact h1
/-- what was reached ahead of the newest round is closed -/
theorem rgL_closed (k : Bk) (x : Nat) : ∀ s j : Nat, j < kM k → rgL k x s (kL k j) ≠ 0 → rgL k x s (kL k j) ≤ s → rgL k x s (kE k j) ≠ 0 := by
  intro s
  induction s with
  | zero =>
    intro j hj h1 h2
    have := (rgL_r k x (kL k j) 0).1
    omega
  | succ s ih =>
    intro j hj h1 h2
    have e : rgL k x (s + 1) = rgF k ((s : Int) + 1) (rgL k x s) (kM k) := rfl
    have h3 := rgF_or (k := k) (s := (s : Int) + 1) (f := rgL k x s) (kL k j) (kM k)
    rw [e] at h1 h2 ⊢
    have h4 : rgF k ((s : Int) + 1) (rgL k x s) (kM k) (kL k j) = rgL k x s (kL k j) := by
      rcases h3 with h | h
      · exact h
      · omega
    rw [h4] at h1 h2
    by_cases h5 : rgL k x s (kL k j) ≤ s
    · rw [rgF_keep (ih j hj h1 h5)]
      exact ih j hj h1 h5
    · exact rgF_hit (by omega) (by omega) (by omega) h1 _ hj
theorem rgF_new {k : Bk} {s : Int} {f : Nat → Int} (hs : s ≠ s + 1) {t : Nat} (h0 : f t = 0) : ∀ m, m ≤ kM k → rgF k s f m t ≠ 0 → ∃ j, j < kM k ∧ f (kL k j) = s := by
  intro m
  induction m with
  | zero => intro _ h; exact absurd h0 h
  | succ m ih =>
    intro hm h
    by_cases h1 : rgF k s f m t = 0
    · have h2 : (if rgF k s f m (kL k m) = s ∧ rgF k s f m (kE k m) = 0 then zu (rgF k s f m) (kE k m) (s + 1) else rgF k s f m) t ≠ 0 := h
      by_cases c : rgF k s f m (kL k m) = s ∧ rgF k s f m (kE k m) = 0
      · refine ⟨m, by omega, ?_⟩
        rcases rgF_or (k := k) (s := s) (f := f) (kL k m) m with g | g
        · rw [← g]
          exact c.1
        · omega
      · rw [if_neg c] at h2
        exact absurd h1 h2
    · exact ih (by omega) h1
theorem rgL_count (k : Bk) (x : Nat) (hx : x < kN k) (hl : ∀ j, j < kM k → kL k j < kN k) (he : ∀ j, j < kM k → kE k j < kN k) : ∀ s : Nat, (∀ t, t < kN k → rgL k x s t ≠ (s : Int) + 1) ∨ (s : Int) + 1 ≤ zsum (nz (rgL k x s)) (kN k) := by
  intro s
  induction s with
  | zero =>
    refine Or.inr ?_
    have h := zsum_lt (f := fun _ => 0) (g := nz (rgL k x 0)) (n := kN k) (i := x) (fun i _ => (nz_r _ i).1) hx (by
      rw [nz_p (show rgL k x 0 x ≠ 0 from by rw [show rgL k x 0 x = 1 from zu_same _ _ _]; decide)]
      decide)
    have h2 := (zsum_bound (f := fun _ => (0 : Int)) (n := kN k) (a := 0) (b := 0) fun _ _ => ⟨Int.le_refl _, Int.le_refl _⟩).1
    omega
  | succ s ih =>
    by_cases h : ∀ t, t < kN k → rgL k x (s + 1) t ≠ ((s + 1 : Nat) : Int) + 1
    · exact Or.inl h
    · refine Or.inr ?_
      have e : rgL k x (s + 1) = rgF k ((s : Int) + 1) (rgL k x s) (kM k) := rfl
      obtain ⟨t, ht⟩ := Classical.not_forall.mp h
      obtain ⟨ht1, ht2⟩ := Classical.not_imp.mp ht
      have ht3 : rgL k x (s + 1) t = ((s + 1 : Nat) : Int) + 1 := Classical.not_not.mp ht2
      have r0 := rgL_r k x t s
      have ht0 : rgL k x s t = 0 := by
        rw [e] at ht3
        rcases rgF_or (k := k) (s := (s : Int) + 1) (f := rgL k x s) t (kM k) with g | g
        · omega
        · exact g.1
      obtain ⟨j, hj, hjs⟩ := rgF_new (k := k) (s := (s : Int) + 1) (by omega) ht0 (kM k) (Nat.le_refl _) (by rw [← e, ht3]; omega)
      have hc : (s : Int) + 1 ≤ zsum (nz (rgL k x s)) (kN k) := by
        rcases ih with g | g
        · exact absurd hjs (g _ (hl j hj))
        · exact g
      have hu := zsum_lt (f := nz (rgL k x s)) (g := nz (rgL k x (s + 1))) (n := kN k) (i := t) (fun i _ => by
        by_cases hz : rgL k x s i = 0
        · rw [nz_f hz]
          exact (nz_r _ i).1
        · rw [nz_p hz, nz_p (show rgL k x (s + 1) i ≠ 0 by rw [rgL_keep hz 1]; exact hz)]
          exact Int.le_refl _) ht1 (by
        rw [nz_f ht0, nz_p (by rw [ht3]; omega)]
        decide)
      omega
theorem rgL_x (k : Bk) (x s : Nat) : rgL k x s x = 1 := by
  have h0 : rgL k x 0 x = 1 := zu_same _ _ _
  have := rgL_keep (k := k) (x := x) (i := x) (s := 0) (by rw [h0]; decide) s
  rw [Nat.zero_add] at this
  rw [this, h0]
/-- where no ring would be closed, what can be reached is closed, and the later task isn't in it -/
theorem rgV_closed {k : Bk} {x y : Nat} (ho : kOk k) (hx : x < kN k) (hy : y < kN k) (h : rgV k x y = 0) : ∀ j, j < kM k → rgL k x (kN k - 1) (kL k j) ≠ 0 → rgL k x (kN k - 1) (kE k j) ≠ 0 := by
  intro j hj hl
  refine rgL_closed k x _ j hj hl ?_
  have hr := rgL_r k x (kL k j) (kN k - 1)
  rcases rgL_count k x hx (fun j hj => ho.l hj) (fun j hj => ho.e hj) (kN k - 1) with g | g
  · have := g _ (ho.l hj)
    omega
  · exact absurd h (nz_all (f := rgL k x (kN k - 1)) (by omega) hy)
theorem kPut_ok {k : Bk} {x y : Nat} {z : Int} (ho : kOk k) (hx : x < kN k) (hy : y < kN k) (hz : 0 ≤ z ∧ z ≤ 30) (hm : kM k < 50) (hn : ¬ hasN k x y) (h : rgV k x y = 0) : kOk (kPut k x y z) := by
  have hcl := rgV_closed ho hx hy h
  obtain ⟨h1, h2, h3, h4, r, h5⟩ := ho
  refine ⟨⟨h1.1, ?_⟩, h2, fun j hj => ?_, fun i j hi hj e1 e2 => ?_, fun t => if rgL k x (kN k - 1) t = 0 then r t + r x + 1 else r t, fun j hj => ?_⟩
  · show kM k + 1 ≤ 50
    omega
  · have hj' : j < kM k + 1 := hj
    show (if j = kM k then x else kE k j) < kN k ∧ (if j = kM k then y else kL k j) < kN k ∧ 0 ≤ (if j = kM k then z else kG k j) ∧ (if j = kM k then z else kG k j) ≤ 30
    by_cases e : j = kM k
    · simp only [if_pos e]
      exact ⟨hx, hy, hz⟩
    · simp only [if_neg e]
      exact h3 j (by omega)
  · have hi' : i < kM k + 1 := hi
    have hj' : j < kM k + 1 := hj
    have e1' : (if i = kM k then x else kE k i) = (if j = kM k then x else kE k j) := e1
    have e2' : (if i = kM k then y else kL k i) = (if j = kM k then y else kL k j) := e2
    by_cases a : i = kM k
    · by_cases b : j = kM k
      · omega
      · rw [if_pos a, if_neg b] at e1' e2'
        exact absurd ⟨j, by omega, by omega, by omega⟩ hn
    · by_cases b : j = kM k
      · rw [if_neg a, if_pos b] at e1' e2'
        exact absurd ⟨i, by omega, by omega, by omega⟩ hn
      · rw [if_neg a, if_neg b] at e1' e2'
        exact h4 i j (by omega) (by omega) e1' e2'
  · have hj' : j < kM k + 1 := hj
    show (if rgL k x (kN k - 1) (if j = kM k then x else kE k j) = 0 then r (if j = kM k then x else kE k j) + r x + 1 else r (if j = kM k then x else kE k j)) < (if rgL k x (kN k - 1) (if j = kM k then y else kL k j) = 0 then r (if j = kM k then y else kL k j) + r x + 1 else r (if j = kM k then y else kL k j))
    by_cases e : j = kM k
    · simp only [if_pos e]
      rw [if_neg (by rw [rgL_x]; decide), if_pos (show rgL k x (kN k - 1) y = 0 from h)]
      omega
    · simp only [if_neg e]
      have := h5 j (by omega)
      by_cases c : rgL k x (kN k - 1) (kL k j) = 0
      · rw [if_pos c]
        by_cases d : rgL k x (kN k - 1) (kE k j) = 0
        · rw [if_pos d]
          omega
        · rw [if_neg d]
          omega
      · rw [if_neg c, if_neg (hcl j (by omega) c)]
        exact this
theorem kAdd_ok {k : Bk} {x : Int} (ho : kOk k) (hx : 1 ≤ x ∧ x ≤ 60) (hn : kN k < 20) : kOk (kAdd k x) := by
  obtain ⟨h1, h2, h3, h4, r, h5⟩ := ho
  refine ⟨⟨?_, h1.2⟩, fun t ht => ?_, fun j hj => ?_, h4, r, h5⟩
  · show kN k + 1 ≤ 20
    omega
  · have ht' : t < kN k + 1 := ht
    have e : ∀ r, kF (kAdd k x) r t = if t = kN k then (if r = 0 then x else if r = 2 then -1 else 0) else kF k r t := fun _ => rfl
    simp only [e]
    by_cases c : t = kN k
    · simp only [if_pos c]
      simp only [if_true, if_false, Nat.reduceEqDiff]
      simp
      omega
    · simp only [if_neg c]
      exact h2 t (by omega)
  · obtain ⟨g1, g2, g3⟩ := h3 j hj
    refine ⟨?_, ?_, g3⟩
    · show kE k j < kN k + 1
      omega
    · show kL k j < kN k + 1
      omega
theorem kDel_ok {k : Bk} {i : Nat} (ho : kOk k) (hi : i < kM k) : kOk (kDel k i) := by
  obtain ⟨h1, h2, h3, h4, r, h5⟩ := ho
  have e1 : ∀ j, kE (kDel k i) j = kE k (if j < i then j else j + 1) := fun j => by
    show (if j < i then kE k j else kE k (j + 1)) = _
    by_cases c : j < i
    · rw [if_pos c, if_pos c]
    · rw [if_neg c, if_neg c]
  have e2 : ∀ j, kL (kDel k i) j = kL k (if j < i then j else j + 1) := fun j => by
    show (if j < i then kL k j else kL k (j + 1)) = _
    by_cases c : j < i
    · rw [if_pos c, if_pos c]
    · rw [if_neg c, if_neg c]
  have e3 : ∀ j, kG (kDel k i) j = kG k (if j < i then j else j + 1) := fun j => by
    show (if j < i then kG k j else kG k (j + 1)) = _
    by_cases c : j < i
    · rw [if_pos c, if_pos c]
    · rw [if_neg c, if_neg c]
  have hb : ∀ j, j < kM k - 1 → (if j < i then j else j + 1) < kM k := fun j hj => by
    by_cases c : j < i
    · rw [if_pos c]
      omega
    · rw [if_neg c]
      omega
  refine ⟨⟨h1.1, ?_⟩, h2, fun j hj => ?_, fun a b ha hb' g1 g2 => ?_, r, fun j hj => ?_⟩
  · show kM k - 1 ≤ 50
    omega
  · rw [e1, e2, e3]
    exact h3 _ (hb j hj)
  · rw [e1, e1] at g1
    rw [e2, e2] at g2
    have := h4 _ _ (hb a ha) (hb b hb') g1 g2
    by_cases c : a < i
    · rw [if_pos c] at this
      by_cases d : b < i
      · rw [if_pos d] at this
        exact this
      · rw [if_neg d] at this
        omega
    · rw [if_neg c] at this
      by_cases d : b < i
      · rw [if_pos d] at this
        omega
      · rw [if_neg d] at this
        omega
  · rw [e1, e2]
    exact h5 _ (hb j hj)
theorem s_ringSize {G : Gx} {Z : Zm} {b : Nat} {k : Bk} {x y : Nat} (hb : atBook Z b) (hk : cB Z b k) (ho : kOk k) (hx : x < kN k) (hy : y < kN k) : ZM G 1 m_X0_ringSize [.ref b, iv (x : Int), iv (y : Int)] Z (fun r Z' => r = .inl (some (iv (rgV k x y))) ∧ zF (zB (b + 18) (b + 19)) 0 0 Z Z') := by
  have hn := ho.n
  have hm := ho.m
  refine e_X0_ringSize hb ?_
  rintro _ rfl
  refine ⟨zIx_nat (by omega) (by omega), ?_⟩
  rintro _ rfl
  rw [zI_same, zSI_zSI, Int.toNat_natCast]
  have fr : zF (zB (b + 18) (b + 19)) 0 0 Z (zSI Z (b + 18) (zu (zfl (zI Z (b + 18)) 20 0) x 1)) := zF_I ⟨by omega, by omega⟩
  have hcb : ∀ W, zF (zB (b + 18) (b + 19)) 0 0 Z W → cB W b k := fun W f => hk.frame hb f fun a h1 h2 => by unfold zB; omega
  suffices key : ∀ (m s : Nat) (W : Zm) (o1 o4 o5 : Option Value), s + 1 + m = kN k → zF (zB (b + 18) (b + 19)) 0 0 Z W → (∀ i, i < 20 → zI W (b + 18) i = rgL k x s i) → ZP G 1 m_X0_ringSize 17 [some (.ref b), o1, some (iv (y : Int)), some (iv ((s : Int) + 1)), o4, o5] [] W (fun r Z' => r = .inl (some (iv (rgV k x y))) ∧ zF (zB (b + 18) (b + 19)) 0 0 Z Z') from key (kN k - 1) 0 _ _ _ _ (by omega) fr (fun i hi => by
    rw [zI_same]
    show zu (zfl (zI Z (b + 18)) 20 0) x 1 i = zu (fun _ => 0) x 1 i
    unfold zu
    by_cases h : i = x
    · rw [if_pos h, if_pos h]
    · rw [if_neg h, if_neg h]
      exact if_pos hi)
  intro m
  induction m with
  | zero =>
    intro s W o1 o4 o5 hs f w
    have hkW := hcb W f
    refine b_X0_ringSize_17 (hb.ext f.1) ⟨by omega, by rw [hkW.1]; omega, ?_⟩
    rw [hkW.1, if_pos (by omega), Int.toNat_natCast, w y (by omega)]
    refine ⟨zIx_nat (by omega) (by omega), ?_, f⟩
    rw [show s = kN k - 1 by omega]
    rfl
  | succ m ih =>
    intro s W o1 o4 o5 hs f w
    have hkW := hcb W f
    have hr := rgL_r k x y s
    refine b_X0_ringSize_17 (hb.ext f.1) ⟨by omega, by rw [hkW.1]; omega, ?_⟩
    rw [hkW.1, if_neg (by omega), Int.toNat_natCast, w y (by omega)]
    refine ⟨zIx_nat (by omega) (by omega), by omega, ?_⟩
    by_cases h0 : rgL k x s y = 0
    · rw [if_pos h0]
      suffices inner : ∀ (q j : Nat) (W : Zm) (o5 : Option Value), j + q = kM k → zF (zB (b + 18) (b + 19)) 0 0 Z W → (∀ i, i < 20 → zI W (b + 18) i = rgF k ((s : Int) + 1) (rgL k x s) j i) → ZP G 1 m_X0_ringSize 37 [some (.ref b), o1, some (iv (y : Int)), some (iv ((s : Int) + 1)), some (iv (j : Int)), o5] [] W (fun r Z' => r = .inl (some (iv (rgV k x y))) ∧ zF (zB (b + 18) (b + 19)) 0 0 Z Z') from inner (kM k) 0 W o5 (by omega) f w
      intro q
      induction q with
      | zero =>
        intro j W o5 hj f w
        have hkW := hcb W f
        refine b_X0_ringSize_37 (hb.ext f.1) ⟨by omega, by rw [hkW.2.1]; omega, ?_⟩
        rw [hkW.2.1, if_pos (by omega)]
        exact ih (s + 1) W _ _ _ (by omega) f fun i hi => by
          rw [w i hi, show j = kM k by omega]
          rfl
      | succ q ihq =>
        intro j W o5 hj f w
        have hkW := hcb W f
        obtain ⟨e1, e2, e3⟩ := hkW.2.2.2 j (by omega)
        have he := ho.e (j := j) (by omega)
        have hl := ho.l (j := j) (by omega)
        have rl := rgF_or (k := k) (s := (s : Int) + 1) (f := rgL k x s) (kL k j) j
        have re := rgF_or (k := k) (s := (s : Int) + 1) (f := rgL k x s) (kE k j) j
        have rl0 := rgL_r k x (kL k j) s
        have re0 := rgL_r k x (kE k j) s
        refine b_X0_ringSize_37 (hb.ext f.1) ⟨by omega, by rw [hkW.2.1]; omega, ?_⟩
        rw [hkW.2.1, if_neg (by omega), Int.toNat_natCast, e1, e2, Int.toNat_natCast, Int.toNat_natCast, w _ (by omega), w _ (by omega)]
        refine ⟨zIx_nat (by omega) (by omega), zIx_nat (by omega) (by omega), by omega, by omega, ?_⟩
        have stp : rgF k ((s : Int) + 1) (rgL k x s) (j + 1) = if rgF k ((s : Int) + 1) (rgL k x s) j (kL k j) = (s : Int) + 1 ∧ rgF k ((s : Int) + 1) (rgL k x s) j (kE k j) = 0 then zu (rgF k ((s : Int) + 1) (rgL k x s) j) (kE k j) ((s : Int) + 1 + 1) else rgF k ((s : Int) + 1) (rgL k x s) j := rfl
        by_cases c1 : rgF k ((s : Int) + 1) (rgL k x s) j (kL k j) = (s : Int) + 1
        · rw [if_pos c1]
          refine ⟨zIx_nat (by omega) (by omega), by omega, ?_⟩
          by_cases c2 : rgF k ((s : Int) + 1) (rgL k x s) j (kE k j) = 0
          · rw [if_pos c2]
            rintro _ rfl
            refine ihq (j + 1) _ _ (by omega) (f.trans (zF_I ⟨by omega, by omega⟩)) fun i hi => ?_
            rw [stp, if_pos ⟨c1, c2⟩, zI_same]
            unfold zu
            by_cases e : i = kE k j
            · rw [if_pos e, if_pos e]
            · rw [if_neg e, if_neg e]
              exact w i hi
          · rw [if_neg c2]
            refine ihq (j + 1) W _ (by omega) f fun i hi => ?_
            rw [stp, if_neg (fun g => c2 g.2)]
            exact w i hi
        · rw [if_neg c1]
          refine ihq (j + 1) W _ (by omega) f fun i hi => ?_
          rw [stp, if_neg (fun g => c1 g.1)]
          exact w i hi
    · rw [if_neg h0]
      refine ⟨?_, f⟩
      have h9 := rgL_keep h0 (kN k - 1 - s)
      rw [show s + (kN k - 1 - s) = kN k - 1 by omega] at h9
      unfold rgV
      rw [h9]
