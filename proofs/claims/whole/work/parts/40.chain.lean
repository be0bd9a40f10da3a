theorem s_nextOnChain {G : Gx} {Z : Zm} {n u t : Nat} {k : Bk} (hn : atNet Z n) (hu : zA Z u 100 20) (hc : cN Z n k) (ho : kOk k) (hlen : ∀ t, t < kN k → zI Z u t = kF k 0 t) (ht : t < kN k) : ZM G 2 m_X7_nextOnChain [.ref n, iv (t : Int), .ref u] Z (fun r Z' => ∃ x, r = .inl (some (iv x)) ∧ Z' = Z ∧ ((x = -1 ∧ isNx k t (-1)) ∨ ∃ j : Nat, j < 50 ∧ x = (j : Int) ∧ isNx k t (zI Z (n + 4) j) ∧ 0 ≤ zI Z (n + 4) j ∧ isLg k t (zI Z (n + 4) j) (zI Z (n + 5) j))) := by
  obtain ⟨c1, c2, c3, c4⟩ := hc.e ho
  have hN := ho.n
  have hM := ho.m
  obtain ⟨h0, k', o, pos, hpm, hord, hsrt, hs, -, -, -⟩ := hc
  have ho' := hpm.ok ho
  have eN := hpm.1
  have eM := hpm.2.1
  refine e_X7_nextOnChain hn hu ?_
  suffices key : ∀ (m j : Nat) (x : Int), j + m = kM k' → ((x = -1 ∧ ∀ i, i < j → kE k' i = t → ¬ eR k (kE k' i) = kF k 0 (kE k' i) + kG k' i + eR k (kL k' i)) ∨ ∃ q : Nat, x = (q : Int) ∧ q < j ∧ kE k' q = t ∧ eR k (kE k' q) = kF k 0 (kE k' q) + kG k' q + eR k (kL k' q) ∧ ∀ i, i < j → kE k' i = t → eR k (kE k' i) = kF k 0 (kE k' i) + kG k' i + eR k (kL k' i) → kL k' q ≤ kL k' i) → ZP G 2 m_X7_nextOnChain 5 [some (.ref n), some (iv (t : Int)), some (.ref u), some (iv x), some (iv (j : Int))] [] Z (fun r Z' => ∃ x, r = .inl (some (iv x)) ∧ Z' = Z ∧ ((x = -1 ∧ isNx k t (-1)) ∨ ∃ j : Nat, j < 50 ∧ x = (j : Int) ∧ isNx k t (zI Z (n + 4) j) ∧ 0 ≤ zI Z (n + 4) j ∧ isLg k t (zI Z (n + 4) j) (zI Z (n + 5) j))) from key (kM k') 0 (-1) (by omega) (Or.inl ⟨rfl, fun i hi => by omega⟩)
  intro m
  induction m with
  | zero =>
    intro j x hj hx
    refine b_X7_nextOnChain_5 hn hu ⟨by omega, by rw [hs.2.1]; omega, ?_⟩
    rw [hs.2.1, if_pos (by omega)]
    refine ⟨x, rfl, rfl, ?_⟩
    rcases hx with ⟨rfl, h⟩ | ⟨q, rfl, hq, h1, h2, h3⟩
    · refine Or.inl ⟨rfl, Or.inl ⟨rfl, fun i hi e => ?_⟩⟩
      obtain ⟨i', hi', e1, e2, e3⟩ := hpm.to hi
      have := h i' (by omega) (e1.trans e)
      rw [e1, e2, e3] at this
      exact this
    · have hqk : q < kM k' := by omega
      obtain ⟨e1, e2, e3⟩ := hs.2.2.2 q hqk
      obtain ⟨i', hi', f1, f2, f3⟩ := hpm.of hqk
      refine Or.inr ⟨q, by omega, rfl, ?_, by omega, ?_⟩
      · rw [e2]
        refine Or.inr ⟨i', hi', f1.trans h1, ?_, by rw [f2], fun i hi g1 g2 => ?_⟩
        · unfold tgt
          rw [f1, f2, f3]
          exact h2
        · obtain ⟨i2, hi2, d1, d2, d3⟩ := hpm.to hi
          rw [f2, ← d2]
          refine h3 i2 (by omega) (d1.trans g1) ?_
          unfold tgt at g2
          rw [d1, d2, d3]
          exact g2
      · rw [e2, e3]
        exact Or.inr ⟨i', hi', f1.trans h1, by rw [f2], f3.symm⟩
  | succ m ih =>
    intro j x hj hx
    have hjk : j < kM k' := by omega
    obtain ⟨e1, e2, e3⟩ := hs.2.2.2 j hjk
    have he := ho'.e hjk
    have hl := ho'.l hjk
    refine b_X7_nextOnChain_5 hn hu ⟨by omega, by rw [hs.2.1]; omega, ?_⟩
    rw [hs.2.1, if_neg (by omega), Int.toNat_natCast, e1]
    refine ⟨zIx_nat (by omega) (by omega), by omega, by omega, ?_⟩
    by_cases c : (kE k' j : Int) = (t : Int)
    · rw [if_pos c]
      refine (s_isLongest hn hu hs ho ho' hpm c2 c3 c4 hlen hjk).mono ?_
      rintro r W ⟨hr, rfl⟩
      rcases hr with ⟨rfl, hl1⟩ | ⟨rfl, hl1⟩
      · rcases hx with ⟨rfl, h⟩ | ⟨q, rfl, hq, h1, h2, h3⟩
        · refine b_X7_nextOnChain_32 hn hu ⟨by decide, fun _ => ⟨by decide, fun g => absurd (by decide) g, trivial⟩, ?_⟩
          rw [if_neg (by decide), if_pos (by decide)]
          refine ih (j + 1) _ (by omega) (Or.inr ⟨j, rfl, by omega, by omega, hl1, fun i hi g1 g2 => ?_⟩)
          by_cases d : i = j
          · rw [d]
            exact Nat.le_refl _
          · exact absurd g2 (h i (by omega) g1)
        · have hqk : q < kM k' := by omega
          obtain ⟨q1, q2, q3⟩ := hs.2.2.2 q hqk
          have hlq := ho'.l hqk
          refine b_X7_nextOnChain_32 hn hu ⟨by decide, fun _ => ⟨by omega, fun _ => ⟨zIx_nat (by omega) (by omega), zIx_nat (by omega) (by omega), ?_, ?_, trivial⟩, trivial⟩, ?_⟩
          · rw [Int.toNat_natCast, e2]
            omega
          · rw [Int.toNat_natCast, q2]
            omega
          · rw [if_neg (by decide), if_neg (by omega), Int.toNat_natCast, Int.toNat_natCast, e2, q2]
            by_cases d : (kL k' q : Int) ≤ (kL k' j : Int)
            · rw [if_pos d]
              refine ih (j + 1) _ (by omega) (Or.inr ⟨q, rfl, by omega, h1, h2, fun i hi g1 g2 => ?_⟩)
              by_cases d9 : i = j
              · rw [d9]
                omega
              · exact h3 i (by omega) g1 g2
            · rw [if_neg d]
              refine ih (j + 1) _ (by omega) (Or.inr ⟨j, rfl, by omega, by omega, hl1, fun i hi g1 g2 => ?_⟩)
              by_cases d9 : i = j
              · rw [d9]
                exact Nat.le_refl _
              · have := h3 i (by omega) g1 g2
                omega
      · refine b_X7_nextOnChain_32 hn hu ⟨by decide, fun g => absurd rfl g, ?_⟩
        rw [if_pos rfl]
        refine ih (j + 1) x (by omega) ?_
        rcases hx with ⟨rfl, h⟩ | ⟨q, rfl, hq, h1, h2, h3⟩
        · refine Or.inl ⟨rfl, fun i hi e => ?_⟩
          by_cases d : i = j
          · rw [d]
            exact hl1
          · exact h i (by omega) e
        · refine Or.inr ⟨q, rfl, by omega, h1, h2, fun i hi g1 g2 => ?_⟩
          by_cases d : i = j
          · rw [d] at g2
            exact absurd g2 hl1
          · exact h3 i (by omega) g1 g2
    · rw [if_neg c]
      refine ih (j + 1) x (by omega) ?_
      rcases hx with ⟨rfl, h⟩ | ⟨q, rfl, hq, h1, h2, h3⟩
      · refine Or.inl ⟨rfl, fun i hi e => ?_⟩
        by_cases d : i = j
        · rw [d] at e
          omega
        · exact h i (by omega) e
      · refine Or.inr ⟨q, rfl, by omega, h1, h2, fun i hi g1 g2 => ?_⟩
        by_cases d : i = j
        · rw [d] at g1
          omega
        · exact h3 i (by omega) g1 g2
theorem isNx_r {k : Bk} (ho : kOk k) {t : Nat} {x : Int} (h : isNx k t x) : -1 ≤ x ∧ x < kN k := by
  rcases h with ⟨rfl, _⟩ | ⟨j, hj, _, _, rfl, _⟩
  · omega
  · have := ho.l hj
    omega
theorem isLg_r {k : Bk} (ho : kOk k) {t : Nat} {x g : Int} (h : isLg k t x g) : 0 ≤ g ∧ g ≤ 30 := by
  rcases h with ⟨_, rfl⟩ | ⟨j, hj, _, _, rfl⟩
  · omega
  · exact ho.g hj
theorem s_tellChain {G : Gx} {Z : Zm} {n u : Nat} {k : Bk} (hn : atNet Z n) (hu : zA Z u 100 20) (hc : cN Z n k) (ho : kOk k) (hlen : ∀ t, t < kN k → zI Z u t = kF k 0 t) (hun : u < n + 8 ∨ n + 10 ≤ u) : ZM G 3 m_X7_tellChain [.ref n, .ref u] Z (fun r Z' => ∃ (q : Nat) (d g : Nat → Int), isTold k d g q ∧ r = .inl (some (iv (q : Int))) ∧ zF (zB (n + 8) (n + 10)) 0 0 Z Z' ∧ ∀ i, i < q → zI Z' (n + 8) i = d i ∧ zI Z' (n + 9) i = g i) := by
  obtain ⟨c1, c2, c3, c4⟩ := hc.e ho
  have hN := ho.n
  have hM := ho.m
  have hen := c4.en ho
  obtain ⟨pos, hpos, hpl⟩ : ∃ pos : Nat → Nat, (∀ t, t < kN k → pos t < kN k) ∧ ∀ j, j < kM k → pos (kE k j) < pos (kL k j) := by
    obtain ⟨h0, k', o, pos, hpm, hord, -⟩ := hc
    refine ⟨pos, fun t ht => ?_, fun j hj => ?_⟩
    · have := (hord.2.1 t (by rw [hpm.1]; exact ht)).1
      rw [hpm.1] at this
      exact this
    · obtain ⟨i, hi, e1, e2, e3⟩ := hpm.to hj
      rw [← e1, ← e2]
      exact hord.2.2 i hi
  have h1 : zI Z n 1 = (kN k : Int) := by
    obtain ⟨h0, k', o, pos, hpm, hord, hsrt, hs, -⟩ := hc
    rw [hs.1, hpm.1]
  have rr : ∀ t, t < kN k → 0 ≤ eL k t ∧ eL k t ≤ eEnd k := fun t ht => by
    have := c4.el ho ht
    have := c4.e ho ht
    have := ho.len ht
    omega
  refine e_X7_tellChain hn hu ?_
  rw [h1]
  have L2 : ∀ (m i : Nat) (x : Int) (W : Zm) (d g : Nat → Int), i + m = kN k → zF (zB (n + 8) (n + 10)) 0 0 Z W → isSt k (d 0) → d i = x → (x = -1 ∨ 0 ≤ x ∧ x < kN k ∧ i ≤ pos x.toNat) → (∀ a, a < i → (0 ≤ d a ∧ d a < kN k ∧ isNx k (d a).toNat (d (a + 1)) ∧ isLg k (d a).toNat (d (a + 1)) (g a)) ∧ zI W (n + 8) a = d a ∧ zI W (n + 9) a = g a) → ZP G 3 m_X7_tellChain 35 [some (.ref n), some (.ref u), some (iv x), some (iv (i : Int)), none] [] W (fun r Z' => ∃ (q : Nat) (d g : Nat → Int), isTold k d g q ∧ r = .inl (some (iv (q : Int))) ∧ zF (zB (n + 8) (n + 10)) 0 0 Z Z' ∧ ∀ i, i < q → zI Z' (n + 8) i = d i ∧ zI Z' (n + 9) i = g i) := by
    intro m
    induction m with
    | zero =>
      intro i x W d g hi f hst hd hx hw
      have hx1 : x = -1 := by
        rcases hx with h | ⟨h2, h3, h4⟩
        · exact h
        · have := hpos x.toNat (by omega)
          omega
      have e1 : zI W n 1 = (kN k : Int) := by rw [f.i hn.o.1 (by unfold zB; omega)]; exact h1
      refine b_X7_tellChain_35 (hn.ext f.1) (hu.ext f.1) ⟨by omega, by rw [e1]; omega, ?_⟩
      rw [e1, if_pos (by omega)]
      exact ⟨i, d, g, ⟨hst, by omega, fun a ha => (hw a ha).1, by rw [hd, hx1]⟩, rfl, f, fun a ha => (hw a ha).2⟩
    | succ m ih =>
      intro i x W d g hi f hst hd hx hw
      have e1 : zI W n 1 = (kN k : Int) := by rw [f.i hn.o.1 (by unfold zB; omega)]; exact h1
      refine b_X7_tellChain_35 (hn.ext f.1) (hu.ext f.1) ⟨by omega, by rw [e1]; omega, ?_⟩
      rw [e1, if_neg (by omega)]
      rcases hx with h | ⟨h2, h3, h4⟩
      · rw [if_pos (by omega)]
        exact ⟨by omega, i, d, g, ⟨hst, by omega, fun a ha => (hw a ha).1, by rw [hd, h]⟩, rfl, f, fun a ha => (hw a ha).2⟩
      · rw [if_neg (by omega)]
        refine ⟨by omega, zIx_nat (by omega) (by omega), ?_⟩
        rintro _ rfl
        rw [Int.toNat_natCast]
        generalize hW1 : zSI W (n + 8) (zu (zI W (n + 8)) i x) = W1
        have f1 : zF (zB (n + 8) (n + 10)) 0 0 W W1 := by rw [← hW1]; exact zF_I ⟨by omega, by omega⟩
        have g1 : zF (zB (n + 8) (n + 10)) 0 0 Z W1 := f.trans f1
        have hc1 : cN W1 n k := hc.frame hn g1 fun a h1 h2 => by unfold zB; omega
        have hl1 : ∀ t, t < kN k → zI W1 u t = kF k 0 t := fun t ht => by
          rw [g1.i hu.1 (by unfold zB; omega)]
          exact hlen t ht
        have ex : ((x.toNat : Nat) : Int) = x := by omega
        have hc9 := s_nextOnChain (G := G) (t := x.toNat) (hn.ext g1.1) (hu.ext g1.1) hc1 ho hl1 (by omega)
        rw [ex] at hc9
        refine hc9.mono ?_
        rintro r W2 ⟨y, rfl, rfl, hy⟩
        have w8 : ∀ a, a < i + 1 → zI W2 (n + 8) a = if a = i then x else d a := fun a ha => by
          rw [← hW1, zI_same]
          show (if a = i then x else zI W (n + 8) a) = _
          by_cases c : a = i
          · rw [if_pos c, if_pos c]
          · rw [if_neg c, if_neg c]
            exact (hw a (by omega)).2.1
        have w9 : zI W2 (n + 9) = zI W (n + 9) := by rw [← hW1, zI_other (by omega)]
        rcases hy with ⟨rfl, hy⟩ | ⟨j, hj, rfl, hy1, hy2, hy3⟩
        · refine b_X7_tellChain_60 (hn.ext g1.1) (hu.ext g1.1) ⟨by decide, fun g => absurd g (by decide), zIx_nat (by omega) (by omega), ?_⟩
          rintro _ rfl
          rw [if_neg (by decide)]
          refine ⟨fun g => absurd g (by decide), ?_⟩
          rw [if_neg (by decide), Int.toNat_natCast]
          refine ih (i + 1) _ _ (zu d (i + 1) (-1)) (zu g i 0) (by omega) (g1.trans (zF_I ⟨by omega, by omega⟩)) (by rw [zu_other (by omega)]; exact hst) (zu_same _ _ _) (Or.inl rfl) fun a ha => ?_
          rw [zI_other (by omega), w8 a ha, zI_same, w9]
          have d0 : zu d (i + 1) (-1) a = d a := zu_other (by omega)
          rw [d0]
          by_cases c : a = i
          · subst c
            rw [zu_same, zu_same, zu_same, if_pos rfl, hd]
            exact ⟨⟨h2, h3, hy, Or.inl ⟨rfl, rfl⟩⟩, rfl, rfl⟩
          · rw [zu_other (by omega), zu_other c, zu_other c, if_neg c]
            exact ⟨(hw a (by omega)).1, rfl, (hw a (by omega)).2.2⟩
        · have hyr := isNx_r ho hy1
          refine b_X7_tellChain_60 (hn.ext g1.1) (hu.ext g1.1) ⟨by omega, fun _ => ⟨zIx_nat (by omega) (by omega), trivial⟩, zIx_nat (by omega) (by omega), ?_⟩
          rintro _ rfl
          rw [if_pos (by omega)]
          refine ⟨fun _ => ⟨zIx_nat (by omega) (by omega), trivial⟩, ?_⟩
          rw [if_pos (by omega), Int.toNat_natCast, Int.toNat_natCast, zI_other (by omega)]
          refine ih (i + 1) _ _ (zu d (i + 1) (zI W2 (n + 4) j)) (zu g i (zI W2 (n + 5) j)) (by omega) (g1.trans (zF_I ⟨by omega, by omega⟩)) (by rw [zu_other (by omega)]; exact hst) (zu_same _ _ _) (Or.inr ⟨hy2, by omega, ?_⟩) fun a ha => ?_
          · rcases hy1 with ⟨e, _⟩ | ⟨j', hj', a1, a2, a3, _⟩
            · omega
            · have := hpl j' hj'
              rw [a3, Int.toNat_natCast]
              rw [a1] at this
              omega
          · rw [zI_other (by omega), w8 a ha, zI_same, w9]
            have d0 : zu d (i + 1) (zI W2 (n + 4) j) a = d a := zu_other (by omega)
            rw [d0]
            by_cases c : a = i
            · subst c
              rw [zu_same, zu_same, zu_same, if_pos rfl, hd]
              exact ⟨⟨h2, h3, hy1, hy3⟩, rfl, rfl⟩
            · rw [zu_other (by omega), zu_other c, zu_other c, if_neg c]
              exact ⟨(hw a (by omega)).1, rfl, (hw a (by omega)).2.2⟩
  suffices L1 : ∀ (j : Nat) (x : Int), j ≤ kN k → ((x = -1 ∧ ∀ t, j ≤ t → t < kN k → eR k t ≠ eEnd k) ∨ ∃ t : Nat, t < kN k ∧ x = (t : Int) ∧ eR k t = eEnd k ∧ ∀ s, j ≤ s → s < t → eR k s ≠ eEnd k) → ZP G 3 m_X7_tellChain 9 [some (.ref n), some (.ref u), some (iv x), some (iv ((j : Int) - 1)), none] [] Z (fun r Z' => ∃ (q : Nat) (d g : Nat → Int), isTold k d g q ∧ r = .inl (some (iv (q : Int))) ∧ zF (zB (n + 8) (n + 10)) 0 0 Z Z' ∧ ∀ i, i < q → zI Z' (n + 8) i = d i ∧ zI Z' (n + 9) i = g i) from L1 (kN k) (-1) (Nat.le_refl _) (Or.inl ⟨rfl, fun t _ _ => by omega⟩)
  intro j
  induction j with
  | zero =>
    intro x hj hx
    refine b_X7_tellChain_9 hn hu ⟨by omega, ?_⟩
    rw [if_pos (by omega)]
    have hst : isSt k x := by
      rcases hx with ⟨rfl, h⟩ | ⟨t, ht, rfl, h1, h2⟩
      · exact Or.inl ⟨rfl, fun t ht => h t (Nat.zero_le _) ht⟩
      · exact Or.inr ⟨t, ht, rfl, h1, fun s hs => h2 s (Nat.zero_le _) hs⟩
    refine L2 (kN k) 0 x Z (fun _ => x) (fun _ => 0) (by omega) zF.refl hst rfl ?_ fun a ha => by omega
    rcases hst with ⟨rfl, _⟩ | ⟨t, ht, rfl, _⟩
    · exact Or.inl rfl
    · exact Or.inr ⟨by omega, by omega, Nat.zero_le _⟩
  | succ j ih =>
    intro x hj hx
    have g := rr j (by omega)
    refine b_X7_tellChain_9 hn hu ⟨by omega, ?_⟩
    rw [if_neg (by omega), show (((j + 1 : Nat) : Int) - 1) = (j : Int) by omega, Int.toNat_natCast, c2, c3 j (by omega)]
    refine ⟨zIx_nat (by omega) (by omega), by omega, by omega, ?_⟩
    rw [show (j : Int) + -1 = (j : Int) - 1 by omega]
    by_cases c : eEnd k - eL k j = eEnd k
    · rw [if_pos c]
      refine ih _ (by omega) (Or.inr ⟨j, by omega, rfl, c, fun s h1 h2 => by omega⟩)
    · rw [if_neg c]
      refine ih x (by omega) ?_
      rcases hx with ⟨rfl, h⟩ | ⟨t, ht, rfl, h1, h2⟩
      · refine Or.inl ⟨rfl, fun t h1 h2 => ?_⟩
        by_cases d : t = j
        · rw [d]
          exact c
        · exact h t (by omega) h2
      · refine Or.inr ⟨t, ht, rfl, h1, fun s h3 h4 => ?_⟩
        by_cases d : s = j
        · rw [d]
          exact c
        · exact h2 s (by omega) h4
theorem s_lengthOfChain {G : Gx} {Z : Zm} {n u : Nat} {k : Bk} (hn : atNet Z n) (hu : zA Z u 100 20) (hc : cN Z n k) (ho : kOk k) (hlen : ∀ t, t < kN k → zI Z u t = kF k 0 t) (hun : u < n + 8 ∨ n + 10 ≤ u) : ZM G 4 m_X7_lengthOfChain [.ref n, .ref u] Z (fun r Z' => r = .inl (some (iv (eEnd k))) ∧ zF (zB (n + 8) (n + 10)) 0 0 Z Z') := by
  have hN := ho.n
  refine e_X7_lengthOfChain hn hu ((s_tellChain hn hu hc ho hlen hun).mono ?_)
  rintro r W ⟨q, d, g, ht, rfl, f, w⟩
  have hq := ht.2.1
  refine b_X7_lengthOfChain_5 (hn.ext f.1) (hu.ext f.1) ?_
  suffices key : ∀ (m i : Nat), i + m = q → ZP G 4 m_X7_lengthOfChain 11 [some (.ref n), some (.ref u), some (iv (q : Int)), some (iv (zsum (fun i => kF k 0 (d i).toNat + g i) i)), some (iv (i : Int))] [] W (fun r Z' => r = .inl (some (iv (eEnd k))) ∧ zF (zB (n + 8) (n + 10)) 0 0 Z Z') from key q 0 (by omega)
  intro m
  induction m with
  | zero =>
    intro i hi
    refine b_X7_lengthOfChain_11 (hn.ext f.1) (hu.ext f.1) ⟨by omega, by omega, ?_⟩
    rw [if_pos (by omega), show i = q by omega, isTold_sum ho (hc.e ho).2.2.2 ht]
    exact ⟨rfl, f⟩
  | succ m ih =>
    intro i hi
    obtain ⟨a1, a2, -, -⟩ := ht.2.2.1 i (by omega)
    refine b_X7_lengthOfChain_11 (hn.ext f.1) (hu.ext f.1) ⟨by omega, by omega, ?_⟩
    rw [if_neg (by omega), Int.toNat_natCast, (w i (by omega)).1, (w i (by omega)).2, f.i hu.1 (by unfold zB; omega), hlen _ (by omega)]
    exact ⟨zIx_nat (by omega) (by omega), ⟨a1, by omega, by omega⟩, ih (i + 1) (by omega)⟩
