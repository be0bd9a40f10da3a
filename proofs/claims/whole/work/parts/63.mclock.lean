/-! ===== the model's clock ===== -/
theorem ckI.eqn {k : Bk} (ho : kOk k) {W : Nat → Nat → Int} {pos : Nat → Nat} {F : Nat → Prop} {b e b' e' : Nat → Int} (h : ckI k W pos F b e) (hb : ∀ t, t < kN k → b' t = b t ∧ e' t = e t) : ckI k W pos F b' e' := fun t ht hf => by
  obtain ⟨h1, ⟨L, h2, h3⟩, h4⟩ := h t ht hf
  obtain ⟨e1, e2⟩ := hb t ht
  rw [e1, e2]
  exact ⟨h1, ⟨L, h2.eqn fun i hi _ => (hb _ (ho.e hi)).2, h3⟩, h4⟩
def cWks (Z : Zm) (a : Nat) (W : Nat → Nat → Int) : Prop := ∀ c, c < 4 → cWk Z (a + c) (W c)
def isRow (w : Nat → Int) (x n : Nat) : Prop := ∀ i, x ≤ i → i < x + n → w (i % 168) = 1
theorem s_isRow {G : Gx} {Z : Zm} {B c x n : Nat} {w : Nat → Int} (hm : atModel Z 300 B) (hc : c < 4) (hw : cWk Z (305 + c) w) (hx : x ≤ 1000000) (hn : n ≤ 60) : ZM G 0 m_X12_isRow [.ref 300, iv (c : Int), iv (x : Int), iv (n : Int)] Z (fun r W => (∃ s, r = .inl (some (iv s)) ∧ ((s = 1 ∧ isRow w x n) ∨ (s = 0 ∧ ¬ isRow w x n))) ∧ W = Z) := by
  refine e_X12_isRow hm ?_
  suffices key : ∀ j, j ≤ n → ∀ s, ((s = 1 ∧ isRow w x j) ∨ (s = 0 ∧ ¬ isRow w x n)) → ZP G 0 m_X12_isRow 6 [some (.ref 300), some (iv (c : Int)), some (iv (x : Int)), some (iv (n : Int)), some (iv s), some (iv ((x + j : Nat) : Int))] [] Z (fun r W => (∃ s, r = .inl (some (iv s)) ∧ ((s = 1 ∧ isRow w x n) ∨ (s = 0 ∧ ¬ isRow w x n))) ∧ W = Z) from key 0 (Nat.zero_le _) 1 (Or.inl ⟨rfl, fun i i1 i2 => by omega⟩)
  refine am_up (n := n) fun j hj ih s hs => ?_
  have s01 : s = 0 ∨ s = 1 := by
    rcases hs with ⟨h, -⟩ | ⟨h, -⟩
    · exact Or.inr h
    · exact Or.inl h
  refine b_X12_isRow_6 hm ⟨by omega, by omega, ?_⟩
  by_cases d : j < n
  · rw [if_neg (by omega)]
    refine ⟨by omega, ?_⟩
    by_cases e : s = 0
    · rw [if_pos e]
      refine ⟨s01, ⟨s, rfl, ?_⟩, rfl⟩
      rcases hs with ⟨h, -⟩ | h
      · omega
      · exact Or.inr h
    · rw [if_neg e]
      have em : (((x + j : Nat) : Int) % 168).toNat = (x + j) % 168 := by omega
      obtain ⟨e1, e2⟩ := hw.r (x + j)
      have h1 : isRow w x j := by
        rcases hs with ⟨-, h⟩ | ⟨h, -⟩
        · exact h
        · exact absurd h e
      rw [em, show 300 + 5 + (c : Int).toNat = 305 + c by omega, e1]
      refine ⟨zIx_nat (by omega) (by omega), by omega, ⟨by omega, by omega, by decide⟩, ih d _ ?_⟩
      rcases e2 with g | g
      · exact Or.inr ⟨g, fun q => by have := q (x + j) (by omega) (by omega); omega⟩
      · refine Or.inl ⟨g, fun i i1 i2 => ?_⟩
        by_cases q : i = x + j
        · rw [q]
          exact g
        · exact h1 i i1 (by omega)
  · rw [if_pos (by omega)]
    have ej : j = n := by omega
    rw [ej] at hs
    exact ⟨s01, ⟨s, rfl, hs⟩, rfl⟩
/-- the hours of a task that pauses, to the hour l + i -/
def sPz (w : Nat → Int) (l n i : Nat) (b r : Int) : Prop := r = (n : Int) - cW w l i ∧ ((b = -1 ∧ cW w l i = 0 ∧ ∀ j, j < i → w ((l + j) % 168) ≠ 1) ∨ (1 ≤ cW w l i ∧ ∃ c : Nat, isRB w l 1 c ∧ c < l + i ∧ b = (c : Int))) ∧ (cW w l i < n ∨ isPE w l n (l + i))
theorem sPz.no {w : Nat → Int} (hw : w01 w) {l n i : Nat} {b r : Int} (h : sPz w l n i b r) (c : w ((l + i) % 168) = 0) (hr : 0 < r) : sPz w l n (i + 1) b r := by
  obtain ⟨h1, h2, h3⟩ := h
  have hs := cW_s w l i
  rw [c, Int.add_zero] at hs
  refine ⟨by rw [hs]; exact h1, ?_, Or.inl (by omega)⟩
  rw [hs]
  rcases h2 with ⟨a1, a2, a3⟩ | ⟨a1, x, a2, a3, a4⟩
  · refine Or.inl ⟨a1, a2, fun j hj => ?_⟩
    by_cases e : j = i
    · rw [e, c]
      decide
    · exact a3 j (by omega)
  · exact Or.inr ⟨a1, x, a2, by omega, a4⟩
theorem sPz.yes {w : Nat → Int} (hw : w01 w) {l n i : Nat} {b r : Int} (h : sPz w l n i b r) (c : w ((l + i) % 168) = 1) (hr : 0 < r) : sPz w l n (i + 1) (if r = (n : Int) then ((l + i : Nat) : Int) else b) (r + -1) := by
  obtain ⟨h1, h2, h3⟩ := h
  have hs := cW_s w l i
  have h0 := (cW_r hw l i).1
  rw [c] at hs
  refine ⟨by omega, Or.inr ⟨by omega, ?_⟩, ?_⟩
  · rcases h2 with ⟨a1, a2, a3⟩ | ⟨a1, x, a2, a3, a4⟩
    · rw [if_pos (by omega)]
      refine ⟨l + i, ⟨by omega, fun j j1 j2 => ?_, fun b' b1 b2 => ⟨b', Nat.le_refl _, by omega, ?_⟩⟩, by omega, rfl⟩
      · rw [show j = l + i by omega]
        exact c
      · have := a3 (b' - l) (by omega)
        rw [show l + (b' - l) = b' by omega] at this
        exact this
    · rw [if_neg (by omega)]
      exact ⟨x, a2, by omega, a4⟩
  · by_cases g : cW w l i + 1 < n
    · exact Or.inl (by omega)
    · refine Or.inr ⟨by omega, ?_, ?_⟩
      · rw [show l + (i + 1) - l = i + 1 by omega]
        omega
      · rw [show l + (i + 1) - 1 = l + i by omega]
        exact c
theorem s_mlets {G : Gx} {Z : Zm} {B u x : Nat} {k : Bk} {W : Nat → Nat → Int} {L : Int} (hm : atModel Z 300 B) (hk : cM Z B k) (hw : cWks Z 305 W) (hW : wOk W) (ho : kOk k) (hu : zA Z u 100 40) (hu2 : 322 ≤ u) (hB : B ≠ u) (hx : x < kN k) (hL : -1 ≤ L ∧ L ≤ 300000) : ZM G 1 m_X12_lets [.ref 300, .ref u, iv (x : Int), iv L] Z (fun r Y => r = .inl none ∧ ∃ b e, isTk (W (kF k 3 x).toNat) (kF k 0 x) (kF k 5 x) L b e ∧ Y = zSI Z u (zu (zu (zI Z u) x b) (20 + x) e)) := by
  have hN := ho.n
  have hM := ho.m
  have hc := ho.c hx
  have hd := ho.len hx
  have h5 := ho.f (r := 5) (by omega) hx
  obtain ⟨w1, w2⟩ := hW (kF k 3 x).toNat (by omega)
  have mU : ∀ f, atModel (zSI Z u f) 300 B := fun f => hm.s
  have aU : ∀ f, zA (zSI Z u f) u 100 40 := fun f => hu.s
  have eB : ∀ f, zI (zSI Z u f) B = zI Z B := fun f => zI_other hB
  have kU : ∀ f, cM (zSI Z u f) B k := fun f => hk.of (fun i _ => by rw [eB]) ⟨hN, hM⟩
  have wU : ∀ f, cWk (zSI Z u f) (305 + (kF k 3 x).toNat) (W (kF k 3 x).toNat) := fun f => ⟨w1, fun i hi => by
    rw [zI_other (by omega)]
    exact (hw (kF k 3 x).toNat (by omega)).2 i hi⟩
  refine e_X12_lets hm hu ⟨zIx_nat (by omega) (by omega), zIx_nat (by omega) (by omega), ?_⟩
  rintro _ rfl
  refine ⟨⟨by omega, by omega, by decide⟩, ?_⟩
  rintro _ rfl
  have e20 : (20 + (x : Int)).toNat = 20 + x := by omega
  rw [Int.toNat_natCast, zI_same, zSI_zSI, e20]
  generalize hf : zI Z u = f
  refine ⟨by omega, ?_⟩
  by_cases c1 : L = -1
  · rw [if_pos c1]
    exact ⟨rfl, -1, -1, Or.inl ⟨c1, rfl, rfl⟩, rfl⟩
  rw [if_neg c1]
  obtain ⟨l, rfl⟩ : ∃ l : Nat, L = (l : Int) := ⟨L.toNat, by omega⟩
  obtain ⟨n, hn⟩ : ∃ n : Nat, kF k 0 x = (n : Int) := ⟨(kF k 0 x).toNat, by omega⟩
  have q5 : ∀ g, mG (zSI Z u g) B x 5 = kF k 5 x := fun g => ((kU g).2.2.1 x hx).1 5 (by omega)
  have q3 : mG Z B x 3 = kF k 3 x := (hk.2.2.1 x hx).1 3 (by omega)
  have q0 : mG Z B x 0 = kF k 0 x := (hk.2.2.1 x hx).1 0 (by omega)
  rw [q5, q3, q0, hn]
  refine ⟨by omega, ?_⟩
  have e3 : ((kF k 3 x).toNat : Int) = kF k 3 x := by omega
  by_cases c2 : kF k 5 x = 1
  · rw [if_pos c2]
    suffices key : ∀ i, i ≤ 168 * n → ∀ b r, sPz (W (kF k 3 x).toNat) l n i b r → ZP G 1 m_X12_lets 50 [some (.ref 300), some (.ref u), some (iv (x : Int)), none, some (iv (kF k 3 x)), some (iv (n : Int)), some (iv ((l + i : Nat) : Int)), some (iv r)] [] (zSI Z u (zu (zu f x b) (20 + x) (-1))) (fun r Y => r = .inl none ∧ ∃ b e, isTk (W (kF k 3 x).toNat) (n : Int) (kF k 5 x) (l : Int) b e ∧ Y = zSI Z u (zu (zu f x b) (20 + x) e)) from key 0 (Nat.zero_le _) (-1) n ⟨by show _ = (n : Int) - 0; omega, Or.inl ⟨rfl, rfl, fun j hj => absurd hj (Nat.not_lt_zero _)⟩, Or.inl (by show (0 : Int) < _; omega)⟩
    refine am_up (n := 168 * n) fun i hi ih b r hs => ?_
    have hr := cW_r w1 l i
    have h1 := hs.1
    refine b_X12_lets_50 (mU _) (aU _) ⟨by omega, ?_⟩
    by_cases c3 : r ≤ 0
    · rw [if_pos c3]
      refine ⟨⟨by omega, by omega, by decide⟩, ?_⟩
      rintro _ rfl
      rw [zI_same, zSI_zSI, e20, zu_zu]
      obtain ⟨h1, h2, h3⟩ := hs
      rcases h3 with h3 | h3
      · omega
      · rcases h2 with ⟨a1, a2, a3⟩ | ⟨a1, y, a2, a3, a4⟩
        · omega
        · exact ⟨rfl, b, _, Or.inr ⟨l, n, rfl, rfl, Or.inl ⟨c2, y, l + i, a2, h3, a4, rfl⟩⟩, rfl⟩
    · have c4 : i < 168 * n := by
        refine Classical.byContradiction fun g => ?_
        have h7 := cW_weeks (W (kF k 3 x).toNat) l n
        have h8 := zsum_w1 w1 w2
        have h9 : (1 : Int) * n ≤ zsum (W (kF k 3 x).toNat) 168 * n := Int.mul_le_mul_of_nonneg_right h8 (by omega)
        rw [show i = 168 * n by omega] at h1
        omega
      have em : (((l + i : Nat) : Int) % 168).toNat = (l + i) % 168 := by omega
      obtain ⟨y1, y2⟩ := (wU (zu (zu f x b) (20 + x) (-1))).r (l + i)
      rw [if_neg c3, em, show 300 + 5 + (kF k 3 x).toNat = 305 + (kF k 3 x).toNat by omega, y1]
      refine ⟨⟨by omega, by omega, by decide⟩, by omega, by omega, ⟨by omega, by omega, by decide⟩, by omega, ?_⟩
      by_cases c5 : W (kF k 3 x).toNat ((l + i) % 168) = 0
      · rw [if_pos c5]
        exact ih c4 b r (hs.no w1 c5 (by omega))
      · rw [if_neg c5]
        refine ⟨by omega, fun _ => ⟨zIx_nat (by omega) (by omega), trivial⟩, zIx_nat (by omega) (by omega), ?_⟩
        rintro _ rfl
        have g := hs.yes w1 (y2.resolve_left c5) (by omega)
        have h8 := ih c4 _ _ g
        have eg : zu (zu (zu f x b) (20 + x) (-1)) x (if r = (n : Int) then ((l + i : Nat) : Int) else zu (zu f x b) (20 + x) (-1) x) = zu (zu f x (if r = (n : Int) then ((l + i : Nat) : Int) else b)) (20 + x) (-1) := by
          rw [zu_other (f := zu f x b) (k := 20 + x) (show x ≠ 20 + x by omega), zu_same, zu_comm _ _ _ (show 20 + x ≠ x by omega), zu_zu]
        rw [Int.toNat_natCast, zI_same, zSI_zSI, eg]
        exact h8
  · rw [if_neg c2]
    suffices key : ∀ i, i ≤ 169 → (∀ b, l ≤ b → b < l + i → ¬ isRow (W (kF k 3 x).toNat) b n) → ZP G 1 m_X12_lets 111 [some (.ref 300), some (.ref u), some (iv (x : Int)), some (iv (l : Int)), some (iv (kF k 3 x)), some (iv (n : Int)), some (iv ((l + i : Nat) : Int)), none] [] (zSI Z u (zu (zu f x (-1)) (20 + x) (-1))) (fun r Y => r = .inl none ∧ ∃ b e, isTk (W (kF k 3 x).toNat) (n : Int) (kF k 5 x) (l : Int) b e ∧ Y = zSI Z u (zu (zu f x b) (20 + x) e)) from key 0 (Nat.zero_le _) fun b b1 b2 => by omega
    refine am_up (n := 169) fun i hi ih hs => ?_
    have ex : ∀ (v w : Int), zu (zu f x v) (20 + x) w x = v := fun v w => by rw [zu_other (show x ≠ 20 + x by omega), zu_same]
    have cong : ∀ b b' : Nat, (∀ i, i < n → W (kF k 3 x).toNat ((b + i) % 168) = W (kF k 3 x).toNat ((b' + i) % 168)) → isRow (W (kF k 3 x).toNat) b n → isRow (W (kF k 3 x).toNat) b' n := fun b b' h r i i1 i2 => by
      have := h (i - b') (by omega)
      rw [show b' + (i - b') = i by omega] at this
      rw [← this]
      exact r _ (by omega) (by omega)
    refine b_X12_lets_111 (mU _) (aU _) ⟨by omega, by omega, ?_⟩
    by_cases c3 : i ≤ 168
    · rw [if_neg (by omega)]
      refine ⟨zIx_nat (by omega) (by omega), by rw [zI_same, Int.toNat_natCast, ex]; decide, ?_⟩
      rw [if_pos (by rw [zI_same, Int.toNat_natCast, ex])]
      rw [← e3]
      refine (s_isRow (c := (kF k 3 x).toNat) (mU _) (by omega) (wU _) (by omega) (by omega)).mono ?_
      rintro r Y ⟨⟨s, rfl, hs2⟩, hY⟩
      obtain rfl := hY.symm
      refine b_X12_lets_138 (mU _) (aU _) ⟨by omega, ?_⟩
      rcases hs2 with ⟨s1, hr⟩ | ⟨s1, hr⟩
      · rw [if_neg (by omega)]
        refine ⟨zIx_nat (by omega) (by omega), ?_⟩
        rintro _ rfl
        refine ⟨⟨by omega, by omega, by decide⟩, ?_⟩
        rintro _ rfl
        have eg : zu (zu (zu (zu f x (-1)) (20 + x) (-1)) x ((l + i : Nat) : Int)) (20 + x) (((l + i : Nat) : Int) + n) = zu (zu f x ((l + i : Nat) : Int)) (20 + x) (((l + i : Nat) : Int) + n) := by
          rw [zu_comm _ _ _ (show 20 + x ≠ x by omega), zu_zu, zu_zu]
        rw [Int.toNat_natCast, zI_same, zSI_zSI, zI_same, zSI_zSI, e20, eg]
        have fin : isTk (W (kF k 3 x).toNat) (n : Int) (kF k 5 x) (l : Int) ((l + i : Nat) : Int) (((l + i : Nat) : Int) + n) := Or.inr ⟨l, n, rfl, rfl, Or.inr ⟨c2, Or.inl ⟨l + i, ⟨by omega, hr, fun b' b1 b2 => ?_⟩, rfl, rfl⟩⟩⟩
        · refine b_X12_lets_111 (mU _) (aU _) ⟨by omega, by omega, ?_⟩
          by_cases c4 : (l : Int) + 168 < ((l + i : Nat) : Int) + 1
          · rw [if_pos c4]
            exact ⟨rfl, _, _, fin, rfl⟩
          · rw [if_neg c4, if_neg (by rw [zI_same, Int.toNat_natCast, ex]; omega)]
            exact ⟨zIx_nat (by omega) (by omega), by rw [zI_same, Int.toNat_natCast, ex]; omega, rfl, _, _, fin, rfl⟩
        · exact Classical.byContradiction fun g => hs b' b1 b2 fun i i1 i2 => Classical.byContradiction fun g2 => g ⟨i, i1, i2, g2⟩
      · rw [if_pos s1]
        rw [e3]
        refine ih (by omega) fun b b1 b2 => ?_
        by_cases g : b = l + i
        · rw [g]
          exact hr
        · exact hs b b1 (by omega)
    · rw [if_pos (by omega)]
      refine ⟨rfl, -1, -1, Or.inr ⟨l, n, rfl, rfl, Or.inr ⟨c2, Or.inr ⟨fun b hb => ?_, rfl, rfl⟩⟩⟩, rfl⟩
      refine Classical.byContradiction fun g => hs (l + (b - l) % 168) (by omega) (by omega) (cong b _ (fun i hi => ?_) fun i i1 i2 => Classical.byContradiction fun g2 => g ⟨i, i1, i2, g2⟩)
      congr 1
      omega
