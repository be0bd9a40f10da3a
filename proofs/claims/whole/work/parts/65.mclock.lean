/-! ===== the model's calls of the clock ===== -/
theorem b01_b2 {x : Int} (h : x = 0 ∨ x = 1) : b2 (¬ x = 0) = x := by
  rcases h with g | g
  · rw [g]
    rfl
  · rw [g]
    rfl
theorem IMb.week {Z : Zm} {B a : Nat} {σ : St} {f : Nat → Int} {W : Nat → Nat → Int} (h : IMb Z B σ) (ho : okS σ) (ha : 305 ≤ a ∧ a < 309) (hf : ∀ h, h < 168 → f h = W (a - 305) h) (hW : ∀ c h, c < 4 → h < 168 → c ≠ a - 305 → W c h = sW σ c h) : IMb (zSI Z a f) B (stW σ W) := by
  have e : ∀ b, b ≠ a → zI (zSI Z a f) b = zI Z b := fun b g => zI_other g
  refine h.up (σ' := stW σ W) ⟨Nat.le_refl _, fun _ _ => ⟨rfl, rfl, rfl⟩⟩ (fun b g1 g2 => e b (by omega)) rfl rfl rfl (by rw [e 300 (by omega)]) (by rw [e 300 (by omega), e 303 (by omega)]; exact h.tx) (fun c q g1 g2 => ?_) (by rw [e 309 (by omega)]; exact h.ha) (by rw [e 300 (by omega), e 310 (by omega)]; exact h.ty) ?_ (by rw [e 300 (by omega), e 314 (by omega)]; exact h.kb) ho.k ho.h
  · show _ = W c q
    by_cases d : c = a - 305
    · rw [d, show 305 + (a - 305) = a by omega, zI_same]
      exact hf q g2
    · rw [e (305 + c) (by omega), h.wk c q g1 g2, hW c q g1 g2 d]
  · rw [mPl, e 300 (by omega), e 313 (by omega), e 311 (by omega), e 312 (by omega)]
    exact h.pl
theorem d_hours {G : Gx} {Z : Zm} {B : Nat} {σ : St} {x y z q : Int} (h : IMb Z B σ) (ho : okS σ) (hz : 322 ≤ zSz Z ∧ zSz Z < 990000) (hx : R32 x) (hy : R32 y) (hzz : R32 z) (hq : q = 0 ∨ q = 1) : ZM G 12 m_X12_hours [.ref 300, iv x, iv y, iv z, iv q] Z (rM Z iv (o_hours σ x y z q)) := by
  refine e_X12_hours h.1 ⟨hx, fun _ => ⟨hy, fun _ => ⟨hzz, by omega, trivial⟩, trivial⟩, ?_⟩
  unfold o_hours
  by_cases c1 : (0 ≤ x ∧ x ≤ 3) ∧ (0 ≤ y ∧ y ≤ 167) ∧ y + 1 ≤ z ∧ z ≤ 168
  case neg =>
    rw [cIf_f c1, b2_f c1]
    refine b_X12_hours_46 h.1 ⟨by decide, ?_⟩
    rw [if_neg (by decide)]
    refine ⟨by decide, ?_⟩
    rw [if_pos rfl]
    refine ⟨by decide, ?_⟩
    rintro _ rfl
    rw [fC_1 (P := (0 : Int) = 0) rfl, if_pos (by decide)]
    exact rM.no h (by decide) rfl
  rw [cIf_p c1, b2_p c1]
  obtain ⟨c, rfl⟩ : ∃ n : Nat, x = (n : Int) := ⟨x.toNat, by omega⟩
  obtain ⟨a, rfl⟩ : ∃ n : Nat, y = (n : Int) := ⟨y.toNat, by omega⟩
  obtain ⟨b, rfl⟩ : ∃ n : Nat, z = (n : Int) := ⟨z.toNat, by omega⟩
  have hc : c < 4 := by omega
  have hw0 := (ho.w c hc).1
  have hw := newW_01 (y := a) (z := b) hw0 hq
  rw [Int.toNat_natCast, Int.toNat_natCast, Int.toNat_natCast]
  have bd : ∀ j, j ≤ 168 → 0 ≤ zsum (newW (sW σ) c a b q c) j ∧ zsum (newW (sW σ) c a b q c) j ≤ 168 := fun j hj => by
    have := zsum_bound (f := newW (sW σ) c a b q c) (n := j) (a := 0) (b := 1) fun i hi => by
      rcases hw i (by omega) with e | e <;> omega
    omega
  have wk := fun i (hi : i < 168) => h.wk c i hc hi
  -- the row is written
  have tell : ∀ s, ZP G 12 m_X12_hours 140 [some (.ref 300), some (iv (c : Int)), none, some (iv (b : Int)), some (iv q), none, some (iv s), some (iv (a : Int))] [] (zT Z 0) (rM Z iv (0, s, stW σ (newW (sW σ) c a b q))) := fun s => by
    suffices key : ∀ j, j ≤ b - a → ∀ f, (∀ h, h < 168 → f h = newW (sW σ) c a (a + j) q c h) → ZP G 12 m_X12_hours 140 [some (.ref 300), some (iv (c : Int)), none, some (iv (b : Int)), some (iv q), none, some (iv s), some (iv ((a + j : Nat) : Int))] [] (zSI (zT Z 0) (305 + c) f) (rM Z iv (0, s, stW σ (newW (sW σ) c a b q))) by
      have h9 := key 0 (Nat.zero_le _) (zI (zT Z 0) (305 + c)) fun i hi => by
        rw [zI_other (show 305 + c ≠ 300 by omega), wk i hi]
        exact (if_neg (by omega)).symm
      rw [zSI_id] at h9
      exact h9
    refine am_up (n := b - a) fun j hj ih f hf => ?_
    refine b_X12_hours_140 (h.t 0).1.s ⟨by omega, by omega, ?_⟩
    by_cases d : j < b - a
    · rw [if_neg (by omega)]
      refine ⟨zIx_nat (by omega) (by omega), zIx_nat (by omega) (by omega), hq, ?_⟩
      rintro _ rfl
      rw [Int.toNat_natCast, Int.toNat_natCast, show 300 + 5 + c = 305 + c by omega, zI_same, zSI_zSI]
      refine ih d _ fun i hi => ?_
      by_cases g : i = a + j
      · rw [g, zu_same]
        exact (if_pos ⟨rfl, by omega, by omega⟩).symm
      · rw [zu_other g, hf i hi]
        unfold newW
        by_cases g2 : c = c ∧ a ≤ i ∧ i < a + j
        · rw [if_pos g2, if_pos (by omega)]
        · rw [if_neg g2, if_neg (by omega)]
    · rw [if_pos (by omega)]
      rw [show a + j = b by omega] at hf
      refine rM.ok (B := B) ((h.t 0).week ho (by omega) (fun i hi => by rw [show 305 + c - 305 = c by omega]; exact hf i hi) fun c' i g1 g2 g3 => if_neg (by omega)) ?_ (zV_t.trans (zV_I (by omega))) (by omega) (by omega) rfl
      rw [zI_other (by omega), zI_t]
  suffices key : ∀ j, j ≤ 168 → ZP G 12 m_X12_hours 46 [some (.ref 300), some (iv (c : Int)), some (iv (a : Int)), some (iv (b : Int)), some (iv q), some (iv 1), some (iv (zsum (newW (sW σ) c a b q c) j)), some (iv (j : Int))] [] Z (rM Z iv (cIf (0 < zsum (newW (sW σ) c a b q c) 168) (0, zsum (newW (sW σ) c a b q c) 168, stW σ (newW (sW σ) c a b q)) (2, 0, σ))) from key 0 (Nat.zero_le _)
  refine am_up (n := 168) fun j hj ih => ?_
  have bj := bd j hj
  refine b_X12_hours_46 h.1 ⟨by omega, ?_⟩
  by_cases d : j < 168
  · rw [if_neg (by omega)]
    refine ⟨by decide, ?_⟩
    rw [if_neg (by decide), Int.toNat_natCast, Int.toNat_natCast, show 300 + 5 + c = 305 + c by omega, wk j d]
    have w0 := hw0 j d
    refine ⟨by omega, fun _ => ⟨zIx_nat (by omega) (by omega), zIx_nat (by omega) (by omega), by omega, trivial⟩, fun _ => ⟨by omega, fun _ => ⟨zIx_nat (by omega) (by omega), zIx_nat (by omega) (by omega), by omega, trivial⟩, fun _ => ⟨by omega, trivial⟩, trivial⟩, ?_⟩
    have ev : (if (j : Int) < (a : Int) then b2 (¬ (sW σ c j = 0)) else (if (b : Int) ≤ (j : Int) then b2 (¬ (sW σ c j = 0)) else b2 (¬ (q = 0)))) = newW (sW σ) c a b q c j := by
      rw [b01_b2 w0, b01_b2 hq]
      unfold newW
      by_cases g1 : (j : Int) < (a : Int)
      · rw [if_pos g1, if_neg (by omega)]
      · rw [if_neg g1]
        by_cases g2 : (b : Int) ≤ (j : Int)
        · rw [if_pos g2, if_neg (by omega)]
        · rw [if_neg g2, if_pos (by omega)]
    rw [ev]
    exact ih d
  · rw [if_pos (by omega)]
    have ej : j = 168 := by omega
    subst ej
    generalize zsum (newW (sW σ) c a b q c) 168 = S at bj ⊢
    refine ⟨by decide, by omega, ?_⟩
    rintro _ rfl
    by_cases c2 : 0 < S
    · rw [cIf_p c2, fC_o2 (P := (1 : Int) = 0) (Q := S = 0) (by decide) (by omega), if_neg (by decide)]
      exact tell S
    · rw [cIf_f c2, fC_2 (P := (1 : Int) = 0) (Q := S = 0) (by decide) (by omega), if_pos (by decide)]
      exact rM.no h (by decide) rfl
theorem d_isWork {G : Gx} {Z : Zm} {B : Nat} {σ : St} {x y : Int} (h : IMb Z B σ) (ho : okS σ) (hx : R32 x) (hy : R32 y) : ZM G 12 m_X12_isWork [.ref 300, iv x, iv y] Z (rM Z iv (o_isWork σ x y)) := by
  refine e_X12_isWork h.1 ⟨hx, fun _ => ⟨hy, trivial⟩, ?_⟩
  rintro _ rfl
  unfold o_isWork
  by_cases c : (0 ≤ x ∧ x ≤ 3) ∧ 0 ≤ y
  · have e1 : (y % 168).toNat = y.toNat % 168 := by omega
    have hc : x.toNat < 4 := by omega
    have e2 := (h.t 0).wk x.toNat (y.toNat % 168) hc (by omega)
    have e3 := (ho.w x.toNat hc).1 (y.toNat % 168) (by omega)
    rw [cIf_p c, fC_o1 (P := ¬ (0 ≤ x ∧ x ≤ 3) ∨ (¬ (0 ≤ y))) (by omega), e1, show 300 + 5 + x.toNat = 305 + x.toNat by omega]
    show _ ∧ rM Z iv _ (.inl (some (iv _))) (zT Z 0)
    rw [e2]
    refine ⟨fun _ => ⟨⟨by omega, by omega, by decide⟩, hy, c.2, ⟨by omega, by omega, by decide⟩, by omega, trivial⟩, rM.st h rfl ?_⟩
    rcases e3 with e | e
    · rw [e]
      rfl
    · rw [e]
      rfl
  · rw [cIf_f c, fC_1 (P := ¬ (0 ≤ x ∧ x ≤ 3) ∨ (¬ (0 ≤ y))) (by omega)]
    exact ⟨fun g => absurd (by decide) g, rM.no h (by decide) rfl⟩
theorem d_clockBegin {G : Gx} {Z : Zm} {B : Nat} {σ : St} {t : Int} (h : IMb Z B σ) (ho : okS σ) (hz : 322 ≤ zSz Z ∧ zSz Z < 990000) (ht : R32 t) : ZM G 12 m_X12_clockBegin [.ref 300, iv t] Z (rM Z iv (o_clockBegin σ t)) := by
  have hn := ho.1.n
  have h0 := h.2.2.1.1
  refine e_X12_clockBegin h.1 ⟨ht, by omega, ?_⟩
  rw [h0]
  unfold o_clockBegin
  by_cases c1 : 0 ≤ t ∧ t < (kN (sK σ) : Int)
  · rw [if_pos c1, cIf_p c1, b2_p c1]
    refine ((s_mclock h ho ⟨hz.1, by omega⟩).deeper (by omega)).mono ?_
    rintro r W ⟨rfl, f, h1, aW, e1, e2⟩
    have vv := mS_v f hz.1
    have e := (e1 t.toNat (by omega)).1
    have g := e2 t.toNat (by omega)
    refine b_X12_clockBegin_14 h1.1 aW ⟨⟨c1.1, by omega, by decide⟩, by decide, by rw [e]; omega, ?_⟩
    rintro _ rfl
    rw [e]
    by_cases c : vCb σ t.toNat ≠ -1
    · rw [cIf_p c, fC_o2 (P := (1 : Int) = 0) (Q := vCb σ t.toNat = -1) (by decide) c, if_neg (by decide)]
      exact rM.ok (h1.t 0) (zI_t _ _) (vv.trans zV_t) (by omega) (by omega) rfl
    · rw [cIf_f c, fC_2 (P := (1 : Int) = 0) (Q := vCb σ t.toNat = -1) (by decide) (by omega)]
      exact ⟨⟨_, rfl, fun g => absurd (show (2 : Nat) = 0 from g) (by decide)⟩, zI_t _ _, ⟨B, h1.t _⟩, (vv.trans zV_t).mono (by omega) (by omega)⟩
  · rw [if_neg c1, cIf_f c1]
    rintro _ rfl
    rw [fC_1 (P := ¬ (0 ≤ t ∧ t < (kN (sK σ) : Int))) c1]
    exact rM.no h (by decide) rfl
theorem d_clockEnd {G : Gx} {Z : Zm} {B : Nat} {σ : St} {t : Int} (h : IMb Z B σ) (ho : okS σ) (hz : 322 ≤ zSz Z ∧ zSz Z < 990000) (ht : R32 t) : ZM G 12 m_X12_clockEnd [.ref 300, iv t] Z (rM Z iv (o_clockEnd σ t)) := by
  have hn := ho.1.n
  have h0 := h.2.2.1.1
  refine e_X12_clockEnd h.1 ⟨ht, by omega, ?_⟩
  rw [h0]
  unfold o_clockEnd
  by_cases c1 : 0 ≤ t ∧ t < (kN (sK σ) : Int)
  · rw [if_pos c1, cIf_p c1, b2_p c1]
    refine ((s_mclock h ho ⟨hz.1, by omega⟩).deeper (by omega)).mono ?_
    rintro r W ⟨rfl, f, h1, aW, e1, e2⟩
    have vv := mS_v f hz.1
    have e := (e1 t.toNat (by omega)).2
    have g := e2 t.toNat (by omega)
    have e20 : (20 + t).toNat = 20 + t.toNat := by omega
    refine b_X12_clockEnd_14 h1.1 aW ⟨⟨by omega, by omega, by decide⟩, by decide, by rw [e20, e]; omega, ?_⟩
    rintro _ rfl
    rw [e20, e]
    by_cases c : vCb σ t.toNat ≠ -1
    · have c9 : ¬ vCe σ t.toNat = -1 := fun q => c (g.2.2.2.mpr q)
      rw [cIf_p c, fC_o2 (P := (1 : Int) = 0) (Q := vCe σ t.toNat = -1) (by decide) c9, if_neg (by decide)]
      exact rM.ok (h1.t 0) (zI_t _ _) (vv.trans zV_t) (by omega) (by omega) rfl
    · rw [cIf_f c, fC_2 (P := (1 : Int) = 0) (Q := vCe σ t.toNat = -1) (by decide) (g.2.2.2.mp (Classical.byContradiction fun q => c q))]
      exact ⟨⟨_, rfl, fun g => absurd (show (2 : Nat) = 0 from g) (by decide)⟩, zI_t _ _, ⟨B, h1.t _⟩, (vv.trans zV_t).mono (by omega) (by omega)⟩
  · rw [if_neg c1, cIf_f c1]
    rintro _ rfl
    rw [fC_1 (P := ¬ (0 ≤ t ∧ t < (kN (sK σ) : Int))) c1]
    exact rM.no h (by decide) rfl
theorem d_clockAll {G : Gx} {Z : Zm} {B : Nat} {σ : St} (h : IMb Z B σ) (ho : okS σ) (hz : 322 ≤ zSz Z ∧ zSz Z < 990000) : ZM G 12 m_X12_clockAll [.ref 300] Z (rM Z iv (o_clockAll σ)) := by
  have hn := ho.1.n
  refine e_X12_clockAll h.1 (((s_mclock h ho ⟨hz.1, by omega⟩).deeper (by omega)).mono ?_)
  rintro r W ⟨rfl, f, h1, aW, e1, e2⟩
  have vv := mS_v f hz.1
  refine b_X12_clockAll_4 h1.1 aW ?_
  have bm : ∀ j, j ≤ kN (sK σ) → 0 ≤ zmax (vCe σ) j ∧ zmax (vCe σ) j ≤ 206000 := fun j hj => ⟨zmax_0 _ _, zmax_le (by omega) fun i hi => (e2 i (by omega)).2.2.1⟩
  suffices key : ∀ j, j ≤ kN (sK σ) → ∀ s, ((s = 1 ∧ ∀ t, t < j → vCb σ t ≠ -1) ∨ (s = 0 ∧ ∃ t, t < kN (sK σ) ∧ vCb σ t = -1)) → ZP G 12 m_X12_clockAll 12 [some (.ref 300), some (.ref (zSz Z)), some (iv (zmax (vCe σ) j)), some (iv s), some (iv (j : Int))] [] W (rM Z iv (o_clockAll σ)) from key 0 (Nat.zero_le _) 1 (Or.inl ⟨rfl, fun t ht => absurd ht (Nat.not_lt_zero _)⟩)
  refine am_up (n := kN (sK σ)) fun j hj ih s hs => ?_
  have bj := bm j hj
  have s01 : s = 0 ∨ s = 1 := by
    rcases hs with ⟨g, -⟩ | ⟨g, -⟩
    · exact Or.inr g
    · exact Or.inl g
  refine b_X12_clockAll_12 h1.1 aW ⟨by omega, by rw [h1.2.2.1.1]; omega, ?_⟩
  rw [h1.2.2.1.1]
  by_cases c : j < kN (sK σ)
  · obtain ⟨a1, a2⟩ := e1 j c
    have g := e2 j c
    have e20 : (20 + (j : Int)).toNat = 20 + j := by omega
    rw [if_neg (by omega), Int.toNat_natCast, e20, a1, a2]
    refine ⟨b01_r s01, fun _ => ⟨zIx_nat (by omega) (by omega), by omega, trivial⟩, ⟨by omega, by omega, by decide⟩, by omega, by omega, ih c _ ?_⟩
    rcases hs with ⟨q1, q2⟩ | ⟨q1, q2⟩
    · by_cases d : vCb σ j = -1
      · exact Or.inr ⟨b2_f fun q => q.2 d, j, c, d⟩
      · refine Or.inl ⟨b2_p ⟨by omega, d⟩, fun t ht => ?_⟩
        by_cases e : t = j
        · rw [e]
          exact d
        · exact q2 t (by omega)
    · exact Or.inr ⟨b2_f fun q => q.1 q1, q2⟩
  · rw [if_pos (by omega)]
    have ej : j = kN (sK σ) := by omega
    rw [ej] at hs ⊢
    refine ⟨b01_r s01, ?_⟩
    rintro _ rfl
    unfold o_clockAll
    rcases hs with ⟨q1, q2⟩ | ⟨q1, t, q2, q3⟩
    · rw [cIf_p q2, fC_o1 (P := s = 0) (by omega), if_neg (by decide)]
      exact rM.ok (h1.t 0) (zI_t _ _) (vv.trans zV_t) (by omega) (by omega) rfl
    · rw [cIf_f (fun q => q t q2 q3), fC_1 (P := s = 0) q1, if_pos (by decide)]
      exact ⟨⟨_, rfl, fun g => absurd (show (1 : Nat) = 0 from g) (by decide)⟩, zI_t _ _, ⟨B, h1.t _⟩, (vv.trans zV_t).mono (by omega) (by omega)⟩
