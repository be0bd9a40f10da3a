theorem s_isNeeded {G : Gx} {Z : Zm} {m B : Nat} {k : Bk} {x y : Int} (hm : atModel Z m B) (hk : cM Z B k) (ho : kOk k) (hx : R32 x) (hy : R32 y) : ZM G 1 m_X12_isNeeded [.ref m, iv x, iv y] Z (fun r Z' => r = .inl (some (iv (hasB k x y))) ∧ Z' = Z) := by
  have hM := ho.m
  have hN := ho.n
  refine e_X12_isNeeded hm ?_
  suffices key : ∀ j, j ≤ kM k → (∀ i, i < j → ¬ ((kE k i : Int) = x ∧ (kL k i : Int) = y)) → ZP G 1 m_X12_isNeeded 2 [some (.ref m), some (iv x), some (iv y), some (iv (j : Int))] [] Z (fun r Z' => r = .inl (some (iv (hasB k x y))) ∧ Z' = Z) from key 0 (Nat.zero_le _) fun i hi => by omega
  refine am_up (n := kM k) fun j hj ih hno => ?_
  refine b_X12_isNeeded_2 hm ⟨by omega, by rw [hk.2.1]; omega, ?_⟩
  rw [hk.2.1]
  by_cases c : j < kM k
  · obtain ⟨e1, e2, -⟩ := hk.2.2.2 j c
    have he := ho.e c
    have hl := ho.l c
    rw [if_neg (by omega), Int.toNat_natCast, e1, e2]
    refine ⟨zIx_nat (by omega) (by omega), by omega, hx, ?_⟩
    have nx : ¬ ((kE k j : Int) = x ∧ (kL k j : Int) = y) → ZP G 1 m_X12_isNeeded 2 [some (.ref m), some (iv x), some (iv y), some (iv ((j : Int) + 1))] [] Z (fun r Z' => r = .inl (some (iv (hasB k x y))) ∧ Z' = Z) := fun hne => ih c fun i hi => by
      by_cases d : i = j
      · rw [d]
        exact hne
      · exact hno i (by omega)
    by_cases c1 : (kE k j : Int) = x
    · rw [if_pos c1]
      refine ⟨by omega, hy, ?_⟩
      by_cases c2 : (kL k j : Int) = y
      · rw [if_pos c2, hasB_p ⟨j, c, c1, c2⟩]
        exact ⟨rfl, rfl⟩
      · rw [if_neg c2]
        exact nx fun g => c2 g.2
    · rw [if_neg c1]
      exact nx fun g => c1 g.1
  · rw [if_pos (by omega), hasB_f (fun ⟨i, h1, h2⟩ => hno i (by omega) h2)]
    exact ⟨rfl, rfl⟩
theorem rgL_s (k : Bk) (x s : Nat) : rgL k x (s + 1) = rgF k ((s : Int) + 1) (rgL k x s) (kM k) := rfl
theorem s_ringOf {G : Gx} {Z : Zm} {m B : Nat} {k : Bk} {x y : Nat} (hm : atModel Z m B) (hk : cM Z B k) (ho : kOk k) (hx : x < kN k) (hy : y < kN k) (hz : zSz Z < 1000000) : ZM G 1 m_X12_ringOf [.ref m, iv (x : Int), iv (y : Int)] Z (fun r Z' => r = .inl (some (iv (rgV k x y))) ∧ zF zNo 1 20 Z Z') := by
  have hN := ho.n
  have hM := ho.m
  have hB := hm.a0.1
  refine e_X12_ringOf hm ⟨hz, ?_⟩
  rintro _ rfl
  refine ⟨zIx_nat (by omega) (by omega), ?_⟩
  rintro _ rfl
  rw [zI_C, Int.toNat_natCast]
  have fr : ∀ f, zF zNo 1 20 Z (zSI (zC Z 100 20 20) (zSz Z) f) := fun f => zF_mk
  have hkf : ∀ f, cM (zSI (zC Z 100 20 20) (zSz Z) f) B k := fun f => hk.frame hB (fr f) fun h => h
  have hA : ∀ f, zA (zSI (zC Z 100 20 20) (zSz Z) f) (zSz Z) 100 20 := fun f => zA_C Z 100 20 20
  suffices key : ∀ s, s ≤ kN k → ∀ f : Nat → Int, (∀ i, i < 20 → f i = rgL k x s i) → (rgL k x s y = 0 ∨ rgL k x s y = (s : Int) + 1) → ZP G 1 m_X12_ringOf 12 [some (.ref m), none, some (iv (y : Int)), some (.ref (zSz Z)), some (iv ((s : Int) + 1)), none] [] (zSI (zC Z 100 20 20) (zSz Z) f) (fun r Z' => r = .inl (some (iv (rgV k x y))) ∧ zF zNo 1 20 Z Z') by
    refine key 0 (Nat.zero_le _) _ (fun i hi => rfl) ?_
    show zu (fun _ => (0 : Int)) x 1 y = 0 ∨ zu (fun _ => (0 : Int)) x 1 y = ((0 : Nat) : Int) + 1
    unfold zu
    by_cases c : y = x
    · rw [if_pos c]
      exact Or.inr rfl
    · rw [if_neg c]
      exact Or.inl rfl
  refine am_up (n := kN k) fun s hs ih f hf hy0 => ?_
  have kv : rgL k x s y ≠ 0 → s < kN k → rgV k x y = rgL k x s y := fun h0 h1 => by
    have h9 := rgL_keep h0 (kN k - 1 - s)
    rw [show s + (kN k - 1 - s) = kN k - 1 by omega] at h9
    exact h9
  refine b_X12_ringOf_12 (hm.ext (fr f).1) (hA f) ⟨by omega, by rw [(hkf f).1]; omega, ?_⟩
  rw [(hkf f).1]
  by_cases c : s < kN k
  · rw [if_neg (by omega), Int.toNat_natCast, zI_same, hf y (by omega)]
    have rr := rgL_r k x y s
    refine ⟨zIx_nat (by omega) (by omega), by omega, ?_⟩
    by_cases c1 : rgL k x s y = (s : Int) + 1
    · rw [if_pos c1, kv (by omega) c, c1]
      exact ⟨rfl, fr f⟩
    · rw [if_neg c1]
      have z0 : rgL k x s y = 0 := hy0.resolve_right c1
      suffices inner : ∀ j, j ≤ kM k → ∀ g : Nat → Int, (∀ i, i < 20 → g i = rgF k ((s : Int) + 1) (rgL k x s) j i) → ZP G 1 m_X12_ringOf 35 [some (.ref m), none, some (iv (y : Int)), some (.ref (zSz Z)), some (iv ((s : Int) + 1)), some (iv (j : Int))] [] (zSI (zC Z 100 20 20) (zSz Z) g) (fun r Z' => r = .inl (some (iv (rgV k x y))) ∧ zF zNo 1 20 Z Z') from inner 0 (Nat.zero_le _) f hf
      refine am_up (n := kM k) fun j hj ihj g hg => ?_
      refine b_X12_ringOf_35 (hm.ext (fr g).1) (hA g) ⟨by omega, by rw [(hkf g).2.1]; omega, ?_⟩
      rw [(hkf g).2.1]
      by_cases d : j < kM k
      · obtain ⟨e1, e2, -⟩ := (hkf g).2.2.2 j d
        have he := ho.e d
        have hl := ho.l d
        have rl := rgF_or (k := k) (s := (s : Int) + 1) (f := rgL k x s) (kL k j) j
        have re := rgF_or (k := k) (s := (s : Int) + 1) (f := rgL k x s) (kE k j) j
        have rl0 := rgL_r k x (kL k j) s
        have re0 := rgL_r k x (kE k j) s
        rw [if_neg (by omega), Int.toNat_natCast, e1, e2, Int.toNat_natCast, Int.toNat_natCast, zI_same, hg _ (by omega), hg _ (by omega)]
        refine ⟨zIx_nat (by omega) (by omega), zIx_nat (by omega) (by omega), by omega, by omega, ?_⟩
        have stp : rgF k ((s : Int) + 1) (rgL k x s) (j + 1) = if rgF k ((s : Int) + 1) (rgL k x s) j (kL k j) = (s : Int) + 1 ∧ rgF k ((s : Int) + 1) (rgL k x s) j (kE k j) = 0 then zu (rgF k ((s : Int) + 1) (rgL k x s) j) (kE k j) ((s : Int) + 1 + 1) else rgF k ((s : Int) + 1) (rgL k x s) j := rfl
        by_cases d1 : rgF k ((s : Int) + 1) (rgL k x s) j (kL k j) = (s : Int) + 1
        · rw [if_pos d1]
          refine ⟨zIx_nat (by omega) (by omega), by omega, ?_⟩
          by_cases d2 : rgF k ((s : Int) + 1) (rgL k x s) j (kE k j) = 0
          · rw [if_pos d2]
            rintro _ rfl
            rw [zSI_zSI]
            refine ihj d _ fun i hi => ?_
            rw [stp, if_pos ⟨d1, d2⟩]
            unfold zu
            by_cases e : i = kE k j
            · rw [if_pos e, if_pos e]
            · rw [if_neg e, if_neg e]
              exact hg i hi
          · rw [if_neg d2]
            refine ihj d _ fun i hi => ?_
            rw [stp, if_neg (fun q => d2 q.2)]
            exact hg i hi
        · rw [if_neg d1]
          refine ihj d _ fun i hi => ?_
          rw [stp, if_neg (fun q => d1 q.1)]
          exact hg i hi
      · rw [if_pos (by omega)]
        have ej : j = kM k := by omega
        subst ej
        refine ih c g (fun i hi => by rw [hg i hi, rgL_s]) ?_
        rcases rgF_or (k := k) (s := (s : Int) + 1) (f := rgL k x s) y (kM k) with q | ⟨q1, q2⟩
        · exact Or.inl (by rw [rgL_s, q, z0])
        · exact Or.inr (by rw [rgL_s, q2]; omega)
  · rw [if_pos (by omega)]
    have es : s = kN k := by omega
    have v0 : rgV k x y = 0 := by
      have h1 : rgL k x s y = 0 ∨ rgL k x s y = (s : Int) + 1 := hy0
      have h2 := rgL_r k x y (kN k - 1)
      refine Classical.byContradiction fun q => ?_
      have h3 := rgL_keep (k := k) (x := x) (i := y) (s := kN k - 1) q 1
      rw [show kN k - 1 + 1 = s by omega] at h3
      have : rgV k x y = rgL k x (kN k - 1) y := rfl
      rcases h1 with h1 | h1 <;> omega
    rw [v0]
    exact ⟨rfl, fr f⟩
theorem IMb.f {S : Nat → Prop} {c w : Nat} {Z Z' : Zm} {B : Nat} {σ : St} (h : IMb Z B σ) (hz : 322 ≤ zSz Z) (f : zF S c w Z Z') (hs : ∀ a, S a → 315 ≤ a ∧ a < 322) : IMb Z' B σ := h.fr f (fun a g => Or.inr (hs a g)) fun i _ => by rw [f.i (by omega) fun g => by have := hs _ g; omega]
theorem IMb.n {c w : Nat} {Z Z' : Zm} {B : Nat} {σ : St} (h : IMb Z B σ) (hz : 322 ≤ zSz Z) (f : zF zNo c w Z Z') : IMb Z' B σ := h.f hz f fun _ g => g.elim
theorem rowM.put {f g : Nat → Int} {k : Bk} {x y : Nat} {z : Int} (h : rowM f k) (hn : kN k ≤ 20) (h1 : g 1 = (kM k : Int) + 1) (hx : g (262 + 3 * kM k) = (x : Int)) (hy : g (263 + 3 * kM k) = (y : Int)) (hz : g (264 + 3 * kM k) = z) (ho : ∀ i, i ≠ 1 → i < 262 + 3 * kM k → g i = f i) : rowM g (kPut k x y z) := by
  obtain ⟨a1, a2, a3, a4⟩ := h
  refine ⟨by rw [ho 0 (by omega) (by omega)]; exact a1, h1, fun t ht => ?_, fun j hj => ?_⟩
  · obtain ⟨b1, b2', b3, b4⟩ := a3 t ht
    have ht' : t < kN k := ht
    refine ⟨fun i hi => ?_, ?_, ?_, ?_⟩
    · rw [ho _ (by omega) (by omega)]
      exact b1 i hi
    · rw [ho _ (by omega) (by omega)]
      exact b2'
    · rw [ho _ (by omega) (by omega)]
      exact b3
    · rw [ho _ (by omega) (by omega)]
      exact b4
  · have hj' : j < kM k + 1 := hj
    show g (262 + 3 * j) = (((if j = kM k then x else kE k j : Nat)) : Int) ∧ g (263 + 3 * j) = (((if j = kM k then y else kL k j : Nat)) : Int) ∧ g (264 + 3 * j) = if j = kM k then z else kG k j
    by_cases c : j = kM k
    · rw [if_pos c, if_pos c, if_pos c, c]
      exact ⟨hx, hy, hz⟩
    · rw [if_neg c, if_neg c, if_neg c, ho _ (by omega) (by omega), ho _ (by omega) (by omega), ho _ (by omega) (by omega)]
      exact a4 j (by omega)
theorem d_need {G : Gx} {Z : Zm} {B : Nat} {σ : St} {x y z : Int} (h : IMb Z B σ) (ho : okS σ) (hz : 322 ≤ zSz Z ∧ zSz Z < 999999) (hx : R32 x) (hy : R32 y) (hg : R32 z) : ZM G 12 m_X12_need [.ref 300, iv x, iv y, iv z] Z (rM Z iv (o_need σ x y z)) := by
  have hn := ho.1.n
  have hm := ho.1.m
  obtain ⟨hB1, hB2, hB3⟩ := h.big hz.1
  have hk : cM Z B (sK σ) := h.2.2.1
  have h0 := hk.1
  have h1 := hk.2.1
  refine e_X12_need h.1 ⟨hx, by omega, fun _ => ⟨hy, trivial⟩, ?_⟩
  rw [h1]
  unfold o_need
  by_cases c1 : (0 ≤ x ∧ x < (kN (sK σ) : Int)) ∧ 0 ≤ y ∧ y < (kN (sK σ) : Int)
  · have c1' : (0 ≤ x ∧ x < zI Z B 0) ∧ 0 ≤ y ∧ y < zI Z B 0 := by rw [h0]; exact c1
    rw [if_pos c1', cIf_p c1]
    refine ⟨hg, ?_⟩
    by_cases c2 : 0 ≤ z ∧ z ≤ 30
    · rw [if_pos c2, b2_p c1']
      refine ((s_isNeeded h.1 hk ho.1 hx hy).deeper (by omega)).mono ?_
      rintro r W ⟨rfl, hW⟩
      obtain rfl := hW.symm
      refine b_X12_need_44 h.1 ⟨b01_r (hasB_01 _ _ _), ?_⟩
      by_cases c3 : hasB (sK σ) x y = 0
      · rw [if_pos c3]
        have ha := (s_ringOf (G := G) (x := x.toNat) (y := y.toNat) h.1 hk ho.1 (by omega) (by omega) (by omega)).deeper (d' := 11) (by omega)
        rw [Int.toNat_of_nonneg c1.1.1, Int.toNat_of_nonneg c1.2.1] at ha
        refine ha.mono ?_
        rintro r V ⟨rfl, f⟩
        have hv : IMb V B σ := h.n hz.1 f
        have vv : zV 1 20 Z V := zF.v f hz.1 fun _ g => g.elim
        have hkV : cM V B (sK σ) := hv.2.2.1
        have hr := rgV_r (k := sK σ) (x := x.toNat) (y := y.toNat) (by omega)
        have hzV : 322 ≤ zSz V ∧ zSz V < 1000000 := by have := vv.1; omega
        refine b_X12_need_53 hv.1 ⟨by omega, by decide, by rw [hkV.2.1]; omega, ?_⟩
        rintro _ rfl
        rw [hkV.2.1, show b2 ((1 : Int) = 0) = 0 from rfl]
        have no : ∀ (c : Nat), c ≠ 0 → rM Z iv (c, 0, σ) (.inl (some (iv 0))) (zT V (c : Int)) := fun c hc => ⟨⟨0, rfl, fun g => absurd g hc⟩, by rw [zI_t], ⟨B, hv.t _⟩, (vv.trans zV_t).mono (by omega) (by omega)⟩
        by_cases c4 : rgV (sK σ) x.toNat y.toNat ≤ 0
        · rw [cIf_p ⟨c2, c3, c4⟩]
          by_cases c5 : kM (sK σ) < 50
          · have e0 : fC 0 (b2 (¬ (rgV (sK σ) x.toNat y.toNat ≤ 0))) (b2 ((kM (sK σ) : Int) = 50)) = 0 := by
              rw [b2_n c4, b2_f (by omega)]
              rfl
            rw [e0, if_neg (by decide), cIf_p c5]
            refine ((s_keeps (hv.t 0) ho hzV).deeper (by omega)).mono ?_
            rintro r U ⟨rfl, hu, v, htt⟩
            rw [zI_t] at htt
            have hzU : 322 ≤ zSz U := Nat.le_trans hzV.1 v.1.1
            obtain ⟨hU1, -, -⟩ := hu.big hzU
            have hkU : cM U B (sK σ) := hu.2.2.1
            refine b_X12_need_102 hu.1 ?_
            rw [hkU.2.1]
            refine ⟨⟨by omega, by omega, by decide⟩, ?_⟩
            rintro _ rfl
            refine ⟨⟨by omega, by omega, by decide⟩, ?_⟩
            rintro _ rfl
            refine ⟨⟨by omega, by omega, by decide⟩, ?_⟩
            rintro _ rfl _ rfl
            simp only [zI_same, zSI_zSI]
            rw [show (262 + 3 * (kM (sK σ) : Int)).toNat = 262 + 3 * kM (sK σ) by omega, show (262 + 3 * (kM (sK σ) : Int) + 1).toNat = 263 + 3 * kM (sK σ) by omega, show (262 + 3 * (kM (sK σ) : Int) + 2).toNat = 264 + 3 * kM (sK σ) by omega]
            refine rM.ok (hu.book ho hzU (hkU.row.put (x := x.toNat) (y := y.toNat) (z := z) hn ?_ ?_ ?_ ?_ ?_)) ?_ (((vv.trans zV_t).trans v).trans (zV_I (by omega))) (by omega) (by omega) ?_
            · rw [zu_same, zu_other (by omega), zu_other (by omega), zu_other (by omega), hkU.2.1]
            · rw [zu_other (by omega), zu_other (by omega), zu_other (by omega), zu_same]
              omega
            · rw [zu_other (by omega), zu_other (by omega), zu_same]
              omega
            · rw [zu_other (by omega), zu_same]
            · intro i g1 g2
              rw [zu_other (by omega), zu_other (by omega), zu_other (by omega), zu_other (by omega)]
            · rw [zI_other (Ne.symm hU1)]
              exact htt
            · rw [zu_same, zu_other (by omega), zu_other (by omega), zu_other (by omega), hkU.2.1]
              omega
          · have e0 : fC 0 (b2 (¬ (rgV (sK σ) x.toNat y.toNat ≤ 0))) (b2 ((kM (sK σ) : Int) = 50)) = 3 := by
              rw [b2_n c4, b2_p (by omega)]
              rfl
            rw [e0, if_pos (by decide), cIf_f c5]
            exact no 3 (by decide)
        · have e0 : ∀ r, fC 0 (b2 (¬ (rgV (sK σ) x.toNat y.toNat ≤ 0))) r = 2 := fun r => by
            rw [b2_nn c4]
            rfl
          rw [e0, if_pos (by decide), cIf_f (fun g => c4 g.2.2)]
          exact no 2 (by decide)
      · rw [if_neg c3, h1]
        refine ⟨by decide, by omega, ?_⟩
        rintro _ rfl
        rw [show ∀ r, fC (b2 ((1 : Int) = 0)) 1 r = 2 from fun r => rfl, if_pos (by decide), cIf_f (fun g => c3 g.2.1)]
        exact rM.no h (by decide) rfl
    · rw [if_neg c2]
      refine ⟨by omega, ?_⟩
      rintro _ rfl
      rw [fC_2' (fun g => g c1'), if_pos (by decide), cIf_f (fun g => c2 g.1)]
      exact rM.no h (by decide) rfl
  · have c1' : ¬ ((0 ≤ x ∧ x < zI Z B 0) ∧ 0 ≤ y ∧ y < zI Z B 0) := by rw [h0]; exact c1
    rw [if_neg c1', cIf_f c1]
    refine ⟨by omega, ?_⟩
    rintro _ rfl
    rw [fC_1 c1', if_pos (by decide)]
    exact rM.no h (by decide) rfl
theorem rowM.del {f g : Nat → Int} {k : Bk} {x : Nat} (h : rowM f k) (hn : kN k ≤ 20) (hx : x < kM k) (h1 : g 1 = (kM k : Int) - 1) (ho : ∀ i, i ≠ 1 → i < 262 + 3 * x → g i = f i) (ho2 : ∀ i, 262 + 3 * x ≤ i → i < 262 + 3 * (kM k - 1) → g i = f (i + 3)) : rowM g (kDel k x) := by
  obtain ⟨a1, a2, a3, a4⟩ := h
  refine ⟨by rw [ho 0 (by omega) (by omega)]; exact a1, ?_, fun t ht => ?_, fun j hj => ?_⟩
  · rw [h1]
    show _ = ((kM k - 1 : Nat) : Int)
    omega
  · obtain ⟨b1, b2', b3, b4⟩ := a3 t ht
    have ht' : t < kN k := ht
    refine ⟨fun i hi => ?_, ?_, ?_, ?_⟩
    · rw [ho _ (by omega) (by omega)]
      exact b1 i hi
    · rw [ho _ (by omega) (by omega)]
      exact b2'
    · rw [ho _ (by omega) (by omega)]
      exact b3
    · rw [ho _ (by omega) (by omega)]
      exact b4
  · have hj' : j < kM k - 1 := hj
    show g (262 + 3 * j) = (((if j < x then kE k j else kE k (j + 1) : Nat)) : Int) ∧ g (263 + 3 * j) = (((if j < x then kL k j else kL k (j + 1) : Nat)) : Int) ∧ g (264 + 3 * j) = if j < x then kG k j else kG k (j + 1)
    by_cases c : j < x
    · rw [if_pos c, if_pos c, if_pos c, ho _ (by omega) (by omega), ho _ (by omega) (by omega), ho _ (by omega) (by omega)]
      exact a4 j (by omega)
    · rw [if_neg c, if_neg c, if_neg c, ho2 _ (by omega) (by omega), ho2 _ (by omega) (by omega), ho2 _ (by omega) (by omega)]
      exact a4 (j + 1) (by omega)
theorem s_drops {G : Gx} {Z : Zm} {m B : Nat} {k : Bk} {x : Nat} (hm : atModel Z m B) (hk : cM Z B k) (ho : kOk k) (hx : x < kM k) : ZM G 1 m_X12_drops [.ref m, iv (x : Int)] Z (fun r Z' => r = .inl none ∧ ∃ f, Z' = zSI Z B f ∧ rowM f (kDel k x)) := by
  have hM := ho.m
  have hN := ho.n
  refine e_X12_drops hm ?_
  suffices key : ∀ j, j ≤ 262 + 3 * (kM k - 1) → 262 + 3 * x ≤ j → ∀ f : Nat → Int, (∀ i, i < 262 + 3 * x → f i = zI Z B i) → (∀ i, 262 + 3 * x ≤ i → i < j → f i = zI Z B (i + 3)) → (∀ i, j ≤ i → f i = zI Z B i) → ZP G 1 m_X12_drops 8 [some (.ref m), none, some (iv (j : Int))] [] (zSI Z B f) (fun r Z' => r = .inl none ∧ ∃ f, Z' = zSI Z B f ∧ rowM f (kDel k x)) by
    have h9 := key (262 + 3 * x) (by omega) (Nat.le_refl _) (zI Z B) (fun _ _ => rfl) (fun i h1 h2 => by omega) fun _ _ => rfl
    rw [zSI_id, show ((262 + 3 * x : Nat) : Int) = 262 + 3 * (x : Int) by omega] at h9
    exact h9
  refine am_up (n := 262 + 3 * (kM k - 1)) fun j hj ih hxj f f1 f2 f3 => ?_
  have e1 : zI (zSI Z B f) B 1 = (kM k : Int) := by
    rw [zI_same, f1 1 (by omega)]
    exact hk.2.1
  refine b_X12_drops_8 (Z := zSI Z B f) hm ⟨by omega, by rw [e1]; omega, ?_⟩
  rw [e1]
  by_cases c : j < 262 + 3 * (kM k - 1)
  · rw [if_neg (by omega)]
    refine ⟨⟨by omega, by omega, by decide⟩, ⟨by omega, by omega, by decide⟩, ?_⟩
    rintro _ rfl
    rw [zI_same, zSI_zSI, Int.toNat_natCast, show ((j : Int) + 3).toNat = j + 3 by omega, f3 (j + 3) (by omega)]
    refine ih c (by omega) _ (fun i hi => ?_) (fun i h1 h2 => ?_) fun i hi => ?_
    · rw [zu_other (by omega)]
      exact f1 i hi
    · by_cases d : i = j
      · rw [d, zu_same]
      · rw [zu_other d]
        exact f2 i h1 (by omega)
    · rw [zu_other (by omega)]
      exact f3 i (by omega)
  · rw [if_pos (by omega)]
    rintro _ rfl
    rw [zI_same, zSI_zSI]
    refine ⟨rfl, _, rfl, hk.row.del hN hx ?_ (fun i h1 h2 => ?_) fun i h1 h2 => ?_⟩
    · rw [zu_same]
    · rw [zu_other h1]
      exact f1 i h2
    · rw [zu_other (by omega)]
      exact f2 i h1 (by omega)
theorem d_dropNeed {G : Gx} {Z : Zm} {B : Nat} {σ : St} {x : Int} (h : IMb Z B σ) (ho : okS σ) (hz : 322 ≤ zSz Z ∧ zSz Z < 1000000) (hx : R32 x) : ZM G 12 m_X12_dropNeed [.ref 300, iv x] Z (rM Z iv (o_dropNeed σ x)) := by
  have hn := ho.1.n
  have hm := ho.1.m
  obtain ⟨hB1, hB2, hB3⟩ := h.big hz.1
  have hk : cM Z B (sK σ) := h.2.2.1
  have h1 := hk.2.1
  refine e_X12_dropNeed h.1 ⟨hx, by omega, ?_⟩
  rintro _ rfl
  unfold o_dropNeed
  by_cases c1 : 0 ≤ x ∧ x < (kM (sK σ) : Int)
  · rw [cIf_p c1, fC_o1 (P := ¬ (0 ≤ x ∧ x ≤ zI Z B 1 - 1)) (by omega), if_neg (by decide)]
    refine ((s_keeps (h.t 0) ho hz).deeper (by omega)).mono ?_
    rintro r W ⟨rfl, hw, v, ht⟩
    rw [zI_t] at ht
    have hzW : 322 ≤ zSz W := Nat.le_trans hz.1 v.1.1
    obtain ⟨hW1, hW2, hW3⟩ := hw.big hzW
    have ha := (s_drops (G := G) (x := x.toNat) hw.1 hw.2.2.1 ho.1 (by show x.toNat < kM (sK σ); omega)).deeper (d' := 11) (by omega)
    rw [Int.toNat_of_nonneg c1.1] at ha
    refine b_X12_dropNeed_34 hw.1 (ha.mono ?_)
    rintro r V ⟨rfl, f, rfl, hf⟩
    refine b_X12_dropNeed_39 (Z := zSI W B f) hw.1 ?_
    refine rM.ok (hw.book ho hzW hf) ?_ ((zV_t.trans v).trans (zV_I (by omega))) (by omega) (by omega) ?_
    · rw [zI_other (Ne.symm hW1)]
      exact ht
    · rw [zI_same, hf.2.1]
      show ((kM (sK σ) - 1 : Nat) : Int) = _
      omega
  · rw [cIf_f c1, fC_1 (P := ¬ (0 ≤ x ∧ x ≤ zI Z B 1 - 1)) (by omega), if_pos (by decide)]
    exact rM.no h (by decide) rfl
theorem d_needAt {G : Gx} {Z : Zm} {B : Nat} {σ : St} {x c : Int} (h : IMb Z B σ) (ho : okS σ) (hz : 322 ≤ zSz Z ∧ zSz Z < 1000000) (hx : R32 x) (hc : R32 c) : ZM G 12 m_X12_needAt [.ref 300, iv x, iv c] Z (rM Z iv (o_needAt σ x c)) := by
  have hm := ho.1.m
  obtain ⟨hB1, hB2, hB3⟩ := h.big hz.1
  have hk : cM Z B (sK σ) := h.2.2.1
  have h1 := hk.2.1
  have e5 : zIdx 6 c = zIdx 1 c := zIdx_eq rfl c
  have hr := zIdx_r 1 c
  have hl : zLen 1 = 3 := rfl
  refine e_X12_needAt h.1 ⟨hc, hx, by omega, zIdx_r32 _ _, ?_⟩
  rintro _ rfl
  rw [e5]
  unfold o_needAt
  by_cases c1 : 0 ≤ x ∧ x < (kM (sK σ) : Int)
  · rw [cIf_p c1]
    by_cases c2 : 0 ≤ zIdx 1 c
    · rw [cIf_p c2, fC_o2 (P := ¬ (0 ≤ x ∧ x ≤ zI Z B 1 - 1)) (Q := ¬ (0 ≤ zIdx 1 c)) (by omega) (fun g => g c2)]
      refine ⟨fun _ => ⟨⟨by omega, by omega, by decide⟩, trivial⟩, ?_⟩
      rw [if_neg (c := (0 : Int) < 0) (by decide)]
      refine rM.st h rfl ?_
      rw [zI_other hB1]
      obtain ⟨e1, e2, e3⟩ := hk.row.2.2.2 x.toNat (by omega)
      have h3 : zIdx 1 c = 0 ∨ zIdx 1 c = 1 ∨ zIdx 1 c = 2 := by omega
      rcases h3 with e | e | e
      · rw [e, show (262 + 3 * x + 0).toNat = 262 + 3 * x.toNat by omega]
        exact e1
      · rw [e, show (262 + 3 * x + 1).toNat = 263 + 3 * x.toNat by omega]
        exact e2
      · rw [e, show (262 + 3 * x + 2).toNat = 264 + 3 * x.toNat by omega]
        exact e3
    · rw [cIf_f c2, fC_2 (P := ¬ (0 ≤ x ∧ x ≤ zI Z B 1 - 1)) (Q := ¬ (0 ≤ zIdx 1 c)) (by omega) c2]
      exact ⟨fun g => absurd (by decide) g, rM.no h (by decide) rfl⟩
  · rw [cIf_f c1, fC_1 (P := ¬ (0 ≤ x ∧ x ≤ zI Z B 1 - 1)) (by omega)]
    exact ⟨fun g => absurd (by decide) g, rM.no h (by decide) rfl⟩
theorem d_ring {G : Gx} {Z : Zm} {B : Nat} {σ : St} {x y : Int} (h : IMb Z B σ) (ho : okS σ) (hz : 322 ≤ zSz Z ∧ zSz Z < 1000000) (hx : R32 x) (hy : R32 y) : ZM G 12 m_X12_ring [.ref 300, iv x, iv y] Z (rM Z iv (o_ring σ x y)) := by
  have hn := ho.1.n
  obtain ⟨hB1, hB2, hB3⟩ := h.big hz.1
  have hk : cM Z B (sK σ) := h.2.2.1
  have h0 := hk.1
  refine e_X12_ring h.1 ⟨hx, by omega, fun _ => ⟨hy, trivial⟩, ?_⟩
  rintro _ rfl
  unfold o_ring
  by_cases c1 : (0 ≤ x ∧ x < (kN (sK σ) : Int)) ∧ 0 ≤ y ∧ y < (kN (sK σ) : Int)
  · rw [cIf_p c1, fC_o1 (P := ¬ (0 ≤ x ∧ x < zI Z B 0) ∨ ¬ (0 ≤ y ∧ y < zI Z B 0)) (by omega), if_neg (by decide)]
    have ht := h.t 0
    have ha := (s_ringOf (G := G) (x := x.toNat) (y := y.toNat) ht.1 ht.2.2.1 ho.1 (by omega) (by omega) hz.2).deeper (d' := 11) (by omega)
    rw [Int.toNat_of_nonneg c1.1.1, Int.toNat_of_nonneg c1.2.1] at ha
    refine ha.mono ?_
    rintro r W ⟨rfl, f⟩
    have hw : IMb W B σ := ht.n hz.1 f
    refine b_X12_ring_40 hw.1 (rM.ok hw ?_ (zV_t.trans (zF.v f hz.1 fun _ g => g.elim)) (by omega) (by omega) rfl)
    rw [f.i (show 300 < zSz Z by omega) (fun g => g), zI_t]
  · rw [cIf_f c1, fC_1 (P := ¬ (0 ≤ x ∧ x < zI Z B 0) ∨ ¬ (0 ≤ y ∧ y < zI Z B 0)) (by omega), if_pos (by decide)]
    exact rM.no h (by decide) rfl
theorem d_undo {G : Gx} {Z : Zm} {B : Nat} {σ : St} (h : IMb Z B σ) (ho : okS σ) (hz : 322 ≤ zSz Z ∧ zSz Z < 1000000) : ZM G 12 m_X12_undo [.ref 300] Z (rM Z iv (o_undo σ)) := by
  obtain ⟨hB1, hB2, hB3⟩ := h.big hz.1
  obtain ⟨h2, hr⟩ := h.2.2.2.1
  have hh := ho.2.1
  refine e_X12_undo h.1 ⟨by omega, ?_⟩
  rintro _ rfl
  unfold o_undo
  by_cases c1 : sHn σ = 0
  · rw [cIf_p c1, fC_1 (P := zI Z 300 2 = 0) (by omega), if_pos (by decide)]
    exact rM.no h (by decide) rfl
  · rw [cIf_f c1, fC_o1 (P := zI Z 300 2 = 0) (by omega), if_neg (by decide)]
    rintro _ rfl
    rw [zI_same, zSI_zSI, zI_same, zu_same, zu_other (by decide), h2]
    obtain ⟨r9, r1, r2, r3, r4, r5⟩ := hr (sHn σ - 1) (by omega)
    refine ⟨⟨by omega, by omega, by decide⟩, r9, ⟨?_, r2⟩, ?_⟩
    · rw [show ((sHn σ : Int) - 1).toNat = sHn σ - 1 by omega]
      exact r1
    generalize hZ0 : zSI Z 300 (zu (zu (zI Z 300) 19 0) 2 ((sHn σ : Int) - 1)) = Z0
    have v0 : zV 0 0 Z Z0 := by rw [← hZ0]; exact zV_I (by decide)
    have s0 : zSz Z0 = zSz Z := by rw [← hZ0]; rfl
    have x0 : zX Z Z0 := by rw [← hZ0]; exact ⟨Nat.le_refl _, fun _ _ => ⟨rfl, rfl, rfl⟩⟩
    have e0 : ∀ a, a ≠ 300 → zI Z0 a = zI Z a := fun a g => by rw [← hZ0]; exact zI_other g
    have e3 : zI Z0 300 = zu (zu (zI Z 300) 19 0) 2 ((sHn σ : Int) - 1) := by rw [← hZ0, zI_same]
    refine ((s_copied (G := G) (n := 412) (u := r9) (r2.ext x0) (by omega) (by omega)).deeper (by omega)).mono ?_
    rintro r W ⟨rfl, f, hA, hI⟩
    have hsz := f.1.1
    have hfz := f.2.1
    have hmW : atModel W 300 B := (h.1.ext x0).ext f.1
    have eW : ∀ b, b < zSz Z0 → zI W b = zI Z0 b := fun b hb => f.i hb fun g => g
    refine b_X12_undo_46 hmW hA ?_
    rintro _ rfl
    have rr : ∀ i, zR (zSR W 300 (zu (zR W 300) 0 (some (zSz Z0)))) 300 i = if i = 0 then some (zSz Z0) else zR W 300 i := fun i => by rw [zSR_same]; rfl
    have hm9 : atModel (zSR W 300 (zu (zR W 300) 0 (some (zSz Z0)))) 300 (zSz Z0) := hmW.re (Nat.le_refl _) (fun _ _ => ⟨rfl, rfl⟩) (fun i hi => by rw [rr, if_neg hi]) (zSR_other (by decide)) (by rw [rr, if_pos rfl]) hA
    refine b_X12_undo_49 hm9 ?_
    rintro _ rfl _ rfl
    have e300 : zI (zSR W 300 (zu (zR W 300) 0 (some (zSz Z0)))) 300 = zI Z0 300 := eW 300 (by omega)
    simp only [zI_same, zSI_zSI, e300]
    generalize hF : zu (zu (zI Z0 300) 8 0) 9 0 = F
    have f8 : F 8 = 0 := by rw [← hF, zu_other (by decide), zu_same]
    have f9 : F 9 = 0 := by rw [← hF, zu_same]
    have fo : ∀ i, i ≠ 8 → i ≠ 9 → F i = zu (zu (zI Z 300) 19 0) 2 ((sHn σ : Int) - 1) i := fun i g1 g2 => by rw [← hF, zu_other g2, zu_other g1, e3]
    have f2 : F 2 = (sHn σ : Int) - 1 := by rw [fo 2 (by decide) (by decide), zu_same]
    have h300 : zI (zSI (zSR W 300 (zu (zR W 300) 0 (some (zSz Z0)))) 300 F) 300 = F := zI_same _ _ _
    have eI : ∀ b, b < zSz Z → b ≠ 300 → zI (zSI (zSR W 300 (zu (zR W 300) 0 (some (zSz Z0)))) 300 F) b = zI Z b := fun b g1 g2 => by
      rw [zI_other g2]
      exact (eW b (by omega)).trans (e0 b g2)
    have key := h.re (Z' := zSI (zSR W 300 (zu (zR W 300) 0 (some (zSz Z0)))) 300 F) (B' := zSz Z0) (k := sHb σ 0) (n := sHn σ - 1) (hb := fun i => sHb σ (i + 1)) (tn := 0) hm9 (fun b g1 g2 g3 => eI b (by omega) g2) (by rw [h300, fo 16 (by decide) (by decide), zu_other (by decide), zu_other (by decide)]) (by rw [h300, fo 4 (by decide) (by decide), zu_other (by decide), zu_other (by decide)]) (by rw [h300, f8]; rfl) (Nat.zero_le _) (by rw [h300, f9]) (by rw [h300, f2]; omega) (Or.inr (by omega)) ?_ fun i hi => ?_
    · refine rM.ok key (by rw [h300, fo 19 (by decide) (by decide), zu_other (by decide), zu_same]) (((v0.trans (zF.v f (by omega) fun _ g => g.elim)).trans (zV_R (by decide))).trans (zV_I (by decide))) (by omega) (by omega) ?_
      exact f2
    · have hk0 := hh.2 0 (by omega)
      rw [show sHn σ - 1 - (sHn σ - 1) = 0 by omega] at r5
      refine r5.of (fun i hi => ?_) ⟨hk0.n, hk0.m⟩
      rw [zI_other (by omega)]
      refine (hI i hi).trans ?_
      rw [e0 r9 (by omega)]
    · obtain ⟨r, q1, q2, q3, q4, q5⟩ := hr i (by omega)
      have hki := hh.2 (sHn σ - 1 - i) (by omega)
      refine ⟨r, ?_, ?_, q3, by have := q2.1; omega, ?_⟩
      · have er : zR (zSI (zSR W 300 (zu (zR W 300) 0 (some (zSz Z0)))) 300 F) 302 = zR W 302 := zSR_other (Z := W) (a := 300) (b := 302) (by decide)
        rw [er]
        exact zX_r f.1 (by have := (h.1.ext x0).a1.1; exact this) (zX_r x0 h.1.a1.1 q1)
      · have x1 := (q2.ext x0).ext f.1
        exact x1
      · show cM _ r (sHb σ (sHn σ - 1 - 1 - i + 1))
        rw [show sHn σ - 1 - 1 - i + 1 = sHn σ - 1 - i by omega]
        exact q5.of (fun j _ => by rw [eI r q2.1 (by omega)]) ⟨hki.n, hki.m⟩
theorem d_type {G : Gx} {Z : Zm} {B : Nat} {σ : St} {c : Int} (h : IMb Z B σ) (ho : okS σ) (hz : 322 ≤ zSz Z ∧ zSz Z < 1000000) (hc : R32 c) : ZM G 12 m_X12_type [.ref 300, iv c] Z (rM Z iv (o_type σ c)) := by
  have hn := ho.2.2.1.1
  obtain ⟨t1, t2⟩ := h.tx
  refine e_X12_type h.1 ⟨hc, by omega, ?_⟩
  rintro _ rfl
  unfold o_type
  by_cases c1 : 32 ≤ c ∧ c ≤ 126
  · rw [cIf_p c1]
    by_cases c2 : sXn σ < 80
    · rw [cIf_p c2, fC_o2 (P := ¬ (32 ≤ c ∧ c ≤ 126)) (Q := zI Z 300 4 = 80) (fun g => g c1) (by omega), if_neg (by decide)]
      have e4 : zI (zSI Z 300 (zu (zI Z 300) 19 0)) 300 4 = (sXn σ : Int) := by rw [zI_same, zu_other (by decide)]; exact t1
      have e3 : zI (zSI Z 300 (zu (zI Z 300) 19 0)) (300 + 3) = zI Z 303 := zI_other (by decide)
      rw [e4, e3]
      refine ⟨zIx_nat c2 (by omega), by omega, by omega, ?_⟩
      rintro _ rfl
      have e5 : zI (zSI (zSI Z 300 (zu (zI Z 300) 19 0)) (300 + 3) (zu (zI Z 303) (sXn σ : Int).toNat c)) 300 = zu (zI Z 300) 19 0 := by rw [zI_other (by decide), zI_same]
      rw [e5, zu_other (show (4 : Nat) ≠ 19 by decide), t1]
      rintro _ rfl
      rw [Int.toNat_natCast]
      generalize hV : zSI (zSI (zSI Z 300 (zu (zI Z 300) 19 0)) (300 + 3) (zu (zI Z 303) (sXn σ) c)) 300 (zu (zu (zI Z 300) 19 0) 4 ((sXn σ : Int) + 1)) = V
      have h300 : zI V 300 = zu (zu (zI Z 300) 19 0) 4 ((sXn σ : Int) + 1) := by rw [← hV, zI_same]
      have h303 : zI V 303 = zu (zI Z 303) (sXn σ) c := by rw [← hV, zI_other (by decide), zI_same]
      have eo : ∀ a, a ≠ 300 → a ≠ 303 → zI V a = zI Z a := fun a g1 g2 => by rw [← hV, zI_other g1, zI_other g2, zI_other g1]
      have e6 : ∀ i, i ≠ 4 → i ≠ 19 → zI V 300 i = zI Z 300 i := fun i g1 g2 => by rw [h300, zu_other g1, zu_other g2]
      refine rM.ok (h.up (σ' := stX σ (sXn σ + 1) (zu (sXs σ) (sXn σ) c)) (by rw [← hV]; exact ⟨Nat.le_refl _, fun _ _ => ⟨rfl, rfl, rfl⟩⟩) (fun a g1 g2 => eo a (by omega) (by omega)) rfl rfl rfl (e6 2 (by decide) (by decide)) ⟨?_, fun i hi => ?_⟩ ?_ ?_ ?_ ?_ ?_ ho.k ho.h) ?_ (show zV 0 0 Z V from by rw [← hV]; exact (zV_t.trans (zV_I (by decide))).trans (zV_I (by decide))) (by omega) (by omega) ?_
      · rw [h300, zu_same]
        rfl
      · rw [h303]
        show zu (zI Z 303) (sXn σ) c i = zu (sXs σ) (sXn σ) c i
        have hi' : i < sXn σ + 1 := hi
        unfold zu
        by_cases d : i = sXn σ
        · rw [if_pos d, if_pos d]
        · rw [if_neg d, if_neg d]
          exact t2 i (by omega)
      · intro c h9 g1 g2
        rw [eo _ (by omega) (by omega)]
        exact h.wk c h9 g1 g2
      · rw [eo 309 (by omega) (by omega)]
        exact h.ha
      · rw [e6 8 (by decide) (by decide), eo 310 (by omega) (by omega)]
        exact h.ty
      · rw [mPl, e6 9 (by decide) (by decide), e6 10 (by decide) (by decide), e6 14 (by decide) (by decide), eo 313 (by omega) (by omega), eo 311 (by omega) (by omega), eo 312 (by omega) (by omega)]
        exact h.pl
      · rw [e6 16 (by decide) (by decide), eo 314 (by omega) (by omega)]
        exact h.kb
      · rw [h300, zu_other (by decide), zu_same]
      · rw [h300, zu_same]
    · rw [cIf_f c2, fC_2 (P := ¬ (32 ≤ c ∧ c ≤ 126)) (Q := zI Z 300 4 = 80) (fun g => g c1) (by omega), if_pos (by decide)]
      exact rM.no h (by decide) rfl
  · rw [cIf_f c1, fC_1 (P := ¬ (32 ≤ c ∧ c ≤ 126)) c1, if_pos (by decide)]
    exact rM.no h (by decide) rfl
theorem IMb.text0 {Z : Zm} {B : Nat} {σ : St} {g : Nat → Int} (h : IMb Z B σ) (ho : okS σ) (h4 : g 4 = 0) (hg : ∀ i, i < 17 → i ≠ 4 → g i = zI Z 300 i) (hz : 322 ≤ zSz Z) : IMb (zSI Z 300 g) B (stX σ 0 (sXs σ)) := by
  have e : ∀ a, a ≠ 300 → zI (zSI Z 300 g) a = zI Z a := fun a g => zI_other g
  refine h.up (σ' := stX σ 0 (sXs σ)) ⟨Nat.le_refl _, fun _ _ => ⟨rfl, rfl, rfl⟩⟩ (fun a g1 g2 => e a (by omega)) rfl rfl rfl (by rw [zI_same, hg 2 (by omega) (by omega)]) ⟨by rw [zI_same, h4]; rfl, fun i hi => absurd hi (Nat.not_lt_zero _)⟩ (fun c q g1 g2 => by rw [e _ (by omega)]; exact h.wk c q g1 g2) (by rw [e 309 (by omega)]; exact h.ha) (by rw [zI_same, hg 8 (by omega) (by omega), e 310 (by omega)]; exact h.ty) ?_ (by rw [zI_same, hg 16 (by omega) (by omega), e 314 (by omega)]; exact h.kb) ho.k ho.h
  rw [mPl, zI_same, hg 9 (by omega) (by omega), hg 10 (by omega) (by omega), hg 14 (by omega) (by omega), e 313 (by omega), e 311 (by omega), e 312 (by omega)]
  exact h.pl
theorem d_erase {G : Gx} {Z : Zm} {B : Nat} {σ : St} (h : IMb Z B σ) (ho : okS σ) (hz : 322 ≤ zSz Z) : ZM G 12 m_X12_erase [.ref 300] Z (rM Z iv (o_erase σ)) := by
  refine e_X12_erase h.1 ?_
  rintro _ rfl _ rfl
  rw [zI_same, zSI_zSI]
  refine rM.ok (h.text0 ho (zu_same _ _ _) (fun i g1 g2 => by rw [zu_other g2, zu_other (by omega)]) hz) ?_ (zV_I (by decide)) (by omega) (by omega) ?_
  · rw [zI_same, zu_other (by decide), zu_same]
  · rw [zu_other (by decide)]
    exact h.tx.1
theorem d_signAt {G : Gx} {Z : Zm} {B : Nat} {σ : St} {x : Int} (h : IMb Z B σ) (ho : okS σ) (hz : 322 ≤ zSz Z) (hx : R32 x) : ZM G 12 m_X12_signAt [.ref 300, iv x] Z (rM Z iv (o_signAt σ x)) := by
  have hn := ho.2.2.1
  obtain ⟨t1, t2⟩ := h.tx
  refine e_X12_signAt h.1 ⟨hx, by omega, ?_⟩
  rintro _ rfl
  unfold o_signAt
  by_cases c1 : 0 ≤ x ∧ x < (sXn σ : Int)
  · rw [cIf_p c1, fC_o1 (P := ¬ (0 ≤ x ∧ x ≤ zI Z 300 4 - 1)) (by omega), if_neg (by decide), zI_other (show (300 : Nat) + 3 ≠ 300 by decide)]
    have e := t2 x.toNat (by omega)
    have b := hn.2 x.toNat (by omega)
    have e' : zI Z (300 + 3) x.toNat = sXs σ x.toNat := e
    rw [e']
    exact ⟨fun _ => ⟨⟨c1.1, by omega, by decide⟩, trivial⟩, by omega, by omega, rM.st h rfl rfl⟩
  · rw [cIf_f c1, fC_1 (P := ¬ (0 ≤ x ∧ x ≤ zI Z 300 4 - 1)) (by omega), if_pos (by decide)]
    exact ⟨fun g => absurd (by decide) g, by decide, by decide, rM.no h (by decide) rfl⟩
