/-! ===== the model's list ===== -/
/-- p tasks are picked: f tells which -/
def sPk (key : Nat → Int) (n : Nat) (L : Nat → Nat) (f : Nat → Int) (p : Nat) : Prop := (∀ t, t < n → f t = 0 ∨ f t = 1) ∧ (∀ i, i < p → L i < n ∧ f (L i) = 1) ∧ (∀ t, t < n → f t = 1 → ∃ i, i < p ∧ L i = t) ∧ (∀ i j, i < j → j < p → bef key (L i) (L j)) ∧ ∀ i u, i < p → u < n → f u = 0 → bef key (L i) u
/-- the best of the first j that are not picked -/
def sBt (key : Nat → Int) (f : Nat → Int) (j : Nat) (x y : Int) : Prop := (x = -1 ∧ ∀ t, t < j → f t = 1) ∨ ∃ t : Nat, t < j ∧ f t = 0 ∧ x = (t : Int) ∧ y = key t ∧ ∀ u, u < j → f u = 0 → u ≠ t → bef key t u
theorem sBt.step {key : Nat → Int} {f : Nat → Int} {j : Nat} {x y : Int} (h : sBt key f j x y) (h01 : f j = 0 ∨ f j = 1) : sBt key f (j + 1) (if f j = 0 then (if x = -1 then (j : Int) else (if y ≤ key j then x else (j : Int))) else x) (if f j = 0 then (if x = -1 then key j else (if y ≤ key j then y else key j)) else y) := by
  by_cases c : f j = 0
  · rw [if_pos c, if_pos c]
    rcases h with ⟨h1, h2⟩ | ⟨t, h1, h2, h3, h4, h5⟩
    · rw [if_pos h1, if_pos h1]
      refine Or.inr ⟨j, by omega, c, rfl, rfl, fun u hu g1 g2 => ?_⟩
      have := h2 u (by omega)
      omega
    · have hx : ¬ x = -1 := by omega
      rw [if_neg hx, if_neg hx]
      by_cases d : y ≤ key j
      · rw [if_pos d, if_pos d]
        refine Or.inr ⟨t, by omega, h2, h3, h4, fun u hu g1 g2 => ?_⟩
        by_cases e : u = j
        · rw [e]
          unfold bef
          omega
        · exact h5 u (by omega) g1 g2
      · rw [if_neg d, if_neg d]
        refine Or.inr ⟨j, by omega, c, rfl, rfl, fun u hu g1 g2 => ?_⟩
        have a1 : bef key j t := Or.inl (by omega)
        by_cases e : u = t
        · rw [e]
          exact a1
        · exact a1.tr (h5 u (by omega) g1 e)
  · rw [if_neg c, if_neg c]
    rcases h with ⟨h1, h2⟩ | ⟨t, h1, h2, h3, h4, h5⟩
    · refine Or.inl ⟨h1, fun t ht => ?_⟩
      by_cases e : t = j
      · rw [e]
        exact h01.resolve_left c
      · exact h2 t (by omega)
    · refine Or.inr ⟨t, by omega, h2, h3, h4, fun u hu g1 g2 => ?_⟩
      by_cases e : u = j
      · rw [e] at g1
        exact absurd g1 c
      · exact h5 u (by omega) g1 g2
theorem sPk.more {key : Nat → Int} {n : Nat} {L : Nat → Nat} {f : Nat → Int} {p : Nat} (h : sPk key n L f p) (hp : p < n) : ¬ ∀ t, t < n → f t = 1 := fun g => by
  have h1 : ∀ t, ∃ i, t < n → i < p ∧ L i = t := fun t => by
    by_cases c : t < n
    · obtain ⟨i, h1, h2⟩ := h.2.2.1 t c (g t c)
      exact ⟨i, fun _ => ⟨h1, h2⟩⟩
    · exact ⟨0, fun q => absurd q c⟩
  obtain ⟨q, hq⟩ := Classical.axiomOfChoice h1
  have := pig (f := q) (N := p) (a := n) (fun t ht => (hq t ht).1) fun t t' ht ht' e => by rw [← (hq t ht).2, ← (hq t' ht').2, e]
  omega
theorem sPk.pick {key : Nat → Int} {n : Nat} {L : Nat → Nat} {f : Nat → Int} {p t : Nat} (h : sPk key n L f p) (ht : t < n) (h0 : f t = 0) (hb : ∀ u, u < n → f u = 0 → u ≠ t → bef key t u) : sPk key n (fun i => if i = p then t else L i) (zu f t 1) (p + 1) := by
  obtain ⟨h1, h2, h3, h4, h5⟩ := h
  have lo : ∀ i, i < p → (fun i => if i = p then t else L i) i = L i := fun i hi => if_neg (by omega)
  have at' : (fun i => if i = p then t else L i) p = t := if_pos rfl
  have cs : ∀ i, i < p + 1 → i = p ∨ i < p := fun i hi => by omega
  refine ⟨fun u hu => ?_, fun i hi => ?_, fun u hu g => ?_, fun i j hij hj => ?_, fun i u hi hu g => ?_⟩
  · by_cases c : u = t
    · rw [c, zu_same]
      exact Or.inr rfl
    · rw [zu_other c]
      exact h1 u hu
  · rcases cs i hi with e | e
    · rw [e, at', zu_same]
      exact ⟨ht, rfl⟩
    · rw [lo i e]
      have := h2 i e
      have ne : L i ≠ t := fun q => by
        rw [q] at this
        omega
      rw [zu_other ne]
      exact this
  · by_cases c : u = t
    · exact ⟨p, by omega, by rw [at', c]⟩
    · rw [zu_other c] at g
      obtain ⟨i, i1, i2⟩ := h3 u hu g
      exact ⟨i, by omega, by rw [lo i i1, i2]⟩
  · rw [lo i (by omega)]
    rcases cs j hj with e | e
    · rw [e, at']
      exact h5 i t (by omega) ht h0
    · rw [lo j e]
      exact h4 i j hij e
  · have ne : u ≠ t := fun q => by
      rw [q, zu_same] at g
      omega
    rw [zu_other ne] at g
    rcases cs i hi with e | e
    · rw [e, at']
      exact hb u hu g ne
    · rw [lo i e]
      exact h5 i u e hu g
theorem s_listBy {G : Gx} {Z : Zm} {B : Nat} {σ : St} {c : Int} (h : IMb Z B σ) (ho : okT σ) (hz : 322 ≤ zSz Z ∧ zSz Z < 990000) (hc : R32 c) : ZM G 5 m_X12_listBy [.ref 300, iv c] Z (fun r W => r = .inl (some (.ref (zSz Z + 4))) ∧ zF mS 6 120 Z W ∧ IMb W B σ ∧ zA W (zSz Z + 4) 100 (kN (sK σ)) ∧ isLs (lk σ c) (kN (sK σ)) (vLs σ c) ∧ ∀ p, p < kN (sK σ) → zI W (zSz Z + 4) p = (vLs σ c p : Int)) := by
  have hN := ho.1.n
  have eo := eOk_all ho.1
  refine e_X12_listBy h.1 (((m_len h ho.T ⟨hz.1, by omega⟩).deeper (by omega)).mono ?_)
  rintro r Z1 ⟨rfl, f1, h1, u1⟩
  refine b_X12_listBy_4 h1.1 u1.1 (((m_R h1 ho.T (mHz.f hz f1 (by omega)) u1).deeper (by omega)).mono ?_)
  rintro r Z2 ⟨rfl, f2, h2, u2⟩
  have g2 := f1.trans f2
  have v1 := u1.fr f2
  refine b_X12_listBy_10 h2.1 v1.1 u2.1 (((m_E h2 ho.T (mHz.f hz g2 (by omega)) v1).deeper (by omega)).mono ?_)
  rintro r Z3 ⟨rfl, f3, h3, u3⟩
  have g3 := g2.trans f3
  have w1 := v1.fr f3
  have w2 := u2.fr f3
  refine b_X12_listBy_16 h3.1 w1.1 w2.1 u3.1 (((m_L h3 ho.T (mHz.f hz g3 (by omega)) w1).deeper (by omega)).mono ?_)
  rintro r Z4 ⟨rfl, f4, h4, u4⟩
  have g4 := g3.trans f4
  have x1 := w1.fr f4
  have x2 := w2.fr f4
  have x3 := u3.fr f4
  have s1 := u2.1.1
  have s2 := u3.1.1
  have s3 := u4.1.1
  have b1 := f1.z
  have b2' := f2.z
  have b3 := f3.z
  have b4 := f4.z
  have s0 := u1.1.1
  have z1 : zSz Z1 = zSz Z + 1 := by omega
  have z2 : zSz Z2 = zSz Z + 2 := by omega
  have z3 : zSz Z3 = zSz Z + 3 := by omega
  have z4 : zSz Z4 = zSz Z + 4 := by omega
  rw [z1] at x2 ⊢
  rw [z2] at x3 ⊢
  rw [z3] at u4 ⊢
  refine b_X12_listBy_23 h4.1 x1.1 x2.1 x3.1 u4.1 ?_
  rw [h4.2.2.1.1, z4, Int.toNat_natCast]
  refine ⟨by omega, by omega, by omega, ?_⟩
  rintro _ rfl
  refine ⟨by show zSz Z4 + 1 < 1000000; omega, ?_⟩
  rintro _ rfl
  rw [show zSz (zC Z4 100 (kN (sK σ)) (kN (sK σ))) = zSz Z4 + 1 from rfl, z4]
  have f5 : zF mS 2 (kN (sK σ) + 20) Z4 (zC (zC Z4 100 (kN (sK σ)) (kN (sK σ))) 102 20 20) := (zF_C (S := mS)).trans (zF_C (S := mS))
  have aL : zA (zC (zC Z4 100 (kN (sK σ)) (kN (sK σ))) 102 20 20) (zSz Z4) 100 (kN (sK σ)) := (zA_C Z4 100 (kN (sK σ)) (kN (sK σ))).ext (zX_C (zC Z4 100 (kN (sK σ)) (kN (sK σ))) 102 20 20)
  have aI : zA (zC (zC Z4 100 (kN (sK σ)) (kN (sK σ))) 102 20 20) (zSz Z4 + 1) 102 20 := zA_C (zC Z4 100 (kN (sK σ)) (kN (sK σ))) 102 20 20
  have iI : zI (zC (zC Z4 100 (kN (sK σ)) (kN (sK σ))) 102 20 20) (zSz Z4 + 1) = fun _ => 0 := zI_C (zC Z4 100 (kN (sK σ)) (kN (sK σ))) 102 20 20
  rw [z4] at aL aI iI
  generalize zC (zC Z4 100 (kN (sK σ)) (kN (sK σ))) 102 20 20 = Y at f5 aL aI iI ⊢
  have g5 : zF mS 6 120 Z Y := (g4.trans f5).mono (fun _ g => g) (by omega) (by omega)
  have hY := h.m hz.1 g5
  have y1 := x1.fr f5
  have y2 := x2.fr f5
  have y3 := x3.fr f5
  have y4 := u4.fr f5
  have szY := aI.1
  generalize ha : zSz Z = a at *
  have fW : ∀ f g, zF mS 6 120 Z (zSI (zSI Y (a + 4) g) (a + 5) f) := fun f g => by
    refine ⟨g5.1, g5.2.1, fun b hb hs => ?_⟩
    obtain ⟨q1, q2, q3⟩ := g5.2.2 b hb hs
    exact ⟨((zI_other (by omega)).trans (zI_other (by omega))).trans q1, q2, q3⟩
  have hU : ∀ f g, IMb (zSI (zSI Y (a + 4) g) (a + 5) f) B σ := fun f g => h.m (by omega) (fW f g)
  have aU : ∀ f g, zA (zSI (zSI Y (a + 4) g) (a + 5) f) (a + 4) 100 (kN (sK σ)) := fun f g => aL.s.s
  have bU : ∀ f g, zA (zSI (zSI Y (a + 4) g) (a + 5) f) (a + 5) 102 20 := fun f g => aI.s.s
  have ea : ∀ f g, zI (zSI (zSI Y (a + 4) g) (a + 5) f) (a + 4) = g := fun f g => (zI_other (by omega)).trans (zI_same _ _ _)
  have eb : ∀ f g, zI (zSI (zSI Y (a + 4) g) (a + 5) f) (a + 5) = f := fun f g => zI_same _ _ _
  have eN : ∀ f g, zI (zSI (zSI Y (a + 4) g) (a + 5) f) B 0 = (kN (sK σ) : Int) := fun f g => (hU f g).2.2.1.1
  have e1 : ∀ f g t, t < kN (sK σ) → zI (zSI (zSI Y (a + 4) g) (a + 5) f) a t = kF (sK σ) 0 t := fun f g t ht => by
    rw [zI_other (by omega), zI_other (by omega)]
    exact y1.2.2 t ht
  have e2 : ∀ f g t, t < kN (sK σ) → zI (zSI (zSI Y (a + 4) g) (a + 5) f) (a + 1) t = eR (sK σ) t := fun f g t ht => by
    rw [zI_other (by omega), zI_other (by omega)]
    exact y2.2.2 t ht
  have e3 : ∀ f g t, t < kN (sK σ) → zI (zSI (zSI Y (a + 4) g) (a + 5) f) (a + 2) t = eE (sK σ) t := fun f g t ht => by
    rw [zI_other (by omega), zI_other (by omega)]
    exact y3.2.2 t ht
  have e4 : ∀ f g t, t < kN (sK σ) → zI (zSI (zSI Y (a + 4) g) (a + 5) f) (a + 3) t = eL (sK σ) t := fun f g t ht => by
    rw [zI_other (by omega), zI_other (by omega)]
    exact y4.2.2 t ht
  have aa : ∀ f g, zA (zSI (zSI Y (a + 4) g) (a + 5) f) a 100 20 := fun f g => y1.1.s.s
  have ab : ∀ f g, zA (zSI (zSI Y (a + 4) g) (a + 5) f) (a + 1) 100 20 := fun f g => y2.1.s.s
  have ac : ∀ f g, zA (zSI (zSI Y (a + 4) g) (a + 5) f) (a + 2) 100 20 := fun f g => y3.1.s.s
  have ad : ∀ f g, zA (zSI (zSI Y (a + 4) g) (a + 5) f) (a + 3) 100 20 := fun f g => y4.1.s.s
  generalize hQ : (fun (r : Rv) (W : Zm) => r = .inl (some (.ref (a + 4))) ∧ zF mS 6 120 Z W ∧ IMb W B σ ∧ zA W (a + 4) 100 (kN (sK σ)) ∧ isLs (lk σ c) (kN (sK σ)) (vLs σ c) ∧ ∀ p, p < kN (sK σ) → zI W (a + 4) p = (vLs σ c p : Int)) = Q
  suffices outer : ∀ p, p ≤ kN (sK σ) → ∀ f g L, sPk (lk σ c) (kN (sK σ)) L f p → (∀ i, i < p → g i = (L i : Int)) → ZP G 5 m_X12_listBy 42 [some (.ref 300), some (iv c), some (.ref a), some (.ref (a + 1)), some (.ref (a + 2)), some (.ref (a + 3)), some (.ref (a + 4)), some (.ref (a + 5)), some (iv (p : Int)), none, none, none, none] [] (zSI (zSI Y (a + 4) g) (a + 5) f) Q by
    have h9 := outer 0 (Nat.zero_le _) (zI Y (a + 5)) (zI Y (a + 4)) (fun _ => 0) ⟨fun t ht => Or.inl (by rw [iI]), fun i hi => absurd hi (Nat.not_lt_zero _), fun t ht q => by rw [iI] at q; have : (0 : Int) = 1 := q; omega, fun i j _ hj => absurd hj (Nat.not_lt_zero _), fun i u hi => absurd hi (Nat.not_lt_zero _)⟩ fun i hi => absurd hi (Nat.not_lt_zero _)
    rw [zSI_id, zSI_id] at h9
    exact h9
  refine am_up (n := kN (sK σ)) fun p hp ih f g L hL hg => ?_
  refine b_X12_listBy_42 (hU f g).1 (aa f g) (ab f g) (ac f g) (ad f g) (aU f g) (bU f g) ⟨by omega, by rw [eN]; omega, ?_⟩
  rw [eN]
  by_cases cp : p < kN (sK σ)
  · rw [if_neg (by omega)]
    suffices inn : ∀ j, j ≤ kN (sK σ) → ∀ x y, (-2000 ≤ y ∧ y ≤ 2000) → sBt (lk σ c) f j x y → ZP G 5 m_X12_listBy 60 [some (.ref 300), some (iv c), some (.ref a), some (.ref (a + 1)), some (.ref (a + 2)), some (.ref (a + 3)), some (.ref (a + 4)), some (.ref (a + 5)), some (iv (p : Int)), some (iv x), some (iv y), some (iv (j : Int)), none] [] (zSI (zSI Y (a + 4) g) (a + 5) f) Q from inn 0 (Nat.zero_le _) (-1) 0 (by omega) (Or.inl ⟨rfl, fun t ht => absurd ht (Nat.not_lt_zero _)⟩)
    refine am_up (n := kN (sK σ)) fun j hj ihj x y hy hB => ?_
    have rx : -1 ≤ x ∧ x < 20 := by
      rcases hB with ⟨q, -⟩ | ⟨t, q1, -, q2, -⟩ <;> omega
    refine b_X12_listBy_60 (hU f g).1 (aa f g) (ab f g) (ac f g) (ad f g) (aU f g) (bU f g) ⟨by omega, by rw [eN]; omega, ?_⟩
    rw [eN]
    by_cases cj : j < kN (sK σ)
    · rw [if_neg (by omega)]
      have f01 := hL.1 j cj
      have rk := lk_r ho.T c cj
      have st := hB.step f01
      have nx := ihj cj _ _ (by
        by_cases q : f j = 0
        · rw [if_pos q]
          by_cases q2 : x = -1
          · rw [if_pos q2]
            exact rk
          · rw [if_neg q2]
            by_cases q3 : y ≤ lk σ c j
            · rw [if_pos q3]
              exact hy
            · rw [if_neg q3]
              exact rk
        · rw [if_neg q]
          exact hy) st
      clear st hB
      rw [Int.toNat_natCast, eb, e1 f g j cj, e2 f g j cj, e3 f g j cj, e4 f g j cj]
      have j20 : zIx (j : Int) 20 := zIx_nat (by omega) (by omega)
      have r01 : R32 (f j) := b01_r f01
      refine ⟨hc, ?_⟩
      unfold lk at nx rk
      by_cases c1 : c = 108
      · rw [if_pos c1] at nx rk ⊢
        exact ⟨j20, r01, fun _ => ⟨by omega, fun _ => ⟨by omega, by omega, trivial⟩, trivial⟩, nx⟩
      rw [if_neg c1] at nx rk ⊢
      by_cases c2 : c = 114
      · rw [if_pos c2] at nx rk ⊢
        exact ⟨j20, r01, fun _ => ⟨by omega, fun _ => ⟨by omega, by omega, trivial⟩, trivial⟩, nx⟩
      rw [if_neg c2] at nx rk ⊢
      by_cases c3 : c = 115
      · rw [if_pos c3] at nx rk ⊢
        exact ⟨j20, r01, fun _ => ⟨by omega, fun _ => ⟨by omega, by omega, trivial⟩, trivial⟩, nx⟩
      rw [if_neg c3] at nx rk ⊢
      by_cases c4 : c = 116
      · rw [if_pos c4] at nx rk ⊢
        refine ((s_mtypedPlace (hU f g) ho.T (by omega)).deeper (by omega)).mono ?_
        rintro r W ⟨⟨rfl, -⟩, hW⟩
        obtain rfl := hW.symm
        refine b_X12_listBy_129 (hU f g).1 (aa f g) (ab f g) (ac f g) (ad f g) (aU f g) (bU f g) ?_
        rw [Int.toNat_natCast, eb]
        exact ⟨j20, r01, fun _ => ⟨by omega, fun _ => ⟨by omega, by omega, trivial⟩, trivial⟩, nx⟩
      · rw [if_neg c4] at nx rk ⊢
        exact ⟨j20, r01, fun _ => ⟨by omega, fun _ => ⟨by omega, trivial⟩, trivial⟩, nx⟩
    · rw [if_pos (by omega)]
      rw [show j = kN (sK σ) by omega] at hB
      rcases hB with ⟨-, q⟩ | ⟨t, q1, q2, q3, -, q5⟩
      · exact absurd q (hL.more cp)
      · have pk := hL.pick q1 q2 q5
        rw [q3]
        refine ⟨zIx_nat (by omega) (by omega), ?_⟩
        rintro _ rfl
        refine ⟨zIx_nat (by omega) (by omega), ?_⟩
        rintro _ rfl
        rw [Int.toNat_natCast, Int.toNat_natCast, ea, zI_other (show a + 5 ≠ a + 4 by omega), eb, zSI_comm (zSI Y (a + 4) g) f _ (by omega), zSI_zSI, zSI_zSI]
        refine ih cp _ _ _ pk fun i hi => ?_
        show zu g p (t : Int) i = ((if i = p then t else L i : Nat) : Int)
        by_cases e : i = p
        · rw [if_pos e, e, zu_same]
        · rw [if_neg e, zu_other e]
          exact hg i (by omega)
  · rw [if_pos (by omega)]
    rw [show p = kN (sK σ) by omega] at hL hg
    have iL : isLs (lk σ c) (kN (sK σ)) L := ⟨fun i hi => (hL.2.1 i hi).1, hL.2.2.2.1⟩
    obtain ⟨q1, q2⟩ := vLs_ok iL
    rw [← hQ]
    refine ⟨rfl, fW f g, hU f g, aU f g, q1, fun i hi => ?_⟩
    rw [ea, hg i hi, q2 i hi]
theorem d_listed {G : Gx} {Z : Zm} {B : Nat} {σ : St} {c x : Int} (h : IMb Z B σ) (ho : okS σ) (hz : 322 ≤ zSz Z ∧ zSz Z < 990000) (hc : R32 c) (hx : R32 x) : ZM G 12 m_X12_listed [.ref 300, iv c, iv x] Z (rM Z iv (o_listed σ c x)) := by
  have hn := ho.1.n
  have h0 := h.2.2.1.1
  have e8 : zIdx 8 c = zIdx 2 c := (zIdx_eq rfl c).symm
  refine e_X12_listed h.1 ⟨hc, zIdx_r32 _ _, hx, by omega, ?_⟩
  rintro _ rfl
  rw [e8, h0]
  unfold o_listed
  by_cases c1 : 0 ≤ zIdx 2 c
  · by_cases c2 : 0 ≤ x ∧ x < (kN (sK σ) : Int)
    · rw [cIf_p c1, cIf_p c2, fC_o2 (P := ¬ 0 ≤ zIdx 2 c) (Q := ¬ (0 ≤ x ∧ x ≤ (kN (sK σ) : Int) - 1)) (by omega) (by omega), if_neg (by decide)]
      refine ((s_listBy (h.t 0) ho.T hz hc).deeper (by omega)).mono ?_
      rintro r W ⟨rfl, f, h1, aW, -, e⟩
      obtain ⟨v, e0⟩ := mS_t f hz.1
      exact b_X12_listed_50 h1.1 aW ⟨⟨c2.1, by omega, by omega⟩, rM.ok h1 e0 v (by omega) (by omega) (e _ (by omega))⟩
    · rw [cIf_p c1, cIf_f c2, fC_2 (P := ¬ 0 ≤ zIdx 2 c) (Q := ¬ (0 ≤ x ∧ x ≤ (kN (sK σ) : Int) - 1)) (by omega) (by omega), if_pos (by decide)]
      exact rM.no h (by decide) rfl
  · rw [cIf_f c1, fC_1 (P := ¬ 0 ≤ zIdx 2 c) c1, if_pos (by decide)]
    exact rM.no h (by decide) rfl
