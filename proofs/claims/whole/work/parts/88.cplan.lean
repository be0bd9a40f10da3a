/-! ===== the class' call plan ===== -/
theorem vSs_ok {σ : St} (ho : okS σ) {c y : Int} (hL : okL (sP0 σ) (vLs σ c)) : wfS (sP0 σ) 3600 (vSs σ c y) ∧ allB (sP0 σ) (vSs σ c y) := by
  have hP := sP0_ok ho
  have hN : kN (pK (sP0 σ)) ≤ 20 := ho.1.n
  unfold vSs
  by_cases d : y = 112
  · rw [if_pos d]
    refine ⟨?_, simE_all hP hL⟩
    have := (simF_ok hP hL 3601).1
    rw [show ((3601 : Nat) : Int) - 1 = 3600 by decide] at this
    exact this
  · rw [if_neg d]
    exact ⟨(srF_ok hP hL (kN (pK (sP0 σ)))).1.up (by omega), srE_all hP hL⟩
theorem vPl_E {σ : St} (ho : okS σ) {c y : Int} (hL : okL (sP0 σ) (vLs σ c)) : 0 ≤ plE (vPl σ c y) ∧ plE (vPl σ c y) ≤ 3660 := by
  obtain ⟨w, a⟩ := vSs_ok (y := y) ho hL
  refine ⟨zmax_0 _ _, zmax_le (by omega) fun i hi => ?_⟩
  have b := w.1 i hi
  have l := ho.1.len hi
  show (vSs σ c y).1 i + kF (sK σ) 0 i ≤ 3660
  omega
theorem c_plan {G : Gx} {Z : Zm} {σ : St} {c y : Int} (h : IC Z σ) (ho : okS σ) (hz : zSz Z < 1000000) (hc : R32 c) (hy : R32 y) : ZM G 12 m_X11_plan [.ref 0, iv c, iv y] Z (rC Z (E3 eA "" "") iv (o_plan σ c y)) := by
  have hN := ho.1.n
  refine e_X11_plan h.1 ⟨hc, hz, ?_⟩
  unfold o_plan
  by_cases c1 : 0 ≤ zIdx 2 c
  case neg =>
    rw [if_neg c1, cIf_f (fun q => c1 q.1)]
    exact rC.no h (by decide) rfl
  rw [if_pos c1]
  refine ⟨hy, ?_⟩
  have go : (y = 112 ∨ y = 115) → ZM G 11 m_X11_makeList [.ref 0, iv c] Z (zKc G 12 m_X11_plan 33 [some (.ref 0), none, some (iv y)] [] (rC Z (E3 eA "" "") iv (cIf (0 ≤ zIdx 2 c ∧ (y = 112 ∨ y = 115)) (0, plE (vPl σ c y), stP σ (some (vPl σ c y))) (1, 0, σ)))) := fun cy => by
    rw [cIf_p ⟨c1, cy⟩]
    refine ((s_makeList h ho hc).deeper (by omega)).mono ?_
    rintro r W ⟨rfl, h1, f1, cn1, ls, e1⟩
    have hL : okL (sP0 σ) (vLs σ c) := ls.okL (P := sP0 σ)
    obtain ⟨wf, all⟩ := vSs_ok (y := y) ho hL
    have pE := vPl_E (y := y) ho hL
    refine b_X11_plan_33 h1.1 (((s_takeOver h1 ho).deeper (by omega)).mono ?_)
    rintro r V ⟨rfl, cV, fV⟩
    have hxV := h1.1.ext fV.1
    have lV : ∀ v, v < kN (pK (sP0 σ)) → zI V 254 v = (vLs σ c v : Int) := fun v hv => by
      rw [fV.i h1.1.a9.1 (by unfold zB; omega)]
      exact e1 v hv
    -- behind the plan is made
    have fin : ∀ Y, cCx Y 256 (sP0 σ) → cSt Y 256 (sP0 σ) (vSs σ c y) → zF (zB 256 (256 + 10)) 0 0 V Y → ZP G 12 m_X11_plan 87 [some (.ref 0), none, some (iv y)] [] Y (rC Z (E3 eA "" "") iv (0, plE (vPl σ c y), stP σ (some (vPl σ c y)))) := fun Y cY sY fY => by
      have hxY := hxV.ext fY.1
      have eS' : ∀ t, t < kN (sK σ) → eS (sP0 σ) (vSs σ c y) t = plB (vPl σ c y) t + kF (sK σ) 0 t := fun t ht => if_neg (all t ht)
      have e4 : zI Y 256 4 = plE (vPl σ c y) := by
        rw [sY.2]
        exact zmax_eq eS'
      have en : cEn Y 256 (sK σ) (vPl σ c y) := ⟨cY.1, cY.2.1, cY.2.2.1, ho.1, by omega, cY.2.2.2.2.2.1, e4, by omega, fun t ht => by
        obtain ⟨-, g2, -⟩ := sY.1 t ht
        have b := wf.1 t ht
        have a := all t ht
        refine ⟨g2.trans (eS' t ht), ?_⟩
        show 0 ≤ (vSs σ c y).1 t ∧ (vSs σ c y).1 t ≤ 9000
        omega⟩
      refine b_X11_plan_87 hxY (((s_makeProof en).deeper (by omega)).mono ?_)
      rintro r X ⟨rfl, ⟨q, d, g, pf, q5, rows⟩, oX, pX', fX⟩
      have hxX := hxY.ext fX.1
      refine b_X11_plan_98 hxX ⟨hy, ?_⟩
      rintro _ rfl
      rintro _ rfl
      simp only [zI_same, zSI_zSI]
      have fZ : zF (fun a => sLs a ∨ zB 256 (256 + 10) a) 0 0 Z (zSI X 256 (zu (zu (zI X 256) 1 (b2 (y = 112))) 0 1)) := (((((f1.mono (fun _ q => Or.inl q) (Nat.le_refl _) (Nat.le_refl _)).trans (fV.mono (fun _ q => Or.inr q) (Nat.le_refl _) (Nat.le_refl _))).trans (fY.mono (fun _ q => Or.inr q) (Nat.le_refl _) (Nat.le_refl _))).trans (fX.mono (fun _ q => Or.inr q) (Nat.le_refl _) (Nat.le_refl _))).trans (zF_I (Or.inr (by unfold zB; omega))))
      have fZ2 : zF (zB 256 (256 + 10)) 0 0 W (zSI X 256 (zu (zu (zI X 256) 1 (b2 (y = 112))) 0 1)) := ((fV.trans fY).trans fX).trans (zF_I (by unfold zB; omega))
      have o256 : ∀ a, a ≠ 256 → zI (zSI X 256 (zu (zu (zI X 256) 1 (b2 (y = 112))) 0 1)) a = zI X a := fun a g => zI_other g
      refine rC.ok (h.plan (h.1.ext fZ.1) (fun a g1 g2 g3 => fZ.i (h.1.lt a g1) fun q => ?_) (Or.inr (cn1.frame h1.1.nt fZ2 fun a g1 g2 => by unfold zB; omega)) ⟨fun q => (by cases q), ?_⟩) (fZ.cc fun a q => ?_) ?_
      · rcases q with q | q
        · exact g2 (by unfold sLs at q; unfold scr; omega)
        · exact g3 (by unfold zB at q; omega)
      · intro p hp
        obtain rfl : vPl σ c y = p := by
          cases hp
          rfl
        refine ⟨?_, ?_, ?_, ?_, fun s hs => ?_, fun t ht => ?_, q, d, g, pf, ?_, fun i hi => ?_⟩
        · rw [zI_same, zu_same]
        · rw [zI_same, zu_other (by decide), zu_same]
          rfl
        · rw [zI_same, zu_other (by decide), zu_other (by decide), pX' 2 (by decide)]
          exact cY.2.2.2.2.2.1
        · rw [zI_same, zu_other (by decide), zu_other (by decide), pX' 4 (by decide)]
          exact e4
        · rw [o256 257 (by decide), oX 257 (by decide) (by decide) (by decide)]
          exact cY.2.2.2.2.2.2.2.2.2.1 s hs
        · obtain ⟨g1, g2, g3⟩ := sY.1 t ht
          rw [o256 259 (by decide), o256 260 (by decide), o256 261 (by decide), oX 259 (by decide) (by decide) (by decide), oX 260 (by decide) (by decide) (by decide), oX 261 (by decide) (by decide) (by decide)]
          exact ⟨g1, g2.trans (eS' t ht), g3 (all t ht)⟩
        · rw [zI_same, zu_other (by decide), zu_other (by decide)]
          exact q5
        · rw [o256 264 (by decide), o256 265 (by decide)]
          exact rows i hi
      · rcases q with q | q
        · unfold sLs at q
          omega
        · unfold zB at q
          omega
      · rw [zu_other (by decide), zu_other (by decide), pX' 4 (by decide)]
        exact e4
    refine b_X11_plan_48 hxV ⟨hy, ?_⟩
    by_cases d : y = 112
    · rw [if_pos d]
      refine ((s_makeByFreeHands cV ⟨h1.1.a9.ext fV.1, Or.inl (by omega)⟩ hL lV).deeper (by omega)).mono ?_
      rintro r Y ⟨rfl, cY, sY, fY⟩
      have e : vSs σ c y = simE (sP0 σ) (vLs σ c) := if_pos d
      rw [← e] at sY
      exact b_X11_plan_69 (hxV.ext fY.1) (fin Y cY sY fY)
    · rw [if_neg d]
      refine ((s_makeOneByOne cV ⟨h1.1.a9.ext fV.1, Or.inl (by omega)⟩ hL lV).deeper (by omega)).mono ?_
      rintro r Y ⟨rfl, cY, sY, fY⟩
      have e : vSs σ c y = srE (sP0 σ) (vLs σ c) := if_neg d
      rw [← e] at sY
      exact fin Y cY sY fY
  by_cases c2 : y = 112
  · rw [if_pos c2]
    exact go (Or.inl c2)
  rw [if_neg c2]
  by_cases c3 : y = 115
  · rw [if_pos c3]
    exact go (Or.inr c3)
  rw [if_neg c3, cIf_f (fun q => q.2.elim c2 c3)]
  exact rC.no h (by decide) rfl
