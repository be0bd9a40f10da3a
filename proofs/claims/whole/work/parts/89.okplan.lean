/-! ===== the plan that is made is right ===== -/
theorem vPl_ok {σ : St} (ho : okS σ) {c y : Int} (hL : okL (sP0 σ) (vLs σ c)) : okPl (sK σ) (vPl σ c y) := by
  obtain ⟨wf, all⟩ := vSs_ok (y := y) ho hL
  have hP := sP0_ok ho
  have wk : ∀ t x, t < kN (sK σ) → wkAt (sK σ) (plB (vPl σ c y)) t x → wkS (sP0 σ) (vSs σ c y) t x := fun t x ht w => ⟨all t ht, w.1, w.2⟩
  have wk' : ∀ t x, wkS (sP0 σ) (vSs σ c y) t x → wkAt (sK σ) (plB (vPl σ c y)) t x := fun t x w => ⟨w.2.1, w.2.2⟩
  refine ⟨rfl, b2_01 _, fun s hs => ho.2.2.2.2.1 s hs, fun t ht => ?_, fun j hj => ?_, fun t u x ht hu ne w1 w2 => ?_, fun hf t x ht hx hb hl => ?_⟩
  · have a := wf.1 t ht
    have b := wf.2.1 t ht (all t ht)
    have d := all t ht
    refine ⟨?_, b.2.1, b.2.2⟩
    show 0 ≤ (vSs σ c y).1 t ∧ (vSs σ c y).1 t ≤ 5000
    omega
  · have hl := ho.1.l hj
    exact ((wf.2.1 (kL (sK σ) j) hl (all _ hl)).1 j hj ⟨rfl, by show (j : Int) ≠ -1; omega⟩).2
  · obtain ⟨a, b⟩ := wf.2.2 t u x ht hu ne (wk t x ht w1) (wk u x hu w2)
    refine ⟨fun e => a ?_, b⟩
    show (kF (sK σ) 1 t).toNat = (kF (sK σ) 1 u).toNat
    rw [e]
  · have c9 : y = 112 := by
      refine Classical.byContradiction fun g => ?_
      have e : plF (vPl σ c y) = 0 := b2_f g
      omega
    have es : vSs σ c y = simF (sP0 σ) (vLs σ c) 3601 := if_pos c9
    have b := wf.1 t ht
    have hb' : x < (vSs σ c y).1 t := hb
    have gr := (simF_ok hP hL 3601).2 t x ht hx (by omega)
    rw [← es] at gr
    have bl := gr (Or.inr hb') fun j hj e => ⟨all _ (ho.1.e hj), hl j hj e.1⟩
    rcases bl with q | ⟨q1, u, u1, u2, u3⟩
    · refine Or.inl fun i i1 i2 => ?_
      obtain ⟨u, u1, u2, u3, u4⟩ := q i i1 i2
      have e : (kF (sK σ) 1 u).toNat = (kF (sK σ) 1 t).toNat := u2
      have s1 := ho.1.s u1
      have s2 := ho.1.s ht
      exact ⟨u, u1, by omega, u3, wk' u x u4⟩
    · exact Or.inr ⟨q1, u, u1, u2, wk' u x u3⟩
