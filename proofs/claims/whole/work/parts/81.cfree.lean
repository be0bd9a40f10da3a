/-! ===== the class' plan by free hands ===== -/
def s00 : Ss := (fun _ => -1, fun _ => -1)
theorem zF_p {Z : Zm} {p a : Nat} {f : Nat → Int} (h : p ≤ a ∧ a < p + 10) : zF (zB p (p + 10)) 0 0 Z (zSI Z a f) := zF_I (by unfold zB; omega)
theorem s_beginAnew {G : Gx} {Z : Zm} {p : Nat} {P : Sp} (h : cCx Z p P) : ZM G 1 m_X9_beginAnew [.ref p, .ref 1] Z (fun r W => r = .inl none ∧ cCx W p P ∧ cSt W p P s00 ∧ cLt W p P s00.1 (put P s00) ∧ zF (zB p (p + 10)) 0 0 Z W) := by
  have hP := h.2.2.2.1
  have hN := hP.1.n
  have hM := hP.1.m
  refine e_X9_beginAnew h.1 h.2.1 ?_
  rintro _ rfl _ rfl _ rfl _ rfl _ rfl
  have c5 := ((((h.e (f := zu (zI Z p) 4 0) ⟨zu_other (by decide), zu_other (by decide)⟩).s (a := p + 3) (f := zfl (zI (zSI Z p (zu (zI Z p) 4 0)) (p + 3)) 20 (-1)) (by omega)).s (a := p + 4) (f := zfl (zI (zSI (zSI Z p (zu (zI Z p) 4 0)) (p + 3) (zfl (zI (zSI Z p (zu (zI Z p) 4 0)) (p + 3)) 20 (-1))) (p + 4)) 20 (-1)) (by omega)))
  generalize h5 : zSI (zSI (zSI Z p (zu (zI Z p) 4 0)) (p + 3) (zfl (zI (zSI Z p (zu (zI Z p) 4 0)) (p + 3)) 20 (-1))) (p + 4) (zfl (zI (zSI (zSI Z p (zu (zI Z p) 4 0)) (p + 3) (zfl (zI (zSI Z p (zu (zI Z p) 4 0)) (p + 3)) 20 (-1))) (p + 4)) 20 (-1)) = V at c5 ⊢
  have fV : zF (zB p (p + 10)) 0 0 Z V := by
    rw [← h5]
    exact ((zF_p (by omega)).trans (zF_p (by omega))).trans (zF_p (by omega))
  have v3 : ∀ t, t < 20 → zI V (p + 3) t = -1 := fun t ht => by
    rw [← h5, zI_other (by omega), zI_same]
    exact if_pos ht
  have v4 : ∀ t, t < 20 → zI V (p + 4) t = -1 := fun t ht => by
    rw [← h5, zI_same]
    exact if_pos ht
  have v0 : zI V p 4 = 0 := by
    rw [← h5, zI_other (by omega), zI_other (by omega), zI_same, zu_same]
  clear h5
  have cW := (c5.s (a := p + 6) (f := zfl (zI V (p + 6)) 20 0) (by omega)).s (a := p + 7) (f := zfl (zI (zSI V (p + 6) (zfl (zI V (p + 6)) 20 0)) (p + 7)) 20 0) (by omega)
  generalize h7 : zSI (zSI V (p + 6) (zfl (zI V (p + 6)) 20 0)) (p + 7) (zfl (zI (zSI V (p + 6) (zfl (zI V (p + 6)) 20 0)) (p + 7)) 20 0) = W at cW ⊢
  have fW : zF (zB p (p + 10)) 0 0 Z W := by
    rw [← h7]
    exact (fV.trans (zF_p (by omega))).trans (zF_p (by omega))
  have w6 : ∀ t, t < 20 → zI W (p + 6) t = 0 := fun t ht => by
    rw [← h7, zI_other (by omega), zI_same]
    exact if_pos ht
  have w7 : ∀ t, t < 20 → zI W (p + 7) t = 0 := fun t ht => by
    rw [← h7, zI_same]
    exact if_pos ht
  have em : zmax (eS P s00) (kN (pK P)) = 0 := by
    have a := zmax_0 (eS P s00) (kN (pK P))
    have b := zmax_le (f := eS P s00) (n := kN (pK P)) (b := 0) (by omega) fun i hi => by
      unfold eS
      rw [if_pos (show s00.1 i = -1 from rfl)]
      decide
    omega
  have sW : cSt W p P s00 := by
    refine ⟨fun t ht => ?_, ?_⟩
    · rw [← h7, zI_other (show p + 3 ≠ p + 7 by omega), zI_other (show p + 3 ≠ p + 6 by omega), zI_other (show p + 4 ≠ p + 7 by omega), zI_other (show p + 4 ≠ p + 6 by omega)]
      refine ⟨v3 t (by omega), (v4 t (by omega)).trans ?_, fun q => absurd rfl q⟩
      unfold eS
      rw [if_pos (show s00.1 t = -1 from rfl)]
    · rw [em, ← h7, zI_other (show p ≠ p + 7 by omega), zI_other (show p ≠ p + 6 by omega)]
      exact v0
  clear h7 c5 fV v3 v4 v0
  suffices key : ∀ j, j ≤ kM (pK P) → ∀ W, cCx W p P → cSt W p P s00 → (∀ t, t < kN (pK P) → zI W (p + 6) t = 0 ∧ zI W (p + 7) t = zsum (fun i => cIf (nd P i t ∧ ¬ put P s00 i) (1 : Int) 0) j) → zF (zB p (p + 10)) 0 0 Z W → ZP G 1 m_X9_beginAnew 39 [some (.ref p), some (.ref 1), some (iv (j : Int))] [] W (fun r W => r = .inl none ∧ cCx W p P ∧ cSt W p P s00 ∧ cLt W p P s00.1 (put P s00) ∧ zF (zB p (p + 10)) 0 0 Z W) from key 0 (Nat.zero_le _) W cW sW (fun t ht => ⟨w6 t (by omega), w7 t (by omega)⟩) fW
  clear cW sW w6 w7 fW
  have np : ∀ i, ¬ put P s00 i := fun i q => q rfl
  refine am_up (n := kM (pK P)) fun j hj ih W cW sW hw fW => ?_
  have kW := cW.2.2.1
  refine b_X9_beginAnew_39 cW.1 cW.2.1 ⟨by omega, by rw [kW.2.1]; omega, ?_⟩
  rw [kW.2.1]
  by_cases c : j < kM (pK P)
  · have hL := hP.1.l c
    have k2 : zI W (1 + 16) j = (kL (pK P) j : Int) := (kW.2.2.2 j c).2.1
    have r7 := cW.2.2.2.2.2.2.2.1
    rw [if_neg (by omega), cW.2.2.2.2.2.2.1]
    refine ⟨by omega, ?_⟩
    by_cases c1 : (j : Int) = pX P
    · rw [if_pos c1]
      refine ih c W cW sW (fun t ht => ⟨(hw t ht).1, ?_⟩) fW
      rw [(hw t ht).2, zsum_s, cIf_f (fun q => q.1.2 c1)]
      omega
    · rw [if_neg c1, Int.toNat_natCast, k2]
      refine ⟨zIx_nat (by omega) (by omega), zIx_nat (by omega) (by omega), ?_⟩
      rintro _ rfl
      rw [Int.toNat_natCast]
      refine ih c _ (cW.s (by omega)) ⟨fun t ht => ?_, ?_⟩ (fun t ht => ?_) (fW.trans (zF_p (by omega)))
      · rw [zI_other (show p + 3 ≠ p + 7 by omega), zI_other (show p + 4 ≠ p + 7 by omega), zI_other (show p + 5 ≠ p + 7 by omega)]
        exact sW.1 t ht
      · rw [zI_other (show p ≠ p + 7 by omega)]
        exact sW.2
      · rw [zI_other (show p + 6 ≠ p + 7 by omega), zI_same]
        refine ⟨(hw t ht).1, ?_⟩
        rw [zsum_s]
        by_cases e : t = kL (pK P) j
        · rw [← e, zu_same, (hw t ht).2, cIf_p ⟨⟨e.symm, c1⟩, np j⟩]
        · rw [zu_other e, (hw t ht).2, cIf_f (fun q => e q.1.1.symm)]
          omega
  · rw [if_pos (by omega)]
    rw [show j = kM (pK P) by omega] at hw
    refine ⟨rfl, cW, sW, fun t ht => ?_, fW⟩
    obtain ⟨a, b⟩ := hw t ht
    refine ⟨b, ?_⟩
    rw [a]
    exact ⟨Int.le_refl _, fun i _ _ q => absurd q (np i), Or.inl rfl⟩
theorem wfS.sb {P : Sp} (hP : okP P) (hH : ∀ t, t < kN (pK P) → pH P (pS P t) ≤ 6) {x : Int} {s : Ss} (h : wfS P x s) (hx : x ≤ 9000) : sB P s := fun t ht => by
  have a := h.1 t ht
  have b := h.2.1 t ht
  have c := hH t ht
  refine ⟨by omega, by omega, fun q => ?_⟩
  have := b q
  omega
theorem s_makeByFreeHands {G : Gx} {Z : Zm} {p l : Nat} {P : Sp} {L : Nat → Nat} (h : cCx Z p P) (hl : zA Z l 100 20 ∧ (l < p ∨ p + 10 ≤ l)) (hL : okL P L) (hv : ∀ v, v < kN (pK P) → zI Z l v = (L v : Int)) : ZM G 2 m_X9_makeByFreeHands [.ref p, .ref 1, .ref l] Z (fun r W => r = .inl none ∧ cCx W p P ∧ cSt W p P (simE P L) ∧ zF (zB p (p + 10)) 0 0 Z W) := by
  have hP := h.2.2.2.1
  have hN := hP.1.n
  have hH : ∀ t, t < kN (pK P) → pH P (pS P t) ≤ 6 := fun t ht => (hP.2.2.1 t ht).2
  have ll : ∀ {W : Zm}, zF (zB p (p + 10)) 0 0 Z W → zA W l 100 20 ∧ ∀ v, v < kN (pK P) → zI W l v = (L v : Int) := fun {W} f => ⟨hl.1.ext f.1, fun v hv' => by rw [f.i hl.1.1 (by unfold zB; omega)]; exact hv v hv'⟩
  generalize hR : (fun (r : Rv) (W : Zm) => r = .inl none ∧ cCx W p P ∧ cSt W p P (simE P L) ∧ zF (zB p (p + 10)) 0 0 Z W) = R
  refine e_X9_makeByFreeHands h.1 h.2.1 hl.1 ((s_beginAnew h).mono ?_)
  rintro r W ⟨rfl, cW, sW, lW, fW⟩
  refine b_X9_makeByFreeHands_5 cW.1 cW.2.1 (ll fW).1 ?_
  suffices outer : ∀ m r x : Nat, 41 ≤ r + m → run P L r x → ∀ W, cCx W p P → cSt W p P (simF P L x) → cLt W p P (simF P L x).1 (put P (simF P L x)) → zF (zB p (p + 10)) 0 0 Z W → ZP G 2 m_X9_makeByFreeHands 10 [some (.ref p), some (.ref 1), some (.ref l), some (iv (x : Int)), some (iv (r : Int)), none, none] [] W R from outer 41 0 0 (by omega) (run.z P L) W cW sW lW fW
  clear cW sW lW fW
  intro m
  induction m with
  | zero =>
    intro r x hm hr
    have := hr.le
    omega
  | succ m ih =>
    intro r x hm hr W cW sW lW fW
    have rl := hr.le
    refine b_X9_makeByFreeHands_10 cW.1 cW.2.1 (ll fW).1 ⟨by omega, ?_⟩
    rw [if_neg (by omega)]
    refine ⟨by omega, ?_⟩
    rw [if_neg (by omega)]
    have so := simF_ok hP hL x
    suffices pass : ∀ v, v ≤ kN (pK P) → ∀ W, cCx W p P → cSt W p P (psF P L (x : Int) (simF P L x) v) → cLt W p P (psF P L (x : Int) (simF P L x) v).1 (put P (psF P L (x : Int) (simF P L x) v)) → zF (zB p (p + 10)) 0 0 Z W → ZP G 2 m_X9_makeByFreeHands 24 [some (.ref p), some (.ref 1), some (.ref l), some (iv (x : Int)), some (iv (r : Int)), some (iv (v : Int)), none] [] W R from pass 0 (Nat.zero_le _) W cW sW lW fW
    clear cW sW lW fW
    refine am_up (n := kN (pK P)) fun v hv ihv W cW sW lW fW => ?_
    have wf := (psF_ok hP hL so v hv).1
    have step : v < kN (pK P) → psF P L (x : Int) (simF P L x) (v + 1) = stF P (x : Int) (L v) (psF P L (x : Int) (simF P L x) v) := fun _ => rfl
    have fin : v = kN (pK P) → simF P L (x + 1) = psF P L (x : Int) (simF P L x) v := fun e => by
      rw [e]
      rfl
    generalize psF P L (x : Int) (simF P L x) v = s at *
    have sb := wf.sb hP hH (by omega)
    obtain ⟨lA, lV⟩ := ll fW
    refine b_X9_makeByFreeHands_24 cW.1 cW.2.1 lA ⟨by omega, by rw [cW.2.2.2.2.2.1]; omega, ?_⟩
    rw [cW.2.2.2.2.2.1]
    by_cases cv : v < kN (pK P)
    · have ht := hL.1 v cv
      obtain ⟨g1, -, -⟩ := sW.1 (L v) ht
      obtain ⟨l1, l2⟩ := lW (L v) ht
      obtain ⟨lw1, lw2⟩ := ltW l1 l2
      have wr := wN_r P (put P s) (L v)
      have lr := l2.r hP sb
      have bj := sb (L v) ht
      have hM := hP.1.m
      have la := ltA_let (P := P) (b := s.1) (t := L v) (x := (x : Int)) (by omega)
      have st := step cv
      rw [if_neg (by omega), Int.toNat_natCast, lV v cv, Int.toNat_natCast, g1]
      have no : ¬ goes P (x : Int) (L v) s → ZP G 2 m_X9_makeByFreeHands 24 [some (.ref p), some (.ref 1), some (.ref l), some (iv (x : Int)), some (iv (r : Int)), some (iv ((v : Int) + 1)), none] [] W R := fun ng => by
        have es : psF P L (x : Int) (simF P L x) (v + 1) = s := st.trans (cIf_f ng)
        exact ihv cv W cW (by rw [es]; exact sW) (by rw [es]; exact lW) fW
      refine ⟨zIx_nat (by omega) (by omega), zIx_nat (by omega) (by omega), by omega, ?_⟩
      by_cases c1 : s.1 (L v) = -1
      · rw [if_pos c1]
        refine ⟨by omega, ?_⟩
        by_cases c2 : zI W (p + 7) (L v) = 0
        · rw [if_pos c2]
          refine ⟨by omega, by omega, ?_⟩
          have e6 := lw2 c2
          by_cases c3 : (x : Int) < zI W (p + 6) (L v)
          · rw [if_pos c3]
            exact no fun gg => by
              have := (la.mpr gg.2.1).2
              omega
          · rw [if_neg c3]
            have lt := la.mp ⟨lw1.mp c2, by omega⟩
            refine (s_putIfFree cW sW sb lW ht c1 (by omega)).mono ?_
            rintro r' V ⟨rfl, cV, sV, -, lV', fV⟩
            rw [ptF_st hP wf ht c1 lt, ← st] at sV lV'
            exact b_X9_makeByFreeHands_79 cV.1 cV.2.1 (ll (fW.trans fV)).1 (ihv cv V cV sV lV' (fW.trans fV))
        · rw [if_neg c2]
          refine b_X9_makeByFreeHands_79 cW.1 cW.2.1 lA (no fun gg => c2 (lw1.mpr (la.mpr gg.2.1).1))
      · rw [if_neg c1]
        exact b_X9_makeByFreeHands_79 cW.1 cW.2.1 lA (no fun gg => c1 gg.1)
    · rw [if_pos (by omega)]
      have es := fin (by omega)
      have so1 := simF_ok hP hL (x + 1)
      rw [show ((x + 1 : Nat) : Int) = (x : Int) + 1 by omega, es] at so1
      refine ((s_cnextTime cW sW sb lW (by omega)).deeper (by omega)).mono ?_
      rintro r' V ⟨⟨nx, rfl, hn, n1, n2⟩, hV⟩
      obtain rfl := hV.symm
      refine b_X9_makeByFreeHands_90 cW.1 cW.2.1 lA ?_
      rcases hn with ⟨q1, q2⟩ | ⟨q1, q2, q3⟩
      · -- nothing comes any more: all have begun
        have call : allB P s := fun t ht h0 => by
          obtain ⟨z, z1, -, z3⟩ := ev_next hP so1 ht h0
          exact q2 z z1 z3
        have e1 : allB P (simF P L (x + 1)) := by
          rw [es]
          exact call
        have eE := simE_of hP hL e1
        rw [es] at eE
        rw [q1]
        refine b_X9_makeByFreeHands_10 cW.1 cW.2.1 lA ⟨by omega, ?_⟩
        have fin2 : R (.inl none) W := by
          rw [← hR, ← eE]
          exact ⟨rfl, cW, sW, fW⟩
        by_cases c9 : 40 < (r : Int) + 1
        · rw [if_pos c9]
          exact fin2
        · rw [if_neg c9]
          refine ⟨by decide, ?_⟩
          rw [if_pos (by decide)]
          exact fin2
      · obtain ⟨y, rfl⟩ : ∃ y : Nat, nx = (y : Int) := ⟨nx.toNat, by omega⟩
        have le := ev_le hP wf (by omega) (z := (y : Int)) q2
        have rs := hr.s hP hL (y := y) (by omega) (by omega) (by rw [es]; exact q2) fun z z1 z2 => by
          rw [es]
          exact q3 z z1 z2
        have sy := rs.2
        rw [es] at sy
        exact ih (r + 1) y (by omega) rs.1 W cW (by rw [sy]; exact sW) (by rw [sy]; exact lW) fW
