/-! ===== the model's plan by free hands, all rounds ===== -/
theorem cM.k {Z : Zm} {B : Nat} {k : Bk} (h : cM Z B k) {t r : Nat} (ht : t < kN k) (hr : r < 10) : mG Z B t r = kF k r t := (h.2.2.1 t ht).1 r hr
theorem s_free {G : Gx} {Z : Zm} {B u q H l : Nat} {a : Int} {P : Sp} {L : Nat → Nat} (h : mCx Z B u P) (hx : R32 (pX P)) (hq : mHd Z P q H a) (hl : mLs Z P l L) : ZM G 2 m_X12_free [.ref 300, .ref l, .ref u, .ref q, iv a, iv (pX P)] Z (fun r W => r = .inl (some (iv (zmax (fun t => (simE P L).1 t + pD P t) (kN (pK P))))) ∧ (∃ f g, W = zSI (zSI Z 315 f) 316 g) ∧ ∀ t, t < kN (pK P) → zI W 315 t = (simE P L).1 t ∧ zI W 316 t = (simE P L).2 t) := by
  have hP := h.2.2.1
  have hL := hl.2.2.2.1
  have hN := hP.1.n
  have hC : ∀ f g, mCx (zSI (zSI Z 315 f) 316 g) B u P := fun f g => (h.s (Or.inl rfl)).s (Or.inr rfl)
  have hQ : ∀ f g, mHd (zSI (zSI Z 315 f) 316 g) P q H a := fun f g => (hq.s (Or.inl rfl)).s (Or.inr rfl)
  have hS : ∀ f g, mLs (zSI (zSI Z 315 f) 316 g) P l L := fun f g => (hl.s (Or.inl rfl)).s (Or.inr rfl)
  have e315 : ∀ f g, zI (zSI (zSI Z 315 f) 316 g) 315 = f := fun f g => (zI_other (by decide)).trans (zI_same _ _ _)
  have e316 : ∀ f g, zI (zSI (zSI Z 315 f) 316 g) 316 = g := fun f g => zI_same _ _ _
  have up : ∀ f g f' g', zSI (zSI (zSI (zSI Z 315 f) 316 g) 315 f') 316 g' = zSI (zSI Z 315 f') 316 g' := fun f g f' g' => by
    rw [zSI_comm (zSI Z 315 f) g f' (by decide), zSI_zSI, zSI_zSI]
  have ha : a = 0 ∨ a = 1 := by
    rcases hq.2.2.2.2 with ⟨g, -⟩ | ⟨g, -⟩
    · exact Or.inl g
    · exact Or.inr g
  generalize hR : (fun (r : Rv) (W : Zm) => r = .inl (some (iv (zmax (fun t => (simE P L).1 t + pD P t) (kN (pK P))))) ∧ (∃ f g, W = zSI (zSI Z 315 f) 316 g) ∧ ∀ t, t < kN (pK P) → zI W 315 t = (simE P L).1 t ∧ zI W 316 t = (simE P L).2 t) = R
  refine e_X12_free h.1 hl.1 h.2.2.2.2.1 hq.1 (((s_triesNone h.1).deeper (by omega)).mono ?_)
  rintro r W ⟨rfl, f0, g0, rfl, hf0⟩
  refine b_X12_free_4 (hC f0 g0).1 (hS f0 g0).1 (hC f0 g0).2.2.2.2.1 (hQ f0 g0).1 ?_
  rw [(hC f0 g0).2.1.1]
  suffices outer : ∀ m x : Nat, 3700 ≤ x + m → x ≤ 3700 → ∀ f g, (∀ t, t < kN (pK P) → f t = (simF P L x).1 t ∧ g t = (simF P L x).2 t) → ZP G 2 m_X12_free 13 [some (.ref 300), some (.ref l), some (.ref u), some (.ref q), some (iv a), some (iv (pX P)), some (iv (cntS P (simF P L x))), some (iv (x : Int)), none, none, none, none] [] (zSI (zSI Z 315 f) 316 g) R by
    have h9 := outer 3700 0 (by omega) (by omega) f0 g0 fun t ht => hf0 t (by omega)
    have e0 : cntS P (simF P L 0) = (kN (pK P) : Int) := by
      have := zsum_bound (f := fun _ => (1 : Int)) (n := kN (pK P)) (a := 1) (b := 1) fun i _ => by omega
      show zsum (fun t => b2 ((-1 : Int) = -1)) (kN (pK P)) = _
      rw [zsum_eq (f := fun t => b2 ((-1 : Int) = -1)) (g := fun _ => 1) fun i _ => rfl]
      omega
    rw [e0] at h9
    exact h9
  intro m
  induction m with
  | zero =>
    intro x hm hx9 f g hf
    have hall : allB P (simF P L x) := by
      have e := simF_all hL (simE_all hP hL) (x - 3601)
      unfold simE at e
      rw [show 3601 + (x - 3601) = x by omega] at e
      rw [e]
      exact simE_all hP hL
    have hc0 := cntS_all.mpr hall
    have hcr := cntS_r P (simF P L x)
    have eE := simE_of hP hL hall
    refine b_X12_free_13 (hC f g).1 (hS f g).1 (hC f g).2.2.2.2.1 (hQ f g).1 ⟨by omega, ?_⟩
    rw [if_pos hc0]
    have so := simF_ok hP hL x
    refine ((s_endBy (len := pD P) (f := (simE P L).1) (hC f g).1 (hC f g).2.2.2.2.1 (hC f g).1.a17 (hC f g).2.1 hP.1 (fun t ht => ⟨(hC f g).2.2.2.2.2.2.2 t ht, by have := hP.2.1 t ht; omega⟩) fun t ht => ⟨by rw [e315, (hf t ht).1, eE], by
      rw [← eE]
      have := so.1.1 t ht
      omega⟩).deeper (by omega)).mono ?_
    rintro r W ⟨rfl, hW⟩
    obtain rfl := hW.symm
    refine b_X12_free_198 (hC f g).1 (hS f g).1 (hC f g).2.2.2.2.1 (hQ f g).1 ?_
    rw [← hR]
    refine ⟨rfl, ⟨f, g, rfl⟩, fun t ht => ?_⟩
    rw [e315, e316, ← eE]
    exact hf t ht
  | succ m ih =>
    intro x hm hx9 f g hf
    have hcr := cntS_r P (simF P L x)
    have so := simF_ok hP hL x
    refine b_X12_free_13 (hC f g).1 (hS f g).1 (hC f g).2.2.2.2.1 (hQ f g).1 ⟨by omega, ?_⟩
    by_cases c0 : cntS P (simF P L x) ≤ 0
    · rw [if_pos c0]
      have eE := simE_of hP hL (cntS_all.mp c0)
      refine ((s_endBy (len := pD P) (f := (simE P L).1) (hC f g).1 (hC f g).2.2.2.2.1 (hC f g).1.a17 (hC f g).2.1 hP.1 (fun t ht => ⟨(hC f g).2.2.2.2.2.2.2 t ht, by have := hP.2.1 t ht; omega⟩) fun t ht => ⟨by rw [e315, (hf t ht).1, eE], by
        rw [← eE]
        have := so.1.1 t ht
        omega⟩).deeper (by omega)).mono ?_
      rintro r W ⟨rfl, hW⟩
      obtain rfl := hW.symm
      refine b_X12_free_198 (hC f g).1 (hS f g).1 (hC f g).2.2.2.2.1 (hQ f g).1 ?_
      rw [← hR]
      refine ⟨rfl, ⟨f, g, rfl⟩, fun t ht => ?_⟩
      rw [e315, e316, ← eE]
      exact hf t ht
    · rw [if_neg c0]
      have hlt : x < 3601 := by
        refine Nat.lt_of_not_le fun g1 => c0 (cntS_all.mpr ?_)
        have e := simF_all hL (simE_all hP hL) (x - 3601)
        unfold simE at e
        rw [show 3601 + (x - 3601) = x by omega] at e
        rw [e]
        exact simE_all hP hL
      suffices pass : ∀ v, v ≤ kN (pK P) → ∀ f g, (∀ t, t < kN (pK P) → f t = (psF P L (x : Int) (simF P L x) v).1 t ∧ g t = (psF P L (x : Int) (simF P L x) v).2 t) → ZP G 2 m_X12_free 21 [some (.ref 300), some (.ref l), some (.ref u), some (.ref q), some (iv a), some (iv (pX P)), some (iv (cntS P (psF P L (x : Int) (simF P L x) v))), some (iv (x : Int)), some (iv (v : Int)), none, none, none] [] (zSI (zSI Z 315 f) 316 g) R from pass 0 (Nat.zero_le _) f g hf
      refine am_up (n := kN (pK P)) fun v hv ihv f g hf => ?_
      have wf := (psF_ok hP hL so v hv).1
      have nv := psF_nn (P := P) (L := L) (x := (x : Int)) (by omega) (simF_nn P L x) v
      have hcr := cntS_r P (psF P L (x : Int) (simF P L x) v)
      have step : v < kN (pK P) → psF P L (x : Int) (simF P L x) (v + 1) = stF P (x : Int) (L v) (psF P L (x : Int) (simF P L x) v) := fun _ => rfl
      have fin : v = kN (pK P) → simF P L (x + 1) = psF P L (x : Int) (simF P L x) v := fun e => by
        rw [e]
        rfl
      generalize psF P L (x : Int) (simF P L x) v = s at *
      have tr : mTr (zSI (zSI Z 315 f) 316 g) P s := wf.tr hP nv (by omega) fun t ht => by rw [e315, e316]; exact hf t ht
      refine b_X12_free_21 (hC f g).1 (hS f g).1 (hC f g).2.2.2.2.1 (hQ f g).1 ⟨by omega, by omega, ?_⟩
      by_cases cv : v < kN (pK P)
      · have ht := hL.1 v cv
        obtain ⟨t1, t2, t3, t4, t5, t6⟩ := tr (L v) ht
        rw [if_neg (by omega), Int.toNat_natCast, (hS f g).2.2.2.2 v cv, Int.toNat_natCast, show zI (zSI (zSI Z 315 f) 316 g) (300 + 15) (L v) = s.1 (L v) from t1]
        refine ⟨zIx_nat (by omega) (by omega), zIx_nat (by omega) (by omega), by omega, ?_⟩
        have st := step cv
        have no : ¬ goes P (x : Int) (L v) s → ZP G 2 m_X12_free 21 [some (.ref 300), some (.ref l), some (.ref u), some (.ref q), some (iv a), some (iv (pX P)), some (iv (cntS P s)), some (iv (x : Int)), some (iv ((v : Int) + 1)), none, none, none] [] (zSI (zSI Z 315 f) 316 g) R := fun ng => by
          have es : psF P L (x : Int) (simF P L x) (v + 1) = s := st.trans (cIf_f ng)
          have h9 := ihv cv f g (by rw [es]; exact hf)
          rw [es] at h9
          exact h9
        by_cases c1 : s.1 (L v) = -1
        · rw [if_pos c1]
          refine ((s_letBy (hC f g) tr hx ht).deeper (by omega)).mono ?_
          rintro r W ⟨⟨rfl, r1, r2⟩, hW⟩
          obtain rfl := hW.symm
          have la := ltA_let (P := P) (b := s.1) (t := L v) (x := (x : Int)) (by omega)
          refine b_X12_free_54 (hC f g).1 (hS f g).1 (hC f g).2.2.2.2.1 (hQ f g).1 ⟨by omega, ?_⟩
          by_cases c2 : ltA P s.1 (L v) = -1
          · rw [if_pos c2]
            exact no fun gg => (la.mpr gg.2.1).1 c2
          rw [if_neg c2]
          refine ⟨by omega, ?_⟩
          by_cases c3 : ltA P s.1 (L v) ≤ (x : Int)
          case neg =>
            rw [if_neg c3]
            exact no fun gg => c3 (la.mpr gg.2.1).2
          rw [if_pos c3]
          have lt := la.mp ⟨c2, c3⟩
          have ks := (hC f g).2.1.k ht (r := 1) (by omega)
          have km := (hC f g).2.1.k ht (r := 2) (by omega)
          have rs := hP.1.s ht
          have rm := hP.1.f (r := 2) (by omega) ht
          have rh := hP.2.2.1 (L v) ht
          rw [Int.toNat_natCast, ks]
          have hqv := (hQ f g).2.2.2.2
          have hH1 := (hQ f g).2.2.2.1
          have em : (if a = 0 then zI (zSI (zSI Z 315 f) 316 g) q (kF (pK P) 1 (L v)).toNat else zI (zSI (zSI Z 315 f) 316 g) q 0) = pH P (pS P (L v)) := by
            rcases hqv with ⟨q1, q2, q3, q4⟩ | ⟨q1, q2, q3, q4⟩
            · rw [if_pos q1, (q2 (L v) ht).1]
              exact q4 _ (by omega)
            · rw [if_neg (by omega), (q2 (L v) ht).1]
              exact q4
          rw [em]
          refine ⟨zIx_nat (by omega) (by omega), by omega, fun g1 => ?_, fun g1 => ?_, ?_⟩
          · rcases hqv with ⟨q1, q2, q3, q4⟩ | ⟨q1, q2, q3, q4⟩
            · exact ⟨⟨by omega, by omega, by omega⟩, trivial⟩
            · omega
          · rcases hqv with ⟨q1, q2, q3, q4⟩ | ⟨q1, q2, q3, q4⟩
            · exact absurd q1 g1
            · exact ⟨⟨by omega, by omega, by omega⟩, trivial⟩
          refine (s_handIn (sk := kF (pK P) 1 (L v)) (c := pS P (L v)) (hC f g) tr (by omega) (by omega) (by omega) (by omega) (by omega) fun t' ht' => ?_).mono ?_
          · rcases hqv with ⟨q1, q2, q3, q4⟩ | ⟨q1, q2, q3, q4⟩
            · rw [(q2 t' ht').1, (q2 (L v) ht).1]
              have := hP.1.s ht'
              constructor
              · intro e
                exact Or.inr (by omega)
              · rintro (e | e)
                · exact absurd q1 e
                · rw [e]
            · rw [(q2 t' ht').1, (q2 (L v) ht).1]
              exact ⟨fun _ => Or.inl (by omega), fun _ => rfl⟩
          rintro r W ⟨rfl, hW⟩
          obtain rfl := hW.symm
          have hd6 : -1 ≤ hdF P s (pS P (L v)) (x : Int) ((x : Int) + 1) ∧ hdF P s (pS P (L v)) (x : Int) ((x : Int) + 1) ≤ 6 := by
            by_cases e : hdF P s (pS P (L v)) (x : Int) ((x : Int) + 1) = -1
            · omega
            · have := hdF_yes e
              omega
          refine b_X12_free_116 (hC f g).1 (hS f g).1 (hC f g).2.2.2.2.1 (hQ f g).1 ⟨by omega, ?_⟩
          by_cases c4 : hdF P s (pS P (L v)) (x : Int) ((x : Int) + 1) = -1
          · rw [if_pos c4]
            exact no fun gg => gg.2.2.1 c4
          rw [if_neg c4]
          refine ⟨by omega, ?_⟩
          have yes : fmc P s (pM P (L v)) (x : Int) ((x : Int) + 1) → ZP G 2 m_X12_free 21 [some (.ref 300), some (.ref l), some (.ref u), some (.ref q), some (iv a), some (iv (pX P)), some (iv (cntS P s + -1)), some (iv (x : Int)), some (iv ((v : Int) + 1)), none, none, none] [] (zSI (zSI Z 315 (zu f (L v) (x : Int))) 316 (zu g (L v) (hdF P s (pS P (L v)) (x : Int) ((x : Int) + 1)))) R := fun hm => by
            have es : psF P L (x : Int) (simF P L x) (v + 1) = (zu s.1 (L v) (x : Int), zu s.2 (L v) (hdF P s (pS P (L v)) (x : Int) ((x : Int) + 1))) := st.trans (cIf_p ⟨c1, lt, c4, hm⟩)
            have h9 := ihv cv (zu f (L v) (x : Int)) (zu g (L v) (hdF P s (pS P (L v)) (x : Int) ((x : Int) + 1))) (by
              rw [es]
              intro t' ht'
              show zu f (L v) (x : Int) t' = zu s.1 (L v) (x : Int) t' ∧ zu g (L v) _ t' = zu s.2 (L v) _ t'
              by_cases e : t' = L v
              · rw [e, zu_same, zu_same, zu_same, zu_same]
                exact ⟨rfl, rfl⟩
              · rw [zu_other e, zu_other e, zu_other e, zu_other e]
                exact hf t' ht')
            rw [es, cntS_put ht c1 (by omega)] at h9
            exact h9
          rcases hqv with ⟨q1, q2, q3, q4⟩ | ⟨q1, q2, q3, q4⟩
          · rw [if_pos q1, Int.toNat_natCast, km]
            refine ⟨zIx_nat (by omega) (by omega), (s_isMachineIn (m := kF (pK P) 2 (L v)) (hC f g) tr (by omega) (by omega) (by omega) fun t' ht' => (q2 t' ht').2).mono ?_⟩
            rintro r W ⟨⟨w, rfl, hw⟩, hW⟩
            obtain rfl := hW.symm
            rw [← (q2 (L v) ht).2] at hw
            refine b_X12_free_147 (hC f g).1 (hS f g).1 (hC f g).2.2.2.2.1 (hQ f g).1 ⟨b01_r hw.r, ?_⟩
            rcases hw with ⟨w1, w2⟩ | ⟨w1, w2⟩
            · rw [if_neg (by omega)]
              refine ⟨zIx_nat (by omega) (by omega), ?_⟩
              rintro _ rfl
              rintro _ rfl
              rw [Int.toNat_natCast, show 300 + 15 = 315 from rfl, show 300 + 16 = 316 from rfl, zI_other (f := zu (zI (zSI (zSI Z 315 f) 316 g) 315) (L v) (x : Int)) (show 316 ≠ 315 by decide), e315, e316, up]
              exact yes w2
            · rw [if_pos w1]
              exact no fun gg => w2 gg.2.2.2
          · rw [if_neg (by omega)]
            refine ⟨zIx_nat (by omega) (by omega), ?_⟩
            rintro _ rfl
            rintro _ rfl
            rw [Int.toNat_natCast, show 300 + 15 = 315 from rfl, show 300 + 16 = 316 from rfl, zI_other (f := zu (zI (zSI (zSI Z 315 f) 316 g) 315) (L v) (x : Int)) (show 316 ≠ 315 by decide), e315, e316, up]
            exact yes (Or.inl (q2 (L v) ht).2)
        · rw [if_neg c1, if_pos rfl]
          exact no fun gg => c1 gg.1
      · rw [if_pos (by omega)]
        have es := fin (by omega)
        have so1 := simF_ok hP hL (x + 1)
        rw [show ((x + 1 : Nat) : Int) = (x : Int) + 1 by omega, es] at so1
        refine ((s_nextTime (hC f g) tr (by omega)).deeper (by omega)).mono ?_
        rintro r W ⟨⟨nx, rfl, n1, n2, n3, n4⟩, hW⟩
        obtain rfl := hW.symm
        refine b_X12_free_184 (hC f g).1 (hS f g).1 (hC f g).2.2.2.2.1 (hQ f g).1 ?_
        -- nothing happens ahead of the next time
        have noev : ∀ z, (x : Int) < z → ev P s z → nx ≤ z := fun z z1 hz => by
          obtain ⟨t, ht, ⟨g1, g2⟩ | ⟨g1, g2⟩⟩ := hz
          · rw [← g2] at z1 ⊢
            exact n3 t ht g1 z1
          · rcases ltF_is P s.1 t (kM (pK P)) with ⟨q1, -⟩ | ⟨q1, q2, q3⟩
            · have : ltA P s.1 t = -1 := q1
              omega
            · have eL : ltF P s.1 t (kM (pK P)) = z := g2
              rw [eL] at q2 q3
              rcases q3 with q3 | ⟨j, j1, j2, j3⟩
              · omega
              · rw [j3] at z1 ⊢
                exact n4 j j1 (q2 j j1 j2).1 z1
        by_cases call : allB P s
        · -- all have begun
          have e1 : allB P (simF P L (x + 1)) := by
            rw [es]
            exact call
          have c0' := cntS_all.mpr call
          have eE := simE_of hP hL e1
          rw [es] at eE
          refine b_X12_free_13 (hC f g).1 (hS f g).1 (hC f g).2.2.2.2.1 (hQ f g).1 ⟨by omega, ?_⟩
          rw [if_pos c0']
          refine ((s_endBy (len := pD P) (f := (simE P L).1) (hC f g).1 (hC f g).2.2.2.2.1 (hC f g).1.a17 (hC f g).2.1 hP.1 (fun t ht => ⟨(hC f g).2.2.2.2.2.2.2 t ht, by have := hP.2.1 t ht; omega⟩) fun t ht => ⟨by rw [e315, (hf t ht).1, eE], by
            rw [← eE]
            have := (tr t ht).2.2
            omega⟩).deeper (by omega)).mono ?_
          rintro r W ⟨rfl, hW⟩
          obtain rfl := hW.symm
          refine b_X12_free_198 (hC f g).1 (hS f g).1 (hC f g).2.2.2.2.1 (hQ f g).1 ?_
          rw [← hR]
          refine ⟨rfl, ⟨f, g, rfl⟩, fun t ht => ?_⟩
          rw [e315, e316, ← eE]
          exact hf t ht
        · have c2 : ∃ t, t < kN (pK P) ∧ s.1 t = -1 := Classical.byContradiction fun g => call fun t ht e => g ⟨t, ht, e⟩
          obtain ⟨t, ht, h0⟩ := c2
          obtain ⟨z, z1, z2, z3⟩ := ev_next hP so1 ht h0
          have nz := noev z z1 z3
          obtain ⟨y, hy⟩ : ∃ y : Nat, nx = (y : Int) := ⟨nx.toNat, by omega⟩
          have sk := simF_skip hP hL (x := x) (y - (x + 1)) (by
            rw [show x + 1 + (y - (x + 1)) = y by omega, es]
            intro z z1 z2 hz
            have := noev z z1 hz
            omega)
          rw [show x + 1 + (y - (x + 1)) = y by omega, es] at sk
          rw [hy]
          have h9 := ih y (by omega) (by omega) f g (by rw [sk]; exact hf)
          rw [sk] at h9
          exact h9
