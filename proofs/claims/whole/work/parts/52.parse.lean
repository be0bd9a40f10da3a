/-- the row of a book that is read so far -/
def rowZ (f : Nat → Int) (k : Bk) : Prop := rowM f k ∧ ∀ i, 2 + 13 * kN k ≤ i → i < 262 → f i = 0
def rdM (Z : Zm) (m u n : Nat) (x : Nat → Int) (a : Int × Bk × Nat) : Rv → Zm → Prop := fun r Z' => ((a.1 = -1 ∧ r = .inl (some (iv 1)) ∧ mTx Z' m n a.2.2 x ∧ rowZ (zI Z' u) a.2.1) ∨ (a.1 ≠ -1 ∧ r = .inl (some (iv 0)) ∧ zI Z' m 25 = a.1)) ∧ zF (fun a => a = m ∨ a = u) 0 0 Z Z' ∧ ∀ i, i < 23 → zI Z' m i = zI Z m i
theorem rdM.tr {Z W V : Zm} {m u n : Nat} {x : Nat → Int} {a : Int × Bk × Nat} {r : Rv} (f : zF (fun a => a = m ∨ a = u) 0 0 Z W) (e : ∀ i, i < 23 → zI W m i = zI Z m i) (h : rdM W m u n x a r V) : rdM Z m u n x a r V := ⟨h.1, f.trans h.2.1, fun i hi => by rw [h.2.2 i hi, e i hi]⟩
theorem mTx.m {Z : Zm} {m n p q : Nat} {x g : Nat → Int} (h : mTx Z m n p x) (g4 : ∀ i, i < 23 → g i = zI Z m i) (g23 : g 23 = (q : Int)) : mTx (zSI Z m g) m n q x := by
  obtain ⟨h1, h2, h3, h4⟩ := h
  refine ⟨by rw [zI_same, g4 4 (by omega)]; exact h1, by rw [zI_same]; exact g23, h3, fun i hi => ?_⟩
  rw [zI_other (by omega)]
  exact h4 i hi
theorem mTx.u {Z : Zm} {m n p u : Nat} {x g : Nat → Int} (h : mTx Z m n p x) (h1 : u ≠ m) (h2 : u ≠ m + 3) : mTx (zSI Z u g) m n p x := by
  rw [mTx, zI_other (Ne.symm h1), zI_other (Ne.symm h2)]
  exact h
theorem s_isTaskRead {G : Gx} {Z : Zm} {m B u n p q : Nat} {x : Nat → Int} {k : Bk} (hm : atModel Z m B) (hu : zA Z u 100 412) (hum : u ≠ m) (hum3 : u ≠ m + 3) (h : mTx Z m n p x) (hk : rowZ (zI Z u) k) (ho : pOk k q) (hq : q < p ∨ (p = 0 ∧ q = 0 ∧ kN k = 0)) (hp : p ≤ n) : ZM G 2 m_X12_isTaskRead [.ref m, .ref u] Z (rdM Z m u n x (pTask n x k p)) := by
  have hn80 := h.2.2.1
  have hN := ho.1
  have hM := ho.2.1
  have r1 := nmv_r (x := x) hp
  have fm : ∀ (W : Zm) (f : Nat → Int), zF (fun a => a = m ∨ a = u) 0 0 W (zSI W m f) := fun W f => zF_I (Or.inl rfl)
  have fu : ∀ (W : Zm) (f : Nat → Int), zF (fun a => a = m ∨ a = u) 0 0 W (zSI W u f) := fun W f => zF_I (Or.inr rfl)
  have hno : ∀ y : Nat, (y : Int) ≠ -1 := fun y => by omega
  refine e_X12_isTaskRead hm hu ?_
  rw [hk.1.1, h.2.1]
  refine ⟨by omega, ?_⟩
  unfold pTask
  by_cases c4 : kN k = 20
  · rw [if_pos (by omega), cIf_p (by omega)]
    refine ((s_fault hm).deeper (by omega)).mono ?_
    rintro r W ⟨rfl, rfl⟩
    refine b_X12_isTaskRead_18 (Z := zSI Z m _) hm.s hu.s ⟨Or.inl rfl, Or.inr ⟨hno p, rfl, ?_⟩, fm _ _, fun i hi => ?_⟩
    · rw [zI_same, zu_same]
    · rw [zI_same, zu_other (by omega)]
  · rw [if_neg (by omega)]
    refine (s_isNumber (lo := 1) (hi := 60) hm h hp (by decide) (by decide)).mono ?_
    rintro r W ⟨g, rfl, g1, g2, hr⟩
    have hbad : ¬ (p < nmE n x p ∧ 1 ≤ nmV n x p ∧ nmV n x p ≤ 60) ↔ (nmE n x p = p ∨ nmV n x p < 1 ∨ 60 < nmV n x p ∨ 20 ≤ kN k) := by omega
    rcases hr with ⟨rfl, d1, d2, d3⟩ | ⟨rfl, d1, d2⟩
    · rw [cIf_f (by omega)]
      have h1 : mTx (zSI Z m g) m n (nmE n x p) x := h.m g1 g2
      refine b_X12_isTaskRead_26 (Z := zSI Z m g) hm.s hu.s ⟨by decide, ?_⟩
      rw [if_neg (by decide), zI_same, d3]
      refine ⟨⟨by omega, by omega, by decide⟩, ?_⟩
      rintro _ rfl
      refine ⟨⟨by omega, by omega, by decide⟩, ?_⟩
      rintro _ rfl _ rfl
      simp only [zI_same, zSI_zSI]
      rw [zI_other (Z := Z) (f := g) hum, show (2 + 13 * (kN k : Int) + 0).toNat = 2 + 13 * kN k + 0 by omega, show (2 + 13 * (kN k : Int) + 2).toNat = 2 + 13 * kN k + 2 by omega]
      generalize hF : zu (zu (zu (zI Z u) (2 + 13 * kN k + 0) (nmV n x p)) (2 + 13 * kN k + 2) (-1)) 0 (zu (zu (zI Z u) (2 + 13 * kN k + 0) (nmV n x p)) (2 + 13 * kN k + 2) (-1) 0 + 1) = F
      have ha : pOk (kAdd k (nmV n x p)) (nmE n x p) := ho.add (by omega) (by omega) (by omega)
      have hF1 : rowZ F (kAdd k (nmV n x p)) := by
        rw [← hF]
        refine ⟨hk.1.add (by omega) (by omega) ?_ ?_ ?_ ?_ (fun i i1 i2 i3 => ?_) fun i i1 i2 => ?_, fun i i1 i2 => ?_⟩
        · rw [zu_same, zu_other (by omega), zu_other (by omega), hk.1.1]
        · rw [zu_other (by omega), zu_other (by omega), zu_other (by omega)]
        · rw [zu_other (by omega), zu_other (by omega), zu_same]
        · rw [zu_other (by omega), zu_same]
        · rw [zu_other (by omega), zu_other (by omega), zu_other (by omega)]
          exact hk.2 _ (by omega) (by omega)
        · rw [zu_other (by omega), zu_other (by omega), zu_other (by omega)]
        · have i1' : 2 + 13 * (kN k + 1) ≤ i := i1
          rw [zu_other (by omega), zu_other (by omega), zu_other (by omega)]
          exact hk.2 _ (by omega) (by omega)
      have h2 : mTx (zSI (zSI Z m g) u F) m n (nmE n x p) x := h1.u hum hum3
      have f2 : zF (fun a => a = m ∨ a = u) 0 0 Z (zSI (zSI Z m g) u F) := (fm _ _).trans (fu _ _)
      have e2 : ∀ i, i < 23 → zI (zSI (zSI Z m g) u F) m i = zI Z m i := fun i hi => by rw [zI_other (Ne.symm hum), zI_same]; exact g1 i hi
      have r2 : rowZ (zI (zSI (zSI Z m g) u F) u) (kAdd k (nmV n x p)) := by
        rw [zI_same]
        exact hF1
      have hm2 : atModel (zSI (zSI Z m g) u F) m B := hm.s.s
      have hu2 : zA (zSI (zSI Z m g) u F) u 100 412 := hu.s.s
      have eN : kN (kAdd k (nmV n x p)) = kN k + 1 := rfl
      generalize zSI (zSI Z m g) u F = W at h2 f2 e2 r2 hm2 hu2 ⊢
      refine ((s_isSign hm2 h2 r1.2.2 (by decide)).deeper (by omega)).mono ?_
      rintro r W' ⟨rfl, hW⟩
      obtain rfl := hW.symm
      refine b_X12_isTaskRead_69 hm2 hu2 ?_
      -- the needs
      have lp : ∀ (mm : Nat) (k1 : Bk) (pp : Nat) (V : Zm), 81 ≤ pp + mm → pp < n → kN k1 = kN k + 1 → pOk k1 pp → zF (fun a => a = m ∨ a = u) 0 0 Z V → (∀ i, i < 23 → zI V m i = zI Z m i) → mTx V m n pp x → rowZ (zI V u) k1 → ZP G 2 m_X12_isTaskRead 70 [some (.ref m), some (.ref u), some (iv (kN k : Int)), some (iv 1), none, none, none] [] V (rdM Z m u n x (pNeeds n x mm (pNeed n x k1 (pp + 1)))) := by
        intro mm
        induction mm with
        | zero =>
          intro k1 pp V e1 e2
          omega
        | succ mm ih =>
          intro k1 pp V e1 e2 ek ok1 fV eV tV rV
          have hmV := hm.ext fV.1
          have huV := hu.ext fV.1
          have hres := pNeed_r (n := n) (x := x) ok1 (show pp < pp + 1 by omega) (by omega)
          refine b_X12_isTaskRead_70 hmV huV ⟨by decide, ?_⟩
          rw [if_neg (by decide), tV.2.1]
          rintro _ rfl
          rw [zI_same, zu_same, show (pp : Int) + 1 = ((pp + 1 : Nat) : Int) by omega]
          have t2 : mTx (zSI V m (zu (zI V m) 23 ((pp + 1 : Nat) : Int))) m n (pp + 1) x := tV.m (fun i hi => zu_other (by omega)) (zu_same _ _ _)
          have q1 := nmv_r (x := x) (show pp + 1 ≤ n by omega)
          refine (s_isNumber (Z := zSI V m _) (lo := 0) (hi := (kN k : Int) - 1) hmV.s t2 (by omega) (by decide) (by omega)).mono ?_
          rintro r V2 ⟨g', rfl, b1, b2', hr⟩
          rw [zSI_zSI]
          have b1' : ∀ i, i < 23 → g' i = zI V m i := fun i hi => by rw [b1 i hi, zI_same, zu_other (by omega)]
          have f3 : zF (fun a => a = m ∨ a = u) 0 0 Z (zSI V m g') := fV.trans (fm _ _)
          rcases hr with ⟨rfl, d1, d2, d3⟩ | ⟨rfl, d1, d2⟩
          · refine b_X12_isTaskRead_98 (Z := zSI V m g') hmV.s huV.s ⟨by decide, ?_⟩
            have t3 : mTx (zSI V m g') m n (nmE n x (pp + 1)) x := tV.m b1' b2'
            rw [if_neg (by decide), zI_other (Z := V) (f := g') hum, rV.1.2.1]
            have hMk := ok1.2.1
            have ev : (((nmV n x (pp + 1)).toNat : Nat) : Int) = nmV n x (pp + 1) := by omega
            -- is it needed already?
            suffices chk : ∀ j, j ≤ kM k1 → (∀ i, i < j → ¬ ((kE k1 i : Int) = nmV n x (pp + 1) ∧ (kL k1 i : Int) = (kN k : Int))) → ZP G 2 m_X12_isTaskRead 119 [some (.ref m), some (.ref u), some (iv (kN k : Int)), none, some (iv ((pp + 1 : Nat) : Int)), some (iv (262 + 3 * (kM k1 : Int))), some (iv (262 + 3 * (j : Int)))] [] (zSI V m g') (rdM Z m u n x (pNeeds n x (mm + 1) (pNeed n x k1 (pp + 1)))) from chk 0 (Nat.zero_le _) fun i hi => by omega
            refine am_up (n := kM k1) fun j hj ihj hno9 => ?_
            have eu : zI (zSI V m g') u = zI V u := zI_other hum
            refine b_X12_isTaskRead_119 (Z := zSI V m g') hmV.s huV.s ⟨by omega, by omega, ?_⟩
            by_cases c : j < kM k1
            · obtain ⟨w1, w2, w3⟩ := rV.1.2.2.2 j c
              have wo := ok1.2.2.2.1 j c
              rw [if_neg (by omega), eu, zI_same, d3, show (262 + 3 * (j : Int)).toNat = 262 + 3 * j by omega, show (262 + 3 * (j : Int) + 1).toNat = 263 + 3 * j by omega, w1, w2]
              refine ⟨⟨by omega, by omega, by decide⟩, by omega, by omega, ?_⟩
              have nx : ¬ ((kE k1 j : Int) = nmV n x (pp + 1) ∧ (kL k1 j : Int) = (kN k : Int)) → _ := fun hne => ihj c fun i hi => by
                by_cases d : i = j
                · rw [d]
                  exact hne
                · exact hno9 i (by omega)
              rw [show (262 + 3 * (j : Int) + 3) = 262 + 3 * ((j + 1 : Nat) : Int) by omega]
              by_cases c1 : (kE k1 j : Int) = nmV n x (pp + 1)
              · rw [if_pos c1]
                refine ⟨⟨by omega, by omega, by decide⟩, by omega, by omega, ?_⟩
                by_cases c2 : (kL k1 j : Int) = (kN k : Int)
                · rw [if_pos c2, pNeed_bad (Or.inr (Or.inr (hasB_p ⟨j, c, c1, by omega⟩))), pNeeds_s, cIf_f (fun g => hno (pp + 1) g.1)]
                  refine ((s_fault (Z := zSI V m g') hmV.s).deeper (by omega)).mono ?_
                  rintro r V3 ⟨rfl, rfl⟩
                  rw [zI_same, zSI_zSI]
                  refine b_X12_isTaskRead_153 (Z := zSI V m _) hmV.s huV.s ⟨Or.inl rfl, Or.inr ⟨hno (pp + 1), rfl, ?_⟩, fV.trans (fm _ _), fun i hi => ?_⟩
                  · rw [zI_same, zu_same]
                  · rw [zI_same, zu_other (by omega), b1' i hi, eV i hi]
                · rw [if_neg c2]
                  exact nx fun g => c2 g.2
              · rw [if_neg c1]
                exact nx fun g => c1 g.1
            · have ej : j = kM k1 := by omega
              have hnb : ¬ hasB k1 (nmV n x (pp + 1)) ((kN k1 : Int) - 1) = 1 := fun g => by
                by_cases hh : hasN k1 (nmV n x (pp + 1)) ((kN k1 : Int) - 1)
                · obtain ⟨i, i1, i2, i3⟩ := hh
                  exact hno9 i (by omega) ⟨i2, by omega⟩
                · rw [hasB_f hh] at g
                  omega
              have hnb' : ¬ hasB k1 (((nmV n x (pp + 1)).toNat : Nat) : Int) ((kN k1 : Int) - 1) = 1 := by rw [ev]; exact hnb
              have nb : ¬ (nmE n x (pp + 1) = pp + 1 ∨ (kN k1 : Int) - 1 ≤ nmV n x (pp + 1) ∨ hasB k1 (nmV n x (pp + 1)) ((kN k1 : Int) - 1) = 1) := by omega
              clear hres
              rw [if_pos (by omega)]
              refine ⟨⟨by omega, by omega, by decide⟩, ?_⟩
              rintro _ rfl
              refine ⟨⟨by omega, by omega, by decide⟩, ?_⟩
              rintro _ rfl
              refine ⟨⟨by omega, by omega, by decide⟩, ?_⟩
              rintro _ rfl _ rfl
              simp only [zI_same, zSI_zSI]
              rw [zI_other (Z := V) (f := g') hum, d3, show (262 + 3 * (kM k1 : Int)).toNat = 262 + 3 * kM k1 by omega, show (262 + 3 * (kM k1 : Int) + 1).toNat = 263 + 3 * kM k1 by omega, show (262 + 3 * (kM k1 : Int) + 2).toNat = 264 + 3 * kM k1 by omega]
              have mk : ∀ (y : Int) (F : Nat → Int), F 1 = (kM k1 : Int) + 1 → F (262 + 3 * kM k1) = nmV n x (pp + 1) → F (263 + 3 * kM k1) = (kN k : Int) → F (264 + 3 * kM k1) = y → (∀ i, i ≠ 1 → i < 262 + 3 * kM k1 → F i = zI V u i) → rowZ F (kPut k1 (nmV n x (pp + 1)).toNat (kN k1 - 1) y) := fun y F q1 q2 q3 q4 q5 => ⟨rV.1.put (by have := ok1.1; omega) q1 (by omega) (by omega) q4 q5, fun i i1 i2 => by
                have i1' : 2 + 13 * kN k1 ≤ i := i1
                rw [q5 i (by omega) (by omega)]
                exact rV.2 i i1' i2⟩
              -- behind a need
              have nxt : ∀ (U : Zm) (y : Int) (pl : Nat), zF (fun a => a = m ∨ a = u) 0 0 Z U → (∀ i, i < 23 → zI U m i = zI Z m i) → mTx U m n pl x → rowZ (zI U u) (kPut k1 (nmV n x (pp + 1)).toNat (kN k1 - 1) y) → pOk (kPut k1 (nmV n x (pp + 1)).toNat (kN k1 - 1) y) pl → pp + 1 < pl → pl ≤ n → ZM G 1 m_X12_isSign [.ref m, iv 44] U (zKc G 2 m_X12_isTaskRead 236 [some (.ref m), some (.ref u), some (iv (kN k : Int)), none, none, none, none] [] (rdM Z m u n x (pNeeds n x (mm + 1) (-1, kPut k1 (nmV n x (pp + 1)).toNat (kN k1 - 1) y, pl)))) := fun U y pl fU eU tU rU oU l1 l2 => by
                have hmU := hm.ext fU.1
                have huU := hu.ext fU.1
                refine ((s_isSign hmU tU l2 (by decide)).deeper (by omega)).mono ?_
                rintro r U' ⟨rfl, hU'⟩
                obtain rfl := hU'.symm
                refine b_X12_isTaskRead_236 hmU huU ?_
                rw [pNeeds_s]
                by_cases d : pl < n ∧ x pl = 44
                · rw [b2_p d, cIf_p (show _ ∧ _ from ⟨rfl, d⟩)]
                  exact ih _ pl U (by omega) d.1 ek oU fU eU tU rU
                · rw [b2_f d, cIf_f (fun g => d g.2)]
                  refine b_X12_isTaskRead_70 hmU huU ⟨by decide, ?_⟩
                  rw [if_pos rfl]
                  exact ⟨Or.inl ⟨rfl, rfl, tU, rU⟩, fU, eU⟩
              generalize hF2 : zu (zu (zu (zu (zI V u) (262 + 3 * kM k1) (nmV n x (pp + 1))) (263 + 3 * kM k1) (kN k : Int)) (264 + 3 * kM k1) 0) 1 (zu (zu (zu (zI V u) (262 + 3 * kM k1) (nmV n x (pp + 1))) (263 + 3 * kM k1) (kN k : Int)) (264 + 3 * kM k1) 0 1 + 1) = F2
              have p1 : F2 1 = (kM k1 : Int) + 1 := by rw [← hF2, zu_same, zu_other (by omega), zu_other (by omega), zu_other (by omega), rV.1.2.1]
              have p2 : F2 (262 + 3 * kM k1) = nmV n x (pp + 1) := by rw [← hF2, zu_other (by omega), zu_other (by omega), zu_other (by omega), zu_same]
              have p3 : F2 (263 + 3 * kM k1) = (kN k : Int) := by rw [← hF2, zu_other (by omega), zu_other (by omega), zu_same]
              have p4 : F2 (264 + 3 * kM k1) = 0 := by rw [← hF2, zu_other (by omega), zu_same]
              have p5 : ∀ i, i ≠ 1 → i < 262 + 3 * kM k1 → F2 i = zI V u i := fun i i1 i2 => by rw [← hF2, zu_other (by omega), zu_other (by omega), zu_other (by omega), zu_other (by omega)]
              have t4 : mTx (zSI (zSI V m g') u F2) m n (nmE n x (pp + 1)) x := t3.u hum hum3
              have f4 : zF (fun a => a = m ∨ a = u) 0 0 Z (zSI (zSI V m g') u F2) := f3.trans (fu _ _)
              have e4 : ∀ i, i < 23 → zI (zSI (zSI V m g') u F2) m i = zI Z m i := fun i hi => by rw [zI_other (Ne.symm hum), zI_same, b1' i hi, eV i hi]
              have u4 : zI (zSI (zSI V m g') u F2) u = F2 := zI_same _ _ _
              have m4 : atModel (zSI (zSI V m g') u F2) m B := hmV.s.s
              have a4 : zA (zSI (zSI V m g') u F2) u 100 412 := huV.s.s
              generalize zSI (zSI V m g') u F2 = U at t4 f4 e4 u4 m4 a4 ⊢
              refine ((s_isSign m4 t4 q1.2.2 (by decide)).deeper (by omega)).mono ?_
              rintro r U' ⟨rfl, hU'⟩
              obtain rfl := hU'.symm
              refine b_X12_isTaskRead_195 m4 a4 ⟨b01_r (b2_01 _), ?_⟩
              by_cases c5 : nmE n x (pp + 1) < n ∧ x (nmE n x (pp + 1)) = 43
              · rw [b2_p c5, if_neg (by decide), t4.2.1]
                rintro _ rfl
                rw [show (nmE n x (pp + 1) : Int) + 1 = ((nmE n x (pp + 1) + 1 : Nat) : Int) by omega]
                have t5 : mTx (zSI U m (zu (zI U m) 23 ((nmE n x (pp + 1) + 1 : Nat) : Int))) m n (nmE n x (pp + 1) + 1) x := t4.m (fun i hi => zu_other (by omega)) (zu_same _ _ _)
                have q2 := nmv_r (x := x) (show nmE n x (pp + 1) + 1 ≤ n by omega)
                refine (s_isNumber (Z := zSI U m _) (lo := 0) (hi := 30) m4.s t5 (by omega) (by decide) (by decide)).mono ?_
                rintro r V5 ⟨g5, rfl, b5, b6, hr⟩
                rw [zSI_zSI]
                have b5' : ∀ i, i < 23 → g5 i = zI U m i := fun i hi => by rw [b5 i hi, zI_same, zu_other (by omega)]
                rcases hr with ⟨rfl, d4, d5, d6⟩ | ⟨rfl, d4, d5⟩
                · rw [pNeed_1 nb c5 (by omega)]
                  refine b_X12_isTaskRead_215 (Z := zSI U m g5) m4.s a4.s ⟨by decide, ?_⟩
                  rw [if_neg (by decide), show (262 + 3 * (kM k1 : Int) + 2).toNat = 264 + 3 * kM k1 by omega]
                  refine ⟨⟨by omega, by omega, by decide⟩, ?_⟩
                  rintro _ rfl
                  rw [zI_same, d6, zI_other (Z := U) (f := g5) hum, u4]
                  have rr : rowZ (zu F2 (264 + 3 * kM k1) (nmV n x (nmE n x (pp + 1) + 1))) (kPut k1 (nmV n x (pp + 1)).toNat (kN k1 - 1) (nmV n x (nmE n x (pp + 1) + 1))) := mk _ _ (by rw [zu_other (by omega)]; exact p1) (by rw [zu_other (by omega)]; exact p2) (by rw [zu_other (by omega)]; exact p3) (zu_same _ _ _) fun i i1 i2 => by rw [zu_other (by omega)]; exact p5 i i1 i2
                  refine nxt _ _ _ ((f4.trans (fm _ _)).trans (fu _ _)) (fun i hi => by rw [zI_other (Ne.symm hum), zI_same, b5' i hi, e4 i hi]) ((t4.m b5' b6).u hum hum3) (by rw [zI_same]; exact rr) (ok1.put (by omega) hnb' (by omega) (by omega)) (by omega) q2.2.2
                · rw [pNeed_b2 nb c5 (by omega), pNeeds_s, cIf_f (fun g => hno _ g.1)]
                  refine b_X12_isTaskRead_215 (Z := zSI U m g5) m4.s a4.s ⟨by decide, ?_⟩
                  rw [if_pos rfl]
                  exact ⟨Or.inr ⟨hno _, rfl, by rw [zI_same]; exact d5⟩, f4.trans (fm _ _), fun i hi => by rw [zI_same, b5' i hi, e4 i hi]⟩
              · rw [b2_f c5, if_pos rfl, pNeed_0 nb c5]
                exact nxt U 0 _ f4 e4 t4 (by rw [u4]; exact mk 0 F2 p1 p2 p3 p4 p5) (ok1.put (by omega) hnb' (by omega) (by omega)) d1 q1.2.2
          · rw [pNeed_bad (by omega), pNeeds_s, cIf_f (fun g => hno _ g.1)]
            refine b_X12_isTaskRead_98 (Z := zSI V m g') hmV.s huV.s ⟨by decide, ?_⟩
            rw [if_pos rfl]
            exact ⟨Or.inr ⟨hno _, rfl, by rw [zI_same]; exact d2⟩, f3, fun i hi => by rw [zI_same, b1' i hi, eV i hi]⟩
      by_cases c5 : nmE n x p < n ∧ x (nmE n x p) = 58
      · rw [b2_p c5, cIf_p c5]
        exact lp 80 _ _ W (by omega) c5.1 eN ha f2 e2 h2 r2
      · rw [b2_f c5, cIf_f c5]
        refine b_X12_isTaskRead_70 hm2 hu2 ⟨by decide, ?_⟩
        rw [if_pos rfl]
        exact ⟨Or.inl ⟨rfl, rfl, h2, r2⟩, f2, e2⟩
    · rw [cIf_p (hbad.mp d1)]
      refine b_X12_isTaskRead_26 (Z := zSI Z m g) hm.s hu.s ⟨by decide, ?_⟩
      rw [if_pos rfl]
      exact ⟨Or.inr ⟨hno p, rfl, by rw [zI_same]; exact d2⟩, fm _ _, fun i hi => by rw [zI_same]; exact g1 i hi⟩
