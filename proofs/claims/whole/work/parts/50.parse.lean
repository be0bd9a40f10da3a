/-! ===== the class reads needs, tasks, the text ===== -/
def txS (t b : Nat) : Nat → Prop := fun a => a = t ∨ zBk b a
theorem cTx.fr {S : Nat → Prop} {c w : Nat} {Z Z' : Zm} {t n p : Nat} {x : Nat → Int} (h : cTx Z t n p x) (ht : atText Z t) (f : zF S c w Z Z') (h1 : ¬ S t) (h2 : ¬ S (t + 1)) : cTx Z' t n p x := by
  rw [cTx, f.i ht.o.1 h1, f.i ht.a0.1 h2]
  exact h
/-- how a step ends: the fault; without one the text is gone on to the place, the book is read so far -/
def rdQ (Z : Zm) (t b n : Nat) (x : Nat → Int) (a : Int × Bk × Nat) : Rv → Zm → Prop := fun r Z' => r = .inl (some (iv a.1)) ∧ zF (txS t b) 0 0 Z Z' ∧ (a.1 = -1 → cTx Z' t n a.2.2 x ∧ cB Z' b a.2.1)
theorem s_readNeed {G : Gx} {Z : Zm} {t b n p q : Nat} {x : Nat → Int} {k : Bk} (ht : atText Z t) (hb : atBook Z b) (hd : t + 1 < b ∨ b + 19 ≤ t) (h : cTx Z t n p x) (hk : cB Z b k) (ho : pOk k q) (hq : q < p) (hp : p ≤ n) : ZM G 3 m_X10_readNeed [.ref t, .ref b] Z (rdQ Z t b n x (pNeed n x k p)) := by
  have hn80 := h.2.2.1
  have hok := ho.k (by omega)
  have hN := hok.n
  have r1 := nmv_r (x := x) hp
  have dj : ∀ a, txS t b a ↔ a = t ∨ (b ≤ a ∧ a < b + 19) := fun a => Iff.rfl
  have fI : ∀ (W : Zm) (f : Nat → Int), zF (txS t b) 0 0 W (zSI W t f) := fun W f => zF_I (Or.inl rfl)
  have bI : ∀ (W : Zm) (f : Nat → Int) k, cB W b k → cB (zSI W t f) b k := fun W f k g => g.of fun a g1 g2 => zI_other (by omega)
  refine e_X10_readNeed ht hb (((s_readNumber ht h hp).deeper (by omega)).mono ?_)
  rintro r W ⟨rfl, hW⟩
  have h1 : cTx W t n (nmE n x p) x := by rw [hW]; exact h.at
  have k1 : cB W b k := by rw [hW]; exact bI _ _ _ hk
  have f1 : zF (txS t b) 0 0 Z W := by rw [hW]; exact fI _ _
  clear hW
  have t1 := ht.ext f1.1
  have b1 := hb.ext f1.1
  rw [h.2.1, hk.1]
  unfold pNeed
  refine b_X10_readNeed_16 t1 b1 ?_
  by_cases c1 : nmE n x p = p
  · rw [if_pos c1, cIf_p (Or.inl c1)]
    exact ⟨by decide, by rw [if_pos (by decide)]; exact ⟨rfl, f1, fun g => by have : (p : Int) = -1 := g; omega⟩⟩
  · rw [if_neg c1]
    refine ⟨by omega, ?_⟩
    rw [if_neg (by omega)]
    refine ⟨by omega, ?_⟩
    by_cases c2 : (kN k : Int) - 1 ≤ nmV n x p
    · rw [if_pos c2, cIf_p (Or.inr (Or.inl c2))]
      exact ⟨rfl, f1, fun g => by have : (p : Int) = -1 := g; omega⟩
    · rw [if_neg c2]
      refine ((s_hasNeed b1 k1 hok (by omega) (by omega)).deeper (by omega)).mono ?_
      rintro r V ⟨rfl, hV⟩
      obtain rfl := hV.symm
      refine b_X10_readNeed_36 t1 b1 ⟨b01_r (hasB_01 _ _ _), ?_⟩
      by_cases c3 : hasB k (nmV n x p) ((kN k : Int) - 1) = 0
      · have ev : (((nmV n x p).toNat : Nat) : Int) = nmV n x p := by omega
        rw [if_pos c3, cIf_f (by omega)]
        refine ((s_isAt t1 h1 r1.2.2 (by decide)).deeper (by omega)).mono ?_
        rintro r V ⟨rfl, hV⟩
        obtain rfl := hV.symm
        refine b_X10_readNeed_50 t1 b1 ⟨b01_r (b2_01 _), ?_⟩
        have add : ∀ (V : Zm) (g : Int) (pl : Nat), zF (txS t b) 0 0 Z V → cB V b k → cTx V t n pl x → ZM G 2 m_X0_addNeed [.ref b, iv (nmV n x p), iv ((kN k : Int) - 1), iv g] V (zKc G 3 m_X10_readNeed 97 [none, none, none, none, none, none] [] (rdQ Z t b n x (-1, kPut k (nmV n x p).toNat (kN k - 1) g, pl))) := fun V g pl fv kv tv => by
          have hm := ho.2.1
          have ha := (s_addNeed (G := G) (x := (nmV n x p).toNat) (y := kN k - 1) (z := g) (hb.ext fv.1) kv (by omega)).deeper (d' := 2) (by omega)
          rw [ev, show ((kN k - 1 : Nat) : Int) = (kN k : Int) - 1 by omega] at ha
          refine ha.mono ?_
          rintro r U ⟨rfl, fu, ku⟩
          have fu2 : zF (txS t b) 0 0 V U := fu.mono (fun a g => Or.inr g) (Nat.le_refl _) (Nat.le_refl _)
          refine b_X10_readNeed_97 ((ht.ext fv.1).ext fu.1) ((hb.ext fv.1).ext fu.1) ⟨rfl, fv.trans fu2, fun _ => ⟨tv.fr (ht.ext fv.1) fu (by unfold zBk zB; omega) (by unfold zBk zB; omega), ku⟩⟩
        by_cases c4 : nmE n x p < n ∧ x (nmE n x p) = 43
        · rw [b2_p c4, if_neg (by decide), cIf_p c4]
          rintro _ rfl
          rw [h1.2.1, zI_same, zu_same]
          have r2 := nmv_r (x := x) (show nmE n x p + 1 ≤ n by omega)
          have h2 := h1.at (q := nmE n x p + 1)
          rw [show ((nmE n x p + 1 : Nat) : Int) = (nmE n x p : Int) + 1 by omega] at h2
          have f2 := f1.trans (fI W (zu (zI W t) 2 ((nmE n x p : Int) + 1)))
          refine ((s_readNumber (ht.ext f2.1) h2 (by omega)).deeper (by omega)).mono ?_
          rintro r V ⟨rfl, hV⟩
          have h3 : cTx V t n (nmE n x (nmE n x p + 1)) x := by rw [hV]; exact h2.at
          have k3 : cB V b k := by rw [hV]; exact bI _ _ _ (bI _ _ _ k1)
          have f3 : zF (txS t b) 0 0 Z V := by rw [hV]; exact f2.trans (fI _ _)
          clear hV
          refine b_X10_readNeed_72 (ht.ext f3.1) (hb.ext f3.1) ?_
          by_cases c5 : nmE n x (nmE n x p + 1) = nmE n x p + 1
          · rw [if_pos c5, cIf_p (Or.inl c5)]
            refine ⟨by decide, ?_⟩
            rw [if_pos (by decide)]
            exact ⟨congrArg (fun v => (Sum.inl (some (iv v)) : Rv)) (by omega), f3, fun g => by have : ((nmE n x p + 1 : Nat) : Int) = -1 := g; omega⟩
          · rw [if_neg c5]
            refine ⟨by omega, ?_⟩
            rw [if_neg (by omega)]
            by_cases c6 : nmV n x (nmE n x p + 1) ≤ 30
            · rw [if_pos c6, cIf_f (by omega)]
              exact add V _ _ f3 k3 h3
            · rw [if_neg c6, cIf_p (by omega)]
              exact ⟨congrArg (fun v => (Sum.inl (some (iv v)) : Rv)) (by omega), f3, fun g => by have : ((nmE n x p + 1 : Nat) : Int) = -1 := g; omega⟩
        · rw [b2_f c4, if_pos rfl, cIf_f c4]
          exact add W 0 _ f1 k1 h1
      · rw [if_neg c3, cIf_p (Or.inr (Or.inr ((hasB_01 _ _ _).resolve_left c3)))]
        exact ⟨rfl, f1, fun g => by have : (p : Int) = -1 := g; omega⟩
theorem pNeeds_s (n : Nat) (x : Nat → Int) (m : Nat) (a : Int × Bk × Nat) : pNeeds n x (m + 1) a = cIf (a.1 = -1 ∧ a.2.2 < n ∧ x a.2.2 = 44) (pNeeds n x m (pNeed n x a.2.1 (a.2.2 + 1))) a := rfl
theorem pTasks_s (n : Nat) (x : Nat → Int) (m : Nat) (a : Int × Bk × Nat) : pTasks n x (m + 1) a = cIf (a.1 = -1 ∧ a.2.2 < n) (cIf (x a.2.2 = 59) (pTasks n x m (pTask n x a.2.1 (a.2.2 + 1))) ((a.2.2 : Int), a.2.1, a.2.2)) a := rfl
theorem rdQ.tr {Z W V : Zm} {t b n : Nat} {x : Nat → Int} {a : Int × Bk × Nat} {r : Rv} (f : zF (txS t b) 0 0 Z W) (h : rdQ W t b n x a r V) : rdQ Z t b n x a r V := ⟨h.1, f.trans h.2.1, h.2.2⟩
theorem s_readTask {G : Gx} {Z : Zm} {t b n p q : Nat} {x : Nat → Int} {k : Bk} (ht : atText Z t) (hb : atBook Z b) (hd : t + 1 < b ∨ b + 19 ≤ t) (h : cTx Z t n p x) (hk : cB Z b k) (ho : pOk k q) (hq : q < p ∨ (p = 0 ∧ q = 0 ∧ kN k = 0)) (hp : p ≤ n) : ZM G 4 m_X10_readTask [.ref t, .ref b] Z (rdQ Z t b n x (pTask n x k p)) := by
  have hn80 := h.2.2.1
  have r1 := nmv_r (x := x) hp
  have hN := ho.1
  have fI : ∀ (W : Zm) (f : Nat → Int), zF (txS t b) 0 0 W (zSI W t f) := fun W f => zF_I (Or.inl rfl)
  have bI : ∀ (W : Zm) (f : Nat → Int) k, cB W b k → cB (zSI W t f) b k := fun W f k g => g.of fun a g1 g2 => zI_other (by omega)
  refine e_X10_readTask ht hb (((s_readNumber ht h hp).deeper (by omega)).mono ?_)
  rintro r W ⟨rfl, hW⟩
  have h1 : cTx W t n (nmE n x p) x := by rw [hW]; exact h.at
  have k1 : cB W b k := by rw [hW]; exact bI _ _ _ hk
  have f1 : zF (txS t b) 0 0 Z W := by rw [hW]; exact fI _ _
  clear hW
  have t1 := ht.ext f1.1
  have b1 := hb.ext f1.1
  rw [h.2.1]
  unfold pTask
  have bad : ∀ a1 a2, rdQ Z t b n x ((p : Int), a1, a2) (.inl (some (iv (p : Int)))) W := fun a1 a2 => ⟨rfl, f1, fun g => by have : (p : Int) = -1 := g; omega⟩
  refine b_X10_readTask_9 t1 b1 ?_
  by_cases c1 : nmE n x p = p
  · rw [if_pos c1, cIf_p (Or.inl c1)]
    exact ⟨by decide, by rw [if_pos (by decide)]; exact bad _ _⟩
  · rw [if_neg c1]
    refine ⟨by omega, ?_⟩
    by_cases c2 : nmV n x p < 1
    · rw [if_pos c2, cIf_p (Or.inr (Or.inl c2))]
      exact bad _ _
    · rw [if_neg c2]
      by_cases c3 : 60 < nmV n x p
      · rw [if_pos c3, cIf_p (Or.inr (Or.inr (Or.inl c3)))]
        exact bad _ _
      · rw [if_neg c3, k1.1]
        refine ⟨by omega, ?_⟩
        by_cases c4 : kN k < 20
        · rw [if_pos (by omega), cIf_f (by omega)]
          refine ((s_addTask b1 k1 c4).deeper (by omega)).mono ?_
          rintro r V ⟨rfl, fv, kv⟩
          have f2 : zF (txS t b) 0 0 Z V := f1.trans (fv.mono (fun a g => Or.inr g) (Nat.le_refl _) (Nat.le_refl _))
          have h2 : cTx V t n (nmE n x p) x := h1.fr t1 fv (by unfold zBk zB; omega) (by unfold zBk zB; omega)
          have t2 := ht.ext f2.1
          have b2' := hb.ext f2.1
          have ha : pOk (kAdd k (nmV n x p)) (nmE n x p) := ho.add c4 (by omega) (by omega)
          refine b_X10_readTask_37 t2 b2' (((s_isAt t2 h2 r1.2.2 (by decide)).deeper (by omega)).mono ?_)
          rintro r U ⟨rfl, hU⟩
          obtain rfl := hU.symm
          refine b_X10_readTask_44 t2 b2' ⟨b01_r (b2_01 _), ?_⟩
          by_cases c5 : nmE n x p < n ∧ x (nmE n x p) = 58
          · rw [b2_p c5, if_neg (by decide), cIf_p c5]
            rintro _ rfl
            rw [h2.2.1]
            have h3 := h2.at (q := nmE n x p + 1)
            rw [show ((nmE n x p + 1 : Nat) : Int) = (nmE n x p : Int) + 1 by omega] at h3
            have f3 := f2.trans (fI V (zu (zI V t) 2 ((nmE n x p : Int) + 1)))
            refine (s_readNeed (ht.ext f3.1) (hb.ext f3.1) hd h3 (bI _ _ _ kv) ha (by omega) (by omega)).mono ?_
            intro r U hU
            have hr1 : pRes n (nmE n x p + 1) (pNeed n x (kAdd k (nmV n x p)) (nmE n x p + 1)) := pNeed_r ha (by omega) (by omega)
            generalize pNeed n x (kAdd k (nmV n x p)) (nmE n x p + 1) = a at hU hr1
            have hU2 := rdQ.tr f3 hU
            obtain ⟨rfl, f4, g4⟩ := hU2
            refine b_X10_readTask_64 (ht.ext f4.1) (hb.ext f4.1) ?_
            -- the other needs
            have lp : ∀ (m j : Nat) (a : Int × Bk × Nat) (U : Zm), j + m = 80 → pRes n (j + 1) a → zF (txS t b) 0 0 Z U → (a.1 = -1 → cTx U t n a.2.2 x ∧ cB U b a.2.1) → ZP G 4 m_X10_readTask 69 [some (.ref t), some (.ref b), none, none, some (iv a.1), some (iv (j : Int))] [] U (rdQ Z t b n x (pNeeds n x m a)) := by
              intro m
              induction m with
              | zero =>
                intro j a U hj hr fu gu
                refine b_X10_readTask_69 (ht.ext fu.1) (hb.ext fu.1) ⟨by omega, ?_⟩
                rw [if_pos (by omega)]
                exact ⟨rfl, fu, gu⟩
              | succ m ih =>
                intro j a U hj hr fu gu
                refine b_X10_readTask_69 (ht.ext fu.1) (hb.ext fu.1) ⟨by omega, ?_⟩
                rw [if_neg (by omega), pNeeds_s]
                rcases hr with ⟨e1, e2, e3, e4⟩ | ⟨e1, e2⟩
                · obtain ⟨gu1, gu2⟩ := gu e1
                  rw [e1, if_pos rfl]
                  refine ⟨by decide, ?_⟩
                  refine ((s_isAt (ht.ext fu.1) gu1 e4 (by decide)).deeper (by omega)).mono ?_
                  rintro r V9 ⟨rfl, hV9⟩
                  obtain rfl := hV9.symm
                  refine b_X10_readTask_88 (ht.ext fu.1) (hb.ext fu.1) ⟨b01_r (b2_01 _), ?_⟩
                  by_cases d : a.2.2 < n ∧ x a.2.2 = 44
                  · rw [b2_p d, if_neg (by decide), cIf_p (show _ ∧ _ from ⟨rfl, d⟩)]
                    rintro _ rfl
                    rw [gu1.2.1]
                    have h5 := gu1.at (q := a.2.2 + 1)
                    rw [show ((a.2.2 + 1 : Nat) : Int) = (a.2.2 : Int) + 1 by omega] at h5
                    have f5 := fu.trans (fI U (zu (zI U t) 2 ((a.2.2 : Int) + 1)))
                    refine (s_readNeed (ht.ext f5.1) (hb.ext f5.1) hd h5 (bI _ _ _ gu2) e2 (by omega) (by omega)).mono ?_
                    intro r V9 hV9
                    have hr9 : pRes n (a.2.2 + 1) (pNeed n x a.2.1 (a.2.2 + 1)) := pNeed_r e2 (by omega) (by omega)
                    generalize pNeed n x a.2.1 (a.2.2 + 1) = a' at hV9 hr9
                    obtain ⟨rfl, f6, g6⟩ := rdQ.tr f5 hV9
                    refine b_X10_readTask_106 (ht.ext f6.1) (hb.ext f6.1) ?_
                    have h7 := ih (j + 1) a' V9 (by omega) ?_ f6 g6
                    · exact h7
                    · rcases hr9 with ⟨z1, z2, z3, z4⟩ | z
                      · exact Or.inl ⟨z1, z2, by omega, z4⟩
                      · exact Or.inr z
                  · rw [b2_f d, if_pos rfl, cIf_f (fun g => d g.2)]
                    exact ⟨by rw [e1], fu, gu⟩
                · rw [if_neg (by omega), cIf_f (by omega)]
                  exact ⟨by omega, rfl, fu, gu⟩
            refine lp 80 0 a U (by omega) ?_ f4 g4
            rcases hr1 with ⟨z1, z2, z3, z4⟩ | z
            · exact Or.inl ⟨z1, z2, by omega, z4⟩
            · exact Or.inr z
          · rw [b2_f c5, if_pos rfl, cIf_f c5]
            exact ⟨rfl, f2, fun _ => ⟨h2, kv⟩⟩
        · rw [if_neg (by omega), cIf_p (by omega)]
          exact bad _ _
theorem s_readInto {G : Gx} {Z : Zm} {t b n : Nat} {x : Nat → Int} (ht : atText Z t) (hb : atBook Z b) (hd : t + 1 < b ∨ b + 19 ≤ t) (h : zI Z t 1 = (n : Int) ∧ n ≤ 80 ∧ ∀ i, i < n → zI Z (t + 1) i = x i ∧ 32 ≤ x i ∧ x i ≤ 126) : ZM G 5 m_X10_readInto [.ref t, .ref b] Z (rdQ Z t b n x (pText n x)) := by
  have hn80 := h.2.1
  have fI : ∀ (W : Zm) (f : Nat → Int), zF (txS t b) 0 0 W (zSI W t f) := fun W f => zF_I (Or.inl rfl)
  have bI : ∀ (W : Zm) (f : Nat → Int) k, cB W b k → cB (zSI W t f) b k := fun W f k g => g.of fun a g1 g2 => zI_other (by omega)
  refine e_X10_readInto ht hb (((s_makeEmpty hb).deeper (by omega)).mono ?_)
  rintro r W ⟨rfl, f1, k1⟩
  have f1' : zF (txS t b) 0 0 Z W := f1.mono (fun a g => Or.inr g) (Nat.le_refl _) (Nat.le_refl _)
  have et : zI W t = zI Z t := f1.i ht.o.1 (by unfold zBk zB; omega)
  have et1 : zI W (t + 1) = zI Z (t + 1) := f1.i ht.a0.1 (by unfold zBk zB; omega)
  refine b_X10_readInto_4 (ht.ext f1.1) (hb.ext f1.1) ?_
  rintro _ rfl
  rw [et]
  have h2 : cTx (zSI W t (zu (zI Z t) 2 0)) t n 0 x := ⟨by rw [zI_same, zu_other (by decide)]; exact h.1, by rw [zI_same, zu_same]; rfl, hn80, fun i hi => by rw [zI_other (by omega), et1]; exact h.2.2 i hi⟩
  have f2 := f1'.trans (fI W (zu (zI Z t) 2 0))
  refine (s_readTask (ht.ext f2.1) (hb.ext f2.1) hd h2 (bI _ _ _ k1) k0_p (Or.inr ⟨rfl, rfl, rfl⟩) (Nat.zero_le _)).mono ?_
  intro r U hU
  have hr1 : pRes n 0 (pTask n x k0 0) := pTask_r k0_p (Or.inr ⟨rfl, rfl, rfl⟩) (Nat.zero_le _)
  unfold pText
  generalize pTask n x k0 0 = a at hU hr1
  obtain ⟨rfl, f4, g4⟩ := rdQ.tr f2 hU
  refine b_X10_readInto_14 (ht.ext f4.1) (hb.ext f4.1) ?_
  suffices lp : ∀ (m j : Nat) (a : Int × Bk × Nat) (U : Zm), j + m = 80 → pRes n j a → zF (txS t b) 0 0 Z U → (a.1 = -1 → cTx U t n a.2.2 x ∧ cB U b a.2.1) → ZP G 5 m_X10_readInto 17 [some (.ref t), some (.ref b), some (iv a.1), some (iv (j : Int))] [] U (rdQ Z t b n x (pTasks n x m a)) from lp 80 0 a U (by omega) hr1 f4 g4
  intro m
  induction m with
  | zero =>
    intro j a U hj hr fu gu
    refine b_X10_readInto_17 (ht.ext fu.1) (hb.ext fu.1) ⟨by omega, ?_⟩
    rw [if_pos (by omega)]
    exact ⟨rfl, fu, gu⟩
  | succ m ih =>
    intro j a U hj hr fu gu
    refine b_X10_readInto_17 (ht.ext fu.1) (hb.ext fu.1) ⟨by omega, ?_⟩
    rw [if_neg (by omega), pTasks_s]
    rcases hr with ⟨e1, e2, e3, e4⟩ | ⟨e1, e2⟩
    · obtain ⟨gu1, gu2⟩ := gu e1
      rw [e1, if_pos rfl, gu1.1, gu1.2.1]
      refine ⟨by decide, by omega, by omega, ?_⟩
      by_cases d : a.2.2 < n
      · rw [if_neg (by omega), cIf_p (show _ ∧ _ from ⟨rfl, d⟩), Int.toNat_natCast, (gu1.2.2.2 _ d).1]
        have := (gu1.2.2.2 _ d).2
        refine ⟨zIx_nat (by omega) (by omega), by omega, ?_⟩
        by_cases d2 : x a.2.2 = 59
        · rw [if_pos d2, cIf_p d2]
          rintro _ rfl
          have h5 := gu1.at (q := a.2.2 + 1)
          rw [show ((a.2.2 + 1 : Nat) : Int) = (a.2.2 : Int) + 1 by omega] at h5
          have f5 := fu.trans (fI U (zu (zI U t) 2 ((a.2.2 : Int) + 1)))
          refine (s_readTask (ht.ext f5.1) (hb.ext f5.1) hd h5 (bI _ _ _ gu2) e2 (Or.inl (by omega)) (by omega)).mono ?_
          intro r V9 hV9
          have hr9 : pRes n (a.2.2 + 1) (pTask n x a.2.1 (a.2.2 + 1)) := pTask_r e2 (Or.inl (by omega)) (by omega)
          generalize pTask n x a.2.1 (a.2.2 + 1) = a' at hV9 hr9
          obtain ⟨rfl, f6, g6⟩ := rdQ.tr f5 hV9
          refine b_X10_readInto_73 (ht.ext f6.1) (hb.ext f6.1) ?_
          have h7 := ih (j + 1) a' V9 (by omega) ?_ f6 g6
          · exact h7
          · rcases hr9 with ⟨z1, z2, z3, z4⟩ | z
            · exact Or.inl ⟨z1, z2, by omega, z4⟩
            · exact Or.inr z
        · rw [if_neg d2, cIf_f d2]
          exact ⟨rfl, fu, fun g => by have : (a.2.2 : Int) = -1 := g; omega⟩
      · rw [if_pos (by omega), cIf_f (fun g => d g.2)]
        exact ⟨by rw [e1], fu, gu⟩
    · rw [if_neg (by omega), cIf_f (by omega)]
      exact ⟨by omega, rfl, fu, gu⟩
