/-! ===== is the plan proved? the model ===== -/
theorem isLn.pn2 {k : Bk} {p : Pl} {t : Nat} {y : Int} (h : isLn k p t (kM k) y) : isPn k p t (if y = -1 then -1 else (kE k y.toNat : Int)) (if y = -1 then 0 else kG k y.toNat) := by
  rcases h with ⟨h1, h2⟩ | ⟨j, h1, h2, h3, h4⟩
  · rw [if_pos h1, if_pos h1]
    exact Or.inl ⟨rfl, rfl, h2⟩
  · rw [if_neg (by omega), if_neg (by omega), h2, Int.toNat_natCast]
    exact Or.inr ⟨j, h1, h3, rfl, rfl, h4⟩
def chp (k : Bk) (p : Pl) (d g : Nat → Int) (q : Nat) (x : Int) (i : Nat) : Prop := (cbI p d i ≤ x ∧ x < ceI k p d i) ∨ (i + 1 < q ∧ ceI k p d (i + 1) ≤ x ∧ x < ceI k p d (i + 1) + g i)
theorem s_isChained {G : Gx} {Z : Zm} {B a : Nat} {σ : St} {p : Pl} {x : Int} (h : IMb Z B σ) (ho : okS σ) (hp : sP σ = some p) (td : isPt Z a (sK σ) p) (hx : 0 ≤ x ∧ x ≤ 10000) : ZM G 3 m_X12_isChained [.ref 300, .ref a, iv x] Z (fun r W => (∃ s, r = .inl (some (iv s)) ∧ ((s = 1 ∧ chd (sK σ) p (vPf (sK σ) p).1 (vPf (sK σ) p).2.1 (vPf (sK σ) p).2.2 x) ∨ (s = 0 ∧ ¬ chd (sK σ) p (vPf (sK σ) p).1 (vPf (sK σ) p).2.1 (vPf (sK σ) p).2.2 x))) ∧ W = Z) := by
  have hN := ho.1.n
  have hM := ho.1.m
  have ok := ho.p p hp
  obtain ⟨aU, a2, pf, t1, t2⟩ := td
  have k1 := h.2.2.1
  have q5 := (h.pl.2 p hp).2.2.2.2
  generalize (vPf (sK σ) p).1 = d at *
  generalize (vPf (sK σ) p).2.1 = g at *
  generalize (vPf (sK σ) p).2.2 = q at *
  have hq := pf.2.1
  generalize hQ : (fun (r : Rv) (W : Zm) => (∃ s, r = .inl (some (iv s)) ∧ ((s = 1 ∧ chd (sK σ) p d g q x) ∨ (s = 0 ∧ ¬ chd (sK σ) p d g q x))) ∧ W = Z) = Q
  refine e_X12_isChained h.1 aU ?_
  suffices key : ∀ i, i ≤ q → ∀ s, ((s = 1 ∧ chd (sK σ) p d g q x) ∨ (s = 0 ∧ ∀ l, l < i → ¬ chp (sK σ) p d g q x l)) → ZP G 3 m_X12_isChained 5 [some (.ref 300), some (.ref a), some (iv x), some (iv s), some (iv (i : Int)), none, none] [] Z Q from key 0 (Nat.zero_le _) 0 (Or.inr ⟨rfl, fun l hl => absurd hl (Nat.not_lt_zero _)⟩)
  refine am_up (n := q) fun i hi ih s hs => ?_
  have s01 : s = 0 ∨ s = 1 := by
    rcases hs with ⟨e, -⟩ | ⟨e, -⟩
    · exact Or.inr e
    · exact Or.inl e
  refine b_X12_isChained_5 h.1 aU ⟨zIx_nat (by omega) (by omega), ?_⟩
  rw [Int.toNat_natCast]
  by_cases c : i < q
  · obtain ⟨d1, d2, d3⟩ := pf.2.2.1 i c
    have st := chd_st ho.1 ok pf c
    rw [t1 i c, if_neg (by omega)]
    obtain ⟨t, ht⟩ : ∃ t : Nat, d i = (t : Int) := ⟨(d i).toNat, by omega⟩
    have htn : t < kN (sK σ) := by omega
    have eb : cbI p d i = plB p t := by
      unfold cbI
      rw [ht, Int.toNat_natCast]
    have ee : ceI (sK σ) p d i = plB p t + kF (sK σ) 0 t := by
      unfold ceI
      rw [ht, Int.toNat_natCast]
    have e1 : zI Z (300 + 11) t = plB p t := (q5 t htn).1
    rw [ht, Int.toNat_natCast] at d3
    rw [ht, Int.toNat_natCast, e1]
    -- behind the task itself
    have f57 : ∀ s' y, isLn (sK σ) p t (kM (sK σ)) y → ((s' = 1 ∧ chd (sK σ) p d g q x) ∨ (s' = 0 ∧ (∀ l, l < i → ¬ chp (sK σ) p d g q x l) ∧ ¬ (cbI p d i ≤ x ∧ x < ceI (sK σ) p d i))) → ZP G 3 m_X12_isChained 57 [some (.ref 300), some (.ref a), some (iv x), some (iv s'), some (iv (i : Int)), none, none] [iv y] Z Q := fun s' y hy hs' => by
      obtain ⟨n1, n2⟩ := isPn_eq ho.1 d3 hy.pn2
      have ry : y = -1 ∨ (0 ≤ y ∧ y < kM (sK σ)) := by
        rcases hy with ⟨q, -⟩ | ⟨j, j1, j2, -⟩
        · exact Or.inl q
        · exact Or.inr (by omega)
      have no : s' = 0 → ¬ (i + 1 < q ∧ ceI (sK σ) p d (i + 1) ≤ x ∧ x < ceI (sK σ) p d (i + 1) + g i) → ZP G 3 m_X12_isChained 5 [some (.ref 300), some (.ref a), some (iv x), some (iv 0), some (iv ((i : Int) + 1)), none, none] [] Z Q := fun e nn => by
        rcases hs' with ⟨e', -⟩ | ⟨-, h1, h2⟩
        · omega
        · refine ih c 0 (Or.inr ⟨rfl, fun l hl => ?_⟩)
          by_cases e2 : l = i
          · rw [e2]
            rintro (q1 | q1)
            · exact h2 q1
            · exact nn q1
          · exact h1 l (by omega)
      have s01' : s' = 0 ∨ s' = 1 := by
        rcases hs' with ⟨e, -⟩ | ⟨e, -⟩
        · exact Or.inr e
        · exact Or.inl e
      refine b_X12_isChained_57 h.1 aU ⟨b01_r s01', ?_⟩
      by_cases c1 : s' = 0
      · rw [if_pos c1]
        refine ⟨by omega, ?_⟩
        by_cases c2 : y = -1
        · rw [if_pos c2]
          rw [if_pos c2] at n1
          refine no c1 fun q1 => ?_
          have := (pf.2.2.1 (i + 1) q1.1).1
          omega
        · rw [if_neg c2]
          rw [if_neg c2] at n1 n2
          have hyM : y.toNat < kM (sK σ) := by omega
          obtain ⟨f1, f2, f3⟩ := k1.2.2.2 y.toNat hyM
          have hE := ho.1.e hyM
          have hG := ho.1.g hyM
          have e2 : ceI (sK σ) p d (i + 1) = plB p (kE (sK σ) y.toNat) + kF (sK σ) 0 (kE (sK σ) y.toNat) := by
            unfold ceI
            rw [n1, Int.toNat_natCast]
          have iq : i + 1 < q := by
            refine Classical.byContradiction fun g1 => ?_
            have := pf.2.2.2
            rw [show q = i + 1 by omega, n1] at this
            omega
          have st2 := st.2.2.2 iq
          have st3 := chd_st ho.1 ok pf iq
          rw [f1]
          refine ⟨⟨by omega, by omega, by decide⟩, (s_planned h hp hN hE).deeper (by omega) |>.mono ?_⟩
          rintro r W ⟨rfl, hW⟩
          obtain rfl := hW.symm
          rw [Int.add_zero, ← e2]
          refine b_X12_isChained_81 h.1 aU ⟨by omega, by omega, ?_⟩
          by_cases c3 : x < ceI (sK σ) p d (i + 1)
          · rw [if_pos c3]
            exact no c1 fun q1 => by omega
          · rw [if_neg c3, f1, f3]
            refine ⟨⟨by omega, by omega, by decide⟩, (s_planned h hp hN hE).deeper (by omega) |>.mono ?_⟩
            rintro r W ⟨rfl, hW⟩
            obtain rfl := hW.symm
            rw [← n2, ← e2]
            refine b_X12_isChained_101 h.1 aU ⟨by omega, by omega, ?_⟩
            by_cases c4 : ceI (sK σ) p d (i + 1) + g i ≤ x
            · rw [b2_f (fun q1 => q1 c4)]
              exact no c1 fun q1 => by omega
            · rw [b2_p c4]
              exact ih c 1 (Or.inl ⟨rfl, i, c, Or.inr ⟨iq, by omega, by omega⟩⟩)
      · rw [if_neg c1]
        rcases hs' with ⟨e, hc⟩ | ⟨e, -⟩
        · exact ih c 1 (Or.inl ⟨rfl, hc⟩)
        · exact absurd e c1
    have ln : ∀ s', ((s' = 1 ∧ chd (sK σ) p d g q x) ∨ (s' = 0 ∧ (∀ l, l < i → ¬ chp (sK σ) p d g q x l) ∧ ¬ (cbI p d i ≤ x ∧ x < ceI (sK σ) p d i))) → ZM G 2 m_X12_lastNeed [.ref 300, iv (t : Int)] Z (zKc G 3 m_X12_isChained 57 [some (.ref 300), some (.ref a), some (iv x), some (iv s'), some (iv (i : Int)), none, none] [] Q) := fun s' hs' => by
      refine (s_lastNeed h ho hp htn).mono ?_
      rintro r W ⟨⟨y, hy, rfl⟩, hW⟩
      obtain rfl := hW.symm
      exact f57 s' y hy hs'
    refine ⟨by omega, b01_r s01, ?_⟩
    by_cases c0 : s = 0
    · rw [if_pos c0]
      have hl : ∀ l, l < i → ¬ chp (sK σ) p d g q x l := by
        rcases hs with ⟨e, -⟩ | ⟨-, e⟩
        · omega
        · exact e
      refine ⟨zIx_nat (by omega) (by omega), by omega, by omega, ?_⟩
      by_cases c1 : x < plB p t
      · rw [if_pos c1]
        exact ln 0 (Or.inr ⟨rfl, hl, fun q1 => by omega⟩)
      · rw [if_neg c1]
        refine ((s_planned h hp hN htn).deeper (by omega)).mono ?_
        rintro r W ⟨rfl, hW⟩
        obtain rfl := hW.symm
        rw [Int.add_zero, ← ee]
        refine b_X12_isChained_42 h.1 aU ⟨by omega, by omega, ?_⟩
        by_cases c2 : ceI (sK σ) p d i ≤ x
        · rw [b2_f (fun q1 => q1 c2)]
          exact ln 0 (Or.inr ⟨rfl, hl, fun q1 => by omega⟩)
        · rw [b2_p c2]
          exact ln 1 (Or.inl ⟨rfl, i, c, Or.inl ⟨by omega, by omega⟩⟩)
    · rw [if_neg c0]
      have hc : chd (sK σ) p d g q x := by
        rcases hs with ⟨-, e⟩ | ⟨e, -⟩
        · exact e
        · exact absurd e c0
      exact ln 1 (Or.inl ⟨rfl, hc⟩)
  · rw [show i = q by omega, t2, if_pos rfl, ← hQ]
    refine ⟨by decide, s01, ⟨s, rfl, ?_⟩, rfl⟩
    rcases hs with e | ⟨e, e2⟩
    · exact Or.inl e
    · refine Or.inr ⟨e, ?_⟩
      rintro ⟨l, l1, l2⟩
      exact e2 l (by omega) l2
theorem isPt.t {Z : Zm} {a : Nat} {k : Bk} {p : Pl} {c : Int} (h : isPt Z a k p) : isPt (zT Z c) a k p := by
  obtain ⟨h1, h2, h3, h4, h5⟩ := h
  have e : zI (zT Z c) a = zI Z a := zI_other (by omega)
  refine ⟨h1.s, h2, h3, ?_, ?_⟩
  · rw [e]
    exact h4
  · rw [e]
    exact h5
theorem d_isProved {G : Gx} {Z : Zm} {B : Nat} {σ : St} (h : IMb Z B σ) (ho : okS σ) (hz : 322 ≤ zSz Z ∧ zSz Z < 990000) : ZM G 12 m_X12_isProved [.ref 300] Z (rM Z iv (o_isProved σ)) := by
  unfold o_isProved
  cases hp : sP σ with
  | none =>
    rw [pIf_n hp]
    have e0 := h.pl.1 hp
    refine e_X12_isProved h.1 ?_
    rw [e0]
    refine ⟨by decide, ?_⟩
    rintro _ rfl
    rw [fC_1 (P := (0 : Int) = 0) rfl, if_pos (by decide)]
    exact rM.no h (by decide) rfl
  | some p =>
    rw [pIf_s hp]
    have e0 := (h.pl.2 p hp).1
    have ok := ho.p p hp
    have hen := ok.e ho.1
    refine e_X12_isProved h.1 ?_
    rw [e0]
    refine ⟨by decide, ?_⟩
    rintro _ rfl
    rw [fC_o1 (P := (1 : Int) = 0) (by decide), if_neg (by decide)]
    refine ((s_mproof (h.t 0) ho hp ⟨hz.1, by show zSz Z < 999000; omega⟩).deeper (by omega)).mono ?_
    rintro r W ⟨rfl, f, h1, td⟩
    obtain ⟨v, e⟩ := mS_t f hz.1
    refine b_X12_isProved_27 h1.1 td.1 ?_
    have e14 : zI W 300 14 = plE p := (h1.pl.2 p hp).2.2.1
    have e13 : zI W (300 + 13) 0 = plH p 0 := (h1.pl.2 p hp).2.2.2.1 0 (by omega)
    obtain ⟨E, hE⟩ : ∃ E : Nat, plE p = (E : Int) := ⟨(plE p).toNat, by omega⟩
    suffices key : ∀ y, y ≤ E → ∀ s, ((s = 1 ∧ ∀ x : Int, 0 ≤ x → x < (y : Int) → chd (sK σ) p (vPf (sK σ) p).1 (vPf (sK σ) p).2.1 (vPf (sK σ) p).2.2 x ∨ busyN (sK σ) p 0 x (kN (sK σ)) = plH p 0) ∨ (s = 0 ∧ ¬ isPr (sK σ) p)) → ZP G 12 m_X12_isProved 32 [some (.ref 300), some (.ref (zSz (zT Z 0))), some (iv s), some (iv (y : Int))] [] W (rM Z iv (cIf (isPr (sK σ) p) (0, 1, σ) (0, 0, σ))) from key 0 (Nat.zero_le _) 1 (Or.inl ⟨rfl, fun x x1 x2 => by omega⟩)
    refine am_up (n := E) fun y hy ih s hs => ?_
    have s01 : s = 0 ∨ s = 1 := by
      rcases hs with ⟨e, -⟩ | ⟨e, -⟩
      · exact Or.inr e
      · exact Or.inl e
    have fin : ((s = 1 ∧ isPr (sK σ) p) ∨ (s = 0 ∧ ¬ isPr (sK σ) p)) → rM Z iv (cIf (isPr (sK σ) p) (0, 1, σ) (0, 0, σ)) (.inl (some (iv s))) W := fun q => by
      rcases q with ⟨q1, q2⟩ | ⟨q1, q2⟩
      · rw [cIf_p q2]
        exact rM.ok h1 e v (by omega) (by omega) q1
      · rw [cIf_f q2]
        exact rM.ok h1 e v (by omega) (by omega) q1
    refine b_X12_isProved_32 h1.1 td.1 ⟨by omega, by rw [e14]; omega, ?_⟩
    rw [e14, hE]
    by_cases c : y < E
    · rw [if_neg (by omega)]
      refine ⟨b01_r s01, ?_⟩
      by_cases c0 : s = 0
      · rw [if_pos c0]
        refine ⟨s01, fin (Or.inr ⟨c0, ?_⟩)⟩
        rcases hs with ⟨e, -⟩ | ⟨-, e⟩
        · omega
        · exact e
      · rw [if_neg c0]
        have hs1 : ∀ x : Int, 0 ≤ x → x < (y : Int) → chd (sK σ) p (vPf (sK σ) p).1 (vPf (sK σ) p).2.1 (vPf (sK σ) p).2.2 x ∨ busyN (sK σ) p 0 x (kN (sK σ)) = plH p 0 := by
          rcases hs with ⟨-, e⟩ | ⟨e, -⟩
          · exact e
          · exact absurd e c0
        have nx : (chd (sK σ) p (vPf (sK σ) p).1 (vPf (sK σ) p).2.1 (vPf (sK σ) p).2.2 (y : Int) ∨ busyN (sK σ) p 0 (y : Int) (kN (sK σ)) = plH p 0) → ZP G 12 m_X12_isProved 32 [some (.ref 300), some (.ref (zSz (zT Z 0))), some (iv 1), some (iv ((y : Int) + 1))] [] W (rM Z iv (cIf (isPr (sK σ) p) (0, 1, σ) (0, 0, σ))) := fun q => ih c 1 (Or.inl ⟨rfl, fun x x1 x2 => by
          by_cases g : x = (y : Int)
          · rw [g]
            exact q
          · exact hs1 x x1 (by omega)⟩)
        refine ((s_isChained h1 ho hp td (x := (y : Int)) (by omega)).deeper (by omega)).mono ?_
        rintro r W' ⟨⟨s', rfl, hs'⟩, hW⟩
        obtain rfl := hW.symm
        refine b_X12_isProved_50 h1.1 td.1 ?_
        rcases hs' with ⟨rfl, hc⟩ | ⟨rfl, hc⟩
        · rw [if_neg (by decide)]
          exact ⟨by decide, nx (Or.inl hc)⟩
        · rw [if_pos rfl]
          refine ⟨by decide, ((s_busyIn h1 ho hp (by omega) (by omega)).deeper (by omega)).mono ?_⟩
          rintro r W' ⟨rfl, hW⟩
          obtain rfl := hW.symm
          have br := busyN_r (sK σ) p 0 (y : Int) (kN (sK σ))
          have hN := ho.1.n
          have hh := ok.h 0 (by omega)
          refine b_X12_isProved_59 h1.1 td.1 ?_
          rw [e13]
          refine ⟨by omega, by omega, ?_⟩
          by_cases cc : busyN (sK σ) p 0 (y : Int) (kN (sK σ)) = plH p 0
          · rw [b2_p cc]
            exact nx (Or.inr cc)
          · rw [b2_f cc]
            refine ih c 0 (Or.inr ⟨rfl, fun all => ?_⟩)
            rcases all (y : Int) (by omega) (by omega) with q | q
            · exact hc q
            · exact cc q
    · rw [if_pos (by omega)]
      refine ⟨s01, fin ?_⟩
      rcases hs with ⟨q1, q2⟩ | q
      · exact Or.inl ⟨q1, fun x x1 x2 => q2 x x1 (by omega)⟩
      · exact Or.inr q
