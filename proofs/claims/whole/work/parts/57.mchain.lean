/-! ===== the model's told chain ===== -/
theorem isLg_ex {k : Bk} {t : Nat} {y : Int} (h : isNx k t y) : ∃ g, isLg k t y g := by
  rcases h with ⟨e, -⟩ | ⟨j, hj, h1, -, h2, -⟩
  · exact ⟨0, Or.inl ⟨e, rfl⟩⟩
  · exact ⟨kG k j, Or.inr ⟨j, hj, h1, h2, rfl⟩⟩
/-- the least later task of those needs that were looked at -/
def sNxt (k : Bk) (t j : Nat) (x : Int) : Prop := (x = -1 ∧ ∀ i, i < j → kE k i = t → ¬ tgt k i) ∨ ∃ i, i < j ∧ kE k i = t ∧ tgt k i ∧ x = (kL k i : Int) ∧ ∀ i', i' < j → kE k i' = t → tgt k i' → kL k i ≤ kL k i'
theorem sNxt.step {k : Bk} {t j : Nat} {x : Int} {c d : Prop} [Decidable c] [Decidable d] (h : sNxt k t j x) (hc : c ↔ kE k j = t) (hd : c → (d ↔ tgt k j)) : sNxt k t (j + 1) (if c ∧ d then (if x = -1 then (kL k j : Int) else (if x ≤ (kL k j : Int) then x else (kL k j : Int))) else x) := by
  by_cases g : c ∧ d
  · have g1 := hc.mp g.1
    have g2 := (hd g.1).mp g.2
    rw [if_pos g]
    have new : (∀ i, i < j → kE k i = t → tgt k i → kL k j ≤ kL k i) → ∃ i, i < j + 1 ∧ kE k i = t ∧ tgt k i ∧ (kL k j : Int) = (kL k i : Int) ∧ ∀ i', i' < j + 1 → kE k i' = t → tgt k i' → kL k i ≤ kL k i' := fun hh => ⟨j, Nat.lt_succ_self _, g1, g2, rfl, fun i' hi e1 e2 => by
      by_cases e : i' = j
      · rw [e]
        exact Nat.le_refl _
      · exact hh i' (by omega) e1 e2⟩
    rcases h with ⟨rfl, h2⟩ | ⟨i, i1, i2, i3, rfl, i5⟩
    · rw [if_pos rfl]
      exact Or.inr (new fun i hi e1 e2 => absurd e2 (h2 i hi e1))
    · rw [if_neg (by omega)]
      by_cases e : (kL k i : Int) ≤ (kL k j : Int)
      · rw [if_pos e]
        refine Or.inr ⟨i, by omega, i2, i3, rfl, fun i' hi e1 e2 => ?_⟩
        by_cases q : i' = j
        · rw [q]
          omega
        · exact i5 i' (by omega) e1 e2
      · rw [if_neg e]
        refine Or.inr (new fun i' hi e1 e2 => ?_)
        have := i5 i' hi e1 e2
        omega
  · rw [if_neg g]
    have no : kE k j = t → ¬ tgt k j := fun e1 e2 => g ⟨hc.mpr e1, (hd (hc.mpr e1)).mpr e2⟩
    rcases h with ⟨h1, h2⟩ | ⟨i, i1, i2, i3, i4, i5⟩
    · refine Or.inl ⟨h1, fun i hi e1 => ?_⟩
      by_cases e : i = j
      · rw [e] at e1 ⊢
        exact no e1
      · exact h2 i (by omega) e1
    · refine Or.inr ⟨i, by omega, i2, i3, i4, fun i' hi e1 e2 => ?_⟩
      by_cases e : i' = j
      · rw [e] at e1 e2
        exact absurd e2 (no e1)
      · exact i5 i' (by omega) e1 e2
theorem sNxt.r {k : Bk} (ho : kOk k) {t j : Nat} {x : Int} (h : sNxt k t j x) (hj : j ≤ kM k) : x = -1 ∨ (0 ≤ x ∧ x < kN k) := by
  rcases h with ⟨h1, -⟩ | ⟨i, i1, -, -, i4, -⟩
  · exact Or.inl h1
  · have := ho.l (show i < kM k by omega)
    exact Or.inr (by omega)
/-- the first task that begins a longest chain, of those from j on -/
def sSt (k : Bk) (j : Nat) (x : Int) : Prop := (x = -1 ∧ ∀ t, j ≤ t → t < kN k → eR k t ≠ eEnd k) ∨ ∃ t : Nat, t < kN k ∧ x = (t : Int) ∧ eR k t = eEnd k ∧ ∀ s, j ≤ s → s < t → eR k s ≠ eEnd k
theorem sSt.step {k : Bk} {j : Nat} {x : Int} (h : sSt k (j + 1) x) (hj : j < kN k) : sSt k j (if eR k j = eEnd k then (j : Int) else x) := by
  by_cases c : eR k j = eEnd k
  · rw [if_pos c]
    exact Or.inr ⟨j, hj, rfl, c, fun s h1 h2 => by omega⟩
  · rw [if_neg c]
    have q : ∀ s, j ≤ s → ¬ (j + 1 ≤ s) → eR k s ≠ eEnd k := fun s h1 h2 => by
      rw [show s = j by omega]
      exact c
    rcases h with ⟨h1, h2⟩ | ⟨t, t1, t2, t3, t4⟩
    · refine Or.inl ⟨h1, fun t g1 g2 => ?_⟩
      by_cases e : j + 1 ≤ t
      · exact h2 t e g2
      · exact q t g1 e
    · refine Or.inr ⟨t, t1, t2, t3, fun s g1 g2 => ?_⟩
      by_cases e : j + 1 ≤ s
      · exact t4 s e g2
      · exact q s g1 e
theorem sSt.st {k : Bk} {x : Int} (h : sSt k 0 x) : isSt k x := by
  rcases h with ⟨h1, h2⟩ | ⟨t, t1, t2, t3, t4⟩
  · exact Or.inl ⟨h1, fun t ht => h2 t (Nat.zero_le _) ht⟩
  · exact Or.inr ⟨t, t1, t2, t3, fun s hs => t4 s (Nat.zero_le _) hs⟩
theorem sSt.r {k : Bk} {j : Nat} {x : Int} (h : sSt k j x) : x = -1 ∨ (0 ≤ x ∧ x < kN k) := by
  rcases h with ⟨h1, -⟩ | ⟨t, t1, t2, -⟩
  · exact Or.inl h1
  · exact Or.inr (by omega)
/-- the chain so far: n tasks, x the next one -/
def sCh (k : Bk) (d : Nat → Int) (n : Nat) (x : Int) : Prop := isSt k (d 0) ∧ d n = x ∧ ∀ i, i < n → 0 ≤ d i ∧ d i < kN k ∧ isNx k (d i).toNat (d (i + 1))
theorem sCh.step {k : Bk} {d : Nat → Int} {n : Nat} {x y : Int} (h : sCh k d n x) (hx : 0 ≤ x ∧ x < kN k) (hy : isNx k x.toNat y) : sCh k (zu d (n + 1) y) (n + 1) y := by
  obtain ⟨h1, h2, h3⟩ := h
  refine ⟨by rw [zu_other (by omega)]; exact h1, zu_same _ _ _, fun i hi => ?_⟩
  rw [zu_other (by omega)]
  by_cases e : i = n
  · rw [e, zu_same, h2]
    exact ⟨hx.1, hx.2, hy⟩
  · rw [zu_other (by omega)]
    exact h3 i (by omega)
theorem sCh.told {k : Bk} {d : Nat → Int} {n : Nat} (h : sCh k d n (-1)) (hn : n ≤ kN k) : ∃ g, isTold k d g n := by
  obtain ⟨h1, h2, h3⟩ := h
  have hg : ∀ i, ∃ g, i < n → isLg k (d i).toNat (d (i + 1)) g := fun i => by
    by_cases c : i < n
    · obtain ⟨g, hg⟩ := isLg_ex (h3 i c).2.2
      exact ⟨g, fun _ => hg⟩
    · exact ⟨0, fun g => absurd g c⟩
  obtain ⟨g, hg⟩ := Classical.axiomOfChoice hg
  exact ⟨g, h1, hn, fun i hi => ⟨(h3 i hi).1, (h3 i hi).2.1, (h3 i hi).2.2, hg i hi⟩, h2⟩
/-- the row a holds the told chain, and -1 behind it -/
def isTd (Z : Zm) (a : Nat) (k : Bk) : Prop := zA Z a 100 21 ∧ 322 ≤ a ∧ (vTd k).2.2 ≤ 20 ∧ (∀ i, i < (vTd k).2.2 → zI Z a i = (vTd k).1 i ∧ 0 ≤ zI Z a i ∧ zI Z a i < 20) ∧ zI Z a (vTd k).2.2 = -1
theorem m_chain {G : Gx} {Z : Zm} {B : Nat} {σ : St} (h : IMb Z B σ) (ho : okS σ) (hz : 322 ≤ zSz Z ∧ zSz Z < 990000) : ZM G 5 m_X12_chain [.ref 300] Z (fun r W => r = .inl (some (.ref (zSz Z + 2))) ∧ zF mS 3 61 Z W ∧ IMb W B σ ∧ isTd W (zSz Z + 2) (sK σ)) := by
  have hN := ho.1.n
  have hM := ho.1.m
  have eo := eOk_all ho.1
  have hen := eo.en ho.1
  obtain ⟨pos, p1, p2⟩ := kPos ho.1
  refine e_X12_chain h.1 (((m_len h ho.T ⟨hz.1, by omega⟩).deeper (by omega)).mono ?_)
  rintro r W ⟨rfl, f1, h1, u1⟩
  refine b_X12_chain_4 h1.1 u1.1 (((m_R h1 ho.T (mHz.f hz f1 (by omega)) u1).deeper (by omega)).mono ?_)
  rintro r V ⟨rfl, f2, h2, u2⟩
  have g2 := f1.trans f2
  have v1 := u1.fr f2
  have hzV := mHz.f hz g2 (by omega)
  have szV : zSz V = zSz Z + 2 := by
    have a1 := u1.1.1
    have a2 := u2.1.1
    have a3 := f1.2.1.1
    have a4 := f2.2.1.1
    have a5 := f1.1.1
    omega
  have szW : zSz W = zSz Z + 1 := by
    have a1 := u1.1.1
    have a3 := f1.2.1.1
    omega
  refine b_X12_chain_10 h2.1 v1.1 u2.1 ⟨by have := hzV.2; omega, ?_⟩
  rintro _ rfl
  have f3 : zF mS 1 21 V (zC V 100 21 21) := zF_C
  have h3 := h2.m hzV.1 f3
  have a3 : zA (zC V 100 21 21) (zSz V) 100 21 := zA_C V 100 21 21
  have w1 := v1.fr f3
  have w2 := u2.fr f3
  have g3 := g2.trans f3
  rw [h3.2.2.1.1]
  rw [szV] at a3 ⊢
  rw [szW] at w2 ⊢
  generalize zC V 100 21 21 = Y at f3 h3 a3 w1 w2 g3 ⊢
  have szY : zSz Z + 3 ≤ zSz Y := by have := a3.1; omega
  have hB := (h.big hz.1).2.1
  -- the chain, task by task
  have L2 : ∀ (Y1 : Zm), zF mS 0 0 Y Y1 → ∀ (m n : Nat) (x : Int) (d f : Nat → Int), n + m = kN (sK σ) → (x = -1 ∨ (0 ≤ x ∧ x < kN (sK σ)) ∧ n ≤ pos x.toNat) → sCh (sK σ) d n x → (∀ i, i < n → f i = d i) → ZP G 5 m_X12_chain 62 [some (.ref 300), some (.ref (zSz Z)), some (.ref (zSz Z + 1)), some (.ref (zSz Z + 2)), some (iv (n : Int)), some (iv x), none, none, none] [] (zSI Y1 (zSz Z + 2) f) (fun r W => r = .inl (some (.ref (zSz Z + 2))) ∧ zF mS 3 61 Z W ∧ IMb W B σ ∧ isTd W (zSz Z + 2) (sK σ)) := by
    intro Y1 fY m
    have hY1 := h3.m (by omega) fY
    have k1 : cM Y1 B (sK σ) := hY1.2.2.1
    have aY := a3.ext fY.1
    have x1 := w1.fr fY
    have x2 := w2.fr fY
    have gZ : ∀ f, zF mS 3 61 Z (zSI Y1 (zSz Z + 2) f) := fun f => (g3.trans fY).wr (Or.inr (by omega))
    have mU : ∀ f, atModel (zSI Y1 (zSz Z + 2) f) 300 B := fun f => hY1.1.s
    have aU : ∀ f, zA (zSI Y1 (zSz Z + 2) f) (zSz Z + 2) 100 21 := fun f => aY.s
    have uU : ∀ f, zA (zSI Y1 (zSz Z + 2) f) (zSz Z) 100 20 := fun f => x1.1.s
    have vU : ∀ f, zA (zSI Y1 (zSz Z + 2) f) (zSz Z + 1) 100 20 := fun f => x2.1.s
    have eB : ∀ f, zI (zSI Y1 (zSz Z + 2) f) B = zI Y1 B := fun f => zI_other (by have := h.1.a0.1; omega)
    have kU : ∀ f, cM (zSI Y1 (zSz Z + 2) f) B (sK σ) := fun f => k1.of (fun i _ => by rw [eB]) ⟨hN, hM⟩
    induction m with
    | zero =>
      intro n x d f hn hx hd hf
      have hx1 : x = -1 := by
        rcases hx with q | ⟨q1, q2⟩
        · exact q
        · have := p1 x.toNat (by omega)
          omega
      subst hx1
      refine b_X12_chain_62 (mU f) (uU f) (vU f) (aU f) ⟨by decide, ?_⟩
      rw [if_pos rfl]
      refine ⟨⟨by omega, by omega, by decide⟩, ?_⟩
      rintro _ rfl
      rw [zI_same, zSI_zSI, Int.toNat_natCast]
      obtain ⟨g, hg⟩ := hd.told (by omega)
      obtain ⟨q1, q2⟩ := vTd_of ho.1 hg
      refine ⟨rfl, gZ _, h.m hz.1 (gZ _), aU _, by omega, by omega, fun i hi => ?_, ?_⟩
      · rw [zI_same, zu_other (by omega), hf i (by omega), q2 i (by omega)]
        have := hd.2.2 i (by omega)
        rw [q2 i (by omega)] at this
        exact ⟨rfl, this.1, by omega⟩
      · rw [zI_same, ← q1, zu_same]
    | succ m ih =>
      intro n x d f hn hx hd hf
      refine b_X12_chain_62 (mU f) (uU f) (vU f) (aU f) ⟨by omega, ?_⟩
      rcases hx with rfl | ⟨q1, q2⟩
      · rw [if_pos rfl]
        refine ⟨⟨by omega, by omega, by decide⟩, ?_⟩
        rintro _ rfl
        rw [zI_same, zSI_zSI, Int.toNat_natCast]
        obtain ⟨g, hg⟩ := hd.told (by omega)
        obtain ⟨q1, q2⟩ := vTd_of ho.1 hg
        refine ⟨rfl, gZ _, h.m hz.1 (gZ _), aU _, by omega, by omega, fun i hi => ?_, ?_⟩
        · rw [zI_same, zu_other (by omega), hf i (by omega), q2 i (by omega)]
          have := hd.2.2 i (by omega)
          rw [q2 i (by omega)] at this
          exact ⟨rfl, this.1, by omega⟩
        · rw [zI_same, ← q1, zu_same]
      · rw [if_neg (by omega)]
        refine ⟨⟨by omega, by omega, by decide⟩, ?_⟩
        rintro _ rfl
        rw [zI_same, zSI_zSI, Int.toNat_natCast]
        have ex : ((x.toNat : Nat) : Int) = x := by omega
        have hxn : x.toNat < kN (sK σ) := by omega
        suffices inn : ∀ j, j ≤ kM (sK σ) → ∀ y, sNxt (sK σ) x.toNat j y → ZP G 5 m_X12_chain 83 [some (.ref 300), some (.ref (zSz Z)), some (.ref (zSz Z + 1)), some (.ref (zSz Z + 2)), some (iv ((n : Int) + 1)), some (iv x), some (iv y), some (iv (j : Int)), none] [] (zSI Y1 (zSz Z + 2) (zu f n x)) (fun r W => r = .inl (some (.ref (zSz Z + 2))) ∧ zF mS 3 61 Z W ∧ IMb W B σ ∧ isTd W (zSz Z + 2) (sK σ)) from inn 0 (Nat.zero_le _) (-1) (Or.inl ⟨rfl, fun i hi => absurd hi (Nat.not_lt_zero _)⟩)
        refine am_up (n := kM (sK σ)) fun j hj ihj y hy => ?_
        have ry := hy.r ho.1 hj
        refine b_X12_chain_83 (mU _) (uU _) (vU _) (aU _) ⟨by omega, by rw [(kU _).2.1]; omega, ?_⟩
        rw [(kU _).2.1]
        by_cases c : j < kM (sK σ)
        · obtain ⟨e1, e2, e3⟩ := (kU (zu f n x)).2.2.2 j c
          have he := ho.1.e c
          have hl := ho.1.l c
          have hg := ho.1.g c
          have r1 := eR_pos ho.1 hl
          have r2 := eR_pos ho.1 hxn
          have es := hy.step (c := (kE (sK σ) j : Int) = x) (d := kF (sK σ) 0 x.toNat + kG (sK σ) j + eR (sK σ) (kL (sK σ) j) = eR (sK σ) x.toNat) (by omega) (fun q => by
            have : kE (sK σ) j = x.toNat := by omega
            unfold tgt
            rw [this]
            omega)
          have y1 : zI (zSI Y1 (zSz Z + 2) (zu f n x)) (zSz Z) = zI Y1 (zSz Z) := zI_other (by omega)
          have y2 : zI (zSI Y1 (zSz Z + 2) (zu f n x)) (zSz Z + 1) = zI Y1 (zSz Z + 1) := zI_other (by omega)
          rw [if_neg (by omega), Int.toNat_natCast, e1, e2, e3, y1, y2, Int.toNat_natCast, x1.2.2 _ hxn, x2.2.2 _ hxn, x2.2.2 _ hl]
          clear hy
          exact ⟨zIx_nat (by omega) (by omega), by omega, by omega, fun _ => ⟨⟨by omega, by omega, by decide⟩, zIx_nat (by omega) (by omega), by omega, by omega, trivial⟩, fun _ => ⟨by omega, fun _ => ⟨by omega, trivial⟩, trivial⟩, ihj c _ es⟩
        · rw [if_pos (by omega)]
          have ej : j = kM (sK σ) := by omega
          subst ej
          have hny : isNx (sK σ) x.toNat y := hy
          have h9 := ih (n + 1) y (zu d (n + 1) y) (zu f n x) (by omega) ?_ (hd.step q1 hny) fun i hi => ?_
          · exact h9
          · rcases hny with ⟨e, -⟩ | ⟨i, hi, e1, -, e3, -⟩
            · exact Or.inl e
            · have a1 := p2 i hi
              have a2 := ho.1.l hi
              rw [e1] at a1
              have e4 : y.toNat = kL (sK σ) i := by omega
              rw [e4]
              exact Or.inr ⟨by omega, by omega⟩
          · rw [zu_other (f := d) (k := n + 1) (show i ≠ n + 1 by omega)]
            by_cases e : i = n
            · rw [e, zu_same]
              exact hd.2.1.symm
            · rw [zu_other e]
              exact hf i (by omega)
  -- where it begins
  suffices L1 : ∀ (j : Nat), j ≤ kN (sK σ) → ∀ (x : Int) (U : Zm), sSt (sK σ) j x → zF mS 0 0 Y U → ZP G 5 m_X12_chain 30 [some (.ref 300), some (.ref (zSz Z)), some (.ref (zSz Z + 1)), some (.ref (zSz Z + 2)), some (iv 0), some (iv x), some (iv ((j : Int) - 1)), none, none] [] U (fun r W => r = .inl (some (.ref (zSz Z + 2))) ∧ zF mS 3 61 Z W ∧ IMb W B σ ∧ isTd W (zSz Z + 2) (sK σ)) from L1 (kN (sK σ)) (Nat.le_refl _) (-1) Y (Or.inl ⟨rfl, fun t h1 h2 => by omega⟩) zF.refl
  intro j
  induction j with
  | zero =>
    intro hj x U hs fU
    have hU := h3.m (by omega) fU
    have rs := hs.r
    refine b_X12_chain_30 hU.1 (w1.fr fU).1 (w2.fr fU).1 (a3.ext fU.1) ⟨by omega, ?_⟩
    rw [if_pos (by omega)]
    have h9 := L2 U fU (kN (sK σ)) 0 x (fun _ => x) (zI U (zSz Z + 2)) (by omega) ?_ ⟨hs.st, rfl, fun i hi => absurd hi (Nat.not_lt_zero _)⟩ fun i hi => absurd hi (Nat.not_lt_zero _)
    · rw [zSI_id] at h9
      exact h9
    · rcases rs with q | q
      · exact Or.inl q
      · exact Or.inr ⟨q, Nat.zero_le _⟩
  | succ j ih =>
    intro hj x U hs fU
    have hU := h3.m (by omega) fU
    have u1 := w1.fr fU
    have u2 := w2.fr fU
    have hjn : j < kN (sK σ) := by omega
    have r2 := eR_pos ho.1 hjn
    have ej : (((j + 1 : Nat) : Int) - 1) = (j : Int) := by omega
    refine b_X12_chain_30 hU.1 u1.1 u2.1 (a3.ext fU.1) ⟨by omega, ?_⟩
    rw [if_neg (by omega), ej, Int.toNat_natCast, u2.2.2 j hjn]
    refine ⟨zIx_nat (by omega) (by omega), ((m_End hU ho.T (mHz.f hz (g3.trans fU) (by omega)) u1).deeper (by omega)).mono ?_⟩
    rintro r U' ⟨rfl, f5, h5⟩
    refine b_X12_chain_44 h5.1 (u1.fr f5).1 (u2.fr f5).1 ((a3.ext fU.1).ext f5.1) ⟨by omega, by omega, ?_⟩
    rw [show (j : Int) + -1 = (j : Int) - 1 by omega]
    exact ih (by omega) _ U' (hs.step hjn) (fU.trans f5)
theorem s_sizeOf {G : Gx} {Z : Zm} {a : Nat} {k : Bk} (h : isTd Z a k) : ZM G 0 m_X12_sizeOf [.ref a] Z (fun r W => r = .inl (some (iv ((vTd k).2.2 : Int))) ∧ W = Z) := by
  obtain ⟨h1, h2, h3, h4, h5⟩ := h
  refine e_X12_sizeOf h1 ?_
  suffices key : ∀ j, j ≤ (vTd k).2.2 → ZP G 0 m_X12_sizeOf 2 [some (.ref a), some (iv (j : Int))] [] Z (fun r W => r = .inl (some (iv ((vTd k).2.2 : Int))) ∧ W = Z) from key 0 (Nat.zero_le _)
  refine am_up (n := (vTd k).2.2) fun j hj ih => ?_
  refine b_X12_sizeOf_2 h1 ⟨zIx_nat (by omega) (by omega), ?_⟩
  rw [Int.toNat_natCast]
  by_cases c : j < (vTd k).2.2
  · have := h4 j c
    rw [if_neg (by omega)]
    exact ⟨by omega, ih c⟩
  · rw [show j = (vTd k).2.2 by omega, h5, if_pos rfl]
    exact ⟨by decide, rfl, rfl⟩
theorem isTd.t {Z : Zm} {a : Nat} {k : Bk} {c : Int} (h : isTd Z a k) : isTd (zT Z c) a k := by
  obtain ⟨h1, h2, h3, h4, h5⟩ := h
  have e : zI (zT Z c) a = zI Z a := zI_other (by omega)
  refine ⟨h1.s, h2, h3, ?_, ?_⟩
  · rw [e]
    exact h4
  · rw [e]
    exact h5
theorem d_chainLength {G : Gx} {Z : Zm} {B : Nat} {σ : St} (h : IMb Z B σ) (ho : okS σ) (hz : 322 ≤ zSz Z ∧ zSz Z < 990000) : ZM G 12 m_X12_chainLength [.ref 300] Z (rM Z iv (o_chainLength σ)) := by
  refine e_X12_chainLength h.1 ?_
  rintro _ rfl
  refine ((m_chain (h.t 0) ho hz).deeper (by omega)).mono ?_
  rintro r W ⟨rfl, f, h1, td⟩
  refine b_X12_chainLength_9 h1.1 td.1 (((s_sizeOf td).deeper (by omega)).mono ?_)
  rintro r W' ⟨rfl, hW⟩
  obtain rfl := hW.symm
  obtain ⟨v, e⟩ := mS_t f hz.1
  exact b_X12_chainLength_12 h1.1 (rM.ok h1 e v (by omega) (by omega) rfl)
theorem d_chainAt {G : Gx} {Z : Zm} {B : Nat} {σ : St} {x : Int} (h : IMb Z B σ) (ho : okS σ) (hz : 322 ≤ zSz Z ∧ zSz Z < 990000) (hx : R32 x) : ZM G 12 m_X12_chainAt [.ref 300, iv x] Z (rM Z iv (o_chainAt σ x)) := by
  refine e_X12_chainAt h.1 (((m_chain h ho hz).deeper (by omega)).mono ?_)
  rintro r W ⟨rfl, f, h1, td⟩
  refine b_X12_chainAt_4 h1.1 td.1 (((s_sizeOf td).deeper (by omega)).mono ?_)
  rintro r W' ⟨rfl, hW⟩
  obtain rfl := hW.symm
  have vv := mS_v f hz.1
  have h20 := td.2.2.1
  refine b_X12_chainAt_12 h1.1 td.1 ⟨hx, by decide, by omega, ?_⟩
  rintro _ rfl
  unfold o_chainAt
  by_cases c : 0 ≤ x ∧ x < ((vTd (sK σ)).2.2 : Int)
  · rw [cIf_p c, fC_o1 (P := ¬ (0 ≤ x ∧ x ≤ ((vTd (sK σ)).2.2 : Int) - 1)) (by omega), if_neg (by decide)]
    have e := (td.t (c := 0)).2.2.2.1 x.toNat (by omega)
    refine ⟨fun _ => ⟨⟨c.1, by omega, by decide⟩, trivial⟩, rM.ok (h1.t 0) (zI_t _ _) (vv.trans zV_t) (by omega) (by omega) e.1⟩
  · rw [cIf_f c, fC_1 (P := ¬ (0 ≤ x ∧ x ≤ ((vTd (sK σ)).2.2 : Int) - 1)) (by omega)]
    exact ⟨fun g => absurd (by decide) g, ⟨_, rfl, fun g => absurd (show (1 : Nat) = 0 from g) (by decide)⟩, zI_t _ _, ⟨B, h1.t _⟩, (vv.trans zV_t).mono (by omega) (by omega)⟩
