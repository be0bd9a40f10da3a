/-! ===== the class puts a task ===== -/
theorem cCx.s {Z : Zm} {p a : Nat} {P : Sp} {f : Nat → Int} (h : cCx Z p P) (ha : p + 3 ≤ a ∧ a < p + 10) : cCx (zSI Z a f) p P := by
  obtain ⟨h1, h2, h3, hP, h4, h5, h6, h7, h8, h9, h10⟩ := h
  refine ⟨h1, h2, h3.of fun b g1 g2 => zI_other (by omega), hP, h4, ?_, ?_, h7, ?_, ?_, h10⟩
  · rw [zI_other (by omega)]
    exact h5
  · rw [zI_other (by omega)]
    exact h6
  · rw [zI_other (by omega)]
    exact h8
  · rw [zI_other (by omega)]
    exact h9
theorem cCx.e {Z : Zm} {p : Nat} {P : Sp} {f : Nat → Int} (h : cCx Z p P) (hf : f 2 = zI Z p 2 ∧ f 3 = zI Z p 3) : cCx (zSI Z p f) p P := by
  obtain ⟨h1, h2, h3, hP, h4, h5, h6, h7, h8, h9, h10⟩ := h
  refine ⟨h1, h2, h3.of fun b g1 g2 => zI_other (by omega), hP, h4, ?_, ?_, h7, ?_, ?_, h10⟩
  · rw [zI_same, hf.1]
    exact h5
  · rw [zI_same, hf.2]
    exact h6
  · rw [zI_other (by omega)]
    exact h8
  · rw [zI_other (by omega)]
    exact h9
noncomputable def wN (P : Sp) (S : Nat → Prop) (t : Nat) : Int := zsum (fun i => cIf (nd P i t ∧ ¬ S i) (1 : Int) 0) (kM (pK P))
def lmN (P : Sp) (b : Nat → Int) (S : Nat → Prop) (t : Nat) (v : Int) : Prop := 0 ≤ v ∧ (∀ i, i < kM (pK P) → nd P i t → S i → ltB P b i ≤ v) ∧ (v = 0 ∨ ∃ i, i < kM (pK P) ∧ nd P i t ∧ S i ∧ v = ltB P b i)
/-- lets and waits, by the needs S that are counted -/
def cLt (Z : Zm) (p : Nat) (P : Sp) (b : Nat → Int) (S : Nat → Prop) : Prop := ∀ t, t < kN (pK P) → zI Z (p + 7) t = wN P S t ∧ lmN P b S t (zI Z (p + 6) t)
theorem wN_r (P : Sp) (S : Nat → Prop) (t : Nat) : 0 ≤ wN P S t ∧ wN P S t ≤ kM (pK P) := by
  have := zsum_bound (f := fun i => cIf (nd P i t ∧ ¬ S i) (1 : Int) 0) (n := kM (pK P)) (a := 0) (b := 1) fun i _ => by
    by_cases c : nd P i t ∧ ¬ S i
    · rw [cIf_p c]
      omega
    · rw [cIf_f c]
      omega
  unfold wN
  omega
theorem wN_eq {P : Sp} {S S' : Nat → Prop} {t : Nat} (h : ∀ i, i < kM (pK P) → nd P i t → (S i ↔ S' i)) : wN P S t = wN P S' t := zsum_eq fun i hi => by
  by_cases c : nd P i t
  · have := h i hi c
    by_cases d : S i
    · rw [cIf_f (fun q => q.2 d), cIf_f (fun q => q.2 (this.mp d))]
    · rw [cIf_p ⟨c, d⟩, cIf_p ⟨c, fun q => d (this.mpr q)⟩]
  · rw [cIf_f (fun q => c q.1), cIf_f (fun q => c q.1)]
theorem wN_dec {P : Sp} {S S' : Nat → Prop} {t j : Nat} (hj : j < kM (pK P)) (hn : nd P j t) (h0 : ¬ S j) (h1 : S' j) (h : ∀ i, i ≠ j → (S i ↔ S' i)) : wN P S' t = wN P S t - 1 := by
  unfold wN
  rw [zsum_dec (f := fun i => cIf (nd P i t ∧ ¬ S i) (1 : Int) 0) (g := fun i => cIf (nd P i t ∧ ¬ S' i) (1 : Int) 0) (i := j) (fun i hi e => ?_) hj]
  · have a : cIf (nd P j t ∧ ¬ S j) (1 : Int) 0 = 1 := cIf_p ⟨hn, h0⟩
    have b : cIf (nd P j t ∧ ¬ S' j) (1 : Int) 0 = 0 := cIf_f (fun q => q.2 h1)
    show zsum (fun i => cIf (nd P i t ∧ ¬ S i) (1 : Int) 0) (kM (pK P)) + (cIf (nd P j t ∧ ¬ S' j) (1 : Int) 0 - cIf (nd P j t ∧ ¬ S j) (1 : Int) 0) = _
    rw [a, b]
    omega
  · have := h i e
    show cIf (nd P i t ∧ ¬ S' i) (1 : Int) 0 = cIf (nd P i t ∧ ¬ S i) (1 : Int) 0
    by_cases c : nd P i t ∧ ¬ S i
    · rw [cIf_p c, cIf_p ⟨c.1, fun q => c.2 (this.mpr q)⟩]
    · rw [cIf_f c, cIf_f (fun q => c ⟨q.1, fun g => q.2 (this.mp g)⟩)]
theorem lmN.eqn {P : Sp} {b b' : Nat → Int} {S S' : Nat → Prop} {t : Nat} {v : Int} (h : lmN P b S t v) (hS : ∀ i, i < kM (pK P) → nd P i t → (S i ↔ S' i)) (hb : ∀ i, i < kM (pK P) → S i → ltB P b' i = ltB P b i) : lmN P b' S' t v := by
  obtain ⟨h1, h2, h3⟩ := h
  refine ⟨h1, fun i hi hn hs => ?_, ?_⟩
  · have q := (hS i hi hn).mpr hs
    rw [hb i hi q]
    exact h2 i hi hn q
  · rcases h3 with g | ⟨i, i1, i2, i3, i4⟩
    · exact Or.inl g
    · exact Or.inr ⟨i, i1, i2, (hS i i1 i2).mp i3, by rw [hb i i1 i3]; exact i4⟩
theorem lmN.add {P : Sp} {b : Nat → Int} {S S' : Nat → Prop} {t j : Nat} {v : Int} (h : lmN P b S t v) (hj : j < kM (pK P)) (hn : nd P j t) (h1 : S' j) (hS : ∀ i, i ≠ j → (S i ↔ S' i)) : lmN P b S' t (max v (ltB P b j)) := by
  obtain ⟨g1, g2, g3⟩ := h
  refine ⟨by omega, fun i hi hn' hs => ?_, ?_⟩
  · by_cases e : i = j
    · rw [e]
      omega
    · have := g2 i hi hn' ((hS i e).mpr hs)
      omega
  · by_cases c : v ≤ ltB P b j
    · exact Or.inr ⟨j, hj, hn, h1, by omega⟩
    · rcases g3 with g | ⟨i, i1, i2, i3, i4⟩
      · exact Or.inl (by omega)
      · by_cases e : i = j
        · rw [e] at i4
          omega
        · exact Or.inr ⟨i, i1, i2, (hS i e).mp i3, by omega⟩
theorem lmN.r {P : Sp} (hP : okP P) {s : Ss} (hb : sB P s) {S : Nat → Prop} {t : Nat} {v : Int} (h : lmN P s.1 S t v) : 0 ≤ v ∧ v ≤ 9100 := by
  refine ⟨h.1, ?_⟩
  rcases h.2.2 with g | ⟨i, i1, i2, i3, i4⟩
  · omega
  · have a := hb _ (hP.1.e i1)
    have b := hP.2.1 _ (hP.1.e i1)
    have c := hP.1.g i1
    unfold ltB at i4
    omega
def put (P : Sp) (s : Ss) (i : Nat) : Prop := s.1 (kE (pK P) i) ≠ -1
noncomputable def ptF (P : Sp) (s : Ss) (t : Nat) (x : Int) : Ss := cIf (fhF P s t x ≠ -1) (zu s.1 t x, zu s.2 t (fhF P s t x)) s
theorem fhF_r {P : Sp} (hP : okP P) {s : Ss} {t : Nat} (ht : t < kN (pK P)) (x : Int) : -1 ≤ fhF P s t x ∧ fhF P s t x ≤ 5 := by
  have hH := hP.2.2.1 t ht
  unfold fhF
  by_cases c : fmc P s (pM P t) x (x + pD P t)
  · rw [cIf_p c]
    by_cases e : hdF P s (pS P t) x (x + pD P t) = -1
    · omega
    · have := hdF_yes e
      omega
  · rw [cIf_f c]
    omega
theorem sB.put {P : Sp} {s : Ss} {t : Nat} {x w : Int} (hb : sB P s) (hx : 0 ≤ x ∧ x ≤ 9000) (hw : 0 ≤ w ∧ w ≤ 5) : sB P (zu s.1 t x, zu s.2 t w) := fun u hu => by
  show -1 ≤ zu s.1 t x u ∧ zu s.1 t x u ≤ 9000 ∧ (zu s.1 t x u ≠ -1 → 0 ≤ zu s.1 t x u ∧ 0 ≤ zu s.2 t w u ∧ zu s.2 t w u ≤ 5)
  by_cases e : u = t
  · rw [e, zu_same, zu_same]
    omega
  · rw [zu_other e, zu_other e]
    exact hb u hu
theorem zmax_up {f g : Nat → Int} {n i : Nat} (h : ∀ j, j < n → j ≠ i → g j = f j) (hi : i < n) (h1 : f i ≤ g i) : zmax g n = max (zmax f n) (g i) := by
  induction n with
  | zero => exact absurd hi (Nat.not_lt_zero _)
  | succ n ih =>
    rw [zmax_s, zmax_s]
    by_cases c : i = n
    · rw [zmax_eq (f := g) (g := f) fun j hj => h j (by omega) (by omega), c]
      rw [c] at h1
      omega
    · rw [ih (fun j hj e => h j (by omega) e) (by omega), h n (by omega) (by omega)]
      omega
theorem s_putIfFree {G : Gx} {Z : Zm} {p t : Nat} {P : Sp} {s : Ss} {x : Int} (h : cCx Z p P) (hs : cSt Z p P s) (hb : sB P s) (hl : cLt Z p P s.1 (put P s)) (ht : t < kN (pK P)) (h0 : s.1 t = -1) (hx : 0 ≤ x ∧ x ≤ 8000) : ZM G 1 m_X9_putIfFree [.ref p, .ref 1, iv (t : Int), iv x] Z (fun r W => r = .inl none ∧ cCx W p P ∧ cSt W p P (ptF P s t x) ∧ sB P (ptF P s t x) ∧ cLt W p P (ptF P s t x).1 (put P (ptF P s t x)) ∧ zF (zB p (p + 10)) 0 0 Z W) := by
  have hP := h.2.2.2.1
  have hN := hP.1.n
  have hM := hP.1.m
  have hD := hP.2.1 t ht
  refine e_X9_putIfFree h.1 h.2.1 ((s_freeHand h hs hb ht (by omega)).mono ?_)
  rintro r W ⟨rfl, hW⟩
  obtain rfl := hW.symm
  have fr := fhF_r (s := s) hP ht x
  refine b_X9_putIfFree_7 h.1 h.2.1 ⟨by omega, ?_⟩
  unfold ptF
  by_cases c : fhF P s t x = -1
  · rw [if_pos c, cIf_f (fun q => q c)]
    exact ⟨rfl, h, hs, hb, hl, zF.refl⟩
  rw [if_neg c, cIf_p c]
  generalize fhF P s t x = w at *
  have hb' : sB P (zu s.1 t x, zu s.2 t w) := hb.put (by omega) (by omega)
  have hp : 20 ≤ p := h.2.2.2.2.1
  refine ⟨zIx_nat (by omega) (by omega), ?_⟩
  rintro _ rfl
  rintro _ rfl
  rintro _ rfl
  rw [Int.toNat_natCast]
  have e2 : ∀ f, zI (zSI Z (p + 3) f) (p + 2) t = pD P t := fun f => by
    rw [zI_other (by omega)]
    exact h.2.2.2.2.2.2.2.2.1 t ht
  rw [e2, zI_other (a := p + 3) (b := p + 4) (show p + 4 ≠ p + 3 by omega), zI_other (a := p + 4) (b := p + 5) (show p + 5 ≠ p + 4 by omega), zI_other (a := p + 3) (b := p + 5) (show p + 5 ≠ p + 3 by omega)]
  generalize hV : zSI (zSI (zSI Z (p + 3) (zu (zI Z (p + 3)) t x)) (p + 4) (zu (zI Z (p + 4)) t (x + pD P t))) (p + 5) (zu (zI Z (p + 5)) t w) = V
  have cV : cCx V p P := by
    rw [← hV]
    exact ((h.s (by omega)).s (by omega)).s (by omega)
  have v3 : zI V (p + 3) = zu (zI Z (p + 3)) t x := by
    rw [← hV, zI_other (by omega), zI_other (by omega), zI_same]
  have v4 : zI V (p + 4) = zu (zI Z (p + 4)) t (x + pD P t) := by
    rw [← hV, zI_other (by omega), zI_same]
  have v5 : zI V (p + 5) = zu (zI Z (p + 5)) t w := by
    rw [← hV, zI_same]
  have v0 : zI V p = zI Z p := by
    rw [← hV, zI_other (by omega), zI_other (by omega), zI_other (by omega)]
  have v6 : zI V (p + 6) = zI Z (p + 6) := by
    rw [← hV, zI_other (by omega), zI_other (by omega), zI_other (by omega)]
  have v7 : zI V (p + 7) = zI Z (p + 7) := by
    rw [← hV, zI_other (by omega), zI_other (by omega), zI_other (by omega)]
  have fV : zF (zB p (p + 10)) 0 0 Z V := by
    rw [← hV]
    exact ((zF_I (S := zB p (p + 10)) (Z := Z) (a := p + 3) (by unfold zB; omega)).trans (zF_I (by unfold zB; omega))).trans (zF_I (by unfold zB; omega))
  have eE := hs.2
  have em : -1 ≤ zmax (eS P s) (kN (pK P)) ∧ zmax (eS P s) (kN (pK P)) ≤ 9060 := by
    have a := zmax_0 (eS P s) (kN (pK P))
    have b := zmax_le (f := eS P s) (n := kN (pK P)) (b := 9060) (by omega) fun i hi => by
      have a := hb i hi
      have b := hP.2.1 i hi
      unfold eS
      by_cases c : s.1 i = -1
      · rw [if_pos c]
        omega
      · rw [if_neg c]
        omega
    omega
  rw [v0, v4, zu_same, eE]
  refine ⟨by omega, by omega, ?_⟩
  rintro _ rfl
  generalize hY : zSI V p (zu (zI Z p) 4 (max (zmax (eS P s) (kN (pK P))) (x + pD P t))) = Y
  have cY : cCx Y p P := by
    rw [← hY]
    exact cV.e (by rw [zu_other (by decide), zu_other (by decide), v0]; exact ⟨rfl, rfl⟩)
  have oY : ∀ a, a ≠ p → zI Y a = zI V a := fun a g => by
    rw [← hY]
    exact zI_other g
  have fY : zF (zB p (p + 10)) 0 0 Z Y := by
    rw [← hY]
    exact fV.trans (zF_I (by unfold zB; omega))
  have es : ∀ u, u ≠ t → eS P (zu s.1 t x, zu s.2 t w) u = eS P s u := fun u e => by
    unfold eS
    rw [show (zu s.1 t x, zu s.2 t w).1 u = s.1 u from zu_other e]
  have est : eS P (zu s.1 t x, zu s.2 t w) t = x + pD P t := by
    unfold eS
    rw [show (zu s.1 t x, zu s.2 t w).1 t = x from zu_same _ _ _, if_neg (by omega)]
  have sY : cSt Y p P (zu s.1 t x, zu s.2 t w) := by
    refine ⟨fun u hu => ?_, ?_⟩
    · rw [oY _ (by omega), oY _ (by omega), oY _ (by omega), v3, v4, v5]
      show zu (zI Z (p + 3)) t x u = zu s.1 t x u ∧ zu (zI Z (p + 4)) t (x + pD P t) u = eS P (zu s.1 t x, zu s.2 t w) u ∧ (zu s.1 t x u ≠ -1 → zu (zI Z (p + 5)) t w u = zu s.2 t w u)
      by_cases e : u = t
      · rw [e, zu_same, zu_same, zu_same, zu_same, zu_same, est]
        exact ⟨rfl, rfl, fun _ => rfl⟩
      · rw [zu_other e, zu_other e, zu_other e, zu_other e, zu_other e, es u e]
        exact hs.1 u hu
    · rw [← hY, zI_same, zu_same, zmax_up (f := eS P s) (g := eS P (zu s.1 t x, zu s.2 t w)) (i := t) (fun j hj e => es j e) ht (by
        rw [est]
        unfold eS
        rw [if_pos h0]
        omega), est]
  have lY : cLt Y p P (zu s.1 t x) (fun i => put P s i ∨ (i < 0 ∧ kE (pK P) i = t)) := fun u hu => by
    obtain ⟨g1, g2⟩ := hl u hu
    rw [oY _ (by omega), oY _ (by omega), v6, v7]
    have cs : ∀ i, i < kM (pK P) → nd P i u → (put P s i ↔ (put P s i ∨ (i < 0 ∧ kE (pK P) i = t))) := fun i _ _ => ⟨fun q => Or.inl q, fun q => q.resolve_right fun g => absurd g.1 (Nat.not_lt_zero _)⟩
    refine ⟨g1.trans (wN_eq cs), g2.eqn cs fun i hi q => ?_⟩
    have ne : kE (pK P) i ≠ t := fun e => by
      unfold put at q
      rw [e] at q
      exact q h0
    unfold ltB
    rw [zu_other ne]
  clear hY hV v0 v3 v4 v5 v6 v7 oY fV cV
  suffices key : ∀ j, j ≤ kM (pK P) → ∀ Y, cCx Y p P → cSt Y p P (zu s.1 t x, zu s.2 t w) → cLt Y p P (zu s.1 t x) (fun i => put P s i ∨ (i < j ∧ kE (pK P) i = t)) → zF (zB p (p + 10)) 0 0 Z Y → ZP G 1 m_X9_putIfFree 65 [some (.ref p), some (.ref 1), some (iv (t : Int)), none, none, some (iv (j : Int)), none] [] Y (fun r W => r = .inl none ∧ cCx W p P ∧ cSt W p P (zu s.1 t x, zu s.2 t w) ∧ sB P (zu s.1 t x, zu s.2 t w) ∧ cLt W p P (zu s.1 t x) (put P (zu s.1 t x, zu s.2 t w)) ∧ zF (zB p (p + 10)) 0 0 Z W) from key 0 (Nat.zero_le _) Y cY sY lY fY
  clear lY fY sY cY
  refine am_up (n := kM (pK P)) fun j hj ih Y cY sY lY fY => ?_
  have kY := cY.2.2.1
  refine b_X9_putIfFree_65 cY.1 cY.2.1 ⟨by omega, by rw [kY.2.1]; omega, ?_⟩
  rw [kY.2.1]
  by_cases cj : j < kM (pK P)
  · have hE := hP.1.e cj
    have hL := hP.1.l cj
    have hG := hP.1.g cj
    obtain ⟨k1, k2, k3⟩ := kY.2.2.2 j cj
    rw [if_neg (by omega), cY.2.2.2.2.2.2.1]
    have r7 := cY.2.2.2.2.2.2.2.1
    refine ⟨by omega, ?_⟩
    -- nothing new is counted
    have same : (∀ u, ¬ (nd P j u ∧ kE (pK P) j = t)) → ZP G 1 m_X9_putIfFree 65 [some (.ref p), some (.ref 1), some (iv (t : Int)), none, none, some (iv ((j : Int) + 1)), none] [] Y (fun r W => r = .inl none ∧ cCx W p P ∧ cSt W p P (zu s.1 t x, zu s.2 t w) ∧ sB P (zu s.1 t x, zu s.2 t w) ∧ cLt W p P (zu s.1 t x) (put P (zu s.1 t x, zu s.2 t w)) ∧ zF (zB p (p + 10)) 0 0 Z W) := fun no => by
      refine ih cj Y cY sY (fun u hu => ?_) fY
      obtain ⟨g1, g2⟩ := lY u hu
      have cs : ∀ i, i < kM (pK P) → nd P i u → ((put P s i ∨ (i < j ∧ kE (pK P) i = t)) ↔ (put P s i ∨ (i < j + 1 ∧ kE (pK P) i = t))) := fun i _ q => by
        constructor
        · rintro (g | g)
          · exact Or.inl g
          · exact Or.inr ⟨by omega, g.2⟩
        · rintro (g | g)
          · exact Or.inl g
          · by_cases e : i = j
            · rw [e] at q g
              exact absurd ⟨q, g.2⟩ (no u)
            · exact Or.inr ⟨by omega, g.2⟩
      exact ⟨g1.trans (wN_eq cs), g2.eqn cs fun i _ _ => rfl⟩
    by_cases c1 : (j : Int) = pX P
    · rw [if_pos c1]
      exact same fun u q => q.1.2 c1
    rw [if_neg c1, Int.toNat_natCast, show zI Y (1 + 15) j = (kE (pK P) j : Int) from k1, show zI Y (1 + 16) j = (kL (pK P) j : Int) from k2]
    refine ⟨zIx_nat (by omega) (by omega), by omega, by omega, ?_⟩
    by_cases c2 : (kE (pK P) j : Int) = (t : Int)
    case neg =>
      rw [if_neg c2]
      exact same fun u q => c2 (by have := q.2; omega)
    have c2' : kE (pK P) j = t := by omega
    rw [if_pos c2]
    refine ⟨zIx_nat (by omega) (by omega), ?_⟩
    rintro _ rfl
    obtain ⟨g1, g2⟩ := lY (kL (pK P) j) hL
    have rv := g2.r hP (s := (zu s.1 t x, zu s.2 t w)) hb'
    have st := (sY.1 t ht).2.1
    rw [est] at st
    have k3' : zI Y (1 + 17) j = kG (pK P) j := k3
    rw [Int.toNat_natCast, Int.toNat_natCast, zI_other (a := p + 7) (b := p + 6) (by omega), zI_other (a := p + 7) (b := p + 4) (by omega), zI_other (a := p + 7) (b := 1 + 17) (by omega), st, k3', g1]
    refine ⟨zIx_nat (by omega) (by omega), by omega, by omega, ?_⟩
    rintro _ rfl
    have el : ltB P (zu s.1 t x) j = x + pD P t + kG (pK P) j := by
      unfold ltB
      rw [c2', zu_same]
    rw [← el]
    have nj : nd P j (kL (pK P) j) := ⟨rfl, c1⟩
    have nS : ¬ (put P s j ∨ (j < j ∧ kE (pK P) j = t)) := fun q => by
      rcases q with q | q
      · unfold put at q
        rw [c2'] at q
        exact q h0
      · omega
    have cs : ∀ i, i ≠ j → ((put P s i ∨ (i < j ∧ kE (pK P) i = t)) ↔ (put P s i ∨ (i < j + 1 ∧ kE (pK P) i = t))) := fun i e => by
      constructor
      · rintro (g | g)
        · exact Or.inl g
        · exact Or.inr ⟨by omega, g.2⟩
      · rintro (g | g)
        · exact Or.inl g
        · exact Or.inr ⟨by omega, g.2⟩
    refine ih cj _ ((cY.s (by omega)).s (by omega)) ⟨fun u hu => ?_, ?_⟩ (fun u hu => ?_) ((fY.trans (zF_I (by unfold zB; omega))).trans (zF_I (by unfold zB; omega)))
    · rw [zI_other (show p + 3 ≠ p + 6 by omega), zI_other (show p + 3 ≠ p + 7 by omega), zI_other (show p + 4 ≠ p + 6 by omega), zI_other (show p + 4 ≠ p + 7 by omega), zI_other (show p + 5 ≠ p + 6 by omega), zI_other (show p + 5 ≠ p + 7 by omega)]
      exact sY.1 u hu
    · rw [zI_other (show p ≠ p + 6 by omega), zI_other (show p ≠ p + 7 by omega)]
      exact sY.2
    · rw [zI_other (show p + 7 ≠ p + 6 by omega), zI_same, zI_same]
      obtain ⟨q1, q2⟩ := lY u hu
      by_cases e : u = kL (pK P) j
      · rw [e, zu_same, zu_same]
        exact ⟨(wN_dec (S' := fun i => put P s i ∨ (i < j + 1 ∧ kE (pK P) i = t)) cj nj nS (Or.inr ⟨Nat.lt_succ_self _, c2'⟩) cs).symm, g2.add cj nj (Or.inr ⟨Nat.lt_succ_self _, c2'⟩) cs⟩
      · rw [zu_other e, zu_other e]
        have cs2 : ∀ i, i < kM (pK P) → nd P i u → ((put P s i ∨ (i < j ∧ kE (pK P) i = t)) ↔ (put P s i ∨ (i < j + 1 ∧ kE (pK P) i = t))) := fun i _ q => by
          refine cs i fun e2 => e ?_
          rw [e2] at q
          exact q.1.symm
        exact ⟨q1.trans (wN_eq cs2), q2.eqn cs2 fun i _ _ => rfl⟩
  · rw [if_pos (by omega)]
    refine ⟨rfl, cY, sY, hb', fun u hu => ?_, fY⟩
    obtain ⟨g1, g2⟩ := lY u hu
    have cs : ∀ i, i < kM (pK P) → nd P i u → ((put P s i ∨ (i < j ∧ kE (pK P) i = t)) ↔ put P (zu s.1 t x, zu s.2 t w) i) := fun i hi _ => by
      unfold put
      show (s.1 (kE (pK P) i) ≠ -1 ∨ (i < j ∧ kE (pK P) i = t)) ↔ zu s.1 t x (kE (pK P) i) ≠ -1
      by_cases e : kE (pK P) i = t
      · rw [e, zu_same]
        exact ⟨fun _ => by omega, fun _ => Or.inr ⟨by omega, rfl⟩⟩
      · rw [zu_other e]
        exact ⟨fun q => q.resolve_right fun g => e g.2, fun q => Or.inl q⟩
    exact ⟨g1.trans (wN_eq cs), g2.eqn cs fun i _ _ => rfl⟩
