/-- the end of the plain plan with begins f -/
def kEnd (k : Bk) (len f : Nat → Int) : Int := zmax (fun t => f t + len t) (kN k)
/-- the net object n is laid for the book k -/
def cN (Z : Zm) (n : Nat) (k : Bk) : Prop := zI Z n 0 = 1 ∧ ∃ k' o pos, kPm k k' ∧ kOrd k' o pos ∧ kSrt k' pos ∧ nS Z n k' o ∧ isLF k' (kF k 0) (fun _ => 0) (zI Z (n + 6)) ∧ zI Z n 3 = kEnd k (kF k 0) (zI Z (n + 6)) ∧ isLat k' (kF k 0) (zI Z n 3) (zI Z (n + 7))
theorem cN.frame {S : Nat → Prop} {c w : Nat} {Z Z' : Zm} {n : Nat} {k : Bk} (h : cN Z n k) (hn : atNet Z n) (f : zF S c w Z Z') (hs : ∀ a, n ≤ a → a < n + 8 → ¬ S a) : cN Z' n k := by
  obtain ⟨h0, k', o, pos, h1, h2, h3, h4, h5, h6, h7⟩ := h
  have e0 : zI Z' n = zI Z n := f.i hn.o.1 (hs _ (by omega) (by omega))
  have e6 : zI Z' (n + 6) = zI Z (n + 6) := f.i hn.a9.1 (hs _ (by omega) (by omega))
  have e7 : zI Z' (n + 7) = zI Z (n + 7) := f.i hn.a10.1 (hs _ (by omega) (by omega))
  refine ⟨by rw [e0]; exact h0, k', o, pos, h1, h2, h3, h4.frame hn f fun a ha => hs a (by omega) (by omega), ?_, ?_, ?_⟩
  · rw [e6]
    exact h5
  · rw [e0, e6]
    exact h6
  · rw [e0, e7]
    exact h7
theorem kEnd_r {k : Bk} (ho : kOk k) {len f : Nat → Int} (hlen : ∀ t, t < kN k → 1 ≤ len t ∧ len t ≤ 60) (hf : ∀ t, t < kN k → 0 ≤ f t ∧ f t ≤ 1710) : 0 ≤ kEnd k len f ∧ kEnd k len f ≤ 1770 := ⟨zmax_0 _ _, zmax_le (by omega) fun i hi => by
  have := hlen i hi
  have := hf i hi
  show f i + len i ≤ 1770
  omega⟩
theorem s_lay {G : Gx} {Z : Zm} {n b : Nat} {k : Bk} (hn : atNet Z n) (hb : atBook Z b) (hk : cB Z b k) (ho : kOk k) (hd : n + 11 ≤ b ∨ b + 19 ≤ n) : ZM G 2 m_X7_lay [.ref n, .ref b] Z (fun r Z' => r = .inl none ∧ zF (zB n (n + 8)) 0 0 Z Z' ∧ cN Z' n k) := by
  have hN := ho.n
  refine e_X7_lay hn hb ?_
  rintro _ rfl _ rfl
  rw [zI_same, zI_other (a := n) (b := b) (by omega), hk.1, hk.2.1, zSI_zSI]
  have f0 : zF (zB n (n + 8)) 0 0 Z (zSI Z n (zu (zu (zI Z n) 1 (kN k : Int)) 2 (kM k : Int))) := zF_I ⟨by omega, by omega⟩
  generalize hZ1 : zSI Z n (zu (zu (zI Z n) 1 (kN k : Int)) 2 (kM k : Int)) = Z1 at f0 ⊢
  have q1 : zI Z1 n 1 = (kN k : Int) := by rw [← hZ1, zI_same, zu_other (by decide), zu_same]
  have q2 : zI Z1 n 2 = (kM k : Int) := by rw [← hZ1, zI_same, zu_same]
  have k1 : cB Z1 b k := hk.frame hb f0 fun a h1 h2 => by unfold zB; omega
  refine (s_orderTasks (hn.ext f0.1) (hb.ext f0.1) k1 ho q1 q2 hd).mono ?_
  rintro _ Z2 ⟨rfl, f2, o, pos, hpos, w2⟩
  have g2 : zF (zB n (n + 8)) 0 0 Z Z2 := f0.trans (f2.mono (fun a h => by unfold zB at *; omega) (Nat.le_refl _) (Nat.le_refl _))
  refine b_X7_lay_21 (hn.ext g2.1) (hb.ext g2.1) ?_
  have k2 : cB Z2 b k := hk.frame hb g2 fun a h1 h2 => by unfold zB; omega
  have r1 : zI Z2 n 1 = (kN k : Int) := by rw [f2.i (hn.ext f0.1).o.1 (by unfold zB; omega)]; exact q1
  have r2 : zI Z2 n 2 = (kM k : Int) := by rw [f2.i (hn.ext f0.1).o.1 (by unfold zB; omega)]; exact q2
  refine ((s_orderNeeds (hn.ext g2.1) (hb.ext g2.1) k2 ho r1 r2 hd hpos w2).deeper (by decide)).mono ?_
  rintro _ Z3 ⟨rfl, f3, k', hpm, hsrt, hs3⟩
  have g3 : zF (zB n (n + 8)) 0 0 Z Z3 := g2.trans (f3.mono (fun a h => by unfold zB at *; omega) (Nat.le_refl _) (Nat.le_refl _))
  have ho' : kOk k' := hpm.ok ho
  have eN : kN k' = kN k := hpm.1
  have eF : kF k' = kF k := hpm.2.2.1
  have hord : kOrd k' o pos := by
    obtain ⟨a1, a2, a3⟩ := hpos
    refine ⟨by rw [eN]; exact a1, by rw [eN]; exact a2, fun j hj => ?_⟩
    obtain ⟨i, hi, e1, e2, e3⟩ := hpm.of hj
    rw [← e1, ← e2]
    exact a3 i hi
  refine b_X7_lay_26 (hn.ext g3.1) (hb.ext g3.1) ?_
  rintro _ rfl
  generalize hZ4 : zSI Z3 (n + 6) (zfl (zI Z3 (n + 6)) 20 0) = Z4
  have f4 : zF (zB n (n + 8)) 0 0 Z3 Z4 := by rw [← hZ4]; exact zF_I ⟨by omega, by omega⟩
  have g4 : zF (zB n (n + 8)) 0 0 Z Z4 := g3.trans f4
  have f4' : zF (zB (n + 6) (n + 7)) 0 0 Z3 Z4 := by rw [← hZ4]; exact zF_I ⟨by omega, by omega⟩
  have hs4 : nS Z4 n k' o := hs3.frame (hn.ext g3.1) f4' fun a ha => by unfold zB; omega
  have hlen : ∀ W, zF (zB n (n + 8)) 0 0 Z W → ∀ t, t < kN k' → zI W (b + 2) t = kF k 0 t ∧ 1 ≤ kF k 0 t ∧ kF k 0 t ≤ 60 := fun W g t ht => by
    rw [eN] at ht
    have h9 := (hk.frame hb g fun a h1 h2 => by unfold zB; omega).2.2.1 0 t (by omega) ht
    exact ⟨h9, ho.len ht⟩
  have hub : ∀ W, zF (zB n (n + 8)) 0 0 Z W → zA W (b + 2) 100 20 := fun W g => (hb.ext g.1).x0 0 (by omega)
  refine ((s_pushBegins (u := b + 2) (v := n + 6) (len := kF k 0) (lo := fun _ => 0) (c := 0) (hn.ext g4.1) (hub _ g4) (hn.ext g4.1).a9 hs4 ho' hord hsrt (hlen _ g4) (fun t ht => by
    rw [← hZ4, zI_same]
    exact ⟨if_pos (by omega), by omega, by omega⟩) (by omega) (by omega) (by omega)).deeper (by decide)).mono ?_
  rintro _ Z5 ⟨rfl, f, e5, hlf, _⟩
  have f5' : zF (zB (n + 6) (n + 7)) 0 0 Z4 Z5 := by rw [e5]; exact zF_I ⟨by omega, by omega⟩
  have g5 : zF (zB n (n + 8)) 0 0 Z Z5 := g4.trans (f5'.mono (fun a h => by unfold zB at *; omega) (Nat.le_refl _) (Nat.le_refl _))
  have hs5 : nS Z5 n k' o := hs4.frame (hn.ext g4.1) f5' fun a ha => by unfold zB; omega
  have hfb : ∀ t, t < kN k' → 0 ≤ f t ∧ f t ≤ 1710 := fun t ht => by
    have := isLF_bound (c := 0) ho' hlf (fun t ht => (hlen _ g5 t ht).2) (fun _ _ => by omega) t ht
    omega
  have e56 : zI Z5 (n + 6) = f := by rw [e5, zI_same]
  refine b_X7_lay_50 (hn.ext g5.1) (hb.ext g5.1) ?_
  refine (s_lastEnd (u := b + 2) (v := n + 6) (len := kF k 0) (f := f) (hn.ext g5.1) (hub _ g5) (hn.ext g5.1).a9 hs5 ho' (fun t ht => (hlen _ g5 t ht).1) (fun t _ => by rw [e56]) (fun t ht => by
    have := hfb t ht
    have := (hlen _ g5 t ht).2
    omega)).mono ?_
  rintro _ W ⟨rfl, eW⟩
  rw [eW]
  refine b_X7_lay_60 (hn.ext g5.1) (hb.ext g5.1) ?_
  rintro _ rfl
  rw [zI_same, zu_same]
  have hend : zmax (fun t => f t + kF k 0 t) (kN k') = kEnd k (kF k 0) f := by rw [eN]; rfl
  rw [hend]
  have her : 0 ≤ kEnd k (kF k 0) f ∧ kEnd k (kF k 0) f ≤ 1770 := kEnd_r ho (fun t ht => ho.len ht) fun t ht => hfb t (by rw [eN]; exact ht)
  generalize hZ6 : zSI Z5 n (zu (zI Z5 n) 3 (kEnd k (kF k 0) f)) = Z6
  have f6 : zF (zB n (n + 1)) 0 0 Z5 Z6 := by rw [← hZ6]; exact zF_I ⟨by omega, by omega⟩
  have g6 : zF (zB n (n + 8)) 0 0 Z Z6 := g5.trans (f6.mono (fun a h => by unfold zB at *; omega) (Nat.le_refl _) (Nat.le_refl _))
  have hs6 : nS Z6 n k' o := by
    obtain ⟨a1, a2, a3, a4⟩ := hs5
    refine ⟨?_, ?_, fun p hp => ?_, fun j hj => ?_⟩
    · rw [← hZ6, zI_same, zu_other (by decide)]
      exact a1
    · rw [← hZ6, zI_same, zu_other (by decide)]
      exact a2
    · rw [← hZ6, zI_other (by omega)]
      exact a3 p hp
    · rw [← hZ6, zI_other (by omega), zI_other (by omega), zI_other (by omega)]
      exact a4 j hj
  refine ((s_pullLatests (u := b + 2) (v := n + 7) (len := kF k 0) (hn.ext g6.1) (hub _ g6) (hn.ext g6.1).a10 hs6 ho' hord hsrt (hlen _ g6) (by omega) (by omega) (by omega)).deeper (by decide)).mono ?_
  rintro _ Z7 ⟨rfl, L, e7, hlat⟩
  have f7 : zF (zB (n + 7) (n + 8)) 0 0 Z6 Z7 := by rw [e7]; exact zF_I ⟨by omega, by omega⟩
  have g7 : zF (zB n (n + 8)) 0 0 Z Z7 := g6.trans (f7.mono (fun a h => by unfold zB at *; omega) (Nat.le_refl _) (Nat.le_refl _))
  have hs7 : nS Z7 n k' o := hs6.frame (hn.ext g6.1) f7 fun a ha => by unfold zB; omega
  refine b_X7_lay_76 (hn.ext g7.1) (hb.ext g7.1) ?_
  rintro _ rfl
  have f8 : zF (zB n (n + 8)) 0 0 Z7 (zSI Z7 n (zu (zI Z7 n) 0 1)) := zF_I ⟨by omega, by omega⟩
  have e70 : zI Z7 n = zu (zI Z5 n) 3 (kEnd k (kF k 0) f) := by rw [e7, zI_other (by omega), ← hZ6, zI_same]
  have e76 : zI Z7 (n + 6) = f := by rw [e7, zI_other (by omega), ← hZ6, zI_other (by omega), e56]
  refine ⟨rfl, g7.trans f8, by rw [zI_same, zu_same], k', o, pos, hpm, hord, hsrt, ?_, ?_, ?_, ?_⟩
  · obtain ⟨a1, a2, a3, a4⟩ := hs7
    refine ⟨?_, ?_, fun p hp => ?_, fun j hj => ?_⟩
    · rw [zI_same, zu_other (by decide)]
      exact a1
    · rw [zI_same, zu_other (by decide)]
      exact a2
    · rw [zI_other (by omega)]
      exact a3 p hp
    · rw [zI_other (by omega), zI_other (by omega), zI_other (by omega)]
      exact a4 j hj
  · rw [zI_other (by omega), e76]
    exact hlf
  · rw [zI_same, zu_other (by decide), zI_other (by omega), e76, e70, zu_same]
  · rw [zI_same, zu_other (by decide), zI_other (by omega), e70, zu_same, e7, zI_same]
    exact hlat
