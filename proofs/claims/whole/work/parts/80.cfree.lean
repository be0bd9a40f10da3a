/-! ===== the class' rounds ===== -/
theorem ltW {P : Sp} {s : Ss} {t : Nat} {w v : Int} (hw : w = wN P (put P s) t) (hv : lmN P s.1 (put P s) t v) : (w = 0 ↔ ltA P s.1 t ≠ -1) ∧ (w = 0 → v = ltA P s.1 t) := by
  have il := ltF_is P s.1 t (kM (pK P))
  have eL : ltA P s.1 t = ltF P s.1 t (kM (pK P)) := rfl
  have all : w = 0 ↔ ∀ i, i < kM (pK P) → nd P i t → put P s i := by
    constructor
    · intro e i hi hn
      refine Classical.byContradiction fun c => ?_
      have h1 := zsum_pos (f := fun i => cIf (nd P i t ∧ ¬ put P s i) (1 : Int) 0) (n := kM (pK P)) (i := i) (fun j hj => by
        show 0 ≤ cIf _ _ _
        by_cases d : nd P j t ∧ ¬ put P s j
        · rw [cIf_p d]
          decide
        · rw [cIf_f d]
          decide) hi (by
        show 0 < cIf _ _ _
        rw [cIf_p ⟨hn, c⟩]
        decide)
      unfold wN at hw
      omega
    · intro h
      rw [hw]
      unfold wN
      rw [zsum_eq (g := fun _ => 0), zsum_0]
      exact fun i hi => cIf_f fun q => q.2 (h i hi q.1)
  rw [← eL] at il
  have a1 : w = 0 → 0 ≤ ltA P s.1 t ∧ v = ltA P s.1 t := fun e => by
    have al := all.mp e
    rcases il with ⟨g1, j, j1, j2, j3⟩ | ⟨g1, g2, g3⟩
    · exact absurd j3 (al j j1 j2)
    · refine ⟨g1, ?_⟩
      obtain ⟨v1, v2, v3⟩ := hv
      have le1 : v ≤ ltA P s.1 t := by
        rcases v3 with q | ⟨i, i1, i2, i3, i4⟩
        · omega
        · have := (g2 i i1 i2).2
          omega
      have le2 : ltA P s.1 t ≤ v := by
        rcases g3 with q | ⟨i, i1, i2, i3⟩
        · omega
        · have := v2 i i1 i2 (al i i1 i2)
          omega
      omega
  refine ⟨⟨fun e => by have := (a1 e).1; omega, fun ne => all.mpr fun i hi hn => ?_⟩, fun e => (a1 e).2⟩
  rcases il with ⟨g1, -⟩ | ⟨g1, g2, g3⟩
  · exact absurd g1 ne
  · exact (g2 i hi hn).1
def evn (P : Sp) (s : Ss) (n : Nat) (z : Int) : Prop := ∃ t, t < n ∧ ((s.1 t ≠ -1 ∧ s.1 t + pD P t = z) ∨ (s.1 t = -1 ∧ ltA P s.1 t = z))
def isNv (P : Sp) (s : Ss) (x : Int) (n : Nat) (v : Int) : Prop := (v = -1 ∧ ∀ z, x < z → ¬ evn P s n z) ∨ (x < v ∧ evn P s n v ∧ ∀ z, x < z → z < v → ¬ evn P s n z)
theorem isNv.step {P : Sp} {s : Ss} {x v T : Int} {n : Nat} {K : Prop} [Decidable K] (h : isNv P s x n v) (hx : 0 ≤ x) (h1 : K → ∀ z, x < z → (((s.1 n ≠ -1 ∧ s.1 n + pD P n = z) ∨ (s.1 n = -1 ∧ ltA P s.1 n = z)) ↔ z = T)) (h2 : ¬ K → ∀ z, x < z → ¬ ((s.1 n ≠ -1 ∧ s.1 n + pD P n = z) ∨ (s.1 n = -1 ∧ ltA P s.1 n = z))) : isNv P s x (n + 1) (if K then (if T ≤ x then v else (if v < 0 then T else (if v ≤ T then v else T))) else v) := by
  have ex : ∀ z, x < z → (evn P s (n + 1) z ↔ (evn P s n z ∨ ((s.1 n ≠ -1 ∧ s.1 n + pD P n = z) ∨ (s.1 n = -1 ∧ ltA P s.1 n = z)))) := fun z _ => by
    constructor
    · rintro ⟨t, t1, t2⟩
      by_cases e : t = n
      · rw [e] at t2
        exact Or.inr t2
      · exact Or.inl ⟨t, by omega, t2⟩
    · rintro (⟨t, t1, t2⟩ | q)
      · exact ⟨t, by omega, t2⟩
      · exact ⟨n, Nat.lt_succ_self _, q⟩
  have old : (∀ z, x < z → (evn P s (n + 1) z ↔ evn P s n z)) → isNv P s x (n + 1) v := fun he => by
    rcases h with ⟨g1, g2⟩ | ⟨g1, g2, g3⟩
    · exact Or.inl ⟨g1, fun z hz q => g2 z hz ((he z hz).mp q)⟩
    · exact Or.inr ⟨g1, (he v g1).mpr g2, fun z hz hz2 q => g3 z hz hz2 ((he z hz).mp q)⟩
  by_cases k : K
  · rw [if_pos k]
    have h1 := h1 k
    by_cases c : T ≤ x
    · rw [if_pos c]
      refine old fun z hz => ?_
      rw [ex z hz, h1 z hz]
      exact ⟨fun q => q.resolve_right fun e => by omega, Or.inl⟩
    · rw [if_neg c]
      have he : ∀ z, x < z → (evn P s (n + 1) z ↔ (evn P s n z ∨ z = T)) := fun z hz => by rw [ex z hz, h1 z hz]
      rcases h with ⟨g1, g2⟩ | ⟨g1, g2, g3⟩
      · rw [if_pos (by omega)]
        refine Or.inr ⟨by omega, (he T (by omega)).mpr (Or.inr rfl), fun z hz hz2 q => ?_⟩
        rcases (he z hz).mp q with a | a
        · exact g2 z hz a
        · omega
      · rw [if_neg (by omega)]
        by_cases d : v ≤ T
        · rw [if_pos d]
          refine Or.inr ⟨g1, (he v g1).mpr (Or.inl g2), fun z hz hz2 q => ?_⟩
          rcases (he z hz).mp q with a | a
          · exact g3 z hz hz2 a
          · omega
        · rw [if_neg d]
          refine Or.inr ⟨by omega, (he T (by omega)).mpr (Or.inr rfl), fun z hz hz2 q => ?_⟩
          rcases (he z hz).mp q with a | a
          · exact g3 z hz (by omega) a
          · omega
  · rw [if_neg k]
    refine old fun z hz => ?_
    rw [ex z hz]
    exact ⟨fun q => q.resolve_right (h2 k z hz), Or.inl⟩
theorem s_cnextTime {G : Gx} {Z : Zm} {p : Nat} {P : Sp} {s : Ss} {x : Int} (h : cCx Z p P) (hs : cSt Z p P s) (hb : sB P s) (hl : cLt Z p P s.1 (put P s)) (hx : 0 ≤ x ∧ x ≤ 9000) : ZM G 0 m_X9_nextTime [.ref p, iv x] Z (fun r W => (∃ v, r = .inl (some (iv v)) ∧ isNv P s x (kN (pK P)) v ∧ -1 ≤ v ∧ v ≤ 10000) ∧ W = Z) := by
  have hP := h.2.2.2.1
  have hN := hP.1.n
  have hM := hP.1.m
  refine e_X9_nextTime h.1 ?_
  suffices key : ∀ j, j ≤ kN (pK P) → ∀ v, isNv P s x j v → -1 ≤ v ∧ v ≤ 10000 → ZP G 0 m_X9_nextTime 4 [some (.ref p), some (iv x), some (iv v), some (iv (j : Int)), none, none] [] Z (fun r W => (∃ v, r = .inl (some (iv v)) ∧ isNv P s x (kN (pK P)) v ∧ -1 ≤ v ∧ v ≤ 10000) ∧ W = Z) from key 0 (Nat.zero_le _) (-1) (Or.inl ⟨rfl, fun z _ q => by obtain ⟨t, t1, -⟩ := q; exact absurd t1 (Nat.not_lt_zero _)⟩) (by omega)
  refine am_up (n := kN (pK P)) fun j hj ih v hv rv => ?_
  refine b_X9_nextTime_4 h.1 ⟨by omega, by rw [h.2.2.2.2.2.1]; omega, ?_⟩
  rw [h.2.2.2.2.2.1]
  by_cases c : j < kN (pK P)
  · obtain ⟨g1, g2, -⟩ := hs.1 j c
    obtain ⟨l1, l2⟩ := hl j c
    have wr := wN_r P (put P s) j
    have lr := l2.r hP hb
    have bj := hb j c
    have dj := hP.2.1 j c
    obtain ⟨lw1, lw2⟩ := ltW l1 l2
    rw [if_neg (by omega), Int.toNat_natCast, g1, g2]
    have eE : s.1 j ≠ -1 → eS P s j = s.1 j + pD P j := fun q => if_neg q
    have er : -1 ≤ eS P s j ∧ eS P s j ≤ 9060 := by
      unfold eS
      by_cases q : s.1 j = -1
      · rw [if_pos q]
        omega
      · rw [if_neg q]
        omega
    have tr : -1 ≤ (if s.1 j = -1 then zI Z (p + 6) j else eS P s j) ∧ (if s.1 j = -1 then zI Z (p + 6) j else eS P s j) ≤ 9100 := by
      by_cases q : s.1 j = -1
      · rw [if_pos q]
        omega
      · rw [if_neg q]
        omega
    have h1 : (¬ (s.1 j = -1) ∨ zI Z (p + 7) j = 0) → ∀ z, x < z → (((s.1 j ≠ -1 ∧ s.1 j + pD P j = z) ∨ (s.1 j = -1 ∧ ltA P s.1 j = z)) ↔ z = (if s.1 j = -1 then zI Z (p + 6) j else eS P s j)) := fun k z hz => by
      by_cases q : s.1 j = -1
      · rw [if_pos q]
        have w0 := k.resolve_left fun g => g q
        rw [lw2 w0]
        exact ⟨fun g => by
          rcases g with g | g
          · exact absurd q g.1
          · exact g.2.symm, fun g => Or.inr ⟨q, g.symm⟩⟩
      · rw [if_neg q, eE q]
        exact ⟨fun g => by
          rcases g with g | g
          · exact g.2.symm
          · exact absurd g.1 q, fun g => Or.inl ⟨q, g.symm⟩⟩
    have h2 : ¬ (¬ (s.1 j = -1) ∨ zI Z (p + 7) j = 0) → ∀ z, x < z → ¬ ((s.1 j ≠ -1 ∧ s.1 j + pD P j = z) ∨ (s.1 j = -1 ∧ ltA P s.1 j = z)) := fun k z hz g => by
      have q : s.1 j = -1 := Classical.byContradiction fun e => k (Or.inl e)
      have w0 : ¬ zI Z (p + 7) j = 0 := fun e => k (Or.inr e)
      rcases g with g | g
      · exact g.1 q
      · have : ltA P s.1 j = -1 := Classical.byContradiction fun e => w0 (lw1.mpr e)
        omega
    have st := hv.step (K := ¬ (s.1 j = -1) ∨ zI Z (p + 7) j = 0) hx.1 h1 h2
    generalize (if s.1 j = -1 then zI Z (p + 6) j else eS P s j) = T at *
    refine ⟨zIx_nat (by omega) (by omega), by omega, fun _ => ⟨by omega, trivial⟩, fun _ => ⟨by omega, by omega, fun _ => ⟨by omega, trivial⟩, trivial⟩, ih c _ st ?_⟩
    by_cases k : ¬ (s.1 j = -1) ∨ zI Z (p + 7) j = 0
    · rw [if_pos k]
      by_cases c1 : T ≤ x
      · rw [if_pos c1]
        exact rv
      · rw [if_neg c1]
        by_cases c2 : v < 0
        · rw [if_pos c2]
          omega
        · rw [if_neg c2]
          by_cases c3 : v ≤ T
          · rw [if_pos c3]
            exact rv
          · rw [if_neg c3]
            omega
    · rw [if_neg k]
      exact rv
  · rw [if_pos (by omega)]
    rw [show j = kN (pK P) by omega] at hv
    exact ⟨⟨v, rfl, hv, rv⟩, rfl⟩
theorem ev_le {P : Sp} (hP : okP P) {x z : Int} {s : Ss} (h : wfS P x s) (hx : 0 ≤ x) (hz : ev P s z) : z ≤ x + 90 := by
  have bd : ∀ u, u < kN (pK P) → s.1 u ≠ -1 → s.1 u ≤ x := fun u hu g => by
    rcases h.1 u hu with e | e
    · exact absurd e g
    · exact e.2
  obtain ⟨t, ht, ⟨g1, g2⟩ | ⟨g1, g2⟩⟩ := hz
  · have := bd t ht g1
    have := hP.2.1 t ht
    omega
  · rcases ltF_is P s.1 t (kM (pK P)) with ⟨q, -⟩ | ⟨q1, q2, q3⟩
    · have : ltA P s.1 t = -1 := q
      omega
    · have eL : ltF P s.1 t (kM (pK P)) = z := g2
      rw [eL] at q2 q3
      rcases q3 with q3 | ⟨j, j1, j2, j3⟩
      · omega
      · have a := bd _ (hP.1.e j1) (q2 j j1 j2).1
        have b := hP.2.1 _ (hP.1.e j1)
        have c := hP.1.g j1
        unfold ltB at j3
        omega
theorem hdR_eq {P : Sp} {s : Ss} {c : Nat} {x y y' : Int} (h : ∀ i : Int, fhd P s c x y i ↔ fhd P s c x y' i) : ∀ f i, hdR P s c x y f i = hdR P s c x y' f i := by
  intro f
  induction f with
  | zero => exact fun i => rfl
  | succ f ih =>
    intro i
    show cIf (fhd P s c x y (i : Int)) (i : Int) (hdR P s c x y f (i + 1)) = cIf (fhd P s c x y' (i : Int)) (i : Int) (hdR P s c x y' f (i + 1))
    rw [ih]
    by_cases d : fhd P s c x y (i : Int)
    · rw [cIf_p d, cIf_p ((h i).mp d)]
    · rw [cIf_f d, cIf_f fun q => d ((h i).mpr q)]
/-- at x, all that is put begins at x or ahead of it: the whole length counts as the hour x -/
theorem ptF_st {P : Sp} (hP : okP P) {s : Ss} {t : Nat} {x : Int} (h : wfS P x s) (ht : t < kN (pK P)) (h0 : s.1 t = -1) (hl : letA P s.1 t x) : ptF P s t x = stF P x t s := by
  have hD := hP.2.1 t ht
  have mt : ∀ u, u < kN (pK P) → (mts P s u x (x + pD P t) ↔ mts P s u x (x + 1)) := fun u hu => by
    have a := h.1 u hu
    unfold mts
    constructor
    · rintro ⟨q1, q2, q3⟩
      exact ⟨q1, by omega, q3⟩
    · rintro ⟨q1, q2, q3⟩
      exact ⟨q1, by omega, q3⟩
  have fh : ∀ i : Int, fhd P s (pS P t) x (x + pD P t) i ↔ fhd P s (pS P t) x (x + 1) i := fun i =>
    ⟨fun q u hu g => q u hu ⟨(mt u hu).mpr g.1, g.2⟩, fun q u hu g => q u hu ⟨(mt u hu).mp g.1, g.2⟩⟩
  have eh : hdF P s (pS P t) x (x + pD P t) = hdF P s (pS P t) x (x + 1) := hdR_eq fh _ _
  have fm : fmc P s (pM P t) x (x + pD P t) ↔ fmc P s (pM P t) x (x + 1) := by
    constructor
    · rintro (q | q)
      · exact Or.inl q
      · exact Or.inr fun u hu g => q u hu ⟨g.1, (mt u hu).mpr g.2⟩
    · rintro (q | q)
      · exact Or.inl q
      · exact Or.inr fun u hu g => q u hu ⟨g.1, (mt u hu).mp g.2⟩
  unfold ptF stF fhF goes
  rw [eh]
  by_cases c : fmc P s (pM P t) x (x + 1)
  · rw [cIf_p (fm.mpr c)]
    by_cases d : hdF P s (pS P t) x (x + 1) = -1
    · rw [cIf_f (fun q => q d), cIf_f (fun q => q.2.2.1 d)]
    · rw [cIf_p d, cIf_p ⟨h0, hl, d, c⟩]
  · rw [cIf_f (fun q => c (fm.mp q)), cIf_f (fun q => q rfl), cIf_f (fun q => c q.2.2.2)]
