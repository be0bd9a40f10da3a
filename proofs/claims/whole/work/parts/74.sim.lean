/-! ===== what holds of the simulation ===== -/
def okL (P : Sp) (L : Nat → Nat) : Prop := (∀ p, p < kN (pK P) → L p < kN (pK P)) ∧ ∀ t, t < kN (pK P) → ∃ p, p < kN (pK P) ∧ L p = t
def simOk (P : Sp) (x : Int) (s : Ss) : Prop := wfS P (x - 1) s ∧ ∀ t y, t < kN (pK P) → 0 ≤ y → y < x → grd P s y t
theorem wfS.up {P : Sp} {x y : Int} {s : Ss} (h : wfS P x s) (hy : x ≤ y) : wfS P y s := ⟨fun t ht => by
  rcases h.1 t ht with g | g
  · exact Or.inl g
  · exact Or.inr (by omega), h.2⟩
theorem stF_new (P : Sp) (x : Int) (t : Nat) (s : Ss) : ∀ u, s.1 u = -1 → (stF P x t s).1 u = -1 ∨ (stF P x t s).1 u = x := fun u hu => by
  unfold stF
  by_cases c : goes P x t s
  · rw [cIf_p c]
    by_cases e : u = t
    · rw [e]
      exact Or.inr (zu_same _ _ _)
    · exact Or.inl ((zu_other e).trans hu)
  · rw [cIf_f c]
    exact Or.inl hu
theorem psF_new {P : Sp} (L : Nat → Nat) (x : Int) (s : Ss) (hL : ∀ p, p < kN (pK P) → L p < kN (pK P)) : ∀ v, v ≤ kN (pK P) → ∀ u, u < kN (pK P) → s.1 u = -1 → (psF P L x s v).1 u = -1 ∨ (psF P L x s v).1 u = x := by
  intro v
  induction v with
  | zero => exact fun _ u _ hu => Or.inl hu
  | succ v ih =>
    intro hv u hu h0
    rcases ih (by omega) u hu h0 with g | g
    · exact stF_new P x (L v) _ u g
    · by_cases e : x = -1
      · exact stF_new P x (L v) _ u (g.trans e)
      · exact Or.inr (((stF_mor P x (L v) _) u hu (by omega)).1.trans g)
theorem let_back {P : Sp} (hP : okP P) {x : Int} {s s' : Ss} (mo : mor P s s') (hn : ∀ u, u < kN (pK P) → s.1 u = -1 → s'.1 u = -1 ∨ s'.1 u = x) {t : Nat} {y : Int} (hy : y ≤ x) (l : letA P s'.1 t y) : letA P s.1 t y := fun j hj e => by
  obtain ⟨a, b⟩ := l j hj e
  have hE := hP.1.e hj
  have hD := (hP.2.1 _ hE).1
  have hG := hP.1.g hj
  by_cases c : s.1 (kE (pK P) j) = -1
  · rcases hn _ hE c with g | g
    · exact absurd g a
    · unfold ltB at b
      rw [g] at b
      omega
  · have e2 := (mo _ hE c).1
    refine ⟨c, ?_⟩
    unfold ltB at *
    rw [e2] at b
    exact b
theorem blk_of {P : Sp} (hP : okP P) {s : Ss} {x : Int} {t : Nat} (ht : t < kN (pK P)) (h : hdF P s (pS P t) x (x + 1) = -1 ∨ ¬ fmc P s (pM P t) x (x + 1)) : blk P s x t := by
  have wk : ∀ u, mts P s u x (x + 1) → wkS P s u x := fun u m => ⟨m.1, by have := m.2.1; omega, m.2.2⟩
  rcases h with h | h
  · refine Or.inl fun i i1 i2 => ?_
    have a := hdF_no h i i1 i2
    refine Classical.byContradiction fun c => a fun u hu q => c ⟨u, hu, q.2.2, q.2.1, wk u q.1⟩
  · have hm := hP.2.2.2 t ht
    refine Or.inr ⟨?_, ?_⟩
    · refine Classical.byContradiction fun c => h (Or.inl (by omega))
    · refine Classical.byContradiction fun c => h (Or.inr fun u hu q => c ⟨u, hu, q.1, wk u q.2⟩)
theorem no_blk {P : Sp} {s : Ss} {x : Int} {t : Nat} (b : blk P s x t) (h1 : hdF P s (pS P t) x (x + 1) ≠ -1) (h2 : fmc P s (pM P t) x (x + 1)) : False := by
  have mt : ∀ u, wkS P s u x → mts P s u x (x + 1) := fun u w => ⟨w.1, by have := w.2.1; omega, w.2.2⟩
  rcases b with b | ⟨b1, u, b2, b3, b4⟩
  · obtain ⟨d1, d2, d3⟩ := hdF_yes h1
    obtain ⟨u, u1, u2, u3, u4⟩ := b _ d1 d2
    exact d3 u u1 ⟨mt u u4, u3, u2⟩
  · rcases h2 with h2 | h2
    · omega
    · exact h2 u b2 ⟨b3, mt u b4⟩
theorem psF_ok {P : Sp} (hP : okP P) {L : Nat → Nat} (hL : okL P L) {x : Nat} {s : Ss} (h : simOk P (x : Int) s) : ∀ v, v ≤ kN (pK P) → wfS P (x : Int) (psF P L (x : Int) s v) ∧ ∀ p, p < v → (psF P L (x : Int) s v).1 (L p) ≠ -1 ∨ (letA P (psF P L (x : Int) s v).1 (L p) (x : Int) → blk P (psF P L (x : Int) s v) (x : Int) (L p)) := by
  intro v
  induction v with
  | zero => exact fun _ => ⟨h.1.up (by omega), fun p hp => absurd hp (Nat.not_lt_zero _)⟩
  | succ v ih =>
    intro hv
    obtain ⟨i1, i2⟩ := ih (by omega)
    have hv' := hL.1 v (by omega)
    show wfS P (x : Int) (stF P (x : Int) (L v) (psF P L (x : Int) s v)) ∧ ∀ p, p < v + 1 → (stF P (x : Int) (L v) (psF P L (x : Int) s v)).1 (L p) ≠ -1 ∨ (letA P (stF P (x : Int) (L v) (psF P L (x : Int) s v)).1 (L p) (x : Int) → blk P (stF P (x : Int) (L v) (psF P L (x : Int) s v)) (x : Int) (L p))
    generalize psF P L (x : Int) s v = σ at *
    have mo := stF_mor P (x : Int) (L v) σ
    refine ⟨stF_wf hP (by omega) hv' i1, fun p hp => ?_⟩
    by_cases e : p = v
    · rw [e]
      by_cases c : goes P (x : Int) (L v) σ
      · left
        unfold stF
        rw [cIf_p c]
        show zu σ.1 (L v) (x : Int) (L v) ≠ -1
        rw [zu_same]
        omega
      · unfold stF
        rw [cIf_f c]
        by_cases d : σ.1 (L v) = -1
        · refine Or.inr fun l => blk_of hP hv' ?_
          by_cases g : hdF P σ (pS P (L v)) (x : Int) ((x : Int) + 1) = -1
          · exact Or.inl g
          · exact Or.inr fun g2 => c ⟨d, l, g, g2⟩
        · exact Or.inl d
    · have hp' := hL.1 p (by omega)
      rcases i2 p (by omega) with g | g
      · left
        rw [(mo _ hp' g).1]
        exact g
      · exact Or.inr fun l => mo.blk (g (let_back hP mo (fun u _ hu => stF_new P (x : Int) (L v) σ u hu) (Int.le_refl _) l))
theorem simF_ok {P : Sp} (hP : okP P) {L : Nat → Nat} (hL : okL P L) : ∀ x : Nat, simOk P (x : Int) (simF P L x) := by
  intro x
  induction x with
  | zero => exact ⟨⟨fun t _ => Or.inl rfl, fun t _ g => absurd rfl g, fun t u y _ _ _ w => absurd rfl w.1⟩, fun t y _ h1 h2 => by omega⟩
  | succ x ih =>
    obtain ⟨h1, h2⟩ := psF_ok hP hL ih (kN (pK P)) (Nat.le_refl _)
    have mo := psF_mor P L (x : Int) (simF P L x) (kN (pK P))
    have nw := psF_new (P := P) L (x : Int) (simF P L x) hL.1 (kN (pK P)) (Nat.le_refl _)
    show simOk P ((x + 1 : Nat) : Int) (psF P L (x : Int) (simF P L x) (kN (pK P)))
    generalize psF P L (x : Int) (simF P L x) (kN (pK P)) = s at *
    refine ⟨h1.up (by omega), fun t y ht y1 y2 hb l => ?_⟩
    by_cases e : y = (x : Int)
    · rw [e] at hb l ⊢
      obtain ⟨p, hp, rfl⟩ := hL.2 t ht
      have b := h1.1 _ ht
      rcases h2 p hp with g | g
      · omega
      · exact g l
    · refine mo.blk (ih.2 t y ht y1 (by omega) ?_ (let_back hP mo nw (by omega) l))
      by_cases c : (simF P L x).1 t = -1
      · exact Or.inl c
      · rw [(mo t ht c).1] at hb
        exact hb
/-- something ends or is let at z -/
def ev (P : Sp) (s : Ss) (z : Int) : Prop := ∃ t, t < kN (pK P) ∧ ((s.1 t ≠ -1 ∧ s.1 t + pD P t = z) ∨ (s.1 t = -1 ∧ ltA P s.1 t = z))
theorem psF_id {P : Sp} (hP : okP P) {L : Nat → Nat} (hL : okL P L) {x y : Nat} {s : Ss} (h : simOk P ((x : Int) + 1) s) (hy : x < y) (he : ∀ z, (x : Int) < z → z ≤ (y : Int) → ¬ ev P s z) : ∀ v, v ≤ kN (pK P) → psF P L (y : Int) s v = s := by
  intro v
  induction v with
  | zero => exact fun _ => rfl
  | succ v ih =>
    intro hv
    show stF P (y : Int) (L v) (psF P L (y : Int) s v) = s
    rw [ih (by omega)]
    have ht := hL.1 v (by omega)
    unfold stF
    refine cIf_f fun g => ?_
    obtain ⟨g1, g2, g3, g4⟩ := g
    obtain ⟨l1, l2⟩ := (ltA_let (P := P) (b := s.1) (t := L v) (x := (y : Int)) (by omega)).mpr g2
    have l3 : ltA P s.1 (L v) ≤ (x : Int) := Int.not_lt.mp fun c => he _ c l2 ⟨L v, ht, Or.inr ⟨g1, rfl⟩⟩
    have b := h.2 (L v) (x : Int) ht (by omega) (by omega) (Or.inl g1) ((ltA_let (by omega)).mp ⟨l1, l3⟩)
    have wk : ∀ u, u < kN (pK P) → wkS P s u (x : Int) → wkS P s u (y : Int) := fun u hu w => by
      refine ⟨w.1, by have := w.2.1; omega, ?_⟩
      exact Int.not_le.mp fun c => he _ w.2.2 c ⟨u, hu, Or.inl ⟨w.1, rfl⟩⟩
    refine no_blk (x := (y : Int)) ?_ g3 g4
    rcases b with b | ⟨b1, u, b2, b3, b4⟩
    · refine Or.inl fun i i1 i2 => ?_
      obtain ⟨u, u1, u2, u3, u4⟩ := b i i1 i2
      exact ⟨u, u1, u2, u3, wk u u1 u4⟩
    · exact Or.inr ⟨b1, u, b2, b3, wk u b2 b4⟩
theorem simF_skip {P : Sp} (hP : okP P) {L : Nat → Nat} (hL : okL P L) {x : Nat} : ∀ m, (∀ z, (x : Int) < z → z < ((x + 1 + m : Nat) : Int) → ¬ ev P (simF P L (x + 1)) z) → simF P L (x + 1 + m) = simF P L (x + 1) := by
  intro m
  induction m with
  | zero => exact fun _ => rfl
  | succ m ih =>
    intro he
    have e := ih fun z z1 z2 => he z z1 (by omega)
    show psF P L ((x + 1 + m : Nat) : Int) (simF P L (x + 1 + m)) (kN (pK P)) = simF P L (x + 1)
    rw [e]
    have so := simF_ok hP hL (x + 1)
    rw [show ((x + 1 : Nat) : Int) = (x : Int) + 1 by omega] at so
    exact psF_id hP hL so (y := x + 1 + m) (by omega) (fun z z1 z2 => he z z1 (by omega)) _ (Nat.le_refl _)
theorem ev_next {P : Sp} (hP : okP P) {x : Nat} {s : Ss} (h : simOk P ((x : Int) + 1) s) {t : Nat} (ht : t < kN (pK P)) (h0 : s.1 t = -1) : ∃ z, (x : Int) < z ∧ z ≤ (x : Int) + 90 ∧ ev P s z := by
  obtain ⟨pos, p1, p2⟩ := kPos hP.1
  have mn : ∀ m t, pos t < m → t < kN (pK P) → s.1 t = -1 → ∃ t, t < kN (pK P) ∧ s.1 t = -1 ∧ ∀ j, j < kM (pK P) → kL (pK P) j = t → s.1 (kE (pK P) j) ≠ -1 := by
    intro m
    induction m with
    | zero => exact fun t ht => absurd ht (Nat.not_lt_zero _)
    | succ m ih =>
      intro t hp ht h0
      by_cases c : ∃ j, j < kM (pK P) ∧ kL (pK P) j = t ∧ s.1 (kE (pK P) j) = -1
      · obtain ⟨j, j1, j2, j3⟩ := c
        have := p2 j j1
        rw [j2] at this
        exact ih _ (by omega) (hP.1.e j1) j3
      · exact ⟨t, ht, h0, fun j hj e g => c ⟨j, hj, e, g⟩⟩
  obtain ⟨t, ht, h0, hn⟩ := mn _ t (Nat.lt_succ_self _) ht h0
  have bd : ∀ j, j < kM (pK P) → kL (pK P) j = t → ltB P s.1 j ≤ (x : Int) + 90 := fun j hj e => by
    have hE := hP.1.e hj
    have a := h.1.1 _ hE
    have b := hP.2.1 _ hE
    have c := hP.1.g hj
    have d := hn j hj e
    unfold ltB
    omega
  have il := ltF_is P s.1 t (kM (pK P))
  have eL : ltA P s.1 t = ltF P s.1 t (kM (pK P)) := rfl
  rcases il with ⟨g1, j, j1, j2, j3⟩ | ⟨g1, g2, g3⟩
  · exact absurd j3 (hn j j1 j2.1)
  · rw [← eL] at g1 g2 g3
    have bL : ltA P s.1 t ≤ (x : Int) + 90 := by
      rcases g3 with g3 | ⟨j, j1, j2, j3⟩
      · omega
      · have := bd j j1 j2.1
        omega
    by_cases c : (x : Int) < ltA P s.1 t
    · exact ⟨_, c, bL, t, ht, Or.inr ⟨h0, rfl⟩⟩
    · have b := h.2 t (x : Int) ht (by omega) (by omega) (Or.inl h0) ((ltA_let (by omega)).mp ⟨by omega, by omega⟩)
      have wk : ∃ u, u < kN (pK P) ∧ wkS P s u (x : Int) := by
        rcases b with b | ⟨b1, u, b2, b3, b4⟩
        · have hH := hP.2.2.1 t ht
          obtain ⟨u, u1, -, -, u4⟩ := b 0 (Int.le_refl _) (by omega)
          exact ⟨u, u1, u4⟩
        · exact ⟨u, b2, b4⟩
      obtain ⟨u, u1, w1, w2, w3⟩ := wk
      have hD := hP.2.1 u u1
      exact ⟨s.1 u + pD P u, w3, by omega, u, u1, Or.inl ⟨w1, rfl⟩⟩
theorem ltF_eqn {P : Sp} {b b' : Nat → Int} {t : Nat} : ∀ n, (∀ j, j < n → nd P j t → b' (kE (pK P) j) = b (kE (pK P) j)) → ltF P b' t n = ltF P b t n := by
  intro n
  induction n with
  | zero => exact fun _ => rfl
  | succ n ih =>
    intro h
    have e := ih fun j hj q => h j (by omega) q
    show cIf (nd P n t) _ (ltF P b' t n) = cIf (nd P n t) _ (ltF P b t n)
    rw [e]
    by_cases c : nd P n t
    · rw [cIf_p c, cIf_p c]
      unfold ltB
      rw [h n (by omega) c]
    · rw [cIf_f c, cIf_f c]
theorem ltA_mor {P : Sp} (hP : okP P) {s s' : Ss} (mo : mor P s s') {t : Nat} (h : ltA P s.1 t ≠ -1) : ltA P s'.1 t = ltA P s.1 t := by
  refine ltF_eqn _ fun j hj q => ?_
  rcases ltF_is P s.1 t (kM (pK P)) with ⟨g, -⟩ | ⟨-, g, -⟩
  · exact absurd g h
  · exact (mo _ (hP.1.e hj) (g j hj q).1).1
def evd (P : Sp) (s : Ss) (z : Int) : Prop := ∃ t, t < kN (pK P) ∧ ((s.1 t ≠ -1 ∧ s.1 t + pD P t = z) ∨ (ltA P s.1 t ≠ -1 ∧ ltA P s.1 t = z))
theorem evd.mo {P : Sp} (hP : okP P) {s s' : Ss} (mo : mor P s s') {z : Int} (h : evd P s z) : evd P s' z := by
  obtain ⟨t, ht, ⟨h1, h2⟩ | ⟨h1, h2⟩⟩ := h
  · have e := (mo t ht h1).1
    exact ⟨t, ht, Or.inl ⟨by rw [e]; exact h1, by rw [e]; exact h2⟩⟩
  · have e := ltA_mor hP mo h1
    exact ⟨t, ht, Or.inr ⟨by rw [e]; exact h1, by rw [e]; exact h2⟩⟩
/-- r rounds, the last one at x -/
def run (P : Sp) (L : Nat → Nat) (r x : Nat) : Prop := ∃ tm : Nat → Nat, tm 0 = 0 ∧ tm r = x ∧ (∀ i, i < r → tm i < tm (i + 1) ∧ tm (i + 1) ≤ tm i + 90) ∧ ∀ i, 1 ≤ i → i ≤ r → evd P (simF P L (x + 1)) (tm i : Int)
theorem run.z (P : Sp) (L : Nat → Nat) : run P L 0 0 := ⟨fun _ => 0, rfl, rfl, fun i hi => absurd hi (Nat.not_lt_zero _), fun i h1 h2 => by omega⟩
theorem run.s {P : Sp} (hP : okP P) {L : Nat → Nat} (hL : okL P L) {r x y : Nat} (h : run P L r x) (hx : x < y) (hy : y ≤ x + 90) (he : ev P (simF P L (x + 1)) (y : Int)) (hn : ∀ z, (x : Int) < z → z < (y : Int) → ¬ ev P (simF P L (x + 1)) z) : run P L (r + 1) y ∧ simF P L y = simF P L (x + 1) := by
  have sk := simF_skip hP hL (x := x) (y - (x + 1)) (by rw [show x + 1 + (y - (x + 1)) = y by omega]; exact hn)
  rw [show x + 1 + (y - (x + 1)) = y by omega] at sk
  have mo : mor P (simF P L (x + 1)) (simF P L (y + 1)) := by
    rw [← sk]
    exact simF_mor P L y 1
  obtain ⟨tm, t1, t2, t3, t4⟩ := h
  refine ⟨⟨fun i => if i ≤ r then tm i else y, ?_, ?_, fun i hi => ?_, fun i i1 i2 => ?_⟩, sk⟩
  · show (if 0 ≤ r then tm 0 else y) = 0
    rw [if_pos (Nat.zero_le _)]
    exact t1
  · exact if_neg (by omega)
  · show (if i ≤ r then tm i else y) < (if i + 1 ≤ r then tm (i + 1) else y) ∧ (if i + 1 ≤ r then tm (i + 1) else y) ≤ (if i ≤ r then tm i else y) + 90
    rw [if_pos (show i ≤ r by omega)]
    by_cases c : i + 1 ≤ r
    · rw [if_pos c]
      exact t3 i (by omega)
    · rw [if_neg c, show i = r by omega, t2]
      exact ⟨hx, hy⟩
  · show evd P (simF P L (y + 1)) ((if i ≤ r then tm i else y : Nat) : Int)
    by_cases c : i ≤ r
    · rw [if_pos c]
      exact (t4 i i1 c).mo hP mo
    · rw [if_neg c]
      have h9 : evd P (simF P L (x + 1)) (y : Int) := by
        obtain ⟨t, ht, g | ⟨g1, g2⟩⟩ := he
        · exact ⟨t, ht, Or.inl g⟩
        · exact ⟨t, ht, Or.inr ⟨by omega, g2⟩⟩
      exact h9.mo hP mo
theorem run.le {P : Sp} {L : Nat → Nat} {r x : Nat} (h : run P L r x) : r ≤ 2 * kN (pK P) ∧ x ≤ 90 * r := by
  obtain ⟨tm, t1, t2, t3, t4⟩ := h
  have up : ∀ i m, i + m ≤ r → tm i + m ≤ tm (i + m) ∧ tm (i + m) ≤ tm i + 90 * m := by
    intro i m
    induction m with
    | zero => exact fun _ => ⟨Nat.le_refl _, Nat.le_refl _⟩
    | succ m ih =>
      intro hm
      have a := ih (by omega)
      have b := t3 (i + m) (by omega)
      rw [show i + m + 1 = i + (m + 1) by omega] at b
      omega
  constructor
  · have cd : ∀ q, ∃ c, q < r → c < 2 * kN (pK P) ∧ (if c % 2 = 0 then (simF P L (x + 1)).1 (c / 2) + pD P (c / 2) else ltA P (simF P L (x + 1)).1 (c / 2)) = (tm (q + 1) : Int) := fun q => by
      by_cases hq : q < r
      · obtain ⟨t, ht, ⟨-, g⟩ | ⟨-, g⟩⟩ := t4 (q + 1) (by omega) (by omega)
        · refine ⟨2 * t, fun _ => ⟨by omega, ?_⟩⟩
          rw [if_pos (by omega), show 2 * t / 2 = t by omega]
          exact g
        · refine ⟨2 * t + 1, fun _ => ⟨by omega, ?_⟩⟩
          rw [if_neg (by omega), show (2 * t + 1) / 2 = t by omega]
          exact g
      · exact ⟨0, fun g => absurd g hq⟩
    obtain ⟨c, hc⟩ := Classical.axiomOfChoice cd
    refine pig (f := c) (fun q hq => (hc q hq).1) fun q q' hq hq' e => ?_
    have a := (hc q hq).2
    have b := (hc q' hq').2
    rw [e] at a
    have ab : tm (q + 1) = tm (q' + 1) := by
      have := a.symm.trans b
      omega
    by_cases g : q < q'
    · have := (up (q + 1) (q' - q) (by omega)).1
      rw [show q + 1 + (q' - q) = q' + 1 by omega] at this
      omega
    · by_cases g' : q' < q
      · have := (up (q' + 1) (q - q') (by omega)).1
        rw [show q' + 1 + (q - q') = q + 1 by omega] at this
        omega
      · omega
  · have := (up 0 r (by omega)).2
    rw [Nat.zero_add, t1, t2] at this
    omega
theorem ev_least {P : Sp} {s : Ss} {x : Int} : ∀ m z : Nat, z ≤ m → x < x + z → ev P s (x + z) → ∃ y : Nat, 0 < y ∧ y ≤ z ∧ ev P s (x + y) ∧ ∀ w, x < w → w < x + y → ¬ ev P s w := by
  intro m
  induction m with
  | zero => exact fun z hz h1 _ => by omega
  | succ m ih =>
    intro z hz h1 h2
    by_cases c : ∃ w, x < w ∧ w < x + z ∧ ev P s w
    · obtain ⟨w, w1, w2, w3⟩ := c
      obtain ⟨y, y1, y2, y3, y4⟩ := ih (w - x).toNat (by omega) (by omega) (by rw [show x + ((w - x).toNat : Int) = w by omega]; exact w3)
      exact ⟨y, y1, by omega, y3, y4⟩
    · exact ⟨z, by omega, Nat.le_refl _, h2, fun w w1 w2 w3 => c ⟨w, w1, w2, w3⟩⟩
/-- all have begun -/
def allB (P : Sp) (s : Ss) : Prop := ∀ t, t < kN (pK P) → s.1 t ≠ -1
theorem sim_done {P : Sp} (hP : okP P) {L : Nat → Nat} (hL : okL P L) : ∃ x, x ≤ 3600 ∧ allB P (simF P L (x + 1)) := by
  have hN := hP.1.n
  suffices key : ∀ m r x, run P L r x → 2 * kN (pK P) + 1 ≤ r + m → ∃ x, x ≤ 3600 ∧ allB P (simF P L (x + 1)) from key (2 * kN (pK P) + 1) 0 0 (run.z P L) (by omega)
  intro m
  induction m with
  | zero =>
    intro r x hr hm
    have := hr.le
    omega
  | succ m ih =>
    intro r x hr hm
    by_cases c : allB P (simF P L (x + 1))
    · have := hr.le
      exact ⟨x, by omega, c⟩
    · have c2 : ∃ t, t < kN (pK P) ∧ (simF P L (x + 1)).1 t = -1 := Classical.byContradiction fun g => c fun t ht e => g ⟨t, ht, e⟩
      obtain ⟨t, ht, h0⟩ := c2
      have so := simF_ok hP hL (x + 1)
      rw [show ((x + 1 : Nat) : Int) = (x : Int) + 1 by omega] at so
      obtain ⟨z, z1, z2, z3⟩ := ev_next hP so ht h0
      obtain ⟨y, y1, y2, y3, y4⟩ := ev_least (x := (x : Int)) (z - x).toNat (z - x).toNat (Nat.le_refl _) (by omega) (by rw [show (x : Int) + ((z - x).toNat : Int) = z by omega]; exact z3)
      have st := hr.s hP hL (y := x + y) (by omega) (by omega) (by rw [show ((x + y : Nat) : Int) = (x : Int) + y by omega]; exact y3) fun w w1 w2 => y4 w w1 (by omega)
      exact ih (r + 1) (x + y) st.1 (by omega)
theorem psF_all {P : Sp} {L : Nat → Nat} (hL : okL P L) {x : Int} {s : Ss} (h : allB P s) : ∀ v, v ≤ kN (pK P) → psF P L x s v = s := by
  intro v
  induction v with
  | zero => exact fun _ => rfl
  | succ v ih =>
    intro hv
    show stF P x (L v) (psF P L x s v) = s
    rw [ih (by omega)]
    unfold stF
    exact cIf_f fun g => h _ (hL.1 v (by omega)) g.1
theorem simF_all {P : Sp} {L : Nat → Nat} (hL : okL P L) {x : Nat} (h : allB P (simF P L x)) : ∀ m, simF P L (x + m) = simF P L x := by
  intro m
  induction m with
  | zero => rfl
  | succ m ih =>
    show psF P L ((x + m : Nat) : Int) (simF P L (x + m)) (kN (pK P)) = simF P L x
    rw [ih]
    exact psF_all hL h _ (Nat.le_refl _)
/-- the plan by free hands -/
noncomputable def simE (P : Sp) (L : Nat → Nat) : Ss := simF P L 3601
theorem simE_all {P : Sp} (hP : okP P) {L : Nat → Nat} (hL : okL P L) : allB P (simE P L) := by
  obtain ⟨x, h1, h2⟩ := sim_done hP hL
  have := simF_all hL h2 (3601 - (x + 1))
  rw [show x + 1 + (3601 - (x + 1)) = 3601 by omega] at this
  unfold simE
  rw [this]
  exact h2
theorem simE_of {P : Sp} (hP : okP P) {L : Nat → Nat} (hL : okL P L) {x : Nat} (h : allB P (simF P L x)) : simF P L x = simE P L := by
  have a := simF_all hL h 3601
  have b := simF_all hL (simE_all hP hL) x
  unfold simE at *
  rw [show 3601 + x = x + 3601 by omega] at b
  exact a.symm.trans b
