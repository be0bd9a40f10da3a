/-! ===== like hands: the class' search ===== -/
def pe (k : Bk) (b : Nat → Int) (t : Nat) : Int := if b t = -1 then -1 else b t + kF k 0 t
theorem pe_f {k : Bk} {b : Nat → Int} {t : Nat} (h : b t = -1) : pe k b t = -1 := if_pos h
theorem pe_p {k : Bk} {b : Nat → Int} {t : Nat} (h : b t ≠ -1) : pe k b t = b t + kF k 0 t := if_neg h
/-- how many of those that are put end behind x -/
noncomputable def cE (k : Bk) (b : Nat → Int) (x : Int) : Int := zsum (fun t => ci (x < pe k b t)) (kN k)
theorem cE_r (k : Bk) (b : Nat → Int) (x : Int) : 0 ≤ cE k b x ∧ cE k b x ≤ kN k := by
  have := zsum_bound (f := fun t => ci (x < pe k b t)) (n := kN k) (a := 0) (b := 1) fun i _ => ci_r _
  unfold cE
  omega
def isBg (k : Bk) (H : Int) (b : Nat → Int) (t : Nat) (time v : Int) : Prop := (v = -1 ∧ (b t ≠ -1 ∨ ∃ j, j < kM k ∧ kL k j = t ∧ b (kE k j) = -1)) ∨ (0 ≤ v ∧ b t = -1 ∧ letQ k b t v ∧ time ≤ v ∧ cE k b v < H ∧ ∀ y, time ≤ y → letQ k b t y → y < v → H ≤ cE k b y)
theorem isBg_eq {k : Bk} {H : Int} {b : Nat → Int} {t : Nat} {time v w : Int} (h : isBg k H b t time v) (h' : isBg k H b t time w) : v = w := by
  have no : ∀ {v w : Int}, (v = -1 ∧ (b t ≠ -1 ∨ ∃ j, j < kM k ∧ kL k j = t ∧ b (kE k j) = -1)) → ¬ (0 ≤ w ∧ b t = -1 ∧ letQ k b t w ∧ time ≤ w ∧ cE k b w < H ∧ ∀ y, time ≤ y → letQ k b t y → y < w → H ≤ cE k b y) := fun {v w} p q => by
    rcases p.2 with r | ⟨j, j1, j2, j3⟩
    · exact r q.2.1
    · exact (q.2.2.1 j j1 j2).1 j3
  rcases h with h | h
  · rcases h' with g | g
    · omega
    · exact absurd g (no h)
  · rcases h' with g | g
    · exact absurd h (no g)
    · refine Int.le_antisymm (Int.not_lt.mp fun q => ?_) (Int.not_lt.mp fun q => ?_)
      · have := h.2.2.2.2.2 w g.2.2.2.1 g.2.2.1 q
        have := g.2.2.2.2.1
        omega
      · have := g.2.2.2.2.2 v h.2.2.2.1 h.2.2.1 q
        have := h.2.2.2.2.1
        omega
/-- what is put, c tasks, the last at time -/
def lPI (k : Bk) (H y : Int) (b : Nat → Int) (time : Int) (c : Nat) : Prop := (0 ≤ time ∧ time ≤ 90 * (c : Int)) ∧ (∀ t, t < kN k → b t = -1 ∨ (0 ≤ b t ∧ b t ≤ time)) ∧ (∀ t, t < kN k → b t ≠ -1 → letQ k b t (b t)) ∧ (∀ x, 0 ≤ x → cntP k b x ≤ H) ∧ zsum (fun t => ci (b t = -1)) (kN k) + (c : Int) = (kN k : Int) ∧ (y ≠ 0 → ∀ t x, t < kN k → 0 ≤ x → (b t = -1 → x < time) → (b t ≠ -1 → x < b t) → letQ k b t x → H ≤ cntP k b x)
theorem lPI.lt {k : Bk} {H y : Int} {b : Nat → Int} {time : Int} {c : Nat} (ho : kOk k) (h : lPI k H y b time c) {j : Nat} (hj : j < kM k) : lateB k b j ≤ time + 90 := by
  have a := h.2.1 _ (ho.e hj)
  have b1 := ho.len (ho.e hj)
  have b2 := ho.g hj
  have b3 := h.1.1
  unfold lateB
  omega
theorem isBg_ex {k : Bk} (ho : kOk k) {H y : Int} (hH : 1 ≤ H) {b : Nat → Int} {time : Int} {c : Nat} (h : lPI k H y b time c) (t : Nat) : ∃ v, isBg k H b t time v := by
  by_cases c0 : b t ≠ -1 ∨ ∃ j, j < kM k ∧ kL k j = t ∧ b (kE k j) = -1
  · exact ⟨-1, Or.inl ⟨rfl, c0⟩⟩
  · have c1 : b t = -1 := Classical.byContradiction fun q => c0 (Or.inl q)
    have c2 : ∀ j, j < kM k → kL k j = t → b (kE k j) ≠ -1 := fun j hj e q => c0 (Or.inr ⟨j, hj, e, q⟩)
    obtain ⟨x, x1, x2, x3⟩ := least_ex (Q := fun x => letQ k b t x ∧ cE k b x < H) (lo := time) 90 ⟨fun j hj e => ⟨c2 j hj e, h.lt ho hj⟩, by
      have : cE k b (time + (90 : Nat)) = 0 := by
        unfold cE
        rw [zsum_eq (g := fun _ => 0) fun u hu => ci_f fun q => by
          have a := h.2.1 u hu
          have l := ho.len hu
          have t0 := h.1.1
          unfold pe at q
          by_cases e : b u = -1
          · rw [if_pos e] at q
            omega
          · rw [if_neg e] at q
            omega, zsum_0]
      omega⟩
    refine ⟨time + x, Or.inr ⟨by have := h.1.1; omega, c1, x2.1, by omega, x2.2, fun z z1 z2 z3 => Int.not_lt.mp fun q => ?_⟩⟩
    refine x3 (z - time).toNat (by omega) ?_
    rw [show time + ((z - time).toNat : Int) = z by omega]
    exact ⟨z2, q⟩
/-- at the last begin or behind it, those work that end later -/
theorem cE_cnt {k : Bk} {H y : Int} {b : Nat → Int} {time : Int} {c : Nat} (h : lPI k H y b time c) {x : Int} (hx : time ≤ x) : cE k b x = cntP k b x := zsum_eq fun u hu => by
  have a := h.2.1 u hu
  have t0 := h.1.1
  refine ci_iff ⟨fun q => ?_, fun q => ?_⟩
  · unfold pe at q
    by_cases e : b u = -1
    · rw [if_pos e] at q
      omega
    · rw [if_neg e] at q
      exact ⟨e, by omega, q⟩
  · rw [pe_p q.1]
    exact q.2.2
theorem cE_le {k : Bk} {b : Nat → Int} {x z : Int} (h : x ≤ z) : cE k b z ≤ cE k b x := zsum_le fun u _ => ci_le fun q => by omega
theorem zsum_ci_dec {n t : Nat} {b : Nat → Int} {v : Int} (ht : t < n) (h0 : b t = -1) (hv : v ≠ -1) : zsum (fun u => ci (zu b t v u = -1)) n = zsum (fun u => ci (b u = -1)) n - 1 := by
  have := zsum_one (f := fun u => ci (zu b t v u = -1)) (g := fun u => ci (b u = -1)) (n := n) (i := t) (fun u _ e => by
    show ci (zu b t v u = -1) = ci (b u = -1)
    rw [zu_other e]) ht
  have e1 : ci (zu b t v t = -1) = 0 := ci_f (by rw [zu_same]; exact hv)
  have e2 : ci (b t = -1) = 1 := ci_p h0
  have this : zsum (fun u => ci (zu b t v u = -1)) n = zsum (fun u => ci (b u = -1)) n + (ci (zu b t v t = -1) - ci (b t = -1)) := this
  omega
theorem lPI.step {k : Bk} (ho : kOk k) {H y : Int} (hH : 1 ≤ H) {b : Nat → Int} {time v : Int} {c t : Nat} (h : lPI k H y b time c) (ht : t < kN k) (hv : isBg k H b t time v) (hn : v ≠ -1) (hv2 : v ≤ time + 90) (hf : y ≠ 0 → ∀ u w, u < kN k → isBg k H b u time w → w ≠ -1 → v ≤ w) : lPI k H y (zu b t v) v (c + 1) := by
  have hh := h
  obtain ⟨h1, h2, h3, h4, h5, h6⟩ := h
  obtain ⟨v0, v1, v2, v3, v4, v5⟩ := hv.resolve_left fun q => hn q.1
  have oth : ∀ u, u ≠ t → zu b t v u = b u := fun u e => zu_other e
  have same : zu b t v t = v := zu_same _ _ _
  have lb : ∀ j, j < kM k → b (kE k j) ≠ -1 → lateB k (zu b t v) j = lateB k b j ∧ zu b t v (kE k j) ≠ -1 := fun j hj ne => by
    have e := oth (kE k j) fun e => by
      rw [e] at ne
      exact ne v1
    unfold lateB
    rw [e]
    exact ⟨rfl, ne⟩
  have mono : ∀ x, cntP k b x ≤ cntP k (zu b t v) x := fun x => zsum_le fun u _ => ci_le fun q => by
    unfold wk0 at *
    rw [oth u fun e => q.1 (by rw [e]; exact v1)]
    exact q
  -- what lets a task by x < v lets it without the new one
  have back : ∀ u x, u < kN k → x < v → letQ k (zu b t v) u x → letQ k b u x := fun u x hu hx q j hj e => by
    obtain ⟨q1, q2⟩ := q j hj e
    by_cases g : kE k j = t
    · have l := ho.len ht
      have l2 := ho.g hj
      unfold lateB at q2
      rw [g, same] at q2
      omega
    · unfold lateB at *
      rw [oth _ g] at q1 q2
      exact ⟨q1, q2⟩
  refine ⟨⟨v0, by omega⟩, fun u hu => ?_, fun u hu ne => ?_, fun x hx => ?_, ?_, fun y0 u x hu hx q1 q2 q3 => ?_⟩
  · by_cases e : u = t
    · rw [e, same]
      omega
    · rw [oth u e]
      have := h2 u hu
      omega
  · by_cases e : u = t
    · rw [e, same]
      intro j hj q
      obtain ⟨q1, q2⟩ := v2 j hj q
      obtain ⟨a1, a2⟩ := lb j hj q1
      exact ⟨a2, by rw [a1]; exact q2⟩
    · rw [oth u e] at ne ⊢
      intro j hj q
      obtain ⟨q1, q2⟩ := h3 u hu ne j hj q
      obtain ⟨a1, a2⟩ := lb j hj q1
      exact ⟨a2, by rw [a1]; exact q2⟩
  · by_cases w : v ≤ x
    · have a := cE_cnt hh (x := x) (by omega)
      have a2 := cE_le (k := k) (b := b) w
      have d := zsum_le1 (f := fun u => ci (wk0 k (zu b t v) u x)) (g := fun u => ci (wk0 k b u x)) ht (fun u _ e => ci_le fun q => by
        unfold wk0 at *
        rw [oth u e] at q
        exact q) (by
        have r1 := ci_r (wk0 k (zu b t v) t x)
        have r2 := ci_r (wk0 k b t x)
        show ci (wk0 k (zu b t v) t x) ≤ ci (wk0 k b t x) + 1
        omega)
      unfold cntP at *
      omega
    · refine Int.le_trans (zsum_le fun u hu => ci_le fun q => ?_) (h4 x hx)
      unfold wk0 at *
      by_cases e : u = t
      · rw [e, same] at q
        omega
      · rw [oth u e] at q
        exact q
  · rw [zsum_ci_dec ht v1 hn]
    omega
  · refine Int.le_trans ?_ (mono x)
    by_cases e : u = t
    · rw [e, same] at q2
      rw [e] at q3
      have xv := q2 hn
      have q4 := back t x ht xv q3
      by_cases g : x < time
      · exact h6 y0 t x ht hx (fun _ => g) (fun g2 => absurd v1 g2) q4
      · rw [← cE_cnt hh (by omega)]
        exact v5 x (by omega) q4 xv
    · rw [oth u e] at q1 q2
      by_cases g : b u = -1
      · have xv := q1 g
        have q4 := back u x hu xv q3
        by_cases g2 : x < time
        · exact h6 y0 u x hu hx (fun _ => g2) (fun g3 => absurd g g3) q4
        · obtain ⟨w, hw⟩ := isBg_ex ho hH hh u
          have wn : w ≠ -1 := fun q => by
            rcases hw with ⟨-, r⟩ | r
            · rcases r with r | ⟨j, j1, j2, j3⟩
              · exact r g
              · exact (q4 j j1 j2).1 j3
            · omega
          have vw := hf y0 u w hu hw wn
          obtain ⟨-, -, -, -, -, w5⟩ := hw.resolve_left fun q => wn q.1
          rw [← cE_cnt hh (by omega)]
          exact w5 x (by omega) q4 (by omega)
      · have xb := q2 g
        have a := h2 u hu
        exact h6 y0 u x hu hx (fun g2 => absurd g2 g) (fun _ => xb) (back u x hu (by omega) q3)
def gdS (k : Bk) (H y : Int) (S : Nat → Int) : Prop := fs k H S ∧ (y ≠ 0 → ndl k H S)
def tgY (k : Bk) (H y : Int) (S : Nat → Int) : Prop := fs k H S ∧ (y = 0 → ∀ t x, t < kN k → 0 ≤ x → x < S t → ¬ fs k H (zu S t x)) ∧ (y ≠ 0 → ndl k H S)
theorem lPI.all {k : Bk} {H y : Int} {b : Nat → Int} {time : Int} {c : Nat} (h : lPI k H y b time c) (hc : c = kN k) : ∀ t, t < kN k → b t ≠ -1 := fun t ht e => by
  have := zsum_ci_e (Q := fun t => b t = -1) ht e
  have := h.2.2.2.2.1
  omega
theorem lPI.gd {k : Bk} {H y : Int} {b : Nat → Int} {time : Int} {c : Nat} (h : lPI k H y b time c) (hc : c = kN k) : gdS k H y b := by
  have all := h.all hc
  refine ⟨⟨fun t ht => ((h.2.1 t ht).resolve_left (all t ht)).1, fun t ht => h.2.2.1 t ht (all t ht), h.2.2.2.1⟩, fun y0 t x ht hx hl q => h.2.2.2.2.2 y0 t x ht hx (fun e => absurd e (all t ht)) (fun _ => hl) q⟩
def plc (S : Nat → Int) (time last : Int) (t : Nat) : Prop := S t < time ∨ (S t = time ∧ (t : Int) ≤ last)
def ext (k : Bk) (b S : Nat → Int) (time last : Int) : Prop := ∀ t, t < kN k → (plc S time last t → b t = S t) ∧ (¬ plc S time last t → b t = -1)
/-- the next task of S -/
def nxT (k : Bk) (b S : Nat → Int) (t : Nat) : Prop := t < kN k ∧ b t = -1 ∧ ∀ u, u < kN k → b u = -1 → u ≠ t → bef S t u
theorem nxT_ex {k : Bk} {b : Nat → Int} (S : Nat → Int) {t : Nat} (ht : t < kN k) (h0 : b t = -1) : ∃ t, nxT k b S t := by
  obtain ⟨L, ls⟩ := isLs_ex S (kN k)
  obtain ⟨p, hp, e⟩ := ls.sur ht
  suffices key : ∀ p, p < kN k → b (L p) = -1 → ∃ p, p < kN k ∧ b (L p) = -1 ∧ ∀ q, q < p → b (L q) ≠ -1 by
    obtain ⟨p, p1, p2, p3⟩ := key p hp (by rw [e]; exact h0)
    refine ⟨L p, ls.1 p p1, p2, fun u hu hb ne => ?_⟩
    obtain ⟨q, hq, e⟩ := ls.sur hu
    rw [← e] at hb ne ⊢
    refine ls.2 p q (Nat.lt_of_not_le fun g => ?_) hq
    by_cases g2 : q = p
    · exact ne (by rw [g2])
    · exact p3 q (by omega) hb
  intro p
  induction p using Nat.strongRecOn with
  | ind p ih =>
    intro hp h0
    by_cases c : ∃ q, q < p ∧ b (L q) = -1
    · obtain ⟨q, q1, q2⟩ := c
      exact ih q q1 (by omega) q2
    · exact ⟨p, hp, h0, fun q hq e => c ⟨q, hq, e⟩⟩
theorem nxT_eq {k : Bk} {b S : Nat → Int} {t u : Nat} (h : nxT k b S t) (h' : nxT k b S u) : t = u := Classical.byContradiction fun ne => (h.2.2 u h'.1 h'.2.1 fun e => ne e.symm).as (h'.2.2 t h.1 h.2.1 ne)
theorem ext.put {k : Bk} {b S : Nat → Int} {time last : Int} (h : ext k b S time last) {u : Nat} (hu : u < kN k) (hs : 0 ≤ S u) : (b u ≠ -1 → b u = S u ∧ plc S time last u) ∧ (b u = -1 → ¬ plc S time last u) := by
  obtain ⟨a, c⟩ := h u hu
  refine ⟨fun ne => ?_, fun e q => ?_⟩
  · have p : plc S time last u := Classical.byContradiction fun q => ne (c q)
    exact ⟨a p, p⟩
  · have := a q
    omega
theorem ext.next {k : Bk} {b S : Nat → Int} {time last : Int} (h : ext k b S time last) {t : Nat} (hn : nxT k b S t) (hS : ∀ u, u < kN k → 0 ≤ S u) : ext k (zu b t (S t)) S (S t) (t : Int) := fun u hu => by
  have np := (h.put hn.1 (hS t hn.1)).2 hn.2.1
  by_cases e : u = t
  · rw [e, zu_same]
    exact ⟨fun _ => rfl, fun q => absurd (Or.inr ⟨rfl, Int.le_refl _⟩) q⟩
  · rw [zu_other e]
    by_cases c : b u = -1
    · have bf := hn.2.2 u hu c e
      refine ⟨fun q => ?_, fun _ => c⟩
      unfold plc at q
      unfold bef at bf
      omega
    · obtain ⟨c1, c2⟩ := (h.put hu (hS u hu)).1 c
      refine ⟨fun _ => c1, fun q => absurd ?_ q⟩
      unfold plc at *
      omega
theorem tgY.next {k : Bk} (ho : kOk k) {H y : Int} {b S : Nat → Int} {time last : Int} {c t : Nat} (hS : tgY k H y S) (hb : lPI k H y b time c) (h : ext k b S time last) (hn : nxT k b S t) : isBg k H b t time (S t) ∧ (y ≠ 0 → ∀ u w, u < kN k → isBg k H b u time w → w ≠ -1 → S t ≤ w) ∧ ¬ plc S time last t := by
  obtain ⟨f1, f2, f3⟩ := hS
  obtain ⟨ht, h0, hmin⟩ := hn
  have nn := f1.1
  have np := (h.put ht (nn t ht)).2 h0
  have tS : time ≤ S t := by
    unfold plc at np
    omega
  -- those that begin ahead of t are put
  have inS : ∀ u, u < kN k → S u < S t → b u = S u ∧ b u ≠ -1 := fun u hu q => by
    by_cases e : b u = -1
    · have ne : u ≠ t := fun g => by
        rw [g] at q
        omega
      have bf := hmin u hu e ne
      unfold bef at bf
      omega
    · exact ⟨((h.put hu (nn u hu)).1 e).1, e⟩
  have lq : ∀ u z, u < kN k → letQ k b u z → letQ k S u z := fun u z hu q j hj e => by
    obtain ⟨q1, q2⟩ := q j hj e
    have e2 := ((h.put (ho.e hj) (nn _ (ho.e hj))).1 q1).1
    unfold lateB at *
    rw [← e2]
    exact ⟨q1, q2⟩
  -- who works at z ahead of S t is put and ends behind z
  have wkE : ∀ z, z < S t → cntP k S z ≤ cE k b z := fun z hz => zsum_le fun u hu => ci_le fun q => by
    obtain ⟨e, ne⟩ := inS u hu (by have := q.2.1; omega)
    rw [pe_p ne, e]
    exact q.2.2
  have first : y ≠ 0 → ∀ u w, u < kN k → isBg k H b u time w → w ≠ -1 → S t ≤ w := fun y0 u w hu hw wn => by
    obtain ⟨w0, w1, w2, w3, w4, -⟩ := hw.resolve_left fun q => wn q.1
    refine Int.not_lt.mp fun q => ?_
    have su : S t ≤ S u := by
      by_cases e : u = t
      · rw [e]
        exact Int.le_refl _
      · have bf := hmin u hu w1 e
        unfold bef at bf
        omega
    have a := f3 y0 u w hu w0 (by omega) (lq u w hu w2)
    have b2 := wkE w q
    omega
  refine ⟨Or.inr ⟨nn t ht, h0, fun j hj e => ?_, tS, ?_, fun z z1 z2 z3 => Int.not_lt.mp fun q => ?_⟩, first, np⟩
  · have q := (f1.2.1 t ht j hj e).2
    have l := ho.len (ho.e hj)
    have l2 := ho.g hj
    unfold lateB at q
    obtain ⟨e2, ne⟩ := inS (kE k j) (ho.e hj) (by omega)
    refine ⟨ne, ?_⟩
    unfold lateB
    rw [e2]
    exact q
  · have a := f1.2.2 (S t) (nn t ht)
    have l := ho.len ht
    have d := zsum_lt (f := fun u => ci (S t < pe k b u)) (g := fun u => ci (wk0 k S u (S t))) (n := kN k) (i := t) (fun u hu => ci_le fun q => by
      unfold pe at q
      by_cases e : b u = -1
      · rw [if_pos e] at q
        have := nn t ht
        omega
      · rw [if_neg e] at q
        obtain ⟨e2, pl⟩ := (h.put hu (nn u hu)).1 e
        have := nn u hu
        rw [e2] at q
        unfold plc at pl
        exact ⟨by omega, by omega, q⟩) ht (by
      show ci (S t < pe k b t) < ci (wk0 k S t (S t))
      rw [pe_f h0, ci_f (by have := nn t ht; omega), ci_p ⟨by have := nn t ht; omega, Int.le_refl _, by omega⟩]
      decide)
    unfold cE
    unfold cntP at a
    omega
  · by_cases y0 : y = 0
    · have tm := hb.1.1
      refine f2 y0 t z ht (by omega) z3 (fs_mv ho f1 ht ⟨by omega, z3⟩ (lq t z ht z2) fun x x1 x2 x3 => ?_)
      refine Int.lt_of_le_of_lt (zsum_le fun u hu => ci_le fun w => ?_) q
      obtain ⟨e, ne⟩ := inS u hu (by have := w.2.2.1; omega)
      rw [pe_p ne, e]
      have := w.2.2.2
      omega
    · have tm := hb.1.1
      have a := f3 y0 t z ht (by omega) z3 (lq t z ht z2)
      have b2 := wkE z z3
      omega
