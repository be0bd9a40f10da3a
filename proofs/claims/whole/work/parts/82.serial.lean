/-! ===== one after another ===== -/
theorem fh_late {P : Sp} (hP : okP P) {s : Ss} {t : Nat} {x : Int} (ht : t < kN (pK P)) (h : ∀ u, u < kN (pK P) → s.1 u ≠ -1 → s.1 u + pD P u ≤ x) : fhF P s t x ≠ -1 := by
  have nm : ∀ u, u < kN (pK P) → ¬ mts P s u x (x + pD P t) := fun u hu q => by
    have := h u hu q.1
    have := q.2.2
    omega
  have hH := hP.2.2.1 t ht
  unfold fhF
  have fm : fmc P s (pM P t) x (x + pD P t) := Or.inr fun u hu q => nm u hu q.2
  rw [cIf_p fm]
  intro e
  exact hdF_no e 0 (Int.le_refl _) (by omega) fun u hu q => nm u hu q.1
theorem fh_skip {P : Sp} {s : Ss} {t : Nat} {x y : Int} (hx : fhF P s t x = -1) (hy : x ≤ y) (he : ∀ u, u < kN (pK P) → s.1 u ≠ -1 → ¬ (x < s.1 u + pD P u ∧ s.1 u + pD P u ≤ y)) : fhF P s t y = -1 := by
  have mt : ∀ u, u < kN (pK P) → mts P s u x (x + pD P t) → mts P s u y (y + pD P t) := fun u hu q => by
    have a := he u hu q.1
    have b := q.2.1
    have c := q.2.2
    exact ⟨q.1, by omega, by omega⟩
  unfold fhF at *
  by_cases c : fmc P s (pM P t) y (y + pD P t)
  · rw [cIf_p c]
    have cx : fmc P s (pM P t) x (x + pD P t) := by
      rcases c with c | c
      · exact Or.inl c
      · exact Or.inr fun u hu q => c u hu ⟨q.1, mt u hu q.2⟩
    rw [cIf_p cx] at hx
    refine Classical.byContradiction fun g => ?_
    obtain ⟨d1, d2, d3⟩ := hdF_yes g
    exact hdF_no hx _ d1 d2 fun u hu q => d3 u hu ⟨mt u hu q.1, q.2⟩
  · rw [cIf_f c]
theorem ptF_mor (P : Sp) (x : Int) (t : Nat) (s : Ss) (h0 : s.1 t = -1) : mor P s (ptF P s t x) := fun u hu g => by
  unfold ptF
  by_cases c : fhF P s t x ≠ -1
  · rw [cIf_p c]
    have ne : u ≠ t := fun e => by
      rw [e] at g
      exact g h0
    exact ⟨zu_other ne, zu_other ne⟩
  · rw [cIf_f c]
    exact ⟨rfl, rfl⟩
theorem ptF_wf {P : Sp} (hP : okP P) {X x : Int} (hx : 0 ≤ x ∧ x ≤ X) {t : Nat} (ht : t < kN (pK P)) {s : Ss} (h : wfS P X s) (h0 : s.1 t = -1) (hl : letA P s.1 t x) : wfS P X (ptF P s t x) := by
  have mo := ptF_mor P x t s h0
  unfold ptF at mo ⊢
  by_cases c : fhF P s t x ≠ -1
  · rw [cIf_p c] at mo ⊢
    obtain ⟨h1, h2, h3⟩ := h
    have fm : fmc P s (pM P t) x (x + pD P t) := Classical.byContradiction fun g => c (by unfold fhF; exact cIf_f g)
    have ef : fhF P s t x = hdF P s (pS P t) x (x + pD P t) := cIf_p fm
    rw [ef] at c mo ⊢
    obtain ⟨d1, d2, d3⟩ := hdF_yes c
    generalize hdF P s (pS P t) x (x + pD P t) = h at *
    have cs : ∀ u, u ≠ t → zu s.1 t x u = s.1 u ∧ zu s.2 t h u = s.2 u := fun u e => ⟨zu_other e, zu_other e⟩
    have wo : ∀ u y, u ≠ t → wkS P (zu s.1 t x, zu s.2 t h) u y → wkS P s u y := fun u y e w => by
      unfold wkS at *
      rw [show (zu s.1 t x, zu s.2 t h).1 u = s.1 u from (cs u e).1] at w
      exact w
    have new : ∀ u y, u < kN (pK P) → u ≠ t → wkS P (zu s.1 t x, zu s.2 t h) t y → wkS P (zu s.1 t x, zu s.2 t h) u y → (pS P t = pS P u → h ≠ s.2 u) ∧ (0 ≤ pM P t → pM P t ≠ pM P u) := fun u y hu e w1 w2 => by
      have w3 := wo u y e w2
      have e1 : (zu s.1 t x, zu s.2 t h).1 t = x := zu_same _ _ _
      have a1 := w1.2.1
      have a2 := w1.2.2
      rw [e1] at a1 a2
      have mt : mts P s u x (x + pD P t) := ⟨w3.1, by have := w3.2.1; omega, by have := w3.2.2; omega⟩
      refine ⟨fun q1 q2 => d3 u hu ⟨mt, q2.symm, q1.symm⟩, fun q1 q2 => ?_⟩
      rcases fm with c4 | c4
      · omega
      · exact c4 u hu ⟨q2.symm, mt⟩
    refine ⟨fun u hu => ?_, fun u hu g => ?_, fun u v y hu hv huv w1 w2 => ?_⟩
    · by_cases e : u = t
      · rw [e]
        exact Or.inr (by show 0 ≤ zu s.1 t x t ∧ zu s.1 t x t ≤ X; rw [zu_same]; omega)
      · show zu s.1 t x u = -1 ∨ (0 ≤ zu s.1 t x u ∧ zu s.1 t x u ≤ X)
        rw [zu_other e]
        exact h1 u hu
    · by_cases e : u = t
      · rw [e]
        show letA P (zu s.1 t x) t (zu s.1 t x t) ∧ 0 ≤ zu s.2 t h t ∧ zu s.2 t h t < pH P (pS P t)
        rw [zu_same, zu_same]
        exact ⟨letA.mo hP (s' := (zu s.1 t x, zu s.2 t h)) mo hl, d1, d2⟩
      · have g' : s.1 u ≠ -1 := by
          rw [show (zu s.1 t x, zu s.2 t h).1 u = s.1 u from (cs u e).1] at g
          exact g
        obtain ⟨a, b⟩ := h2 u hu g'
        show letA P (zu s.1 t x) u (zu s.1 t x u) ∧ 0 ≤ zu s.2 t h u ∧ zu s.2 t h u < pH P (pS P u)
        rw [(cs u e).1, (cs u e).2]
        exact ⟨letA.mo hP (s' := (zu s.1 t x, zu s.2 t h)) mo a, b⟩
    · show (pS P u = pS P v → zu s.2 t h u ≠ zu s.2 t h v) ∧ (0 ≤ pM P u → pM P u ≠ pM P v)
      by_cases e : u = t
      · have e2 : v ≠ t := fun q => huv (e.trans q.symm)
        rw [e] at w1 ⊢
        rw [zu_same, (cs v e2).2]
        exact new v y hv e2 w1 w2
      · by_cases e2 : v = t
        · rw [e2] at w2 ⊢
          rw [zu_same, (cs u e).2]
          obtain ⟨a, b⟩ := new u y hu e w2 w1
          refine ⟨fun q1 q2 => a q1.symm q2.symm, fun q1 q2 => b (by omega) q2.symm⟩
        · rw [(cs u e).2, (cs v e2).2]
          exact h3 u v y hu hv huv (wo u y e w1) (wo v y e2 w2)
  · rw [cIf_f c]
    exact h
/-- the first of the list of which all that it needs are put -/
def isFu (P : Sp) (L : Nat → Nat) (s : Ss) (n : Nat) (y : Int) : Prop := (y = -1 ∧ ∀ v, v < n → s.1 (L v) ≠ -1 ∨ ltA P s.1 (L v) = -1) ∨ ∃ v, v < n ∧ y = (L v : Int) ∧ s.1 (L v) = -1 ∧ ltA P s.1 (L v) ≠ -1 ∧ ∀ w, w < v → s.1 (L w) ≠ -1 ∨ ltA P s.1 (L w) = -1
theorem isFu_eq {P : Sp} {L : Nat → Nat} {s : Ss} {n : Nat} {y z : Int} (h : isFu P L s n y) (h' : isFu P L s n z) : y = z := by
  rcases h with ⟨h1, h2⟩ | ⟨v, h1, h2, h3, h4, h5⟩
  · rcases h' with ⟨g1, g2⟩ | ⟨w, g1, g2, g3, g4, g5⟩
    · omega
    · rcases h2 w g1 with q | q
      · exact absurd g3 q
      · exact absurd q g4
  · rcases h' with ⟨g1, g2⟩ | ⟨w, g1, g2, g3, g4, g5⟩
    · rcases g2 v h1 with q | q
      · exact absurd h3 q
      · exact absurd q h4
    · by_cases c : v < w
      · rcases g5 v c with q | q
        · exact absurd h3 q
        · exact absurd q h4
      · by_cases d : w < v
        · rcases h5 w d with q | q
          · exact absurd g3 q
          · exact absurd q g4
        · rw [show v = w by omega] at h2
          omega
theorem isFu_ex (P : Sp) (L : Nat → Nat) (s : Ss) : ∀ n, ∃ y, isFu P L s n y := by
  intro n
  induction n with
  | zero => exact ⟨-1, Or.inl ⟨rfl, fun v hv => absurd hv (Nat.not_lt_zero _)⟩⟩
  | succ n ih =>
    obtain ⟨y, hy⟩ := ih
    rcases hy with ⟨h1, h2⟩ | ⟨v, h1, h2, h3, h4, h5⟩
    · by_cases c : s.1 (L n) ≠ -1 ∨ ltA P s.1 (L n) = -1
      · refine ⟨-1, Or.inl ⟨rfl, fun v hv => ?_⟩⟩
        by_cases e : v = n
        · rw [e]
          exact c
        · exact h2 v (by omega)
      · exact ⟨(L n : Int), Or.inr ⟨n, Nat.lt_succ_self _, rfl, Classical.byContradiction fun g => c (Or.inl g), fun g => c (Or.inr g), fun w hw => h2 w hw⟩⟩
    · exact ⟨y, Or.inr ⟨v, by omega, h2, h3, h4, h5⟩⟩
noncomputable def fuF (P : Sp) (L : Nat → Nat) (s : Ss) : Int := Classical.epsilon (isFu P L s (kN (pK P)))
theorem fuF_is (P : Sp) (L : Nat → Nat) (s : Ss) : isFu P L s (kN (pK P)) (fuF P L s) := Classical.epsilon_spec (p := isFu P L s (kN (pK P))) (isFu_ex P L s _)
/-- the first hour from its let on in which it can be put -/
def isFt (P : Sp) (s : Ss) (t : Nat) (x : Int) : Prop := ltA P s.1 t ≤ x ∧ fhF P s t x ≠ -1 ∧ ∀ y, ltA P s.1 t ≤ y → y < x → fhF P s t y = -1
theorem isFt_eq {P : Sp} {s : Ss} {t : Nat} {x y : Int} (h : isFt P s t x) (h' : isFt P s t y) : x = y := by
  by_cases c : x < y
  · exact absurd (h'.2.2 x h.1 c) h.2.1
  · by_cases d : y < x
    · exact absurd (h.2.2 y h'.1 d) h'.2.1
    · omega
theorem isFt_ex {P : Sp} (hP : okP P) {s : Ss} {t : Nat} {E : Int} (ht : t < kN (pK P)) (hE : ∀ u, u < kN (pK P) → s.1 u ≠ -1 → s.1 u + pD P u ≤ E) (hL : ltA P s.1 t ≤ E) : ∃ x, isFt P s t x ∧ x ≤ E := by
  suffices key : ∀ m : Nat, ∀ x, x + m = E → ltA P s.1 t ≤ x → (∀ y, ltA P s.1 t ≤ y → y < x → fhF P s t y = -1) → ∃ x, isFt P s t x ∧ x ≤ E from key (E - ltA P s.1 t).toNat (ltA P s.1 t) (by omega) (Int.le_refl _) fun y y1 y2 => by omega
  intro m
  induction m with
  | zero =>
    intro x hx h1 h2
    exact ⟨x, ⟨h1, fh_late hP ht fun u hu g => by have := hE u hu g; omega, h2⟩, by omega⟩
  | succ m ih =>
    intro x hx h1 h2
    by_cases c : fhF P s t x = -1
    · refine ih (x + 1) (by omega) (by omega) fun y y1 y2 => ?_
      by_cases e : y = x
      · rw [e]
        exact c
      · exact h2 y y1 (by omega)
    · exact ⟨x, ⟨h1, c, h2⟩, by omega⟩
noncomputable def ftF (P : Sp) (s : Ss) (t : Nat) : Int := Classical.epsilon (isFt P s t)
theorem ftF_of {P : Sp} {s : Ss} {t : Nat} {x : Int} (h : isFt P s t x) : x = ftF P s t := isFt_eq h (Classical.epsilon_spec (p := isFt P s t) ⟨x, h⟩)
/-- n tasks one after another -/
noncomputable def srF (P : Sp) (L : Nat → Nat) : Nat → Ss
  | 0 => s00
  | n + 1 => cIf (fuF P L (srF P L n) = -1) (srF P L n) (ptF P (srF P L n) (fuF P L (srF P L n)).toNat (ftF P (srF P L n) (fuF P L (srF P L n)).toNat))
noncomputable def srE (P : Sp) (L : Nat → Nat) : Ss := srF P L (kN (pK P))
/-- the state is right, all ends are at most E -/
def srOk (P : Sp) (E : Int) (s : Ss) : Prop := wfS P E s ∧ ∀ u, u < kN (pK P) → s.1 u ≠ -1 → s.1 u + pD P u ≤ E
theorem lt_le {P : Sp} (hP : okP P) {s : Ss} {t : Nat} {E : Int} (hE : 0 ≤ E ∧ ∀ u, u < kN (pK P) → s.1 u ≠ -1 → s.1 u + pD P u ≤ E) : ltA P s.1 t ≤ E + 30 := by
  rcases ltF_is P s.1 t (kM (pK P)) with ⟨q, -⟩ | ⟨q1, q2, q3⟩
  · have : ltA P s.1 t = -1 := q
    omega
  · have eL : ltF P s.1 t (kM (pK P)) = ltA P s.1 t := rfl
    rw [eL] at q3 q2
    rcases q3 with q3 | ⟨j, j1, j2, j3⟩
    · omega
    · have a := hE.2 _ (hP.1.e j1) (q2 j j1 j2).1
      have c := hP.1.g j1
      unfold ltB at j3
      omega
theorem lt_ge {P : Sp} {s : Ss} {t : Nat} (h : ltA P s.1 t ≠ -1) : 0 ≤ ltA P s.1 t := by
  rcases ltF_is P s.1 t (kM (pK P)) with ⟨q, -⟩ | ⟨q1, -, -⟩
  · exact absurd q h
  · exact q1
theorem srF_step {P : Sp} (hP : okP P) {L : Nat → Nat} (hL : okL P L) {E : Int} (hE : 0 ≤ E) {s : Ss} (h : srOk P E s) {t : Nat} (hf : fuF P L s = (t : Int)) : t < kN (pK P) ∧ s.1 t = -1 ∧ ltA P s.1 t ≠ -1 ∧ isFt P s t (ftF P s t) ∧ 0 ≤ ftF P s t ∧ ftF P s t ≤ E + 30 ∧ srOk P (E + 90) (ptF P s t (ftF P s t)) := by
  have fu := fuF_is P L s
  rw [hf] at fu
  rcases fu with ⟨q, -⟩ | ⟨v, v1, v2, v3, v4, -⟩
  · omega
  · have et : L v = t := by omega
    have ht : t < kN (pK P) := by
      rw [← et]
      exact hL.1 v v1
    rw [et] at v3 v4
    have l1 := lt_le (t := t) hP ⟨hE, h.2⟩
    have l2 := lt_ge v4
    obtain ⟨x, x1, x2⟩ := isFt_ex hP ht (E := E + 30) (fun u hu g => by have := h.2 u hu g; omega) l1
    have ex := ftF_of x1
    rw [ex] at x1 x2
    have x3 := x1.1
    have lt := (ltA_let (P := P) (b := s.1) (t := t) (x := ftF P s t) (by omega)).mp ⟨v4, x3⟩
    refine ⟨ht, v3, v4, x1, by omega, x2, ptF_wf hP (by omega) ht (h.1.up (by omega)) v3 lt, fun u hu g => ?_⟩
    have hD := hP.2.1 t ht
    unfold ptF at g ⊢
    rw [cIf_p x1.2.1] at g ⊢
    have g' : zu s.1 t (ftF P s t) u ≠ -1 := g
    show zu s.1 t (ftF P s t) u + pD P u ≤ E + 90
    by_cases e : u = t
    · rw [e, zu_same]
      omega
    · rw [zu_other e] at g' ⊢
      have := h.2 u hu g'
      omega
theorem srF_ok {P : Sp} (hP : okP P) {L : Nat → Nat} (hL : okL P L) : ∀ n : Nat, srOk P (90 * (n : Int)) (srF P L n) := by
  intro n
  induction n with
  | zero => exact ⟨⟨fun t _ => Or.inl rfl, fun t _ g => absurd rfl g, fun t u y _ _ _ w => absurd rfl w.1⟩, fun u _ g => absurd rfl g⟩
  | succ n ih =>
    show srOk P (90 * ((n + 1 : Nat) : Int)) (cIf (fuF P L (srF P L n) = -1) (srF P L n) (ptF P (srF P L n) (fuF P L (srF P L n)).toNat (ftF P (srF P L n) (fuF P L (srF P L n)).toNat)))
    by_cases c : fuF P L (srF P L n) = -1
    · rw [cIf_p c]
      exact ⟨ih.1.up (by omega), fun u hu g => by have := ih.2 u hu g; omega⟩
    · rw [cIf_f c]
      have fr : 0 ≤ fuF P L (srF P L n) := by
        rcases fuF_is P L (srF P L n) with ⟨q, -⟩ | ⟨v, v1, v2, -⟩
        · exact absurd q c
        · omega
      have st := srF_step hP hL (E := 90 * (n : Int)) (by omega) ih (t := (fuF P L (srF P L n)).toNat) (by omega)
      rw [show 90 * ((n + 1 : Nat) : Int) = 90 * (n : Int) + 90 by omega]
      exact st.2.2.2.2.2.2
theorem fuF_all {P : Sp} (hP : okP P) {L : Nat → Nat} (hL : okL P L) {s : Ss} : fuF P L s = -1 ↔ allB P s := by
  have fu := fuF_is P L s
  constructor
  · intro e t ht h0
    rcases fu with ⟨-, q⟩ | ⟨v, v1, v2, -⟩
    · obtain ⟨pos, p1, p2⟩ := kPos hP.1
      have mn : ∀ m t, pos t < m → t < kN (pK P) → s.1 t = -1 → False := by
        intro m
        induction m with
        | zero => exact fun t ht => absurd ht (Nat.not_lt_zero _)
        | succ m ih =>
          intro t hp ht h0
          obtain ⟨v, v1, v2⟩ := hL.2 t ht
          rcases q v v1 with g | g
          · rw [v2] at g
            exact g h0
          · rw [v2] at g
            rcases ltF_is P s.1 t (kM (pK P)) with ⟨-, j, j1, j2, j3⟩ | ⟨q1, -, -⟩
            · have := p2 j j1
              rw [j2.1] at this
              exact ih _ (by omega) (hP.1.e j1) j3
            · have eL : ltF P s.1 t (kM (pK P)) = ltA P s.1 t := rfl
              omega
      exact mn _ t (Nat.lt_succ_self _) ht h0
    · omega
  · intro h
    rcases fu with ⟨q, -⟩ | ⟨v, v1, v2, v3, -⟩
    · exact q
    · exact absurd v3 (h _ (hL.1 v v1))
theorem srF_cnt {P : Sp} (hP : okP P) {L : Nat → Nat} (hL : okL P L) : ∀ n, n ≤ kN (pK P) → cntS P (srF P L n) + n = kN (pK P) := by
  intro n
  induction n with
  | zero =>
    intro _
    have := zsum_bound (f := fun _ => (1 : Int)) (n := kN (pK P)) (a := 1) (b := 1) fun i _ => by omega
    have e : cntS P (srF P L 0) = zsum (fun _ => (1 : Int)) (kN (pK P)) := zsum_eq fun i _ => rfl
    omega
  | succ n ih =>
    intro hn
    have h := ih (by omega)
    have nz : fuF P L (srF P L n) ≠ -1 := fun e => by
      have := cntS_all.mpr ((fuF_all hP hL).mp e)
      omega
    have fr : 0 ≤ fuF P L (srF P L n) := by
      rcases fuF_is P L (srF P L n) with ⟨q, -⟩ | ⟨v, v1, v2, -⟩
      · exact absurd q nz
      · omega
    have st := srF_step hP hL (E := 90 * (n : Int)) (by omega) (srF_ok hP hL n) (t := (fuF P L (srF P L n)).toNat) (by omega)
    show cntS P (cIf (fuF P L (srF P L n) = -1) (srF P L n) (ptF P (srF P L n) (fuF P L (srF P L n)).toNat (ftF P (srF P L n) (fuF P L (srF P L n)).toNat))) + _ = _
    rw [cIf_f nz]
    unfold ptF
    rw [cIf_p st.2.2.2.1.2.1, cntS_put st.1 st.2.1 (by omega)]
    omega
theorem srE_all {P : Sp} (hP : okP P) {L : Nat → Nat} (hL : okL P L) : allB P (srE P L) := cntS_all.mp (by
  have := srF_cnt hP hL (kN (pK P)) (Nat.le_refl _)
  show cntS P (srF P L (kN (pK P))) ≤ 0
  omega)
