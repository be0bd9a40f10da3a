/-! ===== the state stays right ===== -/
theorem cIf_k {P : St → Prop} {c : Prop} {a b : Ou} (ha : c → P a.2.2) (hb : ¬ c → P b.2.2) : P (cIf c a b).2.2 := by
  by_cases h : c
  · rw [cIf_p h]
    exact ha h
  · rw [cIf_f h]
    exact hb h
theorem pIf_k {P : St → Prop} {σ : St} {f : Pl → Ou} (h : P σ) (hf : ∀ p, sP σ = some p → P (f p).2.2) : P (pIf σ f).2.2 := by
  cases e : sP σ with
  | none =>
    rw [pIf_n e]
    exact h
  | some p =>
    rw [pIf_s e]
    exact hf p e
theorem okS.kp {σ : St} {k : Bk} (h : okS σ) (hk : kOk k) (hn : kN (sK σ) ≤ kN k) : okS (stK (stKeep σ) k) := ⟨hk, ⟨Nat.min_le_right _ _, fun i hi => by
  have hi : i < min (sHn σ + 1) 10 := hi
  show kOk (kpush (sHb σ) (sK σ) i)
  unfold kpush
  by_cases e : i = 0
  · rw [if_pos e]
    exact h.1
  · rw [if_neg e]
    exact h.2.1.2 _ (by omega)⟩, h.2.2.1, h.2.2.2.1, h.2.2.2.2.1, ⟨h.2.2.2.2.2.1.1, fun i hi => Nat.lt_of_lt_of_le (h.2.2.2.2.2.1.2.1 i hi) hn, h.2.2.2.2.2.1.2.2⟩, (fun p hp => absurd (show (none : Option Pl) = some p from hp) (fun q => nomatch q)), h.2.2.2.2.2.2.2⟩
theorem okS.kp0 {σ : St} {k : Bk} (h : okS σ) (hk : kOk k) (t : Nat → Nat) : okS (stT (stK (stKeep σ) k) 0 t) := ⟨hk, ⟨Nat.min_le_right _ _, fun i hi => by
  have hi : i < min (sHn σ + 1) 10 := hi
  show kOk (kpush (sHb σ) (sK σ) i)
  unfold kpush
  by_cases e : i = 0
  · rw [if_pos e]
    exact h.1
  · rw [if_neg e]
    exact h.2.1.2 _ (by omega)⟩, h.2.2.1, h.2.2.2.1, h.2.2.2.2.1, ⟨Nat.zero_le _, fun i hi => absurd hi (Nat.not_lt_zero _), fun i j hi => absurd hi (Nat.not_lt_zero _)⟩, (fun p hp => absurd (show (none : Option Pl) = some p from hp) (fun q => nomatch q)), h.2.2.2.2.2.2.2⟩
theorem kSet_ok {k : Bk} {r t : Nat} {x : Int} (ho : kOk k) (hr : r < 8) (ht : t < kN k) (hx : zLow r ≤ x ∧ x ≤ zHigh r) (hc : r = 0 → canL k t x) : kOk (kSet k r t x) := by
  refine ⟨ho.1, fun u hu => ?_, ho.2.2.1, ho.2.2.2.1, ho.2.2.2.2⟩
  have h := ho.2.1 u hu
  have st : ∀ i, kF (kSet k r t x) i u = if i = r ∧ u = t then x else kF k i u := fun i => rfl
  by_cases e : u = t
  · have z : (zLow 0 = 1 ∧ zHigh 0 = 60) ∧ (zLow 1 = 0 ∧ zHigh 1 = 2) ∧ (zLow 2 = -1 ∧ zHigh 2 = 2) ∧ (zLow 3 = 0 ∧ zHigh 3 = 3) ∧ (zLow 4 = 0 ∧ zHigh 4 = 1) ∧ (zLow 5 = 0 ∧ zHigh 5 = 1) ∧ (zLow 6 = 0 ∧ zHigh 6 = 9999) ∧ (zLow 7 = 0 ∧ zHigh 7 = 100) := by decide +kernel
    have ne : ∀ i, i ≠ r → kF (kSet k r t x) i u = kF k i u := fun i hi => by rw [st i, if_neg (fun q => hi q.1)]
    have eq : kF (kSet k r t x) r u = x := by rw [st r, if_pos ⟨rfl, e⟩]
    have h8 : r = 0 ∨ r = 1 ∨ r = 2 ∨ r = 3 ∨ r = 4 ∨ r = 5 ∨ r = 6 ∨ r = 7 := by omega
    have cl : r = 0 → kF k 8 u < x ∧ (0 < kF k 10 u → kF k 10 u ≤ x ∧ x ≤ kF k 11 u) := fun q => by
      have := hc q
      unfold canL at this
      rw [e]
      exact this
    rcases h8 with q | q | q | q | q | q | q | q <;> subst q
    · rw [eq, ne 1 (by decide), ne 2 (by decide), ne 3 (by decide), ne 4 (by decide), ne 5 (by decide), ne 6 (by decide), ne 7 (by decide), ne 8 (by decide), ne 9 (by decide), ne 10 (by decide), ne 11 (by decide)]
      have c := cl rfl
      omega
    all_goals rw [ne 0 (by decide), ne 8 (by decide), ne 9 (by decide), ne 10 (by decide), ne 11 (by decide)]
    · rw [eq, ne 2 (by decide), ne 3 (by decide), ne 4 (by decide), ne 5 (by decide), ne 6 (by decide), ne 7 (by decide)]
      omega
    · rw [eq, ne 1 (by decide), ne 3 (by decide), ne 4 (by decide), ne 5 (by decide), ne 6 (by decide), ne 7 (by decide)]
      omega
    · rw [eq, ne 1 (by decide), ne 2 (by decide), ne 4 (by decide), ne 5 (by decide), ne 6 (by decide), ne 7 (by decide)]
      omega
    · rw [eq, ne 1 (by decide), ne 2 (by decide), ne 3 (by decide), ne 5 (by decide), ne 6 (by decide), ne 7 (by decide)]
      omega
    · rw [eq, ne 1 (by decide), ne 2 (by decide), ne 3 (by decide), ne 4 (by decide), ne 6 (by decide), ne 7 (by decide)]
      omega
    · rw [eq, ne 1 (by decide), ne 2 (by decide), ne 3 (by decide), ne 4 (by decide), ne 5 (by decide), ne 7 (by decide)]
      omega
    · rw [eq, ne 1 (by decide), ne 2 (by decide), ne 3 (by decide), ne 4 (by decide), ne 5 (by decide), ne 6 (by decide)]
      omega
  · have ne : ∀ i, kF (kSet k r t x) i u = kF k i u := fun i => by rw [st i, if_neg (fun q => e q.2)]
    rw [ne 0, ne 1, ne 2, ne 3, ne 4, ne 5, ne 6, ne 7, ne 8, ne 9, ne 10, ne 11]
    exact h
theorem k_task {σ : St} {x : Int} (h : okS σ) : okS (o_task σ x).2.2 := cIf_k (fun c => cIf_k (fun d => h.kp (kAdd_ok h.1 c d) (Nat.le_succ _)) fun _ => h) fun _ => h
theorem k_set {σ : St} {t c x : Int} (h : okS σ) : okS (o_set σ t c x).2.2 := cIf_k (fun g => cIf_k (fun d => h.kp (kSet_ok h.1 (by
  have := zIdx_r 0 c
  have hl : zLen 0 = 8 := rfl
  omega) (by omega) ⟨d.2.1, d.2.2.1⟩ fun q => d.2.2.2 (by omega)) (Nat.le_refl _)) fun _ => h) fun _ => h
theorem k_need {σ : St} {x y z : Int} (h : okS σ) : okS (o_need σ x y z).2.2 := cIf_k (fun g => cIf_k (fun d => cIf_k (fun e => h.kp (kPut_ok h.1 (by omega) (by omega) d.1 e (fun q => by
  have := hasB_p q
  have d2 := d.2.1
  rw [show ((x.toNat : Nat) : Int) = x by omega, show ((y.toNat : Nat) : Int) = y by omega] at this
  omega) (by
  have := (rgV_r (k := sK σ) (x := x.toNat) (y := y.toNat) (by omega)).1
  have := d.2.2
  omega)) (Nat.le_refl _)) fun _ => h) fun _ => h) fun _ => h
theorem k_dropNeed {σ : St} {x : Int} (h : okS σ) : okS (o_dropNeed σ x).2.2 := cIf_k (fun g => h.kp (kDel_ok h.1 (by omega)) (Nat.le_refl _)) fun _ => h
theorem k_undo {σ : St} (h : okS σ) : okS (o_undo σ).2.2 := cIf_k (fun _ => h) fun c => ⟨h.2.1.2 0 (by omega), ⟨show sHn σ - 1 ≤ 10 by have := h.2.1.1; omega, fun i hi => h.2.1.2 (i + 1) (by have hi : i < sHn σ - 1 := hi; omega)⟩, h.2.2.1, h.2.2.2.1, h.2.2.2.2.1, ⟨Nat.zero_le _, fun i hi => absurd hi (Nat.not_lt_zero _), fun i j hi => absurd hi (Nat.not_lt_zero _)⟩, (fun p hp => absurd (show (none : Option Pl) = some p from hp) (fun q => nomatch q)), h.2.2.2.2.2.2.2⟩
theorem k_type {σ : St} {c : Int} (h : okS σ) : okS (o_type σ c).2.2 := cIf_k (fun g => cIf_k (fun d => ⟨h.1, h.2.1, ⟨d, fun i hi => by
  have hi : i < sXn σ + 1 := hi
  show 32 ≤ zu (sXs σ) (sXn σ) c i ∧ zu (sXs σ) (sXn σ) c i ≤ 126
  by_cases e : i = sXn σ
  · rw [e, zu_same]
    exact g
  · rw [zu_other e]
    exact h.2.2.1.2 i (by omega)⟩, h.2.2.2⟩) fun _ => h) fun _ => h
theorem k_erase {σ : St} (h : okS σ) : okS (o_erase σ).2.2 := h.x
theorem k_read {σ : St} (h : okS σ) : okS (o_read σ).2.2 := cIf_k (fun c => h.x.kp0 (by
  rcases pText_r (sXn σ) (sXs σ) with ⟨-, q1, -, q2⟩ | ⟨q1, -⟩
  · exact q1.k (by have := h.2.2.1.1; omega)
  · omega) _) fun _ => h.x
theorem k_hours {σ : St} {x y z q : Int} (h : okS σ) (hq : q = 0 ∨ q = 1) : okS (o_hours σ x y z q).2.2 := cIf_k (fun g => cIf_k (fun d => ⟨h.1, h.2.1, h.2.2.1, fun c hc => by
  have w := h.2.2.2.1 c hc
  show (∀ i, i < 168 → newW (sW σ) x.toNat y.toNat z.toNat q c i = 0 ∨ newW (sW σ) x.toNat y.toNat z.toNat q c i = 1) ∧ ∃ i, i < 168 ∧ newW (sW σ) x.toNat y.toNat z.toNat q c i = 1
  by_cases e : c = x.toNat
  · rw [e]
    rw [e] at w
    have w1 := newW_01 (c := x.toNat) (y := y.toNat) (z := z.toNat) (q := q) (W := sW σ) w.1 hq
    refine ⟨w1, ?_⟩
    obtain ⟨i, hi, ne⟩ := zsum_zero (fun i hi => by rcases w1 i hi with r | r <;> omega) (show zsum (newW (sW σ) x.toNat y.toNat z.toNat q x.toNat) 168 ≠ 0 by omega)
    exact ⟨i, hi, (w1 i hi).resolve_left ne⟩
  · have ne : ∀ i, newW (sW σ) x.toNat y.toNat z.toNat q c i = sW σ c i := fun i => if_neg fun r => e r.1
    refine ⟨fun i hi => by rw [ne i]; exact w.1 i hi, ?_⟩
    obtain ⟨i, hi, w2⟩ := w.2
    exact ⟨i, hi, by rw [ne i]; exact w2⟩, h.2.2.2.2⟩) fun _ => h) fun _ => h
theorem k_hands {σ : St} {x y : Int} (h : okS σ) : okS (o_hands σ x y).2.2 := cIf_k (fun g => ⟨h.1, h.2.1, h.2.2.1, h.2.2.2.1, fun s hs => by
  show 1 ≤ zu (sA σ) x.toNat y s ∧ zu (sA σ) x.toNat y s ≤ 5
  by_cases e : s = x.toNat
  · rw [e, zu_same]
    exact g.2
  · rw [zu_other e]
    exact h.2.2.2.2.1 s hs, h.2.2.2.2.2⟩) fun _ => h
theorem inj_le {f : Nat → Nat} {a b : Nat} (h : ∀ i, i < a → f i < b) (hi : ∀ i j, i < a → j < a → f i = f j → i = j) : a ≤ b := by
  have e : zsum (fun i => zsum (fun j => ci (f i = j)) b) a = (a : Int) := by
    rw [zsum_eq (g := fun _ => 1) fun i hia => ?_, zsum_1]
    have l := zsum_ci_1 (Q := fun j => f i = j) (n := b) fun x y _ _ p q => p.symm.trans q
    have g := zsum_ci_e (Q := fun j => f i = j) (n := b) (h i hia) rfl
    omega
  rw [zsum_swap] at e
  have l := zsum_le (f := fun j => zsum (fun i => ci (f i = j)) a) (g := fun _ => 1) (n := b) fun j _ => zsum_ci_1 (Q := fun i => f i = j) (n := a) fun x y hx hy p q => hi x y hx hy (p.trans q.symm)
  rw [zsum_1] at l
  omega
theorem k_list {σ : St} {t : Int} (h : okS σ) : okS (o_list σ t).2.2 := cIf_k (fun g => cIf_k (fun d => by
  obtain ⟨t1, t2, t3⟩ := h.2.2.2.2.2.1
  have a1 : ∀ i, i < sTn σ + 1 → zu (sTs σ) (sTn σ) t.toNat i < kN (sK σ) := fun i hi => by
    by_cases e : i = sTn σ
    · rw [e, zu_same]
      omega
    · rw [zu_other e]
      exact t2 i (by omega)
  have a2 : ∀ i j, i < sTn σ + 1 → j < sTn σ + 1 → zu (sTs σ) (sTn σ) t.toNat i = zu (sTs σ) (sTn σ) t.toNat j → i = j := fun i j hi hj q => by
    by_cases e : i = sTn σ
    · by_cases e2 : j = sTn σ
      · exact e.trans e2.symm
      · rw [e, zu_same, zu_other e2] at q
        exact absurd q.symm (d j (by omega))
    · by_cases e2 : j = sTn σ
      · rw [e2, zu_same, zu_other e] at q
        exact absurd q (d i (by omega))
      · rw [zu_other e, zu_other e2] at q
        exact t3 i j (by omega) (by omega) q
  exact ⟨h.1, h.2.1, h.2.2.1, h.2.2.2.1, h.2.2.2.2.1, ⟨Nat.le_trans (inj_le a1 a2) h.1.n, a1, a2⟩, h.2.2.2.2.2.2⟩) fun _ => h) fun _ => h
theorem k_wipe {σ : St} (h : okS σ) : okS (o_wipe σ).2.2 := ⟨h.1, h.2.1, h.2.2.1, h.2.2.2.1, h.2.2.2.2.1, ⟨Nat.zero_le _, fun i hi => absurd hi (Nat.not_lt_zero _), fun i j hi => absurd hi (Nat.not_lt_zero _)⟩, h.2.2.2.2.2.2⟩
theorem k_plan {σ : St} {c y : Int} (h : okS σ) : okS (o_plan σ c y).2.2 := cIf_k (fun g => by
  obtain ⟨L, hL⟩ := isLs_ex (lk σ c) (kN (sK σ))
  have okL : okL (sP0 σ) (vLs σ c) := isLs.okL (P := sP0 σ) (vLs_ok hL).1
  exact ⟨h.1, h.2.1, h.2.2.1, h.2.2.2.1, h.2.2.2.2.1, h.2.2.2.2.2.1, fun p hp => by
    obtain rfl : vPl σ c y = p := Option.some.inj hp
    exact vPl_ok h okL, h.2.2.2.2.2.2.2⟩) fun _ => h
theorem k_shorten {σ : St} {t x y : Int} (h : okS σ) : okS (o_shorten σ t x y).2.2 := cIf_k (fun g => cIf_k (fun d => h.kp (kSh8_ok h.1 d.1 d.2) (Nat.le_refl _)) fun _ => h) fun _ => h
theorem k_guess {σ : St} {t x y : Int} (h : okS σ) : okS (o_guess σ t x y).2.2 := cIf_k (fun g => cIf_k (fun d => h.kp (kSh10_ok h.1 d.1 d.2) (Nat.le_refl _)) fun _ => h) fun _ => h
theorem k_keep {σ : St} (h : okS σ) : okS (o_keep σ).2.2 := ⟨h.1, h.2.1, h.2.2.1, h.2.2.2.1, h.2.2.2.2.1, h.2.2.2.2.2.1, h.2.2.2.2.2.2.1, ⟨h.1.n, fun i hi => (eOk_all h.1).e h.1 hi⟩⟩
theorem k_of {σ : St} {t c : Int} (h : okS σ) : okS (o_of σ t c).2.2 := by
  unfold o_of
  repeat' first
    | exact h
    | (refine cIf_k (fun _ => ?_) fun _ => ?_)
    | (refine pIf_k h fun p _ => ?_)
theorem k_tasks {σ : St} (h : okS σ) : okS (o_tasks σ).2.2 := by
  unfold o_tasks
  repeat' first
    | exact h
    | (refine cIf_k (fun _ => ?_) fun _ => ?_)
    | (refine pIf_k h fun p _ => ?_)
theorem k_needs {σ : St} (h : okS σ) : okS (o_needs σ).2.2 := by
  unfold o_needs
  repeat' first
    | exact h
    | (refine cIf_k (fun _ => ?_) fun _ => ?_)
    | (refine pIf_k h fun p _ => ?_)
theorem k_needAt {σ : St} {x c : Int} (h : okS σ) : okS (o_needAt σ x c).2.2 := by
  unfold o_needAt
  repeat' first
    | exact h
    | (refine cIf_k (fun _ => ?_) fun _ => ?_)
    | (refine pIf_k h fun p _ => ?_)
theorem k_ring {σ : St} {x y : Int} (h : okS σ) : okS (o_ring σ x y).2.2 := by
  unfold o_ring
  repeat' first
    | exact h
    | (refine cIf_k (fun _ => ?_) fun _ => ?_)
    | (refine pIf_k h fun p _ => ?_)
theorem k_signAt {σ : St} {x : Int} (h : okS σ) : okS (o_signAt σ x).2.2 := by
  unfold o_signAt
  repeat' first
    | exact h
    | (refine cIf_k (fun _ => ?_) fun _ => ?_)
    | (refine pIf_k h fun p _ => ?_)
theorem k_earliest {σ : St} {t : Int} (h : okS σ) : okS (o_earliest σ t).2.2 := by
  unfold o_earliest
  repeat' first
    | exact h
    | (refine cIf_k (fun _ => ?_) fun _ => ?_)
    | (refine pIf_k h fun p _ => ?_)
theorem k_latest {σ : St} {t : Int} (h : okS σ) : okS (o_latest σ t).2.2 := by
  unfold o_latest
  repeat' first
    | exact h
    | (refine cIf_k (fun _ => ?_) fun _ => ?_)
    | (refine pIf_k h fun p _ => ?_)
theorem k_end {σ : St} (h : okS σ) : okS (o_end σ).2.2 := by
  unfold o_end
  repeat' first
    | exact h
    | (refine cIf_k (fun _ => ?_) fun _ => ?_)
    | (refine pIf_k h fun p _ => ?_)
theorem k_rest {σ : St} {t : Int} (h : okS σ) : okS (o_rest σ t).2.2 := by
  unfold o_rest
  repeat' first
    | exact h
    | (refine cIf_k (fun _ => ?_) fun _ => ?_)
    | (refine pIf_k h fun p _ => ?_)
theorem k_slack {σ : St} {t c : Int} (h : okS σ) : okS (o_slack σ t c).2.2 := by
  unfold o_slack
  repeat' first
    | exact h
    | (refine cIf_k (fun _ => ?_) fun _ => ?_)
    | (refine pIf_k h fun p _ => ?_)
theorem k_chains {σ : St} (h : okS σ) : okS (o_chains σ).2.2 := by
  unfold o_chains
  repeat' first
    | exact h
    | (refine cIf_k (fun _ => ?_) fun _ => ?_)
    | (refine pIf_k h fun p _ => ?_)
theorem k_chainLength {σ : St} (h : okS σ) : okS (o_chainLength σ).2.2 := by
  unfold o_chainLength
  repeat' first
    | exact h
    | (refine cIf_k (fun _ => ?_) fun _ => ?_)
    | (refine pIf_k h fun p _ => ?_)
theorem k_chainAt {σ : St} {x : Int} (h : okS σ) : okS (o_chainAt σ x).2.2 := by
  unfold o_chainAt
  repeat' first
    | exact h
    | (refine cIf_k (fun _ => ?_) fun _ => ?_)
    | (refine pIf_k h fun p _ => ?_)
theorem k_isWork {σ : St} {x y : Int} (h : okS σ) : okS (o_isWork σ x y).2.2 := by
  unfold o_isWork
  repeat' first
    | exact h
    | (refine cIf_k (fun _ => ?_) fun _ => ?_)
    | (refine pIf_k h fun p _ => ?_)
theorem k_clockBegin {σ : St} {t : Int} (h : okS σ) : okS (o_clockBegin σ t).2.2 := by
  unfold o_clockBegin
  repeat' first
    | exact h
    | (refine cIf_k (fun _ => ?_) fun _ => ?_)
    | (refine pIf_k h fun p _ => ?_)
theorem k_clockEnd {σ : St} {t : Int} (h : okS σ) : okS (o_clockEnd σ t).2.2 := by
  unfold o_clockEnd
  repeat' first
    | exact h
    | (refine cIf_k (fun _ => ?_) fun _ => ?_)
    | (refine pIf_k h fun p _ => ?_)
theorem k_clockAll {σ : St} (h : okS σ) : okS (o_clockAll σ).2.2 := by
  unfold o_clockAll
  repeat' first
    | exact h
    | (refine cIf_k (fun _ => ?_) fun _ => ?_)
    | (refine pIf_k h fun p _ => ?_)
theorem k_listed {σ : St} {c x : Int} (h : okS σ) : okS (o_listed σ c x).2.2 := by
  unfold o_listed
  repeat' first
    | exact h
    | (refine cIf_k (fun _ => ?_) fun _ => ?_)
    | (refine pIf_k h fun p _ => ?_)
theorem k_planBegin {σ : St} {t : Int} (h : okS σ) : okS (o_planBegin σ t).2.2 := by
  unfold o_planBegin
  repeat' first
    | exact h
    | (refine cIf_k (fun _ => ?_) fun _ => ?_)
    | (refine pIf_k h fun p _ => ?_)
theorem k_planHand {σ : St} {t : Int} (h : okS σ) : okS (o_planHand σ t).2.2 := by
  unfold o_planHand
  repeat' first
    | exact h
    | (refine cIf_k (fun _ => ?_) fun _ => ?_)
    | (refine pIf_k h fun p _ => ?_)
theorem k_planEnd {σ : St} (h : okS σ) : okS (o_planEnd σ).2.2 := by
  unfold o_planEnd
  repeat' first
    | exact h
    | (refine cIf_k (fun _ => ?_) fun _ => ?_)
    | (refine pIf_k h fun p _ => ?_)
theorem k_busy {σ : St} {s x : Int} (h : okS σ) : okS (o_busy σ s x).2.2 := by
  unfold o_busy
  repeat' first
    | exact h
    | (refine cIf_k (fun _ => ?_) fun _ => ?_)
    | (refine pIf_k h fun p _ => ?_)
theorem k_proofLength {σ : St} (h : okS σ) : okS (o_proofLength σ).2.2 := by
  unfold o_proofLength
  repeat' first
    | exact h
    | (refine cIf_k (fun _ => ?_) fun _ => ?_)
    | (refine pIf_k h fun p _ => ?_)
theorem k_proofAt {σ : St} {x : Int} (h : okS σ) : okS (o_proofAt σ x).2.2 := by
  unfold o_proofAt
  repeat' first
    | exact h
    | (refine cIf_k (fun _ => ?_) fun _ => ?_)
    | (refine pIf_k h fun p _ => ?_)
theorem k_isProved {σ : St} (h : okS σ) : okS (o_isProved σ).2.2 := by
  unfold o_isProved
  repeat' first
    | exact h
    | (refine cIf_k (fun _ => ?_) fun _ => ?_)
    | (refine pIf_k h fun p _ => ?_)
theorem k_best {σ : St} {x : Int} (h : okS σ) : okS (o_best σ x).2.2 := by
  unfold o_best
  repeat' first
    | exact h
    | (refine cIf_k (fun _ => ?_) fun _ => ?_)
    | (refine pIf_k h fun p _ => ?_)
theorem k_bestByLists {σ : St} {x : Int} (h : okS σ) : okS (o_bestByLists σ x).2.2 := by
  unfold o_bestByLists
  repeat' first
    | exact h
    | (refine cIf_k (fun _ => ?_) fun _ => ?_)
    | (refine pIf_k h fun p _ => ?_)
theorem k_anomaly {σ : St} {c y : Int} (h : okS σ) : okS (o_anomaly σ c y).2.2 := by
  unfold o_anomaly
  repeat' first
    | exact h
    | (refine cIf_k (fun _ => ?_) fun _ => ?_)
    | (refine pIf_k h fun p _ => ?_)
theorem k_allOdds {σ : St} (h : okS σ) : okS (o_allOdds σ).2.2 := by
  unfold o_allOdds
  repeat' first
    | exact h
    | (refine cIf_k (fun _ => ?_) fun _ => ?_)
    | (refine pIf_k h fun p _ => ?_)
theorem k_planned {σ : St} {x : Int} (h : okS σ) : okS (o_planned σ x).2.2 := by
  unfold o_planned
  repeat' first
    | exact h
    | (refine cIf_k (fun _ => ?_) fun _ => ?_)
    | (refine pIf_k h fun p _ => ?_)
theorem k_earned {σ : St} (h : okS σ) : okS (o_earned σ).2.2 := by
  unfold o_earned
  repeat' first
    | exact h
    | (refine cIf_k (fun _ => ?_) fun _ => ?_)
    | (refine pIf_k h fun p _ => ?_)
theorem k_index {σ : St} {x : Int} (h : okS σ) : okS (o_index σ x).2.2 := by
  unfold o_index
  repeat' first
    | exact h
    | (refine cIf_k (fun _ => ?_) fun _ => ?_)
    | (refine pIf_k h fun p _ => ?_)
theorem k_moved {σ : St} (h : okS σ) : okS (o_moved σ).2.2 := by
  unfold o_moved
  repeat' first
    | exact h
    | (refine cIf_k (fun _ => ?_) fun _ => ?_)
    | (refine pIf_k h fun p _ => ?_)
theorem k_movedBy {σ : St} {t : Int} (h : okS σ) : okS (o_movedBy σ t).2.2 := by
  unfold o_movedBy
  repeat' first
    | exact h
    | (refine cIf_k (fun _ => ?_) fun _ => ?_)
    | (refine pIf_k h fun p _ => ?_)
theorem k_fig {σ : St} (h : okS σ) : okS (o_fig σ).2.2 := by
  unfold o_fig
  repeat' first
    | exact h
    | (refine cIf_k (fun _ => ?_) fun _ => ?_)
    | (refine pIf_k h fun p _ => ?_)
theorem k_checksum {σ : St} (h : okS σ) : okS (o_checksum σ).2.2 := by
  unfold o_checksum
  repeat' first
    | exact h
    | (refine cIf_k (fun _ => ?_) fun _ => ?_)
    | (refine pIf_k h fun p _ => ?_)
theorem k_leastEnd {σ : St} (h : okS σ) : okS (o_leastEnd σ).2.2 := by
  unfold o_leastEnd
  repeat' first
    | exact h
    | (refine cIf_k (fun _ => ?_) fun _ => ?_)
    | (refine pIf_k h fun p _ => ?_)
theorem k_leastCost {σ : St} {x : Int} (h : okS σ) : okS (o_leastCost σ x).2.2 := by
  unfold o_leastCost
  repeat' first
    | exact h
    | (refine cIf_k (fun _ => ?_) fun _ => ?_)
    | (refine pIf_k h fun p _ => ?_)
theorem k_oddsBy {σ : St} {x : Int} (h : okS σ) : okS (o_oddsBy σ x).2.2 := by
  unfold o_oddsBy
  repeat' first
    | exact h
    | (refine cIf_k (fun _ => ?_) fun _ => ?_)
    | (refine pIf_k h fun p _ => ?_)
theorem k_oddsCritical {σ : St} {t : Int} (h : okS σ) : okS (o_oddsCritical σ t).2.2 := by
  unfold o_oddsCritical
  repeat' first
    | exact h
    | (refine cIf_k (fun _ => ?_) fun _ => ?_)
    | (refine pIf_k h fun p _ => ?_)
theorem k_leastPeak {σ : St} (h : okS σ) : okS (o_leastPeak σ).2.2 := by
  unfold o_leastPeak
  repeat' first
    | exact h
    | (refine cIf_k (fun _ => ?_) fun _ => ?_)
    | (refine pIf_k h fun p _ => ?_)
theorem k_crane {σ : St} (h : okS σ) : okS (o_crane σ).2.2 := by
  unfold o_crane
  repeat' first
    | exact h
    | (refine cIf_k (fun _ => ?_) fun _ => ?_)
    | (refine pIf_k h fun p _ => ?_)
theorem k_isTrue {σ : St} (h : okS σ) : okS (o_isTrue σ).2.2 := by
  unfold o_isTrue
  repeat' first
    | exact h
    | (refine cIf_k (fun _ => ?_) fun _ => ?_)
    | (refine pIf_k h fun p _ => ?_)
