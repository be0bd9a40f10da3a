/-! ===== like hands: one after another, each as early as there is room ===== -/
theorem least_ex {Q : Int → Prop} {lo : Int} : ∀ m : Nat, Q (lo + m) → ∃ y : Nat, y ≤ m ∧ Q (lo + y) ∧ ∀ z : Nat, z < y → ¬ Q (lo + z) := by
  intro m
  induction m with
  | zero => exact fun h => ⟨0, Nat.le_refl _, h, fun z hz => absurd hz (Nat.not_lt_zero _)⟩
  | succ m ih =>
    intro h
    by_cases c : ∃ i : Nat, i ≤ m ∧ Q (lo + i)
    · obtain ⟨i, hi, q⟩ := c
      have key : ∀ i : Nat, Q (lo + i) → ∃ y : Nat, y ≤ i ∧ Q (lo + y) ∧ ∀ z : Nat, z < y → ¬ Q (lo + z) := by
        intro i
        induction i using Nat.strongRecOn with
        | ind i ih2 =>
          intro q
          by_cases d : ∃ z : Nat, z < i ∧ Q (lo + z)
          · obtain ⟨z, hz, qz⟩ := d
            obtain ⟨y, y1, y2, y3⟩ := ih2 z hz qz
            exact ⟨y, by omega, y2, y3⟩
          · exact ⟨i, Nat.le_refl _, q, fun z hz qz => d ⟨z, hz, qz⟩⟩
      obtain ⟨y, y1, y2, y3⟩ := key i q
      exact ⟨y, by omega, y2, y3⟩
    · exact ⟨m + 1, Nat.le_refl _, h, fun z hz q => c ⟨z, by omega, q⟩⟩
def rmA (k : Bk) (H : Int) (b : Nat → Int) (t : Nat) (x : Int) : Prop := ∀ z, x ≤ z → z < x + kF k 0 t → cntP k b z < H
def isRm (k : Bk) (H : Int) (b : Nat → Int) (t : Nat) (lo x : Int) : Prop := lo ≤ x ∧ rmA k H b t x ∧ ∀ z, lo ≤ z → z < x → ¬ rmA k H b t z
theorem cntP_0 {k : Bk} {b : Nat → Int} {x : Int} (h : ∀ u, u < kN k → b u ≠ -1 → b u + kF k 0 u ≤ x) : cntP k b x = 0 := by
  unfold cntP
  rw [zsum_eq (g := fun _ => 0) fun t ht => ci_f fun q => by
    have := h t ht q.1
    have := q.2.2
    omega, zsum_0]
theorem rm_least {k : Bk} (ho : kOk k) {H : Int} {b : Nat → Int} {t : Nat} {lo E : Int} (hE : ∀ u, u < kN k → b u ≠ -1 → b u + kF k 0 u ≤ E) (hH : 1 ≤ H) (ht : t < kN k) : ∃ y, isRm k H b t lo y ∧ y ≤ max lo E ∧ (y = lo ∨ ∃ u, u < kN k ∧ b u ≠ -1 ∧ b u + kF k 0 u = y ∧ lo < y) := by
  have lst : rmA k H b t (lo + ((max lo E - lo).toNat : Int)) := fun z h1 _ => by
    rw [cntP_0 fun u hu ne => by have := hE u hu ne; omega]
    omega
  obtain ⟨y, y1, y2, y3⟩ := least_ex (Q := rmA k H b t) (lo := lo) (max lo E - lo).toNat lst
  refine ⟨lo + y, ⟨by omega, y2, fun z h1 h2 => ?_⟩, by omega, ?_⟩
  · have := y3 (z - lo).toNat (by omega)
    rw [show lo + ((z - lo).toNat : Int) = z by omega] at this
    exact this
  · by_cases c : y = 0
    · exact Or.inl (by omega)
    · right
      have hl := ho.len ht
      have n1 := y3 (y - 1) (by omega)
      rw [show lo + ((y - 1 : Nat) : Int) = lo + (y : Int) - 1 by omega] at n1
      have : ∃ z, lo + (y : Int) - 1 ≤ z ∧ z < lo + (y : Int) - 1 + kF k 0 t ∧ H ≤ cntP k b z := Classical.byContradiction fun g => n1 fun z h1 h2 => Int.not_le.mp fun q => g ⟨z, h1, h2, q⟩
      obtain ⟨z, z1, z2, z3⟩ := this
      have ze : z = lo + (y : Int) - 1 := by
        refine Int.le_antisymm (Int.not_lt.mp fun q => ?_) z1
        have := y2 z (by omega) (by omega)
        omega
      have y4 := y2 (lo + y) (by omega) (by omega)
      refine Classical.byContradiction fun g => ?_
      have le : cntP k b z ≤ cntP k b (lo + y) := zsum_le fun u hu => ci_le fun q => by
        refine ⟨q.1, by have := q.2.1; omega, ?_⟩
        refine Int.not_le.mp fun r => g ⟨u, hu, q.1, ?_, by omega⟩
        have := q.2.2
        omega
      omega
theorem isRm_eq {k : Bk} {H : Int} {b : Nat → Int} {t : Nat} {lo x y : Int} (h : isRm k H b t lo x) (h' : isRm k H b t lo y) : x = y := by
  refine Int.le_antisymm (Int.not_lt.mp fun g => ?_) (Int.not_lt.mp fun g => ?_)
  · exact h.2.2 y h'.1 g h'.2.1
  · exact h'.2.2 x h.1 g h.2.1
/-- after c tasks are put -/
def rmI (k : Bk) (H : Int) (L : Nat → Nat) (c : Nat) (b : Nat → Int) : Prop := ((∀ t, t < kN k → b t = -1 ∨ (0 ≤ b t ∧ b t + kF k 0 t ≤ 90 * (c : Int))) ∧ (∀ t, t < kN k → b t ≠ -1 → letQ k b t (b t)) ∧ ∀ x, 0 ≤ x → cntP k b x ≤ H) ∧ (cntS (P1 k H) (b, fun _ => -1) + (c : Int) = (kN k : Int)) ∧ ∀ S, tgS k H S → isLs S (kN k) L → (∀ p, p < c → b (L p) = S (L p)) ∧ ∀ p, c ≤ p → p < kN k → b (L p) = -1
theorem rm_first (k : Bk) {H : Int} (hH : 0 ≤ H) (L : Nat → Nat) : rmI k H L 0 (fun _ => -1) := by
  refine ⟨⟨fun t ht => Or.inl rfl, fun t ht g => absurd rfl g, fun x hx => ?_⟩, ?_, fun S _ _ => ⟨fun p hp => absurd hp (Nat.not_lt_zero _), fun p _ _ => rfl⟩⟩
  · rw [cntP_0 fun u hu ne => absurd rfl ne]
    exact hH
  · show zsum (fun t => b2 ((-1 : Int) = -1)) (kN k) + 0 = _
    have e : zsum (fun t => b2 ((-1 : Int) = -1)) (kN k) = zsum (fun _ => 1) (kN k) := zsum_eq fun i _ => rfl
    rw [e, zsum_1]
    omega
theorem rm_step {k : Bk} (ho : kOk k) {H : Int} (hH : 1 ≤ H ∧ H ≤ 4) {L : Nat → Nat} (hL : okL (P1 k H) L) {c t : Nat} {b : Nat → Int} {x : Int} (h : rmI k H L c b) (hf : fuF (P1 k H) L (b, fun _ => -1) = (t : Int)) (hx : isRm k H b t (ltA (P1 k H) b t) x) : rmI k H L (c + 1) (zu b t x) := by
  obtain ⟨⟨h1, h2, h3⟩, h4, h5⟩ := h
  have hlen : ∀ t, t < kN k → 1 ≤ kF k 0 t ∧ kF k 0 t ≤ 60 := fun t ht => ho.len ht
  -- the task
  have fu := fuF_is (P1 k H) L (b, fun _ => -1)
  rw [hf] at fu
  rcases fu with ⟨f0, -⟩ | ⟨v, v1, v2, v3, v4, v5⟩
  · omega
  have v1 : v < kN k := v1
  have v3 : b (L v) = -1 := v3
  have v4 : ltA (P1 k H) b (L v) ≠ -1 := v4
  obtain rfl : t = L v := by omega
  have ht : L v < kN k := hL.1 v v1
  have lo0 : 0 ≤ ltA (P1 k H) b (L v) := lt_ge (P := P1 k H) (s := (b, fun _ => -1)) v4
  have hE : ∀ u, u < kN k → b u ≠ -1 → b u + kF k 0 u ≤ 90 * (c : Int) := fun u hu ne => ((h1 u hu).resolve_left ne).2
  have loE : ltA (P1 k H) b (L v) ≤ 90 * (c : Int) + 30 := lt_le (P1_ok ho hH) (s := (b, fun _ => -1)) ⟨by omega, fun u hu ne => hE u hu ne⟩
  obtain ⟨y, y1, y2, -⟩ := rm_least ho (b := b) (t := L v) (lo := ltA (P1 k H) b (L v)) hE hH.1 ht
  obtain rfl := isRm_eq y1 hx
  have x0 : 0 ≤ y := by have := hx.1; omega
  have le : letQ k b (L v) y := P1_let.mp ((ltA_let x0).mp ⟨v4, hx.1⟩)
  have oth : ∀ u, u ≠ L v → zu b (L v) y u = b u := fun u e => zu_other e
  have same : zu b (L v) y (L v) = y := zu_same _ _ _
  have lb : ∀ j, j < kM k → b (kE k j) ≠ -1 → lateB k (zu b (L v) y) j = lateB k b j ∧ zu b (L v) y (kE k j) ≠ -1 := fun j hj ne => by
    have e := oth (kE k j) fun e => by
      rw [e] at ne
      exact ne v3
    unfold lateB
    rw [e]
    exact ⟨rfl, ne⟩
  refine ⟨⟨fun u hu => ?_, fun u hu ne => ?_, fun z hz => ?_⟩, ?_, fun S hS ls => ?_⟩
  · by_cases e : u = L v
    · rw [e, same]
      have := hlen _ ht
      exact Or.inr ⟨x0, by omega⟩
    · rw [oth u e]
      rcases h1 u hu with g | g
      · exact Or.inl g
      · exact Or.inr ⟨g.1, by omega⟩
  · by_cases e : u = L v
    · rw [e, same]
      intro j hj q
      obtain ⟨q1, q2⟩ := le j hj q
      obtain ⟨a1, a2⟩ := lb j hj q1
      exact ⟨a2, by rw [a1]; exact q2⟩
    · rw [oth u e] at ne ⊢
      intro j hj q
      obtain ⟨q1, q2⟩ := h2 u hu ne j hj q
      obtain ⟨a1, a2⟩ := lb j hj q1
      exact ⟨a2, by rw [a1]; exact q2⟩
  · by_cases w : y ≤ z ∧ z < y + kF k 0 (L v)
    · have a := hx.2.1 z w.1 w.2
      have d := zsum_le1 (f := fun u => ci (wk0 k (zu b (L v) y) u z)) (g := fun u => ci (wk0 k b u z)) ht (fun u _ e => ci_le fun q => by
        unfold wk0 at *
        rw [oth u e] at q
        exact q) (by
        have r1 := ci_r (wk0 k (zu b (L v) y) (L v) z)
        have r2 := ci_r (wk0 k b (L v) z)
        show ci (wk0 k (zu b (L v) y) (L v) z) ≤ ci (wk0 k b (L v) z) + 1
        omega)
      unfold cntP at *
      omega
    · refine Int.le_trans (zsum_le fun u hu => ci_le fun q => ?_) (h3 z hz)
      unfold wk0 at *
      by_cases e : u = L v
      · rw [e, same] at q
        exact absurd ⟨q.2.1, q.2.2⟩ w
      · rw [oth u e] at q
        exact q
  · have := cntS_put (P := P1 k H) (s := (b, fun _ => -1)) (t := L v) (x := y) (g := fun _ => -1) ht v3 (by omega)
    have this : cntS (P1 k H) (zu b (L v) y, fun _ => -1) = cntS (P1 k H) (b, fun _ => -1) + -1 := this
    rw [this]
    omega
  · obtain ⟨g1, g2⟩ := h5 S hS ls
    have inS : ∀ u, u < kN k → b u ≠ -1 → b u = S u := fun u hu ne => by
      obtain ⟨p, hp, e⟩ := ls.sur hu
      rw [← e] at ne ⊢
      exact g1 p (Nat.lt_of_not_le fun q => ne (g2 p q hp))
    -- it is the next one of the list
    have ev : v = c := by
      have ge : c ≤ v := Nat.le_of_not_lt fun q => by
        have a := g1 v q
        have n := hS.1.1 _ ht
        omega
      refine Nat.le_antisymm (Nat.le_of_not_lt fun q => ?_) ge
      have lc := ls.1 c (by omega)
      rcases v5 c q with r | r
      · exact r (g2 c (Nat.le_refl _) (by omega))
      · rcases ltF_is (P1 k H) b (L c) (kM k) with ⟨-, j, j1, j2, j3⟩ | ⟨s1, -⟩
        · have hl := ho.l j1
          have he := ho.e j1
          have a := (hS.1.2.1 _ hl j j1 rfl).2
          have b1 := hlen _ he
          have b2 := ho.g j1
          obtain ⟨p, hp, e⟩ := ls.sur he
          have j3 : b (kE k j) = -1 := j3
          have j2' : kL k j = L c := j2.1
          have pc : p < c := Nat.lt_of_not_le fun r2 => by
            unfold lateB at a
            rw [j2'] at a
            by_cases e2 : p = c
            · rw [← e2, e] at a
              omega
            · have bf := ls.2 c p (by omega) hp
              rw [e] at bf
              unfold bef at bf
              omega
          have a1 := g1 p pc
          have n := hS.1.1 _ he
          rw [e] at a1
          omega
        · have r' : ltF (P1 k H) b (L c) (kM k) = -1 := r
          omega
    obtain rfl := ev.symm
    -- it begins as in S
    have nS := hS.1.1 _ ht
    have lS : ltA (P1 k H) b (L c) ≤ S (L c) := by
      refine ((ltA_let (P := P1 k H) (b := b) (t := L c) nS).mpr (P1_let.mpr fun j hj e => ?_)).2
      have q1 := (le j hj e).1
      have q2 := (hS.1.2.1 _ ht j hj e).2
      refine ⟨q1, ?_⟩
      unfold lateB at *
      rw [inS _ (ho.e hj) q1]
      exact q2
    have bS : ∀ u z, u < kN k → wk0 k b u z → u ≠ L c ∧ wk0 k S u z := fun u z hu w => by
      have e := inS u hu w.1
      refine ⟨fun q => ?_, ?_⟩
      · rw [q] at w
        exact w.1 v3
      · unfold wk0 at *
        rw [← e]
        exact w
    have rS : rmA k H b (L c) (S (L c)) := fun z z1 z2 => by
      have a := hS.1.2.2 z (by omega)
      have d := zsum_lt (f := fun u => ci (wk0 k b u z)) (g := fun u => ci (wk0 k S u z)) (n := kN k) (i := L c) (fun u hu => ci_le fun q => (bS u z hu q).2) ht (by
        show ci (wk0 k b (L c) z) < ci (wk0 k S (L c) z)
        rw [ci_f fun q => q.1 v3, ci_p ⟨by omega, z1, z2⟩]
        decide)
      unfold cntP at *
      omega
    have xle : y ≤ S (L c) := Int.not_lt.mp fun q => hx.2.2 _ lS q rS
    have xeq : y = S (L c) := by
      refine Int.le_antisymm xle (Int.not_lt.mp fun q => ?_)
      refine hS.2 (L c) y ht x0 q (fs_mv ho hS.1 ht ⟨x0, q⟩ (fun j hj e => ?_) fun z z1 z2 z3 => ?_)
      · obtain ⟨q1, q2⟩ := le j hj e
        have e2 := inS _ (ho.e hj) q1
        unfold lateB at *
        rw [← e2]
        exact ⟨q1, q2⟩
      · refine Int.lt_of_le_of_lt (zsum_le fun u hu => ci_le fun w => ?_) (hx.2.1 z z1 z3)
        obtain ⟨p, hp, e⟩ := ls.sur hu
        have pc : p < c := Nat.lt_of_not_le fun r2 => by
          by_cases e2 : p = c
          · rw [e2] at e
            exact w.1 e.symm
          · have bf := ls.2 c p (by omega) hp
            rw [e] at bf
            have := w.2.2.1
            unfold bef at bf
            omega
        have a1 := g1 p pc
        rw [e] at a1
        have w2 := w.2
        unfold wk0 at *
        rw [a1]
        exact w2
    refine ⟨fun p hp => ?_, fun p p1 p2 => ?_⟩
    · by_cases e : p = c
      · rw [e, same]
        exact xeq
      · rw [oth _ fun q => e (ls.inj p c (by omega) (by omega) q)]
        exact g1 p (by omega)
    · rw [oth _ fun q => by have := ls.inj p c p2 (by omega) q; omega]
      exact g2 p (by omega) p2
theorem rm_last {k : Bk} {H : Int} {L : Nat → Nat} {b : Nat → Int} {c : Nat} (h : rmI k H L c b) (hc : c = kN k) : fs k H b ∧ ∀ S, tgS k H S → isLs S (kN k) L → ∀ t, t < kN k → b t = S t := by
  obtain ⟨⟨h1, h2, h3⟩, h4, h5⟩ := h
  have all : allB (P1 k H) (b, fun _ => -1) := cntS_all.mp (by omega)
  have ne : ∀ t, t < kN k → b t ≠ -1 := fun t ht => all t ht
  refine ⟨⟨fun t ht => ((h1 t ht).resolve_left (ne t ht)).1, fun t ht => h2 t ht (ne t ht), h3⟩, fun S hS ls t ht => ?_⟩
  obtain ⟨p, hp, e⟩ := ls.sur ht
  rw [← e]
  exact (h5 S hS ls).1 p (by omega)
