/-! ===== like hands: plans without waiting are those by lists ===== -/
def P1 (k : Bk) (H : Int) : Sp := (k, -1, kF k 0, fun _ => 0, fun _ => H, fun _ => -1)
theorem P1_ok {k : Bk} (ho : kOk k) {H : Int} (hH : 1 ≤ H ∧ H ≤ 4) : okP (P1 k H) := ⟨ho, fun t ht => ho.len ht, fun t ht => by show 1 ≤ H ∧ H ≤ 6; omega, fun t ht => by show (-1 : Int) ≤ -1 ∧ (-1 : Int) ≤ 9999; decide⟩
theorem P1_let {k : Bk} {H : Int} {b : Nat → Int} {t : Nat} {x : Int} : letA (P1 k H) b t x ↔ letQ k b t x := ⟨fun h j hj e => h j hj ⟨e, by show (j : Int) ≠ -1; omega⟩, fun h j hj e => h j hj e.1⟩
theorem isLs_ex (key : Nat → Int) : ∀ n, ∃ L, isLs key n L := by
  intro n
  induction n with
  | zero => exact ⟨fun _ => 0, fun p hp => absurd hp (Nat.not_lt_zero _), fun p q _ hq => absurd hq (Nat.not_lt_zero _)⟩
  | succ v ih =>
    obtain ⟨L, hL⟩ := ih
    have fw : ∀ m, m ≤ v → (∀ i, m ≤ i → i < v → key v < key (L i)) → ∃ w, w ≤ v ∧ (∀ i, w ≤ i → i < v → key v < key (L i)) ∧ (w = 0 ∨ key (L (w - 1)) ≤ key v) := by
      intro m
      induction m with
      | zero => exact fun _ h => ⟨0, Nat.zero_le _, h, Or.inl rfl⟩
      | succ m ih =>
        intro hm h
        by_cases c : key (L m) ≤ key v
        · exact ⟨m + 1, hm, h, Or.inr c⟩
        · refine ih (by omega) fun i h1 h2 => ?_
          by_cases e : i = m
          · rw [e]
            omega
          · exact h i (by omega) h2
    obtain ⟨w, w1, w2, w3⟩ := fw v (Nat.le_refl _) fun i h1 h2 => by omega
    exact ⟨_, hL.put w1 w2 w3⟩
theorem isLs.pm {key : Nat → Int} {n : Nat} {L : Nat → Nat} (h : isLs key n L) : pm n (fun i => i) L := ⟨fun i hi => ⟨L i, h.1 i hi, rfl⟩, h.inj⟩
theorem isLs.congr {key : Nat → Int} {n : Nat} {L L' : Nat → Nat} (h : isLs key n L) (e : ∀ i, i < n → L' i = L i) : isLs key n L' := ⟨fun p hp => by rw [e p hp]; exact h.1 p hp, fun p q hpq hq => by rw [e p (by omega), e q hq]; exact h.2 p q hpq hq⟩
theorem pm.okL {P : Sp} {L : Nat → Nat} (h : pm (kN (pK P)) (fun i => i) L) : okL P L := ⟨fun p hp => by
  obtain ⟨j, hj, e⟩ := h.1 p hp
  rw [e]
  exact hj, fun t ht => h.sur (j := t) ht⟩
theorem zsum_t (n : Nat) : zsum (fun _ => ci True) n = (n : Int) := by rw [zsum_eq (g := fun _ => 1) fun i _ => ci_p trivial, zsum_1]
theorem sim_fs {k : Bk} (ho : kOk k) {H : Int} (hH : 1 ≤ H ∧ H ≤ 4) {L : Nat → Nat} (hL : okL (P1 k H) L) : fs k H (simE (P1 k H) L).1 ∧ ndl k H (simE (P1 k H) L).1 := by
  have hP := P1_ok ho hH
  have all := simE_all hP hL
  have so := simF_ok hP hL 3601
  have wf : wfS (P1 k H) 3600 (simE (P1 k H) L) := by
    have := so.1
    rw [show ((3601 : Nat) : Int) - 1 = 3600 by decide] at this
    exact this
  have g : ∀ t y, t < kN k → 0 ≤ y → y < 3601 → grd (P1 k H) (simE (P1 k H) L) y t := fun t y ht h1 h2 => so.2 t y ht h1 h2
  generalize simE (P1 k H) L = s at *
  have nn : ∀ t, t < kN k → 0 ≤ s.1 t ∧ s.1 t ≤ 3600 := fun t ht => (wf.1 t ht).resolve_left (all t ht)
  refine ⟨⟨fun t ht => (nn t ht).1, fun t ht => P1_let.mp (wf.2.1 t ht (all t ht)).1, fun x hx => ?_⟩, fun t x ht hx hl l => ?_⟩
  · have a := hd_le (Q := fun t => wk0 k s.1 t x) (F := fun _ => True) (w := s.2) (n := kN k) (H := H.toNat) (fun t ht q => by
      have := (wf.2.1 t ht (all t ht)).2
      have e : pH (P1 k H) (pS (P1 k H) t) = H := rfl
      exact ⟨this.1, by omega, trivial⟩) fun t u ht hu q1 q2 e => Classical.byContradiction fun ne => (wf.2.2 t u x ht hu ne ⟨all t ht, q1.2.1, q1.2.2⟩ ⟨all u hu, q2.2.1, q2.2.2⟩).1 rfl e
    rw [zsum_t] at a
    unfold cntP
    omega
  · have n1 := nn t ht
    have b := g t x ht hx (by omega) (Or.inr hl) (P1_let.mpr l)
    rcases b with b | ⟨b, -⟩
    · have a := hd_ge (Q := fun t => wk0 k s.1 t x) (F := fun _ => True) (w := s.2) (n := kN k) (H := H.toNat) fun i hi _ => by
        obtain ⟨u, u1, -, u3, u4⟩ := b (i : Int) (by omega) (by show (i : Int) < H; omega)
        exact ⟨u, u1, ⟨u4.1, u4.2.1, u4.2.2⟩, u3⟩
      rw [zsum_t] at a
      unfold cntP
      omega
    · have e : pM (P1 k H) t = -1 := rfl
      omega
theorem fs_len {k : Bk} (ho : kOk k) : 0 ≤ zsum (kF k 0) (kN k) ∧ zsum (kF k 0) (kN k) ≤ 1200 := by
  have a := zsum_bound (f := kF k 0) (n := kN k) (a := 0) (b := 60) fun i hi => by have := ho.len hi; omega
  have := ho.n
  omega
theorem sim_of {k : Bk} (ho : kOk k) {H : Int} (hH : 1 ≤ H ∧ H ≤ 4) {S : Nat → Int} (hS : fs k H S) (hn : ndl k H S) {L : Nat → Nat} (ls : isLs S (kN k) L) : ∀ t, t < kN k → (simE (P1 k H) L).1 t = S t := by
  have hP := P1_ok ho hH
  have hL : okL (P1 k H) L := ls.okL (P := P1 k H)
  have hb := ndl_bound ho hS hn hH.1
  have hl := fs_len ho
  have hN := ho.n
  suffices key : ∀ x : Nat, ∀ t, t < kN k → (S t < (x : Int) → (simF (P1 k H) L x).1 t = S t) ∧ (¬ S t < (x : Int) → (simF (P1 k H) L x).1 t = -1) from fun t ht => (key 3601 t ht).1 (by
    have := enS_ge (S := S) ht
    have := ho.len ht
    omega)
  intro x
  induction x with
  | zero => exact fun t ht => ⟨fun g => by have := hS.1 t ht; omega, fun _ => rfl⟩
  | succ x ihx =>
    have so := simF_ok hP hL x
    suffices pass : ∀ v, v ≤ kN k → ∀ t, t < kN k → (S t < (x : Int) ∨ (S t = (x : Int) ∧ ∃ p, p < v ∧ L p = t) → (psF (P1 k H) L (x : Int) (simF (P1 k H) L x) v).1 t = S t) ∧ (¬ (S t < (x : Int) ∨ (S t = (x : Int) ∧ ∃ p, p < v ∧ L p = t)) → (psF (P1 k H) L (x : Int) (simF (P1 k H) L x) v).1 t = -1) by
      intro t ht
      have a := pass (kN k) (Nat.le_refl _) t ht
      obtain ⟨p, hp, e⟩ := hL.2 t ht
      refine ⟨fun g => a.1 ?_, fun g => a.2 ?_⟩
      · by_cases c : S t < (x : Int)
        · exact Or.inl c
        · exact Or.inr ⟨by omega, p, hp, e⟩
      · rintro (c | ⟨c, -⟩) <;> omega
    intro v
    induction v with
    | zero =>
      intro _ t ht
      refine ⟨fun g => (ihx t ht).1 ?_, fun g => (ihx t ht).2 fun c => g (Or.inl c)⟩
      rcases g with g | ⟨-, p, hp, -⟩
      · exact g
      · exact absurd hp (Nat.not_lt_zero _)
    | succ v ih =>
      intro hv
      have ih := ih (by omega)
      have wf := (psF_ok hP hL so v (show v ≤ kN (pK (P1 k H)) by show v ≤ kN k; omega)).1
      have ht0 : L v < kN k := ls.1 v (by omega)
      show ∀ t, t < kN k → (S t < (x : Int) ∨ (S t = (x : Int) ∧ ∃ p, p < v + 1 ∧ L p = t) → (stF (P1 k H) (x : Int) (L v) (psF (P1 k H) L (x : Int) (simF (P1 k H) L x) v)).1 t = S t) ∧ (¬ (S t < (x : Int) ∨ (S t = (x : Int) ∧ ∃ p, p < v + 1 ∧ L p = t)) → (stF (P1 k H) (x : Int) (L v) (psF (P1 k H) L (x : Int) (simF (P1 k H) L x) v)).1 t = -1)
      generalize psF (P1 k H) L (x : Int) (simF (P1 k H) L x) v = s at *
      -- the conditions for others are as before
      have oth : ∀ t, t ≠ L v → ((∃ p, p < v + 1 ∧ L p = t) ↔ ∃ p, p < v ∧ L p = t) := fun t ne => ⟨fun ⟨p, p1, p2⟩ => ⟨p, by
        refine Nat.lt_of_le_of_ne (by omega) fun e => ne ?_
        rw [← p2, e], p2⟩, fun ⟨p, p1, p2⟩ => ⟨p, by omega, p2⟩⟩
      have same : S (L v) ≠ (x : Int) → ∀ t, t < kN k → (S t < (x : Int) ∨ (S t = (x : Int) ∧ ∃ p, p < v + 1 ∧ L p = t) → s.1 t = S t) ∧ (¬ (S t < (x : Int) ∨ (S t = (x : Int) ∧ ∃ p, p < v + 1 ∧ L p = t)) → s.1 t = -1) := fun ne t ht => by
        have i := ih t ht
        by_cases e : t = L v
        · rw [e] at i ⊢
          refine ⟨fun g => i.1 ?_, fun g => i.2 fun c => ?_⟩
          · rcases g with g | ⟨g, -⟩
            · exact Or.inl g
            · exact absurd g ne
          · rcases c with c | ⟨c, -⟩
            · exact g (Or.inl c)
            · exact absurd c ne
        · rw [oth t e]
          exact i
      have sin : ∀ u, u < kN k → s.1 u ≠ -1 → s.1 u = S u := fun u hu ne => (ih u hu).1 (Classical.byContradiction fun c => ne ((ih u hu).2 c))
      unfold stF
      by_cases c1 : S (L v) < (x : Int)
      · have e1 := (ih _ ht0).1 (Or.inl c1)
        have n1 := hS.1 _ ht0
        rw [cIf_f fun g => by have := g.1; omega]
        exact same (by omega)
      by_cases c2 : S (L v) = (x : Int)
      · have e1 : s.1 (L v) = -1 := (ih _ ht0).2 fun q => by
          rcases q with q | ⟨-, p, p1, p2⟩
          · exact c1 q
          · have := ls.inj p v (by omega) (by omega) p2
            omega
        have lt : letA (P1 k H) s.1 (L v) (x : Int) := P1_let.mpr fun j hj e => by
          have q := (hS.2.1 _ ht0 j hj e).2
          have hE := ho.e hj
          have hlen := ho.len hE
          have hg := ho.g hj
          have n2 := hS.1 _ hE
          unfold lateB at q ⊢
          have e3 := (ih _ hE).1 (Or.inl (by omega))
          rw [e3]
          exact ⟨by omega, by omega⟩
        have hd : hdF (P1 k H) s 0 (x : Int) ((x : Int) + 1) ≠ -1 := fun g => by
          have nf := hdF_no g
          have a := hd_ge (Q := fun u => wk0 k S u (x : Int) ∧ u ≠ L v) (F := fun _ => True) (w := s.2) (n := kN k) (H := H.toNat) fun i hi _ => by
            have q : ∃ u, u < kN k ∧ mts (P1 k H) s u (x : Int) ((x : Int) + 1) ∧ s.2 u = (i : Int) ∧ pS (P1 k H) u = 0 := Classical.byContradiction fun g2 => nf (i : Int) (by omega) (by show (i : Int) < H; omega) fun u hu g3 => g2 ⟨u, hu, g3⟩
            obtain ⟨u, u1, ⟨m1, m2, m3⟩, u3, -⟩ := q
            have e3 := sin u u1 m1
            have d : pD (P1 k H) u = kF k 0 u := rfl
            rw [e3] at m2 m3
            refine ⟨u, u1, ⟨⟨by have := hS.1 u u1; omega, by omega, by omega⟩, fun e => ?_⟩, u3⟩
            rw [e] at m1
            exact m1 e1
          rw [zsum_t] at a
          have b := zsum_lt (f := fun u => ci (wk0 k S u (x : Int) ∧ u ≠ L v)) (g := fun u => ci (wk0 k S u (x : Int))) (n := kN k) (i := L v) (fun u _ => ci_le fun q => q.1) ht0 (by
            have hlen := ho.len ht0
            show ci (wk0 k S (L v) (x : Int) ∧ L v ≠ L v) < ci (wk0 k S (L v) (x : Int))
            rw [ci_f fun q => q.2 rfl, ci_p ⟨by omega, by omega, by omega⟩]
            decide)
          have cc := hS.2.2 (x : Int) (by omega)
          unfold cntP at cc
          omega
        rw [cIf_p (show goes (P1 k H) (x : Int) (L v) s from ⟨e1, lt, hd, Or.inl rfl⟩)]
        intro t ht
        show (_ → zu s.1 (L v) (x : Int) t = S t) ∧ (_ → zu s.1 (L v) (x : Int) t = -1)
        by_cases e : t = L v
        · rw [e, zu_same]
          exact ⟨fun _ => c2.symm, fun g => absurd (Or.inr ⟨c2, v, by omega, rfl⟩) g⟩
        · rw [zu_other e, oth t e]
          exact ih t ht
      · have c3 : (x : Int) < S (L v) := by omega
        rw [cIf_f]
        · exact same c2
        rintro ⟨g1, g2, g3, -⟩
        have lq : letQ k S (L v) (x : Int) := fun j hj e => by
          obtain ⟨q1, q2⟩ := P1_let.mp g2 j hj e
          have e3 := sin _ (ho.e hj) q1
          unfold lateB at *
          rw [e3] at q1 q2
          exact ⟨q1, q2⟩
        have cc := hn _ (x : Int) ht0 (by omega) c3 lq
        obtain ⟨h1, h2, h3⟩ := hdF_yes g3
        have h2' : hdF (P1 k H) s (pS (P1 k H) (L v)) (x : Int) ((x : Int) + 1) < H := h2
        generalize hdF (P1 k H) s (pS (P1 k H) (L v)) (x : Int) ((x : Int) + 1) = h0 at *
        have inS : ∀ u, u < kN k → wk0 k S u (x : Int) → s.1 u = S u := fun u hu w => by
          refine (ih u hu).1 ?_
          by_cases d : S u < (x : Int)
          · exact Or.inl d
          · refine Or.inr ⟨by have := w.2.1; omega, ?_⟩
            obtain ⟨p, hp, e⟩ := ls.sur hu
            refine ⟨p, Nat.lt_of_not_le fun q => ?_, e⟩
            have sl : S u ≤ (x : Int) := w.2.1
            by_cases d2 : p = v
            · rw [← e, d2] at sl
              omega
            · have b := ls.2 v p (by omega) hp
              rw [e] at b
              unfold bef at b
              omega
        have a := hd_le (Q := fun u => wk0 k S u (x : Int)) (F := fun h => h ≠ h0.toNat) (w := s.2) (n := kN k) (H := H.toNat) (fun u hu w => by
          have e3 := inS u hu w
          have ne : s.1 u ≠ -1 := by rw [e3]; exact w.1
          obtain ⟨-, q1, q2⟩ := wf.2.1 u hu ne
          have q2' : s.2 u < H := q2
          refine ⟨q1, by omega, fun e => h3 u hu ⟨⟨ne, ?_, ?_⟩, by omega, rfl⟩⟩
          · rw [e3]
            have := w.2.1
            omega
          · rw [e3]
            exact w.2.2) fun t u ht hu w1 w2 e => Classical.byContradiction fun ne => by
              have a1 := inS t ht w1
              have a2 := inS u hu w2
              refine (wf.2.2 t u (x : Int) ht hu ne ?_ ?_).1 rfl e
              · unfold wkS
                rw [a1]
                exact w1
              · unfold wkS
                rw [a2]
                exact w2
        have b := zsum_lt (f := fun h => ci (h ≠ h0.toNat)) (g := fun _ => 1) (n := H.toNat) (i := h0.toNat) (fun u _ => (ci_r _).2) (by omega) (by
          show ci (h0.toNat ≠ h0.toNat) < 1
          rw [ci_f fun q => q rfl]
          decide)
        rw [zsum_1] at b
        unfold cntP at cc
        omega
/-! ===== what is seen of all orders ===== -/
def seen (N : Nat) (base : Nat → Nat) (rv : (Nat → Nat) → Int → Prop) (p : Nat → Nat) (v : Int) : Prop := (∃ L, pm N base L ∧ rv L v) ∧ ∀ q, pm N base q → lxl N q p → ∃ L' w, (∀ i, i < N → L' i = q i) ∧ rv L' w ∧ v ≤ w
theorem seen.first {N : Nat} {base : Nat → Nat} {rv : (Nat → Nat) → Int → Prop} {v : Int} (ha : ∀ i, i + 1 < N → base i < base (i + 1)) (hb : pm N base base) (hv : rv base v) : seen N base rv base v := ⟨⟨base, hb, hv⟩, fun q hq hl => ⟨base, v, fun i hi => (lx_first ha hq hl i hi).symm, hv, Int.le_refl _⟩⟩
theorem seen.next {N : Nat} {base p : Nat → Nat} {rv : (Nat → Nat) → Int → Prop} {v w : Int} (h : seen N base rv p v) (hp : pm N base p) {pl ot : Nat} (n : isNxt N p pl ot) (hw : rv (fun i => p (tau N pl ot i)) w) : seen N base rv (fun i => p (tau N pl ot i)) (min v w) := by
  have hn := hp.nx n.2.2.2.1 n.2.2.2.2.1
  refine ⟨?_, fun q hq hl => ?_⟩
  · by_cases c : v ≤ w
    · rw [show min v w = v by omega]
      exact h.1
    · rw [show min v w = w by omega]
      exact ⟨_, hn, hw⟩
  · rcases lx_nx hp n hq with g | g
    · obtain ⟨L', w', e, r, l⟩ := h.2 q hq g
      exact ⟨L', w', e, r, by omega⟩
    · exact ⟨_, w, lxl.an g hl, hw, by omega⟩
theorem seen.last {N : Nat} {base p : Nat → Nat} {rv : (Nat → Nat) → Int → Prop} {v : Int} (h : seen N base rv p v) (hp : pm N base p) (hd : ∀ i, i + 1 < N → p (i + 1) < p i) : (∃ L, pm N base L ∧ rv L v) ∧ ∀ q, pm N base q → ∃ L' w, (∀ i, i < N → L' i = q i) ∧ rv L' w ∧ v ≤ w := ⟨h.1, fun q hq => h.2 q hq (lx_max hp hd hq)⟩
theorem pm.self (N : Nat) : pm N (fun i => i) (fun i => i) := ⟨fun i hi => ⟨i, hi, rfl⟩, fun i j _ _ e => e⟩
/-! ===== the best ends ===== -/
def isBe (k : Bk) (H : Int) (v : Int) : Prop := (∃ S, fs k H S ∧ v = enS k S) ∧ ∀ S, fs k H S → v ≤ enS k S
def isBl (k : Bk) (H : Int) (v : Int) : Prop := (∃ S, (fs k H S ∧ ndl k H S) ∧ v = enS k S) ∧ ∀ S, fs k H S → ndl k H S → v ≤ enS k S
theorem isBe_eq {k : Bk} {H v w : Int} (h : isBe k H v) (h' : isBe k H w) : v = w := by
  obtain ⟨⟨S, a, b⟩, c⟩ := h
  obtain ⟨⟨S', a', b'⟩, c'⟩ := h'
  have := c S' a'
  have := c' S a
  omega
theorem isBl_eq {k : Bk} {H v w : Int} (h : isBl k H v) (h' : isBl k H w) : v = w := by
  obtain ⟨⟨S, a, b⟩, c⟩ := h
  obtain ⟨⟨S', a', b'⟩, c'⟩ := h'
  have := c S' a'.1 a'.2
  have := c' S a.1 a.2
  omega
noncomputable def vBe (k : Bk) (H : Int) : Int := Classical.epsilon (isBe k H)
noncomputable def vBl (k : Bk) (H : Int) : Int := Classical.epsilon (isBl k H)
theorem vBe_of {k : Bk} {H x : Int} (h : isBe k H x) : x = vBe k H := isBe_eq h (Classical.epsilon_spec (p := isBe k H) ⟨x, h⟩)
theorem vBl_of {k : Bk} {H x : Int} (h : isBl k H x) : x = vBl k H := isBl_eq h (Classical.epsilon_spec (p := isBl k H) ⟨x, h⟩)
noncomputable def o_best (σ : St) (x : Int) : Ou := cIf (1 ≤ x ∧ x ≤ 4) (cIf (kN (sK σ) ≤ 6) (0, vBe (sK σ) x, σ) (2, 0, σ)) (1, 0, σ)
noncomputable def o_bestByLists (σ : St) (x : Int) : Ou := cIf (1 ≤ x ∧ x ≤ 4) (cIf (kN (sK σ) ≤ 6) (0, vBl (sK σ) x, σ) (2, 0, σ)) (1, 0, σ)
