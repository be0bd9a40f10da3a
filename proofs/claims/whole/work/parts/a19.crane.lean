/-! ===== the class' crane ===== -/
def crC (Z : Zm) (k : Bk) (o pos : Nat → Nat) (nd : Nat → Int) (C : Int) : Prop := atCrane Z 290 1 233 ∧ atBook Z 1 ∧ atNet Z 233 ∧ nS Z 233 k o ∧ kOk k ∧ kOrd k o pos ∧ kSrt k pos ∧ zI Z 1 3 = (kN k : Int) ∧ (∀ t, t < kN k → zI Z 3 t = kF k 0 t ∧ zI Z 5 t = kF k 2 t ∧ zI Z 7 t = kF k 4 t) ∧ (∀ t, t < kN k → zI Z 291 t = nd t) ∧ zI Z 290 6 = C
theorem crC.f {S : Nat → Prop} {Z W : Zm} {k : Bk} {o pos : Nat → Nat} {nd : Nat → Int} {C : Int} (h : crC Z k o pos nd C) (f : zF S 0 0 Z W) (hs : ∀ a, S a → a = 290 ∨ 292 ≤ a) (h6 : zI W 290 6 = C) : crC W k o pos nd C := by
  obtain ⟨h1, h2, h3, h4, h5, h6', h7, h8, h9, h10, h11⟩ := h
  have lt : ∀ a, a < 292 → a < zSz Z := fun a ha => by have := h1.a3.1; omega
  have e : ∀ a, a < 292 → a ≠ 290 → zI W a = zI Z a := fun a ha hn => f.i (lt a ha) fun g => by have := hs a g; omega
  refine ⟨h1.ext f.1, h2.ext f.1, h3.ext f.1, ?_, h5, h6', h7, by rw [e 1 (by omega) (by omega)]; exact h8, ?_, ?_, h6⟩
  · unfold nS at *
    rw [e 233 (by omega) (by omega), e (233 + 1) (by omega) (by omega), e (233 + 3) (by omega) (by omega), e (233 + 4) (by omega) (by omega), e (233 + 5) (by omega) (by omega)]
    exact h4
  · rw [e 3 (by omega) (by omega), e 5 (by omega) (by omega), e 7 (by omega) (by omega)]
    exact h9
  · rw [e 291 (by omega) (by omega)]
    exact h10
def cS (x a : Nat) : Prop := a = 290 ∨ a = 292 ∨ (294 + x ≤ a ∧ a < 300)
def atC (k : Bk) (v0 v : Int) : Prop := v = v0 ∨ ∃ b, feC k b ∧ v = seC k b
theorem s_cendOf {G : Gx} {Z : Zm} {k : Bk} {o pos : Nat → Nat} {nd : Nat → Int} {C : Int} {u : Nat} {f : Nat → Int} {p : Int} (h : crC Z k o pos nd C) (hu : zA Z u 100 20) (hf : ∀ t, t < kN k → zI Z u t = f t ∧ 0 ≤ f t ∧ f t ≤ 100000) (hp : R32 p) : ZM G 1 m_X2_endOf [.ref 290, iv p, .ref u] Z (fun r W => r = .inl (some (iv (prE k f p))) ∧ W = Z) := by
  have ho : kOk k := h.2.2.2.2.1
  have hN := ho.n
  have e3 : zI Z 1 3 = (kN k : Int) := h.2.2.2.2.2.2.2.1
  refine e_X2_endOf h.1 h.2.1 h.2.2.1 hu ?_
  generalize hg : (fun t => if kF k 4 t = p then f t + kF k 0 t else 0) = g
  have ep : prE k f p = zmax g (kN k) := by rw [← hg]; rfl
  have gr : ∀ t, t < kN k → 0 ≤ g t ∧ g t ≤ 100060 := fun t ht => by
    have a := hf t ht
    have l := ho.len ht
    rw [← hg]
    show 0 ≤ (if kF k 4 t = p then f t + kF k 0 t else 0) ∧ (if kF k 4 t = p then f t + kF k 0 t else 0) ≤ 100060
    by_cases c : kF k 4 t = p
    · rw [if_pos c]
      omega
    · rw [if_neg c]
      omega
  suffices key : ∀ j, j ≤ kN k → ZP G 1 m_X2_endOf 5 [some (.ref 290), some (iv p), some (.ref u), some (iv (zmax g j)), some (iv (j : Int))] [] Z (fun r W => r = .inl (some (iv (prE k f p))) ∧ W = Z) from key 0 (Nat.zero_le _)
  refine am_up (n := kN k) fun j hj ih => ?_
  have zr : 0 ≤ zmax g j ∧ zmax g j ≤ 100060 := ⟨zmax_0 _ _, zmax_le (by omega) fun t ht => (gr t (by omega)).2⟩
  refine b_X2_endOf_5 h.1 h.2.1 h.2.2.1 hu ⟨by omega, by rw [e3]; omega, ?_⟩
  rw [e3]
  by_cases c : j < kN k
  case neg =>
    rw [if_pos (by omega), ep, show j = kN k by omega]
    exact ⟨rfl, rfl⟩
  obtain ⟨q1, -, q3⟩ := h.2.2.2.2.2.2.2.2.1 j c
  have a := hf j c
  have l := ho.len c
  have pj := (ho.2.1 j c).2.2.2.2.1
  rw [if_neg (by omega), Int.toNat_natCast, show zI Z (1 + 6) j = kF k 4 j from q3, show zI Z (1 + 2) j = kF k 0 j from q1, a.1]
  refine ⟨zIx_nat (by omega) (by omega), by omega, hp, fun _ => ⟨by omega, by omega, trivial⟩, ?_⟩
  have nx := ih c
  rw [zmax_s] at nx
  by_cases e : kF k 4 j = p
  · rw [if_pos e]
    rw [show g j = f j + kF k 0 j from by rw [← hg]; exact if_pos e] at nx
    exact nx
  · rw [if_neg e]
    rw [show g j = 0 from by rw [← hg]; exact if_neg e, Int.max_eq_left zr.1] at nx
    exact nx
def crRes (W : Zm) (k : Bk) (x : Nat) (C y : Int) (l : Nat → Int) (z : Int) : Rv → Zm → Prop := fun r V => r = .inl none ∧ zF (cS x) 0 0 W V ∧ (∀ t, t < kN k → zI V 292 t = l t) ∧ zI V 290 6 = C ∧ (0 ≤ zI V 290 5 ∧ zI V 290 5 ≤ zI W 290 5) ∧ atC k (zI W 290 5) (zI V 290 5) ∧ ∀ b, feC k b → csB k C y l z b → zI V 290 5 ≤ seC k b
theorem lf_bits {C y : Int} : ∀ t, t < 32 → (bq (zand C (zxor y (-1))) t = true ↔ lfQ C y t) := fun t ht => by
  rw [bq_and, bq_not y ht, Bool.and_eq_true, Bool.not_eq_true']
  exact Iff.rfl
theorem lf_y {k : Bk} (hN : kN k ≤ 20) {C y : Int} (hC : crQC k C) (hCr : R32 C) (hy : R32 y) (h2 : ∀ t, t < 32 → bq y t = true → bq C t = true) (ne : y ≠ C) : ∃ t, t < kN k ∧ lfQ C y t := Classical.byContradiction fun q => ne (bq_ext hy hCr fun t ht => by
  by_cases a : bq C t = true
  · by_cases b : bq y t = true
    · rw [a, b]
    · exact absurd ⟨t, ((hC t ht).mp a).1, a, Bool.eq_false_iff.mpr b⟩ q
  · rw [Bool.eq_false_iff.mpr a]
    exact Bool.eq_false_iff.mpr fun b => a (h2 t ht b))
theorem s_takeNext {G : Gx} {Z : Zm} {k : Bk} {o pos : Nat → Nat} {nd : Nat → Int} {C : Int} (h : crC Z k o pos nd C) (hC : crQC k C) (hCr : R32 C) (hA : ndA k (kM k) nd) (hO : ndO k (kM k) nd) : ∀ (m x : Nat), x + m ≤ 5 → ∀ (W : Zm) (y z : Int) (l : Nat → Int), zF (cS 0) 0 0 Z W → zI W 290 6 = C → (∀ t, t < kN k → zI W 292 t = l t) → (0 ≤ zI W 290 5 ∧ zI W 290 5 ≤ 2147483647) → tkI k nd C y l z x → zsum (fun t => ci (lfQ C y t)) (kN k) = (m : Int) → ZM G (m + 4) m_X2_takeNext [.ref 290, iv (x : Int), iv y, iv z] W (crRes W k x C y l z) := by
  have ho : kOk k := h.2.2.2.2.1
  have hord := h.2.2.2.2.2.1
  have hsrt := h.2.2.2.2.2.2.1
  have hN := ho.n
  have hS := hO.s ho hord
  have cs0 : ∀ {x a}, x ≤ 5 → cS x a → cS 0 a := fun {x a} _ g => by unfold cS at *; omega
  have hcW : ∀ {W}, zF (cS 0) 0 0 Z W → zI W 290 6 = C → crC W k o pos nd C := fun {W} f h6 => h.f f (fun a g => by unfold cS at g; omega) h6
  -- up to the next tasks
  suffices top : ∀ (m x : Nat), x ≤ 5 → ∀ (W : Zm) (y z : Int) (l : Nat → Int), zF (cS 0) 0 0 Z W → zI W 290 6 = C → (∀ t, t < kN k → zI W 292 t = l t) → (0 ≤ zI W 290 5 ∧ zI W 290 5 ≤ 2147483647) → tkI k nd C y l z x → (∀ f W2, isLF k (kF k 0) l f → zF (cS x) 0 0 W W2 → (∀ t, t < kN k → zI W2 292 t = l t) → zI W2 290 = zI W 290 → (∀ t, t < kN k → zI W2 (290 + 4 + x) t = f t) → y ≠ C → ZP G (m + 4) m_X2_takeNext 104 [some (.ref 290), some (iv (x : Int)), some (iv y), some (iv z), some (.ref (1 + 2)), some (.ref (290 + 4 + x)), none, some (iv (zand C (zxor y (-1)))), some (iv 0)] [] W2 (crRes W k x C y l z)) → ZM G (m + 4) m_X2_takeNext [.ref 290, iv (x : Int), iv y, iv z] W (crRes W k x C y l z) by
    intro m
    induction m with
    | zero =>
      intro x hx W y z l fW h6 hl h5 tk hm
      refine top 0 x (by omega) W y z l fW h6 hl h5 tk fun f W2 _ _ _ _ _ ne => ?_
      obtain ⟨t, t1, t2⟩ := lf_y hN hC hCr tk.1 tk.2.1 ne
      have := zsum_ci_e (Q := lfQ C y) t1 t2
      omega
    | succ m ih =>
      intro x hx W y z l fW h6 hl h5 tk hm
      refine top (m + 1) x (by omega) W y z l fW h6 hl h5 tk fun f W2 hf fW2 hl2 e290 hrow ne => ?_
      have fb := isLF_bound ho hf (fun t ht => ho.len ht) (c := 2000 * (x : Int)) (fun t ht => (tk.2.2.1 t ht).1)
      have zr := tk.2.2.2.1
      have hb := lf_bits (C := C) (y := y)
      generalize zand C (zxor y (-1)) = lv at *
      suffices loop : ∀ j, j ≤ kN k → ∀ V, zF (cS x) 0 0 W V → (∀ t, t < kN k → zI V 292 t = l t) → zI V 290 6 = C → (∀ t, t < kN k → zI V (290 + 4 + x) t = f t) → (0 ≤ zI V 290 5 ∧ zI V 290 5 ≤ zI W 290 5) → atC k (zI W 290 5) (zI V 290 5) → (∀ b, feC k b → csB k C y l z b → ∀ t, t < j → mnB k C y b t → zI V 290 5 ≤ seC k b) → ZP G (m + 1 + 4) m_X2_takeNext 104 [some (.ref 290), some (iv (x : Int)), some (iv y), some (iv z), some (.ref (1 + 2)), some (.ref (290 + 4 + x)), none, some (iv lv), some (iv (j : Int))] [] V (crRes W k x C y l z) from loop 0 (Nat.zero_le _) W2 fW2 hl2 (by rw [e290]; exact h6) hrow (by rw [e290]; omega) (by rw [e290]; exact Or.inl rfl) fun b _ _ t ht => absurd ht (Nat.not_lt_zero _)
      clear hrow hl2 e290 fW2 W2
      refine am_up (n := kN k) fun j hj ihj V fV hlV h6V hrow h5V atV sn => ?_
      have fZV : zF (cS 0) 0 0 Z V := fW.trans (fV.mono (fun a g => cs0 (by omega) g) (Nat.le_refl _) (Nat.le_refl _))
      have hv := hcW fZV h6V
      have e3 : zI V 1 3 = (kN k : Int) := hv.2.2.2.2.2.2.2.1
      have zu3 : zA V (1 + 2) 100 20 := hv.2.1.x0 0 (by decide)
      have zrw : zA V (290 + 4 + x) 100 20 := hv.1.x4 x (by omega)
      refine b_X2_takeNext_104 hv.1 hv.2.1 hv.2.2.1 (Nat.zero_le _) zu3 zrw ⟨by omega, by rw [e3]; omega, ?_⟩
      rw [e3]
      by_cases cj : j < kN k
      case neg =>
        rw [if_pos (by omega)]
        refine ⟨rfl, fV, hlV, h6V, h5V, atV, fun b hb' hc => ?_⟩
        obtain ⟨t, t1, t2, t3⟩ := min_ex b (kN k) (lf_y hN hC hCr tk.1 tk.2.1 ne)
        exact sn b hb' hc t (by omega) ⟨t2, t3⟩
      rw [if_neg (by omega)]
      refine ⟨zand_r _ _, ?_⟩
      rw [bq_sel lv (show j < 20 by omega)]
      by_cases g : bq lv j = true
      case neg =>
        rw [if_neg g, if_neg (by decide)]
        refine ihj cj V fV hlV h6V hrow h5V atV fun b hb' hc t ht hm => ?_
        by_cases e : t = j
        · rw [e] at hm
          exact absurd ((hb j (by omega)).mpr hm.1) g
        · exact sn b hb' hc t (by omega) hm
      rw [if_pos g, if_pos rfl, Int.toNat_natCast, show zI V (290 + 1) j = nd j from hv.2.2.2.2.2.2.2.2.2.1 j cj]
      have lj : lfQ C y j := (hb j (by omega)).mp g
      refine ⟨zIx_nat (by omega) (by omega), zand_r _ _, ?_⟩
      by_cases g0 : zand (nd j) lv = 0
      case neg =>
        rw [if_neg g0]
        refine ihj cj V fV hlV h6V hrow h5V atV fun b hb' hc t ht hm => ?_
        by_cases e : t = j
        · rw [e] at hm
          refine absurd ((zand_0 _ _).mpr fun u hu q => ?_) g0
          obtain ⟨u1, u2⟩ := hS j cj u hu q.1
          have a := hm.2 u u1 ((hb u hu).mp q.2)
          have c := u2 b hb'.2.1
          have d := ho.len u1
          omega
        · exact sn b hb' hc t (by omega) hm
      rw [if_pos g0, hrow j cj]
      have fj := fb j cj
      refine ⟨by omega, by omega, ?_⟩
      rintro _ rfl
      have fV1 : zF (cS x) 0 0 W (zSI V (290 + 2) (zu (zI V (290 + 2)) j (max (f j) z))) := fV.trans (zF_I (by unfold cS; omega))
      have e1 : zI (zSI V (290 + 2) (zu (zI V (290 + 2)) j (max (f j) z))) (290 + 2) j = max (f j) z := by rw [zI_same, zu_same]
      have e2 : zI (zSI V (290 + 2) (zu (zI V (290 + 2)) j (max (f j) z))) (1 + 2) j = kF k 0 j := by
        rw [zI_other (by decide)]
        exact (hv.2.2.2.2.2.2.2.2.1 j cj).1
      have e4 : zI (zSI V (290 + 2) (zu (zI V (290 + 2)) j (max (f j) z))) 290 = zI V 290 := zI_other (by decide)
      have e5 : ∀ t, t < kN k → zI (zSI V (290 + 2) (zu (zI V (290 + 2)) j (max (f j) z))) 292 t = zu l j (max (f j) z) t := fun t ht => by
        rw [show (290 + 2 : Nat) = 292 from rfl, zI_same]
        by_cases e : t = j
        · rw [e, zu_same, zu_same]
        · rw [zu_other e, zu_other e]
          exact hlV t ht
      have e6 : zI (zSI V (290 + 2) (zu (zI V (290 + 2)) j (max (f j) z))) (290 + 4 + x) = zI V (290 + 4 + x) := zI_other (by omega)
      rw [e1, e2, show (x : Int) + 1 = ((x + 1 : Nat) : Int) by omega]
      generalize zSI V (290 + 2) (zu (zI V (290 + 2)) j (max (f j) z)) = V1 at *
      have fZV1 : zF (cS 0) 0 0 Z V1 := fW.trans (fV1.mono (fun a g => cs0 (by omega) g) (Nat.le_refl _) (Nat.le_refl _))
      have tk2 := tkI.step ho hord hA hO tk hf cj lj fun u hu q => (zand_0 _ _).mp g0 u hu ⟨q.1, (hb u hu).mpr q.2⟩
      have cnt : zsum (fun t => ci (lfQ C (zor y (zshl 1 (j : Int))) t)) (kN k) = (m : Int) := by
        have a := zsum_dec (f := fun t => ci (lfQ C y t)) (g := fun t => ci (lfQ C (zor y (zshl 1 (j : Int))) t)) (fun t ht ne => ci_iff (by
          unfold lfQ
          rw [Bool.eq_false_iff, Bool.eq_false_iff, Ne, Ne, y_in (by omega) (by omega)]
          constructor
          · exact fun q => ⟨q.1, fun r => q.2 (Or.inl r)⟩
          · exact fun q => ⟨q.1, fun r => r.elim q.2 ne⟩)) cj
        have b : ci (lfQ C y j) = 1 := ci_p lj
        have c : ci (lfQ C (zor y (zshl 1 (j : Int))) j) = 0 := ci_f fun q => by
          have := q.2
          rw [(y_in (by omega) (by omega)).mpr (Or.inr rfl)] at this
          exact absurd this (by decide)
        have a : zsum (fun t => ci (lfQ C (zor y (zshl 1 (j : Int))) t)) (kN k) = zsum (fun t => ci (lfQ C y t)) (kN k) + (ci (lfQ C (zor y (zshl 1 (j : Int))) j) - ci (lfQ C y j)) := a
        omega
      refine (show ZM G (m + 4) m_X2_takeNext _ _ _ from ih (x + 1) (by omega) V1 (zor y (zshl 1 (j : Int))) (max (f j) z + kF k 0 j) (zu l j (max (f j) z)) fZV1 (by rw [e4]; exact h6V) e5 (by rw [e4]; omega) tk2 cnt).mono ?_
      rintro r V2 ⟨rfl, f2, l2, c6, r5, a5, s5⟩
      rw [e4] at r5 a5
      have fV2 : zF (cS x) 0 0 W V2 := fV1.trans (f2.mono (fun a g => by unfold cS at *; omega) (Nat.le_refl _) (Nat.le_refl _))
      have fZV2 : zF (cS 0) 0 0 Z V2 := fW.trans (fV2.mono (fun a g => cs0 (by omega) g) (Nat.le_refl _) (Nat.le_refl _))
      have hv2 := hcW fZV2 c6
      have e7 : zI V2 (290 + 4 + x) = zI V1 (290 + 4 + x) := f2.i (by have := (zrw.1); have := fV1.1.1; have := fV.1.1; have := (hcW fZV1 (by rw [e4]; exact h6V)).1.x4 x (by omega); exact this.1) (by unfold cS; omega)
      refine b_X2_takeNext_182 hv2.1 hv2.2.1 hv2.2.2.1 (Nat.zero_le _) (hv2.2.1.x0 0 (by decide)) (hv2.1.x4 x (by omega)) ⟨zIx_nat (by omega) (by decide), ?_⟩
      rintro _ rfl
      rw [Int.toNat_natCast]
      have e8 : zI (zSI V2 (290 + 2) (zu (zI V2 (290 + 2)) j 0)) 290 = zI V2 290 := zI_other (by decide)
      refine ihj cj _ (fV2.trans (zF_I (by unfold cS; omega))) (fun t ht => ?_) (by rw [e8]; exact c6) (fun t ht => ?_) (by rw [e8]; omega) ?_ fun b hb' hc t ht hm => ?_
      · rw [show (290 + 2 : Nat) = 292 from rfl, zI_same]
        by_cases e : t = j
        · rw [e, zu_same]
          exact ((tk.2.2.1 j cj).2 lj.2).symm
        · rw [zu_other e, l2 t ht, zu_other e]
      · rw [zI_other (by omega), e7, e6]
        exact hrow t ht
      · rw [e8]
        rcases a5 with q | q
        · rw [q]
          exact atV
        · exact Or.inr q
      · rw [e8]
        by_cases e : t = j
        · rw [e] at hm
          exact s5 b hb' (csB.step ho hC hb' hc hf cj hm)
        · have := sn b hb' hc t (by omega) hm
          omega
  intro m x hx W y z l fW h6 hl h5 tk go
  have hw := hcW fW h6
  refine e_X2_takeNext hw.1 hw.2.1 hw.2.2.1 (Nat.zero_le _) ⟨by omega, ?_⟩
  rw [if_pos (by omega)]
  refine ⟨zIx_nat (by omega) (by decide), ?_⟩
  rintro _ rfl
  rw [Int.toNat_natCast]
  have hg : ∀ t, t < kN k → zcpy (zI W (290 + 2)) (zI W (290 + 4 + x)) 0 0 20 t = l t := fun t ht => by
    show (if 0 ≤ t ∧ t < 0 + 20 then zI W (290 + 2) (0 + (t - 0)) else zI W (290 + 4 + x) t) = _
    rw [if_pos (by omega), Nat.zero_add, Nat.sub_zero]
    exact hl t ht
  generalize zcpy (zI W (290 + 2)) (zI W (290 + 4 + x)) 0 0 20 = g at *
  have f1 : zF (cS x) 0 0 W (zSI W (290 + 4 + x) g) := zF_I (by unfold cS; omega)
  have hw1 : crC (zSI W (290 + 4 + x) g) k o pos nd C := hcW (fW.trans (f1.mono (fun a g => cs0 hx g) (Nat.le_refl _) (Nat.le_refl _))) (by rw [zI_other (by omega)]; exact h6)
  have tl := tk.2.2.1
  refine ((s_pushBegins (u := 1 + 2) (v := 290 + 4 + x) (len := kF k 0) (lo := l) (c := 2000 * (x : Int)) hw1.2.2.1 (hw1.2.1.x0 0 (by decide)) (hw1.1.x4 x (by omega)) hw1.2.2.2.1 ho hord hsrt (fun t ht => ⟨(hw1.2.2.2.2.2.2.2.2.1 t ht).1, ho.len ht⟩) (fun t ht => by rw [zI_same]; exact ⟨hg t ht, (tl t ht).1⟩) (by omega) (by omega) (by omega)).deeper (by omega)).mono ?_
  rintro r W2 ⟨rfl, f, rfl, lf, -⟩
  rw [zSI_zSI]
  clear hw1 f1 hg g
  have f2 : zF (cS x) 0 0 W (zSI W (290 + 4 + x) f) := zF_I (by unfold cS; omega)
  have e290 : zI (zSI W (290 + 4 + x) f) 290 = zI W 290 := zI_other (by omega)
  have e292 : zI (zSI W (290 + 4 + x) f) 292 = zI W 292 := zI_other (by omega)
  have erow : zI (zSI W (290 + 4 + x) f) (290 + 4 + x) = f := zI_same _ _ _
  have e0 : ∀ v, zSI (zSI W (290 + 4 + x) f) 290 v = zSI (zSI W (290 + 4 + x) f) 290 v := fun _ => rfl
  have hw2 : crC (zSI W (290 + 4 + x) f) k o pos nd C := hcW (fW.trans (f2.mono (fun a g => cs0 hx g) (Nat.le_refl _) (Nat.le_refl _))) (by rw [e290]; exact h6)
  generalize zSI W (290 + 4 + x) f = W2 at *
  have fb := isLF_bound ho lf (fun t ht => ho.len ht) (c := 2000 * (x : Int)) (fun t ht => (tl t ht).1)
  have zr3 : zA W2 (1 + 2) 100 20 := hw2.2.1.x0 0 (by decide)
  have zrx : zA W2 (290 + 4 + x) 100 20 := hw2.1.x4 x (by omega)
  have fv : ∀ t, t < kN k → zI W2 (290 + 4 + x) t = f t ∧ 0 ≤ f t ∧ f t ≤ 100000 := fun t ht => ⟨by rw [erow], by have := fb t ht; omega⟩
  refine b_X2_takeNext_49 hw2.1 hw2.2.1 hw2.2.2.1 (Nat.zero_le _) zr3 zrx (((s_cendOf hw2 zrx fv (by decide)).deeper (by omega)).mono ?_)
  rintro r V ⟨rfl, hV⟩
  obtain rfl := hV.symm
  refine b_X2_takeNext_56 hw2.1 hw2.2.1 hw2.2.2.1 (Nat.zero_le _) zr3 zrx (((s_cendOf hw2 zrx fv (by decide)).deeper (by omega)).mono ?_)
  rintro r V ⟨rfl, hV⟩
  obtain rfl := hV.symm
  refine b_X2_takeNext_63 hw2.1 hw2.2.1 hw2.2.2.1 (Nat.zero_le _) zr3 zrx ?_
  rw [show prE k f 0 + prE k f 1 = seC k f from rfl, e290, h6]
  have sr := seC_r ho (f := f) (c := 2000 * (x : Int) + 1710) (fun t ht => (fb t ht).2) (by omega)
  have le : ∀ b, feC k b → csB k C y l z b → seC k f ≤ seC k b := fun b hb hc => seC_up ho (nsB_lf ho lf hb.2.1 hc.1)
  refine ⟨by omega, by omega, ?_⟩
  by_cases c1 : seC k f < zI W 290 5
  case neg =>
    rw [if_neg c1]
    refine ⟨rfl, f2, fun t ht => by rw [e292]; exact hl t ht, by rw [e290]; exact h6, by rw [e290]; omega, by rw [e290]; exact Or.inl rfl, fun b hb hc => ?_⟩
    rw [e290]
    have := le b hb hc
    omega
  rw [if_pos c1]
  refine ⟨tk.1, hCr, ?_⟩
  by_cases c2 : y = C
  · rw [if_pos c2]
    rintro _ rfl
    have d5 : zu (zI W 290) 5 (seC k f) 5 = seC k f := zu_same _ _ _
    have d6 : zu (zI W 290) 5 (seC k f) 6 = C := by rw [zu_other (by decide)]; exact h6
    refine ⟨rfl, f2.trans (zF_I (by unfold cS; omega)), fun t ht => by rw [zI_other (by decide), e292]; exact hl t ht, by rw [zI_same]; exact d6, ?_, ?_, fun b hb hc => ?_⟩
    · rw [zI_same, d5]
      omega
    · rw [zI_same, d5]
      exact Or.inr ⟨f, tk.fe ho hC lf c2, rfl⟩
    · rw [zI_same, d5]
      exact le b hb hc
  · rw [if_neg c2]
    exact go f W2 lf f2 (fun t ht => by rw [e292]; exact hl t ht) e290 (fun t ht => by rw [erow]) c2
theorem crC.g {S : Nat → Prop} {Z W : Zm} {k : Bk} {o pos : Nat → Nat} {nd : Nat → Int} {C : Int} (h : crC Z k o pos nd C) (f : zF S 0 0 Z W) (hs : ∀ a, S a → 290 ≤ a) : crC W k o pos (zI W 291) (zI W 290 6) := by
  obtain ⟨h1, h2, h3, h4, h5, h6', h7, h8, h9, h10, h11⟩ := h
  have lt : ∀ a, a < 290 → a < zSz Z := fun a ha => by have := h1.a3.1; omega
  have e : ∀ a, a < 290 → zI W a = zI Z a := fun a ha => f.i (lt a ha) fun g => by have := hs a g; omega
  refine ⟨h1.ext f.1, h2.ext f.1, h3.ext f.1, ?_, h5, h6', h7, by rw [e 1 (by omega)]; exact h8, ?_, fun _ _ => rfl, rfl⟩
  · unfold nS at *
    rw [e 233 (by omega), e (233 + 1) (by omega), e (233 + 3) (by omega), e (233 + 4) (by omega), e (233 + 5) (by omega)]
    exact h4
  · rw [e 3 (by omega), e 5 (by omega), e 7 (by omega)]
    exact h9
theorem nd_step {k : Bk} (ho : kOk k) {o pos : Nat → Nat} (hord : kOrd k o pos) (hsrt : kSrt k pos) {g : Nat → Int} {j : Nat} (hA : ndA k j g) (hO : ndO k j g) (c : j < kM k) : ndA k (j + 1) (zu g (kL k j) (zor (g (kL k j)) (zor (g (kE k j)) (zshl 1 (kE k j : Int))))) ∧ ndO k (j + 1) (zu g (kL k j) (zor (g (kL k j)) (zor (g (kE k j)) (zshl 1 (kE k j : Int))))) := by
  have hN := ho.n
  have le := ho.e c
  have ll := ho.l c
  have pj := hord.2.2 j c
  have bn : ∀ u, u < 32 → (bq (zu g (kL k j) (zor (g (kL k j)) (zor (g (kE k j)) (zshl 1 (kE k j : Int)))) (kL k j)) u = true ↔ bq (g (kL k j)) u = true ∨ bq (g (kE k j)) u = true ∨ u = kE k j) := fun u hu => by
    rw [zu_same, bq_or, Bool.or_eq_true, y_in (by omega) hu]
  have up : ∀ t u, u < 32 → bq (g t) u = true → bq (zu g (kL k j) (zor (g (kL k j)) (zor (g (kE k j)) (zshl 1 (kE k j : Int)))) t) u = true := fun t u hu q => by
    by_cases e : t = kL k j
    · rw [e] at q ⊢
      exact (bn u hu).mpr (Or.inl q)
    · rw [zu_other e]
      exact q
  constructor
  · intro i hi
    have ne : kE k i ≠ kL k j := fun e => by
      have a := hord.2.2 i (by omega)
      have b := hsrt i j (by omega) c
      rw [e] at a
      omega
    rw [zu_other ne]
    by_cases e : i = j
    · rw [e]
      exact ⟨(bn _ (by omega)).mpr (Or.inr (Or.inr rfl)), fun u hu q => (bn u hu).mpr (Or.inr (Or.inl q))⟩
    · obtain ⟨a1, a2⟩ := hA i (by omega)
      have := ho.e (j := i) (by omega)
      exact ⟨up _ _ (by omega) a1, fun u hu q => up _ u hu (a2 u hu q)⟩
  · intro t ht u hu q
    by_cases e : t = kL k j
    · rw [e] at q
      rcases (bn u hu).mp q with q | q | q
      · obtain ⟨i, i1, i2, i3⟩ := hO _ ll u hu q
        exact ⟨i, by omega, by rw [e]; exact i2, i3.imp id fun r => up _ u hu r⟩
      · exact ⟨j, Nat.lt_succ_self _, e.symm, Or.inr (up _ u hu q)⟩
      · exact ⟨j, Nat.lt_succ_self _, e.symm, Or.inl q⟩
    · rw [zu_other e] at q
      obtain ⟨i, i1, i2, i3⟩ := hO t ht u hu q
      exact ⟨i, by omega, i2, i3.imp id fun r => up _ u hu r⟩
theorem s_findNeeded {G : Gx} {Z : Zm} {k : Bk} {o pos : Nat → Nat} {nd : Nat → Int} {C : Int} (h : crC Z k o pos nd C) : ZM G 1 m_X2_findNeeded [.ref 290] Z (fun r W => r = .inl none ∧ zF (fun a => a = 291) 0 0 Z W ∧ ndA k (kM k) (zI W 291) ∧ ndO k (kM k) (zI W 291)) := by
  have ho : kOk k := h.2.2.2.2.1
  have hord := h.2.2.2.2.2.1
  have hsrt := h.2.2.2.2.2.2.1
  have hN := ho.n
  have hM := ho.m
  refine e_X2_findNeeded h.1 h.2.1 h.2.2.1 ?_
  rintro _ rfl
  suffices key : ∀ j, j ≤ kM k → ∀ W, zF (fun a => a = 291) 0 0 Z W → ndA k j (zI W 291) → ndO k j (zI W 291) → ZP G 1 m_X2_findNeeded 10 [some (.ref 290), some (iv (j : Int)), none] [] W (fun r W => r = .inl none ∧ zF (fun a => a = 291) 0 0 Z W ∧ ndA k (kM k) (zI W 291) ∧ ndO k (kM k) (zI W 291)) from key 0 (Nat.zero_le _) _ (zF_I rfl) (fun j hj => absurd hj (Nat.not_lt_zero _)) fun t ht u hu q => by
    rw [show (290 + 1 : Nat) = 291 from rfl, zI_same, show zfl (zI Z 291) 20 0 t = 0 from if_pos (by omega), bq_0 u hu] at q
    exact absurd q (by decide)
  refine am_up (n := kM k) fun j hj ih W f hA hO => ?_
  have hw := h.g f (fun a g => by omega)
  have e2 : zI W 233 2 = (kM k : Int) := hw.2.2.2.1.2.1
  refine b_X2_findNeeded_10 hw.1 hw.2.1 hw.2.2.1 ⟨by omega, by rw [e2]; omega, ?_⟩
  rw [e2]
  by_cases c : j < kM k
  case neg =>
    rw [if_pos (by omega)]
    rw [show j = kM k by omega] at hA hO
    exact ⟨rfl, f, hA, hO⟩
  obtain ⟨g1, g2, -⟩ := hw.2.2.2.1.2.2.2 j c
  have le := ho.e c
  have ll := ho.l c
  have pj := hord.2.2 j c
  rw [if_neg (by omega), Int.toNat_natCast, g1, g2, Int.toNat_natCast, Int.toNat_natCast]
  refine ⟨zIx_nat (by omega) (by omega), zIx_nat (by omega) (by omega), zIx_nat (by omega) (by omega), ?_⟩
  rintro _ rfl
  rw [show (290 + 1 : Nat) = 291 from rfl]
  have eg : zI (zSI W 291 (zu (zI W 291) (kL k j) (zor (zI W 291 (kL k j)) (zor (zI W 291 (kE k j)) (zshl 1 (kE k j : Int)))))) 291 = zu (zI W 291) (kL k j) (zor (zI W 291 (kL k j)) (zor (zI W 291 (kE k j)) (zshl 1 (kE k j : Int)))) := zI_same _ _ _
  obtain ⟨n1, n2⟩ := nd_step ho hord hsrt hA hO c
  exact ih c _ (f.trans (zF_I rfl)) (by rw [eg]; exact n1) (by rw [eg]; exact n2)
theorem s_findCraned {G : Gx} {Z : Zm} {k : Bk} {o pos : Nat → Nat} {nd : Nat → Int} {C : Int} (h : crC Z k o pos nd C) : ZM G 0 m_X2_findCraned [.ref 290] Z (fun r W => r = .inl none ∧ ∃ d, W = zSI Z 290 d ∧ (∀ i, i ≠ 6 → d i = zI Z 290 i) ∧ R32 (d 6) ∧ crQC k (d 6)) := by
  have ho : kOk k := h.2.2.2.2.1
  have hN := ho.n
  refine e_X2_findCraned h.1 h.2.1 h.2.2.1 ?_
  rintro _ rfl
  suffices key : ∀ j, j ≤ kN k → ∀ d, (∀ i, i ≠ 6 → d i = zI Z 290 i) → R32 (d 6) → (∀ t, t < 32 → (bq (d 6) t = true ↔ t < j ∧ kF k 2 t = 0)) → ZP G 0 m_X2_findCraned 7 [some (.ref 290), some (iv (j : Int))] [] (zSI Z 290 d) (fun r W => r = .inl none ∧ ∃ d, W = zSI Z 290 d ∧ (∀ i, i ≠ 6 → d i = zI Z 290 i) ∧ R32 (d 6) ∧ crQC k (d 6)) from key 0 (Nat.zero_le _) _ (fun i hi => zu_other hi) (by rw [zu_same]; decide) fun t ht => by
    rw [zu_same, bq_0 t ht]
    exact ⟨fun q => absurd q (by decide), fun q => absurd q.1 (Nat.not_lt_zero _)⟩
  refine am_up (n := kN k) fun j hj ih d hd hr hb => ?_
  have hw := h.g (zF_I (S := fun a => a = 290) (Z := Z) (a := 290) (f := d) rfl) (fun a g => by omega)
  have e3 : zI (zSI Z 290 d) 1 3 = (kN k : Int) := hw.2.2.2.2.2.2.2.1
  refine b_X2_findCraned_7 hw.1 hw.2.1 hw.2.2.1 ⟨by omega, by rw [e3]; omega, ?_⟩
  rw [e3]
  by_cases c : j < kN k
  case neg =>
    rw [if_pos (by omega)]
    rw [show j = kN k by omega] at hb
    exact ⟨rfl, d, rfl, hd, hr, hb⟩
  have mj := (ho.2.1 j c).2.2.1
  rw [if_neg (by omega), Int.toNat_natCast, show zI (zSI Z 290 d) (1 + 4) j = kF k 2 j from (hw.2.2.2.2.2.2.2.2.1 j c).2.1]
  refine ⟨zIx_nat (by omega) (by omega), by omega, ?_⟩
  by_cases g : kF k 2 j = 0
  · rw [if_pos g]
    rintro _ rfl
    rw [zI_same, zSI_zSI]
    refine ih c _ (fun i hi => by rw [zu_other hi]; exact hd i hi) (by rw [zu_same]; exact zor_r _ _) fun t ht => ?_
    rw [zu_same, y_in (by omega) ht, hb t ht]
    constructor
    · rintro (q | q)
      · exact ⟨by omega, q.2⟩
      · rw [q]
        exact ⟨Nat.lt_succ_self _, g⟩
    · intro q
      by_cases e : t = j
      · exact Or.inr e
      · exact Or.inl ⟨by omega, q.2⟩
  · rw [if_neg g]
    refine ih c d hd hr fun t ht => ?_
    rw [hb t ht]
    constructor
    · exact fun q => ⟨by omega, q.2⟩
    · intro q
      refine ⟨Nat.lt_of_le_of_ne (by omega) fun e => g ?_, q.2⟩
      rw [← e]
      exact q.2
theorem s_leastSum {G : Gx} {Z : Zm} {k : Bk} {o pos : Nat → Nat} {nd : Nat → Int} {C : Int} (h : crC Z k o pos nd C) (hc : cnN k ≤ 5) : ZM G 12 m_X2_leastSum [.ref 290] Z (fun r W => r = .inl (some (iv (vCn k))) ∧ zF (zB 290 300) 0 0 Z W) := by
  have ho : kOk k := h.2.2.2.2.1
  have hord := h.2.2.2.2.2.1
  have hN := ho.n
  refine e_X2_leastSum h.1 h.2.1 h.2.2.1 ?_
  rintro _ rfl
  rintro _ rfl
  have f1 : zF (zB 290 300) 0 0 Z (zSI (zSI Z 290 (zu (zI Z 290) 5 2147483647)) (290 + 2) (zfl (zI (zSI Z 290 (zu (zI Z 290) 5 2147483647)) (290 + 2)) 20 0)) := (zF_I (by unfold zB; omega)).trans (zF_I (by unfold zB; omega))
  have e5 : zI (zSI (zSI Z 290 (zu (zI Z 290) 5 2147483647)) (290 + 2) (zfl (zI (zSI Z 290 (zu (zI Z 290) 5 2147483647)) (290 + 2)) 20 0)) 290 5 = 2147483647 := by
    rw [zI_other (by decide), zI_same, zu_same]
  have el : ∀ t, t < kN k → zI (zSI (zSI Z 290 (zu (zI Z 290) 5 2147483647)) (290 + 2) (zfl (zI (zSI Z 290 (zu (zI Z 290) 5 2147483647)) (290 + 2)) 20 0)) 292 t = 0 := fun t ht => by
    rw [show (290 + 2 : Nat) = 292 from rfl, zI_same]
    exact if_pos (by omega)
  generalize zSI (zSI Z 290 (zu (zI Z 290) 5 2147483647)) (290 + 2) (zfl (zI (zSI Z 290 (zu (zI Z 290) 5 2147483647)) (290 + 2)) 20 0) = Z1 at *
  have h1 := h.g f1 (fun a g => by unfold zB at g; omega)
  refine ((s_findNeeded h1).deeper (by omega)).mono ?_
  rintro r Z2 ⟨rfl, f2, hA, hO⟩
  have h2 := h1.g f2 (fun a g => by omega)
  have ff2 := f1.trans (f2.mono (T := zB 290 300) (fun a g => by unfold zB; omega) (Nat.le_refl _) (Nat.le_refl _))
  have i290 : zI Z2 290 = zI Z1 290 := f2.i (by have := h1.1.a3.1; omega) (by decide)
  have i292 : zI Z2 292 = zI Z1 292 := f2.i (by have := h1.1.x4 0 (by decide); exact Nat.lt_of_le_of_lt (by omega) this.1) (by decide)
  refine b_X2_leastSum_18 h2.1 h2.2.1 h2.2.2.1 (((s_findCraned h2).deeper (by omega)).mono ?_)
  rintro r Z3 ⟨rfl, d, eZ3, hd, hr, hC⟩
  have f3 : zF (zB 290 300) 0 0 Z2 Z3 := by rw [eZ3]; exact zF_I (by unfold zB; omega)
  have ff3 := ff2.trans f3
  have d5 : d 5 = 2147483647 := by rw [hd 5 (by decide), i290]; exact e5
  have j290 : zI Z3 290 = d := by rw [eZ3]; exact zI_same _ _ _
  have j291 : zI Z3 291 = zI Z2 291 := by rw [eZ3]; exact zI_other (by decide)
  have j292 : zI Z3 292 = zI Z1 292 := by rw [eZ3, zI_other (by decide)]; exact i292
  have h3 : crC Z3 k o pos (zI Z2 291) (d 6) := by
    have a := h2.g f3 (fun a g => by unfold zB at g; omega)
    rw [j290, j291] at a
    exact a
  clear eZ3
  refine b_X2_leastSum_22 h3.1 h3.2.1 h3.2.2.1 ?_
  have bz : ∀ t, t < 32 → ¬ bq 0 t = true := fun t ht q => by rw [bq_0 t ht] at q; exact absurd q (by decide)
  have cnt : zsum (fun t => ci (lfQ (d 6) 0 t)) (kN k) = cnN k := zsum_eq fun t ht => by
    by_cases g : kF k 2 t = 0
    · rw [if_pos g, ci_p ⟨(hC t (by omega)).mpr ⟨ht, g⟩, bq_0 t (by omega)⟩]
    · rw [if_neg g, ci_f fun q => g ((hC t (by omega)).mp q.1).2]
  have c0 : 0 ≤ cnN k := zsum_nn fun t _ => by split <;> decide
  obtain ⟨m, hm⟩ : ∃ m : Nat, cnN k = (m : Int) := ⟨(cnN k).toNat, by omega⟩
  refine ((s_takeNext h3 hC hr hA hO m 0 (by omega) Z3 0 0 (fun _ => 0) zF.refl (by rw [j290]) (fun t ht => by rw [j292]; exact el t ht) (by rw [j290]; omega) ⟨by decide, fun t ht q => absurd q (bz t ht), fun t ht => ⟨by show (0 : Int) ≤ 0 ∧ (0 : Int) ≤ 2000 * ((0 : Nat) : Int); omega, fun _ => rfl⟩, by omega, fun t ht q => absurd q (bz t (by omega)), fun t u ht hu ne q => absurd q (bz t (by omega))⟩ (cnt.trans hm)).deeper (by omega)).mono ?_
  rintro r V ⟨rfl, fV, -, -, r5, a5, s5⟩
  rw [j290] at r5 a5
  have hv := h3.g fV (fun a g => by unfold cS at g; omega)
  refine b_X2_leastSum_29 hv.1 hv.2.1 hv.2.2.1 ⟨?_, ff3.trans (fV.mono (fun a g => by unfold cS at g; unfold zB; omega) (Nat.le_refl _) (Nat.le_refl _))⟩
  have le : ∀ b, feC k b → zI V 290 5 ≤ seC k b := fun b hb => s5 b hb ⟨fun t ht => hb.1 t ht, fun t ht _ => hb.1 t ht⟩
  rw [vCn_of ⟨?_, le⟩]
  rcases a5 with q | q
  · obtain ⟨b, b1, b2'⟩ := feC_ex ho (pos := pos) (fun t ht => by have := (hord.2.1 t ht).1; omega) (fun t u ht hu e => by rw [← (hord.2.1 t ht).2, e, (hord.2.1 u hu).2]) hord.2.2
    have := le b b1
    rw [q, d5] at this
    omega
  · exact q
theorem kPm.feC {k k' : Bk} (h : kPm k k') {b : Nat → Int} : _root_.Jvm.Pilot.@@N@@.feC k' b ↔ _root_.Jvm.Pilot.@@N@@.feC k b := by
  have hn : kN k' = kN k := h.1
  have hf : kF k' = kF k := h.2.2.1
  have hv : ∀ t u, noV k' b t u ↔ noV k b t u := fun t u => by
    unfold noV
    rw [hf]
  have hs : nsB k' b ↔ nsB k b := by
    unfold nsB
    constructor
    · intro h2 j hj
      obtain ⟨i, hi, e1, e2, e3⟩ := h.to hj
      have g := h2 i hi
      unfold lateB at g ⊢
      rw [hf, e1, e2, e3] at g
      exact g
    · intro h2 j hj
      obtain ⟨i, hi, e1, e2, e3⟩ := h.of hj
      have g := h2 i hi
      unfold lateB at g ⊢
      rw [hf, ← e1, ← e2, ← e3]
      exact g
  unfold _root_.Jvm.Pilot.@@N@@.feC
  rw [hn, hf, hs]
  constructor
  · exact fun q => ⟨q.1, q.2.1, fun t u a b c d e => (hv t u).mp (q.2.2 t u a b c d e)⟩
  · exact fun q => ⟨q.1, q.2.1, fun t u a b c d e => (hv t u).mpr (q.2.2 t u a b c d e)⟩
theorem kPm.vCn {k k' : Bk} (h : kPm k k') : _root_.Jvm.Pilot.@@N@@.vCn k' = _root_.Jvm.Pilot.@@N@@.vCn k := by
  have hn : kN k' = kN k := h.1
  have hf : kF k' = kF k := h.2.2.1
  have hs : ∀ b, seC k' b = seC k b := fun b => by
    unfold seC prE
    rw [hn, hf]
  have : isCr k' = isCr k := funext fun v => propext (by
    unfold isCr
    constructor
    · rintro ⟨⟨b, q1, q2⟩, q3⟩
      exact ⟨⟨b, h.feC.mp q1, by rw [q2, hs]⟩, fun c hc => by rw [← hs]; exact q3 c (h.feC.mpr hc)⟩
    · rintro ⟨⟨b, q1, q2⟩, q3⟩
      exact ⟨⟨b, h.feC.mpr q1, by rw [q2, hs]⟩, fun c hc => by rw [hs]; exact q3 c (h.feC.mp hc)⟩)
  unfold _root_.Jvm.Pilot.@@N@@.vCn
  rw [this]
theorem c_crane {G : Gx} {Z : Zm} {σ : St} (h : IC Z σ) (ho : okS σ) (hz : zSz Z < 1000000) : ZM G 14 m_X11_crane [.ref 0] Z (rC Z (E3 eU "" "") iv (o_crane σ)) := by
  have hN := ho.1.n
  have cr := zsum_bound (f := fun t => if kF (sK σ) 2 t = 0 then 1 else 0) (n := kN (sK σ)) (a := 0) (b := 1) fun i _ => by split <;> decide
  refine e_X11_crane h.1 (((s_countWith h.1.bk h.2.1 ho.1 (r := 2) (y := 0) (by decide) (by decide)).deeper (by omega)).mono ?_)
  rintro r W ⟨rfl, hW⟩
  obtain rfl := hW.symm
  have ec : zsum (fun t => if kF (sK σ) 2 t = 0 then 1 else 0) (kN (sK σ)) = cnN (sK σ) := rfl
  rw [ec] at cr ⊢
  unfold o_crane
  refine b_X11_crane_9 h.1 ⟨by omega, ?_⟩
  by_cases c : cnN (sK σ) ≤ 5
  case neg =>
    rw [if_neg c, cIf_f c]
    exact ⟨hz, rC.no h (by decide) rfl⟩
  rw [if_pos c, cIf_p c]
  refine ((s_freshNet h ho.1).deeper (by omega)).mono ?_
  rintro r V ⟨rfl, f, cn⟩
  obtain ⟨h1, f1⟩ := h.nt f cn
  obtain ⟨-, k', o, pos, hpm, hord, hsrt, ns, -⟩ := cn
  have hn : kN k' = kN (sK σ) := hpm.1
  have hf : kF k' = kF (sK σ) := hpm.2.2.1
  have hc : crC V k' o pos (zI V 291) (zI V 290 6) := ⟨h1.1.cr, h1.1.bk, h1.1.nt, ns, hpm.ok ho.1, hord, hsrt, by rw [hn]; exact h1.2.1.1, fun t ht => by
    rw [hn] at ht
    rw [hf]
    exact ⟨h1.2.1.2.2.1 0 t (by omega) ht, h1.2.1.2.2.1 2 t (by omega) ht, h1.2.1.2.2.1 4 t (by omega) ht⟩, fun _ _ => rfl, rfl⟩
  have hcn : cnN k' = cnN (sK σ) := by
    unfold cnN
    rw [hn, hf]
  refine b_X11_crane_28 h1.1 (((s_leastSum hc (by omega)).deeper (by omega)).mono ?_)
  rintro r W ⟨rfl, f2⟩
  have h2 : IC W σ := h1.fr0 f2 (fun a q => by unfold zB at q; unfold scr; omega) fun a g1 g2 q => by unfold zB at q; omega
  exact b_X11_crane_36 h2.1 (rC.ok h2 (f1.trans (f2.mono (fun a q => by unfold zB at q; show a < 300; omega) (Nat.le_refl _) (Nat.le_refl _))).c1 hpm.vCn)
