/-! ===== the class puts all tasks on the clock ===== -/
theorem s_letOf {G : Gx} {Z : Zm} {q n x : Nat} {k : Bk} {o : Nat → Nat} (hq : atClock Z q) (hn : atNet Z n) (hs : nS Z n k o) (ho : kOk k) (hx : x < kN k) (he : ∀ j, j < kM k → kL k j = x → -1 ≤ zI Z (q + 7) (kE k j) ∧ zI Z (q + 7) (kE k j) ≤ 300000) : ZM G 1 m_X1_letOf [.ref q, .ref n, iv (x : Int)] Z (fun r W => (∃ L, sLt k (zI Z (q + 7)) x (kM k) L ∧ r = .inl (some (iv L))) ∧ W = Z) := by
  have hN := ho.n
  have hM := ho.m
  obtain ⟨h1, h2, -, h4⟩ := hs
  refine e_X1_letOf hq hn ?_
  suffices key : ∀ j, j ≤ kM k → ∀ L, 0 ≤ L ∧ L ≤ 300100 → sLt k (zI Z (q + 7)) x j L → ZP G 1 m_X1_letOf 5 [some (.ref q), some (.ref n), some (iv (x : Int)), some (iv L), some (iv (j : Int)), none] [] Z (fun r W => (∃ L, sLt k (zI Z (q + 7)) x (kM k) L ∧ r = .inl (some (iv L))) ∧ W = Z) from key 0 (Nat.zero_le _) 0 (by omega) (sLt_0 _ _ _)
  refine am_up (n := kM k) fun j hj ih L hL hs => ?_
  refine b_X1_letOf_5 hq hn ⟨by omega, by rw [h2]; omega, ?_⟩
  rw [h2]
  by_cases c : j < kM k
  · obtain ⟨e1, e2, e3⟩ := h4 j c
    have hl := ho.l c
    have hee := ho.e c
    have hg := ho.g c
    rw [if_neg (by omega), Int.toNat_natCast, e1, e2, e3, Int.toNat_natCast]
    refine ⟨zIx_nat (by omega) (by omega), by omega, by omega, ?_⟩
    by_cases d : (kL k j : Int) = (x : Int)
    · have d' : kL k j = x := by omega
      obtain ⟨r1, r2⟩ := he j c d'
      have tk := hs.take d' r1 hg.1
      rw [if_neg (by omega)] at tk
      rw [if_pos d]
      refine ⟨zIx_nat (by omega) (by omega), by omega, ?_⟩
      by_cases f : zI Z (q + 7) (kE k j) = -1
      · rw [if_pos f]
        exact ⟨⟨-1, Or.inl ⟨rfl, j, c, d', f⟩, rfl⟩, rfl⟩
      · rw [if_neg f]
        rw [if_neg f] at tk
        exact ⟨by omega, by omega, ih c _ (by omega) tk⟩
    · rw [if_neg d]
      exact ih c L hL (hs.skip fun g => d (by omega))
  · rw [if_pos (by omega)]
    have ej : j = kM k := by omega
    rw [ej] at hs
    exact ⟨⟨L, hs, rfl⟩, rfl⟩
theorem s_putTask {G : Gx} {Z : Zm} {σ : St} {x l : Nat} (h : IC Z σ) (ho : okS σ) (hx : x < kN (sK σ)) (hl : l ≤ 300000) : ZM G 1 m_X1_putTask [.ref 244, .ref 1, iv (x : Int), iv (l : Int)] Z (fun r W => r = .inl none ∧ ∃ b e, isTk (sW σ (kF (sK σ) 3 x).toNat) (kF (sK σ) 0 x) (kF (sK σ) 5 x) (l : Int) b e ∧ W = zSI (zSI Z 250 (zu (zI Z 250) x b)) 251 (zu (zI Z 251) x e)) := by
  have hN := ho.1.n
  have hcl : atClock Z 244 := h.1.cl
  have hbk : atBook Z 1 := h.1.bk
  have hc := ho.1.c hx
  have e3 := h.2.1.2.2.1 3 x (by omega) hx
  have e5 := h.2.1.2.2.1 5 x (by omega) hx
  have e0 := h.2.1.2.2.1 0 x (by omega) hx
  have hd := ho.1.len hx
  have h5 := ho.1.f (r := 5) (by omega) hx
  obtain ⟨w1, w2⟩ := ho.w (kF (sK σ) 3 x).toNat (by omega)
  have e3' : zI Z (1 + 5) x = kF (sK σ) 3 x := e3
  have hk : cWk Z (244 + 2 + (zI Z (1 + 5) x).toNat) (sW σ (kF (sK σ) 3 x).toNat) := by
    rw [e3']
    exact h.wk (c := (kF (sK σ) 3 x).toNat) (by omega) w1
  have ha : zA Z (244 + 2 + (zI Z (1 + 5) x).toNat) 100 168 := by
    rw [e3']
    exact hcl.2.2.2.2.1 _ (by omega)
  refine e_X1_putTask hcl hbk ?_
  rw [Int.toNat_natCast, show 1 + 7 = 1 + 2 + 5 from rfl, e5]
  refine ⟨zIx_nat (by omega) (by omega), ⟨by omega, by omega, by decide⟩, by omega, ?_⟩
  have e0' : zI Z (1 + 2) x = kF (sK σ) 0 x := e0
  obtain ⟨d, hd2⟩ : ∃ d : Nat, kF (sK σ) 0 x = (d : Int) := ⟨(kF (sK σ) 0 x).toNat, by omega⟩
  by_cases c : kF (sK σ) 5 x = 1
  · rw [if_pos c]
    refine (s_firstOfRow (n := 1) hcl ha hk (by omega) (by omega)).mono ?_
    rintro r W ⟨hr, hW⟩
    obtain rfl := hW.symm
    rcases hr with ⟨b, hb, rfl⟩ | ⟨hb, -⟩
    · have hb2 := isRB_r hb
      have hm := zsum_w1 w1 w2
      refine b_X1_putTask_50 (s1 := (x : Int)) hcl hbk ⟨zIx_nat (by omega) (by omega), ?_⟩
      rintro _ rfl
      rw [Int.toNat_natCast, zI_same, zu_same, e0', hd2]
      have ha2 : zA (zSI Z 250 (zu (zI Z 250) x (b : Int))) (244 + 2 + (zI Z (1 + 5) x).toNat) 100 168 := ha.s
      have hk2 : cWk (zSI Z 250 (zu (zI Z 250) x (b : Int))) (244 + 2 + (zI Z (1 + 5) x).toNat) (sW σ (kF (sK σ) 3 x).toNat) := ⟨w1, fun i hi => by rw [zI_other (by rw [e3']; omega)]; exact hk.2 i hi⟩
      refine ⟨zIx_nat (by omega) (by omega), (s_endOfPausing hcl.s ha2 hk2 (by omega) (by omega) (by omega)).mono ?_⟩
      rintro r W ⟨⟨e, he, -, rfl⟩, hW⟩
      obtain rfl := hW.symm
      refine b_X1_putTask_70 (s1 := (x : Int)) hcl.s hbk ⟨zIx_nat (by omega) (by omega), ?_⟩
      rintro _ rfl
      rw [Int.toNat_natCast, zI_other (f := zu (zI Z 250) x (b : Int)) (show 244 + 7 ≠ 250 by decide)]
      exact ⟨rfl, b, e, Or.inr ⟨l, d, rfl, rfl, Or.inl ⟨c, b, e, hb, isPE_pre w1 hb he, rfl, rfl⟩⟩, rfl⟩
    · exact (noRB_ab w2 hb).elim
  · rw [if_neg c, e0', hd2]
    refine (s_firstOfRow (n := d) hcl ha hk (by omega) (by omega)).mono ?_
    rintro r W ⟨hr, hW⟩
    obtain rfl := hW.symm
    rcases hr with ⟨b, hb, rfl⟩ | ⟨hb, rfl⟩
    · have hb2 := isRB_r hb
      refine b_X1_putTask_88 (s1 := (x : Int)) hcl hbk ⟨zIx_nat (by omega) (by omega), ?_⟩
      rintro _ rfl
      rw [Int.toNat_natCast, zI_same, zu_same, if_neg (by omega), zI_other (f := zu (zI Z 250) x (b : Int)) (show 244 + 7 ≠ 250 by decide)]
      refine ⟨zIx_nat (by omega) (by omega), by omega, ?_⟩
      rintro _ rfl
      exact ⟨rfl, b, (b : Int) + d, Or.inr ⟨l, d, rfl, rfl, Or.inr ⟨c, Or.inl ⟨b, hb, rfl, rfl⟩⟩⟩, rfl⟩
    · refine b_X1_putTask_88 (s1 := (x : Int)) hcl hbk ⟨zIx_nat (by omega) (by omega), ?_⟩
      rintro _ rfl
      rw [Int.toNat_natCast, zI_same, zu_same, if_pos rfl, zI_other (f := zu (zI Z 250) x (-1)) (show 244 + 7 ≠ 250 by decide)]
      refine ⟨zIx_nat (by omega) (by omega), by decide, ?_⟩
      rintro _ rfl
      exact ⟨rfl, -1, -1, Or.inr ⟨l, d, rfl, rfl, Or.inr ⟨c, Or.inr ⟨hb, rfl, rfl⟩⟩⟩, rfl⟩
theorem isClk.pm {k k' : Bk} (h : kPm k k') {W : Nat → Nat → Int} {b e : Nat → Int} (hc : isClk k' W b e) : isClk k W b e := fun t ht => by
  obtain ⟨⟨L, a1, a2⟩, a3⟩ := hc t (by rw [h.1]; exact ht)
  refine ⟨⟨L, h.slt a1, ?_⟩, a3⟩
  rw [h.2.2.1] at a2
  exact a2
theorem s_putAll {G : Gx} {Z : Zm} {σ : St} (h : IC Z σ) (ho : okS σ) (hn : cN Z 233 (sK σ)) : ZM G 2 m_X1_putAll [.ref 244, .ref 1, .ref 233] Z (fun r W => r = .inl none ∧ IC W σ ∧ zF cF 0 0 Z W ∧ (∀ t, t < kN (sK σ) → zI W 250 t = vCb σ t ∧ zI W 251 t = vCe σ t) ∧ ∀ t, t < kN (sK σ) → -1 ≤ vCb σ t ∧ vCb σ t ≤ vCe σ t ∧ vCe σ t ≤ 206000 ∧ (vCb σ t = -1 ↔ vCe σ t = -1)) := by
  have hN := ho.1.n
  have hcl : atClock Z 244 := h.1.cl
  have hbk : atBook Z 1 := h.1.bk
  have hnt : atNet Z 233 := h.1.nt
  have hn0 := hn
  obtain ⟨h0, k, o, pos, hpm, hord, hsrt, hs, -⟩ := hn
  have hok := hpm.ok ho.1
  have eN : kN k = kN (sK σ) := hpm.1
  have eF : kF k = kF (sK σ) := hpm.2.2.1
  obtain ⟨o1, o2, o3⟩ := hord
  have hIC : ∀ f g, IC (zSI (zSI Z 250 f) 251 g) σ := fun f g => h.fr0 (S := fun a => a = 250 ∨ a = 251) ((zF_I (Or.inl rfl)).trans (zF_I (Or.inr rfl))) (fun a g => by unfold scr; omega) fun a g1 g2 => by omega
  have hS : ∀ f g, nS (zSI (zSI Z 250 f) 251 g) 233 k o := fun f g => hs.frame (S := fun a => a = 250 ∨ a = 251) hnt ((zF_I (Or.inl rfl)).trans (zF_I (Or.inr rfl))) fun a q => by omega
  have e250 : ∀ f g, zI (zSI (zSI Z 250 f) 251 g) 250 = f := fun f g => by rw [zI_other (by decide), zI_same]
  have e251 : ∀ f g, zI (zSI (zSI Z 250 f) 251 g) 251 = g := fun f g => zI_same _ _ _
  have up : ∀ f g f' g', zSI (zSI (zSI (zSI Z 250 f) 251 g) 250 f') 251 g' = zSI (zSI Z 250 f') 251 g' := fun f g f' g' => by
    rw [zSI_comm (zSI Z 250 f) g f' (by decide), zSI_zSI, zSI_zSI]
  refine e_X1_putAll hcl hbk hnt ?_
  suffices key : ∀ p, p ≤ kN k → ∀ f g, ckI k (sW σ) pos (fun t => pos t < p) f g → ZP G 2 m_X1_putAll 2 [some (.ref 244), some (.ref 1), some (.ref 233), some (iv (p : Int)), none, none] [] (zSI (zSI Z 250 f) 251 g) (fun r W => r = .inl none ∧ IC W σ ∧ zF cF 0 0 Z W ∧ (∀ t, t < kN (sK σ) → zI W 250 t = vCb σ t ∧ zI W 251 t = vCe σ t) ∧ ∀ t, t < kN (sK σ) → -1 ≤ vCb σ t ∧ vCb σ t ≤ vCe σ t ∧ vCe σ t ≤ 206000 ∧ (vCb σ t = -1 ↔ vCe σ t = -1)) by
    have h9 := key 0 (Nat.zero_le _) (zI Z 250) (zI Z 251) fun t _ q => absurd q (Nat.not_lt_zero _)
    rw [zSI_id, zSI_id] at h9
    exact h9
  refine am_up (n := kN k) fun p hp ih f g hI => ?_
  obtain ⟨s1, s2, s3, s4⟩ := hS f g
  refine b_X1_putAll_2 hcl.s.s hbk hnt ⟨by omega, by rw [s1]; omega, ?_⟩
  rw [s1]
  by_cases c : p < kN k
  · obtain ⟨q1, q2⟩ := o1 p c
    have hF : ∀ j, j < kM k → kL k j = o p → pos (kE k j) < p := fun j hj q => by
      have := o3 j hj
      rw [q, q2] at this
      exact this
    rw [if_neg (by omega), Int.toNat_natCast, s3 p c]
    refine ⟨zIx_nat (by omega) (by omega), (s_letOf (q := 244) hcl.s.s hnt (hS f g) hok q1 fun j hj q => ?_).mono ?_⟩
    · rw [show 244 + 7 = 251 from rfl, e251]
      have a1 := hI (kE k j) (hok.e hj) (hF j hj q)
      have a2 := hF j hj q
      omega
    rintro r W ⟨⟨L, hL, rfl⟩, hW⟩
    obtain rfl := hW.symm
    rw [show 244 + 7 = 251 from rfl, e251] at hL
    have rL := hI.let hok o3 hF (Nat.le_refl _) hL
    rw [q2] at rL
    refine b_X1_putAll_25 hcl.s.s hbk hnt ⟨zIx_nat (by omega) (by omega), ?_⟩
    rintro _ rfl _ rfl
    rw [Int.toNat_natCast, zI_other (f := zu (zI (zSI (zSI Z 250 f) 251 g) (244 + 6)) (o p) (-1)) (show 244 + 7 ≠ 244 + 6 by decide), show 244 + 6 = 250 from rfl, show 244 + 7 = 251 from rfl, e250, e251, up]
    refine ⟨by omega, ?_⟩
    have go : ∀ b e, isTk (sW σ (kF k 3 (o p)).toNat) (kF k 0 (o p)) (kF k 5 (o p)) L b e → ckI k (sW σ) pos (fun t => pos t < p + 1) (zu f (o p) b) (zu g (o p) e) := fun b e hT => by
      refine hI.set hok ho.w q1 (show ¬ pos (o p) < p by omega) o3 hF hL hT fun t ht => ?_
      show pos t < p + 1 ↔ pos t < p ∨ t = o p
      constructor
      · intro g1
        by_cases g2 : pos t < p
        · exact Or.inl g2
        · right
          rw [← (o2 t ht).2, show pos t = p by omega]
      · rintro (g1 | rfl)
        · omega
        · rw [q2]
          exact Nat.lt_succ_self _
    by_cases d : L = -1
    · rw [if_pos d]
      exact ih c _ _ (go _ _ (Or.inl ⟨d, rfl, rfl⟩))
    · rw [if_neg d]
      obtain ⟨l, rfl⟩ : ∃ l : Nat, L = (l : Int) := ⟨L.toNat, by omega⟩
      refine (s_putTask (hIC _ _) ho (by omega) (by omega)).mono ?_
      rintro r W ⟨rfl, b, e, hT, rfl⟩
      rw [e250, e251, up, zu_zu, zu_zu]
      refine b_X1_putAll_58 hcl.s.s hbk hnt ?_
      rw [← eF] at hT
      exact ih c _ _ (go _ _ hT)
  · rw [if_pos (by omega)]
    have ep : p = kN k := by omega
    rw [ep] at hI
    have hC : isClk (sK σ) (sW σ) f g := (hI.clk hok (fun t ht => (o2 t ht).1) fun t ht => (o2 t ht).1).pm hpm
    have hv := vClk_of ho.1 ho.w hC
    refine ⟨rfl, hIC f g, ((zF_cA (by decide)).trans (zF_cA (by decide))), fun t ht => ?_, fun t ht => ?_⟩
    · rw [e250, e251]
      exact hv t ht
    · obtain ⟨-, a⟩ := hC t ht
      rw [(hv t ht).1, (hv t ht).2] at a
      exact a
