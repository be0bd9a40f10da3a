/-! ===== the model's clock, all rounds ===== -/
/-- task x, j needs looked at: all of its earlier tasks are known, L is the let so far; or not -/
def cjP (k : Bk) (f g : Nat → Int) (x j : Nat) (L al : Int) : Prop := (al = 1 ∧ f x = 0 ∧ (∀ i, i < j → kL k i = x → f (kE k i) = 1) ∧ sLt k (fun t => g (20 + t)) x j L) ∨ (al = 0 ∧ (f x = 1 ∨ ∃ i, i < kM k ∧ kL k i = x ∧ f (kE k i) = 0))
def cjI (k : Bk) (W : Nat → Nat → Int) (pos : Nat → Nat) (f g : Nat → Int) : Prop := (∀ t, t < kN k → f t = 0 ∨ f t = 1) ∧ ckI k W pos (fun t => f t = 1) g (fun t => g (20 + t)) ∧ ∀ t, t < kN k → f t = 0 → g (20 + t) = 0
theorem cjI.r {k : Bk} {W : Nat → Nat → Int} {pos : Nat → Nat} {f g : Nat → Int} (h : cjI k W pos f g) (ho : kOk k) (hp : ∀ t, t < kN k → pos t < kN k) {t : Nat} (ht : t < kN k) : -1 ≤ g (20 + t) ∧ g (20 + t) ≤ 206000 := by
  rcases h.1 t ht with q | q
  · rw [h.2.2 t ht q]
    omega
  · have := h.2.1 t ht q
    have := hp t ht
    have := ho.n
    show -1 ≤ (fun t => g (20 + t)) t ∧ (fun t => g (20 + t)) t ≤ 206000
    omega
theorem cjI.set {k : Bk} (ho : kOk k) {W : Nat → Nat → Int} (hW : wOk W) {pos : Nat → Nat} {f g : Nat → Int} (h : cjI k W pos f g) {x : Nat} (hx : x < kN k) (hn : f x = 0) (hp : ∀ j, j < kM k → pos (kE k j) < pos (kL k j)) (hF : ∀ j, j < kM k → kL k j = x → f (kE k j) = 1) {L b e : Int} (hL : sLt k (fun t => g (20 + t)) x (kM k) L) (hT : isTk (W (kF k 3 x).toNat) (kF k 0 x) (kF k 5 x) L b e) : cjI k W pos (zu f x 1) (zu (zu g x b) (20 + x) e) := by
  have hN := ho.n
  obtain ⟨h1, h2, h3⟩ := h
  have h4 := h2.set ho hW hx (by show ¬ f x = 1; omega) hp hF hL hT (F' := fun t => zu f x 1 t = 1) fun t ht => by
    by_cases c : t = x
    · rw [c, zu_same]
      exact ⟨fun _ => Or.inr rfl, fun _ => rfl⟩
    · rw [zu_other c]
      exact ⟨fun q => Or.inl q, fun q => q.resolve_right c⟩
  refine ⟨fun t ht => ?_, h4.eqn ho fun t ht => ⟨?_, ?_⟩, fun t ht q => ?_⟩
  · by_cases c : t = x
    · rw [c, zu_same]
      exact Or.inr rfl
    · rw [zu_other c]
      exact h1 t ht
  · rw [zu_other (show t ≠ 20 + x by omega)]
  · show zu (zu g x b) (20 + x) e (20 + t) = zu (fun t => g (20 + t)) x e t
    by_cases c : t = x
    · rw [c, zu_same, zu_same]
    · rw [zu_other (show 20 + t ≠ 20 + x by omega), zu_other (show 20 + t ≠ x by omega), zu_other c]
  · by_cases c : t = x
    · rw [c, zu_same] at q
      omega
    · rw [zu_other c] at q
      rw [zu_other (show 20 + t ≠ 20 + x by omega), zu_other (show 20 + t ≠ x by omega)]
      exact h3 t ht q
theorem s_mclock {G : Gx} {Z : Zm} {B : Nat} {σ : St} (h : IMb Z B σ) (ho : okS σ) (hz : 322 ≤ zSz Z ∧ zSz Z < 999000) : ZM G 2 m_X12_clock [.ref 300] Z (fun r W => r = .inl (some (.ref (zSz Z))) ∧ zF mS 2 60 Z W ∧ IMb W B σ ∧ zA W (zSz Z) 100 40 ∧ (∀ t, t < kN (sK σ) → zI W (zSz Z) t = vCb σ t ∧ zI W (zSz Z) (20 + t) = vCe σ t) ∧ ∀ t, t < kN (sK σ) → -1 ≤ vCb σ t ∧ vCb σ t ≤ vCe σ t ∧ vCe σ t ≤ 206000 ∧ (vCb σ t = -1 ↔ vCe σ t = -1)) := by
  have hN := ho.1.n
  have hM := ho.1.m
  have hB := h.1.a0.1
  obtain ⟨pos, p1, p2⟩ := kPos ho.1
  refine e_X12_clock h.1 ⟨by omega, ?_⟩
  rintro _ rfl
  refine ⟨show zSz Z + 1 < 1000000 by omega, ?_⟩
  rintro _ rfl
  rw [show zSz (zC Z 100 40 40) = zSz Z + 1 from rfl]
  have fC : zF zNo 2 60 Z (zC (zC Z 100 40 40) 102 20 20) := (zF_C (S := zNo)).trans (zF_C (S := zNo))
  have aL : zA (zC (zC Z 100 40 40) 102 20 20) (zSz Z) 100 40 := (zA_C Z 100 40 40).ext (zX_C (zC Z 100 40 40) 102 20 20)
  have aI : zA (zC (zC Z 100 40 40) 102 20 20) (zSz Z + 1) 102 20 := zA_C (zC Z 100 40 40) 102 20 20
  have iI : zI (zC (zC Z 100 40 40) 102 20 20) (zSz Z + 1) = fun _ => 0 := zI_C (zC Z 100 40 40) 102 20 20
  have iL : zI (zC (zC Z 100 40 40) 102 20 20) (zSz Z) = fun _ => 0 := by
    rw [(zF_C (S := zNo) (Z := zC Z 100 40 40) (k := 102) (n := 20) (w := 20)).i (show zSz Z < zSz Z + 1 by omega) fun g => g]
    exact zI_C Z 100 40 40
  generalize zC (zC Z 100 40 40) 102 20 20 = Y at fC aL aI iI iL ⊢
  generalize ha : zSz Z = a at aL aI iI iL ⊢
  have hY := h.n (by omega) fC
  have kY := hY.2.2.1
  have fW : ∀ f g, zF zNo 2 60 Z (zSI (zSI Y a g) (a + 1) f) := fun f g => by
    refine ⟨fC.1, fC.2.1, fun b hb hs => ?_⟩
    obtain ⟨g1, g2, g3⟩ := fC.2.2 b hb hs
    exact ⟨((zI_other (by omega)).trans (zI_other (by omega))).trans g1, g2, g3⟩
  have hU : ∀ f g, IMb (zSI (zSI Y a g) (a + 1) f) B σ := fun f g => h.n (by omega) (fW f g)
  have mU : ∀ f g, atModel (zSI (zSI Y a g) (a + 1) f) 300 B := fun f g => hY.1.s.s
  have aU : ∀ f g, zA (zSI (zSI Y a g) (a + 1) f) a 100 40 := fun f g => aL.s.s
  have bU : ∀ f g, zA (zSI (zSI Y a g) (a + 1) f) (a + 1) 102 20 := fun f g => aI.s.s
  have ea : ∀ f g, zI (zSI (zSI Y a g) (a + 1) f) a = g := fun f g => (zI_other (by omega)).trans (zI_same _ _ _)
  have eb : ∀ f g, zI (zSI (zSI Y a g) (a + 1) f) (a + 1) = f := fun f g => zI_same _ _ _
  have kU : ∀ f g, cM (zSI (zSI Y a g) (a + 1) f) B (sK σ) := fun f g => (hU f g).2.2.1
  have wU : ∀ f g, cWks (zSI (zSI Y a g) (a + 1) f) 305 (sW σ) := fun f g c hc => ⟨(ho.w c hc).1, fun x hx => (hU f g).wk c x hc hx⟩
  have up : ∀ (f g f' g' : Nat → Int), zSI (zSI (zSI (zSI Y a g) (a + 1) f) (a + 1) f') a g' = zSI (zSI Y a g') (a + 1) f' := fun f g f' g' => by
    rw [zSI_zSI, zSI_comm (zSI Y a g) f' g' (by omega), zSI_zSI]
  generalize hQ : (fun (r : Rv) (W : Zm) => r = .inl (some (.ref a)) ∧ zF mS 2 60 Z W ∧ IMb W B σ ∧ zA W a 100 40 ∧ (∀ t, t < kN (sK σ) → zI W a t = vCb σ t ∧ zI W a (20 + t) = vCe σ t) ∧ ∀ t, t < kN (sK σ) → -1 ≤ vCb σ t ∧ vCb σ t ≤ vCe σ t ∧ vCe σ t ≤ 206000 ∧ (vCb σ t = -1 ↔ vCe σ t = -1)) = Q
  suffices outer : ∀ r, r ≤ kN (sK σ) → ∀ f g, cjI (sK σ) (sW σ) pos f g → (∀ t, t < kN (sK σ) → pos t < r → f t = 1) → ZP G 2 m_X12_clock 12 [some (.ref 300), some (.ref a), some (.ref (a + 1)), some (iv (r : Int)), none, none, none, none, none] [] (zSI (zSI Y a g) (a + 1) f) Q by
    have h9 := outer 0 (Nat.zero_le _) (fun _ => 0) (fun _ => 0) ⟨fun _ _ => Or.inl rfl, fun t _ q => by have : (0 : Int) = 1 := q; omega, fun _ _ _ => rfl⟩ fun t _ q => absurd q (Nat.not_lt_zero _)
    have e9 : zSI (zSI Y a (fun _ => 0)) (a + 1) (fun _ => 0) = Y := by
      rw [← iL, zSI_id, iL, ← iI, zSI_id]
    rw [e9] at h9
    exact h9
  refine am_up (n := kN (sK σ)) fun r hr ihr f0 g0 hI0 hP0 => ?_
  refine b_X12_clock_12 (mU _ _) (aU _ _) (bU _ _) ⟨by omega, by rw [(kU _ _).1]; omega, ?_⟩
  rw [(kU _ _).1]
  by_cases cr : r < kN (sK σ)
  · rw [if_neg (by omega)]
    suffices pass : ∀ x, x ≤ kN (sK σ) → ∀ f g, cjI (sK σ) (sW σ) pos f g → (∀ t, t < kN (sK σ) → f0 t = 1 → f t = 1) → (∀ t, t < x → t < kN (sK σ) → pos t ≤ r → f t = 1) → ZP G 2 m_X12_clock 23 [some (.ref 300), some (.ref a), some (.ref (a + 1)), some (iv (r : Int)), some (iv (x : Int)), none, none, none, none] [] (zSI (zSI Y a g) (a + 1) f) Q from pass 0 (Nat.zero_le _) f0 g0 hI0 (fun _ _ q => q) fun t q => absurd q (Nat.not_lt_zero _)
    refine am_up (n := kN (sK σ)) fun x hx ihx f g hI hF hP => ?_
    refine b_X12_clock_23 (mU _ _) (aU _ _) (bU _ _) ⟨by omega, by rw [(kU _ _).1]; omega, ?_⟩
    rw [(kU _ _).1]
    by_cases cx : x < kN (sK σ)
    · rw [if_neg (by omega), eb, Int.toNat_natCast]
      refine ⟨zIx_nat (by omega) (by omega), b01_r (hI.1 x cx), ?_⟩
      suffices inn : ∀ j, j ≤ kM (sK σ) → ∀ L al, cjP (sK σ) f g x j L al → ZP G 2 m_X12_clock 52 [some (.ref 300), some (.ref a), some (.ref (a + 1)), some (iv (r : Int)), some (iv (x : Int)), some (iv L), some (iv al), some (iv (j : Int)), none] [] (zSI (zSI Y a g) (a + 1) f) Q by
        refine inn 0 (Nat.zero_le _) 0 _ ?_
        rcases hI.1 x cx with q | q
        · exact Or.inl ⟨b2_p q, q, fun i hi => absurd hi (Nat.not_lt_zero _), sLt_0 _ _ _⟩
        · exact Or.inr ⟨b2_f (by omega), Or.inl q⟩
      refine am_up (n := kM (sK σ)) fun j hj ihj L al hJ => ?_
      have ihx_no : al = 0 → ZP G 2 m_X12_clock 23 [some (.ref 300), some (.ref a), some (.ref (a + 1)), some (iv (r : Int)), some (iv ((x : Int) + 1)), none, none, none, none] [] (zSI (zSI Y a g) (a + 1) f) Q := fun e => by
        refine ihx cx f g hI hF fun t ht ht2 hp => ?_
        by_cases q : t = x
        · rw [q] at hp ⊢
          rcases hJ with ⟨q1, -⟩ | ⟨-, q1 | ⟨i, i1, i2, i3⟩⟩
          · omega
          · exact q1
          · have g1 := p2 i i1
            rw [i2] at g1
            have g2 := hF _ (ho.1.e i1) (hP0 _ (ho.1.e i1) (by omega))
            omega
        · exact hP t (by omega) ht2 hp
      have no : al = 0 → ZP G 2 m_X12_clock 157 [some (.ref 300), some (.ref a), some (.ref (a + 1)), some (iv (r : Int)), some (iv (x : Int)), none, none, none, none] [] (zSI (zSI Y a g) (a + 1) f) Q := fun e => b_X12_clock_157 (mU _ _) (aU _ _) (bU _ _) (ihx_no e)
      have al01 : al = 0 ∨ al = 1 := by
        rcases hJ with ⟨q, -⟩ | ⟨q, -⟩
        · exact Or.inr q
        · exact Or.inl q
      refine b_X12_clock_52 (mU _ _) (aU _ _) (bU _ _) ⟨by omega, by rw [(kU _ _).2.1]; omega, ?_⟩
      rw [(kU _ _).2.1]
      by_cases cj : j < kM (sK σ)
      · rw [if_neg (by omega)]
        refine ⟨b01_r al01, ?_⟩
        rcases al01 with e1 | e1
        · rw [if_pos e1, if_pos e1]
          exact no e1
        · rw [if_neg (by omega)]
          obtain ⟨J1, J2, J3⟩ : f x = 0 ∧ (∀ i, i < j → kL (sK σ) i = x → f (kE (sK σ) i) = 1) ∧ sLt (sK σ) (fun t => g (20 + t)) x j L := by
            rcases hJ with ⟨_, q⟩ | ⟨q, -⟩
            · exact q
            · omega
          have rL := hI.2.1.let ho.1 p2 J2 hj J3
          have hp := p1 x cx
          obtain ⟨e3, e4, e5⟩ := (kU f g).2.2.2 j cj
          have he := ho.1.e cj
          have hl := ho.1.l cj
          have hg := ho.1.g cj
          have re := hI.r ho.1 p1 he
          have e20 : (20 + (kE (sK σ) j : Int)).toNat = 20 + kE (sK σ) j := by omega
          rw [Int.toNat_natCast, e3, e4, e5, e20, Int.toNat_natCast, ea, eb]
          refine ⟨zIx_nat (by omega) (by omega), by omega, by omega, ?_⟩
          by_cases c1 : (kL (sK σ) j : Int) = (x : Int)
          · have c1' : kL (sK σ) j = x := by omega
            rw [if_pos c1]
            refine ⟨zIx_nat (by omega) (by omega), ⟨by omega, by omega, by decide⟩, by omega, fun _ => ⟨by omega, fun _ => ⟨by omega, trivial⟩, trivial⟩, ihj cj _ _ ?_⟩
            rcases hI.1 _ he with q | q
            · rw [q]
              exact Or.inr ⟨rfl, Or.inr ⟨j, cj, c1', q⟩⟩
            · rw [q]
              refine Or.inl ⟨rfl, J1, fun i hi hl => ?_, J3.take c1' re.1 hg.1⟩
              by_cases e : i = j
              · rw [e]
                exact q
              · exact J2 i (by omega) hl
          · rw [if_neg c1]
            refine ihj cj L al (Or.inl ⟨e1, J1, fun i hi hl => ?_, J3.skip fun q => c1 (by omega)⟩)
            by_cases e : i = j
            · rw [e] at hl
              omega
            · exact J2 i (by omega) hl
      · rw [if_pos (by omega)]
        have ej : j = kM (sK σ) := by omega
        refine ⟨b01_r al01, ?_⟩
        rcases al01 with e1 | e1
        · rw [if_pos e1]
          exact ihx_no e1
        · rw [if_neg (by omega)]
          obtain ⟨J1, J2, J3⟩ : f x = 0 ∧ (∀ i, i < j → kL (sK σ) i = x → f (kE (sK σ) i) = 1) ∧ sLt (sK σ) (fun t => g (20 + t)) x j L := by
            rcases hJ with ⟨_, q⟩ | ⟨q, -⟩
            · exact q
            · omega
          have rL := hI.2.1.let ho.1 p2 J2 hj J3
          have hp := p1 x cx
          rw [ej] at J2 J3
          refine ⟨zIx_nat (by omega) (by omega), ?_⟩
          rintro _ rfl
          rw [eb, Int.toNat_natCast, zSI_zSI]
          refine (s_mlets (mU _ _) (kU _ _) (wU _ _) ho.w ho.1 (aU _ _) (by omega) (by omega) cx (by omega)).mono ?_
          rintro r' W ⟨rfl, b, e, hT, rfl⟩
          rw [ea]
          rw [show zSI (zSI (zSI Y a g) (a + 1) (zu f x 1)) a (zu (zu g x b) (20 + x) e) = zSI (zSI Y a (zu (zu g x b) (20 + x) e)) (a + 1) (zu f x 1) by rw [zSI_comm (zSI Y a g) _ _ (by omega), zSI_zSI]]
          refine b_X12_clock_157 (mU _ _) (aU _ _) (bU _ _) (ihx cx _ _ (hI.set ho.1 ho.w cx J1 p2 J2 J3 hT) (fun t ht q => ?_) fun t ht ht2 hp => ?_)
          · by_cases c : t = x
            · rw [c, zu_same]
            · rw [zu_other c]
              exact hF t ht q
          · by_cases c : t = x
            · rw [c, zu_same]
            · rw [zu_other c]
              exact hP t (by omega) ht2 hp
    · rw [if_pos (by omega)]
      have ex : x = kN (sK σ) := by omega
      exact ihr cr f g hI fun t ht hp => hP t (by omega) ht (by omega)
  · rw [if_pos (by omega)]
    have hC : isClk (sK σ) (sW σ) g0 (fun t => g0 (20 + t)) := hI0.2.1.clk ho.1 (fun t ht => hP0 t ht (by have := p1 t ht; omega)) p1
    have hv := vClk_of ho.1 ho.w hC
    rw [← hQ]
    refine ⟨rfl, zNo_m (fW _ _), hU _ _, aU _ _, fun t ht => ?_, fun t ht => ?_⟩
    · rw [ea]
      exact hv t ht
    · obtain ⟨-, q⟩ := hC t ht
      have q2 := hv t ht
      have q3 : g0 t = vCb σ t := q2.1
      have q4 : (fun t => g0 (20 + t)) t = vCe σ t := q2.2
      rw [q3, q4] at q
      exact q
