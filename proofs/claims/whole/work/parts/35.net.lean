/-- the same book, but for the order of the needs -/
def kPm (k k' : Bk) : Prop := kN k' = kN k ∧ kM k' = kM k ∧ kF k' = kF k ∧ ∃ σ : Nat → Nat, (∀ j, j < kM k → σ j < kM k) ∧ (∀ i j, i < kM k → j < kM k → σ i = σ j → i = j) ∧ (∀ i, i < kM k → ∃ j, j < kM k ∧ σ j = i) ∧ ∀ j, j < kM k → kE k' j = kE k (σ j) ∧ kL k' j = kL k (σ j) ∧ kG k' j = kG k (σ j)
theorem kPm.ok {k k' : Bk} (h : kPm k k') (ho : kOk k) : kOk k' := by
  obtain ⟨h1, h2, h3, σ, s1, s2, s3, s4⟩ := h
  obtain ⟨o1, o2, o3, o4, r, o5⟩ := ho
  refine ⟨by rw [h1, h2]; exact o1, by rw [h1, h3]; exact o2, fun j hj => ?_, fun i j hi hj e1 e2 => ?_, r, fun j hj => ?_⟩
  · rw [h2] at hj
    obtain ⟨e1, e2, e3⟩ := s4 j hj
    rw [e1, e2, e3, h1]
    exact o3 _ (s1 j hj)
  · rw [h2] at hi hj
    obtain ⟨f1, f2, f3⟩ := s4 i hi
    obtain ⟨g1, g2, g3⟩ := s4 j hj
    rw [f1, g1] at e1
    rw [f2, g2] at e2
    exact s2 i j hi hj (o4 _ _ (s1 i hi) (s1 j hj) e1 e2)
  · rw [h2] at hj
    obtain ⟨f1, f2, f3⟩ := s4 j hj
    rw [f1, f2]
    exact o5 _ (s1 j hj)
/-- each need of the one stands in the other -/
theorem kPm.to {k k' : Bk} (h : kPm k k') {j : Nat} (hj : j < kM k) : ∃ i, i < kM k' ∧ kE k' i = kE k j ∧ kL k' i = kL k j ∧ kG k' i = kG k j := by
  obtain ⟨h1, h2, h3, σ, s1, s2, s3, s4⟩ := h
  obtain ⟨i, hi, e⟩ := s3 j hj
  obtain ⟨f1, f2, f3⟩ := s4 i hi
  exact ⟨i, by omega, by rw [f1, e], by rw [f2, e], by rw [f3, e]⟩
theorem kPm.of {k k' : Bk} (h : kPm k k') {j : Nat} (hj : j < kM k') : ∃ i, i < kM k ∧ kE k i = kE k' j ∧ kL k i = kL k' j ∧ kG k i = kG k' j := by
  obtain ⟨h1, h2, h3, σ, s1, s2, s3, s4⟩ := h
  rw [h2] at hj
  obtain ⟨f1, f2, f3⟩ := s4 j hj
  exact ⟨σ j, s1 j hj, f1.symm, f2.symm, f3.symm⟩
theorem kPm.lf {k k' : Bk} (h : kPm k k') {len lo f : Nat → Int} (hf : isLF k' len lo f) : isLF k len lo f := fun t ht => by
  obtain ⟨h1, h2, h3⟩ := hf t (by rw [h.1]; exact ht)
  refine ⟨h1, fun j hj e => ?_, ?_⟩
  · obtain ⟨i, hi, e1, e2, e3⟩ := h.to hj
    have := h2 i hi (e2.trans e)
    rw [e1, e3] at this
    exact this
  · rcases h3 with e | ⟨j, hj, e, e4⟩
    · exact Or.inl e
    · obtain ⟨i, hi, e1, e2, e3⟩ := h.of hj
      exact Or.inr ⟨i, hi, e2.trans e, by rw [e1, e3]; exact e4⟩
theorem kPm.lat {k k' : Bk} (h : kPm k k') {len f : Nat → Int} {en : Int} (hf : isLat k' len en f) : isLat k len en f := fun t ht => by
  obtain ⟨h1, h2, h3⟩ := hf t (by rw [h.1]; exact ht)
  refine ⟨h1, fun j hj e => ?_, ?_⟩
  · obtain ⟨i, hi, e1, e2, e3⟩ := h.to hj
    have := h2 i hi (e1.trans e)
    rw [e2, e3] at this
    exact this
  · rcases h3 with e | ⟨j, hj, e, e4⟩
    · exact Or.inl e
    · obtain ⟨i, hi, e1, e2, e3⟩ := h.of hj
      exact Or.inr ⟨i, hi, e1.trans e, by rw [e2, e3]; exact e4⟩
/-- the needs stand by the place of the later task -/
def kSrt (k : Bk) (pos : Nat → Nat) : Prop := ∀ i j, i ≤ j → j < kM k → pos (kL k i) ≤ pos (kL k j)
/-- the net object's rows: the order o, the needs of k -/
def nS (Z : Zm) (n : Nat) (k : Bk) (o : Nat → Nat) : Prop := zI Z n 1 = (kN k : Int) ∧ zI Z n 2 = (kM k : Int) ∧ (∀ p, p < kN k → zI Z (n + 1) p = (o p : Int)) ∧ ∀ j, j < kM k → zI Z (n + 3) j = (kE k j : Int) ∧ zI Z (n + 4) j = (kL k j : Int) ∧ zI Z (n + 5) j = kG k j
theorem nS.frame {S : Nat → Prop} {c w : Nat} {Z Z' : Zm} {n : Nat} {k : Bk} {o : Nat → Nat} (h : nS Z n k o) (hn : atNet Z n) (f : zF S c w Z Z') (hs : ∀ a, (a = n ∨ a = n + 1 ∨ a = n + 3 ∨ a = n + 4 ∨ a = n + 5) → ¬ S a) : nS Z' n k o := by
  obtain ⟨h1, h2, h3, h4⟩ := h
  refine ⟨?_, ?_, fun p hp => ?_, fun j hj => ?_⟩
  · rw [f.i hn.o.1 (hs _ (Or.inl rfl))]
    exact h1
  · rw [f.i hn.o.1 (hs _ (Or.inl rfl))]
    exact h2
  · rw [f.i hn.a4.1 (hs _ (by omega))]
    exact h3 p hp
  · rw [f.i hn.a6.1 (hs _ (by omega)), f.i hn.a7.1 (hs _ (by omega)), f.i hn.a8.1 (hs _ (by omega))]
    exact h4 j hj
def kSub (k : Bk) (σ : Nat → Nat) : Bk := (kN k, kM k, kF k, fun j => kE k (σ j), fun j => kL k (σ j), fun j => kG k (σ j))
theorem s_orderNeeds {G : Gx} {Z : Zm} {n b : Nat} {k : Bk} {o pos : Nat → Nat} (hn : atNet Z n) (hb : atBook Z b) (hk : cB Z b k) (ho : kOk k) (h1 : zI Z n 1 = (kN k : Int)) (h2 : zI Z n 2 = (kM k : Int)) (hd : n + 11 ≤ b ∨ b + 19 ≤ n) (hp : kOrd k o pos) (h3 : ∀ p, p < kN k → zI Z (n + 1) p = (o p : Int)) : ZM G 0 m_X7_orderNeeds [.ref n, .ref b] Z (fun r Z' => r = .inl none ∧ zF (zB (n + 3) (n + 6)) 0 0 Z Z' ∧ ∃ k', kPm k k' ∧ kSrt k' pos ∧ nS Z' n k' o) := by
  have hN := ho.n
  have hM := ho.m
  obtain ⟨p1, p2, p3⟩ := hp
  have hcb : ∀ W, zF (zB (n + 3) (n + 6)) 0 0 Z W → cB W b k := fun W f => hk.frame hb f fun a h1 h2 => by unfold zB; omega
  have hw1 : ∀ W, zF (zB (n + 3) (n + 6)) 0 0 Z W → zI W n 1 = (kN k : Int) := fun W f => by rw [f.i hn.o.1 (by unfold zB; omega)]; exact h1
  have hw2 : ∀ W, zF (zB (n + 3) (n + 6)) 0 0 Z W → zI W n 2 = (kM k : Int) := fun W f => by rw [f.i hn.o.1 (by unfold zB; omega)]; exact h2
  have hw3 : ∀ W, zF (zB (n + 3) (n + 6)) 0 0 Z W → ∀ p, p < kN k → zI W (n + 1) p = (o p : Int) := fun W f p hp => by rw [f.i hn.a4.1 (by unfold zB; omega)]; exact h3 p hp
  refine e_X7_orderNeeds hn hb ?_
  suffices key : ∀ (m p put : Nat) (W : Zm) (σ : Nat → Nat) (o4 : Option Value), p + m = kN k → zF (zB (n + 3) (n + 6)) 0 0 Z W → (∀ q, q < put → σ q < kM k) → (∀ q q', q < put → q' < put → σ q = σ q' → q = q') → (∀ j, j < kM k → (pos (kL k j) < p ↔ ∃ q, q < put ∧ σ q = j)) → (∀ q q', q ≤ q' → q' < put → pos (kL k (σ q)) ≤ pos (kL k (σ q'))) → (∀ q, q < put → zI W (n + 3) q = (kE k (σ q) : Int) ∧ zI W (n + 4) q = (kL k (σ q) : Int) ∧ zI W (n + 5) q = kG k (σ q)) → ZP G 0 m_X7_orderNeeds 4 [some (.ref n), some (.ref b), some (iv (put : Int)), some (iv (p : Int)), o4] [] W (fun r Z' => r = .inl none ∧ zF (zB (n + 3) (n + 6)) 0 0 Z Z' ∧ ∃ k', kPm k k' ∧ kSrt k' pos ∧ nS Z' n k' o) from key (kN k) 0 0 Z (fun _ => 0) _ (by omega) zF.refl (fun q hq => by omega) (fun q q' hq => by omega) (fun j hj => ⟨fun h => by omega, fun ⟨q, h, _⟩ => by omega⟩) (fun q q' _ hq => by omega) fun q hq => by omega
  intro m
  induction m with
  | zero =>
    intro p put W σ o4 hp f s1 s2 s3 s4 w
    refine b_X7_orderNeeds_4 (hn.ext f.1) (hb.ext f.1) ⟨by omega, by rw [hw1 W f]; omega, ?_⟩
    rw [hw1 W f, if_pos (by omega)]
    have sur : ∀ i, i < kM k → ∃ j, j < put ∧ σ j = i := fun i hi => (s3 i hi).mp (by
      have := (p2 _ (ho.l hi)).1
      omega)
    have e : put = kM k := by
      have le := pig s1 s2
      have hc : ∀ t, ∃ q, t < kM k → q < put ∧ σ q = t := fun t => by
        by_cases c : t < kM k
        · obtain ⟨q, hq⟩ := sur t c
          exact ⟨q, fun _ => hq⟩
        · exact ⟨0, fun g => absurd g c⟩
      obtain ⟨τ, hτ⟩ := Classical.axiomOfChoice hc
      have ge : kM k ≤ put := pig (f := τ) (fun t ht => (hτ t ht).1) fun t t' ht ht' e => by
        rw [← (hτ t ht).2, e, (hτ t' ht').2]
      omega
    subst e
    exact ⟨rfl, f, kSub k σ, ⟨rfl, rfl, rfl, σ, s1, s2, sur, fun j _ => ⟨rfl, rfl, rfl⟩⟩, fun i j hij hj => s4 i j hij hj, hw1 W f, hw2 W f, hw3 W f, w⟩
  | succ m ih =>
    intro p put W σ o4 hp f s1 s2 s3 s4 w
    refine b_X7_orderNeeds_4 (hn.ext f.1) (hb.ext f.1) ⟨by omega, by rw [hw1 W f]; omega, ?_⟩
    rw [hw1 W f, if_neg (by omega)]
    suffices inner : ∀ (g i put : Nat) (W : Zm) (σ : Nat → Nat), i + g = kM k → zF (zB (n + 3) (n + 6)) 0 0 Z W → (∀ q, q < put → σ q < kM k) → (∀ q q', q < put → q' < put → σ q = σ q' → q = q') → (∀ j, j < kM k → ((pos (kL k j) < p ∨ (pos (kL k j) = p ∧ j < i)) ↔ ∃ q, q < put ∧ σ q = j)) → (∀ q q', q ≤ q' → q' < put → pos (kL k (σ q)) ≤ pos (kL k (σ q'))) → (∀ q, q < put → zI W (n + 3) q = (kE k (σ q) : Int) ∧ zI W (n + 4) q = (kL k (σ q) : Int) ∧ zI W (n + 5) q = kG k (σ q)) → ZP G 0 m_X7_orderNeeds 15 [some (.ref n), some (.ref b), some (iv (put : Int)), some (iv (p : Int)), some (iv (i : Int))] [] W (fun r Z' => r = .inl none ∧ zF (zB (n + 3) (n + 6)) 0 0 Z Z' ∧ ∃ k', kPm k k' ∧ kSrt k' pos ∧ nS Z' n k' o) from inner (kM k) 0 put W σ (by omega) f s1 s2 (fun j hj => by
      rw [← s3 j hj]
      omega) s4 w
    intro g
    induction g with
    | zero =>
      intro i put W σ hi f s1 s2 s3 s4 w
      refine b_X7_orderNeeds_15 (hn.ext f.1) (hb.ext f.1) ⟨by omega, by rw [hw2 W f]; omega, ?_⟩
      rw [hw2 W f, if_pos (by omega)]
      exact ih (p + 1) put W σ _ (by omega) f s1 s2 (fun j hj => by
        rw [← s3 j hj]
        omega) s4 w
    | succ g ihg =>
      intro i put W σ hi f s1 s2 s3 s4 w
      have hik : i < kM k := by omega
      obtain ⟨e1, e2, e3⟩ := (hcb W f).2.2.2 i hik
      have he := ho.e hik
      have hl := ho.l hik
      have hop := (p1 p (by omega)).1
      have hput : put ≤ kM k := pig s1 s2
      refine b_X7_orderNeeds_15 (hn.ext f.1) (hb.ext f.1) ⟨by omega, by rw [hw2 W f]; omega, ?_⟩
      rw [hw2 W f, if_neg (by omega), Int.toNat_natCast, Int.toNat_natCast, Int.toNat_natCast, e2, hw3 W f p (by omega)]
      refine ⟨zIx_nat (by omega) (by omega), zIx_nat (by omega) (by omega), by omega, by omega, ?_⟩
      by_cases c : (kL k i : Int) = (o p : Int)
      · rw [if_pos c]
        have cp : pos (kL k i) = p := by
          rw [show kL k i = o p by omega]
          exact (p1 p (by omega)).2
        have hnew : ∀ q, q < put → σ q ≠ i := fun q hq e => by
          have := (s3 i hik).mpr ⟨q, hq, e⟩
          omega
        have hlt := pig_miss s1 s2 hik hnew
        refine ⟨by omega, ?_⟩
        rw [if_neg (by omega)]
        refine ⟨zIx_nat (by omega) (by omega), ?_⟩
        rintro _ rfl _ rfl _ rfl
        have hz : ∀ q, q < put → zu σ put i q = σ q := fun q hq => zu_other (by omega)
        rw [zI_other (a := n + 3) (b := n + 1) (by omega), zI_other (a := n + 3) (b := n + 4) (by omega), hw3 W f p (by omega)]
        rw [zI_other (a := n + 4) (b := b + 17) (by omega), zI_other (a := n + 3) (b := b + 17) (by omega), zI_other (a := n + 4) (b := n + 5) (by omega), zI_other (a := n + 3) (b := n + 5) (by omega), e1, e3]
        refine ihg (i + 1) (put + 1) _ (zu σ put i) (by omega) (((f.trans (zF_I ⟨by omega, by omega⟩)).trans (zF_I ⟨by omega, by omega⟩)).trans (zF_I ⟨by omega, by omega⟩)) (fun q hq => ?_) (fun q q' hq hq' e => ?_) (fun j hj => ?_) (fun q q' hqq hq => ?_) fun q hq => ?_
        · by_cases d : q = put
          · rw [d, zu_same]
            exact hik
          · rw [hz q (by omega)]
            exact s1 q (by omega)
        · by_cases d : q = put
          · by_cases d' : q' = put
            · omega
            · rw [d, zu_same, hz q' (by omega)] at e
              exact absurd e.symm (hnew q' (by omega))
          · by_cases d' : q' = put
            · rw [d', zu_same, hz q (by omega)] at e
              exact absurd e (hnew q (by omega))
            · rw [hz q (by omega), hz q' (by omega)] at e
              exact s2 q q' (by omega) (by omega) e
        · have h9 := s3 j hj
          by_cases d : j = i
          · rw [d]
            exact ⟨fun _ => ⟨put, by omega, zu_same _ _ _⟩, fun _ => by omega⟩
          · refine ⟨fun h => ?_, fun ⟨q, z1, z2⟩ => ?_⟩
            · obtain ⟨q, z1, z2⟩ := h9.mp (by omega)
              exact ⟨q, by omega, by rw [hz q z1]; exact z2⟩
            · by_cases e9 : q = put
              · rw [e9, zu_same] at z2
                omega
              · rw [hz q (by omega)] at z2
                have := h9.mpr ⟨q, by omega, z2⟩
                omega
        · by_cases d' : q' = put
          · rw [d', zu_same]
            by_cases d : q = put
            · rw [d, zu_same]
              exact Nat.le_refl _
            · rw [hz q (by omega)]
              have := (s3 (σ q) (s1 q (by omega))).mpr ⟨q, by omega, rfl⟩
              omega
          · rw [hz q' (by omega), hz q (by omega)]
            exact s4 q q' hqq (by omega)
        · rw [zI_other (a := n + 5) (b := n + 3) (by omega), zI_other (a := n + 4) (b := n + 3) (by omega), zI_same, zI_other (a := n + 5) (b := n + 4) (by omega), zI_same, zI_same]
          by_cases d : q = put
          · rw [d, zu_same, zu_same, zu_same, zu_same]
            exact ⟨rfl, c.symm, rfl⟩
          · rw [hz q (by omega), zu_other d, zu_other d, zu_other d]
            exact w q (by omega)
      · rw [if_neg c]
        have cp : pos (kL k i) ≠ p := fun e => c (by
          have := (p2 _ hl).2
          rw [e] at this
          omega)
        exact ihg (i + 1) put W σ (by omega) f s1 s2 (fun j hj => by
          rw [← s3 j hj]
          by_cases d : j = i
          · rw [d]
            omega
          · omega) s4 w
theorem s_pushBegins {G : Gx} {Z : Zm} {n u v : Nat} {k : Bk} {o pos : Nat → Nat} {len lo : Nat → Int} {c : Int} (hn : atNet Z n) (hu : zA Z u 100 20) (hv : zA Z v 100 20) (hs : nS Z n k o) (ho : kOk k) (hp : kOrd k o pos) (hq : kSrt k pos) (hlen : ∀ t, t < kN k → zI Z u t = len t ∧ 1 ≤ len t ∧ len t ≤ 60) (hlo : ∀ t, t < kN k → zI Z v t = lo t ∧ 0 ≤ lo t ∧ lo t ≤ c) (hc : 0 ≤ c ∧ c ≤ 1000000) (huv : v ≠ u) (hvn : v < n ∨ n + 6 ≤ v) : ZM G 0 m_X7_pushBegins [.ref n, .ref u, .ref v] Z (fun r Z' => r = .inl none ∧ ∃ f, Z' = zSI Z v f ∧ isLF k len lo f ∧ ∀ i, kN k ≤ i → f i = zI Z v i) := by
  have hN := ho.n
  have hM := ho.m
  obtain ⟨p1, p2, p3⟩ := hp
  refine e_X7_pushBegins hn hu hv ?_
  have hs' : ∀ f, nS (zSI Z v f) n k o := fun f => by
    obtain ⟨a1, a2, a3, a4⟩ := hs
    refine ⟨?_, ?_, fun p hp => ?_, fun j hj => ?_⟩
    · rw [zI_other (by omega)]
      exact a1
    · rw [zI_other (by omega)]
      exact a2
    · rw [zI_other (by omega)]
      exact a3 p hp
    · rw [zI_other (by omega), zI_other (by omega), zI_other (by omega)]
      exact a4 j hj
  suffices key : ∀ (m j : Nat) (f : Nat → Int) (o4 o5 : Option Value), j + m = kM k → (∀ t, t < kN k → lo t ≤ f t ∧ 0 ≤ f t ∧ f t ≤ c + 90 * (pos t : Int)) → (∀ i, i < j → f (kE k i) + len (kE k i) + kG k i ≤ f (kL k i)) → (∀ t, t < kN k → f t = lo t ∨ ∃ i, i < j ∧ kL k i = t ∧ f t = f (kE k i) + len (kE k i) + kG k i) → (∀ i, kN k ≤ i → f i = zI Z v i) → ZP G 0 m_X7_pushBegins 2 [some (.ref n), some (.ref u), some (.ref v), some (iv (j : Int)), o4, o5] [] (zSI Z v f) (fun r Z' => r = .inl none ∧ ∃ f, Z' = zSI Z v f ∧ isLF k len lo f ∧ ∀ i, kN k ≤ i → f i = zI Z v i) by
    have h := key (kM k) 0 (zI Z v) none none (by omega) (fun t ht => by
      have := hlo t ht
      omega) (fun i hi => by omega) (fun t ht => Or.inl (hlo t ht).1) fun _ _ => rfl
    rw [zSI_id] at h
    exact h
  intro m
  induction m with
  | zero =>
    intro j f o4 o5 hj f1 f2 f3 f4
    obtain ⟨a1, a2, a3, a4⟩ := hs' f
    refine b_X7_pushBegins_2 (Z := zSI Z v f) hn hu hv ⟨by omega, by rw [a2]; omega, ?_⟩
    rw [a2, if_pos (by omega)]
    refine ⟨rfl, f, rfl, fun t ht => ⟨(f1 t ht).1, fun i hi e => ?_, ?_⟩, f4⟩
    · have := f2 i (by omega)
      rw [e] at this
      exact this
    · rcases f3 t ht with h | ⟨i, hi, e1, e2⟩
      · exact Or.inl h
      · exact Or.inr ⟨i, by omega, e1, e2⟩
  | succ m ih =>
    intro j f o4 o5 hj f1 f2 f3 f4
    have hjk : j < kM k := by omega
    obtain ⟨a1, a2, a3, a4⟩ := hs' f
    obtain ⟨e1, e2, e3⟩ := a4 j hjk
    have he := ho.e hjk
    have hl := ho.l hjk
    have hg := ho.g hjk
    have g1 := f1 _ he
    have g2 := f1 _ hl
    have g3 := hlen _ he
    have g4 := p3 j hjk
    have g5 := p2 _ he
    have g6 := p2 _ hl
    refine b_X7_pushBegins_2 (Z := zSI Z v f) hn hu hv ⟨by omega, by rw [a2]; omega, ?_⟩
    rw [a2, if_neg (by omega), Int.toNat_natCast, e1, e2, e3, Int.toNat_natCast, Int.toNat_natCast, zI_same, zI_other (a := v) (b := u) (fun e => huv e.symm), g3.1]
    refine ⟨zIx_nat (by omega) (by omega), zIx_nat (by omega) (by omega), zIx_nat (by omega) (by omega), ⟨by omega, by omega⟩, ⟨by omega, by omega⟩, ?_⟩
    have apart : ∀ i, i ≤ j → kE k i ≠ kL k j := fun i hi e => by
      have := p3 i (by omega)
      have := hq i j hi hjk
      rw [e] at *
      omega
    by_cases h : f (kE k j) + len (kE k j) + kG k j ≤ f (kL k j)
    · rw [if_pos h]
      refine ih (j + 1) f _ _ (by omega) f1 (fun i hi => ?_) (fun t ht => ?_) f4
      · by_cases d : i = j
        · rw [d]
          exact h
        · exact f2 i (by omega)
      · rcases f3 t ht with z | ⟨i, hi, z1, z2⟩
        · exact Or.inl z
        · exact Or.inr ⟨i, by omega, z1, z2⟩
    · rw [if_neg h]
      rintro _ rfl
      rw [zSI_zSI]
      have hz : ∀ i, i ≤ j → zu f (kL k j) (f (kE k j) + len (kE k j) + kG k j) (kE k i) = f (kE k i) := fun i hi => zu_other (apart i hi)
      refine ih (j + 1) _ _ _ (by omega) (fun t ht => ?_) (fun i hi => ?_) (fun t ht => ?_) fun i hi => ?_
      · by_cases d : t = kL k j
        · rw [d, zu_same]
          omega
        · rw [zu_other d]
          exact f1 t ht
      · rw [hz i (by omega)]
        by_cases d : i = j
        · rw [d, zu_same]
          exact Int.le_refl _
        · have h2 := f2 i (by omega)
          by_cases d2 : kL k i = kL k j
          · rw [d2, zu_same]
            rw [d2] at h2
            omega
          · rw [zu_other d2]
            exact h2
      · by_cases d : t = kL k j
        · refine Or.inr ⟨j, by omega, d.symm, ?_⟩
          rw [d, zu_same, hz j (Nat.le_refl _)]
        · rw [zu_other d]
          rcases f3 t ht with z | ⟨i, hi, z1, z2⟩
          · exact Or.inl z
          · exact Or.inr ⟨i, by omega, z1, by rw [hz i (by omega)]; exact z2⟩
      · rw [zu_other (by omega)]
        exact f4 i hi
theorem s_lastEnd {G : Gx} {Z : Zm} {n u v : Nat} {k : Bk} {o : Nat → Nat} {len f : Nat → Int} (hn : atNet Z n) (hu : zA Z u 100 20) (hv : zA Z v 100 20) (hs : nS Z n k o) (ho : kOk k) (hlen : ∀ t, t < kN k → zI Z u t = len t) (hf : ∀ t, t < kN k → zI Z v t = f t) (hr : ∀ t, t < kN k → -1000000000 ≤ f t + len t ∧ f t + len t ≤ 1000000000) : ZM G 1 m_X7_lastEnd [.ref n, .ref u, .ref v] Z (fun r Z' => r = .inl (some (iv (zmax (fun t => f t + len t) (kN k)))) ∧ Z' = Z) := by
  have hN := ho.n
  refine e_X7_lastEnd hn hu hv ?_
  suffices key : ∀ (m j : Nat), j + m = kN k → ZP G 1 m_X7_lastEnd 5 [some (.ref n), some (.ref u), some (.ref v), some (iv (zmax (fun t => f t + len t) j)), some (iv (j : Int))] [] Z (fun r Z' => r = .inl (some (iv (zmax (fun t => f t + len t) (kN k)))) ∧ Z' = Z) from key (kN k) 0 (by omega)
  intro m
  induction m with
  | zero =>
    intro j hj
    refine b_X7_lastEnd_5 hn hu hv ⟨by omega, by rw [hs.1]; omega, ?_⟩
    rw [hs.1, if_pos (by omega), show j = kN k by omega]
    exact ⟨rfl, rfl⟩
  | succ m ih =>
    intro j hj
    have h1 := hlen j (by omega)
    have h2 := hf j (by omega)
    have h3 := hr j (by omega)
    have h4 := zmax_0 (fun t => f t + len t) j
    have h5 : zmax (fun t => f t + len t) j ≤ 1000000000 := zmax_le (by omega) fun i hi => (hr i (by omega)).2
    refine b_X7_lastEnd_5 hn hu hv ⟨by omega, by rw [hs.1]; omega, ?_⟩
    rw [hs.1, if_neg (by omega), Int.toNat_natCast, h1, h2]
    refine ⟨zIx_nat (by omega) (by omega), ⟨by omega, by omega⟩, ⟨by omega, by omega⟩, ?_⟩
    exact ih (j + 1) (by omega)
theorem s_pullLatests {G : Gx} {Z : Zm} {n u v : Nat} {k : Bk} {o pos : Nat → Nat} {len : Nat → Int} {en : Int} (hn : atNet Z n) (hu : zA Z u 100 20) (hv : zA Z v 100 20) (hs : nS Z n k o) (ho : kOk k) (hp : kOrd k o pos) (hq : kSrt k pos) (hlen : ∀ t, t < kN k → zI Z u t = len t ∧ 1 ≤ len t ∧ len t ≤ 60) (hen : -1000000 ≤ en ∧ en ≤ 1000000) (huv : v ≠ u) (hvn : v < n ∨ n + 6 ≤ v) : ZM G 0 m_X7_pullLatests [.ref n, .ref u, iv en, .ref v] Z (fun r Z' => r = .inl none ∧ ∃ f, Z' = zSI Z v f ∧ isLat k len en f) := by
  have hN := ho.n
  have hM := ho.m
  obtain ⟨p1, p2, p3⟩ := hp
  refine e_X7_pullLatests hn hu hv ?_
  have hs' : ∀ f, nS (zSI Z v f) n k o := fun f => by
    obtain ⟨a1, a2, a3, a4⟩ := hs
    refine ⟨?_, ?_, fun p hp => ?_, fun j hj => ?_⟩
    · rw [zI_other (by omega)]
      exact a1
    · rw [zI_other (by omega)]
      exact a2
    · rw [zI_other (by omega)]
      exact a3 p hp
    · rw [zI_other (by omega), zI_other (by omega), zI_other (by omega)]
      exact a4 j hj
  suffices key2 : ∀ (m : Nat) (f : Nat → Int) (o2 o5 o6 : Option Value), m ≤ kM k → (∀ t, t < kN k → f t ≤ en - len t ∧ en - 60 - 90 * ((kN k : Int) - (pos t : Int)) ≤ f t) → (∀ i, i < kM k → m ≤ i → f (kE k i) ≤ f (kL k i) - kG k i - len (kE k i)) → (∀ t, t < kN k → f t = en - len t ∨ ∃ i, i < kM k ∧ m ≤ i ∧ kE k i = t ∧ f t = f (kL k i) - kG k i - len t) → ZP G 0 m_X7_pullLatests 36 [some (.ref n), some (.ref u), o2, some (.ref v), some (iv ((m : Int) - 1)), o5, o6] [] (zSI Z v f) (fun r Z' => r = .inl none ∧ ∃ f, Z' = zSI Z v f ∧ isLat k len en f) by
    suffices key : ∀ (m j : Nat) (f : Nat → Int) (o5 o6 : Option Value), j + m = kN k → (∀ t, t < j → f t = en - len t) → ZP G 0 m_X7_pullLatests 3 [some (.ref n), some (.ref u), some (iv en), some (.ref v), some (iv (j : Int)), o5, o6] [] (zSI Z v f) (fun r Z' => r = .inl none ∧ ∃ f, Z' = zSI Z v f ∧ isLat k len en f) by
      have h := key (kN k) 0 (zI Z v) none none (by omega) fun t ht => by omega
      rw [zSI_id] at h
      exact h
    intro m
    induction m with
    | zero =>
      intro j f o5 o6 hj f1
      obtain ⟨a1, a2, a3, a4⟩ := hs' f
      refine b_X7_pullLatests_3 (Z := zSI Z v f) hn hu hv ⟨by omega, by rw [a1]; omega, ?_⟩
      rw [a1, if_pos (by omega), a2]
      exact key2 (kM k) f _ _ _ (Nat.le_refl _) (fun t ht => by
        have := f1 t (by omega)
        have := hlen t ht
        have := p2 t ht
        omega) (fun i hi hi2 => by omega) fun t ht => Or.inl (f1 t (by omega))
    | succ m ih =>
      intro j f o5 o6 hj f1
      obtain ⟨a1, a2, a3, a4⟩ := hs' f
      refine b_X7_pullLatests_3 (Z := zSI Z v f) hn hu hv ⟨by omega, by rw [a1]; omega, ?_⟩
      rw [a1, if_neg (by omega), Int.toNat_natCast, zI_other (a := v) (b := u) (fun e => huv e.symm), zI_same, (hlen j (by omega)).1]
      refine ⟨zIx_nat (by omega) (by omega), ?_⟩
      rintro _ rfl
      rw [zSI_zSI]
      refine ih (j + 1) _ _ _ (by omega) fun t ht => ?_
      by_cases d : t = j
      · rw [d, zu_same]
      · rw [zu_other d]
        exact f1 t (by omega)
  intro m
  induction m with
  | zero =>
    intro f o2 o5 o6 hm f1 f2 f3
    refine b_X7_pullLatests_36 (Z := zSI Z v f) hn hu hv ⟨by omega, ?_⟩
    rw [if_pos (by omega)]
    refine ⟨rfl, f, rfl, fun t ht => ⟨(f1 t ht).1, fun i hi e => ?_, ?_⟩⟩
    · have := f2 i hi (Nat.zero_le _)
      rw [e] at this
      exact this
    · rcases f3 t ht with h | ⟨i, hi, _, e1, e2⟩
      · exact Or.inl h
      · exact Or.inr ⟨i, hi, e1, e2⟩
  | succ m ih =>
    intro f o2 o5 o6 hm f1 f2 f3
    have hjk : m < kM k := by omega
    obtain ⟨a1, a2, a3, a4⟩ := hs' f
    obtain ⟨e1, e2, e3⟩ := a4 m hjk
    have he := ho.e hjk
    have hl := ho.l hjk
    have hg := ho.g hjk
    have g1 := f1 _ he
    have g2 := f1 _ hl
    have g3 := hlen _ he
    have g3' := hlen _ hl
    have g4 := p3 m hjk
    have g5 := p2 _ he
    have g6 := p2 _ hl
    refine b_X7_pullLatests_36 (Z := zSI Z v f) hn hu hv ⟨by omega, ?_⟩
    rw [if_neg (by omega), show (((m + 1 : Nat) : Int) - 1).toNat = m by omega, e1, e2, e3, Int.toNat_natCast, Int.toNat_natCast, zI_same, zI_other (a := v) (b := u) (fun e => huv e.symm), g3.1]
    refine ⟨⟨by omega, by omega, by omega⟩, zIx_nat (by omega) (by omega), zIx_nat (by omega) (by omega), ⟨by omega, by omega⟩, ⟨by omega, by omega⟩, ?_⟩
    have apart : ∀ i, i < kM k → m ≤ i → kL k i ≠ kE k m := fun i hi hmi e => by
      have := p3 m hjk
      have := hq m i hmi hi
      rw [e] at *
      omega
    rw [show ((m + 1 : Nat) : Int) - 1 + -1 = (m : Int) - 1 by omega]
    by_cases h : f (kE k m) ≤ f (kL k m) - kG k m - len (kE k m)
    · rw [if_pos h]
      refine ih f _ _ _ (by omega) f1 (fun i hi hmi => ?_) fun t ht => ?_
      · by_cases d : i = m
        · rw [d]
          exact h
        · exact f2 i hi (by omega)
      · rcases f3 t ht with z | ⟨i, hi, z0, z1, z2⟩
        · exact Or.inl z
        · exact Or.inr ⟨i, hi, by omega, z1, z2⟩
    · rw [if_neg h]
      rintro _ rfl
      rw [zSI_zSI]
      have hz : ∀ i, i < kM k → m ≤ i → zu f (kE k m) (f (kL k m) - kG k m - len (kE k m)) (kL k i) = f (kL k i) := fun i hi hmi => zu_other (apart i hi hmi)
      refine ih _ _ _ _ (by omega) (fun t ht => ?_) (fun i hi hmi => ?_) fun t ht => ?_
      · by_cases d : t = kE k m
        · rw [d, zu_same]
          omega
        · rw [zu_other d]
          exact f1 t ht
      · rw [hz i hi hmi]
        by_cases d : i = m
        · rw [d, zu_same]
          exact Int.le_refl _
        · have h2 := f2 i hi (by omega)
          by_cases d2 : kE k i = kE k m
          · rw [d2, zu_same]
            rw [d2] at h2
            omega
          · rw [zu_other d2]
            exact h2
      · by_cases d : t = kE k m
        · refine Or.inr ⟨m, by omega, Nat.le_refl _, d.symm, ?_⟩
          rw [d, zu_same, hz m hjk (Nat.le_refl _)]
        · rw [zu_other d]
          rcases f3 t ht with z | ⟨i, hi, z0, z1, z2⟩
          · exact Or.inl z
          · exact Or.inr ⟨i, hi, by omega, z1, by rw [hz i hi (by omega)]; exact z2⟩
