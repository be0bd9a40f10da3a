/-! ===== the class makes the proof, task by task ===== -/
theorem cEn.s {Z : Zm} {p a : Nat} {k : Bk} {l : Pl} {f : Nat → Int} (h : cEn Z p k l) (ha : a = p + 8 ∨ a = p + 9) : cEn (zSI Z a f) p k l := by
  obtain ⟨h1, h2, h3, ho, h4, h5, h6, h7, h8⟩ := h
  refine ⟨h1, h2, h3.of fun b g1 g2 => zI_other (by omega), ho, h4, ?_, ?_, h7, ?_⟩
  · rw [zI_other (by omega)]
    exact h5
  · rw [zI_other (by omega)]
    exact h6
  · rw [zI_other (by omega)]
    exact h8
def sPd (k : Bk) (l : Pl) (d g : Nat → Int) (n : Nat) (x : Int) : Prop := isPs k l (d 0) ∧ d n = x ∧ ∀ i, i < n → 0 ≤ d i ∧ d i < kN k ∧ isPn k l (d i).toNat (d (i + 1)) (g i)
theorem sPd.step {k : Bk} {l : Pl} {d g : Nat → Int} {n : Nat} {x y v : Int} (h : sPd k l d g n x) (hx : 0 ≤ x ∧ x < kN k) (hy : isPn k l x.toNat y v) : sPd k l (zu d (n + 1) y) (zu g n v) (n + 1) y := by
  obtain ⟨h1, h2, h3⟩ := h
  refine ⟨by rw [zu_other (by omega)]; exact h1, zu_same _ _ _, fun i hi => ?_⟩
  rw [zu_other (show i ≠ n + 1 by omega)]
  by_cases e : i = n
  · rw [e, zu_same, zu_same, h2]
    exact ⟨hx.1, hx.2, hy⟩
  · rw [zu_other (show i + 1 ≠ n + 1 by omega), zu_other (show i ≠ n by omega)]
    exact h3 i (by omega)
theorem s_makeProof {G : Gx} {Z : Zm} {p : Nat} {k : Bk} {l : Pl} (h : cEn Z p k l) : ZM G 1 m_X9_makeProof [.ref p, .ref 1] Z (fun r W => r = .inl none ∧ (∃ (q : Nat) (d g : Nat → Int), isPf k l d g q ∧ zI W p 5 = (q : Int) ∧ ∀ i, i < q → zI W (p + 8) (q - 1 - i) = d i ∧ zI W (p + 9) (q - 1 - i) = (if i = 0 then 0 else g (i - 1))) ∧ (∀ a, a ≠ p → a ≠ p + 8 → a ≠ p + 9 → zI W a = zI Z a) ∧ (∀ i, i ≠ 5 → zI W p i = zI Z p i) ∧ zF (zB p (p + 10)) 0 0 Z W) := by
  have ho := h.2.2.2.1
  have hN := ho.n
  have hM := ho.m
  have hp := h.2.2.2.2.1
  obtain ⟨pos, p1, p2⟩ := kPos ho
  generalize hR : (fun (r : Rv) (W : Zm) => r = .inl none ∧ (∃ (q : Nat) (d g : Nat → Int), isPf k l d g q ∧ zI W p 5 = (q : Int) ∧ ∀ i, i < q → zI W (p + 8) (q - 1 - i) = d i ∧ zI W (p + 9) (q - 1 - i) = (if i = 0 then 0 else g (i - 1))) ∧ (∀ a, a ≠ p → a ≠ p + 8 → a ≠ p + 9 → zI W a = zI Z a) ∧ (∀ i, i ≠ 5 → zI W p i = zI Z p i) ∧ zF (zB p (p + 10)) 0 0 Z W) = R
  have hV : ∀ f g, cEn (zSI (zSI Z (p + 8) f) (p + 9) g) p k l := fun f g => (h.s (Or.inl rfl)).s (Or.inr rfl)
  have e8 : ∀ f g, zI (zSI (zSI Z (p + 8) f) (p + 9) g) (p + 8) = f := fun f g => (zI_other (by omega)).trans (zI_same _ _ _)
  have e9 : ∀ f g, zI (zSI (zSI Z (p + 8) f) (p + 9) g) (p + 9) = g := fun f g => zI_same _ _ _
  have eo : ∀ f g a, a ≠ p + 8 → a ≠ p + 9 → zI (zSI (zSI Z (p + 8) f) (p + 9) g) a = zI Z a := fun f g a g1 g2 => (zI_other g2).trans (zI_other g1)
  have fV : ∀ f g, zF (zB p (p + 10)) 0 0 Z (zSI (zSI Z (p + 8) f) (p + 9) g) := fun f g => (zF_p (by omega)).trans (zF_p (by omega))
  have up : ∀ f g f' g', zSI (zSI (zSI (zSI Z (p + 8) f) (p + 9) g) (p + 8) f') (p + 9) g' = zSI (zSI Z (p + 8) f') (p + 9) g' := fun f g f' g' => by
    rw [zSI_comm (zSI Z (p + 8) f) g f' (by omega), zSI_zSI, zSI_zSI]
  -- the end
  have fin : ∀ (n : Nat) (d g f8 f9 : Nat → Int), n ≤ kN k → sPd k l d g n (-1) → (∀ i, i < n → f8 (kN k - 1 - i) = d i ∧ f9 (kN k - 1 - i) = (if i = 0 then 0 else g (i - 1))) → (∀ Z4, Z4 = zSI (zSI (zSI Z (p + 8) f8) (p + 9) f9) p (zu (zI (zSI (zSI Z (p + 8) f8) (p + 9) f9) p) 5 (n : Int)) → ∀ Z6, Z6 = zSI Z4 (p + 8) (zcpy (zI Z4 (p + 8)) (zI Z4 (p + 8)) (kN k - n) 0 n) → ∀ Z8, Z8 = zSI Z6 (p + 9) (zcpy (zI Z6 (p + 9)) (zI Z6 (p + 9)) (kN k - n) 0 n) → R (.inl none) Z8) := fun n d g f8 f9 hn hd hf => by
    rintro _ rfl _ rfl _ rfl
    rw [zI_other (b := p + 8) (a := p) (by omega), e8, zI_other (b := p + 9) (a := p + 8) (by omega), zI_other (b := p + 9) (a := p) (by omega), e9, eo _ _ p (by omega) (by omega), ← hR]
    refine ⟨rfl, ⟨n, d, g, ⟨hd.1, hn, hd.2.2, hd.2.1⟩, ?_, fun i hi => ⟨?_, ?_⟩⟩, fun a g1 g2 g3 => ?_, fun i hi => ?_, ?_⟩
    · rw [zI_other (show p ≠ p + 9 by omega), zI_other (show p ≠ p + 8 by omega), zI_same, zu_same]
    · rw [zI_other (show p + 8 ≠ p + 9 by omega), zI_same]
      show (if 0 ≤ n - 1 - i ∧ n - 1 - i < 0 + n then f8 (kN k - n + (n - 1 - i - 0)) else f8 (n - 1 - i)) = d i
      rw [if_pos (by omega), show kN k - n + (n - 1 - i - 0) = kN k - 1 - i by omega]
      exact (hf i hi).1
    · rw [zI_same]
      show (if 0 ≤ n - 1 - i ∧ n - 1 - i < 0 + n then f9 (kN k - n + (n - 1 - i - 0)) else f9 (n - 1 - i)) = _
      rw [if_pos (by omega), show kN k - n + (n - 1 - i - 0) = kN k - 1 - i by omega]
      exact (hf i hi).2
    · rw [zI_other g3, zI_other g2, zI_other g1, eo _ _ a g2 g3]
    · rw [zI_other (show p ≠ p + 9 by omega), zI_other (show p ≠ p + 8 by omega), zI_same, zu_other hi]
    · exact (((fV _ _).trans (zF_p (by omega))).trans (zF_p (by omega))).trans (zF_p (by omega))
  have L2 : ∀ (m n : Nat) (x v : Int) (d g f8 f9 : Nat → Int), n + m = kN k → (x = -1 ∨ (0 ≤ x ∧ x < kN k) ∧ pos x.toNat < m) → v = (if n = 0 then 0 else g (n - 1)) → (0 ≤ v ∧ v ≤ 100) → sPd k l d g n x → (∀ i, i < n → f8 (kN k - 1 - i) = d i ∧ f9 (kN k - 1 - i) = (if i = 0 then 0 else g (i - 1))) → ZP G 1 m_X9_makeProof 42 [some (.ref p), some (.ref 1), some (iv x), some (iv ((m : Nat) : Int)), some (iv v), none] [] (zSI (zSI Z (p + 8) f8) (p + 9) f9) R := by
    intro m
    have stop : ∀ (n m : Nat) (d g f8 f9 : Nat → Int), n + m = kN k → sPd k l d g n (-1) → (∀ i, i < n → f8 (kN k - 1 - i) = d i ∧ f9 (kN k - 1 - i) = (if i = 0 then 0 else g (i - 1))) → ∀ v : Int, ZP G 1 m_X9_makeProof 42 [some (.ref p), some (.ref 1), some (iv (-1)), some (iv ((m : Nat) : Int)), some (iv v), none] [] (zSI (zSI Z (p + 8) f8) (p + 9) f9) R := fun n m d g f8 f9 hn hd hf v => by
      have fi := fin n d g f8 f9 (by omega) hd hf
      have e2 : zI (zSI (zSI Z (p + 8) f8) (p + 9) f9) p 2 = (kN k : Int) := (hV f8 f9).2.2.2.2.2.1
      have em : (kN k : Int) - (m : Int) = (n : Int) := by omega
      have em2 : kN k - n = m := by omega
      rw [em2] at fi
      refine b_X9_makeProof_42 (hV f8 f9).1 (hV f8 f9).2.1 ⟨by omega, ?_⟩
      rw [e2, em, Int.toNat_natCast]
      by_cases c : (m : Int) ≤ 0
      · rw [if_pos c]
        rintro _ rfl
        rw [zI_same, zu_same, Int.toNat_natCast]
        refine ⟨⟨by omega, by omega, by omega, by omega, by omega, by decide, by decide⟩, ?_⟩
        rintro _ rfl
        rw [zI_other (show p ≠ p + 8 by omega), zI_same, zu_same, Int.toNat_natCast]
        refine ⟨⟨by omega, by omega, by omega, by omega, by omega, by decide, by decide⟩, ?_⟩
        rintro _ rfl
        exact fi _ rfl _ rfl _ rfl
      · rw [if_neg c]
        refine ⟨by decide, ?_⟩
        rw [if_pos (by decide)]
        rintro _ rfl
        rw [zI_same, zu_same, Int.toNat_natCast]
        refine ⟨⟨by omega, by omega, by omega, by omega, by omega, by decide, by decide⟩, ?_⟩
        rintro _ rfl
        rw [zI_other (show p ≠ p + 8 by omega), zI_same, zu_same, Int.toNat_natCast]
        refine ⟨⟨by omega, by omega, by omega, by omega, by omega, by decide, by decide⟩, ?_⟩
        rintro _ rfl
        exact fi _ rfl _ rfl _ rfl
    induction m with
    | zero =>
      intro n x v d g f8 f9 hn hx _ _ hd hf
      have hx1 : x = -1 := by
        rcases hx with q | ⟨q1, q2⟩
        · exact q
        · omega
      subst hx1
      exact stop n 0 d g f8 f9 hn hd hf v
    | succ m ih =>
      intro n x v d g f8 f9 hn hx hv rv hd hf
      rcases hx with rfl | ⟨q1, q2⟩
      · exact stop n (m + 1) d g f8 f9 hn hd hf v
      · obtain ⟨t, rfl⟩ : ∃ t : Nat, x = (t : Int) := ⟨x.toNat, by omega⟩
        rw [Int.toNat_natCast] at q2
        have em : (((m + 1 : Nat) : Int) - 1).toNat = m := by omega
        refine b_X9_makeProof_42 (hV f8 f9).1 (hV f8 f9).2.1 ⟨by omega, ?_⟩
        rw [if_neg (by omega)]
        refine ⟨by omega, ?_⟩
        rw [if_neg (by omega)]
        refine ⟨⟨by omega, by omega, by decide⟩, ?_⟩
        rintro _ rfl
        rintro _ rfl
        rw [em, zI_other (b := p + 9) (a := p + 8) (by omega), e8, e9, up]
        refine (s_clastNeed (hV _ _) (by omega)).mono ?_
        rintro r W ⟨⟨y, hy, rfl⟩, hW⟩
        obtain rfl := hW.symm
        have ry : y = -1 ∨ (0 ≤ y ∧ y < kM k) := by
          rcases hy with ⟨q, -⟩ | ⟨j, j1, j2, -⟩
          · exact Or.inl q
          · exact Or.inr (by omega)
        have pn := hy.pn2
        refine b_X9_makeProof_75 (hV _ _).1 (hV _ _).2.1 ⟨by omega, fun q => ⟨⟨by omega, by omega, by decide⟩, trivial⟩, fun q => ⟨⟨by omega, by omega, by decide⟩, trivial⟩, ?_⟩
        have k3 := (hV (zu f8 m (t : Int)) (zu f9 m v)).2.2.1.2.2.2
        have x1 : (if 0 ≤ y then zI (zSI (zSI Z (p + 8) (zu f8 m (t : Int))) (p + 9) (zu f9 m v)) (1 + 15) y.toNat else (-1 : Int)) = (if y = -1 then -1 else (kE k y.toNat : Int)) := by
          by_cases c : y = -1
          · rw [if_neg (by omega), if_pos c]
          · rw [if_pos (by omega), if_neg c]
            exact (k3 y.toNat (by omega)).1
        have x2 : (if 0 ≤ y then zI (zSI (zSI Z (p + 8) (zu f8 m (t : Int))) (p + 9) (zu f9 m v)) (1 + 17) y.toNat else (0 : Int)) = (if y = -1 then 0 else kG k y.toNat) := by
          by_cases c : y = -1
          · rw [if_neg (by omega), if_pos c]
          · rw [if_pos (by omega), if_neg c]
            exact (k3 y.toNat (by omega)).2.2
        rw [x1, x2, show ((m + 1 : Nat) : Int) + -1 = (m : Int) by omega]
        refine ih (n + 1) _ _ (zu d (n + 1) (if y = -1 then -1 else (kE k y.toNat : Int))) (zu g n (if y = -1 then 0 else kG k y.toNat)) (zu f8 m (t : Int)) (zu f9 m v) (by omega) ?_ ?_ ?_ (hd.step (by omega) (by rw [Int.toNat_natCast]; exact pn)) fun i hi => ?_
        · rcases hy with ⟨e, -⟩ | ⟨j, j1, j2, j3, -⟩
          · rw [if_pos e]
            exact Or.inl rfl
          · rw [if_neg (by omega), j2, Int.toNat_natCast]
            have a1 := p2 j j1
            have a2 := ho.e j1
            rw [j3] at a1
            exact Or.inr ⟨by omega, by rw [Int.toNat_natCast]; omega⟩
        · rw [if_neg (show ¬ n + 1 = 0 by omega), Nat.add_sub_cancel, zu_same]
        · by_cases c : y = -1
          · rw [if_pos c]
            omega
          · rw [if_neg c]
            have := ho.g (show y.toNat < kM k by omega)
            omega
        · rw [zu_other (f := d) (k := n + 1) (show i ≠ n + 1 by omega)]
          have gi : (if i = 0 then (0 : Int) else zu g n (if y = -1 then 0 else kG k y.toNat) (i - 1)) = (if i = 0 then 0 else g (i - 1)) := by
            by_cases c : i = 0
            · rw [if_pos c, if_pos c]
            · rw [if_neg c, if_neg c, zu_other (by omega)]
          rw [gi]
          by_cases e : i = n
          · rw [e, show kN k - 1 - n = m by omega, zu_same, zu_same]
            exact ⟨hd.2.1.symm, hv⟩
          · rw [zu_other (show kN k - 1 - i ≠ m by omega), zu_other (show kN k - 1 - i ≠ m by omega)]
            exact hf i (by omega)
  refine e_X9_makeProof h.1 h.2.1 ?_
  rw [h.2.2.2.2.2.1]
  suffices L1 : ∀ j, j ≤ kN k → ∀ x, sPs k l j x → ZP G 1 m_X9_makeProof 9 [some (.ref p), some (.ref 1), some (iv x), some (iv ((j : Int) - 1)), none, none] [] Z R from L1 (kN k) (Nat.le_refl _) (-1) (Or.inl ⟨rfl, fun t h1 h2 => by omega⟩)
  intro j
  induction j with
  | zero =>
    intro hj x hs
    have rs := hs.r
    refine b_X9_makeProof_9 h.1 h.2.1 ⟨by omega, ?_⟩
    rw [if_pos (by omega), h.2.2.2.2.2.1]
    have h9 := L2 (kN k) 0 x 0 (fun _ => x) (fun _ => 0) (zI Z (p + 8)) (zI Z (p + 9)) (by omega) ?_ rfl (by omega) ⟨hs.st, rfl, fun i hi => absurd hi (Nat.not_lt_zero _)⟩ fun i hi => absurd hi (Nat.not_lt_zero _)
    · rw [zSI_id, zSI_id] at h9
      exact h9
    · rcases rs with q | q
      · exact Or.inl q
      · exact Or.inr ⟨q, p1 _ (by omega)⟩
  | succ j ih =>
    intro hj x hs
    have hjn : j < kN k := by omega
    have ej : (((j + 1 : Nat) : Int) - 1) = (j : Int) := by omega
    obtain ⟨g1, g2, g3⟩ := h.2.2.2.2.2.2.2.2 j hjn
    have hD := ho.len hjn
    have hpe := h.2.2.2.2.2.2.2.1
    refine b_X9_makeProof_9 h.1 h.2.1 ⟨by omega, ?_⟩
    rw [if_neg (by omega), ej, Int.toNat_natCast, g1, h.2.2.2.2.2.2.1, show (j : Int) + -1 = (j : Int) - 1 by omega]
    exact ⟨zIx_nat (by omega) (by omega), by omega, by omega, ih (by omega) _ (hs.step hjn)⟩
