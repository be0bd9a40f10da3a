set_option maxRecDepth 20000 in
theorem e_X12_areTooMany {G : Gx} {Q : Rv → Zm → Prop} {Z : Zm} {m : Nat} {B : Nat} {u : Nat} {v : Nat} (hm : atModel Z m B) (hu : zA Z u 100 20) (hv : zA Z v 100 20) (h : (ZP G 1 m_X12_areTooMany 5 [some (.ref m), some (.ref u), some (.ref v), some (jv 1), none, some (iv 0)] [] Z Q)) : ZM G 1 m_X12_areTooMany [.ref m, .ref u, .ref v] Z Q := ZM.of [some (.ref m), some (.ref u), some (.ref v), none, none, none] rfl <| z_lconst (pc' := 1) (n := 1) (v := 1) (by decide +kernel) rfl rfl <| z_lstore_n (pc' := 2) (j := 3) (ls' := [some (.ref m), some (.ref u), some (.ref v), some (jv 1), none, none]) (by decide +kernel) (by decide) rfl rfl <| z_iconst (pc' := 3) (n := 0) (by decide +kernel) rfl <| z_istore (pc' := 5) (j := 5) (ls' := [some (.ref m), some (.ref u), some (.ref v), some (jv 1), none, some (iv 0)]) (by decide +kernel) (by decide) rfl rfl <| h
set_option maxRecDepth 20000 in
theorem b_X12_areTooMany_5 {G : Gx} {Q : Rv → Zm → Prop} {Z : Zm} {m : Nat} {B : Nat} {u : Nat} {v : Nat} {v3 : Int} {v5 : Int} (hm : atModel Z m B) (hu : zA Z u 100 20) (hv : zA Z v 100 20) (h : ((R32 v5) ∧ (R32 (zI Z B 0)) ∧ (if (zI Z B 0) ≤ v5 then ((R64 v3) ∧ Q (.inl (some (iv (b2 (¬ ((zcmp v3 2000) ≤ 0)))))) Z) else ((R64 v3) ∧ (if 0 < (zcmp v3 2000) then (Q (.inl (some (iv (b2 (¬ ((zcmp v3 2000) ≤ 0)))))) Z) else ((zIx v5 20) ∧ (R32 (((zI Z v v5.toNat) - (zI Z u v5.toNat)) + 1)) ∧ ZP G 1 m_X12_areTooMany 5 [some (.ref m), some (.ref u), some (.ref v), some (jv (v3 * (((zI Z v v5.toNat) - (zI Z u v5.toNat)) + 1))), none, some (iv (v5 + 1))] [] Z Q)))))) : ZP G 1 m_X12_areTooMany 5 [some (.ref m), some (.ref u), some (.ref v), some (jv v3), none, some (iv v5)] [] Z Q := z_iload (pc' := 7) (j := 5) (by decide +kernel) rfl rfl <| z_aload_n (pc' := 8) (j := 0) (by decide +kernel) rfl rfl <| z_callV (pc' := 11) (idx := 64) (mj := m_X12_many) (av := []) (d' := 0) (by decide +kernel) rfl k_X12_many l_RX12_64 rfl (by omega) (am_le rfl) rfl (am_le rfl) hm.o.1 hm.o.2 rfl <| zKf (s_many hm) <| h.elim fun c1 h => h.elim fun c2 h => z_icmp_ge (pc' := 14) (tgt := 43) (off := 32) (by decide +kernel) (by decide) rfl c1 c2 (am_ite h (fun h => z_lload_n (pc' := 44) (j := 3) (by decide +kernel) rfl rfl <| z_ldc2 (pc' := 47) (idx := 322) (w := 2000) (v := 2000) (by decide +kernel) (amM10 10 rfl (by decide +kernel)) (by decide) rfl <| h.elim fun c6 h => z_lcmp (pc' := 48) (by decide +kernel) c6 (by decide : R64 2000) rfl <| am_use (fun k9 => z_if_le (pc' := 51) (tgt := 55) (off := 7) (by decide +kernel) (by decide) rfl (zcmp_r _ _) (am_ite2 (fun q10 => z_iconst (pc' := 56) (n := 0) (by decide +kernel) rfl <| (am_jp (P := fun z9 => ZP G 1 m_X12_areTooMany 56 [some (.ref m), some (.ref u), some (.ref v), some (jv v3), none, some (iv v5)] [iv z9] _ Q) (b2_n q10) k9)) (fun q10 => z_iconst (pc' := 52) (n := 1) (by decide +kernel) rfl <| z_goto (tgt := 56) (off := 4) (by decide +kernel) (by decide) <| (am_jp (P := fun z9 => ZP G 1 m_X12_areTooMany 56 [some (.ref m), some (.ref u), some (.ref v), some (jv v3), none, some (iv v5)] [iv z9] _ Q) (b2_nn q10) k9)))) <| z_ireturn (by decide +kernel) (am_rb (b2_01 _)) h) (fun h => z_lload_n (pc' := 15) (j := 3) (by decide +kernel) rfl rfl <| z_ldc2 (pc' := 18) (idx := 322) (w := 2000) (v := 2000) (by decide +kernel) (amM10 10 rfl (by decide +kernel)) (by decide) rfl <| h.elim fun c11 h => z_lcmp (pc' := 19) (by decide +kernel) c11 (by decide : R64 2000) rfl <| z_if_gt (pc' := 22) (tgt := 43) (off := 24) (by decide +kernel) (by decide) rfl (zcmp_r _ _) (am_ite h (fun h => z_lload_n (pc' := 44) (j := 3) (by decide +kernel) rfl rfl <| z_ldc2 (pc' := 47) (idx := 322) (w := 2000) (v := 2000) (by decide +kernel) (amM10 10 rfl (by decide +kernel)) (by decide) rfl <| z_lcmp (pc' := 48) (by decide +kernel) c11 (by decide : R64 2000) rfl <| am_use (fun k16 => z_if_le (pc' := 51) (tgt := 55) (off := 7) (by decide +kernel) (by decide) rfl (zcmp_r _ _) (am_ite2 (fun q17 => z_iconst (pc' := 56) (n := 0) (by decide +kernel) rfl <| (am_jp (P := fun z9 => ZP G 1 m_X12_areTooMany 56 [some (.ref m), some (.ref u), some (.ref v), some (jv v3), none, some (iv v5)] [iv z9] _ Q) (b2_n q17) k16)) (fun q17 => z_iconst (pc' := 52) (n := 1) (by decide +kernel) rfl <| z_goto (tgt := 56) (off := 4) (by decide +kernel) (by decide) <| (am_jp (P := fun z9 => ZP G 1 m_X12_areTooMany 56 [some (.ref m), some (.ref u), some (.ref v), some (jv v3), none, some (iv v5)] [iv z9] _ Q) (b2_nn q17) k16)))) <| z_ireturn (by decide +kernel) (am_rb (b2_01 _)) h) (fun h => z_lload_n (pc' := 23) (j := 3) (by decide +kernel) rfl rfl <| z_aload_n (pc' := 24) (j := 2) (by decide +kernel) rfl rfl <| z_iload (pc' := 26) (j := 5) (by decide +kernel) rfl rfl <| h.elim fun c18 h => z_iaload (pc' := 27) (by decide +kernel) hv c18 rfl <| z_aload_n (pc' := 28) (j := 1) (by decide +kernel) rfl rfl <| z_iload (pc' := 30) (j := 5) (by decide +kernel) rfl rfl <| z_iaload (pc' := 31) (by decide +kernel) hu c18 rfl <| z_isub (pc' := 32) (by decide +kernel) rfl <| z_iconst (pc' := 33) (n := 1) (by decide +kernel) rfl <| z_iadd (pc' := 34) (by decide +kernel) rfl <| h.elim fun c19 h => z_i2l (pc' := 35) (by decide +kernel) c19 rfl <| z_lmul (pc' := 36) (by decide +kernel) rfl <| z_lstore_n (pc' := 37) (j := 3) (ls' := [some (.ref m), some (.ref u), some (.ref v), some (jv (v3 * (((zI Z v v5.toNat) - (zI Z u v5.toNat)) + 1))), none, some (iv v5)]) (by decide +kernel) (by decide) rfl rfl <| z_iinc (pc' := 40) (j := 5) (n := 1) (x := v5) (ls' := [some (.ref m), some (.ref u), some (.ref v), some (jv (v3 * (((zI Z v v5.toNat) - (zI Z u v5.toNat)) + 1))), none, some (iv (v5 + 1))]) (by decide +kernel) rfl (by decide) rfl rfl <| z_goto (tgt := 5) (off := -35) (by decide +kernel) (by decide) <| h))))
set_option maxRecDepth 20000 in
theorem e_X12_goesOn {G : Gx} {Q : Rv → Zm → Prop} {Z : Zm} {m : Nat} {B : Nat} {u : Nat} {v : Nat} {w : Nat} (hm : atModel Z m B) (hu : zA Z u 100 20) (hv : zA Z v 100 20) (hw : zA Z w 100 20) (h : (ZP G 1 m_X12_goesOn 3 [some (.ref m), some (.ref u), some (.ref v), some (.ref w), some (iv 0)] [] Z Q)) : ZM G 1 m_X12_goesOn [.ref m, .ref u, .ref v, .ref w] Z Q := ZM.of [some (.ref m), some (.ref u), some (.ref v), some (.ref w), none] rfl <| z_iconst (pc' := 1) (n := 0) (by decide +kernel) rfl <| z_istore (pc' := 3) (j := 4) (ls' := [some (.ref m), some (.ref u), some (.ref v), some (.ref w), some (iv 0)]) (by decide +kernel) (by decide) rfl rfl <| h
set_option maxRecDepth 20000 in
theorem b_X12_goesOn_3 {G : Gx} {Q : Rv → Zm → Prop} {Z : Zm} {m : Nat} {B : Nat} {u : Nat} {v : Nat} {w : Nat} {v4 : Int} (hm : atModel Z m B) (hu : zA Z u 100 20) (hv : zA Z v 100 20) (hw : zA Z w 100 20) (h : ((R32 v4) ∧ (R32 (zI Z B 0)) ∧ (if (zI Z B 0) ≤ v4 then (Q (.inl (some (iv 0))) Z) else ((zIx v4 20) ∧ (R32 (zI Z u v4.toNat)) ∧ (R32 (zI Z w v4.toNat)) ∧ (if (zI Z w v4.toNat) ≤ (zI Z u v4.toNat) then (∀ Z6, Z6 = zSI Z u (zu (zI Z u) v4.toNat (zI Z v v4.toNat)) → ZP G 1 m_X12_goesOn 3 [some (.ref m), some (.ref u), some (.ref v), some (.ref w), some (iv (v4 + 1))] [] Z6 Q) else (∀ Z7, Z7 = zSI Z u (zu (zI Z u) v4.toNat ((zI Z u v4.toNat) + 1)) → Q (.inl (some (iv 1))) Z7)))))) : ZP G 1 m_X12_goesOn 3 [some (.ref m), some (.ref u), some (.ref v), some (.ref w), some (iv v4)] [] Z Q := z_iload (pc' := 5) (j := 4) (by decide +kernel) rfl rfl <| z_aload_n (pc' := 6) (j := 0) (by decide +kernel) rfl rfl <| z_callV (pc' := 9) (idx := 64) (mj := m_X12_many) (av := []) (d' := 0) (by decide +kernel) rfl k_X12_many l_RX12_64 rfl (by omega) (am_le rfl) rfl (am_le rfl) hm.o.1 hm.o.2 rfl <| zKf (s_many hm) <| h.elim fun c1 h => h.elim fun c2 h => z_icmp_ge (pc' := 12) (tgt := 47) (off := 38) (by decide +kernel) (by decide) rfl c1 c2 (am_ite h (fun h => z_iconst (pc' := 48) (n := 0) (by decide +kernel) rfl <| z_ireturn (by decide +kernel) (am_rb (Or.inl rfl)) h) (fun h => z_aload_n (pc' := 13) (j := 1) (by decide +kernel) rfl rfl <| z_iload (pc' := 15) (j := 4) (by decide +kernel) rfl rfl <| h.elim fun c3 h => z_iaload (pc' := 16) (by decide +kernel) hu c3 rfl <| z_aload_n (pc' := 17) (j := 3) (by decide +kernel) rfl rfl <| z_iload (pc' := 19) (j := 4) (by decide +kernel) rfl rfl <| z_iaload (pc' := 20) (by decide +kernel) hw c3 rfl <| h.elim fun c4 h => h.elim fun c5 h => z_icmp_ge (pc' := 23) (tgt := 33) (off := 13) (by decide +kernel) (by decide) rfl c4 c5 (am_ite h (fun h => z_aload_n (pc' := 34) (j := 1) (by decide +kernel) rfl rfl <| z_iload (pc' := 36) (j := 4) (by decide +kernel) rfl rfl <| z_aload_n (pc' := 37) (j := 2) (by decide +kernel) rfl rfl <| z_iload (pc' := 39) (j := 4) (by decide +kernel) rfl rfl <| z_iaload (pc' := 40) (by decide +kernel) hv c3 rfl <| z_iastore (pc' := 41) (by decide +kernel) hu c3 rfl <| have h := h _ rfl; z_iinc (pc' := 44) (j := 4) (n := 1) (x := v4) (ls' := [some (.ref m), some (.ref u), some (.ref v), some (.ref w), some (iv (v4 + 1))]) (by decide +kernel) rfl (by decide) rfl rfl <| z_goto (tgt := 3) (off := -41) (by decide +kernel) (by decide) <| h) (fun h => z_aload_n (pc' := 24) (j := 1) (by decide +kernel) rfl rfl <| z_iload (pc' := 26) (j := 4) (by decide +kernel) rfl rfl <| z_dup2 (pc' := 27) (by decide +kernel) rfl rfl rfl <| z_iaload (pc' := 28) (by decide +kernel) hu c3 rfl <| z_iconst (pc' := 29) (n := 1) (by decide +kernel) rfl <| z_iadd (pc' := 30) (by decide +kernel) rfl <| z_iastore (pc' := 31) (by decide +kernel) hu c3 rfl <| have h := h _ rfl; z_iconst (pc' := 32) (n := 1) (by decide +kernel) rfl <| z_ireturn (by decide +kernel) (am_rb (Or.inr rfl)) h))))
/-! ===== rows within bounds, one after another ===== -/
def bx (n : Nat) (lo hi p : Nat → Int) : Prop := ∀ t, t < n → lo t ≤ p t ∧ p t ≤ hi t
def clx (n : Nat) (p q : Nat → Int) : Prop := (∀ t, t < n → p t = q t) ∨ ∃ i, i < n ∧ (∀ t, i < t → t < n → p t = q t) ∧ p i < q i
def nxB (lo p : Nat → Int) (i t : Nat) : Int := if t < i then lo t else if t = i then p t + 1 else p t
theorem nxB_lo {lo p : Nat → Int} {i t : Nat} (h : t < i) : nxB lo p i t = lo t := if_pos h
theorem nxB_at (lo p : Nat → Int) (i : Nat) : nxB lo p i i = p i + 1 := by
  unfold nxB
  rw [if_neg (Nat.lt_irrefl _), if_pos rfl]
theorem nxB_hi {lo p : Nat → Int} {i t : Nat} (h : i < t) : nxB lo p i t = p t := by
  unfold nxB
  rw [if_neg (show ¬ t < i by omega), if_neg (show ¬ t = i by omega)]
theorem ldiff (p q : Nat → Int) : ∀ n, (∀ t, t < n → p t = q t) ∨ ∃ i, i < n ∧ (∀ t, i < t → t < n → p t = q t) ∧ p i ≠ q i := by
  intro n
  induction n with
  | zero => exact Or.inl fun t ht => absurd ht (Nat.not_lt_zero _)
  | succ n ih =>
    by_cases e : p n = q n
    · rcases ih with h | ⟨i, h1, h2, h3⟩
      · refine Or.inl fun t ht => ?_
        by_cases g : t = n
        · rw [g]
          exact e
        · exact h t (by omega)
      · refine Or.inr ⟨i, by omega, fun t g1 g2 => ?_, h3⟩
        by_cases g : t = n
        · rw [g]
          exact e
        · exact h2 t g1 (by omega)
    · exact Or.inr ⟨n, by omega, fun t g1 g2 => by omega, e⟩
theorem bx_next {n : Nat} {lo hi p q : Nat → Int} {i : Nat} (hi0 : ∀ t, t < i → hi t ≤ p t) (hn : i < n) (hq : bx n lo hi q) : clx n q p ∨ clx n (nxB lo p i) q := by
  rcases ldiff p q n with h | ⟨j, h1, h2, h3⟩
  · exact Or.inl (Or.inl fun t ht => (h t ht).symm)
  by_cases c : q j < p j
  · exact Or.inl (Or.inr ⟨j, h1, fun t g1 g2 => (h2 t g1 g2).symm, c⟩)
  have lt : p j < q j := by omega
  have qj := hq j h1
  by_cases d : j < i
  · have := hi0 j d
    omega
  right
  by_cases e : j = i
  · rw [e] at h1 h2 lt
    by_cases g : p i + 1 < q i
    · exact Or.inr ⟨i, hn, fun t g1 g2 => by rw [nxB_hi g1]; exact h2 t g1 g2, by rw [nxB_at]; exact g⟩
    · have eq : p i + 1 = q i := by omega
      rcases ldiff (nxB lo p i) q n with k | ⟨k, k1, k2, k3⟩
      · exact Or.inl k
      · refine Or.inr ⟨k, k1, k2, ?_⟩
        have ki : k < i := by
          refine Nat.lt_of_not_le fun g2 => k3 ?_
          by_cases g3 : k = i
          · rw [g3, nxB_at]
            exact eq
          · rw [nxB_hi (by omega)]
            exact h2 k (by omega) k1
        rw [nxB_lo ki] at k3 ⊢
        have := (hq k k1).1
        omega
  · exact Or.inr ⟨j, h1, fun t g1 g2 => by rw [nxB_hi (by omega)]; exact h2 t g1 g2, by rw [nxB_hi (by omega)]; exact lt⟩
theorem bx_last {n : Nat} {lo hi p q : Nat → Int} (h : ∀ t, t < n → hi t ≤ p t) (hq : bx n lo hi q) : clx n q p := by
  rcases ldiff p q n with g | ⟨j, h1, h2, h3⟩
  · exact Or.inl fun t ht => (g t ht).symm
  · have := h j h1
    have := hq j h1
    exact Or.inr ⟨j, h1, fun t g1 g2 => (h2 t g1 g2).symm, by omega⟩
theorem bx_first {n : Nat} {lo hi q : Nat → Int} (hq : bx n lo hi q) (h : clx n q lo) : ∀ t, t < n → q t = lo t := by
  rcases h with h | ⟨i, h1, -, h3⟩
  · exact h
  · have := hq i h1
    omega
theorem clx.an {n : Nat} {p q : Nat → Int} (h : clx n p q) (h' : clx n q p) : ∀ t, t < n → p t = q t := by
  rcases h with h | ⟨i, i1, i2, i3⟩
  · exact h
  rcases h' with h' | ⟨j, j1, j2, j3⟩
  · exact fun t ht => (h' t ht).symm
  · by_cases c : i < j
    · have := i2 j c j1
      omega
    · by_cases d : j < i
      · have := j2 i d i1
        omega
      · have e : i = j := by omega
        rw [e] at i3
        omega
theorem bx.next {n : Nat} {lo hi p : Nat → Int} {i : Nat} (hp : bx n lo hi p) (hl : ∀ t, t < n → lo t ≤ hi t) (hn : i < n) (h : p i < hi i) : bx n lo hi (nxB lo p i) := fun t ht => by
  have a := hp t ht
  have b := hl t ht
  by_cases c : t < i
  · rw [nxB_lo c]
    omega
  · by_cases d : t = i
    · rw [d] at a ⊢
      rw [nxB_at]
      omega
    · rw [nxB_hi (by omega)]
      exact a
/-- what holds of all rows so far -/
def seenB (n : Nat) (lo hi : Nat → Int) (R : (Nat → Int) → Prop) (p : Nat → Int) : Prop := ∀ q, bx n lo hi q → clx n q p → ∃ q', (∀ t, t < n → q' t = q t) ∧ R q'
theorem seenB.first {n : Nat} {lo hi : Nat → Int} {R : (Nat → Int) → Prop} (h : R lo) : seenB n lo hi R lo := fun _ hq hc => ⟨lo, fun t ht => (bx_first hq hc t ht).symm, h⟩
theorem seenB.mono {n : Nat} {lo hi p : Nat → Int} {R R' : (Nat → Int) → Prop} (h : seenB n lo hi R p) (g : ∀ q, R q → R' q) : seenB n lo hi R' p := fun q hq hc => by
  obtain ⟨q', e, r⟩ := h q hq hc
  exact ⟨q', e, g _ r⟩
theorem seenB.next {n : Nat} {lo hi p : Nat → Int} {R : (Nat → Int) → Prop} {i : Nat} (h : seenB n lo hi R p) (hi0 : ∀ t, t < i → hi t ≤ p t) (hn : i < n) (hr : R (nxB lo p i)) : seenB n lo hi R (nxB lo p i) := fun q hq hc => by
  rcases bx_next hi0 hn hq with g | g
  · exact h q hq g
  · exact ⟨_, g.an hc, hr⟩
theorem seenB.last {n : Nat} {lo hi p : Nat → Int} {R : (Nat → Int) → Prop} (h : seenB n lo hi R p) (hi0 : ∀ t, t < n → hi t ≤ p t) : ∀ q, bx n lo hi q → ∃ q', (∀ t, t < n → q' t = q t) ∧ R q' := fun q hq => h q hq (bx_last hi0 hq)
/-- a number that grows -/
def bW : Nat → Nat
  | 0 => 1
  | n + 1 => bW n * 2048
def bV (lo p : Nat → Int) : Nat → Nat
  | 0 => 0
  | n + 1 => (p n - lo n).toNat * bW n + bV lo p n
theorem bV_le {lo p : Nat → Int} : ∀ n, (∀ t, t < n → p t - lo t < 2048) → bV lo p n + 1 ≤ bW n := by
  intro n
  induction n with
  | zero => exact fun _ => Nat.le_refl _
  | succ n ih =>
    intro h
    have a := ih fun t ht => h t (by omega)
    have b := h n (by omega)
    have c : (p n - lo n).toNat * bW n ≤ 2047 * bW n := Nat.mul_le_mul_right _ (by omega)
    show (p n - lo n).toNat * bW n + bV lo p n + 1 ≤ bW n * 2048
    omega
theorem bV_nx {lo p : Nat → Int} {i : Nat} (h : lo i ≤ p i) (hb : ∀ t, t < i → p t - lo t < 2048) : ∀ m, bV lo p (i + 1 + m) + 1 ≤ bV lo (nxB lo p i) (i + 1 + m) := by
  intro m
  induction m with
  | zero =>
    have a := bV_le i hb
    show (p i - lo i).toNat * bW i + bV lo p i + 1 ≤ (nxB lo p i i - lo i).toNat * bW i + bV lo (nxB lo p i) i
    rw [nxB_at, show (p i + 1 - lo i).toNat = (p i - lo i).toNat + 1 by omega, Nat.add_mul, Nat.one_mul]
    omega
  | succ m ih =>
    show (p (i + 1 + m) - lo (i + 1 + m)).toNat * bW (i + 1 + m) + bV lo p (i + 1 + m) + 1 ≤ (nxB lo p i (i + 1 + m) - lo (i + 1 + m)).toNat * bW (i + 1 + m) + bV lo (nxB lo p i) (i + 1 + m)
    rw [nxB_hi (by omega)]
    omega
/-! ===== products ===== -/
def prF (f : Nat → Int) : Nat → Int
  | 0 => 1
  | n + 1 => prF f n * f n
theorem prF_1 {f : Nat → Int} : ∀ n, (∀ t, t < n → 1 ≤ f t) → 1 ≤ prF f n := by
  intro n
  induction n with
  | zero => exact fun _ => Int.le_refl _
  | succ n ih =>
    intro h
    have a := ih fun t ht => h t (by omega)
    have b := h n (by omega)
    have := Int.mul_le_mul a b (by decide) (by omega)
    show 1 ≤ prF f n * f n
    omega
theorem prF_up {f : Nat → Int} {j : Nat} : ∀ m, (∀ t, t < j + m → 1 ≤ f t) → prF f j ≤ prF f (j + m) := by
  intro m
  induction m with
  | zero => exact fun _ => Int.le_refl _
  | succ m ih =>
    intro h
    have a := ih fun t ht => h t (by omega)
    have b := h (j + m) (by omega)
    have c := prF_1 (j + m) fun t ht => h t (by omega)
    have := Int.mul_le_mul (Int.le_refl (prF f (j + m))) b (by decide) (by omega)
    show prF f j ≤ prF f (j + m) * f (j + m)
    omega
theorem prF_eq {f g : Nat → Int} : ∀ n, (∀ t, t < n → f t = g t) → prF f n = prF g n := by
  intro n
  induction n with
  | zero => exact fun _ => rfl
  | succ n ih =>
    intro h
    show prF f n * f n = prF g n * g n
    rw [ih fun t ht => h t (by omega), h n (by omega)]
theorem zcmp_gt {x y : Int} : 0 < zcmp x y ↔ y < x := by
  unfold zcmp
  by_cases a : x < y
  · rw [if_pos a]
    omega
  · rw [if_neg a]
    by_cases b : x = y
    · rw [if_pos b]
      omega
    · rw [if_neg b]
      omega
theorem zcmp_le {x y : Int} : zcmp x y ≤ 0 ↔ x ≤ y := by
  have := zcmp_gt (x := x) (y := y)
  omega
theorem s_areTooMany {G : Gx} {Z : Zm} {B u v n : Nat} {f : Nat → Int} (hm : atModel Z 300 B) (hn : zI Z B 0 = (n : Int)) (hN : n ≤ 20) (hu : zA Z u 100 20) (hv : zA Z v 100 20) (hf : ∀ t, t < n → zI Z v t - zI Z u t + 1 = f t ∧ 1 ≤ f t ∧ f t ≤ 2000) : ZM G 1 m_X12_areTooMany [.ref 300, .ref u, .ref v] Z (fun r W => (∃ x, r = .inl (some (iv x)) ∧ isB x (2000 < prF f n)) ∧ W = Z) := by
  refine e_X12_areTooMany hm hu hv ?_
  suffices key : ∀ j, j ≤ n → prF f j ≤ 4000000 → ZP G 1 m_X12_areTooMany 5 [some (.ref 300), some (.ref u), some (.ref v), some (jv (prF f j)), none, some (iv (j : Int))] [] Z (fun r W => (∃ x, r = .inl (some (iv x)) ∧ isB x (2000 < prF f n)) ∧ W = Z) from key 0 (Nat.zero_le _) (by show (1 : Int) ≤ 4000000; decide)
  refine am_up (n := n) fun j hj ih hb => ?_
  have p1 := prF_1 (f := f) j fun t ht => (hf t (by omega)).2.1
  have up := prF_up (f := f) (j := j) (n - j) fun t ht => (hf t (by omega)).2.1
  rw [show j + (n - j) = n by omega] at up
  refine b_X12_areTooMany_5 hm hu hv ⟨by omega, by rw [hn]; omega, ?_⟩
  rw [hn]
  by_cases c : j < n
  · rw [if_neg (by omega)]
    refine ⟨by omega, ?_⟩
    by_cases d : 0 < zcmp (prF f j) 2000
    · rw [if_pos d]
      exact ⟨⟨_, rfl, isB_b2 ⟨fun _ => by have := zcmp_gt.mp d; omega, fun _ => by omega⟩⟩, rfl⟩
    · rw [if_neg d]
      obtain ⟨e, f1, f2⟩ := hf j c
      have le : prF f j ≤ 2000 := Int.not_lt.mp fun g => d (zcmp_gt.mpr g)
      have m := mul_b (a := prF f j) (b := f j) (A := 2000) (B := 2000) (by omega) (by omega)
      rw [Int.toNat_natCast, e]
      exact ⟨zIx_nat (by omega) (by omega), by omega, ih c (by show prF f j * f j ≤ 4000000; omega)⟩
  · rw [if_pos (by omega)]
    rw [show j = n by omega] at hb p1 ⊢
    refine ⟨by omega, ⟨_, rfl, isB_b2 ⟨fun q => ?_, fun q => ?_⟩⟩, rfl⟩
    · exact Int.not_le.mp fun g => q (zcmp_le.mpr g)
    · have := zcmp_gt.mpr q
      omega
theorem s_goesOn {G : Gx} {Z : Zm} {B u v w n : Nat} {lo hi p : Nat → Int} (hm : atModel Z 300 B) (hn : zI Z B 0 = (n : Int)) (hN : n ≤ 20) (hu : zA Z u 100 20) (hv : zA Z v 100 20) (hw : zA Z w 100 20) (huB : u ≠ B) (huv : u ≠ v) (huw : u ≠ w) (hp : ∀ t, t < n → zI Z u t = p t ∧ zI Z v t = lo t ∧ zI Z w t = hi t ∧ -100000 ≤ p t ∧ p t ≤ 100000 ∧ -100000 ≤ hi t ∧ hi t ≤ 100000) : ZM G 1 m_X12_goesOn [.ref 300, .ref u, .ref v, .ref w] Z (fun r W => (r = .inl (some (iv 0)) ∧ (∀ t, t < n → hi t ≤ p t) ∧ ∃ f, W = zSI Z u f) ∨ (r = .inl (some (iv 1)) ∧ ∃ i f, i < n ∧ p i < hi i ∧ (∀ t, t < i → hi t ≤ p t) ∧ W = zSI Z u f ∧ ∀ t, t < n → f t = nxB lo p i t)) := by
  generalize hR : (fun (r : Rv) (W : Zm) => (r = .inl (some (iv 0)) ∧ (∀ t, t < n → hi t ≤ p t) ∧ ∃ f, W = zSI Z u f) ∨ (r = .inl (some (iv 1)) ∧ ∃ i f, i < n ∧ p i < hi i ∧ (∀ t, t < i → hi t ≤ p t) ∧ W = zSI Z u f ∧ ∀ t, t < n → f t = nxB lo p i t)) = R
  refine e_X12_goesOn hm hu hv hw ?_
  suffices key : ∀ j, j ≤ n → (∀ t, t < j → hi t ≤ p t) → ∀ f, (∀ t, t < n → f t = if t < j then lo t else p t) → ZP G 1 m_X12_goesOn 3 [some (.ref 300), some (.ref u), some (.ref v), some (.ref w), some (iv (j : Int))] [] (zSI Z u f) R by
    have h9 := key 0 (Nat.zero_le _) (fun t ht => absurd ht (Nat.not_lt_zero _)) (zI Z u) fun t ht => by
      rw [if_neg (Nat.not_lt_zero _)]
      exact (hp t ht).1
    rw [zSI_id] at h9
    exact h9
  refine am_up (n := n) fun j hj ih hd f hf => ?_
  have e0 : zI (zSI Z u f) B 0 = (n : Int) := by rw [zI_other (fun e => huB e.symm)]; exact hn
  refine b_X12_goesOn_3 hm.s hu.s hv.s hw.s ⟨by omega, by rw [e0]; omega, ?_⟩
  rw [e0]
  by_cases c : j < n
  · obtain ⟨p1, p2, p3, p4, p5, p6, p7⟩ := hp j c
    have fj : f j = p j := by rw [hf j c, if_neg (Nat.lt_irrefl _)]
    rw [if_neg (by omega), Int.toNat_natCast, zI_same, zI_other (fun e => huw e.symm), zI_other (fun e => huv e.symm), fj, p2, p3]
    refine ⟨zIx_nat (by omega) (by omega), by omega, by omega, ?_⟩
    by_cases d : hi j ≤ p j
    · rw [if_pos d]
      rintro _ rfl
      rw [zSI_zSI]
      refine ih c (fun t ht => ?_) _ fun t ht => ?_
      · by_cases e : t = j
        · rw [e]
          exact d
        · exact hd t (by omega)
      · by_cases e : t = j
        · rw [e, zu_same, if_pos (by omega)]
        · rw [zu_other e, hf t ht]
          by_cases g : t < j
          · rw [if_pos g, if_pos (by omega)]
          · rw [if_neg g, if_neg (by omega)]
    · rw [if_neg d]
      rintro _ rfl
      rw [zSI_zSI, ← hR]
      refine Or.inr ⟨rfl, j, _, c, by omega, hd, rfl, fun t ht => ?_⟩
      by_cases e : t = j
      · rw [e, zu_same, nxB_at]
      · rw [zu_other e, hf t ht]
        by_cases g : t < j
        · rw [if_pos g, nxB_lo g]
        · rw [if_neg g, nxB_hi (by omega)]
  · rw [if_pos (by omega), ← hR]
    exact Or.inl ⟨rfl, fun t ht => hd t (by omega), f, rfl⟩
/-! ===== the end with other lengths ===== -/
noncomputable def endF (k : Bk) (len : Nat → Int) : Int := kEnd k len (eLF k len fun _ => 0)
theorem endF_of {k : Bk} (ho : kOk k) {len f : Nat → Int} (h : isLF k len (fun _ => 0) f) : kEnd k len f = endF k len := zmax_eq fun t ht => by rw [(eLF_spec ho h).2 t ht]
theorem endF_congr {k : Bk} (ho : kOk k) {len len' : Nat → Int} (h : ∀ t, t < kN k → len t = len' t) : endF k len = endF k len' := by
  obtain ⟨f, hf⟩ := isLF_ex ho len fun _ => 0
  rw [← endF_of ho hf, ← endF_of ho (isLF_congr ho hf h (fun _ _ => rfl) (fun _ _ => rfl))]
  exact zmax_eq fun t ht => by rw [h t ht]
theorem endF_mono {k : Bk} (ho : kOk k) {len len' : Nat → Int} (h : ∀ t, t < kN k → len t ≤ len' t) : endF k len ≤ endF k len' := by
  obtain ⟨f, hf⟩ := isLF_ex ho len fun _ => 0
  obtain ⟨g, hg⟩ := isLF_ex ho len' fun _ => 0
  rw [← endF_of ho hf, ← endF_of ho hg]
  have le := isLF_le ho hf (f' := g) fun t ht => ⟨(hg t ht).1, fun j hj e => by
    have a := (hg t ht).2.1 j hj e
    have b := h _ (ho.e hj)
    omega⟩
  refine zmax_le (zmax_0 _ _) fun t ht => ?_
  have a := zmax_ge (f := fun t => g t + len' t) ht
  have b := le t ht
  have c := h t ht
  have a : g t + len' t ≤ kEnd k len' g := a
  omega
theorem endF_r {k : Bk} (ho : kOk k) {len : Nat → Int} (h : ∀ t, t < kN k → 1 ≤ len t ∧ len t ≤ 60) : 0 ≤ endF k len ∧ endF k len ≤ 1770 := by
  obtain ⟨f, hf⟩ := isLF_ex ho len fun _ => 0
  rw [← endF_of ho hf]
  refine kEnd_r ho h fun t ht => ?_
  have := isLF_bound ho hf h (c := 0) (fun _ _ => ⟨Int.le_refl _, Int.le_refl _⟩) t ht
  omega
theorem kPm.endF {k k' : Bk} (h : kPm k k') (ho : kOk k) (len : Nat → Int) : _root_.Jvm.Pilot.@@N@@.endF k' len = _root_.Jvm.Pilot.@@N@@.endF k len := by
  obtain ⟨f, hf⟩ := isLF_ex (h.ok ho) len fun _ => 0
  rw [← endF_of (h.ok ho) hf, ← endF_of ho (h.lf hf)]
  have hn : kN k' = kN k := h.1
  unfold kEnd
  rw [hn]
/-! ===== the least cost ===== -/
def kO8 (k : Bk) : Prop := ∀ t, t < kN k → 0 ≤ kF k 8 t ∧ kF k 8 t ≤ 5 ∧ kF k 8 t < kF k 0 t ∧ 0 ≤ kF k 9 t ∧ kF k 9 t ≤ 99
theorem kOk.o8 {k : Bk} (ho : kOk k) : kO8 k := fun t ht => by
  have := (ho.2.1 t ht).2.2.2.2.2.2.2.2
  omega
def cLn (k : Bk) (c : Nat → Int) (t : Nat) : Int := kF k 0 t - c t
def coS (k : Bk) (c : Nat → Int) (n : Nat) : Int := zsum (fun t => c t * kF k 9 t) n
def okC (k : Bk) (time : Int) (c : Nat → Int) : Prop := bx (kN k) (fun _ => 0) (kF k 8) c ∧ endF k (cLn k c) ≤ time
def isLc (k : Bk) (time v : Int) : Prop := (∃ c, okC k time c ∧ v = coS k c (kN k)) ∧ ∀ c, okC k time c → v ≤ coS k c (kN k)
theorem isLc_eq {k : Bk} {time v w : Int} (h : isLc k time v) (h' : isLc k time w) : v = w := by
  obtain ⟨⟨S, a, b⟩, c⟩ := h
  obtain ⟨⟨S', a', b'⟩, c'⟩ := h'
  have := c S' a'
  have := c' S a
  omega
noncomputable def vLc (k : Bk) (time : Int) : Int := Classical.epsilon (isLc k time)
theorem vLc_of {k : Bk} {time x : Int} (h : isLc k time x) : x = vLc k time := isLc_eq h (Classical.epsilon_spec (p := isLc k time) ⟨x, h⟩)
theorem coS_r {k : Bk} (ho : kOk k) {c : Nat → Int} (h : bx (kN k) (fun _ => 0) (kF k 8) c) : ∀ n, n ≤ kN k → 0 ≤ coS k c n ∧ coS k c n ≤ 495 * (n : Int) := by
  intro n
  induction n with
  | zero => exact fun _ => ⟨Int.le_refl _, by show (0 : Int) ≤ _; omega⟩
  | succ n ih =>
    intro hn
    have a := ih (by omega)
    have b : 0 ≤ c n ∧ c n ≤ kF k 8 n := h n (by omega)
    have d := ho.o8 n (by omega)
    have m := mul_b (a := c n) (b := kF k 9 n) (A := 5) (B := 99) (by omega) (by omega)
    show 0 ≤ coS k c n + c n * kF k 9 n ∧ coS k c n + c n * kF k 9 n ≤ _
    omega
theorem coS_congr {k : Bk} {c c' : Nat → Int} {n : Nat} (h : ∀ t, t < n → c t = c' t) : coS k c n = coS k c' n := zsum_eq fun t ht => by rw [h t ht]
theorem okC.congr {k : Bk} (ho : kOk k) {time : Int} {c c' : Nat → Int} (h : okC k time c) (e : ∀ t, t < kN k → c' t = c t) : okC k time c' := ⟨fun t ht => by rw [e t ht]; exact h.1 t ht, by
  rw [endF_congr ho (len' := cLn k c) fun t ht => by unfold cLn; rw [e t ht]]
  exact h.2⟩
noncomputable def o_leastEnd (σ : St) : Ou := (0, endF (sK σ) (cLn (sK σ) (kF (sK σ) 8)), σ)
noncomputable def o_leastCost (σ : St) (x : Int) : Ou := cIf (endF (sK σ) (cLn (sK σ) (kF (sK σ) 8)) ≤ x) (cIf (prF (fun t => kF (sK σ) 8 t + 1) (kN (sK σ)) ≤ 2000) (0, vLc (sK σ) x, σ) (2, 0, σ)) (1, 0, σ)
