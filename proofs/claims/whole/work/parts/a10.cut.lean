set_option maxRecDepth 20000 in
theorem e_X6_cutFrom {G : Gx} {Q : Rv → Zm → Prop} {Z : Zm} {e : Nat} {s : Nat} {b : Nat} {n : Nat} {x : Int} {y : Int} (hs : atMoney Z s b n) (hb : atBook Z b) (hn : atNet Z n) (he : 0 ≤ e) (h : ((R32 y) ∧ (R32 (zI Z s 6)) ∧ (if y < (zI Z s 6) then (ZM G 3 m_X6_endWith [.ref s, .ref (s + 1)] Z (zKc G (e + 4) m_X6_cutFrom 17 [some (.ref s), some (iv x), some (iv y), none, none, none, none, none] [] Q)) else (Q (.inl none) Z)))) : ZM G (e + 4) m_X6_cutFrom [.ref s, iv x, iv y] Z Q := ZM.of [some (.ref s), some (iv x), some (iv y), none, none, none, none, none] rfl <| z_iload_n (pc' := 1) (j := 2) (by decide +kernel) rfl rfl <| z_aload_n (pc' := 2) (j := 0) (by decide +kernel) rfl rfl <| z_getI (pc' := 5) (idx := 68) (ci := 6) (f := 6) (by decide +kernel) f_RX6_68 rfl hs.o.1 hs.o.2 rfl <| h.elim fun c1 h => h.elim fun c2 h => z_icmp_lt (pc' := 8) (tgt := 9) (off := 4) (by decide +kernel) (by decide) rfl c1 c2 (am_ite h (fun h => z_aload_n (pc' := 10) (j := 0) (by decide +kernel) rfl rfl <| z_aload_n (pc' := 11) (j := 0) (by decide +kernel) rfl rfl <| z_getR (pc' := 14) (idx := 9) (ci := 6) (f := 2) (by decide +kernel) f_RX6_9 rfl hs.o.1 hs.o.2 hs.r2 rfl <| z_callV (pc' := 17) (idx := 39) (mj := m_X6_endWith) (av := [.ref (s + 1)]) (d' := 3) (by decide +kernel) rfl k_X6_endWith l_RX6_39 rfl (by omega) (am_le rfl) rfl (am_le rfl) hs.o.1 hs.o.2 rfl h) (fun h => z_ret (by decide +kernel) rfl h))
set_option maxRecDepth 20000 in
theorem b_X6_cutFrom_17 {G : Gx} {Q : Rv → Zm → Prop} {Z : Zm} {e : Nat} {s : Nat} {b : Nat} {n : Nat} {x : Int} {y : Int} {s0 : Int} (hs : atMoney Z s b n) (hb : atBook Z b) (hn : atNet Z n) (he : 0 ≤ e) (h : ((R32 s0) ∧ (R32 (zI Z s 5)) ∧ (if (zI Z s 5) < s0 then (ZM G 3 m_X6_nextToCut [.ref s, iv x] Z (zKc G (e + 4) m_X6_cutFrom 35 [some (.ref s), none, some (iv y), none, none, none, none, none] [] Q)) else (∀ Z3, Z3 = zSI Z s (zu (zI Z s) 6 y) → Q (.inl none) Z3)))) : ZP G (e + 4) m_X6_cutFrom 17 [some (.ref s), some (iv x), some (iv y), none, none, none, none, none] [iv s0] Z Q := z_aload_n (pc' := 18) (j := 0) (by decide +kernel) rfl rfl <| z_getI (pc' := 21) (idx := 65) (ci := 6) (f := 5) (by decide +kernel) f_RX6_65 rfl hs.o.1 hs.o.2 rfl <| h.elim fun c1 h => h.elim fun c2 h => z_icmp_gt (pc' := 24) (tgt := 30) (off := 9) (by decide +kernel) (by decide) rfl c1 c2 (am_ite h (fun h => z_aload_n (pc' := 31) (j := 0) (by decide +kernel) rfl rfl <| z_iload_n (pc' := 32) (j := 1) (by decide +kernel) rfl rfl <| z_callV (pc' := 35) (idx := 75) (mj := m_X6_nextToCut) (av := [iv x]) (d' := 3) (by decide +kernel) rfl k_X6_nextToCut l_RX6_75 rfl (by omega) (am_le rfl) rfl (am_le rfl) hs.o.1 hs.o.2 rfl (ZM.mono h (zKc_wk (wk_some (wk_none (wk_some (wk_none (wk_none (wk_none (wk_none (wk_none wk_nil))))))))))) (fun h => z_aload_n (pc' := 25) (j := 0) (by decide +kernel) rfl rfl <| z_iload_n (pc' := 26) (j := 2) (by decide +kernel) rfl rfl <| z_putI (pc' := 29) (idx := 68) (ci := 6) (f := 6) (by decide +kernel) f_RX6_68 (am_nf rfl rfl) rfl rfl rfl hs.o.1 hs.o.2 rfl <| have h := h _ rfl; z_ret (by decide +kernel) rfl h))
set_option maxRecDepth 20000 in
theorem b_X6_cutFrom_35 {G : Gx} {Q : Rv → Zm → Prop} {Z : Zm} {e : Nat} {s : Nat} {b : Nat} {n : Nat} {y : Int} {s0 : Int} (hs : atMoney Z s b n) (hb : atBook Z b) (hn : atNet Z n) (he : 0 ≤ e) (h : ((R32 s0) ∧ (R32 (zI Z b 3)) ∧ (if (zI Z b 3) ≤ s0 then (Q (.inl none) Z) else (ZM G 3 m_X6_endWith [.ref s, .ref (s + 2)] Z (zKc G (e + 4) m_X6_cutFrom 55 [some (.ref s), none, some (iv y), some (iv s0), none, none, none, none] [] Q))))) : ZP G (e + 4) m_X6_cutFrom 35 [some (.ref s), none, some (iv y), none, none, none, none, none] [iv s0] Z Q := z_istore_n (pc' := 36) (j := 3) (ls' := [some (.ref s), none, some (iv y), some (iv s0), none, none, none, none]) (by decide +kernel) (by decide) rfl rfl <| z_iload_n (pc' := 37) (j := 3) (by decide +kernel) rfl rfl <| z_aload_n (pc' := 38) (j := 0) (by decide +kernel) rfl rfl <| z_getR (pc' := 41) (idx := 21) (ci := 6) (f := 0) (by decide +kernel) f_RX6_21 rfl hs.o.1 hs.o.2 hs.r0 rfl <| z_getI (pc' := 44) (idx := 29) (ci := 0) (f := 3) (by decide +kernel) f_RX6_29 rfl hb.o.1 hb.o.2 rfl <| h.elim fun c1 h => h.elim fun c2 h => z_icmp_ge (pc' := 47) (tgt := 62) (off := 18) (by decide +kernel) (by decide) rfl c1 c2 (am_ite h (fun h => z_ret (by decide +kernel) rfl h) (fun h => z_aload_n (pc' := 48) (j := 0) (by decide +kernel) rfl rfl <| z_aload_n (pc' := 49) (j := 0) (by decide +kernel) rfl rfl <| z_getR (pc' := 52) (idx := 15) (ci := 6) (f := 3) (by decide +kernel) f_RX6_15 rfl hs.o.1 hs.o.2 hs.r3 rfl <| z_callV (pc' := 55) (idx := 39) (mj := m_X6_endWith) (av := [.ref (s + 2)]) (d' := 3) (by decide +kernel) rfl k_X6_endWith l_RX6_39 rfl (by omega) (am_le rfl) rfl (am_le rfl) hs.o.1 hs.o.2 rfl h))
set_option maxRecDepth 20000 in
theorem b_X6_cutFrom_55 {G : Gx} {Q : Rv → Zm → Prop} {Z : Zm} {e : Nat} {s : Nat} {b : Nat} {n : Nat} {y : Int} {v3 : Int} {s0 : Int} (hs : atMoney Z s b n) (hb : atBook Z b) (hn : atNet Z n) (he : 0 ≤ e) (h : ((R32 s0) ∧ (R32 (zI Z s 5)) ∧ (if s0 ≤ (zI Z s 5) then ((zIx v3 20) ∧ ZP G (e + 4) m_X6_cutFrom 107 [some (.ref s), none, some (iv y), some (iv v3), some (iv (zI Z (b + 2) v3.toNat)), some (iv (zI Z (b + 10) v3.toNat)), some (iv (zI Z (b + 11) v3.toNat)), some (iv 0)] [] Z Q) else (Q (.inl none) Z)))) : ZP G (e + 4) m_X6_cutFrom 55 [some (.ref s), none, some (iv y), some (iv v3), none, none, none, none] [iv s0] Z Q := z_aload_n (pc' := 56) (j := 0) (by decide +kernel) rfl rfl <| z_getI (pc' := 59) (idx := 65) (ci := 6) (f := 5) (by decide +kernel) f_RX6_65 rfl hs.o.1 hs.o.2 rfl <| h.elim fun c1 h => h.elim fun c2 h => z_icmp_le (pc' := 62) (tgt := 63) (off := 4) (by decide +kernel) (by decide) rfl c1 c2 (am_ite h (fun h => z_aload_n (pc' := 64) (j := 0) (by decide +kernel) rfl rfl <| z_getR (pc' := 67) (idx := 21) (ci := 6) (f := 0) (by decide +kernel) f_RX6_21 rfl hs.o.1 hs.o.2 hs.r0 rfl <| z_getR (pc' := 70) (idx := 35) (ci := 0) (f := 0) (by decide +kernel) f_RX6_35 rfl hb.o.1 hb.o.2 hb.r0 rfl <| z_iconst (pc' := 71) (n := 0) (by decide +kernel) rfl <| z_aaload120 (pc' := 72) (by decide +kernel) hb.a0 ⟨by decide, by decide, by decide⟩ (hb.e0 0 (by decide)) rfl <| z_iload_n (pc' := 73) (j := 3) (by decide +kernel) rfl rfl <| h.elim fun c3 h => z_iaload (pc' := 74) (by decide +kernel) (hb.x0 0 (by decide)) c3 rfl <| z_istore (pc' := 76) (j := 4) (ls' := [some (.ref s), none, some (iv y), some (iv v3), some (iv (zI Z (b + 2) v3.toNat)), none, none, none]) (by decide +kernel) (by decide) rfl rfl <| z_aload_n (pc' := 77) (j := 0) (by decide +kernel) rfl rfl <| z_getR (pc' := 80) (idx := 21) (ci := 6) (f := 0) (by decide +kernel) f_RX6_21 rfl hs.o.1 hs.o.2 hs.r0 rfl <| z_getR (pc' := 83) (idx := 35) (ci := 0) (f := 0) (by decide +kernel) f_RX6_35 rfl hb.o.1 hb.o.2 hb.r0 rfl <| z_bipush (pc' := 85) (n := 8) (by decide +kernel) (by decide) rfl <| z_aaload120 (pc' := 86) (by decide +kernel) hb.a0 ⟨by decide, by decide, by decide⟩ (hb.e0 8 (by decide)) rfl <| z_iload_n (pc' := 87) (j := 3) (by decide +kernel) rfl rfl <| z_iaload (pc' := 88) (by decide +kernel) (hb.x0 8 (by decide)) c3 rfl <| z_istore (pc' := 90) (j := 5) (ls' := [some (.ref s), none, some (iv y), some (iv v3), some (iv (zI Z (b + 2) v3.toNat)), some (iv (zI Z (b + 10) v3.toNat)), none, none]) (by decide +kernel) (by decide) rfl rfl <| z_aload_n (pc' := 91) (j := 0) (by decide +kernel) rfl rfl <| z_getR (pc' := 94) (idx := 21) (ci := 6) (f := 0) (by decide +kernel) f_RX6_21 rfl hs.o.1 hs.o.2 hs.r0 rfl <| z_getR (pc' := 97) (idx := 35) (ci := 0) (f := 0) (by decide +kernel) f_RX6_35 rfl hb.o.1 hb.o.2 hb.r0 rfl <| z_bipush (pc' := 99) (n := 9) (by decide +kernel) (by decide) rfl <| z_aaload120 (pc' := 100) (by decide +kernel) hb.a0 ⟨by decide, by decide, by decide⟩ (hb.e0 9 (by decide)) rfl <| z_iload_n (pc' := 101) (j := 3) (by decide +kernel) rfl rfl <| z_iaload (pc' := 102) (by decide +kernel) (hb.x0 9 (by decide)) c3 rfl <| z_istore (pc' := 104) (j := 6) (ls' := [some (.ref s), none, some (iv y), some (iv v3), some (iv (zI Z (b + 2) v3.toNat)), some (iv (zI Z (b + 10) v3.toNat)), some (iv (zI Z (b + 11) v3.toNat)), none]) (by decide +kernel) (by decide) rfl rfl <| z_iconst (pc' := 105) (n := 0) (by decide +kernel) rfl <| z_istore (pc' := 107) (j := 7) (ls' := [some (.ref s), none, some (iv y), some (iv v3), some (iv (zI Z (b + 2) v3.toNat)), some (iv (zI Z (b + 10) v3.toNat)), some (iv (zI Z (b + 11) v3.toNat)), some (iv 0)]) (by decide +kernel) (by decide) rfl rfl <| h) (fun h => z_ret (by decide +kernel) rfl h))
set_option maxRecDepth 20000 in
theorem b_X6_cutFrom_107 {G : Gx} {Q : Rv → Zm → Prop} {Z : Zm} {e : Nat} {s : Nat} {b : Nat} {n : Nat} {y : Int} {v3 : Int} {v4 : Int} {v5 : Int} {v6 : Int} {v7 : Int} (hs : atMoney Z s b n) (hb : atBook Z b) (hn : atNet Z n) (he : 0 ≤ e) (h : ((R32 v7) ∧ (R32 v5) ∧ (if v5 < v7 then ((zIx v3 20) ∧ ∀ Z5, Z5 = zSI Z (s + 1) (zu (zI Z (s + 1)) v3.toNat v4) → Q (.inl none) Z5) else ((zIx v3 20) ∧ ∀ Z7, Z7 = zSI Z (s + 1) (zu (zI Z (s + 1)) v3.toNat (v4 - v7)) → ∀ Z8, Z8 = zSI Z7 (s + 2) (zu (zI Z7 (s + 2)) v3.toNat (v4 - v7)) → ZM G (e + 3) m_X6_cutFrom [.ref s, iv (v3 + 1), iv (y + (v7 * v6))] Z8 (zKc G (e + 4) m_X6_cutFrom 150 [some (.ref s), none, some (iv y), some (iv v3), some (iv v4), some (iv v5), some (iv v6), some (iv v7)] [] Q))))) : ZP G (e + 4) m_X6_cutFrom 107 [some (.ref s), none, some (iv y), some (iv v3), some (iv v4), some (iv v5), some (iv v6), some (iv v7)] [] Z Q := z_iload (pc' := 109) (j := 7) (by decide +kernel) rfl rfl <| z_iload (pc' := 111) (j := 5) (by decide +kernel) rfl rfl <| h.elim fun c1 h => h.elim fun c2 h => z_icmp_gt (pc' := 114) (tgt := 156) (off := 45) (by decide +kernel) (by decide) rfl c1 c2 (am_ite h (fun h => z_aload_n (pc' := 157) (j := 0) (by decide +kernel) rfl rfl <| z_getR (pc' := 160) (idx := 9) (ci := 6) (f := 2) (by decide +kernel) f_RX6_9 rfl hs.o.1 hs.o.2 hs.r2 rfl <| z_iload_n (pc' := 161) (j := 3) (by decide +kernel) rfl rfl <| z_iload (pc' := 163) (j := 4) (by decide +kernel) rfl rfl <| h.elim fun c4 h => z_iastore (pc' := 164) (by decide +kernel) hs.a2 c4 rfl <| have h := h _ rfl; z_ret (by decide +kernel) rfl h) (fun h => z_aload_n (pc' := 115) (j := 0) (by decide +kernel) rfl rfl <| z_getR (pc' := 118) (idx := 9) (ci := 6) (f := 2) (by decide +kernel) f_RX6_9 rfl hs.o.1 hs.o.2 hs.r2 rfl <| z_iload_n (pc' := 119) (j := 3) (by decide +kernel) rfl rfl <| z_iload (pc' := 121) (j := 4) (by decide +kernel) rfl rfl <| z_iload (pc' := 123) (j := 7) (by decide +kernel) rfl rfl <| z_isub (pc' := 124) (by decide +kernel) rfl <| h.elim fun c6 h => z_iastore (pc' := 125) (by decide +kernel) hs.a2 c6 rfl <| have h := h _ rfl; z_aload_n (pc' := 126) (j := 0) (by decide +kernel) rfl rfl <| z_getR (pc' := 129) (idx := 15) (ci := 6) (f := 3) (by decide +kernel) f_RX6_15 rfl hs.o.1 hs.o.2 hs.r3 rfl <| z_iload_n (pc' := 130) (j := 3) (by decide +kernel) rfl rfl <| z_iload (pc' := 132) (j := 4) (by decide +kernel) rfl rfl <| z_iload (pc' := 134) (j := 7) (by decide +kernel) rfl rfl <| z_isub (pc' := 135) (by decide +kernel) rfl <| z_iastore (pc' := 136) (by decide +kernel) hs.a3 c6 rfl <| have h := h _ rfl; z_aload_n (pc' := 137) (j := 0) (by decide +kernel) rfl rfl <| z_iload_n (pc' := 138) (j := 3) (by decide +kernel) rfl rfl <| z_iconst (pc' := 139) (n := 1) (by decide +kernel) rfl <| z_iadd (pc' := 140) (by decide +kernel) rfl <| z_iload_n (pc' := 141) (j := 2) (by decide +kernel) rfl rfl <| z_iload (pc' := 143) (j := 7) (by decide +kernel) rfl rfl <| z_iload (pc' := 145) (j := 6) (by decide +kernel) rfl rfl <| z_imul (pc' := 146) (by decide +kernel) rfl <| z_iadd (pc' := 147) (by decide +kernel) rfl <| z_callS (pc' := 150) (idx := 71) (mj := m_X6_cutFrom) (av := [.ref s, iv (v3 + 1), iv (y + (v7 * v6))]) (d' := e + 3) (by decide +kernel) rfl k_X6_cutFrom l_RX6_71 rfl (by omega) (am_le rfl) rfl (am_le rfl) rfl h))
set_option maxRecDepth 20000 in
theorem b_X6_cutFrom_150 {G : Gx} {Q : Rv → Zm → Prop} {Z : Zm} {e : Nat} {s : Nat} {b : Nat} {n : Nat} {y : Int} {v3 : Int} {v4 : Int} {v5 : Int} {v6 : Int} {v7 : Int} (hs : atMoney Z s b n) (hb : atBook Z b) (hn : atNet Z n) (he : 0 ≤ e) (h : (ZP G (e + 4) m_X6_cutFrom 107 [some (.ref s), none, some (iv y), some (iv v3), some (iv v4), some (iv v5), some (iv v6), some (iv (v7 + 1))] [] Z Q)) : ZP G (e + 4) m_X6_cutFrom 150 [some (.ref s), none, some (iv y), some (iv v3), some (iv v4), some (iv v5), some (iv v6), some (iv v7)] [] Z Q := z_iinc (pc' := 153) (j := 7) (n := 1) (x := v7) (ls' := [some (.ref s), none, some (iv y), some (iv v3), some (iv v4), some (iv v5), some (iv v6), some (iv (v7 + 1))]) (by decide +kernel) rfl (by decide) rfl rfl <| z_goto (tgt := 107) (off := -46) (by decide +kernel) (by decide) <| h
/-! ===== the class' money: what is cut so far, and what the others have ===== -/
def mx (t : Nat) (c x : Nat → Int) (u : Nat) : Int := if u < t then c u else x u
theorem mx_p {t : Nat} {c x : Nat → Int} {u : Nat} (h : u < t) : mx t c x u = c u := if_pos h
theorem mx_n {t : Nat} {c x : Nat → Int} {u : Nat} (h : ¬ u < t) : mx t c x u = x u := if_neg h
def zz : Nat → Int := fun _ => 0
theorem coS_up {k : Bk} (ho : kOk k) {c : Nat → Int} {t : Nat} (h : bx (kN k) (fun _ => 0) (kF k 8) c) : ∀ m, t + m ≤ kN k → coS k c t ≤ coS k c (t + m) := by
  intro m
  induction m with
  | zero => exact fun _ => Int.le_refl _
  | succ m ih =>
    intro hm
    have a := ih (by omega)
    have b : 0 ≤ c (t + m) ∧ c (t + m) ≤ kF k 8 (t + m) := h (t + m) (by omega)
    have d := ho.o8 (t + m) (by omega)
    have := Int.mul_nonneg b.1 d.2.2.2.1
    show coS k c t ≤ coS k c (t + m) + c (t + m) * kF k 9 (t + m)
    omega
theorem coS_ext {k : Bk} (ho : kOk k) {time : Int} {c q : Nat → Int} {t : Nat} (ht : t ≤ kN k) (hq : okC k time q) (he : ∀ u, u < t → q u = c u) : coS k c t ≤ coS k q (kN k) := by
  have := coS_up ho (t := t) hq.1 (kN k - t) (by omega)
  rw [show t + (kN k - t) = kN k by omega] at this
  rw [← coS_congr he]
  exact this
theorem coS_mx {k : Bk} {t : Nat} (c : Nat → Int) : ∀ i, coS k (mx t c zz) (t + i) = coS k c t := by
  intro i
  induction i with
  | zero => exact coS_congr fun u hu => mx_p hu
  | succ i ih =>
    show coS k (mx t c zz) (t + i) + mx t c zz (t + i) * kF k 9 (t + i) = _
    rw [mx_n (by omega), ih]
    show _ + 0 * _ = _
    rw [Int.zero_mul, Int.add_zero]
/-- the lengths that are left -/
theorem mx_len {k : Bk} (ho : kOk k) {t : Nat} {c x : Nat → Int} (h : ∀ u, u < t → 0 ≤ c u ∧ c u ≤ kF k 8 u) (hx : ∀ u, u < kN k → 0 ≤ x u ∧ x u ≤ kF k 8 u) {u : Nat} (hu : u < kN k) : 1 ≤ cLn k (mx t c x) u ∧ cLn k (mx t c x) u ≤ 60 := by
  have o8 := ho.o8 u hu
  have l := ho.len hu
  have a := hx u hu
  show 1 ≤ kF k 0 u - mx t c x u ∧ kF k 0 u - mx t c x u ≤ 60
  by_cases g : u < t
  · have := h u g
    rw [mx_p g]
    omega
  · rw [mx_n g]
    omega
theorem mx_bx {k : Bk} {t : Nat} {c x : Nat → Int} (h : ∀ u, u < t → 0 ≤ c u ∧ c u ≤ kF k 8 u) (hx : ∀ u, u < kN k → 0 ≤ x u ∧ x u ≤ kF k 8 u) : bx (kN k) (fun _ => 0) (kF k 8) (mx t c x) := fun u hu => by
  by_cases g : u < t
  · rw [mx_p g]
    exact h u g
  · rw [mx_n g]
    exact hx u hu
theorem zz_r {k : Bk} (ho : kOk k) : ∀ u, u < kN k → 0 ≤ zz u ∧ zz u ≤ kF k 8 u := fun u hu => ⟨Int.le_refl _, (ho.o8 u hu).1⟩
theorem f8_r {k : Bk} (ho : kOk k) : ∀ u, u < kN k → 0 ≤ kF k 8 u ∧ kF k 8 u ≤ kF k 8 u := fun u hu => ⟨(ho.o8 u hu).1, Int.le_refl _⟩
/-- with nothing more to cut, the lengths are told -/
theorem okC_none {k : Bk} (ho : kOk k) {time : Int} {c q : Nat → Int} {t : Nat} (hz : ∀ s, t ≤ s → s < kN k → kF k 8 s ≤ 0) (hq : okC k time q) (he : ∀ u, u < t → q u = c u) : endF k (cLn k (mx t c zz)) ≤ time := by
  have e : endF k (cLn k (mx t c zz)) = endF k (cLn k q) := endF_congr ho fun u hu => by
    show kF k 0 u - mx t c zz u = kF k 0 u - q u
    by_cases g : u < t
    · rw [mx_p g, he u g]
    · rw [mx_n g]
      have b1 : 0 ≤ q u ∧ q u ≤ kF k 8 u := hq.1 u hu
      have b2 := hz u (by omega) hu
      show kF k 0 u - 0 = _
      omega
  rw [e]
  exact hq.2
theorem okC_least {k : Bk} (ho : kOk k) {time : Int} {c q : Nat → Int} {t : Nat} (hq : okC k time q) (he : ∀ u, u < t → q u = c u) : endF k (cLn k (mx t c (kF k 8))) ≤ time := by
  have e := endF_mono ho (len := cLn k (mx t c (kF k 8))) (len' := cLn k q) fun u hu => by
    show kF k 0 u - mx t c (kF k 8) u ≤ kF k 0 u - q u
    by_cases g : u < t
    · rw [mx_p g, he u g]
      exact Int.le_refl _
    · rw [mx_n g]
      have b1 : 0 ≤ q u ∧ q u ≤ kF k 8 u := hq.1 u hu
      omega
  exact Int.le_trans e hq.2
/-- the next cut -/
def nxC (t s : Nat) (c : Nat → Int) (j : Int) (u : Nat) : Int := if u = s then j else mx t c zz u
theorem nxC_s (t s : Nat) (c : Nat → Int) (j : Int) : nxC t s c j s = j := if_pos rfl
theorem nxC_o {t s : Nat} {c : Nat → Int} {j : Int} {u : Nat} (h : u ≠ s) : nxC t s c j u = mx t c zz u := if_neg h
theorem nxC_cost {k : Bk} {t s : Nat} {c : Nat → Int} {j : Int} (h : t ≤ s) : coS k (nxC t s c j) (s + 1) = coS k c t + j * kF k 9 s := by
  have a := coS_mx (k := k) (t := t) c (s - t)
  rw [show t + (s - t) = s by omega] at a
  show coS k (nxC t s c j) s + nxC t s c j s * kF k 9 s = _
  rw [nxC_s, ← a]
  rw [coS_congr (c := nxC t s c j) (c' := mx t c zz) fun u hu => nxC_o (by omega)]
theorem nxC_r {k : Bk} (ho : kOk k) {t s : Nat} {c : Nat → Int} {j : Int} (hs : s < kN k) (h : ∀ u, u < t → 0 ≤ c u ∧ c u ≤ kF k 8 u) (hj : 0 ≤ j ∧ j ≤ kF k 8 s) : ∀ u, u < s + 1 → 0 ≤ nxC t s c j u ∧ nxC t s c j u ≤ kF k 8 u := fun u hu => by
  by_cases e : u = s
  · rw [e, nxC_s]
    exact hj
  · rw [nxC_o e]
    exact mx_bx h (zz_r ho) u (by omega)
def mRes (Z : Zm) (k : Bk) (time : Int) (c0 : Nat → Int) (t : Nat) (a b d : Nat → Int) : Rv → Zm → Prop := fun r W => r = .inl none ∧ ∃ a' b' c' d', W = mW4 Z a' b' c' d' ∧ (∀ u, u < kN k → a' u = a u ∧ b' u = b u) ∧ (∀ i, i ≠ 6 → d' i = d i) ∧ (0 ≤ d' 6 ∧ d' 6 ≤ d 6) ∧ (d' 6 = d 6 ∨ ∃ c, okC k time c ∧ d' 6 = coS k c (kN k)) ∧ ∀ c, okC k time c → (∀ u, u < t → c u = c0 u) → d' 6 ≤ coS k c (kN k)
theorem s_cutFrom {G : Gx} {Z : Zm} {k : Bk} {o pos : Nat → Nat} {time : Int} (h : mnC Z k o pos) (htime : R32 time) : ∀ m t, t ≤ kN k → kN k ≤ t + m → ∀ c0 a b c d, (∀ u, u < t → 0 ≤ c0 u ∧ c0 u ≤ kF k 8 u) → (∀ u, u < kN k → a u = cLn k (mx t c0 zz) u ∧ b u = cLn k (mx t c0 (kF k 8)) u) → d 5 = time → (0 ≤ d 6 ∧ d 6 ≤ 100000) → (0 ≤ coS k c0 t ∧ coS k c0 t ≤ 495 * (t : Int)) → ZM G (m + 4) m_X6_cutFrom [.ref 281, iv (t : Int), iv (coS k c0 t)] (mW4 Z a b c d) (mRes Z k time c0 t a b d) := by
  have ho : kOk k := h.2.2.2.2.1
  have hN := ho.n
  -- up to the cuts of the next task
  suffices top : ∀ m t, t ≤ kN k → ∀ c0 a b c d, (∀ u, u < t → 0 ≤ c0 u ∧ c0 u ≤ kF k 8 u) → (∀ u, u < kN k → a u = cLn k (mx t c0 zz) u ∧ b u = cLn k (mx t c0 (kF k 8)) u) → d 5 = time → (0 ≤ d 6 ∧ d 6 ≤ 100000) → (0 ≤ coS k c0 t ∧ coS k c0 t ≤ 495 * (t : Int)) → (∀ s f, t ≤ s → s < kN k → (∀ r, t ≤ r → r < s → kF k 8 r ≤ 0) → ZP G (m + 4) m_X6_cutFrom 107 [some (.ref 281), none, some (iv (coS k c0 t)), some (iv (s : Int)), some (iv (kF k 0 s)), some (iv (kF k 8 s)), some (iv (kF k 9 s)), some (iv 0)] [] (mW4 Z a b f d) (mRes Z k time c0 t a b d)) → ZM G (m + 4) m_X6_cutFrom [.ref 281, iv (t : Int), iv (coS k c0 t)] (mW4 Z a b c d) (mRes Z k time c0 t a b d) by
    intro m
    induction m with
    | zero =>
      intro t ht hm c0 a b c d h0 hab h5 h6 hc
      exact top 0 t ht c0 a b c d h0 hab h5 h6 hc fun s f h1 h2 _ => by omega
    | succ m ih =>
      intro t ht hm c0 a b c d h0 hab h5 h6 hc
      refine top (m + 1) t ht c0 a b c d h0 hab h5 h6 hc fun s f s1 s2 hz => ?_
      have o8 := ho.o8 s s2
      have lens := ho.len s2
      obtain ⟨M, hM⟩ : ∃ M : Nat, kF k 8 s = (M : Int) := ⟨(kF k 8 s).toNat, by omega⟩
      have as' : a s = kF k 0 s := by
        rw [(hab s s2).1]
        show kF k 0 s - mx t c0 zz s = _
        rw [mx_n (by omega)]
        exact Int.sub_zero _
      have bs : b s = kF k 0 s - kF k 8 s := by
        rw [(hab s s2).2]
        show kF k 0 s - mx t c0 (kF k 8) s = _
        rw [mx_n (by omega)]
      have so : ∀ u, u < kN k → u ≠ s → ∀ j, cLn k (mx (s + 1) (nxC t s c0 j) zz) u = a u ∧ cLn k (mx (s + 1) (nxC t s c0 j) (kF k 8)) u = b u := fun u hu ne j => by
        rw [(hab u hu).1, (hab u hu).2]
        show kF k 0 u - mx (s + 1) (nxC t s c0 j) zz u = kF k 0 u - mx t c0 zz u ∧ kF k 0 u - mx (s + 1) (nxC t s c0 j) (kF k 8) u = kF k 0 u - mx t c0 (kF k 8) u
        by_cases g : u < s + 1
        · rw [mx_p g, mx_p g, nxC_o ne]
          by_cases g2 : u < t
          · rw [mx_p g2, mx_p g2]
            exact ⟨rfl, rfl⟩
          · rw [mx_n g2, mx_n g2]
            have a1 := hz u (by omega) (by omega)
            have a2 := ho.o8 u hu
            have e : zz u = 0 := rfl
            omega
        · rw [mx_n g, mx_n g, mx_n (by omega), mx_n (by omega)]
          exact ⟨rfl, rfl⟩
      suffices loop : ∀ j, j ≤ M + 1 → ∀ a' b' f d', (∀ u, u < kN k → u ≠ s → a' u = a u ∧ b' u = b u) → (j = 0 → b' s = b s) → (0 < j → b' s = kF k 0 s - ((j : Int) - 1)) → (∀ i, i ≠ 6 → d' i = d i) → (0 ≤ d' 6 ∧ d' 6 ≤ d 6) → (d' 6 = d 6 ∨ ∃ q, okC k time q ∧ d' 6 = coS k q (kN k)) → (∀ q, okC k time q → (∀ u, u < t → q u = c0 u) → q s < (j : Int) → d' 6 ≤ coS k q (kN k)) → ZP G (m + 1 + 4) m_X6_cutFrom 107 [some (.ref 281), none, some (iv (coS k c0 t)), some (iv (s : Int)), some (iv (kF k 0 s)), some (iv (kF k 8 s)), some (iv (kF k 9 s)), some (iv (j : Int))] [] (mW4 Z a' b' f d') (mRes Z k time c0 t a b d) from loop 0 (Nat.zero_le _) a b f d (fun _ _ _ => ⟨rfl, rfl⟩) (fun _ => rfl) (fun q => absurd q (Nat.lt_irrefl _)) (fun _ _ => rfl) ⟨h6.1, Int.le_refl _⟩ (Or.inl rfl) fun q hq _ q2 => by
        have b1 : 0 ≤ q s ∧ q s ≤ kF k 8 s := hq.1 s s2
        omega
      refine am_up (n := M + 1) fun j hj ihj a' b' f d' hab' hb0 hb1 hd' d6 at6 sn => ?_
      have hw4 := h.w (a := a') (b := b') (c := f) (d := d')
      refine b_X6_cutFrom_107 hw4.1 hw4.2.1 hw4.2.2.1 (Nat.zero_le _) ⟨by omega, by omega, ?_⟩
      by_cases cj : j < M + 1
      case neg =>
        rw [if_pos (by omega)]
        refine ⟨zIx_nat (by omega) (by omega), ?_⟩
        intro Z5 z5
        rw [Int.toNat_natCast, show 281 + 1 = 282 from rfl, mW4_1, mW4_i1] at z5
        refine ⟨rfl, _, b', f, d', z5, fun u hu => ?_, hd', d6, at6, fun q hq he => sn q hq he ?_⟩
        · by_cases e : u = s
          · rw [e, zu_same, as', hb1 (by omega), bs]
            exact ⟨rfl, by omega⟩
          · rw [zu_other e]
            exact hab' u hu e
        · have b1 : 0 ≤ q s ∧ q s ≤ kF k 8 s := hq.1 s s2
          omega
      rw [if_neg (by omega)]
      refine ⟨zIx_nat (by omega) (by omega), ?_⟩
      intro Z7 z7 Z8 z8
      rw [Int.toNat_natCast, show 281 + 1 = 282 from rfl, mW4_1, mW4_i1] at z7
      rw [z7, Int.toNat_natCast, show 281 + 2 = 283 from rfl, mW4_2, mW4_i2] at z8
      have mj := mul_b (a := (j : Int)) (b := kF k 9 s) (A := 5) (B := 99) (by omega) (by omega)
      have cost := nxC_cost (k := k) (t := t) (s := s) (c := c0) (j := (j : Int)) s1
      have rc := ih (s + 1) (by omega) (by omega) (nxC t s c0 (j : Int)) (zu a' s (kF k 0 s - (j : Int))) (zu b' s (kF k 0 s - (j : Int))) f d' (nxC_r ho s2 h0 (by omega)) (fun u hu => ?_) ((hd' 5 (by decide)).trans h5) (by omega) (by rw [cost]; omega)
      · rw [z8, show m + 1 + 3 = m + 4 by omega, show (s : Int) + 1 = ((s + 1 : Nat) : Int) by omega, ← cost]
        refine rc.mono ?_
        rintro r V ⟨rfl, a2, b2', f2, d2, rfl, q1, q2, q3, q4, q5⟩
        have hw5 := h.w (a := a2) (b := b2') (c := f2) (d := d2)
        refine b_X6_cutFrom_150 hw5.1 hw5.2.1 hw5.2.2.1 (Nat.zero_le _) ?_
        refine ihj cj a2 b2' f2 d2 (fun u hu e => ?_) (fun q => absurd q (Nat.succ_ne_zero j)) (fun _ => ?_) (fun i hi => (q2 i hi).trans (hd' i hi)) (by omega) ?_ fun q hq he qs => ?_
        · obtain ⟨p1, p2⟩ := q1 u hu
          rw [p1, p2, zu_other e, zu_other e]
          exact hab' u hu e
        · rw [(q1 s s2).2, zu_same]
          omega
        · rcases q4 with g | g
          · rw [g]
            exact at6
          · exact Or.inr g
        · by_cases e : q s = (j : Int)
          · refine q5 q hq fun u hu => ?_
            by_cases g : u = s
            · rw [g, nxC_s]
              exact e
            · rw [nxC_o g]
              by_cases g2 : u < t
              · rw [mx_p g2]
                exact he u g2
              · rw [mx_n g2]
                have b1 : 0 ≤ q u ∧ q u ≤ kF k 8 u := hq.1 u (by omega)
                have b3 := hz u (by omega) (by omega)
                show q u = 0
                omega
          · have := sn q hq he (by omega)
            omega
      · by_cases e : u = s
        · rw [e, zu_same, zu_same]
          show kF k 0 s - (j : Int) = kF k 0 s - mx (s + 1) (nxC t s c0 (j : Int)) zz s ∧ kF k 0 s - (j : Int) = kF k 0 s - mx (s + 1) (nxC t s c0 (j : Int)) (kF k 8) s
          rw [mx_p (Nat.lt_succ_self s), mx_p (Nat.lt_succ_self s), nxC_s]
          exact ⟨rfl, rfl⟩
        · rw [zu_other e, zu_other e, (so u hu e (j : Int)).1, (so u hu e (j : Int)).2]
          exact hab' u hu e
  intro m t ht c0 a b c d h0 hab h5 h6 hc go
  have hw := h.w (a := a) (b := b) (c := c) (d := d)
  have done : ∀ f, (∀ q, okC k time q → (∀ u, u < t → q u = c0 u) → d 6 ≤ coS k q (kN k)) → mRes Z k time c0 t a b d (.inl none) (mW4 Z a b f d) := fun f q => ⟨rfl, a, b, f, d, rfl, fun u hu => ⟨rfl, rfl⟩, fun _ _ => rfl, ⟨h6.1, Int.le_refl _⟩, Or.inl rfl, q⟩
  have aR : ∀ u, u < kN k → 1 ≤ cLn k (mx t c0 zz) u ∧ cLn k (mx t c0 zz) u ≤ 60 := fun u hu => mx_len ho h0 (zz_r ho) hu
  have bR : ∀ u, u < kN k → 1 ≤ cLn k (mx t c0 (kF k 8)) u ∧ cLn k (mx t c0 (kF k 8)) u ≤ 60 := fun u hu => mx_len ho h0 (f8_r ho) hu
  have erA := endF_r ho aR
  have erB := endF_r ho bR
  refine e_X6_cutFrom hw.1 hw.2.1 hw.2.2.1 (Nat.zero_le _) ?_
  rw [mW4_i0]
  refine ⟨by omega, by omega, ?_⟩
  by_cases c1 : coS k c0 t < d 6
  case neg =>
    rw [if_neg c1]
    exact done c fun q hq he => by have := coS_ext ho ht hq he; omega
  rw [if_pos c1]
  have ew := s_endWith (G := G) (u := 282) (len := cLn k (mx t c0 zz)) hw hw.1.a2 (by decide) fun u hu => by
    rw [mW4_i1]
    exact ⟨(hab u hu).1, aR u hu⟩
  refine (ew.deeper (by omega)).mono ?_
  rintro r W ⟨rfl, f, rfl⟩
  rw [mW4_3]
  have hw2 := h.w (a := a) (b := b) (c := f) (d := d)
  refine b_X6_cutFrom_17 hw2.1 hw2.2.1 hw2.2.2.1 (Nat.zero_le _) ?_
  rw [mW4_i0, h5]
  refine ⟨by omega, htime, ?_⟩
  by_cases c2 : time < endF k (cLn k (mx t c0 zz))
  case neg =>
    rw [if_neg c2]
    intro Z3 z3
    rw [mW4_0] at z3
    refine ⟨rfl, a, b, f, _, z3, fun u hu => ⟨rfl, rfl⟩, fun i hi => zu_other hi, ?_, ?_, ?_⟩
    · rw [zu_same]
      omega
    · rw [zu_same]
      refine Or.inr ⟨mx t c0 zz, ⟨mx_bx h0 (zz_r ho), Int.not_lt.mp c2⟩, ?_⟩
      have := coS_mx (k := k) (t := t) c0 (kN k - t)
      rw [show t + (kN k - t) = kN k by omega] at this
      exact this.symm
    · rw [zu_same]
      exact fun q hq he => coS_ext ho ht hq he
  rw [if_pos c2]
  refine ((s_nextToCut hw2 (t := t) ht).deeper (by omega)).mono ?_
  rintro r W ⟨⟨x, rfl, hx⟩, hW⟩
  obtain rfl := hW.symm
  have e3 : zI (mW4 Z a b f d) 1 3 = (kN k : Int) := hw2.2.2.2.2.2.2.2.1
  refine b_X6_cutFrom_35 hw2.1 hw2.2.1 hw2.2.2.1 (Nat.zero_le _) ?_
  rw [e3]
  rcases hx with ⟨rfl, hz⟩ | ⟨s, s1, s2, rfl, s4, s5⟩
  · refine ⟨by omega, by omega, ?_⟩
    rw [if_pos (by omega)]
    exact done f fun q hq he => by
      have := okC_none ho hz hq he
      omega
  refine ⟨by omega, by omega, ?_⟩
  rw [if_neg (by omega)]
  have ew2 := s_endWith (G := G) (u := 283) (len := cLn k (mx t c0 (kF k 8))) hw2 hw2.1.a3 (by decide) fun u hu => by
    rw [mW4_i2]
    exact ⟨(hab u hu).2, bR u hu⟩
  refine (ew2.deeper (by omega)).mono ?_
  rintro r W ⟨rfl, f2, rfl⟩
  rw [mW4_3]
  have hw3 := h.w (a := a) (b := b) (c := f2) (d := d)
  obtain ⟨g0, g8, g9⟩ := hw3.2.2.2.2.2.2.2.2 s s2
  refine b_X6_cutFrom_55 hw3.1 hw3.2.1 hw3.2.2.1 (Nat.zero_le _) ?_
  rw [mW4_i0, h5, Int.toNat_natCast, show zI (mW4 Z a b f2 d) (1 + 2) s = kF k 0 s from g0, show zI (mW4 Z a b f2 d) (1 + 10) s = kF k 8 s from g8, show zI (mW4 Z a b f2 d) (1 + 11) s = kF k 9 s from g9]
  refine ⟨by omega, htime, ?_⟩
  by_cases c3 : endF k (cLn k (mx t c0 (kF k 8))) ≤ time
  · rw [if_pos c3]
    exact ⟨zIx_nat (by omega) (by omega), go s f2 s1 s2 s5⟩
  · rw [if_neg c3]
    exact done f2 fun q hq he => absurd (okC_least ho hq he) c3
