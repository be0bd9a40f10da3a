/-! ===== what stays as it is ===== -/
def xI (lo : Nat) (Y W : Zm) : Prop := zSz Y ≤ zSz W ∧ ∀ a, lo ≤ a → a < zSz Y → zKd W a = zKd Y a ∧ zLn W a = zLn Y a ∧ zR W a = zR Y a ∧ zI W a = zI Y a
theorem xI.trans {lo : Nat} {Y W V : Zm} (h1 : xI lo Y W) (h2 : xI lo W V) : xI lo Y V := ⟨Nat.le_trans h1.1 h2.1, fun a ha hb => by
  obtain ⟨p1, p2, p3, p4⟩ := h1.2 a ha hb
  obtain ⟨q1, q2, q3, q4⟩ := h2.2 a ha (Nat.lt_of_lt_of_le hb h1.1)
  exact ⟨q1.trans p1, q2.trans p2, q3.trans p3, q4.trans p4⟩⟩
theorem xI.mono {lo lo' : Nat} {Y W : Zm} (h : xI lo Y W) (hl : lo ≤ lo') : xI lo' Y W := ⟨h.1, fun a ha hb => h.2 a (Nat.le_trans hl ha) hb⟩
theorem xI.lo {lo a hi : Nat} {Y W : Zm} (h : xI lo Y W) (h1 : lo ≤ a) (h2 : hi ≤ zSz Y) : zLo a hi Y W := ⟨h.1, fun c hc hd => by
  obtain ⟨p1, p2, p3, p4⟩ := h.2 c (by omega) (by omega)
  exact ⟨p1, p2, p3⟩⟩
theorem xI.i {lo a : Nat} {Y W : Zm} (h : xI lo Y W) (h1 : lo ≤ a) (h2 : a < zSz Y) : zI W a = zI Y a := (h.2 a h1 h2).2.2.2
theorem xI.A {lo a k n : Nat} {Y W : Zm} (h : xI lo Y W) (h1 : lo ≤ a) (ha : zA Y a k n) : zA W a k n := ha.loc (h.lo h1 (Nat.le_refl _)) (Nat.le_refl _) ha.1
theorem xI.C (Y : Zm) (k n x : Nat) : xI 0 Y (zC Y k n x) := ⟨Nat.le_succ _, fun a _ hb => zC_old Y k n x hb⟩
theorem xI.M (Y : Zm) (kO kI n m : Nat) : xI 0 Y (zM Y kO kI n m) := ⟨Nat.le_add_right _ _, fun a _ hb => zM_old Y kO kI n m hb⟩
theorem xI.put (Y : Zm) (b : Nat) (f : Nat → Option Nat) : xI (b + 1) Y (zSR Y b f) := ⟨Nat.le_refl _, fun a ha _ => ⟨rfl, rfl, zSR_other (by omega), rfl⟩⟩
theorem xI.sub {Y W : Zm} {ci N s c w : Nat} (h : ctE (zC Y ci 0 N) (zSz Y) s W c w) : xI 0 Y W := ⟨by rw [h.1]; omega, fun a _ hb => by
  obtain ⟨p1, p2, p3, p4⟩ := h.2.2.1.2 a hb
  obtain ⟨q1, q2, q3, q4⟩ := zC_old Y ci 0 N hb
  exact ⟨p1.trans q1, p2.trans q2, p3.trans q3, p4.trans q4⟩⟩
/-! ===== the history ===== -/
def hiS (Z : Zm) (b : Nat) (Y : Zm) (j : Nat) : Prop := ((zSz Y = b + 2 + 19 * j ∧ zSl Y ≤ zSl Z + 10 + 430 * j ∧ zKd Y b = 3) ∧ bdF Z b Y ∧ zz0 b Y) ∧ zR Y b 0 = some (b + 1) ∧ zA Y (b + 1) 122 10 ∧ ∀ i, i < j → zR Y (b + 1) i = some (b + 2 + 19 * i) ∧ atBook Y (b + 2 + 19 * i)
theorem hiS_v {a b c m q w x y : Nat} (h1 : a ≤ b + x + y) (h2 : b ≤ c + w + m) (h3 : q = m + (x + y)) : a ≤ c + w + q := by omega
theorem hiS_w {a b c j : Nat} (h1 : a ≤ b + 5 + 425) (h2 : b ≤ c + 10 + 430 * j) : a ≤ c + 10 + 430 * (j + 1) := hiS_v h1 h2 (Nat.mul_succ 430 j)
theorem hiS.step {Z Y W : Zm} {b j : Nat} (h : hiS Z b Y j) (e : ctE (zC Y 0 0 5) (zSz Y) (zSz Y) W 18 425) (hb : atBook W (zSz Y)) : hiS Z b (zSR W (b + 1) (zu (zR W (b + 1)) j (some (zSz Y)))) (j + 1) := by
  have x := xI.sub e
  have y := xI.put W (b + 1) (zu (zR W (b + 1)) j (some (zSz Y)))
  obtain ⟨⟨⟨h1, h2, h3⟩, h4, h5⟩, h6, h7, h8⟩ := h
  obtain ⟨e1, e2, e3, e4⟩ := e
  have e2 : zSl W ≤ zSl Y + 5 + 425 := e2
  obtain ⟨p1, p2, p3, p4⟩ := x.2 b (by omega) (by omega)
  have A1 : zSz W = b + 2 + 19 * (j + 1) := by omega
  have A2 : zSl W ≤ zSl Z + 10 + 430 * (j + 1) := hiS_w e2 h2
  refine ⟨⟨⟨A1, A2, p1.trans h3⟩, ⟨⟨p1.trans h4.1, fun a ha => ?_⟩, fun a ha i => ?_⟩⟩, ?_, ⟨?_, ?_, ?_⟩, fun i hi => ?_⟩
  · obtain ⟨q1, q2, q3, q4⟩ := x.2 a (by omega) (by omega)
    obtain ⟨r1, r2, r3, r4⟩ := h4.2 a ha
    exact ⟨q1.trans r1, q2.trans r2, (zSR_other (by omega)).trans (q3.trans r3), q4.trans r4⟩
  · show zI W a i = 0
    by_cases g : a < zSz Y
    · rw [x.i (by omega) g]
      exact h5 a ha i
    · exact e4 a (by omega) i
  · rw [zSR_other (by omega), p3]
    exact h6
  · show b + 1 < zSz W
    rw [e1]
    omega
  · show zKd W (b + 1) = 122
    rw [(x.2 (b + 1) (by omega) (by omega)).1]
    exact h7.2.1
  · show zLn W (b + 1) = 10
    rw [(x.2 (b + 1) (by omega) (by omega)).2.1]
    exact h7.2.2
  · rw [zSR_same]
    by_cases g : i = j
    · subst g
      rw [zu_same, show b + 2 + 19 * i = zSz Y by omega]
      exact ⟨rfl, hb.loc (y.lo (by omega) (by rw [e1]; omega))⟩
    · obtain ⟨g1, g2⟩ := h8 i (by omega)
      refine ⟨?_, (g2.loc (x.lo (by omega) (by omega) : zLo (b + 2 + 19 * i) (b + 2 + 19 * i + 19) Y W)).loc (y.lo (by omega) (by omega) : zLo (b + 2 + 19 * i) (b + 2 + 19 * i + 19) W _)⟩
      rw [zu_other g, (x.2 (b + 1) (by omega) (by omega)).2.2.1]
      exact g1
theorem s_ctHist {G : Gx} {Z : Zm} {b d : Nat} (hk : zO Z b 3) (hs : zSz Z = b + 1) (hz : zz0 b Z) (hb2 : b < 980000) (hd : 3 ≤ d) : ZM G d m_X3_init [.ref b] Z (fun r W => r = .inl none ∧ atHist W b ∧ ctE Z b b W 191 4310) := by
  have L : ∀ j, j ≤ 10 → ∀ Y, hiS Z b Y j → ZP G d m_X3_init 15 [some (.ref b), some (iv (j : Int))] [] Y (fun r W => r = .inl none ∧ atHist W b ∧ ctE Z b b W 191 4310) := by
    refine am_up fun j hj ih Y h => ?_
    refine z_iload_n (pc' := 16) (j := 1) (by decide +kernel) rfl rfl ?_
    refine z_bipush (pc' := 18) (n := 10) (by decide +kernel) (by decide) rfl ?_
    refine z_icmp_ge (pc' := 21) (tgt := 40) (off := 22) (by decide +kernel) (by decide) rfl ⟨by omega, by omega⟩ (by decide : R32 10) ?_
    by_cases g : (10 : Int) ≤ (j : Int)
    · rw [if_pos g]
      refine z_ret (by decide +kernel) rfl ?_
      obtain rfl : j = 10 := by omega
      have hz := h.1.1.1
      exact ⟨rfl, ⟨⟨by omega, h.1.1.2.2⟩, h.2.1, h.2.2.1, fun i hi => (h.2.2.2 i hi).1, fun i hi => (h.2.2.2 i hi).2⟩, by omega, by have := h.1.1.2.1; omega, h.1.2.1, h.1.2.2⟩
    · rw [if_neg g]
      have hj2 : j < 10 := by omega
      have hz := h.1.1.1
      refine z_aload_n (pc' := 22) (j := 0) (by decide +kernel) rfl rfl ?_
      refine z_getR (pc' := 25) (idx := 11) (ci := 3) (f := 0) (b := b + 1) (by decide +kernel) f_RX3_11 rfl (by omega) h.1.1.2.2 h.2.1 rfl ?_
      refine z_iload_n (pc' := 26) (j := 1) (by decide +kernel) rfl rfl ?_
      refine z_new (pc' := 29) (idx := 9) (ci := 0) (N := 5) (by decide +kernel) rfl (by decide) (amM1 95 rfl (by decide +kernel)) (amM1 42 rfl (by decide +kernel)) (amM1 2 rfl (by decide +kernel)) (by decide) (by omega) rfl ?_
      refine z_dup (pc' := 30) (by decide +kernel) rfl rfl ?_
      have n1 : zA (zC Y 0 0 5) (zSz Y) 0 0 := zA_C Y 0 0 5
      refine z_callI (pc' := 33) (idx := 17) (mj := m_X0_init) (av := []) (n := 0) (d' := d - 1) (by decide +kernel) rfl k_X0_init l_RX3_17 rfl (by omega) (am_le rfl) rfl (am_le rfl) n1.1 rfl (ZM.mono (s_ctBook ⟨n1.1, n1.2.1⟩ rfl (fun a ha i => ?_) (by omega) (by omega)) fun r W hw => ?_)
      · by_cases ga : a = zSz Y
        · subst ga
          show zu (zI Y) (zSz Y) (fun _ => 0) (zSz Y) i = 0
          rw [zu_same]
        · show zu (zI Y) (zSz Y) (fun _ => 0) a i = 0
          rw [zu_other ga]
          exact h.1.2.2 a (by omega) i
      · obtain ⟨rfl, w1, w2⟩ := hw
        have x := xI.sub w2
        show ZP G d m_X3_init 33 [some (.ref b), some (iv (j : Int))] [.ref (zSz Y), iv (j : Int), .ref (b + 1)] W _
        refine z_aastore122 (pc' := 34) (n := 10) (by decide +kernel) (x.A (by omega) h.2.2.1) ⟨by omega, by omega, by decide⟩ w1.o.1 w1.o.2 rfl ?_
        refine z_iinc (pc' := 37) (j := 1) (n := 1) (ls' := [some (.ref b), some (iv ((j + 1 : Nat) : Int))]) (by decide +kernel) rfl (by decide) rfl rfl ?_
        refine z_goto (tgt := 15) (off := -22) (by decide +kernel) (by decide) ?_
        exact ih hj2 _ (h.step w2 w1)
  refine ZM.of [some (.ref b), none] rfl ?_
  have h0 := ctS.init hs hk.2 hz (show b ≤ b + 1 by omega)
  refine z_aload_n (pc' := 1) (j := 0) (by decide +kernel) rfl rfl ?_
  refine z_objInit (pc' := 4) (idx := 3) (by decide +kernel) (amM1 94 rfl (by decide +kernel)) (amM1 39 rfl (by decide +kernel)) (amM1 40 rfl (by decide +kernel)) (by omega) (am_le rfl) rfl ?_
  refine z_aload_n (pc' := 5) (j := 0) (by decide +kernel) rfl rfl ?_
  refine z_bipush (pc' := 7) (n := 10) (by decide +kernel) (by decide) rfl ?_
  refine z_anew122 (pc' := 10) (idx := 9) (n := 10) (by decide +kernel) (amM1 95 rfl (by decide +kernel)) (by decide) (by decide) (by rw [h0.sz]; omega) rfl ?_
  rw [h0.sz, show ((10 : Int)).toNat = 10 from rfl]
  have h1 := h0.C 122 10 10
  obtain ⟨Y1, e1⟩ : ∃ Y1, Y1 = zC Z 122 10 10 := ⟨_, rfl⟩
  rw [← e1] at h1 ⊢
  change ZP G d m_X3_init 10 [some (.ref b), none] [.ref (b + 1), .ref b] Y1 _
  refine z_putR (pc' := 13) (idx := 11) (ci := 3) (f := 0) (b := b + 1) (by decide +kernel) f_RX3_11 (am_nfF rfl rfl ⟨rfl, rfl, (amM1 98 rfl (by decide +kernel))⟩) rfl h1.o h1.k rfl ?_
  have h2 := h1.put 0 (b + 1) (by simp)
  obtain ⟨Y2, e2⟩ : ∃ Y2, Y2 = zSR Y1 b (zu (zR Y1 b) 0 (some (b + 1))) := ⟨_, rfl⟩
  rw [← e2] at h2 ⊢
  refine z_iconst (pc' := 14) (n := 0) (by decide +kernel) rfl ?_
  refine z_istore_n (pc' := 15) (j := 1) (ls' := [some (.ref b), some (iv 0)]) (by decide +kernel) (by decide) rfl rfl ?_
  exact L 0 (Nat.zero_le _) Y2 ⟨⟨⟨by rw [h2.sz], by have := h2.e.2.1; omega, h2.k⟩, h2.bd, h2.e.2.2.2⟩, (h2.r (0, b + 1) (by simp)), (h2.a (1, 122, 10) (by simp)), fun i hi => absurd hi (Nat.not_lt_zero _)⟩
/-! ===== the clock ===== -/
def ckS (Z : Zm) (b : Nat) (Y : Zm) (j : Nat) : Prop := (zSz Y = b + 8 ∧ zSl Y ≤ zSl Z + 716) ∧ atClock Y b ∧ bdF Z b Y ∧ zz0 (b + 6) Y ∧ ∀ i h, i < j → h < 168 → zI Y (b + 2 + i) h = 1
theorem ckS.step {Z Y : Zm} {b j : Nat} (h : ckS Z b Y j) (hj : j < 4) : ckS Z b (zSI Y (b + 2 + j) (zfl (zI Y (b + 2 + j)) 168 1)) (j + 1) := by
  obtain ⟨h1, h2, h3, h4, h5⟩ := h
  refine ⟨h1, h2.loc ⟨Nat.le_refl _, fun a _ _ => ⟨rfl, rfl, rfl⟩⟩, ⟨h3.1, fun a ha => ?_⟩, fun a ha i => ?_, fun i t hi ht => ?_⟩
  · obtain ⟨r1, r2, r3, r4⟩ := h3.2 a ha
    exact ⟨r1, r2, r3, (zI_other (by omega)).trans r4⟩
  · rw [zI_other (by omega)]
    exact h4 a ha i
  · by_cases g : i = j
    · subst g
      rw [zI_same]
      exact if_pos ht
    · rw [zI_other (by omega)]
      exact h5 i t (by omega) ht
def ckE (Z : Zm) (b : Nat) (W : Zm) : Prop := atClock W b ∧ (zSz W = b + 8 ∧ zSl W ≤ zSl Z + 716) ∧ bdF Z b W ∧ zz0 (b + 6) W ∧ ∀ i h, i < 4 → h < 168 → zI W (b + 2 + i) h = 1
theorem s_ctClock {G : Gx} {Z : Zm} {b d : Nat} (hk : zO Z b 1) (hs : zSz Z = b + 1) (hz : zz0 b Z) (hb2 : b < 980000) (hd : 3 ≤ d) : ZM G d m_X1_init [.ref b] Z (fun r W => r = .inl none ∧ ckE Z b W) := by
  have L : ∀ j, j ≤ 4 → ∀ Y, ckS Z b Y j → ZP G d m_X1_init 34 [some (.ref b), some (iv (j : Int))] [] Y (fun r W => r = .inl none ∧ ckE Z b W) := by
    refine am_up fun j hj ih Y h => ?_
    refine z_iload_n (pc' := 35) (j := 1) (by decide +kernel) rfl rfl ?_
    refine z_iconst (pc' := 36) (n := 4) (by decide +kernel) rfl ?_
    refine z_icmp_ge (pc' := 39) (tgt := 55) (off := 19) (by decide +kernel) (by decide) rfl ⟨by omega, by omega⟩ (by decide : R32 4) ?_
    by_cases g : (4 : Int) ≤ (j : Int)
    · rw [if_pos g]
      refine z_ret (by decide +kernel) rfl ?_
      obtain rfl : j = 4 := by omega
      exact ⟨rfl, h.2.1, h.1, h.2.2.1, h.2.2.2.1, h.2.2.2.2⟩
    · rw [if_neg g]
      have hj2 : j < 4 := by omega
      have c := h.2.1
      refine z_aload_n (pc' := 40) (j := 0) (by decide +kernel) rfl rfl ?_
      refine z_getR (pc' := 43) (idx := 11) (ci := 1) (f := 0) (b := b + 1) (by decide +kernel) f_RX1_11 rfl c.o.1 c.o.2 c.r0 rfl ?_
      refine z_iload_n (pc' := 44) (j := 1) (by decide +kernel) rfl rfl ?_
      refine z_aaload120 (pc' := 45) (n := 4) (b := b + 2 + j) (by decide +kernel) c.a0 ⟨by omega, by omega, by decide⟩ (c.e0 j hj2) rfl ?_
      refine z_iconst (pc' := 46) (n := 1) (by decide +kernel) rfl ?_
      refine z_callS (pc' := 49) (idx := 23) (mj := m_J7_fill_53178) (av := [.ref (b + 2 + j), iv 1]) (d' := 0) (by decide +kernel) rfl k_J7_fill_53178 l_RX1_23 rfl (by omega) (am_le rfl) rfl (am_le rfl) rfl (ZM.mono (s_fill (c.x0 j hj2) (by decide)) fun r W hw => ?_)
      obtain ⟨rfl, rfl⟩ := hw
      show ZP G d m_X1_init 49 [some (.ref b), some (iv (j : Int))] [] _ _
      refine z_iinc (pc' := 52) (j := 1) (n := 1) (ls' := [some (.ref b), some (iv ((j + 1 : Nat) : Int))]) (by decide +kernel) rfl (by decide) rfl rfl ?_
      refine z_goto (tgt := 34) (off := -18) (by decide +kernel) (by decide) ?_
      exact ih hj2 _ (h.step hj2)
  refine ZM.of [some (.ref b), none] rfl ?_
  have h0 := ctS.init hs hk.2 hz (show b ≤ b + 1 by omega)
  refine z_aload_n (pc' := 1) (j := 0) (by decide +kernel) rfl rfl ?_
  refine z_objInit (pc' := 4) (idx := 3) (by decide +kernel) (amM1 210 rfl (by decide +kernel)) (amM1 39 rfl (by decide +kernel)) (amM1 40 rfl (by decide +kernel)) (by omega) (am_le rfl) rfl ?_
  refine z_aload_n (pc' := 5) (j := 0) (by decide +kernel) rfl rfl ?_
  refine z_iconst (pc' := 6) (n := 4) (by decide +kernel) rfl ?_
  refine z_sipush (pc' := 9) (n := 168) (by decide +kernel) (by decide) rfl ?_
  refine z_multi120 (pc' := 13) (idx := 9) (n := 4) (m := 168) (by decide +kernel) (amM1 211 rfl (by decide +kernel)) (amM1 88 rfl (by decide +kernel)) (by decide) (by decide) (by decide) (by decide) (by rw [h0.sz, show ((4 : Int)).toNat = 4 from rfl]; omega) rfl ?_
  rw [h0.sz, show ((4 : Int)).toNat = 4 from rfl, show ((168 : Int)).toNat = 168 from rfl]
  have h1 := h0.M 120 100 4 168
  obtain ⟨Y1, e1⟩ : ∃ Y1, Y1 = zM Z 120 100 4 168 := ⟨_, rfl⟩
  rw [← e1] at h1 ⊢
  change ZP G d m_X1_init 13 [some (.ref b), none] [.ref (b + 1), .ref b] Y1 _
  refine z_putR (pc' := 16) (idx := 11) (ci := 1) (f := 0) (b := b + 1) (by decide +kernel) f_RX1_11 (am_nfF rfl rfl ⟨rfl, rfl, (amM1 215 rfl (by decide +kernel))⟩) rfl h1.o h1.k rfl ?_
  have h2 := h1.put 0 (b + 1) (by simp)
  obtain ⟨Y2, e2⟩ : ∃ Y2, Y2 = zSR Y1 b (zu (zR Y1 b) 0 (some (b + 1))) := ⟨_, rfl⟩
  rw [← e2] at h2 ⊢
  refine z_aload_n (pc' := 17) (j := 0) (by decide +kernel) rfl rfl ?_
  refine z_bipush (pc' := 19) (n := 20) (by decide +kernel) (by decide) rfl ?_
  refine z_new100 (pc' := 21) (n := 20) (by decide +kernel) (amM1 88 rfl (by decide +kernel)) (by decide) (by decide) (by rw [h2.sz]; omega) rfl ?_
  rw [h2.sz, show ((20 : Int)).toNat = 20 from rfl]
  have h3 := h2.C 100 20 20
  obtain ⟨Y3, e3⟩ : ∃ Y3, Y3 = zC Y2 100 20 20 := ⟨_, rfl⟩
  rw [← e3] at h3 ⊢
  change ZP G d m_X1_init 21 [some (.ref b), none] [.ref (b + 6), .ref b] Y3 _
  refine z_putR (pc' := 24) (idx := 16) (ci := 1) (f := 1) (b := b + 6) (by decide +kernel) f_RX1_16 (am_nfF rfl rfl ⟨rfl, rfl, (amM1 217 rfl (by decide +kernel))⟩) rfl h3.o h3.k rfl ?_
  have h4 := h3.put 1 (b + 6) (by simp)
  obtain ⟨Y4, e4⟩ : ∃ Y4, Y4 = zSR Y3 b (zu (zR Y3 b) 1 (some (b + 6))) := ⟨_, rfl⟩
  rw [← e4] at h4 ⊢
  refine z_aload_n (pc' := 25) (j := 0) (by decide +kernel) rfl rfl ?_
  refine z_bipush (pc' := 27) (n := 20) (by decide +kernel) (by decide) rfl ?_
  refine z_new100 (pc' := 29) (n := 20) (by decide +kernel) (amM1 88 rfl (by decide +kernel)) (by decide) (by decide) (by rw [h4.sz]; omega) rfl ?_
  rw [h4.sz, show ((20 : Int)).toNat = 20 from rfl]
  have h5 := h4.C 100 20 20
  obtain ⟨Y5, e5⟩ : ∃ Y5, Y5 = zC Y4 100 20 20 := ⟨_, rfl⟩
  rw [← e5] at h5 ⊢
  change ZP G d m_X1_init 29 [some (.ref b), none] [.ref (b + 7), .ref b] Y5 _
  refine z_putR (pc' := 32) (idx := 20) (ci := 1) (f := 2) (b := b + 7) (by decide +kernel) f_RX1_20 (am_nfF rfl rfl ⟨rfl, rfl, (amM1 219 rfl (by decide +kernel))⟩) rfl h5.o h5.k rfl ?_
  have h6 := h5.put 2 (b + 7) (by simp)
  obtain ⟨Y6, e6⟩ : ∃ Y6, Y6 = zSR Y5 b (zu (zR Y5 b) 2 (some (b + 7))) := ⟨_, rfl⟩
  rw [← e6] at h6 ⊢
  refine z_iconst (pc' := 33) (n := 0) (by decide +kernel) rfl ?_
  refine z_istore_n (pc' := 34) (j := 1) (ls' := [some (.ref b), some (iv 0)]) (by decide +kernel) (by decide) rfl rfl ?_
  exact L 0 (Nat.zero_le _) Y6 ⟨⟨h6.sz, h6.e.2.1⟩, ⟨⟨h6.o, h6.k⟩, (h6.r (0, b + 1) (by simp)), (h6.a (1, 120, 4) (by simp)), (h6.d (1, 2, 4, 100, 168) (by simp)).2.1, (h6.d (1, 2, 4, 100, 168) (by simp)).2.2, (h6.r (1, b + 6) (by simp)), (h6.a (6, 100, 20) (by simp)), (h6.r (2, b + 7) (by simp)), (h6.a (7, 100, 20) (by simp))⟩, h6.bd, fun a ha i => h6.e.2.2.2 a (by omega) i, fun i h hi _ => absurd hi (Nat.not_lt_zero _)⟩
