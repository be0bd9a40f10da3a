/-! ===== the law's round ===== -/
def lwI (n : Nat) (Z : Zm) (σ : St) : Prop := (IC Z σ ∧ IM Z σ ∧ okS σ) ∧ (zA Z 320 110 1 ∧ zA Z 321 111 1) ∧ 322 ≤ zSz Z ∧ zSz Z ≤ 322 + 251 * n ∧ zSl Z ≤ 20000 + 6006 * n
def lwK (G : Gx) (p : Nat) : Prop := ∀ k : Int, 0 ≤ k → k < 5 → zIx ((p : Int) + k) G.2.2.2.2.2.1
theorem zScr_r (G : Gx) (i : Nat) : R32 (zScr G i) := R32_of _
theorem lw_w {a b c k m q u v w : Nat} (h1 : a ≤ b + u) (h2 : b ≤ c + v) (h3 : c ≤ k + m) (h4 : q = m + w) (h5 : v + u = w) : a ≤ k + q := by omega
section
variable {n : Nat} {Z W V : Zm} {σ : St} {o : Ou}
theorem lwI.ic (H : lwI n Z σ) : IC Z σ := H.1.1
theorem lwI.ok (H : lwI n Z σ) : okS σ := H.1.2.2
theorem lwI.oL (H : lwI n Z σ) : zA Z 320 110 1 := H.2.1.1
theorem lwI.oD (H : lwI n Z σ) : zA Z 321 111 1 := H.2.1.2
theorem lwI.hz (H : lwI n Z σ) (hn : n < 512) : zSz Z < 990000 := by
  have := H.2.2.2.1
  omega
theorem lwI.im1 (H : lwI n Z σ) (fr : zF wS 1 6 Z W) : ∃ B, IMb W B σ := by
  obtain ⟨B, h⟩ := H.1.2.1
  refine ⟨B, h.fr fr (fun a g => ?_) fun i _ => ?_⟩
  · have g : a < 300 ∨ a = 320 ∨ a = 321 := g
    omega
  · rw [fr.i (by have := H.2.2.1; omega) (fun g => by
      have g : (300 : Nat) < 300 ∨ (300 : Nat) = 320 ∨ (300 : Nat) = 321 := g
      omega)]
theorem lwI.hw (H : lwI n Z σ) (hn : n < 512) (fr : zF wS 1 6 Z W) : 322 ≤ zSz W ∧ zSz W < 990000 := by
  have h1 := H.2.2.1
  have h2 := H.2.2.2.1
  have h3 := fr.1.1
  have h4 := fr.2.1.1
  omega
theorem lwI.nx (H : lwI n Z σ) (hn : n < 512) (hI : IC W o.2.2) (fr : zF wS 1 6 Z W) (ok : okS o.2.2) (hM : IM V o.2.2) (v : zV 250 6000 W V) : lwI (n + 1) V o.2.2 ∧ zL V 320 = zL W 320 ∧ zD V 321 = zD W 321 := by
  have a1 := H.oL.ext fr.1
  have a2 := H.oD.ext fr.1
  have h1 := H.2.2.1
  have h2 := H.2.2.2.1
  have h3 := H.2.2.2.2
  have f1 := fr.1.1
  have f2 := fr.2.1.1
  have f3 := fr.2.1.2.2
  have v1 := v.1.1
  have v2 := v.1.2.1
  have v3 := v.1.2.2.2
  obtain ⟨⟨k1, k2, -⟩, -, k3, -⟩ := v.2 320 (by omega)
  obtain ⟨⟨j1, j2, -⟩, -, -, j3⟩ := v.2 321 (by omega)
  exact ⟨⟨⟨hI.v v, hM, ok⟩, ⟨⟨Nat.lt_of_lt_of_le a1.1 v1, k1.trans a1.2.1, k2.trans a1.2.2⟩, Nat.lt_of_lt_of_le a2.1 v1, j1.trans a2.2.1, j2.trans a2.2.2⟩, Nat.le_trans h1 (Nat.le_trans f1 v1), lw_w v2 f2 h2 (Nat.mul_succ 251 n) rfl, lw_w v3 f3 h3 (Nat.mul_succ 6006 n) rfl⟩, k3, j3⟩
end
def lwN (G : Gx) (p n : Nat) (Q : Rv → Zm → Prop) : Prop := ∀ (V : Zm) (τ : St) (l6 l7 l8 : Option Value), lwI (n + 1) V τ → ZP G 1500 m_law 3364 [some (.ref 1000060), some (.ref 0), some (.ref 300), some (.ref 320), some (.ref 321), some (iv (p : Int)), l6, l7, l8] [] V Q
theorem n_index {σ : St} {x : Int} (ho : okS σ) : (o_index σ x).1 = 0 → vf_n32 (vIx σ x) := fun e => by
  have wr := wBy_r ho.1 x
  have dr := wDn_r ho.1
  by_cases d : wBy (sK σ) x = 0
  · exfalso
    unfold o_index at e
    by_cases c : 0 ≤ x
    · rw [cIf_p c, cIf_p d] at e
      exact absurd (show (2 : Nat) = 0 from e) (by decide)
    · rw [cIf_f c] at e
      exact absurd (show (1 : Nat) = 0 from e) (by decide)
  · exact fb32_div dr.1 (by omega) (by omega) (by omega)
theorem n_fig {σ : St} (e : (o_fig σ).1 = 0) : kN (sK σ) ≠ 0 := fun d => by
  unfold o_fig at e
  rw [cIf_p d] at e
  exact absurd (show (1 : Nat) = 0 from e) (by decide)
theorem lc_task {G : Gx} {Q : Rv → Zm → Prop} {Z : Zm} {σ : St} {n p : Nat} {l6 l7 l8 : Option Value} (H : lwI n Z σ) (hn : n < 512) (hs : lwK G p) (k : lwN G p n Q) : ZP G 1500 m_law 304 [some (.ref 1000060), some (.ref 0), some (.ref 300), some (.ref 320), some (.ref 321), some (iv (p : Int)), l6, l7, l8] [] Z Q := by
  obtain ⟨o, eo⟩ : ∃ o, o = o_task σ (zScr G ((p : Int) + 1).toNat) := ⟨_, rfl⟩
  have ok : okS o.2.2 := by rw [eo]; exact k_task (x := (zScr G ((p : Int) + 1).toNat)) H.ok
  have w0 := w_L_task (G := G) (h := H.ic) (ho := H.ok) (hz := H.hz hn) (hou := H.oL) (x := (zScr G ((p : Int) + 1).toNat)) (hx := (zScr_r _ _))
  have bd := bd_task (σ := σ) (x := (zScr G ((p : Int) + 1).toNat))
  rw [← eo] at w0 bd
  refine z_aload_n (pc' := 305) (j := 1) (by decide +kernel) rfl rfl ?_
  refine z_aload_n (pc' := 306) (j := 0) (by decide +kernel) rfl rfl ?_
  refine z_iload (pc' := 308) (j := 5) (by decide +kernel) rfl rfl ?_
  refine z_iconst (pc' := 309) (n := 1) (by decide +kernel) rfl ?_
  refine z_iadd (pc' := 310) (by decide +kernel) rfl ?_
  refine z_sld (pc' := 311) (by decide +kernel) (hs 1 (by decide) (by decide)) rfl ?_
  refine z_aload_n (pc' := 312) (j := 3) (by decide +kernel) rfl rfl ?_
  refine z_callSH (pc' := 315) (idx := 184) (mj := m_L_task) (av := [.ref 0, iv (zScr G ((p : Int) + 1).toNat), .ref 320]) (n := 3) (d' := 30) (by decide +kernel) rfl k_L_task (amM4 1 rfl (by decide +kernel)) rfl (by decide) (am_le rfl) rfl (am_le rfl) rfl (ZM.mono w0 fun r W hw => ?_)
  obtain ⟨rfl, hI, fr, hP⟩ := hw
  change ZP G 1500 m_law 315 [some (.ref 1000060), some (.ref 0), some (.ref 300), some (.ref 320), some (.ref 321), some (iv (p : Int)), l6, l7, l8] [iv (o.1 : Int)] W _
  refine z_istore (pc' := 317) (j := 6) (ls' := [some (.ref 1000060), some (.ref 0), some (.ref 300), some (.ref 320), some (.ref 321), some (iv (p : Int)), some (iv (o.1 : Int)), l7, l8]) (by decide +kernel) (by decide) rfl rfl ?_
  obtain ⟨B, hB⟩ := H.im1 fr
  have hw2 := H.hw hn fr
  have d0 := d_task (G := G) (x := (zScr G ((p : Int) + 1).toNat)) (h := hB) (ho := H.ok) (hz := ⟨hw2.1, by omega⟩) (hx := (zScr_r _ _))
  rw [← eo] at d0
  refine z_aload_n (pc' := 318) (j := 2) (by decide +kernel) rfl rfl ?_
  refine z_aload_n (pc' := 319) (j := 0) (by decide +kernel) rfl rfl ?_
  refine z_iload (pc' := 321) (j := 5) (by decide +kernel) rfl rfl ?_
  refine z_iconst (pc' := 322) (n := 1) (by decide +kernel) rfl ?_
  refine z_iadd (pc' := 323) (by decide +kernel) rfl ?_
  refine z_sld (pc' := 324) (by decide +kernel) (hs 1 (by decide) (by decide)) rfl ?_
  refine z_callV (pc' := 327) (idx := 189) (mj := m_X12_task) (av := [iv (zScr G ((p : Int) + 1).toNat)]) (n := 1) (ci := 12) (b := 300) (d' := 12) (by decide +kernel) rfl k_X12_task l_RL_189 rfl (by decide) (am_le rfl) rfl (am_le rfl) hB.1.o.1 hB.1.o.2 rfl (ZM.mono d0 fun r V hv => ?_)
  obtain ⟨⟨v, rfl, ev⟩, ht, hM, vV⟩ := hv
  obtain ⟨N, eL, eD⟩ := H.nx hn hI fr ok hM vV
  change ZP G 1500 m_law 327 [some (.ref 1000060), some (.ref 0), some (.ref 300), some (.ref 320), some (.ref 321), some (iv (p : Int)), some (iv (o.1 : Int)), l7, l8] [iv v] V _
  refine z_istore (pc' := 329) (j := 7) (ls' := [some (.ref 1000060), some (.ref 0), some (.ref 300), some (.ref 320), some (.ref 321), some (iv (p : Int)), some (iv (o.1 : Int)), some (iv v), l8]) (by decide +kernel) (by decide) rfl rfl ?_
  refine z_aload_n (pc' := 330) (j := 2) (by decide +kernel) rfl rfl ?_
  obtain ⟨B2, hB2⟩ := hM
  refine z_callV (pc' := 333) (idx := 190) (mj := m_X12_thrown) (av := []) (n := 0) (ci := 12) (b := 300) (d' := 0) (by decide +kernel) rfl k_X12_thrown l_RL_190 rfl (by decide) (am_le rfl) rfl (am_le rfl) hB2.1.o.1 hB2.1.o.2 rfl (zKf (s_thrown hB2.1) ?_)
  rw [ht]
  change ZP G 1500 m_law 333 [some (.ref 1000060), some (.ref 0), some (.ref 300), some (.ref 320), some (.ref 321), some (iv (p : Int)), some (iv (o.1 : Int)), some (iv v), l8] [iv (o.1 : Int)] V _
  refine z_iload (pc' := 335) (j := 6) (by decide +kernel) rfl rfl ?_
  refine z_same (pc' := 338) (tgt := 340) (off := 5) (by decide +kernel) (by decide) rfl ?_
  refine z_iload (pc' := 342) (j := 6) (by decide +kernel) rfl rfl ?_
  refine z_if_ne (pc' := 345) (tgt := 357) (off := 15) (by decide +kernel) (by decide) rfl ⟨by omega, by omega⟩ ?_
  by_cases c0 : (o.1 : Int) = 0
  case neg =>
    rw [if_neg c0]
    refine z_goto (tgt := 3364) (off := 3007) (by decide +kernel) (by decide) ?_
    exact k _ _ _ _ _ N
  rw [if_pos c0]
  have c1 : o.1 = 0 := by omega
  obtain rfl := ev c1
  refine z_aload_n (pc' := 346) (j := 3) (by decide +kernel) rfl rfl ?_
  refine z_iconst (pc' := 347) (n := 0) (by decide +kernel) rfl ?_
  refine z_laload (pc' := 348) (by decide +kernel) N.oL ⟨by decide, by decide, by decide⟩ rfl ?_
  rw [show zL V 320 ((0 : Int)).toNat = rI o.2.1 from (congrFun eL 0).trans (hP c1)]
  refine z_iload (pc' := 350) (j := 7) (by decide +kernel) rfl rfl ?_
  refine z_i2lr (pc' := 351) (by decide +kernel) rfl ?_
  refine z_lsame (pc' := 352) (by decide +kernel) rfl ?_
  refine z_if_eq (pc' := 355) (tgt := 357) (off := 5) (by decide +kernel) (by decide) rfl (by decide) ?_
  rw [if_pos rfl]
  refine z_goto (tgt := 3364) (off := 3007) (by decide +kernel) (by decide) ?_
  exact k _ _ _ _ _ N
theorem lc_set {G : Gx} {Q : Rv → Zm → Prop} {Z : Zm} {σ : St} {n p : Nat} {l6 l7 l8 : Option Value} (H : lwI n Z σ) (hn : n < 512) (hs : lwK G p) (k : lwN G p n Q) : ZP G 1500 m_law 360 [some (.ref 1000060), some (.ref 0), some (.ref 300), some (.ref 320), some (.ref 321), some (iv (p : Int)), l6, l7, l8] [] Z Q := by
  obtain ⟨o, eo⟩ : ∃ o, o = o_set σ (zScr G ((p : Int) + 1).toNat) (zScr G ((p : Int) + 2).toNat % 65536) (zScr G ((p : Int) + 3).toNat) := ⟨_, rfl⟩
  have ok : okS o.2.2 := by rw [eo]; exact k_set (t := (zScr G ((p : Int) + 1).toNat)) (c := (zScr G ((p : Int) + 2).toNat % 65536)) (x := (zScr G ((p : Int) + 3).toNat)) H.ok
  have w0 := w_L_set (G := G) (h := H.ic) (ho := H.ok) (hz := H.hz hn) (hou := H.oL) (t := (zScr G ((p : Int) + 1).toNat)) (c := (zScr G ((p : Int) + 2).toNat % 65536)) (x := (zScr G ((p : Int) + 3).toNat)) (ht := (zScr_r _ _)) (hc := (by have := Int.emod_nonneg (zScr G ((p : Int) + 2).toNat) (show (65536 : Int) ≠ 0 by decide); have := Int.emod_lt_of_pos (zScr G ((p : Int) + 2).toNat) (show (0 : Int) < 65536 by decide); exact ⟨by omega, by omega⟩)) (hx := (zScr_r _ _))
  have bd := bd_set (σ := σ) (t := (zScr G ((p : Int) + 1).toNat)) (c := (zScr G ((p : Int) + 2).toNat % 65536)) (x := (zScr G ((p : Int) + 3).toNat))
  rw [← eo] at w0 bd
  refine z_aload_n (pc' := 361) (j := 1) (by decide +kernel) rfl rfl ?_
  refine z_aload_n (pc' := 362) (j := 0) (by decide +kernel) rfl rfl ?_
  refine z_iload (pc' := 364) (j := 5) (by decide +kernel) rfl rfl ?_
  refine z_iconst (pc' := 365) (n := 1) (by decide +kernel) rfl ?_
  refine z_iadd (pc' := 366) (by decide +kernel) rfl ?_
  refine z_sld (pc' := 367) (by decide +kernel) (hs 1 (by decide) (by decide)) rfl ?_
  refine z_aload_n (pc' := 368) (j := 0) (by decide +kernel) rfl rfl ?_
  refine z_iload (pc' := 370) (j := 5) (by decide +kernel) rfl rfl ?_
  refine z_iconst (pc' := 371) (n := 2) (by decide +kernel) rfl ?_
  refine z_iadd (pc' := 372) (by decide +kernel) rfl ?_
  refine z_sld (pc' := 373) (by decide +kernel) (hs 2 (by decide) (by decide)) rfl ?_
  refine z_i2c (pc' := 374) (by decide +kernel) rfl ?_
  refine z_aload_n (pc' := 375) (j := 0) (by decide +kernel) rfl rfl ?_
  refine z_iload (pc' := 377) (j := 5) (by decide +kernel) rfl rfl ?_
  refine z_iconst (pc' := 378) (n := 3) (by decide +kernel) rfl ?_
  refine z_iadd (pc' := 379) (by decide +kernel) rfl ?_
  refine z_sld (pc' := 380) (by decide +kernel) (hs 3 (by decide) (by decide)) rfl ?_
  refine z_aload_n (pc' := 381) (j := 3) (by decide +kernel) rfl rfl ?_
  refine z_callSH (pc' := 384) (idx := 193) (mj := m_L_set) (av := [.ref 0, iv (zScr G ((p : Int) + 1).toNat), iv (zScr G ((p : Int) + 2).toNat % 65536), iv (zScr G ((p : Int) + 3).toNat), .ref 320]) (n := 5) (d' := 30) (by decide +kernel) rfl k_L_set (amM4 99 rfl (by decide +kernel)) rfl (by decide) (am_le rfl) rfl (am_le rfl) rfl (ZM.mono w0 fun r W hw => ?_)
  obtain ⟨rfl, hI, fr, hP⟩ := hw
  change ZP G 1500 m_law 384 [some (.ref 1000060), some (.ref 0), some (.ref 300), some (.ref 320), some (.ref 321), some (iv (p : Int)), l6, l7, l8] [iv (o.1 : Int)] W _
  refine z_istore (pc' := 386) (j := 6) (ls' := [some (.ref 1000060), some (.ref 0), some (.ref 300), some (.ref 320), some (.ref 321), some (iv (p : Int)), some (iv (o.1 : Int)), l7, l8]) (by decide +kernel) (by decide) rfl rfl ?_
  obtain ⟨B, hB⟩ := H.im1 fr
  have hw2 := H.hw hn fr
  have d0 := d_set (G := G) (t := (zScr G ((p : Int) + 1).toNat)) (c := (zScr G ((p : Int) + 2).toNat % 65536)) (x := (zScr G ((p : Int) + 3).toNat)) (h := hB) (ho := H.ok) (hz := ⟨hw2.1, by omega⟩) (ht := (zScr_r _ _)) (hc := (by have := Int.emod_nonneg (zScr G ((p : Int) + 2).toNat) (show (65536 : Int) ≠ 0 by decide); have := Int.emod_lt_of_pos (zScr G ((p : Int) + 2).toNat) (show (0 : Int) < 65536 by decide); exact ⟨by omega, by omega⟩)) (hx := (zScr_r _ _))
  rw [← eo] at d0
  refine z_aload_n (pc' := 387) (j := 2) (by decide +kernel) rfl rfl ?_
  refine z_aload_n (pc' := 388) (j := 0) (by decide +kernel) rfl rfl ?_
  refine z_iload (pc' := 390) (j := 5) (by decide +kernel) rfl rfl ?_
  refine z_iconst (pc' := 391) (n := 1) (by decide +kernel) rfl ?_
  refine z_iadd (pc' := 392) (by decide +kernel) rfl ?_
  refine z_sld (pc' := 393) (by decide +kernel) (hs 1 (by decide) (by decide)) rfl ?_
  refine z_aload_n (pc' := 394) (j := 0) (by decide +kernel) rfl rfl ?_
  refine z_iload (pc' := 396) (j := 5) (by decide +kernel) rfl rfl ?_
  refine z_iconst (pc' := 397) (n := 2) (by decide +kernel) rfl ?_
  refine z_iadd (pc' := 398) (by decide +kernel) rfl ?_
  refine z_sld (pc' := 399) (by decide +kernel) (hs 2 (by decide) (by decide)) rfl ?_
  refine z_i2c (pc' := 400) (by decide +kernel) rfl ?_
  refine z_aload_n (pc' := 401) (j := 0) (by decide +kernel) rfl rfl ?_
  refine z_iload (pc' := 403) (j := 5) (by decide +kernel) rfl rfl ?_
  refine z_iconst (pc' := 404) (n := 3) (by decide +kernel) rfl ?_
  refine z_iadd (pc' := 405) (by decide +kernel) rfl ?_
  refine z_sld (pc' := 406) (by decide +kernel) (hs 3 (by decide) (by decide)) rfl ?_
  refine z_callV (pc' := 409) (idx := 196) (mj := m_X12_set) (av := [iv (zScr G ((p : Int) + 1).toNat), iv (zScr G ((p : Int) + 2).toNat % 65536), iv (zScr G ((p : Int) + 3).toNat)]) (n := 3) (ci := 12) (b := 300) (d' := 12) (by decide +kernel) rfl k_X12_set l_RL_196 rfl (by decide) (am_le rfl) rfl (am_le rfl) hB.1.o.1 hB.1.o.2 rfl (ZM.mono d0 fun r V hv => ?_)
  obtain ⟨⟨v, rfl, ev⟩, ht, hM, vV⟩ := hv
  obtain ⟨N, eL, eD⟩ := H.nx hn hI fr ok hM vV
  change ZP G 1500 m_law 409 [some (.ref 1000060), some (.ref 0), some (.ref 300), some (.ref 320), some (.ref 321), some (iv (p : Int)), some (iv (o.1 : Int)), l7, l8] [iv v] V _
  refine z_istore (pc' := 411) (j := 7) (ls' := [some (.ref 1000060), some (.ref 0), some (.ref 300), some (.ref 320), some (.ref 321), some (iv (p : Int)), some (iv (o.1 : Int)), some (iv v), l8]) (by decide +kernel) (by decide) rfl rfl ?_
  refine z_aload_n (pc' := 412) (j := 2) (by decide +kernel) rfl rfl ?_
  obtain ⟨B2, hB2⟩ := hM
  refine z_callV (pc' := 415) (idx := 190) (mj := m_X12_thrown) (av := []) (n := 0) (ci := 12) (b := 300) (d' := 0) (by decide +kernel) rfl k_X12_thrown l_RL_190 rfl (by decide) (am_le rfl) rfl (am_le rfl) hB2.1.o.1 hB2.1.o.2 rfl (zKf (s_thrown hB2.1) ?_)
  rw [ht]
  change ZP G 1500 m_law 415 [some (.ref 1000060), some (.ref 0), some (.ref 300), some (.ref 320), some (.ref 321), some (iv (p : Int)), some (iv (o.1 : Int)), some (iv v), l8] [iv (o.1 : Int)] V _
  refine z_iload (pc' := 417) (j := 6) (by decide +kernel) rfl rfl ?_
  refine z_same (pc' := 420) (tgt := 422) (off := 5) (by decide +kernel) (by decide) rfl ?_
  refine z_iload (pc' := 424) (j := 6) (by decide +kernel) rfl rfl ?_
  refine z_if_ne (pc' := 427) (tgt := 439) (off := 15) (by decide +kernel) (by decide) rfl ⟨by omega, by omega⟩ ?_
  by_cases c0 : (o.1 : Int) = 0
  case neg =>
    rw [if_neg c0]
    refine z_goto (tgt := 3364) (off := 2925) (by decide +kernel) (by decide) ?_
    exact k _ _ _ _ _ N
  rw [if_pos c0]
  have c1 : o.1 = 0 := by omega
  obtain rfl := ev c1
  refine z_aload_n (pc' := 428) (j := 3) (by decide +kernel) rfl rfl ?_
  refine z_iconst (pc' := 429) (n := 0) (by decide +kernel) rfl ?_
  refine z_laload (pc' := 430) (by decide +kernel) N.oL ⟨by decide, by decide, by decide⟩ rfl ?_
  rw [show zL V 320 ((0 : Int)).toNat = rI o.2.1 from (congrFun eL 0).trans (hP c1)]
  refine z_iload (pc' := 432) (j := 7) (by decide +kernel) rfl rfl ?_
  refine z_i2lr (pc' := 433) (by decide +kernel) rfl ?_
  refine z_lsame (pc' := 434) (by decide +kernel) rfl ?_
  refine z_if_eq (pc' := 437) (tgt := 439) (off := 5) (by decide +kernel) (by decide) rfl (by decide) ?_
  rw [if_pos rfl]
  refine z_goto (tgt := 3364) (off := 2925) (by decide +kernel) (by decide) ?_
  exact k _ _ _ _ _ N
theorem lc_of {G : Gx} {Q : Rv → Zm → Prop} {Z : Zm} {σ : St} {n p : Nat} {l6 l7 l8 : Option Value} (H : lwI n Z σ) (hn : n < 512) (hs : lwK G p) (k : lwN G p n Q) : ZP G 1500 m_law 442 [some (.ref 1000060), some (.ref 0), some (.ref 300), some (.ref 320), some (.ref 321), some (iv (p : Int)), l6, l7, l8] [] Z Q := by
  obtain ⟨o, eo⟩ : ∃ o, o = o_of σ (zScr G ((p : Int) + 1).toNat) (zScr G ((p : Int) + 2).toNat % 65536) := ⟨_, rfl⟩
  have ok : okS o.2.2 := by rw [eo]; exact k_of (t := (zScr G ((p : Int) + 1).toNat)) (c := (zScr G ((p : Int) + 2).toNat % 65536)) H.ok
  have w0 := w_L_of (G := G) (h := H.ic) (ho := H.ok) (hz := H.hz hn) (hou := H.oL) (t := (zScr G ((p : Int) + 1).toNat)) (c := (zScr G ((p : Int) + 2).toNat % 65536)) (ht := (zScr_r _ _)) (hc := (by have := Int.emod_nonneg (zScr G ((p : Int) + 2).toNat) (show (65536 : Int) ≠ 0 by decide); have := Int.emod_lt_of_pos (zScr G ((p : Int) + 2).toNat) (show (0 : Int) < 65536 by decide); exact ⟨by omega, by omega⟩))
  have bd := bd_of (σ := σ) (t := (zScr G ((p : Int) + 1).toNat)) (c := (zScr G ((p : Int) + 2).toNat % 65536))
  rw [← eo] at w0 bd
  refine z_aload_n (pc' := 443) (j := 1) (by decide +kernel) rfl rfl ?_
  refine z_aload_n (pc' := 444) (j := 0) (by decide +kernel) rfl rfl ?_
  refine z_iload (pc' := 446) (j := 5) (by decide +kernel) rfl rfl ?_
  refine z_iconst (pc' := 447) (n := 1) (by decide +kernel) rfl ?_
  refine z_iadd (pc' := 448) (by decide +kernel) rfl ?_
  refine z_sld (pc' := 449) (by decide +kernel) (hs 1 (by decide) (by decide)) rfl ?_
  refine z_aload_n (pc' := 450) (j := 0) (by decide +kernel) rfl rfl ?_
  refine z_iload (pc' := 452) (j := 5) (by decide +kernel) rfl rfl ?_
  refine z_iconst (pc' := 453) (n := 2) (by decide +kernel) rfl ?_
  refine z_iadd (pc' := 454) (by decide +kernel) rfl ?_
  refine z_sld (pc' := 455) (by decide +kernel) (hs 2 (by decide) (by decide)) rfl ?_
  refine z_i2c (pc' := 456) (by decide +kernel) rfl ?_
  refine z_aload_n (pc' := 457) (j := 3) (by decide +kernel) rfl rfl ?_
  refine z_callSH (pc' := 460) (idx := 197) (mj := m_L_of) (av := [.ref 0, iv (zScr G ((p : Int) + 1).toNat), iv (zScr G ((p : Int) + 2).toNat % 65536), .ref 320]) (n := 4) (d' := 30) (by decide +kernel) rfl k_L_of (amM4 229 rfl (by decide +kernel)) rfl (by decide) (am_le rfl) rfl (am_le rfl) rfl (ZM.mono w0 fun r W hw => ?_)
  obtain ⟨rfl, hI, fr, hP⟩ := hw
  change ZP G 1500 m_law 460 [some (.ref 1000060), some (.ref 0), some (.ref 300), some (.ref 320), some (.ref 321), some (iv (p : Int)), l6, l7, l8] [iv (o.1 : Int)] W _
  refine z_istore (pc' := 462) (j := 6) (ls' := [some (.ref 1000060), some (.ref 0), some (.ref 300), some (.ref 320), some (.ref 321), some (iv (p : Int)), some (iv (o.1 : Int)), l7, l8]) (by decide +kernel) (by decide) rfl rfl ?_
  obtain ⟨B, hB⟩ := H.im1 fr
  have hw2 := H.hw hn fr
  have d0 := d_of (G := G) (t := (zScr G ((p : Int) + 1).toNat)) (c := (zScr G ((p : Int) + 2).toNat % 65536)) (h := hB) (ho := H.ok) (hz := ⟨hw2.1, by omega⟩) (ht := (zScr_r _ _)) (hc := (by have := Int.emod_nonneg (zScr G ((p : Int) + 2).toNat) (show (65536 : Int) ≠ 0 by decide); have := Int.emod_lt_of_pos (zScr G ((p : Int) + 2).toNat) (show (0 : Int) < 65536 by decide); exact ⟨by omega, by omega⟩))
  rw [← eo] at d0
  refine z_aload_n (pc' := 463) (j := 2) (by decide +kernel) rfl rfl ?_
  refine z_aload_n (pc' := 464) (j := 0) (by decide +kernel) rfl rfl ?_
  refine z_iload (pc' := 466) (j := 5) (by decide +kernel) rfl rfl ?_
  refine z_iconst (pc' := 467) (n := 1) (by decide +kernel) rfl ?_
  refine z_iadd (pc' := 468) (by decide +kernel) rfl ?_
  refine z_sld (pc' := 469) (by decide +kernel) (hs 1 (by decide) (by decide)) rfl ?_
  refine z_aload_n (pc' := 470) (j := 0) (by decide +kernel) rfl rfl ?_
  refine z_iload (pc' := 472) (j := 5) (by decide +kernel) rfl rfl ?_
  refine z_iconst (pc' := 473) (n := 2) (by decide +kernel) rfl ?_
  refine z_iadd (pc' := 474) (by decide +kernel) rfl ?_
  refine z_sld (pc' := 475) (by decide +kernel) (hs 2 (by decide) (by decide)) rfl ?_
  refine z_i2c (pc' := 476) (by decide +kernel) rfl ?_
  refine z_callV (pc' := 479) (idx := 200) (mj := m_X12_of) (av := [iv (zScr G ((p : Int) + 1).toNat), iv (zScr G ((p : Int) + 2).toNat % 65536)]) (n := 2) (ci := 12) (b := 300) (d' := 12) (by decide +kernel) rfl k_X12_of l_RL_200 rfl (by decide) (am_le rfl) rfl (am_le rfl) hB.1.o.1 hB.1.o.2 rfl (ZM.mono d0 fun r V hv => ?_)
  obtain ⟨⟨v, rfl, ev⟩, ht, hM, vV⟩ := hv
  obtain ⟨N, eL, eD⟩ := H.nx hn hI fr ok hM vV
  change ZP G 1500 m_law 479 [some (.ref 1000060), some (.ref 0), some (.ref 300), some (.ref 320), some (.ref 321), some (iv (p : Int)), some (iv (o.1 : Int)), l7, l8] [iv v] V _
  refine z_istore (pc' := 481) (j := 7) (ls' := [some (.ref 1000060), some (.ref 0), some (.ref 300), some (.ref 320), some (.ref 321), some (iv (p : Int)), some (iv (o.1 : Int)), some (iv v), l8]) (by decide +kernel) (by decide) rfl rfl ?_
  refine z_aload_n (pc' := 482) (j := 2) (by decide +kernel) rfl rfl ?_
  obtain ⟨B2, hB2⟩ := hM
  refine z_callV (pc' := 485) (idx := 190) (mj := m_X12_thrown) (av := []) (n := 0) (ci := 12) (b := 300) (d' := 0) (by decide +kernel) rfl k_X12_thrown l_RL_190 rfl (by decide) (am_le rfl) rfl (am_le rfl) hB2.1.o.1 hB2.1.o.2 rfl (zKf (s_thrown hB2.1) ?_)
  rw [ht]
  change ZP G 1500 m_law 485 [some (.ref 1000060), some (.ref 0), some (.ref 300), some (.ref 320), some (.ref 321), some (iv (p : Int)), some (iv (o.1 : Int)), some (iv v), l8] [iv (o.1 : Int)] V _
  refine z_iload (pc' := 487) (j := 6) (by decide +kernel) rfl rfl ?_
  refine z_same (pc' := 490) (tgt := 492) (off := 5) (by decide +kernel) (by decide) rfl ?_
  refine z_iload (pc' := 494) (j := 6) (by decide +kernel) rfl rfl ?_
  refine z_if_ne (pc' := 497) (tgt := 509) (off := 15) (by decide +kernel) (by decide) rfl ⟨by omega, by omega⟩ ?_
  by_cases c0 : (o.1 : Int) = 0
  case neg =>
    rw [if_neg c0]
    refine z_goto (tgt := 3364) (off := 2855) (by decide +kernel) (by decide) ?_
    exact k _ _ _ _ _ N
  rw [if_pos c0]
  have c1 : o.1 = 0 := by omega
  obtain rfl := ev c1
  refine z_aload_n (pc' := 498) (j := 3) (by decide +kernel) rfl rfl ?_
  refine z_iconst (pc' := 499) (n := 0) (by decide +kernel) rfl ?_
  refine z_laload (pc' := 500) (by decide +kernel) N.oL ⟨by decide, by decide, by decide⟩ rfl ?_
  rw [show zL V 320 ((0 : Int)).toNat = rI o.2.1 from (congrFun eL 0).trans (hP c1)]
  refine z_iload (pc' := 502) (j := 7) (by decide +kernel) rfl rfl ?_
  refine z_i2lr (pc' := 503) (by decide +kernel) rfl ?_
  refine z_lsame (pc' := 504) (by decide +kernel) rfl ?_
  refine z_if_eq (pc' := 507) (tgt := 509) (off := 5) (by decide +kernel) (by decide) rfl (by decide) ?_
  rw [if_pos rfl]
  refine z_goto (tgt := 3364) (off := 2855) (by decide +kernel) (by decide) ?_
  exact k _ _ _ _ _ N
theorem lc_tasks {G : Gx} {Q : Rv → Zm → Prop} {Z : Zm} {σ : St} {n p : Nat} {l6 l7 l8 : Option Value} (H : lwI n Z σ) (hn : n < 512) (hs : lwK G p) (k : lwN G p n Q) : ZP G 1500 m_law 512 [some (.ref 1000060), some (.ref 0), some (.ref 300), some (.ref 320), some (.ref 321), some (iv (p : Int)), l6, l7, l8] [] Z Q := by
  obtain ⟨o, eo⟩ : ∃ o, o = o_tasks σ := ⟨_, rfl⟩
  have ok : okS o.2.2 := by rw [eo]; exact k_tasks  H.ok
  have w0 := c_tasks (G := G) (h := H.ic)
  have bd : (o_tasks σ).1 = 0 := rfl
  rw [← eo] at w0 bd
  refine z_aload_n (pc' := 513) (j := 1) (by decide +kernel) rfl rfl ?_
  refine z_callV (pc' := 516) (idx := 201) (mj := m_X11_tasks) (av := []) (n := 0) (ci := 11) (b := 0) (d' := 12) (by decide +kernel) rfl k_X11_tasks l_RL_201 rfl (by decide) (am_le rfl) rfl (am_le rfl) H.ic.1.o.1 H.ic.1.o.2 rfl (ZM.mono w0 fun r W hw => ?_)
  obtain ⟨rfl, hI, fr'⟩ := hw
  have fr := wF fr'
  rw [rO, if_pos bd]
  change ZP G 1500 m_law 516 [some (.ref 1000060), some (.ref 0), some (.ref 300), some (.ref 320), some (.ref 321), some (iv (p : Int)), l6, l7, l8] [iv o.2.1] W _
  obtain ⟨B, hB⟩ := H.im1 fr
  have hw2 := H.hw hn fr
  have d0 := d_tasks (G := G) (h := hB) (hz := hw2.1) 
  rw [← eo] at d0
  refine z_aload_n (pc' := 517) (j := 2) (by decide +kernel) rfl rfl ?_
  refine z_callV (pc' := 520) (idx := 204) (mj := m_X12_tasks) (av := []) (n := 0) (ci := 12) (b := 300) (d' := 12) (by decide +kernel) rfl k_X12_tasks l_RL_204 rfl (by decide) (am_le rfl) rfl (am_le rfl) hB.1.o.1 hB.1.o.2 rfl (ZM.mono d0 fun r V hv => ?_)
  obtain ⟨⟨v, rfl, ev⟩, ht, hM, vV⟩ := hv
  obtain ⟨N, eL, eD⟩ := H.nx hn hI fr ok hM vV
  change ZP G 1500 m_law 520 [some (.ref 1000060), some (.ref 0), some (.ref 300), some (.ref 320), some (.ref 321), some (iv (p : Int)), l6, l7, l8] [iv v, iv o.2.1] V _
  obtain rfl := ev bd
  refine z_same (pc' := 523) (tgt := 3364) (off := 2844) (by decide +kernel) (by decide) rfl ?_
  exact k _ _ _ _ _ N
theorem lc_need {G : Gx} {Q : Rv → Zm → Prop} {Z : Zm} {σ : St} {n p : Nat} {l6 l7 l8 : Option Value} (H : lwI n Z σ) (hn : n < 512) (hs : lwK G p) (k : lwN G p n Q) : ZP G 1500 m_law 525 [some (.ref 1000060), some (.ref 0), some (.ref 300), some (.ref 320), some (.ref 321), some (iv (p : Int)), l6, l7, l8] [] Z Q := by
  obtain ⟨o, eo⟩ : ∃ o, o = o_need σ (zScr G ((p : Int) + 1).toNat) (zScr G ((p : Int) + 2).toNat) (zScr G ((p : Int) + 3).toNat) := ⟨_, rfl⟩
  have ok : okS o.2.2 := by rw [eo]; exact k_need (x := (zScr G ((p : Int) + 1).toNat)) (y := (zScr G ((p : Int) + 2).toNat)) (z := (zScr G ((p : Int) + 3).toNat)) H.ok
  have w0 := w_L_need (G := G) (h := H.ic) (ho := H.ok) (hz := H.hz hn) (hou := H.oL) (x := (zScr G ((p : Int) + 1).toNat)) (y := (zScr G ((p : Int) + 2).toNat)) (z := (zScr G ((p : Int) + 3).toNat)) (hx := (zScr_r _ _)) (hy := (zScr_r _ _)) (hg := (zScr_r _ _))
  have bd := bd_need (σ := σ) (x := (zScr G ((p : Int) + 1).toNat)) (y := (zScr G ((p : Int) + 2).toNat)) (z := (zScr G ((p : Int) + 3).toNat))
  rw [← eo] at w0 bd
  refine z_aload_n (pc' := 526) (j := 1) (by decide +kernel) rfl rfl ?_
  refine z_aload_n (pc' := 527) (j := 0) (by decide +kernel) rfl rfl ?_
  refine z_iload (pc' := 529) (j := 5) (by decide +kernel) rfl rfl ?_
  refine z_iconst (pc' := 530) (n := 1) (by decide +kernel) rfl ?_
  refine z_iadd (pc' := 531) (by decide +kernel) rfl ?_
  refine z_sld (pc' := 532) (by decide +kernel) (hs 1 (by decide) (by decide)) rfl ?_
  refine z_aload_n (pc' := 533) (j := 0) (by decide +kernel) rfl rfl ?_
  refine z_iload (pc' := 535) (j := 5) (by decide +kernel) rfl rfl ?_
  refine z_iconst (pc' := 536) (n := 2) (by decide +kernel) rfl ?_
  refine z_iadd (pc' := 537) (by decide +kernel) rfl ?_
  refine z_sld (pc' := 538) (by decide +kernel) (hs 2 (by decide) (by decide)) rfl ?_
  refine z_aload_n (pc' := 539) (j := 0) (by decide +kernel) rfl rfl ?_
  refine z_iload (pc' := 541) (j := 5) (by decide +kernel) rfl rfl ?_
  refine z_iconst (pc' := 542) (n := 3) (by decide +kernel) rfl ?_
  refine z_iadd (pc' := 543) (by decide +kernel) rfl ?_
  refine z_sld (pc' := 544) (by decide +kernel) (hs 3 (by decide) (by decide)) rfl ?_
  refine z_aload_n (pc' := 545) (j := 3) (by decide +kernel) rfl rfl ?_
  refine z_callSH (pc' := 548) (idx := 205) (mj := m_L_need) (av := [.ref 0, iv (zScr G ((p : Int) + 1).toNat), iv (zScr G ((p : Int) + 2).toNat), iv (zScr G ((p : Int) + 3).toNat), .ref 320]) (n := 5) (d' := 30) (by decide +kernel) rfl k_L_need (amM4 236 rfl (by decide +kernel)) rfl (by decide) (am_le rfl) rfl (am_le rfl) rfl (ZM.mono w0 fun r W hw => ?_)
  obtain ⟨rfl, hI, fr, hP⟩ := hw
  change ZP G 1500 m_law 548 [some (.ref 1000060), some (.ref 0), some (.ref 300), some (.ref 320), some (.ref 321), some (iv (p : Int)), l6, l7, l8] [iv (o.1 : Int)] W _
  refine z_istore (pc' := 550) (j := 6) (ls' := [some (.ref 1000060), some (.ref 0), some (.ref 300), some (.ref 320), some (.ref 321), some (iv (p : Int)), some (iv (o.1 : Int)), l7, l8]) (by decide +kernel) (by decide) rfl rfl ?_
  obtain ⟨B, hB⟩ := H.im1 fr
  have hw2 := H.hw hn fr
  have d0 := d_need (G := G) (x := (zScr G ((p : Int) + 1).toNat)) (y := (zScr G ((p : Int) + 2).toNat)) (z := (zScr G ((p : Int) + 3).toNat)) (h := hB) (ho := H.ok) (hz := ⟨hw2.1, by omega⟩) (hx := (zScr_r _ _)) (hy := (zScr_r _ _)) (hg := (zScr_r _ _))
  rw [← eo] at d0
  refine z_aload_n (pc' := 551) (j := 2) (by decide +kernel) rfl rfl ?_
  refine z_aload_n (pc' := 552) (j := 0) (by decide +kernel) rfl rfl ?_
  refine z_iload (pc' := 554) (j := 5) (by decide +kernel) rfl rfl ?_
  refine z_iconst (pc' := 555) (n := 1) (by decide +kernel) rfl ?_
  refine z_iadd (pc' := 556) (by decide +kernel) rfl ?_
  refine z_sld (pc' := 557) (by decide +kernel) (hs 1 (by decide) (by decide)) rfl ?_
  refine z_aload_n (pc' := 558) (j := 0) (by decide +kernel) rfl rfl ?_
  refine z_iload (pc' := 560) (j := 5) (by decide +kernel) rfl rfl ?_
  refine z_iconst (pc' := 561) (n := 2) (by decide +kernel) rfl ?_
  refine z_iadd (pc' := 562) (by decide +kernel) rfl ?_
  refine z_sld (pc' := 563) (by decide +kernel) (hs 2 (by decide) (by decide)) rfl ?_
  refine z_aload_n (pc' := 564) (j := 0) (by decide +kernel) rfl rfl ?_
  refine z_iload (pc' := 566) (j := 5) (by decide +kernel) rfl rfl ?_
  refine z_iconst (pc' := 567) (n := 3) (by decide +kernel) rfl ?_
  refine z_iadd (pc' := 568) (by decide +kernel) rfl ?_
  refine z_sld (pc' := 569) (by decide +kernel) (hs 3 (by decide) (by decide)) rfl ?_
  refine z_callV (pc' := 572) (idx := 208) (mj := m_X12_need) (av := [iv (zScr G ((p : Int) + 1).toNat), iv (zScr G ((p : Int) + 2).toNat), iv (zScr G ((p : Int) + 3).toNat)]) (n := 3) (ci := 12) (b := 300) (d' := 12) (by decide +kernel) rfl k_X12_need l_RL_208 rfl (by decide) (am_le rfl) rfl (am_le rfl) hB.1.o.1 hB.1.o.2 rfl (ZM.mono d0 fun r V hv => ?_)
  obtain ⟨⟨v, rfl, ev⟩, ht, hM, vV⟩ := hv
  obtain ⟨N, eL, eD⟩ := H.nx hn hI fr ok hM vV
  change ZP G 1500 m_law 572 [some (.ref 1000060), some (.ref 0), some (.ref 300), some (.ref 320), some (.ref 321), some (iv (p : Int)), some (iv (o.1 : Int)), l7, l8] [iv v] V _
  refine z_istore (pc' := 574) (j := 7) (ls' := [some (.ref 1000060), some (.ref 0), some (.ref 300), some (.ref 320), some (.ref 321), some (iv (p : Int)), some (iv (o.1 : Int)), some (iv v), l8]) (by decide +kernel) (by decide) rfl rfl ?_
  refine z_aload_n (pc' := 575) (j := 2) (by decide +kernel) rfl rfl ?_
  obtain ⟨B2, hB2⟩ := hM
  refine z_callV (pc' := 578) (idx := 190) (mj := m_X12_thrown) (av := []) (n := 0) (ci := 12) (b := 300) (d' := 0) (by decide +kernel) rfl k_X12_thrown l_RL_190 rfl (by decide) (am_le rfl) rfl (am_le rfl) hB2.1.o.1 hB2.1.o.2 rfl (zKf (s_thrown hB2.1) ?_)
  rw [ht]
  change ZP G 1500 m_law 578 [some (.ref 1000060), some (.ref 0), some (.ref 300), some (.ref 320), some (.ref 321), some (iv (p : Int)), some (iv (o.1 : Int)), some (iv v), l8] [iv (o.1 : Int)] V _
  refine z_iload (pc' := 580) (j := 6) (by decide +kernel) rfl rfl ?_
  refine z_same (pc' := 583) (tgt := 585) (off := 5) (by decide +kernel) (by decide) rfl ?_
  refine z_iload (pc' := 587) (j := 6) (by decide +kernel) rfl rfl ?_
  refine z_if_ne (pc' := 590) (tgt := 602) (off := 15) (by decide +kernel) (by decide) rfl ⟨by omega, by omega⟩ ?_
  by_cases c0 : (o.1 : Int) = 0
  case neg =>
    rw [if_neg c0]
    refine z_goto (tgt := 3364) (off := 2762) (by decide +kernel) (by decide) ?_
    exact k _ _ _ _ _ N
  rw [if_pos c0]
  have c1 : o.1 = 0 := by omega
  obtain rfl := ev c1
  refine z_aload_n (pc' := 591) (j := 3) (by decide +kernel) rfl rfl ?_
  refine z_iconst (pc' := 592) (n := 0) (by decide +kernel) rfl ?_
  refine z_laload (pc' := 593) (by decide +kernel) N.oL ⟨by decide, by decide, by decide⟩ rfl ?_
  rw [show zL V 320 ((0 : Int)).toNat = rI o.2.1 from (congrFun eL 0).trans (hP c1)]
  refine z_iload (pc' := 595) (j := 7) (by decide +kernel) rfl rfl ?_
  refine z_i2lr (pc' := 596) (by decide +kernel) rfl ?_
  refine z_lsame (pc' := 597) (by decide +kernel) rfl ?_
  refine z_if_eq (pc' := 600) (tgt := 602) (off := 5) (by decide +kernel) (by decide) rfl (by decide) ?_
  rw [if_pos rfl]
  refine z_goto (tgt := 3364) (off := 2762) (by decide +kernel) (by decide) ?_
  exact k _ _ _ _ _ N
theorem lc_dropNeed {G : Gx} {Q : Rv → Zm → Prop} {Z : Zm} {σ : St} {n p : Nat} {l6 l7 l8 : Option Value} (H : lwI n Z σ) (hn : n < 512) (hs : lwK G p) (k : lwN G p n Q) : ZP G 1500 m_law 605 [some (.ref 1000060), some (.ref 0), some (.ref 300), some (.ref 320), some (.ref 321), some (iv (p : Int)), l6, l7, l8] [] Z Q := by
  obtain ⟨o, eo⟩ : ∃ o, o = o_dropNeed σ (zScr G ((p : Int) + 1).toNat) := ⟨_, rfl⟩
  have ok : okS o.2.2 := by rw [eo]; exact k_dropNeed (x := (zScr G ((p : Int) + 1).toNat)) H.ok
  have w0 := w_L_dropNeed (G := G) (h := H.ic) (ho := H.ok) (hz := H.hz hn) (hou := H.oL) (x := (zScr G ((p : Int) + 1).toNat)) (hx := (zScr_r _ _))
  have bd := bd_dropNeed (σ := σ) (x := (zScr G ((p : Int) + 1).toNat))
  rw [← eo] at w0 bd
  refine z_aload_n (pc' := 606) (j := 1) (by decide +kernel) rfl rfl ?_
  refine z_aload_n (pc' := 607) (j := 0) (by decide +kernel) rfl rfl ?_
  refine z_iload (pc' := 609) (j := 5) (by decide +kernel) rfl rfl ?_
  refine z_iconst (pc' := 610) (n := 1) (by decide +kernel) rfl ?_
  refine z_iadd (pc' := 611) (by decide +kernel) rfl ?_
  refine z_sld (pc' := 612) (by decide +kernel) (hs 1 (by decide) (by decide)) rfl ?_
  refine z_aload_n (pc' := 613) (j := 3) (by decide +kernel) rfl rfl ?_
  refine z_callSH (pc' := 616) (idx := 209) (mj := m_L_dropNeed) (av := [.ref 0, iv (zScr G ((p : Int) + 1).toNat), .ref 320]) (n := 3) (d' := 30) (by decide +kernel) rfl k_L_dropNeed (amM5 14 rfl (by decide +kernel)) rfl (by decide) (am_le rfl) rfl (am_le rfl) rfl (ZM.mono w0 fun r W hw => ?_)
  obtain ⟨rfl, hI, fr, hP⟩ := hw
  change ZP G 1500 m_law 616 [some (.ref 1000060), some (.ref 0), some (.ref 300), some (.ref 320), some (.ref 321), some (iv (p : Int)), l6, l7, l8] [iv (o.1 : Int)] W _
  refine z_istore (pc' := 618) (j := 6) (ls' := [some (.ref 1000060), some (.ref 0), some (.ref 300), some (.ref 320), some (.ref 321), some (iv (p : Int)), some (iv (o.1 : Int)), l7, l8]) (by decide +kernel) (by decide) rfl rfl ?_
  obtain ⟨B, hB⟩ := H.im1 fr
  have hw2 := H.hw hn fr
  have d0 := d_dropNeed (G := G) (x := (zScr G ((p : Int) + 1).toNat)) (h := hB) (ho := H.ok) (hz := ⟨hw2.1, by omega⟩) (hx := (zScr_r _ _))
  rw [← eo] at d0
  refine z_aload_n (pc' := 619) (j := 2) (by decide +kernel) rfl rfl ?_
  refine z_aload_n (pc' := 620) (j := 0) (by decide +kernel) rfl rfl ?_
  refine z_iload (pc' := 622) (j := 5) (by decide +kernel) rfl rfl ?_
  refine z_iconst (pc' := 623) (n := 1) (by decide +kernel) rfl ?_
  refine z_iadd (pc' := 624) (by decide +kernel) rfl ?_
  refine z_sld (pc' := 625) (by decide +kernel) (hs 1 (by decide) (by decide)) rfl ?_
  refine z_callV (pc' := 628) (idx := 211) (mj := m_X12_dropNeed) (av := [iv (zScr G ((p : Int) + 1).toNat)]) (n := 1) (ci := 12) (b := 300) (d' := 12) (by decide +kernel) rfl k_X12_dropNeed l_RL_211 rfl (by decide) (am_le rfl) rfl (am_le rfl) hB.1.o.1 hB.1.o.2 rfl (ZM.mono d0 fun r V hv => ?_)
  obtain ⟨⟨v, rfl, ev⟩, ht, hM, vV⟩ := hv
  obtain ⟨N, eL, eD⟩ := H.nx hn hI fr ok hM vV
  change ZP G 1500 m_law 628 [some (.ref 1000060), some (.ref 0), some (.ref 300), some (.ref 320), some (.ref 321), some (iv (p : Int)), some (iv (o.1 : Int)), l7, l8] [iv v] V _
  refine z_istore (pc' := 630) (j := 7) (ls' := [some (.ref 1000060), some (.ref 0), some (.ref 300), some (.ref 320), some (.ref 321), some (iv (p : Int)), some (iv (o.1 : Int)), some (iv v), l8]) (by decide +kernel) (by decide) rfl rfl ?_
  refine z_aload_n (pc' := 631) (j := 2) (by decide +kernel) rfl rfl ?_
  obtain ⟨B2, hB2⟩ := hM
  refine z_callV (pc' := 634) (idx := 190) (mj := m_X12_thrown) (av := []) (n := 0) (ci := 12) (b := 300) (d' := 0) (by decide +kernel) rfl k_X12_thrown l_RL_190 rfl (by decide) (am_le rfl) rfl (am_le rfl) hB2.1.o.1 hB2.1.o.2 rfl (zKf (s_thrown hB2.1) ?_)
  rw [ht]
  change ZP G 1500 m_law 634 [some (.ref 1000060), some (.ref 0), some (.ref 300), some (.ref 320), some (.ref 321), some (iv (p : Int)), some (iv (o.1 : Int)), some (iv v), l8] [iv (o.1 : Int)] V _
  refine z_iload (pc' := 636) (j := 6) (by decide +kernel) rfl rfl ?_
  refine z_same (pc' := 639) (tgt := 641) (off := 5) (by decide +kernel) (by decide) rfl ?_
  refine z_iload (pc' := 643) (j := 6) (by decide +kernel) rfl rfl ?_
  refine z_if_ne (pc' := 646) (tgt := 658) (off := 15) (by decide +kernel) (by decide) rfl ⟨by omega, by omega⟩ ?_
  by_cases c0 : (o.1 : Int) = 0
  case neg =>
    rw [if_neg c0]
    refine z_goto (tgt := 3364) (off := 2706) (by decide +kernel) (by decide) ?_
    exact k _ _ _ _ _ N
  rw [if_pos c0]
  have c1 : o.1 = 0 := by omega
  obtain rfl := ev c1
  refine z_aload_n (pc' := 647) (j := 3) (by decide +kernel) rfl rfl ?_
  refine z_iconst (pc' := 648) (n := 0) (by decide +kernel) rfl ?_
  refine z_laload (pc' := 649) (by decide +kernel) N.oL ⟨by decide, by decide, by decide⟩ rfl ?_
  rw [show zL V 320 ((0 : Int)).toNat = rI o.2.1 from (congrFun eL 0).trans (hP c1)]
  refine z_iload (pc' := 651) (j := 7) (by decide +kernel) rfl rfl ?_
  refine z_i2lr (pc' := 652) (by decide +kernel) rfl ?_
  refine z_lsame (pc' := 653) (by decide +kernel) rfl ?_
  refine z_if_eq (pc' := 656) (tgt := 658) (off := 5) (by decide +kernel) (by decide) rfl (by decide) ?_
  rw [if_pos rfl]
  refine z_goto (tgt := 3364) (off := 2706) (by decide +kernel) (by decide) ?_
  exact k _ _ _ _ _ N
theorem lc_needs {G : Gx} {Q : Rv → Zm → Prop} {Z : Zm} {σ : St} {n p : Nat} {l6 l7 l8 : Option Value} (H : lwI n Z σ) (hn : n < 512) (hs : lwK G p) (k : lwN G p n Q) : ZP G 1500 m_law 661 [some (.ref 1000060), some (.ref 0), some (.ref 300), some (.ref 320), some (.ref 321), some (iv (p : Int)), l6, l7, l8] [] Z Q := by
  obtain ⟨o, eo⟩ : ∃ o, o = o_needs σ := ⟨_, rfl⟩
  have ok : okS o.2.2 := by rw [eo]; exact k_needs  H.ok
  have w0 := c_needs (G := G) (h := H.ic)
  have bd : (o_needs σ).1 = 0 := rfl
  rw [← eo] at w0 bd
  refine z_aload_n (pc' := 662) (j := 1) (by decide +kernel) rfl rfl ?_
  refine z_callV (pc' := 665) (idx := 212) (mj := m_X11_needs) (av := []) (n := 0) (ci := 11) (b := 0) (d' := 12) (by decide +kernel) rfl k_X11_needs l_RL_212 rfl (by decide) (am_le rfl) rfl (am_le rfl) H.ic.1.o.1 H.ic.1.o.2 rfl (ZM.mono w0 fun r W hw => ?_)
  obtain ⟨rfl, hI, fr'⟩ := hw
  have fr := wF fr'
  rw [rO, if_pos bd]
  change ZP G 1500 m_law 665 [some (.ref 1000060), some (.ref 0), some (.ref 300), some (.ref 320), some (.ref 321), some (iv (p : Int)), l6, l7, l8] [iv o.2.1] W _
  obtain ⟨B, hB⟩ := H.im1 fr
  have hw2 := H.hw hn fr
  have d0 := d_needs (G := G) (h := hB) (hz := hw2.1) 
  rw [← eo] at d0
  refine z_aload_n (pc' := 666) (j := 2) (by decide +kernel) rfl rfl ?_
  refine z_callV (pc' := 669) (idx := 215) (mj := m_X12_needs) (av := []) (n := 0) (ci := 12) (b := 300) (d' := 12) (by decide +kernel) rfl k_X12_needs l_RL_215 rfl (by decide) (am_le rfl) rfl (am_le rfl) hB.1.o.1 hB.1.o.2 rfl (ZM.mono d0 fun r V hv => ?_)
  obtain ⟨⟨v, rfl, ev⟩, ht, hM, vV⟩ := hv
  obtain ⟨N, eL, eD⟩ := H.nx hn hI fr ok hM vV
  change ZP G 1500 m_law 669 [some (.ref 1000060), some (.ref 0), some (.ref 300), some (.ref 320), some (.ref 321), some (iv (p : Int)), l6, l7, l8] [iv v, iv o.2.1] V _
  obtain rfl := ev bd
  refine z_same (pc' := 672) (tgt := 3364) (off := 2695) (by decide +kernel) (by decide) rfl ?_
  exact k _ _ _ _ _ N
theorem lc_needAt {G : Gx} {Q : Rv → Zm → Prop} {Z : Zm} {σ : St} {n p : Nat} {l6 l7 l8 : Option Value} (H : lwI n Z σ) (hn : n < 512) (hs : lwK G p) (k : lwN G p n Q) : ZP G 1500 m_law 674 [some (.ref 1000060), some (.ref 0), some (.ref 300), some (.ref 320), some (.ref 321), some (iv (p : Int)), l6, l7, l8] [] Z Q := by
  obtain ⟨o, eo⟩ : ∃ o, o = o_needAt σ (zScr G ((p : Int) + 1).toNat) (zScr G ((p : Int) + 2).toNat % 65536) := ⟨_, rfl⟩
  have ok : okS o.2.2 := by rw [eo]; exact k_needAt (x := (zScr G ((p : Int) + 1).toNat)) (c := (zScr G ((p : Int) + 2).toNat % 65536)) H.ok
  have w0 := w_L_needAt (G := G) (h := H.ic) (ho := H.ok) (hz := H.hz hn) (hou := H.oL) (x := (zScr G ((p : Int) + 1).toNat)) (c := (zScr G ((p : Int) + 2).toNat % 65536)) (hx := (zScr_r _ _)) (hc := (by have := Int.emod_nonneg (zScr G ((p : Int) + 2).toNat) (show (65536 : Int) ≠ 0 by decide); have := Int.emod_lt_of_pos (zScr G ((p : Int) + 2).toNat) (show (0 : Int) < 65536 by decide); exact ⟨by omega, by omega⟩))
  have bd := bd_needAt (σ := σ) (x := (zScr G ((p : Int) + 1).toNat)) (c := (zScr G ((p : Int) + 2).toNat % 65536))
  rw [← eo] at w0 bd
  refine z_aload_n (pc' := 675) (j := 1) (by decide +kernel) rfl rfl ?_
  refine z_aload_n (pc' := 676) (j := 0) (by decide +kernel) rfl rfl ?_
  refine z_iload (pc' := 678) (j := 5) (by decide +kernel) rfl rfl ?_
  refine z_iconst (pc' := 679) (n := 1) (by decide +kernel) rfl ?_
  refine z_iadd (pc' := 680) (by decide +kernel) rfl ?_
  refine z_sld (pc' := 681) (by decide +kernel) (hs 1 (by decide) (by decide)) rfl ?_
  refine z_aload_n (pc' := 682) (j := 0) (by decide +kernel) rfl rfl ?_
  refine z_iload (pc' := 684) (j := 5) (by decide +kernel) rfl rfl ?_
  refine z_iconst (pc' := 685) (n := 2) (by decide +kernel) rfl ?_
  refine z_iadd (pc' := 686) (by decide +kernel) rfl ?_
  refine z_sld (pc' := 687) (by decide +kernel) (hs 2 (by decide) (by decide)) rfl ?_
  refine z_i2c (pc' := 688) (by decide +kernel) rfl ?_
  refine z_aload_n (pc' := 689) (j := 3) (by decide +kernel) rfl rfl ?_
  refine z_callSH (pc' := 692) (idx := 216) (mj := m_L_needAt) (av := [.ref 0, iv (zScr G ((p : Int) + 1).toNat), iv (zScr G ((p : Int) + 2).toNat % 65536), .ref 320]) (n := 4) (d' := 30) (by decide +kernel) rfl k_L_needAt (amM5 30 rfl (by decide +kernel)) rfl (by decide) (am_le rfl) rfl (am_le rfl) rfl (ZM.mono w0 fun r W hw => ?_)
  obtain ⟨rfl, hI, fr, hP⟩ := hw
  change ZP G 1500 m_law 692 [some (.ref 1000060), some (.ref 0), some (.ref 300), some (.ref 320), some (.ref 321), some (iv (p : Int)), l6, l7, l8] [iv (o.1 : Int)] W _
  refine z_istore (pc' := 694) (j := 6) (ls' := [some (.ref 1000060), some (.ref 0), some (.ref 300), some (.ref 320), some (.ref 321), some (iv (p : Int)), some (iv (o.1 : Int)), l7, l8]) (by decide +kernel) (by decide) rfl rfl ?_
  obtain ⟨B, hB⟩ := H.im1 fr
  have hw2 := H.hw hn fr
  have d0 := d_needAt (G := G) (x := (zScr G ((p : Int) + 1).toNat)) (c := (zScr G ((p : Int) + 2).toNat % 65536)) (h := hB) (ho := H.ok) (hz := ⟨hw2.1, by omega⟩) (hx := (zScr_r _ _)) (hc := (by have := Int.emod_nonneg (zScr G ((p : Int) + 2).toNat) (show (65536 : Int) ≠ 0 by decide); have := Int.emod_lt_of_pos (zScr G ((p : Int) + 2).toNat) (show (0 : Int) < 65536 by decide); exact ⟨by omega, by omega⟩))
  rw [← eo] at d0
  refine z_aload_n (pc' := 695) (j := 2) (by decide +kernel) rfl rfl ?_
  refine z_aload_n (pc' := 696) (j := 0) (by decide +kernel) rfl rfl ?_
  refine z_iload (pc' := 698) (j := 5) (by decide +kernel) rfl rfl ?_
  refine z_iconst (pc' := 699) (n := 1) (by decide +kernel) rfl ?_
  refine z_iadd (pc' := 700) (by decide +kernel) rfl ?_
  refine z_sld (pc' := 701) (by decide +kernel) (hs 1 (by decide) (by decide)) rfl ?_
  refine z_aload_n (pc' := 702) (j := 0) (by decide +kernel) rfl rfl ?_
  refine z_iload (pc' := 704) (j := 5) (by decide +kernel) rfl rfl ?_
  refine z_iconst (pc' := 705) (n := 2) (by decide +kernel) rfl ?_
  refine z_iadd (pc' := 706) (by decide +kernel) rfl ?_
  refine z_sld (pc' := 707) (by decide +kernel) (hs 2 (by decide) (by decide)) rfl ?_
  refine z_i2c (pc' := 708) (by decide +kernel) rfl ?_
  refine z_callV (pc' := 711) (idx := 218) (mj := m_X12_needAt) (av := [iv (zScr G ((p : Int) + 1).toNat), iv (zScr G ((p : Int) + 2).toNat % 65536)]) (n := 2) (ci := 12) (b := 300) (d' := 12) (by decide +kernel) rfl k_X12_needAt l_RL_218 rfl (by decide) (am_le rfl) rfl (am_le rfl) hB.1.o.1 hB.1.o.2 rfl (ZM.mono d0 fun r V hv => ?_)
  obtain ⟨⟨v, rfl, ev⟩, ht, hM, vV⟩ := hv
  obtain ⟨N, eL, eD⟩ := H.nx hn hI fr ok hM vV
  change ZP G 1500 m_law 711 [some (.ref 1000060), some (.ref 0), some (.ref 300), some (.ref 320), some (.ref 321), some (iv (p : Int)), some (iv (o.1 : Int)), l7, l8] [iv v] V _
  refine z_istore (pc' := 713) (j := 7) (ls' := [some (.ref 1000060), some (.ref 0), some (.ref 300), some (.ref 320), some (.ref 321), some (iv (p : Int)), some (iv (o.1 : Int)), some (iv v), l8]) (by decide +kernel) (by decide) rfl rfl ?_
  refine z_aload_n (pc' := 714) (j := 2) (by decide +kernel) rfl rfl ?_
  obtain ⟨B2, hB2⟩ := hM
  refine z_callV (pc' := 717) (idx := 190) (mj := m_X12_thrown) (av := []) (n := 0) (ci := 12) (b := 300) (d' := 0) (by decide +kernel) rfl k_X12_thrown l_RL_190 rfl (by decide) (am_le rfl) rfl (am_le rfl) hB2.1.o.1 hB2.1.o.2 rfl (zKf (s_thrown hB2.1) ?_)
  rw [ht]
  change ZP G 1500 m_law 717 [some (.ref 1000060), some (.ref 0), some (.ref 300), some (.ref 320), some (.ref 321), some (iv (p : Int)), some (iv (o.1 : Int)), some (iv v), l8] [iv (o.1 : Int)] V _
  refine z_iload (pc' := 719) (j := 6) (by decide +kernel) rfl rfl ?_
  refine z_same (pc' := 722) (tgt := 724) (off := 5) (by decide +kernel) (by decide) rfl ?_
  refine z_iload (pc' := 726) (j := 6) (by decide +kernel) rfl rfl ?_
  refine z_if_ne (pc' := 729) (tgt := 741) (off := 15) (by decide +kernel) (by decide) rfl ⟨by omega, by omega⟩ ?_
  by_cases c0 : (o.1 : Int) = 0
  case neg =>
    rw [if_neg c0]
    refine z_goto (tgt := 3364) (off := 2623) (by decide +kernel) (by decide) ?_
    exact k _ _ _ _ _ N
  rw [if_pos c0]
  have c1 : o.1 = 0 := by omega
  obtain rfl := ev c1
  refine z_aload_n (pc' := 730) (j := 3) (by decide +kernel) rfl rfl ?_
  refine z_iconst (pc' := 731) (n := 0) (by decide +kernel) rfl ?_
  refine z_laload (pc' := 732) (by decide +kernel) N.oL ⟨by decide, by decide, by decide⟩ rfl ?_
  rw [show zL V 320 ((0 : Int)).toNat = rI o.2.1 from (congrFun eL 0).trans (hP c1)]
  refine z_iload (pc' := 734) (j := 7) (by decide +kernel) rfl rfl ?_
  refine z_i2lr (pc' := 735) (by decide +kernel) rfl ?_
  refine z_lsame (pc' := 736) (by decide +kernel) rfl ?_
  refine z_if_eq (pc' := 739) (tgt := 741) (off := 5) (by decide +kernel) (by decide) rfl (by decide) ?_
  rw [if_pos rfl]
  refine z_goto (tgt := 3364) (off := 2623) (by decide +kernel) (by decide) ?_
  exact k _ _ _ _ _ N
theorem lc_ring {G : Gx} {Q : Rv → Zm → Prop} {Z : Zm} {σ : St} {n p : Nat} {l6 l7 l8 : Option Value} (H : lwI n Z σ) (hn : n < 512) (hs : lwK G p) (k : lwN G p n Q) : ZP G 1500 m_law 744 [some (.ref 1000060), some (.ref 0), some (.ref 300), some (.ref 320), some (.ref 321), some (iv (p : Int)), l6, l7, l8] [] Z Q := by
  obtain ⟨o, eo⟩ : ∃ o, o = o_ring σ (zScr G ((p : Int) + 1).toNat) (zScr G ((p : Int) + 2).toNat) := ⟨_, rfl⟩
  have ok : okS o.2.2 := by rw [eo]; exact k_ring (x := (zScr G ((p : Int) + 1).toNat)) (y := (zScr G ((p : Int) + 2).toNat)) H.ok
  have w0 := w_L_ring (G := G) (h := H.ic) (ho := H.ok) (hz := H.hz hn) (hou := H.oL) (x := (zScr G ((p : Int) + 1).toNat)) (y := (zScr G ((p : Int) + 2).toNat)) (hx := (zScr_r _ _)) (hy := (zScr_r _ _))
  have bd := bd_ring (σ := σ) (x := (zScr G ((p : Int) + 1).toNat)) (y := (zScr G ((p : Int) + 2).toNat))
  rw [← eo] at w0 bd
  refine z_aload_n (pc' := 745) (j := 1) (by decide +kernel) rfl rfl ?_
  refine z_aload_n (pc' := 746) (j := 0) (by decide +kernel) rfl rfl ?_
  refine z_iload (pc' := 748) (j := 5) (by decide +kernel) rfl rfl ?_
  refine z_iconst (pc' := 749) (n := 1) (by decide +kernel) rfl ?_
  refine z_iadd (pc' := 750) (by decide +kernel) rfl ?_
  refine z_sld (pc' := 751) (by decide +kernel) (hs 1 (by decide) (by decide)) rfl ?_
  refine z_aload_n (pc' := 752) (j := 0) (by decide +kernel) rfl rfl ?_
  refine z_iload (pc' := 754) (j := 5) (by decide +kernel) rfl rfl ?_
  refine z_iconst (pc' := 755) (n := 2) (by decide +kernel) rfl ?_
  refine z_iadd (pc' := 756) (by decide +kernel) rfl ?_
  refine z_sld (pc' := 757) (by decide +kernel) (hs 2 (by decide) (by decide)) rfl ?_
  refine z_aload_n (pc' := 758) (j := 3) (by decide +kernel) rfl rfl ?_
  refine z_callSH (pc' := 761) (idx := 219) (mj := m_L_ring) (av := [.ref 0, iv (zScr G ((p : Int) + 1).toNat), iv (zScr G ((p : Int) + 2).toNat), .ref 320]) (n := 4) (d' := 30) (by decide +kernel) rfl k_L_ring (amM5 38 rfl (by decide +kernel)) rfl (by decide) (am_le rfl) rfl (am_le rfl) rfl (ZM.mono w0 fun r W hw => ?_)
  obtain ⟨rfl, hI, fr, hP⟩ := hw
  change ZP G 1500 m_law 761 [some (.ref 1000060), some (.ref 0), some (.ref 300), some (.ref 320), some (.ref 321), some (iv (p : Int)), l6, l7, l8] [iv (o.1 : Int)] W _
  refine z_istore (pc' := 763) (j := 6) (ls' := [some (.ref 1000060), some (.ref 0), some (.ref 300), some (.ref 320), some (.ref 321), some (iv (p : Int)), some (iv (o.1 : Int)), l7, l8]) (by decide +kernel) (by decide) rfl rfl ?_
  obtain ⟨B, hB⟩ := H.im1 fr
  have hw2 := H.hw hn fr
  have d0 := d_ring (G := G) (x := (zScr G ((p : Int) + 1).toNat)) (y := (zScr G ((p : Int) + 2).toNat)) (h := hB) (ho := H.ok) (hz := ⟨hw2.1, by omega⟩) (hx := (zScr_r _ _)) (hy := (zScr_r _ _))
  rw [← eo] at d0
  refine z_aload_n (pc' := 764) (j := 2) (by decide +kernel) rfl rfl ?_
  refine z_aload_n (pc' := 765) (j := 0) (by decide +kernel) rfl rfl ?_
  refine z_iload (pc' := 767) (j := 5) (by decide +kernel) rfl rfl ?_
  refine z_iconst (pc' := 768) (n := 1) (by decide +kernel) rfl ?_
  refine z_iadd (pc' := 769) (by decide +kernel) rfl ?_
  refine z_sld (pc' := 770) (by decide +kernel) (hs 1 (by decide) (by decide)) rfl ?_
  refine z_aload_n (pc' := 771) (j := 0) (by decide +kernel) rfl rfl ?_
  refine z_iload (pc' := 773) (j := 5) (by decide +kernel) rfl rfl ?_
  refine z_iconst (pc' := 774) (n := 2) (by decide +kernel) rfl ?_
  refine z_iadd (pc' := 775) (by decide +kernel) rfl ?_
  refine z_sld (pc' := 776) (by decide +kernel) (hs 2 (by decide) (by decide)) rfl ?_
  refine z_callV (pc' := 779) (idx := 222) (mj := m_X12_ring) (av := [iv (zScr G ((p : Int) + 1).toNat), iv (zScr G ((p : Int) + 2).toNat)]) (n := 2) (ci := 12) (b := 300) (d' := 12) (by decide +kernel) rfl k_X12_ring l_RL_222 rfl (by decide) (am_le rfl) rfl (am_le rfl) hB.1.o.1 hB.1.o.2 rfl (ZM.mono d0 fun r V hv => ?_)
  obtain ⟨⟨v, rfl, ev⟩, ht, hM, vV⟩ := hv
  obtain ⟨N, eL, eD⟩ := H.nx hn hI fr ok hM vV
  change ZP G 1500 m_law 779 [some (.ref 1000060), some (.ref 0), some (.ref 300), some (.ref 320), some (.ref 321), some (iv (p : Int)), some (iv (o.1 : Int)), l7, l8] [iv v] V _
  refine z_istore (pc' := 781) (j := 7) (ls' := [some (.ref 1000060), some (.ref 0), some (.ref 300), some (.ref 320), some (.ref 321), some (iv (p : Int)), some (iv (o.1 : Int)), some (iv v), l8]) (by decide +kernel) (by decide) rfl rfl ?_
  refine z_aload_n (pc' := 782) (j := 2) (by decide +kernel) rfl rfl ?_
  obtain ⟨B2, hB2⟩ := hM
  refine z_callV (pc' := 785) (idx := 190) (mj := m_X12_thrown) (av := []) (n := 0) (ci := 12) (b := 300) (d' := 0) (by decide +kernel) rfl k_X12_thrown l_RL_190 rfl (by decide) (am_le rfl) rfl (am_le rfl) hB2.1.o.1 hB2.1.o.2 rfl (zKf (s_thrown hB2.1) ?_)
  rw [ht]
  change ZP G 1500 m_law 785 [some (.ref 1000060), some (.ref 0), some (.ref 300), some (.ref 320), some (.ref 321), some (iv (p : Int)), some (iv (o.1 : Int)), some (iv v), l8] [iv (o.1 : Int)] V _
  refine z_iload (pc' := 787) (j := 6) (by decide +kernel) rfl rfl ?_
  refine z_same (pc' := 790) (tgt := 792) (off := 5) (by decide +kernel) (by decide) rfl ?_
  refine z_iload (pc' := 794) (j := 6) (by decide +kernel) rfl rfl ?_
  refine z_if_ne (pc' := 797) (tgt := 809) (off := 15) (by decide +kernel) (by decide) rfl ⟨by omega, by omega⟩ ?_
  by_cases c0 : (o.1 : Int) = 0
  case neg =>
    rw [if_neg c0]
    refine z_goto (tgt := 3364) (off := 2555) (by decide +kernel) (by decide) ?_
    exact k _ _ _ _ _ N
  rw [if_pos c0]
  have c1 : o.1 = 0 := by omega
  obtain rfl := ev c1
  refine z_aload_n (pc' := 798) (j := 3) (by decide +kernel) rfl rfl ?_
  refine z_iconst (pc' := 799) (n := 0) (by decide +kernel) rfl ?_
  refine z_laload (pc' := 800) (by decide +kernel) N.oL ⟨by decide, by decide, by decide⟩ rfl ?_
  rw [show zL V 320 ((0 : Int)).toNat = rI o.2.1 from (congrFun eL 0).trans (hP c1)]
  refine z_iload (pc' := 802) (j := 7) (by decide +kernel) rfl rfl ?_
  refine z_i2lr (pc' := 803) (by decide +kernel) rfl ?_
  refine z_lsame (pc' := 804) (by decide +kernel) rfl ?_
  refine z_if_eq (pc' := 807) (tgt := 809) (off := 5) (by decide +kernel) (by decide) rfl (by decide) ?_
  rw [if_pos rfl]
  refine z_goto (tgt := 3364) (off := 2555) (by decide +kernel) (by decide) ?_
  exact k _ _ _ _ _ N
theorem lc_undo {G : Gx} {Q : Rv → Zm → Prop} {Z : Zm} {σ : St} {n p : Nat} {l6 l7 l8 : Option Value} (H : lwI n Z σ) (hn : n < 512) (hs : lwK G p) (k : lwN G p n Q) : ZP G 1500 m_law 812 [some (.ref 1000060), some (.ref 0), some (.ref 300), some (.ref 320), some (.ref 321), some (iv (p : Int)), l6, l7, l8] [] Z Q := by
  obtain ⟨o, eo⟩ : ∃ o, o = o_undo σ := ⟨_, rfl⟩
  have ok : okS o.2.2 := by rw [eo]; exact k_undo  H.ok
  have w0 := w_L_undo (G := G) (h := H.ic) (ho := H.ok) (hz := H.hz hn) (hou := H.oL) 
  have bd := bd_undo (σ := σ)
  rw [← eo] at w0 bd
  refine z_aload_n (pc' := 813) (j := 1) (by decide +kernel) rfl rfl ?_
  refine z_aload_n (pc' := 814) (j := 3) (by decide +kernel) rfl rfl ?_
  refine z_callSH (pc' := 817) (idx := 223) (mj := m_L_undo) (av := [.ref 0, .ref 320]) (n := 2) (d' := 30) (by decide +kernel) rfl k_L_undo (amM5 45 rfl (by decide +kernel)) rfl (by decide) (am_le rfl) rfl (am_le rfl) rfl (ZM.mono w0 fun r W hw => ?_)
  obtain ⟨rfl, hI, fr, hP⟩ := hw
  change ZP G 1500 m_law 817 [some (.ref 1000060), some (.ref 0), some (.ref 300), some (.ref 320), some (.ref 321), some (iv (p : Int)), l6, l7, l8] [iv (o.1 : Int)] W _
  refine z_istore (pc' := 819) (j := 6) (ls' := [some (.ref 1000060), some (.ref 0), some (.ref 300), some (.ref 320), some (.ref 321), some (iv (p : Int)), some (iv (o.1 : Int)), l7, l8]) (by decide +kernel) (by decide) rfl rfl ?_
  obtain ⟨B, hB⟩ := H.im1 fr
  have hw2 := H.hw hn fr
  have d0 := d_undo (G := G) (h := hB) (ho := H.ok) (hz := ⟨hw2.1, by omega⟩) 
  rw [← eo] at d0
  refine z_aload_n (pc' := 820) (j := 2) (by decide +kernel) rfl rfl ?_
  refine z_callV (pc' := 823) (idx := 226) (mj := m_X12_undo) (av := []) (n := 0) (ci := 12) (b := 300) (d' := 12) (by decide +kernel) rfl k_X12_undo l_RL_226 rfl (by decide) (am_le rfl) rfl (am_le rfl) hB.1.o.1 hB.1.o.2 rfl (ZM.mono d0 fun r V hv => ?_)
  obtain ⟨⟨v, rfl, ev⟩, ht, hM, vV⟩ := hv
  obtain ⟨N, eL, eD⟩ := H.nx hn hI fr ok hM vV
  change ZP G 1500 m_law 823 [some (.ref 1000060), some (.ref 0), some (.ref 300), some (.ref 320), some (.ref 321), some (iv (p : Int)), some (iv (o.1 : Int)), l7, l8] [iv v] V _
  refine z_istore (pc' := 825) (j := 7) (ls' := [some (.ref 1000060), some (.ref 0), some (.ref 300), some (.ref 320), some (.ref 321), some (iv (p : Int)), some (iv (o.1 : Int)), some (iv v), l8]) (by decide +kernel) (by decide) rfl rfl ?_
  refine z_aload_n (pc' := 826) (j := 2) (by decide +kernel) rfl rfl ?_
  obtain ⟨B2, hB2⟩ := hM
  refine z_callV (pc' := 829) (idx := 190) (mj := m_X12_thrown) (av := []) (n := 0) (ci := 12) (b := 300) (d' := 0) (by decide +kernel) rfl k_X12_thrown l_RL_190 rfl (by decide) (am_le rfl) rfl (am_le rfl) hB2.1.o.1 hB2.1.o.2 rfl (zKf (s_thrown hB2.1) ?_)
  rw [ht]
  change ZP G 1500 m_law 829 [some (.ref 1000060), some (.ref 0), some (.ref 300), some (.ref 320), some (.ref 321), some (iv (p : Int)), some (iv (o.1 : Int)), some (iv v), l8] [iv (o.1 : Int)] V _
  refine z_iload (pc' := 831) (j := 6) (by decide +kernel) rfl rfl ?_
  refine z_same (pc' := 834) (tgt := 836) (off := 5) (by decide +kernel) (by decide) rfl ?_
  refine z_iload (pc' := 838) (j := 6) (by decide +kernel) rfl rfl ?_
  refine z_if_ne (pc' := 841) (tgt := 853) (off := 15) (by decide +kernel) (by decide) rfl ⟨by omega, by omega⟩ ?_
  by_cases c0 : (o.1 : Int) = 0
  case neg =>
    rw [if_neg c0]
    refine z_goto (tgt := 3364) (off := 2511) (by decide +kernel) (by decide) ?_
    exact k _ _ _ _ _ N
  rw [if_pos c0]
  have c1 : o.1 = 0 := by omega
  obtain rfl := ev c1
  refine z_aload_n (pc' := 842) (j := 3) (by decide +kernel) rfl rfl ?_
  refine z_iconst (pc' := 843) (n := 0) (by decide +kernel) rfl ?_
  refine z_laload (pc' := 844) (by decide +kernel) N.oL ⟨by decide, by decide, by decide⟩ rfl ?_
  rw [show zL V 320 ((0 : Int)).toNat = rI o.2.1 from (congrFun eL 0).trans (hP c1)]
  refine z_iload (pc' := 846) (j := 7) (by decide +kernel) rfl rfl ?_
  refine z_i2lr (pc' := 847) (by decide +kernel) rfl ?_
  refine z_lsame (pc' := 848) (by decide +kernel) rfl ?_
  refine z_if_eq (pc' := 851) (tgt := 853) (off := 5) (by decide +kernel) (by decide) rfl (by decide) ?_
  rw [if_pos rfl]
  refine z_goto (tgt := 3364) (off := 2511) (by decide +kernel) (by decide) ?_
  exact k _ _ _ _ _ N
theorem lc_type {G : Gx} {Q : Rv → Zm → Prop} {Z : Zm} {σ : St} {n p : Nat} {l6 l7 l8 : Option Value} (H : lwI n Z σ) (hn : n < 512) (hs : lwK G p) (k : lwN G p n Q) : ZP G 1500 m_law 856 [some (.ref 1000060), some (.ref 0), some (.ref 300), some (.ref 320), some (.ref 321), some (iv (p : Int)), l6, l7, l8] [] Z Q := by
  obtain ⟨o, eo⟩ : ∃ o, o = o_type σ (zScr G ((p : Int) + 1).toNat % 65536) := ⟨_, rfl⟩
  have ok : okS o.2.2 := by rw [eo]; exact k_type (c := (zScr G ((p : Int) + 1).toNat % 65536)) H.ok
  have w0 := w_L_type (G := G) (h := H.ic) (ho := H.ok) (hz := H.hz hn) (hou := H.oL) (c := (zScr G ((p : Int) + 1).toNat % 65536)) (hc := (by have := Int.emod_nonneg (zScr G ((p : Int) + 1).toNat) (show (65536 : Int) ≠ 0 by decide); have := Int.emod_lt_of_pos (zScr G ((p : Int) + 1).toNat) (show (0 : Int) < 65536 by decide); exact ⟨by omega, by omega⟩))
  have bd := bd_type (σ := σ) (c := (zScr G ((p : Int) + 1).toNat % 65536))
  rw [← eo] at w0 bd
  refine z_aload_n (pc' := 857) (j := 1) (by decide +kernel) rfl rfl ?_
  refine z_aload_n (pc' := 858) (j := 0) (by decide +kernel) rfl rfl ?_
  refine z_iload (pc' := 860) (j := 5) (by decide +kernel) rfl rfl ?_
  refine z_iconst (pc' := 861) (n := 1) (by decide +kernel) rfl ?_
  refine z_iadd (pc' := 862) (by decide +kernel) rfl ?_
  refine z_sld (pc' := 863) (by decide +kernel) (hs 1 (by decide) (by decide)) rfl ?_
  refine z_i2c (pc' := 864) (by decide +kernel) rfl ?_
  refine z_aload_n (pc' := 865) (j := 3) (by decide +kernel) rfl rfl ?_
  refine z_callSH (pc' := 868) (idx := 227) (mj := m_L_type) (av := [.ref 0, iv (zScr G ((p : Int) + 1).toNat % 65536), .ref 320]) (n := 3) (d' := 30) (by decide +kernel) rfl k_L_type (amM5 57 rfl (by decide +kernel)) rfl (by decide) (am_le rfl) rfl (am_le rfl) rfl (ZM.mono w0 fun r W hw => ?_)
  obtain ⟨rfl, hI, fr, hP⟩ := hw
  change ZP G 1500 m_law 868 [some (.ref 1000060), some (.ref 0), some (.ref 300), some (.ref 320), some (.ref 321), some (iv (p : Int)), l6, l7, l8] [iv (o.1 : Int)] W _
  refine z_istore (pc' := 870) (j := 6) (ls' := [some (.ref 1000060), some (.ref 0), some (.ref 300), some (.ref 320), some (.ref 321), some (iv (p : Int)), some (iv (o.1 : Int)), l7, l8]) (by decide +kernel) (by decide) rfl rfl ?_
  obtain ⟨B, hB⟩ := H.im1 fr
  have hw2 := H.hw hn fr
  have d0 := d_type (G := G) (c := (zScr G ((p : Int) + 1).toNat % 65536)) (h := hB) (ho := H.ok) (hz := ⟨hw2.1, by omega⟩) (hc := (by have := Int.emod_nonneg (zScr G ((p : Int) + 1).toNat) (show (65536 : Int) ≠ 0 by decide); have := Int.emod_lt_of_pos (zScr G ((p : Int) + 1).toNat) (show (0 : Int) < 65536 by decide); exact ⟨by omega, by omega⟩))
  rw [← eo] at d0
  refine z_aload_n (pc' := 871) (j := 2) (by decide +kernel) rfl rfl ?_
  refine z_aload_n (pc' := 872) (j := 0) (by decide +kernel) rfl rfl ?_
  refine z_iload (pc' := 874) (j := 5) (by decide +kernel) rfl rfl ?_
  refine z_iconst (pc' := 875) (n := 1) (by decide +kernel) rfl ?_
  refine z_iadd (pc' := 876) (by decide +kernel) rfl ?_
  refine z_sld (pc' := 877) (by decide +kernel) (hs 1 (by decide) (by decide)) rfl ?_
  refine z_i2c (pc' := 878) (by decide +kernel) rfl ?_
  refine z_callV (pc' := 881) (idx := 230) (mj := m_X12_type) (av := [iv (zScr G ((p : Int) + 1).toNat % 65536)]) (n := 1) (ci := 12) (b := 300) (d' := 12) (by decide +kernel) rfl k_X12_type l_RL_230 rfl (by decide) (am_le rfl) rfl (am_le rfl) hB.1.o.1 hB.1.o.2 rfl (ZM.mono d0 fun r V hv => ?_)
  obtain ⟨⟨v, rfl, ev⟩, ht, hM, vV⟩ := hv
  obtain ⟨N, eL, eD⟩ := H.nx hn hI fr ok hM vV
  change ZP G 1500 m_law 881 [some (.ref 1000060), some (.ref 0), some (.ref 300), some (.ref 320), some (.ref 321), some (iv (p : Int)), some (iv (o.1 : Int)), l7, l8] [iv v] V _
  refine z_istore (pc' := 883) (j := 7) (ls' := [some (.ref 1000060), some (.ref 0), some (.ref 300), some (.ref 320), some (.ref 321), some (iv (p : Int)), some (iv (o.1 : Int)), some (iv v), l8]) (by decide +kernel) (by decide) rfl rfl ?_
  refine z_aload_n (pc' := 884) (j := 2) (by decide +kernel) rfl rfl ?_
  obtain ⟨B2, hB2⟩ := hM
  refine z_callV (pc' := 887) (idx := 190) (mj := m_X12_thrown) (av := []) (n := 0) (ci := 12) (b := 300) (d' := 0) (by decide +kernel) rfl k_X12_thrown l_RL_190 rfl (by decide) (am_le rfl) rfl (am_le rfl) hB2.1.o.1 hB2.1.o.2 rfl (zKf (s_thrown hB2.1) ?_)
  rw [ht]
  change ZP G 1500 m_law 887 [some (.ref 1000060), some (.ref 0), some (.ref 300), some (.ref 320), some (.ref 321), some (iv (p : Int)), some (iv (o.1 : Int)), some (iv v), l8] [iv (o.1 : Int)] V _
  refine z_iload (pc' := 889) (j := 6) (by decide +kernel) rfl rfl ?_
  refine z_same (pc' := 892) (tgt := 894) (off := 5) (by decide +kernel) (by decide) rfl ?_
  refine z_iload (pc' := 896) (j := 6) (by decide +kernel) rfl rfl ?_
  refine z_if_ne (pc' := 899) (tgt := 911) (off := 15) (by decide +kernel) (by decide) rfl ⟨by omega, by omega⟩ ?_
  by_cases c0 : (o.1 : Int) = 0
  case neg =>
    rw [if_neg c0]
    refine z_goto (tgt := 3364) (off := 2453) (by decide +kernel) (by decide) ?_
    exact k _ _ _ _ _ N
  rw [if_pos c0]
  have c1 : o.1 = 0 := by omega
  obtain rfl := ev c1
  refine z_aload_n (pc' := 900) (j := 3) (by decide +kernel) rfl rfl ?_
  refine z_iconst (pc' := 901) (n := 0) (by decide +kernel) rfl ?_
  refine z_laload (pc' := 902) (by decide +kernel) N.oL ⟨by decide, by decide, by decide⟩ rfl ?_
  rw [show zL V 320 ((0 : Int)).toNat = rI o.2.1 from (congrFun eL 0).trans (hP c1)]
  refine z_iload (pc' := 904) (j := 7) (by decide +kernel) rfl rfl ?_
  refine z_i2lr (pc' := 905) (by decide +kernel) rfl ?_
  refine z_lsame (pc' := 906) (by decide +kernel) rfl ?_
  refine z_if_eq (pc' := 909) (tgt := 911) (off := 5) (by decide +kernel) (by decide) rfl (by decide) ?_
  rw [if_pos rfl]
  refine z_goto (tgt := 3364) (off := 2453) (by decide +kernel) (by decide) ?_
  exact k _ _ _ _ _ N
theorem lc_erase {G : Gx} {Q : Rv → Zm → Prop} {Z : Zm} {σ : St} {n p : Nat} {l6 l7 l8 : Option Value} (H : lwI n Z σ) (hn : n < 512) (hs : lwK G p) (k : lwN G p n Q) : ZP G 1500 m_law 914 [some (.ref 1000060), some (.ref 0), some (.ref 300), some (.ref 320), some (.ref 321), some (iv (p : Int)), l6, l7, l8] [] Z Q := by
  obtain ⟨o, eo⟩ : ∃ o, o = o_erase σ := ⟨_, rfl⟩
  have ok : okS o.2.2 := by rw [eo]; exact k_erase  H.ok
  have w0 := c_erase (G := G) (h := H.ic)
  have bd : (o_erase σ).1 = 0 := rfl
  rw [← eo] at w0 bd
  refine z_aload_n (pc' := 915) (j := 1) (by decide +kernel) rfl rfl ?_
  refine z_callV (pc' := 918) (idx := 231) (mj := m_X11_erase) (av := []) (n := 0) (ci := 11) (b := 0) (d' := 12) (by decide +kernel) rfl k_X11_erase l_RL_231 rfl (by decide) (am_le rfl) rfl (am_le rfl) H.ic.1.o.1 H.ic.1.o.2 rfl (ZM.mono w0 fun r W hw => ?_)
  obtain ⟨rfl, hI, fr'⟩ := hw
  have fr := wF fr'
  rw [rO, if_pos bd]
  change ZP G 1500 m_law 918 [some (.ref 1000060), some (.ref 0), some (.ref 300), some (.ref 320), some (.ref 321), some (iv (p : Int)), l6, l7, l8] [iv o.2.1] W _
  obtain ⟨B, hB⟩ := H.im1 fr
  have hw2 := H.hw hn fr
  have d0 := d_erase (G := G) (h := hB) (ho := H.ok) (hz := hw2.1) 
  rw [← eo] at d0
  refine z_aload_n (pc' := 919) (j := 2) (by decide +kernel) rfl rfl ?_
  refine z_callV (pc' := 922) (idx := 234) (mj := m_X12_erase) (av := []) (n := 0) (ci := 12) (b := 300) (d' := 12) (by decide +kernel) rfl k_X12_erase l_RL_234 rfl (by decide) (am_le rfl) rfl (am_le rfl) hB.1.o.1 hB.1.o.2 rfl (ZM.mono d0 fun r V hv => ?_)
  obtain ⟨⟨v, rfl, ev⟩, ht, hM, vV⟩ := hv
  obtain ⟨N, eL, eD⟩ := H.nx hn hI fr ok hM vV
  change ZP G 1500 m_law 922 [some (.ref 1000060), some (.ref 0), some (.ref 300), some (.ref 320), some (.ref 321), some (iv (p : Int)), l6, l7, l8] [iv v, iv o.2.1] V _
  obtain rfl := ev bd
  refine z_same (pc' := 925) (tgt := 3364) (off := 2442) (by decide +kernel) (by decide) rfl ?_
  exact k _ _ _ _ _ N
theorem lc_signAt {G : Gx} {Q : Rv → Zm → Prop} {Z : Zm} {σ : St} {n p : Nat} {l6 l7 l8 : Option Value} (H : lwI n Z σ) (hn : n < 512) (hs : lwK G p) (k : lwN G p n Q) : ZP G 1500 m_law 927 [some (.ref 1000060), some (.ref 0), some (.ref 300), some (.ref 320), some (.ref 321), some (iv (p : Int)), l6, l7, l8] [] Z Q := by
  obtain ⟨o, eo⟩ : ∃ o, o = o_signAt σ (zScr G ((p : Int) + 1).toNat) := ⟨_, rfl⟩
  have ok : okS o.2.2 := by rw [eo]; exact k_signAt (x := (zScr G ((p : Int) + 1).toNat)) H.ok
  have w0 := w_L_signAt (G := G) (h := H.ic) (ho := H.ok) (hz := H.hz hn) (hou := H.oL) (x := (zScr G ((p : Int) + 1).toNat)) (hx := (zScr_r _ _))
  have bd := bd_signAt (σ := σ) (x := (zScr G ((p : Int) + 1).toNat))
  rw [← eo] at w0 bd
  refine z_aload_n (pc' := 928) (j := 1) (by decide +kernel) rfl rfl ?_
  refine z_aload_n (pc' := 929) (j := 0) (by decide +kernel) rfl rfl ?_
  refine z_iload (pc' := 931) (j := 5) (by decide +kernel) rfl rfl ?_
  refine z_iconst (pc' := 932) (n := 1) (by decide +kernel) rfl ?_
  refine z_iadd (pc' := 933) (by decide +kernel) rfl ?_
  refine z_sld (pc' := 934) (by decide +kernel) (hs 1 (by decide) (by decide)) rfl ?_
  refine z_aload_n (pc' := 935) (j := 3) (by decide +kernel) rfl rfl ?_
  refine z_callSH (pc' := 938) (idx := 235) (mj := m_L_signAt) (av := [.ref 0, iv (zScr G ((p : Int) + 1).toNat), .ref 320]) (n := 3) (d' := 30) (by decide +kernel) rfl k_L_signAt (amM5 66 rfl (by decide +kernel)) rfl (by decide) (am_le rfl) rfl (am_le rfl) rfl (ZM.mono w0 fun r W hw => ?_)
  obtain ⟨rfl, hI, fr, hP⟩ := hw
  change ZP G 1500 m_law 938 [some (.ref 1000060), some (.ref 0), some (.ref 300), some (.ref 320), some (.ref 321), some (iv (p : Int)), l6, l7, l8] [iv (o.1 : Int)] W _
  refine z_istore (pc' := 940) (j := 6) (ls' := [some (.ref 1000060), some (.ref 0), some (.ref 300), some (.ref 320), some (.ref 321), some (iv (p : Int)), some (iv (o.1 : Int)), l7, l8]) (by decide +kernel) (by decide) rfl rfl ?_
  obtain ⟨B, hB⟩ := H.im1 fr
  have hw2 := H.hw hn fr
  have d0 := d_signAt (G := G) (x := (zScr G ((p : Int) + 1).toNat)) (h := hB) (ho := H.ok) (hz := hw2.1) (hx := (zScr_r _ _))
  rw [← eo] at d0
  refine z_aload_n (pc' := 941) (j := 2) (by decide +kernel) rfl rfl ?_
  refine z_aload_n (pc' := 942) (j := 0) (by decide +kernel) rfl rfl ?_
  refine z_iload (pc' := 944) (j := 5) (by decide +kernel) rfl rfl ?_
  refine z_iconst (pc' := 945) (n := 1) (by decide +kernel) rfl ?_
  refine z_iadd (pc' := 946) (by decide +kernel) rfl ?_
  refine z_sld (pc' := 947) (by decide +kernel) (hs 1 (by decide) (by decide)) rfl ?_
  refine z_callV (pc' := 950) (idx := 237) (mj := m_X12_signAt) (av := [iv (zScr G ((p : Int) + 1).toNat)]) (n := 1) (ci := 12) (b := 300) (d' := 12) (by decide +kernel) rfl k_X12_signAt l_RL_237 rfl (by decide) (am_le rfl) rfl (am_le rfl) hB.1.o.1 hB.1.o.2 rfl (ZM.mono d0 fun r V hv => ?_)
  obtain ⟨⟨v, rfl, ev⟩, ht, hM, vV⟩ := hv
  obtain ⟨N, eL, eD⟩ := H.nx hn hI fr ok hM vV
  change ZP G 1500 m_law 950 [some (.ref 1000060), some (.ref 0), some (.ref 300), some (.ref 320), some (.ref 321), some (iv (p : Int)), some (iv (o.1 : Int)), l7, l8] [iv v] V _
  refine z_istore (pc' := 952) (j := 7) (ls' := [some (.ref 1000060), some (.ref 0), some (.ref 300), some (.ref 320), some (.ref 321), some (iv (p : Int)), some (iv (o.1 : Int)), some (iv v), l8]) (by decide +kernel) (by decide) rfl rfl ?_
  refine z_aload_n (pc' := 953) (j := 2) (by decide +kernel) rfl rfl ?_
  obtain ⟨B2, hB2⟩ := hM
  refine z_callV (pc' := 956) (idx := 190) (mj := m_X12_thrown) (av := []) (n := 0) (ci := 12) (b := 300) (d' := 0) (by decide +kernel) rfl k_X12_thrown l_RL_190 rfl (by decide) (am_le rfl) rfl (am_le rfl) hB2.1.o.1 hB2.1.o.2 rfl (zKf (s_thrown hB2.1) ?_)
  rw [ht]
  change ZP G 1500 m_law 956 [some (.ref 1000060), some (.ref 0), some (.ref 300), some (.ref 320), some (.ref 321), some (iv (p : Int)), some (iv (o.1 : Int)), some (iv v), l8] [iv (o.1 : Int)] V _
  refine z_iload (pc' := 958) (j := 6) (by decide +kernel) rfl rfl ?_
  refine z_same (pc' := 961) (tgt := 963) (off := 5) (by decide +kernel) (by decide) rfl ?_
  refine z_iload (pc' := 965) (j := 6) (by decide +kernel) rfl rfl ?_
  refine z_if_ne (pc' := 968) (tgt := 980) (off := 15) (by decide +kernel) (by decide) rfl ⟨by omega, by omega⟩ ?_
  by_cases c0 : (o.1 : Int) = 0
  case neg =>
    rw [if_neg c0]
    refine z_goto (tgt := 3364) (off := 2384) (by decide +kernel) (by decide) ?_
    exact k _ _ _ _ _ N
  rw [if_pos c0]
  have c1 : o.1 = 0 := by omega
  obtain rfl := ev c1
  refine z_aload_n (pc' := 969) (j := 3) (by decide +kernel) rfl rfl ?_
  refine z_iconst (pc' := 970) (n := 0) (by decide +kernel) rfl ?_
  refine z_laload (pc' := 971) (by decide +kernel) N.oL ⟨by decide, by decide, by decide⟩ rfl ?_
  rw [show zL V 320 ((0 : Int)).toNat = rI o.2.1 from (congrFun eL 0).trans (hP c1)]
  refine z_iload (pc' := 973) (j := 7) (by decide +kernel) rfl rfl ?_
  refine z_i2lr (pc' := 974) (by decide +kernel) rfl ?_
  refine z_lsame (pc' := 975) (by decide +kernel) rfl ?_
  refine z_if_eq (pc' := 978) (tgt := 980) (off := 5) (by decide +kernel) (by decide) rfl (by decide) ?_
  rw [if_pos rfl]
  refine z_goto (tgt := 3364) (off := 2384) (by decide +kernel) (by decide) ?_
  exact k _ _ _ _ _ N
theorem lc_read {G : Gx} {Q : Rv → Zm → Prop} {Z : Zm} {σ : St} {n p : Nat} {l6 l7 l8 : Option Value} (H : lwI n Z σ) (hn : n < 512) (hs : lwK G p) (k : lwN G p n Q) : ZP G 1500 m_law 983 [some (.ref 1000060), some (.ref 0), some (.ref 300), some (.ref 320), some (.ref 321), some (iv (p : Int)), l6, l7, l8] [] Z Q := by
  obtain ⟨o, eo⟩ : ∃ o, o = o_read σ := ⟨_, rfl⟩
  have ok : okS o.2.2 := by rw [eo]; exact k_read  H.ok
  have w0 := c_read (G := G) (h := H.ic) (ho := H.ok)
  have bd : (o_read σ).1 = 0 := Nat.le_zero.mp (by unfold o_read; exact cIf_le (Nat.le_refl 0) (Nat.le_refl 0))
  rw [← eo] at w0 bd
  refine z_aload_n (pc' := 984) (j := 1) (by decide +kernel) rfl rfl ?_
  refine z_callV (pc' := 987) (idx := 238) (mj := m_X11_read) (av := []) (n := 0) (ci := 11) (b := 0) (d' := 12) (by decide +kernel) rfl k_X11_read l_RL_238 rfl (by decide) (am_le rfl) rfl (am_le rfl) H.ic.1.o.1 H.ic.1.o.2 rfl (ZM.mono w0 fun r W hw => ?_)
  obtain ⟨rfl, hI, fr'⟩ := hw
  have fr := wF fr'
  rw [rO, if_pos bd]
  change ZP G 1500 m_law 987 [some (.ref 1000060), some (.ref 0), some (.ref 300), some (.ref 320), some (.ref 321), some (iv (p : Int)), l6, l7, l8] [iv o.2.1] W _
  obtain ⟨B, hB⟩ := H.im1 fr
  have hw2 := H.hw hn fr
  have d0 := d_read (G := G) (h := hB) (ho := H.ok) (hz := ⟨hw2.1, by omega⟩) 
  rw [← eo] at d0
  refine z_aload_n (pc' := 988) (j := 2) (by decide +kernel) rfl rfl ?_
  refine z_callV (pc' := 991) (idx := 241) (mj := m_X12_read) (av := []) (n := 0) (ci := 12) (b := 300) (d' := 12) (by decide +kernel) rfl k_X12_read l_RL_241 rfl (by decide) (am_le rfl) rfl (am_le rfl) hB.1.o.1 hB.1.o.2 rfl (ZM.mono d0 fun r V hv => ?_)
  obtain ⟨⟨v, rfl, ev⟩, ht, hM, vV⟩ := hv
  obtain ⟨N, eL, eD⟩ := H.nx hn hI fr ok hM vV
  change ZP G 1500 m_law 991 [some (.ref 1000060), some (.ref 0), some (.ref 300), some (.ref 320), some (.ref 321), some (iv (p : Int)), l6, l7, l8] [iv v, iv o.2.1] V _
  obtain rfl := ev bd
  refine z_same (pc' := 994) (tgt := 3364) (off := 2373) (by decide +kernel) (by decide) rfl ?_
  exact k _ _ _ _ _ N
theorem lc_earliest {G : Gx} {Q : Rv → Zm → Prop} {Z : Zm} {σ : St} {n p : Nat} {l6 l7 l8 : Option Value} (H : lwI n Z σ) (hn : n < 512) (hs : lwK G p) (k : lwN G p n Q) : ZP G 1500 m_law 996 [some (.ref 1000060), some (.ref 0), some (.ref 300), some (.ref 320), some (.ref 321), some (iv (p : Int)), l6, l7, l8] [] Z Q := by
  obtain ⟨o, eo⟩ : ∃ o, o = o_earliest σ (zScr G ((p : Int) + 1).toNat) := ⟨_, rfl⟩
  have ok : okS o.2.2 := by rw [eo]; exact k_earliest (t := (zScr G ((p : Int) + 1).toNat)) H.ok
  have w0 := w_L_earliest (G := G) (h := H.ic) (ho := H.ok) (hz := H.hz hn) (hou := H.oL) (t := (zScr G ((p : Int) + 1).toNat)) (ht := (zScr_r _ _))
  have bd := bd_earliest (σ := σ) (t := (zScr G ((p : Int) + 1).toNat))
  rw [← eo] at w0 bd
  refine z_aload_n (pc' := 997) (j := 1) (by decide +kernel) rfl rfl ?_
  refine z_aload_n (pc' := 998) (j := 0) (by decide +kernel) rfl rfl ?_
  refine z_iload (pc' := 1000) (j := 5) (by decide +kernel) rfl rfl ?_
  refine z_iconst (pc' := 1001) (n := 1) (by decide +kernel) rfl ?_
  refine z_iadd (pc' := 1002) (by decide +kernel) rfl ?_
  refine z_sld (pc' := 1003) (by decide +kernel) (hs 1 (by decide) (by decide)) rfl ?_
  refine z_aload_n (pc' := 1004) (j := 3) (by decide +kernel) rfl rfl ?_
  refine z_callSH (pc' := 1007) (idx := 242) (mj := m_L_earliest) (av := [.ref 0, iv (zScr G ((p : Int) + 1).toNat), .ref 320]) (n := 3) (d' := 30) (by decide +kernel) rfl k_L_earliest (amM5 110 rfl (by decide +kernel)) rfl (by decide) (am_le rfl) rfl (am_le rfl) rfl (ZM.mono w0 fun r W hw => ?_)
  obtain ⟨rfl, hI, fr, hP⟩ := hw
  change ZP G 1500 m_law 1007 [some (.ref 1000060), some (.ref 0), some (.ref 300), some (.ref 320), some (.ref 321), some (iv (p : Int)), l6, l7, l8] [iv (o.1 : Int)] W _
  refine z_istore (pc' := 1009) (j := 6) (ls' := [some (.ref 1000060), some (.ref 0), some (.ref 300), some (.ref 320), some (.ref 321), some (iv (p : Int)), some (iv (o.1 : Int)), l7, l8]) (by decide +kernel) (by decide) rfl rfl ?_
  obtain ⟨B, hB⟩ := H.im1 fr
  have hw2 := H.hw hn fr
  have d0 := d_earliest (G := G) (t := (zScr G ((p : Int) + 1).toNat)) (h := hB) (ho := H.ok) (hz := hw2) (ht := (zScr_r _ _))
  rw [← eo] at d0
  refine z_aload_n (pc' := 1010) (j := 2) (by decide +kernel) rfl rfl ?_
  refine z_aload_n (pc' := 1011) (j := 0) (by decide +kernel) rfl rfl ?_
  refine z_iload (pc' := 1013) (j := 5) (by decide +kernel) rfl rfl ?_
  refine z_iconst (pc' := 1014) (n := 1) (by decide +kernel) rfl ?_
  refine z_iadd (pc' := 1015) (by decide +kernel) rfl ?_
  refine z_sld (pc' := 1016) (by decide +kernel) (hs 1 (by decide) (by decide)) rfl ?_
  refine z_callV (pc' := 1019) (idx := 244) (mj := m_X12_earliest) (av := [iv (zScr G ((p : Int) + 1).toNat)]) (n := 1) (ci := 12) (b := 300) (d' := 12) (by decide +kernel) rfl k_X12_earliest l_RL_244 rfl (by decide) (am_le rfl) rfl (am_le rfl) hB.1.o.1 hB.1.o.2 rfl (ZM.mono d0 fun r V hv => ?_)
  obtain ⟨⟨v, rfl, ev⟩, ht, hM, vV⟩ := hv
  obtain ⟨N, eL, eD⟩ := H.nx hn hI fr ok hM vV
  change ZP G 1500 m_law 1019 [some (.ref 1000060), some (.ref 0), some (.ref 300), some (.ref 320), some (.ref 321), some (iv (p : Int)), some (iv (o.1 : Int)), l7, l8] [iv v] V _
  refine z_istore (pc' := 1021) (j := 7) (ls' := [some (.ref 1000060), some (.ref 0), some (.ref 300), some (.ref 320), some (.ref 321), some (iv (p : Int)), some (iv (o.1 : Int)), some (iv v), l8]) (by decide +kernel) (by decide) rfl rfl ?_
  refine z_aload_n (pc' := 1022) (j := 2) (by decide +kernel) rfl rfl ?_
  obtain ⟨B2, hB2⟩ := hM
  refine z_callV (pc' := 1025) (idx := 190) (mj := m_X12_thrown) (av := []) (n := 0) (ci := 12) (b := 300) (d' := 0) (by decide +kernel) rfl k_X12_thrown l_RL_190 rfl (by decide) (am_le rfl) rfl (am_le rfl) hB2.1.o.1 hB2.1.o.2 rfl (zKf (s_thrown hB2.1) ?_)
  rw [ht]
  change ZP G 1500 m_law 1025 [some (.ref 1000060), some (.ref 0), some (.ref 300), some (.ref 320), some (.ref 321), some (iv (p : Int)), some (iv (o.1 : Int)), some (iv v), l8] [iv (o.1 : Int)] V _
  refine z_iload (pc' := 1027) (j := 6) (by decide +kernel) rfl rfl ?_
  refine z_same (pc' := 1030) (tgt := 1032) (off := 5) (by decide +kernel) (by decide) rfl ?_
  refine z_iload (pc' := 1034) (j := 6) (by decide +kernel) rfl rfl ?_
  refine z_if_ne (pc' := 1037) (tgt := 1049) (off := 15) (by decide +kernel) (by decide) rfl ⟨by omega, by omega⟩ ?_
  by_cases c0 : (o.1 : Int) = 0
  case neg =>
    rw [if_neg c0]
    refine z_goto (tgt := 3364) (off := 2315) (by decide +kernel) (by decide) ?_
    exact k _ _ _ _ _ N
  rw [if_pos c0]
  have c1 : o.1 = 0 := by omega
  obtain rfl := ev c1
  refine z_aload_n (pc' := 1038) (j := 3) (by decide +kernel) rfl rfl ?_
  refine z_iconst (pc' := 1039) (n := 0) (by decide +kernel) rfl ?_
  refine z_laload (pc' := 1040) (by decide +kernel) N.oL ⟨by decide, by decide, by decide⟩ rfl ?_
  rw [show zL V 320 ((0 : Int)).toNat = rI o.2.1 from (congrFun eL 0).trans (hP c1)]
  refine z_iload (pc' := 1042) (j := 7) (by decide +kernel) rfl rfl ?_
  refine z_i2lr (pc' := 1043) (by decide +kernel) rfl ?_
  refine z_lsame (pc' := 1044) (by decide +kernel) rfl ?_
  refine z_if_eq (pc' := 1047) (tgt := 1049) (off := 5) (by decide +kernel) (by decide) rfl (by decide) ?_
  rw [if_pos rfl]
  refine z_goto (tgt := 3364) (off := 2315) (by decide +kernel) (by decide) ?_
  exact k _ _ _ _ _ N
theorem lc_latest {G : Gx} {Q : Rv → Zm → Prop} {Z : Zm} {σ : St} {n p : Nat} {l6 l7 l8 : Option Value} (H : lwI n Z σ) (hn : n < 512) (hs : lwK G p) (k : lwN G p n Q) : ZP G 1500 m_law 1052 [some (.ref 1000060), some (.ref 0), some (.ref 300), some (.ref 320), some (.ref 321), some (iv (p : Int)), l6, l7, l8] [] Z Q := by
  obtain ⟨o, eo⟩ : ∃ o, o = o_latest σ (zScr G ((p : Int) + 1).toNat) := ⟨_, rfl⟩
  have ok : okS o.2.2 := by rw [eo]; exact k_latest (t := (zScr G ((p : Int) + 1).toNat)) H.ok
  have w0 := w_L_latest (G := G) (h := H.ic) (ho := H.ok) (hz := H.hz hn) (hou := H.oL) (t := (zScr G ((p : Int) + 1).toNat)) (ht := (zScr_r _ _))
  have bd := bd_latest (σ := σ) (t := (zScr G ((p : Int) + 1).toNat))
  rw [← eo] at w0 bd
  refine z_aload_n (pc' := 1053) (j := 1) (by decide +kernel) rfl rfl ?_
  refine z_aload_n (pc' := 1054) (j := 0) (by decide +kernel) rfl rfl ?_
  refine z_iload (pc' := 1056) (j := 5) (by decide +kernel) rfl rfl ?_
  refine z_iconst (pc' := 1057) (n := 1) (by decide +kernel) rfl ?_
  refine z_iadd (pc' := 1058) (by decide +kernel) rfl ?_
  refine z_sld (pc' := 1059) (by decide +kernel) (hs 1 (by decide) (by decide)) rfl ?_
  refine z_aload_n (pc' := 1060) (j := 3) (by decide +kernel) rfl rfl ?_
  refine z_callSH (pc' := 1063) (idx := 245) (mj := m_L_latest) (av := [.ref 0, iv (zScr G ((p : Int) + 1).toNat), .ref 320]) (n := 3) (d' := 30) (by decide +kernel) rfl k_L_latest (amM5 117 rfl (by decide +kernel)) rfl (by decide) (am_le rfl) rfl (am_le rfl) rfl (ZM.mono w0 fun r W hw => ?_)
  obtain ⟨rfl, hI, fr, hP⟩ := hw
  change ZP G 1500 m_law 1063 [some (.ref 1000060), some (.ref 0), some (.ref 300), some (.ref 320), some (.ref 321), some (iv (p : Int)), l6, l7, l8] [iv (o.1 : Int)] W _
  refine z_istore (pc' := 1065) (j := 6) (ls' := [some (.ref 1000060), some (.ref 0), some (.ref 300), some (.ref 320), some (.ref 321), some (iv (p : Int)), some (iv (o.1 : Int)), l7, l8]) (by decide +kernel) (by decide) rfl rfl ?_
  obtain ⟨B, hB⟩ := H.im1 fr
  have hw2 := H.hw hn fr
  have d0 := d_latest (G := G) (t := (zScr G ((p : Int) + 1).toNat)) (h := hB) (ho := H.ok) (hz := hw2) (ht := (zScr_r _ _))
  rw [← eo] at d0
  refine z_aload_n (pc' := 1066) (j := 2) (by decide +kernel) rfl rfl ?_
  refine z_aload_n (pc' := 1067) (j := 0) (by decide +kernel) rfl rfl ?_
  refine z_iload (pc' := 1069) (j := 5) (by decide +kernel) rfl rfl ?_
  refine z_iconst (pc' := 1070) (n := 1) (by decide +kernel) rfl ?_
  refine z_iadd (pc' := 1071) (by decide +kernel) rfl ?_
  refine z_sld (pc' := 1072) (by decide +kernel) (hs 1 (by decide) (by decide)) rfl ?_
  refine z_callV (pc' := 1075) (idx := 247) (mj := m_X12_latest) (av := [iv (zScr G ((p : Int) + 1).toNat)]) (n := 1) (ci := 12) (b := 300) (d' := 12) (by decide +kernel) rfl k_X12_latest l_RL_247 rfl (by decide) (am_le rfl) rfl (am_le rfl) hB.1.o.1 hB.1.o.2 rfl (ZM.mono d0 fun r V hv => ?_)
  obtain ⟨⟨v, rfl, ev⟩, ht, hM, vV⟩ := hv
  obtain ⟨N, eL, eD⟩ := H.nx hn hI fr ok hM vV
  change ZP G 1500 m_law 1075 [some (.ref 1000060), some (.ref 0), some (.ref 300), some (.ref 320), some (.ref 321), some (iv (p : Int)), some (iv (o.1 : Int)), l7, l8] [iv v] V _
  refine z_istore (pc' := 1077) (j := 7) (ls' := [some (.ref 1000060), some (.ref 0), some (.ref 300), some (.ref 320), some (.ref 321), some (iv (p : Int)), some (iv (o.1 : Int)), some (iv v), l8]) (by decide +kernel) (by decide) rfl rfl ?_
  refine z_aload_n (pc' := 1078) (j := 2) (by decide +kernel) rfl rfl ?_
  obtain ⟨B2, hB2⟩ := hM
  refine z_callV (pc' := 1081) (idx := 190) (mj := m_X12_thrown) (av := []) (n := 0) (ci := 12) (b := 300) (d' := 0) (by decide +kernel) rfl k_X12_thrown l_RL_190 rfl (by decide) (am_le rfl) rfl (am_le rfl) hB2.1.o.1 hB2.1.o.2 rfl (zKf (s_thrown hB2.1) ?_)
  rw [ht]
  change ZP G 1500 m_law 1081 [some (.ref 1000060), some (.ref 0), some (.ref 300), some (.ref 320), some (.ref 321), some (iv (p : Int)), some (iv (o.1 : Int)), some (iv v), l8] [iv (o.1 : Int)] V _
  refine z_iload (pc' := 1083) (j := 6) (by decide +kernel) rfl rfl ?_
  refine z_same (pc' := 1086) (tgt := 1088) (off := 5) (by decide +kernel) (by decide) rfl ?_
  refine z_iload (pc' := 1090) (j := 6) (by decide +kernel) rfl rfl ?_
  refine z_if_ne (pc' := 1093) (tgt := 1105) (off := 15) (by decide +kernel) (by decide) rfl ⟨by omega, by omega⟩ ?_
  by_cases c0 : (o.1 : Int) = 0
  case neg =>
    rw [if_neg c0]
    refine z_goto (tgt := 3364) (off := 2259) (by decide +kernel) (by decide) ?_
    exact k _ _ _ _ _ N
  rw [if_pos c0]
  have c1 : o.1 = 0 := by omega
  obtain rfl := ev c1
  refine z_aload_n (pc' := 1094) (j := 3) (by decide +kernel) rfl rfl ?_
  refine z_iconst (pc' := 1095) (n := 0) (by decide +kernel) rfl ?_
  refine z_laload (pc' := 1096) (by decide +kernel) N.oL ⟨by decide, by decide, by decide⟩ rfl ?_
  rw [show zL V 320 ((0 : Int)).toNat = rI o.2.1 from (congrFun eL 0).trans (hP c1)]
  refine z_iload (pc' := 1098) (j := 7) (by decide +kernel) rfl rfl ?_
  refine z_i2lr (pc' := 1099) (by decide +kernel) rfl ?_
  refine z_lsame (pc' := 1100) (by decide +kernel) rfl ?_
  refine z_if_eq (pc' := 1103) (tgt := 1105) (off := 5) (by decide +kernel) (by decide) rfl (by decide) ?_
  rw [if_pos rfl]
  refine z_goto (tgt := 3364) (off := 2259) (by decide +kernel) (by decide) ?_
  exact k _ _ _ _ _ N
theorem lc_end {G : Gx} {Q : Rv → Zm → Prop} {Z : Zm} {σ : St} {n p : Nat} {l6 l7 l8 : Option Value} (H : lwI n Z σ) (hn : n < 512) (hs : lwK G p) (k : lwN G p n Q) : ZP G 1500 m_law 1108 [some (.ref 1000060), some (.ref 0), some (.ref 300), some (.ref 320), some (.ref 321), some (iv (p : Int)), l6, l7, l8] [] Z Q := by
  obtain ⟨o, eo⟩ : ∃ o, o = o_end σ := ⟨_, rfl⟩
  have ok : okS o.2.2 := by rw [eo]; exact k_end  H.ok
  have w0 := c_end (G := G) (h := H.ic) (ho := H.ok)
  have bd : (o_end σ).1 = 0 := rfl
  rw [← eo] at w0 bd
  refine z_aload_n (pc' := 1109) (j := 1) (by decide +kernel) rfl rfl ?_
  refine z_callV (pc' := 1112) (idx := 248) (mj := m_X11_end) (av := []) (n := 0) (ci := 11) (b := 0) (d' := 12) (by decide +kernel) rfl k_X11_end l_RL_248 rfl (by decide) (am_le rfl) rfl (am_le rfl) H.ic.1.o.1 H.ic.1.o.2 rfl (ZM.mono w0 fun r W hw => ?_)
  obtain ⟨rfl, hI, fr'⟩ := hw
  have fr := wF fr'
  rw [rO, if_pos bd]
  change ZP G 1500 m_law 1112 [some (.ref 1000060), some (.ref 0), some (.ref 300), some (.ref 320), some (.ref 321), some (iv (p : Int)), l6, l7, l8] [iv o.2.1] W _
  obtain ⟨B, hB⟩ := H.im1 fr
  have hw2 := H.hw hn fr
  have d0 := d_end (G := G) (h := hB) (ho := H.ok) (hz := hw2) 
  rw [← eo] at d0
  refine z_aload_n (pc' := 1113) (j := 2) (by decide +kernel) rfl rfl ?_
  refine z_callV (pc' := 1116) (idx := 251) (mj := m_X12_end) (av := []) (n := 0) (ci := 12) (b := 300) (d' := 12) (by decide +kernel) rfl k_X12_end l_RL_251 rfl (by decide) (am_le rfl) rfl (am_le rfl) hB.1.o.1 hB.1.o.2 rfl (ZM.mono d0 fun r V hv => ?_)
  obtain ⟨⟨v, rfl, ev⟩, ht, hM, vV⟩ := hv
  obtain ⟨N, eL, eD⟩ := H.nx hn hI fr ok hM vV
  change ZP G 1500 m_law 1116 [some (.ref 1000060), some (.ref 0), some (.ref 300), some (.ref 320), some (.ref 321), some (iv (p : Int)), l6, l7, l8] [iv v, iv o.2.1] V _
  obtain rfl := ev bd
  refine z_same (pc' := 1119) (tgt := 3364) (off := 2248) (by decide +kernel) (by decide) rfl ?_
  exact k _ _ _ _ _ N
theorem lc_slack {G : Gx} {Q : Rv → Zm → Prop} {Z : Zm} {σ : St} {n p : Nat} {l6 l7 l8 : Option Value} (H : lwI n Z σ) (hn : n < 512) (hs : lwK G p) (k : lwN G p n Q) : ZP G 1500 m_law 1121 [some (.ref 1000060), some (.ref 0), some (.ref 300), some (.ref 320), some (.ref 321), some (iv (p : Int)), l6, l7, l8] [] Z Q := by
  obtain ⟨o, eo⟩ : ∃ o, o = o_slack σ (zScr G ((p : Int) + 1).toNat) (zScr G ((p : Int) + 2).toNat % 65536) := ⟨_, rfl⟩
  have ok : okS o.2.2 := by rw [eo]; exact k_slack (t := (zScr G ((p : Int) + 1).toNat)) (c := (zScr G ((p : Int) + 2).toNat % 65536)) H.ok
  have w0 := w_L_slack (G := G) (h := H.ic) (ho := H.ok) (hz := H.hz hn) (hou := H.oL) (t := (zScr G ((p : Int) + 1).toNat)) (c := (zScr G ((p : Int) + 2).toNat % 65536)) (ht := (zScr_r _ _)) (hcc := (by have := Int.emod_nonneg (zScr G ((p : Int) + 2).toNat) (show (65536 : Int) ≠ 0 by decide); have := Int.emod_lt_of_pos (zScr G ((p : Int) + 2).toNat) (show (0 : Int) < 65536 by decide); exact ⟨by omega, by omega⟩))
  have bd := bd_slack (σ := σ) (t := (zScr G ((p : Int) + 1).toNat)) (c := (zScr G ((p : Int) + 2).toNat % 65536))
  rw [← eo] at w0 bd
  refine z_aload_n (pc' := 1122) (j := 1) (by decide +kernel) rfl rfl ?_
  refine z_aload_n (pc' := 1123) (j := 0) (by decide +kernel) rfl rfl ?_
  refine z_iload (pc' := 1125) (j := 5) (by decide +kernel) rfl rfl ?_
  refine z_iconst (pc' := 1126) (n := 1) (by decide +kernel) rfl ?_
  refine z_iadd (pc' := 1127) (by decide +kernel) rfl ?_
  refine z_sld (pc' := 1128) (by decide +kernel) (hs 1 (by decide) (by decide)) rfl ?_
  refine z_aload_n (pc' := 1129) (j := 0) (by decide +kernel) rfl rfl ?_
  refine z_iload (pc' := 1131) (j := 5) (by decide +kernel) rfl rfl ?_
  refine z_iconst (pc' := 1132) (n := 2) (by decide +kernel) rfl ?_
  refine z_iadd (pc' := 1133) (by decide +kernel) rfl ?_
  refine z_sld (pc' := 1134) (by decide +kernel) (hs 2 (by decide) (by decide)) rfl ?_
  refine z_i2c (pc' := 1135) (by decide +kernel) rfl ?_
  refine z_aload_n (pc' := 1136) (j := 3) (by decide +kernel) rfl rfl ?_
  refine z_callSH (pc' := 1139) (idx := 252) (mj := m_L_slack) (av := [.ref 0, iv (zScr G ((p : Int) + 1).toNat), iv (zScr G ((p : Int) + 2).toNat % 65536), .ref 320]) (n := 4) (d' := 30) (by decide +kernel) rfl k_L_slack (amM5 124 rfl (by decide +kernel)) rfl (by decide) (am_le rfl) rfl (am_le rfl) rfl (ZM.mono w0 fun r W hw => ?_)
  obtain ⟨rfl, hI, fr, hP⟩ := hw
  change ZP G 1500 m_law 1139 [some (.ref 1000060), some (.ref 0), some (.ref 300), some (.ref 320), some (.ref 321), some (iv (p : Int)), l6, l7, l8] [iv (o.1 : Int)] W _
  refine z_istore (pc' := 1141) (j := 6) (ls' := [some (.ref 1000060), some (.ref 0), some (.ref 300), some (.ref 320), some (.ref 321), some (iv (p : Int)), some (iv (o.1 : Int)), l7, l8]) (by decide +kernel) (by decide) rfl rfl ?_
  obtain ⟨B, hB⟩ := H.im1 fr
  have hw2 := H.hw hn fr
  have d0 := d_slack (G := G) (t := (zScr G ((p : Int) + 1).toNat)) (c := (zScr G ((p : Int) + 2).toNat % 65536)) (h := hB) (ho := H.ok) (hz := hw2) (ht := (zScr_r _ _)) (hc := (by have := Int.emod_nonneg (zScr G ((p : Int) + 2).toNat) (show (65536 : Int) ≠ 0 by decide); have := Int.emod_lt_of_pos (zScr G ((p : Int) + 2).toNat) (show (0 : Int) < 65536 by decide); exact ⟨by omega, by omega⟩))
  rw [← eo] at d0
  refine z_aload_n (pc' := 1142) (j := 2) (by decide +kernel) rfl rfl ?_
  refine z_aload_n (pc' := 1143) (j := 0) (by decide +kernel) rfl rfl ?_
  refine z_iload (pc' := 1145) (j := 5) (by decide +kernel) rfl rfl ?_
  refine z_iconst (pc' := 1146) (n := 1) (by decide +kernel) rfl ?_
  refine z_iadd (pc' := 1147) (by decide +kernel) rfl ?_
  refine z_sld (pc' := 1148) (by decide +kernel) (hs 1 (by decide) (by decide)) rfl ?_
  refine z_aload_n (pc' := 1149) (j := 0) (by decide +kernel) rfl rfl ?_
  refine z_iload (pc' := 1151) (j := 5) (by decide +kernel) rfl rfl ?_
  refine z_iconst (pc' := 1152) (n := 2) (by decide +kernel) rfl ?_
  refine z_iadd (pc' := 1153) (by decide +kernel) rfl ?_
  refine z_sld (pc' := 1154) (by decide +kernel) (hs 2 (by decide) (by decide)) rfl ?_
  refine z_i2c (pc' := 1155) (by decide +kernel) rfl ?_
  refine z_callV (pc' := 1158) (idx := 254) (mj := m_X12_slack) (av := [iv (zScr G ((p : Int) + 1).toNat), iv (zScr G ((p : Int) + 2).toNat % 65536)]) (n := 2) (ci := 12) (b := 300) (d' := 12) (by decide +kernel) rfl k_X12_slack l_RL_254 rfl (by decide) (am_le rfl) rfl (am_le rfl) hB.1.o.1 hB.1.o.2 rfl (ZM.mono d0 fun r V hv => ?_)
  obtain ⟨⟨v, rfl, ev⟩, ht, hM, vV⟩ := hv
  obtain ⟨N, eL, eD⟩ := H.nx hn hI fr ok hM vV
  change ZP G 1500 m_law 1158 [some (.ref 1000060), some (.ref 0), some (.ref 300), some (.ref 320), some (.ref 321), some (iv (p : Int)), some (iv (o.1 : Int)), l7, l8] [iv v] V _
  refine z_istore (pc' := 1160) (j := 7) (ls' := [some (.ref 1000060), some (.ref 0), some (.ref 300), some (.ref 320), some (.ref 321), some (iv (p : Int)), some (iv (o.1 : Int)), some (iv v), l8]) (by decide +kernel) (by decide) rfl rfl ?_
  refine z_aload_n (pc' := 1161) (j := 2) (by decide +kernel) rfl rfl ?_
  obtain ⟨B2, hB2⟩ := hM
  refine z_callV (pc' := 1164) (idx := 190) (mj := m_X12_thrown) (av := []) (n := 0) (ci := 12) (b := 300) (d' := 0) (by decide +kernel) rfl k_X12_thrown l_RL_190 rfl (by decide) (am_le rfl) rfl (am_le rfl) hB2.1.o.1 hB2.1.o.2 rfl (zKf (s_thrown hB2.1) ?_)
  rw [ht]
  change ZP G 1500 m_law 1164 [some (.ref 1000060), some (.ref 0), some (.ref 300), some (.ref 320), some (.ref 321), some (iv (p : Int)), some (iv (o.1 : Int)), some (iv v), l8] [iv (o.1 : Int)] V _
  refine z_iload (pc' := 1166) (j := 6) (by decide +kernel) rfl rfl ?_
  refine z_same (pc' := 1169) (tgt := 1171) (off := 5) (by decide +kernel) (by decide) rfl ?_
  refine z_iload (pc' := 1173) (j := 6) (by decide +kernel) rfl rfl ?_
  refine z_if_ne (pc' := 1176) (tgt := 1188) (off := 15) (by decide +kernel) (by decide) rfl ⟨by omega, by omega⟩ ?_
  by_cases c0 : (o.1 : Int) = 0
  case neg =>
    rw [if_neg c0]
    refine z_goto (tgt := 3364) (off := 2176) (by decide +kernel) (by decide) ?_
    exact k _ _ _ _ _ N
  rw [if_pos c0]
  have c1 : o.1 = 0 := by omega
  obtain rfl := ev c1
  refine z_aload_n (pc' := 1177) (j := 3) (by decide +kernel) rfl rfl ?_
  refine z_iconst (pc' := 1178) (n := 0) (by decide +kernel) rfl ?_
  refine z_laload (pc' := 1179) (by decide +kernel) N.oL ⟨by decide, by decide, by decide⟩ rfl ?_
  rw [show zL V 320 ((0 : Int)).toNat = rI o.2.1 from (congrFun eL 0).trans (hP c1)]
  refine z_iload (pc' := 1181) (j := 7) (by decide +kernel) rfl rfl ?_
  refine z_i2lr (pc' := 1182) (by decide +kernel) rfl ?_
  refine z_lsame (pc' := 1183) (by decide +kernel) rfl ?_
  refine z_if_eq (pc' := 1186) (tgt := 1188) (off := 5) (by decide +kernel) (by decide) rfl (by decide) ?_
  rw [if_pos rfl]
  refine z_goto (tgt := 3364) (off := 2176) (by decide +kernel) (by decide) ?_
  exact k _ _ _ _ _ N
theorem lc_rest {G : Gx} {Q : Rv → Zm → Prop} {Z : Zm} {σ : St} {n p : Nat} {l6 l7 l8 : Option Value} (H : lwI n Z σ) (hn : n < 512) (hs : lwK G p) (k : lwN G p n Q) : ZP G 1500 m_law 1191 [some (.ref 1000060), some (.ref 0), some (.ref 300), some (.ref 320), some (.ref 321), some (iv (p : Int)), l6, l7, l8] [] Z Q := by
  obtain ⟨o, eo⟩ : ∃ o, o = o_rest σ (zScr G ((p : Int) + 1).toNat) := ⟨_, rfl⟩
  have ok : okS o.2.2 := by rw [eo]; exact k_rest (t := (zScr G ((p : Int) + 1).toNat)) H.ok
  have w0 := w_L_rest (G := G) (h := H.ic) (ho := H.ok) (hz := H.hz hn) (hou := H.oL) (t := (zScr G ((p : Int) + 1).toNat)) (ht := (zScr_r _ _))
  have bd := bd_rest (σ := σ) (t := (zScr G ((p : Int) + 1).toNat))
  rw [← eo] at w0 bd
  refine z_aload_n (pc' := 1192) (j := 1) (by decide +kernel) rfl rfl ?_
  refine z_aload_n (pc' := 1193) (j := 0) (by decide +kernel) rfl rfl ?_
  refine z_iload (pc' := 1195) (j := 5) (by decide +kernel) rfl rfl ?_
  refine z_iconst (pc' := 1196) (n := 1) (by decide +kernel) rfl ?_
  refine z_iadd (pc' := 1197) (by decide +kernel) rfl ?_
  refine z_sld (pc' := 1198) (by decide +kernel) (hs 1 (by decide) (by decide)) rfl ?_
  refine z_aload_n (pc' := 1199) (j := 3) (by decide +kernel) rfl rfl ?_
  refine z_callSH (pc' := 1202) (idx := 255) (mj := m_L_rest) (av := [.ref 0, iv (zScr G ((p : Int) + 1).toNat), .ref 320]) (n := 3) (d' := 30) (by decide +kernel) rfl k_L_rest (amM5 143 rfl (by decide +kernel)) rfl (by decide) (am_le rfl) rfl (am_le rfl) rfl (ZM.mono w0 fun r W hw => ?_)
  obtain ⟨rfl, hI, fr, hP⟩ := hw
  change ZP G 1500 m_law 1202 [some (.ref 1000060), some (.ref 0), some (.ref 300), some (.ref 320), some (.ref 321), some (iv (p : Int)), l6, l7, l8] [iv (o.1 : Int)] W _
  refine z_istore (pc' := 1204) (j := 6) (ls' := [some (.ref 1000060), some (.ref 0), some (.ref 300), some (.ref 320), some (.ref 321), some (iv (p : Int)), some (iv (o.1 : Int)), l7, l8]) (by decide +kernel) (by decide) rfl rfl ?_
  obtain ⟨B, hB⟩ := H.im1 fr
  have hw2 := H.hw hn fr
  have d0 := d_rest (G := G) (t := (zScr G ((p : Int) + 1).toNat)) (h := hB) (ho := H.ok) (hz := hw2) (ht := (zScr_r _ _))
  rw [← eo] at d0
  refine z_aload_n (pc' := 1205) (j := 2) (by decide +kernel) rfl rfl ?_
  refine z_aload_n (pc' := 1206) (j := 0) (by decide +kernel) rfl rfl ?_
  refine z_iload (pc' := 1208) (j := 5) (by decide +kernel) rfl rfl ?_
  refine z_iconst (pc' := 1209) (n := 1) (by decide +kernel) rfl ?_
  refine z_iadd (pc' := 1210) (by decide +kernel) rfl ?_
  refine z_sld (pc' := 1211) (by decide +kernel) (hs 1 (by decide) (by decide)) rfl ?_
  refine z_callV (pc' := 1214) (idx := 257) (mj := m_X12_rest) (av := [iv (zScr G ((p : Int) + 1).toNat)]) (n := 1) (ci := 12) (b := 300) (d' := 12) (by decide +kernel) rfl k_X12_rest l_RL_257 rfl (by decide) (am_le rfl) rfl (am_le rfl) hB.1.o.1 hB.1.o.2 rfl (ZM.mono d0 fun r V hv => ?_)
  obtain ⟨⟨v, rfl, ev⟩, ht, hM, vV⟩ := hv
  obtain ⟨N, eL, eD⟩ := H.nx hn hI fr ok hM vV
  change ZP G 1500 m_law 1214 [some (.ref 1000060), some (.ref 0), some (.ref 300), some (.ref 320), some (.ref 321), some (iv (p : Int)), some (iv (o.1 : Int)), l7, l8] [iv v] V _
  refine z_istore (pc' := 1216) (j := 7) (ls' := [some (.ref 1000060), some (.ref 0), some (.ref 300), some (.ref 320), some (.ref 321), some (iv (p : Int)), some (iv (o.1 : Int)), some (iv v), l8]) (by decide +kernel) (by decide) rfl rfl ?_
  refine z_aload_n (pc' := 1217) (j := 2) (by decide +kernel) rfl rfl ?_
  obtain ⟨B2, hB2⟩ := hM
  refine z_callV (pc' := 1220) (idx := 190) (mj := m_X12_thrown) (av := []) (n := 0) (ci := 12) (b := 300) (d' := 0) (by decide +kernel) rfl k_X12_thrown l_RL_190 rfl (by decide) (am_le rfl) rfl (am_le rfl) hB2.1.o.1 hB2.1.o.2 rfl (zKf (s_thrown hB2.1) ?_)
  rw [ht]
  change ZP G 1500 m_law 1220 [some (.ref 1000060), some (.ref 0), some (.ref 300), some (.ref 320), some (.ref 321), some (iv (p : Int)), some (iv (o.1 : Int)), some (iv v), l8] [iv (o.1 : Int)] V _
  refine z_iload (pc' := 1222) (j := 6) (by decide +kernel) rfl rfl ?_
  refine z_same (pc' := 1225) (tgt := 1227) (off := 5) (by decide +kernel) (by decide) rfl ?_
  refine z_iload (pc' := 1229) (j := 6) (by decide +kernel) rfl rfl ?_
  refine z_if_ne (pc' := 1232) (tgt := 1244) (off := 15) (by decide +kernel) (by decide) rfl ⟨by omega, by omega⟩ ?_
  by_cases c0 : (o.1 : Int) = 0
  case neg =>
    rw [if_neg c0]
    refine z_goto (tgt := 3364) (off := 2120) (by decide +kernel) (by decide) ?_
    exact k _ _ _ _ _ N
  rw [if_pos c0]
  have c1 : o.1 = 0 := by omega
  obtain rfl := ev c1
  refine z_aload_n (pc' := 1233) (j := 3) (by decide +kernel) rfl rfl ?_
  refine z_iconst (pc' := 1234) (n := 0) (by decide +kernel) rfl ?_
  refine z_laload (pc' := 1235) (by decide +kernel) N.oL ⟨by decide, by decide, by decide⟩ rfl ?_
  rw [show zL V 320 ((0 : Int)).toNat = rI o.2.1 from (congrFun eL 0).trans (hP c1)]
  refine z_iload (pc' := 1237) (j := 7) (by decide +kernel) rfl rfl ?_
  refine z_i2lr (pc' := 1238) (by decide +kernel) rfl ?_
  refine z_lsame (pc' := 1239) (by decide +kernel) rfl ?_
  refine z_if_eq (pc' := 1242) (tgt := 1244) (off := 5) (by decide +kernel) (by decide) rfl (by decide) ?_
  rw [if_pos rfl]
  refine z_goto (tgt := 3364) (off := 2120) (by decide +kernel) (by decide) ?_
  exact k _ _ _ _ _ N
theorem lc_chains {G : Gx} {Q : Rv → Zm → Prop} {Z : Zm} {σ : St} {n p : Nat} {l6 l7 l8 : Option Value} (H : lwI n Z σ) (hn : n < 512) (hs : lwK G p) (k : lwN G p n Q) : ZP G 1500 m_law 1247 [some (.ref 1000060), some (.ref 0), some (.ref 300), some (.ref 320), some (.ref 321), some (iv (p : Int)), l6, l7, l8] [] Z Q := by
  obtain ⟨o, eo⟩ : ∃ o, o = o_chains σ := ⟨_, rfl⟩
  have ok : okS o.2.2 := by rw [eo]; exact k_chains  H.ok
  have w0 := c_chains (G := G) (h := H.ic) (ho := H.ok)
  have bd : (o_chains σ).1 = 0 := rfl
  rw [← eo] at w0 bd
  refine z_aload_n (pc' := 1248) (j := 1) (by decide +kernel) rfl rfl ?_
  refine z_callV (pc' := 1251) (idx := 258) (mj := m_X11_chains) (av := []) (n := 0) (ci := 11) (b := 0) (d' := 12) (by decide +kernel) rfl k_X11_chains l_RL_258 rfl (by decide) (am_le rfl) rfl (am_le rfl) H.ic.1.o.1 H.ic.1.o.2 rfl (ZM.mono w0 fun r W hw => ?_)
  obtain ⟨rfl, hI, fr'⟩ := hw
  have fr := wF fr'
  rw [rO, if_pos bd]
  change ZP G 1500 m_law 1251 [some (.ref 1000060), some (.ref 0), some (.ref 300), some (.ref 320), some (.ref 321), some (iv (p : Int)), l6, l7, l8] [jv o.2.1] W _
  obtain ⟨B, hB⟩ := H.im1 fr
  have hw2 := H.hw hn fr
  have d0 := d_chains (G := G) (h := hB) (ho := H.ok) (hz := hw2) 
  rw [← eo] at d0
  refine z_aload_n (pc' := 1252) (j := 2) (by decide +kernel) rfl rfl ?_
  refine z_callV (pc' := 1255) (idx := 261) (mj := m_X12_chains) (av := []) (n := 0) (ci := 12) (b := 300) (d' := 12) (by decide +kernel) rfl k_X12_chains l_RL_261 rfl (by decide) (am_le rfl) rfl (am_le rfl) hB.1.o.1 hB.1.o.2 rfl (ZM.mono d0 fun r V hv => ?_)
  obtain ⟨⟨v, rfl, ev⟩, ht, hM, vV⟩ := hv
  obtain ⟨N, eL, eD⟩ := H.nx hn hI fr ok hM vV
  change ZP G 1500 m_law 1255 [some (.ref 1000060), some (.ref 0), some (.ref 300), some (.ref 320), some (.ref 321), some (iv (p : Int)), l6, l7, l8] [jv v, jv o.2.1] V _
  obtain rfl := ev bd
  refine z_lsame (pc' := 1256) (by decide +kernel) rfl ?_
  refine z_if_eq (pc' := 1259) (tgt := 3364) (off := 2108) (by decide +kernel) (by decide) rfl (by decide) ?_
  rw [if_pos rfl]
  exact k _ _ _ _ _ N
theorem lc_chainLength {G : Gx} {Q : Rv → Zm → Prop} {Z : Zm} {σ : St} {n p : Nat} {l6 l7 l8 : Option Value} (H : lwI n Z σ) (hn : n < 512) (hs : lwK G p) (k : lwN G p n Q) : ZP G 1500 m_law 1261 [some (.ref 1000060), some (.ref 0), some (.ref 300), some (.ref 320), some (.ref 321), some (iv (p : Int)), l6, l7, l8] [] Z Q := by
  obtain ⟨o, eo⟩ : ∃ o, o = o_chainLength σ := ⟨_, rfl⟩
  have ok : okS o.2.2 := by rw [eo]; exact k_chainLength  H.ok
  have w0 := c_chainLength (G := G) (h := H.ic) (ho := H.ok)
  have bd : (o_chainLength σ).1 = 0 := rfl
  rw [← eo] at w0 bd
  refine z_aload_n (pc' := 1262) (j := 1) (by decide +kernel) rfl rfl ?_
  refine z_callV (pc' := 1265) (idx := 262) (mj := m_X11_chainLength) (av := []) (n := 0) (ci := 11) (b := 0) (d' := 12) (by decide +kernel) rfl k_X11_chainLength l_RL_262 rfl (by decide) (am_le rfl) rfl (am_le rfl) H.ic.1.o.1 H.ic.1.o.2 rfl (ZM.mono w0 fun r W hw => ?_)
  obtain ⟨rfl, hI, fr'⟩ := hw
  have fr := wF fr'
  rw [rO, if_pos bd]
  change ZP G 1500 m_law 1265 [some (.ref 1000060), some (.ref 0), some (.ref 300), some (.ref 320), some (.ref 321), some (iv (p : Int)), l6, l7, l8] [iv o.2.1] W _
  obtain ⟨B, hB⟩ := H.im1 fr
  have hw2 := H.hw hn fr
  have d0 := d_chainLength (G := G) (h := hB) (ho := H.ok) (hz := hw2) 
  rw [← eo] at d0
  refine z_aload_n (pc' := 1266) (j := 2) (by decide +kernel) rfl rfl ?_
  refine z_callV (pc' := 1269) (idx := 265) (mj := m_X12_chainLength) (av := []) (n := 0) (ci := 12) (b := 300) (d' := 12) (by decide +kernel) rfl k_X12_chainLength l_RL_265 rfl (by decide) (am_le rfl) rfl (am_le rfl) hB.1.o.1 hB.1.o.2 rfl (ZM.mono d0 fun r V hv => ?_)
  obtain ⟨⟨v, rfl, ev⟩, ht, hM, vV⟩ := hv
  obtain ⟨N, eL, eD⟩ := H.nx hn hI fr ok hM vV
  change ZP G 1500 m_law 1269 [some (.ref 1000060), some (.ref 0), some (.ref 300), some (.ref 320), some (.ref 321), some (iv (p : Int)), l6, l7, l8] [iv v, iv o.2.1] V _
  obtain rfl := ev bd
  refine z_same (pc' := 1272) (tgt := 3364) (off := 2095) (by decide +kernel) (by decide) rfl ?_
  exact k _ _ _ _ _ N
theorem lc_chainAt {G : Gx} {Q : Rv → Zm → Prop} {Z : Zm} {σ : St} {n p : Nat} {l6 l7 l8 : Option Value} (H : lwI n Z σ) (hn : n < 512) (hs : lwK G p) (k : lwN G p n Q) : ZP G 1500 m_law 1274 [some (.ref 1000060), some (.ref 0), some (.ref 300), some (.ref 320), some (.ref 321), some (iv (p : Int)), l6, l7, l8] [] Z Q := by
  obtain ⟨o, eo⟩ : ∃ o, o = o_chainAt σ (zScr G ((p : Int) + 1).toNat) := ⟨_, rfl⟩
  have ok : okS o.2.2 := by rw [eo]; exact k_chainAt (x := (zScr G ((p : Int) + 1).toNat)) H.ok
  have w0 := w_L_chainAt (G := G) (h := H.ic) (ho := H.ok) (hz := H.hz hn) (hou := H.oL) (x := (zScr G ((p : Int) + 1).toNat)) (hx := (zScr_r _ _))
  have bd := bd_chainAt (σ := σ) (x := (zScr G ((p : Int) + 1).toNat))
  rw [← eo] at w0 bd
  refine z_aload_n (pc' := 1275) (j := 1) (by decide +kernel) rfl rfl ?_
  refine z_aload_n (pc' := 1276) (j := 0) (by decide +kernel) rfl rfl ?_
  refine z_iload (pc' := 1278) (j := 5) (by decide +kernel) rfl rfl ?_
  refine z_iconst (pc' := 1279) (n := 1) (by decide +kernel) rfl ?_
  refine z_iadd (pc' := 1280) (by decide +kernel) rfl ?_
  refine z_sld (pc' := 1281) (by decide +kernel) (hs 1 (by decide) (by decide)) rfl ?_
  refine z_aload_n (pc' := 1282) (j := 3) (by decide +kernel) rfl rfl ?_
  refine z_callSH (pc' := 1285) (idx := 266) (mj := m_L_chainAt) (av := [.ref 0, iv (zScr G ((p : Int) + 1).toNat), .ref 320]) (n := 3) (d' := 30) (by decide +kernel) rfl k_L_chainAt (amM5 151 rfl (by decide +kernel)) rfl (by decide) (am_le rfl) rfl (am_le rfl) rfl (ZM.mono w0 fun r W hw => ?_)
  obtain ⟨rfl, hI, fr, hP⟩ := hw
  change ZP G 1500 m_law 1285 [some (.ref 1000060), some (.ref 0), some (.ref 300), some (.ref 320), some (.ref 321), some (iv (p : Int)), l6, l7, l8] [iv (o.1 : Int)] W _
  refine z_istore (pc' := 1287) (j := 6) (ls' := [some (.ref 1000060), some (.ref 0), some (.ref 300), some (.ref 320), some (.ref 321), some (iv (p : Int)), some (iv (o.1 : Int)), l7, l8]) (by decide +kernel) (by decide) rfl rfl ?_
  obtain ⟨B, hB⟩ := H.im1 fr
  have hw2 := H.hw hn fr
  have d0 := d_chainAt (G := G) (x := (zScr G ((p : Int) + 1).toNat)) (h := hB) (ho := H.ok) (hz := hw2) (hx := (zScr_r _ _))
  rw [← eo] at d0
  refine z_aload_n (pc' := 1288) (j := 2) (by decide +kernel) rfl rfl ?_
  refine z_aload_n (pc' := 1289) (j := 0) (by decide +kernel) rfl rfl ?_
  refine z_iload (pc' := 1291) (j := 5) (by decide +kernel) rfl rfl ?_
  refine z_iconst (pc' := 1292) (n := 1) (by decide +kernel) rfl ?_
  refine z_iadd (pc' := 1293) (by decide +kernel) rfl ?_
  refine z_sld (pc' := 1294) (by decide +kernel) (hs 1 (by decide) (by decide)) rfl ?_
  refine z_callV (pc' := 1297) (idx := 268) (mj := m_X12_chainAt) (av := [iv (zScr G ((p : Int) + 1).toNat)]) (n := 1) (ci := 12) (b := 300) (d' := 12) (by decide +kernel) rfl k_X12_chainAt l_RL_268 rfl (by decide) (am_le rfl) rfl (am_le rfl) hB.1.o.1 hB.1.o.2 rfl (ZM.mono d0 fun r V hv => ?_)
  obtain ⟨⟨v, rfl, ev⟩, ht, hM, vV⟩ := hv
  obtain ⟨N, eL, eD⟩ := H.nx hn hI fr ok hM vV
  change ZP G 1500 m_law 1297 [some (.ref 1000060), some (.ref 0), some (.ref 300), some (.ref 320), some (.ref 321), some (iv (p : Int)), some (iv (o.1 : Int)), l7, l8] [iv v] V _
  refine z_istore (pc' := 1299) (j := 7) (ls' := [some (.ref 1000060), some (.ref 0), some (.ref 300), some (.ref 320), some (.ref 321), some (iv (p : Int)), some (iv (o.1 : Int)), some (iv v), l8]) (by decide +kernel) (by decide) rfl rfl ?_
  refine z_aload_n (pc' := 1300) (j := 2) (by decide +kernel) rfl rfl ?_
  obtain ⟨B2, hB2⟩ := hM
  refine z_callV (pc' := 1303) (idx := 190) (mj := m_X12_thrown) (av := []) (n := 0) (ci := 12) (b := 300) (d' := 0) (by decide +kernel) rfl k_X12_thrown l_RL_190 rfl (by decide) (am_le rfl) rfl (am_le rfl) hB2.1.o.1 hB2.1.o.2 rfl (zKf (s_thrown hB2.1) ?_)
  rw [ht]
  change ZP G 1500 m_law 1303 [some (.ref 1000060), some (.ref 0), some (.ref 300), some (.ref 320), some (.ref 321), some (iv (p : Int)), some (iv (o.1 : Int)), some (iv v), l8] [iv (o.1 : Int)] V _
  refine z_iload (pc' := 1305) (j := 6) (by decide +kernel) rfl rfl ?_
  refine z_same (pc' := 1308) (tgt := 1310) (off := 5) (by decide +kernel) (by decide) rfl ?_
  refine z_iload (pc' := 1312) (j := 6) (by decide +kernel) rfl rfl ?_
  refine z_if_ne (pc' := 1315) (tgt := 1327) (off := 15) (by decide +kernel) (by decide) rfl ⟨by omega, by omega⟩ ?_
  by_cases c0 : (o.1 : Int) = 0
  case neg =>
    rw [if_neg c0]
    refine z_goto (tgt := 3364) (off := 2037) (by decide +kernel) (by decide) ?_
    exact k _ _ _ _ _ N
  rw [if_pos c0]
  have c1 : o.1 = 0 := by omega
  obtain rfl := ev c1
  refine z_aload_n (pc' := 1316) (j := 3) (by decide +kernel) rfl rfl ?_
  refine z_iconst (pc' := 1317) (n := 0) (by decide +kernel) rfl ?_
  refine z_laload (pc' := 1318) (by decide +kernel) N.oL ⟨by decide, by decide, by decide⟩ rfl ?_
  rw [show zL V 320 ((0 : Int)).toNat = rI o.2.1 from (congrFun eL 0).trans (hP c1)]
  refine z_iload (pc' := 1320) (j := 7) (by decide +kernel) rfl rfl ?_
  refine z_i2lr (pc' := 1321) (by decide +kernel) rfl ?_
  refine z_lsame (pc' := 1322) (by decide +kernel) rfl ?_
  refine z_if_eq (pc' := 1325) (tgt := 1327) (off := 5) (by decide +kernel) (by decide) rfl (by decide) ?_
  rw [if_pos rfl]
  refine z_goto (tgt := 3364) (off := 2037) (by decide +kernel) (by decide) ?_
  exact k _ _ _ _ _ N
