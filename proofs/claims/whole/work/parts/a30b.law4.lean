/-! ===== the law's round, the rest ===== -/
theorem lc_leastPeak {G : Gx} {Q : Rv → Zm → Prop} {Z : Zm} {σ : St} {n p : Nat} {l6 l7 l8 : Option Value} (H : lwI n Z σ) (hn : n < 512) (hs : lwK G p) (k : lwN G p n Q) : ZP G 1500 m_law 2507 [some (.ref 1000060), some (.ref 0), some (.ref 300), some (.ref 320), some (.ref 321), some (iv (p : Int)), l6, l7, l8] [] Z Q := by
  obtain ⟨o, eo⟩ : ∃ o, o = o_leastPeak σ := ⟨_, rfl⟩
  have ok : okS o.2.2 := by rw [eo]; exact k_leastPeak  H.ok
  have w0 := w_L_leastPeak (G := G) (h := H.ic) (ho := H.ok) (hz := H.hz hn) (hou := H.oL) 
  have bd := bd_leastPeak (σ := σ)
  rw [← eo] at w0 bd
  refine z_aload_n (pc' := 2508) (j := 1) (by decide +kernel) rfl rfl ?_
  refine z_aload_n (pc' := 2509) (j := 3) (by decide +kernel) rfl rfl ?_
  refine z_callSH (pc' := 2512) (idx := 333) (mj := m_L_leastPeak) (av := [.ref 0, .ref 320]) (n := 2) (d' := 30) (by decide +kernel) rfl k_L_leastPeak (amM6 232 rfl (by decide +kernel)) rfl (by decide) (am_le rfl) rfl (am_le rfl) rfl (ZM.mono w0 fun r W hw => ?_)
  obtain ⟨rfl, hI, fr, hP⟩ := hw
  change ZP G 1500 m_law 2512 [some (.ref 1000060), some (.ref 0), some (.ref 300), some (.ref 320), some (.ref 321), some (iv (p : Int)), l6, l7, l8] [iv (o.1 : Int)] W _
  refine z_istore (pc' := 2514) (j := 6) (ls' := [some (.ref 1000060), some (.ref 0), some (.ref 300), some (.ref 320), some (.ref 321), some (iv (p : Int)), some (iv (o.1 : Int)), l7, l8]) (by decide +kernel) (by decide) rfl rfl ?_
  obtain ⟨B, hB⟩ := H.im1 fr
  have hw2 := H.hw hn fr
  have d0 := d_leastPeak (G := G) (h := hB) (ho := H.ok) (hz := hw2) 
  rw [← eo] at d0
  refine z_aload_n (pc' := 2515) (j := 2) (by decide +kernel) rfl rfl ?_
  refine z_callV (pc' := 2518) (idx := 335) (mj := m_X12_leastPeak) (av := []) (n := 0) (ci := 12) (b := 300) (d' := 12) (by decide +kernel) rfl k_X12_leastPeak l_RL_335 rfl (by decide) (am_le rfl) rfl (am_le rfl) hB.1.o.1 hB.1.o.2 rfl (ZM.mono d0 fun r V hv => ?_)
  obtain ⟨⟨v, rfl, ev⟩, ht, hM, vV⟩ := hv
  obtain ⟨N, eL, eD⟩ := H.nx hn hI fr ok hM vV
  change ZP G 1500 m_law 2518 [some (.ref 1000060), some (.ref 0), some (.ref 300), some (.ref 320), some (.ref 321), some (iv (p : Int)), some (iv (o.1 : Int)), l7, l8] [iv v] V _
  refine z_istore (pc' := 2520) (j := 7) (ls' := [some (.ref 1000060), some (.ref 0), some (.ref 300), some (.ref 320), some (.ref 321), some (iv (p : Int)), some (iv (o.1 : Int)), some (iv v), l8]) (by decide +kernel) (by decide) rfl rfl ?_
  refine z_aload_n (pc' := 2521) (j := 2) (by decide +kernel) rfl rfl ?_
  obtain ⟨B2, hB2⟩ := hM
  refine z_callV (pc' := 2524) (idx := 190) (mj := m_X12_thrown) (av := []) (n := 0) (ci := 12) (b := 300) (d' := 0) (by decide +kernel) rfl k_X12_thrown l_RL_190 rfl (by decide) (am_le rfl) rfl (am_le rfl) hB2.1.o.1 hB2.1.o.2 rfl (zKf (s_thrown hB2.1) ?_)
  rw [ht]
  change ZP G 1500 m_law 2524 [some (.ref 1000060), some (.ref 0), some (.ref 300), some (.ref 320), some (.ref 321), some (iv (p : Int)), some (iv (o.1 : Int)), some (iv v), l8] [iv (o.1 : Int)] V _
  refine z_iload (pc' := 2526) (j := 6) (by decide +kernel) rfl rfl ?_
  refine z_same (pc' := 2529) (tgt := 2531) (off := 5) (by decide +kernel) (by decide) rfl ?_
  refine z_iload (pc' := 2533) (j := 6) (by decide +kernel) rfl rfl ?_
  refine z_if_ne (pc' := 2536) (tgt := 2548) (off := 15) (by decide +kernel) (by decide) rfl ⟨by omega, by omega⟩ ?_
  by_cases c0 : (o.1 : Int) = 0
  case neg =>
    rw [if_neg c0]
    refine z_goto (tgt := 3364) (off := 816) (by decide +kernel) (by decide) ?_
    exact k _ _ _ _ _ N
  rw [if_pos c0]
  have c1 : o.1 = 0 := by omega
  obtain rfl := ev c1
  refine z_aload_n (pc' := 2537) (j := 3) (by decide +kernel) rfl rfl ?_
  refine z_iconst (pc' := 2538) (n := 0) (by decide +kernel) rfl ?_
  refine z_laload (pc' := 2539) (by decide +kernel) N.oL ⟨by decide, by decide, by decide⟩ rfl ?_
  rw [show zL V 320 ((0 : Int)).toNat = rI o.2.1 from (congrFun eL 0).trans (hP c1)]
  refine z_iload (pc' := 2541) (j := 7) (by decide +kernel) rfl rfl ?_
  refine z_i2lr (pc' := 2542) (by decide +kernel) rfl ?_
  refine z_lsame (pc' := 2543) (by decide +kernel) rfl ?_
  refine z_if_eq (pc' := 2546) (tgt := 2548) (off := 5) (by decide +kernel) (by decide) rfl (by decide) ?_
  rw [if_pos rfl]
  refine z_goto (tgt := 3364) (off := 816) (by decide +kernel) (by decide) ?_
  exact k _ _ _ _ _ N
theorem lc_shorten {G : Gx} {Q : Rv → Zm → Prop} {Z : Zm} {σ : St} {n p : Nat} {l6 l7 l8 : Option Value} (H : lwI n Z σ) (hn : n < 512) (hs : lwK G p) (k : lwN G p n Q) : ZP G 1500 m_law 2551 [some (.ref 1000060), some (.ref 0), some (.ref 300), some (.ref 320), some (.ref 321), some (iv (p : Int)), l6, l7, l8] [] Z Q := by
  obtain ⟨o, eo⟩ : ∃ o, o = o_shorten σ (zScr G ((p : Int) + 1).toNat) (zScr G ((p : Int) + 2).toNat) (zScr G ((p : Int) + 3).toNat) := ⟨_, rfl⟩
  have ok : okS o.2.2 := by rw [eo]; exact k_shorten (t := (zScr G ((p : Int) + 1).toNat)) (x := (zScr G ((p : Int) + 2).toNat)) (y := (zScr G ((p : Int) + 3).toNat)) H.ok
  have w0 := w_L_shorten (G := G) (h := H.ic) (ho := H.ok) (hz := H.hz hn) (hou := H.oL) (t := (zScr G ((p : Int) + 1).toNat)) (x := (zScr G ((p : Int) + 2).toNat)) (y := (zScr G ((p : Int) + 3).toNat)) (ht := (zScr_r _ _)) (hx := (zScr_r _ _)) (hy := (zScr_r _ _))
  have bd := bd_shorten (σ := σ) (t := (zScr G ((p : Int) + 1).toNat)) (x := (zScr G ((p : Int) + 2).toNat)) (y := (zScr G ((p : Int) + 3).toNat))
  rw [← eo] at w0 bd
  refine z_aload_n (pc' := 2552) (j := 1) (by decide +kernel) rfl rfl ?_
  refine z_aload_n (pc' := 2553) (j := 0) (by decide +kernel) rfl rfl ?_
  refine z_iload (pc' := 2555) (j := 5) (by decide +kernel) rfl rfl ?_
  refine z_iconst (pc' := 2556) (n := 1) (by decide +kernel) rfl ?_
  refine z_iadd (pc' := 2557) (by decide +kernel) rfl ?_
  refine z_sld (pc' := 2558) (by decide +kernel) (hs 1 (by decide) (by decide)) rfl ?_
  refine z_aload_n (pc' := 2559) (j := 0) (by decide +kernel) rfl rfl ?_
  refine z_iload (pc' := 2561) (j := 5) (by decide +kernel) rfl rfl ?_
  refine z_iconst (pc' := 2562) (n := 2) (by decide +kernel) rfl ?_
  refine z_iadd (pc' := 2563) (by decide +kernel) rfl ?_
  refine z_sld (pc' := 2564) (by decide +kernel) (hs 2 (by decide) (by decide)) rfl ?_
  refine z_aload_n (pc' := 2565) (j := 0) (by decide +kernel) rfl rfl ?_
  refine z_iload (pc' := 2567) (j := 5) (by decide +kernel) rfl rfl ?_
  refine z_iconst (pc' := 2568) (n := 3) (by decide +kernel) rfl ?_
  refine z_iadd (pc' := 2569) (by decide +kernel) rfl ?_
  refine z_sld (pc' := 2570) (by decide +kernel) (hs 3 (by decide) (by decide)) rfl ?_
  refine z_aload_n (pc' := 2571) (j := 3) (by decide +kernel) rfl rfl ?_
  refine z_callSH (pc' := 2574) (idx := 336) (mj := m_L_shorten) (av := [.ref 0, iv (zScr G ((p : Int) + 1).toNat), iv (zScr G ((p : Int) + 2).toNat), iv (zScr G ((p : Int) + 3).toNat), .ref 320]) (n := 5) (d' := 30) (by decide +kernel) rfl k_L_shorten (amM7 27 rfl (by decide +kernel)) rfl (by decide) (am_le rfl) rfl (am_le rfl) rfl (ZM.mono w0 fun r W hw => ?_)
  obtain ⟨rfl, hI, fr, hP⟩ := hw
  change ZP G 1500 m_law 2574 [some (.ref 1000060), some (.ref 0), some (.ref 300), some (.ref 320), some (.ref 321), some (iv (p : Int)), l6, l7, l8] [iv (o.1 : Int)] W _
  refine z_istore (pc' := 2576) (j := 6) (ls' := [some (.ref 1000060), some (.ref 0), some (.ref 300), some (.ref 320), some (.ref 321), some (iv (p : Int)), some (iv (o.1 : Int)), l7, l8]) (by decide +kernel) (by decide) rfl rfl ?_
  obtain ⟨B, hB⟩ := H.im1 fr
  have hw2 := H.hw hn fr
  have d0 := d_shorten (G := G) (t := (zScr G ((p : Int) + 1).toNat)) (x := (zScr G ((p : Int) + 2).toNat)) (y := (zScr G ((p : Int) + 3).toNat)) (h := hB) (ho := H.ok) (hz := ⟨hw2.1, by omega⟩) (ht := (zScr_r _ _)) (hx := (zScr_r _ _)) (hy := (zScr_r _ _))
  rw [← eo] at d0
  refine z_aload_n (pc' := 2577) (j := 2) (by decide +kernel) rfl rfl ?_
  refine z_aload_n (pc' := 2578) (j := 0) (by decide +kernel) rfl rfl ?_
  refine z_iload (pc' := 2580) (j := 5) (by decide +kernel) rfl rfl ?_
  refine z_iconst (pc' := 2581) (n := 1) (by decide +kernel) rfl ?_
  refine z_iadd (pc' := 2582) (by decide +kernel) rfl ?_
  refine z_sld (pc' := 2583) (by decide +kernel) (hs 1 (by decide) (by decide)) rfl ?_
  refine z_aload_n (pc' := 2584) (j := 0) (by decide +kernel) rfl rfl ?_
  refine z_iload (pc' := 2586) (j := 5) (by decide +kernel) rfl rfl ?_
  refine z_iconst (pc' := 2587) (n := 2) (by decide +kernel) rfl ?_
  refine z_iadd (pc' := 2588) (by decide +kernel) rfl ?_
  refine z_sld (pc' := 2589) (by decide +kernel) (hs 2 (by decide) (by decide)) rfl ?_
  refine z_aload_n (pc' := 2590) (j := 0) (by decide +kernel) rfl rfl ?_
  refine z_iload (pc' := 2592) (j := 5) (by decide +kernel) rfl rfl ?_
  refine z_iconst (pc' := 2593) (n := 3) (by decide +kernel) rfl ?_
  refine z_iadd (pc' := 2594) (by decide +kernel) rfl ?_
  refine z_sld (pc' := 2595) (by decide +kernel) (hs 3 (by decide) (by decide)) rfl ?_
  refine z_callV (pc' := 2598) (idx := 338) (mj := m_X12_shorten) (av := [iv (zScr G ((p : Int) + 1).toNat), iv (zScr G ((p : Int) + 2).toNat), iv (zScr G ((p : Int) + 3).toNat)]) (n := 3) (ci := 12) (b := 300) (d' := 12) (by decide +kernel) rfl k_X12_shorten l_RL_338 rfl (by decide) (am_le rfl) rfl (am_le rfl) hB.1.o.1 hB.1.o.2 rfl (ZM.mono d0 fun r V hv => ?_)
  obtain ⟨⟨v, rfl, ev⟩, ht, hM, vV⟩ := hv
  obtain ⟨N, eL, eD⟩ := H.nx hn hI fr ok hM vV
  change ZP G 1500 m_law 2598 [some (.ref 1000060), some (.ref 0), some (.ref 300), some (.ref 320), some (.ref 321), some (iv (p : Int)), some (iv (o.1 : Int)), l7, l8] [iv v] V _
  refine z_istore (pc' := 2600) (j := 7) (ls' := [some (.ref 1000060), some (.ref 0), some (.ref 300), some (.ref 320), some (.ref 321), some (iv (p : Int)), some (iv (o.1 : Int)), some (iv v), l8]) (by decide +kernel) (by decide) rfl rfl ?_
  refine z_aload_n (pc' := 2601) (j := 2) (by decide +kernel) rfl rfl ?_
  obtain ⟨B2, hB2⟩ := hM
  refine z_callV (pc' := 2604) (idx := 190) (mj := m_X12_thrown) (av := []) (n := 0) (ci := 12) (b := 300) (d' := 0) (by decide +kernel) rfl k_X12_thrown l_RL_190 rfl (by decide) (am_le rfl) rfl (am_le rfl) hB2.1.o.1 hB2.1.o.2 rfl (zKf (s_thrown hB2.1) ?_)
  rw [ht]
  change ZP G 1500 m_law 2604 [some (.ref 1000060), some (.ref 0), some (.ref 300), some (.ref 320), some (.ref 321), some (iv (p : Int)), some (iv (o.1 : Int)), some (iv v), l8] [iv (o.1 : Int)] V _
  refine z_iload (pc' := 2606) (j := 6) (by decide +kernel) rfl rfl ?_
  refine z_same (pc' := 2609) (tgt := 2611) (off := 5) (by decide +kernel) (by decide) rfl ?_
  refine z_iload (pc' := 2613) (j := 6) (by decide +kernel) rfl rfl ?_
  refine z_if_ne (pc' := 2616) (tgt := 2628) (off := 15) (by decide +kernel) (by decide) rfl ⟨by omega, by omega⟩ ?_
  by_cases c0 : (o.1 : Int) = 0
  case neg =>
    rw [if_neg c0]
    refine z_goto (tgt := 3364) (off := 736) (by decide +kernel) (by decide) ?_
    exact k _ _ _ _ _ N
  rw [if_pos c0]
  have c1 : o.1 = 0 := by omega
  obtain rfl := ev c1
  refine z_aload_n (pc' := 2617) (j := 3) (by decide +kernel) rfl rfl ?_
  refine z_iconst (pc' := 2618) (n := 0) (by decide +kernel) rfl ?_
  refine z_laload (pc' := 2619) (by decide +kernel) N.oL ⟨by decide, by decide, by decide⟩ rfl ?_
  rw [show zL V 320 ((0 : Int)).toNat = rI o.2.1 from (congrFun eL 0).trans (hP c1)]
  refine z_iload (pc' := 2621) (j := 7) (by decide +kernel) rfl rfl ?_
  refine z_i2lr (pc' := 2622) (by decide +kernel) rfl ?_
  refine z_lsame (pc' := 2623) (by decide +kernel) rfl ?_
  refine z_if_eq (pc' := 2626) (tgt := 2628) (off := 5) (by decide +kernel) (by decide) rfl (by decide) ?_
  rw [if_pos rfl]
  refine z_goto (tgt := 3364) (off := 736) (by decide +kernel) (by decide) ?_
  exact k _ _ _ _ _ N
theorem lc_leastEnd {G : Gx} {Q : Rv → Zm → Prop} {Z : Zm} {σ : St} {n p : Nat} {l6 l7 l8 : Option Value} (H : lwI n Z σ) (hn : n < 512) (hs : lwK G p) (k : lwN G p n Q) : ZP G 1500 m_law 2631 [some (.ref 1000060), some (.ref 0), some (.ref 300), some (.ref 320), some (.ref 321), some (iv (p : Int)), l6, l7, l8] [] Z Q := by
  obtain ⟨o, eo⟩ : ∃ o, o = o_leastEnd σ := ⟨_, rfl⟩
  have ok : okS o.2.2 := by rw [eo]; exact k_leastEnd  H.ok
  have w0 := c_leastEnd (G := G) (h := H.ic) (ho := H.ok)
  have bd : (o_leastEnd σ).1 = 0 := rfl
  rw [← eo] at w0 bd
  refine z_aload_n (pc' := 2632) (j := 1) (by decide +kernel) rfl rfl ?_
  refine z_callV (pc' := 2635) (idx := 339) (mj := m_X11_leastEnd) (av := []) (n := 0) (ci := 11) (b := 0) (d' := 12) (by decide +kernel) rfl k_X11_leastEnd l_RL_339 rfl (by decide) (am_le rfl) rfl (am_le rfl) H.ic.1.o.1 H.ic.1.o.2 rfl (ZM.mono w0 fun r W hw => ?_)
  obtain ⟨rfl, hI, fr'⟩ := hw
  have fr := wF fr'
  rw [rO, if_pos bd]
  change ZP G 1500 m_law 2635 [some (.ref 1000060), some (.ref 0), some (.ref 300), some (.ref 320), some (.ref 321), some (iv (p : Int)), l6, l7, l8] [iv o.2.1] W _
  obtain ⟨B, hB⟩ := H.im1 fr
  have hw2 := H.hw hn fr
  have d0 := d_leastEnd (G := G) (h := hB) (ho := H.ok) (hz := hw2) 
  rw [← eo] at d0
  refine z_aload_n (pc' := 2636) (j := 2) (by decide +kernel) rfl rfl ?_
  refine z_callV (pc' := 2639) (idx := 342) (mj := m_X12_leastEnd) (av := []) (n := 0) (ci := 12) (b := 300) (d' := 12) (by decide +kernel) rfl k_X12_leastEnd l_RL_342 rfl (by decide) (am_le rfl) rfl (am_le rfl) hB.1.o.1 hB.1.o.2 rfl (ZM.mono d0 fun r V hv => ?_)
  obtain ⟨⟨v, rfl, ev⟩, ht, hM, vV⟩ := hv
  obtain ⟨N, eL, eD⟩ := H.nx hn hI fr ok hM vV
  change ZP G 1500 m_law 2639 [some (.ref 1000060), some (.ref 0), some (.ref 300), some (.ref 320), some (.ref 321), some (iv (p : Int)), l6, l7, l8] [iv v, iv o.2.1] V _
  obtain rfl := ev bd
  refine z_same (pc' := 2642) (tgt := 3364) (off := 725) (by decide +kernel) (by decide) rfl ?_
  exact k _ _ _ _ _ N
theorem lc_leastCost {G : Gx} {Q : Rv → Zm → Prop} {Z : Zm} {σ : St} {n p : Nat} {l6 l7 l8 : Option Value} (H : lwI n Z σ) (hn : n < 512) (hs : lwK G p) (k : lwN G p n Q) : ZP G 1500 m_law 2644 [some (.ref 1000060), some (.ref 0), some (.ref 300), some (.ref 320), some (.ref 321), some (iv (p : Int)), l6, l7, l8] [] Z Q := by
  obtain ⟨o, eo⟩ : ∃ o, o = o_leastCost σ (zScr G ((p : Int) + 1).toNat) := ⟨_, rfl⟩
  have ok : okS o.2.2 := by rw [eo]; exact k_leastCost (x := (zScr G ((p : Int) + 1).toNat)) H.ok
  have w0 := w_L_leastCost (G := G) (h := H.ic) (ho := H.ok) (hz := H.hz hn) (hou := H.oL) (x := (zScr G ((p : Int) + 1).toNat)) (hx := (zScr_r _ _))
  have bd := bd_leastCost (σ := σ) (x := (zScr G ((p : Int) + 1).toNat))
  rw [← eo] at w0 bd
  refine z_aload_n (pc' := 2645) (j := 1) (by decide +kernel) rfl rfl ?_
  refine z_aload_n (pc' := 2646) (j := 0) (by decide +kernel) rfl rfl ?_
  refine z_iload (pc' := 2648) (j := 5) (by decide +kernel) rfl rfl ?_
  refine z_iconst (pc' := 2649) (n := 1) (by decide +kernel) rfl ?_
  refine z_iadd (pc' := 2650) (by decide +kernel) rfl ?_
  refine z_sld (pc' := 2651) (by decide +kernel) (hs 1 (by decide) (by decide)) rfl ?_
  refine z_aload_n (pc' := 2652) (j := 3) (by decide +kernel) rfl rfl ?_
  refine z_callSH (pc' := 2655) (idx := 343) (mj := m_L_leastCost) (av := [.ref 0, iv (zScr G ((p : Int) + 1).toNat), .ref 320]) (n := 3) (d' := 30) (by decide +kernel) rfl k_L_leastCost (amM7 36 rfl (by decide +kernel)) rfl (by decide) (am_le rfl) rfl (am_le rfl) rfl (ZM.mono w0 fun r W hw => ?_)
  obtain ⟨rfl, hI, fr, hP⟩ := hw
  change ZP G 1500 m_law 2655 [some (.ref 1000060), some (.ref 0), some (.ref 300), some (.ref 320), some (.ref 321), some (iv (p : Int)), l6, l7, l8] [iv (o.1 : Int)] W _
  refine z_istore (pc' := 2657) (j := 6) (ls' := [some (.ref 1000060), some (.ref 0), some (.ref 300), some (.ref 320), some (.ref 321), some (iv (p : Int)), some (iv (o.1 : Int)), l7, l8]) (by decide +kernel) (by decide) rfl rfl ?_
  obtain ⟨B, hB⟩ := H.im1 fr
  have hw2 := H.hw hn fr
  have d0 := d_leastCost (G := G) (x := (zScr G ((p : Int) + 1).toNat)) (h := hB) (ho := H.ok) (hz := hw2) (hx := (zScr_r _ _))
  rw [← eo] at d0
  refine z_aload_n (pc' := 2658) (j := 2) (by decide +kernel) rfl rfl ?_
  refine z_aload_n (pc' := 2659) (j := 0) (by decide +kernel) rfl rfl ?_
  refine z_iload (pc' := 2661) (j := 5) (by decide +kernel) rfl rfl ?_
  refine z_iconst (pc' := 2662) (n := 1) (by decide +kernel) rfl ?_
  refine z_iadd (pc' := 2663) (by decide +kernel) rfl ?_
  refine z_sld (pc' := 2664) (by decide +kernel) (hs 1 (by decide) (by decide)) rfl ?_
  refine z_callV (pc' := 2667) (idx := 345) (mj := m_X12_leastCost) (av := [iv (zScr G ((p : Int) + 1).toNat)]) (n := 1) (ci := 12) (b := 300) (d' := 12) (by decide +kernel) rfl k_X12_leastCost l_RL_345 rfl (by decide) (am_le rfl) rfl (am_le rfl) hB.1.o.1 hB.1.o.2 rfl (ZM.mono d0 fun r V hv => ?_)
  obtain ⟨⟨v, rfl, ev⟩, ht, hM, vV⟩ := hv
  obtain ⟨N, eL, eD⟩ := H.nx hn hI fr ok hM vV
  change ZP G 1500 m_law 2667 [some (.ref 1000060), some (.ref 0), some (.ref 300), some (.ref 320), some (.ref 321), some (iv (p : Int)), some (iv (o.1 : Int)), l7, l8] [iv v] V _
  refine z_istore (pc' := 2669) (j := 7) (ls' := [some (.ref 1000060), some (.ref 0), some (.ref 300), some (.ref 320), some (.ref 321), some (iv (p : Int)), some (iv (o.1 : Int)), some (iv v), l8]) (by decide +kernel) (by decide) rfl rfl ?_
  refine z_aload_n (pc' := 2670) (j := 2) (by decide +kernel) rfl rfl ?_
  obtain ⟨B2, hB2⟩ := hM
  refine z_callV (pc' := 2673) (idx := 190) (mj := m_X12_thrown) (av := []) (n := 0) (ci := 12) (b := 300) (d' := 0) (by decide +kernel) rfl k_X12_thrown l_RL_190 rfl (by decide) (am_le rfl) rfl (am_le rfl) hB2.1.o.1 hB2.1.o.2 rfl (zKf (s_thrown hB2.1) ?_)
  rw [ht]
  change ZP G 1500 m_law 2673 [some (.ref 1000060), some (.ref 0), some (.ref 300), some (.ref 320), some (.ref 321), some (iv (p : Int)), some (iv (o.1 : Int)), some (iv v), l8] [iv (o.1 : Int)] V _
  refine z_iload (pc' := 2675) (j := 6) (by decide +kernel) rfl rfl ?_
  refine z_same (pc' := 2678) (tgt := 2680) (off := 5) (by decide +kernel) (by decide) rfl ?_
  refine z_iload (pc' := 2682) (j := 6) (by decide +kernel) rfl rfl ?_
  refine z_if_ne (pc' := 2685) (tgt := 2697) (off := 15) (by decide +kernel) (by decide) rfl ⟨by omega, by omega⟩ ?_
  by_cases c0 : (o.1 : Int) = 0
  case neg =>
    rw [if_neg c0]
    refine z_goto (tgt := 3364) (off := 667) (by decide +kernel) (by decide) ?_
    exact k _ _ _ _ _ N
  rw [if_pos c0]
  have c1 : o.1 = 0 := by omega
  obtain rfl := ev c1
  refine z_aload_n (pc' := 2686) (j := 3) (by decide +kernel) rfl rfl ?_
  refine z_iconst (pc' := 2687) (n := 0) (by decide +kernel) rfl ?_
  refine z_laload (pc' := 2688) (by decide +kernel) N.oL ⟨by decide, by decide, by decide⟩ rfl ?_
  rw [show zL V 320 ((0 : Int)).toNat = rI o.2.1 from (congrFun eL 0).trans (hP c1)]
  refine z_iload (pc' := 2690) (j := 7) (by decide +kernel) rfl rfl ?_
  refine z_i2lr (pc' := 2691) (by decide +kernel) rfl ?_
  refine z_lsame (pc' := 2692) (by decide +kernel) rfl ?_
  refine z_if_eq (pc' := 2695) (tgt := 2697) (off := 5) (by decide +kernel) (by decide) rfl (by decide) ?_
  rw [if_pos rfl]
  refine z_goto (tgt := 3364) (off := 667) (by decide +kernel) (by decide) ?_
  exact k _ _ _ _ _ N
theorem lc_guess {G : Gx} {Q : Rv → Zm → Prop} {Z : Zm} {σ : St} {n p : Nat} {l6 l7 l8 : Option Value} (H : lwI n Z σ) (hn : n < 512) (hs : lwK G p) (k : lwN G p n Q) : ZP G 1500 m_law 2700 [some (.ref 1000060), some (.ref 0), some (.ref 300), some (.ref 320), some (.ref 321), some (iv (p : Int)), l6, l7, l8] [] Z Q := by
  obtain ⟨o, eo⟩ : ∃ o, o = o_guess σ (zScr G ((p : Int) + 1).toNat) (zScr G ((p : Int) + 2).toNat) (zScr G ((p : Int) + 3).toNat) := ⟨_, rfl⟩
  have ok : okS o.2.2 := by rw [eo]; exact k_guess (t := (zScr G ((p : Int) + 1).toNat)) (x := (zScr G ((p : Int) + 2).toNat)) (y := (zScr G ((p : Int) + 3).toNat)) H.ok
  have w0 := w_L_guess (G := G) (h := H.ic) (ho := H.ok) (hz := H.hz hn) (hou := H.oL) (t := (zScr G ((p : Int) + 1).toNat)) (x := (zScr G ((p : Int) + 2).toNat)) (y := (zScr G ((p : Int) + 3).toNat)) (ht := (zScr_r _ _)) (hx := (zScr_r _ _)) (hy := (zScr_r _ _))
  have bd := bd_guess (σ := σ) (t := (zScr G ((p : Int) + 1).toNat)) (x := (zScr G ((p : Int) + 2).toNat)) (y := (zScr G ((p : Int) + 3).toNat))
  rw [← eo] at w0 bd
  refine z_aload_n (pc' := 2701) (j := 1) (by decide +kernel) rfl rfl ?_
  refine z_aload_n (pc' := 2702) (j := 0) (by decide +kernel) rfl rfl ?_
  refine z_iload (pc' := 2704) (j := 5) (by decide +kernel) rfl rfl ?_
  refine z_iconst (pc' := 2705) (n := 1) (by decide +kernel) rfl ?_
  refine z_iadd (pc' := 2706) (by decide +kernel) rfl ?_
  refine z_sld (pc' := 2707) (by decide +kernel) (hs 1 (by decide) (by decide)) rfl ?_
  refine z_aload_n (pc' := 2708) (j := 0) (by decide +kernel) rfl rfl ?_
  refine z_iload (pc' := 2710) (j := 5) (by decide +kernel) rfl rfl ?_
  refine z_iconst (pc' := 2711) (n := 2) (by decide +kernel) rfl ?_
  refine z_iadd (pc' := 2712) (by decide +kernel) rfl ?_
  refine z_sld (pc' := 2713) (by decide +kernel) (hs 2 (by decide) (by decide)) rfl ?_
  refine z_aload_n (pc' := 2714) (j := 0) (by decide +kernel) rfl rfl ?_
  refine z_iload (pc' := 2716) (j := 5) (by decide +kernel) rfl rfl ?_
  refine z_iconst (pc' := 2717) (n := 3) (by decide +kernel) rfl ?_
  refine z_iadd (pc' := 2718) (by decide +kernel) rfl ?_
  refine z_sld (pc' := 2719) (by decide +kernel) (hs 3 (by decide) (by decide)) rfl ?_
  refine z_aload_n (pc' := 2720) (j := 3) (by decide +kernel) rfl rfl ?_
  refine z_callSH (pc' := 2723) (idx := 346) (mj := m_L_guess) (av := [.ref 0, iv (zScr G ((p : Int) + 1).toNat), iv (zScr G ((p : Int) + 2).toNat), iv (zScr G ((p : Int) + 3).toNat), .ref 320]) (n := 5) (d' := 30) (by decide +kernel) rfl k_L_guess (amM7 62 rfl (by decide +kernel)) rfl (by decide) (am_le rfl) rfl (am_le rfl) rfl (ZM.mono w0 fun r W hw => ?_)
  obtain ⟨rfl, hI, fr, hP⟩ := hw
  change ZP G 1500 m_law 2723 [some (.ref 1000060), some (.ref 0), some (.ref 300), some (.ref 320), some (.ref 321), some (iv (p : Int)), l6, l7, l8] [iv (o.1 : Int)] W _
  refine z_istore (pc' := 2725) (j := 6) (ls' := [some (.ref 1000060), some (.ref 0), some (.ref 300), some (.ref 320), some (.ref 321), some (iv (p : Int)), some (iv (o.1 : Int)), l7, l8]) (by decide +kernel) (by decide) rfl rfl ?_
  obtain ⟨B, hB⟩ := H.im1 fr
  have hw2 := H.hw hn fr
  have d0 := d_guess (G := G) (t := (zScr G ((p : Int) + 1).toNat)) (x := (zScr G ((p : Int) + 2).toNat)) (y := (zScr G ((p : Int) + 3).toNat)) (h := hB) (ho := H.ok) (hz := ⟨hw2.1, by omega⟩) (ht := (zScr_r _ _)) (hx := (zScr_r _ _)) (hy := (zScr_r _ _))
  rw [← eo] at d0
  refine z_aload_n (pc' := 2726) (j := 2) (by decide +kernel) rfl rfl ?_
  refine z_aload_n (pc' := 2727) (j := 0) (by decide +kernel) rfl rfl ?_
  refine z_iload (pc' := 2729) (j := 5) (by decide +kernel) rfl rfl ?_
  refine z_iconst (pc' := 2730) (n := 1) (by decide +kernel) rfl ?_
  refine z_iadd (pc' := 2731) (by decide +kernel) rfl ?_
  refine z_sld (pc' := 2732) (by decide +kernel) (hs 1 (by decide) (by decide)) rfl ?_
  refine z_aload_n (pc' := 2733) (j := 0) (by decide +kernel) rfl rfl ?_
  refine z_iload (pc' := 2735) (j := 5) (by decide +kernel) rfl rfl ?_
  refine z_iconst (pc' := 2736) (n := 2) (by decide +kernel) rfl ?_
  refine z_iadd (pc' := 2737) (by decide +kernel) rfl ?_
  refine z_sld (pc' := 2738) (by decide +kernel) (hs 2 (by decide) (by decide)) rfl ?_
  refine z_aload_n (pc' := 2739) (j := 0) (by decide +kernel) rfl rfl ?_
  refine z_iload (pc' := 2741) (j := 5) (by decide +kernel) rfl rfl ?_
  refine z_iconst (pc' := 2742) (n := 3) (by decide +kernel) rfl ?_
  refine z_iadd (pc' := 2743) (by decide +kernel) rfl ?_
  refine z_sld (pc' := 2744) (by decide +kernel) (hs 3 (by decide) (by decide)) rfl ?_
  refine z_callV (pc' := 2747) (idx := 348) (mj := m_X12_guess) (av := [iv (zScr G ((p : Int) + 1).toNat), iv (zScr G ((p : Int) + 2).toNat), iv (zScr G ((p : Int) + 3).toNat)]) (n := 3) (ci := 12) (b := 300) (d' := 12) (by decide +kernel) rfl k_X12_guess l_RL_348 rfl (by decide) (am_le rfl) rfl (am_le rfl) hB.1.o.1 hB.1.o.2 rfl (ZM.mono d0 fun r V hv => ?_)
  obtain ⟨⟨v, rfl, ev⟩, ht, hM, vV⟩ := hv
  obtain ⟨N, eL, eD⟩ := H.nx hn hI fr ok hM vV
  change ZP G 1500 m_law 2747 [some (.ref 1000060), some (.ref 0), some (.ref 300), some (.ref 320), some (.ref 321), some (iv (p : Int)), some (iv (o.1 : Int)), l7, l8] [iv v] V _
  refine z_istore (pc' := 2749) (j := 7) (ls' := [some (.ref 1000060), some (.ref 0), some (.ref 300), some (.ref 320), some (.ref 321), some (iv (p : Int)), some (iv (o.1 : Int)), some (iv v), l8]) (by decide +kernel) (by decide) rfl rfl ?_
  refine z_aload_n (pc' := 2750) (j := 2) (by decide +kernel) rfl rfl ?_
  obtain ⟨B2, hB2⟩ := hM
  refine z_callV (pc' := 2753) (idx := 190) (mj := m_X12_thrown) (av := []) (n := 0) (ci := 12) (b := 300) (d' := 0) (by decide +kernel) rfl k_X12_thrown l_RL_190 rfl (by decide) (am_le rfl) rfl (am_le rfl) hB2.1.o.1 hB2.1.o.2 rfl (zKf (s_thrown hB2.1) ?_)
  rw [ht]
  change ZP G 1500 m_law 2753 [some (.ref 1000060), some (.ref 0), some (.ref 300), some (.ref 320), some (.ref 321), some (iv (p : Int)), some (iv (o.1 : Int)), some (iv v), l8] [iv (o.1 : Int)] V _
  refine z_iload (pc' := 2755) (j := 6) (by decide +kernel) rfl rfl ?_
  refine z_same (pc' := 2758) (tgt := 2760) (off := 5) (by decide +kernel) (by decide) rfl ?_
  refine z_iload (pc' := 2762) (j := 6) (by decide +kernel) rfl rfl ?_
  refine z_if_ne (pc' := 2765) (tgt := 2777) (off := 15) (by decide +kernel) (by decide) rfl ⟨by omega, by omega⟩ ?_
  by_cases c0 : (o.1 : Int) = 0
  case neg =>
    rw [if_neg c0]
    refine z_goto (tgt := 3364) (off := 587) (by decide +kernel) (by decide) ?_
    exact k _ _ _ _ _ N
  rw [if_pos c0]
  have c1 : o.1 = 0 := by omega
  obtain rfl := ev c1
  refine z_aload_n (pc' := 2766) (j := 3) (by decide +kernel) rfl rfl ?_
  refine z_iconst (pc' := 2767) (n := 0) (by decide +kernel) rfl ?_
  refine z_laload (pc' := 2768) (by decide +kernel) N.oL ⟨by decide, by decide, by decide⟩ rfl ?_
  rw [show zL V 320 ((0 : Int)).toNat = rI o.2.1 from (congrFun eL 0).trans (hP c1)]
  refine z_iload (pc' := 2770) (j := 7) (by decide +kernel) rfl rfl ?_
  refine z_i2lr (pc' := 2771) (by decide +kernel) rfl ?_
  refine z_lsame (pc' := 2772) (by decide +kernel) rfl ?_
  refine z_if_eq (pc' := 2775) (tgt := 2777) (off := 5) (by decide +kernel) (by decide) rfl (by decide) ?_
  rw [if_pos rfl]
  refine z_goto (tgt := 3364) (off := 587) (by decide +kernel) (by decide) ?_
  exact k _ _ _ _ _ N
theorem lc_allOdds {G : Gx} {Q : Rv → Zm → Prop} {Z : Zm} {σ : St} {n p : Nat} {l6 l7 l8 : Option Value} (H : lwI n Z σ) (hn : n < 512) (hs : lwK G p) (k : lwN G p n Q) : ZP G 1500 m_law 2780 [some (.ref 1000060), some (.ref 0), some (.ref 300), some (.ref 320), some (.ref 321), some (iv (p : Int)), l6, l7, l8] [] Z Q := by
  obtain ⟨o, eo⟩ : ∃ o, o = o_allOdds σ := ⟨_, rfl⟩
  have ok : okS o.2.2 := by rw [eo]; exact k_allOdds  H.ok
  have w0 := w_L_allOdds (G := G) (h := H.ic) (ho := H.ok) (hz := H.hz hn) (hou := H.oL) 
  have bd := bd_allOdds (σ := σ)
  rw [← eo] at w0 bd
  refine z_aload_n (pc' := 2781) (j := 1) (by decide +kernel) rfl rfl ?_
  refine z_aload_n (pc' := 2782) (j := 3) (by decide +kernel) rfl rfl ?_
  refine z_callSH (pc' := 2785) (idx := 349) (mj := m_L_allOdds) (av := [.ref 0, .ref 320]) (n := 2) (d' := 30) (by decide +kernel) rfl k_L_allOdds (amM7 74 rfl (by decide +kernel)) rfl (by decide) (am_le rfl) rfl (am_le rfl) rfl (ZM.mono w0 fun r W hw => ?_)
  obtain ⟨rfl, hI, fr, hP⟩ := hw
  change ZP G 1500 m_law 2785 [some (.ref 1000060), some (.ref 0), some (.ref 300), some (.ref 320), some (.ref 321), some (iv (p : Int)), l6, l7, l8] [iv (o.1 : Int)] W _
  refine z_istore (pc' := 2787) (j := 6) (ls' := [some (.ref 1000060), some (.ref 0), some (.ref 300), some (.ref 320), some (.ref 321), some (iv (p : Int)), some (iv (o.1 : Int)), l7, l8]) (by decide +kernel) (by decide) rfl rfl ?_
  obtain ⟨B, hB⟩ := H.im1 fr
  have hw2 := H.hw hn fr
  have d0 := d_allOdds (G := G) (h := hB) (ho := H.ok) 
  rw [← eo] at d0
  refine z_aload_n (pc' := 2788) (j := 2) (by decide +kernel) rfl rfl ?_
  refine z_callV (pc' := 2791) (idx := 351) (mj := m_X12_allOdds) (av := []) (n := 0) (ci := 12) (b := 300) (d' := 12) (by decide +kernel) rfl k_X12_allOdds l_RL_351 rfl (by decide) (am_le rfl) rfl (am_le rfl) hB.1.o.1 hB.1.o.2 rfl (ZM.mono d0 fun r V hv => ?_)
  obtain ⟨⟨v, rfl, ev⟩, ht, hM, vV⟩ := hv
  obtain ⟨N, eL, eD⟩ := H.nx hn hI fr ok hM vV
  change ZP G 1500 m_law 2791 [some (.ref 1000060), some (.ref 0), some (.ref 300), some (.ref 320), some (.ref 321), some (iv (p : Int)), some (iv (o.1 : Int)), l7, l8] [jv v] V _
  refine z_lstore (pc' := 2793) (j := 7) (ls' := [some (.ref 1000060), some (.ref 0), some (.ref 300), some (.ref 320), some (.ref 321), some (iv (p : Int)), some (iv (o.1 : Int)), some (jv v), none]) (by decide +kernel) (by decide) rfl rfl ?_
  refine z_aload_n (pc' := 2794) (j := 2) (by decide +kernel) rfl rfl ?_
  obtain ⟨B2, hB2⟩ := hM
  refine z_callV (pc' := 2797) (idx := 190) (mj := m_X12_thrown) (av := []) (n := 0) (ci := 12) (b := 300) (d' := 0) (by decide +kernel) rfl k_X12_thrown l_RL_190 rfl (by decide) (am_le rfl) rfl (am_le rfl) hB2.1.o.1 hB2.1.o.2 rfl (zKf (s_thrown hB2.1) ?_)
  rw [ht]
  change ZP G 1500 m_law 2797 [some (.ref 1000060), some (.ref 0), some (.ref 300), some (.ref 320), some (.ref 321), some (iv (p : Int)), some (iv (o.1 : Int)), some (jv v), none] [iv (o.1 : Int)] V _
  refine z_iload (pc' := 2799) (j := 6) (by decide +kernel) rfl rfl ?_
  refine z_same (pc' := 2802) (tgt := 2804) (off := 5) (by decide +kernel) (by decide) rfl ?_
  refine z_iload (pc' := 2806) (j := 6) (by decide +kernel) rfl rfl ?_
  refine z_if_ne (pc' := 2809) (tgt := 2820) (off := 14) (by decide +kernel) (by decide) rfl ⟨by omega, by omega⟩ ?_
  by_cases c0 : (o.1 : Int) = 0
  case neg =>
    rw [if_neg c0]
    refine z_goto (tgt := 3364) (off := 544) (by decide +kernel) (by decide) ?_
    exact k _ _ _ _ _ N
  rw [if_pos c0]
  have c1 : o.1 = 0 := by omega
  obtain rfl := ev c1
  refine z_aload_n (pc' := 2810) (j := 3) (by decide +kernel) rfl rfl ?_
  refine z_iconst (pc' := 2811) (n := 0) (by decide +kernel) rfl ?_
  refine z_laload (pc' := 2812) (by decide +kernel) N.oL ⟨by decide, by decide, by decide⟩ rfl ?_
  rw [show zL V 320 ((0 : Int)).toNat = o.2.1 from (congrFun eL 0).trans (hP c1)]
  refine z_lload (pc' := 2814) (j := 7) (by decide +kernel) rfl rfl ?_
  refine z_lsame (pc' := 2815) (by decide +kernel) rfl ?_
  refine z_if_eq (pc' := 2818) (tgt := 2820) (off := 5) (by decide +kernel) (by decide) rfl (by decide) ?_
  rw [if_pos rfl]
  refine z_goto (tgt := 3364) (off := 544) (by decide +kernel) (by decide) ?_
  exact k _ _ _ _ _ N
theorem lc_oddsBy {G : Gx} {Q : Rv → Zm → Prop} {Z : Zm} {σ : St} {n p : Nat} {l6 l7 l8 : Option Value} (H : lwI n Z σ) (hn : n < 512) (hs : lwK G p) (k : lwN G p n Q) : ZP G 1500 m_law 2823 [some (.ref 1000060), some (.ref 0), some (.ref 300), some (.ref 320), some (.ref 321), some (iv (p : Int)), l6, l7, l8] [] Z Q := by
  obtain ⟨o, eo⟩ : ∃ o, o = o_oddsBy σ (zScr G ((p : Int) + 1).toNat) := ⟨_, rfl⟩
  have ok : okS o.2.2 := by rw [eo]; exact k_oddsBy (x := (zScr G ((p : Int) + 1).toNat)) H.ok
  have w0 := w_L_oddsBy (G := G) (h := H.ic) (ho := H.ok) (hz := H.hz hn) (hou := H.oL) (x := (zScr G ((p : Int) + 1).toNat)) (hx := (zScr_r _ _))
  have bd := bd_oddsBy (σ := σ) (x := (zScr G ((p : Int) + 1).toNat))
  rw [← eo] at w0 bd
  refine z_aload_n (pc' := 2824) (j := 1) (by decide +kernel) rfl rfl ?_
  refine z_aload_n (pc' := 2825) (j := 0) (by decide +kernel) rfl rfl ?_
  refine z_iload (pc' := 2827) (j := 5) (by decide +kernel) rfl rfl ?_
  refine z_iconst (pc' := 2828) (n := 1) (by decide +kernel) rfl ?_
  refine z_iadd (pc' := 2829) (by decide +kernel) rfl ?_
  refine z_sld (pc' := 2830) (by decide +kernel) (hs 1 (by decide) (by decide)) rfl ?_
  refine z_aload_n (pc' := 2831) (j := 3) (by decide +kernel) rfl rfl ?_
  refine z_callSH (pc' := 2834) (idx := 352) (mj := m_L_oddsBy) (av := [.ref 0, iv (zScr G ((p : Int) + 1).toNat), .ref 320]) (n := 3) (d' := 30) (by decide +kernel) rfl k_L_oddsBy (amM7 87 rfl (by decide +kernel)) rfl (by decide) (am_le rfl) rfl (am_le rfl) rfl (ZM.mono w0 fun r W hw => ?_)
  obtain ⟨rfl, hI, fr, hP⟩ := hw
  change ZP G 1500 m_law 2834 [some (.ref 1000060), some (.ref 0), some (.ref 300), some (.ref 320), some (.ref 321), some (iv (p : Int)), l6, l7, l8] [iv (o.1 : Int)] W _
  refine z_istore (pc' := 2836) (j := 6) (ls' := [some (.ref 1000060), some (.ref 0), some (.ref 300), some (.ref 320), some (.ref 321), some (iv (p : Int)), some (iv (o.1 : Int)), l7, l8]) (by decide +kernel) (by decide) rfl rfl ?_
  obtain ⟨B, hB⟩ := H.im1 fr
  have hw2 := H.hw hn fr
  have d0 := d_oddsBy (G := G) (x := (zScr G ((p : Int) + 1).toNat)) (h := hB) (ho := H.ok) (hz := hw2) (hx := (zScr_r _ _))
  rw [← eo] at d0
  refine z_aload_n (pc' := 2837) (j := 2) (by decide +kernel) rfl rfl ?_
  refine z_aload_n (pc' := 2838) (j := 0) (by decide +kernel) rfl rfl ?_
  refine z_iload (pc' := 2840) (j := 5) (by decide +kernel) rfl rfl ?_
  refine z_iconst (pc' := 2841) (n := 1) (by decide +kernel) rfl ?_
  refine z_iadd (pc' := 2842) (by decide +kernel) rfl ?_
  refine z_sld (pc' := 2843) (by decide +kernel) (hs 1 (by decide) (by decide)) rfl ?_
  refine z_callV (pc' := 2846) (idx := 354) (mj := m_X12_oddsBy) (av := [iv (zScr G ((p : Int) + 1).toNat)]) (n := 1) (ci := 12) (b := 300) (d' := 12) (by decide +kernel) rfl k_X12_oddsBy l_RL_354 rfl (by decide) (am_le rfl) rfl (am_le rfl) hB.1.o.1 hB.1.o.2 rfl (ZM.mono d0 fun r V hv => ?_)
  obtain ⟨⟨v, rfl, ev⟩, ht, hM, vV⟩ := hv
  obtain ⟨N, eL, eD⟩ := H.nx hn hI fr ok hM vV
  change ZP G 1500 m_law 2846 [some (.ref 1000060), some (.ref 0), some (.ref 300), some (.ref 320), some (.ref 321), some (iv (p : Int)), some (iv (o.1 : Int)), l7, l8] [jv v] V _
  refine z_lstore (pc' := 2848) (j := 7) (ls' := [some (.ref 1000060), some (.ref 0), some (.ref 300), some (.ref 320), some (.ref 321), some (iv (p : Int)), some (iv (o.1 : Int)), some (jv v), none]) (by decide +kernel) (by decide) rfl rfl ?_
  refine z_aload_n (pc' := 2849) (j := 2) (by decide +kernel) rfl rfl ?_
  obtain ⟨B2, hB2⟩ := hM
  refine z_callV (pc' := 2852) (idx := 190) (mj := m_X12_thrown) (av := []) (n := 0) (ci := 12) (b := 300) (d' := 0) (by decide +kernel) rfl k_X12_thrown l_RL_190 rfl (by decide) (am_le rfl) rfl (am_le rfl) hB2.1.o.1 hB2.1.o.2 rfl (zKf (s_thrown hB2.1) ?_)
  rw [ht]
  change ZP G 1500 m_law 2852 [some (.ref 1000060), some (.ref 0), some (.ref 300), some (.ref 320), some (.ref 321), some (iv (p : Int)), some (iv (o.1 : Int)), some (jv v), none] [iv (o.1 : Int)] V _
  refine z_iload (pc' := 2854) (j := 6) (by decide +kernel) rfl rfl ?_
  refine z_same (pc' := 2857) (tgt := 2859) (off := 5) (by decide +kernel) (by decide) rfl ?_
  refine z_iload (pc' := 2861) (j := 6) (by decide +kernel) rfl rfl ?_
  refine z_if_ne (pc' := 2864) (tgt := 2875) (off := 14) (by decide +kernel) (by decide) rfl ⟨by omega, by omega⟩ ?_
  by_cases c0 : (o.1 : Int) = 0
  case neg =>
    rw [if_neg c0]
    refine z_goto (tgt := 3364) (off := 489) (by decide +kernel) (by decide) ?_
    exact k _ _ _ _ _ N
  rw [if_pos c0]
  have c1 : o.1 = 0 := by omega
  obtain rfl := ev c1
  refine z_aload_n (pc' := 2865) (j := 3) (by decide +kernel) rfl rfl ?_
  refine z_iconst (pc' := 2866) (n := 0) (by decide +kernel) rfl ?_
  refine z_laload (pc' := 2867) (by decide +kernel) N.oL ⟨by decide, by decide, by decide⟩ rfl ?_
  rw [show zL V 320 ((0 : Int)).toNat = o.2.1 from (congrFun eL 0).trans (hP c1)]
  refine z_lload (pc' := 2869) (j := 7) (by decide +kernel) rfl rfl ?_
  refine z_lsame (pc' := 2870) (by decide +kernel) rfl ?_
  refine z_if_eq (pc' := 2873) (tgt := 2875) (off := 5) (by decide +kernel) (by decide) rfl (by decide) ?_
  rw [if_pos rfl]
  refine z_goto (tgt := 3364) (off := 489) (by decide +kernel) (by decide) ?_
  exact k _ _ _ _ _ N
theorem lc_oddsCritical {G : Gx} {Q : Rv → Zm → Prop} {Z : Zm} {σ : St} {n p : Nat} {l6 l7 l8 : Option Value} (H : lwI n Z σ) (hn : n < 512) (hs : lwK G p) (k : lwN G p n Q) : ZP G 1500 m_law 2878 [some (.ref 1000060), some (.ref 0), some (.ref 300), some (.ref 320), some (.ref 321), some (iv (p : Int)), l6, l7, l8] [] Z Q := by
  obtain ⟨o, eo⟩ : ∃ o, o = o_oddsCritical σ (zScr G ((p : Int) + 1).toNat) := ⟨_, rfl⟩
  have ok : okS o.2.2 := by rw [eo]; exact k_oddsCritical (t := (zScr G ((p : Int) + 1).toNat)) H.ok
  have w0 := w_L_oddsCritical (G := G) (h := H.ic) (ho := H.ok) (hz := H.hz hn) (hou := H.oL) (t := (zScr G ((p : Int) + 1).toNat)) (ht := (zScr_r _ _))
  have bd := bd_oddsCritical (σ := σ) (t := (zScr G ((p : Int) + 1).toNat))
  rw [← eo] at w0 bd
  refine z_aload_n (pc' := 2879) (j := 1) (by decide +kernel) rfl rfl ?_
  refine z_aload_n (pc' := 2880) (j := 0) (by decide +kernel) rfl rfl ?_
  refine z_iload (pc' := 2882) (j := 5) (by decide +kernel) rfl rfl ?_
  refine z_iconst (pc' := 2883) (n := 1) (by decide +kernel) rfl ?_
  refine z_iadd (pc' := 2884) (by decide +kernel) rfl ?_
  refine z_sld (pc' := 2885) (by decide +kernel) (hs 1 (by decide) (by decide)) rfl ?_
  refine z_aload_n (pc' := 2886) (j := 3) (by decide +kernel) rfl rfl ?_
  refine z_callSH (pc' := 2889) (idx := 355) (mj := m_L_oddsCritical) (av := [.ref 0, iv (zScr G ((p : Int) + 1).toNat), .ref 320]) (n := 3) (d' := 30) (by decide +kernel) rfl k_L_oddsCritical (amM7 116 rfl (by decide +kernel)) rfl (by decide) (am_le rfl) rfl (am_le rfl) rfl (ZM.mono w0 fun r W hw => ?_)
  obtain ⟨rfl, hI, fr, hP⟩ := hw
  change ZP G 1500 m_law 2889 [some (.ref 1000060), some (.ref 0), some (.ref 300), some (.ref 320), some (.ref 321), some (iv (p : Int)), l6, l7, l8] [iv (o.1 : Int)] W _
  refine z_istore (pc' := 2891) (j := 6) (ls' := [some (.ref 1000060), some (.ref 0), some (.ref 300), some (.ref 320), some (.ref 321), some (iv (p : Int)), some (iv (o.1 : Int)), l7, l8]) (by decide +kernel) (by decide) rfl rfl ?_
  obtain ⟨B, hB⟩ := H.im1 fr
  have hw2 := H.hw hn fr
  have d0 := d_oddsCritical (G := G) (t := (zScr G ((p : Int) + 1).toNat)) (h := hB) (ho := H.ok) (hz := hw2) (ht := (zScr_r _ _))
  rw [← eo] at d0
  refine z_aload_n (pc' := 2892) (j := 2) (by decide +kernel) rfl rfl ?_
  refine z_aload_n (pc' := 2893) (j := 0) (by decide +kernel) rfl rfl ?_
  refine z_iload (pc' := 2895) (j := 5) (by decide +kernel) rfl rfl ?_
  refine z_iconst (pc' := 2896) (n := 1) (by decide +kernel) rfl ?_
  refine z_iadd (pc' := 2897) (by decide +kernel) rfl ?_
  refine z_sld (pc' := 2898) (by decide +kernel) (hs 1 (by decide) (by decide)) rfl ?_
  refine z_callV (pc' := 2901) (idx := 357) (mj := m_X12_oddsCritical) (av := [iv (zScr G ((p : Int) + 1).toNat)]) (n := 1) (ci := 12) (b := 300) (d' := 12) (by decide +kernel) rfl k_X12_oddsCritical l_RL_357 rfl (by decide) (am_le rfl) rfl (am_le rfl) hB.1.o.1 hB.1.o.2 rfl (ZM.mono d0 fun r V hv => ?_)
  obtain ⟨⟨v, rfl, ev⟩, ht, hM, vV⟩ := hv
  obtain ⟨N, eL, eD⟩ := H.nx hn hI fr ok hM vV
  change ZP G 1500 m_law 2901 [some (.ref 1000060), some (.ref 0), some (.ref 300), some (.ref 320), some (.ref 321), some (iv (p : Int)), some (iv (o.1 : Int)), l7, l8] [jv v] V _
  refine z_lstore (pc' := 2903) (j := 7) (ls' := [some (.ref 1000060), some (.ref 0), some (.ref 300), some (.ref 320), some (.ref 321), some (iv (p : Int)), some (iv (o.1 : Int)), some (jv v), none]) (by decide +kernel) (by decide) rfl rfl ?_
  refine z_aload_n (pc' := 2904) (j := 2) (by decide +kernel) rfl rfl ?_
  obtain ⟨B2, hB2⟩ := hM
  refine z_callV (pc' := 2907) (idx := 190) (mj := m_X12_thrown) (av := []) (n := 0) (ci := 12) (b := 300) (d' := 0) (by decide +kernel) rfl k_X12_thrown l_RL_190 rfl (by decide) (am_le rfl) rfl (am_le rfl) hB2.1.o.1 hB2.1.o.2 rfl (zKf (s_thrown hB2.1) ?_)
  rw [ht]
  change ZP G 1500 m_law 2907 [some (.ref 1000060), some (.ref 0), some (.ref 300), some (.ref 320), some (.ref 321), some (iv (p : Int)), some (iv (o.1 : Int)), some (jv v), none] [iv (o.1 : Int)] V _
  refine z_iload (pc' := 2909) (j := 6) (by decide +kernel) rfl rfl ?_
  refine z_same (pc' := 2912) (tgt := 2914) (off := 5) (by decide +kernel) (by decide) rfl ?_
  refine z_iload (pc' := 2916) (j := 6) (by decide +kernel) rfl rfl ?_
  refine z_if_ne (pc' := 2919) (tgt := 2930) (off := 14) (by decide +kernel) (by decide) rfl ⟨by omega, by omega⟩ ?_
  by_cases c0 : (o.1 : Int) = 0
  case neg =>
    rw [if_neg c0]
    refine z_goto (tgt := 3364) (off := 434) (by decide +kernel) (by decide) ?_
    exact k _ _ _ _ _ N
  rw [if_pos c0]
  have c1 : o.1 = 0 := by omega
  obtain rfl := ev c1
  refine z_aload_n (pc' := 2920) (j := 3) (by decide +kernel) rfl rfl ?_
  refine z_iconst (pc' := 2921) (n := 0) (by decide +kernel) rfl ?_
  refine z_laload (pc' := 2922) (by decide +kernel) N.oL ⟨by decide, by decide, by decide⟩ rfl ?_
  rw [show zL V 320 ((0 : Int)).toNat = o.2.1 from (congrFun eL 0).trans (hP c1)]
  refine z_lload (pc' := 2924) (j := 7) (by decide +kernel) rfl rfl ?_
  refine z_lsame (pc' := 2925) (by decide +kernel) rfl ?_
  refine z_if_eq (pc' := 2928) (tgt := 2930) (off := 5) (by decide +kernel) (by decide) rfl (by decide) ?_
  rw [if_pos rfl]
  refine z_goto (tgt := 3364) (off := 434) (by decide +kernel) (by decide) ?_
  exact k _ _ _ _ _ N
theorem lc_planned {G : Gx} {Q : Rv → Zm → Prop} {Z : Zm} {σ : St} {n p : Nat} {l6 l7 l8 : Option Value} (H : lwI n Z σ) (hn : n < 512) (hs : lwK G p) (k : lwN G p n Q) : ZP G 1500 m_law 2933 [some (.ref 1000060), some (.ref 0), some (.ref 300), some (.ref 320), some (.ref 321), some (iv (p : Int)), l6, l7, l8] [] Z Q := by
  obtain ⟨o, eo⟩ : ∃ o, o = o_planned σ (zScr G ((p : Int) + 1).toNat) := ⟨_, rfl⟩
  have ok : okS o.2.2 := by rw [eo]; exact k_planned (x := (zScr G ((p : Int) + 1).toNat)) H.ok
  have w0 := w_L_planned (G := G) (h := H.ic) (ho := H.ok) (hz := H.hz hn) (hou := H.oL) (x := (zScr G ((p : Int) + 1).toNat)) (hx := (zScr_r _ _))
  have bd := bd_planned (σ := σ) (x := (zScr G ((p : Int) + 1).toNat))
  rw [← eo] at w0 bd
  refine z_aload_n (pc' := 2934) (j := 1) (by decide +kernel) rfl rfl ?_
  refine z_aload_n (pc' := 2935) (j := 0) (by decide +kernel) rfl rfl ?_
  refine z_iload (pc' := 2937) (j := 5) (by decide +kernel) rfl rfl ?_
  refine z_iconst (pc' := 2938) (n := 1) (by decide +kernel) rfl ?_
  refine z_iadd (pc' := 2939) (by decide +kernel) rfl ?_
  refine z_sld (pc' := 2940) (by decide +kernel) (hs 1 (by decide) (by decide)) rfl ?_
  refine z_aload_n (pc' := 2941) (j := 3) (by decide +kernel) rfl rfl ?_
  refine z_callSH (pc' := 2944) (idx := 358) (mj := m_L_planned) (av := [.ref 0, iv (zScr G ((p : Int) + 1).toNat), .ref 320]) (n := 3) (d' := 30) (by decide +kernel) rfl k_L_planned (amM7 123 rfl (by decide +kernel)) rfl (by decide) (am_le rfl) rfl (am_le rfl) rfl (ZM.mono w0 fun r W hw => ?_)
  obtain ⟨rfl, hI, fr, hP⟩ := hw
  change ZP G 1500 m_law 2944 [some (.ref 1000060), some (.ref 0), some (.ref 300), some (.ref 320), some (.ref 321), some (iv (p : Int)), l6, l7, l8] [iv (o.1 : Int)] W _
  refine z_istore (pc' := 2946) (j := 6) (ls' := [some (.ref 1000060), some (.ref 0), some (.ref 300), some (.ref 320), some (.ref 321), some (iv (p : Int)), some (iv (o.1 : Int)), l7, l8]) (by decide +kernel) (by decide) rfl rfl ?_
  obtain ⟨B, hB⟩ := H.im1 fr
  have hw2 := H.hw hn fr
  have d0 := d_planned (G := G) (x := (zScr G ((p : Int) + 1).toNat)) (h := hB) (ho := H.ok) (hz := hw2) (hx := (zScr_r _ _))
  rw [← eo] at d0
  refine z_aload_n (pc' := 2947) (j := 2) (by decide +kernel) rfl rfl ?_
  refine z_aload_n (pc' := 2948) (j := 0) (by decide +kernel) rfl rfl ?_
  refine z_iload (pc' := 2950) (j := 5) (by decide +kernel) rfl rfl ?_
  refine z_iconst (pc' := 2951) (n := 1) (by decide +kernel) rfl ?_
  refine z_iadd (pc' := 2952) (by decide +kernel) rfl ?_
  refine z_sld (pc' := 2953) (by decide +kernel) (hs 1 (by decide) (by decide)) rfl ?_
  refine z_callV (pc' := 2956) (idx := 360) (mj := m_X12_planned_) (av := [iv (zScr G ((p : Int) + 1).toNat)]) (n := 1) (ci := 12) (b := 300) (d' := 12) (by decide +kernel) rfl k_X12_planned_ l_RL_360 rfl (by decide) (am_le rfl) rfl (am_le rfl) hB.1.o.1 hB.1.o.2 rfl (ZM.mono d0 fun r V hv => ?_)
  obtain ⟨⟨v, rfl, ev⟩, ht, hM, vV⟩ := hv
  obtain ⟨N, eL, eD⟩ := H.nx hn hI fr ok hM vV
  change ZP G 1500 m_law 2956 [some (.ref 1000060), some (.ref 0), some (.ref 300), some (.ref 320), some (.ref 321), some (iv (p : Int)), some (iv (o.1 : Int)), l7, l8] [iv v] V _
  refine z_istore (pc' := 2958) (j := 7) (ls' := [some (.ref 1000060), some (.ref 0), some (.ref 300), some (.ref 320), some (.ref 321), some (iv (p : Int)), some (iv (o.1 : Int)), some (iv v), l8]) (by decide +kernel) (by decide) rfl rfl ?_
  refine z_aload_n (pc' := 2959) (j := 2) (by decide +kernel) rfl rfl ?_
  obtain ⟨B2, hB2⟩ := hM
  refine z_callV (pc' := 2962) (idx := 190) (mj := m_X12_thrown) (av := []) (n := 0) (ci := 12) (b := 300) (d' := 0) (by decide +kernel) rfl k_X12_thrown l_RL_190 rfl (by decide) (am_le rfl) rfl (am_le rfl) hB2.1.o.1 hB2.1.o.2 rfl (zKf (s_thrown hB2.1) ?_)
  rw [ht]
  change ZP G 1500 m_law 2962 [some (.ref 1000060), some (.ref 0), some (.ref 300), some (.ref 320), some (.ref 321), some (iv (p : Int)), some (iv (o.1 : Int)), some (iv v), l8] [iv (o.1 : Int)] V _
  refine z_iload (pc' := 2964) (j := 6) (by decide +kernel) rfl rfl ?_
  refine z_same (pc' := 2967) (tgt := 2969) (off := 5) (by decide +kernel) (by decide) rfl ?_
  refine z_iload (pc' := 2971) (j := 6) (by decide +kernel) rfl rfl ?_
  refine z_if_ne (pc' := 2974) (tgt := 2986) (off := 15) (by decide +kernel) (by decide) rfl ⟨by omega, by omega⟩ ?_
  by_cases c0 : (o.1 : Int) = 0
  case neg =>
    rw [if_neg c0]
    refine z_goto (tgt := 3364) (off := 378) (by decide +kernel) (by decide) ?_
    exact k _ _ _ _ _ N
  rw [if_pos c0]
  have c1 : o.1 = 0 := by omega
  obtain rfl := ev c1
  refine z_aload_n (pc' := 2975) (j := 3) (by decide +kernel) rfl rfl ?_
  refine z_iconst (pc' := 2976) (n := 0) (by decide +kernel) rfl ?_
  refine z_laload (pc' := 2977) (by decide +kernel) N.oL ⟨by decide, by decide, by decide⟩ rfl ?_
  rw [show zL V 320 ((0 : Int)).toNat = rI o.2.1 from (congrFun eL 0).trans (hP c1)]
  refine z_iload (pc' := 2979) (j := 7) (by decide +kernel) rfl rfl ?_
  refine z_i2lr (pc' := 2980) (by decide +kernel) rfl ?_
  refine z_lsame (pc' := 2981) (by decide +kernel) rfl ?_
  refine z_if_eq (pc' := 2984) (tgt := 2986) (off := 5) (by decide +kernel) (by decide) rfl (by decide) ?_
  rw [if_pos rfl]
  refine z_goto (tgt := 3364) (off := 378) (by decide +kernel) (by decide) ?_
  exact k _ _ _ _ _ N
theorem lc_earned {G : Gx} {Q : Rv → Zm → Prop} {Z : Zm} {σ : St} {n p : Nat} {l6 l7 l8 : Option Value} (H : lwI n Z σ) (hn : n < 512) (hs : lwK G p) (k : lwN G p n Q) : ZP G 1500 m_law 2989 [some (.ref 1000060), some (.ref 0), some (.ref 300), some (.ref 320), some (.ref 321), some (iv (p : Int)), l6, l7, l8] [] Z Q := by
  obtain ⟨o, eo⟩ : ∃ o, o = o_earned σ := ⟨_, rfl⟩
  have ok : okS o.2.2 := by rw [eo]; exact k_earned  H.ok
  have w0 := c_earned (G := G) (h := H.ic) (ho := H.ok)
  have bd : (o_earned σ).1 = 0 := rfl
  rw [← eo] at w0 bd
  refine z_aload_n (pc' := 2990) (j := 1) (by decide +kernel) rfl rfl ?_
  refine z_callV (pc' := 2993) (idx := 361) (mj := m_X11_earned) (av := []) (n := 0) (ci := 11) (b := 0) (d' := 12) (by decide +kernel) rfl k_X11_earned l_RL_361 rfl (by decide) (am_le rfl) rfl (am_le rfl) H.ic.1.o.1 H.ic.1.o.2 rfl (ZM.mono w0 fun r W hw => ?_)
  obtain ⟨rfl, hI, fr'⟩ := hw
  have fr := wF fr'
  rw [rO, if_pos bd]
  change ZP G 1500 m_law 2993 [some (.ref 1000060), some (.ref 0), some (.ref 300), some (.ref 320), some (.ref 321), some (iv (p : Int)), l6, l7, l8] [iv o.2.1] W _
  obtain ⟨B, hB⟩ := H.im1 fr
  have hw2 := H.hw hn fr
  have d0 := d_earned (G := G) (h := hB) (ho := H.ok) 
  rw [← eo] at d0
  refine z_aload_n (pc' := 2994) (j := 2) (by decide +kernel) rfl rfl ?_
  refine z_callV (pc' := 2997) (idx := 364) (mj := m_X12_earned) (av := []) (n := 0) (ci := 12) (b := 300) (d' := 12) (by decide +kernel) rfl k_X12_earned l_RL_364 rfl (by decide) (am_le rfl) rfl (am_le rfl) hB.1.o.1 hB.1.o.2 rfl (ZM.mono d0 fun r V hv => ?_)
  obtain ⟨⟨v, rfl, ev⟩, ht, hM, vV⟩ := hv
  obtain ⟨N, eL, eD⟩ := H.nx hn hI fr ok hM vV
  change ZP G 1500 m_law 2997 [some (.ref 1000060), some (.ref 0), some (.ref 300), some (.ref 320), some (.ref 321), some (iv (p : Int)), l6, l7, l8] [iv v, iv o.2.1] V _
  obtain rfl := ev bd
  refine z_same (pc' := 3000) (tgt := 3364) (off := 367) (by decide +kernel) (by decide) rfl ?_
  exact k _ _ _ _ _ N
theorem lc_keep {G : Gx} {Q : Rv → Zm → Prop} {Z : Zm} {σ : St} {n p : Nat} {l6 l7 l8 : Option Value} (H : lwI n Z σ) (hn : n < 512) (hs : lwK G p) (k : lwN G p n Q) : ZP G 1500 m_law 3080 [some (.ref 1000060), some (.ref 0), some (.ref 300), some (.ref 320), some (.ref 321), some (iv (p : Int)), l6, l7, l8] [] Z Q := by
  obtain ⟨o, eo⟩ : ∃ o, o = o_keep σ := ⟨_, rfl⟩
  have ok : okS o.2.2 := by rw [eo]; exact k_keep  H.ok
  have w0 := c_keep (G := G) (h := H.ic) (ho := H.ok)
  have bd : (o_keep σ).1 = 0 := rfl
  rw [← eo] at w0 bd
  refine z_aload_n (pc' := 3081) (j := 1) (by decide +kernel) rfl rfl ?_
  refine z_callV (pc' := 3084) (idx := 369) (mj := m_X11_keep) (av := []) (n := 0) (ci := 11) (b := 0) (d' := 12) (by decide +kernel) rfl k_X11_keep l_RL_369 rfl (by decide) (am_le rfl) rfl (am_le rfl) H.ic.1.o.1 H.ic.1.o.2 rfl (ZM.mono w0 fun r W hw => ?_)
  obtain ⟨rfl, hI, fr'⟩ := hw
  have fr := wF fr'
  rw [rO, if_pos bd]
  change ZP G 1500 m_law 3084 [some (.ref 1000060), some (.ref 0), some (.ref 300), some (.ref 320), some (.ref 321), some (iv (p : Int)), l6, l7, l8] [iv o.2.1] W _
  obtain ⟨B, hB⟩ := H.im1 fr
  have hw2 := H.hw hn fr
  have d0 := d_keep (G := G) (h := hB) (ho := H.ok) (hz := hw2) 
  rw [← eo] at d0
  refine z_aload_n (pc' := 3085) (j := 2) (by decide +kernel) rfl rfl ?_
  refine z_callV (pc' := 3088) (idx := 372) (mj := m_X12_keep) (av := []) (n := 0) (ci := 12) (b := 300) (d' := 12) (by decide +kernel) rfl k_X12_keep l_RL_372 rfl (by decide) (am_le rfl) rfl (am_le rfl) hB.1.o.1 hB.1.o.2 rfl (ZM.mono d0 fun r V hv => ?_)
  obtain ⟨⟨v, rfl, ev⟩, ht, hM, vV⟩ := hv
  obtain ⟨N, eL, eD⟩ := H.nx hn hI fr ok hM vV
  change ZP G 1500 m_law 3088 [some (.ref 1000060), some (.ref 0), some (.ref 300), some (.ref 320), some (.ref 321), some (iv (p : Int)), l6, l7, l8] [iv v, iv o.2.1] V _
  obtain rfl := ev bd
  refine z_same (pc' := 3091) (tgt := 3364) (off := 276) (by decide +kernel) (by decide) rfl ?_
  exact k _ _ _ _ _ N
theorem lc_moved {G : Gx} {Q : Rv → Zm → Prop} {Z : Zm} {σ : St} {n p : Nat} {l6 l7 l8 : Option Value} (H : lwI n Z σ) (hn : n < 512) (hs : lwK G p) (k : lwN G p n Q) : ZP G 1500 m_law 3093 [some (.ref 1000060), some (.ref 0), some (.ref 300), some (.ref 320), some (.ref 321), some (iv (p : Int)), l6, l7, l8] [] Z Q := by
  obtain ⟨o, eo⟩ : ∃ o, o = o_moved σ := ⟨_, rfl⟩
  have ok : okS o.2.2 := by rw [eo]; exact k_moved  H.ok
  have w0 := c_moved (G := G) (h := H.ic) (ho := H.ok)
  have bd : (o_moved σ).1 = 0 := rfl
  rw [← eo] at w0 bd
  refine z_aload_n (pc' := 3094) (j := 1) (by decide +kernel) rfl rfl ?_
  refine z_callV (pc' := 3097) (idx := 373) (mj := m_X11_moved) (av := []) (n := 0) (ci := 11) (b := 0) (d' := 12) (by decide +kernel) rfl k_X11_moved l_RL_373 rfl (by decide) (am_le rfl) rfl (am_le rfl) H.ic.1.o.1 H.ic.1.o.2 rfl (ZM.mono w0 fun r W hw => ?_)
  obtain ⟨rfl, hI, fr'⟩ := hw
  have fr := wF fr'
  rw [rO, if_pos bd]
  change ZP G 1500 m_law 3097 [some (.ref 1000060), some (.ref 0), some (.ref 300), some (.ref 320), some (.ref 321), some (iv (p : Int)), l6, l7, l8] [iv o.2.1] W _
  obtain ⟨B, hB⟩ := H.im1 fr
  have hw2 := H.hw hn fr
  have d0 := d_moved (G := G) (h := hB) (ho := H.ok) (hz := hw2) 
  rw [← eo] at d0
  refine z_aload_n (pc' := 3098) (j := 2) (by decide +kernel) rfl rfl ?_
  refine z_callV (pc' := 3101) (idx := 376) (mj := m_X12_moved) (av := []) (n := 0) (ci := 12) (b := 300) (d' := 12) (by decide +kernel) rfl k_X12_moved l_RL_376 rfl (by decide) (am_le rfl) rfl (am_le rfl) hB.1.o.1 hB.1.o.2 rfl (ZM.mono d0 fun r V hv => ?_)
  obtain ⟨⟨v, rfl, ev⟩, ht, hM, vV⟩ := hv
  obtain ⟨N, eL, eD⟩ := H.nx hn hI fr ok hM vV
  change ZP G 1500 m_law 3101 [some (.ref 1000060), some (.ref 0), some (.ref 300), some (.ref 320), some (.ref 321), some (iv (p : Int)), l6, l7, l8] [iv v, iv o.2.1] V _
  obtain rfl := ev bd
  refine z_same (pc' := 3104) (tgt := 3364) (off := 263) (by decide +kernel) (by decide) rfl ?_
  exact k _ _ _ _ _ N
theorem lc_movedBy {G : Gx} {Q : Rv → Zm → Prop} {Z : Zm} {σ : St} {n p : Nat} {l6 l7 l8 : Option Value} (H : lwI n Z σ) (hn : n < 512) (hs : lwK G p) (k : lwN G p n Q) : ZP G 1500 m_law 3106 [some (.ref 1000060), some (.ref 0), some (.ref 300), some (.ref 320), some (.ref 321), some (iv (p : Int)), l6, l7, l8] [] Z Q := by
  obtain ⟨o, eo⟩ : ∃ o, o = o_movedBy σ (zScr G ((p : Int) + 1).toNat) := ⟨_, rfl⟩
  have ok : okS o.2.2 := by rw [eo]; exact k_movedBy (t := (zScr G ((p : Int) + 1).toNat)) H.ok
  have w0 := w_L_movedBy (G := G) (h := H.ic) (ho := H.ok) (hz := H.hz hn) (hou := H.oL) (t := (zScr G ((p : Int) + 1).toNat)) (ht := (zScr_r _ _))
  have bd := bd_movedBy (σ := σ) (t := (zScr G ((p : Int) + 1).toNat))
  rw [← eo] at w0 bd
  refine z_aload_n (pc' := 3107) (j := 1) (by decide +kernel) rfl rfl ?_
  refine z_aload_n (pc' := 3108) (j := 0) (by decide +kernel) rfl rfl ?_
  refine z_iload (pc' := 3110) (j := 5) (by decide +kernel) rfl rfl ?_
  refine z_iconst (pc' := 3111) (n := 1) (by decide +kernel) rfl ?_
  refine z_iadd (pc' := 3112) (by decide +kernel) rfl ?_
  refine z_sld (pc' := 3113) (by decide +kernel) (hs 1 (by decide) (by decide)) rfl ?_
  refine z_aload_n (pc' := 3114) (j := 3) (by decide +kernel) rfl rfl ?_
  refine z_callSH (pc' := 3117) (idx := 377) (mj := m_L_movedBy) (av := [.ref 0, iv (zScr G ((p : Int) + 1).toNat), .ref 320]) (n := 3) (d' := 30) (by decide +kernel) rfl k_L_movedBy (amM7 164 rfl (by decide +kernel)) rfl (by decide) (am_le rfl) rfl (am_le rfl) rfl (ZM.mono w0 fun r W hw => ?_)
  obtain ⟨rfl, hI, fr, hP⟩ := hw
  change ZP G 1500 m_law 3117 [some (.ref 1000060), some (.ref 0), some (.ref 300), some (.ref 320), some (.ref 321), some (iv (p : Int)), l6, l7, l8] [iv (o.1 : Int)] W _
  refine z_istore (pc' := 3119) (j := 6) (ls' := [some (.ref 1000060), some (.ref 0), some (.ref 300), some (.ref 320), some (.ref 321), some (iv (p : Int)), some (iv (o.1 : Int)), l7, l8]) (by decide +kernel) (by decide) rfl rfl ?_
  obtain ⟨B, hB⟩ := H.im1 fr
  have hw2 := H.hw hn fr
  have d0 := d_movedBy (G := G) (t := (zScr G ((p : Int) + 1).toNat)) (h := hB) (ho := H.ok) (hz := hw2) (ht := (zScr_r _ _))
  rw [← eo] at d0
  refine z_aload_n (pc' := 3120) (j := 2) (by decide +kernel) rfl rfl ?_
  refine z_aload_n (pc' := 3121) (j := 0) (by decide +kernel) rfl rfl ?_
  refine z_iload (pc' := 3123) (j := 5) (by decide +kernel) rfl rfl ?_
  refine z_iconst (pc' := 3124) (n := 1) (by decide +kernel) rfl ?_
  refine z_iadd (pc' := 3125) (by decide +kernel) rfl ?_
  refine z_sld (pc' := 3126) (by decide +kernel) (hs 1 (by decide) (by decide)) rfl ?_
  refine z_callV (pc' := 3129) (idx := 379) (mj := m_X12_movedBy) (av := [iv (zScr G ((p : Int) + 1).toNat)]) (n := 1) (ci := 12) (b := 300) (d' := 12) (by decide +kernel) rfl k_X12_movedBy l_RL_379 rfl (by decide) (am_le rfl) rfl (am_le rfl) hB.1.o.1 hB.1.o.2 rfl (ZM.mono d0 fun r V hv => ?_)
  obtain ⟨⟨v, rfl, ev⟩, ht, hM, vV⟩ := hv
  obtain ⟨N, eL, eD⟩ := H.nx hn hI fr ok hM vV
  change ZP G 1500 m_law 3129 [some (.ref 1000060), some (.ref 0), some (.ref 300), some (.ref 320), some (.ref 321), some (iv (p : Int)), some (iv (o.1 : Int)), l7, l8] [iv v] V _
  refine z_istore (pc' := 3131) (j := 7) (ls' := [some (.ref 1000060), some (.ref 0), some (.ref 300), some (.ref 320), some (.ref 321), some (iv (p : Int)), some (iv (o.1 : Int)), some (iv v), l8]) (by decide +kernel) (by decide) rfl rfl ?_
  refine z_aload_n (pc' := 3132) (j := 2) (by decide +kernel) rfl rfl ?_
  obtain ⟨B2, hB2⟩ := hM
  refine z_callV (pc' := 3135) (idx := 190) (mj := m_X12_thrown) (av := []) (n := 0) (ci := 12) (b := 300) (d' := 0) (by decide +kernel) rfl k_X12_thrown l_RL_190 rfl (by decide) (am_le rfl) rfl (am_le rfl) hB2.1.o.1 hB2.1.o.2 rfl (zKf (s_thrown hB2.1) ?_)
  rw [ht]
  change ZP G 1500 m_law 3135 [some (.ref 1000060), some (.ref 0), some (.ref 300), some (.ref 320), some (.ref 321), some (iv (p : Int)), some (iv (o.1 : Int)), some (iv v), l8] [iv (o.1 : Int)] V _
  refine z_iload (pc' := 3137) (j := 6) (by decide +kernel) rfl rfl ?_
  refine z_same (pc' := 3140) (tgt := 3142) (off := 5) (by decide +kernel) (by decide) rfl ?_
  refine z_iload (pc' := 3144) (j := 6) (by decide +kernel) rfl rfl ?_
  refine z_if_ne (pc' := 3147) (tgt := 3159) (off := 15) (by decide +kernel) (by decide) rfl ⟨by omega, by omega⟩ ?_
  by_cases c0 : (o.1 : Int) = 0
  case neg =>
    rw [if_neg c0]
    refine z_goto (tgt := 3364) (off := 205) (by decide +kernel) (by decide) ?_
    exact k _ _ _ _ _ N
  rw [if_pos c0]
  have c1 : o.1 = 0 := by omega
  obtain rfl := ev c1
  refine z_aload_n (pc' := 3148) (j := 3) (by decide +kernel) rfl rfl ?_
  refine z_iconst (pc' := 3149) (n := 0) (by decide +kernel) rfl ?_
  refine z_laload (pc' := 3150) (by decide +kernel) N.oL ⟨by decide, by decide, by decide⟩ rfl ?_
  rw [show zL V 320 ((0 : Int)).toNat = rI o.2.1 from (congrFun eL 0).trans (hP c1)]
  refine z_iload (pc' := 3152) (j := 7) (by decide +kernel) rfl rfl ?_
  refine z_i2lr (pc' := 3153) (by decide +kernel) rfl ?_
  refine z_lsame (pc' := 3154) (by decide +kernel) rfl ?_
  refine z_if_eq (pc' := 3157) (tgt := 3159) (off := 5) (by decide +kernel) (by decide) rfl (by decide) ?_
  rw [if_pos rfl]
  refine z_goto (tgt := 3364) (off := 205) (by decide +kernel) (by decide) ?_
  exact k _ _ _ _ _ N
theorem lc_crane {G : Gx} {Q : Rv → Zm → Prop} {Z : Zm} {σ : St} {n p : Nat} {l6 l7 l8 : Option Value} (H : lwI n Z σ) (hn : n < 512) (hs : lwK G p) (k : lwN G p n Q) : ZP G 1500 m_law 3162 [some (.ref 1000060), some (.ref 0), some (.ref 300), some (.ref 320), some (.ref 321), some (iv (p : Int)), l6, l7, l8] [] Z Q := by
  obtain ⟨o, eo⟩ : ∃ o, o = o_crane σ := ⟨_, rfl⟩
  have ok : okS o.2.2 := by rw [eo]; exact k_crane  H.ok
  have w0 := w_L_crane (G := G) (h := H.ic) (ho := H.ok) (hz := H.hz hn) (hou := H.oL) 
  have bd := bd_crane (σ := σ)
  rw [← eo] at w0 bd
  refine z_aload_n (pc' := 3163) (j := 1) (by decide +kernel) rfl rfl ?_
  refine z_aload_n (pc' := 3164) (j := 3) (by decide +kernel) rfl rfl ?_
  refine z_callSH (pc' := 3167) (idx := 380) (mj := m_L_crane) (av := [.ref 0, .ref 320]) (n := 2) (d' := 30) (by decide +kernel) rfl k_L_crane (amM7 172 rfl (by decide +kernel)) rfl (by decide) (am_le rfl) rfl (am_le rfl) rfl (ZM.mono w0 fun r W hw => ?_)
  obtain ⟨rfl, hI, fr, hP⟩ := hw
  change ZP G 1500 m_law 3167 [some (.ref 1000060), some (.ref 0), some (.ref 300), some (.ref 320), some (.ref 321), some (iv (p : Int)), l6, l7, l8] [iv (o.1 : Int)] W _
  refine z_istore (pc' := 3169) (j := 6) (ls' := [some (.ref 1000060), some (.ref 0), some (.ref 300), some (.ref 320), some (.ref 321), some (iv (p : Int)), some (iv (o.1 : Int)), l7, l8]) (by decide +kernel) (by decide) rfl rfl ?_
  obtain ⟨B, hB⟩ := H.im1 fr
  have hw2 := H.hw hn fr
  have d0 := d_crane (G := G) (h := hB) (ho := H.ok) (hz := hw2) 
  rw [← eo] at d0
  refine z_aload_n (pc' := 3170) (j := 2) (by decide +kernel) rfl rfl ?_
  refine z_callV (pc' := 3173) (idx := 382) (mj := m_X12_crane) (av := []) (n := 0) (ci := 12) (b := 300) (d' := 12) (by decide +kernel) rfl k_X12_crane l_RL_382 rfl (by decide) (am_le rfl) rfl (am_le rfl) hB.1.o.1 hB.1.o.2 rfl (ZM.mono d0 fun r V hv => ?_)
  obtain ⟨⟨v, rfl, ev⟩, ht, hM, vV⟩ := hv
  obtain ⟨N, eL, eD⟩ := H.nx hn hI fr ok hM vV
  change ZP G 1500 m_law 3173 [some (.ref 1000060), some (.ref 0), some (.ref 300), some (.ref 320), some (.ref 321), some (iv (p : Int)), some (iv (o.1 : Int)), l7, l8] [iv v] V _
  refine z_istore (pc' := 3175) (j := 7) (ls' := [some (.ref 1000060), some (.ref 0), some (.ref 300), some (.ref 320), some (.ref 321), some (iv (p : Int)), some (iv (o.1 : Int)), some (iv v), l8]) (by decide +kernel) (by decide) rfl rfl ?_
  refine z_aload_n (pc' := 3176) (j := 2) (by decide +kernel) rfl rfl ?_
  obtain ⟨B2, hB2⟩ := hM
  refine z_callV (pc' := 3179) (idx := 190) (mj := m_X12_thrown) (av := []) (n := 0) (ci := 12) (b := 300) (d' := 0) (by decide +kernel) rfl k_X12_thrown l_RL_190 rfl (by decide) (am_le rfl) rfl (am_le rfl) hB2.1.o.1 hB2.1.o.2 rfl (zKf (s_thrown hB2.1) ?_)
  rw [ht]
  change ZP G 1500 m_law 3179 [some (.ref 1000060), some (.ref 0), some (.ref 300), some (.ref 320), some (.ref 321), some (iv (p : Int)), some (iv (o.1 : Int)), some (iv v), l8] [iv (o.1 : Int)] V _
  refine z_iload (pc' := 3181) (j := 6) (by decide +kernel) rfl rfl ?_
  refine z_same (pc' := 3184) (tgt := 3186) (off := 5) (by decide +kernel) (by decide) rfl ?_
  refine z_iload (pc' := 3188) (j := 6) (by decide +kernel) rfl rfl ?_
  refine z_if_ne (pc' := 3191) (tgt := 3203) (off := 15) (by decide +kernel) (by decide) rfl ⟨by omega, by omega⟩ ?_
  by_cases c0 : (o.1 : Int) = 0
  case neg =>
    rw [if_neg c0]
    refine z_goto (tgt := 3364) (off := 161) (by decide +kernel) (by decide) ?_
    exact k _ _ _ _ _ N
  rw [if_pos c0]
  have c1 : o.1 = 0 := by omega
  obtain rfl := ev c1
  refine z_aload_n (pc' := 3192) (j := 3) (by decide +kernel) rfl rfl ?_
  refine z_iconst (pc' := 3193) (n := 0) (by decide +kernel) rfl ?_
  refine z_laload (pc' := 3194) (by decide +kernel) N.oL ⟨by decide, by decide, by decide⟩ rfl ?_
  rw [show zL V 320 ((0 : Int)).toNat = rI o.2.1 from (congrFun eL 0).trans (hP c1)]
  refine z_iload (pc' := 3196) (j := 7) (by decide +kernel) rfl rfl ?_
  refine z_i2lr (pc' := 3197) (by decide +kernel) rfl ?_
  refine z_lsame (pc' := 3198) (by decide +kernel) rfl ?_
  refine z_if_eq (pc' := 3201) (tgt := 3203) (off := 5) (by decide +kernel) (by decide) rfl (by decide) ?_
  rw [if_pos rfl]
  refine z_goto (tgt := 3364) (off := 161) (by decide +kernel) (by decide) ?_
  exact k _ _ _ _ _ N
theorem lc_checksum {G : Gx} {Q : Rv → Zm → Prop} {Z : Zm} {σ : St} {n p : Nat} {l6 l7 l8 : Option Value} (H : lwI n Z σ) (hn : n < 512) (hs : lwK G p) (k : lwN G p n Q) : ZP G 1500 m_law 3337 [some (.ref 1000060), some (.ref 0), some (.ref 300), some (.ref 320), some (.ref 321), some (iv (p : Int)), l6, l7, l8] [] Z Q := by
  obtain ⟨o, eo⟩ : ∃ o, o = o_checksum σ := ⟨_, rfl⟩
  have ok : okS o.2.2 := by rw [eo]; exact k_checksum  H.ok
  have w0 := c_checksum (G := G) (h := H.ic) (ho := H.ok)
  have bd : (o_checksum σ).1 = 0 := rfl
  rw [← eo] at w0 bd
  refine z_aload_n (pc' := 3338) (j := 1) (by decide +kernel) rfl rfl ?_
  refine z_callV (pc' := 3341) (idx := 390) (mj := m_X11_checksum) (av := []) (n := 0) (ci := 11) (b := 0) (d' := 12) (by decide +kernel) rfl k_X11_checksum l_RL_390 rfl (by decide) (am_le rfl) rfl (am_le rfl) H.ic.1.o.1 H.ic.1.o.2 rfl (ZM.mono w0 fun r W hw => ?_)
  obtain ⟨rfl, hI, fr'⟩ := hw
  have fr := wF fr'
  rw [rO, if_pos bd]
  change ZP G 1500 m_law 3341 [some (.ref 1000060), some (.ref 0), some (.ref 300), some (.ref 320), some (.ref 321), some (iv (p : Int)), l6, l7, l8] [jv o.2.1] W _
  obtain ⟨B, hB⟩ := H.im1 fr
  have hw2 := H.hw hn fr
  have d0 := d_checksum (G := G) (h := hB) (ho := H.ok) 
  rw [← eo] at d0
  refine z_aload_n (pc' := 3342) (j := 2) (by decide +kernel) rfl rfl ?_
  refine z_callV (pc' := 3345) (idx := 393) (mj := m_X12_checksum) (av := []) (n := 0) (ci := 12) (b := 300) (d' := 12) (by decide +kernel) rfl k_X12_checksum l_RL_393 rfl (by decide) (am_le rfl) rfl (am_le rfl) hB.1.o.1 hB.1.o.2 rfl (ZM.mono d0 fun r V hv => ?_)
  obtain ⟨⟨v, rfl, ev⟩, ht, hM, vV⟩ := hv
  obtain ⟨N, eL, eD⟩ := H.nx hn hI fr ok hM vV
  change ZP G 1500 m_law 3345 [some (.ref 1000060), some (.ref 0), some (.ref 300), some (.ref 320), some (.ref 321), some (iv (p : Int)), l6, l7, l8] [jv v, jv o.2.1] V _
  obtain rfl := ev bd
  refine z_lsame (pc' := 3346) (by decide +kernel) rfl ?_
  refine z_if_eq (pc' := 3349) (tgt := 3364) (off := 18) (by decide +kernel) (by decide) rfl (by decide) ?_
  rw [if_pos rfl]
  exact k _ _ _ _ _ N
theorem lc_isTrue {G : Gx} {Q : Rv → Zm → Prop} {Z : Zm} {σ : St} {n p : Nat} {l6 l7 l8 : Option Value} (H : lwI n Z σ) (hn : n < 512) (hs : lwK G p) (k : lwN G p n Q) : ZP G 1500 m_law 3351 [some (.ref 1000060), some (.ref 0), some (.ref 300), some (.ref 320), some (.ref 321), some (iv (p : Int)), l6, l7, l8] [] Z Q := by
  obtain ⟨o, eo⟩ : ∃ o, o = o_isTrue σ := ⟨_, rfl⟩
  have ok : okS o.2.2 := by rw [eo]; exact k_isTrue  H.ok
  have w0 := c_isTrue (G := G) (h := H.ic) (ho := H.ok)
  have bd : (o_isTrue σ).1 = 0 := rfl
  rw [← eo] at w0 bd
  refine z_aload_n (pc' := 3352) (j := 1) (by decide +kernel) rfl rfl ?_
  refine z_callV (pc' := 3355) (idx := 394) (mj := m_X11_isTrue) (av := []) (n := 0) (ci := 11) (b := 0) (d' := 12) (by decide +kernel) rfl k_X11_isTrue l_RL_394 rfl (by decide) (am_le rfl) rfl (am_le rfl) H.ic.1.o.1 H.ic.1.o.2 rfl (ZM.mono w0 fun r W hw => ?_)
  obtain ⟨rfl, hI, fr'⟩ := hw
  have fr := wF fr'
  rw [rO, if_pos bd]
  change ZP G 1500 m_law 3355 [some (.ref 1000060), some (.ref 0), some (.ref 300), some (.ref 320), some (.ref 321), some (iv (p : Int)), l6, l7, l8] [iv o.2.1] W _
  obtain ⟨B, hB⟩ := H.im1 fr
  have hw2 := H.hw hn fr
  have d0 := d_isTrue (G := G) (h := hB) 
  rw [← eo] at d0
  refine z_aload_n (pc' := 3356) (j := 2) (by decide +kernel) rfl rfl ?_
  refine z_callV (pc' := 3359) (idx := 397) (mj := m_X12_isTrue) (av := []) (n := 0) (ci := 12) (b := 300) (d' := 12) (by decide +kernel) rfl k_X12_isTrue l_RL_397 rfl (by decide) (am_le rfl) rfl (am_le rfl) hB.1.o.1 hB.1.o.2 rfl (ZM.mono d0 fun r V hv => ?_)
  obtain ⟨⟨v, rfl, ev⟩, ht, hM, vV⟩ := hv
  obtain ⟨N, eL, eD⟩ := H.nx hn hI fr ok hM vV
  change ZP G 1500 m_law 3359 [some (.ref 1000060), some (.ref 0), some (.ref 300), some (.ref 320), some (.ref 321), some (iv (p : Int)), l6, l7, l8] [iv v, iv o.2.1] V _
  obtain rfl := ev bd
  refine z_same (pc' := 3362) (tgt := 3364) (off := 5) (by decide +kernel) (by decide) rfl ?_
  exact k _ _ _ _ _ N
