/-! ===== the law's round, its end ===== -/
theorem n_criticalShare {σ : St} (ho : okS σ) : (o_fig σ).1 = 0 → vf_n32 (vCr σ) := fun e => by
  have h := n_fig e
  have hk := ho.1.n
  have c0 := crN_r (sK σ) (kN (sK σ))
  exact fb32_div c0.1 (by omega) (by omega) (by omega)
theorem n_meanLength {σ : St} (ho : okS σ) : (o_fig σ).1 = 0 → vf_n64 (vMe σ) := fun e => by
  have h := n_fig e
  have hk := ho.1.n
  have c0 := fs_len ho.1
  exact fb64_div c0.1 (by omega) (by omega) (by omega)
theorem lc_index {G : Gx} {Q : Rv → Zm → Prop} {Z : Zm} {σ : St} {n p : Nat} {l6 l7 l8 : Option Value} (H : lwI n Z σ) (hn : n < 512) (hs : lwK G p) (k : lwN G p n Q) : ZP G 1500 m_law 3002 [some (.ref 1000060), some (.ref 0), some (.ref 300), some (.ref 320), some (.ref 321), some (iv (p : Int)), l6, l7, l8] [] Z Q := by
  obtain ⟨o, eo⟩ : ∃ o, o = o_index σ (zScr G ((p : Int) + 1).toNat) := ⟨_, rfl⟩
  have ok : okS o.2.2 := by rw [eo]; exact k_index (x := (zScr G ((p : Int) + 1).toNat)) H.ok
  have num : o.1 = 0 → vf_n32 (vIx σ (zScr G ((p : Int) + 1).toNat)) := by rw [eo]; exact n_index H.ok
  have w0 := w_L_index (G := G) (h := H.ic) (ho := H.ok) (hz := H.hz hn) (hou := H.oD) (x := (zScr G ((p : Int) + 1).toNat)) (hx := (zScr_r _ _)) (hn := by rw [← eo]; exact num)
  have bd := bd_index (σ := σ) (x := (zScr G ((p : Int) + 1).toNat))
  rw [← eo] at w0 bd
  refine z_aload_n (pc' := 3003) (j := 1) (by decide +kernel) rfl rfl ?_
  refine z_aload_n (pc' := 3004) (j := 0) (by decide +kernel) rfl rfl ?_
  refine z_iload (pc' := 3006) (j := 5) (by decide +kernel) rfl rfl ?_
  refine z_iconst (pc' := 3007) (n := 1) (by decide +kernel) rfl ?_
  refine z_iadd (pc' := 3008) (by decide +kernel) rfl ?_
  refine z_sld (pc' := 3009) (by decide +kernel) (hs 1 (by decide) (by decide)) rfl ?_
  refine z_aload (pc' := 3011) (j := 4) (by decide +kernel) rfl rfl ?_
  refine z_callSH (pc' := 3014) (idx := 365) (mj := m_L_index) (av := [.ref 0, iv (zScr G ((p : Int) + 1).toNat), .ref 321]) (n := 3) (d' := 30) (by decide +kernel) rfl k_L_index (amM7 140 rfl (by decide +kernel)) rfl (by decide) (am_le rfl) rfl (am_le rfl) rfl (ZM.mono w0 fun r W hw => ?_)
  obtain ⟨rfl, hI, fr, hP⟩ := hw
  change ZP G 1500 m_law 3014 [some (.ref 1000060), some (.ref 0), some (.ref 300), some (.ref 320), some (.ref 321), some (iv (p : Int)), l6, l7, l8] [iv (o.1 : Int)] W _
  refine z_istore (pc' := 3016) (j := 6) (ls' := [some (.ref 1000060), some (.ref 0), some (.ref 300), some (.ref 320), some (.ref 321), some (iv (p : Int)), some (iv (o.1 : Int)), l7, l8]) (by decide +kernel) (by decide) rfl rfl ?_
  obtain ⟨B, hB⟩ := H.im1 fr
  have hw2 := H.hw hn fr
  have d0 := d_index (G := G) (x := (zScr G ((p : Int) + 1).toNat)) (h := hB) (ho := H.ok) (hz := hw2) (hx := (zScr_r _ _))
  rw [← eo] at d0
  refine z_aload_n (pc' := 3017) (j := 2) (by decide +kernel) rfl rfl ?_
  refine z_aload_n (pc' := 3018) (j := 0) (by decide +kernel) rfl rfl ?_
  refine z_iload (pc' := 3020) (j := 5) (by decide +kernel) rfl rfl ?_
  refine z_iconst (pc' := 3021) (n := 1) (by decide +kernel) rfl ?_
  refine z_iadd (pc' := 3022) (by decide +kernel) rfl ?_
  refine z_sld (pc' := 3023) (by decide +kernel) (hs 1 (by decide) (by decide)) rfl ?_
  refine z_callV (pc' := 3026) (idx := 368) (mj := m_X12_index) (av := [iv (zScr G ((p : Int) + 1).toNat)]) (n := 1) (ci := 12) (b := 300) (d' := 12) (by decide +kernel) rfl k_X12_index l_RL_368 rfl (by decide) (am_le rfl) rfl (am_le rfl) hB.1.o.1 hB.1.o.2 rfl (ZM.mono d0 fun r V hv => ?_)
  obtain ⟨⟨v, rfl, ev⟩, ht, hM, vV⟩ := hv
  obtain ⟨N, eL, eD⟩ := H.nx hn hI fr ok hM vV
  change ZP G 1500 m_law 3026 [some (.ref 1000060), some (.ref 0), some (.ref 300), some (.ref 320), some (.ref 321), some (iv (p : Int)), some (iv (o.1 : Int)), l7, l8] [.float (if v = 0 then (vIx σ (zScr G ((p : Int) + 1).toNat)) else 0)] V _
  refine z_fstore (pc' := 3028) (j := 7) (ls' := [some (.ref 1000060), some (.ref 0), some (.ref 300), some (.ref 320), some (.ref 321), some (iv (p : Int)), some (iv (o.1 : Int)), some (.float (if v = 0 then (vIx σ (zScr G ((p : Int) + 1).toNat)) else 0)), l8]) (by decide +kernel) (by decide) rfl rfl ?_
  refine z_aload_n (pc' := 3029) (j := 2) (by decide +kernel) rfl rfl ?_
  obtain ⟨B2, hB2⟩ := hM
  refine z_callV (pc' := 3032) (idx := 190) (mj := m_X12_thrown) (av := []) (n := 0) (ci := 12) (b := 300) (d' := 0) (by decide +kernel) rfl k_X12_thrown l_RL_190 rfl (by decide) (am_le rfl) rfl (am_le rfl) hB2.1.o.1 hB2.1.o.2 rfl (zKf (s_thrown hB2.1) ?_)
  rw [ht]
  change ZP G 1500 m_law 3032 [some (.ref 1000060), some (.ref 0), some (.ref 300), some (.ref 320), some (.ref 321), some (iv (p : Int)), some (iv (o.1 : Int)), some (.float (if v = 0 then (vIx σ (zScr G ((p : Int) + 1).toNat)) else 0)), l8] [iv (o.1 : Int)] V _
  refine z_iload (pc' := 3034) (j := 6) (by decide +kernel) rfl rfl ?_
  refine z_same (pc' := 3037) (tgt := 3039) (off := 5) (by decide +kernel) (by decide) rfl ?_
  refine z_iload (pc' := 3041) (j := 6) (by decide +kernel) rfl rfl ?_
  refine z_if_ne (pc' := 3044) (tgt := 3077) (off := 36) (by decide +kernel) (by decide) rfl ⟨by omega, by omega⟩ ?_
  by_cases c0 : (o.1 : Int) = 0
  case neg =>
    rw [if_neg c0]
    refine z_goto (tgt := 3364) (off := 287) (by decide +kernel) (by decide) ?_
    exact k _ _ _ _ _ N
  rw [if_pos c0]
  have c1 : o.1 = 0 := by omega
  obtain rfl := ev c1
  refine z_aload (pc' := 3046) (j := 4) (by decide +kernel) rfl rfl ?_
  refine z_iconst (pc' := 3047) (n := 0) (by decide +kernel) rfl ?_
  refine z_daload (pc' := 3048) (by decide +kernel) N.oD ⟨by decide, by decide, by decide⟩ rfl ?_
  rw [show zD V 321 ((0 : Int)).toNat = FP.f2d (if o.2.1 = 0 then (vIx σ (zScr G ((p : Int) + 1).toNat)) else 0) from (congrFun eD 0).trans (hP c1)]
  refine z_fload (pc' := 3050) (j := 7) (by decide +kernel) rfl rfl ?_
  have nn : vf_n64 (FP.f2d (if o.2.1 = 0 then (vIx σ (zScr G ((p : Int) + 1).toNat)) else 0)) := fw_num (by split; exact num c1; exact n32_0)
  refine z_f2d (pc' := 3051) (by decide +kernel) nn rfl ?_
  refine z_dcmp (pc' := 3052) (op := .l) (by decide +kernel) rfl ?_
  rw [zd_same nn]
  refine z_if_eq (pc' := 3055) (tgt := 3077) (off := 25) (by decide +kernel) (by decide) rfl (by decide) ?_
  rw [if_pos rfl]
  refine z_goto (tgt := 3364) (off := 287) (by decide +kernel) (by decide) ?_
  exact k _ _ _ _ _ N
theorem lc_criticalShare {G : Gx} {Q : Rv → Zm → Prop} {Z : Zm} {σ : St} {n p : Nat} {l6 l7 l8 : Option Value} (H : lwI n Z σ) (hn : n < 512) (hs : lwK G p) (k : lwN G p n Q) : ZP G 1500 m_law 3206 [some (.ref 1000060), some (.ref 0), some (.ref 300), some (.ref 320), some (.ref 321), some (iv (p : Int)), l6, l7, l8] [] Z Q := by
  obtain ⟨o, eo⟩ : ∃ o, o = o_fig σ := ⟨_, rfl⟩
  have ok : okS o.2.2 := by rw [eo]; exact k_fig  H.ok
  have num : o.1 = 0 → vf_n32 (vCr σ) := by rw [eo]; exact n_criticalShare H.ok
  have w0 := w_L_criticalShare (G := G) (h := H.ic) (ho := H.ok) (hz := H.hz hn) (hou := H.oD)  (hn := by rw [← eo]; exact num)
  have bd := bd_criticalShare (σ := σ)
  rw [← eo] at w0 bd
  refine z_aload_n (pc' := 3207) (j := 1) (by decide +kernel) rfl rfl ?_
  refine z_aload (pc' := 3209) (j := 4) (by decide +kernel) rfl rfl ?_
  refine z_callSH (pc' := 3212) (idx := 383) (mj := m_L_criticalShare) (av := [.ref 0, .ref 321]) (n := 2) (d' := 30) (by decide +kernel) rfl k_L_criticalShare (amM7 204 rfl (by decide +kernel)) rfl (by decide) (am_le rfl) rfl (am_le rfl) rfl (ZM.mono w0 fun r W hw => ?_)
  obtain ⟨rfl, hI, fr, hP⟩ := hw
  change ZP G 1500 m_law 3212 [some (.ref 1000060), some (.ref 0), some (.ref 300), some (.ref 320), some (.ref 321), some (iv (p : Int)), l6, l7, l8] [iv (o.1 : Int)] W _
  refine z_istore (pc' := 3214) (j := 6) (ls' := [some (.ref 1000060), some (.ref 0), some (.ref 300), some (.ref 320), some (.ref 321), some (iv (p : Int)), some (iv (o.1 : Int)), l7, l8]) (by decide +kernel) (by decide) rfl rfl ?_
  obtain ⟨B, hB⟩ := H.im1 fr
  have hw2 := H.hw hn fr
  have d0 := d_criticalShare (G := G) (h := hB) (ho := H.ok) (hz := hw2) 
  rw [← eo] at d0
  refine z_aload_n (pc' := 3215) (j := 2) (by decide +kernel) rfl rfl ?_
  refine z_callV (pc' := 3218) (idx := 386) (mj := m_X12_criticalShare) (av := []) (n := 0) (ci := 12) (b := 300) (d' := 12) (by decide +kernel) rfl k_X12_criticalShare l_RL_386 rfl (by decide) (am_le rfl) rfl (am_le rfl) hB.1.o.1 hB.1.o.2 rfl (ZM.mono d0 fun r V hv => ?_)
  obtain ⟨⟨v, rfl, ev⟩, ht, hM, vV⟩ := hv
  obtain ⟨N, eL, eD⟩ := H.nx hn hI fr ok hM vV
  change ZP G 1500 m_law 3218 [some (.ref 1000060), some (.ref 0), some (.ref 300), some (.ref 320), some (.ref 321), some (iv (p : Int)), some (iv (o.1 : Int)), l7, l8] [.float (if v = 0 then (vCr σ) else 0)] V _
  refine z_fstore (pc' := 3220) (j := 7) (ls' := [some (.ref 1000060), some (.ref 0), some (.ref 300), some (.ref 320), some (.ref 321), some (iv (p : Int)), some (iv (o.1 : Int)), some (.float (if v = 0 then (vCr σ) else 0)), l8]) (by decide +kernel) (by decide) rfl rfl ?_
  refine z_aload_n (pc' := 3221) (j := 2) (by decide +kernel) rfl rfl ?_
  obtain ⟨B2, hB2⟩ := hM
  refine z_callV (pc' := 3224) (idx := 190) (mj := m_X12_thrown) (av := []) (n := 0) (ci := 12) (b := 300) (d' := 0) (by decide +kernel) rfl k_X12_thrown l_RL_190 rfl (by decide) (am_le rfl) rfl (am_le rfl) hB2.1.o.1 hB2.1.o.2 rfl (zKf (s_thrown hB2.1) ?_)
  rw [ht]
  change ZP G 1500 m_law 3224 [some (.ref 1000060), some (.ref 0), some (.ref 300), some (.ref 320), some (.ref 321), some (iv (p : Int)), some (iv (o.1 : Int)), some (.float (if v = 0 then (vCr σ) else 0)), l8] [iv (o.1 : Int)] V _
  refine z_iload (pc' := 3226) (j := 6) (by decide +kernel) rfl rfl ?_
  refine z_same (pc' := 3229) (tgt := 3231) (off := 5) (by decide +kernel) (by decide) rfl ?_
  refine z_iload (pc' := 3233) (j := 6) (by decide +kernel) rfl rfl ?_
  refine z_if_ne (pc' := 3236) (tgt := 3269) (off := 36) (by decide +kernel) (by decide) rfl ⟨by omega, by omega⟩ ?_
  by_cases c0 : (o.1 : Int) = 0
  case neg =>
    rw [if_neg c0]
    refine z_goto (tgt := 3364) (off := 95) (by decide +kernel) (by decide) ?_
    exact k _ _ _ _ _ N
  rw [if_pos c0]
  have c1 : o.1 = 0 := by omega
  obtain rfl := ev c1
  refine z_aload (pc' := 3238) (j := 4) (by decide +kernel) rfl rfl ?_
  refine z_iconst (pc' := 3239) (n := 0) (by decide +kernel) rfl ?_
  refine z_daload (pc' := 3240) (by decide +kernel) N.oD ⟨by decide, by decide, by decide⟩ rfl ?_
  rw [show zD V 321 ((0 : Int)).toNat = FP.f2d (if o.2.1 = 0 then (vCr σ) else 0) from (congrFun eD 0).trans (hP c1)]
  refine z_fload (pc' := 3242) (j := 7) (by decide +kernel) rfl rfl ?_
  have nn : vf_n64 (FP.f2d (if o.2.1 = 0 then (vCr σ) else 0)) := fw_num (by split; exact num c1; exact n32_0)
  refine z_f2d (pc' := 3243) (by decide +kernel) nn rfl ?_
  refine z_dcmp (pc' := 3244) (op := .l) (by decide +kernel) rfl ?_
  rw [zd_same nn]
  refine z_if_eq (pc' := 3247) (tgt := 3269) (off := 25) (by decide +kernel) (by decide) rfl (by decide) ?_
  rw [if_pos rfl]
  refine z_goto (tgt := 3364) (off := 95) (by decide +kernel) (by decide) ?_
  exact k _ _ _ _ _ N
theorem lc_meanLength {G : Gx} {Q : Rv → Zm → Prop} {Z : Zm} {σ : St} {n p : Nat} {l6 l7 l8 : Option Value} (H : lwI n Z σ) (hn : n < 512) (hs : lwK G p) (k : lwN G p n Q) : ZP G 1500 m_law 3272 [some (.ref 1000060), some (.ref 0), some (.ref 300), some (.ref 320), some (.ref 321), some (iv (p : Int)), l6, l7, l8] [] Z Q := by
  obtain ⟨o, eo⟩ : ∃ o, o = o_fig σ := ⟨_, rfl⟩
  have ok : okS o.2.2 := by rw [eo]; exact k_fig  H.ok
  have num : o.1 = 0 → vf_n64 (vMe σ) := by rw [eo]; exact n_meanLength H.ok
  have w0 := w_L_meanLength (G := G) (h := H.ic) (ho := H.ok) (hz := H.hz hn) (hou := H.oD) 
  have bd := bd_meanLength (σ := σ)
  rw [← eo] at w0 bd
  refine z_aload_n (pc' := 3273) (j := 1) (by decide +kernel) rfl rfl ?_
  refine z_aload (pc' := 3275) (j := 4) (by decide +kernel) rfl rfl ?_
  refine z_callSH (pc' := 3278) (idx := 387) (mj := m_L_meanLength) (av := [.ref 0, .ref 321]) (n := 2) (d' := 30) (by decide +kernel) rfl k_L_meanLength (amM7 216 rfl (by decide +kernel)) rfl (by decide) (am_le rfl) rfl (am_le rfl) rfl (ZM.mono w0 fun r W hw => ?_)
  obtain ⟨rfl, hI, fr, hP⟩ := hw
  change ZP G 1500 m_law 3278 [some (.ref 1000060), some (.ref 0), some (.ref 300), some (.ref 320), some (.ref 321), some (iv (p : Int)), l6, l7, l8] [iv (o.1 : Int)] W _
  refine z_istore (pc' := 3280) (j := 6) (ls' := [some (.ref 1000060), some (.ref 0), some (.ref 300), some (.ref 320), some (.ref 321), some (iv (p : Int)), some (iv (o.1 : Int)), l7, l8]) (by decide +kernel) (by decide) rfl rfl ?_
  obtain ⟨B, hB⟩ := H.im1 fr
  have hw2 := H.hw hn fr
  have d0 := d_meanLength (G := G) (h := hB) (ho := H.ok) 
  rw [← eo] at d0
  refine z_aload_n (pc' := 3281) (j := 2) (by decide +kernel) rfl rfl ?_
  refine z_callV (pc' := 3284) (idx := 389) (mj := m_X12_meanLength) (av := []) (n := 0) (ci := 12) (b := 300) (d' := 12) (by decide +kernel) rfl k_X12_meanLength l_RL_389 rfl (by decide) (am_le rfl) rfl (am_le rfl) hB.1.o.1 hB.1.o.2 rfl (ZM.mono d0 fun r V hv => ?_)
  obtain ⟨⟨v, rfl, ev⟩, ht, hM, vV⟩ := hv
  obtain ⟨N, eL, eD⟩ := H.nx hn hI fr ok hM vV
  change ZP G 1500 m_law 3284 [some (.ref 1000060), some (.ref 0), some (.ref 300), some (.ref 320), some (.ref 321), some (iv (p : Int)), some (iv (o.1 : Int)), l7, l8] [.double (if v = 0 then (vMe σ) else 0)] V _
  refine z_dstore (pc' := 3286) (j := 7) (ls' := [some (.ref 1000060), some (.ref 0), some (.ref 300), some (.ref 320), some (.ref 321), some (iv (p : Int)), some (iv (o.1 : Int)), some (.double (if v = 0 then (vMe σ) else 0)), none]) (by decide +kernel) (by decide) rfl rfl ?_
  refine z_aload_n (pc' := 3287) (j := 2) (by decide +kernel) rfl rfl ?_
  obtain ⟨B2, hB2⟩ := hM
  refine z_callV (pc' := 3290) (idx := 190) (mj := m_X12_thrown) (av := []) (n := 0) (ci := 12) (b := 300) (d' := 0) (by decide +kernel) rfl k_X12_thrown l_RL_190 rfl (by decide) (am_le rfl) rfl (am_le rfl) hB2.1.o.1 hB2.1.o.2 rfl (zKf (s_thrown hB2.1) ?_)
  rw [ht]
  change ZP G 1500 m_law 3290 [some (.ref 1000060), some (.ref 0), some (.ref 300), some (.ref 320), some (.ref 321), some (iv (p : Int)), some (iv (o.1 : Int)), some (.double (if v = 0 then (vMe σ) else 0)), none] [iv (o.1 : Int)] V _
  refine z_iload (pc' := 3292) (j := 6) (by decide +kernel) rfl rfl ?_
  refine z_same (pc' := 3295) (tgt := 3297) (off := 5) (by decide +kernel) (by decide) rfl ?_
  refine z_iload (pc' := 3299) (j := 6) (by decide +kernel) rfl rfl ?_
  refine z_if_ne (pc' := 3302) (tgt := 3334) (off := 35) (by decide +kernel) (by decide) rfl ⟨by omega, by omega⟩ ?_
  by_cases c0 : (o.1 : Int) = 0
  case neg =>
    rw [if_neg c0]
    refine z_goto (tgt := 3364) (off := 30) (by decide +kernel) (by decide) ?_
    exact k _ _ _ _ _ N
  rw [if_pos c0]
  have c1 : o.1 = 0 := by omega
  obtain rfl := ev c1
  refine z_aload (pc' := 3304) (j := 4) (by decide +kernel) rfl rfl ?_
  refine z_iconst (pc' := 3305) (n := 0) (by decide +kernel) rfl ?_
  refine z_daload (pc' := 3306) (by decide +kernel) N.oD ⟨by decide, by decide, by decide⟩ rfl ?_
  rw [show zD V 321 ((0 : Int)).toNat = (if o.2.1 = 0 then (vMe σ) else 0) from (congrFun eD 0).trans (hP c1)]
  refine z_dload (pc' := 3308) (j := 7) (by decide +kernel) rfl rfl ?_
  have nn : vf_n64 (if o.2.1 = 0 then (vMe σ) else 0) := by split; exact num c1; exact n64_0
  refine z_dcmp (pc' := 3309) (op := .l) (by decide +kernel) rfl ?_
  rw [zd_same nn]
  refine z_if_eq (pc' := 3312) (tgt := 3334) (off := 25) (by decide +kernel) (by decide) rfl (by decide) ?_
  rw [if_pos rfl]
  refine z_goto (tgt := 3364) (off := 30) (by decide +kernel) (by decide) ?_
  exact k _ _ _ _ _ N
