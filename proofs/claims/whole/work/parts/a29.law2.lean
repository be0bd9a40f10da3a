/-! ===== the law's round, on ===== -/
theorem lc_hours {G : Gx} {Q : Rv → Zm → Prop} {Z : Zm} {σ : St} {n p : Nat} {l6 l7 l8 : Option Value} (H : lwI n Z σ) (hn : n < 512) (hs : lwK G p) (k : lwN G p n Q) : ZP G 1500 m_law 1330 [some (.ref 1000060), some (.ref 0), some (.ref 300), some (.ref 320), some (.ref 321), some (iv (p : Int)), l6, l7, l8] [] Z Q := by
  have qh : zScr G ((p : Int) + 4).toNat = 0 ∨ zScr G ((p : Int) + 4).toNat ≠ 0 := by omega
  by_cases cq : zScr G ((p : Int) + 4).toNat = 0
  · skip
    obtain ⟨o, eo⟩ : ∃ o, o = o_hours σ (zScr G ((p : Int) + 1).toNat) (zScr G ((p : Int) + 2).toNat) (zScr G ((p : Int) + 3).toNat) 0 := ⟨_, rfl⟩
    have ok : okS o.2.2 := by rw [eo]; exact k_hours (x := (zScr G ((p : Int) + 1).toNat)) (y := (zScr G ((p : Int) + 2).toNat)) (z := (zScr G ((p : Int) + 3).toNat)) (q := 0) H.ok (hq := Or.inl rfl)
    have w0 := w_L_hours (G := G) (h := H.ic) (ho := H.ok) (hz := H.hz hn) (hou := H.oL) (x := (zScr G ((p : Int) + 1).toNat)) (y := (zScr G ((p : Int) + 2).toNat)) (z := (zScr G ((p : Int) + 3).toNat)) (q := 0) (hx := (zScr_r _ _)) (hy := (zScr_r _ _)) (hzz := (zScr_r _ _)) (hq := Or.inl rfl)
    have bd := bd_hours (σ := σ) (x := (zScr G ((p : Int) + 1).toNat)) (y := (zScr G ((p : Int) + 2).toNat)) (z := (zScr G ((p : Int) + 3).toNat)) (q := 0)
    rw [← eo] at w0 bd
    refine z_aload_n (pc' := 1331) (j := 1) (by decide +kernel) rfl rfl ?_
    refine z_aload_n (pc' := 1332) (j := 0) (by decide +kernel) rfl rfl ?_
    refine z_iload (pc' := 1334) (j := 5) (by decide +kernel) rfl rfl ?_
    refine z_iconst (pc' := 1335) (n := 1) (by decide +kernel) rfl ?_
    refine z_iadd (pc' := 1336) (by decide +kernel) rfl ?_
    refine z_sld (pc' := 1337) (by decide +kernel) (hs 1 (by decide) (by decide)) rfl ?_
    refine z_aload_n (pc' := 1338) (j := 0) (by decide +kernel) rfl rfl ?_
    refine z_iload (pc' := 1340) (j := 5) (by decide +kernel) rfl rfl ?_
    refine z_iconst (pc' := 1341) (n := 2) (by decide +kernel) rfl ?_
    refine z_iadd (pc' := 1342) (by decide +kernel) rfl ?_
    refine z_sld (pc' := 1343) (by decide +kernel) (hs 2 (by decide) (by decide)) rfl ?_
    refine z_aload_n (pc' := 1344) (j := 0) (by decide +kernel) rfl rfl ?_
    refine z_iload (pc' := 1346) (j := 5) (by decide +kernel) rfl rfl ?_
    refine z_iconst (pc' := 1347) (n := 3) (by decide +kernel) rfl ?_
    refine z_iadd (pc' := 1348) (by decide +kernel) rfl ?_
    refine z_sld (pc' := 1349) (by decide +kernel) (hs 3 (by decide) (by decide)) rfl ?_
    refine z_aload_n (pc' := 1350) (j := 0) (by decide +kernel) rfl rfl ?_
    refine z_iload (pc' := 1352) (j := 5) (by decide +kernel) rfl rfl ?_
    refine z_iconst (pc' := 1353) (n := 4) (by decide +kernel) rfl ?_
    refine z_iadd (pc' := 1354) (by decide +kernel) rfl ?_
    refine z_sld (pc' := 1355) (by decide +kernel) (hs 4 (by decide) (by decide)) rfl ?_
    refine z_if_eq (pc' := 1358) (tgt := 1362) (off := 7) (by decide +kernel) (by decide) rfl (zScr_r _ _) ?_
    rw [if_pos cq]
    refine z_iconst (pc' := 1363) (n := 0) (by decide +kernel) rfl ?_
    refine z_aload_n (pc' := 1364) (j := 3) (by decide +kernel) rfl rfl ?_
    refine z_callSH (pc' := 1367) (idx := 269) (mj := m_L_hours) (av := [.ref 0, iv (zScr G ((p : Int) + 1).toNat), iv (zScr G ((p : Int) + 2).toNat), iv (zScr G ((p : Int) + 3).toNat), iv 0, .ref 320]) (n := 6) (d' := 30) (by decide +kernel) rfl k_L_hours (amM5 158 rfl (by decide +kernel)) rfl (by decide) (am_le rfl) rfl (am_le rfl) rfl (ZM.mono w0 fun r W hw => ?_)
    obtain ⟨rfl, hI, fr, hP⟩ := hw
    change ZP G 1500 m_law 1367 [some (.ref 1000060), some (.ref 0), some (.ref 300), some (.ref 320), some (.ref 321), some (iv (p : Int)), l6, l7, l8] [iv (o.1 : Int)] W _
    refine z_istore (pc' := 1369) (j := 6) (ls' := [some (.ref 1000060), some (.ref 0), some (.ref 300), some (.ref 320), some (.ref 321), some (iv (p : Int)), some (iv (o.1 : Int)), l7, l8]) (by decide +kernel) (by decide) rfl rfl ?_
    obtain ⟨B, hB⟩ := H.im1 fr
    have hw2 := H.hw hn fr
    have d0 := d_hours (G := G) (x := (zScr G ((p : Int) + 1).toNat)) (y := (zScr G ((p : Int) + 2).toNat)) (z := (zScr G ((p : Int) + 3).toNat)) (q := 0) (h := hB) (ho := H.ok) (hz := hw2) (hx := (zScr_r _ _)) (hy := (zScr_r _ _)) (hzz := (zScr_r _ _)) (hq := Or.inl rfl)
    rw [← eo] at d0
    refine z_aload_n (pc' := 1370) (j := 2) (by decide +kernel) rfl rfl ?_
    refine z_aload_n (pc' := 1371) (j := 0) (by decide +kernel) rfl rfl ?_
    refine z_iload (pc' := 1373) (j := 5) (by decide +kernel) rfl rfl ?_
    refine z_iconst (pc' := 1374) (n := 1) (by decide +kernel) rfl ?_
    refine z_iadd (pc' := 1375) (by decide +kernel) rfl ?_
    refine z_sld (pc' := 1376) (by decide +kernel) (hs 1 (by decide) (by decide)) rfl ?_
    refine z_aload_n (pc' := 1377) (j := 0) (by decide +kernel) rfl rfl ?_
    refine z_iload (pc' := 1379) (j := 5) (by decide +kernel) rfl rfl ?_
    refine z_iconst (pc' := 1380) (n := 2) (by decide +kernel) rfl ?_
    refine z_iadd (pc' := 1381) (by decide +kernel) rfl ?_
    refine z_sld (pc' := 1382) (by decide +kernel) (hs 2 (by decide) (by decide)) rfl ?_
    refine z_aload_n (pc' := 1383) (j := 0) (by decide +kernel) rfl rfl ?_
    refine z_iload (pc' := 1385) (j := 5) (by decide +kernel) rfl rfl ?_
    refine z_iconst (pc' := 1386) (n := 3) (by decide +kernel) rfl ?_
    refine z_iadd (pc' := 1387) (by decide +kernel) rfl ?_
    refine z_sld (pc' := 1388) (by decide +kernel) (hs 3 (by decide) (by decide)) rfl ?_
    refine z_aload_n (pc' := 1389) (j := 0) (by decide +kernel) rfl rfl ?_
    refine z_iload (pc' := 1391) (j := 5) (by decide +kernel) rfl rfl ?_
    refine z_iconst (pc' := 1392) (n := 4) (by decide +kernel) rfl ?_
    refine z_iadd (pc' := 1393) (by decide +kernel) rfl ?_
    refine z_sld (pc' := 1394) (by decide +kernel) (hs 4 (by decide) (by decide)) rfl ?_
    refine z_if_eq (pc' := 1397) (tgt := 1401) (off := 7) (by decide +kernel) (by decide) rfl (zScr_r _ _) ?_
    rw [if_pos cq]
    refine z_iconst (pc' := 1402) (n := 0) (by decide +kernel) rfl ?_
    refine z_callV (pc' := 1405) (idx := 272) (mj := m_X12_hours) (av := [iv (zScr G ((p : Int) + 1).toNat), iv (zScr G ((p : Int) + 2).toNat), iv (zScr G ((p : Int) + 3).toNat), iv 0]) (n := 4) (ci := 12) (b := 300) (d' := 12) (by decide +kernel) rfl k_X12_hours l_RL_272 rfl (by decide) (am_le rfl) rfl (am_le rfl) hB.1.o.1 hB.1.o.2 rfl (ZM.mono d0 fun r V hv => ?_)
    obtain ⟨⟨v, rfl, ev⟩, ht, hM, vV⟩ := hv
    obtain ⟨N, eL, eD⟩ := H.nx hn hI fr ok hM vV
    change ZP G 1500 m_law 1405 [some (.ref 1000060), some (.ref 0), some (.ref 300), some (.ref 320), some (.ref 321), some (iv (p : Int)), some (iv (o.1 : Int)), l7, l8] [iv v] V _
    refine z_istore (pc' := 1407) (j := 7) (ls' := [some (.ref 1000060), some (.ref 0), some (.ref 300), some (.ref 320), some (.ref 321), some (iv (p : Int)), some (iv (o.1 : Int)), some (iv v), l8]) (by decide +kernel) (by decide) rfl rfl ?_
    refine z_aload_n (pc' := 1408) (j := 2) (by decide +kernel) rfl rfl ?_
    obtain ⟨B2, hB2⟩ := hM
    refine z_callV (pc' := 1411) (idx := 190) (mj := m_X12_thrown) (av := []) (n := 0) (ci := 12) (b := 300) (d' := 0) (by decide +kernel) rfl k_X12_thrown l_RL_190 rfl (by decide) (am_le rfl) rfl (am_le rfl) hB2.1.o.1 hB2.1.o.2 rfl (zKf (s_thrown hB2.1) ?_)
    rw [ht]
    change ZP G 1500 m_law 1411 [some (.ref 1000060), some (.ref 0), some (.ref 300), some (.ref 320), some (.ref 321), some (iv (p : Int)), some (iv (o.1 : Int)), some (iv v), l8] [iv (o.1 : Int)] V _
    refine z_iload (pc' := 1413) (j := 6) (by decide +kernel) rfl rfl ?_
    refine z_same (pc' := 1416) (tgt := 1418) (off := 5) (by decide +kernel) (by decide) rfl ?_
    refine z_iload (pc' := 1420) (j := 6) (by decide +kernel) rfl rfl ?_
    refine z_if_ne (pc' := 1423) (tgt := 1435) (off := 15) (by decide +kernel) (by decide) rfl ⟨by omega, by omega⟩ ?_
    by_cases c0 : (o.1 : Int) = 0
    case neg =>
      rw [if_neg c0]
      refine z_goto (tgt := 3364) (off := 1929) (by decide +kernel) (by decide) ?_
      exact k _ _ _ _ _ N
    rw [if_pos c0]
    have c1 : o.1 = 0 := by omega
    obtain rfl := ev c1
    refine z_aload_n (pc' := 1424) (j := 3) (by decide +kernel) rfl rfl ?_
    refine z_iconst (pc' := 1425) (n := 0) (by decide +kernel) rfl ?_
    refine z_laload (pc' := 1426) (by decide +kernel) N.oL ⟨by decide, by decide, by decide⟩ rfl ?_
    rw [show zL V 320 ((0 : Int)).toNat = rI o.2.1 from (congrFun eL 0).trans (hP c1)]
    refine z_iload (pc' := 1428) (j := 7) (by decide +kernel) rfl rfl ?_
    refine z_i2lr (pc' := 1429) (by decide +kernel) rfl ?_
    refine z_lsame (pc' := 1430) (by decide +kernel) rfl ?_
    refine z_if_eq (pc' := 1433) (tgt := 1435) (off := 5) (by decide +kernel) (by decide) rfl (by decide) ?_
    rw [if_pos rfl]
    refine z_goto (tgt := 3364) (off := 1929) (by decide +kernel) (by decide) ?_
    exact k _ _ _ _ _ N
  · skip
    obtain ⟨o, eo⟩ : ∃ o, o = o_hours σ (zScr G ((p : Int) + 1).toNat) (zScr G ((p : Int) + 2).toNat) (zScr G ((p : Int) + 3).toNat) 1 := ⟨_, rfl⟩
    have ok : okS o.2.2 := by rw [eo]; exact k_hours (x := (zScr G ((p : Int) + 1).toNat)) (y := (zScr G ((p : Int) + 2).toNat)) (z := (zScr G ((p : Int) + 3).toNat)) (q := 1) H.ok (hq := Or.inr rfl)
    have w0 := w_L_hours (G := G) (h := H.ic) (ho := H.ok) (hz := H.hz hn) (hou := H.oL) (x := (zScr G ((p : Int) + 1).toNat)) (y := (zScr G ((p : Int) + 2).toNat)) (z := (zScr G ((p : Int) + 3).toNat)) (q := 1) (hx := (zScr_r _ _)) (hy := (zScr_r _ _)) (hzz := (zScr_r _ _)) (hq := Or.inr rfl)
    have bd := bd_hours (σ := σ) (x := (zScr G ((p : Int) + 1).toNat)) (y := (zScr G ((p : Int) + 2).toNat)) (z := (zScr G ((p : Int) + 3).toNat)) (q := 1)
    rw [← eo] at w0 bd
    refine z_aload_n (pc' := 1331) (j := 1) (by decide +kernel) rfl rfl ?_
    refine z_aload_n (pc' := 1332) (j := 0) (by decide +kernel) rfl rfl ?_
    refine z_iload (pc' := 1334) (j := 5) (by decide +kernel) rfl rfl ?_
    refine z_iconst (pc' := 1335) (n := 1) (by decide +kernel) rfl ?_
    refine z_iadd (pc' := 1336) (by decide +kernel) rfl ?_
    refine z_sld (pc' := 1337) (by decide +kernel) (hs 1 (by decide) (by decide)) rfl ?_
    refine z_aload_n (pc' := 1338) (j := 0) (by decide +kernel) rfl rfl ?_
    refine z_iload (pc' := 1340) (j := 5) (by decide +kernel) rfl rfl ?_
    refine z_iconst (pc' := 1341) (n := 2) (by decide +kernel) rfl ?_
    refine z_iadd (pc' := 1342) (by decide +kernel) rfl ?_
    refine z_sld (pc' := 1343) (by decide +kernel) (hs 2 (by decide) (by decide)) rfl ?_
    refine z_aload_n (pc' := 1344) (j := 0) (by decide +kernel) rfl rfl ?_
    refine z_iload (pc' := 1346) (j := 5) (by decide +kernel) rfl rfl ?_
    refine z_iconst (pc' := 1347) (n := 3) (by decide +kernel) rfl ?_
    refine z_iadd (pc' := 1348) (by decide +kernel) rfl ?_
    refine z_sld (pc' := 1349) (by decide +kernel) (hs 3 (by decide) (by decide)) rfl ?_
    refine z_aload_n (pc' := 1350) (j := 0) (by decide +kernel) rfl rfl ?_
    refine z_iload (pc' := 1352) (j := 5) (by decide +kernel) rfl rfl ?_
    refine z_iconst (pc' := 1353) (n := 4) (by decide +kernel) rfl ?_
    refine z_iadd (pc' := 1354) (by decide +kernel) rfl ?_
    refine z_sld (pc' := 1355) (by decide +kernel) (hs 4 (by decide) (by decide)) rfl ?_
    refine z_if_eq (pc' := 1358) (tgt := 1362) (off := 7) (by decide +kernel) (by decide) rfl (zScr_r _ _) ?_
    rw [if_neg cq]
    refine z_iconst (pc' := 1359) (n := 1) (by decide +kernel) rfl ?_
    refine z_goto (tgt := 1363) (off := 4) (by decide +kernel) (by decide) ?_
    refine z_aload_n (pc' := 1364) (j := 3) (by decide +kernel) rfl rfl ?_
    refine z_callSH (pc' := 1367) (idx := 269) (mj := m_L_hours) (av := [.ref 0, iv (zScr G ((p : Int) + 1).toNat), iv (zScr G ((p : Int) + 2).toNat), iv (zScr G ((p : Int) + 3).toNat), iv 1, .ref 320]) (n := 6) (d' := 30) (by decide +kernel) rfl k_L_hours (amM5 158 rfl (by decide +kernel)) rfl (by decide) (am_le rfl) rfl (am_le rfl) rfl (ZM.mono w0 fun r W hw => ?_)
    obtain ⟨rfl, hI, fr, hP⟩ := hw
    change ZP G 1500 m_law 1367 [some (.ref 1000060), some (.ref 0), some (.ref 300), some (.ref 320), some (.ref 321), some (iv (p : Int)), l6, l7, l8] [iv (o.1 : Int)] W _
    refine z_istore (pc' := 1369) (j := 6) (ls' := [some (.ref 1000060), some (.ref 0), some (.ref 300), some (.ref 320), some (.ref 321), some (iv (p : Int)), some (iv (o.1 : Int)), l7, l8]) (by decide +kernel) (by decide) rfl rfl ?_
    obtain ⟨B, hB⟩ := H.im1 fr
    have hw2 := H.hw hn fr
    have d0 := d_hours (G := G) (x := (zScr G ((p : Int) + 1).toNat)) (y := (zScr G ((p : Int) + 2).toNat)) (z := (zScr G ((p : Int) + 3).toNat)) (q := 1) (h := hB) (ho := H.ok) (hz := hw2) (hx := (zScr_r _ _)) (hy := (zScr_r _ _)) (hzz := (zScr_r _ _)) (hq := Or.inr rfl)
    rw [← eo] at d0
    refine z_aload_n (pc' := 1370) (j := 2) (by decide +kernel) rfl rfl ?_
    refine z_aload_n (pc' := 1371) (j := 0) (by decide +kernel) rfl rfl ?_
    refine z_iload (pc' := 1373) (j := 5) (by decide +kernel) rfl rfl ?_
    refine z_iconst (pc' := 1374) (n := 1) (by decide +kernel) rfl ?_
    refine z_iadd (pc' := 1375) (by decide +kernel) rfl ?_
    refine z_sld (pc' := 1376) (by decide +kernel) (hs 1 (by decide) (by decide)) rfl ?_
    refine z_aload_n (pc' := 1377) (j := 0) (by decide +kernel) rfl rfl ?_
    refine z_iload (pc' := 1379) (j := 5) (by decide +kernel) rfl rfl ?_
    refine z_iconst (pc' := 1380) (n := 2) (by decide +kernel) rfl ?_
    refine z_iadd (pc' := 1381) (by decide +kernel) rfl ?_
    refine z_sld (pc' := 1382) (by decide +kernel) (hs 2 (by decide) (by decide)) rfl ?_
    refine z_aload_n (pc' := 1383) (j := 0) (by decide +kernel) rfl rfl ?_
    refine z_iload (pc' := 1385) (j := 5) (by decide +kernel) rfl rfl ?_
    refine z_iconst (pc' := 1386) (n := 3) (by decide +kernel) rfl ?_
    refine z_iadd (pc' := 1387) (by decide +kernel) rfl ?_
    refine z_sld (pc' := 1388) (by decide +kernel) (hs 3 (by decide) (by decide)) rfl ?_
    refine z_aload_n (pc' := 1389) (j := 0) (by decide +kernel) rfl rfl ?_
    refine z_iload (pc' := 1391) (j := 5) (by decide +kernel) rfl rfl ?_
    refine z_iconst (pc' := 1392) (n := 4) (by decide +kernel) rfl ?_
    refine z_iadd (pc' := 1393) (by decide +kernel) rfl ?_
    refine z_sld (pc' := 1394) (by decide +kernel) (hs 4 (by decide) (by decide)) rfl ?_
    refine z_if_eq (pc' := 1397) (tgt := 1401) (off := 7) (by decide +kernel) (by decide) rfl (zScr_r _ _) ?_
    rw [if_neg cq]
    refine z_iconst (pc' := 1398) (n := 1) (by decide +kernel) rfl ?_
    refine z_goto (tgt := 1402) (off := 4) (by decide +kernel) (by decide) ?_
    refine z_callV (pc' := 1405) (idx := 272) (mj := m_X12_hours) (av := [iv (zScr G ((p : Int) + 1).toNat), iv (zScr G ((p : Int) + 2).toNat), iv (zScr G ((p : Int) + 3).toNat), iv 1]) (n := 4) (ci := 12) (b := 300) (d' := 12) (by decide +kernel) rfl k_X12_hours l_RL_272 rfl (by decide) (am_le rfl) rfl (am_le rfl) hB.1.o.1 hB.1.o.2 rfl (ZM.mono d0 fun r V hv => ?_)
    obtain ⟨⟨v, rfl, ev⟩, ht, hM, vV⟩ := hv
    obtain ⟨N, eL, eD⟩ := H.nx hn hI fr ok hM vV
    change ZP G 1500 m_law 1405 [some (.ref 1000060), some (.ref 0), some (.ref 300), some (.ref 320), some (.ref 321), some (iv (p : Int)), some (iv (o.1 : Int)), l7, l8] [iv v] V _
    refine z_istore (pc' := 1407) (j := 7) (ls' := [some (.ref 1000060), some (.ref 0), some (.ref 300), some (.ref 320), some (.ref 321), some (iv (p : Int)), some (iv (o.1 : Int)), some (iv v), l8]) (by decide +kernel) (by decide) rfl rfl ?_
    refine z_aload_n (pc' := 1408) (j := 2) (by decide +kernel) rfl rfl ?_
    obtain ⟨B2, hB2⟩ := hM
    refine z_callV (pc' := 1411) (idx := 190) (mj := m_X12_thrown) (av := []) (n := 0) (ci := 12) (b := 300) (d' := 0) (by decide +kernel) rfl k_X12_thrown l_RL_190 rfl (by decide) (am_le rfl) rfl (am_le rfl) hB2.1.o.1 hB2.1.o.2 rfl (zKf (s_thrown hB2.1) ?_)
    rw [ht]
    change ZP G 1500 m_law 1411 [some (.ref 1000060), some (.ref 0), some (.ref 300), some (.ref 320), some (.ref 321), some (iv (p : Int)), some (iv (o.1 : Int)), some (iv v), l8] [iv (o.1 : Int)] V _
    refine z_iload (pc' := 1413) (j := 6) (by decide +kernel) rfl rfl ?_
    refine z_same (pc' := 1416) (tgt := 1418) (off := 5) (by decide +kernel) (by decide) rfl ?_
    refine z_iload (pc' := 1420) (j := 6) (by decide +kernel) rfl rfl ?_
    refine z_if_ne (pc' := 1423) (tgt := 1435) (off := 15) (by decide +kernel) (by decide) rfl ⟨by omega, by omega⟩ ?_
    by_cases c0 : (o.1 : Int) = 0
    case neg =>
      rw [if_neg c0]
      refine z_goto (tgt := 3364) (off := 1929) (by decide +kernel) (by decide) ?_
      exact k _ _ _ _ _ N
    rw [if_pos c0]
    have c1 : o.1 = 0 := by omega
    obtain rfl := ev c1
    refine z_aload_n (pc' := 1424) (j := 3) (by decide +kernel) rfl rfl ?_
    refine z_iconst (pc' := 1425) (n := 0) (by decide +kernel) rfl ?_
    refine z_laload (pc' := 1426) (by decide +kernel) N.oL ⟨by decide, by decide, by decide⟩ rfl ?_
    rw [show zL V 320 ((0 : Int)).toNat = rI o.2.1 from (congrFun eL 0).trans (hP c1)]
    refine z_iload (pc' := 1428) (j := 7) (by decide +kernel) rfl rfl ?_
    refine z_i2lr (pc' := 1429) (by decide +kernel) rfl ?_
    refine z_lsame (pc' := 1430) (by decide +kernel) rfl ?_
    refine z_if_eq (pc' := 1433) (tgt := 1435) (off := 5) (by decide +kernel) (by decide) rfl (by decide) ?_
    rw [if_pos rfl]
    refine z_goto (tgt := 3364) (off := 1929) (by decide +kernel) (by decide) ?_
    exact k _ _ _ _ _ N
theorem lc_isWork {G : Gx} {Q : Rv → Zm → Prop} {Z : Zm} {σ : St} {n p : Nat} {l6 l7 l8 : Option Value} (H : lwI n Z σ) (hn : n < 512) (hs : lwK G p) (k : lwN G p n Q) : ZP G 1500 m_law 1438 [some (.ref 1000060), some (.ref 0), some (.ref 300), some (.ref 320), some (.ref 321), some (iv (p : Int)), l6, l7, l8] [] Z Q := by
  obtain ⟨o, eo⟩ : ∃ o, o = o_isWork σ (zScr G ((p : Int) + 1).toNat) (zScr G ((p : Int) + 2).toNat) := ⟨_, rfl⟩
  have ok : okS o.2.2 := by rw [eo]; exact k_isWork (x := (zScr G ((p : Int) + 1).toNat)) (y := (zScr G ((p : Int) + 2).toNat)) H.ok
  have w0 := w_L_isWork (G := G) (h := H.ic) (ho := H.ok) (hz := H.hz hn) (hou := H.oL) (x := (zScr G ((p : Int) + 1).toNat)) (y := (zScr G ((p : Int) + 2).toNat)) (hx := (zScr_r _ _)) (hy := (zScr_r _ _))
  have bd := bd_isWork (σ := σ) (x := (zScr G ((p : Int) + 1).toNat)) (y := (zScr G ((p : Int) + 2).toNat))
  rw [← eo] at w0 bd
  refine z_aload_n (pc' := 1439) (j := 1) (by decide +kernel) rfl rfl ?_
  refine z_aload_n (pc' := 1440) (j := 0) (by decide +kernel) rfl rfl ?_
  refine z_iload (pc' := 1442) (j := 5) (by decide +kernel) rfl rfl ?_
  refine z_iconst (pc' := 1443) (n := 1) (by decide +kernel) rfl ?_
  refine z_iadd (pc' := 1444) (by decide +kernel) rfl ?_
  refine z_sld (pc' := 1445) (by decide +kernel) (hs 1 (by decide) (by decide)) rfl ?_
  refine z_aload_n (pc' := 1446) (j := 0) (by decide +kernel) rfl rfl ?_
  refine z_iload (pc' := 1448) (j := 5) (by decide +kernel) rfl rfl ?_
  refine z_iconst (pc' := 1449) (n := 2) (by decide +kernel) rfl ?_
  refine z_iadd (pc' := 1450) (by decide +kernel) rfl ?_
  refine z_sld (pc' := 1451) (by decide +kernel) (hs 2 (by decide) (by decide)) rfl ?_
  refine z_aload_n (pc' := 1452) (j := 3) (by decide +kernel) rfl rfl ?_
  refine z_callSH (pc' := 1455) (idx := 273) (mj := m_L_isWork) (av := [.ref 0, iv (zScr G ((p : Int) + 1).toNat), iv (zScr G ((p : Int) + 2).toNat), .ref 320]) (n := 4) (d' := 30) (by decide +kernel) rfl k_L_isWork (amM5 196 rfl (by decide +kernel)) rfl (by decide) (am_le rfl) rfl (am_le rfl) rfl (ZM.mono w0 fun r W hw => ?_)
  obtain ⟨rfl, hI, fr, hP⟩ := hw
  change ZP G 1500 m_law 1455 [some (.ref 1000060), some (.ref 0), some (.ref 300), some (.ref 320), some (.ref 321), some (iv (p : Int)), l6, l7, l8] [iv (o.1 : Int)] W _
  refine z_istore (pc' := 1457) (j := 6) (ls' := [some (.ref 1000060), some (.ref 0), some (.ref 300), some (.ref 320), some (.ref 321), some (iv (p : Int)), some (iv (o.1 : Int)), l7, l8]) (by decide +kernel) (by decide) rfl rfl ?_
  obtain ⟨B, hB⟩ := H.im1 fr
  have hw2 := H.hw hn fr
  have d0 := d_isWork (G := G) (x := (zScr G ((p : Int) + 1).toNat)) (y := (zScr G ((p : Int) + 2).toNat)) (h := hB) (ho := H.ok) (hx := (zScr_r _ _)) (hy := (zScr_r _ _))
  rw [← eo] at d0
  refine z_aload_n (pc' := 1458) (j := 2) (by decide +kernel) rfl rfl ?_
  refine z_aload_n (pc' := 1459) (j := 0) (by decide +kernel) rfl rfl ?_
  refine z_iload (pc' := 1461) (j := 5) (by decide +kernel) rfl rfl ?_
  refine z_iconst (pc' := 1462) (n := 1) (by decide +kernel) rfl ?_
  refine z_iadd (pc' := 1463) (by decide +kernel) rfl ?_
  refine z_sld (pc' := 1464) (by decide +kernel) (hs 1 (by decide) (by decide)) rfl ?_
  refine z_aload_n (pc' := 1465) (j := 0) (by decide +kernel) rfl rfl ?_
  refine z_iload (pc' := 1467) (j := 5) (by decide +kernel) rfl rfl ?_
  refine z_iconst (pc' := 1468) (n := 2) (by decide +kernel) rfl ?_
  refine z_iadd (pc' := 1469) (by decide +kernel) rfl ?_
  refine z_sld (pc' := 1470) (by decide +kernel) (hs 2 (by decide) (by decide)) rfl ?_
  refine z_callV (pc' := 1473) (idx := 275) (mj := m_X12_isWork) (av := [iv (zScr G ((p : Int) + 1).toNat), iv (zScr G ((p : Int) + 2).toNat)]) (n := 2) (ci := 12) (b := 300) (d' := 12) (by decide +kernel) rfl k_X12_isWork l_RL_275 rfl (by decide) (am_le rfl) rfl (am_le rfl) hB.1.o.1 hB.1.o.2 rfl (ZM.mono d0 fun r V hv => ?_)
  obtain ⟨⟨v, rfl, ev⟩, ht, hM, vV⟩ := hv
  obtain ⟨N, eL, eD⟩ := H.nx hn hI fr ok hM vV
  change ZP G 1500 m_law 1473 [some (.ref 1000060), some (.ref 0), some (.ref 300), some (.ref 320), some (.ref 321), some (iv (p : Int)), some (iv (o.1 : Int)), l7, l8] [iv v] V _
  refine z_istore (pc' := 1475) (j := 7) (ls' := [some (.ref 1000060), some (.ref 0), some (.ref 300), some (.ref 320), some (.ref 321), some (iv (p : Int)), some (iv (o.1 : Int)), some (iv v), l8]) (by decide +kernel) (by decide) rfl rfl ?_
  refine z_aload_n (pc' := 1476) (j := 2) (by decide +kernel) rfl rfl ?_
  obtain ⟨B2, hB2⟩ := hM
  refine z_callV (pc' := 1479) (idx := 190) (mj := m_X12_thrown) (av := []) (n := 0) (ci := 12) (b := 300) (d' := 0) (by decide +kernel) rfl k_X12_thrown l_RL_190 rfl (by decide) (am_le rfl) rfl (am_le rfl) hB2.1.o.1 hB2.1.o.2 rfl (zKf (s_thrown hB2.1) ?_)
  rw [ht]
  change ZP G 1500 m_law 1479 [some (.ref 1000060), some (.ref 0), some (.ref 300), some (.ref 320), some (.ref 321), some (iv (p : Int)), some (iv (o.1 : Int)), some (iv v), l8] [iv (o.1 : Int)] V _
  refine z_iload (pc' := 1481) (j := 6) (by decide +kernel) rfl rfl ?_
  refine z_same (pc' := 1484) (tgt := 1486) (off := 5) (by decide +kernel) (by decide) rfl ?_
  refine z_iload (pc' := 1488) (j := 6) (by decide +kernel) rfl rfl ?_
  refine z_if_ne (pc' := 1491) (tgt := 1510) (off := 22) (by decide +kernel) (by decide) rfl ⟨by omega, by omega⟩ ?_
  by_cases c0 : (o.1 : Int) = 0
  case neg =>
    rw [if_neg c0]
    refine z_goto (tgt := 3364) (off := 1854) (by decide +kernel) (by decide) ?_
    exact k _ _ _ _ _ N
  rw [if_pos c0]
  have c1 : o.1 = 0 := by omega
  obtain rfl := ev c1
  refine z_aload_n (pc' := 1492) (j := 3) (by decide +kernel) rfl rfl ?_
  refine z_iconst (pc' := 1493) (n := 0) (by decide +kernel) rfl ?_
  refine z_laload (pc' := 1494) (by decide +kernel) N.oL ⟨by decide, by decide, by decide⟩ rfl ?_
  by_cases cz : rI o.2.1 = 0
  · rw [show zL V 320 ((0 : Int)).toNat = 0 from (congrFun eL 0).trans ((hP c1).trans (if_pos cz))]
    refine z_iload (pc' := 1496) (j := 7) (by decide +kernel) rfl rfl ?_
    refine z_zr (pc' := 1499) (tgt := 1503) (off := 7) (by decide +kernel) (by decide) rfl ?_
    rw [if_pos cz]
    refine z_lconst (pc' := 1504) (n := 0) (v := 0) (by decide +kernel) rfl rfl ?_
    refine z_lsame (pc' := 1505) (by decide +kernel) rfl ?_
    refine z_if_eq (pc' := 1508) (tgt := 1510) (off := 5) (by decide +kernel) (by decide) rfl (by decide) ?_
    rw [if_pos rfl]
    refine z_goto (tgt := 3364) (off := 1854) (by decide +kernel) (by decide) ?_
    exact k _ _ _ _ _ N
  · rw [show zL V 320 ((0 : Int)).toNat = 1 from (congrFun eL 0).trans ((hP c1).trans (if_neg cz))]
    refine z_iload (pc' := 1496) (j := 7) (by decide +kernel) rfl rfl ?_
    refine z_zr (pc' := 1499) (tgt := 1503) (off := 7) (by decide +kernel) (by decide) rfl ?_
    rw [if_neg cz]
    refine z_lconst (pc' := 1500) (n := 1) (v := 1) (by decide +kernel) rfl rfl ?_
    refine z_goto (tgt := 1504) (off := 4) (by decide +kernel) (by decide) ?_
    refine z_lsame (pc' := 1505) (by decide +kernel) rfl ?_
    refine z_if_eq (pc' := 1508) (tgt := 1510) (off := 5) (by decide +kernel) (by decide) rfl (by decide) ?_
    rw [if_pos rfl]
    refine z_goto (tgt := 3364) (off := 1854) (by decide +kernel) (by decide) ?_
    exact k _ _ _ _ _ N
theorem lc_clockBegin {G : Gx} {Q : Rv → Zm → Prop} {Z : Zm} {σ : St} {n p : Nat} {l6 l7 l8 : Option Value} (H : lwI n Z σ) (hn : n < 512) (hs : lwK G p) (k : lwN G p n Q) : ZP G 1500 m_law 1513 [some (.ref 1000060), some (.ref 0), some (.ref 300), some (.ref 320), some (.ref 321), some (iv (p : Int)), l6, l7, l8] [] Z Q := by
  obtain ⟨o, eo⟩ : ∃ o, o = o_clockBegin σ (zScr G ((p : Int) + 1).toNat) := ⟨_, rfl⟩
  have ok : okS o.2.2 := by rw [eo]; exact k_clockBegin (t := (zScr G ((p : Int) + 1).toNat)) H.ok
  have w0 := w_L_clockBegin (G := G) (h := H.ic) (ho := H.ok) (hz := H.hz hn) (hou := H.oL) (t := (zScr G ((p : Int) + 1).toNat)) (ht := (zScr_r _ _))
  have bd := bd_clockBegin (σ := σ) (t := (zScr G ((p : Int) + 1).toNat))
  rw [← eo] at w0 bd
  refine z_aload_n (pc' := 1514) (j := 1) (by decide +kernel) rfl rfl ?_
  refine z_aload_n (pc' := 1515) (j := 0) (by decide +kernel) rfl rfl ?_
  refine z_iload (pc' := 1517) (j := 5) (by decide +kernel) rfl rfl ?_
  refine z_iconst (pc' := 1518) (n := 1) (by decide +kernel) rfl ?_
  refine z_iadd (pc' := 1519) (by decide +kernel) rfl ?_
  refine z_sld (pc' := 1520) (by decide +kernel) (hs 1 (by decide) (by decide)) rfl ?_
  refine z_aload_n (pc' := 1521) (j := 3) (by decide +kernel) rfl rfl ?_
  refine z_callSH (pc' := 1524) (idx := 276) (mj := m_L_clockBegin) (av := [.ref 0, iv (zScr G ((p : Int) + 1).toNat), .ref 320]) (n := 3) (d' := 30) (by decide +kernel) rfl k_L_clockBegin (amM5 204 rfl (by decide +kernel)) rfl (by decide) (am_le rfl) rfl (am_le rfl) rfl (ZM.mono w0 fun r W hw => ?_)
  obtain ⟨rfl, hI, fr, hP⟩ := hw
  change ZP G 1500 m_law 1524 [some (.ref 1000060), some (.ref 0), some (.ref 300), some (.ref 320), some (.ref 321), some (iv (p : Int)), l6, l7, l8] [iv (o.1 : Int)] W _
  refine z_istore (pc' := 1526) (j := 6) (ls' := [some (.ref 1000060), some (.ref 0), some (.ref 300), some (.ref 320), some (.ref 321), some (iv (p : Int)), some (iv (o.1 : Int)), l7, l8]) (by decide +kernel) (by decide) rfl rfl ?_
  obtain ⟨B, hB⟩ := H.im1 fr
  have hw2 := H.hw hn fr
  have d0 := d_clockBegin (G := G) (t := (zScr G ((p : Int) + 1).toNat)) (h := hB) (ho := H.ok) (hz := hw2) (ht := (zScr_r _ _))
  rw [← eo] at d0
  refine z_aload_n (pc' := 1527) (j := 2) (by decide +kernel) rfl rfl ?_
  refine z_aload_n (pc' := 1528) (j := 0) (by decide +kernel) rfl rfl ?_
  refine z_iload (pc' := 1530) (j := 5) (by decide +kernel) rfl rfl ?_
  refine z_iconst (pc' := 1531) (n := 1) (by decide +kernel) rfl ?_
  refine z_iadd (pc' := 1532) (by decide +kernel) rfl ?_
  refine z_sld (pc' := 1533) (by decide +kernel) (hs 1 (by decide) (by decide)) rfl ?_
  refine z_callV (pc' := 1536) (idx := 278) (mj := m_X12_clockBegin) (av := [iv (zScr G ((p : Int) + 1).toNat)]) (n := 1) (ci := 12) (b := 300) (d' := 12) (by decide +kernel) rfl k_X12_clockBegin l_RL_278 rfl (by decide) (am_le rfl) rfl (am_le rfl) hB.1.o.1 hB.1.o.2 rfl (ZM.mono d0 fun r V hv => ?_)
  obtain ⟨⟨v, rfl, ev⟩, ht, hM, vV⟩ := hv
  obtain ⟨N, eL, eD⟩ := H.nx hn hI fr ok hM vV
  change ZP G 1500 m_law 1536 [some (.ref 1000060), some (.ref 0), some (.ref 300), some (.ref 320), some (.ref 321), some (iv (p : Int)), some (iv (o.1 : Int)), l7, l8] [iv v] V _
  refine z_istore (pc' := 1538) (j := 7) (ls' := [some (.ref 1000060), some (.ref 0), some (.ref 300), some (.ref 320), some (.ref 321), some (iv (p : Int)), some (iv (o.1 : Int)), some (iv v), l8]) (by decide +kernel) (by decide) rfl rfl ?_
  refine z_aload_n (pc' := 1539) (j := 2) (by decide +kernel) rfl rfl ?_
  obtain ⟨B2, hB2⟩ := hM
  refine z_callV (pc' := 1542) (idx := 190) (mj := m_X12_thrown) (av := []) (n := 0) (ci := 12) (b := 300) (d' := 0) (by decide +kernel) rfl k_X12_thrown l_RL_190 rfl (by decide) (am_le rfl) rfl (am_le rfl) hB2.1.o.1 hB2.1.o.2 rfl (zKf (s_thrown hB2.1) ?_)
  rw [ht]
  change ZP G 1500 m_law 1542 [some (.ref 1000060), some (.ref 0), some (.ref 300), some (.ref 320), some (.ref 321), some (iv (p : Int)), some (iv (o.1 : Int)), some (iv v), l8] [iv (o.1 : Int)] V _
  refine z_iload (pc' := 1544) (j := 6) (by decide +kernel) rfl rfl ?_
  refine z_same (pc' := 1547) (tgt := 1549) (off := 5) (by decide +kernel) (by decide) rfl ?_
  refine z_iload (pc' := 1551) (j := 6) (by decide +kernel) rfl rfl ?_
  refine z_if_ne (pc' := 1554) (tgt := 1566) (off := 15) (by decide +kernel) (by decide) rfl ⟨by omega, by omega⟩ ?_
  by_cases c0 : (o.1 : Int) = 0
  case neg =>
    rw [if_neg c0]
    refine z_goto (tgt := 3364) (off := 1798) (by decide +kernel) (by decide) ?_
    exact k _ _ _ _ _ N
  rw [if_pos c0]
  have c1 : o.1 = 0 := by omega
  obtain rfl := ev c1
  refine z_aload_n (pc' := 1555) (j := 3) (by decide +kernel) rfl rfl ?_
  refine z_iconst (pc' := 1556) (n := 0) (by decide +kernel) rfl ?_
  refine z_laload (pc' := 1557) (by decide +kernel) N.oL ⟨by decide, by decide, by decide⟩ rfl ?_
  rw [show zL V 320 ((0 : Int)).toNat = rI o.2.1 from (congrFun eL 0).trans (hP c1)]
  refine z_iload (pc' := 1559) (j := 7) (by decide +kernel) rfl rfl ?_
  refine z_i2lr (pc' := 1560) (by decide +kernel) rfl ?_
  refine z_lsame (pc' := 1561) (by decide +kernel) rfl ?_
  refine z_if_eq (pc' := 1564) (tgt := 1566) (off := 5) (by decide +kernel) (by decide) rfl (by decide) ?_
  rw [if_pos rfl]
  refine z_goto (tgt := 3364) (off := 1798) (by decide +kernel) (by decide) ?_
  exact k _ _ _ _ _ N
theorem lc_clockEnd {G : Gx} {Q : Rv → Zm → Prop} {Z : Zm} {σ : St} {n p : Nat} {l6 l7 l8 : Option Value} (H : lwI n Z σ) (hn : n < 512) (hs : lwK G p) (k : lwN G p n Q) : ZP G 1500 m_law 1569 [some (.ref 1000060), some (.ref 0), some (.ref 300), some (.ref 320), some (.ref 321), some (iv (p : Int)), l6, l7, l8] [] Z Q := by
  obtain ⟨o, eo⟩ : ∃ o, o = o_clockEnd σ (zScr G ((p : Int) + 1).toNat) := ⟨_, rfl⟩
  have ok : okS o.2.2 := by rw [eo]; exact k_clockEnd (t := (zScr G ((p : Int) + 1).toNat)) H.ok
  have w0 := w_L_clockEnd (G := G) (h := H.ic) (ho := H.ok) (hz := H.hz hn) (hou := H.oL) (t := (zScr G ((p : Int) + 1).toNat)) (ht := (zScr_r _ _))
  have bd := bd_clockEnd (σ := σ) (t := (zScr G ((p : Int) + 1).toNat))
  rw [← eo] at w0 bd
  refine z_aload_n (pc' := 1570) (j := 1) (by decide +kernel) rfl rfl ?_
  refine z_aload_n (pc' := 1571) (j := 0) (by decide +kernel) rfl rfl ?_
  refine z_iload (pc' := 1573) (j := 5) (by decide +kernel) rfl rfl ?_
  refine z_iconst (pc' := 1574) (n := 1) (by decide +kernel) rfl ?_
  refine z_iadd (pc' := 1575) (by decide +kernel) rfl ?_
  refine z_sld (pc' := 1576) (by decide +kernel) (hs 1 (by decide) (by decide)) rfl ?_
  refine z_aload_n (pc' := 1577) (j := 3) (by decide +kernel) rfl rfl ?_
  refine z_callSH (pc' := 1580) (idx := 279) (mj := m_L_clockEnd) (av := [.ref 0, iv (zScr G ((p : Int) + 1).toNat), .ref 320]) (n := 3) (d' := 30) (by decide +kernel) rfl k_L_clockEnd (amM5 237 rfl (by decide +kernel)) rfl (by decide) (am_le rfl) rfl (am_le rfl) rfl (ZM.mono w0 fun r W hw => ?_)
  obtain ⟨rfl, hI, fr, hP⟩ := hw
  change ZP G 1500 m_law 1580 [some (.ref 1000060), some (.ref 0), some (.ref 300), some (.ref 320), some (.ref 321), some (iv (p : Int)), l6, l7, l8] [iv (o.1 : Int)] W _
  refine z_istore (pc' := 1582) (j := 6) (ls' := [some (.ref 1000060), some (.ref 0), some (.ref 300), some (.ref 320), some (.ref 321), some (iv (p : Int)), some (iv (o.1 : Int)), l7, l8]) (by decide +kernel) (by decide) rfl rfl ?_
  obtain ⟨B, hB⟩ := H.im1 fr
  have hw2 := H.hw hn fr
  have d0 := d_clockEnd (G := G) (t := (zScr G ((p : Int) + 1).toNat)) (h := hB) (ho := H.ok) (hz := hw2) (ht := (zScr_r _ _))
  rw [← eo] at d0
  refine z_aload_n (pc' := 1583) (j := 2) (by decide +kernel) rfl rfl ?_
  refine z_aload_n (pc' := 1584) (j := 0) (by decide +kernel) rfl rfl ?_
  refine z_iload (pc' := 1586) (j := 5) (by decide +kernel) rfl rfl ?_
  refine z_iconst (pc' := 1587) (n := 1) (by decide +kernel) rfl ?_
  refine z_iadd (pc' := 1588) (by decide +kernel) rfl ?_
  refine z_sld (pc' := 1589) (by decide +kernel) (hs 1 (by decide) (by decide)) rfl ?_
  refine z_callV (pc' := 1592) (idx := 281) (mj := m_X12_clockEnd) (av := [iv (zScr G ((p : Int) + 1).toNat)]) (n := 1) (ci := 12) (b := 300) (d' := 12) (by decide +kernel) rfl k_X12_clockEnd l_RL_281 rfl (by decide) (am_le rfl) rfl (am_le rfl) hB.1.o.1 hB.1.o.2 rfl (ZM.mono d0 fun r V hv => ?_)
  obtain ⟨⟨v, rfl, ev⟩, ht, hM, vV⟩ := hv
  obtain ⟨N, eL, eD⟩ := H.nx hn hI fr ok hM vV
  change ZP G 1500 m_law 1592 [some (.ref 1000060), some (.ref 0), some (.ref 300), some (.ref 320), some (.ref 321), some (iv (p : Int)), some (iv (o.1 : Int)), l7, l8] [iv v] V _
  refine z_istore (pc' := 1594) (j := 7) (ls' := [some (.ref 1000060), some (.ref 0), some (.ref 300), some (.ref 320), some (.ref 321), some (iv (p : Int)), some (iv (o.1 : Int)), some (iv v), l8]) (by decide +kernel) (by decide) rfl rfl ?_
  refine z_aload_n (pc' := 1595) (j := 2) (by decide +kernel) rfl rfl ?_
  obtain ⟨B2, hB2⟩ := hM
  refine z_callV (pc' := 1598) (idx := 190) (mj := m_X12_thrown) (av := []) (n := 0) (ci := 12) (b := 300) (d' := 0) (by decide +kernel) rfl k_X12_thrown l_RL_190 rfl (by decide) (am_le rfl) rfl (am_le rfl) hB2.1.o.1 hB2.1.o.2 rfl (zKf (s_thrown hB2.1) ?_)
  rw [ht]
  change ZP G 1500 m_law 1598 [some (.ref 1000060), some (.ref 0), some (.ref 300), some (.ref 320), some (.ref 321), some (iv (p : Int)), some (iv (o.1 : Int)), some (iv v), l8] [iv (o.1 : Int)] V _
  refine z_iload (pc' := 1600) (j := 6) (by decide +kernel) rfl rfl ?_
  refine z_same (pc' := 1603) (tgt := 1605) (off := 5) (by decide +kernel) (by decide) rfl ?_
  refine z_iload (pc' := 1607) (j := 6) (by decide +kernel) rfl rfl ?_
  refine z_if_ne (pc' := 1610) (tgt := 1622) (off := 15) (by decide +kernel) (by decide) rfl ⟨by omega, by omega⟩ ?_
  by_cases c0 : (o.1 : Int) = 0
  case neg =>
    rw [if_neg c0]
    refine z_goto (tgt := 3364) (off := 1742) (by decide +kernel) (by decide) ?_
    exact k _ _ _ _ _ N
  rw [if_pos c0]
  have c1 : o.1 = 0 := by omega
  obtain rfl := ev c1
  refine z_aload_n (pc' := 1611) (j := 3) (by decide +kernel) rfl rfl ?_
  refine z_iconst (pc' := 1612) (n := 0) (by decide +kernel) rfl ?_
  refine z_laload (pc' := 1613) (by decide +kernel) N.oL ⟨by decide, by decide, by decide⟩ rfl ?_
  rw [show zL V 320 ((0 : Int)).toNat = rI o.2.1 from (congrFun eL 0).trans (hP c1)]
  refine z_iload (pc' := 1615) (j := 7) (by decide +kernel) rfl rfl ?_
  refine z_i2lr (pc' := 1616) (by decide +kernel) rfl ?_
  refine z_lsame (pc' := 1617) (by decide +kernel) rfl ?_
  refine z_if_eq (pc' := 1620) (tgt := 1622) (off := 5) (by decide +kernel) (by decide) rfl (by decide) ?_
  rw [if_pos rfl]
  refine z_goto (tgt := 3364) (off := 1742) (by decide +kernel) (by decide) ?_
  exact k _ _ _ _ _ N
theorem lc_clockAll {G : Gx} {Q : Rv → Zm → Prop} {Z : Zm} {σ : St} {n p : Nat} {l6 l7 l8 : Option Value} (H : lwI n Z σ) (hn : n < 512) (hs : lwK G p) (k : lwN G p n Q) : ZP G 1500 m_law 1625 [some (.ref 1000060), some (.ref 0), some (.ref 300), some (.ref 320), some (.ref 321), some (iv (p : Int)), l6, l7, l8] [] Z Q := by
  obtain ⟨o, eo⟩ : ∃ o, o = o_clockAll σ := ⟨_, rfl⟩
  have ok : okS o.2.2 := by rw [eo]; exact k_clockAll  H.ok
  have w0 := w_L_clockAll (G := G) (h := H.ic) (ho := H.ok) (hz := H.hz hn) (hou := H.oL) 
  have bd := bd_clockAll (σ := σ)
  rw [← eo] at w0 bd
  refine z_aload_n (pc' := 1626) (j := 1) (by decide +kernel) rfl rfl ?_
  refine z_aload_n (pc' := 1627) (j := 3) (by decide +kernel) rfl rfl ?_
  refine z_callSH (pc' := 1630) (idx := 282) (mj := m_L_clockAll) (av := [.ref 0, .ref 320]) (n := 2) (d' := 30) (by decide +kernel) rfl k_L_clockAll (amM6 4 rfl (by decide +kernel)) rfl (by decide) (am_le rfl) rfl (am_le rfl) rfl (ZM.mono w0 fun r W hw => ?_)
  obtain ⟨rfl, hI, fr, hP⟩ := hw
  change ZP G 1500 m_law 1630 [some (.ref 1000060), some (.ref 0), some (.ref 300), some (.ref 320), some (.ref 321), some (iv (p : Int)), l6, l7, l8] [iv (o.1 : Int)] W _
  refine z_istore (pc' := 1632) (j := 6) (ls' := [some (.ref 1000060), some (.ref 0), some (.ref 300), some (.ref 320), some (.ref 321), some (iv (p : Int)), some (iv (o.1 : Int)), l7, l8]) (by decide +kernel) (by decide) rfl rfl ?_
  obtain ⟨B, hB⟩ := H.im1 fr
  have hw2 := H.hw hn fr
  have d0 := d_clockAll (G := G) (h := hB) (ho := H.ok) (hz := hw2) 
  rw [← eo] at d0
  refine z_aload_n (pc' := 1633) (j := 2) (by decide +kernel) rfl rfl ?_
  refine z_callV (pc' := 1636) (idx := 284) (mj := m_X12_clockAll) (av := []) (n := 0) (ci := 12) (b := 300) (d' := 12) (by decide +kernel) rfl k_X12_clockAll l_RL_284 rfl (by decide) (am_le rfl) rfl (am_le rfl) hB.1.o.1 hB.1.o.2 rfl (ZM.mono d0 fun r V hv => ?_)
  obtain ⟨⟨v, rfl, ev⟩, ht, hM, vV⟩ := hv
  obtain ⟨N, eL, eD⟩ := H.nx hn hI fr ok hM vV
  change ZP G 1500 m_law 1636 [some (.ref 1000060), some (.ref 0), some (.ref 300), some (.ref 320), some (.ref 321), some (iv (p : Int)), some (iv (o.1 : Int)), l7, l8] [iv v] V _
  refine z_istore (pc' := 1638) (j := 7) (ls' := [some (.ref 1000060), some (.ref 0), some (.ref 300), some (.ref 320), some (.ref 321), some (iv (p : Int)), some (iv (o.1 : Int)), some (iv v), l8]) (by decide +kernel) (by decide) rfl rfl ?_
  refine z_aload_n (pc' := 1639) (j := 2) (by decide +kernel) rfl rfl ?_
  obtain ⟨B2, hB2⟩ := hM
  refine z_callV (pc' := 1642) (idx := 190) (mj := m_X12_thrown) (av := []) (n := 0) (ci := 12) (b := 300) (d' := 0) (by decide +kernel) rfl k_X12_thrown l_RL_190 rfl (by decide) (am_le rfl) rfl (am_le rfl) hB2.1.o.1 hB2.1.o.2 rfl (zKf (s_thrown hB2.1) ?_)
  rw [ht]
  change ZP G 1500 m_law 1642 [some (.ref 1000060), some (.ref 0), some (.ref 300), some (.ref 320), some (.ref 321), some (iv (p : Int)), some (iv (o.1 : Int)), some (iv v), l8] [iv (o.1 : Int)] V _
  refine z_iload (pc' := 1644) (j := 6) (by decide +kernel) rfl rfl ?_
  refine z_same (pc' := 1647) (tgt := 1649) (off := 5) (by decide +kernel) (by decide) rfl ?_
  refine z_iload (pc' := 1651) (j := 6) (by decide +kernel) rfl rfl ?_
  refine z_if_ne (pc' := 1654) (tgt := 1666) (off := 15) (by decide +kernel) (by decide) rfl ⟨by omega, by omega⟩ ?_
  by_cases c0 : (o.1 : Int) = 0
  case neg =>
    rw [if_neg c0]
    refine z_goto (tgt := 3364) (off := 1698) (by decide +kernel) (by decide) ?_
    exact k _ _ _ _ _ N
  rw [if_pos c0]
  have c1 : o.1 = 0 := by omega
  obtain rfl := ev c1
  refine z_aload_n (pc' := 1655) (j := 3) (by decide +kernel) rfl rfl ?_
  refine z_iconst (pc' := 1656) (n := 0) (by decide +kernel) rfl ?_
  refine z_laload (pc' := 1657) (by decide +kernel) N.oL ⟨by decide, by decide, by decide⟩ rfl ?_
  rw [show zL V 320 ((0 : Int)).toNat = rI o.2.1 from (congrFun eL 0).trans (hP c1)]
  refine z_iload (pc' := 1659) (j := 7) (by decide +kernel) rfl rfl ?_
  refine z_i2lr (pc' := 1660) (by decide +kernel) rfl ?_
  refine z_lsame (pc' := 1661) (by decide +kernel) rfl ?_
  refine z_if_eq (pc' := 1664) (tgt := 1666) (off := 5) (by decide +kernel) (by decide) rfl (by decide) ?_
  rw [if_pos rfl]
  refine z_goto (tgt := 3364) (off := 1698) (by decide +kernel) (by decide) ?_
  exact k _ _ _ _ _ N
theorem lc_hands {G : Gx} {Q : Rv → Zm → Prop} {Z : Zm} {σ : St} {n p : Nat} {l6 l7 l8 : Option Value} (H : lwI n Z σ) (hn : n < 512) (hs : lwK G p) (k : lwN G p n Q) : ZP G 1500 m_law 1669 [some (.ref 1000060), some (.ref 0), some (.ref 300), some (.ref 320), some (.ref 321), some (iv (p : Int)), l6, l7, l8] [] Z Q := by
  obtain ⟨o, eo⟩ : ∃ o, o = o_hands σ (zScr G ((p : Int) + 1).toNat) (zScr G ((p : Int) + 2).toNat) := ⟨_, rfl⟩
  have ok : okS o.2.2 := by rw [eo]; exact k_hands (x := (zScr G ((p : Int) + 1).toNat)) (y := (zScr G ((p : Int) + 2).toNat)) H.ok
  have w0 := w_L_hands (G := G) (h := H.ic) (ho := H.ok) (hz := H.hz hn) (hou := H.oL) (x := (zScr G ((p : Int) + 1).toNat)) (y := (zScr G ((p : Int) + 2).toNat)) (hx := (zScr_r _ _)) (hy := (zScr_r _ _))
  have bd := bd_hands (σ := σ) (x := (zScr G ((p : Int) + 1).toNat)) (y := (zScr G ((p : Int) + 2).toNat))
  rw [← eo] at w0 bd
  refine z_aload_n (pc' := 1670) (j := 1) (by decide +kernel) rfl rfl ?_
  refine z_aload_n (pc' := 1671) (j := 0) (by decide +kernel) rfl rfl ?_
  refine z_iload (pc' := 1673) (j := 5) (by decide +kernel) rfl rfl ?_
  refine z_iconst (pc' := 1674) (n := 1) (by decide +kernel) rfl ?_
  refine z_iadd (pc' := 1675) (by decide +kernel) rfl ?_
  refine z_sld (pc' := 1676) (by decide +kernel) (hs 1 (by decide) (by decide)) rfl ?_
  refine z_aload_n (pc' := 1677) (j := 0) (by decide +kernel) rfl rfl ?_
  refine z_iload (pc' := 1679) (j := 5) (by decide +kernel) rfl rfl ?_
  refine z_iconst (pc' := 1680) (n := 2) (by decide +kernel) rfl ?_
  refine z_iadd (pc' := 1681) (by decide +kernel) rfl ?_
  refine z_sld (pc' := 1682) (by decide +kernel) (hs 2 (by decide) (by decide)) rfl ?_
  refine z_aload_n (pc' := 1683) (j := 3) (by decide +kernel) rfl rfl ?_
  refine z_callSH (pc' := 1686) (idx := 285) (mj := m_L_hands) (av := [.ref 0, iv (zScr G ((p : Int) + 1).toNat), iv (zScr G ((p : Int) + 2).toNat), .ref 320]) (n := 4) (d' := 30) (by decide +kernel) rfl k_L_hands (amM6 11 rfl (by decide +kernel)) rfl (by decide) (am_le rfl) rfl (am_le rfl) rfl (ZM.mono w0 fun r W hw => ?_)
  obtain ⟨rfl, hI, fr, hP⟩ := hw
  change ZP G 1500 m_law 1686 [some (.ref 1000060), some (.ref 0), some (.ref 300), some (.ref 320), some (.ref 321), some (iv (p : Int)), l6, l7, l8] [iv (o.1 : Int)] W _
  refine z_istore (pc' := 1688) (j := 6) (ls' := [some (.ref 1000060), some (.ref 0), some (.ref 300), some (.ref 320), some (.ref 321), some (iv (p : Int)), some (iv (o.1 : Int)), l7, l8]) (by decide +kernel) (by decide) rfl rfl ?_
  obtain ⟨B, hB⟩ := H.im1 fr
  have hw2 := H.hw hn fr
  have d0 := d_hands (G := G) (x := (zScr G ((p : Int) + 1).toNat)) (y := (zScr G ((p : Int) + 2).toNat)) (h := hB) (ho := H.ok) (hx := (zScr_r _ _)) (hy := (zScr_r _ _))
  rw [← eo] at d0
  refine z_aload_n (pc' := 1689) (j := 2) (by decide +kernel) rfl rfl ?_
  refine z_aload_n (pc' := 1690) (j := 0) (by decide +kernel) rfl rfl ?_
  refine z_iload (pc' := 1692) (j := 5) (by decide +kernel) rfl rfl ?_
  refine z_iconst (pc' := 1693) (n := 1) (by decide +kernel) rfl ?_
  refine z_iadd (pc' := 1694) (by decide +kernel) rfl ?_
  refine z_sld (pc' := 1695) (by decide +kernel) (hs 1 (by decide) (by decide)) rfl ?_
  refine z_aload_n (pc' := 1696) (j := 0) (by decide +kernel) rfl rfl ?_
  refine z_iload (pc' := 1698) (j := 5) (by decide +kernel) rfl rfl ?_
  refine z_iconst (pc' := 1699) (n := 2) (by decide +kernel) rfl ?_
  refine z_iadd (pc' := 1700) (by decide +kernel) rfl ?_
  refine z_sld (pc' := 1701) (by decide +kernel) (hs 2 (by decide) (by decide)) rfl ?_
  refine z_callV (pc' := 1704) (idx := 287) (mj := m_X12_hands) (av := [iv (zScr G ((p : Int) + 1).toNat), iv (zScr G ((p : Int) + 2).toNat)]) (n := 2) (ci := 12) (b := 300) (d' := 12) (by decide +kernel) rfl k_X12_hands l_RL_287 rfl (by decide) (am_le rfl) rfl (am_le rfl) hB.1.o.1 hB.1.o.2 rfl (ZM.mono d0 fun r V hv => ?_)
  obtain ⟨⟨v, rfl, ev⟩, ht, hM, vV⟩ := hv
  obtain ⟨N, eL, eD⟩ := H.nx hn hI fr ok hM vV
  change ZP G 1500 m_law 1704 [some (.ref 1000060), some (.ref 0), some (.ref 300), some (.ref 320), some (.ref 321), some (iv (p : Int)), some (iv (o.1 : Int)), l7, l8] [iv v] V _
  refine z_istore (pc' := 1706) (j := 7) (ls' := [some (.ref 1000060), some (.ref 0), some (.ref 300), some (.ref 320), some (.ref 321), some (iv (p : Int)), some (iv (o.1 : Int)), some (iv v), l8]) (by decide +kernel) (by decide) rfl rfl ?_
  refine z_aload_n (pc' := 1707) (j := 2) (by decide +kernel) rfl rfl ?_
  obtain ⟨B2, hB2⟩ := hM
  refine z_callV (pc' := 1710) (idx := 190) (mj := m_X12_thrown) (av := []) (n := 0) (ci := 12) (b := 300) (d' := 0) (by decide +kernel) rfl k_X12_thrown l_RL_190 rfl (by decide) (am_le rfl) rfl (am_le rfl) hB2.1.o.1 hB2.1.o.2 rfl (zKf (s_thrown hB2.1) ?_)
  rw [ht]
  change ZP G 1500 m_law 1710 [some (.ref 1000060), some (.ref 0), some (.ref 300), some (.ref 320), some (.ref 321), some (iv (p : Int)), some (iv (o.1 : Int)), some (iv v), l8] [iv (o.1 : Int)] V _
  refine z_iload (pc' := 1712) (j := 6) (by decide +kernel) rfl rfl ?_
  refine z_same (pc' := 1715) (tgt := 1717) (off := 5) (by decide +kernel) (by decide) rfl ?_
  refine z_iload (pc' := 1719) (j := 6) (by decide +kernel) rfl rfl ?_
  refine z_if_ne (pc' := 1722) (tgt := 1734) (off := 15) (by decide +kernel) (by decide) rfl ⟨by omega, by omega⟩ ?_
  by_cases c0 : (o.1 : Int) = 0
  case neg =>
    rw [if_neg c0]
    refine z_goto (tgt := 3364) (off := 1630) (by decide +kernel) (by decide) ?_
    exact k _ _ _ _ _ N
  rw [if_pos c0]
  have c1 : o.1 = 0 := by omega
  obtain rfl := ev c1
  refine z_aload_n (pc' := 1723) (j := 3) (by decide +kernel) rfl rfl ?_
  refine z_iconst (pc' := 1724) (n := 0) (by decide +kernel) rfl ?_
  refine z_laload (pc' := 1725) (by decide +kernel) N.oL ⟨by decide, by decide, by decide⟩ rfl ?_
  rw [show zL V 320 ((0 : Int)).toNat = rI o.2.1 from (congrFun eL 0).trans (hP c1)]
  refine z_iload (pc' := 1727) (j := 7) (by decide +kernel) rfl rfl ?_
  refine z_i2lr (pc' := 1728) (by decide +kernel) rfl ?_
  refine z_lsame (pc' := 1729) (by decide +kernel) rfl ?_
  refine z_if_eq (pc' := 1732) (tgt := 1734) (off := 5) (by decide +kernel) (by decide) rfl (by decide) ?_
  rw [if_pos rfl]
  refine z_goto (tgt := 3364) (off := 1630) (by decide +kernel) (by decide) ?_
  exact k _ _ _ _ _ N
theorem lc_list {G : Gx} {Q : Rv → Zm → Prop} {Z : Zm} {σ : St} {n p : Nat} {l6 l7 l8 : Option Value} (H : lwI n Z σ) (hn : n < 512) (hs : lwK G p) (k : lwN G p n Q) : ZP G 1500 m_law 1737 [some (.ref 1000060), some (.ref 0), some (.ref 300), some (.ref 320), some (.ref 321), some (iv (p : Int)), l6, l7, l8] [] Z Q := by
  obtain ⟨o, eo⟩ : ∃ o, o = o_list σ (zScr G ((p : Int) + 1).toNat) := ⟨_, rfl⟩
  have ok : okS o.2.2 := by rw [eo]; exact k_list (t := (zScr G ((p : Int) + 1).toNat)) H.ok
  have w0 := w_L_list (G := G) (h := H.ic) (ho := H.ok) (hz := H.hz hn) (hou := H.oL) (t := (zScr G ((p : Int) + 1).toNat)) (ht := (zScr_r _ _))
  have bd := bd_list (σ := σ) (t := (zScr G ((p : Int) + 1).toNat))
  rw [← eo] at w0 bd
  refine z_aload_n (pc' := 1738) (j := 1) (by decide +kernel) rfl rfl ?_
  refine z_aload_n (pc' := 1739) (j := 0) (by decide +kernel) rfl rfl ?_
  refine z_iload (pc' := 1741) (j := 5) (by decide +kernel) rfl rfl ?_
  refine z_iconst (pc' := 1742) (n := 1) (by decide +kernel) rfl ?_
  refine z_iadd (pc' := 1743) (by decide +kernel) rfl ?_
  refine z_sld (pc' := 1744) (by decide +kernel) (hs 1 (by decide) (by decide)) rfl ?_
  refine z_aload_n (pc' := 1745) (j := 3) (by decide +kernel) rfl rfl ?_
  refine z_callSH (pc' := 1748) (idx := 288) (mj := m_L_list) (av := [.ref 0, iv (zScr G ((p : Int) + 1).toNat), .ref 320]) (n := 3) (d' := 30) (by decide +kernel) rfl k_L_list (amM6 19 rfl (by decide +kernel)) rfl (by decide) (am_le rfl) rfl (am_le rfl) rfl (ZM.mono w0 fun r W hw => ?_)
  obtain ⟨rfl, hI, fr, hP⟩ := hw
  change ZP G 1500 m_law 1748 [some (.ref 1000060), some (.ref 0), some (.ref 300), some (.ref 320), some (.ref 321), some (iv (p : Int)), l6, l7, l8] [iv (o.1 : Int)] W _
  refine z_istore (pc' := 1750) (j := 6) (ls' := [some (.ref 1000060), some (.ref 0), some (.ref 300), some (.ref 320), some (.ref 321), some (iv (p : Int)), some (iv (o.1 : Int)), l7, l8]) (by decide +kernel) (by decide) rfl rfl ?_
  obtain ⟨B, hB⟩ := H.im1 fr
  have hw2 := H.hw hn fr
  have d0 := d_list (G := G) (t := (zScr G ((p : Int) + 1).toNat)) (h := hB) (ho := H.ok) (ht := (zScr_r _ _))
  rw [← eo] at d0
  refine z_aload_n (pc' := 1751) (j := 2) (by decide +kernel) rfl rfl ?_
  refine z_aload_n (pc' := 1752) (j := 0) (by decide +kernel) rfl rfl ?_
  refine z_iload (pc' := 1754) (j := 5) (by decide +kernel) rfl rfl ?_
  refine z_iconst (pc' := 1755) (n := 1) (by decide +kernel) rfl ?_
  refine z_iadd (pc' := 1756) (by decide +kernel) rfl ?_
  refine z_sld (pc' := 1757) (by decide +kernel) (hs 1 (by decide) (by decide)) rfl ?_
  refine z_callV (pc' := 1760) (idx := 290) (mj := m_X12_list) (av := [iv (zScr G ((p : Int) + 1).toNat)]) (n := 1) (ci := 12) (b := 300) (d' := 12) (by decide +kernel) rfl k_X12_list l_RL_290 rfl (by decide) (am_le rfl) rfl (am_le rfl) hB.1.o.1 hB.1.o.2 rfl (ZM.mono d0 fun r V hv => ?_)
  obtain ⟨⟨v, rfl, ev⟩, ht, hM, vV⟩ := hv
  obtain ⟨N, eL, eD⟩ := H.nx hn hI fr ok hM vV
  change ZP G 1500 m_law 1760 [some (.ref 1000060), some (.ref 0), some (.ref 300), some (.ref 320), some (.ref 321), some (iv (p : Int)), some (iv (o.1 : Int)), l7, l8] [iv v] V _
  refine z_istore (pc' := 1762) (j := 7) (ls' := [some (.ref 1000060), some (.ref 0), some (.ref 300), some (.ref 320), some (.ref 321), some (iv (p : Int)), some (iv (o.1 : Int)), some (iv v), l8]) (by decide +kernel) (by decide) rfl rfl ?_
  refine z_aload_n (pc' := 1763) (j := 2) (by decide +kernel) rfl rfl ?_
  obtain ⟨B2, hB2⟩ := hM
  refine z_callV (pc' := 1766) (idx := 190) (mj := m_X12_thrown) (av := []) (n := 0) (ci := 12) (b := 300) (d' := 0) (by decide +kernel) rfl k_X12_thrown l_RL_190 rfl (by decide) (am_le rfl) rfl (am_le rfl) hB2.1.o.1 hB2.1.o.2 rfl (zKf (s_thrown hB2.1) ?_)
  rw [ht]
  change ZP G 1500 m_law 1766 [some (.ref 1000060), some (.ref 0), some (.ref 300), some (.ref 320), some (.ref 321), some (iv (p : Int)), some (iv (o.1 : Int)), some (iv v), l8] [iv (o.1 : Int)] V _
  refine z_iload (pc' := 1768) (j := 6) (by decide +kernel) rfl rfl ?_
  refine z_same (pc' := 1771) (tgt := 1773) (off := 5) (by decide +kernel) (by decide) rfl ?_
  refine z_iload (pc' := 1775) (j := 6) (by decide +kernel) rfl rfl ?_
  refine z_if_ne (pc' := 1778) (tgt := 1790) (off := 15) (by decide +kernel) (by decide) rfl ⟨by omega, by omega⟩ ?_
  by_cases c0 : (o.1 : Int) = 0
  case neg =>
    rw [if_neg c0]
    refine z_goto (tgt := 3364) (off := 1574) (by decide +kernel) (by decide) ?_
    exact k _ _ _ _ _ N
  rw [if_pos c0]
  have c1 : o.1 = 0 := by omega
  obtain rfl := ev c1
  refine z_aload_n (pc' := 1779) (j := 3) (by decide +kernel) rfl rfl ?_
  refine z_iconst (pc' := 1780) (n := 0) (by decide +kernel) rfl ?_
  refine z_laload (pc' := 1781) (by decide +kernel) N.oL ⟨by decide, by decide, by decide⟩ rfl ?_
  rw [show zL V 320 ((0 : Int)).toNat = rI o.2.1 from (congrFun eL 0).trans (hP c1)]
  refine z_iload (pc' := 1783) (j := 7) (by decide +kernel) rfl rfl ?_
  refine z_i2lr (pc' := 1784) (by decide +kernel) rfl ?_
  refine z_lsame (pc' := 1785) (by decide +kernel) rfl ?_
  refine z_if_eq (pc' := 1788) (tgt := 1790) (off := 5) (by decide +kernel) (by decide) rfl (by decide) ?_
  rw [if_pos rfl]
  refine z_goto (tgt := 3364) (off := 1574) (by decide +kernel) (by decide) ?_
  exact k _ _ _ _ _ N
theorem lc_wipe {G : Gx} {Q : Rv → Zm → Prop} {Z : Zm} {σ : St} {n p : Nat} {l6 l7 l8 : Option Value} (H : lwI n Z σ) (hn : n < 512) (hs : lwK G p) (k : lwN G p n Q) : ZP G 1500 m_law 1793 [some (.ref 1000060), some (.ref 0), some (.ref 300), some (.ref 320), some (.ref 321), some (iv (p : Int)), l6, l7, l8] [] Z Q := by
  obtain ⟨o, eo⟩ : ∃ o, o = o_wipe σ := ⟨_, rfl⟩
  have ok : okS o.2.2 := by rw [eo]; exact k_wipe  H.ok
  have w0 := c_wipe (G := G) (h := H.ic)
  have bd : (o_wipe σ).1 = 0 := rfl
  rw [← eo] at w0 bd
  refine z_aload_n (pc' := 1794) (j := 1) (by decide +kernel) rfl rfl ?_
  refine z_callV (pc' := 1797) (idx := 291) (mj := m_X11_wipe) (av := []) (n := 0) (ci := 11) (b := 0) (d' := 12) (by decide +kernel) rfl k_X11_wipe l_RL_291 rfl (by decide) (am_le rfl) rfl (am_le rfl) H.ic.1.o.1 H.ic.1.o.2 rfl (ZM.mono w0 fun r W hw => ?_)
  obtain ⟨rfl, hI, fr'⟩ := hw
  have fr := wF fr'
  rw [rO, if_pos bd]
  change ZP G 1500 m_law 1797 [some (.ref 1000060), some (.ref 0), some (.ref 300), some (.ref 320), some (.ref 321), some (iv (p : Int)), l6, l7, l8] [iv o.2.1] W _
  obtain ⟨B, hB⟩ := H.im1 fr
  have hw2 := H.hw hn fr
  have d0 := d_wipe (G := G) (h := hB) (ho := H.ok) 
  rw [← eo] at d0
  refine z_aload_n (pc' := 1798) (j := 2) (by decide +kernel) rfl rfl ?_
  refine z_callV (pc' := 1801) (idx := 294) (mj := m_X12_wipe) (av := []) (n := 0) (ci := 12) (b := 300) (d' := 12) (by decide +kernel) rfl k_X12_wipe l_RL_294 rfl (by decide) (am_le rfl) rfl (am_le rfl) hB.1.o.1 hB.1.o.2 rfl (ZM.mono d0 fun r V hv => ?_)
  obtain ⟨⟨v, rfl, ev⟩, ht, hM, vV⟩ := hv
  obtain ⟨N, eL, eD⟩ := H.nx hn hI fr ok hM vV
  change ZP G 1500 m_law 1801 [some (.ref 1000060), some (.ref 0), some (.ref 300), some (.ref 320), some (.ref 321), some (iv (p : Int)), l6, l7, l8] [iv v, iv o.2.1] V _
  obtain rfl := ev bd
  refine z_same (pc' := 1804) (tgt := 3364) (off := 1563) (by decide +kernel) (by decide) rfl ?_
  exact k _ _ _ _ _ N
theorem lc_listed {G : Gx} {Q : Rv → Zm → Prop} {Z : Zm} {σ : St} {n p : Nat} {l6 l7 l8 : Option Value} (H : lwI n Z σ) (hn : n < 512) (hs : lwK G p) (k : lwN G p n Q) : ZP G 1500 m_law 1806 [some (.ref 1000060), some (.ref 0), some (.ref 300), some (.ref 320), some (.ref 321), some (iv (p : Int)), l6, l7, l8] [] Z Q := by
  obtain ⟨o, eo⟩ : ∃ o, o = o_listed σ (zScr G ((p : Int) + 1).toNat % 65536) (zScr G ((p : Int) + 2).toNat) := ⟨_, rfl⟩
  have ok : okS o.2.2 := by rw [eo]; exact k_listed (c := (zScr G ((p : Int) + 1).toNat % 65536)) (x := (zScr G ((p : Int) + 2).toNat)) H.ok
  have w0 := w_L_listed (G := G) (h := H.ic) (ho := H.ok) (hz := H.hz hn) (hou := H.oL) (c := (zScr G ((p : Int) + 1).toNat % 65536)) (x := (zScr G ((p : Int) + 2).toNat)) (hc := (by have := Int.emod_nonneg (zScr G ((p : Int) + 1).toNat) (show (65536 : Int) ≠ 0 by decide); have := Int.emod_lt_of_pos (zScr G ((p : Int) + 1).toNat) (show (0 : Int) < 65536 by decide); exact ⟨by omega, by omega⟩)) (hx := (zScr_r _ _))
  have bd := bd_listed (σ := σ) (c := (zScr G ((p : Int) + 1).toNat % 65536)) (x := (zScr G ((p : Int) + 2).toNat))
  rw [← eo] at w0 bd
  refine z_aload_n (pc' := 1807) (j := 1) (by decide +kernel) rfl rfl ?_
  refine z_aload_n (pc' := 1808) (j := 0) (by decide +kernel) rfl rfl ?_
  refine z_iload (pc' := 1810) (j := 5) (by decide +kernel) rfl rfl ?_
  refine z_iconst (pc' := 1811) (n := 1) (by decide +kernel) rfl ?_
  refine z_iadd (pc' := 1812) (by decide +kernel) rfl ?_
  refine z_sld (pc' := 1813) (by decide +kernel) (hs 1 (by decide) (by decide)) rfl ?_
  refine z_i2c (pc' := 1814) (by decide +kernel) rfl ?_
  refine z_aload_n (pc' := 1815) (j := 0) (by decide +kernel) rfl rfl ?_
  refine z_iload (pc' := 1817) (j := 5) (by decide +kernel) rfl rfl ?_
  refine z_iconst (pc' := 1818) (n := 2) (by decide +kernel) rfl ?_
  refine z_iadd (pc' := 1819) (by decide +kernel) rfl ?_
  refine z_sld (pc' := 1820) (by decide +kernel) (hs 2 (by decide) (by decide)) rfl ?_
  refine z_aload_n (pc' := 1821) (j := 3) (by decide +kernel) rfl rfl ?_
  refine z_callSH (pc' := 1824) (idx := 295) (mj := m_L_listed) (av := [.ref 0, iv (zScr G ((p : Int) + 1).toNat % 65536), iv (zScr G ((p : Int) + 2).toNat), .ref 320]) (n := 4) (d' := 30) (by decide +kernel) rfl k_L_listed (amM6 31 rfl (by decide +kernel)) rfl (by decide) (am_le rfl) rfl (am_le rfl) rfl (ZM.mono w0 fun r W hw => ?_)
  obtain ⟨rfl, hI, fr, hP⟩ := hw
  change ZP G 1500 m_law 1824 [some (.ref 1000060), some (.ref 0), some (.ref 300), some (.ref 320), some (.ref 321), some (iv (p : Int)), l6, l7, l8] [iv (o.1 : Int)] W _
  refine z_istore (pc' := 1826) (j := 6) (ls' := [some (.ref 1000060), some (.ref 0), some (.ref 300), some (.ref 320), some (.ref 321), some (iv (p : Int)), some (iv (o.1 : Int)), l7, l8]) (by decide +kernel) (by decide) rfl rfl ?_
  obtain ⟨B, hB⟩ := H.im1 fr
  have hw2 := H.hw hn fr
  have d0 := d_listed (G := G) (c := (zScr G ((p : Int) + 1).toNat % 65536)) (x := (zScr G ((p : Int) + 2).toNat)) (h := hB) (ho := H.ok) (hz := hw2) (hc := (by have := Int.emod_nonneg (zScr G ((p : Int) + 1).toNat) (show (65536 : Int) ≠ 0 by decide); have := Int.emod_lt_of_pos (zScr G ((p : Int) + 1).toNat) (show (0 : Int) < 65536 by decide); exact ⟨by omega, by omega⟩)) (hx := (zScr_r _ _))
  rw [← eo] at d0
  refine z_aload_n (pc' := 1827) (j := 2) (by decide +kernel) rfl rfl ?_
  refine z_aload_n (pc' := 1828) (j := 0) (by decide +kernel) rfl rfl ?_
  refine z_iload (pc' := 1830) (j := 5) (by decide +kernel) rfl rfl ?_
  refine z_iconst (pc' := 1831) (n := 1) (by decide +kernel) rfl ?_
  refine z_iadd (pc' := 1832) (by decide +kernel) rfl ?_
  refine z_sld (pc' := 1833) (by decide +kernel) (hs 1 (by decide) (by decide)) rfl ?_
  refine z_i2c (pc' := 1834) (by decide +kernel) rfl ?_
  refine z_aload_n (pc' := 1835) (j := 0) (by decide +kernel) rfl rfl ?_
  refine z_iload (pc' := 1837) (j := 5) (by decide +kernel) rfl rfl ?_
  refine z_iconst (pc' := 1838) (n := 2) (by decide +kernel) rfl ?_
  refine z_iadd (pc' := 1839) (by decide +kernel) rfl ?_
  refine z_sld (pc' := 1840) (by decide +kernel) (hs 2 (by decide) (by decide)) rfl ?_
  refine z_callV (pc' := 1843) (idx := 298) (mj := m_X12_listed) (av := [iv (zScr G ((p : Int) + 1).toNat % 65536), iv (zScr G ((p : Int) + 2).toNat)]) (n := 2) (ci := 12) (b := 300) (d' := 12) (by decide +kernel) rfl k_X12_listed l_RL_298 rfl (by decide) (am_le rfl) rfl (am_le rfl) hB.1.o.1 hB.1.o.2 rfl (ZM.mono d0 fun r V hv => ?_)
  obtain ⟨⟨v, rfl, ev⟩, ht, hM, vV⟩ := hv
  obtain ⟨N, eL, eD⟩ := H.nx hn hI fr ok hM vV
  change ZP G 1500 m_law 1843 [some (.ref 1000060), some (.ref 0), some (.ref 300), some (.ref 320), some (.ref 321), some (iv (p : Int)), some (iv (o.1 : Int)), l7, l8] [iv v] V _
  refine z_istore (pc' := 1845) (j := 7) (ls' := [some (.ref 1000060), some (.ref 0), some (.ref 300), some (.ref 320), some (.ref 321), some (iv (p : Int)), some (iv (o.1 : Int)), some (iv v), l8]) (by decide +kernel) (by decide) rfl rfl ?_
  refine z_aload_n (pc' := 1846) (j := 2) (by decide +kernel) rfl rfl ?_
  obtain ⟨B2, hB2⟩ := hM
  refine z_callV (pc' := 1849) (idx := 190) (mj := m_X12_thrown) (av := []) (n := 0) (ci := 12) (b := 300) (d' := 0) (by decide +kernel) rfl k_X12_thrown l_RL_190 rfl (by decide) (am_le rfl) rfl (am_le rfl) hB2.1.o.1 hB2.1.o.2 rfl (zKf (s_thrown hB2.1) ?_)
  rw [ht]
  change ZP G 1500 m_law 1849 [some (.ref 1000060), some (.ref 0), some (.ref 300), some (.ref 320), some (.ref 321), some (iv (p : Int)), some (iv (o.1 : Int)), some (iv v), l8] [iv (o.1 : Int)] V _
  refine z_iload (pc' := 1851) (j := 6) (by decide +kernel) rfl rfl ?_
  refine z_same (pc' := 1854) (tgt := 1856) (off := 5) (by decide +kernel) (by decide) rfl ?_
  refine z_iload (pc' := 1858) (j := 6) (by decide +kernel) rfl rfl ?_
  refine z_if_ne (pc' := 1861) (tgt := 1873) (off := 15) (by decide +kernel) (by decide) rfl ⟨by omega, by omega⟩ ?_
  by_cases c0 : (o.1 : Int) = 0
  case neg =>
    rw [if_neg c0]
    refine z_goto (tgt := 3364) (off := 1491) (by decide +kernel) (by decide) ?_
    exact k _ _ _ _ _ N
  rw [if_pos c0]
  have c1 : o.1 = 0 := by omega
  obtain rfl := ev c1
  refine z_aload_n (pc' := 1862) (j := 3) (by decide +kernel) rfl rfl ?_
  refine z_iconst (pc' := 1863) (n := 0) (by decide +kernel) rfl ?_
  refine z_laload (pc' := 1864) (by decide +kernel) N.oL ⟨by decide, by decide, by decide⟩ rfl ?_
  rw [show zL V 320 ((0 : Int)).toNat = rI o.2.1 from (congrFun eL 0).trans (hP c1)]
  refine z_iload (pc' := 1866) (j := 7) (by decide +kernel) rfl rfl ?_
  refine z_i2lr (pc' := 1867) (by decide +kernel) rfl ?_
  refine z_lsame (pc' := 1868) (by decide +kernel) rfl ?_
  refine z_if_eq (pc' := 1871) (tgt := 1873) (off := 5) (by decide +kernel) (by decide) rfl (by decide) ?_
  rw [if_pos rfl]
  refine z_goto (tgt := 3364) (off := 1491) (by decide +kernel) (by decide) ?_
  exact k _ _ _ _ _ N
theorem lc_plan {G : Gx} {Q : Rv → Zm → Prop} {Z : Zm} {σ : St} {n p : Nat} {l6 l7 l8 : Option Value} (H : lwI n Z σ) (hn : n < 512) (hs : lwK G p) (k : lwN G p n Q) : ZP G 1500 m_law 1876 [some (.ref 1000060), some (.ref 0), some (.ref 300), some (.ref 320), some (.ref 321), some (iv (p : Int)), l6, l7, l8] [] Z Q := by
  obtain ⟨o, eo⟩ : ∃ o, o = o_plan σ (zScr G ((p : Int) + 1).toNat % 65536) (zScr G ((p : Int) + 2).toNat % 65536) := ⟨_, rfl⟩
  have ok : okS o.2.2 := by rw [eo]; exact k_plan (c := (zScr G ((p : Int) + 1).toNat % 65536)) (y := (zScr G ((p : Int) + 2).toNat % 65536)) H.ok
  have w0 := w_L_plan (G := G) (h := H.ic) (ho := H.ok) (hz := H.hz hn) (hou := H.oL) (c := (zScr G ((p : Int) + 1).toNat % 65536)) (y := (zScr G ((p : Int) + 2).toNat % 65536)) (hc := (by have := Int.emod_nonneg (zScr G ((p : Int) + 1).toNat) (show (65536 : Int) ≠ 0 by decide); have := Int.emod_lt_of_pos (zScr G ((p : Int) + 1).toNat) (show (0 : Int) < 65536 by decide); exact ⟨by omega, by omega⟩)) (hy := (by have := Int.emod_nonneg (zScr G ((p : Int) + 2).toNat) (show (65536 : Int) ≠ 0 by decide); have := Int.emod_lt_of_pos (zScr G ((p : Int) + 2).toNat) (show (0 : Int) < 65536 by decide); exact ⟨by omega, by omega⟩))
  have bd := bd_plan (σ := σ) (c := (zScr G ((p : Int) + 1).toNat % 65536)) (y := (zScr G ((p : Int) + 2).toNat % 65536))
  rw [← eo] at w0 bd
  refine z_aload_n (pc' := 1877) (j := 1) (by decide +kernel) rfl rfl ?_
  refine z_aload_n (pc' := 1878) (j := 0) (by decide +kernel) rfl rfl ?_
  refine z_iload (pc' := 1880) (j := 5) (by decide +kernel) rfl rfl ?_
  refine z_iconst (pc' := 1881) (n := 1) (by decide +kernel) rfl ?_
  refine z_iadd (pc' := 1882) (by decide +kernel) rfl ?_
  refine z_sld (pc' := 1883) (by decide +kernel) (hs 1 (by decide) (by decide)) rfl ?_
  refine z_i2c (pc' := 1884) (by decide +kernel) rfl ?_
  refine z_aload_n (pc' := 1885) (j := 0) (by decide +kernel) rfl rfl ?_
  refine z_iload (pc' := 1887) (j := 5) (by decide +kernel) rfl rfl ?_
  refine z_iconst (pc' := 1888) (n := 2) (by decide +kernel) rfl ?_
  refine z_iadd (pc' := 1889) (by decide +kernel) rfl ?_
  refine z_sld (pc' := 1890) (by decide +kernel) (hs 2 (by decide) (by decide)) rfl ?_
  refine z_i2c (pc' := 1891) (by decide +kernel) rfl ?_
  refine z_aload_n (pc' := 1892) (j := 3) (by decide +kernel) rfl rfl ?_
  refine z_callSH (pc' := 1895) (idx := 299) (mj := m_L_plan) (av := [.ref 0, iv (zScr G ((p : Int) + 1).toNat % 65536), iv (zScr G ((p : Int) + 2).toNat % 65536), .ref 320]) (n := 4) (d' := 30) (by decide +kernel) rfl k_L_plan (amM6 52 rfl (by decide +kernel)) rfl (by decide) (am_le rfl) rfl (am_le rfl) rfl (ZM.mono w0 fun r W hw => ?_)
  obtain ⟨rfl, hI, fr, hP⟩ := hw
  change ZP G 1500 m_law 1895 [some (.ref 1000060), some (.ref 0), some (.ref 300), some (.ref 320), some (.ref 321), some (iv (p : Int)), l6, l7, l8] [iv (o.1 : Int)] W _
  refine z_istore (pc' := 1897) (j := 6) (ls' := [some (.ref 1000060), some (.ref 0), some (.ref 300), some (.ref 320), some (.ref 321), some (iv (p : Int)), some (iv (o.1 : Int)), l7, l8]) (by decide +kernel) (by decide) rfl rfl ?_
  obtain ⟨B, hB⟩ := H.im1 fr
  have hw2 := H.hw hn fr
  have d0 := d_plan (G := G) (c := (zScr G ((p : Int) + 1).toNat % 65536)) (y := (zScr G ((p : Int) + 2).toNat % 65536)) (h := hB) (ho := H.ok) (hz := hw2) (hc := (by have := Int.emod_nonneg (zScr G ((p : Int) + 1).toNat) (show (65536 : Int) ≠ 0 by decide); have := Int.emod_lt_of_pos (zScr G ((p : Int) + 1).toNat) (show (0 : Int) < 65536 by decide); exact ⟨by omega, by omega⟩)) (hy := (by have := Int.emod_nonneg (zScr G ((p : Int) + 2).toNat) (show (65536 : Int) ≠ 0 by decide); have := Int.emod_lt_of_pos (zScr G ((p : Int) + 2).toNat) (show (0 : Int) < 65536 by decide); exact ⟨by omega, by omega⟩))
  rw [← eo] at d0
  refine z_aload_n (pc' := 1898) (j := 2) (by decide +kernel) rfl rfl ?_
  refine z_aload_n (pc' := 1899) (j := 0) (by decide +kernel) rfl rfl ?_
  refine z_iload (pc' := 1901) (j := 5) (by decide +kernel) rfl rfl ?_
  refine z_iconst (pc' := 1902) (n := 1) (by decide +kernel) rfl ?_
  refine z_iadd (pc' := 1903) (by decide +kernel) rfl ?_
  refine z_sld (pc' := 1904) (by decide +kernel) (hs 1 (by decide) (by decide)) rfl ?_
  refine z_i2c (pc' := 1905) (by decide +kernel) rfl ?_
  refine z_aload_n (pc' := 1906) (j := 0) (by decide +kernel) rfl rfl ?_
  refine z_iload (pc' := 1908) (j := 5) (by decide +kernel) rfl rfl ?_
  refine z_iconst (pc' := 1909) (n := 2) (by decide +kernel) rfl ?_
  refine z_iadd (pc' := 1910) (by decide +kernel) rfl ?_
  refine z_sld (pc' := 1911) (by decide +kernel) (hs 2 (by decide) (by decide)) rfl ?_
  refine z_i2c (pc' := 1912) (by decide +kernel) rfl ?_
  refine z_callV (pc' := 1915) (idx := 302) (mj := m_X12_plan) (av := [iv (zScr G ((p : Int) + 1).toNat % 65536), iv (zScr G ((p : Int) + 2).toNat % 65536)]) (n := 2) (ci := 12) (b := 300) (d' := 12) (by decide +kernel) rfl k_X12_plan l_RL_302 rfl (by decide) (am_le rfl) rfl (am_le rfl) hB.1.o.1 hB.1.o.2 rfl (ZM.mono d0 fun r V hv => ?_)
  obtain ⟨⟨v, rfl, ev⟩, ht, hM, vV⟩ := hv
  obtain ⟨N, eL, eD⟩ := H.nx hn hI fr ok hM vV
  change ZP G 1500 m_law 1915 [some (.ref 1000060), some (.ref 0), some (.ref 300), some (.ref 320), some (.ref 321), some (iv (p : Int)), some (iv (o.1 : Int)), l7, l8] [iv v] V _
  refine z_istore (pc' := 1917) (j := 7) (ls' := [some (.ref 1000060), some (.ref 0), some (.ref 300), some (.ref 320), some (.ref 321), some (iv (p : Int)), some (iv (o.1 : Int)), some (iv v), l8]) (by decide +kernel) (by decide) rfl rfl ?_
  refine z_aload_n (pc' := 1918) (j := 2) (by decide +kernel) rfl rfl ?_
  obtain ⟨B2, hB2⟩ := hM
  refine z_callV (pc' := 1921) (idx := 190) (mj := m_X12_thrown) (av := []) (n := 0) (ci := 12) (b := 300) (d' := 0) (by decide +kernel) rfl k_X12_thrown l_RL_190 rfl (by decide) (am_le rfl) rfl (am_le rfl) hB2.1.o.1 hB2.1.o.2 rfl (zKf (s_thrown hB2.1) ?_)
  rw [ht]
  change ZP G 1500 m_law 1921 [some (.ref 1000060), some (.ref 0), some (.ref 300), some (.ref 320), some (.ref 321), some (iv (p : Int)), some (iv (o.1 : Int)), some (iv v), l8] [iv (o.1 : Int)] V _
  refine z_iload (pc' := 1923) (j := 6) (by decide +kernel) rfl rfl ?_
  refine z_same (pc' := 1926) (tgt := 1928) (off := 5) (by decide +kernel) (by decide) rfl ?_
  refine z_iload (pc' := 1930) (j := 6) (by decide +kernel) rfl rfl ?_
  refine z_if_ne (pc' := 1933) (tgt := 1945) (off := 15) (by decide +kernel) (by decide) rfl ⟨by omega, by omega⟩ ?_
  by_cases c0 : (o.1 : Int) = 0
  case neg =>
    rw [if_neg c0]
    refine z_goto (tgt := 3364) (off := 1419) (by decide +kernel) (by decide) ?_
    exact k _ _ _ _ _ N
  rw [if_pos c0]
  have c1 : o.1 = 0 := by omega
  obtain rfl := ev c1
  refine z_aload_n (pc' := 1934) (j := 3) (by decide +kernel) rfl rfl ?_
  refine z_iconst (pc' := 1935) (n := 0) (by decide +kernel) rfl ?_
  refine z_laload (pc' := 1936) (by decide +kernel) N.oL ⟨by decide, by decide, by decide⟩ rfl ?_
  rw [show zL V 320 ((0 : Int)).toNat = rI o.2.1 from (congrFun eL 0).trans (hP c1)]
  refine z_iload (pc' := 1938) (j := 7) (by decide +kernel) rfl rfl ?_
  refine z_i2lr (pc' := 1939) (by decide +kernel) rfl ?_
  refine z_lsame (pc' := 1940) (by decide +kernel) rfl ?_
  refine z_if_eq (pc' := 1943) (tgt := 1945) (off := 5) (by decide +kernel) (by decide) rfl (by decide) ?_
  rw [if_pos rfl]
  refine z_goto (tgt := 3364) (off := 1419) (by decide +kernel) (by decide) ?_
  exact k _ _ _ _ _ N
theorem lc_planBegin {G : Gx} {Q : Rv → Zm → Prop} {Z : Zm} {σ : St} {n p : Nat} {l6 l7 l8 : Option Value} (H : lwI n Z σ) (hn : n < 512) (hs : lwK G p) (k : lwN G p n Q) : ZP G 1500 m_law 1948 [some (.ref 1000060), some (.ref 0), some (.ref 300), some (.ref 320), some (.ref 321), some (iv (p : Int)), l6, l7, l8] [] Z Q := by
  obtain ⟨o, eo⟩ : ∃ o, o = o_planBegin σ (zScr G ((p : Int) + 1).toNat) := ⟨_, rfl⟩
  have ok : okS o.2.2 := by rw [eo]; exact k_planBegin (t := (zScr G ((p : Int) + 1).toNat)) H.ok
  have w0 := w_L_planBegin (G := G) (h := H.ic) (ho := H.ok) (hz := H.hz hn) (hou := H.oL) (t := (zScr G ((p : Int) + 1).toNat)) (ht := (zScr_r _ _))
  have bd := bd_planBegin (σ := σ) (t := (zScr G ((p : Int) + 1).toNat))
  rw [← eo] at w0 bd
  refine z_aload_n (pc' := 1949) (j := 1) (by decide +kernel) rfl rfl ?_
  refine z_aload_n (pc' := 1950) (j := 0) (by decide +kernel) rfl rfl ?_
  refine z_iload (pc' := 1952) (j := 5) (by decide +kernel) rfl rfl ?_
  refine z_iconst (pc' := 1953) (n := 1) (by decide +kernel) rfl ?_
  refine z_iadd (pc' := 1954) (by decide +kernel) rfl ?_
  refine z_sld (pc' := 1955) (by decide +kernel) (hs 1 (by decide) (by decide)) rfl ?_
  refine z_aload_n (pc' := 1956) (j := 3) (by decide +kernel) rfl rfl ?_
  refine z_callSH (pc' := 1959) (idx := 303) (mj := m_L_planBegin) (av := [.ref 0, iv (zScr G ((p : Int) + 1).toNat), .ref 320]) (n := 3) (d' := 30) (by decide +kernel) rfl k_L_planBegin (amM6 107 rfl (by decide +kernel)) rfl (by decide) (am_le rfl) rfl (am_le rfl) rfl (ZM.mono w0 fun r W hw => ?_)
  obtain ⟨rfl, hI, fr, hP⟩ := hw
  change ZP G 1500 m_law 1959 [some (.ref 1000060), some (.ref 0), some (.ref 300), some (.ref 320), some (.ref 321), some (iv (p : Int)), l6, l7, l8] [iv (o.1 : Int)] W _
  refine z_istore (pc' := 1961) (j := 6) (ls' := [some (.ref 1000060), some (.ref 0), some (.ref 300), some (.ref 320), some (.ref 321), some (iv (p : Int)), some (iv (o.1 : Int)), l7, l8]) (by decide +kernel) (by decide) rfl rfl ?_
  obtain ⟨B, hB⟩ := H.im1 fr
  have hw2 := H.hw hn fr
  have d0 := d_planBegin (G := G) (t := (zScr G ((p : Int) + 1).toNat)) (h := hB) (ho := H.ok) (ht := (zScr_r _ _))
  rw [← eo] at d0
  refine z_aload_n (pc' := 1962) (j := 2) (by decide +kernel) rfl rfl ?_
  refine z_aload_n (pc' := 1963) (j := 0) (by decide +kernel) rfl rfl ?_
  refine z_iload (pc' := 1965) (j := 5) (by decide +kernel) rfl rfl ?_
  refine z_iconst (pc' := 1966) (n := 1) (by decide +kernel) rfl ?_
  refine z_iadd (pc' := 1967) (by decide +kernel) rfl ?_
  refine z_sld (pc' := 1968) (by decide +kernel) (hs 1 (by decide) (by decide)) rfl ?_
  refine z_callV (pc' := 1971) (idx := 305) (mj := m_X12_planBegin) (av := [iv (zScr G ((p : Int) + 1).toNat)]) (n := 1) (ci := 12) (b := 300) (d' := 12) (by decide +kernel) rfl k_X12_planBegin l_RL_305 rfl (by decide) (am_le rfl) rfl (am_le rfl) hB.1.o.1 hB.1.o.2 rfl (ZM.mono d0 fun r V hv => ?_)
  obtain ⟨⟨v, rfl, ev⟩, ht, hM, vV⟩ := hv
  obtain ⟨N, eL, eD⟩ := H.nx hn hI fr ok hM vV
  change ZP G 1500 m_law 1971 [some (.ref 1000060), some (.ref 0), some (.ref 300), some (.ref 320), some (.ref 321), some (iv (p : Int)), some (iv (o.1 : Int)), l7, l8] [iv v] V _
  refine z_istore (pc' := 1973) (j := 7) (ls' := [some (.ref 1000060), some (.ref 0), some (.ref 300), some (.ref 320), some (.ref 321), some (iv (p : Int)), some (iv (o.1 : Int)), some (iv v), l8]) (by decide +kernel) (by decide) rfl rfl ?_
  refine z_aload_n (pc' := 1974) (j := 2) (by decide +kernel) rfl rfl ?_
  obtain ⟨B2, hB2⟩ := hM
  refine z_callV (pc' := 1977) (idx := 190) (mj := m_X12_thrown) (av := []) (n := 0) (ci := 12) (b := 300) (d' := 0) (by decide +kernel) rfl k_X12_thrown l_RL_190 rfl (by decide) (am_le rfl) rfl (am_le rfl) hB2.1.o.1 hB2.1.o.2 rfl (zKf (s_thrown hB2.1) ?_)
  rw [ht]
  change ZP G 1500 m_law 1977 [some (.ref 1000060), some (.ref 0), some (.ref 300), some (.ref 320), some (.ref 321), some (iv (p : Int)), some (iv (o.1 : Int)), some (iv v), l8] [iv (o.1 : Int)] V _
  refine z_iload (pc' := 1979) (j := 6) (by decide +kernel) rfl rfl ?_
  refine z_same (pc' := 1982) (tgt := 1984) (off := 5) (by decide +kernel) (by decide) rfl ?_
  refine z_iload (pc' := 1986) (j := 6) (by decide +kernel) rfl rfl ?_
  refine z_if_ne (pc' := 1989) (tgt := 2001) (off := 15) (by decide +kernel) (by decide) rfl ⟨by omega, by omega⟩ ?_
  by_cases c0 : (o.1 : Int) = 0
  case neg =>
    rw [if_neg c0]
    refine z_goto (tgt := 3364) (off := 1363) (by decide +kernel) (by decide) ?_
    exact k _ _ _ _ _ N
  rw [if_pos c0]
  have c1 : o.1 = 0 := by omega
  obtain rfl := ev c1
  refine z_aload_n (pc' := 1990) (j := 3) (by decide +kernel) rfl rfl ?_
  refine z_iconst (pc' := 1991) (n := 0) (by decide +kernel) rfl ?_
  refine z_laload (pc' := 1992) (by decide +kernel) N.oL ⟨by decide, by decide, by decide⟩ rfl ?_
  rw [show zL V 320 ((0 : Int)).toNat = rI o.2.1 from (congrFun eL 0).trans (hP c1)]
  refine z_iload (pc' := 1994) (j := 7) (by decide +kernel) rfl rfl ?_
  refine z_i2lr (pc' := 1995) (by decide +kernel) rfl ?_
  refine z_lsame (pc' := 1996) (by decide +kernel) rfl ?_
  refine z_if_eq (pc' := 1999) (tgt := 2001) (off := 5) (by decide +kernel) (by decide) rfl (by decide) ?_
  rw [if_pos rfl]
  refine z_goto (tgt := 3364) (off := 1363) (by decide +kernel) (by decide) ?_
  exact k _ _ _ _ _ N
theorem lc_planHand {G : Gx} {Q : Rv → Zm → Prop} {Z : Zm} {σ : St} {n p : Nat} {l6 l7 l8 : Option Value} (H : lwI n Z σ) (hn : n < 512) (hs : lwK G p) (k : lwN G p n Q) : ZP G 1500 m_law 2004 [some (.ref 1000060), some (.ref 0), some (.ref 300), some (.ref 320), some (.ref 321), some (iv (p : Int)), l6, l7, l8] [] Z Q := by
  obtain ⟨o, eo⟩ : ∃ o, o = o_planHand σ (zScr G ((p : Int) + 1).toNat) := ⟨_, rfl⟩
  have ok : okS o.2.2 := by rw [eo]; exact k_planHand (t := (zScr G ((p : Int) + 1).toNat)) H.ok
  have w0 := w_L_planHand (G := G) (h := H.ic) (ho := H.ok) (hz := H.hz hn) (hou := H.oL) (t := (zScr G ((p : Int) + 1).toNat)) (ht := (zScr_r _ _))
  have bd := bd_planHand (σ := σ) (t := (zScr G ((p : Int) + 1).toNat))
  rw [← eo] at w0 bd
  refine z_aload_n (pc' := 2005) (j := 1) (by decide +kernel) rfl rfl ?_
  refine z_aload_n (pc' := 2006) (j := 0) (by decide +kernel) rfl rfl ?_
  refine z_iload (pc' := 2008) (j := 5) (by decide +kernel) rfl rfl ?_
  refine z_iconst (pc' := 2009) (n := 1) (by decide +kernel) rfl ?_
  refine z_iadd (pc' := 2010) (by decide +kernel) rfl ?_
  refine z_sld (pc' := 2011) (by decide +kernel) (hs 1 (by decide) (by decide)) rfl ?_
  refine z_aload_n (pc' := 2012) (j := 3) (by decide +kernel) rfl rfl ?_
  refine z_callSH (pc' := 2015) (idx := 306) (mj := m_L_planHand) (av := [.ref 0, iv (zScr G ((p : Int) + 1).toNat), .ref 320]) (n := 3) (d' := 30) (by decide +kernel) rfl k_L_planHand (amM6 119 rfl (by decide +kernel)) rfl (by decide) (am_le rfl) rfl (am_le rfl) rfl (ZM.mono w0 fun r W hw => ?_)
  obtain ⟨rfl, hI, fr, hP⟩ := hw
  change ZP G 1500 m_law 2015 [some (.ref 1000060), some (.ref 0), some (.ref 300), some (.ref 320), some (.ref 321), some (iv (p : Int)), l6, l7, l8] [iv (o.1 : Int)] W _
  refine z_istore (pc' := 2017) (j := 6) (ls' := [some (.ref 1000060), some (.ref 0), some (.ref 300), some (.ref 320), some (.ref 321), some (iv (p : Int)), some (iv (o.1 : Int)), l7, l8]) (by decide +kernel) (by decide) rfl rfl ?_
  obtain ⟨B, hB⟩ := H.im1 fr
  have hw2 := H.hw hn fr
  have d0 := d_planHand (G := G) (t := (zScr G ((p : Int) + 1).toNat)) (h := hB) (ho := H.ok) (ht := (zScr_r _ _))
  rw [← eo] at d0
  refine z_aload_n (pc' := 2018) (j := 2) (by decide +kernel) rfl rfl ?_
  refine z_aload_n (pc' := 2019) (j := 0) (by decide +kernel) rfl rfl ?_
  refine z_iload (pc' := 2021) (j := 5) (by decide +kernel) rfl rfl ?_
  refine z_iconst (pc' := 2022) (n := 1) (by decide +kernel) rfl ?_
  refine z_iadd (pc' := 2023) (by decide +kernel) rfl ?_
  refine z_sld (pc' := 2024) (by decide +kernel) (hs 1 (by decide) (by decide)) rfl ?_
  refine z_callV (pc' := 2027) (idx := 308) (mj := m_X12_planHand) (av := [iv (zScr G ((p : Int) + 1).toNat)]) (n := 1) (ci := 12) (b := 300) (d' := 12) (by decide +kernel) rfl k_X12_planHand l_RL_308 rfl (by decide) (am_le rfl) rfl (am_le rfl) hB.1.o.1 hB.1.o.2 rfl (ZM.mono d0 fun r V hv => ?_)
  obtain ⟨⟨v, rfl, ev⟩, ht, hM, vV⟩ := hv
  obtain ⟨N, eL, eD⟩ := H.nx hn hI fr ok hM vV
  change ZP G 1500 m_law 2027 [some (.ref 1000060), some (.ref 0), some (.ref 300), some (.ref 320), some (.ref 321), some (iv (p : Int)), some (iv (o.1 : Int)), l7, l8] [iv v] V _
  refine z_istore (pc' := 2029) (j := 7) (ls' := [some (.ref 1000060), some (.ref 0), some (.ref 300), some (.ref 320), some (.ref 321), some (iv (p : Int)), some (iv (o.1 : Int)), some (iv v), l8]) (by decide +kernel) (by decide) rfl rfl ?_
  refine z_aload_n (pc' := 2030) (j := 2) (by decide +kernel) rfl rfl ?_
  obtain ⟨B2, hB2⟩ := hM
  refine z_callV (pc' := 2033) (idx := 190) (mj := m_X12_thrown) (av := []) (n := 0) (ci := 12) (b := 300) (d' := 0) (by decide +kernel) rfl k_X12_thrown l_RL_190 rfl (by decide) (am_le rfl) rfl (am_le rfl) hB2.1.o.1 hB2.1.o.2 rfl (zKf (s_thrown hB2.1) ?_)
  rw [ht]
  change ZP G 1500 m_law 2033 [some (.ref 1000060), some (.ref 0), some (.ref 300), some (.ref 320), some (.ref 321), some (iv (p : Int)), some (iv (o.1 : Int)), some (iv v), l8] [iv (o.1 : Int)] V _
  refine z_iload (pc' := 2035) (j := 6) (by decide +kernel) rfl rfl ?_
  refine z_same (pc' := 2038) (tgt := 2040) (off := 5) (by decide +kernel) (by decide) rfl ?_
  refine z_iload (pc' := 2042) (j := 6) (by decide +kernel) rfl rfl ?_
  refine z_if_ne (pc' := 2045) (tgt := 2057) (off := 15) (by decide +kernel) (by decide) rfl ⟨by omega, by omega⟩ ?_
  by_cases c0 : (o.1 : Int) = 0
  case neg =>
    rw [if_neg c0]
    refine z_goto (tgt := 3364) (off := 1307) (by decide +kernel) (by decide) ?_
    exact k _ _ _ _ _ N
  rw [if_pos c0]
  have c1 : o.1 = 0 := by omega
  obtain rfl := ev c1
  refine z_aload_n (pc' := 2046) (j := 3) (by decide +kernel) rfl rfl ?_
  refine z_iconst (pc' := 2047) (n := 0) (by decide +kernel) rfl ?_
  refine z_laload (pc' := 2048) (by decide +kernel) N.oL ⟨by decide, by decide, by decide⟩ rfl ?_
  rw [show zL V 320 ((0 : Int)).toNat = rI o.2.1 from (congrFun eL 0).trans (hP c1)]
  refine z_iload (pc' := 2050) (j := 7) (by decide +kernel) rfl rfl ?_
  refine z_i2lr (pc' := 2051) (by decide +kernel) rfl ?_
  refine z_lsame (pc' := 2052) (by decide +kernel) rfl ?_
  refine z_if_eq (pc' := 2055) (tgt := 2057) (off := 5) (by decide +kernel) (by decide) rfl (by decide) ?_
  rw [if_pos rfl]
  refine z_goto (tgt := 3364) (off := 1307) (by decide +kernel) (by decide) ?_
  exact k _ _ _ _ _ N
theorem lc_planEnd {G : Gx} {Q : Rv → Zm → Prop} {Z : Zm} {σ : St} {n p : Nat} {l6 l7 l8 : Option Value} (H : lwI n Z σ) (hn : n < 512) (hs : lwK G p) (k : lwN G p n Q) : ZP G 1500 m_law 2060 [some (.ref 1000060), some (.ref 0), some (.ref 300), some (.ref 320), some (.ref 321), some (iv (p : Int)), l6, l7, l8] [] Z Q := by
  obtain ⟨o, eo⟩ : ∃ o, o = o_planEnd σ := ⟨_, rfl⟩
  have ok : okS o.2.2 := by rw [eo]; exact k_planEnd  H.ok
  have w0 := w_L_planEnd (G := G) (h := H.ic) (ho := H.ok) (hz := H.hz hn) (hou := H.oL) 
  have bd := bd_planEnd (σ := σ)
  rw [← eo] at w0 bd
  refine z_aload_n (pc' := 2061) (j := 1) (by decide +kernel) rfl rfl ?_
  refine z_aload_n (pc' := 2062) (j := 3) (by decide +kernel) rfl rfl ?_
  refine z_callSH (pc' := 2065) (idx := 309) (mj := m_L_planEnd) (av := [.ref 0, .ref 320]) (n := 2) (d' := 30) (by decide +kernel) rfl k_L_planEnd (amM6 126 rfl (by decide +kernel)) rfl (by decide) (am_le rfl) rfl (am_le rfl) rfl (ZM.mono w0 fun r W hw => ?_)
  obtain ⟨rfl, hI, fr, hP⟩ := hw
  change ZP G 1500 m_law 2065 [some (.ref 1000060), some (.ref 0), some (.ref 300), some (.ref 320), some (.ref 321), some (iv (p : Int)), l6, l7, l8] [iv (o.1 : Int)] W _
  refine z_istore (pc' := 2067) (j := 6) (ls' := [some (.ref 1000060), some (.ref 0), some (.ref 300), some (.ref 320), some (.ref 321), some (iv (p : Int)), some (iv (o.1 : Int)), l7, l8]) (by decide +kernel) (by decide) rfl rfl ?_
  obtain ⟨B, hB⟩ := H.im1 fr
  have hw2 := H.hw hn fr
  have d0 := d_planEnd (G := G) (h := hB) 
  rw [← eo] at d0
  refine z_aload_n (pc' := 2068) (j := 2) (by decide +kernel) rfl rfl ?_
  refine z_callV (pc' := 2071) (idx := 311) (mj := m_X12_planEnd) (av := []) (n := 0) (ci := 12) (b := 300) (d' := 12) (by decide +kernel) rfl k_X12_planEnd l_RL_311 rfl (by decide) (am_le rfl) rfl (am_le rfl) hB.1.o.1 hB.1.o.2 rfl (ZM.mono d0 fun r V hv => ?_)
  obtain ⟨⟨v, rfl, ev⟩, ht, hM, vV⟩ := hv
  obtain ⟨N, eL, eD⟩ := H.nx hn hI fr ok hM vV
  change ZP G 1500 m_law 2071 [some (.ref 1000060), some (.ref 0), some (.ref 300), some (.ref 320), some (.ref 321), some (iv (p : Int)), some (iv (o.1 : Int)), l7, l8] [iv v] V _
  refine z_istore (pc' := 2073) (j := 7) (ls' := [some (.ref 1000060), some (.ref 0), some (.ref 300), some (.ref 320), some (.ref 321), some (iv (p : Int)), some (iv (o.1 : Int)), some (iv v), l8]) (by decide +kernel) (by decide) rfl rfl ?_
  refine z_aload_n (pc' := 2074) (j := 2) (by decide +kernel) rfl rfl ?_
  obtain ⟨B2, hB2⟩ := hM
  refine z_callV (pc' := 2077) (idx := 190) (mj := m_X12_thrown) (av := []) (n := 0) (ci := 12) (b := 300) (d' := 0) (by decide +kernel) rfl k_X12_thrown l_RL_190 rfl (by decide) (am_le rfl) rfl (am_le rfl) hB2.1.o.1 hB2.1.o.2 rfl (zKf (s_thrown hB2.1) ?_)
  rw [ht]
  change ZP G 1500 m_law 2077 [some (.ref 1000060), some (.ref 0), some (.ref 300), some (.ref 320), some (.ref 321), some (iv (p : Int)), some (iv (o.1 : Int)), some (iv v), l8] [iv (o.1 : Int)] V _
  refine z_iload (pc' := 2079) (j := 6) (by decide +kernel) rfl rfl ?_
  refine z_same (pc' := 2082) (tgt := 2084) (off := 5) (by decide +kernel) (by decide) rfl ?_
  refine z_iload (pc' := 2086) (j := 6) (by decide +kernel) rfl rfl ?_
  refine z_if_ne (pc' := 2089) (tgt := 2101) (off := 15) (by decide +kernel) (by decide) rfl ⟨by omega, by omega⟩ ?_
  by_cases c0 : (o.1 : Int) = 0
  case neg =>
    rw [if_neg c0]
    refine z_goto (tgt := 3364) (off := 1263) (by decide +kernel) (by decide) ?_
    exact k _ _ _ _ _ N
  rw [if_pos c0]
  have c1 : o.1 = 0 := by omega
  obtain rfl := ev c1
  refine z_aload_n (pc' := 2090) (j := 3) (by decide +kernel) rfl rfl ?_
  refine z_iconst (pc' := 2091) (n := 0) (by decide +kernel) rfl ?_
  refine z_laload (pc' := 2092) (by decide +kernel) N.oL ⟨by decide, by decide, by decide⟩ rfl ?_
  rw [show zL V 320 ((0 : Int)).toNat = rI o.2.1 from (congrFun eL 0).trans (hP c1)]
  refine z_iload (pc' := 2094) (j := 7) (by decide +kernel) rfl rfl ?_
  refine z_i2lr (pc' := 2095) (by decide +kernel) rfl ?_
  refine z_lsame (pc' := 2096) (by decide +kernel) rfl ?_
  refine z_if_eq (pc' := 2099) (tgt := 2101) (off := 5) (by decide +kernel) (by decide) rfl (by decide) ?_
  rw [if_pos rfl]
  refine z_goto (tgt := 3364) (off := 1263) (by decide +kernel) (by decide) ?_
  exact k _ _ _ _ _ N
theorem lc_busy {G : Gx} {Q : Rv → Zm → Prop} {Z : Zm} {σ : St} {n p : Nat} {l6 l7 l8 : Option Value} (H : lwI n Z σ) (hn : n < 512) (hs : lwK G p) (k : lwN G p n Q) : ZP G 1500 m_law 2104 [some (.ref 1000060), some (.ref 0), some (.ref 300), some (.ref 320), some (.ref 321), some (iv (p : Int)), l6, l7, l8] [] Z Q := by
  obtain ⟨o, eo⟩ : ∃ o, o = o_busy σ (zScr G ((p : Int) + 1).toNat) (zScr G ((p : Int) + 2).toNat) := ⟨_, rfl⟩
  have ok : okS o.2.2 := by rw [eo]; exact k_busy (s := (zScr G ((p : Int) + 1).toNat)) (x := (zScr G ((p : Int) + 2).toNat)) H.ok
  have w0 := w_L_busy (G := G) (h := H.ic) (ho := H.ok) (hz := H.hz hn) (hou := H.oL) (x := (zScr G ((p : Int) + 1).toNat)) (y := (zScr G ((p : Int) + 2).toNat)) (hx := (zScr_r _ _)) (hy := (zScr_r _ _))
  have bd := bd_busy (σ := σ) (x := (zScr G ((p : Int) + 1).toNat)) (y := (zScr G ((p : Int) + 2).toNat))
  rw [← eo] at w0 bd
  refine z_aload_n (pc' := 2105) (j := 1) (by decide +kernel) rfl rfl ?_
  refine z_aload_n (pc' := 2106) (j := 0) (by decide +kernel) rfl rfl ?_
  refine z_iload (pc' := 2108) (j := 5) (by decide +kernel) rfl rfl ?_
  refine z_iconst (pc' := 2109) (n := 1) (by decide +kernel) rfl ?_
  refine z_iadd (pc' := 2110) (by decide +kernel) rfl ?_
  refine z_sld (pc' := 2111) (by decide +kernel) (hs 1 (by decide) (by decide)) rfl ?_
  refine z_aload_n (pc' := 2112) (j := 0) (by decide +kernel) rfl rfl ?_
  refine z_iload (pc' := 2114) (j := 5) (by decide +kernel) rfl rfl ?_
  refine z_iconst (pc' := 2115) (n := 2) (by decide +kernel) rfl ?_
  refine z_iadd (pc' := 2116) (by decide +kernel) rfl ?_
  refine z_sld (pc' := 2117) (by decide +kernel) (hs 2 (by decide) (by decide)) rfl ?_
  refine z_aload_n (pc' := 2118) (j := 3) (by decide +kernel) rfl rfl ?_
  refine z_callSH (pc' := 2121) (idx := 312) (mj := m_L_busy) (av := [.ref 0, iv (zScr G ((p : Int) + 1).toNat), iv (zScr G ((p : Int) + 2).toNat), .ref 320]) (n := 4) (d' := 30) (by decide +kernel) rfl k_L_busy (amM6 133 rfl (by decide +kernel)) rfl (by decide) (am_le rfl) rfl (am_le rfl) rfl (ZM.mono w0 fun r W hw => ?_)
  obtain ⟨rfl, hI, fr, hP⟩ := hw
  change ZP G 1500 m_law 2121 [some (.ref 1000060), some (.ref 0), some (.ref 300), some (.ref 320), some (.ref 321), some (iv (p : Int)), l6, l7, l8] [iv (o.1 : Int)] W _
  refine z_istore (pc' := 2123) (j := 6) (ls' := [some (.ref 1000060), some (.ref 0), some (.ref 300), some (.ref 320), some (.ref 321), some (iv (p : Int)), some (iv (o.1 : Int)), l7, l8]) (by decide +kernel) (by decide) rfl rfl ?_
  obtain ⟨B, hB⟩ := H.im1 fr
  have hw2 := H.hw hn fr
  have d0 := d_busy (G := G) (s := (zScr G ((p : Int) + 1).toNat)) (x := (zScr G ((p : Int) + 2).toNat)) (h := hB) (ho := H.ok) (hs := (zScr_r _ _)) (hx := (zScr_r _ _))
  rw [← eo] at d0
  refine z_aload_n (pc' := 2124) (j := 2) (by decide +kernel) rfl rfl ?_
  refine z_aload_n (pc' := 2125) (j := 0) (by decide +kernel) rfl rfl ?_
  refine z_iload (pc' := 2127) (j := 5) (by decide +kernel) rfl rfl ?_
  refine z_iconst (pc' := 2128) (n := 1) (by decide +kernel) rfl ?_
  refine z_iadd (pc' := 2129) (by decide +kernel) rfl ?_
  refine z_sld (pc' := 2130) (by decide +kernel) (hs 1 (by decide) (by decide)) rfl ?_
  refine z_aload_n (pc' := 2131) (j := 0) (by decide +kernel) rfl rfl ?_
  refine z_iload (pc' := 2133) (j := 5) (by decide +kernel) rfl rfl ?_
  refine z_iconst (pc' := 2134) (n := 2) (by decide +kernel) rfl ?_
  refine z_iadd (pc' := 2135) (by decide +kernel) rfl ?_
  refine z_sld (pc' := 2136) (by decide +kernel) (hs 2 (by decide) (by decide)) rfl ?_
  refine z_callV (pc' := 2139) (idx := 314) (mj := m_X12_busy) (av := [iv (zScr G ((p : Int) + 1).toNat), iv (zScr G ((p : Int) + 2).toNat)]) (n := 2) (ci := 12) (b := 300) (d' := 12) (by decide +kernel) rfl k_X12_busy l_RL_314 rfl (by decide) (am_le rfl) rfl (am_le rfl) hB.1.o.1 hB.1.o.2 rfl (ZM.mono d0 fun r V hv => ?_)
  obtain ⟨⟨v, rfl, ev⟩, ht, hM, vV⟩ := hv
  obtain ⟨N, eL, eD⟩ := H.nx hn hI fr ok hM vV
  change ZP G 1500 m_law 2139 [some (.ref 1000060), some (.ref 0), some (.ref 300), some (.ref 320), some (.ref 321), some (iv (p : Int)), some (iv (o.1 : Int)), l7, l8] [iv v] V _
  refine z_istore (pc' := 2141) (j := 7) (ls' := [some (.ref 1000060), some (.ref 0), some (.ref 300), some (.ref 320), some (.ref 321), some (iv (p : Int)), some (iv (o.1 : Int)), some (iv v), l8]) (by decide +kernel) (by decide) rfl rfl ?_
  refine z_aload_n (pc' := 2142) (j := 2) (by decide +kernel) rfl rfl ?_
  obtain ⟨B2, hB2⟩ := hM
  refine z_callV (pc' := 2145) (idx := 190) (mj := m_X12_thrown) (av := []) (n := 0) (ci := 12) (b := 300) (d' := 0) (by decide +kernel) rfl k_X12_thrown l_RL_190 rfl (by decide) (am_le rfl) rfl (am_le rfl) hB2.1.o.1 hB2.1.o.2 rfl (zKf (s_thrown hB2.1) ?_)
  rw [ht]
  change ZP G 1500 m_law 2145 [some (.ref 1000060), some (.ref 0), some (.ref 300), some (.ref 320), some (.ref 321), some (iv (p : Int)), some (iv (o.1 : Int)), some (iv v), l8] [iv (o.1 : Int)] V _
  refine z_iload (pc' := 2147) (j := 6) (by decide +kernel) rfl rfl ?_
  refine z_same (pc' := 2150) (tgt := 2152) (off := 5) (by decide +kernel) (by decide) rfl ?_
  refine z_iload (pc' := 2154) (j := 6) (by decide +kernel) rfl rfl ?_
  refine z_if_ne (pc' := 2157) (tgt := 2169) (off := 15) (by decide +kernel) (by decide) rfl ⟨by omega, by omega⟩ ?_
  by_cases c0 : (o.1 : Int) = 0
  case neg =>
    rw [if_neg c0]
    refine z_goto (tgt := 3364) (off := 1195) (by decide +kernel) (by decide) ?_
    exact k _ _ _ _ _ N
  rw [if_pos c0]
  have c1 : o.1 = 0 := by omega
  obtain rfl := ev c1
  refine z_aload_n (pc' := 2158) (j := 3) (by decide +kernel) rfl rfl ?_
  refine z_iconst (pc' := 2159) (n := 0) (by decide +kernel) rfl ?_
  refine z_laload (pc' := 2160) (by decide +kernel) N.oL ⟨by decide, by decide, by decide⟩ rfl ?_
  rw [show zL V 320 ((0 : Int)).toNat = rI o.2.1 from (congrFun eL 0).trans (hP c1)]
  refine z_iload (pc' := 2162) (j := 7) (by decide +kernel) rfl rfl ?_
  refine z_i2lr (pc' := 2163) (by decide +kernel) rfl ?_
  refine z_lsame (pc' := 2164) (by decide +kernel) rfl ?_
  refine z_if_eq (pc' := 2167) (tgt := 2169) (off := 5) (by decide +kernel) (by decide) rfl (by decide) ?_
  rw [if_pos rfl]
  refine z_goto (tgt := 3364) (off := 1195) (by decide +kernel) (by decide) ?_
  exact k _ _ _ _ _ N
theorem lc_proofLength {G : Gx} {Q : Rv → Zm → Prop} {Z : Zm} {σ : St} {n p : Nat} {l6 l7 l8 : Option Value} (H : lwI n Z σ) (hn : n < 512) (hs : lwK G p) (k : lwN G p n Q) : ZP G 1500 m_law 2172 [some (.ref 1000060), some (.ref 0), some (.ref 300), some (.ref 320), some (.ref 321), some (iv (p : Int)), l6, l7, l8] [] Z Q := by
  obtain ⟨o, eo⟩ : ∃ o, o = o_proofLength σ := ⟨_, rfl⟩
  have ok : okS o.2.2 := by rw [eo]; exact k_proofLength  H.ok
  have w0 := w_L_proofLength (G := G) (h := H.ic) (ho := H.ok) (hz := H.hz hn) (hou := H.oL) 
  have bd := bd_proofLength (σ := σ)
  rw [← eo] at w0 bd
  refine z_aload_n (pc' := 2173) (j := 1) (by decide +kernel) rfl rfl ?_
  refine z_aload_n (pc' := 2174) (j := 3) (by decide +kernel) rfl rfl ?_
  refine z_callSH (pc' := 2177) (idx := 315) (mj := m_L_proofLength) (av := [.ref 0, .ref 320]) (n := 2) (d' := 30) (by decide +kernel) rfl k_L_proofLength (amM6 142 rfl (by decide +kernel)) rfl (by decide) (am_le rfl) rfl (am_le rfl) rfl (ZM.mono w0 fun r W hw => ?_)
  obtain ⟨rfl, hI, fr, hP⟩ := hw
  change ZP G 1500 m_law 2177 [some (.ref 1000060), some (.ref 0), some (.ref 300), some (.ref 320), some (.ref 321), some (iv (p : Int)), l6, l7, l8] [iv (o.1 : Int)] W _
  refine z_istore (pc' := 2179) (j := 6) (ls' := [some (.ref 1000060), some (.ref 0), some (.ref 300), some (.ref 320), some (.ref 321), some (iv (p : Int)), some (iv (o.1 : Int)), l7, l8]) (by decide +kernel) (by decide) rfl rfl ?_
  obtain ⟨B, hB⟩ := H.im1 fr
  have hw2 := H.hw hn fr
  have d0 := d_proofLength (G := G) (h := hB) (ho := H.ok) (hz := hw2) 
  rw [← eo] at d0
  refine z_aload_n (pc' := 2180) (j := 2) (by decide +kernel) rfl rfl ?_
  refine z_callV (pc' := 2183) (idx := 317) (mj := m_X12_proofLength) (av := []) (n := 0) (ci := 12) (b := 300) (d' := 12) (by decide +kernel) rfl k_X12_proofLength l_RL_317 rfl (by decide) (am_le rfl) rfl (am_le rfl) hB.1.o.1 hB.1.o.2 rfl (ZM.mono d0 fun r V hv => ?_)
  obtain ⟨⟨v, rfl, ev⟩, ht, hM, vV⟩ := hv
  obtain ⟨N, eL, eD⟩ := H.nx hn hI fr ok hM vV
  change ZP G 1500 m_law 2183 [some (.ref 1000060), some (.ref 0), some (.ref 300), some (.ref 320), some (.ref 321), some (iv (p : Int)), some (iv (o.1 : Int)), l7, l8] [iv v] V _
  refine z_istore (pc' := 2185) (j := 7) (ls' := [some (.ref 1000060), some (.ref 0), some (.ref 300), some (.ref 320), some (.ref 321), some (iv (p : Int)), some (iv (o.1 : Int)), some (iv v), l8]) (by decide +kernel) (by decide) rfl rfl ?_
  refine z_aload_n (pc' := 2186) (j := 2) (by decide +kernel) rfl rfl ?_
  obtain ⟨B2, hB2⟩ := hM
  refine z_callV (pc' := 2189) (idx := 190) (mj := m_X12_thrown) (av := []) (n := 0) (ci := 12) (b := 300) (d' := 0) (by decide +kernel) rfl k_X12_thrown l_RL_190 rfl (by decide) (am_le rfl) rfl (am_le rfl) hB2.1.o.1 hB2.1.o.2 rfl (zKf (s_thrown hB2.1) ?_)
  rw [ht]
  change ZP G 1500 m_law 2189 [some (.ref 1000060), some (.ref 0), some (.ref 300), some (.ref 320), some (.ref 321), some (iv (p : Int)), some (iv (o.1 : Int)), some (iv v), l8] [iv (o.1 : Int)] V _
  refine z_iload (pc' := 2191) (j := 6) (by decide +kernel) rfl rfl ?_
  refine z_same (pc' := 2194) (tgt := 2196) (off := 5) (by decide +kernel) (by decide) rfl ?_
  refine z_iload (pc' := 2198) (j := 6) (by decide +kernel) rfl rfl ?_
  refine z_if_ne (pc' := 2201) (tgt := 2213) (off := 15) (by decide +kernel) (by decide) rfl ⟨by omega, by omega⟩ ?_
  by_cases c0 : (o.1 : Int) = 0
  case neg =>
    rw [if_neg c0]
    refine z_goto (tgt := 3364) (off := 1151) (by decide +kernel) (by decide) ?_
    exact k _ _ _ _ _ N
  rw [if_pos c0]
  have c1 : o.1 = 0 := by omega
  obtain rfl := ev c1
  refine z_aload_n (pc' := 2202) (j := 3) (by decide +kernel) rfl rfl ?_
  refine z_iconst (pc' := 2203) (n := 0) (by decide +kernel) rfl ?_
  refine z_laload (pc' := 2204) (by decide +kernel) N.oL ⟨by decide, by decide, by decide⟩ rfl ?_
  rw [show zL V 320 ((0 : Int)).toNat = rI o.2.1 from (congrFun eL 0).trans (hP c1)]
  refine z_iload (pc' := 2206) (j := 7) (by decide +kernel) rfl rfl ?_
  refine z_i2lr (pc' := 2207) (by decide +kernel) rfl ?_
  refine z_lsame (pc' := 2208) (by decide +kernel) rfl ?_
  refine z_if_eq (pc' := 2211) (tgt := 2213) (off := 5) (by decide +kernel) (by decide) rfl (by decide) ?_
  rw [if_pos rfl]
  refine z_goto (tgt := 3364) (off := 1151) (by decide +kernel) (by decide) ?_
  exact k _ _ _ _ _ N
theorem lc_proofAt {G : Gx} {Q : Rv → Zm → Prop} {Z : Zm} {σ : St} {n p : Nat} {l6 l7 l8 : Option Value} (H : lwI n Z σ) (hn : n < 512) (hs : lwK G p) (k : lwN G p n Q) : ZP G 1500 m_law 2216 [some (.ref 1000060), some (.ref 0), some (.ref 300), some (.ref 320), some (.ref 321), some (iv (p : Int)), l6, l7, l8] [] Z Q := by
  obtain ⟨o, eo⟩ : ∃ o, o = o_proofAt σ (zScr G ((p : Int) + 1).toNat) := ⟨_, rfl⟩
  have ok : okS o.2.2 := by rw [eo]; exact k_proofAt (x := (zScr G ((p : Int) + 1).toNat)) H.ok
  have w0 := w_L_proofAt (G := G) (h := H.ic) (ho := H.ok) (hz := H.hz hn) (hou := H.oL) (x := (zScr G ((p : Int) + 1).toNat)) (hx := (zScr_r _ _))
  have bd := bd_proofAt (σ := σ) (x := (zScr G ((p : Int) + 1).toNat))
  rw [← eo] at w0 bd
  refine z_aload_n (pc' := 2217) (j := 1) (by decide +kernel) rfl rfl ?_
  refine z_aload_n (pc' := 2218) (j := 0) (by decide +kernel) rfl rfl ?_
  refine z_iload (pc' := 2220) (j := 5) (by decide +kernel) rfl rfl ?_
  refine z_iconst (pc' := 2221) (n := 1) (by decide +kernel) rfl ?_
  refine z_iadd (pc' := 2222) (by decide +kernel) rfl ?_
  refine z_sld (pc' := 2223) (by decide +kernel) (hs 1 (by decide) (by decide)) rfl ?_
  refine z_aload_n (pc' := 2224) (j := 3) (by decide +kernel) rfl rfl ?_
  refine z_callSH (pc' := 2227) (idx := 318) (mj := m_L_proofAt) (av := [.ref 0, iv (zScr G ((p : Int) + 1).toNat), .ref 320]) (n := 3) (d' := 30) (by decide +kernel) rfl k_L_proofAt (amM6 149 rfl (by decide +kernel)) rfl (by decide) (am_le rfl) rfl (am_le rfl) rfl (ZM.mono w0 fun r W hw => ?_)
  obtain ⟨rfl, hI, fr, hP⟩ := hw
  change ZP G 1500 m_law 2227 [some (.ref 1000060), some (.ref 0), some (.ref 300), some (.ref 320), some (.ref 321), some (iv (p : Int)), l6, l7, l8] [iv (o.1 : Int)] W _
  refine z_istore (pc' := 2229) (j := 6) (ls' := [some (.ref 1000060), some (.ref 0), some (.ref 300), some (.ref 320), some (.ref 321), some (iv (p : Int)), some (iv (o.1 : Int)), l7, l8]) (by decide +kernel) (by decide) rfl rfl ?_
  obtain ⟨B, hB⟩ := H.im1 fr
  have hw2 := H.hw hn fr
  have d0 := d_proofAt (G := G) (x := (zScr G ((p : Int) + 1).toNat)) (h := hB) (ho := H.ok) (hz := hw2) (hx := (zScr_r _ _))
  rw [← eo] at d0
  refine z_aload_n (pc' := 2230) (j := 2) (by decide +kernel) rfl rfl ?_
  refine z_aload_n (pc' := 2231) (j := 0) (by decide +kernel) rfl rfl ?_
  refine z_iload (pc' := 2233) (j := 5) (by decide +kernel) rfl rfl ?_
  refine z_iconst (pc' := 2234) (n := 1) (by decide +kernel) rfl ?_
  refine z_iadd (pc' := 2235) (by decide +kernel) rfl ?_
  refine z_sld (pc' := 2236) (by decide +kernel) (hs 1 (by decide) (by decide)) rfl ?_
  refine z_callV (pc' := 2239) (idx := 320) (mj := m_X12_proofAt) (av := [iv (zScr G ((p : Int) + 1).toNat)]) (n := 1) (ci := 12) (b := 300) (d' := 12) (by decide +kernel) rfl k_X12_proofAt l_RL_320 rfl (by decide) (am_le rfl) rfl (am_le rfl) hB.1.o.1 hB.1.o.2 rfl (ZM.mono d0 fun r V hv => ?_)
  obtain ⟨⟨v, rfl, ev⟩, ht, hM, vV⟩ := hv
  obtain ⟨N, eL, eD⟩ := H.nx hn hI fr ok hM vV
  change ZP G 1500 m_law 2239 [some (.ref 1000060), some (.ref 0), some (.ref 300), some (.ref 320), some (.ref 321), some (iv (p : Int)), some (iv (o.1 : Int)), l7, l8] [iv v] V _
  refine z_istore (pc' := 2241) (j := 7) (ls' := [some (.ref 1000060), some (.ref 0), some (.ref 300), some (.ref 320), some (.ref 321), some (iv (p : Int)), some (iv (o.1 : Int)), some (iv v), l8]) (by decide +kernel) (by decide) rfl rfl ?_
  refine z_aload_n (pc' := 2242) (j := 2) (by decide +kernel) rfl rfl ?_
  obtain ⟨B2, hB2⟩ := hM
  refine z_callV (pc' := 2245) (idx := 190) (mj := m_X12_thrown) (av := []) (n := 0) (ci := 12) (b := 300) (d' := 0) (by decide +kernel) rfl k_X12_thrown l_RL_190 rfl (by decide) (am_le rfl) rfl (am_le rfl) hB2.1.o.1 hB2.1.o.2 rfl (zKf (s_thrown hB2.1) ?_)
  rw [ht]
  change ZP G 1500 m_law 2245 [some (.ref 1000060), some (.ref 0), some (.ref 300), some (.ref 320), some (.ref 321), some (iv (p : Int)), some (iv (o.1 : Int)), some (iv v), l8] [iv (o.1 : Int)] V _
  refine z_iload (pc' := 2247) (j := 6) (by decide +kernel) rfl rfl ?_
  refine z_same (pc' := 2250) (tgt := 2252) (off := 5) (by decide +kernel) (by decide) rfl ?_
  refine z_iload (pc' := 2254) (j := 6) (by decide +kernel) rfl rfl ?_
  refine z_if_ne (pc' := 2257) (tgt := 2269) (off := 15) (by decide +kernel) (by decide) rfl ⟨by omega, by omega⟩ ?_
  by_cases c0 : (o.1 : Int) = 0
  case neg =>
    rw [if_neg c0]
    refine z_goto (tgt := 3364) (off := 1095) (by decide +kernel) (by decide) ?_
    exact k _ _ _ _ _ N
  rw [if_pos c0]
  have c1 : o.1 = 0 := by omega
  obtain rfl := ev c1
  refine z_aload_n (pc' := 2258) (j := 3) (by decide +kernel) rfl rfl ?_
  refine z_iconst (pc' := 2259) (n := 0) (by decide +kernel) rfl ?_
  refine z_laload (pc' := 2260) (by decide +kernel) N.oL ⟨by decide, by decide, by decide⟩ rfl ?_
  rw [show zL V 320 ((0 : Int)).toNat = rI o.2.1 from (congrFun eL 0).trans (hP c1)]
  refine z_iload (pc' := 2262) (j := 7) (by decide +kernel) rfl rfl ?_
  refine z_i2lr (pc' := 2263) (by decide +kernel) rfl ?_
  refine z_lsame (pc' := 2264) (by decide +kernel) rfl ?_
  refine z_if_eq (pc' := 2267) (tgt := 2269) (off := 5) (by decide +kernel) (by decide) rfl (by decide) ?_
  rw [if_pos rfl]
  refine z_goto (tgt := 3364) (off := 1095) (by decide +kernel) (by decide) ?_
  exact k _ _ _ _ _ N
theorem lc_isProved {G : Gx} {Q : Rv → Zm → Prop} {Z : Zm} {σ : St} {n p : Nat} {l6 l7 l8 : Option Value} (H : lwI n Z σ) (hn : n < 512) (hs : lwK G p) (k : lwN G p n Q) : ZP G 1500 m_law 2272 [some (.ref 1000060), some (.ref 0), some (.ref 300), some (.ref 320), some (.ref 321), some (iv (p : Int)), l6, l7, l8] [] Z Q := by
  obtain ⟨o, eo⟩ : ∃ o, o = o_isProved σ := ⟨_, rfl⟩
  have ok : okS o.2.2 := by rw [eo]; exact k_isProved  H.ok
  have w0 := w_L_isProved (G := G) (h := H.ic) (ho := H.ok) (hz := H.hz hn) (hou := H.oL) 
  have bd := bd_isProved (σ := σ)
  rw [← eo] at w0 bd
  refine z_aload_n (pc' := 2273) (j := 1) (by decide +kernel) rfl rfl ?_
  refine z_aload_n (pc' := 2274) (j := 3) (by decide +kernel) rfl rfl ?_
  refine z_callSH (pc' := 2277) (idx := 321) (mj := m_L_isProved) (av := [.ref 0, .ref 320]) (n := 2) (d' := 30) (by decide +kernel) rfl k_L_isProved (amM6 156 rfl (by decide +kernel)) rfl (by decide) (am_le rfl) rfl (am_le rfl) rfl (ZM.mono w0 fun r W hw => ?_)
  obtain ⟨rfl, hI, fr, hP⟩ := hw
  change ZP G 1500 m_law 2277 [some (.ref 1000060), some (.ref 0), some (.ref 300), some (.ref 320), some (.ref 321), some (iv (p : Int)), l6, l7, l8] [iv (o.1 : Int)] W _
  refine z_istore (pc' := 2279) (j := 6) (ls' := [some (.ref 1000060), some (.ref 0), some (.ref 300), some (.ref 320), some (.ref 321), some (iv (p : Int)), some (iv (o.1 : Int)), l7, l8]) (by decide +kernel) (by decide) rfl rfl ?_
  obtain ⟨B, hB⟩ := H.im1 fr
  have hw2 := H.hw hn fr
  have d0 := d_isProved (G := G) (h := hB) (ho := H.ok) (hz := hw2) 
  rw [← eo] at d0
  refine z_aload_n (pc' := 2280) (j := 2) (by decide +kernel) rfl rfl ?_
  refine z_callV (pc' := 2283) (idx := 323) (mj := m_X12_isProved) (av := []) (n := 0) (ci := 12) (b := 300) (d' := 12) (by decide +kernel) rfl k_X12_isProved l_RL_323 rfl (by decide) (am_le rfl) rfl (am_le rfl) hB.1.o.1 hB.1.o.2 rfl (ZM.mono d0 fun r V hv => ?_)
  obtain ⟨⟨v, rfl, ev⟩, ht, hM, vV⟩ := hv
  obtain ⟨N, eL, eD⟩ := H.nx hn hI fr ok hM vV
  change ZP G 1500 m_law 2283 [some (.ref 1000060), some (.ref 0), some (.ref 300), some (.ref 320), some (.ref 321), some (iv (p : Int)), some (iv (o.1 : Int)), l7, l8] [iv v] V _
  refine z_istore (pc' := 2285) (j := 7) (ls' := [some (.ref 1000060), some (.ref 0), some (.ref 300), some (.ref 320), some (.ref 321), some (iv (p : Int)), some (iv (o.1 : Int)), some (iv v), l8]) (by decide +kernel) (by decide) rfl rfl ?_
  refine z_aload_n (pc' := 2286) (j := 2) (by decide +kernel) rfl rfl ?_
  obtain ⟨B2, hB2⟩ := hM
  refine z_callV (pc' := 2289) (idx := 190) (mj := m_X12_thrown) (av := []) (n := 0) (ci := 12) (b := 300) (d' := 0) (by decide +kernel) rfl k_X12_thrown l_RL_190 rfl (by decide) (am_le rfl) rfl (am_le rfl) hB2.1.o.1 hB2.1.o.2 rfl (zKf (s_thrown hB2.1) ?_)
  rw [ht]
  change ZP G 1500 m_law 2289 [some (.ref 1000060), some (.ref 0), some (.ref 300), some (.ref 320), some (.ref 321), some (iv (p : Int)), some (iv (o.1 : Int)), some (iv v), l8] [iv (o.1 : Int)] V _
  refine z_iload (pc' := 2291) (j := 6) (by decide +kernel) rfl rfl ?_
  refine z_same (pc' := 2294) (tgt := 2296) (off := 5) (by decide +kernel) (by decide) rfl ?_
  refine z_iload (pc' := 2298) (j := 6) (by decide +kernel) rfl rfl ?_
  refine z_if_ne (pc' := 2301) (tgt := 2320) (off := 22) (by decide +kernel) (by decide) rfl ⟨by omega, by omega⟩ ?_
  by_cases c0 : (o.1 : Int) = 0
  case neg =>
    rw [if_neg c0]
    refine z_goto (tgt := 3364) (off := 1044) (by decide +kernel) (by decide) ?_
    exact k _ _ _ _ _ N
  rw [if_pos c0]
  have c1 : o.1 = 0 := by omega
  obtain rfl := ev c1
  refine z_aload_n (pc' := 2302) (j := 3) (by decide +kernel) rfl rfl ?_
  refine z_iconst (pc' := 2303) (n := 0) (by decide +kernel) rfl ?_
  refine z_laload (pc' := 2304) (by decide +kernel) N.oL ⟨by decide, by decide, by decide⟩ rfl ?_
  by_cases cz : rI o.2.1 = 0
  · rw [show zL V 320 ((0 : Int)).toNat = 0 from (congrFun eL 0).trans ((hP c1).trans (if_pos cz))]
    refine z_iload (pc' := 2306) (j := 7) (by decide +kernel) rfl rfl ?_
    refine z_zr (pc' := 2309) (tgt := 2313) (off := 7) (by decide +kernel) (by decide) rfl ?_
    rw [if_pos cz]
    refine z_lconst (pc' := 2314) (n := 0) (v := 0) (by decide +kernel) rfl rfl ?_
    refine z_lsame (pc' := 2315) (by decide +kernel) rfl ?_
    refine z_if_eq (pc' := 2318) (tgt := 2320) (off := 5) (by decide +kernel) (by decide) rfl (by decide) ?_
    rw [if_pos rfl]
    refine z_goto (tgt := 3364) (off := 1044) (by decide +kernel) (by decide) ?_
    exact k _ _ _ _ _ N
  · rw [show zL V 320 ((0 : Int)).toNat = 1 from (congrFun eL 0).trans ((hP c1).trans (if_neg cz))]
    refine z_iload (pc' := 2306) (j := 7) (by decide +kernel) rfl rfl ?_
    refine z_zr (pc' := 2309) (tgt := 2313) (off := 7) (by decide +kernel) (by decide) rfl ?_
    rw [if_neg cz]
    refine z_lconst (pc' := 2310) (n := 1) (v := 1) (by decide +kernel) rfl rfl ?_
    refine z_goto (tgt := 2314) (off := 4) (by decide +kernel) (by decide) ?_
    refine z_lsame (pc' := 2315) (by decide +kernel) rfl ?_
    refine z_if_eq (pc' := 2318) (tgt := 2320) (off := 5) (by decide +kernel) (by decide) rfl (by decide) ?_
    rw [if_pos rfl]
    refine z_goto (tgt := 3364) (off := 1044) (by decide +kernel) (by decide) ?_
    exact k _ _ _ _ _ N
theorem lc_best {G : Gx} {Q : Rv → Zm → Prop} {Z : Zm} {σ : St} {n p : Nat} {l6 l7 l8 : Option Value} (H : lwI n Z σ) (hn : n < 512) (hs : lwK G p) (k : lwN G p n Q) : ZP G 1500 m_law 2323 [some (.ref 1000060), some (.ref 0), some (.ref 300), some (.ref 320), some (.ref 321), some (iv (p : Int)), l6, l7, l8] [] Z Q := by
  obtain ⟨o, eo⟩ : ∃ o, o = o_best σ (zScr G ((p : Int) + 1).toNat) := ⟨_, rfl⟩
  have ok : okS o.2.2 := by rw [eo]; exact k_best (x := (zScr G ((p : Int) + 1).toNat)) H.ok
  have w0 := w_L_best (G := G) (h := H.ic) (ho := H.ok) (hz := H.hz hn) (hou := H.oL) (x := (zScr G ((p : Int) + 1).toNat)) (hx := (zScr_r _ _))
  have bd := bd_best (σ := σ) (x := (zScr G ((p : Int) + 1).toNat))
  rw [← eo] at w0 bd
  refine z_aload_n (pc' := 2324) (j := 1) (by decide +kernel) rfl rfl ?_
  refine z_aload_n (pc' := 2325) (j := 0) (by decide +kernel) rfl rfl ?_
  refine z_iload (pc' := 2327) (j := 5) (by decide +kernel) rfl rfl ?_
  refine z_iconst (pc' := 2328) (n := 1) (by decide +kernel) rfl ?_
  refine z_iadd (pc' := 2329) (by decide +kernel) rfl ?_
  refine z_sld (pc' := 2330) (by decide +kernel) (hs 1 (by decide) (by decide)) rfl ?_
  refine z_aload_n (pc' := 2331) (j := 3) (by decide +kernel) rfl rfl ?_
  refine z_callSH (pc' := 2334) (idx := 324) (mj := m_L_best) (av := [.ref 0, iv (zScr G ((p : Int) + 1).toNat), .ref 320]) (n := 3) (d' := 30) (by decide +kernel) rfl k_L_best (amM6 163 rfl (by decide +kernel)) rfl (by decide) (am_le rfl) rfl (am_le rfl) rfl (ZM.mono w0 fun r W hw => ?_)
  obtain ⟨rfl, hI, fr, hP⟩ := hw
  change ZP G 1500 m_law 2334 [some (.ref 1000060), some (.ref 0), some (.ref 300), some (.ref 320), some (.ref 321), some (iv (p : Int)), l6, l7, l8] [iv (o.1 : Int)] W _
  refine z_istore (pc' := 2336) (j := 6) (ls' := [some (.ref 1000060), some (.ref 0), some (.ref 300), some (.ref 320), some (.ref 321), some (iv (p : Int)), some (iv (o.1 : Int)), l7, l8]) (by decide +kernel) (by decide) rfl rfl ?_
  obtain ⟨B, hB⟩ := H.im1 fr
  have hw2 := H.hw hn fr
  have d0 := d_best (G := G) (x := (zScr G ((p : Int) + 1).toNat)) (h := hB) (ho := H.ok) (hz := hw2) (hx := (zScr_r _ _))
  rw [← eo] at d0
  refine z_aload_n (pc' := 2337) (j := 2) (by decide +kernel) rfl rfl ?_
  refine z_aload_n (pc' := 2338) (j := 0) (by decide +kernel) rfl rfl ?_
  refine z_iload (pc' := 2340) (j := 5) (by decide +kernel) rfl rfl ?_
  refine z_iconst (pc' := 2341) (n := 1) (by decide +kernel) rfl ?_
  refine z_iadd (pc' := 2342) (by decide +kernel) rfl ?_
  refine z_sld (pc' := 2343) (by decide +kernel) (hs 1 (by decide) (by decide)) rfl ?_
  refine z_callV (pc' := 2346) (idx := 326) (mj := m_X12_best) (av := [iv (zScr G ((p : Int) + 1).toNat)]) (n := 1) (ci := 12) (b := 300) (d' := 12) (by decide +kernel) rfl k_X12_best l_RL_326 rfl (by decide) (am_le rfl) rfl (am_le rfl) hB.1.o.1 hB.1.o.2 rfl (ZM.mono d0 fun r V hv => ?_)
  obtain ⟨⟨v, rfl, ev⟩, ht, hM, vV⟩ := hv
  obtain ⟨N, eL, eD⟩ := H.nx hn hI fr ok hM vV
  change ZP G 1500 m_law 2346 [some (.ref 1000060), some (.ref 0), some (.ref 300), some (.ref 320), some (.ref 321), some (iv (p : Int)), some (iv (o.1 : Int)), l7, l8] [iv v] V _
  refine z_istore (pc' := 2348) (j := 7) (ls' := [some (.ref 1000060), some (.ref 0), some (.ref 300), some (.ref 320), some (.ref 321), some (iv (p : Int)), some (iv (o.1 : Int)), some (iv v), l8]) (by decide +kernel) (by decide) rfl rfl ?_
  refine z_aload_n (pc' := 2349) (j := 2) (by decide +kernel) rfl rfl ?_
  obtain ⟨B2, hB2⟩ := hM
  refine z_callV (pc' := 2352) (idx := 190) (mj := m_X12_thrown) (av := []) (n := 0) (ci := 12) (b := 300) (d' := 0) (by decide +kernel) rfl k_X12_thrown l_RL_190 rfl (by decide) (am_le rfl) rfl (am_le rfl) hB2.1.o.1 hB2.1.o.2 rfl (zKf (s_thrown hB2.1) ?_)
  rw [ht]
  change ZP G 1500 m_law 2352 [some (.ref 1000060), some (.ref 0), some (.ref 300), some (.ref 320), some (.ref 321), some (iv (p : Int)), some (iv (o.1 : Int)), some (iv v), l8] [iv (o.1 : Int)] V _
  refine z_iload (pc' := 2354) (j := 6) (by decide +kernel) rfl rfl ?_
  refine z_same (pc' := 2357) (tgt := 2359) (off := 5) (by decide +kernel) (by decide) rfl ?_
  refine z_iload (pc' := 2361) (j := 6) (by decide +kernel) rfl rfl ?_
  refine z_if_ne (pc' := 2364) (tgt := 2376) (off := 15) (by decide +kernel) (by decide) rfl ⟨by omega, by omega⟩ ?_
  by_cases c0 : (o.1 : Int) = 0
  case neg =>
    rw [if_neg c0]
    refine z_goto (tgt := 3364) (off := 988) (by decide +kernel) (by decide) ?_
    exact k _ _ _ _ _ N
  rw [if_pos c0]
  have c1 : o.1 = 0 := by omega
  obtain rfl := ev c1
  refine z_aload_n (pc' := 2365) (j := 3) (by decide +kernel) rfl rfl ?_
  refine z_iconst (pc' := 2366) (n := 0) (by decide +kernel) rfl ?_
  refine z_laload (pc' := 2367) (by decide +kernel) N.oL ⟨by decide, by decide, by decide⟩ rfl ?_
  rw [show zL V 320 ((0 : Int)).toNat = rI o.2.1 from (congrFun eL 0).trans (hP c1)]
  refine z_iload (pc' := 2369) (j := 7) (by decide +kernel) rfl rfl ?_
  refine z_i2lr (pc' := 2370) (by decide +kernel) rfl ?_
  refine z_lsame (pc' := 2371) (by decide +kernel) rfl ?_
  refine z_if_eq (pc' := 2374) (tgt := 2376) (off := 5) (by decide +kernel) (by decide) rfl (by decide) ?_
  rw [if_pos rfl]
  refine z_goto (tgt := 3364) (off := 988) (by decide +kernel) (by decide) ?_
  exact k _ _ _ _ _ N
theorem lc_bestByLists {G : Gx} {Q : Rv → Zm → Prop} {Z : Zm} {σ : St} {n p : Nat} {l6 l7 l8 : Option Value} (H : lwI n Z σ) (hn : n < 512) (hs : lwK G p) (k : lwN G p n Q) : ZP G 1500 m_law 2379 [some (.ref 1000060), some (.ref 0), some (.ref 300), some (.ref 320), some (.ref 321), some (iv (p : Int)), l6, l7, l8] [] Z Q := by
  obtain ⟨o, eo⟩ : ∃ o, o = o_bestByLists σ (zScr G ((p : Int) + 1).toNat) := ⟨_, rfl⟩
  have ok : okS o.2.2 := by rw [eo]; exact k_bestByLists (x := (zScr G ((p : Int) + 1).toNat)) H.ok
  have w0 := w_L_bestByLists (G := G) (h := H.ic) (ho := H.ok) (hz := H.hz hn) (hou := H.oL) (x := (zScr G ((p : Int) + 1).toNat)) (hx := (zScr_r _ _))
  have bd := bd_bestByLists (σ := σ) (x := (zScr G ((p : Int) + 1).toNat))
  rw [← eo] at w0 bd
  refine z_aload_n (pc' := 2380) (j := 1) (by decide +kernel) rfl rfl ?_
  refine z_aload_n (pc' := 2381) (j := 0) (by decide +kernel) rfl rfl ?_
  refine z_iload (pc' := 2383) (j := 5) (by decide +kernel) rfl rfl ?_
  refine z_iconst (pc' := 2384) (n := 1) (by decide +kernel) rfl ?_
  refine z_iadd (pc' := 2385) (by decide +kernel) rfl ?_
  refine z_sld (pc' := 2386) (by decide +kernel) (hs 1 (by decide) (by decide)) rfl ?_
  refine z_aload_n (pc' := 2387) (j := 3) (by decide +kernel) rfl rfl ?_
  refine z_callSH (pc' := 2390) (idx := 327) (mj := m_L_bestByLists) (av := [.ref 0, iv (zScr G ((p : Int) + 1).toNat), .ref 320]) (n := 3) (d' := 30) (by decide +kernel) rfl k_L_bestByLists (amM6 209 rfl (by decide +kernel)) rfl (by decide) (am_le rfl) rfl (am_le rfl) rfl (ZM.mono w0 fun r W hw => ?_)
  obtain ⟨rfl, hI, fr, hP⟩ := hw
  change ZP G 1500 m_law 2390 [some (.ref 1000060), some (.ref 0), some (.ref 300), some (.ref 320), some (.ref 321), some (iv (p : Int)), l6, l7, l8] [iv (o.1 : Int)] W _
  refine z_istore (pc' := 2392) (j := 6) (ls' := [some (.ref 1000060), some (.ref 0), some (.ref 300), some (.ref 320), some (.ref 321), some (iv (p : Int)), some (iv (o.1 : Int)), l7, l8]) (by decide +kernel) (by decide) rfl rfl ?_
  obtain ⟨B, hB⟩ := H.im1 fr
  have hw2 := H.hw hn fr
  have d0 := d_bestByLists (G := G) (x := (zScr G ((p : Int) + 1).toNat)) (h := hB) (ho := H.ok) (hz := hw2) (hx := (zScr_r _ _))
  rw [← eo] at d0
  refine z_aload_n (pc' := 2393) (j := 2) (by decide +kernel) rfl rfl ?_
  refine z_aload_n (pc' := 2394) (j := 0) (by decide +kernel) rfl rfl ?_
  refine z_iload (pc' := 2396) (j := 5) (by decide +kernel) rfl rfl ?_
  refine z_iconst (pc' := 2397) (n := 1) (by decide +kernel) rfl ?_
  refine z_iadd (pc' := 2398) (by decide +kernel) rfl ?_
  refine z_sld (pc' := 2399) (by decide +kernel) (hs 1 (by decide) (by decide)) rfl ?_
  refine z_callV (pc' := 2402) (idx := 329) (mj := m_X12_bestByLists) (av := [iv (zScr G ((p : Int) + 1).toNat)]) (n := 1) (ci := 12) (b := 300) (d' := 12) (by decide +kernel) rfl k_X12_bestByLists l_RL_329 rfl (by decide) (am_le rfl) rfl (am_le rfl) hB.1.o.1 hB.1.o.2 rfl (ZM.mono d0 fun r V hv => ?_)
  obtain ⟨⟨v, rfl, ev⟩, ht, hM, vV⟩ := hv
  obtain ⟨N, eL, eD⟩ := H.nx hn hI fr ok hM vV
  change ZP G 1500 m_law 2402 [some (.ref 1000060), some (.ref 0), some (.ref 300), some (.ref 320), some (.ref 321), some (iv (p : Int)), some (iv (o.1 : Int)), l7, l8] [iv v] V _
  refine z_istore (pc' := 2404) (j := 7) (ls' := [some (.ref 1000060), some (.ref 0), some (.ref 300), some (.ref 320), some (.ref 321), some (iv (p : Int)), some (iv (o.1 : Int)), some (iv v), l8]) (by decide +kernel) (by decide) rfl rfl ?_
  refine z_aload_n (pc' := 2405) (j := 2) (by decide +kernel) rfl rfl ?_
  obtain ⟨B2, hB2⟩ := hM
  refine z_callV (pc' := 2408) (idx := 190) (mj := m_X12_thrown) (av := []) (n := 0) (ci := 12) (b := 300) (d' := 0) (by decide +kernel) rfl k_X12_thrown l_RL_190 rfl (by decide) (am_le rfl) rfl (am_le rfl) hB2.1.o.1 hB2.1.o.2 rfl (zKf (s_thrown hB2.1) ?_)
  rw [ht]
  change ZP G 1500 m_law 2408 [some (.ref 1000060), some (.ref 0), some (.ref 300), some (.ref 320), some (.ref 321), some (iv (p : Int)), some (iv (o.1 : Int)), some (iv v), l8] [iv (o.1 : Int)] V _
  refine z_iload (pc' := 2410) (j := 6) (by decide +kernel) rfl rfl ?_
  refine z_same (pc' := 2413) (tgt := 2415) (off := 5) (by decide +kernel) (by decide) rfl ?_
  refine z_iload (pc' := 2417) (j := 6) (by decide +kernel) rfl rfl ?_
  refine z_if_ne (pc' := 2420) (tgt := 2432) (off := 15) (by decide +kernel) (by decide) rfl ⟨by omega, by omega⟩ ?_
  by_cases c0 : (o.1 : Int) = 0
  case neg =>
    rw [if_neg c0]
    refine z_goto (tgt := 3364) (off := 932) (by decide +kernel) (by decide) ?_
    exact k _ _ _ _ _ N
  rw [if_pos c0]
  have c1 : o.1 = 0 := by omega
  obtain rfl := ev c1
  refine z_aload_n (pc' := 2421) (j := 3) (by decide +kernel) rfl rfl ?_
  refine z_iconst (pc' := 2422) (n := 0) (by decide +kernel) rfl ?_
  refine z_laload (pc' := 2423) (by decide +kernel) N.oL ⟨by decide, by decide, by decide⟩ rfl ?_
  rw [show zL V 320 ((0 : Int)).toNat = rI o.2.1 from (congrFun eL 0).trans (hP c1)]
  refine z_iload (pc' := 2425) (j := 7) (by decide +kernel) rfl rfl ?_
  refine z_i2lr (pc' := 2426) (by decide +kernel) rfl ?_
  refine z_lsame (pc' := 2427) (by decide +kernel) rfl ?_
  refine z_if_eq (pc' := 2430) (tgt := 2432) (off := 5) (by decide +kernel) (by decide) rfl (by decide) ?_
  rw [if_pos rfl]
  refine z_goto (tgt := 3364) (off := 932) (by decide +kernel) (by decide) ?_
  exact k _ _ _ _ _ N
theorem lc_anomaly {G : Gx} {Q : Rv → Zm → Prop} {Z : Zm} {σ : St} {n p : Nat} {l6 l7 l8 : Option Value} (H : lwI n Z σ) (hn : n < 512) (hs : lwK G p) (k : lwN G p n Q) : ZP G 1500 m_law 2435 [some (.ref 1000060), some (.ref 0), some (.ref 300), some (.ref 320), some (.ref 321), some (iv (p : Int)), l6, l7, l8] [] Z Q := by
  obtain ⟨o, eo⟩ : ∃ o, o = o_anomaly σ (zScr G ((p : Int) + 1).toNat % 65536) (zScr G ((p : Int) + 2).toNat % 65536) := ⟨_, rfl⟩
  have ok : okS o.2.2 := by rw [eo]; exact k_anomaly (c := (zScr G ((p : Int) + 1).toNat % 65536)) (y := (zScr G ((p : Int) + 2).toNat % 65536)) H.ok
  have w0 := w_L_anomaly (G := G) (h := H.ic) (ho := H.ok) (hz := H.hz hn) (hou := H.oL) (c := (zScr G ((p : Int) + 1).toNat % 65536)) (y := (zScr G ((p : Int) + 2).toNat % 65536)) (hc := (by have := Int.emod_nonneg (zScr G ((p : Int) + 1).toNat) (show (65536 : Int) ≠ 0 by decide); have := Int.emod_lt_of_pos (zScr G ((p : Int) + 1).toNat) (show (0 : Int) < 65536 by decide); exact ⟨by omega, by omega⟩)) (hy := (by have := Int.emod_nonneg (zScr G ((p : Int) + 2).toNat) (show (65536 : Int) ≠ 0 by decide); have := Int.emod_lt_of_pos (zScr G ((p : Int) + 2).toNat) (show (0 : Int) < 65536 by decide); exact ⟨by omega, by omega⟩))
  have bd := bd_anomaly (σ := σ) (c := (zScr G ((p : Int) + 1).toNat % 65536)) (y := (zScr G ((p : Int) + 2).toNat % 65536))
  rw [← eo] at w0 bd
  refine z_aload_n (pc' := 2436) (j := 1) (by decide +kernel) rfl rfl ?_
  refine z_aload_n (pc' := 2437) (j := 0) (by decide +kernel) rfl rfl ?_
  refine z_iload (pc' := 2439) (j := 5) (by decide +kernel) rfl rfl ?_
  refine z_iconst (pc' := 2440) (n := 1) (by decide +kernel) rfl ?_
  refine z_iadd (pc' := 2441) (by decide +kernel) rfl ?_
  refine z_sld (pc' := 2442) (by decide +kernel) (hs 1 (by decide) (by decide)) rfl ?_
  refine z_i2c (pc' := 2443) (by decide +kernel) rfl ?_
  refine z_aload_n (pc' := 2444) (j := 0) (by decide +kernel) rfl rfl ?_
  refine z_iload (pc' := 2446) (j := 5) (by decide +kernel) rfl rfl ?_
  refine z_iconst (pc' := 2447) (n := 2) (by decide +kernel) rfl ?_
  refine z_iadd (pc' := 2448) (by decide +kernel) rfl ?_
  refine z_sld (pc' := 2449) (by decide +kernel) (hs 2 (by decide) (by decide)) rfl ?_
  refine z_i2c (pc' := 2450) (by decide +kernel) rfl ?_
  refine z_aload_n (pc' := 2451) (j := 3) (by decide +kernel) rfl rfl ?_
  refine z_callSH (pc' := 2454) (idx := 330) (mj := m_L_anomaly) (av := [.ref 0, iv (zScr G ((p : Int) + 1).toNat % 65536), iv (zScr G ((p : Int) + 2).toNat % 65536), .ref 320]) (n := 4) (d' := 30) (by decide +kernel) rfl k_L_anomaly (amM6 216 rfl (by decide +kernel)) rfl (by decide) (am_le rfl) rfl (am_le rfl) rfl (ZM.mono w0 fun r W hw => ?_)
  obtain ⟨rfl, hI, fr, hP⟩ := hw
  change ZP G 1500 m_law 2454 [some (.ref 1000060), some (.ref 0), some (.ref 300), some (.ref 320), some (.ref 321), some (iv (p : Int)), l6, l7, l8] [iv (o.1 : Int)] W _
  refine z_istore (pc' := 2456) (j := 6) (ls' := [some (.ref 1000060), some (.ref 0), some (.ref 300), some (.ref 320), some (.ref 321), some (iv (p : Int)), some (iv (o.1 : Int)), l7, l8]) (by decide +kernel) (by decide) rfl rfl ?_
  obtain ⟨B, hB⟩ := H.im1 fr
  have hw2 := H.hw hn fr
  have d0 := d_anomaly (G := G) (c := (zScr G ((p : Int) + 1).toNat % 65536)) (y := (zScr G ((p : Int) + 2).toNat % 65536)) (h := hB) (ho := H.ok) (hz := hw2) (hc := (by have := Int.emod_nonneg (zScr G ((p : Int) + 1).toNat) (show (65536 : Int) ≠ 0 by decide); have := Int.emod_lt_of_pos (zScr G ((p : Int) + 1).toNat) (show (0 : Int) < 65536 by decide); exact ⟨by omega, by omega⟩)) (hy := (by have := Int.emod_nonneg (zScr G ((p : Int) + 2).toNat) (show (65536 : Int) ≠ 0 by decide); have := Int.emod_lt_of_pos (zScr G ((p : Int) + 2).toNat) (show (0 : Int) < 65536 by decide); exact ⟨by omega, by omega⟩))
  rw [← eo] at d0
  refine z_aload_n (pc' := 2457) (j := 2) (by decide +kernel) rfl rfl ?_
  refine z_aload_n (pc' := 2458) (j := 0) (by decide +kernel) rfl rfl ?_
  refine z_iload (pc' := 2460) (j := 5) (by decide +kernel) rfl rfl ?_
  refine z_iconst (pc' := 2461) (n := 1) (by decide +kernel) rfl ?_
  refine z_iadd (pc' := 2462) (by decide +kernel) rfl ?_
  refine z_sld (pc' := 2463) (by decide +kernel) (hs 1 (by decide) (by decide)) rfl ?_
  refine z_i2c (pc' := 2464) (by decide +kernel) rfl ?_
  refine z_aload_n (pc' := 2465) (j := 0) (by decide +kernel) rfl rfl ?_
  refine z_iload (pc' := 2467) (j := 5) (by decide +kernel) rfl rfl ?_
  refine z_iconst (pc' := 2468) (n := 2) (by decide +kernel) rfl ?_
  refine z_iadd (pc' := 2469) (by decide +kernel) rfl ?_
  refine z_sld (pc' := 2470) (by decide +kernel) (hs 2 (by decide) (by decide)) rfl ?_
  refine z_i2c (pc' := 2471) (by decide +kernel) rfl ?_
  refine z_callV (pc' := 2474) (idx := 332) (mj := m_X12_anomaly) (av := [iv (zScr G ((p : Int) + 1).toNat % 65536), iv (zScr G ((p : Int) + 2).toNat % 65536)]) (n := 2) (ci := 12) (b := 300) (d' := 12) (by decide +kernel) rfl k_X12_anomaly l_RL_332 rfl (by decide) (am_le rfl) rfl (am_le rfl) hB.1.o.1 hB.1.o.2 rfl (ZM.mono d0 fun r V hv => ?_)
  obtain ⟨⟨v, rfl, ev⟩, ht, hM, vV⟩ := hv
  obtain ⟨N, eL, eD⟩ := H.nx hn hI fr ok hM vV
  change ZP G 1500 m_law 2474 [some (.ref 1000060), some (.ref 0), some (.ref 300), some (.ref 320), some (.ref 321), some (iv (p : Int)), some (iv (o.1 : Int)), l7, l8] [iv v] V _
  refine z_istore (pc' := 2476) (j := 7) (ls' := [some (.ref 1000060), some (.ref 0), some (.ref 300), some (.ref 320), some (.ref 321), some (iv (p : Int)), some (iv (o.1 : Int)), some (iv v), l8]) (by decide +kernel) (by decide) rfl rfl ?_
  refine z_aload_n (pc' := 2477) (j := 2) (by decide +kernel) rfl rfl ?_
  obtain ⟨B2, hB2⟩ := hM
  refine z_callV (pc' := 2480) (idx := 190) (mj := m_X12_thrown) (av := []) (n := 0) (ci := 12) (b := 300) (d' := 0) (by decide +kernel) rfl k_X12_thrown l_RL_190 rfl (by decide) (am_le rfl) rfl (am_le rfl) hB2.1.o.1 hB2.1.o.2 rfl (zKf (s_thrown hB2.1) ?_)
  rw [ht]
  change ZP G 1500 m_law 2480 [some (.ref 1000060), some (.ref 0), some (.ref 300), some (.ref 320), some (.ref 321), some (iv (p : Int)), some (iv (o.1 : Int)), some (iv v), l8] [iv (o.1 : Int)] V _
  refine z_iload (pc' := 2482) (j := 6) (by decide +kernel) rfl rfl ?_
  refine z_same (pc' := 2485) (tgt := 2487) (off := 5) (by decide +kernel) (by decide) rfl ?_
  refine z_iload (pc' := 2489) (j := 6) (by decide +kernel) rfl rfl ?_
  refine z_if_ne (pc' := 2492) (tgt := 2504) (off := 15) (by decide +kernel) (by decide) rfl ⟨by omega, by omega⟩ ?_
  by_cases c0 : (o.1 : Int) = 0
  case neg =>
    rw [if_neg c0]
    refine z_goto (tgt := 3364) (off := 860) (by decide +kernel) (by decide) ?_
    exact k _ _ _ _ _ N
  rw [if_pos c0]
  have c1 : o.1 = 0 := by omega
  obtain rfl := ev c1
  refine z_aload_n (pc' := 2493) (j := 3) (by decide +kernel) rfl rfl ?_
  refine z_iconst (pc' := 2494) (n := 0) (by decide +kernel) rfl ?_
  refine z_laload (pc' := 2495) (by decide +kernel) N.oL ⟨by decide, by decide, by decide⟩ rfl ?_
  rw [show zL V 320 ((0 : Int)).toNat = rI o.2.1 from (congrFun eL 0).trans (hP c1)]
  refine z_iload (pc' := 2497) (j := 7) (by decide +kernel) rfl rfl ?_
  refine z_i2lr (pc' := 2498) (by decide +kernel) rfl ?_
  refine z_lsame (pc' := 2499) (by decide +kernel) rfl ?_
  refine z_if_eq (pc' := 2502) (tgt := 2504) (off := 5) (by decide +kernel) (by decide) rfl (by decide) ?_
  rw [if_pos rfl]
  refine z_goto (tgt := 3364) (off := 860) (by decide +kernel) (by decide) ?_
  exact k _ _ _ _ _ N
