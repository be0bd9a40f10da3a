/-! ===== the switch ===== -/
theorem lwI.up {n : Nat} {Z : Zm} {σ : St} (H : lwI n Z σ) : lwI (n + 1) Z σ := ⟨H.1, H.2.1, H.2.2.1, by have := H.2.2.2.1; omega, by have := H.2.2.2.2; omega⟩
def lwT (j : Nat) : Nat := ([304, 360, 442, 512, 525, 605, 661, 674, 744, 812, 856, 914, 927, 983, 996, 1052, 1108, 1121, 1191, 1247, 1261, 1274, 1330, 1438, 1513, 1569, 1625, 1669, 1737, 1793, 1806, 1876, 1948, 2004, 2060, 2104, 2172, 2216, 2272, 2323, 2379, 2435, 2507, 2551, 2631, 2644, 2700, 2780, 2823, 2878, 2933, 2989, 3002, 3080, 3093, 3106, 3162, 3206, 3272, 3337, 3351] : List Nat).getD j 3364
def lwO : Array Int := #[260, 316, 398, 468, 481, 561, 617, 630, 700, 768, 812, 870, 883, 939, 952, 1008, 1064, 1077, 1147, 1203, 1217, 1230, 1286, 1394, 1469, 1525, 1581, 1625, 1693, 1749, 1762, 1832, 1904, 1960, 2016, 2060, 2128, 2172, 2228, 2279, 2335, 2391, 2463, 2507, 2587, 2600, 2656, 2736, 2779, 2834, 2889, 2945, 2958, 3036, 3049, 3062, 3118, 3162, 3228, 3293, 3307]
theorem lwO_T : ∀ j : Fin 61, lwO[j.val]? = some ((lwT j.val : Int) - 44) := by decide +kernel
theorem lwT_e {j : Nat} (h : 61 ≤ j) (g : j < 64) : lwT j = 3364 := by
  rcases (by omega : j = 61 ∨ j = 62 ∨ j = 63) with rfl | rfl | rfl <;> rfl
theorem lw_sw : decode m_law.2.1 44 = .ok (.tableswitch 3320 0 60 lwO, 260) := by decide +kernel
theorem lw_disp {G : Gx} {Q : Rv → Zm → Prop} {Z : Zm} {ls : LsT} {st : List Value} {x : Int} (h0 : 0 ≤ x) (h1 : x < 64) (k : ZP G 1500 m_law (lwT x.toNat) ls st Z Q) : ZP G 1500 m_law 44 ls (iv x :: st) Z Q := by
  by_cases c : x < 61
  · refine z_tabIn (tgt := lwT x.toNat) lw_sw ⟨by omega, by omega⟩ (by omega) (by omega) (off := (lwT x.toNat : Int) - 44) ?_ (by omega) k
    rw [Int.sub_zero]
    exact lwO_T ⟨x.toNat, by omega⟩
  · rw [lwT_e (by omega) (by omega)] at k
    exact z_tabOut (tgt := 3364) lw_sw ⟨by omega, by omega⟩ (Or.inr (by omega)) (by decide) k
theorem zand63 (x : Int) : 0 ≤ zand x 63 ∧ zand x 63 < 64 := by
  have e : (iN x &&& iN 63).toBitVec.toNat = (iN x).toBitVec.toNat % 64 := by
    rw [Int32.toBitVec_and, BitVec.toNat_and]
    exact Nat.and_two_pow_sub_one_eq_mod _ 6
  have g : (iN x &&& iN 63).toInt = ((iN x &&& iN 63).toBitVec.toNat : Int) := BitVec.toInt_eq_toNat_of_lt (by rw [e]; omega)
  show 0 ≤ (iN x &&& iN 63).toInt ∧ (iN x &&& iN 63).toInt < 64
  rw [g, e]
  omega
theorem lw_all {G : Gx} {Q : Rv → Zm → Prop} {Z : Zm} {σ : St} {n p j : Nat} {l6 l7 l8 : Option Value} (H : lwI n Z σ) (hn : n < 512) (hs : lwK G p) (k : lwN G p n Q) (hj : j < 64) : ZP G 1500 m_law (lwT j) [some (.ref 1000060), some (.ref 0), some (.ref 300), some (.ref 320), some (.ref 321), some (iv (p : Int)), l6, l7, l8] [] Z Q := by
  by_cases e0 : j = 0
  · subst e0
    exact lc_task H hn hs k
  by_cases e1 : j = 1
  · subst e1
    exact lc_set H hn hs k
  by_cases e2 : j = 2
  · subst e2
    exact lc_of H hn hs k
  by_cases e3 : j = 3
  · subst e3
    exact lc_tasks H hn hs k
  by_cases e4 : j = 4
  · subst e4
    exact lc_need H hn hs k
  by_cases e5 : j = 5
  · subst e5
    exact lc_dropNeed H hn hs k
  by_cases e6 : j = 6
  · subst e6
    exact lc_needs H hn hs k
  by_cases e7 : j = 7
  · subst e7
    exact lc_needAt H hn hs k
  by_cases e8 : j = 8
  · subst e8
    exact lc_ring H hn hs k
  by_cases e9 : j = 9
  · subst e9
    exact lc_undo H hn hs k
  by_cases e10 : j = 10
  · subst e10
    exact lc_type H hn hs k
  by_cases e11 : j = 11
  · subst e11
    exact lc_erase H hn hs k
  by_cases e12 : j = 12
  · subst e12
    exact lc_signAt H hn hs k
  by_cases e13 : j = 13
  · subst e13
    exact lc_read H hn hs k
  by_cases e14 : j = 14
  · subst e14
    exact lc_earliest H hn hs k
  by_cases e15 : j = 15
  · subst e15
    exact lc_latest H hn hs k
  by_cases e16 : j = 16
  · subst e16
    exact lc_end H hn hs k
  by_cases e17 : j = 17
  · subst e17
    exact lc_slack H hn hs k
  by_cases e18 : j = 18
  · subst e18
    exact lc_rest H hn hs k
  by_cases e19 : j = 19
  · subst e19
    exact lc_chains H hn hs k
  by_cases e20 : j = 20
  · subst e20
    exact lc_chainLength H hn hs k
  by_cases e21 : j = 21
  · subst e21
    exact lc_chainAt H hn hs k
  by_cases e22 : j = 22
  · subst e22
    exact lc_hours H hn hs k
  by_cases e23 : j = 23
  · subst e23
    exact lc_isWork H hn hs k
  by_cases e24 : j = 24
  · subst e24
    exact lc_clockBegin H hn hs k
  by_cases e25 : j = 25
  · subst e25
    exact lc_clockEnd H hn hs k
  by_cases e26 : j = 26
  · subst e26
    exact lc_clockAll H hn hs k
  by_cases e27 : j = 27
  · subst e27
    exact lc_hands H hn hs k
  by_cases e28 : j = 28
  · subst e28
    exact lc_list H hn hs k
  by_cases e29 : j = 29
  · subst e29
    exact lc_wipe H hn hs k
  by_cases e30 : j = 30
  · subst e30
    exact lc_listed H hn hs k
  by_cases e31 : j = 31
  · subst e31
    exact lc_plan H hn hs k
  by_cases e32 : j = 32
  · subst e32
    exact lc_planBegin H hn hs k
  by_cases e33 : j = 33
  · subst e33
    exact lc_planHand H hn hs k
  by_cases e34 : j = 34
  · subst e34
    exact lc_planEnd H hn hs k
  by_cases e35 : j = 35
  · subst e35
    exact lc_busy H hn hs k
  by_cases e36 : j = 36
  · subst e36
    exact lc_proofLength H hn hs k
  by_cases e37 : j = 37
  · subst e37
    exact lc_proofAt H hn hs k
  by_cases e38 : j = 38
  · subst e38
    exact lc_isProved H hn hs k
  by_cases e39 : j = 39
  · subst e39
    exact lc_best H hn hs k
  by_cases e40 : j = 40
  · subst e40
    exact lc_bestByLists H hn hs k
  by_cases e41 : j = 41
  · subst e41
    exact lc_anomaly H hn hs k
  by_cases e42 : j = 42
  · subst e42
    exact lc_leastPeak H hn hs k
  by_cases e43 : j = 43
  · subst e43
    exact lc_shorten H hn hs k
  by_cases e44 : j = 44
  · subst e44
    exact lc_leastEnd H hn hs k
  by_cases e45 : j = 45
  · subst e45
    exact lc_leastCost H hn hs k
  by_cases e46 : j = 46
  · subst e46
    exact lc_guess H hn hs k
  by_cases e47 : j = 47
  · subst e47
    exact lc_allOdds H hn hs k
  by_cases e48 : j = 48
  · subst e48
    exact lc_oddsBy H hn hs k
  by_cases e49 : j = 49
  · subst e49
    exact lc_oddsCritical H hn hs k
  by_cases e50 : j = 50
  · subst e50
    exact lc_planned H hn hs k
  by_cases e51 : j = 51
  · subst e51
    exact lc_earned H hn hs k
  by_cases e52 : j = 52
  · subst e52
    exact lc_index H hn hs k
  by_cases e53 : j = 53
  · subst e53
    exact lc_keep H hn hs k
  by_cases e54 : j = 54
  · subst e54
    exact lc_moved H hn hs k
  by_cases e55 : j = 55
  · subst e55
    exact lc_movedBy H hn hs k
  by_cases e56 : j = 56
  · subst e56
    exact lc_crane H hn hs k
  by_cases e57 : j = 57
  · subst e57
    exact lc_criticalShare H hn hs k
  by_cases e58 : j = 58
  · subst e58
    exact lc_meanLength H hn hs k
  by_cases e59 : j = 59
  · subst e59
    exact lc_checksum H hn hs k
  by_cases e60 : j = 60
  · subst e60
    exact lc_isTrue H hn hs k
  rw [lwT_e (by omega) hj]
  exact k _ _ _ _ _ H.up

/-! ===== the loop ===== -/
def lwE : Rv → Zm → Prop := fun r W => r = .inl (some (iv 1)) ∧ zSz W ≤ 603072 ∧ zSl W ≤ 7170154
theorem lw_loop {G : Gx} (hL : G.2.2.2.2.2.1 ≤ 2560) {Z : Zm} {σ : St} {l6 l7 l8 : Option Value} (H : lwI 0 Z σ) : ZP G 1500 m_law 28 [some (.ref 1000060), some (.ref 0), some (.ref 300), some (.ref 320), some (.ref 321), some (iv ((0 : Nat) : Int)), l6, l7, l8] [] Z lwE := by
  have L : ∀ n, n ≤ 512 → ∀ (Y : Zm) (τ : St) (l6 l7 l8 : Option Value), lwI n Y τ → ZP G 1500 m_law 28 [some (.ref 1000060), some (.ref 0), some (.ref 300), some (.ref 320), some (.ref 321), some (iv ((5 * n : Nat) : Int)), l6, l7, l8] [] Y lwE := by
    refine am_up fun n hn ih Y τ l6 l7 l8 h => ?_
    generalize hp : 5 * n = p
    generalize hl : G.2.2.2.2.2.1 = len at hL
    refine z_iload (pc' := 30) (j := 5) (by decide +kernel) rfl rfl ?_
    refine z_aload_n (pc' := 31) (j := 0) (by decide +kernel) rfl rfl ?_
    refine z_slen (pc' := 32) (by decide +kernel) rfl ?_
    rw [hl]
    refine z_iconst (pc' := 33) (n := 5) (by decide +kernel) rfl ?_
    refine z_isub (pc' := 34) (by decide +kernel) rfl ?_
    refine z_icmp_gt (pc' := 37) (tgt := 3370) (off := 3336) (by decide +kernel) (by decide) rfl ⟨by omega, by omega⟩ ⟨by omega, by omega⟩ ?_
    by_cases g : (len : Int) - 5 < (p : Int)
    · rw [if_pos g]
      refine z_iconst (pc' := 3371) (n := 1) (by decide +kernel) rfl ?_
      have h1 := h.2.2.2.1
      have h2 := h.2.2.2.2
      exact z_ireturn (by decide +kernel) ⟨_, rfl, rfl⟩ ⟨rfl, by omega, by omega⟩
    · rw [if_neg g]
      have hn2 : n < 512 := by omega
      have hs : lwK G p := fun k k0 k5 => by
        rw [hl]
        exact ⟨by omega, by omega, by omega⟩
      refine z_aload_n (pc' := 38) (j := 0) (by decide +kernel) rfl rfl ?_
      refine z_iload (pc' := 40) (j := 5) (by decide +kernel) rfl rfl ?_
      refine z_sld (pc' := 41) (by decide +kernel) (by have := hs 0 (by decide) (by decide); rw [Int.add_zero] at this; exact this) rfl ?_
      refine z_bipush (pc' := 43) (n := 63) (by decide +kernel) (by decide) rfl ?_
      refine z_iand (pc' := 44) (by decide +kernel) rfl ?_
      have z := zand63 (zScr G ((p : Int)).toNat)
      refine lw_disp z.1 z.2 ?_
      refine lw_all h hn2 hs (fun V υ m6 m7 m8 h2 => ?_) (by omega)
      subst hp
      refine z_iinc (pc' := 3367) (j := 5) (n := 5) (ls' := [some (.ref 1000060), some (.ref 0), some (.ref 300), some (.ref 320), some (.ref 321), some (iv ((5 * (n + 1) : Nat) : Int)), m6, m7, m8]) (by decide +kernel) rfl (by decide) rfl rfl ?_
      refine z_goto (tgt := 28) (off := -3339) (by decide +kernel) (by decide) ?_
      exact ih hn2 V υ m6 m7 m8 h2
  exact L 0 (Nat.zero_le _) Z σ l6 l7 l8 H
/-! ===== the law's start ===== -/
theorem ok_st0 : okS st0 := ⟨⟨⟨by decide, by decide⟩, fun t ht => absurd ht (Nat.not_lt_zero _), fun j hj => absurd hj (Nat.not_lt_zero _), fun i j hi => absurd hi (Nat.not_lt_zero _), fun _ => 0, fun j hj => absurd hj (Nat.not_lt_zero _)⟩, ⟨by decide, fun i hi => absurd hi (Nat.not_lt_zero _)⟩, ⟨by decide, fun i hi => absurd hi (Nat.not_lt_zero _)⟩, fun c hc => ⟨fun h hh => Or.inr rfl, 0, by decide, rfl⟩, fun s hs => ⟨Int.le_refl 1, (by decide : (1 : Int) ≤ 5)⟩, ⟨by decide, fun i hi => absurd hi (Nat.not_lt_zero _), fun i j hi => absurd hi (Nat.not_lt_zero _)⟩, (fun p hp => nomatch hp), by decide, fun i hi => absurd hi (Nat.not_lt_zero _)⟩
def zst : Zm := (0, 0, fun _ => 0, fun _ => 0, fun _ _ => 0, fun _ _ => 0, fun _ _ => 0, fun _ _ => none)
theorem zst_m : enc zst = m0 := rfl
theorem zst_0 : mnS 0 11 1 20 [] (zC zst 11 0 20) := ⟨⟨⟨rfl, Nat.le_refl _⟩, rfl, by decide⟩, fun i => rfl, fun a ha i => by
  show zu (zI zst) 0 (fun _ => 0) a i = 0
  rw [zu_other (by omega)]
  rfl, fun q hq => absurd hq List.not_mem_nil⟩
theorem zst_1 {W : Zm} {w : Nat} (h : zSz W = 300 ∧ zSl W ≤ w) (hz : zz0 300 W) : mnS 300 12 301 (zSl (zC W 12 0 26)) [] (zC W 12 0 26) := by
  have g := zA_C W 12 0 26
  rw [h.1] at g
  exact ⟨⟨⟨by show zSz W + 1 = 301; rw [h.1], Nat.le_refl _⟩, g.2.1, by decide⟩, fun i => by
    show zu (zI W) (zSz W) (fun _ => 0) 300 i = 0
    rw [h.1, zu_same], fun a ha i => by
    show zu (zI W) (zSz W) (fun _ => 0) a i = 0
    rw [h.1, zu_other (by omega)]
    exact hz a (by omega) i, fun q hq => absurd hq List.not_mem_nil⟩
theorem st0_on {W Y : Zm} {w : Nat} (h : zSz W = 300 ∧ zSl W ≤ w) (hI : IC W st0) (h0 : zI W 233 0 = 0) (m : mlS (zC W 12 0 26) Y 4 0) : IC Y st0 ∧ IMb Y 301 st0 ∧ zSz Y = 320 ∧ zSl Y ≤ w + 3000 := by
  have s1 : zSz (zC W 12 0 26) = 301 := by show zSz W + 1 = 301; rw [h.1]
  have x := m.1.2.2
  have i1 : IC (zC W 12 0 26) st0 := hI.cC _ _ _
  have e0 : zI (zC W 12 0 26) 233 = zI W 233 := (zC_old W 12 0 26 (by rw [h.1]; decide)).2.2.2
  have e1 : ∀ a, a < 300 → zI Y a = zI (zC W 12 0 26) a := fun a ha => x.i (by omega) (by rw [s1]; omega)
  have q := m.1.2.1.1
  have q2 : zSl Y ≤ zSl W + 26 + 1364 := q.2
  have q3 := h.2
  exact ⟨i1.eqs (i1.1.loc (x.lo (Or.inr (Nat.le_refl _)) (by rw [s1]; decide))) (fun a ha _ => e1 a ha) (Or.inl (by rw [e1 233 (by decide), e0]; exact h0)), st0_IM m, q.1, by omega⟩
theorem lw_first {Y : Zm} {w : Nat} (h1 : IC Y st0) (h2 : IMb Y 301 st0) (h3 : zSz Y = 320) (h4 : zSl Y ≤ w) (hw : w + 2 ≤ 20000) : lwI 0 (zC (zC Y 110 1 1) 111 1 1) st0 := by
  have a1 := zA_C Y 110 1 1
  rw [h3] at a1
  have s1 : zSz (zC Y 110 1 1) = 321 := by show zSz Y + 1 = 321; rw [h3]
  have a2 := zA_C (zC Y 110 1 1) 111 1 1
  rw [s1] at a2
  have s2 : zSz (zC (zC Y 110 1 1) 111 1 1) = 322 := by show zSz (zC Y 110 1 1) + 1 = 322; rw [s1]
  have m1 : IMb (zC Y 110 1 1) 301 st0 := h2.fr (S := zNo) (zF_C (k := 110) (n := 1) (w := 1)) (fun a g => g.elim) fun i _ => congrFun (zC_old Y 110 1 1 (by rw [h3]; decide)).2.2.2 i
  have m2 : IMb (zC (zC Y 110 1 1) 111 1 1) 301 st0 := m1.fr (S := zNo) (zF_C (k := 111) (n := 1) (w := 1)) (fun a g => g.elim) fun i _ => congrFun (zC_old (zC Y 110 1 1) 111 1 1 (by rw [s1]; decide)).2.2.2 i
  have w2 : zSl (zC (zC Y 110 1 1) 111 1 1) = zSl Y + 1 + 1 := rfl
  exact ⟨⟨(h1.cC _ _ _).cC _ _ _, ⟨301, m2⟩, ok_st0⟩, ⟨a1.ext (zX_C _ _ _ _), a2⟩, by omega, by omega, by omega⟩
theorem am_law {G : Gx} {L : Nat} {xs : Nat → Int32} (hL : L ≤ 2560) (hG : G.2.2.2.2.2 = (L, xs)) : WM G 1500 m_law [.ref 1000060] m0 lawQ := by
  have hLL : G.2.2.2.2.2.1 ≤ 2560 := by rw [hG]; exact hL
  have key : ZM G 1500 m_law [.ref 1000060] zst lwE := by
    refine ZM.of [some (.ref 1000060), none, none, none, none, none, none, none, none] rfl ?_
    refine z_new (pc' := 3) (idx := 8) (ci := 11) (N := 20) (by decide +kernel) rfl (by decide) (amM1 33 rfl (by decide +kernel)) (amM1 34 rfl (by decide +kernel)) (amM1 1 rfl (by decide +kernel)) (by decide) (by decide) rfl ?_
    change ZP G 1500 m_law 3 [some (.ref 1000060), none, none, none, none, none, none, none, none] [.ref 0] (zC zst 11 0 20) _
    refine z_dup (pc' := 4) (by decide +kernel) rfl rfl ?_
    refine z_callI (pc' := 7) (idx := 180) (mj := m_X11_init) (av := []) (b := 0) (n := 0) (d' := 1499) (by decide +kernel) rfl k_X11_init l_RL_180 rfl (by decide) (am_le rfl) rfl (am_le rfl) (by decide) rfl (ZM.mono (s_ctMain (d := 1499) zst_0 (by decide)) fun r W hw => ?_)
    obtain ⟨rfl, hI, hz, h0, h233⟩ := hw
    change ZP G 1500 m_law 7 [some (.ref 1000060), none, none, none, none, none, none, none, none] [.ref 0] W _
    refine z_astore_n (pc' := 8) (j := 1) (ls' := [some (.ref 1000060), some (.ref 0), none, none, none, none, none, none, none]) (by decide +kernel) (by decide) rfl rfl ?_
    refine z_new (pc' := 11) (idx := 181) (ci := 12) (N := 26) (by decide +kernel) rfl (by decide) (amM7 223 rfl (by decide +kernel)) (amM7 224 rfl (by decide +kernel)) (amM1 14 rfl (by decide +kernel)) (by decide) (by rw [hz.1]; decide) rfl ?_
    rw [hz.1]
    refine z_dup (pc' := 12) (by decide +kernel) rfl rfl ?_
    refine z_callI (pc' := 15) (idx := 183) (mj := m_X12_init) (av := []) (b := 300) (n := 0) (d' := 1499) (by decide +kernel) rfl k_X12_init l_RL_183 rfl (by decide) (am_le rfl) rfl (am_le rfl) (zst_1 hz h0).o rfl (ZM.mono (s_ctModel (d := 1499) (zst_1 hz h0) rfl (by decide)) fun r Y hw => ?_)
    obtain ⟨rfl, hm⟩ := hw
    obtain ⟨i1, i2, i3, i4⟩ := st0_on hz hI h233 hm
    change ZP G 1500 m_law 15 [some (.ref 1000060), some (.ref 0), none, none, none, none, none, none, none] [.ref 300] Y _
    refine z_astore_n (pc' := 16) (j := 2) (ls' := [some (.ref 1000060), some (.ref 0), some (.ref 300), none, none, none, none, none, none]) (by decide +kernel) (by decide) rfl rfl ?_
    refine z_iconst (pc' := 17) (n := 1) (by decide +kernel) rfl ?_
    refine z_new110 (pc' := 19) (n := 1) (by decide +kernel) (amM1 204 rfl (by decide +kernel)) (by decide) (by decide) (by rw [i3]; decide) rfl ?_
    rw [i3]
    refine z_astore_n (pc' := 20) (j := 3) (ls' := [some (.ref 1000060), some (.ref 0), some (.ref 300), some (.ref 320), none, none, none, none, none]) (by decide +kernel) (by decide) rfl rfl ?_
    refine z_iconst (pc' := 21) (n := 1) (by decide +kernel) rfl ?_
    have i5 : zSz (zC Y 110 ((1 : Int)).toNat ((1 : Int)).toNat) = 321 := by show zSz Y + 1 = 321; rw [i3]
    refine z_new111 (pc' := 23) (n := 1) (by decide +kernel) (amM10 132 rfl (by decide +kernel)) (by decide) (by decide) (by rw [i5]; decide) rfl ?_
    rw [i5]
    refine z_astore (pc' := 25) (j := 4) (ls' := [some (.ref 1000060), some (.ref 0), some (.ref 300), some (.ref 320), some (.ref 321), none, none, none, none]) (by decide +kernel) (by decide) rfl rfl ?_
    refine z_iconst (pc' := 26) (n := 0) (by decide +kernel) rfl ?_
    refine z_istore (pc' := 28) (j := 5) (ls' := [some (.ref 1000060), some (.ref 0), some (.ref 300), some (.ref 320), some (.ref 321), some (iv ((0 : Nat) : Int)), none, none, none]) (by decide +kernel) (by decide) rfl rfl ?_
    exact lw_loop hLL (lw_first i1 i2 i3 i4 (by decide))
  have key2 : WM G 1500 m_law [.ref 1000060] (enc zst) (fun r M => ∃ Z', M = enc Z' ∧ lwE r Z') := key
  rw [zst_m] at key2
  exact WP.mono key2 fun r M ⟨Z', e, h1, h2, h3⟩ => by
    subst e
    exact ⟨h1, h2, h3⟩
