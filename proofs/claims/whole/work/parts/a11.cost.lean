set_option maxRecDepth 20000 in
theorem e_X6_leastFor {G : Gx} {Q : Rv → Zm → Prop} {Z : Zm} {s : Nat} {b : Nat} {n : Nat} {x : Int} (hs : atMoney Z s b n) (hb : atBook Z b) (hn : atNet Z n) (h : (ZM G 25 m_X6_shortestEnd [.ref s] Z (zKc G 26 m_X6_leastFor 4 [some (.ref s), some (iv x)] [] Q))) : ZM G 26 m_X6_leastFor [.ref s, iv x] Z Q := ZM.of [some (.ref s), some (iv x)] rfl <| z_aload_n (pc' := 1) (j := 0) (by decide +kernel) rfl rfl <| z_callV (pc' := 4) (idx := 61) (mj := m_X6_shortestEnd) (av := []) (d' := 25) (by decide +kernel) rfl k_X6_shortestEnd l_RX6_61 rfl (by omega) (am_le rfl) rfl (am_le rfl) hs.o.1 hs.o.2 rfl h
set_option maxRecDepth 20000 in
theorem b_X6_leastFor_4 {G : Gx} {Q : Rv → Zm → Prop} {Z : Zm} {s : Nat} {b : Nat} {n : Nat} {x : Int} {s0 : Int} (hs : atMoney Z s b n) (hb : atBook Z b) (hn : atNet Z n) (h : (∀ Z1, Z1 = zSI Z s (zu (zI Z s) 5 x) → ∀ Z2, Z2 = zSI Z1 s (zu (zI Z1 s) 6 9901) → ZM G 25 m_X6_cutFrom [.ref s, iv 0, iv 0] Z2 (zKc G 26 m_X6_leastFor 23 [some (.ref s), none] [] Q))) : ZP G 26 m_X6_leastFor 4 [some (.ref s), some (iv x)] [iv s0] Z Q := z_pop (pc' := 5) (by decide +kernel) rfl rfl <| z_aload_n (pc' := 6) (j := 0) (by decide +kernel) rfl rfl <| z_iload_n (pc' := 7) (j := 1) (by decide +kernel) rfl rfl <| z_putI (pc' := 10) (idx := 65) (ci := 6) (f := 5) (by decide +kernel) f_RX6_65 (am_nf rfl rfl) rfl rfl rfl hs.o.1 hs.o.2 rfl <| have h := h _ rfl; z_aload_n (pc' := 11) (j := 0) (by decide +kernel) rfl rfl <| z_sipush (pc' := 14) (n := 9901) (by decide +kernel) (by decide) rfl <| z_putI (pc' := 17) (idx := 68) (ci := 6) (f := 6) (by decide +kernel) f_RX6_68 (am_nf rfl rfl) rfl rfl rfl hs.o.1 hs.o.2 rfl <| have h := h _ rfl; z_aload_n (pc' := 18) (j := 0) (by decide +kernel) rfl rfl <| z_iconst (pc' := 19) (n := 0) (by decide +kernel) rfl <| z_iconst (pc' := 20) (n := 0) (by decide +kernel) rfl <| z_callS (pc' := 23) (idx := 71) (mj := m_X6_cutFrom) (av := [.ref s, iv 0, iv 0]) (d' := 25) (by decide +kernel) rfl k_X6_cutFrom l_RX6_71 rfl (by omega) (am_le rfl) rfl (am_le rfl) rfl (ZM.mono h (zKc_wk (wk_some (wk_none wk_nil))))
set_option maxRecDepth 20000 in
theorem b_X6_leastFor_23 {G : Gx} {Q : Rv → Zm → Prop} {Z : Zm} {s : Nat} {b : Nat} {n : Nat}  (hs : atMoney Z s b n) (hb : atBook Z b) (hn : atNet Z n) (h : (Q (.inl (some (iv (zI Z s 6)))) Z)) : ZP G 26 m_X6_leastFor 23 [some (.ref s), none] [] Z Q := z_aload_n (pc' := 24) (j := 0) (by decide +kernel) rfl rfl <| z_getI (pc' := 27) (idx := 68) (ci := 6) (f := 6) (by decide +kernel) f_RX6_68 rfl hs.o.1 hs.o.2 rfl <| z_ireturn (by decide +kernel) ⟨_, rfl, rfl⟩ h
set_option maxRecDepth 20000 in
theorem e_X11_leastEnd {G : Gx} {Q : Rv → Zm → Prop} {Z : Zm}  (hx : atAll Z) (h : (ZM G 11 m_X11_freshNet [.ref 0] Z (zKc G 12 m_X11_leastEnd 4 [some (.ref 0)] [] Q))) : ZM G 12 m_X11_leastEnd [.ref 0] Z Q := ZM.of [some (.ref 0)] rfl <| z_aload_n (pc' := 1) (j := 0) (by decide +kernel) rfl rfl <| z_callV (pc' := 4) (idx := 238) (mj := m_X11_freshNet) (av := []) (d' := 11) (by decide +kernel) rfl k_X11_freshNet l_RX11_238 rfl (by omega) (am_le rfl) rfl (am_le rfl) hx.o.1 hx.o.2 rfl h
set_option maxRecDepth 20000 in
theorem b_X11_leastEnd_4 {G : Gx} {Q : Rv → Zm → Prop} {Z : Zm}   (hx : atAll Z) (h : (ZM G 11 m_X6_shortestEnd [.ref 281] Z (zKc G 12 m_X11_leastEnd 12 [none] [] Q))) : ZP G 12 m_X11_leastEnd 4 [some (.ref 0)] [.ref 233] Z Q := z_pop (pc' := 5) (by decide +kernel) rfl rfl <| z_aload_n (pc' := 6) (j := 0) (by decide +kernel) rfl rfl <| z_getR (pc' := 9) (idx := 92) (ci := 11) (f := 17) (by decide +kernel) f_RX11_92 rfl hx.o.1 hx.o.2 hx.r17 rfl <| z_callV (pc' := 12) (idx := 405) (mj := m_X6_shortestEnd) (av := []) (d' := 11) (by decide +kernel) rfl k_X6_shortestEnd l_RX11_405 rfl (by omega) (am_le rfl) rfl (am_le rfl) hx.mo.o.1 hx.mo.o.2 rfl (ZM.mono h (zKc_wk (wk_none wk_nil)))
set_option maxRecDepth 20000 in
theorem b_X11_leastEnd_12 {G : Gx} {Q : Rv → Zm → Prop} {Z : Zm}  {s0 : Int} (hx : atAll Z) (h : (Q (.inl (some (iv s0))) Z)) : ZP G 12 m_X11_leastEnd 12 [none] [iv s0] Z Q := z_ireturn (by decide +kernel) ⟨_, rfl, rfl⟩ h
set_option maxRecDepth 20000 in
theorem e_X11_leastCost {G : Gx} {Q : Rv → Zm → Prop} {Z : Zm} {x : Int} (hx : atAll Z) (h : (ZM G 27 m_X11_freshNet [.ref 0] Z (zKc G 28 m_X11_leastCost 4 [some (.ref 0), some (iv x)] [] Q))) : ZM G 28 m_X11_leastCost [.ref 0, iv x] Z Q := ZM.of [some (.ref 0), some (iv x)] rfl <| z_aload_n (pc' := 1) (j := 0) (by decide +kernel) rfl rfl <| z_callV (pc' := 4) (idx := 238) (mj := m_X11_freshNet) (av := []) (d' := 27) (by decide +kernel) rfl k_X11_freshNet l_RX11_238 rfl (by omega) (am_le rfl) rfl (am_le rfl) hx.o.1 hx.o.2 rfl h
set_option maxRecDepth 20000 in
theorem b_X11_leastCost_4 {G : Gx} {Q : Rv → Zm → Prop} {Z : Zm} {x : Int}  (hx : atAll Z) (h : (ZM G 27 m_X6_shortestEnd [.ref 281] Z (zKc G 28 m_X11_leastCost 12 [some (.ref 0), some (iv x)] [] Q))) : ZP G 28 m_X11_leastCost 4 [some (.ref 0), some (iv x)] [.ref 233] Z Q := z_pop (pc' := 5) (by decide +kernel) rfl rfl <| z_aload_n (pc' := 6) (j := 0) (by decide +kernel) rfl rfl <| z_getR (pc' := 9) (idx := 92) (ci := 11) (f := 17) (by decide +kernel) f_RX11_92 rfl hx.o.1 hx.o.2 hx.r17 rfl <| z_callV (pc' := 12) (idx := 405) (mj := m_X6_shortestEnd) (av := []) (d' := 27) (by decide +kernel) rfl k_X6_shortestEnd l_RX11_405 rfl (by omega) (am_le rfl) rfl (am_le rfl) hx.mo.o.1 hx.mo.o.2 rfl h
set_option maxRecDepth 20000 in
theorem b_X11_leastCost_12 {G : Gx} {Q : Rv → Zm → Prop} {Z : Zm} {x : Int} {s0 : Int} (hx : atAll Z) (h : ((R32 s0) ∧ (R32 x) ∧ (if s0 ≤ x then (ZM G 27 m_X6_areFew [.ref 281] Z (zKc G 28 m_X11_leastCost 34 [some (.ref 0), some (iv x)] [] Q)) else ((zSz Z < 1000000) ∧ Q (.inr "java/util/NoSuchElementException") (zC Z 15 0 6))))) : ZP G 28 m_X11_leastCost 12 [some (.ref 0), some (iv x)] [iv s0] Z Q := z_iload_n (pc' := 13) (j := 1) (by decide +kernel) rfl rfl <| h.elim fun c1 h => h.elim fun c2 h => z_icmp_le (pc' := 16) (tgt := 27) (off := 14) (by decide +kernel) (by decide) rfl c1 c2 (am_ite h (fun h => z_aload_n (pc' := 28) (j := 0) (by decide +kernel) rfl rfl <| z_getR (pc' := 31) (idx := 92) (ci := 11) (f := 17) (by decide +kernel) f_RX11_92 rfl hx.o.1 hx.o.2 hx.r17 rfl <| z_callV (pc' := 34) (idx := 410) (mj := m_X6_areFew) (av := []) (d' := 27) (by decide +kernel) rfl k_X6_areFew l_RX11_410 rfl (by omega) (am_le rfl) rfl (am_le rfl) hx.mo.o.1 hx.mo.o.2 rfl h) (fun h => h.elim fun c3 h => z_throw (is := 408) (text := "the end cannot be so early") th_NoSuchElementException (amT7 (i := 43) rfl) rfl (by decide +kernel) (by decide +kernel) (Or.inr ⟨(by decide +kernel), (by decide +kernel), (by decide +kernel)⟩) (by omega) (am_le rfl) c3 h))
set_option maxRecDepth 20000 in
theorem b_X11_leastCost_34 {G : Gx} {Q : Rv → Zm → Prop} {Z : Zm} {x : Int} {s0 : Int} (hx : atAll Z) (h : ((R32 s0) ∧ (if s0 = 0 then ((zSz Z < 1000000) ∧ Q (.inr "java/lang/UnsupportedOperationException") (zC Z 17 0 6)) else (ZM G 27 m_X6_leastFor [.ref 281, iv x] Z (zKc G 28 m_X11_leastCost 56 [none, none] [] Q))))) : ZP G 28 m_X11_leastCost 34 [some (.ref 0), some (iv x)] [iv s0] Z Q := h.elim fun c1 h => z_if_ne (pc' := 37) (tgt := 48) (off := 14) (by decide +kernel) (by decide) rfl c1 (am_ite h (fun h => h.elim fun c2 h => z_throw (is := 411) (text := "there are too many ways to shorten") th_UnsupportedOperationException (amT7 (i := 49) rfl) rfl (by decide +kernel) (by decide +kernel) (Or.inr ⟨(by decide +kernel), (by decide +kernel), (by decide +kernel)⟩) (by omega) (am_le rfl) c2 h) (fun h => z_aload_n (pc' := 49) (j := 0) (by decide +kernel) rfl rfl <| z_getR (pc' := 52) (idx := 92) (ci := 11) (f := 17) (by decide +kernel) f_RX11_92 rfl hx.o.1 hx.o.2 hx.r17 rfl <| z_iload_n (pc' := 53) (j := 1) (by decide +kernel) rfl rfl <| z_callV (pc' := 56) (idx := 413) (mj := m_X6_leastFor) (av := [iv x]) (d' := 27) (by decide +kernel) rfl k_X6_leastFor l_RX11_413 rfl (by omega) (am_le rfl) rfl (am_le rfl) hx.mo.o.1 hx.mo.o.2 rfl (ZM.mono h (zKc_wk (wk_none (wk_none wk_nil))))))
set_option maxRecDepth 20000 in
theorem b_X11_leastCost_56 {G : Gx} {Q : Rv → Zm → Prop} {Z : Zm}  {s0 : Int} (hx : atAll Z) (h : (Q (.inl (some (iv s0))) Z)) : ZP G 28 m_X11_leastCost 56 [none, none] [iv s0] Z Q := z_ireturn (by decide +kernel) ⟨_, rfl, rfl⟩ h
/-! ===== the class: leastEnd and leastCost ===== -/
theorem kPm.okC {k k' : Bk} (h : kPm k k') (ho : kOk k) {x : Int} {c : Nat → Int} : _root_.Jvm.Pilot.@@N@@.okC k' x c ↔ _root_.Jvm.Pilot.@@N@@.okC k x c := by
  have hn : kN k' = kN k := h.1
  have hf : kF k' = kF k := h.2.2.1
  have e : cLn k' c = cLn k c := by unfold cLn; rw [hf]
  unfold _root_.Jvm.Pilot.@@N@@.okC
  rw [hn, hf, e, h.endF ho]
theorem kPm.coS {k k' : Bk} (h : kPm k k') (c : Nat → Int) (n : Nat) : _root_.Jvm.Pilot.@@N@@.coS k' c n = _root_.Jvm.Pilot.@@N@@.coS k c n := by
  have hf : kF k' = kF k := h.2.2.1
  unfold _root_.Jvm.Pilot.@@N@@.coS
  rw [hf]
theorem s_mnC {Z : Zm} {σ : St} (h : IC Z σ) (ho : kOk (sK σ)) (hc : cN Z 233 (sK σ)) : ∃ k' o pos, kPm (sK σ) k' ∧ mnC Z k' o pos := by
  obtain ⟨-, k', o, pos, hpm, hord, hsrt, ns, -⟩ := hc
  have hn : kN k' = kN (sK σ) := hpm.1
  have hf : kF k' = kF (sK σ) := hpm.2.2.1
  refine ⟨k', o, pos, hpm, h.1.mo, h.1.bk, h.1.nt, ns, hpm.ok ho, hord, hsrt, by rw [hn]; exact h.2.1.1, fun t ht => ?_⟩
  rw [hf]
  exact ⟨h.2.1.2.2.1 0 t (by omega) (by omega), h.2.1.2.2.1 8 t (by omega) (by omega), h.2.1.2.2.1 9 t (by omega) (by omega)⟩
theorem s_leastFor {G : Gx} {Z : Zm} {k : Bk} {o pos : Nat → Nat} {time : Int} (h : mnC Z k o pos) (htime : R32 time) (hE : endF k (cLn k (kF k 8)) ≤ time) : ZM G 26 m_X6_leastFor [.ref 281, iv time] Z (fun r W => r = .inl (some (iv (vLc k time))) ∧ ∃ a b c d, W = mW4 Z a b c d) := by
  have ho : kOk k := h.2.2.2.2.1
  have hN := ho.n
  refine e_X6_leastFor h.1 h.2.1 h.2.2.1 (((s_shortestEnd h).deeper (by omega)).mono ?_)
  rintro r W ⟨rfl, a, b, c, rfl, hab⟩
  have hw := h.w (a := a) (b := b) (c := c) (d := zI Z 281)
  refine b_X6_leastFor_4 hw.1 hw.2.1 hw.2.2.1 ?_
  intro Z1 z1 Z2 z2
  rw [mW4_i0, mW4_0] at z1
  rw [z1, mW4_i0, mW4_0] at z2
  have d5 : zu (zu (zI Z 281) 5 time) 6 9901 5 = time := by rw [zu_other (by decide), zu_same]
  have d6 : zu (zu (zI Z 281) 5 time) 6 9901 6 = 9901 := zu_same _ _ _
  generalize zu (zu (zI Z 281) 5 time) 6 9901 = d at *
  rw [z2]
  have rc := s_cutFrom (G := G) (k := k) h htime (kN k) 0 (Nat.zero_le _) (by omega) zz a b c d (fun u hu => absurd hu (Nat.not_lt_zero _)) (fun u hu => ?_) d5 (by omega) ⟨Int.le_refl _, Int.le_refl _⟩
  · refine ((show ZM G (kN k + 4) m_X6_cutFrom [.ref 281, iv 0, iv 0] (mW4 Z a b c d) (mRes Z k time zz 0 a b d) from rc).deeper (by omega)).mono ?_
    rintro r V ⟨rfl, a', b', c', d', rfl, q1, q2, q3, q4, q5⟩
    have hv := h.w (a := a') (b := b') (c := c') (d := d')
    refine b_X6_leastFor_23 hv.1 hv.2.1 hv.2.2.1 ⟨?_, a', b', c', d', rfl⟩
    rw [mW4_i0]
    have ok8 : okC k time (kF k 8) := ⟨fun t ht => f8_r ho t ht, hE⟩
    have l8 := q5 _ ok8 fun u hu => absurd hu (Nat.not_lt_zero _)
    have r8 := coS_r ho ok8.1 (kN k) (Nat.le_refl _)
    have at6 := q4.resolve_left fun e => by omega
    rw [vLc_of ⟨at6, fun c hc => q5 c hc fun u hu => absurd hu (Nat.not_lt_zero _)⟩]
  · obtain ⟨g1, g2⟩ := hab u hu
    rw [g1, g2]
    unfold cLn
    rw [mx_n (Nat.not_lt_zero _), mx_n (Nat.not_lt_zero _)]
    exact ⟨(Int.sub_zero _).symm, rfl⟩
theorem c_leastEnd {G : Gx} {Z : Zm} {σ : St} (h : IC Z σ) (ho : okS σ) : ZM G 12 m_X11_leastEnd [.ref 0] Z (rC Z (E3 "" "" "") iv (o_leastEnd σ)) := by
  refine e_X11_leastEnd h.1 (((s_freshNet h ho.1).deeper (by omega)).mono ?_)
  rintro r V ⟨rfl, f, cn⟩
  obtain ⟨h1, f1⟩ := h.nt f cn
  obtain ⟨k', o, pos, hpm, mn⟩ := s_mnC h1 ho.1 cn
  refine b_X11_leastEnd_4 h1.1 (((s_shortestEnd mn).deeper (by omega)).mono ?_)
  rintro r X ⟨rfl, a, b, c, rfl, -⟩
  have f2 := mW4_f V a b c (zI V 281)
  have hf : kF k' = kF (sK σ) := hpm.2.2.1
  refine b_X11_leastEnd_12 (h1.1.ext f2.1) (rC.ok (h1.fr0 f2 (fun a q => by unfold zB at q; unfold scr; omega) fun a g1 g2 q => by unfold zB at q; omega) (f1.trans (f2.mono (fun a q => by unfold zB at q; show a < 300; omega) (Nat.le_refl _) (Nat.le_refl _))).c1 ?_)
  rw [hpm.endF ho.1]
  unfold cLn
  rw [hf]
theorem c_leastCost {G : Gx} {Z : Zm} {σ : St} {x : Int} (h : IC Z σ) (ho : okS σ) (hz : zSz Z < 1000000) (hx : R32 x) : ZM G 28 m_X11_leastCost [.ref 0, iv x] Z (rC Z (E3 eN eU "") iv (o_leastCost σ x)) := by
  refine e_X11_leastCost h.1 (((s_freshNet h ho.1).deeper (by omega)).mono ?_)
  rintro r V ⟨rfl, f, cn⟩
  obtain ⟨h1, f1⟩ := h.nt f cn
  obtain ⟨k', o, pos, hpm, mn⟩ := s_mnC h1 ho.1 cn
  have hf : kF k' = kF (sK σ) := hpm.2.2.1
  have hn : kN k' = kN (sK σ) := hpm.1
  have ho' := hpm.ok ho.1
  have szV : zSz V < 1000000 := by have := f1.2.1.1; omega
  refine b_X11_leastCost_4 h1.1 (((s_shortestEnd mn).deeper (by omega)).mono ?_)
  rintro r X ⟨rfl, a, b, c, eX, -⟩
  have f2 := mW4_f V a b c (zI V 281)
  rw [← eX] at f2
  have mx := mn.w (a := a) (b := b) (c := c) (d := zI V 281)
  rw [← eX] at mx
  have h2 : IC X σ := h1.fr0 f2 (fun a q => by unfold zB at q; unfold scr; omega) fun a g1 g2 q => by unfold zB at q; omega
  have f3 : zF cF 0 0 Z X := f1.trans (f2.mono (fun a q => by unfold zB at q; show a < 300; omega) (Nat.le_refl _) (Nat.le_refl _))
  have szX : zSz X < 1000000 := by have := f3.2.1.1; omega
  have eE : endF k' (cLn k' (kF k' 8)) = endF (sK σ) (cLn (sK σ) (kF (sK σ) 8)) := by
    rw [hpm.endF ho.1]
    unfold cLn
    rw [hf]
  have er := endF_r ho' (len := cLn k' (kF k' 8)) fun t ht => by
    have := ho'.o8 t ht
    have := ho'.len ht
    show 1 ≤ kF k' 0 t - kF k' 8 t ∧ kF k' 0 t - kF k' 8 t ≤ 60
    omega
  unfold o_leastCost
  rw [← eE]
  refine b_X11_leastCost_12 h2.1 ⟨by omega, hx, ?_⟩
  by_cases c1 : endF k' (cLn k' (kF k' 8)) ≤ x
  case neg =>
    rw [if_neg c1, cIf_f c1]
    exact ⟨szX, rC.nx h2 f3 (by decide) rfl⟩
  rw [if_pos c1, cIf_p c1]
  refine ((s_mareFew mx).deeper (by omega)).mono ?_
  rintro r W ⟨⟨v, rfl, hv⟩, hW⟩
  obtain rfl := hW.symm
  rw [hf, hn] at hv
  refine b_X11_leastCost_34 h2.1 ⟨b01_r hv.r, ?_⟩
  by_cases c2 : prF (fun t => kF (sK σ) 8 t + 1) (kN (sK σ)) ≤ 2000
  case neg =>
    have v0 : v = 0 := hv.r.resolve_right fun e => c2 (hv.p.mp e)
    rw [if_pos v0, cIf_f c2]
    exact ⟨szX, rC.nx h2 f3 (by decide) rfl⟩
  have v1 : v = 1 := hv.p.mpr c2
  rw [if_neg (by omega), cIf_p c2]
  refine ((s_leastFor mx hx c1).deeper (by omega)).mono ?_
  rintro r W ⟨rfl, a', b', c', d', eW⟩
  have f4 := mW4_f X a' b' c' d'
  rw [← eW] at f4
  have h3 : IC W σ := h2.fr0 f4 (fun a q => by unfold zB at q; unfold scr; omega) fun a g1 g2 q => by unfold zB at q; omega
  have ev : vLc k' x = vLc (sK σ) x := by
    have : isLc k' x = isLc (sK σ) x := funext fun v => propext (by
      unfold isLc
      rw [hn]
      constructor
      · rintro ⟨⟨c, q1, q2⟩, q3⟩
        exact ⟨⟨c, (hpm.okC ho.1).mp q1, by rw [q2, hpm.coS]⟩, fun c hc => by rw [← hpm.coS]; exact q3 c ((hpm.okC ho.1).mpr hc)⟩
      · rintro ⟨⟨c, q1, q2⟩, q3⟩
        exact ⟨⟨c, (hpm.okC ho.1).mpr q1, by rw [q2, hpm.coS]⟩, fun c hc => by rw [hpm.coS]; exact q3 c ((hpm.okC ho.1).mp hc)⟩)
    unfold vLc
    rw [this]
  exact b_X11_leastCost_56 h3.1 (rC.ok h3 (f3.trans (f4.mono (fun a q => by unfold zB at q; show a < 300; omega) (Nat.le_refl _) (Nat.le_refl _))).c1 ev)
