set_option maxRecDepth 20000 in
theorem e_X5_leastEndOf {G : Gx} {Q : Rv → Zm → Prop} {Z : Zm} {s : Nat} {b : Nat} {n : Nat} {x : Int} {y : Int} (hs : atLike Z s b n) (hb : atBook Z b) (hn : atNet Z n) (h : ((R32 x) ∧ ∀ Z2, Z2 = zSI Z s (zu (zI Z s) 3 (max 1 x)) → (y = 0 ∨ y = 1) ∧ ∀ Z4, Z4 = zSI Z2 s (zu (zI Z2 s) 4 y) → ∀ Z5, Z5 = zSI Z4 (s + 1) (zfl (zI Z4 (s + 1)) 20 (-1)) → ZM G 10 m_X0_sumOfLengths [.ref b] Z5 (zKc G 11 m_X5_leastEndOf 29 [some (.ref s), none, none, none] [] Q))) : ZM G 11 m_X5_leastEndOf [.ref s, iv x, iv y] Z Q := ZM.of [some (.ref s), some (iv x), some (iv y), none] rfl <| z_aload_n (pc' := 1) (j := 0) (by decide +kernel) rfl rfl <| z_iconst (pc' := 2) (n := 1) (by decide +kernel) rfl <| z_iload_n (pc' := 3) (j := 1) (by decide +kernel) rfl rfl <| h.elim fun c1 h => z_max (pc' := 6) (idx := 23) (by decide +kernel) (amM6 180 rfl (by decide +kernel)) (amM3 108 rfl (by decide +kernel)) (amM1 21 rfl (by decide +kernel)) (amM3 109 rfl (by decide +kernel)) (by omega) (am_le rfl) (by decide : R32 1) c1 rfl <| z_putI (pc' := 9) (idx := 29) (ci := 5) (f := 3) (by decide +kernel) f_RX5_29 (am_nf rfl rfl) rfl rfl rfl hs.o.1 hs.o.2 rfl <| have h := h _ rfl; z_aload_n (pc' := 10) (j := 0) (by decide +kernel) rfl rfl <| z_iload_n (pc' := 11) (j := 2) (by decide +kernel) rfl rfl <| h.elim fun c3 h => z_putI (pc' := 14) (idx := 33) (ci := 5) (f := 4) (by decide +kernel) f_RX5_33 (am_nf rfl rfl) rfl (iN_narB c3) (iN_fitB c3) hs.o.1 hs.o.2 rfl <| have h := h _ rfl; z_aload_n (pc' := 15) (j := 0) (by decide +kernel) rfl rfl <| z_getR (pc' := 18) (idx := 9) (ci := 5) (f := 2) (by decide +kernel) f_RX5_9 rfl hs.o.1 hs.o.2 hs.r2 rfl <| z_iconst (pc' := 19) (n := -1) (by decide +kernel) rfl <| z_callS (pc' := 22) (idx := 37) (mj := m_J7_fill_53178) (av := [.ref (s + 1), iv (-1)]) (d' := 0) (by decide +kernel) rfl k_J7_fill_53178 l_RX5_37 rfl (by omega) (am_le rfl) rfl (am_le rfl) rfl <| zKf ((s_fill hs.a2 (by decide))) <| have h := h _ rfl; z_aload_n (pc' := 23) (j := 0) (by decide +kernel) rfl rfl <| z_getR (pc' := 26) (idx := 15) (ci := 5) (f := 0) (by decide +kernel) f_RX5_15 rfl hs.o.1 hs.o.2 hs.r0 rfl <| z_callV (pc' := 29) (idx := 43) (mj := m_X0_sumOfLengths) (av := []) (d' := 10) (by decide +kernel) rfl k_X0_sumOfLengths l_RX5_43 rfl (by omega) (am_le rfl) rfl (am_le rfl) hb.o.1 hb.o.2 rfl (ZM.mono h (zKc_wk (wk_some (wk_none (wk_none (wk_none wk_nil))))))
set_option maxRecDepth 20000 in
theorem b_X5_leastEndOf_29 {G : Gx} {Q : Rv → Zm → Prop} {Z : Zm} {s : Nat} {b : Nat} {n : Nat} {s0 : Int} (hs : atLike Z s b n) (hb : atBook Z b) (hn : atNet Z n) (h : ((R32 ((s0 + (zI Z s 3)) - 1)) ∧ (R32 (zI Z s 3)) ∧ (0 ≤ ((s0 + (zI Z s 3)) - 1)) ∧ (0 < (zI Z s 3)) ∧ (R32 (zI Z n 3)) ∧ (R32 (((s0 + (zI Z s 3)) - 1) / (zI Z s 3))) ∧ ∀ Z7, Z7 = zSI Z s (zu (zI Z s) 6 (max (zI Z n 3) (((s0 + (zI Z s 3)) - 1) / (zI Z s 3)))) → ∀ Z8, Z8 = zSI Z7 s (zu (zI Z7 s) 5 ((s0 + ((zI Z7 b 3) * 30)) + 1)) → ZM G 10 m_X5_putNext [.ref s, iv 0, iv 0, iv (-1)] Z8 (zKc G 11 m_X5_leastEndOf 82 [some (.ref s), none, none, none] [] Q))) : ZP G 11 m_X5_leastEndOf 29 [some (.ref s), none, none, none] [iv s0] Z Q := z_istore_n (pc' := 30) (j := 3) (ls' := [some (.ref s), none, none, some (iv s0)]) (by decide +kernel) (by decide) rfl rfl <| z_aload_n (pc' := 31) (j := 0) (by decide +kernel) rfl rfl <| z_aload_n (pc' := 32) (j := 0) (by decide +kernel) rfl rfl <| z_getR (pc' := 35) (idx := 19) (ci := 5) (f := 1) (by decide +kernel) f_RX5_19 rfl hs.o.1 hs.o.2 hs.r1 rfl <| z_getI (pc' := 38) (idx := 49) (ci := 7) (f := 3) (by decide +kernel) f_RX5_49 rfl hn.o.1 hn.o.2 rfl <| z_iload_n (pc' := 39) (j := 3) (by decide +kernel) rfl rfl <| z_aload_n (pc' := 40) (j := 0) (by decide +kernel) rfl rfl <| z_getI (pc' := 43) (idx := 29) (ci := 5) (f := 3) (by decide +kernel) f_RX5_29 rfl hs.o.1 hs.o.2 rfl <| z_iadd (pc' := 44) (by decide +kernel) rfl <| z_iconst (pc' := 45) (n := 1) (by decide +kernel) rfl <| z_isub (pc' := 46) (by decide +kernel) rfl <| z_aload_n (pc' := 47) (j := 0) (by decide +kernel) rfl rfl <| z_getI (pc' := 50) (idx := 29) (ci := 5) (f := 3) (by decide +kernel) f_RX5_29 rfl hs.o.1 hs.o.2 rfl <| h.elim fun c1 h => h.elim fun c2 h => h.elim fun c3 h => h.elim fun c4 h => z_idiv (pc' := 51) (by decide +kernel) c1 c2 c3 c4 rfl <| h.elim fun c5 h => h.elim fun c6 h => z_max (pc' := 54) (idx := 23) (by decide +kernel) (amM6 180 rfl (by decide +kernel)) (amM3 108 rfl (by decide +kernel)) (amM1 21 rfl (by decide +kernel)) (amM3 109 rfl (by decide +kernel)) (by omega) (am_le rfl) c5 c6 rfl <| z_putI (pc' := 57) (idx := 54) (ci := 5) (f := 6) (by decide +kernel) f_RX5_54 (am_nf rfl rfl) rfl rfl rfl hs.o.1 hs.o.2 rfl <| have h := h _ rfl; z_aload_n (pc' := 58) (j := 0) (by decide +kernel) rfl rfl <| z_iload_n (pc' := 59) (j := 3) (by decide +kernel) rfl rfl <| z_aload_n (pc' := 60) (j := 0) (by decide +kernel) rfl rfl <| z_getR (pc' := 63) (idx := 15) (ci := 5) (f := 0) (by decide +kernel) f_RX5_15 rfl hs.o.1 hs.o.2 hs.r0 rfl <| z_getI (pc' := 66) (idx := 57) (ci := 0) (f := 3) (by decide +kernel) f_RX5_57 rfl hb.o.1 hb.o.2 rfl <| z_bipush (pc' := 68) (n := 30) (by decide +kernel) (by decide) rfl <| z_imul (pc' := 69) (by decide +kernel) rfl <| z_iadd (pc' := 70) (by decide +kernel) rfl <| z_iconst (pc' := 71) (n := 1) (by decide +kernel) rfl <| z_iadd (pc' := 72) (by decide +kernel) rfl <| z_putI (pc' := 75) (idx := 60) (ci := 5) (f := 5) (by decide +kernel) f_RX5_60 (am_nf rfl rfl) rfl rfl rfl hs.o.1 hs.o.2 rfl <| have h := h _ rfl; z_aload_n (pc' := 76) (j := 0) (by decide +kernel) rfl rfl <| z_iconst (pc' := 77) (n := 0) (by decide +kernel) rfl <| z_iconst (pc' := 78) (n := 0) (by decide +kernel) rfl <| z_iconst (pc' := 79) (n := -1) (by decide +kernel) rfl <| z_callS (pc' := 82) (idx := 63) (mj := m_X5_putNext) (av := [.ref s, iv 0, iv 0, iv (-1)]) (d' := 10) (by decide +kernel) rfl k_X5_putNext l_RX5_63 rfl (by omega) (am_le rfl) rfl (am_le rfl) rfl (ZM.mono h (zKc_wk (wk_some (wk_none (wk_none (wk_none wk_nil))))))
set_option maxRecDepth 20000 in
theorem b_X5_leastEndOf_82 {G : Gx} {Q : Rv → Zm → Prop} {Z : Zm} {s : Nat} {b : Nat} {n : Nat}  (hs : atLike Z s b n) (hb : atBook Z b) (hn : atNet Z n) (h : (Q (.inl (some (iv (zI Z s 5)))) Z)) : ZP G 11 m_X5_leastEndOf 82 [some (.ref s), none, none, none] [] Z Q := z_aload_n (pc' := 83) (j := 0) (by decide +kernel) rfl rfl <| z_getI (pc' := 86) (idx := 60) (ci := 5) (f := 5) (by decide +kernel) f_RX5_60 rfl hs.o.1 hs.o.2 rfl <| z_ireturn (by decide +kernel) ⟨_, rfl, rfl⟩ h
set_option maxRecDepth 20000 in
theorem e_X11_best {G : Gx} {Q : Rv → Zm → Prop} {Z : Zm} {x : Int} (hx : atAll Z) (h : (ZM G 11 m_X11_checkLikeHands [.ref 0, iv x] Z (zKc G 12 m_X11_best 5 [some (.ref 0), some (iv x)] [] Q))) : ZM G 12 m_X11_best [.ref 0, iv x] Z Q := ZM.of [some (.ref 0), some (iv x)] rfl <| z_aload_n (pc' := 1) (j := 0) (by decide +kernel) rfl rfl <| z_iload_n (pc' := 2) (j := 1) (by decide +kernel) rfl rfl <| z_callV (pc' := 5) (idx := 375) (mj := m_X11_checkLikeHands) (av := [iv x]) (d' := 11) (by decide +kernel) rfl k_X11_checkLikeHands l_RX11_375 rfl (by omega) (am_le rfl) rfl (am_le rfl) hx.o.1 hx.o.2 rfl h
set_option maxRecDepth 20000 in
theorem b_X11_best_5 {G : Gx} {Q : Rv → Zm → Prop} {Z : Zm} {x : Int}  (hx : atAll Z) (h : (ZM G 11 m_X11_freshNet [.ref 0] Z (zKc G 12 m_X11_best 9 [some (.ref 0), some (iv x)] [] Q))) : ZP G 12 m_X11_best 5 [some (.ref 0), some (iv x)] [] Z Q := z_aload_n (pc' := 6) (j := 0) (by decide +kernel) rfl rfl <| z_callV (pc' := 9) (idx := 238) (mj := m_X11_freshNet) (av := []) (d' := 11) (by decide +kernel) rfl k_X11_freshNet l_RX11_238 rfl (by omega) (am_le rfl) rfl (am_le rfl) hx.o.1 hx.o.2 rfl h
set_option maxRecDepth 20000 in
theorem b_X11_best_9 {G : Gx} {Q : Rv → Zm → Prop} {Z : Zm} {x : Int}  (hx : atAll Z) (h : (ZM G 11 m_X5_leastEndOf [.ref 277, iv x, iv 0] Z (zKc G 12 m_X11_best 19 [none, none] [] Q))) : ZP G 12 m_X11_best 9 [some (.ref 0), some (iv x)] [.ref 233] Z Q := z_pop (pc' := 10) (by decide +kernel) rfl rfl <| z_aload_n (pc' := 11) (j := 0) (by decide +kernel) rfl rfl <| z_getR (pc' := 14) (idx := 78) (ci := 11) (f := 15) (by decide +kernel) f_RX11_78 rfl hx.o.1 hx.o.2 hx.r15 rfl <| z_iload_n (pc' := 15) (j := 1) (by decide +kernel) rfl rfl <| z_iconst (pc' := 16) (n := 0) (by decide +kernel) rfl <| z_callV (pc' := 19) (idx := 378) (mj := m_X5_leastEndOf) (av := [iv x, iv 0]) (d' := 11) (by decide +kernel) rfl k_X5_leastEndOf l_RX11_378 rfl (by omega) (am_le rfl) rfl (am_le rfl) hx.lh.o.1 hx.lh.o.2 rfl (ZM.mono h (zKc_wk (wk_none (wk_none wk_nil))))
set_option maxRecDepth 20000 in
theorem b_X11_best_19 {G : Gx} {Q : Rv → Zm → Prop} {Z : Zm}  {s0 : Int} (hx : atAll Z) (h : (Q (.inl (some (iv s0))) Z)) : ZP G 12 m_X11_best 19 [none, none] [iv s0] Z Q := z_ireturn (by decide +kernel) ⟨_, rfl, rfl⟩ h
set_option maxRecDepth 20000 in
theorem e_X11_bestByLists {G : Gx} {Q : Rv → Zm → Prop} {Z : Zm} {x : Int} (hx : atAll Z) (h : (ZM G 11 m_X11_checkLikeHands [.ref 0, iv x] Z (zKc G 12 m_X11_bestByLists 5 [some (.ref 0), some (iv x)] [] Q))) : ZM G 12 m_X11_bestByLists [.ref 0, iv x] Z Q := ZM.of [some (.ref 0), some (iv x)] rfl <| z_aload_n (pc' := 1) (j := 0) (by decide +kernel) rfl rfl <| z_iload_n (pc' := 2) (j := 1) (by decide +kernel) rfl rfl <| z_callV (pc' := 5) (idx := 375) (mj := m_X11_checkLikeHands) (av := [iv x]) (d' := 11) (by decide +kernel) rfl k_X11_checkLikeHands l_RX11_375 rfl (by omega) (am_le rfl) rfl (am_le rfl) hx.o.1 hx.o.2 rfl h
set_option maxRecDepth 20000 in
theorem b_X11_bestByLists_5 {G : Gx} {Q : Rv → Zm → Prop} {Z : Zm} {x : Int}  (hx : atAll Z) (h : (ZM G 11 m_X11_freshNet [.ref 0] Z (zKc G 12 m_X11_bestByLists 9 [some (.ref 0), some (iv x)] [] Q))) : ZP G 12 m_X11_bestByLists 5 [some (.ref 0), some (iv x)] [] Z Q := z_aload_n (pc' := 6) (j := 0) (by decide +kernel) rfl rfl <| z_callV (pc' := 9) (idx := 238) (mj := m_X11_freshNet) (av := []) (d' := 11) (by decide +kernel) rfl k_X11_freshNet l_RX11_238 rfl (by omega) (am_le rfl) rfl (am_le rfl) hx.o.1 hx.o.2 rfl h
set_option maxRecDepth 20000 in
theorem b_X11_bestByLists_9 {G : Gx} {Q : Rv → Zm → Prop} {Z : Zm} {x : Int}  (hx : atAll Z) (h : (ZM G 11 m_X5_leastEndOf [.ref 277, iv x, iv 1] Z (zKc G 12 m_X11_bestByLists 19 [none, none] [] Q))) : ZP G 12 m_X11_bestByLists 9 [some (.ref 0), some (iv x)] [.ref 233] Z Q := z_pop (pc' := 10) (by decide +kernel) rfl rfl <| z_aload_n (pc' := 11) (j := 0) (by decide +kernel) rfl rfl <| z_getR (pc' := 14) (idx := 78) (ci := 11) (f := 15) (by decide +kernel) f_RX11_78 rfl hx.o.1 hx.o.2 hx.r15 rfl <| z_iload_n (pc' := 15) (j := 1) (by decide +kernel) rfl rfl <| z_iconst (pc' := 16) (n := 1) (by decide +kernel) rfl <| z_callV (pc' := 19) (idx := 378) (mj := m_X5_leastEndOf) (av := [iv x, iv 1]) (d' := 11) (by decide +kernel) rfl k_X5_leastEndOf l_RX11_378 rfl (by omega) (am_le rfl) rfl (am_le rfl) hx.lh.o.1 hx.lh.o.2 rfl (ZM.mono h (zKc_wk (wk_none (wk_none wk_nil))))
set_option maxRecDepth 20000 in
theorem b_X11_bestByLists_19 {G : Gx} {Q : Rv → Zm → Prop} {Z : Zm}  {s0 : Int} (hx : atAll Z) (h : (Q (.inl (some (iv s0))) Z)) : ZP G 12 m_X11_bestByLists 19 [none, none] [iv s0] Z Q := z_ireturn (by decide +kernel) ⟨_, rfl, rfl⟩ h
/-! ===== like hands: the class' search, whole ===== -/
def lRes (Z0 : Zm) (k : Bk) (H y : Int) (b : Nat → Int) (time last : Int) (f g : Nat → Int) : Rv → Zm → Prop := fun r V => r = .inl none ∧ ∃ f' g', V = zSI (zSI Z0 278 f') 277 g' ∧ (∀ t, t < kN k → f' t = f t) ∧ (∀ i, i ≠ 5 → g' i = g i) ∧ (0 ≤ g' 5 ∧ g' 5 ≤ g 5) ∧ (g' 5 = g 5 ∨ ∃ S, gdS k H y S ∧ g' 5 = enS k S) ∧ ∀ S, tgY k H y S → ext k b S time last → g' 5 ≤ enS k S
theorem s_putNext {G : Gx} {Z0 : Zm} {k : Bk} {o : Nat → Nat} {H y B0 : Int} (h : lCx Z0 k o H y B0) (hB : ∀ S, fs k H S → B0 ≤ enS k S) (hn6 : kN k ≤ 6) : ∀ m c, c + m = kN k → ∀ b time last f g, lPI k H y b time c → (∀ t, t < kN k → f t = pe k b t) → (∀ i, i ≠ 5 → g i = zI Z0 277 i) → (0 ≤ g 5 ∧ g 5 ≤ 100000) → (-1 ≤ last ∧ last ≤ 20) → ZM G (m + 4) m_X5_putNext [.ref 277, iv (c : Int), iv time, iv last] (zSI (zSI Z0 278 f) 277 g) (lRes Z0 k H y b time last f g) := by
  have ho : kOk k := h.2.2.2.2.1
  have e278 : ∀ f g, zI (zSI (zSI Z0 278 f) 277 g) 278 = f := fun f g => (zI_other (by decide)).trans (zI_same _ _ _)
  have e277 : ∀ f g, zI (zSI (zSI Z0 278 f) 277 g) 277 = g := fun f g => zI_same _ _ _
  intro m
  induction m with
  | zero =>
    intro c hc b time last f g hb hf hg hg5 hl
    have hx := h.s (f := f) hg
    have n1 : zI (zSI (zSI Z0 278 f) 277 g) 233 1 = (kN k : Int) := hx.2.2.2.1.1
    have hs : lSt (zSI (zSI Z0 278 f) 277 g) k b time := ⟨fun t ht => by rw [e278]; exact hf t ht, by have := hb.1; omega, hb.2.1⟩
    have all := hb.all (by omega)
    have ee : zmax (pe k b) (kN k) = enS k b := zmax_eq fun t ht => pe_p (all t ht)
    have e0 : 0 ≤ enS k b := zmax_0 _ _
    have e1 : enS k b ≤ 3060 := zmax_le (by omega) fun t ht => by
      have := hs.r ho ht
      rw [pe_p (all t ht)] at this
      have := hs.2.1
      omega
    refine e_X5_putNext hx.1 hx.2.1 hx.2.2.1 (Nat.zero_le _) ⟨by omega, by rw [n1]; omega, ?_⟩
    rw [n1, if_pos (by omega), e277]
    refine ((s_lastOfEnds hx hs).deeper (by omega)).mono ?_
    rintro r W ⟨rfl, hW⟩
    obtain rfl := hW.symm
    rw [ee]
    refine b_X5_putNext_26 hx.1 hx.2.1 hx.2.2.1 (Nat.zero_le _) ⟨by omega, by omega, ?_⟩
    rintro _ rfl
    rw [e277, zSI_zSI]
    refine ⟨rfl, f, _, rfl, fun t ht => rfl, fun i hi => zu_other hi, ?_, ?_, fun S hS he => ?_⟩
    · rw [zu_same]
      omega
    · rw [zu_same]
      by_cases q : g 5 ≤ enS k b
      · exact Or.inl (by omega)
      · exact Or.inr ⟨b, hb.gd (by omega), by omega⟩
    · rw [zu_same]
      have : enS k b = enS k S := zmax_eq fun t ht => by rw [((he.put ht (hS.1.1 t ht)).1 (all t ht)).1]
      omega
  | succ m ih =>
    intro c hc b time last f g hb hf hg hg5 hl
    have hx := h.s (f := f) hg
    have n1 : ∀ f' g', zI (zSI (zSI Z0 278 f') 277 g') 233 1 = (kN k : Int) := fun f' g' => by
      rw [zI_other (by decide), zI_other (by decide)]
      exact h.2.2.2.1.1
    have g4 : g 4 = y := (hg 4 (by decide)).trans h.2.2.2.2.2.2.2.2.2.1
    have hy : y = 0 ∨ y = 1 := h.2.2.2.2.2.2.2.2.2.2.2.2.1
    have hH : 1 ≤ H ∧ H ≤ 4 := h.2.2.2.2.2.2.2.2.2.2.2.1
    have hB1 : 0 ≤ B0 ∧ B0 ≤ 100000 := h.2.2.2.2.2.2.2.2.2.2.2.2.2
    have tm := hb.1
    have cx : ∀ f' g', (∀ i, i ≠ 5 → g' i = g i) → lCx (zSI (zSI Z0 278 f') 277 g') k o H y B0 := fun f' g' q => h.s fun i hi => (q i hi).trans (hg i hi)
    have st : ∀ f' g', (∀ t, t < kN k → f' t = pe k b t) → lSt (zSI (zSI Z0 278 f') 277 g') k b time := fun f' g' q => ⟨fun t ht => by rw [e278]; exact q t ht, by omega, hb.2.1⟩
    suffices loop : ∀ v4, (y = 0 → v4 = 2147483647) → (y ≠ 0 → isFb k H b time (kN k) v4) → R32 v4 → ∀ j, j ≤ kN k → ∀ f' g', (∀ t, t < kN k → f' t = pe k b t) → (∀ i, i ≠ 5 → g' i = g i) → (0 ≤ g' 5 ∧ g' 5 ≤ g 5) → (g' 5 = g 5 ∨ ∃ S, gdS k H y S ∧ g' 5 = enS k S) → (∀ S, tgY k H y S → ext k b S time last → ∀ t, nxT k b S t → t < j → g' 5 ≤ enS k S) → ZP G (m + 1 + 4) m_X5_putNext 55 [some (.ref 277), some (iv (c : Int)), some (iv time), some (iv last), some (iv v4), some (iv (j : Int)), none] [] (zSI (zSI Z0 278 f') 277 g') (lRes Z0 k H y b time last f g) by
      refine e_X5_putNext hx.1 hx.2.1 hx.2.2.1 (Nat.zero_le _) ⟨by omega, by rw [n1]; omega, ?_⟩
      rw [n1, if_neg (by omega), if_pos (by omega), e277, g4]
      refine ⟨by omega, ?_⟩
      have no : ∀ S, tgY k H y S → ext k b S time last → ∀ t, nxT k b S t → t < 0 → g 5 ≤ enS k S := fun S _ _ t _ q => absurd q (Nat.not_lt_zero _)
      by_cases y0 : y = 0
      · rw [if_pos y0]
        exact loop _ (fun _ => rfl) (fun q => absurd y0 q) (by decide) 0 (Nat.zero_le _) f g hf (fun _ _ => rfl) ⟨hg5.1, Int.le_refl _⟩ (Or.inl rfl) no
      · rw [if_neg y0]
        refine ((s_firstBegin hx (st f g hf)).deeper (by omega)).mono ?_
        rintro r W ⟨⟨v, rfl, hv, vr⟩, hW⟩
        obtain rfl := hW.symm
        refine b_X5_putNext_45 hx.1 hx.2.1 hx.2.2.1 (Nat.zero_le _) ?_
        exact loop v (fun q => absurd q y0) (fun _ => hv) vr 0 (Nat.zero_le _) f g hf (fun _ _ => rfl) ⟨hg5.1, Int.le_refl _⟩ (Or.inl rfl) no
    intro v4 hv0 hv1 vr
    refine am_up (n := kN k) fun j hj ihj f' g' hf' hg' r5 at5 sn => ?_
    have hx' := cx f' g' hg'
    have hs' := st f' g' hf'
    have done : (∀ S, tgY k H y S → ext k b S time last → g' 5 ≤ enS k S) → lRes Z0 k H y b time last f g (.inl none) (zSI (zSI Z0 278 f') 277 g') := fun q => ⟨rfl, f', g', rfl, fun t ht => (hf' t ht).trans (hf t ht).symm, hg', r5, at5, q⟩
    have g6 : g' 6 = B0 := (hg' 6 (by decide)).trans ((hg 6 (by decide)).trans h.2.2.2.2.2.2.2.2.2.2.1)
    refine b_X5_putNext_55 hx'.1 hx'.2.1 hx'.2.2.1 (Nat.zero_le _) ⟨by omega, by rw [n1]; omega, ?_⟩
    rw [n1, e277, g6]
    by_cases cj : j < kN k
    case neg =>
      rw [if_pos (by omega)]
      refine done fun S hS he => ?_
      obtain ⟨u, u1, u2⟩ := zsum_zero (f := fun t => ci (b t = -1)) (n := kN k) (fun i _ => (ci_r _).1) (by have := hb.2.2.2.2.1; omega)
      have u3 : b u = -1 := Classical.byContradiction fun q => u2 (ci_f q)
      obtain ⟨t, ht⟩ := nxT_ex S u1 u3
      exact sn S hS he t ht (by have := ht.1; omega)
    rw [if_neg (by omega)]
    refine ⟨by omega, by omega, ?_⟩
    by_cases cb : g' 5 ≤ B0
    · rw [if_pos cb]
      exact done fun S hS _ => Int.le_trans cb (hB S hS.1)
    rw [if_neg cb]
    refine ((s_beginOf hx' hs' cj).deeper (by omega)).mono ?_
    rintro r W ⟨⟨v, rfl, hv, v1, v2⟩, hW⟩
    obtain rfl := hW.symm
    have lenj := ho.len cj
    have rest := eR_pos ho cj
    have e7 : zI (zSI (zSI Z0 278 f') 277 g') 233 3 - zI (zSI (zSI Z0 278 f') 277 g') (233 + 7) j = eR k j := by
      rw [hx'.2.2.2.2.2.2.1, hx'.2.2.2.2.2.2.2.1 j cj]
      rfl
    have e3 : zI (zSI (zSI Z0 278 f') 277 g') (1 + 2) j = kF k 0 j := hx'.2.2.2.2.2.1 j cj
    refine b_X5_putNext_85 hx'.1 hx'.2.1 hx'.2.2.1 (Nat.zero_le _) ⟨by omega, ?_⟩
    rw [Int.toNat_natCast, e7, e277, e3]
    -- the task is not the next one of any plan that could be better
    have skip : (∀ S, tgY k H y S → ext k b S time last → nxT k b S j → g' 5 ≤ enS k S) → ZP G (m + 1 + 4) m_X5_putNext 55 [some (.ref 277), some (iv (c : Int)), some (iv time), some (iv last), some (iv v4), some (iv ((j : Int) + 1)), none] [] (zSI (zSI Z0 278 f') 277 g') (lRes Z0 k H y b time last f g) := fun q => ihj cj f' g' hf' hg' r5 at5 fun S hS he t ht tj => by
      by_cases e : t = j
      · rw [e] at ht
        exact q S hS he ht
      · exact sn S hS he t ht (by omega)
    have nx : ∀ S, tgY k H y S → ext k b S time last → nxT k b S j → v = S j ∧ 0 ≤ S j ∧ (y ≠ 0 → ∀ u w, u < kN k → isBg k H b u time w → w ≠ -1 → S j ≤ w) ∧ ¬ plc S time last j := fun S hS he hn => by
      obtain ⟨q1, q2, q3⟩ := hS.next ho hb he hn
      exact ⟨isBg_eq hv q1, hS.1.1 j cj, q2, q3⟩
    by_cases c0 : v = -1
    · rw [if_pos c0]
      exact skip fun S hS he hn => by
        have := nx S hS he hn
        omega
    rw [if_neg c0]
    refine ⟨vr, ?_⟩
    by_cases c1 : v4 < v
    · rw [if_pos c1]
      exact skip fun S hS he hn => by
        obtain ⟨q1, q2, q3, -⟩ := nx S hS he hn
        by_cases y0 : y = 0
        · have := hv0 y0
          omega
        · rcases (hv1 y0).2 with q | ⟨t, w, w1, w2, w3, w4⟩
          · omega
          · have := q3 y0 t w w1 w2 w3
            omega
    rw [if_neg c1]
    refine ⟨zIx_nat (by omega) (by omega), by omega, by omega, ?_⟩
    by_cases c2 : v + eR k j < g' 5
    case neg =>
      rw [if_neg c2]
      exact skip fun S hS he hn => by
        obtain ⟨q1, -⟩ := nx S hS he hn
        have := fs_rest ho hS.1 j cj
        omega
    rw [if_pos c2]
    refine ⟨by omega, ?_⟩
    -- it is put
    have pv : lPI k H y (zu b j v) v (c + 1) := hb.step ho hH.1 cj hv c0 v2 fun y0 u w hu hw wn => by
      have := (hv1 y0).1 u w hu hw wn
      omega
    have go : ∀ Z27, Z27 = zSI (zSI (zSI Z0 278 f') 277 g') (277 + 1) (zu (zI (zSI (zSI Z0 278 f') 277 g') (277 + 1)) j (v + kF k 0 j)) → ZM G (m + 1 + 3) m_X5_putNext [.ref 277, iv ((c : Int) + 1), iv v, iv (j : Int)] Z27 (zKc G (m + 1 + 4) m_X5_putNext 170 [some (.ref 277), some (iv (c : Int)), some (iv time), some (iv last), some (iv v4), some (iv (j : Int)), none] [] (lRes Z0 k H y b time last f g)) := by
      rintro _ rfl
      rw [show 277 + 1 = 278 from rfl, e278, up3 _ (by decide)]
      have rc := ih (c + 1) (by omega) (zu b j v) v (j : Int) (zu f' j (v + kF k 0 j)) g' pv (fun t ht => ?_) (fun i hi => (hg' i hi).trans (hg i hi)) (by omega) (by omega)
      · rw [show m + 1 + 3 = m + 4 by omega, show (c : Int) + 1 = ((c + 1 : Nat) : Int) by omega]
        refine rc.mono ?_
        rintro r V ⟨rfl, f2, g2, rfl, q1, q2, q3, q4, q5⟩
        have hg2 : ∀ i, i ≠ 5 → g2 i = g i := fun i hi => (q2 i hi).trans (hg' i hi)
        have hx2 := cx f2 g2 hg2
        refine b_X5_putNext_170 hx2.1 hx2.2.1 hx2.2.2.1 (Nat.zero_le _) ⟨zIx_nat (by omega) (by omega), ?_⟩
        rintro _ rfl
        rw [Int.toNat_natCast, show 277 + 1 = 278 from rfl, e278, up3 _ (by decide)]
        refine ihj cj _ g2 (fun t ht => ?_) hg2 (by omega) ?_ fun S hS he t ht tj => ?_
        · have bj : b j = -1 := (hv.resolve_left fun q => c0 q.1).2.1
          by_cases e : t = j
          · rw [e, zu_same, pe_f bj]
          · rw [zu_other e, q1 t ht, zu_other e]
            exact hf' t ht
        · rcases q4 with q | q
          · rw [q]
            exact at5
          · exact Or.inr q
        · by_cases e : t = j
          · rw [e] at ht
            obtain ⟨s1, -⟩ := nx S hS he ht
            have := he.next ht hS.1.1
            rw [← s1] at this
            exact q5 S hS this
          · have := sn S hS he t ht (by omega)
            omega
      · by_cases e : t = j
        · rw [e, zu_same]
          have p : zu b j v j ≠ -1 := by rw [zu_same]; exact c0
          rw [pe_p p, zu_same]
        · rw [zu_other e, hf' t ht]
          unfold pe
          rw [zu_other e]
    by_cases c3 : v = time
    · rw [if_pos c3]
      refine ⟨by omega, by omega, ?_⟩
      by_cases c4 : last ≤ (j : Int)
      · rw [if_pos c4]
        exact go
      · rw [if_neg c4]
        exact skip fun S hS he hn => by
          obtain ⟨q1, -, -, q4⟩ := nx S hS he hn
          exact absurd (Or.inr ⟨by omega, by omega⟩) q4
    · rw [if_neg c3]
      exact go
theorem kPm.lq {k k' : Bk} (h : kPm k k') {b : Nat → Int} {t : Nat} {x : Int} : letQ k' b t x ↔ letQ k b t x := by
  have hf : kF k' = kF k := h.2.2.1
  constructor
  · intro q j hj e
    obtain ⟨i, i1, i2, i3, i4⟩ := h.to hj
    have := q i i1 (i3.trans e)
    unfold lateB at *
    rw [i2, i4, hf] at this
    exact this
  · intro q j hj e
    obtain ⟨i, i1, i2, i3, i4⟩ := h.of hj
    have := q i i1 (i3.trans e)
    unfold lateB at *
    rw [i2, i4] at this
    rw [hf]
    exact this
theorem kPm.cnt {k k' : Bk} (h : kPm k k') (b : Nat → Int) (x : Int) : cntP k' b x = cntP k b x := by
  have hf : kF k' = kF k := h.2.2.1
  have hn : kN k' = kN k := h.1
  unfold cntP wk0
  rw [hf, hn]
theorem kPm.fs {k k' : Bk} (h : kPm k k') {H : Int} {S : Nat → Int} : fs k' H S ↔ _root_.Jvm.Pilot.@@N@@.fs k H S := by
  have hn : kN k' = kN k := h.1
  unfold _root_.Jvm.Pilot.@@N@@.fs
  rw [hn]
  exact ⟨fun q => ⟨q.1, fun t ht => h.lq.mp (q.2.1 t ht), fun x hx => by rw [← h.cnt]; exact q.2.2 x hx⟩, fun q => ⟨q.1, fun t ht => h.lq.mpr (q.2.1 t ht), fun x hx => by rw [h.cnt]; exact q.2.2 x hx⟩⟩
theorem kPm.nd {k k' : Bk} (h : kPm k k') {H : Int} {S : Nat → Int} : ndl k' H S ↔ ndl k H S := by
  have hn : kN k' = kN k := h.1
  unfold ndl
  rw [hn]
  exact ⟨fun q t x h1 h2 h3 h4 => by rw [← h.cnt]; exact q t x h1 h2 h3 (h.lq.mpr h4), fun q t x h1 h2 h3 h4 => by rw [h.cnt]; exact q t x h1 h2 h3 (h.lq.mp h4)⟩
theorem kPm.en {k k' : Bk} (h : kPm k k') (S : Nat → Int) : enS k' S = enS k S := by
  have hf : kF k' = kF k := h.2.2.1
  have hn : kN k' = kN k := h.1
  unfold enS kEnd
  rw [hf, hn]
theorem tgY_ex {k : Bk} (ho : kOk k) {H y : Int} (hH : 1 ≤ H ∧ H ≤ 4) : ∃ S, tgY k H y S ∧ enS k S ≤ zsum (kF k 0) (kN k) + 30 * (kN k : Int) := by
  obtain ⟨a, b⟩ := sim_fs ho hH (pm.okL (P := P1 k H) (pm.self (kN k)))
  have c := ndl_bound ho a b hH.1
  by_cases y0 : y = 0
  · obtain ⟨T, t1, t2⟩ := tg_of a
    exact ⟨T, ⟨t1.1, fun _ => t1.2, fun q => absurd y0 q⟩, by omega⟩
  · exact ⟨_, ⟨a, fun q => absurd q y0, fun _ => b⟩, c⟩
theorem s_leastEndOf {G : Gx} {Z : Zm} {σ : St} {x y : Int} (h : IC Z σ) (ho : kOk (sK σ)) (hc : cN Z 233 (sK σ)) (hx : 1 ≤ x ∧ x ≤ 4) (hn6 : kN (sK σ) ≤ 6) (hy : y = 0 ∨ y = 1) : ZM G 11 m_X5_leastEndOf [.ref 277, iv x, iv y] Z (fun r W => r = .inl (some (iv (if y = 0 then vBe (sK σ) x else vBl (sK σ) x))) ∧ zF (fun a => a = 277 ∨ a = 278) 0 0 Z W) := by
  obtain ⟨-, k', o, pos, hpm, hord, hsrt, ns, lf, en, lat⟩ := hc
  have ho' := hpm.ok ho
  have hn : kN k' = kN (sK σ) := hpm.1
  have hf : kF k' = kF (sK σ) := hpm.2.2.1
  rw [← hf] at lf lat en
  have en' : zI Z 233 3 = eEnd k' := by
    rw [en, ← eEnd_of ho' lf]
    unfold kEnd
    rw [hn]
  have el' : ∀ t, t < kN k' → zI Z 240 t = eL k' t := eL_of ho' lf (by
    rw [eEnd_of ho' lf, ← en']
    exact lat)
  have eo := eOk_all ho'
  have er := eo.en ho'
  have sr := fs_len ho'
  have hs : atLike Z 277 1 233 := h.1.lh
  refine e_X5_leastEndOf hs h.1.bk h.1.nt ⟨by omega, ?_⟩
  intro Z2 z2
  refine ⟨hy, ?_⟩
  intro Z4 z4 Y z5
  have fr : zF (fun a => a = 277 ∨ a = 278) 0 0 Z Y := by
    rw [z5, z4, z2]
    exact ((zF_I (Or.inl rfl)).trans (zF_I (Or.inl rfl))).trans (zF_I (Or.inr rfl))
  have f3 : zI Y 277 3 = x ∧ zI Y 277 4 = y := by
    rw [z5, zI_other (by decide), z4, zI_same, zu_other (by decide), zu_same, z2, zI_same, zu_same]
    exact ⟨by omega, rfl⟩
  have f8 : ∀ t, t < 20 → zI Y 278 t = -1 := fun t ht => by
    rw [z5, show 277 + 1 = 278 from rfl, zI_same]
    exact if_pos ht
  clear z5 z4 z2
  have bY : cB Y 1 (sK σ) := h.2.1.fr h.1 fr (by omega) fun a g1 g2 => by omega
  have xY := h.1.ext fr.1
  refine ((s_sumOfLengths xY.bk bY ho).deeper (by omega)).mono ?_
  rintro r W ⟨rfl, hW⟩
  obtain rfl := hW.symm
  have e33 : zI Y 233 3 = eEnd k' := by
    rw [fr.i (h.1.lt _ (by omega)) (by omega)]
    exact en'
  have sE : zsum (kF (sK σ) 0) (kN (sK σ)) = zsum (kF k' 0) (kN k') := by rw [hf, hn]
  have b3 : zI Y 1 3 = (kN k' : Int) := by rw [hn]; exact bY.1
  refine b_X5_leastEndOf_29 xY.lh xY.bk xY.nt ?_
  rw [f3.1, e33, sE]
  have bd : ∀ S, fs k' x S → max (eEnd k') ((zsum (kF k' 0) (kN k') + x - 1) / x) ≤ enS k' S := fun S hS => fs_bound ho' hS hx
  obtain ⟨S0, t1, t2⟩ := tgY_ex ho' (y := y) hx
  have b0 := bd S0 t1.1
  have hN := ho'.n
  generalize hm : (zsum (kF k' 0) (kN k') + x - 1) / x = q at *
  have q0 : 0 ≤ q := by rw [← hm]; exact Int.ediv_nonneg (by omega) (by omega)
  refine ⟨by omega, by omega, by omega, by omega, by omega, by omega, ?_⟩
  rintro _ rfl
  rintro _ rfl
  rw [zI_same, zSI_zSI, zI_other (show 1 ≠ 277 by decide), b3]
  have gg : ∀ i, i ≠ 5 → i ≠ 6 → zu (zu (zI Y 277) 6 (max (eEnd k') q)) 5 (zsum (kF k' 0) (kN k') + (kN k' : Int) * 30 + 1) i = zI Y 277 i := fun i h1 h2 => by rw [zu_other h1, zu_other h2]
  have g5 : zu (zu (zI Y 277) 6 (max (eEnd k') q)) 5 (zsum (kF k' 0) (kN k') + (kN k' : Int) * 30 + 1) 5 = zsum (kF k' 0) (kN k') + (kN k' : Int) * 30 + 1 := zu_same _ _ _
  have g6 : zu (zu (zI Y 277) 6 (max (eEnd k') q)) 5 (zsum (kF k' 0) (kN k') + (kN k' : Int) * 30 + 1) 6 = max (eEnd k') q := by rw [zu_other (by decide), zu_same]
  generalize zu (zu (zI Y 277) 6 (max (eEnd k') q)) 5 (zsum (kF k' 0) (kN k') + (kN k' : Int) * 30 + 1) = g at *
  have fr2 := fr.trans (zF_I (S := fun a => a = 277 ∨ a = 278) (a := 277) (f := g) (Or.inl rfl))
  have o2 : ∀ a, a < 277 → zI (zSI Y 277 g) a = zI Z a := fun a q => fr2.i (h.1.lt _ (by omega)) (by omega)
  have cx : lCx (zSI Y 277 g) k' o x y (max (eEnd k') q) := by
    refine ⟨xY.lh, xY.bk, xY.nt, ?_, ho', fun t ht => ?_, by rw [o2 _ (by omega)]; exact en', fun t ht => by rw [o2 _ (by omega)]; exact el' t ht, ?_, ?_, ?_, hx, hy, by omega⟩
    · unfold nS at *
      rw [o2 233 (by omega), o2 (233 + 1) (by omega), o2 (233 + 3) (by omega), o2 (233 + 4) (by omega), o2 (233 + 5) (by omega)]
      exact ns
    · rw [o2 3 (by omega), hf]
      exact h.2.1.len t (by omega)
    · rw [zI_same, gg 3 (by decide) (by decide)]
      exact f3.1
    · rw [zI_same, gg 4 (by decide) (by decide)]
      exact f3.2
    · rw [zI_same]
      exact g6
  have pi0 : lPI k' x y (fun _ => -1) 0 0 := by
    refine ⟨⟨Int.le_refl _, by decide⟩, fun t _ => Or.inl rfl, fun t _ q => absurd rfl q, fun z _ => ?_, ?_, fun _ t z _ h1 h2 => ?_⟩
    · rw [cntP_0 fun u _ q => absurd rfl q]
      omega
    · rw [zsum_eq (g := fun _ => 1) fun i _ => ci_p rfl, zsum_1]
      omega
    · have := h2 rfl
      omega
  have sp := s_putNext (G := G) cx bd (by omega) (kN k') 0 (by omega) (fun _ => -1) 0 (-1) (zI (zSI Y 277 g) 278) (zI (zSI Y 277 g) 277) pi0 (fun t ht => by
    rw [pe_f (b := fun _ => -1) rfl, zI_other (by decide)]
    exact f8 t (by omega)) (fun i _ => rfl) (by rw [zI_same, g5]; omega) (by decide)
  rw [zSI_id, zSI_id, zI_same] at sp
  refine (sp.deeper (by omega)).mono ?_
  rintro r V ⟨rfl, f', g', rfl, q1, q2, q3, q4, q5⟩
  have fr3 : zF (fun a => a = 277 ∨ a = 278) 0 0 Z (zSI (zSI (zSI Y 277 g) 278 f') 277 g') := (fr2.trans (zF_I (Or.inr rfl))).trans (zF_I (Or.inl rfl))
  have xV := h.1.ext fr3.1
  refine b_X5_leastEndOf_82 xV.lh xV.bk xV.nt ⟨?_, fr3⟩
  rw [zI_same]
  have ex : ∀ S, tgY k' x y S → g' 5 ≤ enS k' S := fun S hS => q5 S hS fun t ht => ⟨fun q => by
    have := hS.1.1 t ht
    unfold plc at q
    omega, fun _ => rfl⟩
  have g5' := ex S0 t1
  rcases q4 with q4 | ⟨S, s1, s2⟩
  · rw [g5] at q4
    omega
  by_cases y0 : y = 0
  · rw [if_pos y0]
    have : isBe (sK σ) x (g' 5) := ⟨⟨S, hpm.fs.mp s1.1, by rw [← hpm.en]; exact s2⟩, fun T hT => by
      obtain ⟨T', a, b⟩ := tg_of (hpm.fs.mpr hT)
      have c := ex T' ⟨a.1, fun _ => a.2, fun q => absurd y0 q⟩
      have e := hpm.en T
      omega⟩
    rw [vBe_of this]
  · rw [if_neg y0]
    have : isBl (sK σ) x (g' 5) := ⟨⟨S, ⟨hpm.fs.mp s1.1, hpm.nd.mp (s1.2 y0)⟩, by rw [← hpm.en]; exact s2⟩, fun T hT hT2 => by
      have c := ex T ⟨hpm.fs.mpr hT, fun q => absurd q y0, fun _ => hpm.nd.mpr hT2⟩
      rw [hpm.en] at c
      exact c⟩
    rw [vBl_of this]
theorem c_best {G : Gx} {Z : Zm} {σ : St} {x : Int} (h : IC Z σ) (ho : okS σ) (hz : zSz Z < 1000000) (hx : R32 x) : ZM G 12 m_X11_best [.ref 0, iv x] Z (rC Z (E3 eA eU "") iv (o_best σ x)) := by
  refine e_X11_best h.1 (((s_checkLikeHands h ho.1 hx hz).deeper (by omega)).mono fun r W q => ?_)
  unfold o_best
  by_cases c1 : 1 ≤ x ∧ x ≤ 4
  case neg =>
    rw [if_neg c1] at q
    obtain ⟨rfl, rfl⟩ := q
    rw [cIf_f c1]
    exact rC.no h (by decide) rfl
  rw [if_pos c1] at q
  rw [cIf_p c1]
  by_cases c2 : kN (sK σ) ≤ 6
  case neg =>
    rw [if_neg c2] at q
    obtain ⟨rfl, rfl⟩ := q
    rw [cIf_f c2]
    exact rC.no h (by decide) rfl
  rw [if_pos c2] at q
  obtain ⟨rfl, rfl⟩ := q
  rw [cIf_p c2]
  refine b_X11_best_5 h.1 (((s_freshNet h ho.1).deeper (by omega)).mono ?_)
  rintro r V ⟨rfl, f, cn⟩
  obtain ⟨h1, f1⟩ := h.nt f cn
  refine b_X11_best_9 h1.1 ((s_leastEndOf h1 ho.1 cn c1 c2 (Or.inl rfl)).mono ?_)
  rintro r X ⟨rfl, f2⟩
  refine b_X11_best_19 (h1.1.ext f2.1) (rC.ok (h1.fr0 f2 (fun a q => by unfold scr; omega) fun a g1 g2 q => by omega) (f1.trans (f2.mono (fun a q => by show a < 300; omega) (Nat.le_refl _) (Nat.le_refl _))).c1 rfl)
theorem c_bestByLists {G : Gx} {Z : Zm} {σ : St} {x : Int} (h : IC Z σ) (ho : okS σ) (hz : zSz Z < 1000000) (hx : R32 x) : ZM G 12 m_X11_bestByLists [.ref 0, iv x] Z (rC Z (E3 eA eU "") iv (o_bestByLists σ x)) := by
  refine e_X11_bestByLists h.1 (((s_checkLikeHands h ho.1 hx hz).deeper (by omega)).mono fun r W q => ?_)
  unfold o_bestByLists
  by_cases c1 : 1 ≤ x ∧ x ≤ 4
  case neg =>
    rw [if_neg c1] at q
    obtain ⟨rfl, rfl⟩ := q
    rw [cIf_f c1]
    exact rC.no h (by decide) rfl
  rw [if_pos c1] at q
  rw [cIf_p c1]
  by_cases c2 : kN (sK σ) ≤ 6
  case neg =>
    rw [if_neg c2] at q
    obtain ⟨rfl, rfl⟩ := q
    rw [cIf_f c2]
    exact rC.no h (by decide) rfl
  rw [if_pos c2] at q
  obtain ⟨rfl, rfl⟩ := q
  rw [cIf_p c2]
  refine b_X11_bestByLists_5 h.1 (((s_freshNet h ho.1).deeper (by omega)).mono ?_)
  rintro r V ⟨rfl, f, cn⟩
  obtain ⟨h1, f1⟩ := h.nt f cn
  refine b_X11_bestByLists_9 h1.1 ((s_leastEndOf h1 ho.1 cn c1 c2 (Or.inr rfl)).mono ?_)
  rintro r X ⟨rfl, f2⟩
  refine b_X11_bestByLists_19 (h1.1.ext f2.1) (rC.ok (h1.fr0 f2 (fun a q => by unfold scr; omega) fun a g1 g2 q => by omega) (f1.trans (f2.mono (fun a q => by show a < 300; omega) (Nat.le_refl _) (Nat.le_refl _))).c1 rfl)
