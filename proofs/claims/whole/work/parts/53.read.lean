set_option maxRecDepth 20000 in
theorem e_X11_read {G : Gx} {Q : Rv → Zm → Prop} {Z : Zm}  (hx : atAll Z) (h : (ZM G 11 m_X10_readInto [.ref 231, .ref 20] Z (zKc G 12 m_X11_read 11 [some (.ref 0), none] [] Q))) : ZM G 12 m_X11_read [.ref 0] Z Q := ZM.of [some (.ref 0), none] rfl <| z_aload_n (pc' := 1) (j := 0) (by decide +kernel) rfl rfl <| z_getR (pc' := 4) (idx := 29) (ci := 11) (f := 3) (by decide +kernel) f_RX11_29 rfl hx.o.1 hx.o.2 hx.r3 rfl <| z_aload_n (pc' := 5) (j := 0) (by decide +kernel) rfl rfl <| z_getR (pc' := 8) (idx := 16) (ci := 11) (f := 1) (by decide +kernel) f_RX11_16 rfl hx.o.1 hx.o.2 hx.r1 rfl <| z_callV (pc' := 11) (idx := 231) (mj := m_X10_readInto) (av := [.ref 20]) (d' := 11) (by decide +kernel) rfl k_X10_readInto l_RX11_231 rfl (by omega) (am_le rfl) rfl (am_le rfl) hx.tx.o.1 hx.tx.o.2 rfl h
set_option maxRecDepth 20000 in
theorem b_X11_read_11 {G : Gx} {Q : Rv → Zm → Prop} {Z : Zm}  {s0 : Int} (hx : atAll Z) (h : (∀ Z1, Z1 = zSI Z 231 (zu (zI Z 231) 1 0) → (R32 s0) ∧ (if s0 = (-1) then (ZM G 11 m_X11_keepBook [.ref 0] Z1 (zKc G 12 m_X11_read 33 [some (.ref 0), none] [] Q)) else (Q (.inl (some (iv ((-1) - s0)))) Z1)))) : ZP G 12 m_X11_read 11 [some (.ref 0), none] [iv s0] Z Q := z_istore_n (pc' := 12) (j := 1) (ls' := [some (.ref 0), some (iv s0)]) (by decide +kernel) (by decide) rfl rfl <| z_aload_n (pc' := 13) (j := 0) (by decide +kernel) rfl rfl <| z_getR (pc' := 16) (idx := 29) (ci := 11) (f := 3) (by decide +kernel) f_RX11_29 rfl hx.o.1 hx.o.2 hx.r3 rfl <| z_iconst (pc' := 17) (n := 0) (by decide +kernel) rfl <| z_putI (pc' := 20) (idx := 219) (ci := 10) (f := 1) (by decide +kernel) f_RX11_219 (am_nf rfl rfl) rfl rfl rfl hx.tx.o.1 hx.tx.o.2 rfl <| have h := h _ rfl; z_iload_n (pc' := 21) (j := 1) (by decide +kernel) rfl rfl <| z_iconst (pc' := 22) (n := -1) (by decide +kernel) rfl <| h.elim fun c2 h => z_icmp_eq (pc' := 25) (tgt := 29) (off := 7) (by decide +kernel) (by decide) rfl c2 (by decide : R32 (-1)) (am_ite h (fun h => z_aload_n (pc' := 30) (j := 0) (by decide +kernel) rfl rfl <| z_callV (pc' := 33) (idx := 126) (mj := m_X11_keepBook) (av := []) (d' := 11) (by decide +kernel) rfl k_X11_keepBook l_RX11_126 rfl (by omega) (am_le rfl) rfl (am_le rfl) hx.o.1 hx.o.2 rfl (ZM.mono h (zKc_wk (wk_some (wk_none wk_nil))))) (fun h => z_iconst (pc' := 26) (n := -1) (by decide +kernel) rfl <| z_iload_n (pc' := 27) (j := 1) (by decide +kernel) rfl rfl <| z_isub (pc' := 28) (by decide +kernel) rfl <| z_ireturn (by decide +kernel) ⟨_, rfl, rfl⟩ h))
set_option maxRecDepth 20000 in
theorem b_X11_read_33 {G : Gx} {Q : Rv → Zm → Prop} {Z : Zm}   (hx : atAll Z) (h : (ZM G 11 m_X0_becomeLike [.ref 1, .ref 20] Z (zKc G 12 m_X11_read 44 [some (.ref 0), none] [] Q))) : ZP G 12 m_X11_read 33 [some (.ref 0), none] [] Z Q := z_aload_n (pc' := 34) (j := 0) (by decide +kernel) rfl rfl <| z_getR (pc' := 37) (idx := 10) (ci := 11) (f := 0) (by decide +kernel) f_RX11_10 rfl hx.o.1 hx.o.2 hx.r0 rfl <| z_aload_n (pc' := 38) (j := 0) (by decide +kernel) rfl rfl <| z_getR (pc' := 41) (idx := 16) (ci := 11) (f := 1) (by decide +kernel) f_RX11_16 rfl hx.o.1 hx.o.2 hx.r1 rfl <| z_callV (pc' := 44) (idx := 235) (mj := m_X0_becomeLike) (av := [.ref 20]) (d' := 11) (by decide +kernel) rfl k_X0_becomeLike l_RX11_235 rfl (by omega) (am_le rfl) rfl (am_le rfl) hx.bk.o.1 hx.bk.o.2 rfl h
set_option maxRecDepth 20000 in
theorem b_X11_read_44 {G : Gx} {Q : Rv → Zm → Prop} {Z : Zm}   (hx : atAll Z) (h : (∀ Z1, Z1 = zSI Z 0 (zu (zI Z 0) 8 0) → Q (.inl (some (iv (zI Z1 1 3)))) Z1)) : ZP G 12 m_X11_read 44 [some (.ref 0), none] [] Z Q := z_aload_n (pc' := 45) (j := 0) (by decide +kernel) rfl rfl <| z_iconst (pc' := 46) (n := 0) (by decide +kernel) rfl <| z_putI (pc' := 49) (idx := 214) (ci := 11) (f := 8) (by decide +kernel) f_RX11_214 (am_nf rfl rfl) rfl rfl rfl hx.o.1 hx.o.2 rfl <| have h := h _ rfl; z_aload_n (pc' := 50) (j := 0) (by decide +kernel) rfl rfl <| z_getR (pc' := 53) (idx := 10) (ci := 11) (f := 0) (by decide +kernel) f_RX11_10 rfl hx.o.1 hx.o.2 hx.r0 rfl <| z_getI (pc' := 56) (idx := 117) (ci := 0) (f := 3) (by decide +kernel) f_RX11_117 rfl hx.bk.o.1 hx.bk.o.2 rfl <| z_ireturn (by decide +kernel) ⟨_, rfl, rfl⟩ h
theorem s_isRead {G : Gx} {Z : Zm} {m B u n : Nat} {x : Nat → Int} (hm : atModel Z m B) (hu : zA Z u 100 412) (hum : u ≠ m) (hum3 : u ≠ m + 3) (h : mTx Z m n 0 x) (hk : rowZ (zI Z u) k0) : ZM G 3 m_X12_isRead [.ref m, .ref u] Z (rdM Z m u n x (pText n x)) := by
  have hn80 := h.2.2.1
  have fm : ∀ (W : Zm) (f : Nat → Int), zF (fun a => a = m ∨ a = u) 0 0 W (zSI W m f) := fun W f => zF_I (Or.inl rfl)
  have hno : ∀ y : Nat, (y : Int) ≠ -1 := fun y => by omega
  refine e_X12_isRead hm hu ?_
  unfold pText
  suffices lp : ∀ (mm : Nat) (k : Bk) (p q : Nat) (V : Zm), 80 ≤ p + mm → p ≤ n → (q < p ∨ (p = 0 ∧ q = 0 ∧ kN k = 0)) → pOk k q → zF (fun a => a = m ∨ a = u) 0 0 Z V → (∀ i, i < 23 → zI V m i = zI Z m i) → mTx V m n p x → rowZ (zI V u) k → ZP G 3 m_X12_isRead 2 [some (.ref m), some (.ref u), some (iv 1)] [] V (rdM Z m u n x (pTasks n x mm (pTask n x k p))) from lp 80 k0 0 0 Z (by omega) (by omega) (Or.inr ⟨rfl, rfl, rfl⟩) k0_p zF.refl (fun _ _ => rfl) h hk
  intro mm
  induction mm with
  | zero =>
    intro k p q V e1 e2 hq ok1 fV eV tV rV
    have hmV := hm.ext fV.1
    have huV := hu.ext fV.1
    have ht := pTask_r (x := x) ok1 hq e2
    refine b_X12_isRead_2 hmV huV ⟨by decide, ?_⟩
    rw [if_neg (by decide)]
    refine (s_isTaskRead hmV huV hum hum3 tV rV ok1 hq e2).mono ?_
    intro r W hW
    generalize pTask n x k p = a at hW ht
    have hW2 := rdM.tr fV eV hW
    obtain ⟨hr, fW, eW⟩ := hW2
    have hmW := hm.ext fW.1
    have huW := hu.ext fW.1
    rcases hr with ⟨d1, rfl, tW, rW⟩ | ⟨d1, rfl, d2⟩
    · rcases ht with ⟨_, g2, g3, g4⟩ | ⟨g1, g2⟩
      · omega
      · omega
    · refine b_X12_isRead_11 hmW huW ⟨by decide, ?_⟩
      rw [if_pos rfl]
      exact ⟨Or.inr ⟨d1, rfl, d2⟩, fW, eW⟩
  | succ mm ih =>
    intro k p q V e1 e2 hq ok1 fV eV tV rV
    have hmV := hm.ext fV.1
    have huV := hu.ext fV.1
    have ht := pTask_r (x := x) ok1 hq e2
    refine b_X12_isRead_2 hmV huV ⟨by decide, ?_⟩
    rw [if_neg (by decide)]
    refine (s_isTaskRead hmV huV hum hum3 tV rV ok1 hq e2).mono ?_
    intro r W hW
    generalize pTask n x k p = a at hW ht
    have hW2 := rdM.tr fV eV hW
    obtain ⟨hr, fW, eW⟩ := hW2
    have hmW := hm.ext fW.1
    have huW := hu.ext fW.1
    rcases hr with ⟨d1, rfl, tW, rW⟩ | ⟨d1, rfl, d2⟩
    · rcases ht with ⟨_, g2, g3, g4⟩ | ⟨g1, g2⟩
      · refine b_X12_isRead_11 hmW huW ⟨by decide, ?_⟩
        rw [if_neg (by decide)]
        refine ((s_isSign hmW tW g4 (by decide)).deeper (by omega)).mono ?_
        rintro r W' ⟨rfl, hW'⟩
        obtain rfl := hW'.symm
        refine b_X12_isRead_22 hmW huW ⟨b01_r (b2_01 _), ?_⟩
        rintro _ rfl
        rw [pTasks_s, tW.2.1]
        by_cases d : a.2.2 < n ∧ x a.2.2 = 59
        · rw [b2_p d, cIf_p (show _ ∧ _ from ⟨d1, d.1⟩), cIf_p d.2, show b2 (¬ ((1 : Int) = 0)) = 1 from rfl]
          refine ih _ (a.2.2 + 1) a.2.2 _ (by omega) (by omega) (Or.inl (by omega)) g2 (fW.trans (fm _ _)) (fun i hi => by rw [zI_same, zu_other (by omega)]; exact eW i hi) (tW.m (fun i hi => zu_other (by omega)) ?_) ?_
          · rw [zu_same]
            omega
          · rw [zI_other hum]
            exact rW
        · rw [b2_f d, show b2 (¬ ((0 : Int) = 0)) = 0 from rfl, show (a.2.2 : Int) + 0 = (a.2.2 : Int) by omega]
          have t2 : mTx (zSI W m (zu (zI W m) 23 (a.2.2 : Int))) m n a.2.2 x := tW.m (fun i hi => zu_other (by omega)) (zu_same _ _ _)
          refine b_X12_isRead_2 (Z := zSI W m _) hmW.s huW.s ⟨by decide, ?_⟩
          rw [if_pos rfl, t2.1, t2.2.1]
          refine ⟨by omega, by omega, ?_⟩
          by_cases c : a.2.2 < n
          · rw [if_neg (by omega), cIf_p ⟨d1, c⟩, cIf_f (fun g => d ⟨c, g⟩)]
            refine ((s_fault (Z := zSI W m _) hmW.s).deeper (by omega)).mono ?_
            rintro r U ⟨rfl, rfl⟩
            rw [zI_same, zSI_zSI]
            refine b_X12_isRead_63 (Z := zSI W m _) hmW.s huW.s ⟨by decide, Or.inr ⟨hno _, rfl, ?_⟩, fW.trans (fm _ _), fun i hi => ?_⟩
            · rw [zI_same, zu_same]
            · rw [zI_same, zu_other (by omega), zu_other (by omega)]
              exact eW i hi
          · rw [if_pos (by omega), cIf_f (fun g => c g.2)]
            refine ⟨Or.inl ⟨d1, rfl, t2, ?_⟩, fW.trans (fm _ _), fun i hi => ?_⟩
            · rw [zI_other hum]
              exact rW
            · rw [zI_same, zu_other (by omega)]
              exact eW i hi
      · omega
    · refine b_X12_isRead_11 hmW huW ⟨by decide, ?_⟩
      rw [if_pos rfl, pTasks_s, cIf_f (fun g => d1 g.1)]
      exact ⟨Or.inr ⟨d1, rfl, d2⟩, fW, eW⟩
/-! ===== read(), both ===== -/
noncomputable def o_read (σ : St) : Ou := cIf ((pText (sXn σ) (sXs σ)).1 = -1) (0, kN (pText (sXn σ) (sXs σ)).2.1, stT (stK (stKeep (stX σ 0 (sXs σ))) (pText (sXn σ) (sXs σ)).2.1) 0 (sTs σ)) (0, -1 - (pText (sXn σ) (sXs σ)).1, stX σ 0 (sXs σ))
theorem okS.x {σ : St} (h : okS σ) : okS (stX σ 0 (sXs σ)) := ⟨h.1, h.2.1, ⟨Nat.zero_le _, fun i hi => absurd hi (Nat.not_lt_zero _)⟩, h.2.2.2.1, h.2.2.2.2.1, h.2.2.2.2.2.1, h.2.2.2.2.2.2.1, h.2.2.2.2.2.2.2⟩
theorem okS.hk {σ : St} (h : okS σ) (i : Nat) (hi : i < sHn (stKeep σ)) : kN (sHb (stKeep σ) i) ≤ 20 ∧ kM (sHb (stKeep σ) i) ≤ 50 := by
  have hi' : i < min (sHn σ + 1) 10 := hi
  show kN (kpush (sHb σ) (sK σ) i) ≤ 20 ∧ kM (kpush (sHb σ) (sK σ) i) ≤ 50
  unfold kpush
  by_cases c : i = 0
  · rw [if_pos c]
    exact h.k
  · rw [if_neg c]
    exact h.h _ (by omega)
theorem IC.tx {S : Nat → Prop} {c w : Nat} {Z Z' : Zm} {σ : St} {n : Nat} {x : Nat → Int} (h : IC Z σ) (f : zF S c w Z Z') (hs : ∀ a, S a → (20 ≤ a ∧ a < 39) ∨ a = 231) (h1 : zI Z' 231 1 = (n : Int)) (h2 : ∀ i, i < n → zI Z' 232 i = x i) : IC Z' (stX σ n x) := by
  obtain ⟨b0, b1, b2, b3, b4, b5, b6, b7, b8, b9⟩ := h
  have e : ∀ a, a < 300 → ¬ (20 ≤ a ∧ a < 39) → a ≠ 231 → zI Z' a = zI Z a := fun a g1 g2 g3 => f.i (b0.lt a g1) fun g => by have := hs a g; omega
  refine ⟨b0.ext f.1, b1.fr b0 f (by omega) (fun a g1 g2 g => by have := hs a g; omega), b2.fr b0 f (fun a g1 g2 g => by have := hs a g; omega), ⟨h1, h2⟩, cN.keep b4 b0 f (fun a g1 g2 g => by have := hs a g; omega), fun c h g1 g2 => ?_, ?_, ?_, ?_, ?_⟩
  · rw [e (246 + c) (by omega) (by omega) (by omega)]
    exact b5 c h g1 g2
  · rw [e 252 (by omega) (by omega) (by omega)]
    exact b6
  · rw [e 0 (by omega) (by omega) (by omega), e 253 (by omega) (by omega) (by omega)]
    exact b7
  · rw [cPl, e 256 (by omega) (by omega) (by omega), e 257 (by omega) (by omega) (by omega), e 259 (by omega) (by omega) (by omega), e 260 (by omega) (by omega) (by omega), e 261 (by omega) (by omega) (by omega), e 264 (by omega) (by omega) (by omega), e 265 (by omega) (by omega) (by omega)]
    exact b8
  · rw [e 0 (by omega) (by omega) (by omega), e 276 (by omega) (by omega) (by omega)]
    exact b9
theorem s_keepBook2 {G : Gx} {Z : Zm} {σ : St} (h : IC Z σ) (ho : okS σ) : ZM G 3 m_X11_keepBook [.ref 0] Z (fun r Z' => r = .inl none ∧ zF (fun a => zB 39 231 a ∨ a = 233 ∨ a = 256) 0 0 Z Z' ∧ cNo Z' ∧ IC Z' (stKeep σ)) := by
  have hx := h.1
  refine e_X11_keepBook hx ((s_hput hx h.2.1 ho.1 h.2.2.1 ho.2.1.1).mono ?_)
  rintro r W ⟨rfl, f, w⟩
  have hx1 := hx.ext f.1
  refine b_X11_keepBook_11 hx1 (((s_leave hx1).deeper (by omega)).mono ?_)
  rintro r V ⟨rfl, f1, g1, g2⟩
  have f2 : zF (fun a => zB 39 231 a ∨ a = 233 ∨ a = 256) 0 0 Z V := (f.mono (fun a g => Or.inl g) (Nat.le_refl _) (Nat.le_refl _)).trans (f1.mono (fun a g => Or.inr g) (Nat.le_refl _) (Nat.le_refl _))
  refine b_X11_keepBook_15 (hx1.ext f1.1) ⟨rfl, f2, ⟨g1, g2⟩, ?_⟩
  exact h.re (k := sK σ) f2 (fun a g => by unfold zB at g; omega) (h.2.1.fr hx f2 (by omega) fun a g1 g2 => by unfold zB; omega) (w.fr hx1 f1 fun a g1 g2 => by omega) g1 g2
theorem c_read {G : Gx} {Z : Zm} {σ : St} (h : IC Z σ) (ho : okS σ) : ZM G 12 m_X11_read [.ref 0] Z (rC Z (E3 "" "" "") iv (o_read σ)) := by
  have hx := h.1
  obtain ⟨t1, t2⟩ := h.2.2.2.1
  have ht := ho.2.2.1
  have hr := pText_r (sXn σ) (sXs σ)
  refine e_X11_read hx (((s_readInto (n := sXn σ) (x := sXs σ) hx.tx hx.rb (by omega) ⟨t1, ht.1, fun i hi => ⟨t2 i hi, ht.2 i hi⟩⟩).deeper (by omega)).mono ?_)
  unfold o_read
  generalize pText (sXn σ) (sXs σ) = a at hr
  rintro r W ⟨rfl, f, g⟩
  have hxW := hx.ext f.1
  refine b_X11_read_11 hxW ?_
  rintro _ rfl
  have f1 : zF (txS 231 20) 0 0 Z (zSI W 231 (zu (zI W 231) 1 0)) := f.trans (zF_I (Or.inl rfl))
  have h1 : IC (zSI W 231 (zu (zI W 231) 1 0)) (stX σ 0 (sXs σ)) := h.tx f1 (fun a g => by unfold txS zBk zB at g; omega) (by rw [zI_same, zu_same]; rfl) fun i hi => absurd hi (Nat.not_lt_zero _)
  have fc : zF cF 0 0 Z (zSI W 231 (zu (zI W 231) 1 0)) := f1.mono (fun a g => by unfold txS zBk zB at g; show a < 300; omega) (Nat.le_refl _) (Nat.le_refl _)
  by_cases c : a.1 = -1
  · obtain ⟨g1, g2⟩ := g c
    have hk : kOk a.2.1 := by
      rcases hr with ⟨_, r2, r3, r4⟩ | ⟨r1, _⟩
      · exact r2.k (by omega)
      · omega
    rw [c, if_pos rfl, cIf_p rfl]
    refine ⟨by decide, ?_⟩
    have k1 : cB (zSI W 231 (zu (zI W 231) 1 0)) 20 a.2.1 := g2.of fun b q1 q2 => zI_other (by omega)
    refine ((s_keepBook2 h1 ho.x).deeper (by omega)).mono ?_
    rintro r V ⟨rfl, f2, n2, h2⟩
    have hxV := h2.1
    have k2 : cB V 20 a.2.1 := k1.fr h1.1 f2 (by omega) fun b q1 q2 => by unfold zB; omega
    refine b_X11_read_33 hxV (((s_becomeLike hxV.bk hxV.rb k2 hk (by omega)).deeper (by omega)).mono ?_)
    rintro r U ⟨rfl, f3, k3⟩
    have h3 := h2.keep2 n2 f3 k3
    refine b_X11_read_44 h3.1 ?_
    rintro _ rfl
    refine rC.ok h3.typed (((fc.trans (f2.mono (fun a g => by unfold zB at g; show a < 300; omega) (Nat.le_refl _) (Nat.le_refl _))).trans ((f3.mono (fun a g => by unfold zBk zB at g; show a < 300; omega) (Nat.le_refl _) (Nat.le_refl _)).trans (zF_cI (by omega)))).mono (fun _ g => g) (by omega) (by omega)) ?_
    rw [zI_other (by omega)]
    exact k3.1
  · rw [if_neg c, cIf_f c]
    have r32 : R32 a.1 := by
      have := ht.1
      rcases hr with ⟨r1, _⟩ | ⟨r1, r2⟩ <;> omega
    exact ⟨r32, rC.ok h1 (fc.mono (fun _ g => g) (by omega) (by omega)) rfl⟩
theorem d_read {G : Gx} {Z : Zm} {B : Nat} {σ : St} (h : IMb Z B σ) (ho : okS σ) (hz : 322 ≤ zSz Z ∧ zSz Z < 999990) : ZM G 12 m_X12_read [.ref 300] Z (rM Z iv (o_read σ)) := by
  obtain ⟨hB1, hB2, hB3⟩ := h.big hz.1
  obtain ⟨t1, t2⟩ := h.tx
  have ht := ho.2.2.1
  have hr := pText_r (sXn σ) (sXs σ)
  have hn := ho.1.n
  refine e_X12_read h.1 ?_
  rintro _ rfl
  refine ⟨show zSz Z < 1000000 by omega, ?_⟩
  rintro _ rfl _ rfl
  have e3 : zI (zC (zSI Z 300 (zu (zI Z 300) 19 0)) 100 412 412) 300 = zu (zI Z 300) 19 0 := (if_neg (show ¬ (300 : Nat) = zSz Z by omega)).trans (zI_same _ _ _)
  rw [e3, show zSz (zSI Z 300 (zu (zI Z 300) 19 0)) = zSz Z from rfl]
  have fC : zF (fun a => a = 300) 1 412 Z (zC (zSI Z 300 (zu (zI Z 300) 19 0)) 100 412 412) := (zF_I (S := fun a => a = 300) (a := 300) rfl).trans zF_C
  have f0 : zF (fun a => a = 300) 1 412 Z (zSI (zC (zSI Z 300 (zu (zI Z 300) 19 0)) 100 412 412) 300 (zu (zu (zI Z 300) 19 0) 23 0)) := fC.wr (Or.inl rfl)
  have u0 : zI (zSI (zC (zSI Z 300 (zu (zI Z 300) 19 0)) 100 412 412) 300 (zu (zu (zI Z 300) 19 0) 23 0)) (zSz Z) = fun _ => 0 := (zI_other (by omega)).trans (if_pos rfl)
  have a0 : zA (zSI (zC (zSI Z 300 (zu (zI Z 300) 19 0)) 100 412 412) 300 (zu (zu (zI Z 300) 19 0) 23 0)) (zSz Z) 100 412 := (zA_C (zSI Z 300 (zu (zI Z 300) 19 0)) 100 412 412).s
  have w0 : zI (zSI (zC (zSI Z 300 (zu (zI Z 300) 19 0)) 100 412 412) 300 (zu (zu (zI Z 300) 19 0) 23 0)) 300 = zu (zu (zI Z 300) 19 0) 23 0 := zI_same _ _ _
  generalize zSI (zC (zSI Z 300 (zu (zI Z 300) 19 0)) 100 412 412) 300 (zu (zu (zI Z 300) 19 0) 23 0) = Z0 at f0 u0 a0 w0 ⊢
  have tx0 : mTx Z0 300 (sXn σ) 0 (sXs σ) := by
    refine ⟨by rw [w0, zu_other (by decide), zu_other (by decide)]; exact t1, by rw [w0, zu_same]; rfl, ht.1, fun i hi => ?_⟩
    rw [f0.i (show 300 + 3 < zSz Z by omega) (by omega)]
    exact ⟨t2 i hi, ht.2 i hi⟩
  have rz : rowZ (zI Z0 (zSz Z)) k0 := by
    rw [u0]
    exact ⟨⟨rfl, rfl, fun t ht => absurd ht (Nat.not_lt_zero _), fun j hj => absurd hj (Nat.not_lt_zero _)⟩, fun _ _ _ => rfl⟩
  refine ((s_isRead (h.1.ext f0.1) a0 (by omega) (by omega) tx0 rz).deeper (by omega)).mono ?_
  unfold o_read
  generalize pText (sXn σ) (sXs σ) = a at hr
  rintro r W ⟨hres, fW, eW⟩
  have f1 : zF (fun a => a = 300) 1 412 Z W := (f0.tr (c' := 0) (w' := 0) fW fun b g1 g2 => by omega)
  have hsz := f1.1.1
  have hsz2 := f1.2.1.1
  have aW := a0.ext fW.1
  have eW' : ∀ i, i < 19 → zI W 300 i = zI Z 300 i := fun i hi => by rw [eW i (by omega), w0, zu_other (by omega), zu_other (by omega)]
  have e19 : zI W 300 19 = 0 := by rw [eW 19 (by omega), w0, zu_other (by omega), zu_same]
  have hW : IMb W B σ := h.fr f1 (fun a g => Or.inl (by omega)) fun i hi => eW' i (by omega)
  have h1 : IMb (zSI W 300 (zu (zI W 300) 4 0)) B (stX σ 0 (sXs σ)) := hW.text0 ho (zu_same _ _ _) (fun i _ g => zu_other g) (by omega)
  have v1 : zV 1 412 Z (zSI W 300 (zu (zI W 300) 4 0)) := (zF.v f1 hz.1 fun a g => by omega).trans (zV_I (by decide))
  rcases hres with ⟨c, rfl, tW, rW⟩ | ⟨c, rfl, d⟩
  · refine b_X12_read_21 hW.1 aW ?_
    rintro _ rfl
    have hk : pOk a.2.1 a.2.2 ∧ a.2.2 ≤ 80 := by
      have := ht.1
      rcases hr with ⟨_, r2, r3, r4⟩ | ⟨r1, _⟩
      · exact ⟨r2, by omega⟩
      · omega
    have hko := hk.1.k hk.2
    rw [if_neg (by decide), cIf_p c]
    refine ⟨by decide, ?_⟩
    refine ((s_keeps2 h1 ho.x ⟨by show 322 ≤ zSz W; omega, by show zSz W < 1000000; omega⟩).deeper (by omega)).mono ?_
    rintro r V ⟨rfl, h2, v2, t19, k2, k3⟩
    have szV := v2.1
    have szV' : zSz W ≤ zSz V ∧ zSz V ≤ zSz W + 1 := ⟨szV.1, szV.2.1⟩
    have aV : zA V (zSz Z) 100 412 := by
      obtain ⟨q1, q2, q3⟩ := k2 (zSz Z) aW.1 (by omega)
      exact ⟨Nat.lt_of_lt_of_le aW.1 szV'.1, q2.trans aW.2.1, q3.trans aW.2.2⟩
    have uV : zI V (zSz Z) = zI W (zSz Z) := by
      obtain ⟨q1, q2, q3⟩ := k2 (zSz Z) aW.1 (by omega)
      rw [q1, zI_other (by omega)]
    refine b_X12_read_42 h2.1 aV ?_
    rintro _ rfl
    have rr : ∀ i, zR (zSR V 300 (zu (zR V 300) 0 (some (zSz Z)))) 300 i = if i = 0 then some (zSz Z) else zR V 300 i := fun i => by rw [zSR_same]; rfl
    have hm9 : atModel (zSR V 300 (zu (zR V 300) 0 (some (zSz Z)))) 300 (zSz Z) := h2.1.re (Nat.le_refl _) (fun _ _ => ⟨rfl, rfl⟩) (fun i hi => by rw [rr, if_neg hi]) (zSR_other (by decide)) (by rw [rr, if_pos rfl]) aV
    refine b_X12_read_47 hm9 ?_
    rintro _ rfl
    have e300 : zI (zSR V 300 (zu (zR V 300) 0 (some (zSz Z)))) 300 = zI V 300 := rfl
    rw [e300]
    have h300 : zI (zSI (zSR V 300 (zu (zR V 300) 0 (some (zSz Z)))) 300 (zu (zI V 300) 8 0)) 300 = zu (zI V 300) 8 0 := zI_same _ _ _
    have eo : ∀ b, b ≠ 300 → zI (zSI (zSR V 300 (zu (zR V 300) 0 (some (zSz Z)))) 300 (zu (zI V 300) 8 0)) b = zI V b := fun b g => zI_other g
    have key := h2.re (Z' := zSI (zSR V 300 (zu (zR V 300) 0 (some (zSz Z)))) 300 (zu (zI V 300) 8 0)) (B' := zSz Z) (k := a.2.1) (n := sHn (stKeep (stX σ 0 (sXs σ)))) (hb := sHb (stKeep (stX σ 0 (sXs σ)))) (tn := 0) hm9.s (fun b g1 g2 g3 => eo b g2) (by rw [h300, zu_other (by decide)]) (by rw [h300, zu_other (by decide)]) (by rw [h300, zu_same]; rfl) (Nat.zero_le _) (by rw [h300, zu_other (by decide)]; exact h2.pl.1 rfl) (by rw [h300, zu_other (by decide)]; exact h2.2.2.2.1.1) (Or.inr hz.1) (rowM.cM (by rw [eo _ (by omega), uV]; exact rW.1)) fun i hi => ?_
    · refine rM.ok key (by rw [h300, zu_other (by decide), t19, zI_same, zu_other (by decide)]; exact e19) (((v1.trans v2).trans (zV_R (by decide))).trans (zV_I (by decide))) (by omega) (by omega) ?_
      rw [eo _ (by omega), uV]
      exact rW.1.1
    · obtain ⟨r, r1, r2, r3, r4, r5⟩ := h2.2.2.2.1.2 i hi
      have hrz : r ≠ zSz Z := k3 (zSz Z) aW.1 (fun j r j1 j2 => by
        obtain ⟨r', q1, q2, -⟩ := h.2.2.2.1.2 j j1
        have e9 : zR (zSI W 300 (zu (zI W 300) 4 0)) 302 j = some r' := zX_r f1.1 (show 302 < zSz Z by omega) q1
        rw [e9] at j2
        cases j2
        have := q2.1
        omega) i r hi r1
      refine ⟨r, ?_, r2, r3, hrz, ?_⟩
      · have er : zR (zSI (zSR V 300 (zu (zR V 300) 0 (some (zSz Z)))) 300 (zu (zI V 300) 8 0)) 302 = zR V 302 := zSR_other (Z := V) (a := 300) (b := 302) (by decide)
        rw [er]
        exact r1
      · exact r5.of (fun j _ => by rw [eo r (by omega)]) (ho.x.hk _ (by omega))
  · refine b_X12_read_21 hW.1 aW ?_
    rintro _ rfl
    rw [if_pos rfl, cIf_f c]
    refine ⟨by decide, rM.ok h1 (by rw [zI_same, zu_other (by decide)]; exact e19) v1 (by omega) (by omega) ?_⟩
    rw [zI_same, zu_other (by decide), d]
