/-! ===== objects in the making ===== -/
def zz0 (s : Nat) (Y : Zm) : Prop := ∀ a, s ≤ a → ∀ i, zI Y a i = 0
def bdF (Z : Zm) (b : Nat) (Y : Zm) : Prop := zKd Y b = zKd Z b ∧ ∀ a, a < b → zKd Y a = zKd Z a ∧ zLn Y a = zLn Z a ∧ zR Y a = zR Z a ∧ zI Y a = zI Z a
def ctS (Z : Zm) (b ci s : Nat) (Y : Zm) (c w : Nat) (A : List (Nat × Nat × Nat)) (R : List (Nat × Nat)) (D : List (Nat × Nat × Nat × Nat × Nat)) : Prop := (zSz Y = b + 1 + c ∧ zSl Y ≤ zSl Z + w ∧ zKd Z b = ci) ∧ (bdF Z b Y ∧ zz0 s Y ∧ s ≤ b + 1 ∧ zI Y b 0 = zI Z b 0) ∧ (∀ q ∈ A, q.1 ≠ 0 ∧ zA Y (b + q.1) q.2.1 q.2.2) ∧ (∀ q ∈ R, zR Y b q.1 = some q.2) ∧ ∀ q ∈ D, (q.1 ≠ 0 ∧ q.1 ≤ c) ∧ (∀ i, i < q.2.2.1 → zR Y (b + q.1) i = some (b + q.2.1 + i)) ∧ ∀ i, i < q.2.2.1 → zA Y (b + q.2.1 + i) q.2.2.2.1 q.2.2.2.2
/-- what a constructor leaves -/
def ctE (Z : Zm) (b s : Nat) (Y : Zm) (c w : Nat) : Prop := zSz Y = b + 1 + c ∧ zSl Y ≤ zSl Z + w ∧ bdF Z b Y ∧ zz0 s Y
section
variable {Z Y : Zm} {b ci s c w : Nat} {A : List (Nat × Nat × Nat)} {R : List (Nat × Nat)} {D : List (Nat × Nat × Nat × Nat × Nat)}
theorem ctS.sz (h : ctS Z b ci s Y c w A R D) : zSz Y = b + 1 + c := h.1.1
theorem ctS.bd (h : ctS Z b ci s Y c w A R D) : bdF Z b Y := h.2.1.1
theorem ctS.o (h : ctS Z b ci s Y c w A R D) : b < zSz Y := by rw [h.sz]; omega
theorem ctS.k (h : ctS Z b ci s Y c w A R D) : zKd Y b = ci := h.bd.1.trans h.1.2.2
theorem ctS.z (h : ctS Z b ci s Y c w A R D) : zI Y b 0 = zI Z b 0 := h.2.1.2.2.2
theorem ctS.a (h : ctS Z b ci s Y c w A R D) : ∀ q, q ∈ A → zA Y (b + q.1) q.2.1 q.2.2 := fun q hq => (h.2.2.1 q hq).2
theorem ctS.r (h : ctS Z b ci s Y c w A R D) : ∀ q, q ∈ R → zR Y b q.1 = some q.2 := h.2.2.2.1
theorem ctS.d (h : ctS Z b ci s Y c w A R D) : ∀ q, q ∈ D → (q.1 ≠ 0 ∧ q.1 ≤ c) ∧ (∀ i, i < q.2.2.1 → zR Y (b + q.1) i = some (b + q.2.1 + i)) ∧ ∀ i, i < q.2.2.1 → zA Y (b + q.2.1 + i) q.2.2.2.1 q.2.2.2.2 := h.2.2.2.2
theorem ctS.e (h : ctS Z b ci s Y c w A R D) : ctE Z b s Y c w := ⟨h.1.1, h.1.2.1, h.2.1.1, h.2.1.2.1⟩
theorem ctS.init (h : zSz Z = b + 1) (hk : zKd Z b = ci) (hz : zz0 s Z) (hs : s ≤ b + 1) : ctS Z b ci s Z 0 0 [] [] [] := ⟨⟨h, Nat.le_refl _, hk⟩, ⟨⟨rfl, fun a _ => ⟨rfl, rfl, rfl, rfl⟩⟩, hz, hs, rfl⟩, (fun q hq => absurd hq List.not_mem_nil), (fun q hq => absurd hq List.not_mem_nil), (fun q hq => absurd hq List.not_mem_nil)⟩
theorem zC_old (Y : Zm) (k n x : Nat) {a : Nat} (h : a < zSz Y) : zKd (zC Y k n x) a = zKd Y a ∧ zLn (zC Y k n x) a = zLn Y a ∧ zR (zC Y k n x) a = zR Y a ∧ zI (zC Y k n x) a = zI Y a := ⟨if_neg (by omega), if_neg (by omega), if_neg (by omega), if_neg (by omega)⟩
theorem ctS.C (h : ctS Z b ci s Y c w A R D) (k n x : Nat) : ctS Z b ci s (zC Y k n x) (c + 1) (w + x) ((c + 1, k, n) :: A) R D := by
  have sz := h.sz
  have x1 := zX_C Y k n x
  obtain ⟨⟨h1, h2, h3⟩, ⟨h4, h5, h6⟩, h7, h8, h9⟩ := h
  refine ⟨⟨by show zSz Y + 1 = _; omega, by show zSl Y + x ≤ _; omega, h3⟩, ⟨⟨(zC_old Y k n x (by omega)).1.trans h4.1, fun a ha => ?_⟩, fun a ha i => ?_, h6.1, by rw [(zC_old Y k n x (a := b) (by omega)).2.2.2]; exact h6.2⟩, fun q hq => ?_, fun q hq => ?_, fun q hq => ?_⟩
  · obtain ⟨g1, g2, g3, g4⟩ := zC_old Y k n x (a := a) (by omega)
    rw [g1, g2, g3, g4]
    exact h4.2 a ha
  · show (if a = zSz Y then fun _ => 0 else zI Y a) i = 0
    by_cases e : a = zSz Y
    · rw [if_pos e]
    · rw [if_neg e]
      exact h5 a ha i
  · rcases List.mem_cons.mp hq with rfl | hq
    · refine ⟨Nat.succ_ne_zero c, ?_⟩
      show zA (zC Y k n x) (b + (c + 1)) k n
      rw [show b + (c + 1) = zSz Y by omega]
      exact zA_C Y k n x
    · exact ⟨(h7 q hq).1, (h7 q hq).2.ext x1⟩
  · rw [(zC_old Y k n x (a := b) (by omega)).2.2.1]
    exact h8 q hq
  · obtain ⟨⟨g0, g9⟩, g1, g2⟩ := h9 q hq
    refine ⟨⟨g0, by omega⟩, fun i hi => ?_, fun i hi => (g2 i hi).ext x1⟩
    rw [(zC_old Y k n x (a := b + q.1) (by omega)).2.2.1]
    exact g1 i hi
theorem zM_old (Y : Zm) (kO kI n m : Nat) {a : Nat} (h : a < zSz Y) : zKd (zM Y kO kI n m) a = zKd Y a ∧ zLn (zM Y kO kI n m) a = zLn Y a ∧ zR (zM Y kO kI n m) a = zR Y a ∧ zI (zM Y kO kI n m) a = zI Y a := ⟨if_pos h, if_pos h, if_pos h, if_pos h⟩
theorem ctS.M (h : ctS Z b ci s Y c w A R D) (kO kI n m : Nat) : ctS Z b ci s (zM Y kO kI n m) (c + (1 + n)) (w + (n + n * m)) ((c + 1, kO, n) :: A) R ((c + 1, c + 2, n, kI, m) :: D) := by
  have sz := h.sz
  have x1 := zX_M Y kO kI n m
  obtain ⟨⟨h1, h2, h3⟩, ⟨h4, h5, h6⟩, h7, h8, h9⟩ := h
  have sM : zSz (zM Y kO kI n m) = zSz Y + (1 + n) := rfl
  refine ⟨⟨by rw [sM]; omega, by show zSl Y + (n + n * m) ≤ _; omega, h3⟩, ⟨⟨(zM_old Y kO kI n m (by omega)).1.trans h4.1, fun a ha => ?_⟩, fun a ha i => ?_, h6.1, by rw [(zM_old Y kO kI n m (a := b) (by omega)).2.2.2]; exact h6.2⟩, fun q hq => ?_, fun q hq => ?_, fun q hq => ?_⟩
  · obtain ⟨g1, g2, g3, g4⟩ := zM_old Y kO kI n m (a := a) (by omega)
    rw [g1, g2, g3, g4]
    exact h4.2 a ha
  · show (if a < zSz Y then zI Y a else fun _ => 0) i = 0
    by_cases e : a < zSz Y
    · rw [if_pos e]
      exact h5 a ha i
    · rw [if_neg e]
  · rcases List.mem_cons.mp hq with rfl | hq
    · refine ⟨Nat.succ_ne_zero c, ?_⟩
      show zA (zM Y kO kI n m) (b + (c + 1)) kO n
      rw [show b + (c + 1) = zSz Y by omega]
      exact ⟨by rw [sM]; omega, by show (if zSz Y < zSz Y then _ else if zSz Y = zSz Y then kO else kI) = kO; rw [if_neg (Nat.lt_irrefl _), if_pos rfl], by show (if zSz Y < zSz Y then _ else if zSz Y = zSz Y then n else m) = n; rw [if_neg (Nat.lt_irrefl _), if_pos rfl]⟩
    · exact ⟨(h7 q hq).1, (h7 q hq).2.ext x1⟩
  · rw [(zM_old Y kO kI n m (a := b) (by omega)).2.2.1]
    exact h8 q hq
  · rcases List.mem_cons.mp hq with rfl | hq
    · refine ⟨⟨Nat.succ_ne_zero c, by show c + 1 ≤ _; omega⟩, fun i hi => ?_, fun i hi => ?_⟩
      · have hi : i < n := hi
        show (if b + (c + 1) < zSz Y then zR Y (b + (c + 1)) else if b + (c + 1) = zSz Y then fun i => if i < n then some (zSz Y + 1 + i) else none else fun _ => none) i = some (b + (c + 2) + i)
        rw [if_neg (by omega), if_pos (by omega), if_pos hi, show zSz Y + 1 + i = b + (c + 2) + i by omega]
      · have hi : i < n := hi
        show zA (zM Y kO kI n m) (b + (c + 2) + i) kI m
        exact ⟨by rw [sM]; omega, by show (if b + (c + 2) + i < zSz Y then _ else if b + (c + 2) + i = zSz Y then kO else kI) = kI; rw [if_neg (by omega), if_neg (by omega)], by show (if b + (c + 2) + i < zSz Y then _ else if b + (c + 2) + i = zSz Y then n else m) = m; rw [if_neg (by omega), if_neg (by omega)]⟩
    · obtain ⟨⟨g0, g9⟩, g1, g2⟩ := h9 q hq
      refine ⟨⟨g0, by omega⟩, fun i hi => ?_, fun i hi => (g2 i hi).ext x1⟩
      rw [(zM_old Y kO kI n m (a := b + q.1) (by omega)).2.2.1]
      exact g1 i hi
theorem ctS.put (h : ctS Z b ci s Y c w A R D) (f v : Nat) (hn : ∀ q, q ∈ R → q.1 ≠ f) : ctS Z b ci s (zSR Y b (zu (zR Y b) f (some v))) c w A ((f, v) :: R) D := by
  obtain ⟨⟨h1, h2, h3⟩, ⟨h4, h5, h6⟩, h7, h8, h9⟩ := h
  have o : ∀ a, a ≠ b → zR (zSR Y b (zu (zR Y b) f (some v))) a = zR Y a := fun a ha => if_neg ha
  have e : zR (zSR Y b (zu (zR Y b) f (some v))) b = zu (zR Y b) f (some v) := if_pos rfl
  refine ⟨⟨h1, h2, h3⟩, ⟨⟨h4.1, fun a ha => ?_⟩, h5, h6⟩, h7, fun q hq => ?_, fun q hq => ?_⟩
  · rw [o a (by omega)]
    exact h4.2 a ha
  · rw [e]
    rcases List.mem_cons.mp hq with rfl | hq
    · exact zu_same _ _ _
    · rw [zu_other (hn q hq)]
      exact h8 q hq
  · obtain ⟨g0, g1, g2⟩ := h9 q hq
    refine ⟨g0, fun i hi => ?_, g2⟩
    rw [o (b + q.1) (by omega)]
    exact g1 i hi
theorem ctS.I (h : ctS Z b ci s Y c w A R D) (f : Nat) (x : Int) (hs : b < s) (hf : 0 ≠ f) : ctS Z b ci s (zSI Y b (zu (zI Y b) f x)) c w A R D := by
  obtain ⟨⟨h1, h2, h3⟩, ⟨h4, h5, h6⟩, h7, h8, h9⟩ := h
  refine ⟨⟨h1, h2, h3⟩, ⟨⟨h4.1, fun a ha => ?_⟩, fun a ha i => ?_, h6.1, by rw [zI_same, zu_other hf]; exact h6.2⟩, h7, h8, h9⟩
  · rw [zI_other (show a ≠ b by omega)]
    exact h4.2 a ha
  · rw [zI_other (show a ≠ b by omega)]
    exact h5 a ha i
end
theorem s_ctBook {G : Gx} {Z : Zm} {b d : Nat} (hk : zO Z b 0) (hs : zSz Z = b + 1) (hz : zz0 b Z) (hb2 : b < 990000) (hd : 2 ≤ d)  : ZM G d m_X0_init [.ref b] Z (fun r W => r = .inl none ∧ atBook W b ∧ ctE Z b b W 18 425) := by
  refine ZM.of [some (.ref b)] rfl ?_
  have h0 := ctS.init hs hk.2 hz (show b ≤ b + 1 by omega)
  refine z_aload_n (pc' := 1) (j := 0) (by decide +kernel) rfl rfl ?_
  refine z_objInit (pc' := 4) (idx := 3) (by decide +kernel) (amM1 46 rfl (by decide +kernel)) (amM1 39 rfl (by decide +kernel)) (amM1 40 rfl (by decide +kernel)) (by omega) (am_le rfl) rfl ?_
  refine z_aload_n (pc' := 5) (j := 0) (by decide +kernel) rfl rfl ?_
  refine z_bipush (pc' := 7) (n := 12) (by decide +kernel) (by decide) rfl ?_
  refine z_bipush (pc' := 9) (n := 20) (by decide +kernel) (by decide) rfl ?_
  refine z_multi120 (pc' := 13) (idx := 9) (n := 12) (m := 20) (by decide +kernel) (amM1 47 rfl (by decide +kernel)) (amM1 88 rfl (by decide +kernel)) (by decide) (by decide) (by decide) (by decide) (by rw [h0.sz, show ((12 : Int)).toNat = 12 from rfl]; omega) rfl ?_
  rw [h0.sz, show ((12 : Int)).toNat = 12 from rfl, show ((20 : Int)).toNat = 20 from rfl]
  have h1 := h0.M 120 100 12 20
  obtain ⟨Y1, e1⟩ : ∃ Y1, Y1 = zM Z 120 100 12 20 := ⟨_, rfl⟩
  rw [← e1] at h1 ⊢
  change ZP G d m_X0_init 13 [some (.ref b)] [.ref (b + 1), .ref b] Y1 _
  refine z_putR (pc' := 16) (idx := 11) (ci := 0) (f := 0) (b := b + 1) (by decide +kernel) f_RX0_11 (am_nfF rfl rfl ⟨rfl, rfl, (amM1 49 rfl (by decide +kernel))⟩) rfl h1.o h1.k rfl ?_
  have h2 := h1.put 0 (b + 1) (by simp)
  obtain ⟨Y2, e2⟩ : ∃ Y2, Y2 = zSR Y1 b (zu (zR Y1 b) 0 (some (b + 1))) := ⟨_, rfl⟩
  rw [← e2] at h2 ⊢
  refine z_aload_n (pc' := 17) (j := 0) (by decide +kernel) rfl rfl ?_
  refine z_iconst (pc' := 18) (n := 3) (by decide +kernel) rfl ?_
  refine z_bipush (pc' := 20) (n := 50) (by decide +kernel) (by decide) rfl ?_
  refine z_multi120 (pc' := 24) (idx := 9) (n := 3) (m := 50) (by decide +kernel) (amM1 47 rfl (by decide +kernel)) (amM1 88 rfl (by decide +kernel)) (by decide) (by decide) (by decide) (by decide) (by rw [h2.sz, show ((3 : Int)).toNat = 3 from rfl]; omega) rfl ?_
  rw [h2.sz, show ((3 : Int)).toNat = 3 from rfl, show ((50 : Int)).toNat = 50 from rfl]
  have h3 := h2.M 120 100 3 50
  obtain ⟨Y3, e3⟩ : ∃ Y3, Y3 = zM Y2 120 100 3 50 := ⟨_, rfl⟩
  rw [← e3] at h3 ⊢
  change ZP G d m_X0_init 24 [some (.ref b)] [.ref (b + 14), .ref b] Y3 _
  refine z_putR (pc' := 27) (idx := 16) (ci := 0) (f := 1) (b := b + 14) (by decide +kernel) f_RX0_16 (am_nfF rfl rfl ⟨rfl, rfl, (amM1 59 rfl (by decide +kernel))⟩) rfl h3.o h3.k rfl ?_
  have h4 := h3.put 1 (b + 14) (by simp)
  obtain ⟨Y4, e4⟩ : ∃ Y4, Y4 = zSR Y3 b (zu (zR Y3 b) 1 (some (b + 14))) := ⟨_, rfl⟩
  rw [← e4] at h4 ⊢
  refine z_aload_n (pc' := 28) (j := 0) (by decide +kernel) rfl rfl ?_
  refine z_bipush (pc' := 30) (n := 20) (by decide +kernel) (by decide) rfl ?_
  refine z_new100 (pc' := 32) (n := 20) (by decide +kernel) (amM1 88 rfl (by decide +kernel)) (by decide) (by decide) (by rw [h4.sz]; omega) rfl ?_
  rw [h4.sz, show ((20 : Int)).toNat = 20 from rfl]
  have h5 := h4.C 100 20 20
  obtain ⟨Y5, e5⟩ : ∃ Y5, Y5 = zC Y4 100 20 20 := ⟨_, rfl⟩
  rw [← e5] at h5 ⊢
  change ZP G d m_X0_init 32 [some (.ref b)] [.ref (b + 18), .ref b] Y5 _
  refine z_putR (pc' := 35) (idx := 19) (ci := 0) (f := 2) (b := b + 18) (by decide +kernel) f_RX0_19 (am_nfF rfl rfl ⟨rfl, rfl, (amM1 63 rfl (by decide +kernel))⟩) rfl h5.o h5.k rfl ?_
  have h6 := h5.put 2 (b + 18) (by simp)
  obtain ⟨Y6, e6⟩ : ∃ Y6, Y6 = zSR Y5 b (zu (zR Y5 b) 2 (some (b + 18))) := ⟨_, rfl⟩
  rw [← e6] at h6 ⊢
  refine z_ret (by decide +kernel) rfl ?_
  exact ⟨rfl, ⟨⟨h6.o, h6.k⟩, (h6.r (0, b + 1) (by simp)), (h6.a (1, 120, 12) (by simp)), (h6.d (1, 2, 12, 100, 20) (by simp)).2.1, (h6.d (1, 2, 12, 100, 20) (by simp)).2.2, (h6.r (1, b + 14) (by simp)), (h6.a (14, 120, 3) (by simp)), (h6.d (14, 15, 3, 100, 50) (by simp)).2.1, (h6.d (14, 15, 3, 100, 50) (by simp)).2.2, (h6.r (2, b + 18) (by simp)), (h6.a (18, 100, 20) (by simp))⟩, h6.e⟩
theorem s_ctText {G : Gx} {Z : Zm} {b d : Nat} (hk : zO Z b 10) (hs : zSz Z = b + 1) (hz : zz0 b Z) (hb2 : b < 990000) (hd : 2 ≤ d)  : ZM G d m_X10_init [.ref b] Z (fun r W => r = .inl none ∧ atText W b ∧ ctE Z b b W 1 80) := by
  refine ZM.of [some (.ref b)] rfl ?_
  have h0 := ctS.init hs hk.2 hz (show b ≤ b + 1 by omega)
  refine z_aload_n (pc' := 1) (j := 0) (by decide +kernel) rfl rfl ?_
  refine z_objInit (pc' := 4) (idx := 3) (by decide +kernel) (amM1 114 rfl (by decide +kernel)) (amM1 39 rfl (by decide +kernel)) (amM1 40 rfl (by decide +kernel)) (by omega) (am_le rfl) rfl ?_
  refine z_aload_n (pc' := 5) (j := 0) (by decide +kernel) rfl rfl ?_
  refine z_bipush (pc' := 7) (n := 80) (by decide +kernel) (by decide) rfl ?_
  refine z_new101 (pc' := 9) (n := 80) (by decide +kernel) (amM1 127 rfl (by decide +kernel)) (by decide) (by decide) (by rw [h0.sz]; omega) rfl ?_
  rw [h0.sz, show ((80 : Int)).toNat = 80 from rfl]
  have h1 := h0.C 101 80 80
  obtain ⟨Y1, e1⟩ : ∃ Y1, Y1 = zC Z 101 80 80 := ⟨_, rfl⟩
  rw [← e1] at h1 ⊢
  change ZP G d m_X10_init 9 [some (.ref b)] [.ref (b + 1), .ref b] Y1 _
  refine z_putR (pc' := 12) (idx := 9) (ci := 10) (f := 0) (b := b + 1) (by decide +kernel) f_RX10_9 (am_nfF rfl rfl ⟨rfl, rfl, (amM1 115 rfl (by decide +kernel))⟩) rfl h1.o h1.k rfl ?_
  have h2 := h1.put 0 (b + 1) (by simp)
  obtain ⟨Y2, e2⟩ : ∃ Y2, Y2 = zSR Y1 b (zu (zR Y1 b) 0 (some (b + 1))) := ⟨_, rfl⟩
  rw [← e2] at h2 ⊢
  refine z_ret (by decide +kernel) rfl ?_
  exact ⟨rfl, ⟨⟨h2.o, h2.k⟩, (h2.r (0, b + 1) (by simp)), (h2.a (1, 101, 80) (by simp))⟩, h2.e⟩
theorem s_ctNet {G : Gx} {Z : Zm} {b d : Nat} (hk : zO Z b 7) (hs : zSz Z = b + 1) (hz : zz0 b Z) (hb2 : b < 990000) (hd : 2 ≤ d)  : ZM G d m_X7_init [.ref b] Z (fun r W => r = .inl none ∧ atNet W b ∧ ctE Z b b W 10 290) := by
  refine ZM.of [some (.ref b)] rfl ?_
  have h0 := ctS.init hs hk.2 hz (show b ≤ b + 1 by omega)
  refine z_aload_n (pc' := 1) (j := 0) (by decide +kernel) rfl rfl ?_
  refine z_objInit (pc' := 4) (idx := 3) (by decide +kernel) (amM1 133 rfl (by decide +kernel)) (amM1 39 rfl (by decide +kernel)) (amM1 40 rfl (by decide +kernel)) (by omega) (am_le rfl) rfl ?_
  refine z_aload_n (pc' := 5) (j := 0) (by decide +kernel) rfl rfl ?_
  refine z_bipush (pc' := 7) (n := 20) (by decide +kernel) (by decide) rfl ?_
  refine z_new100 (pc' := 9) (n := 20) (by decide +kernel) (amM1 88 rfl (by decide +kernel)) (by decide) (by decide) (by rw [h0.sz]; omega) rfl ?_
  rw [h0.sz, show ((20 : Int)).toNat = 20 from rfl]
  have h1 := h0.C 100 20 20
  obtain ⟨Y1, e1⟩ : ∃ Y1, Y1 = zC Z 100 20 20 := ⟨_, rfl⟩
  rw [← e1] at h1 ⊢
  change ZP G d m_X7_init 9 [some (.ref b)] [.ref (b + 1), .ref b] Y1 _
  refine z_putR (pc' := 12) (idx := 9) (ci := 7) (f := 4) (b := b + 1) (by decide +kernel) f_RX7_9 (am_nfF rfl rfl ⟨rfl, rfl, (amM1 148 rfl (by decide +kernel))⟩) rfl h1.o h1.k rfl ?_
  have h2 := h1.put 4 (b + 1) (by simp)
  obtain ⟨Y2, e2⟩ : ∃ Y2, Y2 = zSR Y1 b (zu (zR Y1 b) 4 (some (b + 1))) := ⟨_, rfl⟩
  rw [← e2] at h2 ⊢
  refine z_aload_n (pc' := 13) (j := 0) (by decide +kernel) rfl rfl ?_
  refine z_bipush (pc' := 15) (n := 20) (by decide +kernel) (by decide) rfl ?_
  refine z_new100 (pc' := 17) (n := 20) (by decide +kernel) (amM1 88 rfl (by decide +kernel)) (by decide) (by decide) (by rw [h2.sz]; omega) rfl ?_
  rw [h2.sz, show ((20 : Int)).toNat = 20 from rfl]
  have h3 := h2.C 100 20 20
  obtain ⟨Y3, e3⟩ : ∃ Y3, Y3 = zC Y2 100 20 20 := ⟨_, rfl⟩
  rw [← e3] at h3 ⊢
  change ZP G d m_X7_init 17 [some (.ref b)] [.ref (b + 2), .ref b] Y3 _
  refine z_putR (pc' := 20) (idx := 15) (ci := 7) (f := 5) (b := b + 2) (by decide +kernel) f_RX7_15 (am_nfF rfl rfl ⟨rfl, rfl, (amM1 151 rfl (by decide +kernel))⟩) rfl h3.o h3.k rfl ?_
  have h4 := h3.put 5 (b + 2) (by simp)
  obtain ⟨Y4, e4⟩ : ∃ Y4, Y4 = zSR Y3 b (zu (zR Y3 b) 5 (some (b + 2))) := ⟨_, rfl⟩
  rw [← e4] at h4 ⊢
  refine z_aload_n (pc' := 21) (j := 0) (by decide +kernel) rfl rfl ?_
  refine z_bipush (pc' := 23) (n := 50) (by decide +kernel) (by decide) rfl ?_
  refine z_new100 (pc' := 25) (n := 50) (by decide +kernel) (amM1 88 rfl (by decide +kernel)) (by decide) (by decide) (by rw [h4.sz]; omega) rfl ?_
  rw [h4.sz, show ((50 : Int)).toNat = 50 from rfl]
  have h5 := h4.C 100 50 50
  obtain ⟨Y5, e5⟩ : ∃ Y5, Y5 = zC Y4 100 50 50 := ⟨_, rfl⟩
  rw [← e5] at h5 ⊢
  change ZP G d m_X7_init 25 [some (.ref b)] [.ref (b + 3), .ref b] Y5 _
  refine z_putR (pc' := 28) (idx := 18) (ci := 7) (f := 6) (b := b + 3) (by decide +kernel) f_RX7_18 (am_nfF rfl rfl ⟨rfl, rfl, (amM1 152 rfl (by decide +kernel))⟩) rfl h5.o h5.k rfl ?_
  have h6 := h5.put 6 (b + 3) (by simp)
  obtain ⟨Y6, e6⟩ : ∃ Y6, Y6 = zSR Y5 b (zu (zR Y5 b) 6 (some (b + 3))) := ⟨_, rfl⟩
  rw [← e6] at h6 ⊢
  refine z_aload_n (pc' := 29) (j := 0) (by decide +kernel) rfl rfl ?_
  refine z_bipush (pc' := 31) (n := 50) (by decide +kernel) (by decide) rfl ?_
  refine z_new100 (pc' := 33) (n := 50) (by decide +kernel) (amM1 88 rfl (by decide +kernel)) (by decide) (by decide) (by rw [h6.sz]; omega) rfl ?_
  rw [h6.sz, show ((50 : Int)).toNat = 50 from rfl]
  have h7 := h6.C 100 50 50
  obtain ⟨Y7, e7⟩ : ∃ Y7, Y7 = zC Y6 100 50 50 := ⟨_, rfl⟩
  rw [← e7] at h7 ⊢
  change ZP G d m_X7_init 33 [some (.ref b)] [.ref (b + 4), .ref b] Y7 _
  refine z_putR (pc' := 36) (idx := 21) (ci := 7) (f := 7) (b := b + 4) (by decide +kernel) f_RX7_21 (am_nfF rfl rfl ⟨rfl, rfl, (amM1 157 rfl (by decide +kernel))⟩) rfl h7.o h7.k rfl ?_
  have h8 := h7.put 7 (b + 4) (by simp)
  obtain ⟨Y8, e8⟩ : ∃ Y8, Y8 = zSR Y7 b (zu (zR Y7 b) 7 (some (b + 4))) := ⟨_, rfl⟩
  rw [← e8] at h8 ⊢
  refine z_aload_n (pc' := 37) (j := 0) (by decide +kernel) rfl rfl ?_
  refine z_bipush (pc' := 39) (n := 50) (by decide +kernel) (by decide) rfl ?_
  refine z_new100 (pc' := 41) (n := 50) (by decide +kernel) (amM1 88 rfl (by decide +kernel)) (by decide) (by decide) (by rw [h8.sz]; omega) rfl ?_
  rw [h8.sz, show ((50 : Int)).toNat = 50 from rfl]
  have h9 := h8.C 100 50 50
  obtain ⟨Y9, e9⟩ : ∃ Y9, Y9 = zC Y8 100 50 50 := ⟨_, rfl⟩
  rw [← e9] at h9 ⊢
  change ZP G d m_X7_init 41 [some (.ref b)] [.ref (b + 5), .ref b] Y9 _
  refine z_putR (pc' := 44) (idx := 24) (ci := 7) (f := 8) (b := b + 5) (by decide +kernel) f_RX7_24 (am_nfF rfl rfl ⟨rfl, rfl, (amM1 162 rfl (by decide +kernel))⟩) rfl h9.o h9.k rfl ?_
  have h10 := h9.put 8 (b + 5) (by simp)
  obtain ⟨Y10, e10⟩ : ∃ Y10, Y10 = zSR Y9 b (zu (zR Y9 b) 8 (some (b + 5))) := ⟨_, rfl⟩
  rw [← e10] at h10 ⊢
  refine z_aload_n (pc' := 45) (j := 0) (by decide +kernel) rfl rfl ?_
  refine z_bipush (pc' := 47) (n := 20) (by decide +kernel) (by decide) rfl ?_
  refine z_new100 (pc' := 49) (n := 20) (by decide +kernel) (amM1 88 rfl (by decide +kernel)) (by decide) (by decide) (by rw [h10.sz]; omega) rfl ?_
  rw [h10.sz, show ((20 : Int)).toNat = 20 from rfl]
  have h11 := h10.C 100 20 20
  obtain ⟨Y11, e11⟩ : ∃ Y11, Y11 = zC Y10 100 20 20 := ⟨_, rfl⟩
  rw [← e11] at h11 ⊢
  change ZP G d m_X7_init 49 [some (.ref b)] [.ref (b + 6), .ref b] Y11 _
  refine z_putR (pc' := 52) (idx := 27) (ci := 7) (f := 9) (b := b + 6) (by decide +kernel) f_RX7_27 (am_nfF rfl rfl ⟨rfl, rfl, (amM1 166 rfl (by decide +kernel))⟩) rfl h11.o h11.k rfl ?_
  have h12 := h11.put 9 (b + 6) (by simp)
  obtain ⟨Y12, e12⟩ : ∃ Y12, Y12 = zSR Y11 b (zu (zR Y11 b) 9 (some (b + 6))) := ⟨_, rfl⟩
  rw [← e12] at h12 ⊢
  refine z_aload_n (pc' := 53) (j := 0) (by decide +kernel) rfl rfl ?_
  refine z_bipush (pc' := 55) (n := 20) (by decide +kernel) (by decide) rfl ?_
  refine z_new100 (pc' := 57) (n := 20) (by decide +kernel) (amM1 88 rfl (by decide +kernel)) (by decide) (by decide) (by rw [h12.sz]; omega) rfl ?_
  rw [h12.sz, show ((20 : Int)).toNat = 20 from rfl]
  have h13 := h12.C 100 20 20
  obtain ⟨Y13, e13⟩ : ∃ Y13, Y13 = zC Y12 100 20 20 := ⟨_, rfl⟩
  rw [← e13] at h13 ⊢
  change ZP G d m_X7_init 57 [some (.ref b)] [.ref (b + 7), .ref b] Y13 _
  refine z_putR (pc' := 60) (idx := 30) (ci := 7) (f := 10) (b := b + 7) (by decide +kernel) f_RX7_30 (am_nfF rfl rfl ⟨rfl, rfl, (amM1 168 rfl (by decide +kernel))⟩) rfl h13.o h13.k rfl ?_
  have h14 := h13.put 10 (b + 7) (by simp)
  obtain ⟨Y14, e14⟩ : ∃ Y14, Y14 = zSR Y13 b (zu (zR Y13 b) 10 (some (b + 7))) := ⟨_, rfl⟩
  rw [← e14] at h14 ⊢
  refine z_aload_n (pc' := 61) (j := 0) (by decide +kernel) rfl rfl ?_
  refine z_bipush (pc' := 63) (n := 20) (by decide +kernel) (by decide) rfl ?_
  refine z_new100 (pc' := 65) (n := 20) (by decide +kernel) (amM1 88 rfl (by decide +kernel)) (by decide) (by decide) (by rw [h14.sz]; omega) rfl ?_
  rw [h14.sz, show ((20 : Int)).toNat = 20 from rfl]
  have h15 := h14.C 100 20 20
  obtain ⟨Y15, e15⟩ : ∃ Y15, Y15 = zC Y14 100 20 20 := ⟨_, rfl⟩
  rw [← e15] at h15 ⊢
  change ZP G d m_X7_init 65 [some (.ref b)] [.ref (b + 8), .ref b] Y15 _
  refine z_putR (pc' := 68) (idx := 33) (ci := 7) (f := 11) (b := b + 8) (by decide +kernel) f_RX7_33 (am_nfF rfl rfl ⟨rfl, rfl, (amM1 171 rfl (by decide +kernel))⟩) rfl h15.o h15.k rfl ?_
  have h16 := h15.put 11 (b + 8) (by simp)
  obtain ⟨Y16, e16⟩ : ∃ Y16, Y16 = zSR Y15 b (zu (zR Y15 b) 11 (some (b + 8))) := ⟨_, rfl⟩
  rw [← e16] at h16 ⊢
  refine z_aload_n (pc' := 69) (j := 0) (by decide +kernel) rfl rfl ?_
  refine z_bipush (pc' := 71) (n := 20) (by decide +kernel) (by decide) rfl ?_
  refine z_new100 (pc' := 73) (n := 20) (by decide +kernel) (amM1 88 rfl (by decide +kernel)) (by decide) (by decide) (by rw [h16.sz]; omega) rfl ?_
  rw [h16.sz, show ((20 : Int)).toNat = 20 from rfl]
  have h17 := h16.C 100 20 20
  obtain ⟨Y17, e17⟩ : ∃ Y17, Y17 = zC Y16 100 20 20 := ⟨_, rfl⟩
  rw [← e17] at h17 ⊢
  change ZP G d m_X7_init 73 [some (.ref b)] [.ref (b + 9), .ref b] Y17 _
  refine z_putR (pc' := 76) (idx := 36) (ci := 7) (f := 12) (b := b + 9) (by decide +kernel) f_RX7_36 (am_nfF rfl rfl ⟨rfl, rfl, (amM1 173 rfl (by decide +kernel))⟩) rfl h17.o h17.k rfl ?_
  have h18 := h17.put 12 (b + 9) (by simp)
  obtain ⟨Y18, e18⟩ : ∃ Y18, Y18 = zSR Y17 b (zu (zR Y17 b) 12 (some (b + 9))) := ⟨_, rfl⟩
  rw [← e18] at h18 ⊢
  refine z_aload_n (pc' := 77) (j := 0) (by decide +kernel) rfl rfl ?_
  refine z_bipush (pc' := 79) (n := 20) (by decide +kernel) (by decide) rfl ?_
  refine z_new110 (pc' := 81) (n := 20) (by decide +kernel) (amM1 204 rfl (by decide +kernel)) (by decide) (by decide) (by rw [h18.sz]; omega) rfl ?_
  rw [h18.sz, show ((20 : Int)).toNat = 20 from rfl]
  have h19 := h18.C 110 20 20
  obtain ⟨Y19, e19⟩ : ∃ Y19, Y19 = zC Y18 110 20 20 := ⟨_, rfl⟩
  rw [← e19] at h19 ⊢
  change ZP G d m_X7_init 81 [some (.ref b)] [.ref (b + 10), .ref b] Y19 _
  refine z_putR (pc' := 84) (idx := 39) (ci := 7) (f := 13) (b := b + 10) (by decide +kernel) f_RX7_39 (am_nfF rfl rfl ⟨rfl, rfl, (amM1 174 rfl (by decide +kernel))⟩) rfl h19.o h19.k rfl ?_
  have h20 := h19.put 13 (b + 10) (by simp)
  obtain ⟨Y20, e20⟩ : ∃ Y20, Y20 = zSR Y19 b (zu (zR Y19 b) 13 (some (b + 10))) := ⟨_, rfl⟩
  rw [← e20] at h20 ⊢
  refine z_ret (by decide +kernel) rfl ?_
  exact ⟨rfl, ⟨⟨h20.o, h20.k⟩, (h20.r (4, b + 1) (by simp)), (h20.a (1, 100, 20) (by simp)), (h20.r (5, b + 2) (by simp)), (h20.a (2, 100, 20) (by simp)), (h20.r (6, b + 3) (by simp)), (h20.a (3, 100, 50) (by simp)), (h20.r (7, b + 4) (by simp)), (h20.a (4, 100, 50) (by simp)), (h20.r (8, b + 5) (by simp)), (h20.a (5, 100, 50) (by simp)), (h20.r (9, b + 6) (by simp)), (h20.a (6, 100, 20) (by simp)), (h20.r (10, b + 7) (by simp)), (h20.a (7, 100, 20) (by simp)), (h20.r (11, b + 8) (by simp)), (h20.a (8, 100, 20) (by simp)), (h20.r (12, b + 9) (by simp)), (h20.a (9, 100, 20) (by simp)), (h20.r (13, b + 10) (by simp)), (h20.a (10, 110, 20) (by simp))⟩, h20.e⟩
theorem s_ctLike {G : Gx} {Z : Zm} {b d : Nat} {x y : Nat} (hk : zO Z b 5) (hs : zSz Z = b + 1) (hz : zz0 b Z) (hb2 : b < 990000) (hd : 2 ≤ d)  : ZM G d m_X5_init [.ref b, .ref x, .ref y] Z (fun r W => r = .inl none ∧ atLike W b x y ∧ ctE Z b b W 1 20) := by
  refine ZM.of [some (.ref b), some (.ref x), some (.ref y)] rfl ?_
  have h0 := ctS.init hs hk.2 hz (show b ≤ b + 1 by omega)
  refine z_aload_n (pc' := 1) (j := 0) (by decide +kernel) rfl rfl ?_
  refine z_objInit (pc' := 4) (idx := 3) (by decide +kernel) (amM2 53 rfl (by decide +kernel)) (amM1 39 rfl (by decide +kernel)) (amM1 40 rfl (by decide +kernel)) (by omega) (am_le rfl) rfl ?_
  refine z_aload_n (pc' := 5) (j := 0) (by decide +kernel) rfl rfl ?_
  refine z_bipush (pc' := 7) (n := 20) (by decide +kernel) (by decide) rfl ?_
  refine z_new100 (pc' := 9) (n := 20) (by decide +kernel) (amM1 88 rfl (by decide +kernel)) (by decide) (by decide) (by rw [h0.sz]; omega) rfl ?_
  rw [h0.sz, show ((20 : Int)).toNat = 20 from rfl]
  have h1 := h0.C 100 20 20
  obtain ⟨Y1, e1⟩ : ∃ Y1, Y1 = zC Z 100 20 20 := ⟨_, rfl⟩
  rw [← e1] at h1 ⊢
  change ZP G d m_X5_init 9 [some (.ref b), some (.ref x), some (.ref y)] [.ref (b + 1), .ref b] Y1 _
  refine z_putR (pc' := 12) (idx := 9) (ci := 5) (f := 2) (b := b + 1) (by decide +kernel) f_RX5_9 (am_nfF rfl rfl ⟨rfl, rfl, (amM2 56 rfl (by decide +kernel))⟩) rfl h1.o h1.k rfl ?_
  have h2 := h1.put 2 (b + 1) (by simp)
  obtain ⟨Y2, e2⟩ : ∃ Y2, Y2 = zSR Y1 b (zu (zR Y1 b) 2 (some (b + 1))) := ⟨_, rfl⟩
  rw [← e2] at h2 ⊢
  refine z_aload_n (pc' := 13) (j := 0) (by decide +kernel) rfl rfl ?_
  refine z_aload_n (pc' := 14) (j := 1) (by decide +kernel) rfl rfl ?_
  refine z_putR (pc' := 17) (idx := 15) (ci := 5) (f := 0) (b := x) (by decide +kernel) f_RX5_15 (am_nfF rfl rfl ⟨rfl, rfl, (amM2 54 rfl (by decide +kernel))⟩) rfl h2.o h2.k rfl ?_
  have h3 := h2.put 0 (x) (by simp)
  obtain ⟨Y3, e3⟩ : ∃ Y3, Y3 = zSR Y2 b (zu (zR Y2 b) 0 (some (x))) := ⟨_, rfl⟩
  rw [← e3] at h3 ⊢
  refine z_aload_n (pc' := 18) (j := 0) (by decide +kernel) rfl rfl ?_
  refine z_aload_n (pc' := 19) (j := 2) (by decide +kernel) rfl rfl ?_
  refine z_putR (pc' := 22) (idx := 19) (ci := 5) (f := 1) (b := y) (by decide +kernel) f_RX5_19 (am_nfF rfl rfl ⟨rfl, rfl, (amM2 55 rfl (by decide +kernel))⟩) rfl h3.o h3.k rfl ?_
  have h4 := h3.put 1 (y) (by simp)
  obtain ⟨Y4, e4⟩ : ∃ Y4, Y4 = zSR Y3 b (zu (zR Y3 b) 1 (some (y))) := ⟨_, rfl⟩
  rw [← e4] at h4 ⊢
  refine z_ret (by decide +kernel) rfl ?_
  exact ⟨rfl, ⟨⟨h4.o, h4.k⟩, (h4.r (0, x) (by simp)), (h4.r (1, y) (by simp)), (h4.r (2, b + 1) (by simp)), (h4.a (1, 100, 20) (by simp))⟩, h4.e⟩
theorem s_ctMoney {G : Gx} {Z : Zm} {b d : Nat} {x y : Nat} (hk : zO Z b 6) (hs : zSz Z = b + 1) (hz : zz0 b Z) (hb2 : b < 990000) (hd : 2 ≤ d)  : ZM G d m_X6_init [.ref b, .ref x, .ref y] Z (fun r W => r = .inl none ∧ atMoney W b x y ∧ ctE Z b b W 3 60) := by
  refine ZM.of [some (.ref b), some (.ref x), some (.ref y)] rfl ?_
  have h0 := ctS.init hs hk.2 hz (show b ≤ b + 1 by omega)
  refine z_aload_n (pc' := 1) (j := 0) (by decide +kernel) rfl rfl ?_
  refine z_objInit (pc' := 4) (idx := 3) (by decide +kernel) (amM2 100 rfl (by decide +kernel)) (amM1 39 rfl (by decide +kernel)) (amM1 40 rfl (by decide +kernel)) (by omega) (am_le rfl) rfl ?_
  refine z_aload_n (pc' := 5) (j := 0) (by decide +kernel) rfl rfl ?_
  refine z_bipush (pc' := 7) (n := 20) (by decide +kernel) (by decide) rfl ?_
  refine z_new100 (pc' := 9) (n := 20) (by decide +kernel) (amM1 88 rfl (by decide +kernel)) (by decide) (by decide) (by rw [h0.sz]; omega) rfl ?_
  rw [h0.sz, show ((20 : Int)).toNat = 20 from rfl]
  have h1 := h0.C 100 20 20
  obtain ⟨Y1, e1⟩ : ∃ Y1, Y1 = zC Z 100 20 20 := ⟨_, rfl⟩
  rw [← e1] at h1 ⊢
  change ZP G d m_X6_init 9 [some (.ref b), some (.ref x), some (.ref y)] [.ref (b + 1), .ref b] Y1 _
  refine z_putR (pc' := 12) (idx := 9) (ci := 6) (f := 2) (b := b + 1) (by decide +kernel) f_RX6_9 (am_nfF rfl rfl ⟨rfl, rfl, (amM2 103 rfl (by decide +kernel))⟩) rfl h1.o h1.k rfl ?_
  have h2 := h1.put 2 (b + 1) (by simp)
  obtain ⟨Y2, e2⟩ : ∃ Y2, Y2 = zSR Y1 b (zu (zR Y1 b) 2 (some (b + 1))) := ⟨_, rfl⟩
  rw [← e2] at h2 ⊢
  refine z_aload_n (pc' := 13) (j := 0) (by decide +kernel) rfl rfl ?_
  refine z_bipush (pc' := 15) (n := 20) (by decide +kernel) (by decide) rfl ?_
  refine z_new100 (pc' := 17) (n := 20) (by decide +kernel) (amM1 88 rfl (by decide +kernel)) (by decide) (by decide) (by rw [h2.sz]; omega) rfl ?_
  rw [h2.sz, show ((20 : Int)).toNat = 20 from rfl]
  have h3 := h2.C 100 20 20
  obtain ⟨Y3, e3⟩ : ∃ Y3, Y3 = zC Y2 100 20 20 := ⟨_, rfl⟩
  rw [← e3] at h3 ⊢
  change ZP G d m_X6_init 17 [some (.ref b), some (.ref x), some (.ref y)] [.ref (b + 2), .ref b] Y3 _
  refine z_putR (pc' := 20) (idx := 15) (ci := 6) (f := 3) (b := b + 2) (by decide +kernel) f_RX6_15 (am_nfF rfl rfl ⟨rfl, rfl, (amM2 104 rfl (by decide +kernel))⟩) rfl h3.o h3.k rfl ?_
  have h4 := h3.put 3 (b + 2) (by simp)
  obtain ⟨Y4, e4⟩ : ∃ Y4, Y4 = zSR Y3 b (zu (zR Y3 b) 3 (some (b + 2))) := ⟨_, rfl⟩
  rw [← e4] at h4 ⊢
  refine z_aload_n (pc' := 21) (j := 0) (by decide +kernel) rfl rfl ?_
  refine z_bipush (pc' := 23) (n := 20) (by decide +kernel) (by decide) rfl ?_
  refine z_new100 (pc' := 25) (n := 20) (by decide +kernel) (amM1 88 rfl (by decide +kernel)) (by decide) (by decide) (by rw [h4.sz]; omega) rfl ?_
  rw [h4.sz, show ((20 : Int)).toNat = 20 from rfl]
  have h5 := h4.C 100 20 20
  obtain ⟨Y5, e5⟩ : ∃ Y5, Y5 = zC Y4 100 20 20 := ⟨_, rfl⟩
  rw [← e5] at h5 ⊢
  change ZP G d m_X6_init 25 [some (.ref b), some (.ref x), some (.ref y)] [.ref (b + 3), .ref b] Y5 _
  refine z_putR (pc' := 28) (idx := 18) (ci := 6) (f := 4) (b := b + 3) (by decide +kernel) f_RX6_18 (am_nfF rfl rfl ⟨rfl, rfl, (amM2 105 rfl (by decide +kernel))⟩) rfl h5.o h5.k rfl ?_
  have h6 := h5.put 4 (b + 3) (by simp)
  obtain ⟨Y6, e6⟩ : ∃ Y6, Y6 = zSR Y5 b (zu (zR Y5 b) 4 (some (b + 3))) := ⟨_, rfl⟩
  rw [← e6] at h6 ⊢
  refine z_aload_n (pc' := 29) (j := 0) (by decide +kernel) rfl rfl ?_
  refine z_aload_n (pc' := 30) (j := 1) (by decide +kernel) rfl rfl ?_
  refine z_putR (pc' := 33) (idx := 21) (ci := 6) (f := 0) (b := x) (by decide +kernel) f_RX6_21 (am_nfF rfl rfl ⟨rfl, rfl, (amM2 101 rfl (by decide +kernel))⟩) rfl h6.o h6.k rfl ?_
  have h7 := h6.put 0 (x) (by simp)
  obtain ⟨Y7, e7⟩ : ∃ Y7, Y7 = zSR Y6 b (zu (zR Y6 b) 0 (some (x))) := ⟨_, rfl⟩
  rw [← e7] at h7 ⊢
  refine z_aload_n (pc' := 34) (j := 0) (by decide +kernel) rfl rfl ?_
  refine z_aload_n (pc' := 35) (j := 2) (by decide +kernel) rfl rfl ?_
  refine z_putR (pc' := 38) (idx := 25) (ci := 6) (f := 1) (b := y) (by decide +kernel) f_RX6_25 (am_nfF rfl rfl ⟨rfl, rfl, (amM2 102 rfl (by decide +kernel))⟩) rfl h7.o h7.k rfl ?_
  have h8 := h7.put 1 (y) (by simp)
  obtain ⟨Y8, e8⟩ : ∃ Y8, Y8 = zSR Y7 b (zu (zR Y7 b) 1 (some (y))) := ⟨_, rfl⟩
  rw [← e8] at h8 ⊢
  refine z_ret (by decide +kernel) rfl ?_
  exact ⟨rfl, ⟨⟨h8.o, h8.k⟩, (h8.r (0, x) (by simp)), (h8.r (1, y) (by simp)), (h8.r (2, b + 1) (by simp)), (h8.a (1, 100, 20) (by simp)), (h8.r (3, b + 2) (by simp)), (h8.a (2, 100, 20) (by simp)), (h8.r (4, b + 3) (by simp)), (h8.a (3, 100, 20) (by simp))⟩, h8.e⟩
theorem s_ctOdds {G : Gx} {Z : Zm} {b d : Nat} {x y : Nat} (hk : zO Z b 8) (hs : zSz Z = b + 1) (hz : zz0 b Z) (hb2 : b < 990000) (hd : 2 ≤ d)  : ZM G d m_X8_init [.ref b, .ref x, .ref y] Z (fun r W => r = .inl none ∧ atOdds W b x y ∧ ctE Z b b W 4 66) := by
  refine ZM.of [some (.ref b), some (.ref x), some (.ref y)] rfl ?_
  have h0 := ctS.init hs hk.2 hz (show b ≤ b + 1 by omega)
  refine z_aload_n (pc' := 1) (j := 0) (by decide +kernel) rfl rfl ?_
  refine z_objInit (pc' := 4) (idx := 3) (by decide +kernel) (amM2 128 rfl (by decide +kernel)) (amM1 39 rfl (by decide +kernel)) (amM1 40 rfl (by decide +kernel)) (by omega) (am_le rfl) rfl ?_
  refine z_aload_n (pc' := 5) (j := 0) (by decide +kernel) rfl rfl ?_
  refine z_bipush (pc' := 7) (n := 6) (by decide +kernel) (by decide) rfl ?_
  refine z_new100 (pc' := 9) (n := 6) (by decide +kernel) (amM1 88 rfl (by decide +kernel)) (by decide) (by decide) (by rw [h0.sz]; omega) rfl ?_
  rw [h0.sz, show ((6 : Int)).toNat = 6 from rfl]
  have h1 := h0.C 100 6 6
  obtain ⟨Y1, e1⟩ : ∃ Y1, Y1 = zC Z 100 6 6 := ⟨_, rfl⟩
  rw [← e1] at h1 ⊢
  change ZP G d m_X8_init 9 [some (.ref b), some (.ref x), some (.ref y)] [.ref (b + 1), .ref b] Y1 _
  refine z_putR (pc' := 12) (idx := 9) (ci := 8) (f := 2) (b := b + 1) (by decide +kernel) f_RX8_9 (am_nfF rfl rfl ⟨rfl, rfl, (amM2 131 rfl (by decide +kernel))⟩) rfl h1.o h1.k rfl ?_
  have h2 := h1.put 2 (b + 1) (by simp)
  obtain ⟨Y2, e2⟩ : ∃ Y2, Y2 = zSR Y1 b (zu (zR Y1 b) 2 (some (b + 1))) := ⟨_, rfl⟩
  rw [← e2] at h2 ⊢
  refine z_aload_n (pc' := 13) (j := 0) (by decide +kernel) rfl rfl ?_
  refine z_bipush (pc' := 15) (n := 20) (by decide +kernel) (by decide) rfl ?_
  refine z_new100 (pc' := 17) (n := 20) (by decide +kernel) (amM1 88 rfl (by decide +kernel)) (by decide) (by decide) (by rw [h2.sz]; omega) rfl ?_
  rw [h2.sz, show ((20 : Int)).toNat = 20 from rfl]
  have h3 := h2.C 100 20 20
  obtain ⟨Y3, e3⟩ : ∃ Y3, Y3 = zC Y2 100 20 20 := ⟨_, rfl⟩
  rw [← e3] at h3 ⊢
  change ZP G d m_X8_init 17 [some (.ref b), some (.ref x), some (.ref y)] [.ref (b + 2), .ref b] Y3 _
  refine z_putR (pc' := 20) (idx := 15) (ci := 8) (f := 3) (b := b + 2) (by decide +kernel) f_RX8_15 (am_nfF rfl rfl ⟨rfl, rfl, (amM2 132 rfl (by decide +kernel))⟩) rfl h3.o h3.k rfl ?_
  have h4 := h3.put 3 (b + 2) (by simp)
  obtain ⟨Y4, e4⟩ : ∃ Y4, Y4 = zSR Y3 b (zu (zR Y3 b) 3 (some (b + 2))) := ⟨_, rfl⟩
  rw [← e4] at h4 ⊢
  refine z_aload_n (pc' := 21) (j := 0) (by decide +kernel) rfl rfl ?_
  refine z_bipush (pc' := 23) (n := 20) (by decide +kernel) (by decide) rfl ?_
  refine z_new100 (pc' := 25) (n := 20) (by decide +kernel) (amM1 88 rfl (by decide +kernel)) (by decide) (by decide) (by rw [h4.sz]; omega) rfl ?_
  rw [h4.sz, show ((20 : Int)).toNat = 20 from rfl]
  have h5 := h4.C 100 20 20
  obtain ⟨Y5, e5⟩ : ∃ Y5, Y5 = zC Y4 100 20 20 := ⟨_, rfl⟩
  rw [← e5] at h5 ⊢
  change ZP G d m_X8_init 25 [some (.ref b), some (.ref x), some (.ref y)] [.ref (b + 3), .ref b] Y5 _
  refine z_putR (pc' := 28) (idx := 18) (ci := 8) (f := 4) (b := b + 3) (by decide +kernel) f_RX8_18 (am_nfF rfl rfl ⟨rfl, rfl, (amM2 133 rfl (by decide +kernel))⟩) rfl h5.o h5.k rfl ?_
  have h6 := h5.put 4 (b + 3) (by simp)
  obtain ⟨Y6, e6⟩ : ∃ Y6, Y6 = zSR Y5 b (zu (zR Y5 b) 4 (some (b + 3))) := ⟨_, rfl⟩
  rw [← e6] at h6 ⊢
  refine z_aload_n (pc' := 29) (j := 0) (by decide +kernel) rfl rfl ?_
  refine z_bipush (pc' := 31) (n := 20) (by decide +kernel) (by decide) rfl ?_
  refine z_new100 (pc' := 33) (n := 20) (by decide +kernel) (amM1 88 rfl (by decide +kernel)) (by decide) (by decide) (by rw [h6.sz]; omega) rfl ?_
  rw [h6.sz, show ((20 : Int)).toNat = 20 from rfl]
  have h7 := h6.C 100 20 20
  obtain ⟨Y7, e7⟩ : ∃ Y7, Y7 = zC Y6 100 20 20 := ⟨_, rfl⟩
  rw [← e7] at h7 ⊢
  change ZP G d m_X8_init 33 [some (.ref b), some (.ref x), some (.ref y)] [.ref (b + 4), .ref b] Y7 _
  refine z_putR (pc' := 36) (idx := 21) (ci := 8) (f := 5) (b := b + 4) (by decide +kernel) f_RX8_21 (am_nfF rfl rfl ⟨rfl, rfl, (amM2 134 rfl (by decide +kernel))⟩) rfl h7.o h7.k rfl ?_
  have h8 := h7.put 5 (b + 4) (by simp)
  obtain ⟨Y8, e8⟩ : ∃ Y8, Y8 = zSR Y7 b (zu (zR Y7 b) 5 (some (b + 4))) := ⟨_, rfl⟩
  rw [← e8] at h8 ⊢
  refine z_aload_n (pc' := 37) (j := 0) (by decide +kernel) rfl rfl ?_
  refine z_aload_n (pc' := 38) (j := 1) (by decide +kernel) rfl rfl ?_
  refine z_putR (pc' := 41) (idx := 24) (ci := 8) (f := 0) (b := x) (by decide +kernel) f_RX8_24 (am_nfF rfl rfl ⟨rfl, rfl, (amM2 129 rfl (by decide +kernel))⟩) rfl h8.o h8.k rfl ?_
  have h9 := h8.put 0 (x) (by simp)
  obtain ⟨Y9, e9⟩ : ∃ Y9, Y9 = zSR Y8 b (zu (zR Y8 b) 0 (some (x))) := ⟨_, rfl⟩
  rw [← e9] at h9 ⊢
  refine z_aload_n (pc' := 42) (j := 0) (by decide +kernel) rfl rfl ?_
  refine z_aload_n (pc' := 43) (j := 2) (by decide +kernel) rfl rfl ?_
  refine z_putR (pc' := 46) (idx := 28) (ci := 8) (f := 1) (b := y) (by decide +kernel) f_RX8_28 (am_nfF rfl rfl ⟨rfl, rfl, (amM2 130 rfl (by decide +kernel))⟩) rfl h9.o h9.k rfl ?_
  have h10 := h9.put 1 (y) (by simp)
  obtain ⟨Y10, e10⟩ : ∃ Y10, Y10 = zSR Y9 b (zu (zR Y9 b) 1 (some (y))) := ⟨_, rfl⟩
  rw [← e10] at h10 ⊢
  refine z_ret (by decide +kernel) rfl ?_
  exact ⟨rfl, ⟨⟨h10.o, h10.k⟩, (h10.r (0, x) (by simp)), (h10.r (1, y) (by simp)), (h10.r (2, b + 1) (by simp)), (h10.a (1, 100, 6) (by simp)), (h10.r (3, b + 2) (by simp)), (h10.a (2, 100, 20) (by simp)), (h10.r (4, b + 3) (by simp)), (h10.a (3, 100, 20) (by simp)), (h10.r (5, b + 4) (by simp)), (h10.a (4, 100, 20) (by simp))⟩, h10.e⟩
theorem s_ctCrane {G : Gx} {Z : Zm} {b d : Nat} {x y : Nat} (hk : zO Z b 2) (hs : zSz Z = b + 1) (hz : zz0 b Z) (hb2 : b < 990000) (hd : 2 ≤ d)  : ZM G d m_X2_init [.ref b, .ref x, .ref y] Z (fun r W => r = .inl none ∧ atCrane W b x y ∧ ctE Z b b W 9 166) := by
  refine ZM.of [some (.ref b), some (.ref x), some (.ref y)] rfl ?_
  have h0 := ctS.init hs hk.2 hz (show b ≤ b + 1 by omega)
  refine z_aload_n (pc' := 1) (j := 0) (by decide +kernel) rfl rfl ?_
  refine z_objInit (pc' := 4) (idx := 3) (by decide +kernel) (amM2 153 rfl (by decide +kernel)) (amM1 39 rfl (by decide +kernel)) (amM1 40 rfl (by decide +kernel)) (by omega) (am_le rfl) rfl ?_
  refine z_aload_n (pc' := 5) (j := 0) (by decide +kernel) rfl rfl ?_
  refine z_bipush (pc' := 7) (n := 20) (by decide +kernel) (by decide) rfl ?_
  refine z_new100 (pc' := 9) (n := 20) (by decide +kernel) (amM1 88 rfl (by decide +kernel)) (by decide) (by decide) (by rw [h0.sz]; omega) rfl ?_
  rw [h0.sz, show ((20 : Int)).toNat = 20 from rfl]
  have h1 := h0.C 100 20 20
  obtain ⟨Y1, e1⟩ : ∃ Y1, Y1 = zC Z 100 20 20 := ⟨_, rfl⟩
  rw [← e1] at h1 ⊢
  change ZP G d m_X2_init 9 [some (.ref b), some (.ref x), some (.ref y)] [.ref (b + 1), .ref b] Y1 _
  refine z_putR (pc' := 12) (idx := 9) (ci := 2) (f := 2) (b := b + 1) (by decide +kernel) f_RX2_9 (am_nfF rfl rfl ⟨rfl, rfl, (amM2 157 rfl (by decide +kernel))⟩) rfl h1.o h1.k rfl ?_
  have h2 := h1.put 2 (b + 1) (by simp)
  obtain ⟨Y2, e2⟩ : ∃ Y2, Y2 = zSR Y1 b (zu (zR Y1 b) 2 (some (b + 1))) := ⟨_, rfl⟩
  rw [← e2] at h2 ⊢
  refine z_aload_n (pc' := 13) (j := 0) (by decide +kernel) rfl rfl ?_
  refine z_bipush (pc' := 15) (n := 20) (by decide +kernel) (by decide) rfl ?_
  refine z_new100 (pc' := 17) (n := 20) (by decide +kernel) (amM1 88 rfl (by decide +kernel)) (by decide) (by decide) (by rw [h2.sz]; omega) rfl ?_
  rw [h2.sz, show ((20 : Int)).toNat = 20 from rfl]
  have h3 := h2.C 100 20 20
  obtain ⟨Y3, e3⟩ : ∃ Y3, Y3 = zC Y2 100 20 20 := ⟨_, rfl⟩
  rw [← e3] at h3 ⊢
  change ZP G d m_X2_init 17 [some (.ref b), some (.ref x), some (.ref y)] [.ref (b + 2), .ref b] Y3 _
  refine z_putR (pc' := 20) (idx := 15) (ci := 2) (f := 3) (b := b + 2) (by decide +kernel) f_RX2_15 (am_nfF rfl rfl ⟨rfl, rfl, (amM2 158 rfl (by decide +kernel))⟩) rfl h3.o h3.k rfl ?_
  have h4 := h3.put 3 (b + 2) (by simp)
  obtain ⟨Y4, e4⟩ : ∃ Y4, Y4 = zSR Y3 b (zu (zR Y3 b) 3 (some (b + 2))) := ⟨_, rfl⟩
  rw [← e4] at h4 ⊢
  refine z_aload_n (pc' := 21) (j := 0) (by decide +kernel) rfl rfl ?_
  refine z_bipush (pc' := 23) (n := 6) (by decide +kernel) (by decide) rfl ?_
  refine z_bipush (pc' := 25) (n := 20) (by decide +kernel) (by decide) rfl ?_
  refine z_multi120 (pc' := 29) (idx := 18) (n := 6) (m := 20) (by decide +kernel) (amM2 154 rfl (by decide +kernel)) (amM1 88 rfl (by decide +kernel)) (by decide) (by decide) (by decide) (by decide) (by rw [h4.sz, show ((6 : Int)).toNat = 6 from rfl]; omega) rfl ?_
  rw [h4.sz, show ((6 : Int)).toNat = 6 from rfl, show ((20 : Int)).toNat = 20 from rfl]
  have h5 := h4.M 120 100 6 20
  obtain ⟨Y5, e5⟩ : ∃ Y5, Y5 = zM Y4 120 100 6 20 := ⟨_, rfl⟩
  rw [← e5] at h5 ⊢
  change ZP G d m_X2_init 29 [some (.ref b), some (.ref x), some (.ref y)] [.ref (b + 3), .ref b] Y5 _
  refine z_putR (pc' := 32) (idx := 20) (ci := 2) (f := 4) (b := b + 3) (by decide +kernel) f_RX2_20 (am_nfF rfl rfl ⟨rfl, rfl, (amM2 159 rfl (by decide +kernel))⟩) rfl h5.o h5.k rfl ?_
  have h6 := h5.put 4 (b + 3) (by simp)
  obtain ⟨Y6, e6⟩ : ∃ Y6, Y6 = zSR Y5 b (zu (zR Y5 b) 4 (some (b + 3))) := ⟨_, rfl⟩
  rw [← e6] at h6 ⊢
  refine z_aload_n (pc' := 33) (j := 0) (by decide +kernel) rfl rfl ?_
  refine z_aload_n (pc' := 34) (j := 1) (by decide +kernel) rfl rfl ?_
  refine z_putR (pc' := 37) (idx := 23) (ci := 2) (f := 0) (b := x) (by decide +kernel) f_RX2_23 (am_nfF rfl rfl ⟨rfl, rfl, (amM2 155 rfl (by decide +kernel))⟩) rfl h6.o h6.k rfl ?_
  have h7 := h6.put 0 (x) (by simp)
  obtain ⟨Y7, e7⟩ : ∃ Y7, Y7 = zSR Y6 b (zu (zR Y6 b) 0 (some (x))) := ⟨_, rfl⟩
  rw [← e7] at h7 ⊢
  refine z_aload_n (pc' := 38) (j := 0) (by decide +kernel) rfl rfl ?_
  refine z_aload_n (pc' := 39) (j := 2) (by decide +kernel) rfl rfl ?_
  refine z_putR (pc' := 42) (idx := 27) (ci := 2) (f := 1) (b := y) (by decide +kernel) f_RX2_27 (am_nfF rfl rfl ⟨rfl, rfl, (amM2 156 rfl (by decide +kernel))⟩) rfl h7.o h7.k rfl ?_
  have h8 := h7.put 1 (y) (by simp)
  obtain ⟨Y8, e8⟩ : ∃ Y8, Y8 = zSR Y7 b (zu (zR Y7 b) 1 (some (y))) := ⟨_, rfl⟩
  rw [← e8] at h8 ⊢
  refine z_ret (by decide +kernel) rfl ?_
  exact ⟨rfl, ⟨⟨h8.o, h8.k⟩, (h8.r (0, x) (by simp)), (h8.r (1, y) (by simp)), (h8.r (2, b + 1) (by simp)), (h8.a (1, 100, 20) (by simp)), (h8.r (3, b + 2) (by simp)), (h8.a (2, 100, 20) (by simp)), (h8.r (4, b + 3) (by simp)), (h8.a (3, 120, 6) (by simp)), (h8.d (3, 4, 6, 100, 20) (by simp)).2.1, (h8.d (3, 4, 6, 100, 20) (by simp)).2.2⟩, h8.e⟩
theorem s_ctPlan {G : Gx} {Z : Zm} {b d : Nat} (hk : zO Z b 9) (hs : zSz Z = b + 1) (hz : zz0 b Z) (hb2 : b < 990000) (hd : 2 ≤ d)  : ZM G d m_X9_init [.ref b] Z (fun r W => r = .inl none ∧ atPlan W b ∧ ctE Z b (b + 1) W 9 163 ∧ zI W b 0 = 0) := by
  refine ZM.of [some (.ref b)] rfl ?_
  have h0 := ctS.init hs hk.2 (fun a ha i => hz a (by omega) i : zz0 (b + 1) Z) (show b + 1 ≤ b + 1 by omega)
  refine z_aload_n (pc' := 1) (j := 0) (by decide +kernel) rfl rfl ?_
  refine z_objInit (pc' := 4) (idx := 3) (by decide +kernel) (amM1 233 rfl (by decide +kernel)) (amM1 39 rfl (by decide +kernel)) (amM1 40 rfl (by decide +kernel)) (by omega) (am_le rfl) rfl ?_
  refine z_aload_n (pc' := 5) (j := 0) (by decide +kernel) rfl rfl ?_
  refine z_iconst (pc' := 6) (n := -1) (by decide +kernel) rfl ?_
  refine z_putI (pc' := 9) (idx := 11) (ci := 9) (f := 3) (x := -1) (by decide +kernel) f_RX9_11 (am_nf rfl rfl) rfl rfl rfl h0.o h0.k rfl ?_
  have h1 := h0.I 3 (-1) (by omega) (by decide)
  obtain ⟨Y1, e1⟩ : ∃ Y1, Y1 = zSI Z b (zu (zI Z b) 3 (-1)) := ⟨_, rfl⟩
  rw [← e1] at h1 ⊢
  refine z_aload_n (pc' := 10) (j := 0) (by decide +kernel) rfl rfl ?_
  refine z_iconst (pc' := 11) (n := 3) (by decide +kernel) rfl ?_
  refine z_new100 (pc' := 13) (n := 3) (by decide +kernel) (amM1 88 rfl (by decide +kernel)) (by decide) (by decide) (by rw [h1.sz]; omega) rfl ?_
  rw [h1.sz, show ((3 : Int)).toNat = 3 from rfl]
  have h2 := h1.C 100 3 3
  obtain ⟨Y2, e2⟩ : ∃ Y2, Y2 = zC Y1 100 3 3 := ⟨_, rfl⟩
  rw [← e2] at h2 ⊢
  change ZP G d m_X9_init 13 [some (.ref b)] [.ref (b + 1), .ref b] Y2 _
  refine z_putR (pc' := 16) (idx := 15) (ci := 9) (f := 6) (b := b + 1) (by decide +kernel) f_RX9_15 (am_nfF rfl rfl ⟨rfl, rfl, (amM2 3 rfl (by decide +kernel))⟩) rfl h2.o h2.k rfl ?_
  have h3 := h2.put 6 (b + 1) (by simp)
  obtain ⟨Y3, e3⟩ : ∃ Y3, Y3 = zSR Y2 b (zu (zR Y2 b) 6 (some (b + 1))) := ⟨_, rfl⟩
  rw [← e3] at h3 ⊢
  refine z_aload_n (pc' := 17) (j := 0) (by decide +kernel) rfl rfl ?_
  refine z_bipush (pc' := 19) (n := 20) (by decide +kernel) (by decide) rfl ?_
  refine z_new100 (pc' := 21) (n := 20) (by decide +kernel) (amM1 88 rfl (by decide +kernel)) (by decide) (by decide) (by rw [h3.sz]; omega) rfl ?_
  rw [h3.sz, show ((20 : Int)).toNat = 20 from rfl]
  have h4 := h3.C 100 20 20
  obtain ⟨Y4, e4⟩ : ∃ Y4, Y4 = zC Y3 100 20 20 := ⟨_, rfl⟩
  rw [← e4] at h4 ⊢
  change ZP G d m_X9_init 21 [some (.ref b)] [.ref (b + 2), .ref b] Y4 _
  refine z_putR (pc' := 24) (idx := 19) (ci := 9) (f := 7) (b := b + 2) (by decide +kernel) f_RX9_19 (am_nfF rfl rfl ⟨rfl, rfl, (amM2 5 rfl (by decide +kernel))⟩) rfl h4.o h4.k rfl ?_
  have h5 := h4.put 7 (b + 2) (by simp)
  obtain ⟨Y5, e5⟩ : ∃ Y5, Y5 = zSR Y4 b (zu (zR Y4 b) 7 (some (b + 2))) := ⟨_, rfl⟩
  rw [← e5] at h5 ⊢
  refine z_aload_n (pc' := 25) (j := 0) (by decide +kernel) rfl rfl ?_
  refine z_bipush (pc' := 27) (n := 20) (by decide +kernel) (by decide) rfl ?_
  refine z_new100 (pc' := 29) (n := 20) (by decide +kernel) (amM1 88 rfl (by decide +kernel)) (by decide) (by decide) (by rw [h5.sz]; omega) rfl ?_
  rw [h5.sz, show ((20 : Int)).toNat = 20 from rfl]
  have h6 := h5.C 100 20 20
  obtain ⟨Y6, e6⟩ : ∃ Y6, Y6 = zC Y5 100 20 20 := ⟨_, rfl⟩
  rw [← e6] at h6 ⊢
  change ZP G d m_X9_init 29 [some (.ref b)] [.ref (b + 3), .ref b] Y6 _
  refine z_putR (pc' := 32) (idx := 22) (ci := 9) (f := 8) (b := b + 3) (by decide +kernel) f_RX9_22 (am_nfF rfl rfl ⟨rfl, rfl, (amM2 7 rfl (by decide +kernel))⟩) rfl h6.o h6.k rfl ?_
  have h7 := h6.put 8 (b + 3) (by simp)
  obtain ⟨Y7, e7⟩ : ∃ Y7, Y7 = zSR Y6 b (zu (zR Y6 b) 8 (some (b + 3))) := ⟨_, rfl⟩
  rw [← e7] at h7 ⊢
  refine z_aload_n (pc' := 33) (j := 0) (by decide +kernel) rfl rfl ?_
  refine z_bipush (pc' := 35) (n := 20) (by decide +kernel) (by decide) rfl ?_
  refine z_new100 (pc' := 37) (n := 20) (by decide +kernel) (amM1 88 rfl (by decide +kernel)) (by decide) (by decide) (by rw [h7.sz]; omega) rfl ?_
  rw [h7.sz, show ((20 : Int)).toNat = 20 from rfl]
  have h8 := h7.C 100 20 20
  obtain ⟨Y8, e8⟩ : ∃ Y8, Y8 = zC Y7 100 20 20 := ⟨_, rfl⟩
  rw [← e8] at h8 ⊢
  change ZP G d m_X9_init 37 [some (.ref b)] [.ref (b + 4), .ref b] Y8 _
  refine z_putR (pc' := 40) (idx := 25) (ci := 9) (f := 9) (b := b + 4) (by decide +kernel) f_RX9_25 (am_nfF rfl rfl ⟨rfl, rfl, (amM2 9 rfl (by decide +kernel))⟩) rfl h8.o h8.k rfl ?_
  have h9 := h8.put 9 (b + 4) (by simp)
  obtain ⟨Y9, e9⟩ : ∃ Y9, Y9 = zSR Y8 b (zu (zR Y8 b) 9 (some (b + 4))) := ⟨_, rfl⟩
  rw [← e9] at h9 ⊢
  refine z_aload_n (pc' := 41) (j := 0) (by decide +kernel) rfl rfl ?_
  refine z_bipush (pc' := 43) (n := 20) (by decide +kernel) (by decide) rfl ?_
  refine z_new100 (pc' := 45) (n := 20) (by decide +kernel) (amM1 88 rfl (by decide +kernel)) (by decide) (by decide) (by rw [h9.sz]; omega) rfl ?_
  rw [h9.sz, show ((20 : Int)).toNat = 20 from rfl]
  have h10 := h9.C 100 20 20
  obtain ⟨Y10, e10⟩ : ∃ Y10, Y10 = zC Y9 100 20 20 := ⟨_, rfl⟩
  rw [← e10] at h10 ⊢
  change ZP G d m_X9_init 45 [some (.ref b)] [.ref (b + 5), .ref b] Y10 _
  refine z_putR (pc' := 48) (idx := 28) (ci := 9) (f := 10) (b := b + 5) (by decide +kernel) f_RX9_28 (am_nfF rfl rfl ⟨rfl, rfl, (amM2 10 rfl (by decide +kernel))⟩) rfl h10.o h10.k rfl ?_
  have h11 := h10.put 10 (b + 5) (by simp)
  obtain ⟨Y11, e11⟩ : ∃ Y11, Y11 = zSR Y10 b (zu (zR Y10 b) 10 (some (b + 5))) := ⟨_, rfl⟩
  rw [← e11] at h11 ⊢
  refine z_aload_n (pc' := 49) (j := 0) (by decide +kernel) rfl rfl ?_
  refine z_bipush (pc' := 51) (n := 20) (by decide +kernel) (by decide) rfl ?_
  refine z_new100 (pc' := 53) (n := 20) (by decide +kernel) (amM1 88 rfl (by decide +kernel)) (by decide) (by decide) (by rw [h11.sz]; omega) rfl ?_
  rw [h11.sz, show ((20 : Int)).toNat = 20 from rfl]
  have h12 := h11.C 100 20 20
  obtain ⟨Y12, e12⟩ : ∃ Y12, Y12 = zC Y11 100 20 20 := ⟨_, rfl⟩
  rw [← e12] at h12 ⊢
  change ZP G d m_X9_init 53 [some (.ref b)] [.ref (b + 6), .ref b] Y12 _
  refine z_putR (pc' := 56) (idx := 31) (ci := 9) (f := 11) (b := b + 6) (by decide +kernel) f_RX9_31 (am_nfF rfl rfl ⟨rfl, rfl, (amM2 12 rfl (by decide +kernel))⟩) rfl h12.o h12.k rfl ?_
  have h13 := h12.put 11 (b + 6) (by simp)
  obtain ⟨Y13, e13⟩ : ∃ Y13, Y13 = zSR Y12 b (zu (zR Y12 b) 11 (some (b + 6))) := ⟨_, rfl⟩
  rw [← e13] at h13 ⊢
  refine z_aload_n (pc' := 57) (j := 0) (by decide +kernel) rfl rfl ?_
  refine z_bipush (pc' := 59) (n := 20) (by decide +kernel) (by decide) rfl ?_
  refine z_new100 (pc' := 61) (n := 20) (by decide +kernel) (amM1 88 rfl (by decide +kernel)) (by decide) (by decide) (by rw [h13.sz]; omega) rfl ?_
  rw [h13.sz, show ((20 : Int)).toNat = 20 from rfl]
  have h14 := h13.C 100 20 20
  obtain ⟨Y14, e14⟩ : ∃ Y14, Y14 = zC Y13 100 20 20 := ⟨_, rfl⟩
  rw [← e14] at h14 ⊢
  change ZP G d m_X9_init 61 [some (.ref b)] [.ref (b + 7), .ref b] Y14 _
  refine z_putR (pc' := 64) (idx := 34) (ci := 9) (f := 12) (b := b + 7) (by decide +kernel) f_RX9_34 (am_nfF rfl rfl ⟨rfl, rfl, (amM2 13 rfl (by decide +kernel))⟩) rfl h14.o h14.k rfl ?_
  have h15 := h14.put 12 (b + 7) (by simp)
  obtain ⟨Y15, e15⟩ : ∃ Y15, Y15 = zSR Y14 b (zu (zR Y14 b) 12 (some (b + 7))) := ⟨_, rfl⟩
  rw [← e15] at h15 ⊢
  refine z_aload_n (pc' := 65) (j := 0) (by decide +kernel) rfl rfl ?_
  refine z_bipush (pc' := 67) (n := 20) (by decide +kernel) (by decide) rfl ?_
  refine z_new100 (pc' := 69) (n := 20) (by decide +kernel) (amM1 88 rfl (by decide +kernel)) (by decide) (by decide) (by rw [h15.sz]; omega) rfl ?_
  rw [h15.sz, show ((20 : Int)).toNat = 20 from rfl]
  have h16 := h15.C 100 20 20
  obtain ⟨Y16, e16⟩ : ∃ Y16, Y16 = zC Y15 100 20 20 := ⟨_, rfl⟩
  rw [← e16] at h16 ⊢
  change ZP G d m_X9_init 69 [some (.ref b)] [.ref (b + 8), .ref b] Y16 _
  refine z_putR (pc' := 72) (idx := 37) (ci := 9) (f := 13) (b := b + 8) (by decide +kernel) f_RX9_37 (am_nfF rfl rfl ⟨rfl, rfl, (amM2 14 rfl (by decide +kernel))⟩) rfl h16.o h16.k rfl ?_
  have h17 := h16.put 13 (b + 8) (by simp)
  obtain ⟨Y17, e17⟩ : ∃ Y17, Y17 = zSR Y16 b (zu (zR Y16 b) 13 (some (b + 8))) := ⟨_, rfl⟩
  rw [← e17] at h17 ⊢
  refine z_aload_n (pc' := 73) (j := 0) (by decide +kernel) rfl rfl ?_
  refine z_bipush (pc' := 75) (n := 20) (by decide +kernel) (by decide) rfl ?_
  refine z_new100 (pc' := 77) (n := 20) (by decide +kernel) (amM1 88 rfl (by decide +kernel)) (by decide) (by decide) (by rw [h17.sz]; omega) rfl ?_
  rw [h17.sz, show ((20 : Int)).toNat = 20 from rfl]
  have h18 := h17.C 100 20 20
  obtain ⟨Y18, e18⟩ : ∃ Y18, Y18 = zC Y17 100 20 20 := ⟨_, rfl⟩
  rw [← e18] at h18 ⊢
  change ZP G d m_X9_init 77 [some (.ref b)] [.ref (b + 9), .ref b] Y18 _
  refine z_putR (pc' := 80) (idx := 40) (ci := 9) (f := 14) (b := b + 9) (by decide +kernel) f_RX9_40 (am_nfF rfl rfl ⟨rfl, rfl, (amM2 16 rfl (by decide +kernel))⟩) rfl h18.o h18.k rfl ?_
  have h19 := h18.put 14 (b + 9) (by simp)
  obtain ⟨Y19, e19⟩ : ∃ Y19, Y19 = zSR Y18 b (zu (zR Y18 b) 14 (some (b + 9))) := ⟨_, rfl⟩
  rw [← e19] at h19 ⊢
  refine z_ret (by decide +kernel) rfl ?_
  exact ⟨rfl, ⟨⟨h19.o, h19.k⟩, (h19.r (6, b + 1) (by simp)), (h19.a (1, 100, 3) (by simp)), (h19.r (7, b + 2) (by simp)), (h19.a (2, 100, 20) (by simp)), (h19.r (8, b + 3) (by simp)), (h19.a (3, 100, 20) (by simp)), (h19.r (9, b + 4) (by simp)), (h19.a (4, 100, 20) (by simp)), (h19.r (10, b + 5) (by simp)), (h19.a (5, 100, 20) (by simp)), (h19.r (11, b + 6) (by simp)), (h19.a (6, 100, 20) (by simp)), (h19.r (12, b + 7) (by simp)), (h19.a (7, 100, 20) (by simp)), (h19.r (13, b + 8) (by simp)), (h19.a (8, 100, 20) (by simp)), (h19.r (14, b + 9) (by simp)), (h19.a (9, 100, 20) (by simp))⟩, h19.e, h19.z.trans (hz b (Nat.le_refl _) 0)⟩
theorem s_ctLevels {G : Gx} {Z : Zm} {b d : Nat} {x y : Nat} (hk : zO Z b 4) (hs : zSz Z = b + 1) (hz : zz0 b Z) (hb2 : b < 990000) (hd : 2 ≤ d) (hb : atBook Z x) (hx : x + 19 ≤ b) : ZM G d m_X4_init [.ref b, .ref x, .ref y] Z (fun r W => r = .inl none ∧ atLevels W b x y ∧ ctE Z b b W 1 20) := by
  refine ZM.of [some (.ref b), some (.ref x), some (.ref y)] rfl ?_
  have h0 := ctS.init hs hk.2 hz (show b ≤ b + 1 by omega)
  refine z_aload_n (pc' := 1) (j := 0) (by decide +kernel) rfl rfl ?_
  refine z_objInit (pc' := 4) (idx := 3) (by decide +kernel) (amM2 81 rfl (by decide +kernel)) (amM1 39 rfl (by decide +kernel)) (amM1 40 rfl (by decide +kernel)) (by omega) (am_le rfl) rfl ?_
  refine z_aload_n (pc' := 5) (j := 0) (by decide +kernel) rfl rfl ?_
  refine z_bipush (pc' := 7) (n := 20) (by decide +kernel) (by decide) rfl ?_
  refine z_new100 (pc' := 9) (n := 20) (by decide +kernel) (amM1 88 rfl (by decide +kernel)) (by decide) (by decide) (by rw [h0.sz]; omega) rfl ?_
  rw [h0.sz, show ((20 : Int)).toNat = 20 from rfl]
  have h1 := h0.C 100 20 20
  obtain ⟨Y1, e1⟩ : ∃ Y1, Y1 = zC Z 100 20 20 := ⟨_, rfl⟩
  rw [← e1] at h1 ⊢
  change ZP G d m_X4_init 9 [some (.ref b), some (.ref x), some (.ref y)] [.ref (b + 1), .ref b] Y1 _
  refine z_putR (pc' := 12) (idx := 9) (ci := 4) (f := 2) (b := b + 1) (by decide +kernel) f_RX4_9 (am_nfF rfl rfl ⟨rfl, rfl, (amM2 84 rfl (by decide +kernel))⟩) rfl h1.o h1.k rfl ?_
  have h2 := h1.put 2 (b + 1) (by simp)
  obtain ⟨Y2, e2⟩ : ∃ Y2, Y2 = zSR Y1 b (zu (zR Y1 b) 2 (some (b + 1))) := ⟨_, rfl⟩
  rw [← e2] at h2 ⊢
  refine z_aload_n (pc' := 13) (j := 0) (by decide +kernel) rfl rfl ?_
  refine z_aload_n (pc' := 14) (j := 2) (by decide +kernel) rfl rfl ?_
  refine z_putR (pc' := 17) (idx := 15) (ci := 4) (f := 0) (b := y) (by decide +kernel) f_RX4_15 (am_nfF rfl rfl ⟨rfl, rfl, (amM2 82 rfl (by decide +kernel))⟩) rfl h2.o h2.k rfl ?_
  have h3 := h2.put 0 (y) (by simp)
  obtain ⟨Y3, e3⟩ : ∃ Y3, Y3 = zSR Y2 b (zu (zR Y2 b) 0 (some (y))) := ⟨_, rfl⟩
  rw [← e3] at h3 ⊢
  refine z_aload_n (pc' := 18) (j := 0) (by decide +kernel) rfl rfl ?_
  refine z_aload_n (pc' := 19) (j := 1) (by decide +kernel) rfl rfl ?_
  refine z_getR (pc' := 22) (idx := 19) (ci := 0) (f := 0) (b := x + 1) (by decide +kernel) f_RX4_19 rfl (by rw [h3.sz]; omega) (by rw [(h3.bd.2 x (by omega)).1]; exact hb.o.2) (by rw [(h3.bd.2 x (by omega)).2.2.1]; exact hb.r0) rfl ?_
  refine z_iconst (pc' := 23) (n := 0) (by decide +kernel) rfl ?_
  refine z_aaload120 (pc' := 24) (n := 12) (b := x + 2) (by decide +kernel) ⟨by rw [h3.sz]; omega, by rw [(h3.bd.2 (x + 1) (by omega)).1]; exact hb.a0.2.1, by rw [(h3.bd.2 (x + 1) (by omega)).2.1]; exact hb.a0.2.2⟩ ⟨by decide, by decide, by decide⟩ (by rw [(h3.bd.2 (x + 1) (by omega)).2.2.1]; exact hb.e0 0 (by decide)) rfl ?_
  refine z_putR (pc' := 27) (idx := 25) (ci := 4) (f := 1) (b := x + 2) (by decide +kernel) f_RX4_25 (am_nfF rfl rfl ⟨rfl, rfl, (amM2 83 rfl (by decide +kernel))⟩) rfl h3.o h3.k rfl ?_
  have h4 := h3.put 1 (x + 2) (by simp)
  obtain ⟨Y4, e4⟩ : ∃ Y4, Y4 = zSR Y3 b (zu (zR Y3 b) 1 (some (x + 2))) := ⟨_, rfl⟩
  rw [← e4] at h4 ⊢
  refine z_ret (by decide +kernel) rfl ?_
  exact ⟨rfl, ⟨⟨h4.o, h4.k⟩, (h4.r (0, y) (by simp)), (h4.r (1, x + 2) (by simp)), (by exact ⟨by rw [h4.sz]; omega, by rw [(h4.bd.2 (x + 2) (by omega)).1]; exact (hb.x0 0 (by decide)).2.1, by rw [(h4.bd.2 (x + 2) (by omega)).2.1]; exact (hb.x0 0 (by decide)).2.2⟩), (h4.r (2, b + 1) (by simp)), (h4.a (1, 100, 20) (by simp))⟩, h4.e⟩
