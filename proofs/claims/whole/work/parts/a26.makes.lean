/-! ===== an object at work on itself ===== -/
def xE (m : Nat) (Y W : Zm) : Prop := zSz Y ≤ zSz W ∧ ∀ a, a ≠ m → a < zSz Y → zKd W a = zKd Y a ∧ zLn W a = zLn Y a ∧ zR W a = zR Y a ∧ zI W a = zI Y a
theorem xE.trans {m : Nat} {Y W V : Zm} (h1 : xE m Y W) (h2 : xE m W V) : xE m Y V := ⟨Nat.le_trans h1.1 h2.1, fun a ha hb => by
  obtain ⟨p1, p2, p3, p4⟩ := h1.2 a ha hb
  obtain ⟨q1, q2, q3, q4⟩ := h2.2 a ha (Nat.lt_of_lt_of_le hb h1.1)
  exact ⟨q1.trans p1, q2.trans p2, q3.trans p3, q4.trans p4⟩⟩
theorem xE.lo {m a hi : Nat} {Y W : Zm} (h : xE m Y W) (h1 : m < a ∨ hi ≤ m) (h2 : hi ≤ zSz Y) : zLo a hi Y W := ⟨h.1, fun c hc hd => by
  obtain ⟨p1, p2, p3, p4⟩ := h.2 c (by omega) (by omega)
  exact ⟨p1, p2, p3⟩⟩
theorem xE.i {m a : Nat} {Y W : Zm} (h : xE m Y W) (h1 : a ≠ m) (h2 : a < zSz Y) : zI W a = zI Y a := (h.2 a h1 h2).2.2.2
theorem xE.r {m a : Nat} {Y W : Zm} (h : xE m Y W) (h1 : a ≠ m) (h2 : a < zSz Y) : zR W a = zR Y a := (h.2 a h1 h2).2.2.1
theorem xE.A {m a k n : Nat} {Y W : Zm} (h : xE m Y W) (h1 : a ≠ m) (ha : zA Y a k n) : zA W a k n := by
  obtain ⟨p1, p2, p3, p4⟩ := h.2 a h1 ha.1
  exact ⟨Nat.lt_of_lt_of_le ha.1 h.1, p1.trans ha.2.1, p2.trans ha.2.2⟩
theorem xI.e {m : Nat} {Y W : Zm} (h : xI 0 Y W) : xE m Y W := ⟨h.1, fun a _ hb => h.2 a (Nat.zero_le _) hb⟩
theorem xE.put (Y : Zm) (m : Nat) (f : Nat → Option Nat) : xE m Y (zSR Y m f) := ⟨Nat.le_refl _, fun a ha _ => ⟨rfl, rfl, zSR_other ha, rfl⟩⟩
theorem xE.refl (m : Nat) (Y : Zm) : xE m Y Y := ⟨Nat.le_refl _, fun a _ _ => ⟨rfl, rfl, rfl, rfl⟩⟩
def mnS (m k s w : Nat) (R : List (Nat × Nat)) (Y : Zm) : Prop := ((zSz Y = s ∧ zSl Y ≤ w) ∧ zKd Y m = k ∧ m < s) ∧ (∀ i, zI Y m i = 0) ∧ zz0 s Y ∧ ∀ q, q ∈ R → zR Y m q.1 = some q.2
section
variable {m k s w : Nat} {R : List (Nat × Nat)} {Y : Zm}
theorem mnS.sz (h : mnS m k s w R Y) : zSz Y = s := h.1.1.1
theorem mnS.o (h : mnS m k s w R Y) : m < zSz Y := by rw [h.sz]; exact h.1.2.2
theorem mnS.kd (h : mnS m k s w R Y) : zKd Y m = k := h.1.2.1
theorem mnS.r (h : mnS m k s w R Y) : ∀ q, q ∈ R → zR Y m q.1 = some q.2 := h.2.2.2
theorem mnS.zo (h : mnS m k s w R Y) (ci N : Nat) : zO (zC Y ci 0 N) s ci := by
  have g := zA_C Y ci 0 N
  rw [h.sz] at g
  exact ⟨g.1, g.2.1⟩
theorem mnS.zs (h : mnS m k s w R Y) (ci n N : Nat) : zSz (zC Y ci n N) = s + 1 := by
  show zSz Y + 1 = s + 1
  rw [h.sz]
theorem mnS.zz (h : mnS m k s w R Y) (ci n N : Nat) : zz0 s (zC Y ci n N) := fun a ha i => by
  show (if a = zSz Y then fun _ => 0 else zI Y a) i = 0
  by_cases e : a = zSz Y
  · rw [if_pos e]
  · rw [if_neg e]
    exact h.2.2.1 a ha i
theorem mnS.up {s' w' : Nat} {W : Zm} (h : mnS m k s w R Y) (x : xI 0 Y W) (h1 : zSz W = s') (h2 : zSl W ≤ w') (h3 : zz0 s' W) : mnS m k s' w' R W := by
  obtain ⟨p1, p2, p3, p4⟩ := x.2 m (Nat.zero_le _) h.o
  have g := x.1
  rw [h1, h.sz] at g
  exact ⟨⟨⟨h1, h2⟩, p1.trans h.kd, Nat.lt_of_lt_of_le h.1.2.2 g⟩, fun i => by rw [p4]; exact h.2.1 i, h3, fun q hq => by rw [p3]; exact h.r q hq⟩
theorem mnS.x (h : mnS m k s w R Y) {W : Zm} {ci N t c x : Nat} (e : ctE (zC Y ci 0 N) s t W c x) : xI 0 Y W := by
  rw [← h.sz] at e
  exact xI.sub e
theorem mnS.sub (h : mnS m k s w R Y) {W : Zm} {ci N t c x s' w' : Nat} (e : ctE (zC Y ci 0 N) s t W c x) (h1 : s + 1 + c = s') (h2 : w + N + x ≤ w') (h3 : t ≤ s') : mnS m k s' w' R W := h.up (h.x e) (e.1.trans h1) (by
  have g : zSl W ≤ zSl Y + N + x := e.2.1
  have g2 := h.1.1.2
  omega) fun a ha i => e.2.2.2 a (Nat.le_trans h3 ha) i
theorem mnS.C (h : mnS m k s w R Y) (kd n x : Nat) {s' w' : Nat} (h1 : s + 1 = s') (h2 : w + x ≤ w') : mnS m k s' w' R (zC Y kd n x) := h.up (xI.C Y kd n x) ((h.zs kd n x).trans h1) (by
  have g2 := h.1.1.2
  show zSl Y + x ≤ w'
  omega) fun a ha i => h.zz kd n x a (by omega) i
theorem mnS.M (h : mnS m k s w R Y) (kO kI n j : Nat) {s' w' : Nat} (h1 : s + (1 + n) = s') (h2 : w + (n + n * j) ≤ w') : mnS m k s' w' R (zM Y kO kI n j) := h.up (xI.M Y kO kI n j) (by
  show zSz Y + (1 + n) = s'
  rw [h.sz]
  exact h1) (by
  have g2 := h.1.1.2
  show zSl Y + (n + n * j) ≤ w'
  omega) fun a ha i => by
    show (if a < zSz Y then zI Y a else fun _ => 0) i = 0
    rw [if_neg (by rw [h.sz]; omega)]
theorem mnS.put (h : mnS m k s w R Y) (f v : Nat) (hn : ∀ q, q ∈ R → q.1 ≠ f) : mnS m k s w ((f, v) :: R) (zSR Y m (zu (zR Y m) f (some v))) := ⟨h.1, h.2.1, h.2.2.1, fun q hq => by
  rw [zSR_same]
  rcases List.mem_cons.mp hq with rfl | hq
  · exact zu_same _ _ _
  · rw [zu_other (hn q hq)]
    exact h.r q hq⟩
theorem mnS.si (h : mnS m k s w R Y) (a : Nat) (f : Nat → Int) (h1 : a ≠ m) (h2 : a < s) : mnS m k s w R (zSI Y a f) := ⟨h.1, fun i => by rw [zI_other (Ne.symm h1)]; exact h.2.1 i, fun c hc i => by rw [zI_other (by omega)]; exact h.2.2.1 c hc i, h.r⟩
end
theorem xI.si {Y W : Zm} (h : xI 0 Y W) (a : Nat) (f : Nat → Int) (ha : zSz Y ≤ a) : xI 0 Y (zSI W a f) := ⟨h.1, fun c hc hd => by
  obtain ⟨p1, p2, p3, p4⟩ := h.2 c hc hd
  exact ⟨p1, p2, p3, (zI_other (by omega)).trans p4⟩⟩
theorem zA_M {Y : Zm} {kO kI n m : Nat} : zA (zM Y kO kI n m) (zSz Y) kO n ∧ (∀ i, i < n → zR (zM Y kO kI n m) (zSz Y) i = some (zSz Y + 1 + i)) ∧ ∀ i, i < n → zA (zM Y kO kI n m) (zSz Y + 1 + i) kI m := by
  have sM : zSz (zM Y kO kI n m) = zSz Y + (1 + n) := rfl
  refine ⟨⟨by rw [sM]; omega, ?_, ?_⟩, fun i hi => ?_, fun i hi => ⟨by rw [sM]; omega, ?_, ?_⟩⟩
  · show (if zSz Y < zSz Y then _ else if zSz Y = zSz Y then kO else kI) = kO
    rw [if_neg (Nat.lt_irrefl _), if_pos rfl]
  · show (if zSz Y < zSz Y then _ else if zSz Y = zSz Y then n else m) = n
    rw [if_neg (Nat.lt_irrefl _), if_pos rfl]
  · show (if zSz Y < zSz Y then zR Y (zSz Y) else if zSz Y = zSz Y then fun i => if i < n then some (zSz Y + 1 + i) else none else fun _ => none) i = _
    rw [if_neg (Nat.lt_irrefl _), if_pos rfl, if_pos hi]
  · show (if zSz Y + 1 + i < zSz Y then _ else if zSz Y + 1 + i = zSz Y then kO else kI) = kI
    rw [if_neg (by omega), if_neg (by omega)]
  · show (if zSz Y + 1 + i < zSz Y then _ else if zSz Y + 1 + i = zSz Y then n else m) = m
    rw [if_neg (by omega), if_neg (by omega)]
theorem ckE.e {Z W : Zm} {b : Nat} (h : ckE Z b W) : ctE Z b (b + 6) W 7 716 := ⟨h.2.1.1, h.2.1.2, h.2.2.1, h.2.2.2.1⟩
def st0 : St := (k0, (0, fun _ => k0), (0, fun _ => 0), (fun _ _ => 1), (fun _ => 1), (0, fun _ => 0), none, (0, fun _ => 0))
theorem st0_IC {Y : Zm} (al : atAll Y) (z1 : ∀ i, zI Y 1 i = 0) (z39 : ∀ i, zI Y 39 i = 0) (z231 : ∀ i, zI Y 231 i = 0) (z233 : ∀ i, zI Y 233 i = 0) (z256 : zI Y 256 0 = 0) (zW : ∀ c t, c < 4 → t < 168 → zI Y (246 + c) t = 1) (zH : ∀ i, i < 3 → zI Y 252 i = 1) (z0 : ∀ i, zI Y 0 i = 0) : IC Y st0 :=
  ⟨al, ⟨z1 3, z1 4, fun r t _ ht => absurd ht (Nat.not_lt_zero _), fun j hj => absurd hj (Nat.not_lt_zero _)⟩, ⟨z39 1, 0, by decide, z39 2, fun i hi => absurd hi (Nat.not_lt_zero _)⟩, ⟨z231 1, fun i hi => absurd hi (Nat.not_lt_zero _)⟩, .inl (z233 0), zW, zH, ⟨z0 8, fun i hi => absurd hi (Nat.not_lt_zero _)⟩, ⟨fun _ => z256, fun p hp => nomatch hp⟩, z0 14, fun i hi => absurd hi (Nat.not_lt_zero _)⟩
theorem s_ctMain {G : Gx} {Z : Zm} {d w0 : Nat} (h0 : mnS 0 11 1 w0 [] Z) (hd : 6 ≤ d) : ZM G d m_X11_init [.ref 0] Z (fun r W => r = .inl none ∧ IC W st0 ∧ (zSz W = 300 ∧ zSl W ≤ w0 + 7081) ∧ zz0 300 W ∧ zI W 233 0 = 0) := by
  refine ZM.of [some (.ref 0)] rfl ?_
  refine z_aload_n (pc' := 1) (j := 0) (by decide +kernel) rfl rfl ?_
  refine z_objInit (pc' := 4) (idx := 1) (by decide +kernel) (amM1 38 rfl (by decide +kernel)) (amM1 39 rfl (by decide +kernel)) (amM1 40 rfl (by decide +kernel)) (by omega) (am_le rfl) rfl ?_
  refine z_aload_n (pc' := 5) (j := 0) (by decide +kernel) rfl rfl ?_
  refine z_new (pc' := 8) (idx := 7) (ci := 0) (N := 5) (by decide +kernel) rfl (by decide) (amM1 41 rfl (by decide +kernel)) (amM1 42 rfl (by decide +kernel)) (amM1 2 rfl (by decide +kernel)) (by decide) (by rw [h0.sz]; decide) rfl ?_
  rw [h0.sz]
  refine z_dup (pc' := 9) (by decide +kernel) rfl rfl ?_
  refine z_callI (pc' := 12) (idx := 9) (mj := m_X0_init) (av := []) (b := 1) (n := 0) (d' := d - 1) (by decide +kernel) rfl k_X0_init l_RX11_9 rfl (by omega) (am_le rfl) rfl (am_le rfl) (h0.zo 0 5).1 rfl (ZM.mono (s_ctBook (b := 1) (d := d - 1)  (h0.zo 0 5) (h0.zs 0 0 5) (h0.zz 0 0 5) (by decide) (by omega)) fun r Y1 hw => ?_)
  obtain ⟨rfl, a1, c1⟩ := hw
  have x1 := (h0.x c1).e (m := 0)
  have h1 : mnS 0 11 20 (w0 + 430) [] _ := h0.sub c1 rfl (by omega) (by decide)
  change ZP G d m_X11_init 12 [some (.ref 0)] [.ref 1, .ref 0] Y1 _
  refine z_putR (pc' := 15) (idx := 10) (ci := 11) (f := 0) (b := 1) (by decide +kernel) f_RX11_10 (am_nfF rfl rfl ⟨rfl, rfl, (amM2 177 rfl (by decide +kernel))⟩) rfl h1.o h1.kd rfl ?_
  have x2 := xE.put Y1 0 (zu (zR Y1 0) 0 (some 1))
  have h2 : mnS 0 11 20 (w0 + 430) [(0, 1)] _ := h1.put 0 1 (by simp)
  obtain ⟨Y2, e2⟩ : ∃ Y2, Y2 = zSR Y1 0 (zu (zR Y1 0) 0 (some 1)) := ⟨_, rfl⟩
  rw [← e2] at h2 x2 ⊢
  refine z_aload_n (pc' := 16) (j := 0) (by decide +kernel) rfl rfl ?_
  refine z_new (pc' := 19) (idx := 7) (ci := 0) (N := 5) (by decide +kernel) rfl (by decide) (amM1 41 rfl (by decide +kernel)) (amM1 42 rfl (by decide +kernel)) (amM1 2 rfl (by decide +kernel)) (by decide) (by rw [h2.sz]; decide) rfl ?_
  rw [h2.sz]
  refine z_dup (pc' := 20) (by decide +kernel) rfl rfl ?_
  refine z_callI (pc' := 23) (idx := 9) (mj := m_X0_init) (av := []) (b := 20) (n := 0) (d' := d - 1) (by decide +kernel) rfl k_X0_init l_RX11_9 rfl (by omega) (am_le rfl) rfl (am_le rfl) (h2.zo 0 5).1 rfl (ZM.mono (s_ctBook (b := 20) (d := d - 1)  (h2.zo 0 5) (h2.zs 0 0 5) (h2.zz 0 0 5) (by decide) (by omega)) fun r Y3 hw => ?_)
  obtain ⟨rfl, a3, c3⟩ := hw
  have x3 := (h2.x c3).e (m := 0)
  have h3 : mnS 0 11 39 (w0 + 860) [(0, 1)] _ := h2.sub c3 rfl (by omega) (by decide)
  change ZP G d m_X11_init 23 [some (.ref 0)] [.ref 20, .ref 0] Y3 _
  refine z_putR (pc' := 26) (idx := 16) (ci := 11) (f := 1) (b := 20) (by decide +kernel) f_RX11_16 (am_nfF rfl rfl ⟨rfl, rfl, (amM2 178 rfl (by decide +kernel))⟩) rfl h3.o h3.kd rfl ?_
  have x4 := xE.put Y3 0 (zu (zR Y3 0) 1 (some 20))
  have h4 : mnS 0 11 39 (w0 + 860) [(1, 20), (0, 1)] _ := h3.put 1 20 (by simp)
  obtain ⟨Y4, e4⟩ : ∃ Y4, Y4 = zSR Y3 0 (zu (zR Y3 0) 1 (some 20)) := ⟨_, rfl⟩
  rw [← e4] at h4 x4 ⊢
  refine z_aload_n (pc' := 27) (j := 0) (by decide +kernel) rfl rfl ?_
  refine z_new (pc' := 30) (idx := 19) (ci := 3) (N := 3) (by decide +kernel) rfl (by decide) (amM1 89 rfl (by decide +kernel)) (amM1 90 rfl (by decide +kernel)) (amM1 3 rfl (by decide +kernel)) (by decide) (by rw [h4.sz]; decide) rfl ?_
  rw [h4.sz]
  refine z_dup (pc' := 31) (by decide +kernel) rfl rfl ?_
  refine z_callI (pc' := 34) (idx := 21) (mj := m_X3_init) (av := []) (b := 39) (n := 0) (d' := d - 1) (by decide +kernel) rfl k_X3_init l_RX11_21 rfl (by omega) (am_le rfl) rfl (am_le rfl) (h4.zo 3 3).1 rfl (ZM.mono (s_ctHist (b := 39) (d := d - 1)  (h4.zo 3 3) (h4.zs 3 0 3) (h4.zz 3 0 3) (by decide) (by omega)) fun r Y5 hw => ?_)
  obtain ⟨rfl, a5, c5⟩ := hw
  have x5 := (h4.x c5).e (m := 0)
  have h5 : mnS 0 11 231 (w0 + 5173) [(1, 20), (0, 1)] _ := h4.sub c5 rfl (by omega) (by decide)
  change ZP G d m_X11_init 34 [some (.ref 0)] [.ref 39, .ref 0] Y5 _
  refine z_putR (pc' := 37) (idx := 22) (ci := 11) (f := 2) (b := 39) (by decide +kernel) f_RX11_22 (am_nfF rfl rfl ⟨rfl, rfl, (amM2 179 rfl (by decide +kernel))⟩) rfl h5.o h5.kd rfl ?_
  have x6 := xE.put Y5 0 (zu (zR Y5 0) 2 (some 39))
  have h6 : mnS 0 11 231 (w0 + 5173) [(2, 39), (1, 20), (0, 1)] _ := h5.put 2 39 (by simp)
  obtain ⟨Y6, e6⟩ : ∃ Y6, Y6 = zSR Y5 0 (zu (zR Y5 0) 2 (some 39)) := ⟨_, rfl⟩
  rw [← e6] at h6 x6 ⊢
  refine z_aload_n (pc' := 38) (j := 0) (by decide +kernel) rfl rfl ?_
  refine z_new (pc' := 41) (idx := 26) (ci := 10) (N := 3) (by decide +kernel) rfl (by decide) (amM1 109 rfl (by decide +kernel)) (amM1 110 rfl (by decide +kernel)) (amM1 4 rfl (by decide +kernel)) (by decide) (by rw [h6.sz]; decide) rfl ?_
  rw [h6.sz]
  refine z_dup (pc' := 42) (by decide +kernel) rfl rfl ?_
  refine z_callI (pc' := 45) (idx := 28) (mj := m_X10_init) (av := []) (b := 231) (n := 0) (d' := d - 1) (by decide +kernel) rfl k_X10_init l_RX11_28 rfl (by omega) (am_le rfl) rfl (am_le rfl) (h6.zo 10 3).1 rfl (ZM.mono (s_ctText (b := 231) (d := d - 1)  (h6.zo 10 3) (h6.zs 10 0 3) (h6.zz 10 0 3) (by decide) (by omega)) fun r Y7 hw => ?_)
  obtain ⟨rfl, a7, c7⟩ := hw
  have x7 := (h6.x c7).e (m := 0)
  have h7 : mnS 0 11 233 (w0 + 5256) [(2, 39), (1, 20), (0, 1)] _ := h6.sub c7 rfl (by omega) (by decide)
  change ZP G d m_X11_init 45 [some (.ref 0)] [.ref 231, .ref 0] Y7 _
  refine z_putR (pc' := 48) (idx := 29) (ci := 11) (f := 3) (b := 231) (by decide +kernel) f_RX11_29 (am_nfF rfl rfl ⟨rfl, rfl, (amM2 180 rfl (by decide +kernel))⟩) rfl h7.o h7.kd rfl ?_
  have x8 := xE.put Y7 0 (zu (zR Y7 0) 3 (some 231))
  have h8 : mnS 0 11 233 (w0 + 5256) [(3, 231), (2, 39), (1, 20), (0, 1)] _ := h7.put 3 231 (by simp)
  obtain ⟨Y8, e8⟩ : ∃ Y8, Y8 = zSR Y7 0 (zu (zR Y7 0) 3 (some 231)) := ⟨_, rfl⟩
  rw [← e8] at h8 x8 ⊢
  refine z_aload_n (pc' := 49) (j := 0) (by decide +kernel) rfl rfl ?_
  refine z_new (pc' := 52) (idx := 33) (ci := 7) (N := 14) (by decide +kernel) rfl (by decide) (amM1 128 rfl (by decide +kernel)) (amM1 129 rfl (by decide +kernel)) (amM1 5 rfl (by decide +kernel)) (by decide) (by rw [h8.sz]; decide) rfl ?_
  rw [h8.sz]
  refine z_dup (pc' := 53) (by decide +kernel) rfl rfl ?_
  refine z_callI (pc' := 56) (idx := 35) (mj := m_X7_init) (av := []) (b := 233) (n := 0) (d' := d - 1) (by decide +kernel) rfl k_X7_init l_RX11_35 rfl (by omega) (am_le rfl) rfl (am_le rfl) (h8.zo 7 14).1 rfl (ZM.mono (s_ctNet (b := 233) (d := d - 1)  (h8.zo 7 14) (h8.zs 7 0 14) (h8.zz 7 0 14) (by decide) (by omega)) fun r Y9 hw => ?_)
  obtain ⟨rfl, a9, c9⟩ := hw
  have x9 := (h8.x c9).e (m := 0)
  have h9 : mnS 0 11 244 (w0 + 5560) [(3, 231), (2, 39), (1, 20), (0, 1)] _ := h8.sub c9 rfl (by omega) (by decide)
  change ZP G d m_X11_init 56 [some (.ref 0)] [.ref 233, .ref 0] Y9 _
  refine z_putR (pc' := 59) (idx := 36) (ci := 11) (f := 4) (b := 233) (by decide +kernel) f_RX11_36 (am_nfF rfl rfl ⟨rfl, rfl, (amM2 181 rfl (by decide +kernel))⟩) rfl h9.o h9.kd rfl ?_
  have x10 := xE.put Y9 0 (zu (zR Y9 0) 4 (some 233))
  have h10 : mnS 0 11 244 (w0 + 5560) [(4, 233), (3, 231), (2, 39), (1, 20), (0, 1)] _ := h9.put 4 233 (by simp)
  obtain ⟨Y10, e10⟩ : ∃ Y10, Y10 = zSR Y9 0 (zu (zR Y9 0) 4 (some 233)) := ⟨_, rfl⟩
  rw [← e10] at h10 x10 ⊢
  refine z_aload_n (pc' := 60) (j := 0) (by decide +kernel) rfl rfl ?_
  refine z_new (pc' := 63) (idx := 40) (ci := 1) (N := 3) (by decide +kernel) rfl (by decide) (amM1 205 rfl (by decide +kernel)) (amM1 206 rfl (by decide +kernel)) (amM1 6 rfl (by decide +kernel)) (by decide) (by rw [h10.sz]; decide) rfl ?_
  rw [h10.sz]
  refine z_dup (pc' := 64) (by decide +kernel) rfl rfl ?_
  refine z_callI (pc' := 67) (idx := 42) (mj := m_X1_init) (av := []) (b := 244) (n := 0) (d' := d - 1) (by decide +kernel) rfl k_X1_init l_RX11_42 rfl (by omega) (am_le rfl) rfl (am_le rfl) (h10.zo 1 3).1 rfl (ZM.mono (s_ctClock (b := 244) (d := d - 1)  (h10.zo 1 3) (h10.zs 1 0 3) (h10.zz 1 0 3) (by decide) (by omega)) fun r Y11 hw => ?_)
  obtain ⟨rfl, ck⟩ := hw
  have c11 := ck.e
  have a11 := ck.1
  have x11 := (h10.x c11).e (m := 0)
  have h11 : mnS 0 11 252 (w0 + 6279) [(4, 233), (3, 231), (2, 39), (1, 20), (0, 1)] _ := h10.sub c11 rfl (by omega) (by decide)
  change ZP G d m_X11_init 67 [some (.ref 0)] [.ref 244, .ref 0] Y11 _
  refine z_putR (pc' := 70) (idx := 43) (ci := 11) (f := 5) (b := 244) (by decide +kernel) f_RX11_43 (am_nfF rfl rfl ⟨rfl, rfl, (amM2 182 rfl (by decide +kernel))⟩) rfl h11.o h11.kd rfl ?_
  have x12 := xE.put Y11 0 (zu (zR Y11 0) 5 (some 244))
  have h12 : mnS 0 11 252 (w0 + 6279) [(5, 244), (4, 233), (3, 231), (2, 39), (1, 20), (0, 1)] _ := h11.put 5 244 (by simp)
  obtain ⟨Y12, e12⟩ : ∃ Y12, Y12 = zSR Y11 0 (zu (zR Y11 0) 5 (some 244)) := ⟨_, rfl⟩
  rw [← e12] at h12 x12 ⊢
  refine z_aload_n (pc' := 71) (j := 0) (by decide +kernel) rfl rfl ?_
  refine z_iconst (pc' := 72) (n := 3) (by decide +kernel) rfl ?_
  refine z_new100 (pc' := 74) (n := 3) (by decide +kernel) (amM1 88 rfl (by decide +kernel)) (by decide) (by decide) (by rw [h12.sz]; decide) rfl ?_
  rw [h12.sz, show ((3 : Int)).toNat = 3 from rfl]
  have x13 := (xI.C Y12 100 3 3).e (m := 0)
  have a13 := zA_C Y12 100 3 3
  rw [h12.sz] at a13
  have h13 : mnS 0 11 253 (w0 + 6282) [(5, 244), (4, 233), (3, 231), (2, 39), (1, 20), (0, 1)] _ := h12.C 100 3 3 rfl (by omega)
  obtain ⟨Y13, e13⟩ : ∃ Y13, Y13 = zC Y12 100 3 3 := ⟨_, rfl⟩
  rw [← e13] at h13 x13 a13 ⊢
  change ZP G d m_X11_init 74 [some (.ref 0)] [.ref 252, .ref 0] Y13 _
  refine z_dup (pc' := 75) (by decide +kernel) rfl rfl ?_
  refine z_iconst (pc' := 76) (n := 0) (by decide +kernel) rfl ?_
  refine z_iconst (pc' := 77) (n := 1) (by decide +kernel) rfl ?_
  refine z_iastore (pc' := 78) (by decide +kernel) (show zA (Y13) 252 100 3 from a13) ⟨by decide, by decide, by decide⟩ rfl ?_
  refine z_dup (pc' := 79) (by decide +kernel) rfl rfl ?_
  refine z_iconst (pc' := 80) (n := 1) (by decide +kernel) rfl ?_
  refine z_iconst (pc' := 81) (n := 1) (by decide +kernel) rfl ?_
  refine z_iastore (pc' := 82) (by decide +kernel) (show zA (zSI (Y13) 252 (zu (zI (Y13) 252) 0 1)) 252 100 3 from a13) ⟨by decide, by decide, by decide⟩ rfl ?_
  refine z_dup (pc' := 83) (by decide +kernel) rfl rfl ?_
  refine z_iconst (pc' := 84) (n := 2) (by decide +kernel) rfl ?_
  refine z_iconst (pc' := 85) (n := 1) (by decide +kernel) rfl ?_
  refine z_iastore (pc' := 86) (by decide +kernel) (show zA (zSI (zSI (Y13) 252 (zu (zI (Y13) 252) 0 1)) 252 (zu (zI (zSI (Y13) 252 (zu (zI (Y13) 252) 0 1)) 252) 1 1)) 252 100 3 from a13) ⟨by decide, by decide, by decide⟩ rfl ?_
  change ZP G d m_X11_init 86 [some (.ref 0)] [.ref 252, .ref 0] (zSI (zSI (zSI (Y13) 252 (zu (zI (Y13) 252) 0 1)) 252 (zu (zI (zSI (Y13) 252 (zu (zI (Y13) 252) 0 1)) 252) 1 1)) 252 (zu (zI (zSI (zSI (Y13) 252 (zu (zI (Y13) 252) 0 1)) 252 (zu (zI (zSI (Y13) 252 (zu (zI (Y13) 252) 0 1)) 252) 1 1)) 252) 2 1)) _
  obtain ⟨V13, v13⟩ : ∃ V13, V13 = zSI (zSI (zSI (Y13) 252 (zu (zI (Y13) 252) 0 1)) 252 (zu (zI (zSI (Y13) 252 (zu (zI (Y13) 252) 0 1)) 252) 1 1)) 252 (zu (zI (zSI (zSI (Y13) 252 (zu (zI (Y13) 252) 0 1)) 252 (zu (zI (zSI (Y13) 252 (zu (zI (Y13) 252) 0 1)) 252) 1 1)) 252) 2 1) := ⟨_, rfl⟩
  have h13' : mnS 0 11 253 (w0 + 6282) [(5, 244), (4, 233), (3, 231), (2, 39), (1, 20), (0, 1)] V13 := by rw [v13]; exact (((h13.si 252 _ (by decide) (by decide)).si 252 _ (by decide) (by decide)).si 252 _ (by decide) (by decide))
  have x13' : xE 0 Y12 V13 := by
    have g := xI.C Y12 100 3 3
    rw [← e13] at g
    rw [v13]
    exact (((g.si 252 _ (by rw [h12.sz]; decide)).si 252 _ (by rw [h12.sz]; decide)).si 252 _ (by rw [h12.sz]; decide)).e
  have a13' : zA V13 252 100 3 := by rw [v13]; exact a13
  have on : ∀ i, i < 3 → zI V13 252 i = 1 := fun i hi => by
    rw [v13, zI_same, zI_same, zI_same]
    rcases (by omega : i = 0 ∨ i = 1 ∨ i = 2) with rfl | rfl | rfl <;> rfl
  rw [← v13]
  clear x13
  refine z_putR (pc' := 89) (idx := 47) (ci := 11) (f := 6) (b := 252) (by decide +kernel) f_RX11_47 (am_nfF rfl rfl ⟨rfl, rfl, (amM2 183 rfl (by decide +kernel))⟩) rfl h13'.o h13'.kd rfl ?_
  have x14 := xE.put V13 0 (zu (zR V13 0) 6 (some 252))
  have h14 : mnS 0 11 253 (w0 + 6282) [(6, 252), (5, 244), (4, 233), (3, 231), (2, 39), (1, 20), (0, 1)] _ := h13'.put 6 252 (by simp)
  obtain ⟨Y14, e14⟩ : ∃ Y14, Y14 = zSR V13 0 (zu (zR V13 0) 6 (some 252)) := ⟨_, rfl⟩
  rw [← e14] at h14 x14 ⊢
  refine z_aload_n (pc' := 90) (j := 0) (by decide +kernel) rfl rfl ?_
  refine z_bipush (pc' := 92) (n := 20) (by decide +kernel) (by decide) rfl ?_
  refine z_new100 (pc' := 94) (n := 20) (by decide +kernel) (amM1 88 rfl (by decide +kernel)) (by decide) (by decide) (by rw [h14.sz]; decide) rfl ?_
  rw [h14.sz, show ((20 : Int)).toNat = 20 from rfl]
  have x15 := (xI.C Y14 100 20 20).e (m := 0)
  have a15 := zA_C Y14 100 20 20
  rw [h14.sz] at a15
  have h15 : mnS 0 11 254 (w0 + 6302) [(6, 252), (5, 244), (4, 233), (3, 231), (2, 39), (1, 20), (0, 1)] _ := h14.C 100 20 20 rfl (by omega)
  obtain ⟨Y15, e15⟩ : ∃ Y15, Y15 = zC Y14 100 20 20 := ⟨_, rfl⟩
  rw [← e15] at h15 x15 a15 ⊢
  change ZP G d m_X11_init 94 [some (.ref 0)] [.ref 253, .ref 0] Y15 _
  refine z_putR (pc' := 97) (idx := 51) (ci := 11) (f := 7) (b := 253) (by decide +kernel) f_RX11_51 (am_nfF rfl rfl ⟨rfl, rfl, (amM2 184 rfl (by decide +kernel))⟩) rfl h15.o h15.kd rfl ?_
  have x16 := xE.put Y15 0 (zu (zR Y15 0) 7 (some 253))
  have h16 : mnS 0 11 254 (w0 + 6302) [(7, 253), (6, 252), (5, 244), (4, 233), (3, 231), (2, 39), (1, 20), (0, 1)] _ := h15.put 7 253 (by simp)
  obtain ⟨Y16, e16⟩ : ∃ Y16, Y16 = zSR Y15 0 (zu (zR Y15 0) 7 (some 253)) := ⟨_, rfl⟩
  rw [← e16] at h16 x16 ⊢
  refine z_aload_n (pc' := 98) (j := 0) (by decide +kernel) rfl rfl ?_
  refine z_bipush (pc' := 100) (n := 20) (by decide +kernel) (by decide) rfl ?_
  refine z_new100 (pc' := 102) (n := 20) (by decide +kernel) (amM1 88 rfl (by decide +kernel)) (by decide) (by decide) (by rw [h16.sz]; decide) rfl ?_
  rw [h16.sz, show ((20 : Int)).toNat = 20 from rfl]
  have x17 := (xI.C Y16 100 20 20).e (m := 0)
  have a17 := zA_C Y16 100 20 20
  rw [h16.sz] at a17
  have h17 : mnS 0 11 255 (w0 + 6322) [(7, 253), (6, 252), (5, 244), (4, 233), (3, 231), (2, 39), (1, 20), (0, 1)] _ := h16.C 100 20 20 rfl (by omega)
  obtain ⟨Y17, e17⟩ : ∃ Y17, Y17 = zC Y16 100 20 20 := ⟨_, rfl⟩
  rw [← e17] at h17 x17 a17 ⊢
  change ZP G d m_X11_init 102 [some (.ref 0)] [.ref 254, .ref 0] Y17 _
  refine z_putR (pc' := 105) (idx := 54) (ci := 11) (f := 9) (b := 254) (by decide +kernel) f_RX11_54 (am_nfF rfl rfl ⟨rfl, rfl, (amM2 186 rfl (by decide +kernel))⟩) rfl h17.o h17.kd rfl ?_
  have x18 := xE.put Y17 0 (zu (zR Y17 0) 9 (some 254))
  have h18 : mnS 0 11 255 (w0 + 6322) [(9, 254), (7, 253), (6, 252), (5, 244), (4, 233), (3, 231), (2, 39), (1, 20), (0, 1)] _ := h17.put 9 254 (by simp)
  obtain ⟨Y18, e18⟩ : ∃ Y18, Y18 = zSR Y17 0 (zu (zR Y17 0) 9 (some 254)) := ⟨_, rfl⟩
  rw [← e18] at h18 x18 ⊢
  refine z_aload_n (pc' := 106) (j := 0) (by decide +kernel) rfl rfl ?_
  refine z_bipush (pc' := 108) (n := 20) (by decide +kernel) (by decide) rfl ?_
  refine z_new100 (pc' := 110) (n := 20) (by decide +kernel) (amM1 88 rfl (by decide +kernel)) (by decide) (by decide) (by rw [h18.sz]; decide) rfl ?_
  rw [h18.sz, show ((20 : Int)).toNat = 20 from rfl]
  have x19 := (xI.C Y18 100 20 20).e (m := 0)
  have a19 := zA_C Y18 100 20 20
  rw [h18.sz] at a19
  have h19 : mnS 0 11 256 (w0 + 6342) [(9, 254), (7, 253), (6, 252), (5, 244), (4, 233), (3, 231), (2, 39), (1, 20), (0, 1)] _ := h18.C 100 20 20 rfl (by omega)
  obtain ⟨Y19, e19⟩ : ∃ Y19, Y19 = zC Y18 100 20 20 := ⟨_, rfl⟩
  rw [← e19] at h19 x19 a19 ⊢
  change ZP G d m_X11_init 110 [some (.ref 0)] [.ref 255, .ref 0] Y19 _
  refine z_putR (pc' := 113) (idx := 57) (ci := 11) (f := 10) (b := 255) (by decide +kernel) f_RX11_57 (am_nfF rfl rfl ⟨rfl, rfl, (amM2 187 rfl (by decide +kernel))⟩) rfl h19.o h19.kd rfl ?_
  have x20 := xE.put Y19 0 (zu (zR Y19 0) 10 (some 255))
  have h20 : mnS 0 11 256 (w0 + 6342) [(10, 255), (9, 254), (7, 253), (6, 252), (5, 244), (4, 233), (3, 231), (2, 39), (1, 20), (0, 1)] _ := h19.put 10 255 (by simp)
  obtain ⟨Y20, e20⟩ : ∃ Y20, Y20 = zSR Y19 0 (zu (zR Y19 0) 10 (some 255)) := ⟨_, rfl⟩
  rw [← e20] at h20 x20 ⊢
  refine z_aload_n (pc' := 114) (j := 0) (by decide +kernel) rfl rfl ?_
  refine z_new (pc' := 117) (idx := 60) (ci := 9) (N := 15) (by decide +kernel) rfl (by decide) (amM1 228 rfl (by decide +kernel)) (amM1 229 rfl (by decide +kernel)) (amM1 8 rfl (by decide +kernel)) (by decide) (by rw [h20.sz]; decide) rfl ?_
  rw [h20.sz]
  refine z_dup (pc' := 118) (by decide +kernel) rfl rfl ?_
  refine z_callI (pc' := 121) (idx := 62) (mj := m_X9_init) (av := []) (b := 256) (n := 0) (d' := d - 1) (by decide +kernel) rfl k_X9_init l_RX11_62 rfl (by omega) (am_le rfl) rfl (am_le rfl) (h20.zo 9 15).1 rfl (ZM.mono (s_ctPlan (b := 256) (d := d - 1)  (h20.zo 9 15) (h20.zs 9 0 15) (h20.zz 9 0 15) (by decide) (by omega)) fun r Y21 hw => ?_)
  obtain ⟨rfl, a21, c21, p21⟩ := hw
  have x21 := (h20.x c21).e (m := 0)
  have h21 : mnS 0 11 266 (w0 + 6520) [(10, 255), (9, 254), (7, 253), (6, 252), (5, 244), (4, 233), (3, 231), (2, 39), (1, 20), (0, 1)] _ := h20.sub c21 rfl (by omega) (by decide)
  change ZP G d m_X11_init 121 [some (.ref 0)] [.ref 256, .ref 0] Y21 _
  refine z_putR (pc' := 124) (idx := 63) (ci := 11) (f := 11) (b := 256) (by decide +kernel) f_RX11_63 (am_nfF rfl rfl ⟨rfl, rfl, (amM2 188 rfl (by decide +kernel))⟩) rfl h21.o h21.kd rfl ?_
  have x22 := xE.put Y21 0 (zu (zR Y21 0) 11 (some 256))
  have h22 : mnS 0 11 266 (w0 + 6520) [(11, 256), (10, 255), (9, 254), (7, 253), (6, 252), (5, 244), (4, 233), (3, 231), (2, 39), (1, 20), (0, 1)] _ := h21.put 11 256 (by simp)
  obtain ⟨Y22, e22⟩ : ∃ Y22, Y22 = zSR Y21 0 (zu (zR Y21 0) 11 (some 256)) := ⟨_, rfl⟩
  rw [← e22] at h22 x22 ⊢
  refine z_aload_n (pc' := 125) (j := 0) (by decide +kernel) rfl rfl ?_
  refine z_new (pc' := 128) (idx := 60) (ci := 9) (N := 15) (by decide +kernel) rfl (by decide) (amM1 228 rfl (by decide +kernel)) (amM1 229 rfl (by decide +kernel)) (amM1 8 rfl (by decide +kernel)) (by decide) (by rw [h22.sz]; decide) rfl ?_
  rw [h22.sz]
  refine z_dup (pc' := 129) (by decide +kernel) rfl rfl ?_
  refine z_callI (pc' := 132) (idx := 62) (mj := m_X9_init) (av := []) (b := 266) (n := 0) (d' := d - 1) (by decide +kernel) rfl k_X9_init l_RX11_62 rfl (by omega) (am_le rfl) rfl (am_le rfl) (h22.zo 9 15).1 rfl (ZM.mono (s_ctPlan (b := 266) (d := d - 1)  (h22.zo 9 15) (h22.zs 9 0 15) (h22.zz 9 0 15) (by decide) (by omega)) fun r Y23 hw => ?_)
  obtain ⟨rfl, a23, c23, p23⟩ := hw
  have x23 := (h22.x c23).e (m := 0)
  have h23 : mnS 0 11 276 (w0 + 6698) [(11, 256), (10, 255), (9, 254), (7, 253), (6, 252), (5, 244), (4, 233), (3, 231), (2, 39), (1, 20), (0, 1)] _ := h22.sub c23 rfl (by omega) (by decide)
  change ZP G d m_X11_init 132 [some (.ref 0)] [.ref 266, .ref 0] Y23 _
  refine z_putR (pc' := 135) (idx := 67) (ci := 11) (f := 12) (b := 266) (by decide +kernel) f_RX11_67 (am_nfF rfl rfl ⟨rfl, rfl, (amM2 189 rfl (by decide +kernel))⟩) rfl h23.o h23.kd rfl ?_
  have x24 := xE.put Y23 0 (zu (zR Y23 0) 12 (some 266))
  have h24 : mnS 0 11 276 (w0 + 6698) [(12, 266), (11, 256), (10, 255), (9, 254), (7, 253), (6, 252), (5, 244), (4, 233), (3, 231), (2, 39), (1, 20), (0, 1)] _ := h23.put 12 266 (by simp)
  obtain ⟨Y24, e24⟩ : ∃ Y24, Y24 = zSR Y23 0 (zu (zR Y23 0) 12 (some 266)) := ⟨_, rfl⟩
  rw [← e24] at h24 x24 ⊢
  refine z_aload_n (pc' := 136) (j := 0) (by decide +kernel) rfl rfl ?_
  refine z_bipush (pc' := 138) (n := 20) (by decide +kernel) (by decide) rfl ?_
  refine z_new100 (pc' := 140) (n := 20) (by decide +kernel) (amM1 88 rfl (by decide +kernel)) (by decide) (by decide) (by rw [h24.sz]; decide) rfl ?_
  rw [h24.sz, show ((20 : Int)).toNat = 20 from rfl]
  have x25 := (xI.C Y24 100 20 20).e (m := 0)
  have a25 := zA_C Y24 100 20 20
  rw [h24.sz] at a25
  have h25 : mnS 0 11 277 (w0 + 6718) [(12, 266), (11, 256), (10, 255), (9, 254), (7, 253), (6, 252), (5, 244), (4, 233), (3, 231), (2, 39), (1, 20), (0, 1)] _ := h24.C 100 20 20 rfl (by omega)
  obtain ⟨Y25, e25⟩ : ∃ Y25, Y25 = zC Y24 100 20 20 := ⟨_, rfl⟩
  rw [← e25] at h25 x25 a25 ⊢
  change ZP G d m_X11_init 140 [some (.ref 0)] [.ref 276, .ref 0] Y25 _
  refine z_putR (pc' := 143) (idx := 70) (ci := 11) (f := 13) (b := 276) (by decide +kernel) f_RX11_70 (am_nfF rfl rfl ⟨rfl, rfl, (amM2 190 rfl (by decide +kernel))⟩) rfl h25.o h25.kd rfl ?_
  have x26 := xE.put Y25 0 (zu (zR Y25 0) 13 (some 276))
  have h26 : mnS 0 11 277 (w0 + 6718) [(13, 276), (12, 266), (11, 256), (10, 255), (9, 254), (7, 253), (6, 252), (5, 244), (4, 233), (3, 231), (2, 39), (1, 20), (0, 1)] _ := h25.put 13 276 (by simp)
  obtain ⟨Y26, e26⟩ : ∃ Y26, Y26 = zSR Y25 0 (zu (zR Y25 0) 13 (some 276)) := ⟨_, rfl⟩
  rw [← e26] at h26 x26 ⊢
  refine z_aload_n (pc' := 144) (j := 0) (by decide +kernel) rfl rfl ?_
  refine z_new (pc' := 147) (idx := 73) (ci := 5) (N := 7) (by decide +kernel) rfl (by decide) (amM2 48 rfl (by decide +kernel)) (amM2 49 rfl (by decide +kernel)) (amM1 9 rfl (by decide +kernel)) (by decide) (by rw [h26.sz]; decide) rfl ?_
  rw [h26.sz]
  refine z_dup (pc' := 148) (by decide +kernel) rfl rfl ?_
  refine z_aload_n (pc' := 149) (j := 0) (by decide +kernel) rfl rfl ?_
  refine z_getR (pc' := 152) (idx := 10) (ci := 11) (f := 0) (b := 1) (by decide +kernel) f_RX11_10 rfl (Nat.lt_succ_of_lt h26.o) ((zC_old Y26 5 0 7 h26.o).1.trans h26.kd) ((congrFun (zC_old Y26 5 0 7 h26.o).2.2.1 0).trans (h26.r (0, 1) (by simp))) rfl ?_
  refine z_aload_n (pc' := 153) (j := 0) (by decide +kernel) rfl rfl ?_
  refine z_getR (pc' := 156) (idx := 36) (ci := 11) (f := 4) (b := 233) (by decide +kernel) f_RX11_36 rfl (Nat.lt_succ_of_lt h26.o) ((zC_old Y26 5 0 7 h26.o).1.trans h26.kd) ((congrFun (zC_old Y26 5 0 7 h26.o).2.2.1 4).trans (h26.r (4, 233) (by simp))) rfl ?_
  refine z_callI (pc' := 159) (idx := 75) (mj := m_X5_init) (av := [.ref 1, .ref 233]) (b := 277) (n := 2) (d' := d - 1) (by decide +kernel) rfl k_X5_init l_RX11_75 rfl (by omega) (am_le rfl) rfl (am_le rfl) (h26.zo 5 7).1 rfl (ZM.mono (s_ctLike (b := 277) (d := d - 1) (x := 1) (y := 233) (h26.zo 5 7) (h26.zs 5 0 7) (h26.zz 5 0 7) (by decide) (by omega)) fun r Y27 hw => ?_)
  obtain ⟨rfl, a27, c27⟩ := hw
  have x27 := (h26.x c27).e (m := 0)
  have h27 : mnS 0 11 279 (w0 + 6745) [(13, 276), (12, 266), (11, 256), (10, 255), (9, 254), (7, 253), (6, 252), (5, 244), (4, 233), (3, 231), (2, 39), (1, 20), (0, 1)] _ := h26.sub c27 rfl (by omega) (by decide)
  change ZP G d m_X11_init 159 [some (.ref 0)] [.ref 277, .ref 0] Y27 _
  refine z_putR (pc' := 162) (idx := 78) (ci := 11) (f := 15) (b := 277) (by decide +kernel) f_RX11_78 (am_nfF rfl rfl ⟨rfl, rfl, (amM2 192 rfl (by decide +kernel))⟩) rfl h27.o h27.kd rfl ?_
  have x28 := xE.put Y27 0 (zu (zR Y27 0) 15 (some 277))
  have h28 : mnS 0 11 279 (w0 + 6745) [(15, 277), (13, 276), (12, 266), (11, 256), (10, 255), (9, 254), (7, 253), (6, 252), (5, 244), (4, 233), (3, 231), (2, 39), (1, 20), (0, 1)] _ := h27.put 15 277 (by simp)
  obtain ⟨Y28, e28⟩ : ∃ Y28, Y28 = zSR Y27 0 (zu (zR Y27 0) 15 (some 277)) := ⟨_, rfl⟩
  rw [← e28] at h28 x28 ⊢
  refine z_aload_n (pc' := 163) (j := 0) (by decide +kernel) rfl rfl ?_
  refine z_new (pc' := 166) (idx := 82) (ci := 4) (N := 4) (by decide +kernel) rfl (by decide) (amM2 76 rfl (by decide +kernel)) (amM2 77 rfl (by decide +kernel)) (amM1 10 rfl (by decide +kernel)) (by decide) (by rw [h28.sz]; decide) rfl ?_
  rw [h28.sz]
  refine z_dup (pc' := 167) (by decide +kernel) rfl rfl ?_
  refine z_aload_n (pc' := 168) (j := 0) (by decide +kernel) rfl rfl ?_
  refine z_getR (pc' := 171) (idx := 10) (ci := 11) (f := 0) (b := 1) (by decide +kernel) f_RX11_10 rfl (Nat.lt_succ_of_lt h28.o) ((zC_old Y28 4 0 4 h28.o).1.trans h28.kd) ((congrFun (zC_old Y28 4 0 4 h28.o).2.2.1 0).trans (h28.r (0, 1) (by simp))) rfl ?_
  refine z_aload_n (pc' := 172) (j := 0) (by decide +kernel) rfl rfl ?_
  refine z_getR (pc' := 175) (idx := 36) (ci := 11) (f := 4) (b := 233) (by decide +kernel) f_RX11_36 rfl (Nat.lt_succ_of_lt h28.o) ((zC_old Y28 4 0 4 h28.o).1.trans h28.kd) ((congrFun (zC_old Y28 4 0 4 h28.o).2.2.1 4).trans (h28.r (4, 233) (by simp))) rfl ?_
  refine z_callI (pc' := 178) (idx := 84) (mj := m_X4_init) (av := [.ref 1, .ref 233]) (b := 279) (n := 2) (d' := d - 1) (by decide +kernel) rfl k_X4_init l_RX11_84 rfl (by omega) (am_le rfl) rfl (am_le rfl) (h28.zo 4 4).1 rfl (ZM.mono (s_ctLevels (b := 279) (d := d - 1) (x := 1) (y := 233) (h28.zo 4 4) (h28.zs 4 0 4) (h28.zz 4 0 4) (by decide) (by omega) (atBook.loc (xI.lo (xI.C Y28 4 0 4) (by decide) (by rw [h28.sz]; decide)) (a1.loc ((x2.trans (x3.trans (x4.trans (x5.trans (x6.trans (x7.trans (x8.trans (x9.trans (x10.trans (x11.trans (x12.trans (x13'.trans (x14.trans (x15.trans (x16.trans (x17.trans (x18.trans (x19.trans (x20.trans (x21.trans (x22.trans (x23.trans (x24.trans (x25.trans (x26.trans (x27.trans x28)))))))))))))))))))))))))).lo (by decide) (by rw [h1.sz]; decide)))) (by decide)) fun r Y29 hw => ?_)
  obtain ⟨rfl, a29, c29⟩ := hw
  have x29 := (h28.x c29).e (m := 0)
  have h29 : mnS 0 11 281 (w0 + 6769) [(15, 277), (13, 276), (12, 266), (11, 256), (10, 255), (9, 254), (7, 253), (6, 252), (5, 244), (4, 233), (3, 231), (2, 39), (1, 20), (0, 1)] _ := h28.sub c29 rfl (by omega) (by decide)
  change ZP G d m_X11_init 178 [some (.ref 0)] [.ref 279, .ref 0] Y29 _
  refine z_putR (pc' := 181) (idx := 85) (ci := 11) (f := 16) (b := 279) (by decide +kernel) f_RX11_85 (am_nfF rfl rfl ⟨rfl, rfl, (amM2 193 rfl (by decide +kernel))⟩) rfl h29.o h29.kd rfl ?_
  have x30 := xE.put Y29 0 (zu (zR Y29 0) 16 (some 279))
  have h30 : mnS 0 11 281 (w0 + 6769) [(16, 279), (15, 277), (13, 276), (12, 266), (11, 256), (10, 255), (9, 254), (7, 253), (6, 252), (5, 244), (4, 233), (3, 231), (2, 39), (1, 20), (0, 1)] _ := h29.put 16 279 (by simp)
  obtain ⟨Y30, e30⟩ : ∃ Y30, Y30 = zSR Y29 0 (zu (zR Y29 0) 16 (some 279)) := ⟨_, rfl⟩
  rw [← e30] at h30 x30 ⊢
  refine z_aload_n (pc' := 182) (j := 0) (by decide +kernel) rfl rfl ?_
  refine z_new (pc' := 185) (idx := 89) (ci := 6) (N := 7) (by decide +kernel) rfl (by decide) (amM2 95 rfl (by decide +kernel)) (amM2 96 rfl (by decide +kernel)) (amM1 11 rfl (by decide +kernel)) (by decide) (by rw [h30.sz]; decide) rfl ?_
  rw [h30.sz]
  refine z_dup (pc' := 186) (by decide +kernel) rfl rfl ?_
  refine z_aload_n (pc' := 187) (j := 0) (by decide +kernel) rfl rfl ?_
  refine z_getR (pc' := 190) (idx := 10) (ci := 11) (f := 0) (b := 1) (by decide +kernel) f_RX11_10 rfl (Nat.lt_succ_of_lt h30.o) ((zC_old Y30 6 0 7 h30.o).1.trans h30.kd) ((congrFun (zC_old Y30 6 0 7 h30.o).2.2.1 0).trans (h30.r (0, 1) (by simp))) rfl ?_
  refine z_aload_n (pc' := 191) (j := 0) (by decide +kernel) rfl rfl ?_
  refine z_getR (pc' := 194) (idx := 36) (ci := 11) (f := 4) (b := 233) (by decide +kernel) f_RX11_36 rfl (Nat.lt_succ_of_lt h30.o) ((zC_old Y30 6 0 7 h30.o).1.trans h30.kd) ((congrFun (zC_old Y30 6 0 7 h30.o).2.2.1 4).trans (h30.r (4, 233) (by simp))) rfl ?_
  refine z_callI (pc' := 197) (idx := 91) (mj := m_X6_init) (av := [.ref 1, .ref 233]) (b := 281) (n := 2) (d' := d - 1) (by decide +kernel) rfl k_X6_init l_RX11_91 rfl (by omega) (am_le rfl) rfl (am_le rfl) (h30.zo 6 7).1 rfl (ZM.mono (s_ctMoney (b := 281) (d := d - 1) (x := 1) (y := 233) (h30.zo 6 7) (h30.zs 6 0 7) (h30.zz 6 0 7) (by decide) (by omega)) fun r Y31 hw => ?_)
  obtain ⟨rfl, a31, c31⟩ := hw
  have x31 := (h30.x c31).e (m := 0)
  have h31 : mnS 0 11 285 (w0 + 6836) [(16, 279), (15, 277), (13, 276), (12, 266), (11, 256), (10, 255), (9, 254), (7, 253), (6, 252), (5, 244), (4, 233), (3, 231), (2, 39), (1, 20), (0, 1)] _ := h30.sub c31 rfl (by omega) (by decide)
  change ZP G d m_X11_init 197 [some (.ref 0)] [.ref 281, .ref 0] Y31 _
  refine z_putR (pc' := 200) (idx := 92) (ci := 11) (f := 17) (b := 281) (by decide +kernel) f_RX11_92 (am_nfF rfl rfl ⟨rfl, rfl, (amM2 194 rfl (by decide +kernel))⟩) rfl h31.o h31.kd rfl ?_
  have x32 := xE.put Y31 0 (zu (zR Y31 0) 17 (some 281))
  have h32 : mnS 0 11 285 (w0 + 6836) [(17, 281), (16, 279), (15, 277), (13, 276), (12, 266), (11, 256), (10, 255), (9, 254), (7, 253), (6, 252), (5, 244), (4, 233), (3, 231), (2, 39), (1, 20), (0, 1)] _ := h31.put 17 281 (by simp)
  obtain ⟨Y32, e32⟩ : ∃ Y32, Y32 = zSR Y31 0 (zu (zR Y31 0) 17 (some 281)) := ⟨_, rfl⟩
  rw [← e32] at h32 x32 ⊢
  refine z_aload_n (pc' := 201) (j := 0) (by decide +kernel) rfl rfl ?_
  refine z_new (pc' := 204) (idx := 96) (ci := 8) (N := 6) (by decide +kernel) rfl (by decide) (amM2 123 rfl (by decide +kernel)) (amM2 124 rfl (by decide +kernel)) (amM1 12 rfl (by decide +kernel)) (by decide) (by rw [h32.sz]; decide) rfl ?_
  rw [h32.sz]
  refine z_dup (pc' := 205) (by decide +kernel) rfl rfl ?_
  refine z_aload_n (pc' := 206) (j := 0) (by decide +kernel) rfl rfl ?_
  refine z_getR (pc' := 209) (idx := 10) (ci := 11) (f := 0) (b := 1) (by decide +kernel) f_RX11_10 rfl (Nat.lt_succ_of_lt h32.o) ((zC_old Y32 8 0 6 h32.o).1.trans h32.kd) ((congrFun (zC_old Y32 8 0 6 h32.o).2.2.1 0).trans (h32.r (0, 1) (by simp))) rfl ?_
  refine z_aload_n (pc' := 210) (j := 0) (by decide +kernel) rfl rfl ?_
  refine z_getR (pc' := 213) (idx := 36) (ci := 11) (f := 4) (b := 233) (by decide +kernel) f_RX11_36 rfl (Nat.lt_succ_of_lt h32.o) ((zC_old Y32 8 0 6 h32.o).1.trans h32.kd) ((congrFun (zC_old Y32 8 0 6 h32.o).2.2.1 4).trans (h32.r (4, 233) (by simp))) rfl ?_
  refine z_callI (pc' := 216) (idx := 98) (mj := m_X8_init) (av := [.ref 1, .ref 233]) (b := 285) (n := 2) (d' := d - 1) (by decide +kernel) rfl k_X8_init l_RX11_98 rfl (by omega) (am_le rfl) rfl (am_le rfl) (h32.zo 8 6).1 rfl (ZM.mono (s_ctOdds (b := 285) (d := d - 1) (x := 1) (y := 233) (h32.zo 8 6) (h32.zs 8 0 6) (h32.zz 8 0 6) (by decide) (by omega)) fun r Y33 hw => ?_)
  obtain ⟨rfl, a33, c33⟩ := hw
  have x33 := (h32.x c33).e (m := 0)
  have h33 : mnS 0 11 290 (w0 + 6908) [(17, 281), (16, 279), (15, 277), (13, 276), (12, 266), (11, 256), (10, 255), (9, 254), (7, 253), (6, 252), (5, 244), (4, 233), (3, 231), (2, 39), (1, 20), (0, 1)] _ := h32.sub c33 rfl (by omega) (by decide)
  change ZP G d m_X11_init 216 [some (.ref 0)] [.ref 285, .ref 0] Y33 _
  refine z_putR (pc' := 219) (idx := 99) (ci := 11) (f := 18) (b := 285) (by decide +kernel) f_RX11_99 (am_nfF rfl rfl ⟨rfl, rfl, (amM2 195 rfl (by decide +kernel))⟩) rfl h33.o h33.kd rfl ?_
  have x34 := xE.put Y33 0 (zu (zR Y33 0) 18 (some 285))
  have h34 : mnS 0 11 290 (w0 + 6908) [(18, 285), (17, 281), (16, 279), (15, 277), (13, 276), (12, 266), (11, 256), (10, 255), (9, 254), (7, 253), (6, 252), (5, 244), (4, 233), (3, 231), (2, 39), (1, 20), (0, 1)] _ := h33.put 18 285 (by simp)
  obtain ⟨Y34, e34⟩ : ∃ Y34, Y34 = zSR Y33 0 (zu (zR Y33 0) 18 (some 285)) := ⟨_, rfl⟩
  rw [← e34] at h34 x34 ⊢
  refine z_aload_n (pc' := 220) (j := 0) (by decide +kernel) rfl rfl ?_
  refine z_new (pc' := 223) (idx := 103) (ci := 2) (N := 7) (by decide +kernel) rfl (by decide) (amM2 148 rfl (by decide +kernel)) (amM2 149 rfl (by decide +kernel)) (amM1 13 rfl (by decide +kernel)) (by decide) (by rw [h34.sz]; decide) rfl ?_
  rw [h34.sz]
  refine z_dup (pc' := 224) (by decide +kernel) rfl rfl ?_
  refine z_aload_n (pc' := 225) (j := 0) (by decide +kernel) rfl rfl ?_
  refine z_getR (pc' := 228) (idx := 10) (ci := 11) (f := 0) (b := 1) (by decide +kernel) f_RX11_10 rfl (Nat.lt_succ_of_lt h34.o) ((zC_old Y34 2 0 7 h34.o).1.trans h34.kd) ((congrFun (zC_old Y34 2 0 7 h34.o).2.2.1 0).trans (h34.r (0, 1) (by simp))) rfl ?_
  refine z_aload_n (pc' := 229) (j := 0) (by decide +kernel) rfl rfl ?_
  refine z_getR (pc' := 232) (idx := 36) (ci := 11) (f := 4) (b := 233) (by decide +kernel) f_RX11_36 rfl (Nat.lt_succ_of_lt h34.o) ((zC_old Y34 2 0 7 h34.o).1.trans h34.kd) ((congrFun (zC_old Y34 2 0 7 h34.o).2.2.1 4).trans (h34.r (4, 233) (by simp))) rfl ?_
  refine z_callI (pc' := 235) (idx := 105) (mj := m_X2_init) (av := [.ref 1, .ref 233]) (b := 290) (n := 2) (d' := d - 1) (by decide +kernel) rfl k_X2_init l_RX11_105 rfl (by omega) (am_le rfl) rfl (am_le rfl) (h34.zo 2 7).1 rfl (ZM.mono (s_ctCrane (b := 290) (d := d - 1) (x := 1) (y := 233) (h34.zo 2 7) (h34.zs 2 0 7) (h34.zz 2 0 7) (by decide) (by omega)) fun r Y35 hw => ?_)
  obtain ⟨rfl, a35, c35⟩ := hw
  have x35 := (h34.x c35).e (m := 0)
  have h35 : mnS 0 11 300 (w0 + 7081) [(18, 285), (17, 281), (16, 279), (15, 277), (13, 276), (12, 266), (11, 256), (10, 255), (9, 254), (7, 253), (6, 252), (5, 244), (4, 233), (3, 231), (2, 39), (1, 20), (0, 1)] _ := h34.sub c35 rfl (by omega) (by decide)
  change ZP G d m_X11_init 235 [some (.ref 0)] [.ref 290, .ref 0] Y35 _
  refine z_putR (pc' := 238) (idx := 106) (ci := 11) (f := 19) (b := 290) (by decide +kernel) f_RX11_106 (am_nfF rfl rfl ⟨rfl, rfl, (amM2 196 rfl (by decide +kernel))⟩) rfl h35.o h35.kd rfl ?_
  have x36 := xE.put Y35 0 (zu (zR Y35 0) 19 (some 290))
  have h36 : mnS 0 11 300 (w0 + 7081) [(19, 290), (18, 285), (17, 281), (16, 279), (15, 277), (13, 276), (12, 266), (11, 256), (10, 255), (9, 254), (7, 253), (6, 252), (5, 244), (4, 233), (3, 231), (2, 39), (1, 20), (0, 1)] _ := h35.put 19 290 (by simp)
  obtain ⟨Y36, e36⟩ : ∃ Y36, Y36 = zSR Y35 0 (zu (zR Y35 0) 19 (some 290)) := ⟨_, rfl⟩
  rw [← e36] at h36 x36 ⊢
  refine z_ret (by decide +kernel) rfl ?_
  have g36 := xE.refl 0 Y36
  have g35 := x36.trans g36
  have g34 := x35.trans g35
  have g33 := x34.trans g34
  have g32 := x33.trans g33
  have g31 := x32.trans g32
  have g30 := x31.trans g31
  have g29 := x30.trans g30
  have g28 := x29.trans g29
  have g27 := x28.trans g28
  have g26 := x27.trans g27
  have g25 := x26.trans g26
  have g24 := x25.trans g25
  have g23 := x24.trans g24
  have g22 := x23.trans g23
  have g21 := x22.trans g22
  have g20 := x21.trans g21
  have g19 := x20.trans g20
  have g18 := x19.trans g19
  have g17 := x18.trans g18
  have g16 := x17.trans g17
  have g15 := x16.trans g16
  have g14 := x15.trans g15
  have g13 := x14.trans g14
  have g12 := x13'.trans g13
  have g11 := x12.trans g12
  have g10 := x11.trans g11
  have g9 := x10.trans g10
  have g8 := x9.trans g9
  have g7 := x8.trans g8
  have g6 := x7.trans g7
  have g5 := x6.trans g6
  have g4 := x5.trans g5
  have g3 := x4.trans g4
  have g2 := x3.trans g3
  have g1 := x2.trans g2
  have bk : atBook Y36 1 := atBook.loc (g1.lo (by decide) (by rw [h1.sz]; decide)) a1
  have al : atAll Y36 := ⟨⟨h36.o, h36.kd⟩, h36.r (0, 1) (by simp), atBook.loc (g1.lo (by decide) (by rw [h1.sz]; decide)) a1, h36.r (1, 20) (by simp), atBook.loc (g3.lo (by decide) (by rw [h3.sz]; decide)) a3, h36.r (2, 39) (by simp), atHist.loc (g5.lo (by decide) (by rw [h5.sz]; decide)) a5, h36.r (3, 231) (by simp), atText.loc (g7.lo (by decide) (by rw [h7.sz]; decide)) a7, h36.r (4, 233) (by simp), atNet.loc (g9.lo (by decide) (by rw [h9.sz]; decide)) a9, h36.r (5, 244) (by simp), atClock.loc (g11.lo (by decide) (by rw [h11.sz]; decide)) a11, h36.r (6, 252) (by simp), g13.A (by decide) a13', h36.r (7, 253) (by simp), g15.A (by decide) a15, h36.r (9, 254) (by simp), g17.A (by decide) a17, h36.r (10, 255) (by simp), g19.A (by decide) a19, h36.r (11, 256) (by simp), atPlan.loc (g21.lo (by decide) (by rw [h21.sz]; decide)) a21, h36.r (12, 266) (by simp), atPlan.loc (g23.lo (by decide) (by rw [h23.sz]; decide)) a23, h36.r (13, 276) (by simp), g25.A (by decide) a25, h36.r (15, 277) (by simp), atLike.loc (g27.lo (by decide) (by rw [h27.sz]; decide)) a27, h36.r (16, 279) (by simp), atLevels.loc (g29.lo (by decide) (by rw [h29.sz]; decide)) a29 (bk.x0 0 (by decide)), h36.r (17, 281) (by simp), atMoney.loc (g31.lo (by decide) (by rw [h31.sz]; decide)) a31, h36.r (18, 285) (by simp), atOdds.loc (g33.lo (by decide) (by rw [h33.sz]; decide)) a33, h36.r (19, 290) (by simp), atCrane.loc (g35.lo (by decide) (by rw [h35.sz]; decide)) a35⟩
  have z1 : ∀ i, zI Y36 1 i = 0 := fun i => ((congrFun (g1.i (by decide) (by rw [h1.sz]; decide)) i).trans (c1.2.2.2 1 (by decide) i))
  have z39 : ∀ i, zI Y36 39 i = 0 := fun i => ((congrFun (g5.i (by decide) (by rw [h5.sz]; decide)) i).trans (c5.2.2.2 39 (by decide) i))
  have z231 : ∀ i, zI Y36 231 i = 0 := fun i => ((congrFun (g7.i (by decide) (by rw [h7.sz]; decide)) i).trans (c7.2.2.2 231 (by decide) i))
  have z233 : ∀ i, zI Y36 233 i = 0 := fun i => ((congrFun (g9.i (by decide) (by rw [h9.sz]; decide)) i).trans (c9.2.2.2 233 (by decide) i))
  have z256 : zI Y36 256 0 = 0 := (congrFun (g21.i (by decide) (by rw [h21.sz]; decide)) 0).trans p21
  have zW : ∀ c t, c < 4 → t < 168 → zI Y36 (246 + c) t = 1 := fun c t hc ht => (congrFun (g11.i (by omega) (by rw [h11.sz]; omega)) t).trans (ck.2.2.2.2 c t hc ht)
  have zH : ∀ i, i < 3 → zI Y36 252 i = 1 := fun i hi => (congrFun (g13.i (by decide) (by rw [h13'.sz]; decide)) i).trans (on i hi)
  exact ⟨rfl, st0_IC al z1 z39 z231 z233 z256 zW zH h36.2.1, h36.1.1, h36.2.2.1, z233 0⟩
def mlF (Z Y : Zm) : Prop := atModel Y 300 301 ∧ ((zSz Y = 320 ∧ zSl Y ≤ zSl Z + 1364) ∧ (∀ i, zI Y 301 i = 0) ∧ (∀ i, i < 3 → zI Y 309 i = 1) ∧ ∀ i, zI Y 300 i = 0) ∧ xE 300 Z Y
def mlS (Z Y : Zm) (i j : Nat) : Prop := mlF Z Y ∧ ∀ c t, c < 4 → t < 168 → (c < i ∨ (c = i ∧ t < j)) → zI Y (305 + c) t = 1
theorem mlF.si {Z Y : Zm} (h : mlF Z Y) (hz : zSz Z = 301) (c : Nat) (f : Nat → Int) (hc : c < 4) : mlF Z (zSI Y (305 + c) f) := ⟨h.1, ⟨h.2.1.1, fun i => by rw [zI_other (by omega)]; exact h.2.1.2.1 i, fun i hi => by rw [zI_other (by omega)]; exact h.2.1.2.2.1 i hi, fun i => by rw [zI_other (by omega)]; exact h.2.1.2.2.2 i⟩, h.2.2.1, fun a ha hb => by
  obtain ⟨p1, p2, p3, p4⟩ := h.2.2.2 a ha hb
  exact ⟨p1, p2, p3, (zI_other (by omega)).trans p4⟩⟩
theorem mlS.step {Z Y : Zm} {i j : Nat} (h : mlS Z Y i j) (hz : zSz Z = 301) (hi : i < 4) : mlS Z (zSI Y (305 + i) (zu (zI Y (305 + i)) j 1)) i (j + 1) := ⟨h.1.si hz i _ hi, fun c t hc ht hh => by
  by_cases g : c = i
  · subst g
    rw [zI_same]
    by_cases e : t = j
    · subst e
      exact zu_same _ _ _
    · rw [zu_other e]
      exact h.2 c t hc ht (by omega)
  · rw [zI_other (by omega)]
    exact h.2 c t hc ht (by omega)⟩
theorem mlS.end {Z Y : Zm} {i j : Nat} (h : mlS Z Y i j) (hi : i < 4) (hj : 168 ≤ j) : mlS Z Y (i + 1) 0 := ⟨h.1, fun c t hc ht hh => h.2 c t hc ht (by omega)⟩
theorem st0_IM {Z Y : Zm} (h : mlS Z Y 4 0) : IMb Y 301 st0 := by
  obtain ⟨⟨al, ⟨_, z1, zH, z0⟩, _⟩, zW⟩ := h
  exact ⟨al, .inl rfl, ⟨z1 0, z1 1, fun t ht => absurd ht (Nat.not_lt_zero _), fun j hj => absurd hj (Nat.not_lt_zero _)⟩, ⟨z0 2, fun i hi => absurd hi (Nat.not_lt_zero _)⟩, ⟨z0 4, fun i hi => absurd hi (Nat.not_lt_zero _)⟩, fun c t hc ht => zW c t hc ht (.inl hc), zH, ⟨z0 8, fun i hi => absurd hi (Nat.not_lt_zero _)⟩, ⟨fun _ => z0 9, fun p hp => nomatch hp⟩, z0 16, fun i hi => absurd hi (Nat.not_lt_zero _)⟩
theorem s_ctModel {G : Gx} {Z : Zm} {d w0 : Nat} (h0 : mnS 300 12 301 w0 [] Z) (hw0 : w0 = zSl Z) (hd : 6 ≤ d) : ZM G d m_X12_init [.ref 300] Z (fun r W => r = .inl none ∧ mlS Z W 4 0) := by
  have L : ∀ i, i ≤ 4 → ∀ Y, mlS Z Y i 0 → ∀ l2, ZP G d m_X12_init 142 [some (.ref 300), some (iv (i : Int)), l2] [] Y (fun r W => r = .inl none ∧ mlS Z W 4 0) := by
    refine am_up fun i hi ih Y h l2 => ?_
    refine z_iload_n (pc' := 143) (j := 1) (by decide +kernel) rfl rfl ?_
    refine z_iconst (pc' := 144) (n := 4) (by decide +kernel) rfl ?_
    refine z_icmp_ge (pc' := 147) (tgt := 177) (off := 33) (by decide +kernel) (by decide) rfl ⟨by omega, by omega⟩ (by decide : R32 4) ?_
    by_cases g : (4 : Int) ≤ (i : Int)
    · rw [if_pos g]
      refine z_ret (by decide +kernel) rfl ?_
      obtain rfl : i = 4 := by omega
      exact ⟨rfl, h⟩
    · rw [if_neg g]
      have hi2 : i < 4 := by omega
      refine z_iconst (pc' := 148) (n := 0) (by decide +kernel) rfl ?_
      refine z_istore_n (pc' := 149) (j := 2) (ls' := [some (.ref 300), some (iv (i : Int)), some (iv ((0 : Nat) : Int))]) (by decide +kernel) (by decide) rfl rfl ?_
      have M : ∀ j, j ≤ 168 → ∀ Y, mlS Z Y i j → ZP G d m_X12_init 149 [some (.ref 300), some (iv (i : Int)), some (iv (j : Int))] [] Y (fun r W => r = .inl none ∧ mlS Z W 4 0) := by
        refine am_up fun j hj jh Y h => ?_
        refine z_iload_n (pc' := 150) (j := 2) (by decide +kernel) rfl rfl ?_
        refine z_sipush (pc' := 153) (n := 168) (by decide +kernel) (by decide) rfl ?_
        refine z_icmp_ge (pc' := 156) (tgt := 171) (off := 18) (by decide +kernel) (by decide) rfl ⟨by omega, by omega⟩ (by decide : R32 168) ?_
        by_cases g : (168 : Int) ≤ (j : Int)
        · rw [if_pos g]
          refine z_iinc (pc' := 174) (j := 1) (n := 1) (ls' := [some (.ref 300), some (iv ((i + 1 : Nat) : Int)), some (iv (j : Int))]) (by decide +kernel) rfl (by decide) rfl rfl ?_
          refine z_goto (tgt := 142) (off := -32) (by decide +kernel) (by decide) ?_
          exact ih hi2 _ (h.end hi2 (by omega)) _
        · rw [if_neg g]
          have hj2 : j < 168 := by omega
          have al := h.1.1
          refine z_aload_n (pc' := 157) (j := 0) (by decide +kernel) rfl rfl ?_
          refine z_getR (pc' := 160) (idx := 24) (ci := 12) (f := 5) (b := 304) (by decide +kernel) f_RX12_24 rfl al.o.1 al.o.2 al.r5 rfl ?_
          refine z_iload_n (pc' := 161) (j := 1) (by decide +kernel) rfl rfl ?_
          refine z_aaload121 (pc' := 162) (n := 4) (b := 305 + i) (by decide +kernel) al.a5 ⟨by omega, by omega, by decide⟩ (al.e5 i hi2) rfl ?_
          refine z_iload_n (pc' := 163) (j := 2) (by decide +kernel) rfl rfl ?_
          refine z_iconst (pc' := 164) (n := 1) (by decide +kernel) rfl ?_
          refine z_bastore (pc' := 165) (by decide +kernel) (al.x5 i hi2) ⟨by omega, by omega, by decide⟩ (.inr rfl) rfl ?_
          refine z_iinc (pc' := 168) (j := 2) (n := 1) (ls' := [some (.ref 300), some (iv (i : Int)), some (iv ((j + 1 : Nat) : Int))]) (by decide +kernel) rfl (by decide) rfl rfl ?_
          refine z_goto (tgt := 149) (off := -19) (by decide +kernel) (by decide) ?_
          exact jh hj2 _ (h.step h0.sz hi2)
      exact M 0 (by decide) Y h
  subst hw0
  refine ZM.of [some (.ref 300), none, none] rfl ?_
  refine z_aload_n (pc' := 1) (j := 0) (by decide +kernel) rfl rfl ?_
  refine z_objInit (pc' := 4) (idx := 3) (by decide +kernel) (amM7 228 rfl (by decide +kernel)) (amM1 39 rfl (by decide +kernel)) (amM1 40 rfl (by decide +kernel)) (by omega) (am_le rfl) rfl ?_
  refine z_aload_n (pc' := 5) (j := 0) (by decide +kernel) rfl rfl ?_
  refine z_sipush (pc' := 8) (n := 412) (by decide +kernel) (by decide) rfl ?_
  refine z_new100 (pc' := 10) (n := 412) (by decide +kernel) (amM1 88 rfl (by decide +kernel)) (by decide) (by decide) (by rw [h0.sz]; decide) rfl ?_
  rw [h0.sz, show ((412 : Int)).toNat = 412 from rfl]
  have x1 := (xI.C Z 100 412 412).e (m := 300)
  have a1 := zA_C Z 100 412 412
  have zb : ∀ i, zI (zC Z 100 412 412) 301 i = 0 := fun i => h0.zz 100 412 412 301 (by decide) i
  rw [h0.sz] at a1
  have h1 : mnS 300 12 302 (zSl Z + 412) [] _ := h0.C 100 412 412 rfl (by omega)
  obtain ⟨Y1, e1⟩ : ∃ Y1, Y1 = zC Z 100 412 412 := ⟨_, rfl⟩
  rw [← e1] at h1 x1 a1 zb ⊢
  change ZP G d m_X12_init 10 [some (.ref 300), none, none] [.ref 301, .ref 300] Y1 _
  refine z_putR (pc' := 13) (idx := 9) (ci := 12) (f := 0) (b := 301) (by decide +kernel) f_RX12_9 (am_nfL rfl rfl) rfl h1.o h1.kd rfl ?_
  have x2 := xE.put Y1 300 (zu (zR Y1 300) 0 (some 301))
  have h2 : mnS 300 12 302 (zSl Z + 412) [(0, 301)] _ := h1.put 0 301 (by simp)
  obtain ⟨Y2, e2⟩ : ∃ Y2, Y2 = zSR Y1 300 (zu (zR Y1 300) 0 (some 301)) := ⟨_, rfl⟩
  rw [← e2] at h2 x2 ⊢
  refine z_aload_n (pc' := 14) (j := 0) (by decide +kernel) rfl rfl ?_
  refine z_bipush (pc' := 16) (n := 10) (by decide +kernel) (by decide) rfl ?_
  refine z_anew120 (pc' := 19) (idx := 13) (n := 10) (by decide +kernel) (amM7 229 rfl (by decide +kernel)) (by decide) (by decide) (by rw [h2.sz]; decide) rfl ?_
  rw [h2.sz, show ((10 : Int)).toNat = 10 from rfl]
  have x3 := (xI.C Y2 120 10 10).e (m := 300)
  have a3 := zA_C Y2 120 10 10
  rw [h2.sz] at a3
  have h3 : mnS 300 12 303 (zSl Z + 422) [(0, 301)] _ := h2.C 120 10 10 rfl (by omega)
  obtain ⟨Y3, e3⟩ : ∃ Y3, Y3 = zC Y2 120 10 10 := ⟨_, rfl⟩
  rw [← e3] at h3 x3 a3 ⊢
  change ZP G d m_X12_init 19 [some (.ref 300), none, none] [.ref 302, .ref 300] Y3 _
  refine z_putR (pc' := 22) (idx := 14) (ci := 12) (f := 1) (b := 302) (by decide +kernel) f_RX12_14 (am_nfF rfl rfl ⟨rfl, rfl, (amM7 233 rfl (by decide +kernel))⟩) rfl h3.o h3.kd rfl ?_
  have x4 := xE.put Y3 300 (zu (zR Y3 300) 1 (some 302))
  have h4 : mnS 300 12 303 (zSl Z + 422) [(1, 302), (0, 301)] _ := h3.put 1 302 (by simp)
  obtain ⟨Y4, e4⟩ : ∃ Y4, Y4 = zSR Y3 300 (zu (zR Y3 300) 1 (some 302)) := ⟨_, rfl⟩
  rw [← e4] at h4 x4 ⊢
  refine z_aload_n (pc' := 23) (j := 0) (by decide +kernel) rfl rfl ?_
  refine z_bipush (pc' := 25) (n := 80) (by decide +kernel) (by decide) rfl ?_
  refine z_new101 (pc' := 27) (n := 80) (by decide +kernel) (amM1 127 rfl (by decide +kernel)) (by decide) (by decide) (by rw [h4.sz]; decide) rfl ?_
  rw [h4.sz, show ((80 : Int)).toNat = 80 from rfl]
  have x5 := (xI.C Y4 101 80 80).e (m := 300)
  have a5 := zA_C Y4 101 80 80
  rw [h4.sz] at a5
  have h5 : mnS 300 12 304 (zSl Z + 502) [(1, 302), (0, 301)] _ := h4.C 101 80 80 rfl (by omega)
  obtain ⟨Y5, e5⟩ : ∃ Y5, Y5 = zC Y4 101 80 80 := ⟨_, rfl⟩
  rw [← e5] at h5 x5 a5 ⊢
  change ZP G d m_X12_init 27 [some (.ref 300), none, none] [.ref 303, .ref 300] Y5 _
  refine z_putR (pc' := 30) (idx := 18) (ci := 12) (f := 3) (b := 303) (by decide +kernel) f_RX12_18 (am_nfF rfl rfl ⟨rfl, rfl, (amM7 235 rfl (by decide +kernel))⟩) rfl h5.o h5.kd rfl ?_
  have x6 := xE.put Y5 300 (zu (zR Y5 300) 3 (some 303))
  have h6 : mnS 300 12 304 (zSl Z + 502) [(3, 303), (1, 302), (0, 301)] _ := h5.put 3 303 (by simp)
  obtain ⟨Y6, e6⟩ : ∃ Y6, Y6 = zSR Y5 300 (zu (zR Y5 300) 3 (some 303)) := ⟨_, rfl⟩
  rw [← e6] at h6 x6 ⊢
  refine z_aload_n (pc' := 31) (j := 0) (by decide +kernel) rfl rfl ?_
  refine z_iconst (pc' := 32) (n := 4) (by decide +kernel) rfl ?_
  refine z_sipush (pc' := 35) (n := 168) (by decide +kernel) (by decide) rfl ?_
  refine z_multi121 (pc' := 39) (idx := 22) (n := 4) (m := 168) (by decide +kernel) (amM7 230 rfl (by decide +kernel)) (amM8 71 rfl (by decide +kernel)) (by decide) (by decide) (by decide) (by decide) (by rw [h6.sz]; decide) rfl ?_
  rw [h6.sz, show ((4 : Int)).toNat = 4 from rfl, show ((168 : Int)).toNat = 168 from rfl]
  have x7 := (xI.M Y6 121 102 4 168).e (m := 300)
  have a7 := zA_M (Y := Y6) (kO := 121) (kI := 102) (n := 4) (m := 168)
  rw [h6.sz] at a7
  have h7 : mnS 300 12 309 (zSl Z + 1178) [(3, 303), (1, 302), (0, 301)] _ := h6.M 121 102 4 168 rfl (by omega)
  obtain ⟨Y7, e7⟩ : ∃ Y7, Y7 = zM Y6 121 102 4 168 := ⟨_, rfl⟩
  rw [← e7] at h7 x7 a7 ⊢
  change ZP G d m_X12_init 39 [some (.ref 300), none, none] [.ref 304, .ref 300] Y7 _
  refine z_putR (pc' := 42) (idx := 24) (ci := 12) (f := 5) (b := 304) (by decide +kernel) f_RX12_24 (am_nfF rfl rfl ⟨rfl, rfl, (amM7 237 rfl (by decide +kernel))⟩) rfl h7.o h7.kd rfl ?_
  have x8 := xE.put Y7 300 (zu (zR Y7 300) 5 (some 304))
  have h8 : mnS 300 12 309 (zSl Z + 1178) [(5, 304), (3, 303), (1, 302), (0, 301)] _ := h7.put 5 304 (by simp)
  obtain ⟨Y8, e8⟩ : ∃ Y8, Y8 = zSR Y7 300 (zu (zR Y7 300) 5 (some 304)) := ⟨_, rfl⟩
  rw [← e8] at h8 x8 ⊢
  refine z_aload_n (pc' := 43) (j := 0) (by decide +kernel) rfl rfl ?_
  refine z_iconst (pc' := 44) (n := 3) (by decide +kernel) rfl ?_
  refine z_new100 (pc' := 46) (n := 3) (by decide +kernel) (amM1 88 rfl (by decide +kernel)) (by decide) (by decide) (by rw [h8.sz]; decide) rfl ?_
  rw [h8.sz, show ((3 : Int)).toNat = 3 from rfl]
  have x9 := (xI.C Y8 100 3 3).e (m := 300)
  have a9 := zA_C Y8 100 3 3
  rw [h8.sz] at a9
  have h9 : mnS 300 12 310 (zSl Z + 1181) [(5, 304), (3, 303), (1, 302), (0, 301)] _ := h8.C 100 3 3 rfl (by omega)
  obtain ⟨Y9, e9⟩ : ∃ Y9, Y9 = zC Y8 100 3 3 := ⟨_, rfl⟩
  rw [← e9] at h9 x9 a9 ⊢
  change ZP G d m_X12_init 46 [some (.ref 300), none, none] [.ref 309, .ref 300] Y9 _
  refine z_dup (pc' := 47) (by decide +kernel) rfl rfl ?_
  refine z_iconst (pc' := 48) (n := 0) (by decide +kernel) rfl ?_
  refine z_iconst (pc' := 49) (n := 1) (by decide +kernel) rfl ?_
  refine z_iastore (pc' := 50) (by decide +kernel) (show zA (Y9) 309 100 3 from a9) ⟨by decide, by decide, by decide⟩ rfl ?_
  refine z_dup (pc' := 51) (by decide +kernel) rfl rfl ?_
  refine z_iconst (pc' := 52) (n := 1) (by decide +kernel) rfl ?_
  refine z_iconst (pc' := 53) (n := 1) (by decide +kernel) rfl ?_
  refine z_iastore (pc' := 54) (by decide +kernel) (show zA (zSI (Y9) 309 (zu (zI (Y9) 309) 0 1)) 309 100 3 from a9) ⟨by decide, by decide, by decide⟩ rfl ?_
  refine z_dup (pc' := 55) (by decide +kernel) rfl rfl ?_
  refine z_iconst (pc' := 56) (n := 2) (by decide +kernel) rfl ?_
  refine z_iconst (pc' := 57) (n := 1) (by decide +kernel) rfl ?_
  refine z_iastore (pc' := 58) (by decide +kernel) (show zA (zSI (zSI (Y9) 309 (zu (zI (Y9) 309) 0 1)) 309 (zu (zI (zSI (Y9) 309 (zu (zI (Y9) 309) 0 1)) 309) 1 1)) 309 100 3 from a9) ⟨by decide, by decide, by decide⟩ rfl ?_
  change ZP G d m_X12_init 58 [some (.ref 300), none, none] [.ref 309, .ref 300] (zSI (zSI (zSI (Y9) 309 (zu (zI (Y9) 309) 0 1)) 309 (zu (zI (zSI (Y9) 309 (zu (zI (Y9) 309) 0 1)) 309) 1 1)) 309 (zu (zI (zSI (zSI (Y9) 309 (zu (zI (Y9) 309) 0 1)) 309 (zu (zI (zSI (Y9) 309 (zu (zI (Y9) 309) 0 1)) 309) 1 1)) 309) 2 1)) _
  obtain ⟨V9, v9⟩ : ∃ V9, V9 = zSI (zSI (zSI (Y9) 309 (zu (zI (Y9) 309) 0 1)) 309 (zu (zI (zSI (Y9) 309 (zu (zI (Y9) 309) 0 1)) 309) 1 1)) 309 (zu (zI (zSI (zSI (Y9) 309 (zu (zI (Y9) 309) 0 1)) 309 (zu (zI (zSI (Y9) 309 (zu (zI (Y9) 309) 0 1)) 309) 1 1)) 309) 2 1) := ⟨_, rfl⟩
  have h9' : mnS 300 12 310 (zSl Z + 1181) [(5, 304), (3, 303), (1, 302), (0, 301)] V9 := by rw [v9]; exact (((h9.si 309 _ (by decide) (by decide)).si 309 _ (by decide) (by decide)).si 309 _ (by decide) (by decide))
  have x9' : xE 300 Y8 V9 := by
    have g := xI.C Y8 100 3 3
    rw [← e9] at g
    rw [v9]
    exact (((g.si 309 _ (by rw [h8.sz]; decide)).si 309 _ (by rw [h8.sz]; decide)).si 309 _ (by rw [h8.sz]; decide)).e
  have a9' : zA V9 309 100 3 := by rw [v9]; exact a9
  have on : ∀ i, i < 3 → zI V9 309 i = 1 := fun i hi => by
    rw [v9, zI_same, zI_same, zI_same]
    rcases (by omega : i = 0 ∨ i = 1 ∨ i = 2) with rfl | rfl | rfl <;> rfl
  rw [← v9]
  clear x9
  refine z_putR (pc' := 61) (idx := 27) (ci := 12) (f := 6) (b := 309) (by decide +kernel) f_RX12_27 (am_nfF rfl rfl ⟨rfl, rfl, (amM7 238 rfl (by decide +kernel))⟩) rfl h9'.o h9'.kd rfl ?_
  have x10 := xE.put V9 300 (zu (zR V9 300) 6 (some 309))
  have h10 : mnS 300 12 310 (zSl Z + 1181) [(6, 309), (5, 304), (3, 303), (1, 302), (0, 301)] _ := h9'.put 6 309 (by simp)
  obtain ⟨Y10, e10⟩ : ∃ Y10, Y10 = zSR V9 300 (zu (zR V9 300) 6 (some 309)) := ⟨_, rfl⟩
  rw [← e10] at h10 x10 ⊢
  refine z_aload_n (pc' := 62) (j := 0) (by decide +kernel) rfl rfl ?_
  refine z_bipush (pc' := 64) (n := 20) (by decide +kernel) (by decide) rfl ?_
  refine z_new100 (pc' := 66) (n := 20) (by decide +kernel) (amM1 88 rfl (by decide +kernel)) (by decide) (by decide) (by rw [h10.sz]; decide) rfl ?_
  rw [h10.sz, show ((20 : Int)).toNat = 20 from rfl]
  have x11 := (xI.C Y10 100 20 20).e (m := 300)
  have a11 := zA_C Y10 100 20 20
  rw [h10.sz] at a11
  have h11 : mnS 300 12 311 (zSl Z + 1201) [(6, 309), (5, 304), (3, 303), (1, 302), (0, 301)] _ := h10.C 100 20 20 rfl (by omega)
  obtain ⟨Y11, e11⟩ : ∃ Y11, Y11 = zC Y10 100 20 20 := ⟨_, rfl⟩
  rw [← e11] at h11 x11 a11 ⊢
  change ZP G d m_X12_init 66 [some (.ref 300), none, none] [.ref 310, .ref 300] Y11 _
  refine z_putR (pc' := 69) (idx := 30) (ci := 12) (f := 7) (b := 310) (by decide +kernel) f_RX12_30 (am_nfF rfl rfl ⟨rfl, rfl, (amM7 239 rfl (by decide +kernel))⟩) rfl h11.o h11.kd rfl ?_
  have x12 := xE.put Y11 300 (zu (zR Y11 300) 7 (some 310))
  have h12 : mnS 300 12 311 (zSl Z + 1201) [(7, 310), (6, 309), (5, 304), (3, 303), (1, 302), (0, 301)] _ := h11.put 7 310 (by simp)
  obtain ⟨Y12, e12⟩ : ∃ Y12, Y12 = zSR Y11 300 (zu (zR Y11 300) 7 (some 310)) := ⟨_, rfl⟩
  rw [← e12] at h12 x12 ⊢
  refine z_aload_n (pc' := 70) (j := 0) (by decide +kernel) rfl rfl ?_
  refine z_bipush (pc' := 72) (n := 20) (by decide +kernel) (by decide) rfl ?_
  refine z_new100 (pc' := 74) (n := 20) (by decide +kernel) (amM1 88 rfl (by decide +kernel)) (by decide) (by decide) (by rw [h12.sz]; decide) rfl ?_
  rw [h12.sz, show ((20 : Int)).toNat = 20 from rfl]
  have x13 := (xI.C Y12 100 20 20).e (m := 300)
  have a13 := zA_C Y12 100 20 20
  rw [h12.sz] at a13
  have h13 : mnS 300 12 312 (zSl Z + 1221) [(7, 310), (6, 309), (5, 304), (3, 303), (1, 302), (0, 301)] _ := h12.C 100 20 20 rfl (by omega)
  obtain ⟨Y13, e13⟩ : ∃ Y13, Y13 = zC Y12 100 20 20 := ⟨_, rfl⟩
  rw [← e13] at h13 x13 a13 ⊢
  change ZP G d m_X12_init 74 [some (.ref 300), none, none] [.ref 311, .ref 300] Y13 _
  refine z_putR (pc' := 77) (idx := 33) (ci := 12) (f := 11) (b := 311) (by decide +kernel) f_RX12_33 (am_nfF rfl rfl ⟨rfl, rfl, (amM8 3 rfl (by decide +kernel))⟩) rfl h13.o h13.kd rfl ?_
  have x14 := xE.put Y13 300 (zu (zR Y13 300) 11 (some 311))
  have h14 : mnS 300 12 312 (zSl Z + 1221) [(11, 311), (7, 310), (6, 309), (5, 304), (3, 303), (1, 302), (0, 301)] _ := h13.put 11 311 (by simp)
  obtain ⟨Y14, e14⟩ : ∃ Y14, Y14 = zSR Y13 300 (zu (zR Y13 300) 11 (some 311)) := ⟨_, rfl⟩
  rw [← e14] at h14 x14 ⊢
  refine z_aload_n (pc' := 78) (j := 0) (by decide +kernel) rfl rfl ?_
  refine z_bipush (pc' := 80) (n := 20) (by decide +kernel) (by decide) rfl ?_
  refine z_new100 (pc' := 82) (n := 20) (by decide +kernel) (amM1 88 rfl (by decide +kernel)) (by decide) (by decide) (by rw [h14.sz]; decide) rfl ?_
  rw [h14.sz, show ((20 : Int)).toNat = 20 from rfl]
  have x15 := (xI.C Y14 100 20 20).e (m := 300)
  have a15 := zA_C Y14 100 20 20
  rw [h14.sz] at a15
  have h15 : mnS 300 12 313 (zSl Z + 1241) [(11, 311), (7, 310), (6, 309), (5, 304), (3, 303), (1, 302), (0, 301)] _ := h14.C 100 20 20 rfl (by omega)
  obtain ⟨Y15, e15⟩ : ∃ Y15, Y15 = zC Y14 100 20 20 := ⟨_, rfl⟩
  rw [← e15] at h15 x15 a15 ⊢
  change ZP G d m_X12_init 82 [some (.ref 300), none, none] [.ref 312, .ref 300] Y15 _
  refine z_putR (pc' := 85) (idx := 36) (ci := 12) (f := 12) (b := 312) (by decide +kernel) f_RX12_36 (am_nfF rfl rfl ⟨rfl, rfl, (amM8 4 rfl (by decide +kernel))⟩) rfl h15.o h15.kd rfl ?_
  have x16 := xE.put Y15 300 (zu (zR Y15 300) 12 (some 312))
  have h16 : mnS 300 12 313 (zSl Z + 1241) [(12, 312), (11, 311), (7, 310), (6, 309), (5, 304), (3, 303), (1, 302), (0, 301)] _ := h15.put 12 312 (by simp)
  obtain ⟨Y16, e16⟩ : ∃ Y16, Y16 = zSR Y15 300 (zu (zR Y15 300) 12 (some 312)) := ⟨_, rfl⟩
  rw [← e16] at h16 x16 ⊢
  refine z_aload_n (pc' := 86) (j := 0) (by decide +kernel) rfl rfl ?_
  refine z_iconst (pc' := 87) (n := 3) (by decide +kernel) rfl ?_
  refine z_new100 (pc' := 89) (n := 3) (by decide +kernel) (amM1 88 rfl (by decide +kernel)) (by decide) (by decide) (by rw [h16.sz]; decide) rfl ?_
  rw [h16.sz, show ((3 : Int)).toNat = 3 from rfl]
  have x17 := (xI.C Y16 100 3 3).e (m := 300)
  have a17 := zA_C Y16 100 3 3
  rw [h16.sz] at a17
  have h17 : mnS 300 12 314 (zSl Z + 1244) [(12, 312), (11, 311), (7, 310), (6, 309), (5, 304), (3, 303), (1, 302), (0, 301)] _ := h16.C 100 3 3 rfl (by omega)
  obtain ⟨Y17, e17⟩ : ∃ Y17, Y17 = zC Y16 100 3 3 := ⟨_, rfl⟩
  rw [← e17] at h17 x17 a17 ⊢
  change ZP G d m_X12_init 89 [some (.ref 300), none, none] [.ref 313, .ref 300] Y17 _
  refine z_putR (pc' := 92) (idx := 39) (ci := 12) (f := 13) (b := 313) (by decide +kernel) f_RX12_39 (am_nfF rfl rfl ⟨rfl, rfl, (amM8 5 rfl (by decide +kernel))⟩) rfl h17.o h17.kd rfl ?_
  have x18 := xE.put Y17 300 (zu (zR Y17 300) 13 (some 313))
  have h18 : mnS 300 12 314 (zSl Z + 1244) [(13, 313), (12, 312), (11, 311), (7, 310), (6, 309), (5, 304), (3, 303), (1, 302), (0, 301)] _ := h17.put 13 313 (by simp)
  obtain ⟨Y18, e18⟩ : ∃ Y18, Y18 = zSR Y17 300 (zu (zR Y17 300) 13 (some 313)) := ⟨_, rfl⟩
  rw [← e18] at h18 x18 ⊢
  refine z_aload_n (pc' := 93) (j := 0) (by decide +kernel) rfl rfl ?_
  refine z_bipush (pc' := 95) (n := 20) (by decide +kernel) (by decide) rfl ?_
  refine z_new100 (pc' := 97) (n := 20) (by decide +kernel) (amM1 88 rfl (by decide +kernel)) (by decide) (by decide) (by rw [h18.sz]; decide) rfl ?_
  rw [h18.sz, show ((20 : Int)).toNat = 20 from rfl]
  have x19 := (xI.C Y18 100 20 20).e (m := 300)
  have a19 := zA_C Y18 100 20 20
  rw [h18.sz] at a19
  have h19 : mnS 300 12 315 (zSl Z + 1264) [(13, 313), (12, 312), (11, 311), (7, 310), (6, 309), (5, 304), (3, 303), (1, 302), (0, 301)] _ := h18.C 100 20 20 rfl (by omega)
  obtain ⟨Y19, e19⟩ : ∃ Y19, Y19 = zC Y18 100 20 20 := ⟨_, rfl⟩
  rw [← e19] at h19 x19 a19 ⊢
  change ZP G d m_X12_init 97 [some (.ref 300), none, none] [.ref 314, .ref 300] Y19 _
  refine z_putR (pc' := 100) (idx := 42) (ci := 12) (f := 15) (b := 314) (by decide +kernel) f_RX12_42 (am_nfF rfl rfl ⟨rfl, rfl, (amM8 7 rfl (by decide +kernel))⟩) rfl h19.o h19.kd rfl ?_
  have x20 := xE.put Y19 300 (zu (zR Y19 300) 15 (some 314))
  have h20 : mnS 300 12 315 (zSl Z + 1264) [(15, 314), (13, 313), (12, 312), (11, 311), (7, 310), (6, 309), (5, 304), (3, 303), (1, 302), (0, 301)] _ := h19.put 15 314 (by simp)
  obtain ⟨Y20, e20⟩ : ∃ Y20, Y20 = zSR Y19 300 (zu (zR Y19 300) 15 (some 314)) := ⟨_, rfl⟩
  rw [← e20] at h20 x20 ⊢
  refine z_aload_n (pc' := 101) (j := 0) (by decide +kernel) rfl rfl ?_
  refine z_bipush (pc' := 103) (n := 20) (by decide +kernel) (by decide) rfl ?_
  refine z_new100 (pc' := 105) (n := 20) (by decide +kernel) (amM1 88 rfl (by decide +kernel)) (by decide) (by decide) (by rw [h20.sz]; decide) rfl ?_
  rw [h20.sz, show ((20 : Int)).toNat = 20 from rfl]
  have x21 := (xI.C Y20 100 20 20).e (m := 300)
  have a21 := zA_C Y20 100 20 20
  rw [h20.sz] at a21
  have h21 : mnS 300 12 316 (zSl Z + 1284) [(15, 314), (13, 313), (12, 312), (11, 311), (7, 310), (6, 309), (5, 304), (3, 303), (1, 302), (0, 301)] _ := h20.C 100 20 20 rfl (by omega)
  obtain ⟨Y21, e21⟩ : ∃ Y21, Y21 = zC Y20 100 20 20 := ⟨_, rfl⟩
  rw [← e21] at h21 x21 a21 ⊢
  change ZP G d m_X12_init 105 [some (.ref 300), none, none] [.ref 315, .ref 300] Y21 _
  refine z_putR (pc' := 108) (idx := 45) (ci := 12) (f := 17) (b := 315) (by decide +kernel) f_RX12_45 (am_nfF rfl rfl ⟨rfl, rfl, (amM8 9 rfl (by decide +kernel))⟩) rfl h21.o h21.kd rfl ?_
  have x22 := xE.put Y21 300 (zu (zR Y21 300) 17 (some 315))
  have h22 : mnS 300 12 316 (zSl Z + 1284) [(17, 315), (15, 314), (13, 313), (12, 312), (11, 311), (7, 310), (6, 309), (5, 304), (3, 303), (1, 302), (0, 301)] _ := h21.put 17 315 (by simp)
  obtain ⟨Y22, e22⟩ : ∃ Y22, Y22 = zSR Y21 300 (zu (zR Y21 300) 17 (some 315)) := ⟨_, rfl⟩
  rw [← e22] at h22 x22 ⊢
  refine z_aload_n (pc' := 109) (j := 0) (by decide +kernel) rfl rfl ?_
  refine z_bipush (pc' := 111) (n := 20) (by decide +kernel) (by decide) rfl ?_
  refine z_new100 (pc' := 113) (n := 20) (by decide +kernel) (amM1 88 rfl (by decide +kernel)) (by decide) (by decide) (by rw [h22.sz]; decide) rfl ?_
  rw [h22.sz, show ((20 : Int)).toNat = 20 from rfl]
  have x23 := (xI.C Y22 100 20 20).e (m := 300)
  have a23 := zA_C Y22 100 20 20
  rw [h22.sz] at a23
  have h23 : mnS 300 12 317 (zSl Z + 1304) [(17, 315), (15, 314), (13, 313), (12, 312), (11, 311), (7, 310), (6, 309), (5, 304), (3, 303), (1, 302), (0, 301)] _ := h22.C 100 20 20 rfl (by omega)
  obtain ⟨Y23, e23⟩ : ∃ Y23, Y23 = zC Y22 100 20 20 := ⟨_, rfl⟩
  rw [← e23] at h23 x23 a23 ⊢
  change ZP G d m_X12_init 113 [some (.ref 300), none, none] [.ref 316, .ref 300] Y23 _
  refine z_putR (pc' := 116) (idx := 48) (ci := 12) (f := 18) (b := 316) (by decide +kernel) f_RX12_48 (am_nfF rfl rfl ⟨rfl, rfl, (amM8 10 rfl (by decide +kernel))⟩) rfl h23.o h23.kd rfl ?_
  have x24 := xE.put Y23 300 (zu (zR Y23 300) 18 (some 316))
  have h24 : mnS 300 12 317 (zSl Z + 1304) [(18, 316), (17, 315), (15, 314), (13, 313), (12, 312), (11, 311), (7, 310), (6, 309), (5, 304), (3, 303), (1, 302), (0, 301)] _ := h23.put 18 316 (by simp)
  obtain ⟨Y24, e24⟩ : ∃ Y24, Y24 = zSR Y23 300 (zu (zR Y23 300) 18 (some 316)) := ⟨_, rfl⟩
  rw [← e24] at h24 x24 ⊢
  refine z_aload_n (pc' := 117) (j := 0) (by decide +kernel) rfl rfl ?_
  refine z_bipush (pc' := 119) (n := 20) (by decide +kernel) (by decide) rfl ?_
  refine z_new100 (pc' := 121) (n := 20) (by decide +kernel) (amM1 88 rfl (by decide +kernel)) (by decide) (by decide) (by rw [h24.sz]; decide) rfl ?_
  rw [h24.sz, show ((20 : Int)).toNat = 20 from rfl]
  have x25 := (xI.C Y24 100 20 20).e (m := 300)
  have a25 := zA_C Y24 100 20 20
  rw [h24.sz] at a25
  have h25 : mnS 300 12 318 (zSl Z + 1324) [(18, 316), (17, 315), (15, 314), (13, 313), (12, 312), (11, 311), (7, 310), (6, 309), (5, 304), (3, 303), (1, 302), (0, 301)] _ := h24.C 100 20 20 rfl (by omega)
  obtain ⟨Y25, e25⟩ : ∃ Y25, Y25 = zC Y24 100 20 20 := ⟨_, rfl⟩
  rw [← e25] at h25 x25 a25 ⊢
  change ZP G d m_X12_init 121 [some (.ref 300), none, none] [.ref 317, .ref 300] Y25 _
  refine z_putR (pc' := 124) (idx := 51) (ci := 12) (f := 20) (b := 317) (by decide +kernel) f_RX12_51 (am_nfF rfl rfl ⟨rfl, rfl, (amM8 12 rfl (by decide +kernel))⟩) rfl h25.o h25.kd rfl ?_
  have x26 := xE.put Y25 300 (zu (zR Y25 300) 20 (some 317))
  have h26 : mnS 300 12 318 (zSl Z + 1324) [(20, 317), (18, 316), (17, 315), (15, 314), (13, 313), (12, 312), (11, 311), (7, 310), (6, 309), (5, 304), (3, 303), (1, 302), (0, 301)] _ := h25.put 20 317 (by simp)
  obtain ⟨Y26, e26⟩ : ∃ Y26, Y26 = zSR Y25 300 (zu (zR Y25 300) 20 (some 317)) := ⟨_, rfl⟩
  rw [← e26] at h26 x26 ⊢
  refine z_aload_n (pc' := 125) (j := 0) (by decide +kernel) rfl rfl ?_
  refine z_bipush (pc' := 127) (n := 20) (by decide +kernel) (by decide) rfl ?_
  refine z_new100 (pc' := 129) (n := 20) (by decide +kernel) (amM1 88 rfl (by decide +kernel)) (by decide) (by decide) (by rw [h26.sz]; decide) rfl ?_
  rw [h26.sz, show ((20 : Int)).toNat = 20 from rfl]
  have x27 := (xI.C Y26 100 20 20).e (m := 300)
  have a27 := zA_C Y26 100 20 20
  rw [h26.sz] at a27
  have h27 : mnS 300 12 319 (zSl Z + 1344) [(20, 317), (18, 316), (17, 315), (15, 314), (13, 313), (12, 312), (11, 311), (7, 310), (6, 309), (5, 304), (3, 303), (1, 302), (0, 301)] _ := h26.C 100 20 20 rfl (by omega)
  obtain ⟨Y27, e27⟩ : ∃ Y27, Y27 = zC Y26 100 20 20 := ⟨_, rfl⟩
  rw [← e27] at h27 x27 a27 ⊢
  change ZP G d m_X12_init 129 [some (.ref 300), none, none] [.ref 318, .ref 300] Y27 _
  refine z_putR (pc' := 132) (idx := 54) (ci := 12) (f := 21) (b := 318) (by decide +kernel) f_RX12_54 (am_nfF rfl rfl ⟨rfl, rfl, (amM8 13 rfl (by decide +kernel))⟩) rfl h27.o h27.kd rfl ?_
  have x28 := xE.put Y27 300 (zu (zR Y27 300) 21 (some 318))
  have h28 : mnS 300 12 319 (zSl Z + 1344) [(21, 318), (20, 317), (18, 316), (17, 315), (15, 314), (13, 313), (12, 312), (11, 311), (7, 310), (6, 309), (5, 304), (3, 303), (1, 302), (0, 301)] _ := h27.put 21 318 (by simp)
  obtain ⟨Y28, e28⟩ : ∃ Y28, Y28 = zSR Y27 300 (zu (zR Y27 300) 21 (some 318)) := ⟨_, rfl⟩
  rw [← e28] at h28 x28 ⊢
  refine z_aload_n (pc' := 133) (j := 0) (by decide +kernel) rfl rfl ?_
  refine z_bipush (pc' := 135) (n := 20) (by decide +kernel) (by decide) rfl ?_
  refine z_new100 (pc' := 137) (n := 20) (by decide +kernel) (amM1 88 rfl (by decide +kernel)) (by decide) (by decide) (by rw [h28.sz]; decide) rfl ?_
  rw [h28.sz, show ((20 : Int)).toNat = 20 from rfl]
  have x29 := (xI.C Y28 100 20 20).e (m := 300)
  have a29 := zA_C Y28 100 20 20
  rw [h28.sz] at a29
  have h29 : mnS 300 12 320 (zSl Z + 1364) [(21, 318), (20, 317), (18, 316), (17, 315), (15, 314), (13, 313), (12, 312), (11, 311), (7, 310), (6, 309), (5, 304), (3, 303), (1, 302), (0, 301)] _ := h28.C 100 20 20 rfl (by omega)
  obtain ⟨Y29, e29⟩ : ∃ Y29, Y29 = zC Y28 100 20 20 := ⟨_, rfl⟩
  rw [← e29] at h29 x29 a29 ⊢
  change ZP G d m_X12_init 137 [some (.ref 300), none, none] [.ref 319, .ref 300] Y29 _
  refine z_putR (pc' := 140) (idx := 57) (ci := 12) (f := 22) (b := 319) (by decide +kernel) f_RX12_57 (am_nfF rfl rfl ⟨rfl, rfl, (amM8 14 rfl (by decide +kernel))⟩) rfl h29.o h29.kd rfl ?_
  have x30 := xE.put Y29 300 (zu (zR Y29 300) 22 (some 319))
  have h30 : mnS 300 12 320 (zSl Z + 1364) [(22, 319), (21, 318), (20, 317), (18, 316), (17, 315), (15, 314), (13, 313), (12, 312), (11, 311), (7, 310), (6, 309), (5, 304), (3, 303), (1, 302), (0, 301)] _ := h29.put 22 319 (by simp)
  obtain ⟨Y30, e30⟩ : ∃ Y30, Y30 = zSR Y29 300 (zu (zR Y29 300) 22 (some 319)) := ⟨_, rfl⟩
  rw [← e30] at h30 x30 ⊢
  refine z_iconst (pc' := 141) (n := 0) (by decide +kernel) rfl ?_
  refine z_istore_n (pc' := 142) (j := 1) (ls' := [some (.ref 300), some (iv 0), none]) (by decide +kernel) (by decide) rfl rfl ?_
  have g30 := xE.refl 300 Y30
  have g29 := x30.trans g30
  have g28 := x29.trans g29
  have g27 := x28.trans g28
  have g26 := x27.trans g27
  have g25 := x26.trans g26
  have g24 := x25.trans g25
  have g23 := x24.trans g24
  have g22 := x23.trans g23
  have g21 := x22.trans g22
  have g20 := x21.trans g21
  have g19 := x20.trans g20
  have g18 := x19.trans g19
  have g17 := x18.trans g18
  have g16 := x17.trans g17
  have g15 := x16.trans g16
  have g14 := x15.trans g15
  have g13 := x14.trans g14
  have g12 := x13.trans g13
  have g11 := x12.trans g12
  have g10 := x11.trans g11
  have g9 := x10.trans g10
  have g8 := x9'.trans g9
  have g7 := x8.trans g8
  have g6 := x7.trans g7
  have g5 := x6.trans g6
  have g4 := x5.trans g5
  have g3 := x4.trans g4
  have g2 := x3.trans g3
  have g1 := x2.trans g2
  have g0 := x1.trans g1
  have al : atModel Y30 300 301 := ⟨⟨h30.o, h30.kd⟩, h30.r (0, 301) (by simp), g1.A (by decide) a1, h30.r (1, 302) (by simp), g3.A (by decide) a3, h30.r (3, 303) (by simp), g5.A (by decide) a5, h30.r (5, 304) (by simp), g7.A (by decide) a7.1, fun i hi => (congrFun (g7.r (by decide) (by rw [h7.sz]; decide)) i).trans (a7.2.1 i hi), fun i hi => g7.A (by omega) (a7.2.2 i hi), h30.r (6, 309) (by simp), g9.A (by decide) a9', h30.r (7, 310) (by simp), g11.A (by decide) a11, h30.r (11, 311) (by simp), g13.A (by decide) a13, h30.r (12, 312) (by simp), g15.A (by decide) a15, h30.r (13, 313) (by simp), g17.A (by decide) a17, h30.r (15, 314) (by simp), g19.A (by decide) a19, h30.r (17, 315) (by simp), g21.A (by decide) a21, h30.r (18, 316) (by simp), g23.A (by decide) a23, h30.r (20, 317) (by simp), g25.A (by decide) a25, h30.r (21, 318) (by simp), g27.A (by decide) a27, h30.r (22, 319) (by simp), g29.A (by decide) a29⟩
  have z1 : ∀ i, zI Y30 301 i = 0 := fun i => (congrFun (g1.i (by decide) (by rw [h1.sz]; decide)) i).trans (zb i)
  have zH : ∀ i, i < 3 → zI Y30 309 i = 1 := fun i hi => (congrFun (g9.i (by decide) (by rw [h9'.sz]; decide)) i).trans (on i hi)
  exact L 0 (by decide) Y30 ⟨⟨al, ⟨h30.1.1, z1, zH, h30.2.1⟩, g0⟩, fun c t _ _ hc => absurd hc (by omega)⟩ _
