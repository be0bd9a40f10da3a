/-! ===== rows of rows put, copies, Math, constants, statics, old cells, ends ===== -/
theorem am_asg (vm : Vm) (c : ClassId) : vm.assignable c c = true := by
  show vm.assignableAux (255 + 1) c c = true
  rw [Vm.assignableAux]
  exact Bool.or_eq_true_iff.mpr (Or.inl (beq_self_eq_true c))
theorem w_aastore120 {G : Gx} {d : Nat} {mi : MI} {pc pc' : Nat} {ls : LsT} {st : List Value} {M : Mm} {Q : Rv → Mm → Prop} {a : Nat} {i : Int32} {v : Nat} (hd : decode mi.2.1 pc = .ok (.aastore, 1)) (ha : a < mSz M) (hk : mKd M a = 120) (hin : vp_in i (mLn M a)) (hv : v < mSz M) (hvk : mKd M v = 100) (hp : pc + 1 = pc') (k : WP G d mi pc' ls st (sR M a i.toNatClampNeg (some v)) Q) : WP G d mi pc ls (.ref v :: .int i :: .ref a :: st) M Q := by
  subst hp
  refine wp_put (M1 := sR M a i.toNatClampNeg (some v)) ⟨rfl, rfl⟩ (fun p e R s m args below meth c H locs arr Qf cells slots F X L K => ?_) k
  have hw := X.at ha
  rw [amC_120 hk] at hw
  have hvw := X.at hv
  rw [amC_100 hvk] at hvw
  have hlt : i.toNatClampNeg < mLn M a := Nat.not_le.mp fun q => hin (Or.inr q)
  have h0 : ¬ i < 0 := fun q => hin (Or.inl q)
  obtain ⟨-, kA, kI, k1, k2, k3, -⟩ := F.kk
  have h2 := W.aast (v := G.2.1 + v) (g := F0 m pc arr (.ref (G.2.1 + v) :: .int i :: .ref (G.2.1 + a) :: st.map (amV G))) F.1 F.2.1 hw (fun q h => by cases h) (fun h => by cases h) k1 k2 rfl k3 ⟨h0, by show _ < (arrV _ _ _).slots.size; rw [arrV_size]; exact hlt⟩ hvw (fun q h => by cases h) k3 (am_asg _ _) rfl rfl hd (fun H1 e1 z oq => K H1 _ (amRp.set X ha rfl (fun b hb => amC_sR hb) (by
    rw [amC_120 (M := sR M a i.toNatClampNeg (some v)) hk]
    show H1[G.2.1 + a]? = some (vp_cell _ _)
    rw [e1, vp_cell_q, vp_cell_q, arrV_store]
    congr 2
    have e3 : mR (sR M a i.toNatClampNeg (some v)) a = va_up (mR M a) i.toNatClampNeg (some v) := if_pos rfl
    rw [e3]
    funext q
    by_cases hq : q = i.toNatClampNeg
    · subst hq
      simp [updV, va_up, va_rf, X.ad hv]
    · simp [updV, va_up, hq]) z oq))
  rw [← amVref X ha, ← amVref X hv] at h2
  exact h2
theorem w_aastore122 {G : Gx} {d : Nat} {mi : MI} {pc pc' : Nat} {ls : LsT} {st : List Value} {M : Mm} {Q : Rv → Mm → Prop} {a : Nat} {i : Int32} {v : Nat} (hd : decode mi.2.1 pc = .ok (.aastore, 1)) (ha : a < mSz M) (hk : mKd M a = 122) (hin : vp_in i (mLn M a)) (hv : v < mSz M) (hvk : mKd M v = 0) (hp : pc + 1 = pc') (k : WP G d mi pc' ls st (sR M a i.toNatClampNeg (some v)) Q) : WP G d mi pc ls (.ref v :: .int i :: .ref a :: st) M Q := by
  subst hp
  refine wp_put (M1 := sR M a i.toNatClampNeg (some v)) ⟨rfl, rfl⟩ (fun p e R s m args below meth c H locs arr Qf cells slots F X L K => ?_) k
  have hw := X.at ha
  rw [amC_122 hk] at hw
  have hvw := X.at hv
  rw [amC_obj (by rw [hvk]; omega), hvk] at hvw
  obtain ⟨r, hr, cellV, g1, g2, g3, -⟩ := hvw
  have hlt : i.toNatClampNeg < mLn M a := Nat.not_le.mp fun q => hin (Or.inr q)
  have h0 : ¬ i < 0 := fun q => hin (Or.inl q)
  have hcls := (F.kk.1.1 0 _ rfl).2
  obtain ⟨kA, comp, k1, k2, k3, -⟩ := (F.kk.1.2 7 _ rfl).2
  have hcomp : comp = G.2.2.2.1.1 0 := Option.some.inj (k3.symm.trans hcls.1)
  subst hcomp
  obtain ⟨kC, hkC, hkC2⟩ := hcls.2
  have h2 := W.aast (v := G.2.1 + v) (g := F0 m pc arr (.ref (G.2.1 + v) :: .int i :: .ref (G.2.1 + a) :: st.map (amV G))) F.1 F.2.1 hw (fun q h => by cases h) (fun h => by cases h) k1 k2 rfl hkC ⟨h0, by show _ < (arrV _ _ _).slots.size; rw [arrV_size]; exact hlt⟩ g1 (fun q h => by rw [g3] at h; cases h) (by rw [g2]; exact hkC) (by rw [g2]; exact am_asg _ _) rfl rfl hd (fun H1 e1 z oq => K H1 _ (amRp.set X ha rfl (fun b hb => amC_sR hb) (by
    rw [amC_122 (M := sR M a i.toNatClampNeg (some v)) hk]
    show H1[G.2.1 + a]? = some (vp_cell _ _)
    rw [e1, vp_cell_q, vp_cell_q, arrV_store]
    congr 2
    have e3 : mR (sR M a i.toNatClampNeg (some v)) a = va_up (mR M a) i.toNatClampNeg (some v) := if_pos rfl
    rw [e3]
    funext q
    by_cases hq : q = i.toNatClampNeg
    · subst hq
      simp [updV, va_up, va_rf, X.ad hv]
    · simp [updV, va_up, hq]) z oq))
  rw [← amVref X ha, ← amVref X hv] at h2
  exact h2
/-- System.arraycopy of rows of ints -/
theorem w_copy {G : Gx} {d : Nat} {mi : MI} {pc pc' : Nat} {ls : LsT} {st : List Value} {M : Mm} {Q : Rv → Mm → Prop} {a : Nat} {idx b : Nat} {sp dp n : Int32} (hd : decode mi.2.1 pc = .ok (.invokestatic idx, 3)) (hl : Cond.methodLink mi.1.cls idx arraycopyName ∈ amWs) (hnat : Cond.native arraycopyName ∈ amWs) (hstat : Cond.static arraycopyName ∈ amWs) (hini : Cond.initialized "java/lang/System" ∈ amWs) (hd1 : 1 ≤ d) (hst : (st.map fun v => v.category).sum ≤ 8)
    (hb : b < mSz M) (hkb : mKd M b = 100) (ha : a < mSz M) (hka : mKd M a = 100) (h1 : ¬ sp < 0) (h2 : ¬ dp < 0) (h3 : ¬ n < 0) (h4 : sp.toNatClampNeg + n.toNatClampNeg ≤ mLn M b) (h5 : dp.toNatClampNeg + n.toNatClampNeg ≤ mLn M a) (hp : pc + 3 = pc')
    (k : WP G d mi pc' ls st (sC M b a sp.toNatClampNeg dp.toNatClampNeg n.toNatClampNeg) Q) : WP G d mi pc ls (.int n :: .int dp :: .ref a :: .int sp :: .ref b :: st) M Q := by
  subst hp
  refine wp_put (M1 := sC M b a sp.toNatClampNeg dp.toNatClampNeg n.toNatClampNeg) ⟨rfl, rfl⟩ (fun p e R s m args below meth c H locs arr Qf cells slots F X L K => ?_) k
  have nn : ∀ z : Int32, ¬ z < 0 → z.toInt = (z.toNatClampNeg : Int) := by
    intro z hz
    have hz0 : (0 : Int) ≤ z.toInt := by
      have := Int32.not_lt.mp hz
      simpa using Int32.le_iff_toInt_le.mp this
    show z.toInt = ((z.toInt.toNat : Nat) : Int)
    omega
  have hc0 := X.at hb
  rw [amC_100 hkb] at hc0
  have hc1 := X.at ha
  rw [amC_100 hka] at hc1
  have hsum : ((st.map (amV G)).map fun v => v.category).sum ≤ 8 := by
    rw [List.map_map]
    simpa [Function.comp_def, amV_cat] using hst
  have hrm := F.rm
  have hca : va_at G.2.2.2.1 amCl (G.2.1 + a, amC G (sC M b a sp.toNatClampNeg dp.toNatClampNeg n.toNatClampNeg) a) (H.setIfInBounds (G.2.1 + a) (vp_cell (G.2.2.2.2.1 100) (mLn M a, .inl (va_cpy (mI M b) (mI M a) sp.toNatClampNeg dp.toNatClampNeg n.toNatClampNeg)))) := by
    rw [amC_100 (M := sC M b a sp.toNatClampNeg dp.toNatClampNeg n.toNatClampNeg) hka]
    have e3 : mI (sC M b a sp.toNatClampNeg dp.toNatClampNeg n.toNatClampNeg) a = va_cpy (mI M b) (mI M a) sp.toNatClampNeg dp.toNatClampNeg n.toNatClampNeg := if_pos rfl
    rw [e3]
    have hl9 : G.2.1 + a < H.size := (Array.getElem?_eq_some_iff.mp hc1).1
    show (H.setIfInBounds _ _)[G.2.1 + a]? = some _
    simp [Array.getElem?_setIfInBounds, hl9]
    rfl
  have h9 : W p G.1 e R s m args below meth c H locs cells slots Qf (F0 m pc arr (.int n :: .int dp :: .ref (G.2.1 + a) :: .int sp :: .ref (G.2.1 + b) :: st.map (amV G))) := by
    intro T hT Xs
    obtain ⟨-, k0, hk0, cm0, hkk0⟩ := amK_100 F.kk (mLn M b) (fun j => .int (mI M b j))
    obtain ⟨-, k1, hk1, cm1, hkk1⟩ := amK_100 F.kk (mLn M a) (fun j => .int (mI M a j))
    obtain ⟨vm', X', step⟩ := Xs.arraycopy F.1 F.own (F.ts _ hl) (F.ts _ hnat) (F.ts _ hstat) (F.ts _ hini) (src := G.2.1 + b) (dst := G.2.1 + a) (cs := vp_cell (G.2.2.2.2.1 100) (mLn M b, .inl (mI M b))) (cd := vp_cell (G.2.2.2.2.1 100) (mLn M a, .inl (mI M a))) (srcPos := sp) (destPos := dp) (n := n) (by rw [hT]; exact hc0) (by rw [hT]; exact hc1)
      (fun _ h => by cases h) (fun _ h => by cases h) (fun h => by cases h) (fun h => by cases h) hk0 hk1 hkk0 hkk1 (by simp [refKind]) h1 h2 h3
      (by rw [nn sp h1, nn n h3]; show ¬ _ > ((arrV (G.2.2.2.2.1 100) (mLn M b) (fun j => .int (mI M b j))).slots.size : Int); rw [arrV_size]; omega)
      (by rw [nn dp h2, nn n h3]; show ¬ _ > ((arrV (G.2.2.2.2.1 100) (mLn M a) (fun j => .int (mI M a j))).slots.size : Int); rw [arrV_size]; omega)
      (fun vm₁ _ i hi => by
        have e : (vp_cell (G.2.2.2.2.1 100) (mLn M b, .inl (mI M b))).slots.getD (sp.toNatClampNeg + i) .null = .int (mI M b (sp.toNatClampNeg + i)) := by
          show (arrV (G.2.2.2.2.1 100) (mLn M b) (fun j => .int (mI M b j))).slots.getD _ _ = _
          rw [Array.getD_eq_getD_getElem?, arrV_read _ _ (by omega)]
          rfl
        refine ⟨?_, ?_⟩
        · rw [e]
          rfl
        · rw [e]
          exact trivial)
      (g := F0 m pc arr (.int n :: .int dp :: .ref (G.2.1 + a) :: .int sp :: .ref (G.2.1 + b) :: st.map (amV G))) rfl (by rw [F.ml]; exact L.1) (rest := st.map (amV G)) rfl (by rw [F.2.1]; exact hd) (by omega) (by
        have e0 : nativeFrameWords "java/lang/System" "arraycopy" 5 ≤ 100 := by decide +kernel
        show 2 * 0 + _ + _ ≤ _
        omega)
    have e1 : copied (vp_cell (G.2.2.2.2.1 100) (mLn M b, .inl (mI M b))) (vp_cell (G.2.2.2.2.1 100) (mLn M a, .inl (mI M a))) sp dp n = vp_cell (G.2.2.2.2.1 100) (mLn M a, .inl (va_cpy (mI M b) (mI M a) sp.toNatClampNeg dp.toNatClampNeg n.toNatClampNeg)) := va_copied (fun z => .int z) _ _ _ _ h4
    rw [e1] at X' step
    have hheap : ((T.setVm vm').setCell (G.2.1 + a) (vp_cell (G.2.2.2.2.1 100) (mLn M a, .inl (va_cpy (mI M b) (mI M a) sp.toNatClampNeg dp.toNatClampNeg n.toNatClampNeg)))).heap = H.setIfInBounds (G.2.1 + a) (vp_cell (G.2.2.2.2.1 100) (mLn M a, .inl (va_cpy (mI M b) (mI M a) sp.toNatClampNeg dp.toNatClampNeg n.toNatClampNeg))) := by rw [← hT]; rfl
    have oq : ∀ q : Nat, q ≠ G.2.1 + a → (H.setIfInBounds (G.2.1 + a) (vp_cell (G.2.2.2.2.1 100) (mLn M a, .inl (va_cpy (mI M b) (mI M a) sp.toNatClampNeg dp.toNatClampNeg n.toNatClampNeg))))[q]? = H[q]? := fun q hq => by simp [Array.getElem?_setIfInBounds, Ne.symm hq]
    have hX1 := amRp.set (i := 0) X ha (M1 := sC M b a sp.toNatClampNeg dp.toNatClampNeg n.toNatClampNeg) rfl (fun q hq => amC_sC hq) hca (by simp) oq
    obtain ⟨t, a1, b1⟩ := K _ _ ⟨hX1.1, hX1.2.1, hX1.2.2.1, hX1.2.2.2.1, hX1.2.2.2.2.1, fun q hq => by
      rcases List.mem_append.mp hq with h | h
      · exact X.2.2.2.2.2 q h
      · obtain ⟨z, -, hz⟩ := List.mem_map.mp h
        rw [← hz]
        exact Nat.le_add_right _ _⟩ _ hheap X'
    exact ⟨t, step t a1, b1⟩
  rw [← amVref X ha, ← amVref X hb] at h9
  exact h9
theorem w_max {G : Gx} {d : Nat} {mi : MI} {pc pc' : Nat} {ls : LsT} {st : List Value} {M : Mm} {Q : Rv → Mm → Prop} {a : Nat} {idx : Nat} {x y : Int32} (hd : decode mi.2.1 pc = .ok (.invokestatic idx, 3)) (hl : Cond.methodLink mi.1.cls idx Lib.Math.max.name ∈ amWs) (hstat : Cond.static Lib.Math.max.name ∈ amWs) (hini : Cond.initialized "java/lang/Math" ∈ amWs) (hcode : Cond.code Lib.Math.max.name Lib.Math.max.code 2 (some .int) ∈ amWs) (hd1 : 1 ≤ d) (hst : (st.map fun v => v.category).sum ≤ 8) (hp : pc + 3 = pc') (k : WP G d mi pc' ls (.int (if x < y then y else x) :: st) M Q) : WP G d mi pc ls (.int y :: .int x :: st) M Q := by
  subst hp
  refine wp_step (fun p e R s m args below meth c H locs arr Qf cells slots F X L B K => ?_) k
  have hsum : ((st.map (amV G)).map fun v => v.category).sum ≤ 8 := by
    rw [List.map_map]
    simpa [Function.comp_def, amV_cat] using hst
  have hrm := F.rm
  exact va_mmax (rest := st.map (amV G)) F.1 F.2.1 (by rw [F.ml]; exact L.1.symm) F.own (F.ts _ hl) (F.ts _ hstat) (F.ts _ hini) (F.ts _ hcode) (by omega) (by omega) B.1 B.2 hd (K arr L)
theorem w_min {G : Gx} {d : Nat} {mi : MI} {pc pc' : Nat} {ls : LsT} {st : List Value} {M : Mm} {Q : Rv → Mm → Prop} {a : Nat} {idx : Nat} {x y : Int32} (hd : decode mi.2.1 pc = .ok (.invokestatic idx, 3)) (hl : Cond.methodLink mi.1.cls idx Lib.Math.min.name ∈ amWs) (hstat : Cond.static Lib.Math.min.name ∈ amWs) (hini : Cond.initialized "java/lang/Math" ∈ amWs) (hcode : Cond.code Lib.Math.min.name Lib.Math.min.code 2 (some .int) ∈ amWs) (hd1 : 1 ≤ d) (hst : (st.map fun v => v.category).sum ≤ 8) (hp : pc + 3 = pc') (k : WP G d mi pc' ls (.int (if y < x then y else x) :: st) M Q) : WP G d mi pc ls (.int y :: .int x :: st) M Q := by
  subst hp
  refine wp_step (fun p e R s m args below meth c H locs arr Qf cells slots F X L B K => ?_) k
  have hsum : ((st.map (amV G)).map fun v => v.category).sum ≤ 8 := by
    rw [List.map_map]
    simpa [Function.comp_def, amV_cat] using hst
  have hrm := F.rm
  exact va_mmin (rest := st.map (amV G)) F.1 F.2.1 (by rw [F.ml]; exact L.1.symm) F.own (F.ts _ hl) (F.ts _ hstat) (F.ts _ hini) (F.ts _ hcode) (by omega) (by omega) B.1 B.2 hd (K arr L)
theorem w_ldc {G : Gx} {d : Nat} {mi : MI} {pc pc' : Nat} {ls : LsT} {st : List Value} {M : Mm} {Q : Rv → Mm → Prop} {a : Nat} {idx : Nat} {v : Int32} (hd : decode mi.2.1 pc = .ok (.ldc idx, 2)) (hl : Cond.constant mi.1.cls idx v ∈ amWs) (hp : pc + 2 = pc') (k : WP G d mi pc' ls (.int v :: st) M Q) : WP G d mi pc ls st M Q := by
  subst hp
  exact wp_step (fun p e R s m args below meth c H locs arr Qf cells slots F X L B K => lv_ldc F.1 F.2.1 F.own (F.ts _ hl) hd (K arr L)) k
theorem w_ldc2 {G : Gx} {d : Nat} {mi : MI} {pc pc' : Nat} {ls : LsT} {st : List Value} {M : Mm} {Q : Rv → Mm → Prop} {a : Nat} {idx : Nat} {v : Int64} (hd : decode mi.2.1 pc = .ok (.ldc2_w idx, 3)) (hl : Cond.constantLong mi.1.cls idx v ∈ amWs) (hp : pc + 3 = pc') (k : WP G d mi pc' ls (.long v :: st) M Q) : WP G d mi pc ls st M Q := by
  subst hp
  exact wp_step (fun p e R s m args below meth c H locs arr Qf cells slots F X L B K => lv_ldc2 F.1 F.2.1 F.own (F.ts _ hl) hd (K arr L)) k
theorem amAd_old (G : Gx) (i : Nat) : amAd G (1000000 + i) = G.2.2.1 i := by
  unfold amAd
  rw [if_neg (by omega), Nat.add_sub_cancel_left]
theorem w_ldcS {G : Gx} {d : Nat} {mi : MI} {pc pc' : Nat} {ls : LsT} {st : List Value} {M : Mm} {Q : Rv → Mm → Prop} {a : Nat} {idx i : Nat} (hd : decode mi.2.1 pc = .ok (.ldc idx, 2)) (hi : i < 10) (h1 : (amStr i).1 = mi.1.cls) (h2 : (amStr i).2.1 = idx) (hp : pc + 2 = pc') (k : WP G d mi pc' ls (.ref (1000000 + i) :: st) M Q) : WP G d mi pc ls st M Q := by
  subst hp
  refine wp_step (fun p e R s m args below meth c H locs arr Qf cells slots F X L B K => ?_) k
  have hZ := (F.oo.1 i hi).1
  rw [h1, h2] at hZ
  have h9 := K arr L
  rw [List.map_cons, show amV G (.ref (1000000 + i)) = .ref (G.2.2.1 i) from congrArg Value.ref (amAd_old G i)] at h9
  exact va_ldcS F.1 F.2.1 F.own hZ hd h9
theorem w_ldcSw {G : Gx} {d : Nat} {mi : MI} {pc pc' : Nat} {ls : LsT} {st : List Value} {M : Mm} {Q : Rv → Mm → Prop} {a : Nat} {idx i : Nat} (hd : decode mi.2.1 pc = .ok (.ldc_w idx, 3)) (hi : i < 10) (h1 : (amStr i).1 = mi.1.cls) (h2 : (amStr i).2.1 = idx) (hp : pc + 3 = pc') (k : WP G d mi pc' ls (.ref (1000000 + i) :: st) M Q) : WP G d mi pc ls st M Q := by
  subst hp
  refine wp_step (fun p e R s m args below meth c H locs arr Qf cells slots F X L B K => ?_) k
  have hZ := (F.oo.1 i hi).1
  rw [h1, h2] at hZ
  have h9 := K arr L
  rw [List.map_cons, show amV G (.ref (1000000 + i)) = .ref (G.2.2.1 i) from congrArg Value.ref (amAd_old G i)] at h9
  intro T hT Xs
  obtain ⟨t, a1, b1⟩ := h9 T hT Xs
  exact ⟨t, Xs.ldcStringW F.1 F.own (text := (amStr i).2.2) (a := G.2.2.1 i) hZ.1 hZ.2 (g := F0 m pc arr (st.map (amV G))) rfl (by rw [F.2.1]; exact hd) t a1, b1⟩
theorem w_gets_low {G : Gx} {d : Nat} {mi : MI} {pc pc' : Nat} {ls : LsT} {st : List Value} {M : Mm} {Q : Rv → Mm → Prop} {a : Nat} {idx : Nat} (hd : decode mi.2.1 pc = .ok (.getstatic idx, 3)) (hl : Cond.fieldLink mi.1.cls idx RX11 "LEAST_FACTS" "[I" ∈ amWs) (hp : pc + 3 = pc') (k : WP G d mi pc' ls (.ref 1000040 :: st) M Q) : WP G d mi pc ls st M Q := by
  subst hp
  refine wp_step (fun p e R s m args below meth c H locs arr Qf cells slots F X L B K => ?_) k
  have h9 := K arr L
  rw [List.map_cons, show amV G (.ref 1000040) = .ref (G.2.2.1 40) from congrArg Value.ref (amAd_old G 40)] at h9
  exact va_gets F.1 F.2.1 F.oo.2.2.1.1 X.2.2.2 F.own (F.ts _ hl) (fun x hx => hx) hd h9
theorem w_t_low {G : Gx} {d : Nat} {mi : MI} {pc pc' : Nat} {ls : LsT} {st : List Value} {M : Mm} {Q : Rv → Mm → Prop} {a : Nat} {i : Int32} (hd : decode mi.2.1 pc = .ok (.iaload, 1)) (hin : vp_in i 8) (hp : pc + 1 = pc') (k : WP G d mi pc' ls (.int (amLow.getD i.toNatClampNeg 0) :: st) M Q) : WP G d mi pc ls (.int i :: .ref 1000040 :: st) M Q := by
  subst hp
  refine wp_step (fun p e R s m args below meth c H locs arr Qf cells slots F X L B K => ?_) k
  have h2 := va_ti (rest := st.map (amV G)) F.1 F.2.1 F.oo.2.2.1.2 X.2.2.2 hin rfl hd (K arr L)
  rw [show List.map (amV G) (.int i :: .ref 1000040 :: st) = .int i :: .ref (G.2.2.1 40) :: st.map (amV G) from by rw [List.map_cons, List.map_cons, show amV G (.ref 1000040) = .ref (G.2.2.1 40) from congrArg Value.ref (amAd_old G 40)]; rfl]
  exact h2
theorem w_gets_high {G : Gx} {d : Nat} {mi : MI} {pc pc' : Nat} {ls : LsT} {st : List Value} {M : Mm} {Q : Rv → Mm → Prop} {a : Nat} {idx : Nat} (hd : decode mi.2.1 pc = .ok (.getstatic idx, 3)) (hl : Cond.fieldLink mi.1.cls idx RX11 "GREATEST_FACTS" "[I" ∈ amWs) (hp : pc + 3 = pc') (k : WP G d mi pc' ls (.ref 1000041 :: st) M Q) : WP G d mi pc ls st M Q := by
  subst hp
  refine wp_step (fun p e R s m args below meth c H locs arr Qf cells slots F X L B K => ?_) k
  have h9 := K arr L
  rw [List.map_cons, show amV G (.ref 1000041) = .ref (G.2.2.1 41) from congrArg Value.ref (amAd_old G 41)] at h9
  exact va_gets F.1 F.2.1 F.oo.2.2.2.1.1 X.2.2.2 F.own (F.ts _ hl) (fun x hx => hx) hd h9
theorem w_t_high {G : Gx} {d : Nat} {mi : MI} {pc pc' : Nat} {ls : LsT} {st : List Value} {M : Mm} {Q : Rv → Mm → Prop} {a : Nat} {i : Int32} (hd : decode mi.2.1 pc = .ok (.iaload, 1)) (hin : vp_in i 8) (hp : pc + 1 = pc') (k : WP G d mi pc' ls (.int (amHigh.getD i.toNatClampNeg 0) :: st) M Q) : WP G d mi pc ls (.int i :: .ref 1000041 :: st) M Q := by
  subst hp
  refine wp_step (fun p e R s m args below meth c H locs arr Qf cells slots F X L B K => ?_) k
  have h2 := va_ti (rest := st.map (amV G)) F.1 F.2.1 F.oo.2.2.2.1.2 X.2.2.2 hin rfl hd (K arr L)
  rw [show List.map (amV G) (.int i :: .ref 1000041 :: st) = .int i :: .ref (G.2.2.1 41) :: st.map (amV G) from by rw [List.map_cons, List.map_cons, show amV G (.ref 1000041) = .ref (G.2.2.1 41) from congrArg Value.ref (amAd_old G 41)]; rfl]
  exact h2
theorem w_gets_compact {G : Gx} {d : Nat} {mi : MI} {pc pc' : Nat} {ls : LsT} {st : List Value} {M : Mm} {Q : Rv → Mm → Prop} {a : Nat} {idx : Nat} (hd : decode mi.2.1 pc = .ok (.getstatic idx, 3)) (hl : Cond.fieldLink mi.1.cls idx "java/lang/String" "COMPACT_STRINGS" "Z" ∈ amWs) (hp : pc + 3 = pc') (k : WP G d mi pc' ls (.int 1 :: st) M Q) : WP G d mi pc ls st M Q := by
  subst hp
  exact wp_step (fun p e R s m args below meth c H locs arr Qf cells slots F X L B K => va_gets F.1 F.2.1 F.oo.2.1 X.2.2.2 F.own (F.ts _ hl) (fun x hx => hx) hd (K arr L)) k
theorem amVold (G : Gx) (i : Nat) : amV G (.ref (1000000 + i)) = .ref (G.2.2.1 i) := congrArg Value.ref (amAd_old G i)
theorem w_coder {G : Gx} {d : Nat} {mi : MI} {pc pc' : Nat} {ls : LsT} {st : List Value} {M : Mm} {Q : Rv → Mm → Prop} {a : Nat} {idx i : Nat} (hd : decode mi.2.1 pc = .ok (.getfield idx, 3)) (hi : i < 10) (hl : Cond.fieldLink mi.1.cls idx "java/lang/String" "coder" "B" ∈ amWs) (hp : pc + 3 = pc') (k : WP G d mi pc' ls (.int 0 :: st) M Q) : WP G d mi pc ls (.ref (1000000 + i) :: st) M Q := by
  subst hp
  refine wp_step (fun p e R s m args below meth c H locs arr Qf cells slots F X L B K => ?_) k
  rw [List.map_cons, amVold]
  exact vk_getf F.1 F.2.1 (F.oo.1 i hi).2.2.1 X.2.2.2 F.own (F.ts _ hl) (fun x hx => hx) hd (K arr L)
theorem w_value {G : Gx} {d : Nat} {mi : MI} {pc pc' : Nat} {ls : LsT} {st : List Value} {M : Mm} {Q : Rv → Mm → Prop} {a : Nat} {idx i : Nat} (hd : decode mi.2.1 pc = .ok (.getfield idx, 3)) (hi : i < 10) (hl : Cond.fieldLink mi.1.cls idx "java/lang/String" "value" "[B" ∈ amWs) (hp : pc + 3 = pc') (k : WP G d mi pc' ls (.ref (1000000 + (20 + i)) :: st) M Q) : WP G d mi pc ls (.ref (1000000 + i) :: st) M Q := by
  subst hp
  refine wp_step (fun p e R s m args below meth c H locs arr Qf cells slots F X L B K => ?_) k
  have h9 := K arr L
  rw [List.map_cons, amVold] at h9 ⊢
  exact vk_getf F.1 F.2.1 (F.oo.1 i hi).2.2.2.1 X.2.2.2 F.own (F.ts _ hl) (fun x hx => hx) hd h9
theorem w_tb {G : Gx} {d : Nat} {mi : MI} {pc pc' : Nat} {ls : LsT} {st : List Value} {M : Mm} {Q : Rv → Mm → Prop} {a : Nat} {i : Nat} {j : Int32} (hd : decode mi.2.1 pc = .ok (.baload, 1)) (hi : i < 10) (hin : vp_in j (amByt i).length) (hp : pc + 1 = pc') (k : WP G d mi pc' ls (.int ((amByt i).getD j.toNatClampNeg 0) :: st) M Q) : WP G d mi pc ls (.int j :: .ref (1000000 + (20 + i)) :: st) M Q := by
  subst hp
  refine wp_step (fun p e R s m args below meth c H locs arr Qf cells slots F X L B K => ?_) k
  rw [List.map_cons, List.map_cons, amVold]
  exact va_tb F.1 F.2.1 (F.oo.1 i hi).2.2.2.2 X.2.2.2 hin rfl hd (K arr L)
theorem w_tlen {G : Gx} {d : Nat} {mi : MI} {pc pc' : Nat} {ls : LsT} {st : List Value} {M : Mm} {Q : Rv → Mm → Prop} {a : Nat} {i : Nat} (hd : decode mi.2.1 pc = .ok (.arraylength, 1)) (hi : i < 10) (hp : pc + 1 = pc') (k : WP G d mi pc' ls (.int (nI (amByt i).length) :: st) M Q) : WP G d mi pc ls (.ref (1000000 + (20 + i)) :: st) M Q := by
  subst hp
  refine wp_step (fun p e R s m args below meth c H locs arr Qf cells slots F X L B K => ?_) k
  rw [List.map_cons, amVold]
  exact va_tlen F.1 F.2.1 (F.oo.1 i hi).2.2.2.2 X.2.2.2 rfl hd (K arr L)
theorem w_sld {G : Gx} {d : Nat} {mi : MI} {pc pc' : Nat} {ls : LsT} {st : List Value} {M : Mm} {Q : Rv → Mm → Prop} {a : Nat} {i : Int32} (hd : decode mi.2.1 pc = .ok (.iaload, 1)) (hin : vp_in i G.2.2.2.2.2.1) (hp : pc + 1 = pc') (k : WP G d mi pc' ls (.int (G.2.2.2.2.2.2 i.toNatClampNeg) :: st) M Q) : WP G d mi pc ls (.int i :: .ref 1000060 :: st) M Q := by
  subst hp
  refine wp_step (fun p e R s m args below meth c H locs arr Qf cells slots F X L B K => ?_) k
  rw [List.map_cons, List.map_cons, show amV G (.ref 1000060) = .ref (G.2.2.1 60) from amVold G 60]
  have h8 := F.oo.2.2.2.2.2.2.2
  exact va_sld F.1 F.2.1 h8.1.1 (Nat.lt_of_lt_of_le h8.1.2 h8.2) (Nat.not_le.mpr h8.1.2) X.2.2.2 hin hd (K arr L)
theorem w_slen {G : Gx} {d : Nat} {mi : MI} {pc pc' : Nat} {ls : LsT} {st : List Value} {M : Mm} {Q : Rv → Mm → Prop} {a : Nat} (hd : decode mi.2.1 pc = .ok (.arraylength, 1)) (hp : pc + 1 = pc') (k : WP G d mi pc' ls (.int (nI G.2.2.2.2.2.1) :: st) M Q) : WP G d mi pc ls (.ref 1000060 :: st) M Q := by
  subst hp
  refine wp_step (fun p e R s m args below meth c H locs arr Qf cells slots F X L B K => ?_) k
  rw [List.map_cons, show amV G (.ref 1000060) = .ref (G.2.2.1 60) from amVold G 60]
  have h8 := F.oo.2.2.2.2.2.2.2
  exact va_slen F.1 F.2.1 h8.1.1 (Nat.lt_of_lt_of_le h8.1.2 h8.2) (Nat.not_le.mpr h8.1.2) X.2.2.2 hd (K arr L)
/-- the end: a value, or none -/
theorem w_ret {G : Gx} {d : Nat} {mi : MI} {pc : Nat} {ls : LsT} {M : Mm} {Q : Rv → Mm → Prop} (v : Option Value) (hd : decode mi.2.1 pc = .ok (amRet v, 1)) (hv : amRok mi.2.2.2.1 v) (q : Q (.inl v) M) : WP G d mi pc ls v.toList M Q := by
  refine ⟨_, M, q, ⟨Nat.le_refl _, Nat.le_refl _⟩, fun p e R s m args below meth c H locs arr Qf cells slots F X L hc hs E => ?_⟩
  have h := E H locs arr pc X hv hd
  simpa using h
