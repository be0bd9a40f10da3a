/-! ===== what is made, copied, asked of old cells; constants; ends ===== -/
theorem amW_D {G : Gx} {M : Mm} : va_D (amA G) (amW G M) := by
  have key : ∀ (k : Nat) (q : Nat × va_E), (amW G M)[k]? = some q → q.1 = G.2.1 + k := by
    intro k q hq
    unfold amW at hq
    rw [List.getElem?_map] at hq
    by_cases hl : k < mSz M
    · rw [List.getElem?_range hl] at hq
      cases hq
      rfl
    · rw [List.getElem?_eq_none (by simpa using hl)] at hq
      cases hq
  refine ⟨fun i j x y hx hy e => ?_, fun k q hq => ?_⟩
  · have h1 := key i x hx
    have h2 := key j y hy
    omega
  · rw [key k q hq]
    exact Nat.le_add_right _ _
theorem amRp.grow {G : Gx} {M M1 : Mm} {s : State} {H H1 : Heap} {locs : List Loc} {n : Nat} (X : amRp G M s H locs) (hz : mSz M1 = mSz M + n) (hr : mSz M + n ≤ 1000000) (hold : ∀ b, b < mSz M → amC G M1 b = amC G M b)
    (hnew : ∀ b, mSz M ≤ b → b < mSz M + n → va_at G.2.2.2.1 amCl (G.2.1 + b, amC G M1 b) H1) (z : H1.size = H.size + n) (oq : ∀ q, q < H.size → H1[q]? = H[q]?) : amRp G M1 s H1 locs := by
  refine ⟨⟨by rw [z, X.1.1, hz]; omega, by rw [hz]; exact hr⟩, fun k q hq => ?_, amW_D, ⟨Nat.le_trans X.2.2.2.1 (by omega), fun q h1 h2 => (oq q (Nat.lt_of_lt_of_le h1 X.2.2.2.1)).trans (X.2.2.2.2.1 q h1 h2), X.2.2.2.2.2⟩⟩
  have hk : k < mSz M1 := by
    have h1 := (List.getElem?_eq_some_iff.mp hq).1
    rw [amW_len] at h1
    exact h1
  rw [amW_at hk] at hq
  cases hq
  by_cases hl : k < mSz M
  · rw [hold k hl]
    exact (X.at hl).kept (oq _ (X.at hl).lt)
  · exact hnew k (by omega) (by omega)
theorem amVnew {G : Gx} {M : Mm} {s : State} {H : Heap} {locs : List Loc} (X : amRp G M s H locs) (hr : mSz M < 1000000) : amV G (.ref (mSz M)) = .ref H.size := by
  show Value.ref (amAd G (mSz M)) = _
  rw [amAd, if_pos hr, X.1.1]
theorem w_new {G : Gx} {d : Nat} {mi : MI} {pc pc' : Nat} {ls : LsT} {st : List Value} {M : Mm} {Q : Rv → Mm → Prop} {a : Nat} {idx ci : Nat} {C : String} {T : u_T} {N : Nat} (hd : decode mi.2.1 pc = .ok (.new idx, 3)) (hcl : amCl[ci]? = some (C, T, N)) (hci : ci < 13) (hl : Cond.classLink mi.1.cls idx C ∈ amWs) (hi : Cond.instantiable C N ∈ amWs) (hini : Cond.initialized C ∈ amWs) (hdf : ∀ k, k < N → defaultValue (amTy ci k) = if amIsR (amTy ci k) then .null else .int 0) (hr : mSz M < 1000000) (hp : pc + 3 = pc') (k : WP G d mi pc' ls (.ref (mSz M) :: st) (nC M ci 0 N) Q) : WP G d mi pc ls st M Q := by
  subst hp
  refine wp_make (M1 := nC M ci 0 N) (n := 1) (w := N) ⟨rfl, rfl⟩ (fun p e R s m args below meth c H locs arr Qf cells slots F X L hc hs K => ?_) k
  have hKn := F.kk.1.1 ci _ hcl
  have T9 := amCl_ok ci _ hcl
  refine W.newcK F.1 F.2.1 F.own (F.ts _ hl) (F.ts _ hi) (F.ts _ hini) rfl hd hc hs hKn.2.1 rfl fun H1 kC hkC e1 z1 o1 => ?_
  have hb := u_born (amTy ci) F.ts T9.1 hKn hkC e1 T9.2.1
  have hX : amRp G (nC M ci 0 N) s H1 locs := X.new hr (by
    have hk : mKd (nC M ci 0 N) (mSz M) = ci := if_pos rfl
    rw [amC_obj (M := nC M ci 0 N) (by rw [hk]; omega), hk, amN_eq hcl]
    rw [X.1.1] at hb
    refine ⟨_, hcl, hb.to fun j hj => ?_⟩
    show defaultValue (amTy ci j) = ((List.range N).map (amF G (nC M ci 0 N) (mSz M))).getD j .null
    have hj' : j < N := hj
    rw [List.getD_eq_getElem?_getD, amFs_at hj', hdf j hj']
    show _ = amF G (nC M ci 0 N) (mSz M) j
    unfold amF
    rw [hk]
    cases hR : amIsR (amTy ci j)
    · simp [mI, nC, va_up]
    · simp [mR, nC, va_up, va_rf]) z1 o1
  have h2 := K H1 locs hX
  rw [List.map_cons, amVnew X hr] at h2
  exact h2
theorem w_anew120 {G : Gx} {d : Nat} {mi : MI} {pc pc' : Nat} {ls : LsT} {st : List Value} {M : Mm} {Q : Rv → Mm → Prop} {a : Nat} {idx N : Nat} {n : Int32} (hd : decode mi.2.1 pc = .ok (.anewarray idx, 3)) (hl : Cond.classLink mi.1.cls idx (FieldType.array .int).toString ∈ amWs) (hn : n = nI N) (hN : N < 1000) (hr : mSz M < 1000000) (hp : pc + 3 = pc') (k : WP G d mi pc' ls (.ref (mSz M) :: st) (nC M 120 N N) Q) : WP G d mi pc ls (.int n :: st) M Q := by
  subst hp
  subst hn
  have hb : N < 2 ^ 31 := by omega
  have hcl := nI_clamp hb
  refine wp_make (M1 := nC M 120 N N) (n := 1) (w := N) ⟨rfl, rfl⟩ (fun p e R s m args below meth c H locs arr Qf cells slots F X L hc hs K => ?_) k
  intro T hT Xs
  subst hT
  obtain ⟨vm₁, cA, kA, comp, hW, f1, f2, f3, f4, X', st'⟩ := Xs.anewarrayArrK (ty := .int) F.1 F.own (F.ts _ hl) F.kk.2.choose_spec.choose_spec.2.2.2.1 (g := F0 m pc arr (.int (nI N) :: st.map (amV G))) rfl (by rw [F.2.1]; exact hd) rfl (nI_pos hb) (by rw [hcl]; omega) hc (by rw [hcl]; exact hs)
  rw [hcl] at X' st'
  have hcA : cA = G.2.2.2.2.1 120 := by
    have h9 : s.vm.findClass ("[" ++ (FieldType.array .int).toString) = some (G.2.2.2.2.1 120) := (F.kk.1.2 5 _ rfl).2
    exact Option.some.inj (f1.symm.trans h9)
  have hX : amRp G (nC M 120 N N) s (T.heap.push { cls := cA, slots := Array.replicate N .null, vm := .none }) locs := X.new hr (by
    rw [amC_120 (M := nC M 120 N N) (if_pos rfl)]
    show (T.heap.push _)[G.2.1 + mSz M]? = some (vp_cell _ _)
    rw [← X.1.1, Array.getElem?_push_size, hcA, vp_cell_q, arrV_new]
    have e2 : mLn (nC M 120 N N) (mSz M) = N := if_pos rfl
    rw [e2]
    congr 2
    funext j
    simp [mR, nC, va_up, va_rf]) (by rw [Array.size_push]) (fun q hq => by rw [Array.getElem?_push, if_neg (Nat.ne_of_lt hq)])
  obtain ⟨t, a1, b1⟩ := K _ locs hX _ rfl X'
  refine ⟨t, st' t ?_, b1⟩
  rw [List.map_cons, amVnew X hr] at a1
  exact a1
theorem w_anew122 {G : Gx} {d : Nat} {mi : MI} {pc pc' : Nat} {ls : LsT} {st : List Value} {M : Mm} {Q : Rv → Mm → Prop} {a : Nat} {idx N : Nat} {n : Int32} (hd : decode mi.2.1 pc = .ok (.anewarray idx, 3)) (hl : Cond.classLink mi.1.cls idx RX0 ∈ amWs) (hn : n = nI N) (hN : N < 1000) (hr : mSz M < 1000000) (hp : pc + 3 = pc') (k : WP G d mi pc' ls (.ref (mSz M) :: st) (nC M 122 N N) Q) : WP G d mi pc ls (.int n :: st) M Q := by
  subst hp
  subst hn
  have hb : N < 2 ^ 31 := by omega
  have hcl := nI_clamp hb
  refine wp_make (M1 := nC M 122 N N) (n := 1) (w := N) ⟨rfl, rfl⟩ (fun p e R s m args below meth c H locs arr Qf cells slots F X L hc hs K => ?_) k
  intro T hT Xs
  subst hT
  obtain ⟨vm₁, cA, kA, comp, hW, f1, f2, f3, f4, X', st'⟩ := Xs.anewarrayRefK (C := RX0) F.1 F.own (F.ts _ hl) F.kk.2.choose_spec.choose_spec.2.2.2.2.2.1 (g := F0 m pc arr (.int (nI N) :: st.map (amV G))) rfl (by rw [F.2.1]; exact hd) rfl (nI_pos hb) (by rw [hcl]; omega) hc (by rw [hcl]; exact hs)
  rw [hcl] at X' st'
  have hcA : cA = G.2.2.2.2.1 122 := by
    obtain ⟨k9, c9, g1, g2, g3, h9⟩ := (F.kk.1.2 7 _ rfl).2
    exact Option.some.inj (f1.symm.trans h9)
  have hX : amRp G (nC M 122 N N) s (T.heap.push { cls := cA, slots := Array.replicate N .null, vm := .none }) locs := X.new hr (by
    rw [amC_122 (M := nC M 122 N N) (if_pos rfl)]
    show (T.heap.push _)[G.2.1 + mSz M]? = some (vp_cell _ _)
    rw [← X.1.1, Array.getElem?_push_size, hcA, vp_cell_q, arrV_new]
    have e2 : mLn (nC M 122 N N) (mSz M) = N := if_pos rfl
    rw [e2]
    congr 2
    funext j
    simp [mR, nC, va_up, va_rf]) (by rw [Array.size_push]) (fun q hq => by rw [Array.getElem?_push, if_neg (Nat.ne_of_lt hq)])
  obtain ⟨t, a1, b1⟩ := K _ locs hX _ rfl X'
  refine ⟨t, st' t ?_, b1⟩
  rw [List.map_cons, amVnew X hr] at a1
  exact a1
/-- rows of k places, n of them, of the kind kI, and the row of these, of the kind kO -/
def nM (M : Mm) (kO kI n k : Nat) : Mm := (mSz M + (1 + n), mSl M + (n + n * k), fun b => if b < mSz M then mKd M b else if b = mSz M then kO else kI, fun b => if b < mSz M then mLn M b else if b = mSz M then n else k, fun b => if b < mSz M then mI M b else fun _ => 0, fun b => if b < mSz M then mL M b else fun _ => 0, fun b => if b < mSz M then mD M b else fun _ => 0,
  fun b => if b < mSz M then mR M b else if b = mSz M then (fun i => if i < n then some (mSz M + 1 + i) else none) else fun _ => none)
theorem amC_nM {G : Gx} {M : Mm} {kO kI n k b : Nat} (h : b < mSz M) : amC G (nM M kO kI n k) b = amC G M b := by
  have e1 : mKd (nM M kO kI n k) b = mKd M b := if_pos h
  have e2 : mLn (nM M kO kI n k) b = mLn M b := if_pos h
  have e3 : mI (nM M kO kI n k) b = mI M b := if_pos h
  have e4 : mL (nM M kO kI n k) b = mL M b := if_pos h
  have e5 : mD (nM M kO kI n k) b = mD M b := if_pos h
  have e6 : mR (nM M kO kI n k) b = mR M b := if_pos h
  have e7 : amF G (nM M kO kI n k) b = amF G M b := by
    funext j
    unfold amF
    rw [e1, e3, e6]
  unfold amC amArr
  rw [e1, e2, e3, e4, e5, e6, e7]
theorem am_outer (c : ClassId) (N h0 : Nat) : ∀ i : Nat, Jvm.Free.Multi.outerC c N h0 i = arrV c N (fun j => va_rf (if j < i then some (h0 + 1 + j) else none))
  | 0 => by
    show ({ cls := c, slots := Array.replicate N .null, vm := .none } : Cell) = _
    rw [arrV_new]
    refine congrArg (arrV c N) (funext fun j => ?_)
    simp [va_rf]
  | i + 1 => by
    show (Jvm.Free.Multi.outerC c N h0 i).setSlot i (.ref (h0 + 1 + i)) = _
    rw [am_outer c N h0 i, arrV_store]
    refine congrArg (arrV c N) (funext fun j => ?_)
    by_cases e : j = i
    · subst e
      simp [updV, va_rf]
    · by_cases h : j < i
      · simp [updV, e, h, Nat.lt_succ_of_lt h]
      · simp [updV, e, h, show ¬ j < i + 1 by omega]
theorem w_multi120 {G : Gx} {d : Nat} {mi : MI} {pc pc' : Nat} {ls : LsT} {st : List Value} {M : Mm} {Q : Rv → Mm → Prop} {a : Nat} {idx N K9 : Nat} {n k9 : Int32} (hd : decode mi.2.1 pc = .ok (.multianewarray idx 2, 4)) (hl : Cond.classLink mi.1.cls idx ("[" ++ (FieldType.array .int).toString) ∈ amWs) (hac : Cond.arrayClass .int ∈ amWs) (hn : n = nI N) (hk : k9 = nI K9) (hN : N < 1000) (hK : K9 < 1000) (hr : mSz M + (1 + N) ≤ 1000000) (hp : pc + 4 = pc') (kk : WP G d mi pc' ls (.ref (mSz M) :: st) (nM M 120 100 N K9) Q) : WP G d mi pc ls (.int k9 :: .int n :: st) M Q := by
  subst hp
  subst hn
  subst hk
  have hb : N < 2 ^ 31 := by omega
  have hb2 : K9 < 2 ^ 31 := by omega
  have hcl := nI_clamp hb
  have hcl2 := nI_clamp hb2
  refine wp_make (M1 := nM M 120 100 N K9) (n := 1 + N) (w := N + N * K9) ⟨rfl, rfl⟩ (fun p e R s m args below meth c H locs arr Qf cells slots F X L hc hs K => ?_) kk
  intro T hT Xs
  subst hT
  obtain ⟨vm₁, cA, comp, -, fA, fC, hO, -, X', step⟩ := Xs.multianewarray2F F.1 F.own (F.ts _ hl) F.kk.2.choose_spec.choose_spec.2.2.2.1 (F.ts _ hac) (g := F0 m pc arr (.int (nI K9) :: .int (nI N) :: st.map (amV G))) rfl (by rw [F.2.1]; exact hd) rfl (nI_pos hb) (nI_pos hb2) (by rw [hcl]; omega) (by rw [hcl2]; show K9 * _ ≤ _; simp only [componentBytes]; omega) (by rw [hcl2]; omega) rfl rfl (by rw [hcl]; exact hc) (by rw [hcl, hcl2]; exact hs)
  rw [hcl, hcl2] at X' step
  have hcA : cA = G.2.2.2.2.1 120 := by
    have h9 : s.vm.findClass ("[" ++ (FieldType.array .int).toString) = some (G.2.2.2.2.1 120) := (F.kk.1.2 5 _ rfl).2
    exact Option.some.inj (fA.symm.trans h9)
  have hcI : comp = G.2.2.2.2.1 100 := by
    have h9 : s.vm.findClass ("[" ++ FieldType.toString .int) = some (G.2.2.2.2.1 100) := (F.kk.1.2 0 _ rfl).2
    exact Option.some.inj (fC.symm.trans h9)
  subst hcA
  subst hcI
  generalize hF : Jvm.Free.Multi.fill (T.setVm vm₁) (G.2.2.2.2.1 120) (G.2.2.2.2.1 100) N K9 (defaultValue .int) N = F9 at X' step
  obtain ⟨f1, f2, -, -⟩ := Jvm.Free.Multi.fill_facts (T.setVm vm₁) (G.2.2.2.2.1 120) (G.2.2.2.2.1 100) N K9 (defaultValue .int) N
  rw [hF] at f1 f2
  have hold : ∀ x : Nat, x < T.heap.size → F9.heap[x]? = T.heap[x]? := fun x hx => by
    have := Jvm.Free.Multi.fill_old (T.setVm vm₁) (G.2.2.2.2.1 120) (G.2.2.2.2.1 100) N K9 (defaultValue .int) (a := x) hx N
    rw [hF] at this
    exact this
  have hrow : ∀ j : Nat, j < N → F9.heap[T.heap.size + 1 + j]? = some (Jvm.Free.Multi.innerC (G.2.2.2.2.1 100) K9 (defaultValue .int)) := fun j hj => by
    have := Jvm.Free.Multi.fill_inner (T.setVm vm₁) (G.2.2.2.2.1 120) (G.2.2.2.2.1 100) N K9 (defaultValue .int) N j hj
    rw [hF] at this
    exact this
  have f1' : F9.heap.size = T.heap.size + (1 + N) := by
    have : F9.heap.size = T.heap.size + 1 + N := f1
    omega
  have f2' : F9.heap[T.heap.size]? = some (Jvm.Free.Multi.outerC (G.2.2.2.2.1 120) N T.heap.size N) := f2
  have hX : amRp G (nM M 120 100 N K9) s F9.heap locs := X.grow (M1 := nM M 120 100 N K9) rfl hr (fun b hb => amC_nM hb) (fun b h1 h2 => by
    by_cases hb0 : b = mSz M
    · subst hb0
      rw [amC_120 (M := nM M 120 100 N K9) (by show (if _ then _ else if _ then _ else _) = _; rw [if_neg (Nat.lt_irrefl _), if_pos rfl])]
      show F9.heap[G.2.1 + mSz M]? = some (vp_cell _ _)
      rw [← X.1.1, f2', am_outer, vp_cell_q]
      have e2 : mLn (nM M 120 100 N K9) (mSz M) = N := by show (if _ then _ else if _ then _ else _) = _; rw [if_neg (Nat.lt_irrefl _), if_pos rfl]
      have e3 : mR (nM M 120 100 N K9) (mSz M) = (fun i => if i < N then some (mSz M + 1 + i) else none) := by show (if _ then _ else if _ then _ else _) = _; rw [if_neg (Nat.lt_irrefl _), if_pos rfl]
      rw [e2]
      congr 2
      funext j
      rw [e3]
      by_cases hj : j < N
      · simp only [hj, if_true]
        show Value.ref _ = Value.ref (amAd G (mSz M + 1 + j))
        have e5 : amAd G (mSz M + 1 + j) = T.heap.size + 1 + j := by
          have e6 := X.1.1
          rw [amAd, if_pos (by omega)]
          omega
        rw [e5]
      · simp [hj]
    · have e1 : ¬ b < mSz M := by omega
      rw [amC_100 (M := nM M 120 100 N K9) (by show (if _ then _ else if _ then _ else _) = _; rw [if_neg e1, if_neg hb0])]
      show F9.heap[G.2.1 + b]? = some (vp_cell _ _)
      have e2 : mLn (nM M 120 100 N K9) b = K9 := by show (if _ then _ else if _ then _ else _) = _; rw [if_neg e1, if_neg hb0]
      have e3 : mI (nM M 120 100 N K9) b = fun _ => 0 := by show (if _ then _ else _) = _; rw [if_neg e1]
      have e4 : G.2.1 + b = T.heap.size + 1 + (b - mSz M - 1) := by rw [X.1.1]; omega
      rw [e4, hrow _ (by omega), e2, e3, vp_cell_i]
      show some ({ cls := _, slots := Array.replicate K9 _, vm := .none } : Cell) = _
      rw [arrV_new]
      rfl) f1' hold
  obtain ⟨t, a1, b1⟩ := K _ locs hX F9 rfl (by
    have h9 := X'
    rw [show cells + 1 + N = cells + (1 + N) by omega, show slots + N + N * K9 = slots + (N + N * K9) by omega] at h9
    exact h9)
  refine ⟨t, step t ?_, b1⟩
  rw [List.map_cons, amVnew X (by omega)] at a1
  exact a1
theorem w_multi121 {G : Gx} {d : Nat} {mi : MI} {pc pc' : Nat} {ls : LsT} {st : List Value} {M : Mm} {Q : Rv → Mm → Prop} {a : Nat} {idx N K9 : Nat} {n k9 : Int32} (hd : decode mi.2.1 pc = .ok (.multianewarray idx 2, 4)) (hl : Cond.classLink mi.1.cls idx ("[" ++ (FieldType.array .boolean).toString) ∈ amWs) (hac : Cond.arrayClass .boolean ∈ amWs) (hn : n = nI N) (hk : k9 = nI K9) (hN : N < 1000) (hK : K9 < 1000) (hr : mSz M + (1 + N) ≤ 1000000) (hp : pc + 4 = pc') (kk : WP G d mi pc' ls (.ref (mSz M) :: st) (nM M 121 102 N K9) Q) : WP G d mi pc ls (.int k9 :: .int n :: st) M Q := by
  subst hp
  subst hn
  subst hk
  have hb : N < 2 ^ 31 := by omega
  have hb2 : K9 < 2 ^ 31 := by omega
  have hcl := nI_clamp hb
  have hcl2 := nI_clamp hb2
  refine wp_make (M1 := nM M 121 102 N K9) (n := 1 + N) (w := N + N * K9) ⟨rfl, rfl⟩ (fun p e R s m args below meth c H locs arr Qf cells slots F X L hc hs K => ?_) kk
  intro T hT Xs
  subst hT
  obtain ⟨vm₁, cA, comp, -, fA, fC, hO, -, X', step⟩ := Xs.multianewarray2F F.1 F.own (F.ts _ hl) F.kk.2.choose_spec.choose_spec.2.2.2.2.1 (F.ts _ hac) (g := F0 m pc arr (.int (nI K9) :: .int (nI N) :: st.map (amV G))) rfl (by rw [F.2.1]; exact hd) rfl (nI_pos hb) (nI_pos hb2) (by rw [hcl]; omega) (by rw [hcl2]; show K9 * _ ≤ _; simp only [componentBytes]; omega) (by rw [hcl2]; omega) rfl rfl (by rw [hcl]; exact hc) (by rw [hcl, hcl2]; exact hs)
  rw [hcl, hcl2] at X' step
  have hcA : cA = G.2.2.2.2.1 121 := by
    have h9 : s.vm.findClass ("[" ++ (FieldType.array .boolean).toString) = some (G.2.2.2.2.1 121) := (F.kk.1.2 6 _ rfl).2
    exact Option.some.inj (fA.symm.trans h9)
  have hcI : comp = G.2.2.2.2.1 102 := by
    have h9 : s.vm.findClass ("[" ++ FieldType.toString .boolean) = some (G.2.2.2.2.1 102) := (F.kk.1.2 2 _ rfl).2
    exact Option.some.inj (fC.symm.trans h9)
  subst hcA
  subst hcI
  generalize hF : Jvm.Free.Multi.fill (T.setVm vm₁) (G.2.2.2.2.1 121) (G.2.2.2.2.1 102) N K9 (defaultValue .boolean) N = F9 at X' step
  obtain ⟨f1, f2, -, -⟩ := Jvm.Free.Multi.fill_facts (T.setVm vm₁) (G.2.2.2.2.1 121) (G.2.2.2.2.1 102) N K9 (defaultValue .boolean) N
  rw [hF] at f1 f2
  have hold : ∀ x : Nat, x < T.heap.size → F9.heap[x]? = T.heap[x]? := fun x hx => by
    have := Jvm.Free.Multi.fill_old (T.setVm vm₁) (G.2.2.2.2.1 121) (G.2.2.2.2.1 102) N K9 (defaultValue .boolean) (a := x) hx N
    rw [hF] at this
    exact this
  have hrow : ∀ j : Nat, j < N → F9.heap[T.heap.size + 1 + j]? = some (Jvm.Free.Multi.innerC (G.2.2.2.2.1 102) K9 (defaultValue .boolean)) := fun j hj => by
    have := Jvm.Free.Multi.fill_inner (T.setVm vm₁) (G.2.2.2.2.1 121) (G.2.2.2.2.1 102) N K9 (defaultValue .boolean) N j hj
    rw [hF] at this
    exact this
  have f1' : F9.heap.size = T.heap.size + (1 + N) := by
    have : F9.heap.size = T.heap.size + 1 + N := f1
    omega
  have f2' : F9.heap[T.heap.size]? = some (Jvm.Free.Multi.outerC (G.2.2.2.2.1 121) N T.heap.size N) := f2
  have hX : amRp G (nM M 121 102 N K9) s F9.heap locs := X.grow (M1 := nM M 121 102 N K9) rfl hr (fun b hb => amC_nM hb) (fun b h1 h2 => by
    by_cases hb0 : b = mSz M
    · subst hb0
      rw [amC_121 (M := nM M 121 102 N K9) (by show (if _ then _ else if _ then _ else _) = _; rw [if_neg (Nat.lt_irrefl _), if_pos rfl])]
      show F9.heap[G.2.1 + mSz M]? = some (vp_cell _ _)
      rw [← X.1.1, f2', am_outer, vp_cell_q]
      have e2 : mLn (nM M 121 102 N K9) (mSz M) = N := by show (if _ then _ else if _ then _ else _) = _; rw [if_neg (Nat.lt_irrefl _), if_pos rfl]
      have e3 : mR (nM M 121 102 N K9) (mSz M) = (fun i => if i < N then some (mSz M + 1 + i) else none) := by show (if _ then _ else if _ then _ else _) = _; rw [if_neg (Nat.lt_irrefl _), if_pos rfl]
      rw [e2]
      congr 2
      funext j
      rw [e3]
      by_cases hj : j < N
      · simp only [hj, if_true]
        show Value.ref _ = Value.ref (amAd G (mSz M + 1 + j))
        have e5 : amAd G (mSz M + 1 + j) = T.heap.size + 1 + j := by
          have e6 := X.1.1
          rw [amAd, if_pos (by omega)]
          omega
        rw [e5]
      · simp [hj]
    · have e1 : ¬ b < mSz M := by omega
      rw [amC_102 (M := nM M 121 102 N K9) (by show (if _ then _ else if _ then _ else _) = _; rw [if_neg e1, if_neg hb0])]
      show F9.heap[G.2.1 + b]? = some (vp_cell _ _)
      have e2 : mLn (nM M 121 102 N K9) b = K9 := by show (if _ then _ else if _ then _ else _) = _; rw [if_neg e1, if_neg hb0]
      have e3 : mI (nM M 121 102 N K9) b = fun _ => 0 := by show (if _ then _ else _) = _; rw [if_neg e1]
      have e4 : G.2.1 + b = T.heap.size + 1 + (b - mSz M - 1) := by rw [X.1.1]; omega
      rw [e4, hrow _ (by omega), e2, e3, vp_cell_i]
      show some ({ cls := _, slots := Array.replicate K9 _, vm := .none } : Cell) = _
      rw [arrV_new]
      rfl) f1' hold
  obtain ⟨t, a1, b1⟩ := K _ locs hX F9 rfl (by
    have h9 := X'
    rw [show cells + 1 + N = cells + (1 + N) by omega, show slots + N + N * K9 = slots + (N + N * K9) by omega] at h9
    exact h9)
  refine ⟨t, step t ?_, b1⟩
  rw [List.map_cons, amVnew X (by omega)] at a1
  exact a1
