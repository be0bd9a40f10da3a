/-! ===== objects, arrays of references, and what is made (positions of the words by program) ===== -/
theorem amMem {w : Cond} (i : Nat) (h : tables_1[i]? = some w) (hg : amOk w = true) : w ∈ amWs := List.mem_filter.mpr ⟨List.mem_append_right _ (List.mem_of_getElem? h), hg⟩
theorem amMemS {y : MethodName} {n : Nat} (i : Nat) (h : lw_privs[i]? = some (y, n)) : Cond.selects y.cls y y ∈ amWs := List.mem_filter.mpr ⟨List.mem_append_left _ (List.mem_map.mpr ⟨(y, n), List.mem_of_getElem? h, rfl⟩), rfl⟩
theorem amMems {ws : List Cond} (ps : List Nat) (h : ws = ps.filterMap (fun i => tables_1[i]?)) (hg : ws.all amOk = true) : ∀ w ∈ ws, w ∈ amWs := by
  intro w hw
  have h1 := List.all_eq_true.mp hg w hw
  rw [h] at hw
  obtain ⟨i, -, hi⟩ := List.mem_filterMap.mp hw
  exact amMem i hi h1
theorem am_u0 : ∀ w ∈ u_ws RX0 TX0 5, w ∈ amWs := amMems [77, 79, 81, 83, 85] (by decide +kernel) (by decide +kernel)
theorem am_d0 : ∀ k, k < 5 → (TX0 k).1 = RX0 := by decide +kernel
theorem am_u1 : ∀ w ∈ u_ws RX1 TX1 3, w ∈ amWs := amMems [221, 223, 225] (by decide +kernel) (by decide +kernel)
theorem am_d1 : ∀ k, k < 3 → (TX1 k).1 = RX1 := by decide +kernel
theorem am_u2 : ∀ w ∈ u_ws RX2 TX2 7, w ∈ amWs := amMems [402, 404, 406, 408, 410, 412, 414] (by decide +kernel) (by decide +kernel)
theorem am_d2 : ∀ k, k < 7 → (TX2 k).1 = RX2 := by decide +kernel
theorem am_u3 : ∀ w ∈ u_ws RX3 TX3 3, w ∈ amWs := amMems [102, 104, 106] (by decide +kernel) (by decide +kernel)
theorem am_d3 : ∀ k, k < 3 → (TX3 k).1 = RX3 := by decide +kernel
theorem am_u4 : ∀ w ∈ u_ws RX4 TX4 4, w ∈ amWs := amMems [326, 328, 330, 332] (by decide +kernel) (by decide +kernel)
theorem am_d4 : ∀ k, k < 4 → (TX4 k).1 = RX4 := by decide +kernel
theorem am_u5 : ∀ w ∈ u_ws RX5 TX5 7, w ∈ amWs := amMems [301, 303, 305, 307, 309, 311, 313] (by decide +kernel) (by decide +kernel)
theorem am_d5 : ∀ k, k < 7 → (TX5 k).1 = RX5 := by decide +kernel
theorem am_u6 : ∀ w ∈ u_ws RX6 TX6 7, w ∈ amWs := amMems [348, 350, 352, 354, 356, 358, 360] (by decide +kernel) (by decide +kernel)
theorem am_d6 : ∀ k, k < 7 → (TX6 k).1 = RX6 := by decide +kernel
theorem am_u7 : ∀ w ∈ u_ws RX7 TX7 14, w ∈ amWs := amMems [175, 177, 179, 181, 183, 185, 187, 189, 191, 193, 195, 197, 199, 201] (by decide +kernel) (by decide +kernel)
theorem am_d7 : ∀ k, k < 14 → (TX7 k).1 = RX7 := by decide +kernel
theorem am_u8 : ∀ w ∈ u_ws RX8 TX8 6, w ∈ amWs := amMems [375, 377, 379, 381, 383, 385] (by decide +kernel) (by decide +kernel)
theorem am_d8 : ∀ k, k < 6 → (TX8 k).1 = RX8 := by decide +kernel
theorem am_u9 : ∀ w ∈ u_ws RX9 TX9 15, w ∈ amWs := amMems [257, 259, 261, 263, 265, 267, 269, 271, 273, 275, 277, 279, 281, 283, 285] (by decide +kernel) (by decide +kernel)
theorem am_d9 : ∀ k, k < 15 → (TX9 k).1 = RX9 := by decide +kernel
theorem am_u10 : ∀ w ∈ u_ws RX10 TX10 3, w ∈ amWs := amMems [120, 122, 124] (by decide +kernel) (by decide +kernel)
theorem am_d10 : ∀ k, k < 3 → (TX10 k).1 = RX10 := by decide +kernel
theorem am_u11 : ∀ w ∈ u_ws RX11 TX11 20, w ∈ amWs := amMems [437, 439, 441, 443, 445, 447, 449, 451, 453, 455, 457, 459, 461, 463, 465, 467, 469, 471, 473, 475] (by decide +kernel) (by decide +kernel)
theorem am_d11 : ∀ k, k < 20 → (TX11 k).1 = RX11 := by decide +kernel
theorem am_u12 : ∀ w ∈ u_ws RX12 TX12 26, w ∈ amWs := amMems [1698, 1700, 1702, 1704, 1706, 1708, 1710, 1712, 1714, 1716, 1718, 1720, 1722, 1724, 1726, 1728, 1730, 1732, 1734, 1736, 1738, 1740, 1742, 1744, 1746, 1748] (by decide +kernel) (by decide +kernel)
theorem am_d12 : ∀ k, k < 26 → (TX12 k).1 = RX12 := by decide +kernel
/-- what the tables say of the kinds -/
theorem amCl_ok : ∀ (ci : Nat) (r : vw_C), amCl[ci]? = some r → (∀ w ∈ u_ws r.1 r.2.1 r.2.2, w ∈ amWs) ∧ (∀ k, k < r.2.2 → parseFieldDescriptor (r.2.1 k).2.2.1 = some (amTy ci k)) ∧ (∀ a, a < r.2.2 → ∀ b, b < r.2.2 → a ≠ b → (r.2.1 a).2.1 ≠ (r.2.1 b).2.1) ∧ ∀ k, k < r.2.2 → (r.2.1 k).1 = r.1
  | 0, r, h => by cases h; exact ⟨am_u0, tyX0_ok, nmX0, am_d0⟩
  | 1, r, h => by cases h; exact ⟨am_u1, tyX1_ok, nmX1, am_d1⟩
  | 2, r, h => by cases h; exact ⟨am_u2, tyX2_ok, nmX2, am_d2⟩
  | 3, r, h => by cases h; exact ⟨am_u3, tyX3_ok, nmX3, am_d3⟩
  | 4, r, h => by cases h; exact ⟨am_u4, tyX4_ok, nmX4, am_d4⟩
  | 5, r, h => by cases h; exact ⟨am_u5, tyX5_ok, nmX5, am_d5⟩
  | 6, r, h => by cases h; exact ⟨am_u6, tyX6_ok, nmX6, am_d6⟩
  | 7, r, h => by cases h; exact ⟨am_u7, tyX7_ok, nmX7, am_d7⟩
  | 8, r, h => by cases h; exact ⟨am_u8, tyX8_ok, nmX8, am_d8⟩
  | 9, r, h => by cases h; exact ⟨am_u9, tyX9_ok, nmX9, am_d9⟩
  | 10, r, h => by cases h; exact ⟨am_u10, tyX10_ok, nmX10, am_d10⟩
  | 11, r, h => by cases h; exact ⟨am_u11, tyX11_ok, nmX11, am_d11⟩
  | 12, r, h => by cases h; exact ⟨am_u12, tyX12_ok, nmX12, am_d12⟩
  | 13, r, h => by cases h; exact ⟨fun w h => (nomatch h), fun k h => absurd h (Nat.not_lt_zero k), fun k h => absurd h (Nat.not_lt_zero k), fun k h => absurd h (Nat.not_lt_zero k)⟩
  | 14, r, h => by cases h; exact ⟨fun w h => (nomatch h), fun k h => absurd h (Nat.not_lt_zero k), fun k h => absurd h (Nat.not_lt_zero k), fun k h => absurd h (Nat.not_lt_zero k)⟩
  | 15, r, h => by cases h; exact ⟨fun w h => (nomatch h), fun k h => absurd h (Nat.not_lt_zero k), fun k h => absurd h (Nat.not_lt_zero k), fun k h => absurd h (Nat.not_lt_zero k)⟩
  | 16, r, h => by cases h; exact ⟨fun w h => (nomatch h), fun k h => absurd h (Nat.not_lt_zero k), fun k h => absurd h (Nat.not_lt_zero k), fun k h => absurd h (Nat.not_lt_zero k)⟩
  | 17, r, h => by cases h; exact ⟨fun w h => (nomatch h), fun k h => absurd h (Nat.not_lt_zero k), fun k h => absurd h (Nat.not_lt_zero k), fun k h => absurd h (Nat.not_lt_zero k)⟩
  | 18, r, h => by cases h; exact ⟨fun w h => (nomatch h), fun k h => absurd h (Nat.not_lt_zero k), fun k h => absurd h (Nat.not_lt_zero k), fun k h => absurd h (Nat.not_lt_zero k)⟩
  | _ + 19, r, h => by cases h
def amFL (own : String) (idx ci k : Nat) : Prop := ∃ r, amCl[ci]? = some r ∧ k < r.2.2 ∧ ci < 13 ∧ (Cond.fieldLink own idx r.1 (r.2.1 k).2.1 (r.2.1 k).2.2.1 ∈ amWs ∨ ∃ h, Cond.fieldLinkNest own idx r.1 (r.2.1 k).2.1 (r.2.1 k).2.2.1 h ∈ amWs)
theorem amN_eq {ci : Nat} {r : vw_C} (h : amCl[ci]? = some r) : amN ci = r.2.2 := by
  unfold amN
  rw [h]
theorem amFs_at {G : Gx} {M : Mm} {a k N : Nat} (hk : k < N) : ((List.range N).map (amF G M a))[k]? = some (amF G M a k) := by
  rw [List.getElem?_map, List.getElem?_range hk]
  rfl
theorem amFs_set {f g : Nat → Value} {k N : Nat} (h : ∀ j, j ≠ k → g j = f j) : (List.range N).map g = ((List.range N).map f).set k (g k) := by
  apply List.ext_getElem?
  intro j
  by_cases hj : k = j
  · subst hj
    by_cases hl : k < N
    · rw [List.getElem?_set_self (by simpa using hl), List.getElem?_map, List.getElem?_range hl]
      rfl
    · rw [List.getElem?_eq_none (by simpa using hl), List.getElem?_eq_none (by simpa using hl)]
  · rw [List.getElem?_set_ne hj, List.getElem?_map, List.getElem?_map]
    by_cases hl : j < N
    · rw [List.getElem?_range hl]
      simp [h j (Ne.symm hj)]
    · rw [List.getElem?_eq_none (by simpa using hl)]
      rfl
theorem w_getI {G : Gx} {d : Nat} {mi : MI} {pc pc' : Nat} {ls : LsT} {st : List Value} {M : Mm} {Q : Rv → Mm → Prop} {a : Nat} {idx ci k : Nat} (hd : decode mi.2.1 pc = .ok (.getfield idx, 3)) (hl : amFL mi.1.cls idx ci k) (hr : amIsR (amTy ci k) = false) (ha : a < mSz M) (hk : mKd M a = ci) (hp : pc + 3 = pc') (kk : WP G d mi pc' ls (.int (mI M a k) :: st) M Q) : WP G d mi pc ls (.ref a :: st) M Q := by
  subst hp
  refine wp_step (fun p e R s m args below meth c H locs arr Qf cells slots F X L B K => ?_) kk
  obtain ⟨r, hc, hkk, h13, hw⟩ := hl
  have h0 := amW_at (G := G) ha
  rw [amC_obj (by rw [hk]; omega), hk, amN_eq hc] at h0
  have hval : amF G M a k = amV G (.int (mI M a k)) := by
    unfold amF
    rw [hk, hr]
    rfl
  have hfs := amFs_at (G := G) (M := M) (a := a) hkk
  rw [hval] at hfs
  have T := amCl_ok ci r hc
  have h2 : W p G.1 e R s m args below meth c H locs cells slots Qf (F0 m pc arr (.ref (G.2.1 + a) :: st.map (amV G))) := by
    rcases hw with hw | ⟨ho, hw⟩
    · exact va_get (C := r.1) (T := r.2.1) (N := r.2.2) F.1 F.2.1 F.ts T.1 F.own F.kk.1 X.2.1 a h0 hc k hkk (F.ts _ hw) (fun x hx => by rw [T.2.2.2 k hkk] at hx; exact hx) hfs hd (K arr L)
    · exact va_getN (C := r.1) (T := r.2.1) (N := r.2.2) F.1 F.2.1 F.ts T.1 F.own F.kk.1 X.2.1 a h0 hc k hkk (F.ts _ hw) (fun x hx => by rw [T.2.2.2 k hkk] at hx; exact hx) hfs hd (K arr L)
  rw [← amVref X ha] at h2
  exact h2
theorem w_getR {G : Gx} {d : Nat} {mi : MI} {pc pc' : Nat} {ls : LsT} {st : List Value} {M : Mm} {Q : Rv → Mm → Prop} {a : Nat} {idx ci k b : Nat} (hd : decode mi.2.1 pc = .ok (.getfield idx, 3)) (hl : amFL mi.1.cls idx ci k) (hr : amIsR (amTy ci k) = true) (ha : a < mSz M) (hk : mKd M a = ci) (hv : mR M a k = some b) (hp : pc + 3 = pc') (kk : WP G d mi pc' ls (.ref b :: st) M Q) : WP G d mi pc ls (.ref a :: st) M Q := by
  subst hp
  refine wp_step (fun p e R s m args below meth c H locs arr Qf cells slots F X L B K => ?_) kk
  obtain ⟨r, hc, hkk, h13, hw⟩ := hl
  have h0 := amW_at (G := G) ha
  rw [amC_obj (by rw [hk]; omega), hk, amN_eq hc] at h0
  have hval : amF G M a k = amV G (.ref b) := by
    unfold amF
    rw [hk, hr]
    rw [hv]; rfl
  have hfs := amFs_at (G := G) (M := M) (a := a) hkk
  rw [hval] at hfs
  have T := amCl_ok ci r hc
  have h2 : W p G.1 e R s m args below meth c H locs cells slots Qf (F0 m pc arr (.ref (G.2.1 + a) :: st.map (amV G))) := by
    rcases hw with hw | ⟨ho, hw⟩
    · exact va_get (C := r.1) (T := r.2.1) (N := r.2.2) F.1 F.2.1 F.ts T.1 F.own F.kk.1 X.2.1 a h0 hc k hkk (F.ts _ hw) (fun x hx => by rw [T.2.2.2 k hkk] at hx; exact hx) hfs hd (K arr L)
    · exact va_getN (C := r.1) (T := r.2.1) (N := r.2.2) F.1 F.2.1 F.ts T.1 F.own F.kk.1 X.2.1 a h0 hc k hkk (F.ts _ hw) (fun x hx => by rw [T.2.2.2 k hkk] at hx; exact hx) hfs hd (K arr L)
  rw [← amVref X ha] at h2
  exact h2
/-- a field is put: the heap behind it -/
theorem am_put {G : Gx} {d : Nat} {mi : MI} {pc : Nat} {M M1 : Mm} {a : Nat} {idx ci k : Nat} {v : Value} {p : Program} {e : Env} {R : Room} {s : State} {m : MethodId} {args : Array Value} {below : List Frame} {meth : Method} {c : Code} {H : Heap} {locs : List Loc} {arr : Array Slot} {Qf : State → Prop} {cells slots : Nat} {rest : List Value}
    (F : amFx G d mi p R s m args meth c) (X : amRp G M s H locs) (hd : decode mi.2.1 pc = .ok (.putfield idx, 3)) (hl : amFL mi.1.cls idx ci k) (hfin : ∀ r, amCl[ci]? = some r → (r.2.1 k).2.2.2 = false ∨ ((r.2.1 k).2.2.2 = true ∧ mi.1.name = "<init>" ∧ r.1 = mi.1.cls ∧ Cond.fieldLink mi.1.cls idx r.1 (r.2.1 k).2.1 (r.2.1 k).2.2.1 ∈ amWs))
    (ha : a < mSz M) (hk : mKd M a = ci) (hn : narrow (amTy ci k) v = v) (hf : fits (amTy ci k) v = true) (hz : mSz M1 = mSz M) (hK1 : mKd M1 = mKd M) (hw1 : ∀ b, b ≠ a → amC G M1 b = amC G M b) (hv1 : amF G M1 a k = v) (ho1 : ∀ j, j ≠ k → amF G M1 a j = amF G M a j)
    (K : ∀ H' locs', amRp G M1 s H' locs' → W p G.1 e R s m args below meth c H' locs' cells slots Qf (F0 m (pc + 3) arr rest)) :
    W p G.1 e R s m args below meth c H locs cells slots Qf (F0 m pc arr (v :: .ref (G.2.1 + a) :: rest)) := by
  obtain ⟨r, hc, hkk, h13, hw⟩ := hl
  have h0 := amW_at (G := G) ha
  rw [amC_obj (by rw [hk]; omega), hk, amN_eq hc] at h0
  have T := amCl_ok ci r hc
  have hap := va_apart (own := mi.1.cls) F.ts T.1 (amTy ci) T.2.1 T.2.2.1 F.kk.1 hc
  obtain ⟨r', h1, cell, q1, q2, q3, q4⟩ := X.2.1 a _ h0
  have hr : r' = r := Option.some.inj (h1.symm.trans hc)
  subst hr
  obtain ⟨hS, hfc, kC, hkC, hkind⟩ := F.kk.1.1 ci _ hc
  obtain ⟨cf, kf, fi, f, hi, hsl⟩ := hS k hkk
  have hlay := F.ts _ (T.1 _ (u_in_lay hkk))
  have hst := (u_facts hfc hkC (u_lays F.ts T.1 hkk) hi).1
  have hdesc : parseFieldDescriptor (r'.2.1 k).2.2.1 = some (amTy ci k) := T.2.1 k hkk
  have hself : ∀ x, s.fieldFound? (r'.2.1 k).1 (r'.2.1 k).2.1 (r'.2.1 k).2.2.1 = some x → s.fieldFound? r'.1 (r'.2.1 k).2.1 (r'.2.1 k).2.2.1 = some x := fun x hx => by rw [T.2.2.2 k hkk] at hx; exact hx
  have hlen : k < ((List.range r'.2.2).map (amF G M a)).length := by rw [List.length_map, List.length_range]; exact hkk
  have fin : ∀ H1 : Heap, H1[G.2.1 + a]? = some (cell.setSlot (G.2.2.2.1.2 ci k) v) → H1.size = H.size → (∀ q, q ≠ G.2.1 + a → H1[q]? = H[q]?) → W p G.1 e R s m args below meth c H1 (locs ++ [⟨G.2.1 + a, G.2.2.2.1.2 ci k⟩]) cells slots Qf (F0 m (pc + 3) arr rest) := fun H1 e1 e2 e3 => by
    refine K H1 _ (amRp.set X ha hz hw1 ?_ e2 e3)
    rw [amC_obj (M := M1) (by rw [hK1, hk]; omega), hK1, hk, amN_eq hc, amFs_set (k := k) ho1, hv1]
    exact ⟨_, hc, t_OB.to (V := updV (vp_V ((List.range r'.2.2).map (amF G M a))) k v) ⟨_, e1, q2, q3, t_set q4 hap hkk v⟩ (fun j _ => vp_updV_set hlen v j)⟩
  rcases hfin r' hc with hfin | ⟨hfin, hinit, hown9, hw9⟩
  · unfold u_lay at hlay
    rw [if_neg (by rw [hfin]; decide)] at hlay
    have h6 := u_store hfc hkC hkind hlay hi hdesc hn hf
    rcases hw with hw | ⟨ho, hw⟩
    · refine W.putK F.1 F.2.1 (f := f) ⟨F.own, F.ts _ hw, ⟨_, _, _, hself _ hi⟩, hst⟩ (by rw [q2]; exact h6) q1 q3 (by rw [hsl]; exact k2_hasslot (q4 k hkk)) rfl rfl hd fun H' e1 e2 e3 => ?_
      rw [hsl] at e1 ⊢
      exact fin H' e1 e2 e3
    · refine va_WputK F.1 F.2.1 (f := f) F.own (F.ts _ hw) (hself _ hi) hst (by rw [q2]; exact h6) q1 q3 (by rw [hsl]; exact k2_hasslot (q4 k hkk)) rfl rfl hd fun H' e1 e2 e3 => ?_
      rw [hsl] at e1 ⊢
      exact fin H' e1 e2 e3
  · unfold u_lay at hlay
    rw [if_pos hfin] at hlay
    · have hcf : m.cls = cf := by
        obtain ⟨_, _, c', _, _, _, -, -, hf', -, -, -, hown2, -⟩ := Cond.laysFinal_spec hlay
        have e1 : c' = cf := by have := hi.symm.trans hf'; simp at this; exact this.1.symm
        rw [T.2.2.2 k hkk, hown9] at hown2
        rw [← e1]
        exact Option.some.inj (F.own.symm.trans hown2)
      have h6 := u_fits hfc hkC hkind (Or.inr hlay) hi hdesc hn hf
      refine W.putFinK F.1 F.2.1 F.own (F.ts _ hw9) (hself _ hi) hst hcf (F.nm.trans hinit) (by rw [q2]; exact h6) q1 q3 (by rw [hsl]; exact k2_hasslot (q4 k hkk)) rfl rfl hd fun H' e1 e2 e3 => ?_
      rw [hsl] at e1 ⊢
      exact fin H' e1 e2 e3
theorem w_putI {G : Gx} {d : Nat} {mi : MI} {pc pc' : Nat} {ls : LsT} {st : List Value} {M : Mm} {Q : Rv → Mm → Prop} {a : Nat} {idx ci k : Nat} {x : Int32} (hd : decode mi.2.1 pc = .ok (.putfield idx, 3)) (hl : amFL mi.1.cls idx ci k) (hfin : ∀ r, amCl[ci]? = some r → (r.2.1 k).2.2.2 = false) (hr : amIsR (amTy ci k) = false) (hn : narrow (amTy ci k) (.int x) = .int x) (hf : fits (amTy ci k) (.int x) = true) (ha : a < mSz M) (hk : mKd M a = ci) (hp : pc + 3 = pc') (kk : WP G d mi pc' ls st (sI M a k x) Q) : WP G d mi pc ls (.int x :: .ref a :: st) M Q := by
  subst hp
  refine wp_put (M1 := sI M a k x) ⟨rfl, rfl⟩ (fun p e_1 R s m args below meth c H locs arr Qf cells slots F X L K => ?_) kk
  have e : mI (sI M a k x) a = upd (mI M a) k x := if_pos rfl
  have h2 := am_put (M1 := sI M a k x) (arr := arr) (rest := st.map (amV G)) (cells := cells) (slots := slots) (Qf := Qf) (e := e_1) (below := below) F X hd hl (fun r h => Or.inl (hfin r h)) ha hk hn hf rfl rfl (fun b hb => amC_sI hb) (by
    unfold amF
    rw [e, show mKd (sI M a k x) a = ci from hk, hr]
    show Value.int (upd (mI M a) k x k) = _
    rw [pk_us]) (fun j hj => by
    unfold amF
    rw [e, pk_un hj]
    rfl) K
  rw [← amVref X ha] at h2
  exact h2
theorem w_putR {G : Gx} {d : Nat} {mi : MI} {pc pc' : Nat} {ls : LsT} {st : List Value} {M : Mm} {Q : Rv → Mm → Prop} {a : Nat} {idx ci k b : Nat} (hd : decode mi.2.1 pc = .ok (.putfield idx, 3)) (hl : amFL mi.1.cls idx ci k) (hfin : ∀ r, amCl[ci]? = some r → (r.2.1 k).2.2.2 = false ∨ ((r.2.1 k).2.2.2 = true ∧ mi.1.name = "<init>" ∧ r.1 = mi.1.cls ∧ Cond.fieldLink mi.1.cls idx r.1 (r.2.1 k).2.1 (r.2.1 k).2.2.1 ∈ amWs)) (hr : amIsR (amTy ci k) = true) (ha : a < mSz M) (hk : mKd M a = ci) (hp : pc + 3 = pc') (kk : WP G d mi pc' ls st (sR M a k (some b)) Q) : WP G d mi pc ls (.ref b :: .ref a :: st) M Q := by
  subst hp
  refine wp_put (M1 := sR M a k (some b)) ⟨rfl, rfl⟩ (fun p e_1 R s m args below meth c H locs arr Qf cells slots F X L K => ?_) kk
  have e : mR (sR M a k (some b)) a = va_up (mR M a) k (some b) := if_pos rfl
  have hn : narrow (amTy ci k) (.ref (amAd G b)) = .ref (amAd G b) := by cases hty : amTy ci k <;> rw [hty] at hr <;> first | rfl | cases hr
  have hf : fits (amTy ci k) (.ref (amAd G b)) = true := by cases hty : amTy ci k <;> rw [hty] at hr <;> first | rfl | cases hr
  have h2 := am_put (M1 := sR M a k (some b)) (arr := arr) (rest := st.map (amV G)) (cells := cells) (slots := slots) (Qf := Qf) (e := e_1) (below := below) F X hd hl hfin ha hk hn hf rfl rfl (fun b hb => amC_sR hb) (by
    unfold amF
    rw [e, show mKd (sR M a k (some b)) a = ci from hk, hr]
    show va_rf ((va_up (mR M a) k (some b) k).map (amAd G)) = _
    rw [show va_up (mR M a) k (some b) k = some b from if_pos rfl]
    rfl) (fun j hj => by
    unfold amF
    rw [e, show va_up (mR M a) k (some b) j = mR M a j from if_neg hj]
    rfl) K
  rw [← amVref X ha] at h2
  exact h2
