/-! ===== the world over the heap; the instructions that read or change it (laid by wip/whole/gen/mem.py) ===== -/
section
variable {G : Gx} {d : Nat} {mi : MI} {M : Mm} {p : Program} {R : Room} {s : State} {m : MethodId} {args : Array Value} {meth : Method} {c : Code}
theorem amFx.ml (F : amFx G d mi p R s m args meth c) : c.maxLocals = mi.2.2.1 := F.2.2.1
theorem amFx.own (F : amFx G d mi p R s m args meth c) : s.vm.findClass mi.1.cls = some m.cls := F.2.2.2.1
theorem amFx.ts (F : amFx G d mi p R s m args meth c) : ∀ w ∈ amWs, w.before args s = true := F.2.2.2.2.1
theorem amFx.rm (F : amFx G d mi p R s m args meth c) : d ≤ R.frames ∧ 50 * d + 200 ≤ R.locals := F.2.2.2.2.2.1
theorem amFx.rt (F : amFx G d mi p R s m args meth c) : meth.sig.returnType = mi.2.2.2.1 := F.2.2.2.2.2.2.1
theorem amFx.lk (F : amFx G d mi p R s m args meth c) : meth.locks = false := F.2.2.2.2.2.2.2.1
theorem amFx.et (F : amFx G d mi p R s m args meth c) : c.exceptionTable.toList = tableOf mi.2.2.2.2 := F.2.2.2.2.2.2.2.2.1
theorem amFx.nm (F : amFx G d mi p R s m args meth c) : meth.name = mi.1.name := F.2.2.2.2.2.2.2.2.2.1
theorem amFx.kk (F : amFx G d mi p R s m args meth c) : amK G s := F.2.2.2.2.2.2.2.2.2.2.1
theorem amFx.oo (F : amFx G d mi p R s m args meth c) : amO G s s.heap := F.2.2.2.2.2.2.2.2.2.2.2.1
theorem amFx.tr (F : amFx G d mi p R s m args meth c) : G.1.stackTraces = false := F.2.2.2.2.2.2.2.2.2.2.2.2
end
theorem amW_at {G : Gx} {M : Mm} {a : Nat} (h : a < mSz M) : (amW G M)[a]? = some (G.2.1 + a, amC G M a) := by
  unfold amW
  rw [List.getElem?_map, List.getElem?_range h]
  rfl
theorem amW_len {G : Gx} {M : Mm} : (amW G M).length = mSz M := by
  unfold amW
  rw [List.length_map, List.length_range]
theorem amRp.at {G : Gx} {M : Mm} {s : State} {H : Heap} {locs : List Loc} {a : Nat} (X : amRp G M s H locs) (ha : a < mSz M) : va_at G.2.2.2.1 amCl (G.2.1 + a, amC G M a) H := X.2.1 a _ (amW_at ha)
theorem amRp.ad {G : Gx} {M : Mm} {s : State} {H : Heap} {locs : List Loc} {a : Nat} (X : amRp G M s H locs) (ha : a < mSz M) : amAd G a = G.2.1 + a := if_pos (Nat.lt_of_lt_of_le ha X.1.2)
theorem amRp.set {G : Gx} {M M1 : Mm} {s : State} {H H1 : Heap} {locs : List Loc} {a i : Nat} (X : amRp G M s H locs) (ha : a < mSz M) (hz : mSz M1 = mSz M) (hw : ∀ b, b ≠ a → amC G M1 b = amC G M b)
    (he : va_at G.2.2.2.1 amCl (G.2.1 + a, amC G M1 a) H1) (z : H1.size = H.size) (oq : ∀ q, q ≠ G.2.1 + a → H1[q]? = H[q]?) : amRp G M1 s H1 (locs ++ [⟨G.2.1 + a, i⟩]) := by
  have e : amW G M1 = (amW G M).set a (G.2.1 + a, amC G M1 a) := by
    apply List.ext_getElem?
    intro k
    by_cases hk : a = k
    · subst hk
      rw [List.getElem?_set_self (by rw [amW_len]; exact ha), amW_at (by rw [hz]; exact ha)]
    · rw [List.getElem?_set_ne hk]
      unfold amW
      rw [hz, List.getElem?_map, List.getElem?_map]
      by_cases hl : k < mSz M
      · rw [List.getElem?_range hl]
        simp [hw k (Ne.symm hk)]
      · rw [List.getElem?_eq_none (by simpa using hl)]
        rfl
  refine ⟨⟨by rw [z, hz]; exact X.1.1, by rw [hz]; exact X.1.2⟩, ?_, ?_, X.2.2.2.put z oq (Nat.le_add_right _ _)⟩
  · rw [e]
    exact X.2.1.set X.2.2.1 (amW_at ha) he oq
  · rw [e]
    exact X.2.2.1.set (amW_at ha)
theorem amC_new {G : Gx} {M : Mm} {k n w b : Nat} (h : b ≠ mSz M) : amC G (nC M k n w) b = amC G M b := by
  have e1 : mKd (nC M k n w) b = mKd M b := if_neg h
  have e2 : mLn (nC M k n w) b = mLn M b := if_neg h
  have e3 : mI (nC M k n w) b = mI M b := if_neg h
  have e4 : mL (nC M k n w) b = mL M b := if_neg h
  have e5 : mD (nC M k n w) b = mD M b := if_neg h
  have e6 : mR (nC M k n w) b = mR M b := if_neg h
  have e7 : amF G (nC M k n w) b = amF G M b := by
    funext j
    unfold amF
    rw [e1, e3, e6]
  unfold amC amArr
  rw [e1, e2, e3, e4, e5, e6, e7]
theorem amRp.new {G : Gx} {M : Mm} {s : State} {H H1 : Heap} {locs : List Loc} {k n w : Nat} (X : amRp G M s H locs) (hr : mSz M < 1000000) (he : va_at G.2.2.2.1 amCl (G.2.1 + mSz M, amC G (nC M k n w) (mSz M)) H1)
    (z : H1.size = H.size + 1) (oq : ∀ q, q < H.size → H1[q]? = H[q]?) : amRp G (nC M k n w) s H1 locs := by
  have e : amW G (nC M k n w) = amW G M ++ [(G.2.1 + mSz M, amC G (nC M k n w) (mSz M))] := by
    show (List.range (mSz M + 1)).map _ = _
    rw [List.range_succ, List.map_append]
    unfold amW
    congr 1
    apply List.map_congr_left
    intro b hb
    rw [amC_new (Nat.ne_of_lt (List.mem_range.mp hb))]
  have hD : va_D (amA G) (amW G (nC M k n w)) := by
    rw [e]
    exact X.2.2.1.push X.2.1 (by rw [X.1.1]) (Nat.le_add_right _ _)
  refine ⟨⟨by rw [z, X.1.1]; rfl, hr⟩, ?_, hD, ⟨Nat.le_trans X.2.2.2.1 (by omega), fun q h1 h2 => (oq q (Nat.lt_of_lt_of_le h1 X.2.2.2.1)).trans (X.2.2.2.2.1 q h1 h2), X.2.2.2.2.2⟩⟩
  rw [e]
  refine (X.2.1.kept (fun k x hx => oq x.1 ((X.2.1 k x hx).lt))).app (fun k x hx => ?_)
  have hz : k < 1 := (List.getElem?_eq_some_iff.mp hx).1
  rw [show k = 0 by omega] at hx
  cases hx
  exact he
theorem amC_100 {G : Gx} {M : Mm} {a : Nat} (h : mKd M a = 100) : amC G M a = .inl (G.2.2.2.2.1 100, mLn M a, .inl (mI M a)) := by
  unfold amC amArr
  rw [h]
  rfl
theorem amK_100 {G : Gx} {s : State} (h : amK G s) : ArrOfT s (G.2.2.2.2.1 100) (.int) := (h.1.2 0 (G.2.2.2.2.1 100, .int) rfl).1
theorem amC_101 {G : Gx} {M : Mm} {a : Nat} (h : mKd M a = 101) : amC G M a = .inl (G.2.2.2.2.1 101, mLn M a, .inl (mI M a)) := by
  unfold amC amArr
  rw [h]
  rfl
theorem amK_101 {G : Gx} {s : State} (h : amK G s) : ArrOfT s (G.2.2.2.2.1 101) (.char) := (h.1.2 1 (G.2.2.2.2.1 101, .char) rfl).1
theorem amC_102 {G : Gx} {M : Mm} {a : Nat} (h : mKd M a = 102) : amC G M a = .inl (G.2.2.2.2.1 102, mLn M a, .inl (mI M a)) := by
  unfold amC amArr
  rw [h]
  rfl
theorem amK_102 {G : Gx} {s : State} (h : amK G s) : ArrOfT s (G.2.2.2.2.1 102) (.boolean) := (h.1.2 2 (G.2.2.2.2.1 102, .boolean) rfl).1
theorem amC_110 {G : Gx} {M : Mm} {a : Nat} (h : mKd M a = 110) : amC G M a = .inl (G.2.2.2.2.1 110, mLn M a, .inr (.inl (mL M a))) := by
  unfold amC amArr
  rw [h]
  rfl
theorem amK_110 {G : Gx} {s : State} (h : amK G s) : ArrOfT s (G.2.2.2.2.1 110) (.long) := (h.1.2 3 (G.2.2.2.2.1 110, .long) rfl).1
theorem amC_111 {G : Gx} {M : Mm} {a : Nat} (h : mKd M a = 111) : amC G M a = .inl (G.2.2.2.2.1 111, mLn M a, .inr (.inr (.inr (.inl (mD M a))))) := by
  unfold amC amArr
  rw [h]
  rfl
theorem amK_111 {G : Gx} {s : State} (h : amK G s) : ArrOfT s (G.2.2.2.2.1 111) (.double) := (h.1.2 4 (G.2.2.2.2.1 111, .double) rfl).1
theorem amC_120 {G : Gx} {M : Mm} {a : Nat} (h : mKd M a = 120) : amC G M a = .inl (G.2.2.2.2.1 120, mLn M a, .inr (.inr (.inr (.inr (fun i => (mR M a i).map (amAd G)))))) := by
  unfold amC amArr
  rw [h]
  rfl
theorem amK_120 {G : Gx} {s : State} (h : amK G s) : ArrOfT s (G.2.2.2.2.1 120) (.array .int) := (h.1.2 5 (G.2.2.2.2.1 120, .array .int) rfl).1
theorem amC_121 {G : Gx} {M : Mm} {a : Nat} (h : mKd M a = 121) : amC G M a = .inl (G.2.2.2.2.1 121, mLn M a, .inr (.inr (.inr (.inr (fun i => (mR M a i).map (amAd G)))))) := by
  unfold amC amArr
  rw [h]
  rfl
theorem amK_121 {G : Gx} {s : State} (h : amK G s) : ArrOfT s (G.2.2.2.2.1 121) (.array .boolean) := (h.1.2 6 (G.2.2.2.2.1 121, .array .boolean) rfl).1
theorem amC_122 {G : Gx} {M : Mm} {a : Nat} (h : mKd M a = 122) : amC G M a = .inl (G.2.2.2.2.1 122, mLn M a, .inr (.inr (.inr (.inr (fun i => (mR M a i).map (amAd G)))))) := by
  unfold amC amArr
  rw [h]
  rfl
theorem amK_122 {G : Gx} {s : State} (h : amK G s) : ArrOfT s (G.2.2.2.2.1 122) (.object RX0) := (h.1.2 7 (G.2.2.2.2.1 122, .object RX0) rfl).1
theorem amC_obj {G : Gx} {M : Mm} {a : Nat} (h : mKd M a < 100) : amC G M a = .inr (mKd M a, (List.range (amN (mKd M a))).map (amF G M a)) := if_pos h
theorem amC_sI {G : Gx} {M : Mm} {a b i : Nat} {x : Int32} (h : b ≠ a) : amC G (sI M a i x) b = amC G M b := by
  unfold amC amArr
  have e : mI (sI M a i x) b = mI M b := if_neg h
  have e2 : amF G (sI M a i x) b = amF G M b := by
    funext k
    unfold amF
    rw [e]
    rfl
  rw [e, e2]
  rfl
theorem amC_sL {G : Gx} {M : Mm} {a b i : Nat} {x : Int64} (h : b ≠ a) : amC G (sL M a i x) b = amC G M b := by
  unfold amC amArr
  have e : mL (sL M a i x) b = mL M b := if_neg h
  rw [e]
  rfl
theorem amC_sD {G : Gx} {M : Mm} {a b i : Nat} {x : UInt64} (h : b ≠ a) : amC G (sD M a i x) b = amC G M b := by
  unfold amC amArr
  have e : mD (sD M a i x) b = mD M b := if_neg h
  rw [e]
  rfl
theorem amC_sR {G : Gx} {M : Mm} {a b i : Nat} {x : Option Nat} (h : b ≠ a) : amC G (sR M a i x) b = amC G M b := by
  unfold amC amArr
  have e : mR (sR M a i x) b = mR M b := if_neg h
  have e2 : amF G (sR M a i x) b = amF G M b := by
    funext k
    unfold amF
    rw [e]
    rfl
  rw [e, e2]
  rfl
theorem amC_sC {G : Gx} {M : Mm} {a b e sp dp n : Nat} (h : b ≠ a) : amC G (sC M e a sp dp n) b = amC G M b := by
  unfold amC amArr
  have e1 : mI (sC M e a sp dp n) b = mI M b := if_neg h
  have e2 : amF G (sC M e a sp dp n) b = amF G M b := by
    funext k
    unfold amF
    rw [e1]
    rfl
  rw [e1, e2]
  rfl
theorem amVref {G : Gx} {M : Mm} {s : State} {H : Heap} {locs : List Loc} {a : Nat} (X : amRp G M s H locs) (ha : a < mSz M) : amV G (.ref a) = .ref (G.2.1 + a) := by
  show Value.ref (amAd G a) = _
  rw [X.ad ha]
theorem w_iaload {G : Gx} {d : Nat} {mi : MI} {pc pc' : Nat} {ls : LsT} {st : List Value} {M : Mm} {Q : Rv → Mm → Prop} {a : Nat} {i : Int32} (hd : decode mi.2.1 pc = .ok (.iaload, 1)) (ha : a < mSz M) (hk : mKd M a = 100) (hin : vp_in i (mLn M a)) (hp : pc + 1 = pc') (k : WP G d mi pc' ls (.int (mI M a i.toNatClampNeg) :: st) M Q) : WP G d mi pc ls (.int i :: .ref a :: st) M Q := by
  subst hp
  refine wp_step (fun p e R s m args below meth c H locs arr Qf cells slots F X L B K => ?_) k
  have hw := amW_at (G := G) ha
  rw [amC_100 hk] at hw
  have h2 := va_iald (rest := st.map (amV G)) F.1 F.2.1 F.kk.1 X.2.1 a 0 hw rfl hin hd (K arr L)
  rw [← amVref X ha] at h2
  exact h2
theorem w_caload {G : Gx} {d : Nat} {mi : MI} {pc pc' : Nat} {ls : LsT} {st : List Value} {M : Mm} {Q : Rv → Mm → Prop} {a : Nat} {i : Int32} (hd : decode mi.2.1 pc = .ok (.caload, 1)) (ha : a < mSz M) (hk : mKd M a = 101) (hin : vp_in i (mLn M a)) (hp : pc + 1 = pc') (k : WP G d mi pc' ls (.int (mI M a i.toNatClampNeg) :: st) M Q) : WP G d mi pc ls (.int i :: .ref a :: st) M Q := by
  subst hp
  refine wp_step (fun p e R s m args below meth c H locs arr Qf cells slots F X L B K => ?_) k
  have hw := amW_at (G := G) ha
  rw [amC_101 hk] at hw
  have h2 := va_cald (rest := st.map (amV G)) F.1 F.2.1 F.kk.1 X.2.1 a 1 hw rfl hin hd (K arr L)
  rw [← amVref X ha] at h2
  exact h2
theorem w_baload {G : Gx} {d : Nat} {mi : MI} {pc pc' : Nat} {ls : LsT} {st : List Value} {M : Mm} {Q : Rv → Mm → Prop} {a : Nat} {i : Int32} (hd : decode mi.2.1 pc = .ok (.baload, 1)) (ha : a < mSz M) (hk : mKd M a = 102) (hin : vp_in i (mLn M a)) (hp : pc + 1 = pc') (k : WP G d mi pc' ls (.int (mI M a i.toNatClampNeg) :: st) M Q) : WP G d mi pc ls (.int i :: .ref a :: st) M Q := by
  subst hp
  refine wp_step (fun p e R s m args below meth c H locs arr Qf cells slots F X L B K => ?_) k
  have hw := amW_at (G := G) ha
  rw [amC_102 hk] at hw
  have h2 := va_zald (rest := st.map (amV G)) F.1 F.2.1 F.kk.1 X.2.1 a 2 hw rfl hin hd (K arr L)
  rw [← amVref X ha] at h2
  exact h2
theorem w_laload {G : Gx} {d : Nat} {mi : MI} {pc pc' : Nat} {ls : LsT} {st : List Value} {M : Mm} {Q : Rv → Mm → Prop} {a : Nat} {i : Int32} (hd : decode mi.2.1 pc = .ok (.laload, 1)) (ha : a < mSz M) (hk : mKd M a = 110) (hin : vp_in i (mLn M a)) (hp : pc + 1 = pc') (k : WP G d mi pc' ls (.long (mL M a i.toNatClampNeg) :: st) M Q) : WP G d mi pc ls (.int i :: .ref a :: st) M Q := by
  subst hp
  refine wp_step (fun p e R s m args below meth c H locs arr Qf cells slots F X L B K => ?_) k
  have hw := amW_at (G := G) ha
  rw [amC_110 hk] at hw
  have h2 := va_lald (rest := st.map (amV G)) F.1 F.2.1 F.kk.1 X.2.1 a 3 hw rfl hin hd (K arr L)
  rw [← amVref X ha] at h2
  exact h2
theorem w_daload {G : Gx} {d : Nat} {mi : MI} {pc pc' : Nat} {ls : LsT} {st : List Value} {M : Mm} {Q : Rv → Mm → Prop} {a : Nat} {i : Int32} (hd : decode mi.2.1 pc = .ok (.daload, 1)) (ha : a < mSz M) (hk : mKd M a = 111) (hin : vp_in i (mLn M a)) (hp : pc + 1 = pc') (k : WP G d mi pc' ls (.double (mD M a i.toNatClampNeg) :: st) M Q) : WP G d mi pc ls (.int i :: .ref a :: st) M Q := by
  subst hp
  refine wp_step (fun p e R s m args below meth c H locs arr Qf cells slots F X L B K => ?_) k
  have hw := amW_at (G := G) ha
  rw [amC_111 hk] at hw
  have h2 := va_dald (rest := st.map (amV G)) F.1 F.2.1 F.kk.1 X.2.1 a 4 hw rfl hin hd (K arr L)
  rw [← amVref X ha] at h2
  exact h2
theorem w_aaload120 {G : Gx} {d : Nat} {mi : MI} {pc pc' : Nat} {ls : LsT} {st : List Value} {M : Mm} {Q : Rv → Mm → Prop} {a : Nat} {i : Int32} {b : Nat} (hd : decode mi.2.1 pc = .ok (.aaload, 1)) (ha : a < mSz M) (hk : mKd M a = 120) (hin : vp_in i (mLn M a)) (hr : mR M a i.toNatClampNeg = some b) (hp : pc + 1 = pc') (k : WP G d mi pc' ls (.ref b :: st) M Q) : WP G d mi pc ls (.int i :: .ref a :: st) M Q := by
  subst hp
  refine wp_step (fun p e R s m args below meth c H locs arr Qf cells slots F X L B K => ?_) k
  have hw := X.at ha
  rw [amC_120 hk] at hw
  have hlt : i.toNatClampNeg < mLn M a := Nat.not_le.mp fun q => hin (Or.inr q)
  have h2 := W.aald (v := .ref (amAd G b)) (ty := .array .int) (g := F0 m pc arr (.int i :: .ref (G.2.1 + a) :: st.map (amV G))) F.1 F.2.1 hw (amK_120 F.kk (mLn M a) (fun j => va_rf ((mR M a j).map (amAd G)))) rfl (fun q => by cases q) (by show ¬ (i < 0 ∨ (arrV _ _ _).slots.size ≤ _); rw [arrV_size]; exact hin) (by show (arrV _ _ _).slots[_]? = _; rw [arrV_read _ _ hlt]; show some (va_rf ((mR M a i.toNatClampNeg).map (amAd G))) = _; rw [hr]; rfl) rfl rfl hd (K arr L)
  rw [← amVref X ha] at h2
  exact h2
theorem w_aaload121 {G : Gx} {d : Nat} {mi : MI} {pc pc' : Nat} {ls : LsT} {st : List Value} {M : Mm} {Q : Rv → Mm → Prop} {a : Nat} {i : Int32} {b : Nat} (hd : decode mi.2.1 pc = .ok (.aaload, 1)) (ha : a < mSz M) (hk : mKd M a = 121) (hin : vp_in i (mLn M a)) (hr : mR M a i.toNatClampNeg = some b) (hp : pc + 1 = pc') (k : WP G d mi pc' ls (.ref b :: st) M Q) : WP G d mi pc ls (.int i :: .ref a :: st) M Q := by
  subst hp
  refine wp_step (fun p e R s m args below meth c H locs arr Qf cells slots F X L B K => ?_) k
  have hw := X.at ha
  rw [amC_121 hk] at hw
  have hlt : i.toNatClampNeg < mLn M a := Nat.not_le.mp fun q => hin (Or.inr q)
  have h2 := W.aald (v := .ref (amAd G b)) (ty := .array .boolean) (g := F0 m pc arr (.int i :: .ref (G.2.1 + a) :: st.map (amV G))) F.1 F.2.1 hw (amK_121 F.kk (mLn M a) (fun j => va_rf ((mR M a j).map (amAd G)))) rfl (fun q => by cases q) (by show ¬ (i < 0 ∨ (arrV _ _ _).slots.size ≤ _); rw [arrV_size]; exact hin) (by show (arrV _ _ _).slots[_]? = _; rw [arrV_read _ _ hlt]; show some (va_rf ((mR M a i.toNatClampNeg).map (amAd G))) = _; rw [hr]; rfl) rfl rfl hd (K arr L)
  rw [← amVref X ha] at h2
  exact h2
theorem w_aaload122 {G : Gx} {d : Nat} {mi : MI} {pc pc' : Nat} {ls : LsT} {st : List Value} {M : Mm} {Q : Rv → Mm → Prop} {a : Nat} {i : Int32} {b : Nat} (hd : decode mi.2.1 pc = .ok (.aaload, 1)) (ha : a < mSz M) (hk : mKd M a = 122) (hin : vp_in i (mLn M a)) (hr : mR M a i.toNatClampNeg = some b) (hp : pc + 1 = pc') (k : WP G d mi pc' ls (.ref b :: st) M Q) : WP G d mi pc ls (.int i :: .ref a :: st) M Q := by
  subst hp
  refine wp_step (fun p e R s m args below meth c H locs arr Qf cells slots F X L B K => ?_) k
  have hw := X.at ha
  rw [amC_122 hk] at hw
  have hlt : i.toNatClampNeg < mLn M a := Nat.not_le.mp fun q => hin (Or.inr q)
  have h2 := W.aald (v := .ref (amAd G b)) (ty := .object RX0) (g := F0 m pc arr (.int i :: .ref (G.2.1 + a) :: st.map (amV G))) F.1 F.2.1 hw (amK_122 F.kk (mLn M a) (fun j => va_rf ((mR M a j).map (amAd G)))) rfl (fun q => by cases q) (by show ¬ (i < 0 ∨ (arrV _ _ _).slots.size ≤ _); rw [arrV_size]; exact hin) (by show (arrV _ _ _).slots[_]? = _; rw [arrV_read _ _ hlt]; show some (va_rf ((mR M a i.toNatClampNeg).map (amAd G))) = _; rw [hr]; rfl) rfl rfl hd (K arr L)
  rw [← amVref X ha] at h2
  exact h2
theorem w_iastore {G : Gx} {d : Nat} {mi : MI} {pc pc' : Nat} {ls : LsT} {st : List Value} {M : Mm} {Q : Rv → Mm → Prop} {a : Nat} {i : Int32} {x : Int32} (hd : decode mi.2.1 pc = .ok (.iastore, 1)) (ha : a < mSz M) (hk : mKd M a = 100) (hin : vp_in i (mLn M a)) (hp : pc + 1 = pc') (k : WP G d mi pc' ls st (sI M a i.toNatClampNeg x) Q) : WP G d mi pc ls (.int x :: .int i :: .ref a :: st) M Q := by
  subst hp
  refine wp_put (M1 := sI M a i.toNatClampNeg x) ⟨rfl, rfl⟩ (fun p e R s m args below meth c H locs arr Qf cells slots F X L K => ?_) k
  have hw := X.at ha
  rw [amC_100 hk] at hw
  have h2 := W.iast (x := x) (g := F0 m pc arr (.int x :: .int i :: .ref (G.2.1 + a) :: st.map (amV G))) F.1 F.2.1 hw (amK_100 F.kk (mLn M a) (fun j => .int (mI M a j))) (fun q => by cases q) (by show ¬ (i < 0 ∨ (arrV _ _ _).slots.size ≤ _); rw [arrV_size]; exact hin) rfl rfl hd (fun H1 e1 z oq => K H1 _ (amRp.set X ha rfl (fun b hb => amC_sI hb) (by
    rw [amC_100 (M := sI M a i.toNatClampNeg x) hk]
    show H1[G.2.1 + a]? = some (vp_cell _ _)
    rw [e1, vp_cell_i, vp_cell_i, arrV_store]
    congr 2
    have e3 : mI (sI M a i.toNatClampNeg x) a = upd (mI M a) i.toNatClampNeg x := if_pos rfl
    rw [e3]
    funext q
    by_cases hq : q = i.toNatClampNeg
    · subst hq
      simp [updV, upd]
    · simp [updV, upd, hq]) z oq))
  rw [← amVref X ha] at h2
  exact h2
theorem w_castore {G : Gx} {d : Nat} {mi : MI} {pc pc' : Nat} {ls : LsT} {st : List Value} {M : Mm} {Q : Rv → Mm → Prop} {a : Nat} {i : Int32} {x : Int32} (hd : decode mi.2.1 pc = .ok (.castore, 1)) (ha : a < mSz M) (hk : mKd M a = 101) (hin : vp_in i (mLn M a)) (hx : vp_nar .char x = x) (hp : pc + 1 = pc') (k : WP G d mi pc' ls st (sI M a i.toNatClampNeg x) Q) : WP G d mi pc ls (.int x :: .int i :: .ref a :: st) M Q := by
  subst hp
  refine wp_put (M1 := sI M a i.toNatClampNeg x) ⟨rfl, rfl⟩ (fun p e R s m args below meth c H locs arr Qf cells slots F X L K => ?_) k
  have hw := X.at ha
  rw [amC_101 hk] at hw
  have h2 := W.cast (x := x) (g := F0 m pc arr (.int x :: .int i :: .ref (G.2.1 + a) :: st.map (amV G))) F.1 F.2.1 hw (amK_101 F.kk (mLn M a) (fun j => .int (mI M a j))) (fun q => by cases q) (by show ¬ (i < 0 ∨ (arrV _ _ _).slots.size ≤ _); rw [arrV_size]; exact hin) rfl rfl hd (fun H1 e1 z oq => K H1 _ (amRp.set X ha rfl (fun b hb => amC_sI hb) (by
    rw [amC_101 (M := sI M a i.toNatClampNeg x) hk]
    show H1[G.2.1 + a]? = some (vp_cell _ _)
    have hx2 : narrow .char (.int x) = .int x := by have h9 := congrArg Value.int hx; exact h9
    rw [hx2] at e1
    rw [e1, vp_cell_i, vp_cell_i, arrV_store]
    congr 2
    have e3 : mI (sI M a i.toNatClampNeg x) a = upd (mI M a) i.toNatClampNeg x := if_pos rfl
    rw [e3]
    funext q
    by_cases hq : q = i.toNatClampNeg
    · subst hq
      simp [updV, upd]
    · simp [updV, upd, hq]) z oq))
  rw [← amVref X ha] at h2
  exact h2
theorem w_bastore {G : Gx} {d : Nat} {mi : MI} {pc pc' : Nat} {ls : LsT} {st : List Value} {M : Mm} {Q : Rv → Mm → Prop} {a : Nat} {i : Int32} {x : Int32} (hd : decode mi.2.1 pc = .ok (.bastore, 1)) (ha : a < mSz M) (hk : mKd M a = 102) (hin : vp_in i (mLn M a)) (hx : vp_nar .boolean x = x) (hp : pc + 1 = pc') (k : WP G d mi pc' ls st (sI M a i.toNatClampNeg x) Q) : WP G d mi pc ls (.int x :: .int i :: .ref a :: st) M Q := by
  subst hp
  refine wp_put (M1 := sI M a i.toNatClampNeg x) ⟨rfl, rfl⟩ (fun p e R s m args below meth c H locs arr Qf cells slots F X L K => ?_) k
  have hw := X.at ha
  rw [amC_102 hk] at hw
  have h2 := W.zast (x := x) (g := F0 m pc arr (.int x :: .int i :: .ref (G.2.1 + a) :: st.map (amV G))) F.1 F.2.1 hw (amK_102 F.kk (mLn M a) (fun j => .int (mI M a j))) (fun q => by cases q) (by show ¬ (i < 0 ∨ (arrV _ _ _).slots.size ≤ _); rw [arrV_size]; exact hin) rfl rfl hd (fun H1 e1 z oq => K H1 _ (amRp.set X ha rfl (fun b hb => amC_sI hb) (by
    rw [amC_102 (M := sI M a i.toNatClampNeg x) hk]
    show H1[G.2.1 + a]? = some (vp_cell _ _)
    have hx2 : narrow .boolean (.int x) = .int x := by have h9 := congrArg Value.int hx; exact h9
    rw [hx2] at e1
    rw [e1, vp_cell_i, vp_cell_i, arrV_store]
    congr 2
    have e3 : mI (sI M a i.toNatClampNeg x) a = upd (mI M a) i.toNatClampNeg x := if_pos rfl
    rw [e3]
    funext q
    by_cases hq : q = i.toNatClampNeg
    · subst hq
      simp [updV, upd]
    · simp [updV, upd, hq]) z oq))
  rw [← amVref X ha] at h2
  exact h2
theorem w_lastore {G : Gx} {d : Nat} {mi : MI} {pc pc' : Nat} {ls : LsT} {st : List Value} {M : Mm} {Q : Rv → Mm → Prop} {a : Nat} {i : Int32} {x : Int64} (hd : decode mi.2.1 pc = .ok (.lastore, 1)) (ha : a < mSz M) (hk : mKd M a = 110) (hin : vp_in i (mLn M a)) (hp : pc + 1 = pc') (k : WP G d mi pc' ls st (sL M a i.toNatClampNeg x) Q) : WP G d mi pc ls (.long x :: .int i :: .ref a :: st) M Q := by
  subst hp
  refine wp_put (M1 := sL M a i.toNatClampNeg x) ⟨rfl, rfl⟩ (fun p e R s m args below meth c H locs arr Qf cells slots F X L K => ?_) k
  have hw := X.at ha
  rw [amC_110 hk] at hw
  have h2 := W.last (x := x) (g := F0 m pc arr (.long x :: .int i :: .ref (G.2.1 + a) :: st.map (amV G))) F.1 F.2.1 hw (amK_110 F.kk (mLn M a) (fun j => .long (mL M a j))) (fun q => by cases q) (by show ¬ (i < 0 ∨ (arrV _ _ _).slots.size ≤ _); rw [arrV_size]; exact hin) rfl rfl hd (fun H1 e1 z oq => K H1 _ (amRp.set X ha rfl (fun b hb => amC_sL hb) (by
    rw [amC_110 (M := sL M a i.toNatClampNeg x) hk]
    show H1[G.2.1 + a]? = some (vp_cell _ _)
    rw [e1, vp_cell_l, vp_cell_l, arrV_store]
    congr 2
    have e3 : mL (sL M a i.toNatClampNeg x) a = vp_updL (mL M a) i.toNatClampNeg x := if_pos rfl
    rw [e3]
    funext q
    by_cases hq : q = i.toNatClampNeg
    · subst hq
      simp [updV, vp_updL]
    · simp [updV, vp_updL, hq]) z oq))
  rw [← amVref X ha] at h2
  exact h2
theorem w_dastore {G : Gx} {d : Nat} {mi : MI} {pc pc' : Nat} {ls : LsT} {st : List Value} {M : Mm} {Q : Rv → Mm → Prop} {a : Nat} {i : Int32} {x : UInt64} (hd : decode mi.2.1 pc = .ok (.dastore, 1)) (ha : a < mSz M) (hk : mKd M a = 111) (hin : vp_in i (mLn M a)) (hp : pc + 1 = pc') (k : WP G d mi pc' ls st (sD M a i.toNatClampNeg x) Q) : WP G d mi pc ls (.double x :: .int i :: .ref a :: st) M Q := by
  subst hp
  refine wp_put (M1 := sD M a i.toNatClampNeg x) ⟨rfl, rfl⟩ (fun p e R s m args below meth c H locs arr Qf cells slots F X L K => ?_) k
  have hw := X.at ha
  rw [amC_111 hk] at hw
  have h2 := W.dast (x := x) (g := F0 m pc arr (.double x :: .int i :: .ref (G.2.1 + a) :: st.map (amV G))) F.1 F.2.1 hw (amK_111 F.kk (mLn M a) (fun j => .double (mD M a j))) (fun q => by cases q) (by show ¬ (i < 0 ∨ (arrV _ _ _).slots.size ≤ _); rw [arrV_size]; exact hin) rfl rfl hd (fun H1 e1 z oq => K H1 _ (amRp.set X ha rfl (fun b hb => amC_sD hb) (by
    rw [amC_111 (M := sD M a i.toNatClampNeg x) hk]
    show H1[G.2.1 + a]? = some (vp_cell _ _)
    rw [e1, vp_cell_d, vp_cell_d, arrV_store]
    congr 2
    have e3 : mD (sD M a i.toNatClampNeg x) a = vf_upd (mD M a) i.toNatClampNeg x := if_pos rfl
    rw [e3]
    funext q
    by_cases hq : q = i.toNatClampNeg
    · subst hq
      simp [updV, vf_upd]
    · simp [updV, vf_upd, hq]) z oq))
  rw [← amVref X ha] at h2
  exact h2
theorem w_alen {G : Gx} {d : Nat} {mi : MI} {pc pc' : Nat} {ls : LsT} {st : List Value} {M : Mm} {Q : Rv → Mm → Prop} {a : Nat} {n : Nat} (hd : decode mi.2.1 pc = .ok (.arraylength, 1)) (ha : a < mSz M) (hk : mKd M a = 100 ∨ mKd M a = 101 ∨ mKd M a = 102 ∨ mKd M a = 110 ∨ mKd M a = 111 ∨ mKd M a = 120 ∨ mKd M a = 121 ∨ mKd M a = 122) (hn : mLn M a = n) (hp : pc + 1 = pc') (k : WP G d mi pc' ls (.int (nI n) :: st) M Q) : WP G d mi pc ls (.ref a :: st) M Q := by
  subst hp
  subst hn
  refine wp_step (fun p e R s m args below meth c H locs arr Qf cells slots F X L B K => ?_) k
  have hw := amW_at (G := G) ha
  have h2 : W p G.1 e R s m args below meth c H locs cells slots Qf (F0 m pc arr (.ref (G.2.1 + a) :: st.map (amV G))) := by
    rcases hk with h | h | h | h | h | h | h | h
    · rw [amC_100 h] at hw; exact va_alen F.1 F.2.1 F.kk.1 X.2.1 a 0 hw rfl rfl hd (K arr L)
    · rw [amC_101 h] at hw; exact va_alen F.1 F.2.1 F.kk.1 X.2.1 a 1 hw rfl rfl hd (K arr L)
    · rw [amC_102 h] at hw; exact va_alen F.1 F.2.1 F.kk.1 X.2.1 a 2 hw rfl rfl hd (K arr L)
    · rw [amC_110 h] at hw; exact va_alen F.1 F.2.1 F.kk.1 X.2.1 a 3 hw rfl rfl hd (K arr L)
    · rw [amC_111 h] at hw; exact va_alen F.1 F.2.1 F.kk.1 X.2.1 a 4 hw rfl rfl hd (K arr L)
    · rw [amC_120 h] at hw; exact va_alen F.1 F.2.1 F.kk.1 X.2.1 a 5 hw rfl rfl hd (K arr L)
    · rw [amC_121 h] at hw; exact va_alen F.1 F.2.1 F.kk.1 X.2.1 a 6 hw rfl rfl hd (K arr L)
    · rw [amC_122 h] at hw; exact va_alen F.1 F.2.1 F.kk.1 X.2.1 a 7 hw rfl rfl hd (K arr L)
  rw [← amVref X ha] at h2
  exact h2
theorem w_new100 {G : Gx} {d : Nat} {mi : MI} {pc pc' : Nat} {ls : LsT} {st : List Value} {M : Mm} {Q : Rv → Mm → Prop} {a : Nat} {n : Int32} {N : Nat} (hd : decode mi.2.1 pc = .ok (.newarray .int, 2)) (hw : Cond.arrayClass .int ∈ amWs) (hn : n = nI N) (hN : N < 1000) (hr : mSz M < 1000000) (hp : pc + 2 = pc') (k : WP G d mi pc' ls (.ref (mSz M) :: st) (nC M 100 N N) Q) : WP G d mi pc ls (.int n :: st) M Q := by
  subst hp
  subst hn
  have hb : N < 2 ^ 31 := by omega
  refine wp_make (M1 := nC M 100 N N) (n := 1) (w := N) ⟨rfl, rfl⟩ (fun p e R s m args below meth c H locs arr Qf cells slots F X L hc hs K => ?_) k
  refine va_newaK F.1 F.2.1 (atype := .int) (F.ts _ hw) rfl hd rfl (nI_pos hb) (nI_clamp hb) (by show N * _ ≤ _; simp only [newarray.typeOf, componentBytes]; omega) hc hs rfl fun H1 cA e1 z1 o1 hAr hNm => ?_
  have hcA : cA = G.2.2.2.2.1 100 := by
    have h9 : s.vm.findClass ("[" ++ (FieldType.toString .int)) = some (G.2.2.2.2.1 100) := (F.kk.1.2 0 _ rfl).2
    exact Option.some.inj (hNm.symm.trans h9)
  have hX : amRp G (nC M 100 N N) s H1 locs := X.new hr (by
    rw [amC_100 (M := nC M 100 N N) (if_pos rfl)]
    show H1[G.2.1 + mSz M]? = some (vp_cell _ _)
    rw [← X.1.1, e1, hcA, vp_cell_i]
    have e2 : mLn (nC M 100 N N) (mSz M) = N := if_pos rfl
    rw [e2]
    congr 2
    funext j
    show defaultValue _ = _
    simp [mI, nC, va_up]
    rfl) z1 o1
  have h2 := K H1 locs hX
  have h3 : amV G (.ref (mSz M)) = .ref H.size := by
    show Value.ref (amAd G (mSz M)) = _
    rw [amAd, if_pos hr, X.1.1]
  rw [List.map_cons, h3] at h2
  exact h2
theorem w_new101 {G : Gx} {d : Nat} {mi : MI} {pc pc' : Nat} {ls : LsT} {st : List Value} {M : Mm} {Q : Rv → Mm → Prop} {a : Nat} {n : Int32} {N : Nat} (hd : decode mi.2.1 pc = .ok (.newarray .char, 2)) (hw : Cond.arrayClass .char ∈ amWs) (hn : n = nI N) (hN : N < 1000) (hr : mSz M < 1000000) (hp : pc + 2 = pc') (k : WP G d mi pc' ls (.ref (mSz M) :: st) (nC M 101 N N) Q) : WP G d mi pc ls (.int n :: st) M Q := by
  subst hp
  subst hn
  have hb : N < 2 ^ 31 := by omega
  refine wp_make (M1 := nC M 101 N N) (n := 1) (w := N) ⟨rfl, rfl⟩ (fun p e R s m args below meth c H locs arr Qf cells slots F X L hc hs K => ?_) k
  refine va_newaK F.1 F.2.1 (atype := .char) (F.ts _ hw) rfl hd rfl (nI_pos hb) (nI_clamp hb) (by show N * _ ≤ _; simp only [newarray.typeOf, componentBytes]; omega) hc hs rfl fun H1 cA e1 z1 o1 hAr hNm => ?_
  have hcA : cA = G.2.2.2.2.1 101 := by
    have h9 : s.vm.findClass ("[" ++ (FieldType.toString .char)) = some (G.2.2.2.2.1 101) := (F.kk.1.2 1 _ rfl).2
    exact Option.some.inj (hNm.symm.trans h9)
  have hX : amRp G (nC M 101 N N) s H1 locs := X.new hr (by
    rw [amC_101 (M := nC M 101 N N) (if_pos rfl)]
    show H1[G.2.1 + mSz M]? = some (vp_cell _ _)
    rw [← X.1.1, e1, hcA, vp_cell_i]
    have e2 : mLn (nC M 101 N N) (mSz M) = N := if_pos rfl
    rw [e2]
    congr 2
    funext j
    show defaultValue _ = _
    simp [mI, nC, va_up]
    rfl) z1 o1
  have h2 := K H1 locs hX
  have h3 : amV G (.ref (mSz M)) = .ref H.size := by
    show Value.ref (amAd G (mSz M)) = _
    rw [amAd, if_pos hr, X.1.1]
  rw [List.map_cons, h3] at h2
  exact h2
theorem w_new102 {G : Gx} {d : Nat} {mi : MI} {pc pc' : Nat} {ls : LsT} {st : List Value} {M : Mm} {Q : Rv → Mm → Prop} {a : Nat} {n : Int32} {N : Nat} (hd : decode mi.2.1 pc = .ok (.newarray .boolean, 2)) (hw : Cond.arrayClass .boolean ∈ amWs) (hn : n = nI N) (hN : N < 1000) (hr : mSz M < 1000000) (hp : pc + 2 = pc') (k : WP G d mi pc' ls (.ref (mSz M) :: st) (nC M 102 N N) Q) : WP G d mi pc ls (.int n :: st) M Q := by
  subst hp
  subst hn
  have hb : N < 2 ^ 31 := by omega
  refine wp_make (M1 := nC M 102 N N) (n := 1) (w := N) ⟨rfl, rfl⟩ (fun p e R s m args below meth c H locs arr Qf cells slots F X L hc hs K => ?_) k
  refine va_newaK F.1 F.2.1 (atype := .boolean) (F.ts _ hw) rfl hd rfl (nI_pos hb) (nI_clamp hb) (by show N * _ ≤ _; simp only [newarray.typeOf, componentBytes]; omega) hc hs rfl fun H1 cA e1 z1 o1 hAr hNm => ?_
  have hcA : cA = G.2.2.2.2.1 102 := by
    have h9 : s.vm.findClass ("[" ++ (FieldType.toString .boolean)) = some (G.2.2.2.2.1 102) := (F.kk.1.2 2 _ rfl).2
    exact Option.some.inj (hNm.symm.trans h9)
  have hX : amRp G (nC M 102 N N) s H1 locs := X.new hr (by
    rw [amC_102 (M := nC M 102 N N) (if_pos rfl)]
    show H1[G.2.1 + mSz M]? = some (vp_cell _ _)
    rw [← X.1.1, e1, hcA, vp_cell_i]
    have e2 : mLn (nC M 102 N N) (mSz M) = N := if_pos rfl
    rw [e2]
    congr 2
    funext j
    show defaultValue _ = _
    simp [mI, nC, va_up]
    rfl) z1 o1
  have h2 := K H1 locs hX
  have h3 : amV G (.ref (mSz M)) = .ref H.size := by
    show Value.ref (amAd G (mSz M)) = _
    rw [amAd, if_pos hr, X.1.1]
  rw [List.map_cons, h3] at h2
  exact h2
theorem w_new110 {G : Gx} {d : Nat} {mi : MI} {pc pc' : Nat} {ls : LsT} {st : List Value} {M : Mm} {Q : Rv → Mm → Prop} {a : Nat} {n : Int32} {N : Nat} (hd : decode mi.2.1 pc = .ok (.newarray .long, 2)) (hw : Cond.arrayClass .long ∈ amWs) (hn : n = nI N) (hN : N < 1000) (hr : mSz M < 1000000) (hp : pc + 2 = pc') (k : WP G d mi pc' ls (.ref (mSz M) :: st) (nC M 110 N N) Q) : WP G d mi pc ls (.int n :: st) M Q := by
  subst hp
  subst hn
  have hb : N < 2 ^ 31 := by omega
  refine wp_make (M1 := nC M 110 N N) (n := 1) (w := N) ⟨rfl, rfl⟩ (fun p e R s m args below meth c H locs arr Qf cells slots F X L hc hs K => ?_) k
  refine va_newaK F.1 F.2.1 (atype := .long) (F.ts _ hw) rfl hd rfl (nI_pos hb) (nI_clamp hb) (by show N * _ ≤ _; simp only [newarray.typeOf, componentBytes]; omega) hc hs rfl fun H1 cA e1 z1 o1 hAr hNm => ?_
  have hcA : cA = G.2.2.2.2.1 110 := by
    have h9 : s.vm.findClass ("[" ++ (FieldType.toString .long)) = some (G.2.2.2.2.1 110) := (F.kk.1.2 3 _ rfl).2
    exact Option.some.inj (hNm.symm.trans h9)
  have hX : amRp G (nC M 110 N N) s H1 locs := X.new hr (by
    rw [amC_110 (M := nC M 110 N N) (if_pos rfl)]
    show H1[G.2.1 + mSz M]? = some (vp_cell _ _)
    rw [← X.1.1, e1, hcA, vp_cell_l]
    have e2 : mLn (nC M 110 N N) (mSz M) = N := if_pos rfl
    rw [e2]
    congr 2
    funext j
    show defaultValue _ = _
    simp [mL, nC, va_up]
    rfl) z1 o1
  have h2 := K H1 locs hX
  have h3 : amV G (.ref (mSz M)) = .ref H.size := by
    show Value.ref (amAd G (mSz M)) = _
    rw [amAd, if_pos hr, X.1.1]
  rw [List.map_cons, h3] at h2
  exact h2
theorem w_new111 {G : Gx} {d : Nat} {mi : MI} {pc pc' : Nat} {ls : LsT} {st : List Value} {M : Mm} {Q : Rv → Mm → Prop} {a : Nat} {n : Int32} {N : Nat} (hd : decode mi.2.1 pc = .ok (.newarray .double, 2)) (hw : Cond.arrayClass .double ∈ amWs) (hn : n = nI N) (hN : N < 1000) (hr : mSz M < 1000000) (hp : pc + 2 = pc') (k : WP G d mi pc' ls (.ref (mSz M) :: st) (nC M 111 N N) Q) : WP G d mi pc ls (.int n :: st) M Q := by
  subst hp
  subst hn
  have hb : N < 2 ^ 31 := by omega
  refine wp_make (M1 := nC M 111 N N) (n := 1) (w := N) ⟨rfl, rfl⟩ (fun p e R s m args below meth c H locs arr Qf cells slots F X L hc hs K => ?_) k
  refine va_newaK F.1 F.2.1 (atype := .double) (F.ts _ hw) rfl hd rfl (nI_pos hb) (nI_clamp hb) (by show N * _ ≤ _; simp only [newarray.typeOf, componentBytes]; omega) hc hs rfl fun H1 cA e1 z1 o1 hAr hNm => ?_
  have hcA : cA = G.2.2.2.2.1 111 := by
    have h9 : s.vm.findClass ("[" ++ (FieldType.toString .double)) = some (G.2.2.2.2.1 111) := (F.kk.1.2 4 _ rfl).2
    exact Option.some.inj (hNm.symm.trans h9)
  have hX : amRp G (nC M 111 N N) s H1 locs := X.new hr (by
    rw [amC_111 (M := nC M 111 N N) (if_pos rfl)]
    show H1[G.2.1 + mSz M]? = some (vp_cell _ _)
    rw [← X.1.1, e1, hcA, vp_cell_d]
    have e2 : mLn (nC M 111 N N) (mSz M) = N := if_pos rfl
    rw [e2]
    congr 2
    funext j
    show defaultValue _ = _
    simp [mD, nC, va_up]
    rfl) z1 o1
  have h2 := K H1 locs hX
  have h3 : amV G (.ref (mSz M)) = .ref H.size := by
    show Value.ref (amAd G (mSz M)) = _
    rw [amAd, if_pos hr, X.1.1]
  rw [List.map_cons, h3] at h2
  exact h2
