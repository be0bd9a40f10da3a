/-! ===== constructors called, objects begun, throws, methods with handlers ===== -/
/-- invokespecial of a constructor -/
theorem w_callI {G : Gx} {d d' : Nat} {mi mj : MI} {pc pc' idx b n : Nat} {ls : LsT} {stk st av : List Value} {M : Mm} {Q : Rv → Mm → Prop} (hd : decode mi.2.1 pc = .ok (.invokespecial idx, 3)) (hcov : ∀ x ∈ tableOf mi.2.2.2.2, covers x pc = false)
    (hm : amOkM mj) (hret : mj.2.2.2.1 = none) (hl : amLk mi.1.cls idx mj.1) (hin : Cond.instanceMethod mj.1 ∈ amWs) (hini : mj.1.name = "<init>")
    (hn : amNp mj n) (hav : av.length = n) (hdd : d' + 1 ≤ d) (hent : (amEnt (.ref b :: av)).length ≤ mj.2.2.1) (hstk : stk = av.reverse ++ .ref b :: st) (hst : (st.map fun v => v.category).sum ≤ 8) (hb : b < mSz M) (hp : pc + 3 = pc') (h : WM G d' mj (.ref b :: av) M (amKc G d mi pc' ls st Q)) : WP G d mi pc ls stk M Q := by
  refine wp_call hcov (fun r1 M1 tw p e R s m args below meth c H locs arr cells slots F X L hf => ?_) hp h
  have hM := am_met hm.1.1 hm.1.2.1 hent F.tr tw
  have hpv : PreS s H (amPc G (.ref b :: av) M) (.ref (G.2.1 + b) :: av.map (amV G)) := ⟨amPc_blind, fun U hU hW => by
    have h9 := am_pre (av := .ref b :: av) F X U hU hW
    rw [List.map_cons, amVref X hb] at h9
    exact h9⟩
  have hstk2 : stk.map (amV G) = (av.map (amV G)).reverse ++ .ref (G.2.1 + b) :: st.map (amV G) := by
    rw [hstk, List.map_append, List.map_cons, amVref X hb, List.map_reverse]
  rw [List.map_cons, amVref X hb]
  rcases hl with hl | ⟨host, hl⟩
  · have hc := am_CB F hm hn hdd hl (mSz M1 - mSz M) (mSl M1 - mSl M)
    rw [hret] at hc
    exact vx_runI (Ts := amWs) ⟨F.1, F.2.1, F.ml, F.own, F.ts⟩ hM ⟨hc, hini, F.ts _ hin⟩ hpv rfl (by rw [List.length_map]; exact hav) L.1 hstk2 (lv_room (am_cat hst)) hd hf
  · have hc := am_CN F hm hn hdd hl (mSz M1 - mSz M) (mSl M1 - mSl M)
    rw [hret] at hc
    exact vx_runIN (Ts := amWs) ⟨F.1, F.2.1, F.ml, F.own, F.ts⟩ hM ⟨hc, hini, F.ts _ hin⟩ hpv rfl (by rw [List.length_map]; exact hav) L.1 hstk2 (lv_room (am_cat hst)) hd hf
/-- Object's constructor -/
theorem w_objInit {G : Gx} {d : Nat} {mi : MI} {pc pc' idx a : Nat} {ls : LsT} {st : List Value} {M : Mm} {Q : Rv → Mm → Prop} (hd : decode mi.2.1 pc = .ok (.invokespecial idx, 3)) (hl : Cond.methodLink mi.1.cls idx Lib.objectInit ∈ amWs) (hin : Cond.instanceMethod Lib.objectInit ∈ amWs) (hc : Cond.code Lib.objectInit ⟨#[0xb1]⟩ 1 none ∈ amWs) (hd1 : 1 ≤ d) (hst : (st.map fun v => v.category).sum ≤ 8) (hp : pc + 3 = pc') (k : WP G d mi pc' ls st M Q) : WP G d mi pc ls (.ref a :: st) M Q := by
  subst hp
  refine wp_step (fun p e R s m args below meth c H locs arr Qf cells slots F X L B K => ?_) k
  have hrm := F.rm
  have hs := am_cat (G := G) hst
  exact W.objInit (a := amAd G a) (rest := st.map (amV G)) F.1 F.2.1 F.own (F.ts _ hl) (F.ts _ hin) (F.ts _ hc) rfl (by rw [F.ml]; exact L.1) rfl hd (by omega) (by show 2 * 0 + _ + 12 ≤ _; omega) (K arr L)
/-- throw new cls("text") -/
theorem w_throw {G : Gx} {d : Nat} {mi : MI} {pc ik is ic ci k1 : Nat} {ls : LsT} {st : List Value} {M : Mm} {Q : Rv → Mm → Prop} {cls text : String} {bs : ByteArray} (h : amTh mi.1.cls ik ic cls ci k1 bs) (hs : Cond.stringRef mi.1.cls is text ∈ tables_1) (hh : mi.2.2.2.2 = [])
    (d0 : decode mi.2.1 pc = .ok (.new ik, 3)) (d3 : decode mi.2.1 (pc + 3) = .ok (.dup, 1)) (d4 : (decode mi.2.1 (pc + 4) = .ok (.ldc is, 2) ∧ decode mi.2.1 (pc + 6) = .ok (.invokespecial ic, 3) ∧ decode mi.2.1 (pc + 9) = .ok (.athrow, 1)) ∨ (decode mi.2.1 (pc + 4) = .ok (.ldc_w is, 3) ∧ decode mi.2.1 (pc + 7) = .ok (.invokespecial ic, 3) ∧ decode mi.2.1 (pc + 10) = .ok (.athrow, 1)))
    (hd : 6 ≤ d) (hst : (st.map fun v => v.category).sum ≤ 8) (hr : mSz M < 1000000) (q : Q (.inr cls) (nC M ci 0 6)) : WP G d mi pc ls st M Q := by
  refine ⟨.inr cls, nC M ci 0 6, q, ⟨Nat.le_succ _, Nat.le_add_right _ _⟩, fun p e R s m args below meth c H locs arr Qf cells slots F X L hc hsl E => ?_⟩
  obtain ⟨⟨hf, t1, t2⟩, t3, t4, ⟨t5, t6, t6b⟩, b0, b1, b2, b5⟩ := h
  have e1 : mSz (nC M ci 0 6) - mSz M = 1 := by show mSz M + 1 - mSz M = 1; omega
  have e2 : mSl (nC M ci 0 6) - mSl M = 6 := by show mSl M + 6 - mSl M = 6; omega
  rw [e1] at hc E
  rw [e2] at hsl E
  obtain ⟨sa, hsa⟩ := F.oo.2.2.2.2.2.2.1 _ _ _ hs
  have hrm := F.rm
  have hsum := am_cat (G := G) hst
  have fin : ∀ (pa : Nat), decode mi.2.1 pa = .ok (.athrow, 1) → ∀ (H1 : Heap) (ce : Cell), H1.size = H.size + 1 → (∀ q, q < H.size → H1[q]? = H[q]?) → H1[H.size]? = some ce → ce.vm = .none → s.vm.findClass cls = some ce.cls → W p G.1 e R s m args below meth c H1 locs (cells + 1) (slots + 6) Qf (F0 m pa arr (.ref H.size :: st.map (amV G))) := by
    intro pa hpa H1 ce z1 o1 g1 g2 g3
    have hX : amRp G (nC M ci 0 6) s H1 locs := X.new hr (by
      have hk : mKd (nC M ci 0 6) (mSz M) = ci := if_pos rfl
      rw [amC_obj (M := nC M ci 0 6) (by rw [hk]; exact t6b), hk, amN_eq t5, ← X.1.1]
      refine ⟨_, t5, ce, g1, ?_, g2, fun k hk => absurd hk (Nat.not_lt_zero k)⟩
      exact Option.some.inj (g3.symm.trans (F.kk.1.1 ci _ t5).2.1)) z1 o1
    refine vx_athrow F.1 F.2.1 hpa ?_
    exact E H1 locs arr pa _ H.size ce hX (by rw [F.et, hh]; exact fun x hx => nomatch hx) g1 g2 g3
  rcases d4 with ⟨d4, d6, d9⟩ | ⟨d4, d7, d10⟩
  · exact am_make F.1 F.2.1 F.tr b0 b1 b2 b5 F.own hf (F.ts _ t1) (F.ts _ t2) hsa (fun w hw => F.ts w (t3 w hw)) t4 F.oo.2.2.2.2.1 F.oo.2.2.2.2.2.1 X.2.2.2 (by rw [F.ml]; exact L.1) d0 d3 d4 d6 (by omega) (by omega) hc hsl (fin _ d9)
  · exact am_makeW F.1 F.2.1 F.tr b0 b1 b2 b5 F.own hf (F.ts _ t1) (F.ts _ t2) hsa (fun w hw => F.ts w (t3 w hw)) t4 F.oo.2.2.2.2.1 F.oo.2.2.2.2.2.1 X.2.2.2 (by rw [F.ml]; exact L.1) d0 d3 d4 d7 (by omega) (by omega) hc hsl (fin _ d10)
/-! methods with handlers -/
theorem amL_s0 {G : Gx} {ls : LsT} {arr arr' : Array Slot} {n i : Nat} {w : Value} (L : amL G ls arr n) (h : lv_has arr' n ((i, w) :: (amLv G ls n).filter (fun q => !(q.1 == i) && !(q.1 + 1 == i && q.2.category == 2)))) : amL G ((amPre ls i).set i none) arr' n := by
  refine ⟨h.1, h.2.1, fun k u hk => ?_⟩
  by_cases hki : i = k
  · subst hki
    cases am_set_at hk
  · rw [List.getElem?_set_ne hki] at hk
    obtain ⟨h1, h2⟩ := amS_pre hk
    have hkn : k < n := by
      have h3 := lv_lt (L.2.2 k u h1)
      rw [L.1] at h3
      exact h3
    refine h.2.2 (k, amV G u) (List.mem_cons_of_mem _ (List.mem_filter.mpr ⟨amL_mem h1 hkn, ?_⟩))
    have e1 : ¬ k = i := fun z => hki z.symm
    by_cases hc : k + 1 = i
    · have e2 : ¬ u.category = 2 := fun z => h2 ⟨hc, z⟩
      simp [amV_cat, e1, e2]
    · simp [amV_cat, e1, hc]
/-- E, thrown at pc, comes to the handler at hpc -/
def amHd (mi : MI) (pc : Nat) (E : String) (hpc : Nat) : Prop := ∃ (pre : List ExceptionTableEntry) (x : ExceptionTableEntry) (suf : List ExceptionTableEntry), tableOf mi.2.2.2.2 = pre ++ x :: suf ∧ (∀ z ∈ pre, z.catchType ≠ 0 ∧ ∃ nm, Cond.classLink mi.1.cls z.catchType nm ∈ amWs ∧ (E, nm) ∈ amNc) ∧ covers x pc = true ∧ x.catchType ≠ 0 ∧ (∃ nm, Cond.classLink mi.1.cls x.catchType nm ∈ amWs ∧ Cond.castable E nm ∈ amWs) ∧ x.handlerPc = hpc
def amAst (mi : MI) (hpc k pc2 : Nat) : Prop := (∃ j : Fin 4, decode mi.2.1 hpc = .ok (.astore_n j, 1) ∧ (j : Nat) = k ∧ pc2 = hpc + 1) ∨ (decode mi.2.1 hpc = .ok (.astore k, 2) ∧ pc2 = hpc + 2)
def amKh (G : Gx) (d : Nat) (mi : MI) (pc pc' : Nat) (ls : LsT) (st : List Value) (Q : Rv → Mm → Prop) : Rv → Mm → Prop := fun r M1 => match r with
  | .inl v => WP G d mi pc' ls (v.toList ++ st) M1 Q
  | .inr E => ∃ hpc k pc2, amHd mi pc E hpc ∧ amAst mi hpc k pc2 ∧ k < mi.2.2.1 ∧ WP G d mi pc2 ((amPre ls k).set k none) [] M1 Q
theorem wp_callH {G : Gx} {d d' : Nat} {mi mj : MI} {pc pc' : Nat} {ls : LsT} {stk st av : List Value} {M : Mm} {Q : Rv → Mm → Prop}
    (hrun : ∀ (r1 : Rv) (M1 : Mm), TM G d' mj av M r1 M1 → ∀ (p : Program) (e : Env) (R : Room) (s : State) (m : MethodId) (args : Array Value) (below : List Frame) (meth : Method) (c : Code) (H : Heap) (locs : List Loc) (arr : Array Slot) (cells slots : Nat),
      amFx G d mi p R s m args meth c → amRp G M s H locs → amL G ls arr mi.2.2.1 → cells + (mSz M1 - mSz M) ≤ R.cells ∧ slots + (mSl M1 - mSl M) ≤ R.slots →
      vx_Run p G.1 e R s m args below meth c H locs cells slots (mSz M1 - mSz M) (mSl M1 - mSl M) (F0 m pc arr (stk.map (amV G))) (st.map (amV G)) (amQc G r1 M1 (av.map (amV G)).toArray) (amXC G r1 M1) (amA G))
    (hp : pc + 3 = pc') (h : WM G d' mj av M (amKh G d mi pc pc' ls st Q)) : WP G d mi pc ls stk M Q := by
  subst hp
  obtain ⟨r1, M1, hq1, tw⟩ := h
  have hz1 := tw.1.1
  have hz2 := tw.1.2
  cases r1 with
  | inl v =>
    obtain ⟨r, M', hq, hz, h3⟩ := hq1
    have hz3 := hz.1
    have hz4 := hz.2
    refine ⟨r, M', hq, ⟨Nat.le_trans tw.1.1 hz.1, Nat.le_trans tw.1.2 hz.2⟩, fun p e R s m args below meth c H locs arr Qf cells slots F X L hc hs E => ?_⟩
    refine am_cont X (hrun _ M1 tw p e R s m args below meth c H locs arr cells slots F X L ⟨by omega, by omega⟩) (fun v0 e0 H1 locs1 X1 => ?_) (fun E0 e0 => by cases e0)
    cases e0
    have h9 := h3 p e R s m args below meth c H1 locs1 arr Qf (cells + (mSz M1 - mSz M)) (slots + (mSl M1 - mSl M)) F X1 L (by omega) (by omega) (by
      rw [show cells + (mSz M1 - mSz M) + (mSz M' - mSz M1) = cells + (mSz M' - mSz M) by omega, show slots + (mSl M1 - mSl M) + (mSl M' - mSl M1) = slots + (mSl M' - mSl M) by omega]
      exact E)
    rw [List.map_append] at h9
    cases v <;> exact h9
  | inr E1 =>
    obtain ⟨hpc, k, pc2, ⟨pre, x, suf, g1, g2, g3, g4, ⟨nm, g5, g6⟩, g7⟩, hast, hk, r, M', hq, hz, h3⟩ := hq1
    have hz3 := hz.1
    have hz4 := hz.2
    refine ⟨r, M', hq, ⟨Nat.le_trans tw.1.1 hz.1, Nat.le_trans tw.1.2 hz.2⟩, fun p e R s m args below meth c H locs arr Qf cells slots F X L hc hs E => ?_⟩
    refine am_cont X (hrun _ M1 tw p e R s m args below meth c H locs arr cells slots F X L ⟨by omega, by omega⟩) (fun v0 e0 => by cases e0) (fun E0 e0 H1 locs1 q ce X1 f1 f2 f3 => ?_)
    cases e0
    have h9 : ∀ arr', amL G ((amPre ls k).set k none) arr' mi.2.2.1 → W p G.1 e R s m args below meth c H1 locs1 (cells + (mSz M1 - mSz M)) (slots + (mSl M1 - mSl M)) Qf (F0 m pc2 arr' []) := fun arr' L' => h3 p e R s m args below meth c H1 locs1 arr' Qf (cells + (mSz M1 - mSz M)) (slots + (mSl M1 - mSl M)) F X1 L' (by omega) (by omega) (by
      rw [show cells + (mSz M1 - mSz M) + (mSz M' - mSz M1) = cells + (mSz M' - mSz M) by omega, show slots + (mSl M1 - mSl M) + (mSl M' - mSl M1) = slots + (mSl M' - mSl M) by omega]
      exact E)
    refine vx_catch F.own pre x suf (F.et.trans g1) (fun z hz => Or.inr ⟨(g2 z hz).1, ?_⟩) g3 g4 (F.ts _ g5) (F.ts _ g6) f1 f2 f3 ?_
    · obtain ⟨-, n2, a1, a2⟩ := g2 z hz
      exact ⟨n2, F.ts _ a1, F.kk.2.choose_spec.choose_spec.2.2.2.2.2.2 _ a2⟩
    · rw [g7]
      rcases hast with ⟨j, d1, rfl, rfl⟩ | ⟨d1, rfl⟩
      · exact lv_astore_n F.1 F.2.1 d1 rfl (amL_has L) hk rfl (fun arr' h' => h9 arr' (amL_s0 L h'))
      · exact lv_astore F.1 F.2.1 d1 (amL_has L) hk rfl (fun arr' h' => h9 arr' (amL_s0 L h'))
/-- invokevirtual on an object of the world, in a method with handlers -/
theorem w_callVH {G : Gx} {d d' : Nat} {mi mj : MI} {pc pc' idx ci b n : Nat} {ls : LsT} {stk st av : List Value} {M : Mm} {Q : Rv → Mm → Prop} {r : vw_C} (hd : decode mi.2.1 pc = .ok (.invokevirtual idx, 3))
    (hm : amOkM mj) (hl : Cond.methodLink mi.1.cls idx mj.1 ∈ amWs) (hin : Cond.instanceMethod mj.1 ∈ amWs) (hse : Cond.selects mj.1.cls mj.1 mj.1 ∈ amWs) (hr : amCl[ci]? = some r) (hrc : r.1 = mj.1.cls) (hci : ci < 100)
    (hn : amNp mj n) (hav : av.length = n) (hdd : d' + 1 ≤ d) (hent : (amEnt (.ref b :: av)).length ≤ mj.2.2.1) (hstk : stk = av.reverse ++ .ref b :: st) (hst : (st.map fun v => v.category).sum ≤ 8) (hb : b < mSz M) (hk : mKd M b = ci) (hp : pc + 3 = pc') (h : WM G d' mj (.ref b :: av) M (amKh G d mi pc pc' ls st Q)) : WP G d mi pc ls stk M Q := by
  refine wp_callH (fun r1 M1 tw p e R s m args below meth c H locs arr cells slots F X L hf => ?_) hp h
  have hM := am_met hm.1.1 hm.1.2.1 hent F.tr tw
  have hcell : ∃ cellB : Cell, H[G.2.1 + b]? = some cellB ∧ cellB.vm.isStatics = false ∧ s.vm.findClass mj.1.cls = some cellB.cls := by
    have hw := X.at hb
    rw [amC_obj (by rw [hk]; exact hci), hk] at hw
    obtain ⟨r', h1, cell, g1, g2, g3, -⟩ := hw
    have e1 : r' = r := Option.some.inj (h1.symm.trans hr)
    subst e1
    exact ⟨cell, g1, by rw [g3]; rfl, by rw [g2, ← hrc]; exact (F.kk.1.1 ci _ hr).2.1⟩
  have hpv : PreV s H mj.1.cls (G.2.1 + b) (amPc G (.ref b :: av) M) (av.map (amV G)) := ⟨amPc_blind, hcell, fun U hU hW => by
    have h9 := am_pre (av := .ref b :: av) F X U hU hW
    rw [List.map_cons, amVref X hb] at h9
    exact h9⟩
  have hstk2 : stk.map (amV G) = (av.map (amV G)).reverse ++ .ref (G.2.1 + b) :: st.map (amV G) := by
    rw [hstk, List.map_append, List.map_cons, amVref X hb, List.map_reverse]
  rw [List.map_cons, amVref X hb]
  exact vx_runV (Ts := amWs) ⟨F.1, F.2.1, F.ml, F.own, F.ts⟩ hM ⟨am_CB F hm hn hdd hl _ _, F.ts _ hin, F.ts _ hse⟩ hpv rfl (by rw [List.length_map]; exact hav) L.1 hstk2 (lv_room (am_cat hst)) hd hf
/-- what the tables tell of a method with handlers -/
def amOkH (mi : MI) : Prop := (plainName mi.1.cls = true ∧ mi.2.2.2.2 ≠ [] ∧ mi.2.2.1 ≤ 30) ∧ (mi.1.cls ≠ "java/lang/invoke/MethodHandle" ∧ mi.1.cls ≠ "java/lang/invoke/VarHandle") ∧ Cond.codeWith mi.1 mi.2.1 mi.2.2.1 mi.2.2.2.1 mi.2.2.2.2 ∈ amWs ∧ Cond.initialized mi.1.cls ∈ amWs
theorem amCw_cons {mi : MI} (h : mi.2.2.2.2 ≠ []) : amCw mi = .codeWith mi.1 mi.2.1 mi.2.2.1 mi.2.2.2.1 mi.2.2.2.2 := by
  unfold amCw
  cases hx : mi.2.2.2.2 with
  | nil => exact absurd hx h
  | cons a l => rfl
theorem am_metH {G : Gx} {d : Nat} {mi : MI} {av : List Value} {M M' : Mm} {r : Rv} (hm : amOkH mi) (ha : (amEnt av).length ≤ mi.2.2.1) (htr : G.1.stackTraces = false) (h : TM G d mi av M r M') :
    vx_Met G.1 mi.1 (amCw mi :: amWs) (amRoom d (mSz M' - mSz M) (mSl M' - mSl M)) (amPc G av M) (amQc G r M') (amXC G r M') (mSz M' - mSz M) (mSl M' - mSl M) (amA G) := by
  refine vx_ofWH (cc := mi.2.1) (maxL := mi.2.2.1) (ret := mi.2.2.2.1) (hh := mi.2.2.2.2) (ws' := amWs) hm.1.1 (by rw [amCw_cons hm.1.2.1]) ?_
  intro p e s m args below meth c s₁ B hml hv
  obtain ⟨rfl, hsz, hP, hK, hO⟩ := hv
  have hts := atoms_spec (ws := amCw mi :: amWs) B.pre
  have htab := vx_table (x := mi.1) B (hts _ (List.mem_cons_of_mem _ hm.2.2.1))
  have F : amFx G d mi p (headSpec (amCw mi :: amWs) (amRoom d (mSz M' - mSz M) (mSl M' - mSl M))).room s m (av.map (amV G)).toArray meth c :=
    ⟨B.exec, B.bytes, hml, findClass_of_methodNamed B.named, fun w hw => hts w (List.mem_cons_of_mem _ hw), ⟨Nat.le_refl _, Nat.le_refl _⟩, B.returns, B.notSynchronized, htab, (name_of_methodNamed B.named B.method).1, hK, hO, htr⟩
  have X : amRp G M s s.heap [] := ⟨hsz, hP, amW_D, va_S.rf⟩
  rw [lg_entry_eq]
  have h9 := h.2 p e _ s m _ below meth c s.heap [] _ (vx_MQ below (amQc G r M') (amXC G r M') (av.map (amV G)).toArray s (mSz M' - mSz M) (mSl M' - mSl M) (amA G)) 0 0 F X (amL_entry ha) (by rw [Nat.zero_add]; exact Nat.le_refl _) (by rw [Nat.zero_add]; exact Nat.le_refl _) (by rw [Nat.zero_add, Nat.zero_add]; exact am_end F)
  exact h9
/-- invokestatic of a method with handlers -/
theorem w_callSH {G : Gx} {d d' : Nat} {mi mj : MI} {pc pc' idx n : Nat} {ls : LsT} {stk st av : List Value} {M : Mm} {Q : Rv → Mm → Prop} (hd : decode mi.2.1 pc = .ok (.invokestatic idx, 3)) (hcov : ∀ x ∈ tableOf mi.2.2.2.2, covers x pc = false)
    (hm : amOkH mj) (hl : Cond.methodLink mi.1.cls idx mj.1 ∈ amWs) (hsta : Cond.static mj.1 ∈ amWs) (hn : amNp mj n) (hav : av.length = n) (hdd : d' + 1 ≤ d) (hent : (amEnt av).length ≤ mj.2.2.1) (hstk : stk = av.reverse ++ st) (hst : (st.map fun v => v.category).sum ≤ 8) (hp : pc + 3 = pc') (h : WM G d' mj av M (amKc G d mi pc' ls st Q)) : WP G d mi pc ls stk M Q := by
  refine wp_call hcov (fun r1 M1 tw p e R s m args below meth c H locs arr cells slots F X L hf => ?_) hp h
  have hM := am_metH hm hent F.tr tw
  have hpv : PreS s H (amPc G av M) (av.map (amV G)) := ⟨amPc_blind, fun U hU hW => am_pre F X U hU hW⟩
  have hstk2 : stk.map (amV G) = (av.map (amV G)).reverse ++ st.map (amV G) := by
    rw [hstk, List.map_append, List.map_reverse]
  have hrm := F.rm
  have h30 := hm.1.2.2
  refine vx_runSX (Ts := amWs) (hh := mj.2.2.2.2) ⟨F.1, F.2.1, F.ml, F.own, F.ts⟩ hM ⟨⟨rfl, rfl, Nat.le_trans hdd hrm.1, by show 8 + (mj.2.2.1 + 11) + (50 * d' + 200) ≤ R.locals; omega, fun w hw a' U hW => ?_, by rw [amCw_cons hm.1.2.1]; exact List.mem_cons_self⟩, F.ts _ hm.2.2.1, F.ts _ hm.2.2.2, hm.2.1, amNp_use hn, F.ts _ hl, F.ts _ hsta⟩ hpv rfl (by rw [List.length_map]; exact hav) L.1 hstk2 (lv_room (am_cat hst)) hd hf
  rcases List.mem_cons.mp hw with e1 | hw
  · rw [e1, amCw_cons hm.1.2.1]
    exact amWs_warm hW F.ts _ hm.2.2.1
  · exact amWs_warm hW F.ts w hw
