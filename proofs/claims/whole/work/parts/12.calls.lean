/-! ===== a method's contract out of its walk; calls; throws; catches ===== -/
def amPc (G : Gx) (av : List Value) (M : Mm) : Array Value → State → Prop := fun v U => v = (av.map (amV G)).toArray ∧ (U.heap.size = G.2.1 + mSz M ∧ mSz M ≤ 1000000) ∧ va_P G.2.2.2.1 amCl (amW G M) U.heap ∧ amK G U ∧ amO G U U.heap
def amQc (G : Gx) (r : Rv) (M' : Mm) : Array Value → State → Outcome → State → Prop := fun _ st o t => ∃ v, r = .inl v ∧ o = .returned (v.map (amV G)) ∧ (t.heap.size = G.2.1 + mSz M' ∧ mSz M' ≤ 1000000) ∧ va_P G.2.2.2.1 amCl (amW G M') t.heap ∧ va_F (amA G) st t
def amXC (G : Gx) (r : Rv) (M' : Mm) : String → State → State → Prop := fun E st t => r = .inr E ∧ (t.heap.size = G.2.1 + mSz M' ∧ mSz M' ≤ 1000000) ∧ va_P G.2.2.2.1 amCl (amW G M') t.heap ∧ va_F (amA G) st t
def amEnt : List Value → LsT
  | [] => []
  | v :: vs => if v.category = 2 then some v :: none :: amEnt vs else some v :: amEnt vs
def amEntry (av : List Value) (n : Nat) : LsT := amEnt av ++ List.replicate (n - (amEnt av).length) none
def amCw (mi : MI) : Cond := match mi.2.2.2.2 with
  | [] => .code mi.1 mi.2.1 mi.2.2.1 mi.2.2.2.1
  | _ => .codeWith mi.1 mi.2.1 mi.2.2.1 mi.2.2.2.1 mi.2.2.2.2
theorem amPc_blind {G : Gx} {av : List Value} {M : Mm} : FrameBlind (amPc G av M) := by
  intro a U g mk h
  obtain ⟨h1, h2, h3, h4, h5⟩ := h
  exact ⟨h1, h2, h3, amK.moved (u := U) (U := U.calling g mk a) (Vm.Alike.refl U.vm) h4, amO.moved (u := U) (U := U.calling g mk a) (State.WarmedH.refl U) h5⟩
theorem amEnt_in (G : Gx) : ∀ (av : List Value) (o i : Nat) (v : Value), (amEnt av)[i]? = some (some v) → (o + i, amV G v) ∈ lv_args o (av.map (amV G))
  | [], o, i, v, h => by simp [amEnt] at h
  | w :: vs, o, i, v, h => by
    unfold amEnt at h
    rw [List.map_cons]
    unfold lv_args
    rw [amV_cat]
    by_cases hw : w.category = 2
    · rw [if_pos hw] at h ⊢
      match i, h with
      | 0, h => cases h; exact List.mem_cons_self
      | 1, h => cases h
      | k + 2, h =>
        have h1 := amEnt_in G vs (o + 2) k v h
        rw [show o + (k + 2) = o + 2 + k by omega]
        exact List.mem_cons_of_mem _ h1
    · rw [if_neg hw] at h ⊢
      match i, h with
      | 0, h => cases h; exact List.mem_cons_self
      | k + 1, h =>
        have h1 := amEnt_in G vs (o + 1) k v h
        rw [show o + (k + 1) = o + 1 + k by omega]
        exact List.mem_cons_of_mem _ h1
theorem amEnt_len (G : Gx) : ∀ av : List Value, (lg_sl (av.map (amV G))).length = (amEnt av).length
  | [] => rfl
  | w :: vs => by
    have ih := amEnt_len G vs
    rw [List.map_cons]
    unfold amEnt
    by_cases hw : w.category = 2
    · rw [if_pos hw]
      simp only [lg_sl, List.flatMap_cons, amV_cat, hw, if_true, List.length_append, List.length_cons] at ih ⊢
      simp only [List.length_nil]
      omega
    · rw [if_neg hw]
      simp only [lg_sl, List.flatMap_cons, amV_cat, hw, if_false, List.length_append, List.length_cons] at ih ⊢
      simp only [List.length_nil]
      omega
theorem amL_entry {G : Gx} {av : List Value} {n : Nat} (h : (amEnt av).length ≤ n) : amL G (amEntry av n) ((lg_sl (av.map (amV G)) ++ List.replicate (n - (lg_sl (av.map (amV G))).length) Slot.unset).toArray) n := by
  have hl := lv_entry (av.map (amV G)) (n := n) (by rw [amEnt_len]; exact h)
  refine ⟨hl.1, hl.2.1, fun i v hv => ?_⟩
  unfold amEntry at hv
  by_cases hi : i < (amEnt av).length
  · rw [List.getElem?_append_left hi] at hv
    have h1 := amEnt_in G av 0 i v hv
    rw [Nat.zero_add] at h1
    exact hl.2.2 _ h1
  · rw [List.getElem?_append_right (by omega)] at hv
    rw [List.getElem?_replicate] at hv
    split at hv <;> cases hv
/-- a method as it is entered -/
def TM (G : Gx) (d : Nat) (mi : MI) (av : List Value) (M : Mm) (r : Rv) (M' : Mm) : Prop := TW G d mi 0 (amEntry av mi.2.2.1) [] M r M'
def WM (G : Gx) (d : Nat) (mi : MI) (av : List Value) (M : Mm) (Q : Rv → Mm → Prop) : Prop := WP G d mi 0 (amEntry av mi.2.2.1) [] M Q
def amRoom (d mc ms : Nat) : Room := { frames := d, cells := mc, slots := ms, locals := 50 * d + 200 }
theorem am_end {G : Gx} {d : Nat} {mi : MI} {M' : Mm} {r : Rv} {p : Program} {e : Env} {R : Room} {s : State} {m : MethodId} {args : Array Value} {below : List Frame} {meth : Method} {c : Code} {mc ms : Nat} (F : amFx G d mi p R s m args meth c) : amEd G mi M' r p e R s m args below meth c mc ms (vx_MQ below (amQc G r M') (amXC G r M') args s mc ms (amA G)) := by
  cases r with
  | inl v =>
    intro H locs arr pc X hv hd
    have hlk := F.lk
    have hf : ∀ q ∈ locs, amA G q.base := X.2.2.2.2.2
    have hq : ∀ t : State, t.heap = H → s.WarmedH t.vm → amQc G (.inl v) M' args s (.returned (v.map (amV G))) t := fun t ht hW => ⟨v, rfl, rfl, by rw [ht]; exact X.1, by rw [ht]; exact X.2.1, X.2.2.2.F ht⟩
    refine vx_ret ?_
    cases v with
    | none => exact W.vret F.1 F.2.1 (F.rt.trans hv) hq hf hd
    | some w =>
      cases w with
      | int x =>
        obtain ⟨t, h1, h2⟩ := hv
        exact W.zret F.1 F.2.1 (F.rt.trans h1) h2 hq hf hd
      | long x => exact W.lret F.1 F.2.1 (F.rt.trans hv) hq hf hd
      | float x => exact W.fret F.1 F.2.1 (F.rt.trans hv) hq hf hd
      | double x => exact W.dret F.1 F.2.1 (F.rt.trans hv) hq hf hd
      | ref x =>
        obtain ⟨t, h1, h2⟩ := hv
        exact W.aret (v := .ref (amAd G x)) F.1 F.2.1 (F.rt.trans h1) h2 (Or.inr ⟨_, rfl⟩) hq hf hd
      | null =>
        obtain ⟨t, h1, h2⟩ := hv
        exact W.aret (v := .null) F.1 F.2.1 (F.rt.trans h1) h2 (Or.inl rfl) hq hf hd
      | _ => exact hv.elim
  | inr E =>
    intro H locs arr pc rest q ce X hcov hcell hvm hcl
    exact vx_out hcov F.lk hcell hvm hcl (fun t ht hA => ⟨rfl, by rw [ht]; exact X.1, by rw [ht]; exact X.2.1, X.2.2.2.F ht⟩) X.2.2.2.2.2 (Nat.le_refl _) (Nat.le_refl _)
/-- the contract of a method without handlers -/
theorem am_met {G : Gx} {d : Nat} {mi : MI} {av : List Value} {M M' : Mm} {r : Rv} (hp : plainName mi.1.cls = true) (hh : mi.2.2.2.2 = []) (ha : (amEnt av).length ≤ mi.2.2.1) (htr : G.1.stackTraces = false) (h : TM G d mi av M r M') :
    vx_Met G.1 mi.1 (amCw mi :: amWs) (amRoom d (mSz M' - mSz M) (mSl M' - mSl M)) (amPc G av M) (amQc G r M') (amXC G r M') (mSz M' - mSz M) (mSl M' - mSl M) (amA G) := by
  refine vx_ofW (cc := mi.2.1) (maxL := mi.2.2.1) (ret := mi.2.2.2.1) (ws' := amWs) hp (by unfold amCw; rw [hh]) ?_
  intro p e s m args below meth c s₁ B hml htab hv
  obtain ⟨rfl, hsz, hP, hK, hO⟩ := hv
  have hts := atoms_spec (ws := amCw mi :: amWs) B.pre
  have F : amFx G d mi p (headSpec (amCw mi :: amWs) (amRoom d (mSz M' - mSz M) (mSl M' - mSl M))).room s m (av.map (amV G)).toArray meth c :=
    ⟨B.exec, B.bytes, hml, findClass_of_methodNamed B.named, fun w hw => hts w (List.mem_cons_of_mem _ hw), ⟨Nat.le_refl _, Nat.le_refl _⟩, B.returns, B.notSynchronized, by
      rw [hh]
      cases hl : c.exceptionTable.toList with
      | nil => rfl
      | cons x l => exact (htab x (by rw [hl]; exact List.mem_cons_self)).elim, (name_of_methodNamed B.named B.method).1, hK, hO, htr⟩
  have X : amRp G M s s.heap [] := ⟨hsz, hP, amW_D, va_S.rf⟩
  rw [lg_entry_eq]
  have h9 := h.2 p e _ s m _ below meth c s.heap [] _ (vx_MQ below (amQc G r M') (amXC G r M') (av.map (amV G)).toArray s (mSz M' - mSz M) (mSl M' - mSl M) (amA G)) 0 0 F X (amL_entry ha) (by rw [Nat.zero_add]; exact Nat.le_refl _) (by rw [Nat.zero_add]; exact Nat.le_refl _) (by rw [Nat.zero_add, Nat.zero_add]; exact am_end F)
  exact h9
/-- what the tables tell of a method without handlers -/
def amOkM (mi : MI) : Prop := (plainName mi.1.cls = true ∧ mi.2.2.2.2 = [] ∧ mi.2.2.1 ≤ 30) ∧ (mi.1.cls ≠ "java/lang/invoke/MethodHandle" ∧ mi.1.cls ≠ "java/lang/invoke/VarHandle") ∧ Cond.code mi.1 mi.2.1 mi.2.2.1 mi.2.2.2.1 ∈ amWs ∧ Cond.initialized mi.1.cls ∈ amWs
def amNp (mi : MI) (n : Nat) : Prop := (parseMethodDescriptor mi.1.desc).map (fun d => d.parameters.length) = some n
theorem amNp_use {mi : MI} {n : Nat} (h : amNp mi n) : ∀ sig, parseMethodDescriptor mi.1.desc = some sig → n = sig.parameters.length := by
  intro sig hs
  unfold amNp at h
  rw [hs] at h
  exact (Option.some.inj h).symm
theorem amCw_nil {mi : MI} (h : mi.2.2.2.2 = []) : amCw mi = .code mi.1 mi.2.1 mi.2.2.1 mi.2.2.2.1 := by
  unfold amCw
  rw [h]
section
variable {G : Gx} {d d' : Nat} {mi mj : MI} {pc idx : Nat} {M M1 : Mm} {r1 : Rv} {p : Program} {e : Env} {R : Room} {s : State} {m : MethodId} {args : Array Value} {below : List Frame} {meth : Method} {c : Code} {H : Heap} {locs : List Loc} {arr : Array Slot} {Qf : State → Prop} {cells slots : Nat} {rest : List Value} {av : List Value} {st0 : List Value}
/-- behind a call -/
theorem am_cont (X : amRp G M s H locs) {g : List Value} (hr : vx_Run p G.1 e R s m args below meth c H locs cells slots (mSz M1 - mSz M) (mSl M1 - mSl M) (F0 m pc arr g) rest (amQc G r1 M1 (av.map (amV G)).toArray) (amXC G r1 M1) (amA G))
    (kv : ∀ v, r1 = .inl v → ∀ H1 locs1, amRp G M1 s H1 locs1 → W p G.1 e R s m args below meth c H1 locs1 (cells + (mSz M1 - mSz M)) (slots + (mSl M1 - mSl M)) Qf (F0 m (pc + 3) arr ((v.map (amV G)).toList ++ rest)))
    (kx : ∀ E, r1 = .inr E → ∀ H1 locs1 q ce, amRp G M1 s H1 locs1 → H1[q]? = some ce → ce.vm = .none → s.vm.findClass E = some ce.cls → vx_W p G.1 e R s m args below meth c H1 locs1 (cells + (mSz M1 - mSz M)) (slots + (mSl M1 - mSl M)) Qf (F0 m pc arr rest) q) :
    W p G.1 e R s m args below meth c H locs cells slots Qf (F0 m pc arr g) := by
  intro T hT Xs
  have mk : ∀ (st₀ t : State) (H1 : Heap) (L : List Loc), st₀.heap = H → H1 = t.heap → (∀ q ∈ L, amA G q.base) → (t.heap.size = G.2.1 + mSz M1 ∧ mSz M1 ≤ 1000000) → va_P G.2.2.2.1 amCl (amW G M1) t.heap → va_F (amA G) st₀ t → amRp G M1 s H1 (locs ++ L) := by
    intro st₀ t H1 L h0 e1 hL hz hP hF
    subst e1
    refine ⟨hz, hP, amW_D, ⟨Nat.le_trans X.2.2.2.1 (by rw [← h0]; exact hF.1), fun q h1 h2 => ?_, fun q hq => ?_⟩⟩
    · rw [hF.2 q (by rw [h0]; exact Nat.lt_of_lt_of_le h1 X.2.2.2.1) h2, h0]
      exact X.2.2.2.2.1 q h1 h2
    · rcases List.mem_append.mp hq with h | h
      · exact X.2.2.2.2.2 q h
      · exact hL q h
  rcases hr T hT Xs with ⟨v, st₀, t, T', L, h0, X', hL, e1, e2, ⟨v0, q1, q2, q3, q4, q5⟩, st⟩ | ⟨q, st₀, t, T', L, E, ce, h0, X', hL, e1, e2, ⟨q1, q2, q3, q4⟩, g1, g2, g3, st⟩
  · cases q2
    obtain ⟨t2, a1, b1⟩ := kv v0 q1 T'.heap (locs ++ L) (mk st₀ t T'.heap L h0 e1 hL q3 q4 q5) T' rfl X'
    exact ⟨t2, st t2 a1, b1⟩
  · obtain ⟨t2, a1, b1⟩ := kx E q1 T'.heap (locs ++ L) q ce (mk st₀ t T'.heap L h0 e1 hL q2 q3 q4) (by rw [e1]; exact g1) g2 g3 T' rfl X'
    exact ⟨t2, Steps.trans st a1, b1⟩
/-- the callee's start, from the caller's world -/
theorem am_pre (F : amFx G d mi p R s m args meth c) (X : amRp G M s H locs) : ∀ U : State, U.heap = H → s.WarmedH U.vm → amPc G av M (av.map (amV G)).toArray U := by
  intro U hU hW
  subst hU
  exact ⟨rfl, X.1, X.2.1, amK.moved hW.alike F.kk, amO.kept (amO.moved hW F.oo) X.2.2.2.1 X.2.2.2.2.1⟩
theorem am_cat (h : (st0.map fun v => v.category).sum ≤ 8) : ((st0.map (amV G)).map fun v => v.category).sum ≤ 8 := by
  rw [List.map_map]
  simpa [Function.comp_def, amV_cat] using h
theorem am_cwB (F : amFx G d mi p R s m args meth c) (hm : amOkM mj) (hd : d' + 1 ≤ d) : ∀ mc ms : Nat, (amRoom d' mc ms).frames + 1 ≤ R.frames ∧ 8 + (mj.2.2.1 + 11) + (amRoom d' mc ms).locals ≤ R.locals := by
  intro mc ms
  have h1 := F.rm
  have h2 := hm.1.2.2
  refine ⟨Nat.le_trans hd h1.1, ?_⟩
  show 8 + (mj.2.2.1 + 11) + (50 * d' + 200) ≤ R.locals
  omega
theorem am_ws (F : amFx G d mi p R s m args meth c) (hm : amOkM mj) : ∀ w ∈ amCw mj :: amWs, ∀ (a' : Array Value) (U : State), s.WarmedH U.vm → w.before a' U = true := by
  intro w hw a' U hW
  rcases List.mem_cons.mp hw with e | hw
  · rw [e, amCw_nil hm.1.2.1]
    exact amWs_warm hW F.ts _ hm.2.2.1
  · exact amWs_warm hW F.ts w hw
theorem am_CB (F : amFx G d mi p R s m args meth c) (hm : amOkM mj) {n : Nat} (hn : amNp mj n) (hd : d' + 1 ≤ d) (hl : Cond.methodLink mi.1.cls idx mj.1 ∈ amWs) (mc ms : Nat) : CallB R s args mi.1.cls idx mj.1 mj.2.1 mj.2.2.1 mj.2.2.2.1 (amCw mj :: amWs) (amRoom d' mc ms) mc ms n :=
  ⟨rfl, rfl, (am_cwB F hm hd mc ms).1, (am_cwB F hm hd mc ms).2, am_ws F hm, by rw [amCw_nil hm.1.2.1]; exact List.mem_cons_self, F.ts _ hm.2.2.1, F.ts _ hm.2.2.2, hm.2.1, amNp_use hn, F.ts _ hl⟩
theorem am_CN (F : amFx G d mi p R s m args meth c) (hm : amOkM mj) {n : Nat} (hn : amNp mj n) (hd : d' + 1 ≤ d) {host : String} (hl : Cond.methodLinkNest mi.1.cls idx mj.1 host ∈ amWs) (mc ms : Nat) : va_CN R s args mi.1.cls idx mj.1 host mj.2.1 mj.2.2.1 mj.2.2.2.1 (amCw mj :: amWs) (amRoom d' mc ms) mc ms n :=
  ⟨⟨rfl, rfl, (am_cwB F hm hd mc ms).1, (am_cwB F hm hd mc ms).2, am_ws F hm, by rw [amCw_nil hm.1.2.1]; exact List.mem_cons_self⟩, F.ts _ hm.2.2.1, F.ts _ hm.2.2.2, hm.2.1, amNp_use hn, F.ts _ hl⟩
end
/-- how a call names its method: by a plain link, or by one among nest mates -/
def amLk (own : String) (idx : Nat) (y : MethodName) : Prop := Cond.methodLink own idx y ∈ amWs ∨ ∃ h, Cond.methodLinkNest own idx y h ∈ amWs
/-- what follows a call in the caller, when nothing here catches -/
def amKc (G : Gx) (d : Nat) (mi : MI) (pc' : Nat) (ls : LsT) (st : List Value) (Q : Rv → Mm → Prop) : Rv → Mm → Prop := fun r M1 => match r with
  | .inl v => WP G d mi pc' ls (v.toList ++ st) M1 Q
  | .inr E => Q (.inr E) M1
/-- a call, once its run is had -/
theorem wp_call {G : Gx} {d d' : Nat} {mi mj : MI} {pc pc' : Nat} {ls : LsT} {stk st av : List Value} {M : Mm} {Q : Rv → Mm → Prop} (hcov : ∀ x ∈ tableOf mi.2.2.2.2, covers x pc = false)
    (hrun : ∀ (r1 : Rv) (M1 : Mm), TM G d' mj av M r1 M1 → ∀ (p : Program) (e : Env) (R : Room) (s : State) (m : MethodId) (args : Array Value) (below : List Frame) (meth : Method) (c : Code) (H : Heap) (locs : List Loc) (arr : Array Slot) (cells slots : Nat),
      amFx G d mi p R s m args meth c → amRp G M s H locs → amL G ls arr mi.2.2.1 → cells + (mSz M1 - mSz M) ≤ R.cells ∧ slots + (mSl M1 - mSl M) ≤ R.slots →
      vx_Run p G.1 e R s m args below meth c H locs cells slots (mSz M1 - mSz M) (mSl M1 - mSl M) (F0 m pc arr (stk.map (amV G))) (st.map (amV G)) (amQc G r1 M1 (av.map (amV G)).toArray) (amXC G r1 M1) (amA G))
    (hp : pc + 3 = pc') (h : WM G d' mj av M (amKc G d mi pc' ls st Q)) : WP G d mi pc ls stk M Q := by
  subst hp
  obtain ⟨r1, M1, hq1, tw⟩ := h
  cases r1 with
  | inl v =>
    obtain ⟨r, M', hq, hz, h3⟩ := hq1
    refine ⟨r, M', hq, ⟨Nat.le_trans tw.1.1 hz.1, Nat.le_trans tw.1.2 hz.2⟩, fun p e R s m args below meth c H locs arr Qf cells slots F X L hc hs E => ?_⟩
    have hz1 := tw.1.1
    have hz2 := tw.1.2
    have hz3 := hz.1
    have hz4 := hz.2
    refine am_cont X (hrun _ M1 tw p e R s m args below meth c H locs arr cells slots F X L ⟨by omega, by omega⟩) (fun v0 e0 H1 locs1 X1 => ?_) (fun E0 e0 => by cases e0)
    cases e0
    have h9 := h3 p e R s m args below meth c H1 locs1 arr Qf (cells + (mSz M1 - mSz M)) (slots + (mSl M1 - mSl M)) F X1 L (by omega) (by omega) (by
      rw [show cells + (mSz M1 - mSz M) + (mSz M' - mSz M1) = cells + (mSz M' - mSz M) by omega, show slots + (mSl M1 - mSl M) + (mSl M' - mSl M1) = slots + (mSl M' - mSl M) by omega]
      exact E)
    rw [List.map_append] at h9
    cases v <;> exact h9
  | inr E1 =>
    refine ⟨.inr E1, M1, hq1, tw.1, fun p e R s m args below meth c H locs arr Qf cells slots F X L hc hs E => ?_⟩
    refine am_cont X (hrun _ M1 tw p e R s m args below meth c H locs arr cells slots F X L ⟨hc, hs⟩) (fun v0 e0 => by cases e0) (fun E0 e0 H1 locs1 q ce X1 g1 g2 g3 => ?_)
    cases e0
    exact E H1 locs1 arr pc _ q ce X1 (by rw [F.et]; exact hcov) g1 g2 g3
theorem am_vis (mi : MI) (h : mi.2.2.2.2 = []) (pc : Nat) : ∀ x ∈ tableOf mi.2.2.2.2, covers x pc = false := by
  rw [h]
  exact fun x hx => nomatch hx
/-- invokevirtual on an object of the world -/
theorem w_callV {G : Gx} {d d' : Nat} {mi mj : MI} {pc pc' idx ci b n : Nat} {ls : LsT} {stk st av : List Value} {M : Mm} {Q : Rv → Mm → Prop} {r : vw_C} (hd : decode mi.2.1 pc = .ok (.invokevirtual idx, 3)) (hcov : ∀ x ∈ tableOf mi.2.2.2.2, covers x pc = false)
    (hm : amOkM mj) (hl : amLk mi.1.cls idx mj.1) (hin : Cond.instanceMethod mj.1 ∈ amWs) (hse : Cond.selects mj.1.cls mj.1 mj.1 ∈ amWs) (hr : amCl[ci]? = some r) (hrc : r.1 = mj.1.cls) (hci : ci < 100)
    (hn : amNp mj n) (hav : av.length = n) (hdd : d' + 1 ≤ d) (hent : (amEnt (.ref b :: av)).length ≤ mj.2.2.1) (hstk : stk = av.reverse ++ .ref b :: st) (hst : (st.map fun v => v.category).sum ≤ 8) (hb : b < mSz M) (hk : mKd M b = ci) (hp : pc + 3 = pc') (h : WM G d' mj (.ref b :: av) M (amKc G d mi pc' ls st Q)) : WP G d mi pc ls stk M Q := by
  refine wp_call hcov (fun r1 M1 tw p e R s m args below meth c H locs arr cells slots F X L hf => ?_) hp h
  have hM := am_met hm.1.1 hm.1.2.1 hent F.tr tw
  have hcell : ∃ cellB : Cell, H[G.2.1 + b]? = some cellB ∧ cellB.vm.isStatics = false ∧ s.vm.findClass mj.1.cls = some cellB.cls := by
    have hw := X.at hb
    rw [amC_obj (by rw [hk]; exact hci), hk] at hw
    obtain ⟨r', h1, cell, g1, g2, g3, -⟩ := hw
    have e1 : r' = r := Option.some.inj (h1.symm.trans hr)
    subst e1
    exact ⟨cell, g1, by rw [g3]; rfl, by rw [g2, ← hrc]; exact (F.kk.1.1 ci _ hr).2.1⟩
  have hpv : PreV s H mj.1.cls (G.2.1 + b) (amPc G (.ref b :: av) M) (av.map (amV G)) := ⟨amPc_blind, hcell, fun U hU hW => by
    have h9 := am_pre (av := .ref b :: av) F X U hU hW
    rw [List.map_cons, amVref X hb] at h9
    exact h9⟩
  have hstk2 : stk.map (amV G) = (av.map (amV G)).reverse ++ .ref (G.2.1 + b) :: st.map (amV G) := by
    rw [hstk, List.map_append, List.map_cons, amVref X hb, List.map_reverse]
  have hres : vx_Run p G.1 e R s m args below meth c H locs cells slots (mSz M1 - mSz M) (mSl M1 - mSl M) (F0 m pc arr (stk.map (amV G))) (st.map (amV G)) (amQc G r1 M1 (Value.ref (G.2.1 + b) :: av.map (amV G)).toArray) (amXC G r1 M1) (amA G) := by
    rcases hl with hl | ⟨host, hl⟩
    · exact vx_runV (Ts := amWs) ⟨F.1, F.2.1, F.ml, F.own, F.ts⟩ hM ⟨am_CB F hm hn hdd hl _ _, F.ts _ hin, F.ts _ hse⟩ hpv rfl (by rw [List.length_map]; exact hav) L.1 hstk2 (lv_room (am_cat hst)) hd hf
    · exact vx_runVN (Ts := amWs) ⟨F.1, F.2.1, F.ml, F.own, F.ts⟩ hM ⟨am_CN F hm hn hdd hl _ _, F.ts _ hin, F.ts _ hse⟩ hpv rfl (by rw [List.length_map]; exact hav) L.1 hstk2 (lv_room (am_cat hst)) hd hf
  rw [List.map_cons, amVref X hb]
  exact hres
/-- invokevirtual on a text -/
theorem w_callT {G : Gx} {d d' : Nat} {mi mj : MI} {pc pc' idx i n : Nat} {ls : LsT} {stk st av : List Value} {M : Mm} {Q : Rv → Mm → Prop} (hd : decode mi.2.1 pc = .ok (.invokevirtual idx, 3)) (hcov : ∀ x ∈ tableOf mi.2.2.2.2, covers x pc = false)
    (hm : amOkM mj) (hl : Cond.methodLink mi.1.cls idx mj.1 ∈ amWs) (hin : Cond.instanceMethod mj.1 ∈ amWs) (hse : Cond.selects mj.1.cls mj.1 mj.1 ∈ amWs) (hrc : mj.1.cls = "java/lang/String") (hi : i < 10)
    (hn : amNp mj n) (hav : av.length = n) (hdd : d' + 1 ≤ d) (hent : (amEnt (.ref (1000000 + i) :: av)).length ≤ mj.2.2.1) (hstk : stk = av.reverse ++ .ref (1000000 + i) :: st) (hst : (st.map fun v => v.category).sum ≤ 8) (hp : pc + 3 = pc') (h : WM G d' mj (.ref (1000000 + i) :: av) M (amKc G d mi pc' ls st Q)) : WP G d mi pc ls stk M Q := by
  refine wp_call hcov (fun r1 M1 tw p e R s m args below meth c H locs arr cells slots F X L hf => ?_) hp h
  have hM := am_met hm.1.1 hm.1.2.1 hent F.tr tw
  have hcell : ∃ cellB : Cell, H[G.2.2.1 i]? = some cellB ∧ cellB.vm.isStatics = false ∧ s.vm.findClass mj.1.cls = some cellB.cls := by
    obtain ⟨cell, h1, h2, h3, -⟩ := (F.oo.1 i hi).2.1.kept X.2.2.2.2.1
    exact ⟨cell, h1, h2, by rw [hrc]; exact h3⟩
  have hpv : PreV s H mj.1.cls (G.2.2.1 i) (amPc G (.ref (1000000 + i) :: av) M) (av.map (amV G)) := ⟨amPc_blind, hcell, fun U hU hW => by
    have h9 := am_pre (av := .ref (1000000 + i) :: av) F X U hU hW
    rw [List.map_cons, amVold] at h9
    exact h9⟩
  have hstk2 : stk.map (amV G) = (av.map (amV G)).reverse ++ .ref (G.2.2.1 i) :: st.map (amV G) := by
    rw [hstk, List.map_append, List.map_cons, amVold, List.map_reverse]
  rw [List.map_cons, amVold]
  exact vx_runV (Ts := amWs) ⟨F.1, F.2.1, F.ml, F.own, F.ts⟩ hM ⟨am_CB F hm hn hdd hl _ _, F.ts _ hin, F.ts _ hse⟩ hpv rfl (by rw [List.length_map]; exact hav) L.1 hstk2 (lv_room (am_cat hst)) hd hf
/-- invokestatic -/
theorem w_callS {G : Gx} {d d' : Nat} {mi mj : MI} {pc pc' idx n : Nat} {ls : LsT} {stk st av : List Value} {M : Mm} {Q : Rv → Mm → Prop} (hd : decode mi.2.1 pc = .ok (.invokestatic idx, 3)) (hcov : ∀ x ∈ tableOf mi.2.2.2.2, covers x pc = false)
    (hm : amOkM mj) (hl : amLk mi.1.cls idx mj.1) (hsta : Cond.static mj.1 ∈ amWs) (hn : amNp mj n) (hav : av.length = n) (hdd : d' + 1 ≤ d) (hent : (amEnt av).length ≤ mj.2.2.1) (hstk : stk = av.reverse ++ st) (hst : (st.map fun v => v.category).sum ≤ 8) (hp : pc + 3 = pc') (h : WM G d' mj av M (amKc G d mi pc' ls st Q)) : WP G d mi pc ls stk M Q := by
  refine wp_call hcov (fun r1 M1 tw p e R s m args below meth c H locs arr cells slots F X L hf => ?_) hp h
  have hM := am_met hm.1.1 hm.1.2.1 hent F.tr tw
  have hpv : PreS s H (amPc G av M) (av.map (amV G)) := ⟨amPc_blind, fun U hU hW => am_pre F X U hU hW⟩
  have hstk2 : stk.map (amV G) = (av.map (amV G)).reverse ++ st.map (amV G) := by
    rw [hstk, List.map_append, List.map_reverse]
  rcases hl with hl | ⟨host, hl⟩
  · exact vx_runS (Ts := amWs) ⟨F.1, F.2.1, F.ml, F.own, F.ts⟩ hM ⟨am_CB F hm hn hdd hl _ _, F.ts _ hsta⟩ hpv rfl (by rw [List.length_map]; exact hav) L.1 hstk2 (lv_room (am_cat hst)) hd hf
  · exact vx_runSN (Ts := amWs) ⟨F.1, F.2.1, F.ml, F.own, F.ts⟩ hM ⟨am_CN F hm hn hdd hl _ _, F.ts _ hsta, trivial⟩ hpv rfl (by rw [List.length_map]; exact hav) L.1 hstk2 (lv_room (am_cat hst)) hd hf
