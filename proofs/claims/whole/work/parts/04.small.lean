/-! ===== THE SMALL MACHINE: worlds as numbered cells, one rule an instruction ===== -/
abbrev Gx : Type := Launch × Nat × (Nat → Nat) × va_G × (Nat → ClassId) × Nat × (Nat → Int32)
abbrev MI : Type := MethodName × ByteArray × Nat × Option FieldType × List (Nat × Nat × Nat × Nat)
abbrev Mm : Type := Nat × Nat × (Nat → Nat) × (Nat → Nat) × (Nat → Nat → Int32) × (Nat → Nat → Int64) × (Nat → Nat → UInt64) × (Nat → Nat → Option Nat)
abbrev LsT : Type := List (Option Value)
abbrev Rv : Type := Option Value ⊕ String
def mSz (M : Mm) : Nat := M.1
def mSl (M : Mm) : Nat := M.2.1
def mKd (M : Mm) : Nat → Nat := M.2.2.1
def mLn (M : Mm) : Nat → Nat := M.2.2.2.1
def mI (M : Mm) : Nat → Nat → Int32 := M.2.2.2.2.1
def mL (M : Mm) : Nat → Nat → Int64 := M.2.2.2.2.2.1
def mD (M : Mm) : Nat → Nat → UInt64 := M.2.2.2.2.2.2.1
def mR (M : Mm) : Nat → Nat → Option Nat := M.2.2.2.2.2.2.2
def sI (M : Mm) (a i : Nat) (x : Int32) : Mm := (mSz M, mSl M, mKd M, mLn M, va_up (mI M) a (upd (mI M a) i x), mL M, mD M, mR M)
def sL (M : Mm) (a i : Nat) (x : Int64) : Mm := (mSz M, mSl M, mKd M, mLn M, mI M, va_up (mL M) a (vp_updL (mL M a) i x), mD M, mR M)
def sD (M : Mm) (a i : Nat) (x : UInt64) : Mm := (mSz M, mSl M, mKd M, mLn M, mI M, mL M, va_up (mD M) a (vf_upd (mD M a) i x), mR M)
def sR (M : Mm) (a i : Nat) (x : Option Nat) : Mm := (mSz M, mSl M, mKd M, mLn M, mI M, mL M, mD M, va_up (mR M) a (va_up (mR M a) i x))
/-- a row of ints copied into another -/
def sC (M : Mm) (b a sp dp n : Nat) : Mm := (mSz M, mSl M, mKd M, mLn M, va_up (mI M) a (va_cpy (mI M b) (mI M a) sp dp n), mL M, mD M, mR M)
/-- one cell more, of kind k, n places long, all of them 0 or null; it counts w slots -/
def nC (M : Mm) (k n w : Nat) : Mm := (mSz M + 1, mSl M + w, va_up (mKd M) (mSz M) k, va_up (mLn M) (mSz M) n, va_up (mI M) (mSz M) (fun _ => 0), va_up (mL M) (mSz M) (fun _ => 0), va_up (mD M) (mSz M) (fun _ => 0), va_up (mR M) (mSz M) (fun _ => none))
def amAd (G : Gx) (n : Nat) : Nat := if n < 1000000 then G.2.1 + n else G.2.2.1 (n - 1000000)
def amV (G : Gx) : Value → Value
  | .ref n => .ref (amAd G n)
  | v => v
def amTy : Nat → Nat → FieldType
  | 0 => tyX0 | 1 => tyX1 | 2 => tyX2 | 3 => tyX3 | 4 => tyX4 | 5 => tyX5 | 6 => tyX6 | 7 => tyX7 | 8 => tyX8 | 9 => tyX9 | 10 => tyX10 | 11 => tyX11 | _ => tyX12
def amIsR : FieldType → Bool
  | .object _ => true
  | .array _ => true
  | _ => false
abbrev amCl : List vw_C := [(RX0, TX0, 5), (RX1, TX1, 3), (RX2, TX2, 7), (RX3, TX3, 3), (RX4, TX4, 4), (RX5, TX5, 7), (RX6, TX6, 7), (RX7, TX7, 14), (RX8, TX8, 6), (RX9, TX9, 15), (RX10, TX10, 3), (RX11, TX11, 20), (RX12, TX12, 26), ("java/lang/IllegalArgumentException", TX0, 0), ("java/lang/IllegalStateException", TX0, 0), ("java/util/NoSuchElementException", TX0, 0), ("java/lang/IndexOutOfBoundsException", TX0, 0), ("java/lang/UnsupportedOperationException", TX0, 0), ("java/lang/ArithmeticException", TX0, 0)]
/-- a field as it stands in the heap -/
def amF (G : Gx) (M : Mm) (a k : Nat) : Value := if amIsR (amTy (mKd M a) k) then va_rf ((mR M a k).map (amAd G)) else .int (mI M a k)
/-- an array's places as they stand in the heap; kinds: 100 int, 101 char, 102 boolean, 110 long, 111 double, 120 int[][], 121 boolean[][], 122 Book[] -/
def amArr (G : Gx) (M : Mm) (a : Nat) : (Nat → Int32) ⊕ (Nat → Int64) ⊕ (Nat → UInt32) ⊕ (Nat → UInt64) ⊕ (Nat → Option Nat) :=
  if mKd M a < 110 then .inl (mI M a) else if mKd M a = 110 then .inr (.inl (mL M a)) else if mKd M a = 111 then .inr (.inr (.inr (.inl (mD M a)))) else .inr (.inr (.inr (.inr (fun i => (mR M a i).map (amAd G)))))
/-- how many fields the objects of a kind have -/
def amN (k : Nat) : Nat := match amCl[k]? with
  | some r => r.2.2
  | none => 0
def amC (G : Gx) (M : Mm) (a : Nat) : va_E := if mKd M a < 100 then .inr (mKd M a, (List.range (amN (mKd M a))).map (amF G M a)) else .inl (G.2.2.2.2.1 (mKd M a), mLn M a, amArr G M a)
def amW (G : Gx) (M : Mm) : va_W := (List.range (mSz M)).map fun a => (G.2.1 + a, amC G M a)
def amTys (G : Gx) : List (ClassId × FieldType) := [(G.2.2.2.2.1 100, .int), (G.2.2.2.2.1 101, .char), (G.2.2.2.2.1 102, .boolean), (G.2.2.2.2.1 110, .long), (G.2.2.2.2.1 111, .double), (G.2.2.2.2.1 120, .array .int), (G.2.2.2.2.1 121, .array .boolean), (G.2.2.2.2.1 122, .object RX0)]
def amA (G : Gx) : Nat → Prop := fun q => G.2.1 ≤ q
/-- a word that stays as the tables warm -/
def amOk (w : Cond) : Bool := goodWord w || (w.onTables && (w.keepsH || w.faceAtom))
theorem am_warm {w : Cond} (hw : amOk w = true) {s U : State} (hW : s.WarmedH U.vm) {args a' : Array Value} (h : w.before args s = true) : w.before a' U = true := by
  unfold amOk at hw
  rcases Bool.or_eq_true_iff.mp hw with h1 | h1
  · exact word_at hW (good_of_word h1) h
  · simp only [Bool.and_eq_true] at h1
    rcases Bool.or_eq_true_iff.mp h1.2 with h2 | h2
    · have h3 := Cond.onTables_warmH (T := U) (args' := a') hW h1.1 h2 h
      rwa [State.setVm_self] at h3
    · exact va_tabs h1.1 (rfl : (s.setVm U.vm).vm = U.vm) (Cond.faceAtom_setVm hW.alike w h2 h)
def amWs : List Cond := lw_tbl.filter amOk
theorem amWs_warm {s U : State} (hW : s.WarmedH U.vm) {args a' : Array Value} (h : ∀ w ∈ amWs, w.before args s = true) : ∀ w ∈ amWs, w.before a' U = true := fun w hw => am_warm (List.mem_filter.mp hw).2 hW (h w hw)
/-- the String constants that are asked: owner, place, text -/
def amStr : Nat → String × Nat × String
  | 0 => (RX11, 514, "lsmcpzwd") | 1 => (RX11, 187, "elg") | 2 => (RX11, 498, "nlrst") | 3 => (RX11, 251, "tfid") | 4 => (RX11, 382, "hsn")
  | 5 => (RX12, 144, "lsmcpzwd") | 6 => (RX12, 169, "elg") | 7 => (RX12, 205, "tfid") | 8 => (RX12, 233, "nlrst") | _ => (RX12, 320, "hsn")
def amByt : Nat → List Int32
  | 0 => [108, 115, 109, 99, 112, 122, 119, 100] | 1 => [101, 108, 103] | 2 => [110, 108, 114, 115, 116] | 3 => [116, 102, 105, 100] | 4 => [104, 115, 110]
  | 5 => [108, 115, 109, 99, 112, 122, 119, 100] | 6 => [101, 108, 103] | 7 => [116, 102, 105, 100] | 8 => [110, 108, 114, 115, 116] | _ => [104, 115, 110]
def amLow : List Int32 := [1, 0, -1, 0, 0, 0, 0, 0]
def amHigh : List Int32 := [60, 2, 2, 3, 1, 1, 9999, 100]
def amNc : List (String × String) := [("java/lang/ArithmeticException", "java/lang/IllegalArgumentException"), ("java/lang/IllegalArgumentException", "java/lang/IllegalStateException"), ("java/lang/IllegalArgumentException", "java/util/NoSuchElementException"), ("java/lang/IllegalStateException", "java/lang/IllegalArgumentException"), ("java/lang/IllegalStateException", "java/util/NoSuchElementException"), ("java/lang/IndexOutOfBoundsException", "java/lang/IllegalArgumentException"), ("java/lang/IndexOutOfBoundsException", "java/lang/IllegalStateException"), ("java/util/NoSuchElementException", "java/lang/IllegalStateException"), ("java/lang/UnsupportedOperationException", "java/lang/IllegalArgumentException"), ("java/lang/UnsupportedOperationException", "java/util/NoSuchElementException")]
/-- what the tables tell of the classes -/
def amK (G : Gx) (U : State) : Prop := va_K G.2.2.2.1 amCl (amTys G) U ∧
  ∃ (kA kI : Class), U.vm.classes[G.2.2.2.2.1 120]? = some kA ∧ kA.kind = .array (G.2.2.2.2.1 100) (.array .int) ∧ U.vm.classes[G.2.2.2.2.1 100]? = some kI ∧
    (Cond.arrayOver (.array .int)).before #[] U = true ∧ (Cond.arrayOver (.array .boolean)).before #[] U = true ∧ va_AO RX0 U ∧ ∀ q ∈ amNc, va_Nc q.1 q.2 U
/-- the old cells: texts, tables, the script, and what exceptions ask -/
def amO (G : Gx) (U : State) (H : Heap) : Prop :=
  (∀ i, i < 10 → vk_R (amStr i).1 (amStr i).2.1 (amStr i).2.2 (G.2.2.1 i) U ∧ va_O "java/lang/String" (G.2.2.1 i) (amA G) U H ∧ va_OF "java/lang/String" "coder" "B" (.int 0) (G.2.2.1 i) (amA G) U H ∧ va_OF "java/lang/String" "value" "[B" (.ref (G.2.2.1 (20 + i))) (G.2.2.1 i) (amA G) U H ∧ va_T .byte (G.2.2.1 (20 + i)) (amByt i).length (fun j => .int ((amByt i).getD j 0)) (amA G) U H) ∧
  va_Z "java/lang/String" "COMPACT_STRINGS" "Z" (.int 1) (amA G) U H ∧
  (va_Z RX11 "LEAST_FACTS" "[I" (.ref (G.2.2.1 40)) (amA G) U H ∧ va_T .int (G.2.2.1 40) 8 (fun j => .int (amLow.getD j 0)) (amA G) U H) ∧
  (va_Z RX11 "GREATEST_FACTS" "[I" (.ref (G.2.2.1 41)) (amA G) U H ∧ va_T .int (G.2.2.1 41) 8 (fun j => .int (amHigh.getD j 0)) (amA G) U H) ∧
  vx_Zq Bundle.tN "UNASSIGNED_STACK" Bundle.steD (amA G) U H ∧ vx_Zq Bundle.tN "SUPPRESSED_SENTINEL" Bundle.listD (amA G) U H ∧
  (∀ (o : String) (k : Nat) (t : String), Cond.stringRef o k t ∈ tables_1 → ∃ sa, vk_R o k t sa U) ∧
  (va_X (G.2.2.1 60) G.2.2.2.2.2.1 G.2.2.2.2.2.2 U H ∧ G.2.2.1 60 < G.2.1) ∧ G.2.1 ≤ H.size
theorem amK.moved {G : Gx} {u U : State} (hvm : u.vm.Alike U.vm) (h : amK G u) : amK G U := by
  obtain ⟨h1, kA, kI, h2, h3, h4, h5, h6, h7, h8⟩ := h
  obtain ⟨kA', hA', eA⟩ := hvm.2.2 _ _ h2
  obtain ⟨kI', hI', eI⟩ := hvm.2.2 _ _ h4
  exact ⟨va_K.moved hvm h1, kA', kI', hA', by rw [eA]; exact h3, hI', Jvm.Stand.arrayOver_alikeB hvm h5, Jvm.Stand.arrayOver_alikeB hvm h6, va_AO.moved hvm h7, fun q hq => va_Nc.moved hvm (h8 q hq)⟩
theorem amO.moved {G : Gx} {u U : State} {H : Heap} (hW : u.WarmedH U.vm) (h : amO G u H) : amO G U H := by
  have hvm := hW.alike
  obtain ⟨h1, h2, ⟨h3, h4⟩, ⟨h5, h6⟩, h7, h8, h9, ⟨h10, h11⟩, h12⟩ := h
  refine ⟨fun i hi => ?_, va_Z.moved hvm h2, ⟨va_Z.moved hvm h3, va_T.moved hvm h4⟩, ⟨va_Z.moved hvm h5, va_T.moved hvm h6⟩, vx_Zq.moved hvm h7, vx_Zq.moved hvm h8, fun o k t ht => ?_, ⟨va_X.moved hvm h10, h11⟩, h12⟩
  · obtain ⟨g1, g2, g3, g4, g5⟩ := h1 i hi
    exact ⟨vk_R.warm hW g1, va_O.moved hvm g2, va_OF.moved hvm g3, va_OF.moved hvm g4, va_T.moved hvm g5⟩
  · obtain ⟨sa, hs⟩ := h9 o k t ht
    exact ⟨sa, vk_R.warm hW hs⟩
theorem amO.kept {G : Gx} {U : State} {H H1 : Heap} (h : amO G U H) (hz : H.size ≤ H1.size) (hq : ∀ a : Nat, a < H.size → ¬ amA G a → H1[a]? = H[a]?) : amO G U H1 := by
  obtain ⟨h1, h2, ⟨h3, h4⟩, ⟨h5, h6⟩, h7, h8, h9, ⟨h10, h11⟩, h12⟩ := h
  refine ⟨fun i hi => ?_, h2.kept hq, ⟨h3.kept hq, h4.kept hq⟩, ⟨h5.kept hq, h6.kept hq⟩, h7.kept hq, h8.kept hq, h9, ⟨h10.kept (hq _ (Nat.lt_of_lt_of_le h11 h12) (Nat.not_le.mpr h11)), h11⟩, Nat.le_trans h12 hz⟩
  obtain ⟨g1, g2, g3, g4, g5⟩ := h1 i hi
  exact ⟨g1, g2.kept hq, g3.kept hq, g4.kept hq, g5.kept hq⟩
/-- the world over the heap -/
def amRp (G : Gx) (M : Mm) (s : State) (H : Heap) (locs : List Loc) : Prop := (H.size = G.2.1 + mSz M ∧ mSz M ≤ 1000000) ∧ va_P G.2.2.2.1 amCl (amW G M) H ∧ va_D (amA G) (amW G M) ∧ va_S (amA G) s.heap H locs
def amL (G : Gx) (ls : LsT) (arr : Array Slot) (nL : Nat) : Prop := arr.size = nL ∧ lv_wf arr ∧ ∀ (i : Nat) (v : Value), ls[i]? = some (some v) → arr[i]? = some (.val (amV G v))
/-- what holds of a method's frame, from its start on: it may use d frames -/
def amFx (G : Gx) (d : Nat) (mi : MI) (p : Program) (R : Room) (s : State) (m : MethodId) (args : Array Value) (meth : Method) (c : Code) : Prop :=
  p.tables.exec = Jvm.exec ∧ c.code = mi.2.1 ∧ c.maxLocals = mi.2.2.1 ∧ s.vm.findClass mi.1.cls = some m.cls ∧ (∀ w ∈ amWs, w.before args s = true) ∧ (d ≤ R.frames ∧ 50 * d + 200 ≤ R.locals) ∧
  meth.sig.returnType = mi.2.2.2.1 ∧ meth.locks = false ∧ c.exceptionTable.toList = tableOf mi.2.2.2.2 ∧ meth.name = mi.1.name ∧ amK G s ∧ amO G s s.heap ∧ G.1.stackTraces = false
def amRet : Option Value → Instr
  | none => .return_
  | some (.int _) => .ireturn
  | some (.long _) => .lreturn
  | some (.float _) => .freturn
  | some (.double _) => .dreturn
  | _ => .areturn
def amRok (rt : Option FieldType) : Option Value → Prop
  | none => rt = none
  | some (.int x) => ∃ t, rt = some t ∧ narrow t (.int x) = .int x
  | some (.long _) => rt = some .long
  | some (.float _) => rt = some .float
  | some (.double _) => rt = some .double
  | some (.ref _) => ∃ t, rt = some t ∧ ((∃ n, t = .object n) ∨ ∃ u, t = .array u)
  | some .null => ∃ t, rt = some t ∧ ((∃ n, t = .object n) ∨ ∃ u, t = .array u)
  | _ => False
/-- what the caller owes at the end: at a return, or at a throw that nothing here catches -/
def amEd (G : Gx) (mi : MI) (M' : Mm) (r : Rv) (p : Program) (e : Env) (R : Room) (s : State) (m : MethodId) (args : Array Value) (below : List Frame) (meth : Method) (c : Code) (cells slots : Nat) (Qf : State → Prop) : Prop :=
  match r with
  | .inl v => ∀ (H : Heap) (locs : List Loc) (arr : Array Slot) (pc : Nat), amRp G M' s H locs → amRok mi.2.2.2.1 v → decode mi.2.1 pc = .ok (amRet v, 1) → W p G.1 e R s m args below meth c H locs cells slots Qf (F0 m pc arr (v.toList.map (amV G)))
  | .inr E => ∀ (H : Heap) (locs : List Loc) (arr : Array Slot) (pc : Nat) (rest : List Value) (q : Addr) (ce : Cell), amRp G M' s H locs → (∀ x ∈ c.exceptionTable.toList, covers x pc = false) → H[q]? = some ce → ce.vm = .none → s.vm.findClass E = some ce.cls → vx_W p G.1 e R s m args below meth c H locs cells slots Qf (F0 m pc arr rest) q
/-- from here the machine comes to the end r, with the world M' -/
def TW (G : Gx) (d : Nat) (mi : MI) (pc : Nat) (ls : LsT) (st : List Value) (M : Mm) (r : Rv) (M' : Mm) : Prop :=
  (mSz M ≤ mSz M' ∧ mSl M ≤ mSl M') ∧ ∀ (p : Program) (e : Env) (R : Room) (s : State) (m : MethodId) (args : Array Value) (below : List Frame) (meth : Method) (c : Code) (H : Heap) (locs : List Loc) (arr : Array Slot) (Qf : State → Prop) (cells slots : Nat),
    amFx G d mi p R s m args meth c → amRp G M s H locs → amL G ls arr mi.2.2.1 → cells + (mSz M' - mSz M) ≤ R.cells → slots + (mSl M' - mSl M) ≤ R.slots →
    amEd G mi M' r p e R s m args below meth c (cells + (mSz M' - mSz M)) (slots + (mSl M' - mSl M)) Qf → W p G.1 e R s m args below meth c H locs cells slots Qf (F0 m pc arr (st.map (amV G)))
def WP (G : Gx) (d : Nat) (mi : MI) (pc : Nat) (ls : LsT) (st : List Value) (M : Mm) (Q : Rv → Mm → Prop) : Prop := ∃ r M', Q r M' ∧ TW G d mi pc ls st M r M'
theorem WP.mono {G : Gx} {d : Nat} {mi : MI} {pc : Nat} {ls : LsT} {st : List Value} {M : Mm} {Q Q' : Rv → Mm → Prop} (h : WP G d mi pc ls st M Q) (hq : ∀ r M', Q r M' → Q' r M') : WP G d mi pc ls st M Q' := by
  obtain ⟨r, M', h1, h2⟩ := h
  exact ⟨r, M', hq _ _ h1, h2⟩
theorem TW.deeper {G : Gx} {d d' : Nat} {mi : MI} {pc : Nat} {ls : LsT} {st : List Value} {M M' : Mm} {r : Rv} (h : TW G d mi pc ls st M r M') (hd : d ≤ d') : TW G d' mi pc ls st M r M' := by
  refine ⟨h.1, fun p e R s m args below meth c H locs arr Qf cells slots F => h.2 p e R s m args below meth c H locs arr Qf cells slots ?_⟩
  obtain ⟨f1, f2, f3, f4, f5, ⟨f6, f7⟩, f8⟩ := F
  exact ⟨f1, f2, f3, f4, f5, ⟨by omega, by omega⟩, f8⟩
theorem WP.deeper {G : Gx} {d d' : Nat} {mi : MI} {pc : Nat} {ls : LsT} {st : List Value} {M : Mm} {Q : Rv → Mm → Prop} (h : WP G d mi pc ls st M Q) (hd : d ≤ d') : WP G d' mi pc ls st M Q := by
  obtain ⟨r, M', h1, h2⟩ := h
  exact ⟨r, M', h1, h2.deeper hd⟩
/-- a step that leaves the world as it is -/
theorem wp_step {G : Gx} {d : Nat} {mi : MI} {pc pc' : Nat} {ls ls' : LsT} {st st' : List Value} {M : Mm} {Q : Rv → Mm → Prop}
    (h : ∀ (p : Program) (e : Env) (R : Room) (s : State) (m : MethodId) (args : Array Value) (below : List Frame) (meth : Method) (c : Code) (H : Heap) (locs : List Loc) (arr : Array Slot) (Qf : State → Prop) (cells slots : Nat),
      amFx G d mi p R s m args meth c → amRp G M s H locs → amL G ls arr mi.2.2.1 → cells ≤ R.cells ∧ slots ≤ R.slots → (∀ arr', amL G ls' arr' mi.2.2.1 → W p G.1 e R s m args below meth c H locs cells slots Qf (F0 m pc' arr' (st'.map (amV G)))) →
      W p G.1 e R s m args below meth c H locs cells slots Qf (F0 m pc arr (st.map (amV G))))
    (k : WP G d mi pc' ls' st' M Q) : WP G d mi pc ls st M Q := by
  obtain ⟨r, M', h1, h2, h3⟩ := k
  exact ⟨r, M', h1, h2, fun p e R s m args below meth c H locs arr Qf cells slots F X L hc hs E => h p e R s m args below meth c H locs arr Qf cells slots F X L ⟨by omega, by omega⟩ fun arr' L' => h3 p e R s m args below meth c H locs arr' Qf cells slots F X L' hc hs E⟩
/-- a step that changes the world, but makes nothing -/
theorem wp_put {G : Gx} {d : Nat} {mi : MI} {pc pc' : Nat} {ls : LsT} {st st' : List Value} {M M1 : Mm} {Q : Rv → Mm → Prop} (hz : mSz M1 = mSz M ∧ mSl M1 = mSl M)
    (h : ∀ (p : Program) (e : Env) (R : Room) (s : State) (m : MethodId) (args : Array Value) (below : List Frame) (meth : Method) (c : Code) (H : Heap) (locs : List Loc) (arr : Array Slot) (Qf : State → Prop) (cells slots : Nat),
      amFx G d mi p R s m args meth c → amRp G M s H locs → amL G ls arr mi.2.2.1 → (∀ H' locs', amRp G M1 s H' locs' → W p G.1 e R s m args below meth c H' locs' cells slots Qf (F0 m pc' arr (st'.map (amV G)))) →
      W p G.1 e R s m args below meth c H locs cells slots Qf (F0 m pc arr (st.map (amV G))))
    (k : WP G d mi pc' ls st' M1 Q) : WP G d mi pc ls st M Q := by
  obtain ⟨r, M', h1, ⟨h2, h4⟩, h3⟩ := k
  rw [hz.1] at h2
  rw [hz.2] at h4
  exact ⟨r, M', h1, ⟨h2, h4⟩, fun p e R s m args below meth c H locs arr Qf cells slots F X L hc hs E => h p e R s m args below meth c H locs arr Qf cells slots F X L fun H' locs' X' => h3 p e R s m args below meth c H' locs' arr Qf cells slots F X' L (by rw [hz.1]; exact hc) (by rw [hz.2]; exact hs) (by rw [hz.1, hz.2]; exact E)⟩
/-- a step that makes n cells with w slots -/
theorem wp_make {G : Gx} {d : Nat} {mi : MI} {pc pc' n w : Nat} {ls : LsT} {st st' : List Value} {M M1 : Mm} {Q : Rv → Mm → Prop} (hz : mSz M1 = mSz M + n ∧ mSl M1 = mSl M + w)
    (h : ∀ (p : Program) (e : Env) (R : Room) (s : State) (m : MethodId) (args : Array Value) (below : List Frame) (meth : Method) (c : Code) (H : Heap) (locs : List Loc) (arr : Array Slot) (Qf : State → Prop) (cells slots : Nat),
      amFx G d mi p R s m args meth c → amRp G M s H locs → amL G ls arr mi.2.2.1 → cells + n ≤ R.cells → slots + w ≤ R.slots → (∀ H' locs', amRp G M1 s H' locs' → W p G.1 e R s m args below meth c H' locs' (cells + n) (slots + w) Qf (F0 m pc' arr (st'.map (amV G)))) →
      W p G.1 e R s m args below meth c H locs cells slots Qf (F0 m pc arr (st.map (amV G))))
    (k : WP G d mi pc' ls st' M1 Q) : WP G d mi pc ls st M Q := by
  obtain ⟨r, M', h1, ⟨h2, h4⟩, h3⟩ := k
  rw [hz.1] at h2
  rw [hz.2] at h4
  refine ⟨r, M', h1, ⟨by omega, by omega⟩, fun p e R s m args below meth c H locs arr Qf cells slots F X L hc hs E => h p e R s m args below meth c H locs arr Qf cells slots F X L (by omega) (by omega) fun H' locs' X' => h3 p e R s m args below meth c H' locs' arr Qf (cells + n) (slots + w) F X' L (by rw [hz.1]; omega) (by rw [hz.2]; omega) ?_⟩
  rw [hz.1, hz.2, show cells + n + (mSz M' - (mSz M + n)) = cells + (mSz M' - mSz M) by omega, show slots + w + (mSl M' - (mSl M + w)) = slots + (mSl M' - mSl M) by omega]
  exact E
