/-! ===== one rule an instruction: those that leave the world as it is (laid by wip/whole/gen/rules.py) ===== -/
theorem w_iadd {G : Gx} {d : Nat} {mi : MI} {pc pc' : Nat} {ls : LsT} {st : List Value} {M : Mm} {Q : Rv → Mm → Prop} {x y : Int32} (hd : decode mi.2.1 pc = .ok (.iadd, 1)) (hp : pc + 1 = pc') (k : WP G d mi pc' ls (.int (x + y) :: st) M Q) : WP G d mi pc ls (.int y :: .int x :: st) M Q := by
  subst hp
  exact wp_step (fun p e R s m args below meth c H locs arr Qf cells slots F X L B K => lv_iadd F.1 F.2.1 hd (K arr L)) k
theorem w_isub {G : Gx} {d : Nat} {mi : MI} {pc pc' : Nat} {ls : LsT} {st : List Value} {M : Mm} {Q : Rv → Mm → Prop} {x y : Int32} (hd : decode mi.2.1 pc = .ok (.isub, 1)) (hp : pc + 1 = pc') (k : WP G d mi pc' ls (.int (x - y) :: st) M Q) : WP G d mi pc ls (.int y :: .int x :: st) M Q := by
  subst hp
  exact wp_step (fun p e R s m args below meth c H locs arr Qf cells slots F X L B K => lv_isub F.1 F.2.1 hd (K arr L)) k
theorem w_imul {G : Gx} {d : Nat} {mi : MI} {pc pc' : Nat} {ls : LsT} {st : List Value} {M : Mm} {Q : Rv → Mm → Prop} {x y : Int32} (hd : decode mi.2.1 pc = .ok (.imul, 1)) (hp : pc + 1 = pc') (k : WP G d mi pc' ls (.int (x * y) :: st) M Q) : WP G d mi pc ls (.int y :: .int x :: st) M Q := by
  subst hp
  exact wp_step (fun p e R s m args below meth c H locs arr Qf cells slots F X L B K => lv_imul F.1 F.2.1 hd (K arr L)) k
theorem w_iand {G : Gx} {d : Nat} {mi : MI} {pc pc' : Nat} {ls : LsT} {st : List Value} {M : Mm} {Q : Rv → Mm → Prop} {x y : Int32} (hd : decode mi.2.1 pc = .ok (.iand, 1)) (hp : pc + 1 = pc') (k : WP G d mi pc' ls (.int (x &&& y) :: st) M Q) : WP G d mi pc ls (.int y :: .int x :: st) M Q := by
  subst hp
  exact wp_step (fun p e R s m args below meth c H locs arr Qf cells slots F X L B K => lv_iand F.1 F.2.1 hd (K arr L)) k
theorem w_ior {G : Gx} {d : Nat} {mi : MI} {pc pc' : Nat} {ls : LsT} {st : List Value} {M : Mm} {Q : Rv → Mm → Prop} {x y : Int32} (hd : decode mi.2.1 pc = .ok (.ior, 1)) (hp : pc + 1 = pc') (k : WP G d mi pc' ls (.int (x ||| y) :: st) M Q) : WP G d mi pc ls (.int y :: .int x :: st) M Q := by
  subst hp
  exact wp_step (fun p e R s m args below meth c H locs arr Qf cells slots F X L B K => lv_ior F.1 F.2.1 hd (K arr L)) k
theorem w_ixor {G : Gx} {d : Nat} {mi : MI} {pc pc' : Nat} {ls : LsT} {st : List Value} {M : Mm} {Q : Rv → Mm → Prop} {x y : Int32} (hd : decode mi.2.1 pc = .ok (.ixor, 1)) (hp : pc + 1 = pc') (k : WP G d mi pc' ls (.int (x ^^^ y) :: st) M Q) : WP G d mi pc ls (.int y :: .int x :: st) M Q := by
  subst hp
  exact wp_step (fun p e R s m args below meth c H locs arr Qf cells slots F X L B K => lv_ixor F.1 F.2.1 hd (K arr L)) k
theorem w_ishl {G : Gx} {d : Nat} {mi : MI} {pc pc' : Nat} {ls : LsT} {st : List Value} {M : Mm} {Q : Rv → Mm → Prop} {x y : Int32} (hd : decode mi.2.1 pc = .ok (.ishl, 1)) (hp : pc + 1 = pc') (k : WP G d mi pc' ls (.int (x <<< (y &&& 31)) :: st) M Q) : WP G d mi pc ls (.int y :: .int x :: st) M Q := by
  subst hp
  exact wp_step (fun p e R s m args below meth c H locs arr Qf cells slots F X L B K => lv_ishl F.1 F.2.1 hd (K arr L)) k
theorem w_ishr {G : Gx} {d : Nat} {mi : MI} {pc pc' : Nat} {ls : LsT} {st : List Value} {M : Mm} {Q : Rv → Mm → Prop} {x y : Int32} (hd : decode mi.2.1 pc = .ok (.ishr, 1)) (hp : pc + 1 = pc') (k : WP G d mi pc' ls (.int (x >>> (y &&& 31)) :: st) M Q) : WP G d mi pc ls (.int y :: .int x :: st) M Q := by
  subst hp
  exact wp_step (fun p e R s m args below meth c H locs arr Qf cells slots F X L B K => lv_ishr F.1 F.2.1 hd (K arr L)) k
theorem w_idiv {G : Gx} {d : Nat} {mi : MI} {pc pc' : Nat} {ls : LsT} {st : List Value} {M : Mm} {Q : Rv → Mm → Prop} {x y : Int32} (hd : decode mi.2.1 pc = .ok (.idiv, 1)) (hne : ¬ y = 0) (hp : pc + 1 = pc') (k : WP G d mi pc' ls (.int (x / y) :: st) M Q) : WP G d mi pc ls (.int y :: .int x :: st) M Q := by
  subst hp
  exact wp_step (fun p e R s m args below meth c H locs arr Qf cells slots F X L B K => lv_idiv F.1 F.2.1 hd hne (K arr L)) k
theorem w_irem {G : Gx} {d : Nat} {mi : MI} {pc pc' : Nat} {ls : LsT} {st : List Value} {M : Mm} {Q : Rv → Mm → Prop} {x y : Int32} (hd : decode mi.2.1 pc = .ok (.irem, 1)) (hne : ¬ y = 0) (hp : pc + 1 = pc') (k : WP G d mi pc' ls (.int (x - x / y * y) :: st) M Q) : WP G d mi pc ls (.int y :: .int x :: st) M Q := by
  subst hp
  exact wp_step (fun p e R s m args below meth c H locs arr Qf cells slots F X L B K => lv_irem F.1 F.2.1 hd hne (K arr L)) k
theorem w_ladd {G : Gx} {d : Nat} {mi : MI} {pc pc' : Nat} {ls : LsT} {st : List Value} {M : Mm} {Q : Rv → Mm → Prop} {x y : Int64} (hd : decode mi.2.1 pc = .ok (.ladd, 1)) (hp : pc + 1 = pc') (k : WP G d mi pc' ls (.long (x + y) :: st) M Q) : WP G d mi pc ls (.long y :: .long x :: st) M Q := by
  subst hp
  exact wp_step (fun p e R s m args below meth c H locs arr Qf cells slots F X L B K => lv_ladd F.1 F.2.1 hd (K arr L)) k
theorem w_lmul {G : Gx} {d : Nat} {mi : MI} {pc pc' : Nat} {ls : LsT} {st : List Value} {M : Mm} {Q : Rv → Mm → Prop} {x y : Int64} (hd : decode mi.2.1 pc = .ok (.lmul, 1)) (hp : pc + 1 = pc') (k : WP G d mi pc' ls (.long (x * y) :: st) M Q) : WP G d mi pc ls (.long y :: .long x :: st) M Q := by
  subst hp
  exact wp_step (fun p e R s m args below meth c H locs arr Qf cells slots F X L B K => lv_lmul F.1 F.2.1 hd (K arr L)) k
theorem w_ineg {G : Gx} {d : Nat} {mi : MI} {pc pc' : Nat} {ls : LsT} {st : List Value} {M : Mm} {Q : Rv → Mm → Prop} {x : Int32} (hd : decode mi.2.1 pc = .ok (.ineg, 1)) (hp : pc + 1 = pc') (k : WP G d mi pc' ls (.int (-x) :: st) M Q) : WP G d mi pc ls (.int x :: st) M Q := by
  subst hp
  exact wp_step (fun p e R s m args below meth c H locs arr Qf cells slots F X L B K => lv_ineg F.1 F.2.1 hd (K arr L)) k
theorem w_i2l {G : Gx} {d : Nat} {mi : MI} {pc pc' : Nat} {ls : LsT} {st : List Value} {M : Mm} {Q : Rv → Mm → Prop} {x : Int32} (hd : decode mi.2.1 pc = .ok (.i2l, 1)) (hp : pc + 1 = pc') (k : WP G d mi pc' ls (.long x.toInt64 :: st) M Q) : WP G d mi pc ls (.int x :: st) M Q := by
  subst hp
  exact wp_step (fun p e R s m args below meth c H locs arr Qf cells slots F X L B K => lv_i2l F.1 F.2.1 hd rfl (K arr L)) k
theorem w_i2c {G : Gx} {d : Nat} {mi : MI} {pc pc' : Nat} {ls : LsT} {st : List Value} {M : Mm} {Q : Rv → Mm → Prop} {x : Int32} (hd : decode mi.2.1 pc = .ok (.i2c, 1)) (hp : pc + 1 = pc') (k : WP G d mi pc' ls (.int (x.toUInt32 % 65536).toInt32 :: st) M Q) : WP G d mi pc ls (.int x :: st) M Q := by
  subst hp
  exact wp_step (fun p e R s m args below meth c H locs arr Qf cells slots F X L B K => lv_i2c F.1 F.2.1 hd rfl (K arr L)) k
theorem w_i2f {G : Gx} {d : Nat} {mi : MI} {pc pc' : Nat} {ls : LsT} {st : List Value} {M : Mm} {Q : Rv → Mm → Prop} {x : Int32} (hd : decode mi.2.1 pc = .ok (.i2f, 1)) (hp : pc + 1 = pc') (k : WP G d mi pc' ls (.float (FP.i2f x) :: st) M Q) : WP G d mi pc ls (.int x :: st) M Q := by
  subst hp
  exact wp_step (fun p e R s m args below meth c H locs arr Qf cells slots F X L B K => lv_i2f F.1 F.2.1 hd (K arr L)) k
theorem w_i2d {G : Gx} {d : Nat} {mi : MI} {pc pc' : Nat} {ls : LsT} {st : List Value} {M : Mm} {Q : Rv → Mm → Prop} {x : Int32} (hd : decode mi.2.1 pc = .ok (.i2d, 1)) (hp : pc + 1 = pc') (k : WP G d mi pc' ls (.double (FP.i2d x) :: st) M Q) : WP G d mi pc ls (.int x :: st) M Q := by
  subst hp
  exact wp_step (fun p e R s m args below meth c H locs arr Qf cells slots F X L B K => lv_i2d F.1 F.2.1 hd (K arr L)) k
theorem w_fdiv {G : Gx} {d : Nat} {mi : MI} {pc pc' : Nat} {ls : LsT} {st : List Value} {M : Mm} {Q : Rv → Mm → Prop} {x y : UInt32} (hd : decode mi.2.1 pc = .ok (.fdiv, 1)) (hne : vf_n32 (FP.fdiv x y)) (hp : pc + 1 = pc') (k : WP G d mi pc' ls (.float (FP.fdiv x y) :: st) M Q) : WP G d mi pc ls (.float y :: .float x :: st) M Q := by
  subst hp
  exact wp_step (fun p e R s m args below meth c H locs arr Qf cells slots F X L B K => lv_fdiv F.1 F.2.1 hd hne (K arr L)) k
theorem w_ddiv {G : Gx} {d : Nat} {mi : MI} {pc pc' : Nat} {ls : LsT} {st : List Value} {M : Mm} {Q : Rv → Mm → Prop} {x y : UInt64} (hd : decode mi.2.1 pc = .ok (.ddiv, 1)) (hne : vf_n64 (FP.ddiv x y)) (hp : pc + 1 = pc') (k : WP G d mi pc' ls (.double (FP.ddiv x y) :: st) M Q) : WP G d mi pc ls (.double y :: .double x :: st) M Q := by
  subst hp
  exact wp_step (fun p e R s m args below meth c H locs arr Qf cells slots F X L B K => lv_ddiv F.1 F.2.1 hd hne (K arr L)) k
theorem w_f2d {G : Gx} {d : Nat} {mi : MI} {pc pc' : Nat} {ls : LsT} {st : List Value} {M : Mm} {Q : Rv → Mm → Prop} {x : UInt32} (hd : decode mi.2.1 pc = .ok (.f2d, 1)) (hne : vf_n64 (FP.f2d x)) (hp : pc + 1 = pc') (k : WP G d mi pc' ls (.double (FP.f2d x) :: st) M Q) : WP G d mi pc ls (.float x :: st) M Q := by
  subst hp
  exact wp_step (fun p e R s m args below meth c H locs arr Qf cells slots F X L B K => lv_f2d F.1 F.2.1 hd hne (K arr L)) k
theorem w_fcmp {G : Gx} {d : Nat} {mi : MI} {pc pc' : Nat} {ls : LsT} {st : List Value} {M : Mm} {Q : Rv → Mm → Prop} {x y : UInt32} {op : CmpOp} (hd : decode mi.2.1 pc = .ok (.fcmp op, 1)) (hp : pc + 1 = pc') (k : WP G d mi pc' ls (.int (Op.cmpValue (FP.fcmp x y) op) :: st) M Q) : WP G d mi pc ls (.float y :: .float x :: st) M Q := by
  subst hp
  exact wp_step (fun p e R s m args below meth c H locs arr Qf cells slots F X L B K => lv_fcmp F.1 F.2.1 hd (K arr L)) k
theorem w_dcmp {G : Gx} {d : Nat} {mi : MI} {pc pc' : Nat} {ls : LsT} {st : List Value} {M : Mm} {Q : Rv → Mm → Prop} {x y : UInt64} {op : CmpOp} (hd : decode mi.2.1 pc = .ok (.dcmp op, 1)) (hp : pc + 1 = pc') (k : WP G d mi pc' ls (.int (Op.cmpValue (FP.dcmp x y) op) :: st) M Q) : WP G d mi pc ls (.double y :: .double x :: st) M Q := by
  subst hp
  exact wp_step (fun p e R s m args below meth c H locs arr Qf cells slots F X L B K => lv_dcmp F.1 F.2.1 hd (K arr L)) k
theorem w_lcmp {G : Gx} {d : Nat} {mi : MI} {pc pc' : Nat} {ls : LsT} {st : List Value} {M : Mm} {Q : Rv → Mm → Prop} {x y : Int64} (hd : decode mi.2.1 pc = .ok (.lcmp, 1)) (hp : pc + 1 = pc') (k : WP G d mi pc' ls (.int (lg_cmp x y) :: st) M Q) : WP G d mi pc ls (.long y :: .long x :: st) M Q := by
  subst hp
  exact wp_step (fun p e R s m args below meth c H locs arr Qf cells slots F X L B K => W.lcmp F.1 F.2.1 hd (K arr L)) k
theorem w_iconst {G : Gx} {d : Nat} {mi : MI} {pc pc' : Nat} {ls : LsT} {st : List Value} {M : Mm} {Q : Rv → Mm → Prop} {n : Int} {v : Int32} (hd : decode mi.2.1 pc = .ok (.iconst n, 1)) (hv : Int32.ofInt n = v) (hp : pc + 1 = pc') (k : WP G d mi pc' ls (.int v :: st) M Q) : WP G d mi pc ls (st) M Q := by
  subst hp
  exact wp_step (fun p e R s m args below meth c H locs arr Qf cells slots F X L B K => lv_iconst F.1 F.2.1 hd hv (K arr L)) k
theorem w_bipush {G : Gx} {d : Nat} {mi : MI} {pc pc' : Nat} {ls : LsT} {st : List Value} {M : Mm} {Q : Rv → Mm → Prop} {n : Int} {v : Int32} (hd : decode mi.2.1 pc = .ok (.bipush n, 2)) (hv : (Int8.ofInt n).toInt32 = v) (hp : pc + 2 = pc') (k : WP G d mi pc' ls (.int v :: st) M Q) : WP G d mi pc ls (st) M Q := by
  subst hp
  exact wp_step (fun p e R s m args below meth c H locs arr Qf cells slots F X L B K => lv_bipush F.1 F.2.1 hd hv (K arr L)) k
theorem w_sipush {G : Gx} {d : Nat} {mi : MI} {pc pc' : Nat} {ls : LsT} {st : List Value} {M : Mm} {Q : Rv → Mm → Prop} {n : Int} {v : Int32} (hd : decode mi.2.1 pc = .ok (.sipush n, 3)) (hv : (Int16.ofInt n).toInt32 = v) (hp : pc + 3 = pc') (k : WP G d mi pc' ls (.int v :: st) M Q) : WP G d mi pc ls (st) M Q := by
  subst hp
  exact wp_step (fun p e R s m args below meth c H locs arr Qf cells slots F X L B K => lv_sipush F.1 F.2.1 hd hv (K arr L)) k
theorem w_lconst {G : Gx} {d : Nat} {mi : MI} {pc pc' : Nat} {ls : LsT} {st : List Value} {M : Mm} {Q : Rv → Mm → Prop} {n : Fin 2} {v : Int64} (hd : decode mi.2.1 pc = .ok (.lconst n, 1)) (hv : Int64.ofNat (n : Nat) = v) (hp : pc + 1 = pc') (k : WP G d mi pc' ls (.long v :: st) M Q) : WP G d mi pc ls (st) M Q := by
  subst hp
  exact wp_step (fun p e R s m args below meth c H locs arr Qf cells slots F X L B K => lv_lconst F.1 F.2.1 hd hv (K arr L)) k
theorem w_fconst0 {G : Gx} {d : Nat} {mi : MI} {pc pc' : Nat} {ls : LsT} {st : List Value} {M : Mm} {Q : Rv → Mm → Prop}  (hd : decode mi.2.1 pc = .ok (.fconst 0, 1)) (hp : pc + 1 = pc') (k : WP G d mi pc' ls (.float 0 :: st) M Q) : WP G d mi pc ls (st) M Q := by
  subst hp
  exact wp_step (fun p e R s m args below meth c H locs arr Qf cells slots F X L B K => lv_fconst0 F.1 F.2.1 hd (K arr L)) k
theorem w_dconst0 {G : Gx} {d : Nat} {mi : MI} {pc pc' : Nat} {ls : LsT} {st : List Value} {M : Mm} {Q : Rv → Mm → Prop}  (hd : decode mi.2.1 pc = .ok (.dconst 0, 1)) (hp : pc + 1 = pc') (k : WP G d mi pc' ls (.double 0 :: st) M Q) : WP G d mi pc ls (st) M Q := by
  subst hp
  exact wp_step (fun p e R s m args below meth c H locs arr Qf cells slots F X L B K => lv_dconst0 F.1 F.2.1 hd (K arr L)) k
theorem w_dup {G : Gx} {d : Nat} {mi : MI} {pc pc' : Nat} {ls : LsT} {st : List Value} {M : Mm} {Q : Rv → Mm → Prop} {v : Value} (hd : decode mi.2.1 pc = .ok (.dup, 1)) (hv : v.category = 1) (hp : pc + 1 = pc') (k : WP G d mi pc' ls (v :: v :: st) M Q) : WP G d mi pc ls (v :: st) M Q := by
  subst hp
  exact wp_step (fun p e R s m args below meth c H locs arr Qf cells slots F X L B K => lv_dup F.1 F.2.1 hd (by rw [amV_cat]; exact hv) (K arr L)) k
theorem w_pop {G : Gx} {d : Nat} {mi : MI} {pc pc' : Nat} {ls : LsT} {st : List Value} {M : Mm} {Q : Rv → Mm → Prop} {v : Value} (hd : decode mi.2.1 pc = .ok (.pop, 1)) (hv : v.category = 1) (hp : pc + 1 = pc') (k : WP G d mi pc' ls (st) M Q) : WP G d mi pc ls (v :: st) M Q := by
  subst hp
  exact wp_step (fun p e R s m args below meth c H locs arr Qf cells slots F X L B K => lv_pop F.1 F.2.1 hd (by rw [amV_cat]; exact hv) (K arr L)) k
theorem w_dup2 {G : Gx} {d : Nat} {mi : MI} {pc pc' : Nat} {ls : LsT} {st : List Value} {M : Mm} {Q : Rv → Mm → Prop} {v w : Value} (hd : decode mi.2.1 pc = .ok (.dup2, 1)) (hv : v.category = 1) (hw : w.category = 1) (hp : pc + 1 = pc') (k : WP G d mi pc' ls (v :: w :: v :: w :: st) M Q) : WP G d mi pc ls (v :: w :: st) M Q := by
  subst hp
  exact wp_step (fun p e R s m args below meth c H locs arr Qf cells slots F X L B K => lv_dup2_11 F.1 F.2.1 hd (by rw [amV_cat]; exact hv) (by rw [amV_cat]; exact hw) (K arr L)) k
theorem w_iload_n {G : Gx} {d : Nat} {mi : MI} {pc pc' : Nat} {ls : LsT} {st : List Value} {M : Mm} {Q : Rv → Mm → Prop} {k : Fin 4} {x : Int32} (hd : decode mi.2.1 pc = .ok (.iload_n k, 1)) (hl : ls[(k : Nat)]? = some (some (.int x))) (hp : pc + 1 = pc') (kk : WP G d mi pc' ls (.int x :: st) M Q) : WP G d mi pc ls st M Q := by
  subst hp
  exact wp_step (fun p e R s m args below meth c H locs arr Qf cells slots F X L B K => lv_iload_n F.1 F.2.1 hd rfl (L.2.2 _ _ hl) (K arr L)) kk
theorem w_iload {G : Gx} {d : Nat} {mi : MI} {pc pc' : Nat} {ls : LsT} {st : List Value} {M : Mm} {Q : Rv → Mm → Prop} {i : Nat} {x : Int32} (hd : decode mi.2.1 pc = .ok (.iload i, 2)) (hl : ls[i]? = some (some (.int x))) (hp : pc + 2 = pc') (kk : WP G d mi pc' ls (.int x :: st) M Q) : WP G d mi pc ls st M Q := by
  subst hp
  exact wp_step (fun p e R s m args below meth c H locs arr Qf cells slots F X L B K => lv_iload F.1 F.2.1 hd (L.2.2 _ _ hl) (K arr L)) kk
theorem w_lload_n {G : Gx} {d : Nat} {mi : MI} {pc pc' : Nat} {ls : LsT} {st : List Value} {M : Mm} {Q : Rv → Mm → Prop} {k : Fin 4} {x : Int64} (hd : decode mi.2.1 pc = .ok (.lload_n k, 1)) (hl : ls[(k : Nat)]? = some (some (.long x))) (hp : pc + 1 = pc') (kk : WP G d mi pc' ls (.long x :: st) M Q) : WP G d mi pc ls st M Q := by
  subst hp
  exact wp_step (fun p e R s m args below meth c H locs arr Qf cells slots F X L B K => lv_lload_n F.1 F.2.1 hd rfl (L.2.2 _ _ hl) (K arr L)) kk
theorem w_lload {G : Gx} {d : Nat} {mi : MI} {pc pc' : Nat} {ls : LsT} {st : List Value} {M : Mm} {Q : Rv → Mm → Prop} {i : Nat} {x : Int64} (hd : decode mi.2.1 pc = .ok (.lload i, 2)) (hl : ls[i]? = some (some (.long x))) (hp : pc + 2 = pc') (kk : WP G d mi pc' ls (.long x :: st) M Q) : WP G d mi pc ls st M Q := by
  subst hp
  exact wp_step (fun p e R s m args below meth c H locs arr Qf cells slots F X L B K => lv_lload F.1 F.2.1 hd (L.2.2 _ _ hl) (K arr L)) kk
theorem w_aload_n {G : Gx} {d : Nat} {mi : MI} {pc pc' : Nat} {ls : LsT} {st : List Value} {M : Mm} {Q : Rv → Mm → Prop} {k : Fin 4} {x : Nat} (hd : decode mi.2.1 pc = .ok (.aload_n k, 1)) (hl : ls[(k : Nat)]? = some (some (.ref x))) (hp : pc + 1 = pc') (kk : WP G d mi pc' ls (.ref x :: st) M Q) : WP G d mi pc ls st M Q := by
  subst hp
  exact wp_step (fun p e R s m args below meth c H locs arr Qf cells slots F X L B K => lv_aload_n F.1 F.2.1 hd rfl (L.2.2 _ _ hl) (K arr L)) kk
theorem w_aload {G : Gx} {d : Nat} {mi : MI} {pc pc' : Nat} {ls : LsT} {st : List Value} {M : Mm} {Q : Rv → Mm → Prop} {i : Nat} {x : Nat} (hd : decode mi.2.1 pc = .ok (.aload i, 2)) (hl : ls[i]? = some (some (.ref x))) (hp : pc + 2 = pc') (kk : WP G d mi pc' ls (.ref x :: st) M Q) : WP G d mi pc ls st M Q := by
  subst hp
  exact wp_step (fun p e R s m args below meth c H locs arr Qf cells slots F X L B K => lv_aload F.1 F.2.1 hd (L.2.2 _ _ hl) (K arr L)) kk
theorem w_fload_n {G : Gx} {d : Nat} {mi : MI} {pc pc' : Nat} {ls : LsT} {st : List Value} {M : Mm} {Q : Rv → Mm → Prop} {k : Fin 4} {x : UInt32} (hd : decode mi.2.1 pc = .ok (.fload_n k, 1)) (hl : ls[(k : Nat)]? = some (some (.float x))) (hp : pc + 1 = pc') (kk : WP G d mi pc' ls (.float x :: st) M Q) : WP G d mi pc ls st M Q := by
  subst hp
  exact wp_step (fun p e R s m args below meth c H locs arr Qf cells slots F X L B K => lv_fload_n F.1 F.2.1 hd rfl (L.2.2 _ _ hl) (K arr L)) kk
theorem w_fload {G : Gx} {d : Nat} {mi : MI} {pc pc' : Nat} {ls : LsT} {st : List Value} {M : Mm} {Q : Rv → Mm → Prop} {i : Nat} {x : UInt32} (hd : decode mi.2.1 pc = .ok (.fload i, 2)) (hl : ls[i]? = some (some (.float x))) (hp : pc + 2 = pc') (kk : WP G d mi pc' ls (.float x :: st) M Q) : WP G d mi pc ls st M Q := by
  subst hp
  exact wp_step (fun p e R s m args below meth c H locs arr Qf cells slots F X L B K => lv_fload F.1 F.2.1 hd (L.2.2 _ _ hl) (K arr L)) kk
theorem w_dload_n {G : Gx} {d : Nat} {mi : MI} {pc pc' : Nat} {ls : LsT} {st : List Value} {M : Mm} {Q : Rv → Mm → Prop} {k : Fin 4} {x : UInt64} (hd : decode mi.2.1 pc = .ok (.dload_n k, 1)) (hl : ls[(k : Nat)]? = some (some (.double x))) (hp : pc + 1 = pc') (kk : WP G d mi pc' ls (.double x :: st) M Q) : WP G d mi pc ls st M Q := by
  subst hp
  exact wp_step (fun p e R s m args below meth c H locs arr Qf cells slots F X L B K => lv_dload_n F.1 F.2.1 hd rfl (L.2.2 _ _ hl) (K arr L)) kk
theorem w_dload {G : Gx} {d : Nat} {mi : MI} {pc pc' : Nat} {ls : LsT} {st : List Value} {M : Mm} {Q : Rv → Mm → Prop} {i : Nat} {x : UInt64} (hd : decode mi.2.1 pc = .ok (.dload i, 2)) (hl : ls[i]? = some (some (.double x))) (hp : pc + 2 = pc') (kk : WP G d mi pc' ls (.double x :: st) M Q) : WP G d mi pc ls st M Q := by
  subst hp
  exact wp_step (fun p e R s m args below meth c H locs arr Qf cells slots F X L B K => lv_dload F.1 F.2.1 hd (L.2.2 _ _ hl) (K arr L)) kk
theorem w_istore_n {G : Gx} {d : Nat} {mi : MI} {pc pc' : Nat} {ls ls' : LsT} {st : List Value} {M : Mm} {Q : Rv → Mm → Prop} {k : Fin 4} {x : Int32} (hd : decode mi.2.1 pc = .ok (.istore_n k, 1)) (hn : (k : Nat) < mi.2.2.1) (hl : amS1 ls k (.int x) = ls') (hp : pc + 1 = pc') (kk : WP G d mi pc' ls' st M Q) : WP G d mi pc ls (.int x :: st) M Q := by
  subst hp
  subst hl
  exact wp_step (fun p e R s m args below meth c H locs arr Qf cells slots F X L B K => lv_istore_n F.1 F.2.1 hd rfl (amL_has L) hn rfl (fun arr' h' => K arr' (amL_s1 (v := .int x) L h'))) kk
theorem w_istore {G : Gx} {d : Nat} {mi : MI} {pc pc' : Nat} {ls ls' : LsT} {st : List Value} {M : Mm} {Q : Rv → Mm → Prop} {i : Nat} {x : Int32} (hd : decode mi.2.1 pc = .ok (.istore i, 2)) (hn : i < mi.2.2.1) (hl : amS1 ls i (.int x) = ls') (hp : pc + 2 = pc') (kk : WP G d mi pc' ls' st M Q) : WP G d mi pc ls (.int x :: st) M Q := by
  subst hp
  subst hl
  exact wp_step (fun p e R s m args below meth c H locs arr Qf cells slots F X L B K => lv_istore F.1 F.2.1 hd (amL_has L) hn rfl (fun arr' h' => K arr' (amL_s1 (v := .int x) L h'))) kk
theorem w_lstore_n {G : Gx} {d : Nat} {mi : MI} {pc pc' : Nat} {ls ls' : LsT} {st : List Value} {M : Mm} {Q : Rv → Mm → Prop} {k : Fin 4} {x : Int64} (hd : decode mi.2.1 pc = .ok (.lstore_n k, 1)) (hn : (k : Nat) + 1 < mi.2.2.1) (hl : amS2 ls k (.long x) = ls') (hp : pc + 1 = pc') (kk : WP G d mi pc' ls' st M Q) : WP G d mi pc ls (.long x :: st) M Q := by
  subst hp
  subst hl
  exact wp_step (fun p e R s m args below meth c H locs arr Qf cells slots F X L B K => lv_lstore_n F.1 F.2.1 hd rfl (amL_has L) hn rfl (fun arr' h' => K arr' (amL_s2 (v := .long x) L h'))) kk
theorem w_lstore {G : Gx} {d : Nat} {mi : MI} {pc pc' : Nat} {ls ls' : LsT} {st : List Value} {M : Mm} {Q : Rv → Mm → Prop} {i : Nat} {x : Int64} (hd : decode mi.2.1 pc = .ok (.lstore i, 2)) (hn : i + 1 < mi.2.2.1) (hl : amS2 ls i (.long x) = ls') (hp : pc + 2 = pc') (kk : WP G d mi pc' ls' st M Q) : WP G d mi pc ls (.long x :: st) M Q := by
  subst hp
  subst hl
  exact wp_step (fun p e R s m args below meth c H locs arr Qf cells slots F X L B K => lv_lstore F.1 F.2.1 hd (amL_has L) hn rfl (fun arr' h' => K arr' (amL_s2 (v := .long x) L h'))) kk
theorem w_astore_n {G : Gx} {d : Nat} {mi : MI} {pc pc' : Nat} {ls ls' : LsT} {st : List Value} {M : Mm} {Q : Rv → Mm → Prop} {k : Fin 4} {x : Nat} (hd : decode mi.2.1 pc = .ok (.astore_n k, 1)) (hn : (k : Nat) < mi.2.2.1) (hl : amS1 ls k (.ref x) = ls') (hp : pc + 1 = pc') (kk : WP G d mi pc' ls' st M Q) : WP G d mi pc ls (.ref x :: st) M Q := by
  subst hp
  subst hl
  exact wp_step (fun p e R s m args below meth c H locs arr Qf cells slots F X L B K => lv_astore_n F.1 F.2.1 hd rfl (amL_has L) hn rfl (fun arr' h' => K arr' (amL_s1 (v := .ref x) L h'))) kk
theorem w_astore {G : Gx} {d : Nat} {mi : MI} {pc pc' : Nat} {ls ls' : LsT} {st : List Value} {M : Mm} {Q : Rv → Mm → Prop} {i : Nat} {x : Nat} (hd : decode mi.2.1 pc = .ok (.astore i, 2)) (hn : i < mi.2.2.1) (hl : amS1 ls i (.ref x) = ls') (hp : pc + 2 = pc') (kk : WP G d mi pc' ls' st M Q) : WP G d mi pc ls (.ref x :: st) M Q := by
  subst hp
  subst hl
  exact wp_step (fun p e R s m args below meth c H locs arr Qf cells slots F X L B K => lv_astore F.1 F.2.1 hd (amL_has L) hn rfl (fun arr' h' => K arr' (amL_s1 (v := .ref x) L h'))) kk
theorem w_fstore_n {G : Gx} {d : Nat} {mi : MI} {pc pc' : Nat} {ls ls' : LsT} {st : List Value} {M : Mm} {Q : Rv → Mm → Prop} {k : Fin 4} {x : UInt32} (hd : decode mi.2.1 pc = .ok (.fstore_n k, 1)) (hn : (k : Nat) < mi.2.2.1) (hl : amS1 ls k (.float x) = ls') (hp : pc + 1 = pc') (kk : WP G d mi pc' ls' st M Q) : WP G d mi pc ls (.float x :: st) M Q := by
  subst hp
  subst hl
  exact wp_step (fun p e R s m args below meth c H locs arr Qf cells slots F X L B K => lv_fstore_n F.1 F.2.1 hd rfl (amL_has L) hn rfl (fun arr' h' => K arr' (amL_s1 (v := .float x) L h'))) kk
theorem w_fstore {G : Gx} {d : Nat} {mi : MI} {pc pc' : Nat} {ls ls' : LsT} {st : List Value} {M : Mm} {Q : Rv → Mm → Prop} {i : Nat} {x : UInt32} (hd : decode mi.2.1 pc = .ok (.fstore i, 2)) (hn : i < mi.2.2.1) (hl : amS1 ls i (.float x) = ls') (hp : pc + 2 = pc') (kk : WP G d mi pc' ls' st M Q) : WP G d mi pc ls (.float x :: st) M Q := by
  subst hp
  subst hl
  exact wp_step (fun p e R s m args below meth c H locs arr Qf cells slots F X L B K => lv_fstore F.1 F.2.1 hd (amL_has L) hn rfl (fun arr' h' => K arr' (amL_s1 (v := .float x) L h'))) kk
theorem w_dstore_n {G : Gx} {d : Nat} {mi : MI} {pc pc' : Nat} {ls ls' : LsT} {st : List Value} {M : Mm} {Q : Rv → Mm → Prop} {k : Fin 4} {x : UInt64} (hd : decode mi.2.1 pc = .ok (.dstore_n k, 1)) (hn : (k : Nat) + 1 < mi.2.2.1) (hl : amS2 ls k (.double x) = ls') (hp : pc + 1 = pc') (kk : WP G d mi pc' ls' st M Q) : WP G d mi pc ls (.double x :: st) M Q := by
  subst hp
  subst hl
  exact wp_step (fun p e R s m args below meth c H locs arr Qf cells slots F X L B K => lv_dstore_n F.1 F.2.1 hd rfl (amL_has L) hn rfl (fun arr' h' => K arr' (amL_s2 (v := .double x) L h'))) kk
theorem w_dstore {G : Gx} {d : Nat} {mi : MI} {pc pc' : Nat} {ls ls' : LsT} {st : List Value} {M : Mm} {Q : Rv → Mm → Prop} {i : Nat} {x : UInt64} (hd : decode mi.2.1 pc = .ok (.dstore i, 2)) (hn : i + 1 < mi.2.2.1) (hl : amS2 ls i (.double x) = ls') (hp : pc + 2 = pc') (kk : WP G d mi pc' ls' st M Q) : WP G d mi pc ls (.double x :: st) M Q := by
  subst hp
  subst hl
  exact wp_step (fun p e R s m args below meth c H locs arr Qf cells slots F X L B K => lv_dstore F.1 F.2.1 hd (amL_has L) hn rfl (fun arr' h' => K arr' (amL_s2 (v := .double x) L h'))) kk
theorem w_iinc {G : Gx} {d : Nat} {mi : MI} {pc pc' : Nat} {ls ls' : LsT} {st : List Value} {M : Mm} {Q : Rv → Mm → Prop} {i : Nat} {n : Int} {x v : Int32} (hd : decode mi.2.1 pc = .ok (.iinc i n, 3)) (hx : ls[i]? = some (some (.int x))) (hv : x + Int32.ofInt n = v) (hn : i < mi.2.2.1) (hl : amS1 ls i (.int v) = ls') (hp : pc + 3 = pc') (kk : WP G d mi pc' ls' st M Q) : WP G d mi pc ls st M Q := by
  subst hp
  subst hl
  refine wp_step (fun p e R s m args below meth c H locs arr Qf cells slots F X L B K => ?_) kk
  have hm := amL_mem (G := G) hx hn
  obtain ⟨q, hq⟩ := List.getElem?_of_mem hm
  exact lv_iinc F.1 F.2.1 hd (amL_has L) hq hv hn rfl (fun arr' h' => K arr' (amL_s1 (v := .int v) L h'))
theorem w_if_eq {G : Gx} {d : Nat} {mi : MI} {pc pc' tgt : Nat} {off : Int} {ls : LsT} {st : List Value} {M : Mm} {Q : Rv → Mm → Prop} {x : Int32} (hd : decode mi.2.1 pc = .ok (.ifCond .eq off, 3)) (ht : (pc : Int) + off = (tgt : Int)) (hp : pc + 3 = pc') (k : if x = 0 then WP G d mi tgt ls st M Q else WP G d mi pc' ls st M Q) : WP G d mi pc ls (.int x :: st) M Q := by
  subst hp
  by_cases h : x = 0
  · rw [if_pos h] at k
    exact wp_step (fun p e R s m args below meth c H locs arr Qf cells slots F X L B K => lv_if_eq F.1 F.2.1 hd ht (fun _ => K arr L) (fun z => absurd h z)) k
  · rw [if_neg h] at k
    exact wp_step (fun p e R s m args below meth c H locs arr Qf cells slots F X L B K => lv_if_eq F.1 F.2.1 hd ht (fun z => absurd z h) (fun _ => K arr L)) k
theorem w_icmp_eq {G : Gx} {d : Nat} {mi : MI} {pc pc' tgt : Nat} {off : Int} {ls : LsT} {st : List Value} {M : Mm} {Q : Rv → Mm → Prop} {x y : Int32} (hd : decode mi.2.1 pc = .ok (.if_icmp .eq off, 3)) (ht : (pc : Int) + off = (tgt : Int)) (hp : pc + 3 = pc') (k : if x = y then WP G d mi tgt ls st M Q else WP G d mi pc' ls st M Q) : WP G d mi pc ls (.int y :: .int x :: st) M Q := by
  subst hp
  by_cases h : x = y
  · rw [if_pos h] at k
    exact wp_step (fun p e R s m args below meth c H locs arr Qf cells slots F X L B K => lv_icmp_eq F.1 F.2.1 hd ht (fun _ => K arr L) (fun z => absurd h z)) k
  · rw [if_neg h] at k
    exact wp_step (fun p e R s m args below meth c H locs arr Qf cells slots F X L B K => lv_icmp_eq F.1 F.2.1 hd ht (fun z => absurd z h) (fun _ => K arr L)) k
theorem w_if_ne {G : Gx} {d : Nat} {mi : MI} {pc pc' tgt : Nat} {off : Int} {ls : LsT} {st : List Value} {M : Mm} {Q : Rv → Mm → Prop} {x : Int32} (hd : decode mi.2.1 pc = .ok (.ifCond .ne off, 3)) (ht : (pc : Int) + off = (tgt : Int)) (hp : pc + 3 = pc') (k : if x = 0 then WP G d mi pc' ls st M Q else WP G d mi tgt ls st M Q) : WP G d mi pc ls (.int x :: st) M Q := by
  subst hp
  by_cases h : x = 0
  · rw [if_pos h] at k
    exact wp_step (fun p e R s m args below meth c H locs arr Qf cells slots F X L B K => lv_if_ne F.1 F.2.1 hd ht (fun z => absurd h z) (fun _ => K arr L)) k
  · rw [if_neg h] at k
    exact wp_step (fun p e R s m args below meth c H locs arr Qf cells slots F X L B K => lv_if_ne F.1 F.2.1 hd ht (fun _ => K arr L) (fun z => absurd z h)) k
theorem w_icmp_ne {G : Gx} {d : Nat} {mi : MI} {pc pc' tgt : Nat} {off : Int} {ls : LsT} {st : List Value} {M : Mm} {Q : Rv → Mm → Prop} {x y : Int32} (hd : decode mi.2.1 pc = .ok (.if_icmp .ne off, 3)) (ht : (pc : Int) + off = (tgt : Int)) (hp : pc + 3 = pc') (k : if x = y then WP G d mi pc' ls st M Q else WP G d mi tgt ls st M Q) : WP G d mi pc ls (.int y :: .int x :: st) M Q := by
  subst hp
  by_cases h : x = y
  · rw [if_pos h] at k
    exact wp_step (fun p e R s m args below meth c H locs arr Qf cells slots F X L B K => lv_icmp_ne F.1 F.2.1 hd ht (fun z => absurd h z) (fun _ => K arr L)) k
  · rw [if_neg h] at k
    exact wp_step (fun p e R s m args below meth c H locs arr Qf cells slots F X L B K => lv_icmp_ne F.1 F.2.1 hd ht (fun _ => K arr L) (fun z => absurd z h)) k
theorem w_if_lt {G : Gx} {d : Nat} {mi : MI} {pc pc' tgt : Nat} {off : Int} {ls : LsT} {st : List Value} {M : Mm} {Q : Rv → Mm → Prop} {x : Int32} (hd : decode mi.2.1 pc = .ok (.ifCond .lt off, 3)) (ht : (pc : Int) + off = (tgt : Int)) (hp : pc + 3 = pc') (k : if x < 0 then WP G d mi tgt ls st M Q else WP G d mi pc' ls st M Q) : WP G d mi pc ls (.int x :: st) M Q := by
  subst hp
  by_cases h : x < 0
  · rw [if_pos h] at k
    exact wp_step (fun p e R s m args below meth c H locs arr Qf cells slots F X L B K => lv_if_lt F.1 F.2.1 hd ht (fun _ => K arr L) (fun z => absurd h z)) k
  · rw [if_neg h] at k
    exact wp_step (fun p e R s m args below meth c H locs arr Qf cells slots F X L B K => lv_if_lt F.1 F.2.1 hd ht (fun z => absurd z h) (fun _ => K arr L)) k
theorem w_icmp_lt {G : Gx} {d : Nat} {mi : MI} {pc pc' tgt : Nat} {off : Int} {ls : LsT} {st : List Value} {M : Mm} {Q : Rv → Mm → Prop} {x y : Int32} (hd : decode mi.2.1 pc = .ok (.if_icmp .lt off, 3)) (ht : (pc : Int) + off = (tgt : Int)) (hp : pc + 3 = pc') (k : if x < y then WP G d mi tgt ls st M Q else WP G d mi pc' ls st M Q) : WP G d mi pc ls (.int y :: .int x :: st) M Q := by
  subst hp
  by_cases h : x < y
  · rw [if_pos h] at k
    exact wp_step (fun p e R s m args below meth c H locs arr Qf cells slots F X L B K => lv_icmp_lt F.1 F.2.1 hd ht (fun _ => K arr L) (fun z => absurd h z)) k
  · rw [if_neg h] at k
    exact wp_step (fun p e R s m args below meth c H locs arr Qf cells slots F X L B K => lv_icmp_lt F.1 F.2.1 hd ht (fun z => absurd z h) (fun _ => K arr L)) k
theorem w_if_ge {G : Gx} {d : Nat} {mi : MI} {pc pc' tgt : Nat} {off : Int} {ls : LsT} {st : List Value} {M : Mm} {Q : Rv → Mm → Prop} {x : Int32} (hd : decode mi.2.1 pc = .ok (.ifCond .ge off, 3)) (ht : (pc : Int) + off = (tgt : Int)) (hp : pc + 3 = pc') (k : if 0 ≤ x then WP G d mi tgt ls st M Q else WP G d mi pc' ls st M Q) : WP G d mi pc ls (.int x :: st) M Q := by
  subst hp
  by_cases h : 0 ≤ x
  · rw [if_pos h] at k
    exact wp_step (fun p e R s m args below meth c H locs arr Qf cells slots F X L B K => lv_if_ge F.1 F.2.1 hd ht (fun _ => K arr L) (fun z => absurd h z)) k
  · rw [if_neg h] at k
    exact wp_step (fun p e R s m args below meth c H locs arr Qf cells slots F X L B K => lv_if_ge F.1 F.2.1 hd ht (fun z => absurd z h) (fun _ => K arr L)) k
theorem w_icmp_ge {G : Gx} {d : Nat} {mi : MI} {pc pc' tgt : Nat} {off : Int} {ls : LsT} {st : List Value} {M : Mm} {Q : Rv → Mm → Prop} {x y : Int32} (hd : decode mi.2.1 pc = .ok (.if_icmp .ge off, 3)) (ht : (pc : Int) + off = (tgt : Int)) (hp : pc + 3 = pc') (k : if y ≤ x then WP G d mi tgt ls st M Q else WP G d mi pc' ls st M Q) : WP G d mi pc ls (.int y :: .int x :: st) M Q := by
  subst hp
  by_cases h : y ≤ x
  · rw [if_pos h] at k
    exact wp_step (fun p e R s m args below meth c H locs arr Qf cells slots F X L B K => lv_icmp_ge F.1 F.2.1 hd ht (fun _ => K arr L) (fun z => absurd h z)) k
  · rw [if_neg h] at k
    exact wp_step (fun p e R s m args below meth c H locs arr Qf cells slots F X L B K => lv_icmp_ge F.1 F.2.1 hd ht (fun z => absurd z h) (fun _ => K arr L)) k
theorem w_if_gt {G : Gx} {d : Nat} {mi : MI} {pc pc' tgt : Nat} {off : Int} {ls : LsT} {st : List Value} {M : Mm} {Q : Rv → Mm → Prop} {x : Int32} (hd : decode mi.2.1 pc = .ok (.ifCond .gt off, 3)) (ht : (pc : Int) + off = (tgt : Int)) (hp : pc + 3 = pc') (k : if 0 < x then WP G d mi tgt ls st M Q else WP G d mi pc' ls st M Q) : WP G d mi pc ls (.int x :: st) M Q := by
  subst hp
  by_cases h : 0 < x
  · rw [if_pos h] at k
    exact wp_step (fun p e R s m args below meth c H locs arr Qf cells slots F X L B K => lv_if_gt F.1 F.2.1 hd ht (fun _ => K arr L) (fun z => absurd h z)) k
  · rw [if_neg h] at k
    exact wp_step (fun p e R s m args below meth c H locs arr Qf cells slots F X L B K => lv_if_gt F.1 F.2.1 hd ht (fun z => absurd z h) (fun _ => K arr L)) k
theorem w_icmp_gt {G : Gx} {d : Nat} {mi : MI} {pc pc' tgt : Nat} {off : Int} {ls : LsT} {st : List Value} {M : Mm} {Q : Rv → Mm → Prop} {x y : Int32} (hd : decode mi.2.1 pc = .ok (.if_icmp .gt off, 3)) (ht : (pc : Int) + off = (tgt : Int)) (hp : pc + 3 = pc') (k : if y < x then WP G d mi tgt ls st M Q else WP G d mi pc' ls st M Q) : WP G d mi pc ls (.int y :: .int x :: st) M Q := by
  subst hp
  by_cases h : y < x
  · rw [if_pos h] at k
    exact wp_step (fun p e R s m args below meth c H locs arr Qf cells slots F X L B K => lv_icmp_gt F.1 F.2.1 hd ht (fun _ => K arr L) (fun z => absurd h z)) k
  · rw [if_neg h] at k
    exact wp_step (fun p e R s m args below meth c H locs arr Qf cells slots F X L B K => lv_icmp_gt F.1 F.2.1 hd ht (fun z => absurd z h) (fun _ => K arr L)) k
theorem w_if_le {G : Gx} {d : Nat} {mi : MI} {pc pc' tgt : Nat} {off : Int} {ls : LsT} {st : List Value} {M : Mm} {Q : Rv → Mm → Prop} {x : Int32} (hd : decode mi.2.1 pc = .ok (.ifCond .le off, 3)) (ht : (pc : Int) + off = (tgt : Int)) (hp : pc + 3 = pc') (k : if x ≤ 0 then WP G d mi tgt ls st M Q else WP G d mi pc' ls st M Q) : WP G d mi pc ls (.int x :: st) M Q := by
  subst hp
  by_cases h : x ≤ 0
  · rw [if_pos h] at k
    exact wp_step (fun p e R s m args below meth c H locs arr Qf cells slots F X L B K => lv_if_le F.1 F.2.1 hd ht (fun _ => K arr L) (fun z => absurd h z)) k
  · rw [if_neg h] at k
    exact wp_step (fun p e R s m args below meth c H locs arr Qf cells slots F X L B K => lv_if_le F.1 F.2.1 hd ht (fun z => absurd z h) (fun _ => K arr L)) k
theorem w_icmp_le {G : Gx} {d : Nat} {mi : MI} {pc pc' tgt : Nat} {off : Int} {ls : LsT} {st : List Value} {M : Mm} {Q : Rv → Mm → Prop} {x y : Int32} (hd : decode mi.2.1 pc = .ok (.if_icmp .le off, 3)) (ht : (pc : Int) + off = (tgt : Int)) (hp : pc + 3 = pc') (k : if x ≤ y then WP G d mi tgt ls st M Q else WP G d mi pc' ls st M Q) : WP G d mi pc ls (.int y :: .int x :: st) M Q := by
  subst hp
  by_cases h : x ≤ y
  · rw [if_pos h] at k
    exact wp_step (fun p e R s m args below meth c H locs arr Qf cells slots F X L B K => lv_icmp_le F.1 F.2.1 hd ht (fun _ => K arr L) (fun z => absurd h z)) k
  · rw [if_neg h] at k
    exact wp_step (fun p e R s m args below meth c H locs arr Qf cells slots F X L B K => lv_icmp_le F.1 F.2.1 hd ht (fun z => absurd z h) (fun _ => K arr L)) k
theorem w_goto {G : Gx} {d : Nat} {mi : MI} {pc pc' tgt : Nat} {off : Int} {ls : LsT} {st : List Value} {M : Mm} {Q : Rv → Mm → Prop} (hd : decode mi.2.1 pc = .ok (.goto off, 3)) (ht : (pc : Int) + off = (tgt : Int)) (k : WP G d mi tgt ls st M Q) : WP G d mi pc ls st M Q := wp_step (fun p e R s m args below meth c H locs arr Qf cells slots F X L B K => lv_goto F.1 F.2.1 hd ht (K arr L)) k
theorem w_tabOut {G : Gx} {d : Nat} {mi : MI} {pc tgt len : Nat} {ls : LsT} {st : List Value} {M : Mm} {Q : Rv → Mm → Prop} {dflt lo hi : Int} {offs : Array Int} {x : Int32} (hd : decode mi.2.1 pc = .ok (.tableswitch dflt lo hi offs, len)) (h : x.toInt < lo ∨ hi < x.toInt) (ht : (pc : Int) + dflt = (tgt : Int)) (k : WP G d mi tgt ls st M Q) : WP G d mi pc ls (.int x :: st) M Q := wp_step (fun p e R s m args below meth c H locs arr Qf cells slots F X L B K => lv_tableOut F.1 F.2.1 hd h ht (K arr L)) k
theorem w_tabIn {G : Gx} {d : Nat} {mi : MI} {pc tgt len : Nat} {ls : LsT} {st : List Value} {M : Mm} {Q : Rv → Mm → Prop} {dflt lo hi off : Int} {offs : Array Int} {x : Int32} (hd : decode mi.2.1 pc = .ok (.tableswitch dflt lo hi offs, len)) (h1 : ¬ x.toInt < lo) (h2 : ¬ hi < x.toInt) (ho : offs[(x.toInt - lo).toNat]? = some off) (ht : (pc : Int) + off = (tgt : Int)) (k : WP G d mi tgt ls st M Q) : WP G d mi pc ls (.int x :: st) M Q := wp_step (fun p e R s m args below meth c H locs arr Qf cells slots F X L B K => lv_tableIn F.1 F.2.1 hd h1 h2 ho ht (K arr L)) k
