/-! ===== the rules over whole numbers ===== -/
theorem z_iadd {G : Gx} {d : Nat} {mi : MI} {pc pc' : Nat} {ls : LsT} {st : List Value} {Z : Zm} {Q : Rv → Zm → Prop} {x y : Int} (hd : decode mi.2.1 pc = .ok (.iadd, 1)) (hp : pc + 1 = pc') (k : ZP G d mi pc' ls (iv (x + y) :: st) Z Q) : ZP G d mi pc ls (iv y :: iv x :: st) Z Q := w_iadd hd hp (by
  have h := Int32.ofInt_add x y
  unfold ZP iv iN at k
  rw [h] at k
  exact k)
theorem z_isub {G : Gx} {d : Nat} {mi : MI} {pc pc' : Nat} {ls : LsT} {st : List Value} {Z : Zm} {Q : Rv → Zm → Prop} {x y : Int} (hd : decode mi.2.1 pc = .ok (.isub, 1)) (hp : pc + 1 = pc') (k : ZP G d mi pc' ls (iv (x - y) :: st) Z Q) : ZP G d mi pc ls (iv y :: iv x :: st) Z Q := w_isub hd hp (by
  have h := Int32.ofInt_sub x y
  unfold ZP iv iN at k
  rw [h] at k
  exact k)
theorem z_imul {G : Gx} {d : Nat} {mi : MI} {pc pc' : Nat} {ls : LsT} {st : List Value} {Z : Zm} {Q : Rv → Zm → Prop} {x y : Int} (hd : decode mi.2.1 pc = .ok (.imul, 1)) (hp : pc + 1 = pc') (k : ZP G d mi pc' ls (iv (x * y) :: st) Z Q) : ZP G d mi pc ls (iv y :: iv x :: st) Z Q := w_imul hd hp (by
  have h := Int32.ofInt_mul x y
  unfold ZP iv iN at k
  rw [h] at k
  exact k)
theorem z_iand {G : Gx} {d : Nat} {mi : MI} {pc pc' : Nat} {ls : LsT} {st : List Value} {Z : Zm} {Q : Rv → Zm → Prop} {x y : Int} (hd : decode mi.2.1 pc = .ok (.iand, 1)) (hp : pc + 1 = pc') (k : ZP G d mi pc' ls (iv (zand x y) :: st) Z Q) : ZP G d mi pc ls (iv y :: iv x :: st) Z Q := w_iand hd hp (by
  unfold ZP iv zand at k
  rw [iN_toInt_id] at k
  exact k)
theorem z_ior {G : Gx} {d : Nat} {mi : MI} {pc pc' : Nat} {ls : LsT} {st : List Value} {Z : Zm} {Q : Rv → Zm → Prop} {x y : Int} (hd : decode mi.2.1 pc = .ok (.ior, 1)) (hp : pc + 1 = pc') (k : ZP G d mi pc' ls (iv (zor x y) :: st) Z Q) : ZP G d mi pc ls (iv y :: iv x :: st) Z Q := w_ior hd hp (by
  unfold ZP iv zor at k
  rw [iN_toInt_id] at k
  exact k)
theorem z_ixor {G : Gx} {d : Nat} {mi : MI} {pc pc' : Nat} {ls : LsT} {st : List Value} {Z : Zm} {Q : Rv → Zm → Prop} {x y : Int} (hd : decode mi.2.1 pc = .ok (.ixor, 1)) (hp : pc + 1 = pc') (k : ZP G d mi pc' ls (iv (zxor x y) :: st) Z Q) : ZP G d mi pc ls (iv y :: iv x :: st) Z Q := w_ixor hd hp (by
  unfold ZP iv zxor at k
  rw [iN_toInt_id] at k
  exact k)
theorem z_ishl {G : Gx} {d : Nat} {mi : MI} {pc pc' : Nat} {ls : LsT} {st : List Value} {Z : Zm} {Q : Rv → Zm → Prop} {x y : Int} (hd : decode mi.2.1 pc = .ok (.ishl, 1)) (hp : pc + 1 = pc') (k : ZP G d mi pc' ls (iv (zshl x y) :: st) Z Q) : ZP G d mi pc ls (iv y :: iv x :: st) Z Q := w_ishl hd hp (by
  unfold ZP iv zshl at k
  rw [iN_toInt_id] at k
  exact k)
theorem z_ishr {G : Gx} {d : Nat} {mi : MI} {pc pc' : Nat} {ls : LsT} {st : List Value} {Z : Zm} {Q : Rv → Zm → Prop} {x y : Int} (hd : decode mi.2.1 pc = .ok (.ishr, 1)) (hp : pc + 1 = pc') (k : ZP G d mi pc' ls (iv (zshr x y) :: st) Z Q) : ZP G d mi pc ls (iv y :: iv x :: st) Z Q := w_ishr hd hp (by
  unfold ZP iv zshr at k
  rw [iN_toInt_id] at k
  exact k)
theorem z_ineg {G : Gx} {d : Nat} {mi : MI} {pc pc' : Nat} {ls : LsT} {st : List Value} {Z : Zm} {Q : Rv → Zm → Prop} {x : Int} (hd : decode mi.2.1 pc = .ok (.ineg, 1)) (hp : pc + 1 = pc') (k : ZP G d mi pc' ls (iv (-x) :: st) Z Q) : ZP G d mi pc ls (iv x :: st) Z Q := w_ineg hd hp (by
  have h := Int32.ofInt_neg x
  unfold ZP iv iN at k
  rw [h] at k
  exact k)
theorem iN_div {x y : Int} (hx : R32 x) (hy : R32 y) (h0 : 0 ≤ x) (h1 : 0 < y) : iN x / iN y = iN (x / y) := by
  have h2 : (iN y) ≠ -1 := by
    intro h
    have := congrArg Int32.toInt h
    rw [iN_toInt hy] at this
    have h3 : (-1 : Int32).toInt = -1 := by decide
    omega
  have h4 : 0 ≤ x / y := Int.ediv_nonneg h0 (Int.le_of_lt h1)
  have h5 : x / y ≤ x := Int.ediv_le_self y h0
  rw [← Int32.toInt_inj, Int32.toInt_div_of_ne_right _ _ h2, iN_toInt hx, iN_toInt hy, iN_toInt ⟨by omega, by omega⟩, Int.tdiv_eq_ediv_of_nonneg h0]
theorem iN_rem {x y : Int} (hx : R32 x) (hy : R32 y) (h0 : 0 ≤ x) (h1 : 0 < y) : iN x - iN x / iN y * iN y = iN (x % y) := by
  rw [iN_div hx hy h0 h1]
  unfold iN
  rw [← Int32.ofInt_mul, ← Int32.ofInt_sub, Int.emod_def, Int.mul_comm]
theorem iN_ne0 {y : Int} (hy : R32 y) (h1 : 0 < y) : ¬ iN y = 0 := by
  intro h
  have h2 := (iN_eq (y := 0) hy ⟨by omega, by omega⟩).mp h
  omega
theorem iN_char (x : Int) : ((iN x).toUInt32 % 65536).toInt32 = iN (x % 65536) := by
  have h1 : (iN x).toUInt32.toNat = (x % 4294967296).toNat := by
    show (BitVec.ofInt 32 x).toNat = _
    rw [BitVec.toNat_ofInt]
    rfl
  have h2 : ((iN x).toUInt32 % 65536).toNat = (x % 65536).toNat := by
    rw [UInt32.toNat_mod, h1]
    have : (65536 : UInt32).toNat = 65536 := by decide
    rw [this]
    omega
  have h3 : ((iN x).toUInt32 % 65536).toInt32.toInt = x % 65536 := by
    have h4 : ((iN x).toUInt32 % 65536).toNat < 65536 := by omega
    show (BitVec.toInt _) = _
    rw [BitVec.toInt_eq_toNat_of_lt]
    · show (((iN x).toUInt32 % 65536).toNat : Int) = _
      rw [h2]
      omega
    · show 2 * ((iN x).toUInt32 % 65536).toNat < _
      omega
  rw [← Int32.toInt_inj, h3, iN_toInt ⟨by omega, by omega⟩]
theorem jN_of {x : Int} (h : R32 x) : (iN x).toInt64 = jN x := by
  rw [← Int64.toInt_inj, Int32.toInt_toInt64, iN_toInt h, jN_toInt ⟨by omega, by omega⟩]
theorem jN_cmp {x y : Int} (hx : R64 x) (hy : R64 y) : lg_cmp (jN x) (jN y) = iN (zcmp x y) := by
  have e1 : (jN y < jN x) = (y < x) := by rw [Int64.lt_iff_toInt_lt, jN_toInt hx, jN_toInt hy]
  have e2 : (jN x = jN y) = (x = y) := by rw [← Int64.toInt_inj, jN_toInt hx, jN_toInt hy]
  unfold lg_cmp zcmp
  simp only [GT.gt, e1, e2]
  by_cases h1 : y < x
  · rw [if_pos h1, if_neg (by omega), if_neg (by omega)]
    rfl
  · rw [if_neg h1]
    by_cases h2 : x = y
    · rw [if_pos h2, if_neg (by omega), if_pos h2]
      rfl
    · rw [if_neg h2, if_pos (by omega)]
      rfl
theorem z_idiv {G : Gx} {d : Nat} {mi : MI} {pc pc' : Nat} {ls : LsT} {st : List Value} {Z : Zm} {Q : Rv → Zm → Prop} {x y : Int} (hd : decode mi.2.1 pc = .ok (.idiv, 1)) (hx : R32 x) (hy : R32 y) (h0 : 0 ≤ x) (h1 : 0 < y) (hp : pc + 1 = pc') (k : ZP G d mi pc' ls (iv (x / y) :: st) Z Q) : ZP G d mi pc ls (iv y :: iv x :: st) Z Q := w_idiv hd (iN_ne0 hy h1) hp (by
  rw [iN_div hx hy h0 h1]
  exact k)
theorem z_irem {G : Gx} {d : Nat} {mi : MI} {pc pc' : Nat} {ls : LsT} {st : List Value} {Z : Zm} {Q : Rv → Zm → Prop} {x y : Int} (hd : decode mi.2.1 pc = .ok (.irem, 1)) (hx : R32 x) (hy : R32 y) (h0 : 0 ≤ x) (h1 : 0 < y) (hp : pc + 1 = pc') (k : ZP G d mi pc' ls (iv (x % y) :: st) Z Q) : ZP G d mi pc ls (iv y :: iv x :: st) Z Q := w_irem hd (iN_ne0 hy h1) hp (by
  rw [iN_rem hx hy h0 h1]
  exact k)
theorem z_ladd {G : Gx} {d : Nat} {mi : MI} {pc pc' : Nat} {ls : LsT} {st : List Value} {Z : Zm} {Q : Rv → Zm → Prop} {x y : Int} (hd : decode mi.2.1 pc = .ok (.ladd, 1)) (hp : pc + 1 = pc') (k : ZP G d mi pc' ls (jv (x + y) :: st) Z Q) : ZP G d mi pc ls (jv y :: jv x :: st) Z Q := w_ladd hd hp (by
  have h := Int64.ofInt_add x y
  unfold ZP jv jN at k
  rw [h] at k
  exact k)
theorem z_lmul {G : Gx} {d : Nat} {mi : MI} {pc pc' : Nat} {ls : LsT} {st : List Value} {Z : Zm} {Q : Rv → Zm → Prop} {x y : Int} (hd : decode mi.2.1 pc = .ok (.lmul, 1)) (hp : pc + 1 = pc') (k : ZP G d mi pc' ls (jv (x * y) :: st) Z Q) : ZP G d mi pc ls (jv y :: jv x :: st) Z Q := w_lmul hd hp (by
  have h := Int64.ofInt_mul x y
  unfold ZP jv jN at k
  rw [h] at k
  exact k)
theorem z_i2l {G : Gx} {d : Nat} {mi : MI} {pc pc' : Nat} {ls : LsT} {st : List Value} {Z : Zm} {Q : Rv → Zm → Prop} {x : Int} (hd : decode mi.2.1 pc = .ok (.i2l, 1)) (hx : R32 x) (hp : pc + 1 = pc') (k : ZP G d mi pc' ls (jv x :: st) Z Q) : ZP G d mi pc ls (iv x :: st) Z Q := w_i2l hd hp (by
  rw [jN_of hx]
  exact k)
theorem z_i2c {G : Gx} {d : Nat} {mi : MI} {pc pc' : Nat} {ls : LsT} {st : List Value} {Z : Zm} {Q : Rv → Zm → Prop} {x : Int} (hd : decode mi.2.1 pc = .ok (.i2c, 1)) (hp : pc + 1 = pc') (k : ZP G d mi pc' ls (iv (x % 65536) :: st) Z Q) : ZP G d mi pc ls (iv x :: st) Z Q := w_i2c hd hp (by
  rw [iN_char]
  exact k)
theorem z_i2f {G : Gx} {d : Nat} {mi : MI} {pc pc' : Nat} {ls : LsT} {st : List Value} {Z : Zm} {Q : Rv → Zm → Prop} {x : Int} (hd : decode mi.2.1 pc = .ok (.i2f, 1)) (hp : pc + 1 = pc') (k : ZP G d mi pc' ls (.float (FP.i2f (iN x)) :: st) Z Q) : ZP G d mi pc ls (iv x :: st) Z Q := w_i2f hd hp k
theorem z_i2d {G : Gx} {d : Nat} {mi : MI} {pc pc' : Nat} {ls : LsT} {st : List Value} {Z : Zm} {Q : Rv → Zm → Prop} {x : Int} (hd : decode mi.2.1 pc = .ok (.i2d, 1)) (hp : pc + 1 = pc') (k : ZP G d mi pc' ls (.double (FP.i2d (iN x)) :: st) Z Q) : ZP G d mi pc ls (iv x :: st) Z Q := w_i2d hd hp k
theorem z_fdiv {G : Gx} {d : Nat} {mi : MI} {pc pc' : Nat} {ls : LsT} {st : List Value} {Z : Zm} {Q : Rv → Zm → Prop} {x y : UInt32} (hd : decode mi.2.1 pc = .ok (.fdiv, 1)) (hne : vf_n32 (FP.fdiv x y)) (hp : pc + 1 = pc') (k : ZP G d mi pc' ls (.float (FP.fdiv x y) :: st) Z Q) : ZP G d mi pc ls (.float y :: .float x :: st) Z Q := w_fdiv hd hne hp k
theorem z_ddiv {G : Gx} {d : Nat} {mi : MI} {pc pc' : Nat} {ls : LsT} {st : List Value} {Z : Zm} {Q : Rv → Zm → Prop} {x y : UInt64} (hd : decode mi.2.1 pc = .ok (.ddiv, 1)) (hne : vf_n64 (FP.ddiv x y)) (hp : pc + 1 = pc') (k : ZP G d mi pc' ls (.double (FP.ddiv x y) :: st) Z Q) : ZP G d mi pc ls (.double y :: .double x :: st) Z Q := w_ddiv hd hne hp k
theorem z_f2d {G : Gx} {d : Nat} {mi : MI} {pc pc' : Nat} {ls : LsT} {st : List Value} {Z : Zm} {Q : Rv → Zm → Prop} {x : UInt32} (hd : decode mi.2.1 pc = .ok (.f2d, 1)) (hne : vf_n64 (FP.f2d x)) (hp : pc + 1 = pc') (k : ZP G d mi pc' ls (.double (FP.f2d x) :: st) Z Q) : ZP G d mi pc ls (.float x :: st) Z Q := w_f2d hd hne hp k
def zfcmp (x y : UInt32) (op : CmpOp) : Int := (Op.cmpValue (FP.fcmp x y) op).toInt
def zdcmp (x y : UInt64) (op : CmpOp) : Int := (Op.cmpValue (FP.dcmp x y) op).toInt
theorem z_fcmp {G : Gx} {d : Nat} {mi : MI} {pc pc' : Nat} {ls : LsT} {st : List Value} {Z : Zm} {Q : Rv → Zm → Prop} {x y : UInt32} {op : CmpOp} (hd : decode mi.2.1 pc = .ok (.fcmp op, 1)) (hp : pc + 1 = pc') (k : ZP G d mi pc' ls (iv (zfcmp x y op) :: st) Z Q) : ZP G d mi pc ls (.float y :: .float x :: st) Z Q := w_fcmp hd hp (by
  unfold ZP iv zfcmp at k
  rw [iN_toInt_id] at k
  exact k)
theorem z_dcmp {G : Gx} {d : Nat} {mi : MI} {pc pc' : Nat} {ls : LsT} {st : List Value} {Z : Zm} {Q : Rv → Zm → Prop} {x y : UInt64} {op : CmpOp} (hd : decode mi.2.1 pc = .ok (.dcmp op, 1)) (hp : pc + 1 = pc') (k : ZP G d mi pc' ls (iv (zdcmp x y op) :: st) Z Q) : ZP G d mi pc ls (.double y :: .double x :: st) Z Q := w_dcmp hd hp (by
  unfold ZP iv zdcmp at k
  rw [iN_toInt_id] at k
  exact k)
theorem z_lcmp {G : Gx} {d : Nat} {mi : MI} {pc pc' : Nat} {ls : LsT} {st : List Value} {Z : Zm} {Q : Rv → Zm → Prop} {x y : Int} (hd : decode mi.2.1 pc = .ok (.lcmp, 1)) (hx : R64 x) (hy : R64 y) (hp : pc + 1 = pc') (k : ZP G d mi pc' ls (iv (zcmp x y) :: st) Z Q) : ZP G d mi pc ls (jv y :: jv x :: st) Z Q := w_lcmp hd hp (by
  rw [jN_cmp hx hy]
  exact k)
theorem z_iconst {G : Gx} {d : Nat} {mi : MI} {pc pc' : Nat} {ls : LsT} {st : List Value} {Z : Zm} {Q : Rv → Zm → Prop} {n : Int} (hd : decode mi.2.1 pc = .ok (.iconst n, 1)) (hp : pc + 1 = pc') (k : ZP G d mi pc' ls (iv n :: st) Z Q) : ZP G d mi pc ls (st) Z Q := w_iconst hd rfl hp k
theorem z_bipush {G : Gx} {d : Nat} {mi : MI} {pc pc' : Nat} {ls : LsT} {st : List Value} {Z : Zm} {Q : Rv → Zm → Prop} {n : Int} (hd : decode mi.2.1 pc = .ok (.bipush n, 2)) (hv : (Int8.ofInt n).toInt32 = iN n) (hp : pc + 2 = pc') (k : ZP G d mi pc' ls (iv n :: st) Z Q) : ZP G d mi pc ls (st) Z Q := w_bipush hd hv hp k
theorem z_sipush {G : Gx} {d : Nat} {mi : MI} {pc pc' : Nat} {ls : LsT} {st : List Value} {Z : Zm} {Q : Rv → Zm → Prop} {n : Int} (hd : decode mi.2.1 pc = .ok (.sipush n, 3)) (hv : (Int16.ofInt n).toInt32 = iN n) (hp : pc + 3 = pc') (k : ZP G d mi pc' ls (iv n :: st) Z Q) : ZP G d mi pc ls (st) Z Q := w_sipush hd hv hp k
theorem z_lconst {G : Gx} {d : Nat} {mi : MI} {pc pc' : Nat} {ls : LsT} {st : List Value} {Z : Zm} {Q : Rv → Zm → Prop} {n : Fin 2} {v : Int} (hd : decode mi.2.1 pc = .ok (.lconst n, 1)) (hv : Int64.ofNat (n : Nat) = jN v) (hp : pc + 1 = pc') (k : ZP G d mi pc' ls (jv v :: st) Z Q) : ZP G d mi pc ls (st) Z Q := w_lconst hd hv hp k
theorem z_fconst0 {G : Gx} {d : Nat} {mi : MI} {pc pc' : Nat} {ls : LsT} {st : List Value} {Z : Zm} {Q : Rv → Zm → Prop}  (hd : decode mi.2.1 pc = .ok (.fconst 0, 1)) (hp : pc + 1 = pc') (k : ZP G d mi pc' ls (.float 0 :: st) Z Q) : ZP G d mi pc ls (st) Z Q := w_fconst0 hd hp k
theorem z_dconst0 {G : Gx} {d : Nat} {mi : MI} {pc pc' : Nat} {ls : LsT} {st : List Value} {Z : Zm} {Q : Rv → Zm → Prop}  (hd : decode mi.2.1 pc = .ok (.dconst 0, 1)) (hp : pc + 1 = pc') (k : ZP G d mi pc' ls (.double 0 :: st) Z Q) : ZP G d mi pc ls (st) Z Q := w_dconst0 hd hp k
theorem z_dup {G : Gx} {d : Nat} {mi : MI} {pc pc' : Nat} {ls : LsT} {st : List Value} {Z : Zm} {Q : Rv → Zm → Prop} {v : Value} (hd : decode mi.2.1 pc = .ok (.dup, 1)) (hv : v.category = 1) (hp : pc + 1 = pc') (k : ZP G d mi pc' ls (v :: v :: st) Z Q) : ZP G d mi pc ls (v :: st) Z Q := w_dup hd hv hp k
theorem z_pop {G : Gx} {d : Nat} {mi : MI} {pc pc' : Nat} {ls : LsT} {st : List Value} {Z : Zm} {Q : Rv → Zm → Prop} {v : Value} (hd : decode mi.2.1 pc = .ok (.pop, 1)) (hv : v.category = 1) (hp : pc + 1 = pc') (k : ZP G d mi pc' ls (st) Z Q) : ZP G d mi pc ls (v :: st) Z Q := w_pop hd hv hp k
theorem z_dup2 {G : Gx} {d : Nat} {mi : MI} {pc pc' : Nat} {ls : LsT} {st : List Value} {Z : Zm} {Q : Rv → Zm → Prop} {v w : Value} (hd : decode mi.2.1 pc = .ok (.dup2, 1)) (hv : v.category = 1) (hw : w.category = 1) (hp : pc + 1 = pc') (k : ZP G d mi pc' ls (v :: w :: v :: w :: st) Z Q) : ZP G d mi pc ls (v :: w :: st) Z Q := w_dup2 hd hv hw hp k
theorem z_iload_n {G : Gx} {d : Nat} {mi : MI} {pc pc' : Nat} {ls : LsT} {st : List Value} {Z : Zm} {Q : Rv → Zm → Prop} {j : Fin 4} {x : Int} (hd : decode mi.2.1 pc = .ok (.iload_n j, 1)) (hl : ls[(j : Nat)]? = some (some (iv x))) (hp : pc + 1 = pc') (k : ZP G d mi pc' ls (iv x :: st) Z Q) : ZP G d mi pc ls (st) Z Q := w_iload_n hd hl hp k
theorem z_iload {G : Gx} {d : Nat} {mi : MI} {pc pc' : Nat} {ls : LsT} {st : List Value} {Z : Zm} {Q : Rv → Zm → Prop} {j : Nat} {x : Int} (hd : decode mi.2.1 pc = .ok (.iload j, 2)) (hl : ls[j]? = some (some (iv x))) (hp : pc + 2 = pc') (k : ZP G d mi pc' ls (iv x :: st) Z Q) : ZP G d mi pc ls (st) Z Q := w_iload hd hl hp k
theorem z_istore_n {G : Gx} {d : Nat} {mi : MI} {pc pc' : Nat} {ls ls' : LsT} {st : List Value} {Z : Zm} {Q : Rv → Zm → Prop} {j : Fin 4} {x : Int} (hd : decode mi.2.1 pc = .ok (.istore_n j, 1)) (hn : ((j : Nat)) < mi.2.2.1) (hl : amS1 ls j (iv x) = ls') (hp : pc + 1 = pc') (k : ZP G d mi pc' ls' (st) Z Q) : ZP G d mi pc ls (iv x :: st) Z Q := w_istore_n hd hn hl hp k
theorem z_istore {G : Gx} {d : Nat} {mi : MI} {pc pc' : Nat} {ls ls' : LsT} {st : List Value} {Z : Zm} {Q : Rv → Zm → Prop} {j : Nat} {x : Int} (hd : decode mi.2.1 pc = .ok (.istore j, 2)) (hn : j < mi.2.2.1) (hl : amS1 ls j (iv x) = ls') (hp : pc + 2 = pc') (k : ZP G d mi pc' ls' (st) Z Q) : ZP G d mi pc ls (iv x :: st) Z Q := w_istore hd hn hl hp k
theorem z_lload_n {G : Gx} {d : Nat} {mi : MI} {pc pc' : Nat} {ls : LsT} {st : List Value} {Z : Zm} {Q : Rv → Zm → Prop} {j : Fin 4} {x : Int} (hd : decode mi.2.1 pc = .ok (.lload_n j, 1)) (hl : ls[(j : Nat)]? = some (some (jv x))) (hp : pc + 1 = pc') (k : ZP G d mi pc' ls (jv x :: st) Z Q) : ZP G d mi pc ls (st) Z Q := w_lload_n hd hl hp k
theorem z_lload {G : Gx} {d : Nat} {mi : MI} {pc pc' : Nat} {ls : LsT} {st : List Value} {Z : Zm} {Q : Rv → Zm → Prop} {j : Nat} {x : Int} (hd : decode mi.2.1 pc = .ok (.lload j, 2)) (hl : ls[j]? = some (some (jv x))) (hp : pc + 2 = pc') (k : ZP G d mi pc' ls (jv x :: st) Z Q) : ZP G d mi pc ls (st) Z Q := w_lload hd hl hp k
theorem z_lstore_n {G : Gx} {d : Nat} {mi : MI} {pc pc' : Nat} {ls ls' : LsT} {st : List Value} {Z : Zm} {Q : Rv → Zm → Prop} {j : Fin 4} {x : Int} (hd : decode mi.2.1 pc = .ok (.lstore_n j, 1)) (hn : ((j : Nat) + 1) < mi.2.2.1) (hl : amS2 ls j (jv x) = ls') (hp : pc + 1 = pc') (k : ZP G d mi pc' ls' (st) Z Q) : ZP G d mi pc ls (jv x :: st) Z Q := w_lstore_n hd hn hl hp k
theorem z_lstore {G : Gx} {d : Nat} {mi : MI} {pc pc' : Nat} {ls ls' : LsT} {st : List Value} {Z : Zm} {Q : Rv → Zm → Prop} {j : Nat} {x : Int} (hd : decode mi.2.1 pc = .ok (.lstore j, 2)) (hn : j + 1 < mi.2.2.1) (hl : amS2 ls j (jv x) = ls') (hp : pc + 2 = pc') (k : ZP G d mi pc' ls' (st) Z Q) : ZP G d mi pc ls (jv x :: st) Z Q := w_lstore hd hn hl hp k
theorem z_aload_n {G : Gx} {d : Nat} {mi : MI} {pc pc' : Nat} {ls : LsT} {st : List Value} {Z : Zm} {Q : Rv → Zm → Prop} {j : Fin 4} {x : Nat} (hd : decode mi.2.1 pc = .ok (.aload_n j, 1)) (hl : ls[(j : Nat)]? = some (some (.ref x))) (hp : pc + 1 = pc') (k : ZP G d mi pc' ls (.ref x :: st) Z Q) : ZP G d mi pc ls (st) Z Q := w_aload_n hd hl hp k
theorem z_aload {G : Gx} {d : Nat} {mi : MI} {pc pc' : Nat} {ls : LsT} {st : List Value} {Z : Zm} {Q : Rv → Zm → Prop} {j : Nat} {x : Nat} (hd : decode mi.2.1 pc = .ok (.aload j, 2)) (hl : ls[j]? = some (some (.ref x))) (hp : pc + 2 = pc') (k : ZP G d mi pc' ls (.ref x :: st) Z Q) : ZP G d mi pc ls (st) Z Q := w_aload hd hl hp k
theorem z_astore_n {G : Gx} {d : Nat} {mi : MI} {pc pc' : Nat} {ls ls' : LsT} {st : List Value} {Z : Zm} {Q : Rv → Zm → Prop} {j : Fin 4} {x : Nat} (hd : decode mi.2.1 pc = .ok (.astore_n j, 1)) (hn : ((j : Nat)) < mi.2.2.1) (hl : amS1 ls j (.ref x) = ls') (hp : pc + 1 = pc') (k : ZP G d mi pc' ls' (st) Z Q) : ZP G d mi pc ls (.ref x :: st) Z Q := w_astore_n hd hn hl hp k
theorem z_astore {G : Gx} {d : Nat} {mi : MI} {pc pc' : Nat} {ls ls' : LsT} {st : List Value} {Z : Zm} {Q : Rv → Zm → Prop} {j : Nat} {x : Nat} (hd : decode mi.2.1 pc = .ok (.astore j, 2)) (hn : j < mi.2.2.1) (hl : amS1 ls j (.ref x) = ls') (hp : pc + 2 = pc') (k : ZP G d mi pc' ls' (st) Z Q) : ZP G d mi pc ls (.ref x :: st) Z Q := w_astore hd hn hl hp k
theorem z_fload_n {G : Gx} {d : Nat} {mi : MI} {pc pc' : Nat} {ls : LsT} {st : List Value} {Z : Zm} {Q : Rv → Zm → Prop} {j : Fin 4} {x : UInt32} (hd : decode mi.2.1 pc = .ok (.fload_n j, 1)) (hl : ls[(j : Nat)]? = some (some (.float x))) (hp : pc + 1 = pc') (k : ZP G d mi pc' ls (.float x :: st) Z Q) : ZP G d mi pc ls (st) Z Q := w_fload_n hd hl hp k
theorem z_fload {G : Gx} {d : Nat} {mi : MI} {pc pc' : Nat} {ls : LsT} {st : List Value} {Z : Zm} {Q : Rv → Zm → Prop} {j : Nat} {x : UInt32} (hd : decode mi.2.1 pc = .ok (.fload j, 2)) (hl : ls[j]? = some (some (.float x))) (hp : pc + 2 = pc') (k : ZP G d mi pc' ls (.float x :: st) Z Q) : ZP G d mi pc ls (st) Z Q := w_fload hd hl hp k
theorem z_fstore_n {G : Gx} {d : Nat} {mi : MI} {pc pc' : Nat} {ls ls' : LsT} {st : List Value} {Z : Zm} {Q : Rv → Zm → Prop} {j : Fin 4} {x : UInt32} (hd : decode mi.2.1 pc = .ok (.fstore_n j, 1)) (hn : ((j : Nat)) < mi.2.2.1) (hl : amS1 ls j (.float x) = ls') (hp : pc + 1 = pc') (k : ZP G d mi pc' ls' (st) Z Q) : ZP G d mi pc ls (.float x :: st) Z Q := w_fstore_n hd hn hl hp k
theorem z_fstore {G : Gx} {d : Nat} {mi : MI} {pc pc' : Nat} {ls ls' : LsT} {st : List Value} {Z : Zm} {Q : Rv → Zm → Prop} {j : Nat} {x : UInt32} (hd : decode mi.2.1 pc = .ok (.fstore j, 2)) (hn : j < mi.2.2.1) (hl : amS1 ls j (.float x) = ls') (hp : pc + 2 = pc') (k : ZP G d mi pc' ls' (st) Z Q) : ZP G d mi pc ls (.float x :: st) Z Q := w_fstore hd hn hl hp k
theorem z_dload_n {G : Gx} {d : Nat} {mi : MI} {pc pc' : Nat} {ls : LsT} {st : List Value} {Z : Zm} {Q : Rv → Zm → Prop} {j : Fin 4} {x : UInt64} (hd : decode mi.2.1 pc = .ok (.dload_n j, 1)) (hl : ls[(j : Nat)]? = some (some (.double x))) (hp : pc + 1 = pc') (k : ZP G d mi pc' ls (.double x :: st) Z Q) : ZP G d mi pc ls (st) Z Q := w_dload_n hd hl hp k
theorem z_dload {G : Gx} {d : Nat} {mi : MI} {pc pc' : Nat} {ls : LsT} {st : List Value} {Z : Zm} {Q : Rv → Zm → Prop} {j : Nat} {x : UInt64} (hd : decode mi.2.1 pc = .ok (.dload j, 2)) (hl : ls[j]? = some (some (.double x))) (hp : pc + 2 = pc') (k : ZP G d mi pc' ls (.double x :: st) Z Q) : ZP G d mi pc ls (st) Z Q := w_dload hd hl hp k
theorem z_dstore_n {G : Gx} {d : Nat} {mi : MI} {pc pc' : Nat} {ls ls' : LsT} {st : List Value} {Z : Zm} {Q : Rv → Zm → Prop} {j : Fin 4} {x : UInt64} (hd : decode mi.2.1 pc = .ok (.dstore_n j, 1)) (hn : ((j : Nat) + 1) < mi.2.2.1) (hl : amS2 ls j (.double x) = ls') (hp : pc + 1 = pc') (k : ZP G d mi pc' ls' (st) Z Q) : ZP G d mi pc ls (.double x :: st) Z Q := w_dstore_n hd hn hl hp k
theorem z_dstore {G : Gx} {d : Nat} {mi : MI} {pc pc' : Nat} {ls ls' : LsT} {st : List Value} {Z : Zm} {Q : Rv → Zm → Prop} {j : Nat} {x : UInt64} (hd : decode mi.2.1 pc = .ok (.dstore j, 2)) (hn : j + 1 < mi.2.2.1) (hl : amS2 ls j (.double x) = ls') (hp : pc + 2 = pc') (k : ZP G d mi pc' ls' (st) Z Q) : ZP G d mi pc ls (.double x :: st) Z Q := w_dstore hd hn hl hp k
theorem z_iinc {G : Gx} {d : Nat} {mi : MI} {pc pc' : Nat} {ls ls' : LsT} {st : List Value} {Z : Zm} {Q : Rv → Zm → Prop} {j : Nat} {n x : Int} (hd : decode mi.2.1 pc = .ok (.iinc j n, 3)) (hx : ls[j]? = some (some (iv x))) (hn : j < mi.2.2.1) (hl : amS1 ls j (iv (x + n)) = ls') (hp : pc + 3 = pc') (k : ZP G d mi pc' ls' (st) Z Q) : ZP G d mi pc ls (st) Z Q := w_iinc hd hx (Int32.ofInt_add x n).symm hn hl hp k
theorem z_if_eq {G : Gx} {d : Nat} {mi : MI} {pc pc' : Nat} {ls : LsT} {st : List Value} {Z : Zm} {Q : Rv → Zm → Prop} {tgt : Nat} {off : Int} {x : Int} (hd : decode mi.2.1 pc = .ok (.ifCond .eq off, 3)) (ht : (pc : Int) + off = (tgt : Int)) (hp : pc + 3 = pc') (hx : R32 x) (k : if x = 0 then ZP G d mi tgt ls st Z Q else ZP G d mi pc' ls st Z Q) : ZP G d mi pc ls (iv x :: st) Z Q := w_if_eq hd ht hp (by
  simp only [show (iN x = 0) = (x = 0) from iN_eq (y := 0) hx ⟨by omega, by omega⟩]
  exact k)
theorem z_if_ne {G : Gx} {d : Nat} {mi : MI} {pc pc' : Nat} {ls : LsT} {st : List Value} {Z : Zm} {Q : Rv → Zm → Prop} {tgt : Nat} {off : Int} {x : Int} (hd : decode mi.2.1 pc = .ok (.ifCond .ne off, 3)) (ht : (pc : Int) + off = (tgt : Int)) (hp : pc + 3 = pc') (hx : R32 x) (k : if x = 0 then ZP G d mi pc' ls st Z Q else ZP G d mi tgt ls st Z Q) : ZP G d mi pc ls (iv x :: st) Z Q := w_if_ne hd ht hp (by
  simp only [show (iN x = 0) = (x = 0) from iN_eq (y := 0) hx ⟨by omega, by omega⟩]
  exact k)
theorem z_if_lt {G : Gx} {d : Nat} {mi : MI} {pc pc' : Nat} {ls : LsT} {st : List Value} {Z : Zm} {Q : Rv → Zm → Prop} {tgt : Nat} {off : Int} {x : Int} (hd : decode mi.2.1 pc = .ok (.ifCond .lt off, 3)) (ht : (pc : Int) + off = (tgt : Int)) (hp : pc + 3 = pc') (hx : R32 x) (k : if x < 0 then ZP G d mi tgt ls st Z Q else ZP G d mi pc' ls st Z Q) : ZP G d mi pc ls (iv x :: st) Z Q := w_if_lt hd ht hp (by
  simp only [show (iN x < 0) = (x < 0) from iN_lt (y := 0) hx ⟨by omega, by omega⟩]
  exact k)
theorem z_if_ge {G : Gx} {d : Nat} {mi : MI} {pc pc' : Nat} {ls : LsT} {st : List Value} {Z : Zm} {Q : Rv → Zm → Prop} {tgt : Nat} {off : Int} {x : Int} (hd : decode mi.2.1 pc = .ok (.ifCond .ge off, 3)) (ht : (pc : Int) + off = (tgt : Int)) (hp : pc + 3 = pc') (hx : R32 x) (k : if 0 ≤ x then ZP G d mi tgt ls st Z Q else ZP G d mi pc' ls st Z Q) : ZP G d mi pc ls (iv x :: st) Z Q := w_if_ge hd ht hp (by
  simp only [show (0 ≤ iN x) = (0 ≤ x) from iN_le (x := 0) ⟨by omega, by omega⟩ hx]
  exact k)
theorem z_if_gt {G : Gx} {d : Nat} {mi : MI} {pc pc' : Nat} {ls : LsT} {st : List Value} {Z : Zm} {Q : Rv → Zm → Prop} {tgt : Nat} {off : Int} {x : Int} (hd : decode mi.2.1 pc = .ok (.ifCond .gt off, 3)) (ht : (pc : Int) + off = (tgt : Int)) (hp : pc + 3 = pc') (hx : R32 x) (k : if 0 < x then ZP G d mi tgt ls st Z Q else ZP G d mi pc' ls st Z Q) : ZP G d mi pc ls (iv x :: st) Z Q := w_if_gt hd ht hp (by
  simp only [show (0 < iN x) = (0 < x) from iN_lt (x := 0) ⟨by omega, by omega⟩ hx]
  exact k)
theorem z_if_le {G : Gx} {d : Nat} {mi : MI} {pc pc' : Nat} {ls : LsT} {st : List Value} {Z : Zm} {Q : Rv → Zm → Prop} {tgt : Nat} {off : Int} {x : Int} (hd : decode mi.2.1 pc = .ok (.ifCond .le off, 3)) (ht : (pc : Int) + off = (tgt : Int)) (hp : pc + 3 = pc') (hx : R32 x) (k : if x ≤ 0 then ZP G d mi tgt ls st Z Q else ZP G d mi pc' ls st Z Q) : ZP G d mi pc ls (iv x :: st) Z Q := w_if_le hd ht hp (by
  simp only [show (iN x ≤ 0) = (x ≤ 0) from iN_le (y := 0) hx ⟨by omega, by omega⟩]
  exact k)
theorem z_icmp_eq {G : Gx} {d : Nat} {mi : MI} {pc pc' : Nat} {ls : LsT} {st : List Value} {Z : Zm} {Q : Rv → Zm → Prop} {tgt : Nat} {off : Int} {x y : Int} (hd : decode mi.2.1 pc = .ok (.if_icmp .eq off, 3)) (ht : (pc : Int) + off = (tgt : Int)) (hp : pc + 3 = pc') (hx : R32 x) (hy : R32 y) (k : if x = y then ZP G d mi tgt ls st Z Q else ZP G d mi pc' ls st Z Q) : ZP G d mi pc ls (iv y :: iv x :: st) Z Q := w_icmp_eq hd ht hp (by
  simp only [iN_eq hx hy]
  exact k)
theorem z_icmp_ne {G : Gx} {d : Nat} {mi : MI} {pc pc' : Nat} {ls : LsT} {st : List Value} {Z : Zm} {Q : Rv → Zm → Prop} {tgt : Nat} {off : Int} {x y : Int} (hd : decode mi.2.1 pc = .ok (.if_icmp .ne off, 3)) (ht : (pc : Int) + off = (tgt : Int)) (hp : pc + 3 = pc') (hx : R32 x) (hy : R32 y) (k : if x = y then ZP G d mi pc' ls st Z Q else ZP G d mi tgt ls st Z Q) : ZP G d mi pc ls (iv y :: iv x :: st) Z Q := w_icmp_ne hd ht hp (by
  simp only [iN_eq hx hy]
  exact k)
theorem z_icmp_lt {G : Gx} {d : Nat} {mi : MI} {pc pc' : Nat} {ls : LsT} {st : List Value} {Z : Zm} {Q : Rv → Zm → Prop} {tgt : Nat} {off : Int} {x y : Int} (hd : decode mi.2.1 pc = .ok (.if_icmp .lt off, 3)) (ht : (pc : Int) + off = (tgt : Int)) (hp : pc + 3 = pc') (hx : R32 x) (hy : R32 y) (k : if x < y then ZP G d mi tgt ls st Z Q else ZP G d mi pc' ls st Z Q) : ZP G d mi pc ls (iv y :: iv x :: st) Z Q := w_icmp_lt hd ht hp (by
  simp only [iN_lt hx hy]
  exact k)
theorem z_icmp_ge {G : Gx} {d : Nat} {mi : MI} {pc pc' : Nat} {ls : LsT} {st : List Value} {Z : Zm} {Q : Rv → Zm → Prop} {tgt : Nat} {off : Int} {x y : Int} (hd : decode mi.2.1 pc = .ok (.if_icmp .ge off, 3)) (ht : (pc : Int) + off = (tgt : Int)) (hp : pc + 3 = pc') (hx : R32 x) (hy : R32 y) (k : if y ≤ x then ZP G d mi tgt ls st Z Q else ZP G d mi pc' ls st Z Q) : ZP G d mi pc ls (iv y :: iv x :: st) Z Q := w_icmp_ge hd ht hp (by
  simp only [iN_le hy hx]
  exact k)
theorem z_icmp_gt {G : Gx} {d : Nat} {mi : MI} {pc pc' : Nat} {ls : LsT} {st : List Value} {Z : Zm} {Q : Rv → Zm → Prop} {tgt : Nat} {off : Int} {x y : Int} (hd : decode mi.2.1 pc = .ok (.if_icmp .gt off, 3)) (ht : (pc : Int) + off = (tgt : Int)) (hp : pc + 3 = pc') (hx : R32 x) (hy : R32 y) (k : if y < x then ZP G d mi tgt ls st Z Q else ZP G d mi pc' ls st Z Q) : ZP G d mi pc ls (iv y :: iv x :: st) Z Q := w_icmp_gt hd ht hp (by
  simp only [iN_lt hy hx]
  exact k)
theorem z_icmp_le {G : Gx} {d : Nat} {mi : MI} {pc pc' : Nat} {ls : LsT} {st : List Value} {Z : Zm} {Q : Rv → Zm → Prop} {tgt : Nat} {off : Int} {x y : Int} (hd : decode mi.2.1 pc = .ok (.if_icmp .le off, 3)) (ht : (pc : Int) + off = (tgt : Int)) (hp : pc + 3 = pc') (hx : R32 x) (hy : R32 y) (k : if x ≤ y then ZP G d mi tgt ls st Z Q else ZP G d mi pc' ls st Z Q) : ZP G d mi pc ls (iv y :: iv x :: st) Z Q := w_icmp_le hd ht hp (by
  simp only [iN_le hx hy]
  exact k)
theorem z_goto {G : Gx} {d : Nat} {mi : MI} {pc : Nat} {ls : LsT} {st : List Value} {Z : Zm} {Q : Rv → Zm → Prop} {tgt : Nat} {off : Int} (hd : decode mi.2.1 pc = .ok (.goto off, 3)) (ht : (pc : Int) + off = (tgt : Int)) (k : ZP G d mi tgt ls st Z Q) : ZP G d mi pc ls st Z Q := w_goto (pc' := pc) hd ht k
theorem z_tabOut {G : Gx} {d : Nat} {mi : MI} {pc tgt len : Nat} {ls : LsT} {st : List Value} {Z : Zm} {Q : Rv → Zm → Prop} {dflt lo hi : Int} {offs : Array Int} {x : Int} (hd : decode mi.2.1 pc = .ok (.tableswitch dflt lo hi offs, len)) (hx : R32 x) (h : x < lo ∨ hi < x) (ht : (pc : Int) + dflt = (tgt : Int)) (k : ZP G d mi tgt ls st Z Q) : ZP G d mi pc ls (iv x :: st) Z Q := w_tabOut hd (by rw [iN_toInt hx]; exact h) ht k
theorem z_tabIn {G : Gx} {d : Nat} {mi : MI} {pc tgt len : Nat} {ls : LsT} {st : List Value} {Z : Zm} {Q : Rv → Zm → Prop} {dflt lo hi off : Int} {offs : Array Int} {x : Int} (hd : decode mi.2.1 pc = .ok (.tableswitch dflt lo hi offs, len)) (hx : R32 x) (h1 : ¬ x < lo) (h2 : ¬ hi < x) (ho : offs[(x - lo).toNat]? = some off) (ht : (pc : Int) + off = (tgt : Int)) (k : ZP G d mi tgt ls st Z Q) : ZP G d mi pc ls (iv x :: st) Z Q := w_tabIn hd (by rw [iN_toInt hx]; exact h1) (by rw [iN_toInt hx]; exact h2) (by rw [iN_toInt hx]; exact ho) ht k
/-- the array a of kind kd has n places -/
def zA (Z : Zm) (a kd n : Nat) : Prop := a < zSz Z ∧ zKd Z a = kd ∧ zLn Z a = n
def zIx (i : Int) (n : Nat) : Prop := 0 ≤ i ∧ i < (n : Int) ∧ n < 2147483648
theorem zIx.r {i : Int} {n : Nat} (h : zIx i n) : R32 i := ⟨by have := h.1; omega, by have := h.2.1; have := h.2.2; omega⟩
theorem zIx.v {i : Int} {n m : Nat} (h : zIx i n) (hm : m = n) : vp_in (iN i) m := by
  subst hm
  exact iN_in h.r h.1 h.2.1
theorem z_iaload {G : Gx} {d : Nat} {mi : MI} {pc pc' : Nat} {ls : LsT} {st : List Value} {Z : Zm} {Q : Rv → Zm → Prop} {a n : Nat} {i : Int} (hd : decode mi.2.1 pc = .ok (.iaload, 1)) (ha : zA Z a 100 n) (hi : zIx i n) (hp : pc + 1 = pc') (k : ZP G d mi pc' ls (iv (zI Z a i.toNat) :: st) Z Q) : ZP G d mi pc ls (iv i :: .ref a :: st) Z Q := w_iaload hd ha.1 ha.2.1 (hi.v ha.2.2) hp (by
  rw [iN_clamp hi.r]
  exact k)
theorem z_caload {G : Gx} {d : Nat} {mi : MI} {pc pc' : Nat} {ls : LsT} {st : List Value} {Z : Zm} {Q : Rv → Zm → Prop} {a n : Nat} {i : Int} (hd : decode mi.2.1 pc = .ok (.caload, 1)) (ha : zA Z a 101 n) (hi : zIx i n) (hp : pc + 1 = pc') (k : ZP G d mi pc' ls (iv (zI Z a i.toNat) :: st) Z Q) : ZP G d mi pc ls (iv i :: .ref a :: st) Z Q := w_caload hd ha.1 ha.2.1 (hi.v ha.2.2) hp (by
  rw [iN_clamp hi.r]
  exact k)
theorem z_baload {G : Gx} {d : Nat} {mi : MI} {pc pc' : Nat} {ls : LsT} {st : List Value} {Z : Zm} {Q : Rv → Zm → Prop} {a n : Nat} {i : Int} (hd : decode mi.2.1 pc = .ok (.baload, 1)) (ha : zA Z a 102 n) (hi : zIx i n) (hp : pc + 1 = pc') (k : ZP G d mi pc' ls (iv (zI Z a i.toNat) :: st) Z Q) : ZP G d mi pc ls (iv i :: .ref a :: st) Z Q := w_baload hd ha.1 ha.2.1 (hi.v ha.2.2) hp (by
  rw [iN_clamp hi.r]
  exact k)
theorem z_laload {G : Gx} {d : Nat} {mi : MI} {pc pc' : Nat} {ls : LsT} {st : List Value} {Z : Zm} {Q : Rv → Zm → Prop} {a n : Nat} {i : Int} (hd : decode mi.2.1 pc = .ok (.laload, 1)) (ha : zA Z a 110 n) (hi : zIx i n) (hp : pc + 1 = pc') (k : ZP G d mi pc' ls (jv (zL Z a i.toNat) :: st) Z Q) : ZP G d mi pc ls (iv i :: .ref a :: st) Z Q := w_laload hd ha.1 ha.2.1 (hi.v ha.2.2) hp (by
  rw [iN_clamp hi.r]
  exact k)
theorem z_daload {G : Gx} {d : Nat} {mi : MI} {pc pc' : Nat} {ls : LsT} {st : List Value} {Z : Zm} {Q : Rv → Zm → Prop} {a n : Nat} {i : Int} (hd : decode mi.2.1 pc = .ok (.daload, 1)) (ha : zA Z a 111 n) (hi : zIx i n) (hp : pc + 1 = pc') (k : ZP G d mi pc' ls (.double (zD Z a i.toNat) :: st) Z Q) : ZP G d mi pc ls (iv i :: .ref a :: st) Z Q := w_daload hd ha.1 ha.2.1 (hi.v ha.2.2) hp (by
  rw [iN_clamp hi.r]
  exact k)
theorem z_aaload120 {G : Gx} {d : Nat} {mi : MI} {pc pc' : Nat} {ls : LsT} {st : List Value} {Z : Zm} {Q : Rv → Zm → Prop} {a n b : Nat} {i : Int} (hd : decode mi.2.1 pc = .ok (.aaload, 1)) (ha : zA Z a 120 n) (hi : zIx i n) (hr : zR Z a i.toNat = some b) (hp : pc + 1 = pc') (k : ZP G d mi pc' ls (.ref b :: st) Z Q) : ZP G d mi pc ls (iv i :: .ref a :: st) Z Q := w_aaload120 hd ha.1 ha.2.1 (hi.v ha.2.2) (by
  rw [iN_clamp hi.r]
  exact hr) hp k
theorem z_aaload121 {G : Gx} {d : Nat} {mi : MI} {pc pc' : Nat} {ls : LsT} {st : List Value} {Z : Zm} {Q : Rv → Zm → Prop} {a n b : Nat} {i : Int} (hd : decode mi.2.1 pc = .ok (.aaload, 1)) (ha : zA Z a 121 n) (hi : zIx i n) (hr : zR Z a i.toNat = some b) (hp : pc + 1 = pc') (k : ZP G d mi pc' ls (.ref b :: st) Z Q) : ZP G d mi pc ls (iv i :: .ref a :: st) Z Q := w_aaload121 hd ha.1 ha.2.1 (hi.v ha.2.2) (by
  rw [iN_clamp hi.r]
  exact hr) hp k
theorem z_aaload122 {G : Gx} {d : Nat} {mi : MI} {pc pc' : Nat} {ls : LsT} {st : List Value} {Z : Zm} {Q : Rv → Zm → Prop} {a n b : Nat} {i : Int} (hd : decode mi.2.1 pc = .ok (.aaload, 1)) (ha : zA Z a 122 n) (hi : zIx i n) (hr : zR Z a i.toNat = some b) (hp : pc + 1 = pc') (k : ZP G d mi pc' ls (.ref b :: st) Z Q) : ZP G d mi pc ls (iv i :: .ref a :: st) Z Q := w_aaload122 hd ha.1 ha.2.1 (hi.v ha.2.2) (by
  rw [iN_clamp hi.r]
  exact hr) hp k
theorem iN_nar_c {x : Int} (h0 : 0 ≤ x) (h1 : x < 65536) : vp_nar .char (iN x) = iN x := by
  have h := iN_char x
  rw [show x % 65536 = x by omega] at h
  exact h
theorem iN_nar_b {x : Int} (h : x = 0 ∨ x = 1) : vp_nar .boolean (iN x) = iN x := by
  rcases h with rfl | rfl <;> rfl
theorem z_iastore {G : Gx} {d : Nat} {mi : MI} {pc pc' : Nat} {ls : LsT} {st : List Value} {Z : Zm} {Q : Rv → Zm → Prop} {a n : Nat} {i x : Int} (hd : decode mi.2.1 pc = .ok (.iastore, 1)) (ha : zA Z a 100 n) (hi : zIx i n) (hp : pc + 1 = pc') (k : ZP G d mi pc' ls (st) (zSI Z a (zu (zI Z a) i.toNat x)) Q) : ZP G d mi pc ls (iv x :: iv i :: .ref a :: st) Z Q := w_iastore hd ha.1 ha.2.1 (hi.v ha.2.2) hp (by
  rw [iN_clamp hi.r, enc_I]
  exact k)
theorem z_castore {G : Gx} {d : Nat} {mi : MI} {pc pc' : Nat} {ls : LsT} {st : List Value} {Z : Zm} {Q : Rv → Zm → Prop} {a n : Nat} {i x : Int} (hd : decode mi.2.1 pc = .ok (.castore, 1)) (ha : zA Z a 101 n) (hi : zIx i n) (h0 : 0 ≤ x) (h1 : x < 65536) (hp : pc + 1 = pc') (k : ZP G d mi pc' ls (st) (zSI Z a (zu (zI Z a) i.toNat x)) Q) : ZP G d mi pc ls (iv x :: iv i :: .ref a :: st) Z Q := w_castore hd ha.1 ha.2.1 (hi.v ha.2.2) (iN_nar_c h0 h1) hp (by
  rw [iN_clamp hi.r, enc_I]
  exact k)
theorem z_bastore {G : Gx} {d : Nat} {mi : MI} {pc pc' : Nat} {ls : LsT} {st : List Value} {Z : Zm} {Q : Rv → Zm → Prop} {a n : Nat} {i x : Int} (hd : decode mi.2.1 pc = .ok (.bastore, 1)) (ha : zA Z a 102 n) (hi : zIx i n) (hx : x = 0 ∨ x = 1) (hp : pc + 1 = pc') (k : ZP G d mi pc' ls (st) (zSI Z a (zu (zI Z a) i.toNat x)) Q) : ZP G d mi pc ls (iv x :: iv i :: .ref a :: st) Z Q := w_bastore hd ha.1 ha.2.1 (hi.v ha.2.2) (iN_nar_b hx) hp (by
  rw [iN_clamp hi.r, enc_I]
  exact k)
theorem z_lastore {G : Gx} {d : Nat} {mi : MI} {pc pc' : Nat} {ls : LsT} {st : List Value} {Z : Zm} {Q : Rv → Zm → Prop} {a n : Nat} {i x : Int} (hd : decode mi.2.1 pc = .ok (.lastore, 1)) (ha : zA Z a 110 n) (hi : zIx i n) (hp : pc + 1 = pc') (k : ZP G d mi pc' ls (st) (zSL Z a (zu (zL Z a) i.toNat x)) Q) : ZP G d mi pc ls (jv x :: iv i :: .ref a :: st) Z Q := w_lastore hd ha.1 ha.2.1 (hi.v ha.2.2) hp (by
  rw [iN_clamp hi.r, enc_L]
  exact k)
theorem z_dastore {G : Gx} {d : Nat} {mi : MI} {pc pc' : Nat} {ls : LsT} {st : List Value} {Z : Zm} {Q : Rv → Zm → Prop} {a n : Nat} {i : Int} {x : UInt64} (hd : decode mi.2.1 pc = .ok (.dastore, 1)) (ha : zA Z a 111 n) (hi : zIx i n) (hp : pc + 1 = pc') (k : ZP G d mi pc' ls (st) (zSD Z a (zu (zD Z a) i.toNat x)) Q) : ZP G d mi pc ls (.double x :: iv i :: .ref a :: st) Z Q := w_dastore hd ha.1 ha.2.1 (hi.v ha.2.2) hp (by
  rw [iN_clamp hi.r, enc_D]
  exact k)
theorem z_aastore120 {G : Gx} {d : Nat} {mi : MI} {pc pc' : Nat} {ls : LsT} {st : List Value} {Z : Zm} {Q : Rv → Zm → Prop} {a n v : Nat} {i : Int} (hd : decode mi.2.1 pc = .ok (.aastore, 1)) (ha : zA Z a 120 n) (hi : zIx i n) (hv : v < zSz Z) (hvk : zKd Z v = 100) (hp : pc + 1 = pc') (k : ZP G d mi pc' ls (st) (zSR Z a (zu (zR Z a) i.toNat (some v))) Q) : ZP G d mi pc ls (.ref v :: iv i :: .ref a :: st) Z Q := w_aastore120 hd ha.1 ha.2.1 (hi.v ha.2.2) hv hvk hp (by
  rw [iN_clamp hi.r, enc_R]
  exact k)
theorem z_aastore122 {G : Gx} {d : Nat} {mi : MI} {pc pc' : Nat} {ls : LsT} {st : List Value} {Z : Zm} {Q : Rv → Zm → Prop} {a n v : Nat} {i : Int} (hd : decode mi.2.1 pc = .ok (.aastore, 1)) (ha : zA Z a 122 n) (hi : zIx i n) (hv : v < zSz Z) (hvk : zKd Z v = 0) (hp : pc + 1 = pc') (k : ZP G d mi pc' ls (st) (zSR Z a (zu (zR Z a) i.toNat (some v))) Q) : ZP G d mi pc ls (.ref v :: iv i :: .ref a :: st) Z Q := w_aastore122 hd ha.1 ha.2.1 (hi.v ha.2.2) hv hvk hp (by
  rw [iN_clamp hi.r, enc_R]
  exact k)
theorem z_alen {G : Gx} {d : Nat} {mi : MI} {pc pc' : Nat} {ls : LsT} {st : List Value} {Z : Zm} {Q : Rv → Zm → Prop} {a kd n : Nat} (hd : decode mi.2.1 pc = .ok (.arraylength, 1)) (ha : zA Z a kd n) (hk : kd = 100 ∨ kd = 101 ∨ kd = 102 ∨ kd = 110 ∨ kd = 111 ∨ kd = 120 ∨ kd = 121 ∨ kd = 122) (hp : pc + 1 = pc') (k : ZP G d mi pc' ls (iv n :: st) Z Q) : ZP G d mi pc ls (.ref a :: st) Z Q := w_alen hd ha.1 (by
  rw [show mKd (enc Z) a = kd from ha.2.1]
  exact hk) ha.2.2 hp (by
  rw [iN_nat]
  exact k)
theorem z_new100 {G : Gx} {d : Nat} {mi : MI} {pc pc' : Nat} {ls : LsT} {st : List Value} {Z : Zm} {Q : Rv → Zm → Prop} {n : Int} (hd : decode mi.2.1 pc = .ok (.newarray .int, 2)) (hw : Cond.arrayClass .int ∈ amWs) (h0 : 0 ≤ n) (h1 : n < 1000) (hr : zSz Z < 1000000) (hp : pc + 2 = pc') (k : ZP G d mi pc' ls (Value.ref (zSz Z) :: st) (zC Z 100 n.toNat n.toNat) Q) : ZP G d mi pc ls (iv n :: st) Z Q := w_new100 (a := 0) (N := n.toNat) hd hw (by
  rw [iN_nat, Int.toNat_of_nonneg h0]) (by omega) hr hp (by
  rw [enc_nC]
  exact k)
theorem z_new101 {G : Gx} {d : Nat} {mi : MI} {pc pc' : Nat} {ls : LsT} {st : List Value} {Z : Zm} {Q : Rv → Zm → Prop} {n : Int} (hd : decode mi.2.1 pc = .ok (.newarray .char, 2)) (hw : Cond.arrayClass .char ∈ amWs) (h0 : 0 ≤ n) (h1 : n < 1000) (hr : zSz Z < 1000000) (hp : pc + 2 = pc') (k : ZP G d mi pc' ls (Value.ref (zSz Z) :: st) (zC Z 101 n.toNat n.toNat) Q) : ZP G d mi pc ls (iv n :: st) Z Q := w_new101 (a := 0) (N := n.toNat) hd hw (by
  rw [iN_nat, Int.toNat_of_nonneg h0]) (by omega) hr hp (by
  rw [enc_nC]
  exact k)
theorem z_new102 {G : Gx} {d : Nat} {mi : MI} {pc pc' : Nat} {ls : LsT} {st : List Value} {Z : Zm} {Q : Rv → Zm → Prop} {n : Int} (hd : decode mi.2.1 pc = .ok (.newarray .boolean, 2)) (hw : Cond.arrayClass .boolean ∈ amWs) (h0 : 0 ≤ n) (h1 : n < 1000) (hr : zSz Z < 1000000) (hp : pc + 2 = pc') (k : ZP G d mi pc' ls (Value.ref (zSz Z) :: st) (zC Z 102 n.toNat n.toNat) Q) : ZP G d mi pc ls (iv n :: st) Z Q := w_new102 (a := 0) (N := n.toNat) hd hw (by
  rw [iN_nat, Int.toNat_of_nonneg h0]) (by omega) hr hp (by
  rw [enc_nC]
  exact k)
theorem z_new110 {G : Gx} {d : Nat} {mi : MI} {pc pc' : Nat} {ls : LsT} {st : List Value} {Z : Zm} {Q : Rv → Zm → Prop} {n : Int} (hd : decode mi.2.1 pc = .ok (.newarray .long, 2)) (hw : Cond.arrayClass .long ∈ amWs) (h0 : 0 ≤ n) (h1 : n < 1000) (hr : zSz Z < 1000000) (hp : pc + 2 = pc') (k : ZP G d mi pc' ls (Value.ref (zSz Z) :: st) (zC Z 110 n.toNat n.toNat) Q) : ZP G d mi pc ls (iv n :: st) Z Q := w_new110 (a := 0) (N := n.toNat) hd hw (by
  rw [iN_nat, Int.toNat_of_nonneg h0]) (by omega) hr hp (by
  rw [enc_nC]
  exact k)
theorem z_new111 {G : Gx} {d : Nat} {mi : MI} {pc pc' : Nat} {ls : LsT} {st : List Value} {Z : Zm} {Q : Rv → Zm → Prop} {n : Int} (hd : decode mi.2.1 pc = .ok (.newarray .double, 2)) (hw : Cond.arrayClass .double ∈ amWs) (h0 : 0 ≤ n) (h1 : n < 1000) (hr : zSz Z < 1000000) (hp : pc + 2 = pc') (k : ZP G d mi pc' ls (Value.ref (zSz Z) :: st) (zC Z 111 n.toNat n.toNat) Q) : ZP G d mi pc ls (iv n :: st) Z Q := w_new111 (a := 0) (N := n.toNat) hd hw (by
  rw [iN_nat, Int.toNat_of_nonneg h0]) (by omega) hr hp (by
  rw [enc_nC]
  exact k)
theorem z_new {G : Gx} {d : Nat} {mi : MI} {pc pc' : Nat} {ls : LsT} {st : List Value} {Z : Zm} {Q : Rv → Zm → Prop} {idx ci : Nat} {C : String} {T : u_T} {N : Nat} (hd : decode mi.2.1 pc = .ok (.new idx, 3)) (hcl : amCl[ci]? = some (C, T, N)) (hci : ci < 13) (hl : Cond.classLink mi.1.cls idx C ∈ amWs) (hi : Cond.instantiable C N ∈ amWs) (hini : Cond.initialized C ∈ amWs) (hdf : ∀ k, k < N → defaultValue (amTy ci k) = if amIsR (amTy ci k) then .null else .int 0) (hr : zSz Z < 1000000) (hp : pc + 3 = pc') (k : ZP G d mi pc' ls (Value.ref (zSz Z) :: st) (zC Z ci 0 N) Q) : ZP G d mi pc ls (st) Z Q := w_new (a := 0) hd hcl hci hl hi hini hdf hr hp (by
  rw [enc_nC]
  exact k)
theorem z_anew120 {G : Gx} {d : Nat} {mi : MI} {pc pc' : Nat} {ls : LsT} {st : List Value} {Z : Zm} {Q : Rv → Zm → Prop} {idx : Nat} {n : Int} (hd : decode mi.2.1 pc = .ok (.anewarray idx, 3)) (hl : Cond.classLink mi.1.cls idx (FieldType.array .int).toString ∈ amWs) (h0 : 0 ≤ n) (h1 : n < 1000) (hr : zSz Z < 1000000) (hp : pc + 3 = pc') (k : ZP G d mi pc' ls (Value.ref (zSz Z) :: st) (zC Z 120 n.toNat n.toNat) Q) : ZP G d mi pc ls (iv n :: st) Z Q := w_anew120 (a := 0) (N := n.toNat) hd hl (by
  rw [iN_nat, Int.toNat_of_nonneg h0]) (by omega) hr hp (by
  rw [enc_nC]
  exact k)
theorem z_anew122 {G : Gx} {d : Nat} {mi : MI} {pc pc' : Nat} {ls : LsT} {st : List Value} {Z : Zm} {Q : Rv → Zm → Prop} {idx : Nat} {n : Int} (hd : decode mi.2.1 pc = .ok (.anewarray idx, 3)) (hl : Cond.classLink mi.1.cls idx RX0 ∈ amWs) (h0 : 0 ≤ n) (h1 : n < 1000) (hr : zSz Z < 1000000) (hp : pc + 3 = pc') (k : ZP G d mi pc' ls (Value.ref (zSz Z) :: st) (zC Z 122 n.toNat n.toNat) Q) : ZP G d mi pc ls (iv n :: st) Z Q := w_anew122 (a := 0) (N := n.toNat) hd hl (by
  rw [iN_nat, Int.toNat_of_nonneg h0]) (by omega) hr hp (by
  rw [enc_nC]
  exact k)
theorem z_multi120 {G : Gx} {d : Nat} {mi : MI} {pc pc' : Nat} {ls : LsT} {st : List Value} {Z : Zm} {Q : Rv → Zm → Prop} {idx : Nat} {n m : Int} (hd : decode mi.2.1 pc = .ok (.multianewarray idx 2, 4)) (hl : Cond.classLink mi.1.cls idx ("[" ++ (FieldType.array .int).toString) ∈ amWs) (hac : Cond.arrayClass .int ∈ amWs) (h0 : 0 ≤ n) (h1 : n < 1000) (h2 : 0 ≤ m) (h3 : m < 1000) (hr : zSz Z + (1 + n.toNat) ≤ 1000000) (hp : pc + 4 = pc') (k : ZP G d mi pc' ls (Value.ref (zSz Z) :: st) (zM Z 120 100 n.toNat m.toNat) Q) : ZP G d mi pc ls (iv m :: iv n :: st) Z Q := w_multi120 (a := 0) (N := n.toNat) (K9 := m.toNat) hd hl hac (by
  rw [iN_nat, Int.toNat_of_nonneg h0]) (by
  rw [iN_nat, Int.toNat_of_nonneg h2]) (by omega) (by omega) hr hp (by
  rw [enc_nM]
  exact k)
theorem z_multi121 {G : Gx} {d : Nat} {mi : MI} {pc pc' : Nat} {ls : LsT} {st : List Value} {Z : Zm} {Q : Rv → Zm → Prop} {idx : Nat} {n m : Int} (hd : decode mi.2.1 pc = .ok (.multianewarray idx 2, 4)) (hl : Cond.classLink mi.1.cls idx ("[" ++ (FieldType.array .boolean).toString) ∈ amWs) (hac : Cond.arrayClass .boolean ∈ amWs) (h0 : 0 ≤ n) (h1 : n < 1000) (h2 : 0 ≤ m) (h3 : m < 1000) (hr : zSz Z + (1 + n.toNat) ≤ 1000000) (hp : pc + 4 = pc') (k : ZP G d mi pc' ls (Value.ref (zSz Z) :: st) (zM Z 121 102 n.toNat m.toNat) Q) : ZP G d mi pc ls (iv m :: iv n :: st) Z Q := w_multi121 (a := 0) (N := n.toNat) (K9 := m.toNat) hd hl hac (by
  rw [iN_nat, Int.toNat_of_nonneg h0]) (by
  rw [iN_nat, Int.toNat_of_nonneg h2]) (by omega) (by omega) hr hp (by
  rw [enc_nM]
  exact k)
theorem z_getI {G : Gx} {d : Nat} {mi : MI} {pc pc' : Nat} {ls : LsT} {st : List Value} {Z : Zm} {Q : Rv → Zm → Prop} {a idx ci f : Nat} (hd : decode mi.2.1 pc = .ok (.getfield idx, 3)) (hl : amFL mi.1.cls idx ci f) (hr : amIsR (amTy ci f) = false) (ha : a < zSz Z) (hk : zKd Z a = ci) (hp : pc + 3 = pc') (k : ZP G d mi pc' ls (iv (zI Z a f) :: st) Z Q) : ZP G d mi pc ls (.ref a :: st) Z Q := w_getI hd hl hr ha hk hp k
theorem z_getR {G : Gx} {d : Nat} {mi : MI} {pc pc' : Nat} {ls : LsT} {st : List Value} {Z : Zm} {Q : Rv → Zm → Prop} {a idx ci f b : Nat} (hd : decode mi.2.1 pc = .ok (.getfield idx, 3)) (hl : amFL mi.1.cls idx ci f) (hr : amIsR (amTy ci f) = true) (ha : a < zSz Z) (hk : zKd Z a = ci) (hv : zR Z a f = some b) (hp : pc + 3 = pc') (k : ZP G d mi pc' ls (.ref b :: st) Z Q) : ZP G d mi pc ls (.ref a :: st) Z Q := w_getR hd hl hr ha hk hv hp k
theorem z_putI {G : Gx} {d : Nat} {mi : MI} {pc pc' : Nat} {ls : LsT} {st : List Value} {Z : Zm} {Q : Rv → Zm → Prop} {a idx ci f : Nat} {x : Int} (hd : decode mi.2.1 pc = .ok (.putfield idx, 3)) (hl : amFL mi.1.cls idx ci f) (hfin : ∀ r, amCl[ci]? = some r → (r.2.1 f).2.2.2 = false) (hr : amIsR (amTy ci f) = false) (hn : narrow (amTy ci f) (iv x) = iv x) (hf : fits (amTy ci f) (iv x) = true) (ha : a < zSz Z) (hk : zKd Z a = ci) (hp : pc + 3 = pc') (k : ZP G d mi pc' ls (st) (zSI Z a (zu (zI Z a) f x)) Q) : ZP G d mi pc ls (iv x :: .ref a :: st) Z Q := w_putI hd hl hfin hr hn hf ha hk hp (by
  rw [enc_I]
  exact k)
theorem z_putR {G : Gx} {d : Nat} {mi : MI} {pc pc' : Nat} {ls : LsT} {st : List Value} {Z : Zm} {Q : Rv → Zm → Prop} {a idx ci f b : Nat} (hd : decode mi.2.1 pc = .ok (.putfield idx, 3)) (hl : amFL mi.1.cls idx ci f) (hfin : ∀ r, amCl[ci]? = some r → (r.2.1 f).2.2.2 = false ∨ ((r.2.1 f).2.2.2 = true ∧ mi.1.name = "<init>" ∧ r.1 = mi.1.cls ∧ Cond.fieldLink mi.1.cls idx r.1 (r.2.1 f).2.1 (r.2.1 f).2.2.1 ∈ amWs)) (hr : amIsR (amTy ci f) = true) (ha : a < zSz Z) (hk : zKd Z a = ci) (hp : pc + 3 = pc') (k : ZP G d mi pc' ls (st) (zSR Z a (zu (zR Z a) f (some b))) Q) : ZP G d mi pc ls (.ref b :: .ref a :: st) Z Q := w_putR hd hl hfin hr ha hk hp (by
  rw [enc_R]
  exact k)
theorem iN_max {x y : Int} (hx : R32 x) (hy : R32 y) : (if iN x < iN y then iN y else iN x) = iN (max x y) := by
  simp only [iN_lt hx hy]
  by_cases h : x < y
  · rw [if_pos h, show max x y = y by omega]
  · rw [if_neg h, show max x y = x by omega]
theorem iN_min {x y : Int} (hx : R32 x) (hy : R32 y) : (if iN y < iN x then iN y else iN x) = iN (min x y) := by
  simp only [iN_lt hy hx]
  by_cases h : y < x
  · rw [if_pos h, show min x y = y by omega]
  · rw [if_neg h, show min x y = x by omega]
theorem z_max {G : Gx} {d : Nat} {mi : MI} {pc pc' : Nat} {ls : LsT} {st : List Value} {Z : Zm} {Q : Rv → Zm → Prop} {idx : Nat} {x y : Int} (hd : decode mi.2.1 pc = .ok (.invokestatic idx, 3)) (hl : Cond.methodLink mi.1.cls idx Lib.Math.max.name ∈ amWs) (hstat : Cond.static Lib.Math.max.name ∈ amWs) (hini : Cond.initialized "java/lang/Math" ∈ amWs) (hcode : Cond.code Lib.Math.max.name Lib.Math.max.code 2 (some .int) ∈ amWs) (hd1 : 1 ≤ d) (hst : (st.map fun v => v.category).sum ≤ 8) (hx : R32 x) (hy : R32 y) (hp : pc + 3 = pc') (k : ZP G d mi pc' ls (iv (max x y) :: st) Z Q) : ZP G d mi pc ls (iv y :: iv x :: st) Z Q := w_max (a := 0) hd hl hstat hini hcode hd1 hst hp (by
  rw [iN_max hx hy]
  exact k)
theorem z_min {G : Gx} {d : Nat} {mi : MI} {pc pc' : Nat} {ls : LsT} {st : List Value} {Z : Zm} {Q : Rv → Zm → Prop} {idx : Nat} {x y : Int} (hd : decode mi.2.1 pc = .ok (.invokestatic idx, 3)) (hl : Cond.methodLink mi.1.cls idx Lib.Math.min.name ∈ amWs) (hstat : Cond.static Lib.Math.min.name ∈ amWs) (hini : Cond.initialized "java/lang/Math" ∈ amWs) (hcode : Cond.code Lib.Math.min.name Lib.Math.min.code 2 (some .int) ∈ amWs) (hd1 : 1 ≤ d) (hst : (st.map fun v => v.category).sum ≤ 8) (hx : R32 x) (hy : R32 y) (hp : pc + 3 = pc') (k : ZP G d mi pc' ls (iv (min x y) :: st) Z Q) : ZP G d mi pc ls (iv y :: iv x :: st) Z Q := w_min (a := 0) hd hl hstat hini hcode hd1 hst hp (by
  rw [iN_min hx hy]
  exact k)
theorem z_copy {G : Gx} {d : Nat} {mi : MI} {pc pc' : Nat} {ls : LsT} {st : List Value} {Z : Zm} {Q : Rv → Zm → Prop} {a idx b na nb : Nat} {sp dp n : Int} (hd : decode mi.2.1 pc = .ok (.invokestatic idx, 3)) (hl : Cond.methodLink mi.1.cls idx arraycopyName ∈ amWs) (hnat : Cond.native arraycopyName ∈ amWs) (hstat : Cond.static arraycopyName ∈ amWs) (hini : Cond.initialized "java/lang/System" ∈ amWs) (hd1 : 1 ≤ d) (hst : (st.map fun v => v.category).sum ≤ 8) (hb : zA Z b 100 nb) (ha : zA Z a 100 na) (h0 : 0 ≤ sp ∧ 0 ≤ dp ∧ 0 ≤ n ∧ sp + n ≤ (nb : Int) ∧ dp + n ≤ (na : Int) ∧ na < 1000 ∧ nb < 1000) (hp : pc + 3 = pc') (k : ZP G d mi pc' ls (st) (zSI Z a (zcpy (zI Z b) (zI Z a) sp.toNat dp.toNat n.toNat)) Q) : ZP G d mi pc ls (iv n :: iv dp :: .ref a :: iv sp :: .ref b :: st) Z Q := w_copy hd hl hnat hstat hini hd1 hst hb.1 hb.2.1 ha.1 ha.2.1
    (by
      rw [show (iN sp < 0) = (sp < 0) from iN_lt (y := 0) ⟨by omega, by omega⟩ ⟨by omega, by omega⟩]
      omega)
    (by
      rw [show (iN dp < 0) = (dp < 0) from iN_lt (y := 0) ⟨by omega, by omega⟩ ⟨by omega, by omega⟩]
      omega)
    (by
      rw [show (iN n < 0) = (n < 0) from iN_lt (y := 0) ⟨by omega, by omega⟩ ⟨by omega, by omega⟩]
      omega)
    (by
      rw [iN_clamp ⟨by omega, by omega⟩, iN_clamp ⟨by omega, by omega⟩, show mLn (enc Z) b = nb from hb.2.2]
      omega)
    (by
      rw [iN_clamp ⟨by omega, by omega⟩, iN_clamp ⟨by omega, by omega⟩, show mLn (enc Z) a = na from ha.2.2]
      omega) hp (by
      rw [iN_clamp ⟨by omega, by omega⟩, iN_clamp ⟨by omega, by omega⟩, iN_clamp ⟨by omega, by omega⟩, enc_C]
      exact k)
theorem z_ldc {G : Gx} {d : Nat} {mi : MI} {pc pc' : Nat} {ls : LsT} {st : List Value} {Z : Zm} {Q : Rv → Zm → Prop} {idx : Nat} {w : Int32} {v : Int} (hd : decode mi.2.1 pc = .ok (.ldc idx, 2)) (hl : Cond.constant mi.1.cls idx w ∈ amWs) (hv : w = iN v) (hp : pc + 2 = pc') (k : ZP G d mi pc' ls (iv v :: st) Z Q) : ZP G d mi pc ls (st) Z Q := w_ldc (a := 0) hd hl hp (by
  rw [hv]
  exact k)
theorem z_ldc2 {G : Gx} {d : Nat} {mi : MI} {pc pc' : Nat} {ls : LsT} {st : List Value} {Z : Zm} {Q : Rv → Zm → Prop} {idx : Nat} {w : Int64} {v : Int} (hd : decode mi.2.1 pc = .ok (.ldc2_w idx, 3)) (hl : Cond.constantLong mi.1.cls idx w ∈ amWs) (hv : w = jN v) (hp : pc + 3 = pc') (k : ZP G d mi pc' ls (jv v :: st) Z Q) : ZP G d mi pc ls (st) Z Q := w_ldc2 (a := 0) hd hl hp (by
  rw [hv]
  exact k)
theorem z_ldcS {G : Gx} {d : Nat} {mi : MI} {pc pc' : Nat} {ls : LsT} {st : List Value} {Z : Zm} {Q : Rv → Zm → Prop} {idx i : Nat} (hd : decode mi.2.1 pc = .ok (.ldc idx, 2)) (hi : i < 10) (h1 : (amStr i).1 = mi.1.cls) (h2 : (amStr i).2.1 = idx) (hp : pc + 2 = pc') (k : ZP G d mi pc' ls (.ref (1000000 + i) :: st) Z Q) : ZP G d mi pc ls (st) Z Q := w_ldcS (a := 0) hd hi h1 h2 hp k
theorem z_ldcSw {G : Gx} {d : Nat} {mi : MI} {pc pc' : Nat} {ls : LsT} {st : List Value} {Z : Zm} {Q : Rv → Zm → Prop} {idx i : Nat} (hd : decode mi.2.1 pc = .ok (.ldc_w idx, 3)) (hi : i < 10) (h1 : (amStr i).1 = mi.1.cls) (h2 : (amStr i).2.1 = idx) (hp : pc + 3 = pc') (k : ZP G d mi pc' ls (.ref (1000000 + i) :: st) Z Q) : ZP G d mi pc ls (st) Z Q := w_ldcSw (a := 0) hd hi h1 h2 hp k
theorem z_gets_low {G : Gx} {d : Nat} {mi : MI} {pc pc' : Nat} {ls : LsT} {st : List Value} {Z : Zm} {Q : Rv → Zm → Prop} {idx : Nat} (hd : decode mi.2.1 pc = .ok (.getstatic idx, 3)) (hl : Cond.fieldLink mi.1.cls idx RX11 "LEAST_FACTS" "[I" ∈ amWs) (hp : pc + 3 = pc') (k : ZP G d mi pc' ls (.ref 1000040 :: st) Z Q) : ZP G d mi pc ls (st) Z Q := w_gets_low (a := 0) hd hl hp k
theorem z_gets_high {G : Gx} {d : Nat} {mi : MI} {pc pc' : Nat} {ls : LsT} {st : List Value} {Z : Zm} {Q : Rv → Zm → Prop} {idx : Nat} (hd : decode mi.2.1 pc = .ok (.getstatic idx, 3)) (hl : Cond.fieldLink mi.1.cls idx RX11 "GREATEST_FACTS" "[I" ∈ amWs) (hp : pc + 3 = pc') (k : ZP G d mi pc' ls (.ref 1000041 :: st) Z Q) : ZP G d mi pc ls (st) Z Q := w_gets_high (a := 0) hd hl hp k
theorem z_gets_compact {G : Gx} {d : Nat} {mi : MI} {pc pc' : Nat} {ls : LsT} {st : List Value} {Z : Zm} {Q : Rv → Zm → Prop} {idx : Nat} (hd : decode mi.2.1 pc = .ok (.getstatic idx, 3)) (hl : Cond.fieldLink mi.1.cls idx "java/lang/String" "COMPACT_STRINGS" "Z" ∈ amWs) (hp : pc + 3 = pc') (k : ZP G d mi pc' ls (iv 1 :: st) Z Q) : ZP G d mi pc ls (st) Z Q := w_gets_compact (a := 0) hd hl hp k
def zLow (i : Nat) : Int := (amLow.getD i 0).toInt
def zHigh (i : Nat) : Int := (amHigh.getD i 0).toInt
def zByt (i j : Nat) : Int := ((amByt i).getD j 0).toInt
def zScr (G : Gx) (i : Nat) : Int := (G.2.2.2.2.2.2 i).toInt
theorem z_t_low {G : Gx} {d : Nat} {mi : MI} {pc pc' : Nat} {ls : LsT} {st : List Value} {Z : Zm} {Q : Rv → Zm → Prop} {i : Int} (hd : decode mi.2.1 pc = .ok (.iaload, 1)) (hi : zIx i 8) (hp : pc + 1 = pc') (k : ZP G d mi pc' ls (iv (zLow i.toNat) :: st) Z Q) : ZP G d mi pc ls (iv i :: .ref 1000040 :: st) Z Q := w_t_low (a := 0) hd (hi.v rfl) hp (by
  rw [iN_clamp hi.r]
  unfold ZP iv zLow at k
  rw [iN_toInt_id] at k
  exact k)
theorem z_t_high {G : Gx} {d : Nat} {mi : MI} {pc pc' : Nat} {ls : LsT} {st : List Value} {Z : Zm} {Q : Rv → Zm → Prop} {i : Int} (hd : decode mi.2.1 pc = .ok (.iaload, 1)) (hi : zIx i 8) (hp : pc + 1 = pc') (k : ZP G d mi pc' ls (iv (zHigh i.toNat) :: st) Z Q) : ZP G d mi pc ls (iv i :: .ref 1000041 :: st) Z Q := w_t_high (a := 0) hd (hi.v rfl) hp (by
  rw [iN_clamp hi.r]
  unfold ZP iv zHigh at k
  rw [iN_toInt_id] at k
  exact k)
theorem z_coder {G : Gx} {d : Nat} {mi : MI} {pc pc' : Nat} {ls : LsT} {st : List Value} {Z : Zm} {Q : Rv → Zm → Prop} {idx i : Nat} (hd : decode mi.2.1 pc = .ok (.getfield idx, 3)) (hi : i < 10) (hl : Cond.fieldLink mi.1.cls idx "java/lang/String" "coder" "B" ∈ amWs) (hp : pc + 3 = pc') (k : ZP G d mi pc' ls (iv 0 :: st) Z Q) : ZP G d mi pc ls (.ref (1000000 + i) :: st) Z Q := w_coder (a := 0) hd hi hl hp k
theorem z_value {G : Gx} {d : Nat} {mi : MI} {pc pc' : Nat} {ls : LsT} {st : List Value} {Z : Zm} {Q : Rv → Zm → Prop} {idx i : Nat} (hd : decode mi.2.1 pc = .ok (.getfield idx, 3)) (hi : i < 10) (hl : Cond.fieldLink mi.1.cls idx "java/lang/String" "value" "[B" ∈ amWs) (hp : pc + 3 = pc') (k : ZP G d mi pc' ls (.ref (1000000 + (20 + i)) :: st) Z Q) : ZP G d mi pc ls (.ref (1000000 + i) :: st) Z Q := w_value (a := 0) hd hi hl hp k
theorem z_tb {G : Gx} {d : Nat} {mi : MI} {pc pc' : Nat} {ls : LsT} {st : List Value} {Z : Zm} {Q : Rv → Zm → Prop} {i : Nat} {j : Int} (hd : decode mi.2.1 pc = .ok (.baload, 1)) (hi : i < 10) (hj : zIx j (amByt i).length) (hp : pc + 1 = pc') (k : ZP G d mi pc' ls (iv (zByt i j.toNat) :: st) Z Q) : ZP G d mi pc ls (iv j :: .ref (1000000 + (20 + i)) :: st) Z Q := w_tb (a := 0) hd hi (hj.v rfl) hp (by
  rw [iN_clamp hj.r]
  unfold ZP iv zByt at k
  rw [iN_toInt_id] at k
  exact k)
theorem z_tlen {G : Gx} {d : Nat} {mi : MI} {pc pc' : Nat} {ls : LsT} {st : List Value} {Z : Zm} {Q : Rv → Zm → Prop} {i : Nat} (hd : decode mi.2.1 pc = .ok (.arraylength, 1)) (hi : i < 10) (hp : pc + 1 = pc') (k : ZP G d mi pc' ls (iv (amByt i).length :: st) Z Q) : ZP G d mi pc ls (.ref (1000000 + (20 + i)) :: st) Z Q := w_tlen (a := 0) hd hi hp (by
  rw [iN_nat]
  exact k)
theorem z_sld {G : Gx} {d : Nat} {mi : MI} {pc pc' : Nat} {ls : LsT} {st : List Value} {Z : Zm} {Q : Rv → Zm → Prop} {i : Int} (hd : decode mi.2.1 pc = .ok (.iaload, 1)) (hi : zIx i G.2.2.2.2.2.1) (hp : pc + 1 = pc') (k : ZP G d mi pc' ls (iv (zScr G i.toNat) :: st) Z Q) : ZP G d mi pc ls (iv i :: .ref 1000060 :: st) Z Q := w_sld (a := 0) hd (hi.v rfl) hp (by
  rw [iN_clamp hi.r]
  unfold ZP iv zScr at k
  rw [iN_toInt_id] at k
  exact k)
theorem z_slen {G : Gx} {d : Nat} {mi : MI} {pc pc' : Nat} {ls : LsT} {st : List Value} {Z : Zm} {Q : Rv → Zm → Prop}  (hd : decode mi.2.1 pc = .ok (.arraylength, 1)) (hp : pc + 1 = pc') (k : ZP G d mi pc' ls (iv G.2.2.2.2.2.1 :: st) Z Q) : ZP G d mi pc ls (.ref 1000060 :: st) Z Q := w_slen (a := 0) hd hp (by
  rw [iN_nat]
  exact k)
theorem z_ret {G : Gx} {d : Nat} {mi : MI} {pc : Nat} {ls : LsT} {Z : Zm} {Q : Rv → Zm → Prop} (hd : decode mi.2.1 pc = .ok (.return_, 1)) (hv : mi.2.2.2.1 = none) (q : Q (.inl none) Z) : ZP G d mi pc ls [] Z Q := w_ret none hd hv ⟨Z, rfl, q⟩
theorem z_ireturn {G : Gx} {d : Nat} {mi : MI} {pc : Nat} {ls : LsT} {Z : Zm} {Q : Rv → Zm → Prop} {x : Int} (hd : decode mi.2.1 pc = .ok (.ireturn, 1)) (hv : ∃ t, mi.2.2.2.1 = some t ∧ narrow t (iv x) = iv x) (q : Q (.inl (some (iv x))) Z) : ZP G d mi pc ls [iv x] Z Q := w_ret (some (iv x)) hd hv ⟨Z, rfl, q⟩
theorem z_lreturn {G : Gx} {d : Nat} {mi : MI} {pc : Nat} {ls : LsT} {Z : Zm} {Q : Rv → Zm → Prop} {x : Int} (hd : decode mi.2.1 pc = .ok (.lreturn, 1)) (hv : mi.2.2.2.1 = some .long) (q : Q (.inl (some (jv x))) Z) : ZP G d mi pc ls [jv x] Z Q := w_ret (some (jv x)) hd hv ⟨Z, rfl, q⟩
theorem z_freturn {G : Gx} {d : Nat} {mi : MI} {pc : Nat} {ls : LsT} {Z : Zm} {Q : Rv → Zm → Prop} {x : UInt32} (hd : decode mi.2.1 pc = .ok (.freturn, 1)) (hv : mi.2.2.2.1 = some .float) (q : Q (.inl (some (.float x))) Z) : ZP G d mi pc ls [.float x] Z Q := w_ret (some (.float x)) hd hv ⟨Z, rfl, q⟩
theorem z_dreturn {G : Gx} {d : Nat} {mi : MI} {pc : Nat} {ls : LsT} {Z : Zm} {Q : Rv → Zm → Prop} {x : UInt64} (hd : decode mi.2.1 pc = .ok (.dreturn, 1)) (hv : mi.2.2.2.1 = some .double) (q : Q (.inl (some (.double x))) Z) : ZP G d mi pc ls [.double x] Z Q := w_ret (some (.double x)) hd hv ⟨Z, rfl, q⟩
theorem z_areturn {G : Gx} {d : Nat} {mi : MI} {pc : Nat} {ls : LsT} {Z : Zm} {Q : Rv → Zm → Prop} {x : Nat} (hd : decode mi.2.1 pc = .ok (.areturn, 1)) (hv : ∃ t, mi.2.2.2.1 = some t ∧ ((∃ n, t = .object n) ∨ ∃ u, t = .array u)) (q : Q (.inl (some (.ref x))) Z) : ZP G d mi pc ls [.ref x] Z Q := w_ret (some (.ref x)) hd hv ⟨Z, rfl, q⟩
