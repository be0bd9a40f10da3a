/-! ===== i2b ===== -/
theorem w_i2b {G : Gx} {d : Nat} {mi : MI} {pc pc' : Nat} {ls : LsT} {st : List Value} {M : Mm} {Q : Rv → Mm → Prop} {x : Int32} (hd : decode mi.2.1 pc = .ok (.i2b, 1)) (hp : pc + 1 = pc') (k : WP G d mi pc' ls (.int x.toInt8.toInt32 :: st) M Q) : WP G d mi pc ls (.int x :: st) M Q := by
  subst hp
  exact wp_step (fun p e R s m args below meth c H locs arr Qf cells slots F X L B K => lv_i2b F.1 F.2.1 hd rfl (K arr L)) k
def zi2b (x : Int) : Int := (iN x).toInt8.toInt32.toInt
theorem z_i2b {G : Gx} {d : Nat} {mi : MI} {pc pc' : Nat} {ls : LsT} {st : List Value} {Z : Zm} {Q : Rv → Zm → Prop} {x : Int} (hd : decode mi.2.1 pc = .ok (.i2b, 1)) (hp : pc + 1 = pc') (k : ZP G d mi pc' ls (iv (zi2b x) :: st) Z Q) : ZP G d mi pc ls (iv x :: st) Z Q := w_i2b hd hp (by
  unfold ZP iv zi2b at k
  rw [iN_toInt_id] at k
  exact k)
