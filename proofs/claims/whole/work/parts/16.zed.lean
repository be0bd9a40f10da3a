/-! ===== the small machine over whole numbers ===== -/
abbrev Zm : Type := Nat × Nat × (Nat → Nat) × (Nat → Nat) × (Nat → Nat → Int) × (Nat → Nat → Int) × (Nat → Nat → UInt64) × (Nat → Nat → Option Nat)
def zSz (Z : Zm) : Nat := Z.1
def zSl (Z : Zm) : Nat := Z.2.1
def zKd (Z : Zm) : Nat → Nat := Z.2.2.1
def zLn (Z : Zm) : Nat → Nat := Z.2.2.2.1
def zI (Z : Zm) : Nat → Nat → Int := Z.2.2.2.2.1
def zL (Z : Zm) : Nat → Nat → Int := Z.2.2.2.2.2.1
def zD (Z : Zm) : Nat → Nat → UInt64 := Z.2.2.2.2.2.2.1
def zR (Z : Zm) : Nat → Nat → Option Nat := Z.2.2.2.2.2.2.2
def zu {α : Type} (f : Nat → α) (k : Nat) (v : α) : Nat → α := fun j => if j = k then v else f j
/-- a row put in the place of another -/
def zSI (Z : Zm) (a : Nat) (f : Nat → Int) : Zm := (zSz Z, zSl Z, zKd Z, zLn Z, zu (zI Z) a f, zL Z, zD Z, zR Z)
def zSL (Z : Zm) (a : Nat) (f : Nat → Int) : Zm := (zSz Z, zSl Z, zKd Z, zLn Z, zI Z, zu (zL Z) a f, zD Z, zR Z)
def zSD (Z : Zm) (a : Nat) (f : Nat → UInt64) : Zm := (zSz Z, zSl Z, zKd Z, zLn Z, zI Z, zL Z, zu (zD Z) a f, zR Z)
def zSR (Z : Zm) (a : Nat) (f : Nat → Option Nat) : Zm := (zSz Z, zSl Z, zKd Z, zLn Z, zI Z, zL Z, zD Z, zu (zR Z) a f)
def zC (Z : Zm) (k n w : Nat) : Zm := (zSz Z + 1, zSl Z + w, zu (zKd Z) (zSz Z) k, zu (zLn Z) (zSz Z) n, zu (zI Z) (zSz Z) (fun _ => 0), zu (zL Z) (zSz Z) (fun _ => 0), zu (zD Z) (zSz Z) (fun _ => 0), zu (zR Z) (zSz Z) (fun _ => none))
def zM (Z : Zm) (kO kI n k : Nat) : Zm := (zSz Z + (1 + n), zSl Z + (n + n * k), fun b => if b < zSz Z then zKd Z b else if b = zSz Z then kO else kI, fun b => if b < zSz Z then zLn Z b else if b = zSz Z then n else k, fun b => if b < zSz Z then zI Z b else fun _ => 0, fun b => if b < zSz Z then zL Z b else fun _ => 0, fun b => if b < zSz Z then zD Z b else fun _ => 0,
  fun b => if b < zSz Z then zR Z b else if b = zSz Z then fun i => if i < n then some (zSz Z + 1 + i) else none else fun _ => none)
def zcpy (f g : Nat → Int) (sp dp n : Nat) : Nat → Int := fun k => if dp ≤ k ∧ k < dp + n then f (sp + (k - dp)) else g k
def iN (x : Int) : Int32 := Int32.ofInt x
def jN (x : Int) : Int64 := Int64.ofInt x
abbrev iv (x : Int) : Value := .int (iN x)
abbrev jv (x : Int) : Value := .long (jN x)
def enc (Z : Zm) : Mm := (zSz Z, zSl Z, zKd Z, zLn Z, fun a i => iN (zI Z a i), fun a i => jN (zL Z a i), zD Z, zR Z)
abbrev R32 (x : Int) : Prop := -2147483648 ≤ x ∧ x < 2147483648
abbrev R64 (x : Int) : Prop := -9223372036854775808 ≤ x ∧ x < 9223372036854775808
def ZP (G : Gx) (d : Nat) (mi : MI) (pc : Nat) (ls : LsT) (st : List Value) (Z : Zm) (Q : Rv → Zm → Prop) : Prop := WP G d mi pc ls st (enc Z) (fun r M' => ∃ Z', M' = enc Z' ∧ Q r Z')
def ZM (G : Gx) (d : Nat) (mi : MI) (av : List Value) (Z : Zm) (Q : Rv → Zm → Prop) : Prop := WM G d mi av (enc Z) (fun r M' => ∃ Z', M' = enc Z' ∧ Q r Z')
theorem ZP.mono {G : Gx} {d : Nat} {mi : MI} {pc : Nat} {ls : LsT} {st : List Value} {Z : Zm} {Q Q' : Rv → Zm → Prop} (h : ZP G d mi pc ls st Z Q) (hq : ∀ r Z', Q r Z' → Q' r Z') : ZP G d mi pc ls st Z Q' :=
  WP.mono h fun r _ ⟨Z', h1, h2⟩ => ⟨Z', h1, hq r Z' h2⟩
theorem ZM.mono {G : Gx} {d : Nat} {mi : MI} {av : List Value} {Z : Zm} {Q Q' : Rv → Zm → Prop} (h : ZM G d mi av Z Q) (hq : ∀ r Z', Q r Z' → Q' r Z') : ZM G d mi av Z Q' :=
  WP.mono h fun r _ ⟨Z', h1, h2⟩ => ⟨Z', h1, hq r Z' h2⟩
theorem ZP.deeper {G : Gx} {d d' : Nat} {mi : MI} {pc : Nat} {ls : LsT} {st : List Value} {Z : Zm} {Q : Rv → Zm → Prop} (h : ZP G d mi pc ls st Z Q) (hd : d ≤ d') : ZP G d' mi pc ls st Z Q := WP.deeper h hd
theorem ZM.deeper {G : Gx} {d d' : Nat} {mi : MI} {av : List Value} {Z : Zm} {Q : Rv → Zm → Prop} (h : ZM G d mi av Z Q) (hd : d ≤ d') : ZM G d' mi av Z Q := WP.deeper h hd
theorem ZM.of {G : Gx} {d : Nat} {mi : MI} {av : List Value} {Z : Zm} {Q : Rv → Zm → Prop} (ls : LsT) (he : amEntry av mi.2.2.1 = ls) (h : ZP G d mi 0 ls [] Z Q) : ZM G d mi av Z Q := by
  subst he
  exact h
theorem iN_toInt {x : Int} (h : R32 x) : (iN x).toInt = x := Int32.toInt_ofInt_of_le h.1 h.2
theorem jN_toInt {x : Int} (h : R64 x) : (jN x).toInt = x := Int64.toInt_ofInt_of_le h.1 h.2
theorem iN_lt {x y : Int} (hx : R32 x) (hy : R32 y) : (iN x < iN y) = (x < y) := by
  rw [Int32.lt_iff_toInt_lt, iN_toInt hx, iN_toInt hy]
theorem iN_le {x y : Int} (hx : R32 x) (hy : R32 y) : (iN x ≤ iN y) = (x ≤ y) := by
  rw [Int32.le_iff_toInt_le, iN_toInt hx, iN_toInt hy]
theorem iN_eq {x y : Int} (hx : R32 x) (hy : R32 y) : (iN x = iN y) = (x = y) := by
  rw [← Int32.toInt_inj, iN_toInt hx, iN_toInt hy]
theorem iN_clamp {x : Int} (h : R32 x) : (iN x).toNatClampNeg = x.toNat := Int32.toNatClampNeg_ofInt_of_le h.1 h.2
theorem iN_in {x : Int} {n : Nat} (h : R32 x) (h0 : 0 ≤ x) (h1 : x < (n : Int)) : vp_in (iN x) n := by
  unfold vp_in
  rw [iN_clamp h, show (iN x < 0) = (x < 0) from iN_lt (y := 0) h ⟨by omega, by omega⟩]
  omega
theorem iN_nat (n : Nat) : nI n = iN (n : Int) := by
  unfold nI iN
  rw [Int32.ofInt_eq_ofNat]
theorem iN_toInt_id (x : Int32) : iN x.toInt = x := Int32.ofInt_toInt x
theorem R32_of (x : Int32) : R32 x.toInt := ⟨Int32.le_toInt x, Int32.toInt_lt x⟩
theorem zuu {α : Type} {f g : Nat → Nat → α} (h : ∀ a b, f a b = g a b) : f = g := funext fun a => funext fun b => h a b
theorem am_tup {t1 t2 t3 t4 t5 t7 t8 : Type} {a : t1} {b : t2} {c : t3} {d : t3} {e e' : t4} {f f' : t5} {g : t7} {h : t8} (he : e = e') (hf : f = f') : (a, b, c, d, e, f, g, h) = (a, b, c, d, e', f', g, h) := by rw [he, hf]
theorem am_tup2 {t1 t2 t4 t5 t7 t8 : Type} {t3 : Type} {a : t1} {b : t2} {c : t3} {d : t3} {e e' : t4} {f f' : t5} {g g' : t7} {h h' : t8} (he : e = e') (hf : f = f') (hg : g = g') (hh : h = h') : (a, b, c, d, e, f, g, h) = (a, b, c, d, e', f', g', h') := by rw [he, hf, hg, hh]
theorem enc_I (Z : Zm) (a i : Nat) (x : Int) : sI (enc Z) a i (iN x) = enc (zSI Z a (zu (zI Z a) i x)) := by
  refine am_tup (zuu fun b j => ?_) rfl
  show (if b = a then (fun j => if j = i then iN x else iN (zI Z a j)) else fun j => iN (zI Z b j)) j = iN ((if b = a then (fun j => if j = i then x else zI Z a j) else zI Z b) j)
  by_cases h : b = a
  · rw [if_pos h, if_pos h]
    show (if j = i then iN x else iN (zI Z a j)) = iN (if j = i then x else zI Z a j)
    by_cases h2 : j = i
    · rw [if_pos h2, if_pos h2]
    · rw [if_neg h2, if_neg h2]
  · rw [if_neg h, if_neg h]
theorem enc_L (Z : Zm) (a i : Nat) (x : Int) : sL (enc Z) a i (jN x) = enc (zSL Z a (zu (zL Z a) i x)) := by
  refine am_tup rfl (zuu fun b j => ?_)
  show (if b = a then (fun j => if j = i then jN x else jN (zL Z a j)) else fun j => jN (zL Z b j)) j = jN ((if b = a then (fun j => if j = i then x else zL Z a j) else zL Z b) j)
  by_cases h : b = a
  · rw [if_pos h, if_pos h]
    show (if j = i then jN x else jN (zL Z a j)) = jN (if j = i then x else zL Z a j)
    by_cases h2 : j = i
    · rw [if_pos h2, if_pos h2]
    · rw [if_neg h2, if_neg h2]
  · rw [if_neg h, if_neg h]
theorem enc_D (Z : Zm) (a i : Nat) (x : UInt64) : sD (enc Z) a i x = enc (zSD Z a (zu (zD Z a) i x)) := rfl
theorem enc_R (Z : Zm) (a i : Nat) (x : Option Nat) : sR (enc Z) a i x = enc (zSR Z a (zu (zR Z a) i x)) := rfl
theorem enc_C (Z : Zm) (b a sp dp n : Nat) : sC (enc Z) b a sp dp n = enc (zSI Z a (zcpy (zI Z b) (zI Z a) sp dp n)) := by
  refine am_tup (zuu fun c j => ?_) rfl
  show (if c = a then (fun k => if dp ≤ k ∧ k < dp + n then iN (zI Z b (sp + (k - dp))) else iN (zI Z a k)) else fun j => iN (zI Z c j)) j = iN ((if c = a then (fun k => if dp ≤ k ∧ k < dp + n then zI Z b (sp + (k - dp)) else zI Z a k) else zI Z c) j)
  by_cases h : c = a
  · rw [if_pos h, if_pos h]
    show (if dp ≤ j ∧ j < dp + n then iN (zI Z b (sp + (j - dp))) else iN (zI Z a j)) = iN (if dp ≤ j ∧ j < dp + n then zI Z b (sp + (j - dp)) else zI Z a j)
    by_cases h2 : dp ≤ j ∧ j < dp + n
    · rw [if_pos h2, if_pos h2]
    · rw [if_neg h2, if_neg h2]
  · rw [if_neg h, if_neg h]
theorem am_app {α : Type} {c : Prop} [Decidable c] {f g : Nat → α} (j : Nat) : (if c then f else g) j = if c then f j else g j := by
  by_cases h : c
  · rw [if_pos h, if_pos h]
  · rw [if_neg h, if_neg h]
theorem enc_nC (Z : Zm) (k n w : Nat) : nC (enc Z) k n w = enc (zC Z k n w) := by
  refine am_tup (zuu fun b j => ?_) (zuu fun b j => ?_)
  · show (if b = zSz Z then (fun _ => (0 : Int32)) else fun i => iN (zI Z b i)) j = iN ((if b = zSz Z then (fun _ => (0 : Int)) else zI Z b) j)
    by_cases h : b = zSz Z
    · rw [if_pos h, if_pos h]
      rfl
    · rw [if_neg h, if_neg h]
  · show (if b = zSz Z then (fun _ => (0 : Int64)) else fun i => jN (zL Z b i)) j = jN ((if b = zSz Z then (fun _ => (0 : Int)) else zL Z b) j)
    by_cases h : b = zSz Z
    · rw [if_pos h, if_pos h]
      rfl
    · rw [if_neg h, if_neg h]
theorem enc_nM (Z : Zm) (kO kI n k : Nat) : nM (enc Z) kO kI n k = enc (zM Z kO kI n k) := by
  refine am_tup2 (zuu fun b j => ?_) (zuu fun b j => ?_) rfl rfl
  · show (if b < zSz Z then (fun i => iN (zI Z b i)) else fun _ => (0 : Int32)) j = iN ((if b < zSz Z then zI Z b else fun _ => (0 : Int)) j)
    by_cases h : b < zSz Z
    · rw [if_pos h, if_pos h]
    · rw [if_neg h, if_neg h]
      rfl
  · show (if b < zSz Z then (fun i => jN (zL Z b i)) else fun _ => (0 : Int64)) j = jN ((if b < zSz Z then zL Z b else fun _ => (0 : Int)) j)
    by_cases h : b < zSz Z
    · rw [if_pos h, if_pos h]
    · rw [if_neg h, if_neg h]
      rfl
def zand (x y : Int) : Int := (iN x &&& iN y).toInt
def zor (x y : Int) : Int := (iN x ||| iN y).toInt
def zxor (x y : Int) : Int := (iN x ^^^ iN y).toInt
def zshl (x y : Int) : Int := (iN x <<< (iN y &&& 31)).toInt
def zshr (x y : Int) : Int := (iN x >>> (iN y &&& 31)).toInt
def zcmp (x y : Int) : Int := if x < y then -1 else if x = y then 0 else 1
