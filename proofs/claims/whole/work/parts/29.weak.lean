/-! ===== locals that are asked no more ===== -/
def amSub (a b : LsT) : Prop := ∀ (i : Nat) (v : Value), a[i]? = some (some v) → b[i]? = some (some v)
theorem wk_nil {b : LsT} : amSub [] b := fun i v h => by simp at h
theorem wk_none {a b : LsT} {w : Option Value} (h : amSub a b) : amSub (none :: a) (w :: b) := fun i v g => by
  cases i with
  | zero => simp at g
  | succ i => exact h i v g
theorem wk_some {a b : LsT} {v : Value} (h : amSub a b) : amSub (some v :: a) (some v :: b) := fun i w g => by
  cases i with
  | zero => exact g
  | succ i => exact h i w g
theorem ZP.wk {G : Gx} {d : Nat} {mi : MI} {pc : Nat} {ls ls' : LsT} {st : List Value} {Z : Zm} {Q : Rv → Zm → Prop} (s : amSub ls ls') (h : ZP G d mi pc ls st Z Q) : ZP G d mi pc ls' st Z Q := by
  obtain ⟨r, M', h1, h2, h3⟩ := h
  exact ⟨r, M', h1, h2, fun p e R t m args below meth c H locs arr Qf cells slots F X L => h3 p e R t m args below meth c H locs arr Qf cells slots F X ⟨L.1, L.2.1, fun i v g => L.2.2 i v (s i v g)⟩⟩
theorem zKc_wk {G : Gx} {d : Nat} {mi : MI} {pc' : Nat} {ls ls' : LsT} {st : List Value} {Q : Rv → Zm → Prop} (s : amSub ls ls') : ∀ r Z, zKc G d mi pc' ls st Q r Z → zKc G d mi pc' ls' st Q r Z := fun r Z h => by
  cases r with
  | inl v => exact ZP.wk s h
  | inr E => exact h
