/-! ===== small helpers of the block theorems ===== -/
abbrev b2 (c : Prop) [Decidable c] : Int := if c then 1 else 0
theorem b2_01 (c : Prop) [Decidable c] : b2 c = 0 ∨ b2 c = 1 := by
  unfold b2
  by_cases h : c
  · exact Or.inr (if_pos h)
  · exact Or.inl (if_neg h)
theorem b2_p {c : Prop} [Decidable c] (h : c) : b2 c = 1 := if_pos h
theorem b2_f {c : Prop} [Decidable c] (h : ¬ c) : b2 c = 0 := if_neg h
theorem b2_n {c : Prop} [Decidable c] (h : c) : b2 (¬ c) = 0 := if_neg fun k => k h
theorem b2_nn {c : Prop} [Decidable c] (h : ¬ c) : b2 (¬ c) = 1 := if_pos h
theorem b2_iff {c d : Prop} [Decidable c] [Decidable d] (h : c ↔ d) : b2 c = b2 d := by
  by_cases k : c
  · rw [b2_p k, b2_p (h.mp k)]
  · rw [b2_f k, b2_f (fun g => k (h.mpr g))]
theorem b2_a1 {c q : Prop} [Decidable c] [Decidable q] (h : c) : b2 (¬ c ∧ q) = 0 := b2_f fun k => k.1 h
theorem b2_a2 {c q : Prop} [Decidable c] [Decidable q] (h : ¬ c) : b2 (¬ c ∧ q) = b2 q := b2_iff ⟨fun k => k.2, fun k => ⟨h, k⟩⟩
theorem b2_o1 {c q : Prop} [Decidable c] [Decidable q] (h : c) : b2 (c ∨ q) = 1 := b2_p (Or.inl h)
theorem b2_o2 {c q : Prop} [Decidable c] [Decidable q] (h : ¬ c) : b2 (c ∨ q) = b2 q := b2_iff ⟨fun k => k.resolve_left h, Or.inr⟩
theorem b2_c1 {c q : Prop} [Decidable c] [Decidable q] (h : c) : b2 (c ∧ q) = b2 q := b2_iff ⟨fun k => k.2, fun k => ⟨h, k⟩⟩
theorem b2_c2 {c q : Prop} [Decidable c] [Decidable q] (h : ¬ c) : b2 (c ∧ q) = 0 := b2_f fun k => h k.1
theorem b2_d1 {c q : Prop} [Decidable c] [Decidable q] (h : c) : b2 (¬ c ∨ q) = b2 q := b2_iff ⟨fun k => k.resolve_left (fun g => g h), Or.inr⟩
theorem b2_d2 {c q : Prop} [Decidable c] [Decidable q] (h : ¬ c) : b2 (¬ c ∨ q) = 1 := b2_p (Or.inl h)
theorem ite_01 {c : Prop} [Decidable c] {x y : Int} (h : x = 0 ∨ x = 1) (k : y = 0 ∨ y = 1) : (if c then x else y) = 0 ∨ (if c then x else y) = 1 := by
  by_cases g : c
  · rw [if_pos g]
    exact h
  · rw [if_neg g]
    exact k
theorem b01_r {x : Int} (h : x = 0 ∨ x = 1) : R32 x := by
  rcases h with rfl | rfl <;> decide
theorem zcmp_r (x y : Int) : R32 (zcmp x y) := by
  unfold zcmp
  split
  · decide
  · split <;> decide
theorem am_le {a b : Nat} (h : Nat.ble a b = true) : a ≤ b := Nat.le_of_ble_eq_true h
theorem am_jp {P : Int → Prop} {x y : Int} (e : x = y) (k : P x) : P y := e ▸ k
theorem am_use {a b : Prop} (f : a → b) (k : a) : b := f k
theorem am_ite2 {c : Prop} [Decidable c] {a b : Prop} (f : c → a) (g : ¬ c → b) : if c then a else b := by
  by_cases h : c
  · rw [if_pos h]
    exact f h
  · rw [if_neg h]
    exact g h
theorem am_ifT {c : Prop} [Decidable c] {a b : Prop} (h : c) (k : a) : if c then a else b := by rw [if_pos h]; exact k
theorem am_ifF {c : Prop} [Decidable c] {a b : Prop} (h : ¬ c) (k : b) : if c then a else b := by rw [if_neg h]; exact k
theorem zX_r {Z W : Zm} {a k b : Nat} (x : zX Z W) (ha : a < zSz Z) (h : zR Z a k = some b) : zR W a k = some b := by rw [(x.2 a ha).2.2]; exact h
theorem zIx.n {i : Int} {n : Nat} (h : zIx i n) : i.toNat < n := by
  have h1 := h.1
  have h2 := h.2.1
  omega
theorem am_nf {ci f : Nat} {v : vw_C} {b : Bool} (h : amCl[ci]? = some v) (hb : (v.2.1 f).2.2.2 = b) : ∀ r, amCl[ci]? = some r → (r.2.1 f).2.2.2 = b := by
  intro r hr
  rw [h] at hr
  cases hr
  exact hb
theorem iN_narB {x : Int} (h : x = 0 ∨ x = 1) : narrow .boolean (iv x) = iv x := by
  rcases h with rfl | rfl <;> rfl
theorem am_rb {x : Int} (h : x = 0 ∨ x = 1) : ∃ t, (some FieldType.boolean : Option FieldType) = some t ∧ narrow t (iv x) = iv x := ⟨_, rfl, iN_narB h⟩
theorem am_rc {x : Int} (h0 : 0 ≤ x) (h1 : x < 65536) : ∃ t, (some FieldType.char : Option FieldType) = some t ∧ narrow t (iv x) = iv x := ⟨_, rfl, by
  have h := iN_nar_c h0 h1
  unfold vp_nar at h
  show Value.int ((iN x).toUInt32 % 65536).toInt32 = _
  rw [iN_char, show x % 65536 = x by omega]⟩
theorem z_ifB_eq {G : Gx} {d : Nat} {mi : MI} {pc pc' : Nat} {ls : LsT} {st : List Value} {Z : Zm} {Q : Rv → Zm → Prop} {tgt : Nat} {off : Int} {c : Prop} [Decidable c] (hd : decode mi.2.1 pc = .ok (.ifCond .eq off, 3)) (ht : (pc : Int) + off = (tgt : Int)) (hp : pc + 3 = pc') (k : if c then ZP G d mi pc' ls st Z Q else ZP G d mi tgt ls st Z Q) : ZP G d mi pc ls (iv (b2 c) :: st) Z Q := z_if_eq hd ht hp (b01_r (b2_01 c)) (by
  by_cases h : c
  · rw [if_pos h] at k
    rw [b2_p h, if_neg (by decide)]
    exact k
  · rw [if_neg h] at k
    rw [b2_f h, if_pos rfl]
    exact k)
theorem z_ifB_ne {G : Gx} {d : Nat} {mi : MI} {pc pc' : Nat} {ls : LsT} {st : List Value} {Z : Zm} {Q : Rv → Zm → Prop} {tgt : Nat} {off : Int} {c : Prop} [Decidable c] (hd : decode mi.2.1 pc = .ok (.ifCond .ne off, 3)) (ht : (pc : Int) + off = (tgt : Int)) (hp : pc + 3 = pc') (k : if c then ZP G d mi tgt ls st Z Q else ZP G d mi pc' ls st Z Q) : ZP G d mi pc ls (iv (b2 c) :: st) Z Q := z_if_ne hd ht hp (b01_r (b2_01 c)) (by
  by_cases h : c
  · rw [if_pos h] at k
    rw [b2_p h, if_neg (by decide)]
    exact k
  · rw [if_neg h] at k
    rw [b2_f h, if_pos rfl]
    exact k)
theorem amT1 {w : Cond} {i : Nat} (h : tables_1_1[i]? = some w) : w ∈ tables_1 := List.mem_append_left _ (List.mem_of_getElem? h)
theorem amT2 {w : Cond} {i : Nat} (h : tables_1_2[i]? = some w) : w ∈ tables_1 := List.mem_append_right _ (List.mem_append_left _ (List.mem_of_getElem? h))
theorem amT3 {w : Cond} {i : Nat} (h : tables_1_3[i]? = some w) : w ∈ tables_1 := List.mem_append_right _ (List.mem_append_right _ (List.mem_append_left _ (List.mem_of_getElem? h)))
theorem amT4 {w : Cond} {i : Nat} (h : tables_1_4[i]? = some w) : w ∈ tables_1 := List.mem_append_right _ (List.mem_append_right _ (List.mem_append_right _ (List.mem_append_left _ (List.mem_of_getElem? h))))
theorem amT5 {w : Cond} {i : Nat} (h : tables_1_5[i]? = some w) : w ∈ tables_1 := List.mem_append_right _ (List.mem_append_right _ (List.mem_append_right _ (List.mem_append_right _ (List.mem_append_left _ (List.mem_of_getElem? h)))))
theorem amT6 {w : Cond} {i : Nat} (h : tables_1_6[i]? = some w) : w ∈ tables_1 := List.mem_append_right _ (List.mem_append_right _ (List.mem_append_right _ (List.mem_append_right _ (List.mem_append_right _ (List.mem_append_left _ (List.mem_of_getElem? h))))))
theorem amT7 {w : Cond} {i : Nat} (h : tables_1_7[i]? = some w) : w ∈ tables_1 := List.mem_append_right _ (List.mem_append_right _ (List.mem_append_right _ (List.mem_append_right _ (List.mem_append_right _ (List.mem_append_right _ (List.mem_append_left _ (List.mem_of_getElem? h)))))))
theorem amT8 {w : Cond} {i : Nat} (h : tables_1_8[i]? = some w) : w ∈ tables_1 := List.mem_append_right _ (List.mem_append_right _ (List.mem_append_right _ (List.mem_append_right _ (List.mem_append_right _ (List.mem_append_right _ (List.mem_append_right _ (List.mem_append_left _ (List.mem_of_getElem? h))))))))
theorem amT9 {w : Cond} {i : Nat} (h : tables_1_9[i]? = some w) : w ∈ tables_1 := List.mem_append_right _ (List.mem_append_right _ (List.mem_append_right _ (List.mem_append_right _ (List.mem_append_right _ (List.mem_append_right _ (List.mem_append_right _ (List.mem_append_right _ (List.mem_append_left _ (List.mem_of_getElem? h)))))))))
theorem amT10 {w : Cond} {i : Nat} (h : tables_1_10[i]? = some w) : w ∈ tables_1 := List.mem_append_right _ (List.mem_append_right _ (List.mem_append_right _ (List.mem_append_right _ (List.mem_append_right _ (List.mem_append_right _ (List.mem_append_right _ (List.mem_append_right _ (List.mem_append_right _ (List.mem_of_getElem? h)))))))))
