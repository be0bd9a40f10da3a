/-! ===== worlds: reading what was written ===== -/
theorem zI_s (Z : Zm) (a : Nat) (f : Nat → Int) (b : Nat) : zI (zSI Z a f) b = if b = a then f else zI Z b := rfl
theorem zI_same (Z : Zm) (a : Nat) (f : Nat → Int) : zI (zSI Z a f) a = f := if_pos rfl
theorem zI_other {Z : Zm} {a b : Nat} {f : Nat → Int} (h : b ≠ a) : zI (zSI Z a f) b = zI Z b := if_neg h
theorem zu_same {α : Type} (f : Nat → α) (k : Nat) (v : α) : zu f k v k = v := if_pos rfl
theorem zu_other {α : Type} {f : Nat → α} {k j : Nat} {v : α} (h : j ≠ k) : zu f k v j = f j := if_neg h
theorem zu_at {α : Type} (f : Nat → α) (k : Nat) (v : α) (j : Nat) : zu f k v j = if j = k then v else f j := rfl
theorem zu_zu {α : Type} (f : Nat → α) (k : Nat) (v w : α) : zu (zu f k v) k w = zu f k w := funext fun j => by
  unfold zu
  by_cases h : j = k
  · rw [if_pos h, if_pos h]
  · rw [if_neg h, if_neg h, if_neg h]
theorem zu_id {α : Type} (f : Nat → α) (k : Nat) : zu f k (f k) = f := funext fun j => by
  unfold zu
  by_cases h : j = k
  · rw [if_pos h, h]
  · rw [if_neg h]
theorem zu_comm {α : Type} (f : Nat → α) {k j : Nat} (v w : α) (h : k ≠ j) : zu (zu f k v) j w = zu (zu f j w) k v := funext fun i => by
  unfold zu
  by_cases h1 : i = j
  · rw [if_pos h1, if_neg (fun h2 => h (h2.symm.trans h1)), if_pos h1]
  · rw [if_neg h1]
    by_cases h2 : i = k
    · rw [if_pos h2, if_pos h2]
    · rw [if_neg h2, if_neg h2, if_neg h1]
/-- all ints anew -/
def zW (Z : Zm) (F : Nat → Nat → Int) : Zm := (zSz Z, zSl Z, zKd Z, zLn Z, F, zL Z, zD Z, zR Z)
theorem zSI_W (Z : Zm) (a : Nat) (f : Nat → Int) : zSI Z a f = zW Z (zu (zI Z) a f) := rfl
theorem zSI_zSI (Z : Zm) (a : Nat) (f g : Nat → Int) : zSI (zSI Z a f) a g = zSI Z a g := by
  show zW Z (zu (zu (zI Z) a f) a g) = zW Z (zu (zI Z) a g)
  rw [zu_zu]
theorem zSI_id (Z : Zm) (a : Nat) : zSI Z a (zI Z a) = Z := by
  show zW Z (zu (zI Z) a (zI Z a)) = Z
  rw [zu_id]
  rfl
theorem zSI_comm (Z : Zm) {a b : Nat} (f g : Nat → Int) (h : a ≠ b) : zSI (zSI Z a f) b g = zSI (zSI Z b g) a f := by
  show zW Z (zu (zu (zI Z) a f) b g) = zW Z (zu (zu (zI Z) b g) a f)
  rw [zu_comm _ _ _ h]
/-- the first n places are v -/
def zfl (f : Nat → Int) (n : Nat) (v : Int) : Nat → Int := fun i => if i < n then v else f i
theorem zfl_0 (f : Nat → Int) (v : Int) : zfl f 0 v = f := funext fun _ => if_neg (Nat.not_lt_zero _)
theorem zfl_s (f : Nat → Int) (n : Nat) (v : Int) : zu (zfl f n v) n v = zfl f (n + 1) v := funext fun i => by
  unfold zu zfl
  by_cases h1 : i = n
  · rw [if_pos h1, if_pos (by omega)]
  · rw [if_neg h1]
    by_cases h2 : i < n
    · rw [if_pos h2, if_pos (by omega)]
    · rw [if_neg h2, if_neg (by omega)]
theorem zIx_nat {k n : Nat} (h : k < n) (hn : n < 2147483648) : zIx (k : Int) n := ⟨by omega, by omega, hn⟩
set_option maxRecDepth 20000 in
theorem e_J7_fill_53178 {G : Gx} {Q : Rv → Zm → Prop} {Z : Zm} {a : Nat} {n : Nat} {v : Int} (ha : zA Z a 100 n) (h : (ZP G 0 m_J7_fill_53178 5 [some (.ref a), some (iv v), some (iv 0), some (iv (n : Int))] [] Z Q)) : ZM G 0 m_J7_fill_53178 [.ref a, iv v] Z Q := ZM.of [some (.ref a), some (iv v), none, none] rfl <| z_iconst (pc' := 1) (n := 0) (by decide +kernel) rfl <| z_istore_n (pc' := 2) (j := 2) (ls' := [some (.ref a), some (iv v), some (iv 0), none]) (by decide +kernel) (by decide) rfl rfl <| z_aload_n (pc' := 3) (j := 0) (by decide +kernel) rfl rfl <| z_alen (pc' := 4) (by decide +kernel) ha (by decide) rfl <| z_istore_n (pc' := 5) (j := 3) (ls' := [some (.ref a), some (iv v), some (iv 0), some (iv (n : Int))]) (by decide +kernel) (by decide) rfl rfl <| h
set_option maxRecDepth 20000 in
theorem b_J7_fill_53178_5 {G : Gx} {Q : Rv → Zm → Prop} {Z : Zm} {a : Nat} {n : Nat} {v : Int} {v2 : Int} {v3 : Int} (ha : zA Z a 100 n) (h : ((R32 v2) ∧ (R32 v3) ∧ (if v3 ≤ v2 then (Q (.inl none) Z) else ((zIx v2 n) ∧ ∀ Z5, Z5 = zSI Z a (zu (zI Z a) v2.toNat v) → ZP G 0 m_J7_fill_53178 5 [some (.ref a), some (iv v), some (iv (v2 + 1)), some (iv v3)] [] Z5 Q)))) : ZP G 0 m_J7_fill_53178 5 [some (.ref a), some (iv v), some (iv v2), some (iv v3)] [] Z Q := z_iload_n (pc' := 6) (j := 2) (by decide +kernel) rfl rfl <| z_iload_n (pc' := 7) (j := 3) (by decide +kernel) rfl rfl <| h.elim fun c1 h => h.elim fun c2 h => z_icmp_ge (pc' := 10) (tgt := 20) (off := 13) (by decide +kernel) (by decide) rfl c1 c2 (am_ite h (fun h => z_ret (by decide +kernel) rfl h) (fun h => z_aload_n (pc' := 11) (j := 0) (by decide +kernel) rfl rfl <| z_iload_n (pc' := 12) (j := 2) (by decide +kernel) rfl rfl <| z_iload_n (pc' := 13) (j := 1) (by decide +kernel) rfl rfl <| h.elim fun c4 h => z_iastore (pc' := 14) (by decide +kernel) ha c4 rfl <| have h := h _ rfl; z_iinc (pc' := 17) (j := 2) (n := 1) (x := v2) (ls' := [some (.ref a), some (iv v), some (iv (v2 + 1)), some (iv v3)]) (by decide +kernel) rfl (by decide) rfl rfl <| z_goto (tgt := 5) (off := -12) (by decide +kernel) (by decide) <| h))
theorem s_fill {G : Gx} {Z : Zm} {a n : Nat} {v : Int} (ha : zA Z a 100 n) (hn : n < 1000) : ZM G 0 m_J7_fill_53178 [.ref a, iv v] Z (fun r Z' => r = .inl none ∧ Z' = zSI Z a (zfl (zI Z a) n v)) := by
  refine e_J7_fill_53178 ha ?_
  suffices key : ∀ (m k : Nat), k + m = n → ZP G 0 m_J7_fill_53178 5 [some (.ref a), some (iv v), some (iv (k : Int)), some (iv (n : Int))] [] (zSI Z a (zfl (zI Z a) k v)) (fun r Z' => r = .inl none ∧ Z' = zSI Z a (zfl (zI Z a) n v)) by
    have h := key n 0 (by omega)
    rw [zfl_0, zSI_id] at h
    exact h
  intro m
  induction m with
  | zero =>
    intro k hk
    refine b_J7_fill_53178_5 (Z := zSI Z a _) ha ⟨⟨by omega, by omega⟩, ⟨by omega, by omega⟩, ?_⟩
    rw [if_pos (by omega)]
    refine ⟨rfl, ?_⟩
    rw [show k = n by omega]
  | succ m ih =>
    intro k hk
    refine b_J7_fill_53178_5 (Z := zSI Z a _) ha ⟨⟨by omega, by omega⟩, ⟨by omega, by omega⟩, ?_⟩
    rw [if_neg (by omega)]
    refine ⟨zIx_nat (by omega) (by omega), ?_⟩
    rintro _ rfl
    have h := ih (k + 1) (by omega)
    rw [zI_same, zSI_zSI, Int.toNat_natCast, zfl_s]
    exact h
set_option maxRecDepth 20000 in
theorem e_J0_coder_7d493 {G : Gx} {Q : Rv → Zm → Prop} {Z : Zm} {i : Nat} (hi : i < 10) (h : (Q (.inl (some (iv 0))) Z)) : ZM G 0 m_J0_coder_7d493 [.ref (1000000 + i)] Z Q := ZM.of [some (.ref (1000000 + i))] rfl <| z_gets_compact (pc' := 3) (idx := 38) (by decide +kernel) (amM4 144 rfl (by decide +kernel)) rfl <| z_if_eq (pc' := 6) (tgt := 13) (off := 10) (by decide +kernel) (by decide) rfl (by decide : R32 1) <| am_ifF (by decide) <| z_aload_n (pc' := 7) (j := 0) (by decide +kernel) rfl rfl <| z_coder (pc' := 10) (idx := 15) (by decide +kernel) hi (amM10 157 rfl (by decide +kernel)) rfl <| z_goto (tgt := 14) (off := 4) (by decide +kernel) (by decide) <| z_ireturn (by decide +kernel) ⟨_, rfl, rfl⟩ h
theorem s_coder {G : Gx} {Z : Zm} {i : Nat} (hi : i < 10) : ZM G 0 m_J0_coder_7d493 [.ref (1000000 + i)] Z (fun r Z' => r = .inl (some (iv 0)) ∧ Z' = Z) := e_J0_coder_7d493 hi ⟨rfl, rfl⟩
set_option maxRecDepth 20000 in
theorem e_J0_isLatin1_aae02 {G : Gx} {Q : Rv → Zm → Prop} {Z : Zm} {i : Nat} (hi : i < 10) (h : (Q (.inl (some (iv 1))) Z)) : ZM G 0 m_J0_isLatin1_aae02 [.ref (1000000 + i)] Z Q := ZM.of [some (.ref (1000000 + i))] rfl <| z_gets_compact (pc' := 3) (idx := 38) (by decide +kernel) (amM4 144 rfl (by decide +kernel)) rfl <| z_if_eq (pc' := 6) (tgt := 17) (off := 14) (by decide +kernel) (by decide) rfl (by decide : R32 1) <| am_ifF (by decide) <| z_aload_n (pc' := 7) (j := 0) (by decide +kernel) rfl rfl <| z_coder (pc' := 10) (idx := 15) (by decide +kernel) hi (amM10 157 rfl (by decide +kernel)) rfl <| z_if_ne (pc' := 13) (tgt := 17) (off := 7) (by decide +kernel) (by decide) rfl (by decide : R32 0) <| am_ifT (by decide) <| z_iconst (pc' := 14) (n := 1) (by decide +kernel) rfl <| z_goto (tgt := 18) (off := 4) (by decide +kernel) (by decide) <| z_ireturn (by decide +kernel) (am_rb (Or.inr rfl)) h
theorem s_isLatin1 {G : Gx} {Z : Zm} {i : Nat} (hi : i < 10) : ZM G 0 m_J0_isLatin1_aae02 [.ref (1000000 + i)] Z (fun r Z' => r = .inl (some (iv 1)) ∧ Z' = Z) := e_J0_isLatin1_aae02 hi ⟨rfl, rfl⟩
set_option maxRecDepth 20000 in
theorem e_J0_length_8abf5 {G : Gx} {Q : Rv → Zm → Prop} {Z : Zm} {i : Nat} (hi : i < 10) (h : (Q (.inl (some (iv (zshr ((amByt i).length : Int) 0)))) Z)) : ZM G 1 m_J0_length_8abf5 [.ref (1000000 + i)] Z Q := ZM.of [some (.ref (1000000 + i))] rfl <| z_aload_n (pc' := 1) (j := 0) (by decide +kernel) rfl rfl <| z_value (pc' := 4) (idx := 9) (by decide +kernel) hi (amM10 158 rfl (by decide +kernel)) rfl <| z_tlen (pc' := 5) (by decide +kernel) hi rfl <| z_aload_n (pc' := 6) (j := 0) (by decide +kernel) rfl rfl <| z_callT (pc' := 9) (idx := 335) (i := i) (mj := m_J0_coder_7d493) (av := []) (d' := 0) (by decide +kernel) rfl k_J0_coder_7d493 hi (amM4 150 rfl (by decide +kernel)) rfl (by omega) (am_le rfl) rfl (am_le rfl) rfl <| zKf (s_coder hi) <| z_ishr (pc' := 10) (by decide +kernel) rfl <| z_ireturn (by decide +kernel) ⟨_, rfl, rfl⟩ h
theorem zshr_0 (x : Int) (h : R32 x) : zshr x 0 = x := by
  unfold zshr
  have h0 : (iN 0 &&& 31) = 0 := by decide
  rw [h0, Int32.shiftRight_zero, iN_toInt h]
def zLen (i : Nat) : Nat := (amByt i).length
theorem zLen_le (i : Nat) : zLen i < 9 := by
  unfold zLen amByt
  split <;> decide
theorem s_length {G : Gx} {Z : Zm} {i : Nat} (hi : i < 10) : ZM G 1 m_J0_length_8abf5 [.ref (1000000 + i)] Z (fun r Z' => r = .inl (some (iv (zLen i))) ∧ Z' = Z) := by
  refine e_J0_length_8abf5 hi ⟨?_, rfl⟩
  have h := zLen_le i
  unfold zLen at h
  rw [zshr_0 _ ⟨by omega, by omega⟩]
  rfl
set_option maxRecDepth 20000 in
theorem e_J1_canEncode_9a6ad {G : Gx} {Q : Rv → Zm → Prop} {Z : Zm} {x : Int}  (h : ((R32 x) ∧ Q (.inl (some (iv (b2 (¬ (x < 0) ∧ (¬ (255 < x))))))) Z)) : ZM G 0 m_J1_canEncode_9a6ad [iv x] Z Q := ZM.of [some (iv x)] rfl <| z_iload_n (pc' := 1) (j := 0) (by decide +kernel) rfl rfl <| h.elim fun c1 h => am_use (fun k8 => z_if_lt (pc' := 4) (tgt := 15) (off := 14) (by decide +kernel) (by decide) rfl c1 (am_ite2 (fun q9 => z_iconst (pc' := 16) (n := 0) (by decide +kernel) rfl <| (am_jp (P := fun z9 => ZP G 0 m_J1_canEncode_9a6ad 16 [some (iv x)] [iv z9] _ Q) (b2_a1 q9) k8)) (fun q9 => z_iload_n (pc' := 5) (j := 0) (by decide +kernel) rfl rfl <| z_sipush (pc' := 8) (n := 255) (by decide +kernel) (by decide) rfl <| am_use (fun k4 => z_icmp_gt (pc' := 11) (tgt := 15) (off := 7) (by decide +kernel) (by decide) rfl c1 (by decide : R32 255) (am_ite2 (fun q5 => z_iconst (pc' := 16) (n := 0) (by decide +kernel) rfl <| (am_jp (P := fun z9 => ZP G 0 m_J1_canEncode_9a6ad 16 [some (iv x)] [iv z9] _ Q) (b2_n q5) k4)) (fun q5 => z_iconst (pc' := 12) (n := 1) (by decide +kernel) rfl <| z_goto (tgt := 16) (off := 4) (by decide +kernel) (by decide) <| (am_jp (P := fun z9 => ZP G 0 m_J1_canEncode_9a6ad 16 [some (iv x)] [iv z9] _ Q) (b2_nn q5) k4)))) <| (am_jp (P := fun z9 => ZP G 0 m_J1_canEncode_9a6ad 16 [some (iv x)] [iv z9] _ Q) (b2_a2 q9) k8)))) <| z_ireturn (by decide +kernel) (am_rb (b2_01 _)) h
theorem s_canEncode {G : Gx} {Z : Zm} {x : Int} (hx : R32 x) : ZM G 0 m_J1_canEncode_9a6ad [iv x] Z (fun r Z' => r = .inl (some (iv (b2 (0 ≤ x ∧ x ≤ 255)))) ∧ Z' = Z) := by
  refine e_J1_canEncode_9a6ad ⟨hx, ?_⟩
  simp only [and_true]
  rw [show b2 (¬ x < 0 ∧ ¬ 255 < x) = b2 (0 ≤ x ∧ x ≤ 255) from b2_iff (by omega)]
set_option maxRecDepth 20000 in
theorem e_J1_indexOfChar_4cfef {G : Gx} {Q : Rv → Zm → Prop} {Z : Zm} {i : Nat} {x : Int} {p : Int} {q : Int} (hi : i < 10) (h : (ZP G 0 m_J1_indexOfChar_4cfef 7 [some (.ref (1000000 + (20 + i))), some (iv x), some (iv p), some (iv q), some (iv (zi2b x)), some (iv p)] [] Z Q)) : ZM G 0 m_J1_indexOfChar_4cfef [.ref (1000000 + (20 + i)), iv x, iv p, iv q] Z Q := ZM.of [some (.ref (1000000 + (20 + i))), some (iv x), some (iv p), some (iv q), none, none] rfl <| z_iload_n (pc' := 1) (j := 1) (by decide +kernel) rfl rfl <| z_i2b (pc' := 2) (by decide +kernel) rfl <| z_istore (pc' := 4) (j := 4) (ls' := [some (.ref (1000000 + (20 + i))), some (iv x), some (iv p), some (iv q), some (iv (zi2b x)), none]) (by decide +kernel) (by decide) rfl rfl <| z_iload_n (pc' := 5) (j := 2) (by decide +kernel) rfl rfl <| z_istore (pc' := 7) (j := 5) (ls' := [some (.ref (1000000 + (20 + i))), some (iv x), some (iv p), some (iv q), some (iv (zi2b x)), some (iv p)]) (by decide +kernel) (by decide) rfl rfl <| h
set_option maxRecDepth 20000 in
theorem b_J1_indexOfChar_4cfef_7 {G : Gx} {Q : Rv → Zm → Prop} {Z : Zm} {i : Nat} {q : Int} {o1 : Option Value} {o2 : Option Value} {v4 : Int} {v5 : Int} (hi : i < 10) (h : ((R32 v5) ∧ (R32 q) ∧ (if q ≤ v5 then (Q (.inl (some (iv (-1)))) Z) else ((zIx v5 (amByt i).length) ∧ (R32 (zByt i v5.toNat)) ∧ (R32 v4) ∧ (if (zByt i v5.toNat) = v4 then (Q (.inl (some (iv v5))) Z) else (ZP G 0 m_J1_indexOfChar_4cfef 7 [some (.ref (1000000 + (20 + i))), o1, o2, some (iv q), some (iv v4), some (iv (v5 + 1))] [] Z Q)))))) : ZP G 0 m_J1_indexOfChar_4cfef 7 [some (.ref (1000000 + (20 + i))), o1, o2, some (iv q), some (iv v4), some (iv v5)] [] Z Q := z_iload (pc' := 9) (j := 5) (by decide +kernel) rfl rfl <| z_iload_n (pc' := 10) (j := 3) (by decide +kernel) rfl rfl <| h.elim fun c1 h => h.elim fun c2 h => z_icmp_ge (pc' := 13) (tgt := 31) (off := 21) (by decide +kernel) (by decide) rfl c1 c2 (am_ite h (fun h => z_iconst (pc' := 32) (n := -1) (by decide +kernel) rfl <| z_ireturn (by decide +kernel) ⟨_, rfl, rfl⟩ h) (fun h => z_aload_n (pc' := 14) (j := 0) (by decide +kernel) rfl rfl <| z_iload (pc' := 16) (j := 5) (by decide +kernel) rfl rfl <| h.elim fun c3 h => z_tb (pc' := 17) (by decide +kernel) hi c3 rfl <| z_iload (pc' := 19) (j := 4) (by decide +kernel) rfl rfl <| h.elim fun c4 h => h.elim fun c5 h => z_icmp_ne (pc' := 22) (tgt := 25) (off := 6) (by decide +kernel) (by decide) rfl c4 c5 (am_ite h (fun h => z_iload (pc' := 24) (j := 5) (by decide +kernel) rfl rfl <| z_ireturn (by decide +kernel) ⟨_, rfl, rfl⟩ h) (fun h => z_iinc (pc' := 28) (j := 5) (n := 1) (x := v5) (ls' := [some (.ref (1000000 + (20 + i))), o1, o2, some (iv q), some (iv v4), some (iv (v5 + 1))]) (by decide +kernel) rfl (by decide) rfl rfl <| z_goto (tgt := 7) (off := -21) (by decide +kernel) (by decide) <| h))))
set_option maxRecDepth 20000 in
theorem e_J1_indexOf_4cfef {G : Gx} {Q : Rv → Zm → Prop} {Z : Zm} {i : Nat} {x : Int} {p : Int} {q : Int} (hi : i < 10) (h : ((R32 x) ∧ (if 0 ≤ x ∧ x ≤ 255 then ((R32 p) ∧ (R32 q) ∧ (R32 ((amByt i).length : Int)) ∧ (R32 (max p 0)) ∧ (R32 (min q ((amByt i).length : Int))) ∧ (if (max p 0) < (min q ((amByt i).length : Int)) then (ZM G 0 m_J1_indexOfChar_4cfef [.ref (1000000 + (20 + i)), iv x, iv (max p 0), iv (min q ((amByt i).length : Int))] Z (zKc G 1 m_J1_indexOf_4cfef 36 [some (.ref (1000000 + (20 + i))), some (iv x), some (iv (max p 0)), some (iv (min q ((amByt i).length : Int)))] [] Q)) else (Q (.inl (some (iv (-1)))) Z))) else (Q (.inl (some (iv (-1)))) Z)))) : ZM G 1 m_J1_indexOf_4cfef [.ref (1000000 + (20 + i)), iv x, iv p, iv q] Z Q := ZM.of [some (.ref (1000000 + (20 + i))), some (iv x), some (iv p), some (iv q)] rfl <| z_iload_n (pc' := 1) (j := 1) (by decide +kernel) rfl rfl <| h.elim fun c1 h => z_callS (pc' := 4) (idx := 88) (mj := m_J1_canEncode_9a6ad) (av := [iv x]) (d' := 0) (by decide +kernel) rfl k_J1_canEncode_9a6ad l_RJ1_88 rfl (by omega) (am_le rfl) rfl (am_le rfl) rfl <| zKf (s_canEncode c1) <| z_ifB_ne (pc' := 7) (tgt := 9) (off := 5) (by decide +kernel) (by decide) rfl (am_ite h (fun h => z_iload_n (pc' := 10) (j := 2) (by decide +kernel) rfl rfl <| z_iconst (pc' := 11) (n := 0) (by decide +kernel) rfl <| h.elim fun c2 h => z_max (pc' := 14) (idx := 92) (by decide +kernel) (amM4 160 rfl (by decide +kernel)) (amM3 108 rfl (by decide +kernel)) (amM1 21 rfl (by decide +kernel)) (amM3 109 rfl (by decide +kernel)) (by omega) (am_le rfl) c2 (by decide : R32 0) rfl <| z_istore_n (pc' := 15) (j := 2) (ls' := [some (.ref (1000000 + (20 + i))), some (iv x), some (iv (max p 0)), some (iv q)]) (by decide +kernel) (by decide) rfl rfl <| z_iload_n (pc' := 16) (j := 3) (by decide +kernel) rfl rfl <| z_aload_n (pc' := 17) (j := 0) (by decide +kernel) rfl rfl <| z_tlen (pc' := 18) (by decide +kernel) hi rfl <| h.elim fun c3 h => h.elim fun c4 h => z_min (pc' := 21) (idx := 38) (by decide +kernel) (amM4 161 rfl (by decide +kernel)) (amM3 35 rfl (by decide +kernel)) (amM1 21 rfl (by decide +kernel)) (amM3 36 rfl (by decide +kernel)) (by omega) (am_le rfl) c3 c4 rfl <| z_istore_n (pc' := 22) (j := 3) (ls' := [some (.ref (1000000 + (20 + i))), some (iv x), some (iv (max p 0)), some (iv (min q ((amByt i).length : Int)))]) (by decide +kernel) (by decide) rfl rfl <| z_iload_n (pc' := 23) (j := 2) (by decide +kernel) rfl rfl <| z_iload_n (pc' := 24) (j := 3) (by decide +kernel) rfl rfl <| h.elim fun c5 h => h.elim fun c6 h => z_icmp_lt (pc' := 27) (tgt := 29) (off := 5) (by decide +kernel) (by decide) rfl c5 c6 (am_ite h (fun h => z_aload_n (pc' := 30) (j := 0) (by decide +kernel) rfl rfl <| z_iload_n (pc' := 31) (j := 1) (by decide +kernel) rfl rfl <| z_iload_n (pc' := 32) (j := 2) (by decide +kernel) rfl rfl <| z_iload_n (pc' := 33) (j := 3) (by decide +kernel) rfl rfl <| z_callS (pc' := 36) (idx := 95) (mj := m_J1_indexOfChar_4cfef) (av := [.ref (1000000 + (20 + i)), iv x, iv (max p 0), iv (min q ((amByt i).length : Int))]) (d' := 0) (by decide +kernel) rfl k_J1_indexOfChar_4cfef l_RJ1_95 rfl (by omega) (am_le rfl) rfl (am_le rfl) rfl h) (fun h => z_iconst (pc' := 28) (n := -1) (by decide +kernel) rfl <| z_ireturn (by decide +kernel) ⟨_, rfl, rfl⟩ h))) (fun h => z_iconst (pc' := 8) (n := -1) (by decide +kernel) rfl <| z_ireturn (by decide +kernel) ⟨_, rfl, rfl⟩ h))
set_option maxRecDepth 20000 in
theorem b_J1_indexOf_4cfef_36 {G : Gx} {Q : Rv → Zm → Prop} {Z : Zm} {i : Nat} {o0 : Option Value} {o1 : Option Value} {o2 : Option Value} {o3 : Option Value} {s0 : Int} (hi : i < 10) (h : (Q (.inl (some (iv s0))) Z)) : ZP G 1 m_J1_indexOf_4cfef 36 [o0, o1, o2, o3] [iv s0] Z Q := z_ireturn (by decide +kernel) ⟨_, rfl, rfl⟩ h
set_option maxRecDepth 20000 in
theorem e_J0_indexOf_7cf53 {G : Gx} {Q : Rv → Zm → Prop} {Z : Zm} {i : Nat} {x : Int} {p : Int} (hi : i < 10) (h : (ZM G 1 m_J1_indexOf_4cfef [.ref (1000000 + (20 + i)), iv x, iv p, iv (zLen i : Int)] Z (zKc G 2 m_J0_indexOf_7cf53 20 [some (.ref (1000000 + i)), some (iv x), some (iv p)] [] Q))) : ZM G 2 m_J0_indexOf_7cf53 [.ref (1000000 + i), iv x, iv p] Z Q := ZM.of [some (.ref (1000000 + i)), some (iv x), some (iv p)] rfl <| z_aload_n (pc' := 1) (j := 0) (by decide +kernel) rfl rfl <| z_callT (pc' := 4) (idx := 492) (i := i) (mj := m_J0_isLatin1_aae02) (av := []) (d' := 0) (by decide +kernel) rfl k_J0_isLatin1_aae02 hi (amM4 140 rfl (by decide +kernel)) rfl (by omega) (am_le rfl) rfl (am_le rfl) rfl <| zKf (s_isLatin1 hi) <| z_if_eq (pc' := 7) (tgt := 23) (off := 19) (by decide +kernel) (by decide) rfl (by decide : R32 1) <| am_ifF (by decide) <| z_aload_n (pc' := 8) (j := 0) (by decide +kernel) rfl rfl <| z_value (pc' := 11) (idx := 9) (by decide +kernel) hi (amM10 158 rfl (by decide +kernel)) rfl <| z_iload_n (pc' := 12) (j := 1) (by decide +kernel) rfl rfl <| z_iload_n (pc' := 13) (j := 2) (by decide +kernel) rfl rfl <| z_aload_n (pc' := 14) (j := 0) (by decide +kernel) rfl rfl <| z_callT (pc' := 17) (idx := 505) (i := i) (mj := m_J0_length_8abf5) (av := []) (d' := 1) (by decide +kernel) rfl k_J0_length_8abf5 hi (amM4 146 rfl (by decide +kernel)) rfl (by omega) (am_le rfl) rfl (am_le rfl) rfl <| zKf (s_length hi) <| z_callS (pc' := 20) (idx := 637) (mj := m_J1_indexOf_4cfef) (av := [.ref (1000000 + (20 + i)), iv x, iv p, iv (zLen i : Int)]) (d' := 1) (by decide +kernel) rfl k_J1_indexOf_4cfef l_RJ0_637 rfl (by omega) (am_le rfl) rfl (am_le rfl) rfl h
set_option maxRecDepth 20000 in
theorem b_J0_indexOf_7cf53_20 {G : Gx} {Q : Rv → Zm → Prop} {Z : Zm} {i : Nat} {o0 : Option Value} {o1 : Option Value} {o2 : Option Value} {s0 : Int} (hi : i < 10) (h : (Q (.inl (some (iv s0))) Z)) : ZP G 2 m_J0_indexOf_7cf53 20 [o0, o1, o2] [iv s0] Z Q := z_goto (tgt := 36) (off := 16) (by decide +kernel) (by decide) <| z_ireturn (by decide +kernel) ⟨_, rfl, rfl⟩ h
set_option maxRecDepth 20000 in
theorem e_J0_indexOf_0f7a4 {G : Gx} {Q : Rv → Zm → Prop} {Z : Zm} {i : Nat} {x : Int} (hi : i < 10) (h : (ZM G 2 m_J0_indexOf_7cf53 [.ref (1000000 + i), iv x, iv 0] Z (zKc G 3 m_J0_indexOf_0f7a4 6 [some (.ref (1000000 + i)), some (iv x)] [] Q))) : ZM G 3 m_J0_indexOf_0f7a4 [.ref (1000000 + i), iv x] Z Q := ZM.of [some (.ref (1000000 + i)), some (iv x)] rfl <| z_aload_n (pc' := 1) (j := 0) (by decide +kernel) rfl rfl <| z_iload_n (pc' := 2) (j := 1) (by decide +kernel) rfl rfl <| z_iconst (pc' := 3) (n := 0) (by decide +kernel) rfl <| z_callT (pc' := 6) (idx := 633) (i := i) (mj := m_J0_indexOf_7cf53) (av := [iv x, iv 0]) (d' := 2) (by decide +kernel) rfl k_J0_indexOf_7cf53 hi (amM4 136 rfl (by decide +kernel)) rfl (by omega) (am_le rfl) rfl (am_le rfl) rfl h
set_option maxRecDepth 20000 in
theorem b_J0_indexOf_0f7a4_6 {G : Gx} {Q : Rv → Zm → Prop} {Z : Zm} {i : Nat} {o0 : Option Value} {o1 : Option Value} {s0 : Int} (hi : i < 10) (h : (Q (.inl (some (iv s0))) Z)) : ZP G 3 m_J0_indexOf_0f7a4 6 [o0, o1] [iv s0] Z Q := z_ireturn (by decide +kernel) ⟨_, rfl, rfl⟩ h
set_option maxRecDepth 20000 in
theorem e_J6_compare_7cf53 {G : Gx} {Q : Rv → Zm → Prop} {Z : Zm} {x : Int} {y : Int}  (h : ((R32 x) ∧ (R32 y) ∧ Q (.inl (some (iv (if y ≤ x then b2 (¬ (x = y)) else (-1))))) Z)) : ZM G 0 m_J6_compare_7cf53 [iv x, iv y] Z Q := ZM.of [some (iv x), some (iv y)] rfl <| z_iload_n (pc' := 1) (j := 0) (by decide +kernel) rfl rfl <| z_iload_n (pc' := 2) (j := 1) (by decide +kernel) rfl rfl <| h.elim fun c1 h => h.elim fun c2 h => am_use (fun k9 => z_icmp_ge (pc' := 5) (tgt := 9) (off := 7) (by decide +kernel) (by decide) rfl c1 c2 (am_ite2 (fun q10 => z_iload_n (pc' := 10) (j := 0) (by decide +kernel) rfl rfl <| z_iload_n (pc' := 11) (j := 1) (by decide +kernel) rfl rfl <| am_use (fun k5 => z_icmp_ne (pc' := 14) (tgt := 18) (off := 7) (by decide +kernel) (by decide) rfl c1 c2 (am_ite2 (fun q6 => z_iconst (pc' := 15) (n := 0) (by decide +kernel) rfl <| z_goto (tgt := 19) (off := 4) (by decide +kernel) (by decide) <| (am_jp (P := fun z9 => ZP G 0 m_J6_compare_7cf53 19 [some (iv x), some (iv y)] [iv z9] _ Q) (b2_n q6) k5)) (fun q6 => z_iconst (pc' := 19) (n := 1) (by decide +kernel) rfl <| (am_jp (P := fun z9 => ZP G 0 m_J6_compare_7cf53 19 [some (iv x), some (iv y)] [iv z9] _ Q) (b2_nn q6) k5)))) <| (am_jp (P := fun z9 => ZP G 0 m_J6_compare_7cf53 19 [some (iv x), some (iv y)] [iv z9] _ Q) (if_pos q10) k9)) (fun q10 => z_iconst (pc' := 6) (n := -1) (by decide +kernel) rfl <| z_goto (tgt := 19) (off := 13) (by decide +kernel) (by decide) <| (am_jp (P := fun z9 => ZP G 0 m_J6_compare_7cf53 19 [some (iv x), some (iv y)] [iv z9] _ Q) (if_neg q10) k9)))) <| z_ireturn (by decide +kernel) ⟨_, rfl, rfl⟩ h
def zIdxF (i : Nat) (x : Int) : Nat → Nat → Int
  | 0, _ => -1
  | m + 1, k => if zByt i k = x then (k : Int) else zIdxF i x m (k + 1)
/-- where a letter stands in the text i, -1 if nowhere -/
def zIdx (i : Nat) (x : Int) : Int := if 0 ≤ x ∧ x ≤ 255 then zIdxF i x (zLen i) 0 else -1
theorem zByt_b : ∀ i, i < 10 → ∀ k, k < 9 → 0 ≤ zByt i k ∧ zByt i k ≤ 127 := by decide +kernel
theorem zi2b_b : ∀ n : Fin 256, zi2b ((n.val : Nat) : Int) = if n.val < 128 then ((n.val : Nat) : Int) else ((n.val : Nat) : Int) - 256 := by decide +kernel
theorem zi2b_eq {x y : Int} (h0 : 0 ≤ x) (h1 : x ≤ 255) (hy : 0 ≤ y) (hy1 : y ≤ 127) : y = zi2b x ↔ y = x := by
  have h := zi2b_b ⟨x.toNat, by omega⟩
  simp only [Int.toNat_of_nonneg h0] at h
  rw [h]
  by_cases h2 : x.toNat < 128
  · rw [if_pos h2]
  · rw [if_neg h2]
    omega
theorem zi2b_r (x : Int) : R32 (zi2b x) := R32_of _
theorem s_indexOfChar {G : Gx} {Z : Zm} {i : Nat} (hi : i < 10) {x : Int} (h0 : 0 ≤ x) (h1 : x ≤ 255) : ZM G 0 m_J1_indexOfChar_4cfef [.ref (1000000 + (20 + i)), iv x, iv 0, iv (zLen i : Int)] Z (fun r Z' => r = .inl (some (iv (zIdxF i x (zLen i) 0))) ∧ Z' = Z) := by
  have hl := zLen_le i
  refine e_J1_indexOfChar_4cfef hi ?_
  suffices key : ∀ (m k : Nat), k + m = zLen i → ZP G 0 m_J1_indexOfChar_4cfef 7 [some (.ref (1000000 + (20 + i))), some (iv x), some (iv 0), some (iv (zLen i : Int)), some (iv (zi2b x)), some (iv (k : Int))] [] Z (fun r Z' => r = .inl (some (iv (zIdxF i x m k))) ∧ Z' = Z) from key (zLen i) 0 (by omega)
  intro m
  induction m with
  | zero =>
    intro k hk
    refine b_J1_indexOfChar_4cfef_7 hi ⟨⟨by omega, by omega⟩, ⟨by omega, by omega⟩, ?_⟩
    rw [if_pos (by omega)]
    exact ⟨rfl, rfl⟩
  | succ m ih =>
    intro k hk
    have hb := zByt_b i hi k (by omega)
    refine b_J1_indexOfChar_4cfef_7 hi ⟨⟨by omega, by omega⟩, ⟨by omega, by omega⟩, ?_⟩
    rw [if_neg (by omega)]
    refine ⟨zIx_nat (by unfold zLen at hk; omega) (by unfold zLen at hl; omega), ?_⟩
    rw [Int.toNat_natCast]
    refine ⟨⟨by omega, by omega⟩, zi2b_r x, ?_⟩
    have e : zIdxF i x (m + 1) k = if zByt i k = x then (k : Int) else zIdxF i x m (k + 1) := rfl
    rw [e]
    by_cases h : zByt i k = x
    · rw [if_pos ((zi2b_eq h0 h1 hb.1 hb.2).mpr h), if_pos h]
      exact ⟨rfl, rfl⟩
    · rw [if_neg (fun g => h ((zi2b_eq h0 h1 hb.1 hb.2).mp g)), if_neg h]
      exact ih (k + 1) (by omega)
theorem s_indexOf4 {G : Gx} {Z : Zm} {i : Nat} (hi : i < 10) {x : Int} (hx : R32 x) : ZM G 1 m_J1_indexOf_4cfef [.ref (1000000 + (20 + i)), iv x, iv 0, iv (zLen i : Int)] Z (fun r Z' => r = .inl (some (iv (zIdx i x))) ∧ Z' = Z) := by
  have hl := zLen_le i
  have hl0 : 0 < zLen i := by
    have : ∀ i, i < 10 → 0 < zLen i := by decide +kernel
    exact this i hi
  unfold zIdx
  refine e_J1_indexOf_4cfef hi ⟨hx, ?_⟩
  by_cases h : 0 ≤ x ∧ x ≤ 255
  · rw [if_pos h, if_pos h]
    have e1 : max (0 : Int) 0 = 0 := by omega
    have e2 : min (zLen i : Int) ((amByt i).length : Int) = (zLen i : Int) := by unfold zLen; omega
    rw [e1, e2]
    refine ⟨by decide, ⟨by omega, by omega⟩, ⟨by unfold zLen at hl; omega, by unfold zLen at hl; omega⟩, by decide, ⟨by omega, by omega⟩, ?_⟩
    rw [if_pos (by omega)]
    exact zKf (s_indexOfChar hi h.1 h.2) (b_J1_indexOf_4cfef_36 hi ⟨rfl, rfl⟩)
  · rw [if_neg h, if_neg h]
    exact ⟨rfl, rfl⟩
theorem s_indexOf {G : Gx} {Z : Zm} {i : Nat} (hi : i < 10) {x : Int} (hx : R32 x) : ZM G 3 m_J0_indexOf_0f7a4 [.ref (1000000 + i), iv x] Z (fun r Z' => r = .inl (some (iv (zIdx i x))) ∧ Z' = Z) :=
  e_J0_indexOf_0f7a4 hi (zKf (v := some (iv (zIdx i x))) (Z1 := Z) (e_J0_indexOf_7cf53 hi (zKf (s_indexOf4 hi hx) (b_J0_indexOf_7cf53_20 hi ⟨rfl, rfl⟩))) (b_J0_indexOf_0f7a4_6 hi ⟨rfl, rfl⟩))
theorem zIdxF_r (i : Nat) (x : Int) : ∀ m k : Nat, (zIdxF i x m k = -1) ∨ ((k : Int) ≤ zIdxF i x m k ∧ zIdxF i x m k < ((k + m : Nat) : Int)) := by
  intro m
  induction m with
  | zero => intro k; exact Or.inl rfl
  | succ m ih =>
    intro k
    have e : zIdxF i x (m + 1) k = if zByt i k = x then (k : Int) else zIdxF i x m (k + 1) := rfl
    rw [e]
    by_cases h : zByt i k = x
    · rw [if_pos h]
      omega
    · rw [if_neg h]
      have := ih (k + 1)
      omega
theorem zIdx_r (i : Nat) (x : Int) : -1 ≤ zIdx i x ∧ zIdx i x < zLen i := by
  unfold zIdx
  by_cases h : 0 ≤ x ∧ x ≤ 255
  · rw [if_pos h]
    have := zIdxF_r i x (zLen i) 0
    omega
  · rw [if_neg h]
    omega
/-- the sign of a comparison -/
def zSgn (x y : Int) : Int := if x < y then -1 else if x = y then 0 else 1
theorem s_compare {G : Gx} {Z : Zm} {x y : Int} (hx : R32 x) (hy : R32 y) : ZM G 0 m_J6_compare_7cf53 [iv x, iv y] Z (fun r Z' => r = .inl (some (iv (zSgn x y))) ∧ Z' = Z) := by
  refine e_J6_compare_7cf53 ⟨hx, hy, ?_, rfl⟩
  have e : (if y ≤ x then b2 (¬ x = y) else -1) = zSgn x y := by
    unfold zSgn
    by_cases h : x < y
    · rw [if_neg (by omega), if_pos h]
    · rw [if_pos (by omega), if_neg h]
      by_cases h2 : x = y
      · rw [if_pos h2, b2_n h2]
      · rw [if_neg h2, b2_nn h2]
  rw [e]
