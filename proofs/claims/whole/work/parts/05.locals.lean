/-! ===== the locals ===== -/
theorem amV_cat (G : Gx) (v : Value) : (amV G v).category = v.category := by cases v <;> rfl
/-- a store at i ends a value of two words that stands just below -/
def amPre (ls : LsT) : Nat → LsT
  | 0 => ls
  | j + 1 => match ls[j]? with
    | some (some w) => if w.category = 2 then ls.set j none else ls
    | _ => ls
/-- what a store at i of a value of one word leaves -/
def amS1 (ls : LsT) (i : Nat) (v : Value) : LsT := (amPre ls i).set i (some v)
/-- what a store at i of a value of two words leaves -/
def amS2 (ls : LsT) (i : Nat) (v : Value) : LsT := ((amPre ls i).set (i + 1) none).set i (some v)
theorem am_set_at {l : LsT} {i : Nat} {x y : Option Value} (h : (l.set i x)[i]? = some y) : y = x := by
  rw [List.getElem?_set] at h
  simp only [if_true] at h
  by_cases hl : i < l.length
  · rw [if_pos hl] at h
    exact (Option.some.inj h).symm
  · rw [if_neg hl] at h
    cases h
def amLv (G : Gx) (ls : LsT) (n : Nat) : List (Nat × Value) := (List.range n).filterMap fun k => match ls[k]? with
  | some (some w) => some (k, amV G w)
  | _ => none
theorem amL_mem {G : Gx} {ls : LsT} {n i : Nat} {v : Value} (h : ls[i]? = some (some v)) (hi : i < n) : (i, amV G v) ∈ amLv G ls n := by
  refine List.mem_filterMap.mpr ⟨i, List.mem_range.mpr hi, ?_⟩
  rw [h]
theorem amL_has {G : Gx} {ls : LsT} {arr : Array Slot} {n : Nat} (L : amL G ls arr n) : lv_has arr n (amLv G ls n) := by
  refine ⟨L.1, L.2.1, fun q hq => ?_⟩
  obtain ⟨k, -, hk⟩ := List.mem_filterMap.mp hq
  cases h : ls[k]? with
  | none => rw [h] at hk; cases hk
  | some z =>
    cases z with
    | none => rw [h] at hk; cases hk
    | some w =>
      rw [h] at hk
      cases hk
      exact L.2.2 k w h
theorem amS_pre {ls : LsT} {i k : Nat} {w : Value} (h : (amPre ls i)[k]? = some (some w)) : ls[k]? = some (some w) ∧ ¬ (k + 1 = i ∧ w.category = 2) := by
  cases i with
  | zero => exact ⟨h, fun z => by omega⟩
  | succ j =>
    simp only [amPre] at h
    cases hj : ls[j]? with
    | none =>
      rw [hj] at h
      refine ⟨h, fun z => ?_⟩
      have hk : k = j := by omega
      rw [hk, hj] at h
      cases h
    | some z =>
      rw [hj] at h
      cases z with
      | none =>
        refine ⟨h, fun z => ?_⟩
        have hk : k = j := by omega
        rw [hk] at h
        rw [hj] at h
        cases h
      | some u =>
        by_cases hu : u.category = 2
        · simp only [hu, if_true] at h
          by_cases hk : j = k
          · subst hk
            cases am_set_at h
          · rw [List.getElem?_set_ne hk] at h
            exact ⟨h, fun z => by omega⟩
        · simp only [hu, if_false] at h
          refine ⟨h, fun z => ?_⟩
          have hk : k = j := by omega
          rw [hk, hj] at h
          cases h
          exact hu z.2
theorem amL_s1 {G : Gx} {ls : LsT} {arr arr' : Array Slot} {n i : Nat} {v : Value} (L : amL G ls arr n) (h : lv_has arr' n ((i, amV G v) :: (amLv G ls n).filter (fun q => !(q.1 == i) && !(q.1 + 1 == i && q.2.category == 2)))) : amL G (amS1 ls i v) arr' n := by
  refine ⟨h.1, h.2.1, fun k w hk => ?_⟩
  unfold amS1 at hk
  by_cases hki : i = k
  · subst hki
    cases am_set_at hk
    exact h.2.2 _ List.mem_cons_self
  · rw [List.getElem?_set_ne hki] at hk
    obtain ⟨h1, h2⟩ := amS_pre hk
    have hkn : k < n := by
      have h3 := lv_lt (L.2.2 k w h1)
      rw [L.1] at h3
      exact h3
    refine h.2.2 (k, amV G w) (List.mem_cons_of_mem _ (List.mem_filter.mpr ⟨amL_mem h1 hkn, ?_⟩))
    have e1 : ¬ k = i := fun z => hki z.symm
    by_cases hc : k + 1 = i
    · have e2 : ¬ w.category = 2 := fun z => h2 ⟨hc, z⟩
      simp [amV_cat, e1, e2]
    · simp [amV_cat, e1, hc]
theorem amL_s2 {G : Gx} {ls : LsT} {arr arr' : Array Slot} {n i : Nat} {v : Value} (L : amL G ls arr n) (h : lv_has arr' n ((i, amV G v) :: (amLv G ls n).filter (fun q => !(q.1 == i) && (!(q.1 == i + 1) && !(q.1 + 1 == i && q.2.category == 2))))) : amL G (amS2 ls i v) arr' n := by
  refine ⟨h.1, h.2.1, fun k w hk => ?_⟩
  unfold amS2 at hk
  by_cases hki : i = k
  · subst hki
    cases am_set_at hk
    exact h.2.2 _ List.mem_cons_self
  · rw [List.getElem?_set_ne hki] at hk
    by_cases hk1 : i + 1 = k
    · subst hk1
      cases am_set_at hk
    · rw [List.getElem?_set_ne hk1] at hk
      obtain ⟨h1, h2⟩ := amS_pre hk
      have hkn : k < n := by
        have h3 := lv_lt (L.2.2 k w h1)
        rw [L.1] at h3
        exact h3
      refine h.2.2 (k, amV G w) (List.mem_cons_of_mem _ (List.mem_filter.mpr ⟨amL_mem h1 hkn, ?_⟩))
      have e1 : ¬ k = i := fun z => hki z.symm
      have e3 : ¬ k = i + 1 := fun z => hk1 z.symm
      by_cases hc : k + 1 = i
      · have e2 : ¬ w.category = 2 := fun z => h2 ⟨hc, z⟩
        simp [amV_cat, e1, e2, e3]
      · simp [amV_cat, e1, e3, hc]
