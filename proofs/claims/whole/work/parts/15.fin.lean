/-! ===== the claim, once the law's walk over the small machine is had ===== -/
def m0 : Mm := (0, 0, fun _ => 0, fun _ => 0, fun _ _ => 0, fun _ _ => 0, fun _ _ => 0, fun _ _ => none)
abbrev m_law : MI := (x, code, 9, ret, [])
def lawQ : Rv → Mm → Prop := fun r M => r = .inl (some (.int 1)) ∧ mSz M ≤ 603072 ∧ mSl M ≤ 7170154
theorem am_whole {p : Program} {e : Env} {s : State} {m : MethodId} {below : List Frame} {meth : Method} {c : Code} (l : Launch) (hflags : l.flags = flags0) {b L : Nat} {xs : Nat → Int32} (C0 : lw_At p s m meth c b L xs)
    (h : ∀ G : Gx, G.2.2.2.2.2 = (L, xs) → WM G 1500 m_law [.ref 1000060] m0 lawQ) : W p l e room_1 s m #[Value.ref b] below meth c s.heap [] 0 0 (lw_Z below #[Value.ref b] s) (entryFrame m ([Value.ref b] : List Value).toArray 9) := by
  obtain ⟨G, g1, g2, g3, g4, hK, hO⟩ := am_begin l C0
  subst g1
  obtain ⟨hx, hb, hr, hml, hown, hts, hX, hbl, hlk, hgv, het, hnm⟩ := C0
  obtain ⟨r, M', ⟨rfl, q1, q2⟩, hz, h3⟩ := h G g4
  have F : amFx G 1500 m_law p room_1 s m #[Value.ref b] meth c := ⟨hx, hb, hml, hown, fun w hw => hts w (List.mem_filter.mp hw).1, ⟨by decide, by decide⟩, hr, hlk, het, hnm, hK, hO, by
    have h9 : G.1.flags = flags0 := hflags
    show G.1.stackTraces = false
    unfold Launch.stackTraces
    rw [h9]
    decide⟩
  have X : amRp G m0 s s.heap [] := ⟨⟨by rw [g2]; rfl, by decide⟩, (show ∀ k q, (amW G m0)[k]? = some q → _ by
    intro k q hq
    have h9 : amW G m0 = [] := rfl
    rw [h9] at hq
    cases hq), amW_D, va_S.rf⟩
  have hv : amV G (.ref 1000060) = .ref b := by
    rw [show amV G (.ref 1000060) = .ref (G.2.2.1 60) from amVold G 60, g3]
  have hl := amL_entry (G := G) (av := [.ref 1000060]) (n := 9) (by decide)
  rw [List.map_cons, List.map_nil, hv] at hl
  have hd0 := Drawn.sameBut.refl s.drawn lw_cs
  refine W.base ?_
  have h9 := h3 p e room_1 s m #[Value.ref b] below meth c s.heap [] _ (lw_Z below #[Value.ref b] s) 0 0 F X hl (by rw [Nat.zero_add]; exact Nat.le_trans (Nat.sub_le _ _) q1) (by rw [Nat.zero_add]; exact Nat.le_trans (Nat.sub_le _ _) q2) (fun H locs arr pc X1 hv1 hd1 => by
    have hf : ∀ q ∈ locs, s.heap.size ≤ q.base := fun q hq => by rw [← g2]; exact X1.2.2.2.2.2 q hq
    refine va_forget hf ?_
    refine W.widen (k := 603072) (n := 7170154) (by rw [Nat.zero_add]; exact Nat.le_trans (Nat.sub_le _ _) q1) (by rw [Nat.zero_add]; exact Nat.le_trans (Nat.sub_le _ _) q2) ?_
    exact lw_ret hd0 hx hb hr hlk hd1)
  rw [lg_entry_eq]
  exact h9
