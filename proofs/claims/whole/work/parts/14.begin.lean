/-! ===== the start: what the Statement gives is a world without cells ===== -/
def amFl : List Cond := flatC (Jvm.Cond.and given_1 narrow_1)
abbrev amSt (i : Nat) : Term := .string (amStr i).1 (amStr i).2.1
abbrev amSv (i : Nat) : Term := .field (amSt i) "java/lang/String" "value" "[B"
def amFs (i : Nat) : Bool := (decide (Cond.exactly (amSt i) "java/lang/String" ∈ amFl) && decide (Cond.eq (.field (amSt i) "java/lang/String" "coder" "B") (.int 0) ∈ amFl) && decide (Cond.arrayOf (amSv i) .byte ∈ amFl) && decide (Cond.eq (.length (amSv i)) (.int (Int32.ofNat (amByt i).length)) ∈ amFl) && ((List.range (amByt i).length).all fun j => decide (Cond.eq (.elem (amSv i) (.int (Int32.ofNat j))) (.int ((amByt i).getD j 0)) ∈ amFl)) && decide (Cond.stringRef (amStr i).1 (amStr i).2.1 (amStr i).2.2 ∈ tables_1))
theorem am_fs0 : amFs 0 = true := by decide +kernel
theorem am_fs1 : amFs 1 = true := by decide +kernel
theorem am_fs2 : amFs 2 = true := by decide +kernel
theorem am_fs3 : amFs 3 = true := by decide +kernel
theorem am_fs4 : amFs 4 = true := by decide +kernel
theorem am_fs5 : amFs 5 = true := by decide +kernel
theorem am_fs6 : amFs 6 = true := by decide +kernel
theorem am_fs7 : amFs 7 = true := by decide +kernel
theorem am_fs8 : amFs 8 = true := by decide +kernel
theorem am_fs9 : amFs 9 = true := by decide +kernel
theorem am_flatS : ∀ i, i < 10 → amFs i = true
  | 0, _ => am_fs0
  | 1, _ => am_fs1
  | 2, _ => am_fs2
  | 3, _ => am_fs3
  | 4, _ => am_fs4
  | 5, _ => am_fs5
  | 6, _ => am_fs6
  | 7, _ => am_fs7
  | 8, _ => am_fs8
  | 9, _ => am_fs9
  | n + 10, h => absurd h (by omega)
abbrev amTl : Term := .static RX11 "LEAST_FACTS" "[I"
abbrev amThi : Term := .static RX11 "GREATEST_FACTS" "[I"
theorem am_flatT : (decide (Cond.arrayOf amTl .int ∈ amFl) && decide (Cond.eq (.length amTl) (.int 8) ∈ amFl) && ((List.range 8).all fun j => decide (Cond.eq (.elem amTl (.int (Int32.ofNat j))) (.int (amLow.getD j 0)) ∈ amFl)) && (decide (Cond.arrayOf amThi .int ∈ amFl) && decide (Cond.eq (.length amThi) (.int 8) ∈ amFl) && ((List.range 8).all fun j => decide (Cond.eq (.elem amThi (.int (Int32.ofNat j))) (.int (amHigh.getD j 0)) ∈ amFl)))
  && (amNc.all fun q => decide (Cond.not (.castable q.1 q.2) ∈ amFl)) && decide (Cond.eq (.static "java/lang/String" "COMPACT_STRINGS" "Z") (.int 1) ∈ amFl) && decide (Cond.isRef (.static Bundle.tN "UNASSIGNED_STACK" Bundle.steD) ∈ amFl) && decide (Cond.isRef (.static Bundle.tN "SUPPRESSED_SENTINEL" Bundle.listD) ∈ amFl)) = true := by decide +kernel
theorem am_refs : (tables_1.all fun w => match w with
  | .stringRef o _ _ => decide (o = RX11) || decide (o = RX12)
  | _ => true) = true := by decide +kernel
theorem am_class {s : State} {args : Array Value} (hts : ∀ w ∈ lw_tbl, w.before args s = true) : ∀ c : Nat, ∃ q : ClassId × (Nat → Nat), ∀ r : vw_C, amCl[c]? = some r → u_Kn s r.1 r.2.1 r.2.2 q.1 q.2 := by
  have h1 : ∀ w ∈ amWs, w.before args s = true := fun w hw => hts w (List.mem_filter.mp hw).1
  have key : ∀ (C : String) (T : u_T) (N n i : Nat), (∀ w ∈ u_ws C T N, w ∈ amWs) → tables_1[i]? = some (Cond.instantiable C n) → ∃ q : ClassId × (Nat → Nat), u_Kn s C T N q.1 q.2 := fun C T N n i hu hi => by
    obtain ⟨cC, iS, h⟩ := u_known (n := n) h1 hu (hts _ (List.mem_append_right _ (List.mem_of_getElem? hi)))
    exact ⟨(cC, iS), h⟩
  intro c
  match c with
  | 0 =>
    obtain ⟨q, h⟩ := key RX0 TX0 5 5 42 am_u0 (by decide +kernel)
    exact ⟨q, fun r hr => by cases hr; exact h⟩
  | 1 =>
    obtain ⟨q, h⟩ := key RX1 TX1 3 3 206 am_u1 (by decide +kernel)
    exact ⟨q, fun r hr => by cases hr; exact h⟩
  | 2 =>
    obtain ⟨q, h⟩ := key RX2 TX2 7 7 389 am_u2 (by decide +kernel)
    exact ⟨q, fun r hr => by cases hr; exact h⟩
  | 3 =>
    obtain ⟨q, h⟩ := key RX3 TX3 3 3 90 am_u3 (by decide +kernel)
    exact ⟨q, fun r hr => by cases hr; exact h⟩
  | 4 =>
    obtain ⟨q, h⟩ := key RX4 TX4 4 4 317 am_u4 (by decide +kernel)
    exact ⟨q, fun r hr => by cases hr; exact h⟩
  | 5 =>
    obtain ⟨q, h⟩ := key RX5 TX5 7 7 289 am_u5 (by decide +kernel)
    exact ⟨q, fun r hr => by cases hr; exact h⟩
  | 6 =>
    obtain ⟨q, h⟩ := key RX6 TX6 7 7 336 am_u6 (by decide +kernel)
    exact ⟨q, fun r hr => by cases hr; exact h⟩
  | 7 =>
    obtain ⟨q, h⟩ := key RX7 TX7 14 14 129 am_u7 (by decide +kernel)
    exact ⟨q, fun r hr => by cases hr; exact h⟩
  | 8 =>
    obtain ⟨q, h⟩ := key RX8 TX8 6 6 364 am_u8 (by decide +kernel)
    exact ⟨q, fun r hr => by cases hr; exact h⟩
  | 9 =>
    obtain ⟨q, h⟩ := key RX9 TX9 15 15 229 am_u9 (by decide +kernel)
    exact ⟨q, fun r hr => by cases hr; exact h⟩
  | 10 =>
    obtain ⟨q, h⟩ := key RX10 TX10 3 3 110 am_u10 (by decide +kernel)
    exact ⟨q, fun r hr => by cases hr; exact h⟩
  | 11 =>
    obtain ⟨q, h⟩ := key RX11 TX11 20 20 34 am_u11 (by decide +kernel)
    exact ⟨q, fun r hr => by cases hr; exact h⟩
  | 12 =>
    obtain ⟨q, h⟩ := key RX12 TX12 26 26 1664 am_u12 (by decide +kernel)
    exact ⟨q, fun r hr => by cases hr; exact h⟩
  | 13 =>
    obtain ⟨q, h⟩ := key "java/lang/IllegalArgumentException" TX0 0 6 731 (fun w h => (nomatch h)) (by decide +kernel)
    exact ⟨q, fun r hr => by cases hr; exact h⟩
  | 14 =>
    obtain ⟨q, h⟩ := key "java/lang/IllegalStateException" TX0 0 6 803 (fun w h => (nomatch h)) (by decide +kernel)
    exact ⟨q, fun r hr => by cases hr; exact h⟩
  | 15 =>
    obtain ⟨q, h⟩ := key "java/util/NoSuchElementException" TX0 0 6 832 (fun w h => (nomatch h)) (by decide +kernel)
    exact ⟨q, fun r hr => by cases hr; exact h⟩
  | 16 =>
    obtain ⟨q, h⟩ := key "java/lang/IndexOutOfBoundsException" TX0 0 6 1058 (fun w h => (nomatch h)) (by decide +kernel)
    exact ⟨q, fun r hr => by cases hr; exact h⟩
  | 17 =>
    obtain ⟨q, h⟩ := key "java/lang/UnsupportedOperationException" TX0 0 6 1137 (fun w h => (nomatch h)) (by decide +kernel)
    exact ⟨q, fun r hr => by cases hr; exact h⟩
  | 18 =>
    obtain ⟨q, h⟩ := key "java/lang/ArithmeticException" TX0 0 6 1584 (fun w h => (nomatch h)) (by decide +kernel)
    exact ⟨q, fun r hr => by cases hr; exact h⟩
  | n + 19 => exact ⟨(0, fun _ => 0), fun r hr => by cases hr⟩
/-- an array class that the tables name -/
theorem am_ac {args : Array Value} {s : State} {t : FieldType} (h : (Cond.arrayClass t).before args s = true) (ho : ∀ C, t ≠ .object C) : ∃ c : ClassId, ArrOfT s c t ∧ va_RA s c t := by
  obtain ⟨c, k, comp, h1, h2, h3⟩ := Cond.arrayClass_spec h
  refine ⟨c, fun N z => ⟨(fun q hq => by cases hq), k, h2, comp, h3⟩, ?_⟩
  cases t <;> first | exact h1 | exact absurd rfl (ho _)
set_option maxHeartbeats 4000000 in
theorem am_begin {p : Program} {s : State} {m : MethodId} {meth : Method} {c : Code} (l : Launch) {b L : Nat} {xs : Nat → Int32} (C0 : lw_At p s m meth c b L xs) : ∃ G : Gx, G.1 = l ∧ G.2.1 = s.heap.size ∧ G.2.2.1 60 = b ∧ G.2.2.2.2.2 = (L, xs) ∧ amK G s ∧ amO G s s.heap := by
  obtain ⟨-, -, -, -, -, hts, hX, hbl, -, hgv, -⟩ := C0
  have hs : ∀ c ∈ amFl, c.before #[Value.ref b] s = true := flat_of_before _ hgv
  obtain ⟨D1, hD⟩ := Classical.axiomOfChoice (am_class hts)
  obtain ⟨c0, a0, r0⟩ := am_ac (t := .int) (hts _ (List.mem_append_right _ (List.mem_of_getElem? (i := 88) (by decide +kernel)))) (fun C h => by cases h)
  obtain ⟨c1, a1, r1⟩ := am_ac (t := .char) (hts _ (List.mem_append_right _ (List.mem_of_getElem? (i := 127) (by decide +kernel)))) (fun C h => by cases h)
  obtain ⟨c2, a2, r2⟩ := am_ac (t := .boolean) (hts _ (List.mem_append_right _ (List.mem_of_getElem? (i := 1751) (by decide +kernel)))) (fun C h => by cases h)
  obtain ⟨c3, a3, r3⟩ := am_ac (t := .long) (hts _ (List.mem_append_right _ (List.mem_of_getElem? (i := 204) (by decide +kernel)))) (fun C h => by cases h)
  obtain ⟨c4, a4, r4⟩ := am_ac (t := .double) (hts _ (List.mem_append_right _ (List.mem_of_getElem? (i := 2292) (by decide +kernel)))) (fun C h => by cases h)
  have o5 : (Cond.arrayOver (.array .int)).before #[Value.ref b] s = true := (hts _ (List.mem_append_right _ (List.mem_of_getElem? (i := 48) (by decide +kernel))))
  have o6 : (Cond.arrayOver (.array .boolean)).before #[Value.ref b] s = true := (hts _ (List.mem_append_right _ (List.mem_of_getElem? (i := 1671) (by decide +kernel))))
  have o7 : (Cond.arrayOver (.object RX0)).before #[Value.ref b] s = true := (hts _ (List.mem_append_right _ (List.mem_of_getElem? (i := 96) (by decide +kernel))))
  obtain ⟨i5, c5, k5, f5, -, g5, e5, n5⟩ := Jvm.Stand.arrayOver_specB o5
  obtain ⟨i6, c6, k6, f6, -, g6, e6, n6⟩ := Jvm.Stand.arrayOver_specB o6
  obtain ⟨i7, c7, k7, f7, -, g7, e7, n7⟩ := Cond.arrayOver_spec o7
  have hi5 : i5 = c0 := Option.some.inj (f5.symm.trans r0)
  obtain ⟨kI, hkI, -⟩ := Vm.findClass_spec r0
  have hA : ∀ a : Nat, a < s.heap.size → ¬ s.heap.size ≤ a := fun a h => Nat.not_le.mpr h
  have h0 : ∀ i : Nat, ∃ q : Nat × Nat, i < 10 → vk_R (amStr i).1 (amStr i).2.1 (amStr i).2.2 q.1 s ∧ va_O "java/lang/String" q.1 (fun q => s.heap.size ≤ q) s s.heap ∧ va_OF "java/lang/String" "coder" "B" (.int 0) q.1 (fun q => s.heap.size ≤ q) s s.heap ∧ va_OF "java/lang/String" "value" "[B" (.ref q.2) q.1 (fun q => s.heap.size ≤ q) s s.heap ∧ va_T .byte q.2 (amByt i).length (fun j => .int ((amByt i).getD j 0)) (fun q => s.heap.size ≤ q) s s.heap := by
    intro i
    by_cases hi : i < 10
    · have h1 := am_flatS i hi
      simp only [amFs, Bool.and_eq_true, decide_eq_true_eq] at h1
      obtain ⟨⟨⟨⟨⟨m1, m2⟩, m3⟩, m4⟩, m5⟩, m6⟩ := h1
      have m5' := List.all_eq_true.mp m5
      obtain ⟨a, cS, cA, kA, q1, q2, q3, q4, q5, q6, -⟩ := Cond.exactly_spec (args := #[Value.ref b]) (first := s) (o := none) (s := s) (idx := []) (t := amSt i) (cls := "java/lang/String") (hs _ m1)
      obtain ⟨t, ht, hT⟩ := va_Tof (f := fun j => .int ((amByt i).getD j 0)) (A := fun q => s.heap.size ≤ q) (N := (amByt i).length) (by
        have : ∀ i, i < 10 → (amByt i).length < 2 ^ 31 := by decide
        exact this i hi) (hs _ m3) (va_eqt (hs _ m4)) (fun j hj => va_eqt (hs _ (decide_eq_true_eq.mp (m5' j (List.mem_range.mpr hj))))) hA
      exact ⟨(a, t), fun _ => ⟨vk_R.of (hts _ (List.mem_append_right _ m6)) q1, ⟨cA, q3, q5, by rw [q6]; exact q2, hA a (Array.getElem?_eq_some_iff.mp q3).1⟩, vk_OFof q1 (va_eqt (hs _ m2)) hA, vk_OFof q1 ht hA, hT⟩⟩
    · exact ⟨(0, 0), fun h => absurd h hi⟩
  obtain ⟨ad, had⟩ := Classical.axiomOfChoice h0
  have hT := am_flatT
  simp only [Bool.and_eq_true, decide_eq_true_eq] at hT
  obtain ⟨⟨⟨⟨⟨⟨⟨t1, t2⟩, t3⟩, ⟨⟨u1, u2⟩, u3⟩⟩, t4⟩, t5⟩, t6⟩, t7⟩ := hT
  have t3' := List.all_eq_true.mp t3
  have u3' := List.all_eq_true.mp u3
  have t4' := List.all_eq_true.mp t4
  obtain ⟨tl, ht1, ht2⟩ := va_Tof (N := 8) (f := fun j => .int (amLow.getD j 0)) (A := fun q => s.heap.size ≤ q) (by decide) (hs _ t1) (va_eqt (hs _ t2)) (fun j hj => va_eqt (hs _ (decide_eq_true_eq.mp (t3' j (List.mem_range.mpr hj))))) hA
  obtain ⟨th, hh1, hh2⟩ := va_Tof (N := 8) (f := fun j => .int (amHigh.getD j 0)) (A := fun q => s.heap.size ≤ q) (by decide) (hs _ u1) (va_eqt (hs _ u2)) (fun j hj => va_eqt (hs _ (decide_eq_true_eq.mp (u3' j (List.mem_range.mpr hj))))) hA
  let od : Nat → Nat := fun n => if n < 20 then (ad n).1 else if n < 40 then (ad (n - 20)).2 else if n = 40 then tl else if n = 41 then th else b
  let ca : Nat → ClassId := fun k => if k = 100 then c0 else if k = 101 then c1 else if k = 102 then c2 else if k = 110 then c3 else if k = 111 then c4 else if k = 120 then c5 else if k = 121 then c6 else c7
  refine ⟨(l, s.heap.size, od, (fun c => (D1 c).1, fun c => (D1 c).2), ca, L, xs), rfl, rfl, rfl, rfl, ⟨⟨fun c q hq => hD c q hq, fun k q hk => ?_⟩, k5, kI, g5, ?_, hkI, o5, o6, o7, fun q hq => va_Nc.of (hs _ (decide_eq_true_eq.mp (t4' q hq)))⟩, fun i hi => ?_, va_Zof (hts _ (List.mem_append_right _ (List.mem_of_getElem? (i := 865) (by decide +kernel)))) (hts _ (List.mem_append_right _ (List.mem_of_getElem? (i := 23) (by decide +kernel)))) (va_eqi (hs _ t5)) hA, ⟨va_Zof (hts _ (List.mem_append_right _ (List.mem_of_getElem? (i := 936) (by decide +kernel)))) (hts _ (List.mem_append_right _ (List.mem_of_getElem? (i := 1) (by decide +kernel)))) ht1 hA, ht2⟩, ⟨va_Zof (hts _ (List.mem_append_right _ (List.mem_of_getElem? (i := 938) (by decide +kernel)))) (hts _ (List.mem_append_right _ (List.mem_of_getElem? (i := 1) (by decide +kernel)))) hh1 hA, hh2⟩, vx_Zqof (hts _ (List.mem_append_right _ (List.mem_of_getElem? (i := 757) (by decide +kernel)))) (hts _ (List.mem_append_right _ (List.mem_of_getElem? (i := 15) (by decide +kernel)))) (hs _ t6) hA, vx_Zqof (hts _ (List.mem_append_right _ (List.mem_of_getElem? (i := 759) (by decide +kernel)))) (hts _ (List.mem_append_right _ (List.mem_of_getElem? (i := 15) (by decide +kernel)))) (hs _ t7) hA, fun o k t ht => ?_, ⟨hX, hbl⟩, Nat.le_refl _⟩
  · match k, hk with
    | 0, hk => cases hk; exact ⟨a0, r0⟩
    | 1, hk => cases hk; exact ⟨a1, r1⟩
    | 2, hk => cases hk; exact ⟨a2, r2⟩
    | 3, hk => cases hk; exact ⟨a3, r3⟩
    | 4, hk => cases hk; exact ⟨a4, r4⟩
    | 5, hk => cases hk; exact ⟨fun N z => ⟨(fun q hq => by cases hq), k5, g5, i5, e5⟩, n5⟩
    | 6, hk => cases hk; exact ⟨fun N z => ⟨(fun q hq => by cases hq), k6, g6, i6, e6⟩, n6⟩
    | 7, hk => cases hk; exact ⟨fun N z => ⟨(fun q hq => by cases hq), k7, g7, i7, e7⟩, k7, i7, g7, e7, f7, n7⟩
    | n + 8, hk => cases hk
  · rw [e5, hi5]
    rfl
  · have h1 := had i hi
    have e1 : od i = (ad i).1 := if_pos (by omega)
    have e2 : od (20 + i) = (ad i).2 := by
      show (if 20 + i < 20 then _ else if 20 + i < 40 then (ad (20 + i - 20)).2 else _) = _
      rw [if_neg (by omega), if_pos (by omega), Nat.add_sub_cancel_left]
    show vk_R _ _ _ (od i) s ∧ va_O _ (od i) _ s s.heap ∧ va_OF _ _ _ _ (od i) _ s s.heap ∧ va_OF _ _ _ (.ref (od (20 + i))) (od i) _ s s.heap ∧ va_T _ (od (20 + i)) _ _ _ s s.heap
    rw [e1, e2]
    exact h1
  · have hb := hts _ (List.mem_append_right _ ht)
    have ho := List.all_eq_true.mp am_refs _ ht
    have hf : ∃ cur, s.vm.findClass o = some cur := by
      simp only [Bool.or_eq_true, decide_eq_true_eq] at ho
      rcases ho with ho | ho
      · rw [ho]; exact ⟨_, (hD 11 _ rfl).2.1⟩
      · rw [ho]; exact ⟨_, (hD 12 _ rfl).2.1⟩
    obtain ⟨cur, hcur⟩ := hf
    obtain ⟨k9, cf, i9, a9, -, -, -, -, -, hev⟩ := Cond.stringRef_spec hcur hb
    exact ⟨a9, vk_R.of hb hev⟩
