/-! ===== values that are cut to their width ===== -/
def rI (x : Int) : Int := (iN x).toInt
def rJ (x : Int) : Int := (jN x).toInt
theorem iv_rI (x : Int) : iv (rI x) = iv x := congrArg Value.int (iN_toInt_id (iN x))
theorem jv_rJ (x : Int) : jv (rJ x) = jv x := congrArg Value.long (Int64.ofInt_toInt (jN x))
theorem rI_r (x : Int) : R32 (rI x) := R32_of _
theorem rJ_r (x : Int) : R64 (rJ x) := ⟨Int64.le_toInt _, Int64.toInt_lt _⟩
theorem rI_id {x : Int} (h : R32 x) : rI x = x := iN_toInt h
section
variable {G : Gx} {d : Nat} {mi : MI} {pc pc' tgt : Nat} {ls : LsT} {st : List Value} {Z : Zm} {Q : Rv → Zm → Prop} {off x : Int}
theorem z_i2lr (hd : decode mi.2.1 pc = .ok (.i2l, 1)) (hp : pc + 1 = pc') (k : ZP G d mi pc' ls (jv (rI x) :: st) Z Q) : ZP G d mi pc ls (iv x :: st) Z Q := by
  have t := z_i2l hd (rI_r x) hp k
  rw [iv_rI] at t
  exact t
theorem z_zr (hd : decode mi.2.1 pc = .ok (.ifCond .eq off, 3)) (ht : (pc : Int) + off = (tgt : Int)) (hp : pc + 3 = pc') (k : if rI x = 0 then ZP G d mi tgt ls st Z Q else ZP G d mi pc' ls st Z Q) : ZP G d mi pc ls (iv x :: st) Z Q := by
  have t := z_if_eq hd ht hp (rI_r x) k
  rw [iv_rI] at t
  exact t
theorem z_same (hd : decode mi.2.1 pc = .ok (.if_icmp .eq off, 3)) (ht : (pc : Int) + off = (tgt : Int)) (hp : pc + 3 = pc') (k : ZP G d mi tgt ls st Z Q) : ZP G d mi pc ls (iv x :: iv x :: st) Z Q := by
  have t := z_icmp_eq (st := st) (Q := Q) (Z := Z) (ls := ls) (G := G) (d := d) hd ht hp (rI_r x) (rI_r x) (by rw [if_pos rfl]; exact k)
  rw [iv_rI] at t
  exact t
theorem z_lsame (hd : decode mi.2.1 pc = .ok (.lcmp, 1)) (hp : pc + 1 = pc') (k : ZP G d mi pc' ls (iv 0 :: st) Z Q) : ZP G d mi pc ls (jv x :: jv x :: st) Z Q := by
  have t := z_lcmp (st := st) (Q := Q) (Z := Z) (ls := ls) (G := G) (d := d) hd (rJ_r x) (rJ_r x) hp (by
    rw [show zcmp (rJ x) (rJ x) = 0 by unfold zcmp; rw [if_neg (by omega), if_pos rfl]]
    exact k)
  rw [jv_rJ] at t
  exact t
end
/-! ===== numbers and not numbers ===== -/
theorem fd32 {a : UInt32} (h : vf_n32 a) : FP.Core.decode FP.Core.b32 a.toNat ≠ .nan := by
  have h : a &&& 0x7fffffff ≤ 0x7f800000 := h
  rw [UInt32.le_iff_toNat_le, UInt32.toNat_and] at h
  have h : a.toNat &&& (2 ^ 31 - 1) ≤ 2139095040 := h
  rw [Nat.and_two_pow_sub_one_eq_mod] at h
  generalize a.toNat = n at h ⊢
  unfold FP.Core.decode FP.Core.fieldE FP.Core.fieldT
  rw [fb32_e, fb32_t]
  by_cases c : n / 8388608 % 256 = 256 - 1
  · rw [if_pos c, if_pos (by omega)]
    exact fun g => nomatch g
  · rw [if_neg c]
    split
    · exact fun g => nomatch g
    · exact fun g => nomatch g
theorem fd64 {a : UInt64} (h : vf_n64 a) : FP.Core.decode FP.Core.b64 a.toNat ≠ .nan := by
  have h : a &&& 0x7fffffffffffffff ≤ 0x7ff0000000000000 := h
  rw [UInt64.le_iff_toNat_le, UInt64.toNat_and] at h
  have h : a.toNat &&& (2 ^ 63 - 1) ≤ 9218868437227405312 := h
  rw [Nat.and_two_pow_sub_one_eq_mod] at h
  generalize a.toNat = n at h ⊢
  unfold FP.Core.decode FP.Core.fieldE FP.Core.fieldT
  rw [fb64_e, fb64_t]
  by_cases c : n / 4503599627370496 % 2048 = 2048 - 1
  · rw [if_pos c, if_pos (by omega)]
    exact fun g => nomatch g
  · rw [if_neg c]
    split
    · exact fun g => nomatch g
    · exact fun g => nomatch g
theorem n32_0 : vf_n32 0 := (by decide : (0 : UInt32) &&& 0x7fffffff ≤ 0x7f800000)
theorem n64_0 : vf_n64 0 := (by decide : (0 : UInt64) &&& 0x7fffffffffffffff ≤ 0x7ff0000000000000)
theorem fo_int {x : Int} : compare x x = Ordering.eq := by
  show compareOfLessAndEq x x = _
  unfold compareOfLessAndEq
  rw [if_neg (Int.lt_irrefl _), if_pos rfl]
theorem fo_same {d : FP.Core.Datum} (h : d ≠ .nan) : FP.Core.order d d = some .eq := by
  cases d with
  | nan => exact absurd rfl h
  | inf s =>
    show some (compare (FP.Core.signed s 1) (FP.Core.signed s 1)) = _
    exact congrArg some fo_int
  | fin s c q =>
    show some (compare _ _) = _
    exact congrArg some fo_int
theorem fw_num {a : UInt32} (h : vf_n32 a) : vf_n64 (FP.f2d a) := by
  have g := fd32 h
  have e : FP.f2d a = UInt64.ofNat (FP.Core.encode FP.Core.b64 (FP.Core.round FP.Core.b64 (FP.Core.decode FP.Core.b32 a.toNat))) := by
    unfold FP.f2d
    rw [if_neg (by
      show ¬ (decide (FP.Core.decode FP.Core.b32 a.toNat = .nan)) = true
      rw [decide_eq_false g]
      decide)]
    rfl
  rw [e]
  refine fb64_num ?_
  generalize FP.Core.decode FP.Core.b32 a.toNat = w at g
  cases w with
  | nan => exact absurd rfl g
  | inf s => exact Or.inl ⟨s, rfl⟩
  | fin s c q => exact fb64_rat _ _ _ _
theorem zd_same {a : UInt64} (h : vf_n64 a) (op : CmpOp) : zdcmp a a op = 0 := by
  have e : FP.dcmp a a = some .eq := fo_same (fd64 h)
  unfold zdcmp
  rw [e]
  cases op <;> rfl
/-! ===== what a wrapper leaves ===== -/
def wS : Nat → Prop := fun a => a < 300 ∨ a = 320 ∨ a = 321
def wC (Z : Zm) (P : Ou → Zm → Prop) (o : Ou) : Rv → Zm → Prop := fun r W => r = .inl (some (iv (o.1 : Int))) ∧ IC W o.2.2 ∧ zF wS 1 6 Z W ∧ (o.1 = 0 → P o W)
def wPI (o : Ou) (W : Zm) : Prop := zL W 320 0 = rI o.2.1
def wPJ (o : Ou) (W : Zm) : Prop := zL W 320 0 = o.2.1
def wPB (o : Ou) (W : Zm) : Prop := zL W 320 0 = if rI o.2.1 = 0 then 0 else 1
def wPF (a : UInt32) (o : Ou) (W : Zm) : Prop := zD W 321 0 = FP.f2d (if o.2.1 = 0 then a else 0)
def wPD (a : UInt64) (o : Ou) (W : Zm) : Prop := zD W 321 0 = (if o.2.1 = 0 then a else 0)
theorem wF {Z W : Zm} (f : zF cF 1 6 Z W) : zF wS 1 6 Z W := f.mono (fun a g => Or.inl g) (Nat.le_refl _) (Nat.le_refl _)
theorem wL {Z W : Zm} {σ : St} (h : IC W σ) (f : zF cF 1 6 Z W) (g : Nat → Int) : IC (zSL W 320 g) σ ∧ zF wS 1 6 Z (zSL W 320 g) := by
  have e : ∀ a, a ≠ 320 → zL (zSL W 320 g) a = zL W a := fun a ha => zu_other ha
  have f1 : zF (fun a => a = 320) 0 0 W (zSL W 320 g) := ⟨⟨Nat.le_refl _, fun a _ => ⟨rfl, rfl, rfl⟩⟩, ⟨Nat.le_refl _, Nat.le_refl _, Nat.le_refl _⟩, fun a _ hs => ⟨rfl, e a hs, rfl⟩⟩
  exact ⟨h.fr0 f1 (fun a ha => by unfold scr; have : a = 320 := ha; omega) (fun a h1 h2 => by show ¬ a = 320; omega), ⟨f.1, f.2.1, fun a ha hs => by
    have hs : ¬ (a < 300 ∨ a = 320 ∨ a = 321) := hs
    obtain ⟨g1, g2, g3⟩ := f.2.2 a ha (fun q => hs (Or.inl q))
    exact ⟨g1, (e a (by omega)).trans g2, g3⟩⟩⟩
theorem wD {Z W : Zm} {σ : St} (h : IC W σ) (f : zF cF 1 6 Z W) (g : Nat → UInt64) : IC (zSD W 321 g) σ ∧ zF wS 1 6 Z (zSD W 321 g) := by
  have e : ∀ a, a ≠ 321 → zD (zSD W 321 g) a = zD W a := fun a ha => zu_other ha
  have f1 : zF (fun a => a = 321) 0 0 W (zSD W 321 g) := ⟨⟨Nat.le_refl _, fun a _ => ⟨rfl, rfl, rfl⟩⟩, ⟨Nat.le_refl _, Nat.le_refl _, Nat.le_refl _⟩, fun a _ hs => ⟨rfl, rfl, e a hs⟩⟩
  exact ⟨h.fr0 f1 (fun a ha => by unfold scr; have : a = 321 := ha; omega) (fun a h1 h2 => by show ¬ a = 321; omega), ⟨f.1, f.2.1, fun a ha hs => by
    have hs : ¬ (a < 300 ∨ a = 320 ∨ a = 321) := hs
    obtain ⟨g1, g2, g3⟩ := f.2.2 a ha (fun q => hs (Or.inl q))
    exact ⟨g1, g2, (e a (by omega)).trans g3⟩⟩⟩
theorem zSL_at (W : Zm) (x : Int) : zL (zSL W 320 (zu (zL W 320) ((0 : Int)).toNat x)) 320 0 = x := by
  show zu (zL W) 320 (zu (zL W 320) 0 x) 320 0 = x
  rw [zu_same, zu_same]
theorem zSD_at (W : Zm) (x : UInt64) : zD (zSD W 321 (zu (zD W 321) ((0 : Int)).toNat x)) 321 0 = x := by
  show zu (zD W) 321 (zu (zD W 321) 0 x) 321 0 = x
  rw [zu_same, zu_same]
/-! ===== how many kinds of refusals ===== -/
theorem cIf_le {c : Prop} {a b : Ou} {k : Nat} (h1 : a.1 ≤ k) (h2 : b.1 ≤ k) : (cIf c a b).1 ≤ k := by
  by_cases h : c
  · rw [cIf_p h]
    exact h1
  · rw [cIf_f h]
    exact h2
theorem pIf_le {σ : St} {f : Pl → Ou} {k : Nat} (h1 : 1 ≤ k) (h2 : ∀ p, (f p).1 ≤ k) : (pIf σ f).1 ≤ k := by
  unfold pIf
  split
  · exact h1
  · exact h2 _
theorem bd_task {σ : St} {x : Int} : (o_task σ x).1 ≤ 2 := by
  unfold o_task
  repeat (first | exact Nat.le_of_ble_eq_true rfl | refine cIf_le ?_ ?_ | refine pIf_le (by decide) fun p => ?_)
theorem w_L_task {G : Gx} {Z : Zm} {σ : St} {x : Int} (h : IC Z σ) (ho : okS σ) (hz : zSz Z < 990000) (hou : zA Z 320 110 1) (hx : R32 x) : ZM G 30 m_L_task [.ref 0, iv x, .ref 320] Z (wC Z wPI (o_task σ x)) := by
  refine ZM.of [some (.ref 0), some (iv x), some (.ref 320), none] rfl ?_
  refine z_aload_n (pc' := 1) (j := 2) (by decide +kernel) rfl rfl ?_
  refine z_iconst (pc' := 2) (n := 0) (by decide +kernel) rfl ?_
  refine z_aload_n (pc' := 3) (j := 0) (by decide +kernel) rfl rfl ?_
  refine z_iload_n (pc' := 4) (j := 1) (by decide +kernel) rfl rfl ?_
  have bd := bd_task (σ := σ) (x := x)
  refine z_callVH (pc' := 7) (idx := 7) (mj := m_X11_task) (av := [iv x]) (n := 1) (ci := 11) (b := 0) (d' := 12) (by decide +kernel) k_X11_task (amM4 6 rfl (by decide +kernel)) rfl (by decide) (am_le rfl) rfl (am_le rfl) h.1.o.1 h.1.o.2 rfl (ZM.mono (c_task (h := h) (ho := ho) (hz := by omega) (hx := hx)) fun r W hw => ?_)
  obtain ⟨e, hI, fr⟩ := hw
  generalize (o_task σ x) = o at e hI bd ⊢
  subst e
  by_cases c0 : o.1 = 0
  · rw [rO, if_pos c0]
    change ZP G 30 m_L_task 7 [some (.ref 0), some (iv x), some (.ref 320), none] [iv o.2.1, iv 0, .ref 320] W _
    refine z_i2lr (pc' := 8) (by decide +kernel) rfl ?_
    refine z_lastore (pc' := 9) (by decide +kernel) (hou.ext fr.1) ⟨by decide, by decide, by decide⟩ rfl ?_
    refine z_goto (tgt := 18) (off := 9) (by decide +kernel) (by decide) ?_
    refine z_iconst (pc' := 19) (n := 0) (by decide +kernel) rfl ?_
    refine z_ireturn (by decide +kernel) ⟨_, rfl, rfl⟩ ?_
    exact ⟨by rw [c0]; rfl, (wL hI fr _).1, (wL hI fr _).2, fun _ => zSL_at W _⟩
  by_cases c1 : o.1 = 1
  · rw [rO, if_neg c0, show E3 eA eT "" o.1 = eA by rw [c1]; rfl]
    refine ⟨12, 3, 13, ⟨[], _, _, rfl, (fun z hz => absurd hz List.not_mem_nil), by decide, by decide, ⟨_, (amM4 4 rfl (by decide +kernel)), (amM4 12 rfl (by decide +kernel))⟩, rfl⟩, (Or.inl ⟨3, (by decide +kernel), rfl, rfl⟩), by decide, ?_⟩
    refine z_iconst (pc' := 14) (n := 1) (by decide +kernel) rfl ?_
    exact z_ireturn (by decide +kernel) ⟨_, rfl, rfl⟩ ⟨by rw [c1]; rfl, hI, wF fr, fun g => absurd g c0⟩
  by_cases c2 : o.1 = 2
  · rw [rO, if_neg c0, show E3 eA eT "" o.1 = eT by rw [c2]; rfl]
    refine ⟨15, 3, 16, ⟨[_], _, _, rfl, (fun z hz => by
      obtain rfl := List.mem_singleton.mp hz
      exact ⟨by decide, _, (amM4 4 rfl (by decide +kernel)), by decide +kernel⟩), by decide, by decide, ⟨_, (amM4 5 rfl (by decide +kernel)), (amM4 84 rfl (by decide +kernel))⟩, rfl⟩, (Or.inl ⟨3, (by decide +kernel), rfl, rfl⟩), by decide, ?_⟩
    refine z_iconst (pc' := 17) (n := 2) (by decide +kernel) rfl ?_
    exact z_ireturn (by decide +kernel) ⟨_, rfl, rfl⟩ ⟨by rw [c2]; rfl, hI, wF fr, fun g => absurd g c0⟩
  exact absurd bd (by omega)
theorem bd_set {σ : St} {t c x : Int} : (o_set σ t c x).1 ≤ 2 := by
  unfold o_set
  repeat (first | exact Nat.le_of_ble_eq_true rfl | refine cIf_le ?_ ?_ | refine pIf_le (by decide) fun p => ?_)
theorem w_L_set {G : Gx} {Z : Zm} {σ : St} {t c x : Int} (h : IC Z σ) (ho : okS σ) (hz : zSz Z < 990000) (hou : zA Z 320 110 1) (ht : R32 t) (hc : R32 c) (hx : R32 x) : ZM G 30 m_L_set [.ref 0, iv t, iv c, iv x, .ref 320] Z (wC Z wPI (o_set σ t c x)) := by
  refine ZM.of [some (.ref 0), some (iv t), some (iv c), some (iv x), some (.ref 320), none] rfl ?_
  refine z_aload (pc' := 2) (j := 4) (by decide +kernel) rfl rfl ?_
  refine z_iconst (pc' := 3) (n := 0) (by decide +kernel) rfl ?_
  refine z_aload_n (pc' := 4) (j := 0) (by decide +kernel) rfl rfl ?_
  refine z_iload_n (pc' := 5) (j := 1) (by decide +kernel) rfl rfl ?_
  refine z_iload_n (pc' := 6) (j := 2) (by decide +kernel) rfl rfl ?_
  refine z_iload_n (pc' := 7) (j := 3) (by decide +kernel) rfl rfl ?_
  have bd := bd_set (σ := σ) (t := t) (c := c) (x := x)
  refine z_callVH (pc' := 10) (idx := 17) (mj := m_X11_set) (av := [iv t, iv c, iv x]) (n := 3) (ci := 11) (b := 0) (d' := 12) (by decide +kernel) k_X11_set (amM4 103 rfl (by decide +kernel)) rfl (by decide) (am_le rfl) rfl (am_le rfl) h.1.o.1 h.1.o.2 rfl (ZM.mono (c_set (h := h) (ho := ho) (hz := by omega) (ht := ht) (hc := hc) (hx := hx)) fun r W hw => ?_)
  obtain ⟨e, hI, fr⟩ := hw
  generalize (o_set σ t c x) = o at e hI bd ⊢
  subst e
  by_cases c0 : o.1 = 0
  · rw [rO, if_pos c0]
    change ZP G 30 m_L_set 10 [some (.ref 0), some (iv t), some (iv c), some (iv x), some (.ref 320), none] [iv o.2.1, iv 0, .ref 320] W _
    refine z_i2lr (pc' := 11) (by decide +kernel) rfl ?_
    refine z_lastore (pc' := 12) (by decide +kernel) (hou.ext fr.1) ⟨by decide, by decide, by decide⟩ rfl ?_
    refine z_goto (tgt := 23) (off := 11) (by decide +kernel) (by decide) ?_
    refine z_iconst (pc' := 24) (n := 0) (by decide +kernel) rfl ?_
    refine z_ireturn (by decide +kernel) ⟨_, rfl, rfl⟩ ?_
    exact ⟨by rw [c0]; rfl, (wL hI fr _).1, (wL hI fr _).2, fun _ => zSL_at W _⟩
  by_cases c1 : o.1 = 1
  · rw [rO, if_neg c0, show E3 eN eA "" o.1 = eN by rw [c1]; rfl]
    refine ⟨15, 5, 17, ⟨[], _, _, rfl, (fun z hz => absurd hz List.not_mem_nil), by decide, by decide, ⟨_, (amM4 102 rfl (by decide +kernel)), (amM4 113 rfl (by decide +kernel))⟩, rfl⟩, (Or.inr ⟨(by decide +kernel), rfl⟩), by decide, ?_⟩
    refine z_iconst (pc' := 18) (n := 1) (by decide +kernel) rfl ?_
    exact z_ireturn (by decide +kernel) ⟨_, rfl, rfl⟩ ⟨by rw [c1]; rfl, hI, wF fr, fun g => absurd g c0⟩
  by_cases c2 : o.1 = 2
  · rw [rO, if_neg c0, show E3 eN eA "" o.1 = eA by rw [c2]; rfl]
    refine ⟨19, 5, 21, ⟨[_], _, _, rfl, (fun z hz => by
      obtain rfl := List.mem_singleton.mp hz
      exact ⟨by decide, _, (amM4 102 rfl (by decide +kernel)), by decide +kernel⟩), by decide, by decide, ⟨_, (amM4 4 rfl (by decide +kernel)), (amM4 12 rfl (by decide +kernel))⟩, rfl⟩, (Or.inr ⟨(by decide +kernel), rfl⟩), by decide, ?_⟩
    refine z_iconst (pc' := 22) (n := 2) (by decide +kernel) rfl ?_
    exact z_ireturn (by decide +kernel) ⟨_, rfl, rfl⟩ ⟨by rw [c2]; rfl, hI, wF fr, fun g => absurd g c0⟩
  exact absurd bd (by omega)
theorem bd_of {σ : St} {t c : Int} : (o_of σ t c).1 ≤ 2 := by
  unfold o_of
  repeat (first | exact Nat.le_of_ble_eq_true rfl | refine cIf_le ?_ ?_ | refine pIf_le (by decide) fun p => ?_)
theorem w_L_of {G : Gx} {Z : Zm} {σ : St} {t c : Int} (h : IC Z σ) (ho : okS σ) (hz : zSz Z < 990000) (hou : zA Z 320 110 1) (ht : R32 t) (hc : R32 c) : ZM G 30 m_L_of [.ref 0, iv t, iv c, .ref 320] Z (wC Z wPI (o_of σ t c)) := by
  refine ZM.of [some (.ref 0), some (iv t), some (iv c), some (.ref 320), none] rfl ?_
  refine z_aload_n (pc' := 1) (j := 3) (by decide +kernel) rfl rfl ?_
  refine z_iconst (pc' := 2) (n := 0) (by decide +kernel) rfl ?_
  refine z_aload_n (pc' := 3) (j := 0) (by decide +kernel) rfl rfl ?_
  refine z_iload_n (pc' := 4) (j := 1) (by decide +kernel) rfl rfl ?_
  refine z_iload_n (pc' := 5) (j := 2) (by decide +kernel) rfl rfl ?_
  have bd := bd_of (σ := σ) (t := t) (c := c)
  refine z_callVH (pc' := 8) (idx := 23) (mj := m_X11_of) (av := [iv t, iv c]) (n := 2) (ci := 11) (b := 0) (d' := 12) (by decide +kernel) k_X11_of (amM4 232 rfl (by decide +kernel)) rfl (by decide) (am_le rfl) rfl (am_le rfl) h.1.o.1 h.1.o.2 rfl (ZM.mono (c_of (h := h) (ho := ho) (hz := by omega) (ht := ht) (hc := hc)) fun r W hw => ?_)
  obtain ⟨e, hI, fr⟩ := hw
  generalize (o_of σ t c) = o at e hI bd ⊢
  subst e
  by_cases c0 : o.1 = 0
  · rw [rO, if_pos c0]
    change ZP G 30 m_L_of 8 [some (.ref 0), some (iv t), some (iv c), some (.ref 320), none] [iv o.2.1, iv 0, .ref 320] W _
    refine z_i2lr (pc' := 9) (by decide +kernel) rfl ?_
    refine z_lastore (pc' := 10) (by decide +kernel) (hou.ext fr.1) ⟨by decide, by decide, by decide⟩ rfl ?_
    refine z_goto (tgt := 21) (off := 11) (by decide +kernel) (by decide) ?_
    refine z_iconst (pc' := 22) (n := 0) (by decide +kernel) rfl ?_
    refine z_ireturn (by decide +kernel) ⟨_, rfl, rfl⟩ ?_
    exact ⟨by rw [c0]; rfl, (wL hI fr _).1, (wL hI fr _).2, fun _ => zSL_at W _⟩
  by_cases c1 : o.1 = 1
  · rw [rO, if_neg c0, show E3 eN eA "" o.1 = eN by rw [c1]; rfl]
    refine ⟨13, 4, 15, ⟨[], _, _, rfl, (fun z hz => absurd hz List.not_mem_nil), by decide, by decide, ⟨_, (amM4 102 rfl (by decide +kernel)), (amM4 113 rfl (by decide +kernel))⟩, rfl⟩, (Or.inr ⟨(by decide +kernel), rfl⟩), by decide, ?_⟩
    refine z_iconst (pc' := 16) (n := 1) (by decide +kernel) rfl ?_
    exact z_ireturn (by decide +kernel) ⟨_, rfl, rfl⟩ ⟨by rw [c1]; rfl, hI, wF fr, fun g => absurd g c0⟩
  by_cases c2 : o.1 = 2
  · rw [rO, if_neg c0, show E3 eN eA "" o.1 = eA by rw [c2]; rfl]
    refine ⟨17, 4, 19, ⟨[_], _, _, rfl, (fun z hz => by
      obtain rfl := List.mem_singleton.mp hz
      exact ⟨by decide, _, (amM4 102 rfl (by decide +kernel)), by decide +kernel⟩), by decide, by decide, ⟨_, (amM4 4 rfl (by decide +kernel)), (amM4 12 rfl (by decide +kernel))⟩, rfl⟩, (Or.inr ⟨(by decide +kernel), rfl⟩), by decide, ?_⟩
    refine z_iconst (pc' := 20) (n := 2) (by decide +kernel) rfl ?_
    exact z_ireturn (by decide +kernel) ⟨_, rfl, rfl⟩ ⟨by rw [c2]; rfl, hI, wF fr, fun g => absurd g c0⟩
  exact absurd bd (by omega)
theorem bd_need {σ : St} {x y z : Int} : (o_need σ x y z).1 ≤ 3 := by
  unfold o_need
  repeat (first | exact Nat.le_of_ble_eq_true rfl | refine cIf_le ?_ ?_ | refine pIf_le (by decide) fun p => ?_)
theorem w_L_need {G : Gx} {Z : Zm} {σ : St} {x y z : Int} (h : IC Z σ) (ho : okS σ) (hz : zSz Z < 990000) (hou : zA Z 320 110 1) (hx : R32 x) (hy : R32 y) (hg : R32 z) : ZM G 30 m_L_need [.ref 0, iv x, iv y, iv z, .ref 320] Z (wC Z wPI (o_need σ x y z)) := by
  refine ZM.of [some (.ref 0), some (iv x), some (iv y), some (iv z), some (.ref 320), none] rfl ?_
  refine z_aload (pc' := 2) (j := 4) (by decide +kernel) rfl rfl ?_
  refine z_iconst (pc' := 3) (n := 0) (by decide +kernel) rfl ?_
  refine z_aload_n (pc' := 4) (j := 0) (by decide +kernel) rfl rfl ?_
  refine z_iload_n (pc' := 5) (j := 1) (by decide +kernel) rfl rfl ?_
  refine z_iload_n (pc' := 6) (j := 2) (by decide +kernel) rfl rfl ?_
  refine z_iload_n (pc' := 7) (j := 3) (by decide +kernel) rfl rfl ?_
  have bd := bd_need (σ := σ) (x := x) (y := y) (z := z)
  refine z_callVH (pc' := 10) (idx := 27) (mj := m_X11_need) (av := [iv x, iv y, iv z]) (n := 3) (ci := 11) (b := 0) (d' := 12) (by decide +kernel) k_X11_need (amM4 239 rfl (by decide +kernel)) rfl (by decide) (am_le rfl) rfl (am_le rfl) h.1.o.1 h.1.o.2 rfl (ZM.mono (c_need (h := h) (ho := ho) (hz := by omega) (hx := hx) (hy := hy) (hg := hg)) fun r W hw => ?_)
  obtain ⟨e, hI, fr⟩ := hw
  generalize (o_need σ x y z) = o at e hI bd ⊢
  subst e
  by_cases c0 : o.1 = 0
  · rw [rO, if_pos c0]
    change ZP G 30 m_L_need 10 [some (.ref 0), some (iv x), some (iv y), some (iv z), some (.ref 320), none] [iv o.2.1, iv 0, .ref 320] W _
    refine z_i2lr (pc' := 11) (by decide +kernel) rfl ?_
    refine z_lastore (pc' := 12) (by decide +kernel) (hou.ext fr.1) ⟨by decide, by decide, by decide⟩ rfl ?_
    refine z_goto (tgt := 27) (off := 15) (by decide +kernel) (by decide) ?_
    refine z_iconst (pc' := 28) (n := 0) (by decide +kernel) rfl ?_
    refine z_ireturn (by decide +kernel) ⟨_, rfl, rfl⟩ ?_
    exact ⟨by rw [c0]; rfl, (wL hI fr _).1, (wL hI fr _).2, fun _ => zSL_at W _⟩
  by_cases c1 : o.1 = 1
  · rw [rO, if_neg c0, show E3 eN eA eT o.1 = eN by rw [c1]; rfl]
    refine ⟨15, 5, 17, ⟨[], _, _, rfl, (fun z hz => absurd hz List.not_mem_nil), by decide, by decide, ⟨_, (amM4 102 rfl (by decide +kernel)), (amM4 113 rfl (by decide +kernel))⟩, rfl⟩, (Or.inr ⟨(by decide +kernel), rfl⟩), by decide, ?_⟩
    refine z_iconst (pc' := 18) (n := 1) (by decide +kernel) rfl ?_
    exact z_ireturn (by decide +kernel) ⟨_, rfl, rfl⟩ ⟨by rw [c1]; rfl, hI, wF fr, fun g => absurd g c0⟩
  by_cases c2 : o.1 = 2
  · rw [rO, if_neg c0, show E3 eN eA eT o.1 = eA by rw [c2]; rfl]
    refine ⟨19, 5, 21, ⟨[_], _, _, rfl, (fun z hz => by
      obtain rfl := List.mem_singleton.mp hz
      exact ⟨by decide, _, (amM4 102 rfl (by decide +kernel)), by decide +kernel⟩), by decide, by decide, ⟨_, (amM4 4 rfl (by decide +kernel)), (amM4 12 rfl (by decide +kernel))⟩, rfl⟩, (Or.inr ⟨(by decide +kernel), rfl⟩), by decide, ?_⟩
    refine z_iconst (pc' := 22) (n := 2) (by decide +kernel) rfl ?_
    exact z_ireturn (by decide +kernel) ⟨_, rfl, rfl⟩ ⟨by rw [c2]; rfl, hI, wF fr, fun g => absurd g c0⟩
  by_cases c3 : o.1 = 3
  · rw [rO, if_neg c0, show E3 eN eA eT o.1 = eT by rw [c3]; rfl]
    refine ⟨23, 5, 25, ⟨[_, _], _, _, rfl, (fun z hz => by
      rcases List.mem_cons.mp hz with rfl | hz
      · exact ⟨by decide, _, (amM4 102 rfl (by decide +kernel)), by decide +kernel⟩
      · obtain rfl := List.mem_singleton.mp hz
        exact ⟨by decide, _, (amM4 4 rfl (by decide +kernel)), by decide +kernel⟩), by decide, by decide, ⟨_, (amM4 5 rfl (by decide +kernel)), (amM4 84 rfl (by decide +kernel))⟩, rfl⟩, (Or.inr ⟨(by decide +kernel), rfl⟩), by decide, ?_⟩
    refine z_iconst (pc' := 26) (n := 3) (by decide +kernel) rfl ?_
    exact z_ireturn (by decide +kernel) ⟨_, rfl, rfl⟩ ⟨by rw [c3]; rfl, hI, wF fr, fun g => absurd g c0⟩
  exact absurd bd (by omega)
theorem bd_dropNeed {σ : St} {x : Int} : (o_dropNeed σ x).1 ≤ 1 := by
  unfold o_dropNeed
  repeat (first | exact Nat.le_of_ble_eq_true rfl | refine cIf_le ?_ ?_ | refine pIf_le (by decide) fun p => ?_)
theorem w_L_dropNeed {G : Gx} {Z : Zm} {σ : St} {x : Int} (h : IC Z σ) (ho : okS σ) (hz : zSz Z < 990000) (hou : zA Z 320 110 1) (hx : R32 x) : ZM G 30 m_L_dropNeed [.ref 0, iv x, .ref 320] Z (wC Z wPI (o_dropNeed σ x)) := by
  refine ZM.of [some (.ref 0), some (iv x), some (.ref 320), none] rfl ?_
  refine z_aload_n (pc' := 1) (j := 2) (by decide +kernel) rfl rfl ?_
  refine z_iconst (pc' := 2) (n := 0) (by decide +kernel) rfl ?_
  refine z_aload_n (pc' := 3) (j := 0) (by decide +kernel) rfl rfl ?_
  refine z_iload_n (pc' := 4) (j := 1) (by decide +kernel) rfl rfl ?_
  have bd := bd_dropNeed (σ := σ) (x := x)
  refine z_callVH (pc' := 7) (idx := 31) (mj := m_X11_dropNeed) (av := [iv x]) (n := 1) (ci := 11) (b := 0) (d' := 12) (by decide +kernel) k_X11_dropNeed (amM5 17 rfl (by decide +kernel)) rfl (by decide) (am_le rfl) rfl (am_le rfl) h.1.o.1 h.1.o.2 rfl (ZM.mono (c_dropNeed (h := h) (ho := ho) (hz := by omega) (hx := hx)) fun r W hw => ?_)
  obtain ⟨e, hI, fr⟩ := hw
  generalize (o_dropNeed σ x) = o at e hI bd ⊢
  subst e
  by_cases c0 : o.1 = 0
  · rw [rO, if_pos c0]
    change ZP G 30 m_L_dropNeed 7 [some (.ref 0), some (iv x), some (.ref 320), none] [iv o.2.1, iv 0, .ref 320] W _
    refine z_i2lr (pc' := 8) (by decide +kernel) rfl ?_
    refine z_lastore (pc' := 9) (by decide +kernel) (hou.ext fr.1) ⟨by decide, by decide, by decide⟩ rfl ?_
    refine z_goto (tgt := 15) (off := 6) (by decide +kernel) (by decide) ?_
    refine z_iconst (pc' := 16) (n := 0) (by decide +kernel) rfl ?_
    refine z_ireturn (by decide +kernel) ⟨_, rfl, rfl⟩ ?_
    exact ⟨by rw [c0]; rfl, (wL hI fr _).1, (wL hI fr _).2, fun _ => zSL_at W _⟩
  by_cases c1 : o.1 = 1
  · rw [rO, if_neg c0, show E3 eN "" "" o.1 = eN by rw [c1]; rfl]
    refine ⟨12, 3, 13, ⟨[], _, _, rfl, (fun z hz => absurd hz List.not_mem_nil), by decide, by decide, ⟨_, (amM4 102 rfl (by decide +kernel)), (amM4 113 rfl (by decide +kernel))⟩, rfl⟩, (Or.inl ⟨3, (by decide +kernel), rfl, rfl⟩), by decide, ?_⟩
    refine z_iconst (pc' := 14) (n := 1) (by decide +kernel) rfl ?_
    exact z_ireturn (by decide +kernel) ⟨_, rfl, rfl⟩ ⟨by rw [c1]; rfl, hI, wF fr, fun g => absurd g c0⟩
  exact absurd bd (by omega)
theorem bd_needAt {σ : St} {x c : Int} : (o_needAt σ x c).1 ≤ 2 := by
  unfold o_needAt
  repeat (first | exact Nat.le_of_ble_eq_true rfl | refine cIf_le ?_ ?_ | refine pIf_le (by decide) fun p => ?_)
theorem w_L_needAt {G : Gx} {Z : Zm} {σ : St} {x c : Int} (h : IC Z σ) (ho : okS σ) (hz : zSz Z < 990000) (hou : zA Z 320 110 1) (hx : R32 x) (hc : R32 c) : ZM G 30 m_L_needAt [.ref 0, iv x, iv c, .ref 320] Z (wC Z wPI (o_needAt σ x c)) := by
  refine ZM.of [some (.ref 0), some (iv x), some (iv c), some (.ref 320), none] rfl ?_
  refine z_aload_n (pc' := 1) (j := 3) (by decide +kernel) rfl rfl ?_
  refine z_iconst (pc' := 2) (n := 0) (by decide +kernel) rfl ?_
  refine z_aload_n (pc' := 3) (j := 0) (by decide +kernel) rfl rfl ?_
  refine z_iload_n (pc' := 4) (j := 1) (by decide +kernel) rfl rfl ?_
  refine z_iload_n (pc' := 5) (j := 2) (by decide +kernel) rfl rfl ?_
  have bd := bd_needAt (σ := σ) (x := x) (c := c)
  refine z_callVH (pc' := 8) (idx := 34) (mj := m_X11_needAt) (av := [iv x, iv c]) (n := 2) (ci := 11) (b := 0) (d' := 12) (by decide +kernel) k_X11_needAt (amM5 33 rfl (by decide +kernel)) rfl (by decide) (am_le rfl) rfl (am_le rfl) h.1.o.1 h.1.o.2 rfl (ZM.mono (c_needAt (h := h) (ho := ho) (hz := by omega) (hx := hx) (hc := hc)) fun r W hw => ?_)
  obtain ⟨e, hI, fr⟩ := hw
  generalize (o_needAt σ x c) = o at e hI bd ⊢
  subst e
  by_cases c0 : o.1 = 0
  · rw [rO, if_pos c0]
    change ZP G 30 m_L_needAt 8 [some (.ref 0), some (iv x), some (iv c), some (.ref 320), none] [iv o.2.1, iv 0, .ref 320] W _
    refine z_i2lr (pc' := 9) (by decide +kernel) rfl ?_
    refine z_lastore (pc' := 10) (by decide +kernel) (hou.ext fr.1) ⟨by decide, by decide, by decide⟩ rfl ?_
    refine z_goto (tgt := 21) (off := 11) (by decide +kernel) (by decide) ?_
    refine z_iconst (pc' := 22) (n := 0) (by decide +kernel) rfl ?_
    refine z_ireturn (by decide +kernel) ⟨_, rfl, rfl⟩ ?_
    exact ⟨by rw [c0]; rfl, (wL hI fr _).1, (wL hI fr _).2, fun _ => zSL_at W _⟩
  by_cases c1 : o.1 = 1
  · rw [rO, if_neg c0, show E3 eN eA "" o.1 = eN by rw [c1]; rfl]
    refine ⟨13, 4, 15, ⟨[], _, _, rfl, (fun z hz => absurd hz List.not_mem_nil), by decide, by decide, ⟨_, (amM4 102 rfl (by decide +kernel)), (amM4 113 rfl (by decide +kernel))⟩, rfl⟩, (Or.inr ⟨(by decide +kernel), rfl⟩), by decide, ?_⟩
    refine z_iconst (pc' := 16) (n := 1) (by decide +kernel) rfl ?_
    exact z_ireturn (by decide +kernel) ⟨_, rfl, rfl⟩ ⟨by rw [c1]; rfl, hI, wF fr, fun g => absurd g c0⟩
  by_cases c2 : o.1 = 2
  · rw [rO, if_neg c0, show E3 eN eA "" o.1 = eA by rw [c2]; rfl]
    refine ⟨17, 4, 19, ⟨[_], _, _, rfl, (fun z hz => by
      obtain rfl := List.mem_singleton.mp hz
      exact ⟨by decide, _, (amM4 102 rfl (by decide +kernel)), by decide +kernel⟩), by decide, by decide, ⟨_, (amM4 4 rfl (by decide +kernel)), (amM4 12 rfl (by decide +kernel))⟩, rfl⟩, (Or.inr ⟨(by decide +kernel), rfl⟩), by decide, ?_⟩
    refine z_iconst (pc' := 20) (n := 2) (by decide +kernel) rfl ?_
    exact z_ireturn (by decide +kernel) ⟨_, rfl, rfl⟩ ⟨by rw [c2]; rfl, hI, wF fr, fun g => absurd g c0⟩
  exact absurd bd (by omega)
theorem bd_ring {σ : St} {x y : Int} : (o_ring σ x y).1 ≤ 1 := by
  unfold o_ring
  repeat (first | exact Nat.le_of_ble_eq_true rfl | refine cIf_le ?_ ?_ | refine pIf_le (by decide) fun p => ?_)
theorem w_L_ring {G : Gx} {Z : Zm} {σ : St} {x y : Int} (h : IC Z σ) (ho : okS σ) (hz : zSz Z < 990000) (hou : zA Z 320 110 1) (hx : R32 x) (hy : R32 y) : ZM G 30 m_L_ring [.ref 0, iv x, iv y, .ref 320] Z (wC Z wPI (o_ring σ x y)) := by
  refine ZM.of [some (.ref 0), some (iv x), some (iv y), some (.ref 320), none] rfl ?_
  refine z_aload_n (pc' := 1) (j := 3) (by decide +kernel) rfl rfl ?_
  refine z_iconst (pc' := 2) (n := 0) (by decide +kernel) rfl ?_
  refine z_aload_n (pc' := 3) (j := 0) (by decide +kernel) rfl rfl ?_
  refine z_iload_n (pc' := 4) (j := 1) (by decide +kernel) rfl rfl ?_
  refine z_iload_n (pc' := 5) (j := 2) (by decide +kernel) rfl rfl ?_
  have bd := bd_ring (σ := σ) (x := x) (y := y)
  refine z_callVH (pc' := 8) (idx := 37) (mj := m_X11_ring) (av := [iv x, iv y]) (n := 2) (ci := 11) (b := 0) (d' := 12) (by decide +kernel) k_X11_ring (amM5 41 rfl (by decide +kernel)) rfl (by decide) (am_le rfl) rfl (am_le rfl) h.1.o.1 h.1.o.2 rfl (ZM.mono (c_ring (h := h) (ho := ho) (hz := by omega) (hx := hx) (hy := hy)) fun r W hw => ?_)
  obtain ⟨e, hI, fr⟩ := hw
  generalize (o_ring σ x y) = o at e hI bd ⊢
  subst e
  by_cases c0 : o.1 = 0
  · rw [rO, if_pos c0]
    change ZP G 30 m_L_ring 8 [some (.ref 0), some (iv x), some (iv y), some (.ref 320), none] [iv o.2.1, iv 0, .ref 320] W _
    refine z_i2lr (pc' := 9) (by decide +kernel) rfl ?_
    refine z_lastore (pc' := 10) (by decide +kernel) (hou.ext fr.1) ⟨by decide, by decide, by decide⟩ rfl ?_
    refine z_goto (tgt := 17) (off := 7) (by decide +kernel) (by decide) ?_
    refine z_iconst (pc' := 18) (n := 0) (by decide +kernel) rfl ?_
    refine z_ireturn (by decide +kernel) ⟨_, rfl, rfl⟩ ?_
    exact ⟨by rw [c0]; rfl, (wL hI fr _).1, (wL hI fr _).2, fun _ => zSL_at W _⟩
  by_cases c1 : o.1 = 1
  · rw [rO, if_neg c0, show E3 eN "" "" o.1 = eN by rw [c1]; rfl]
    refine ⟨13, 4, 15, ⟨[], _, _, rfl, (fun z hz => absurd hz List.not_mem_nil), by decide, by decide, ⟨_, (amM4 102 rfl (by decide +kernel)), (amM4 113 rfl (by decide +kernel))⟩, rfl⟩, (Or.inr ⟨(by decide +kernel), rfl⟩), by decide, ?_⟩
    refine z_iconst (pc' := 16) (n := 1) (by decide +kernel) rfl ?_
    exact z_ireturn (by decide +kernel) ⟨_, rfl, rfl⟩ ⟨by rw [c1]; rfl, hI, wF fr, fun g => absurd g c0⟩
  exact absurd bd (by omega)
theorem bd_undo {σ : St}  : (o_undo σ).1 ≤ 1 := by
  unfold o_undo
  repeat (first | exact Nat.le_of_ble_eq_true rfl | refine cIf_le ?_ ?_ | refine pIf_le (by decide) fun p => ?_)
theorem w_L_undo {G : Gx} {Z : Zm} {σ : St}  (h : IC Z σ) (ho : okS σ) (hz : zSz Z < 990000) (hou : zA Z 320 110 1)  : ZM G 30 m_L_undo [.ref 0, .ref 320] Z (wC Z wPI (o_undo σ)) := by
  refine ZM.of [some (.ref 0), some (.ref 320), none] rfl ?_
  refine z_aload_n (pc' := 1) (j := 1) (by decide +kernel) rfl rfl ?_
  refine z_iconst (pc' := 2) (n := 0) (by decide +kernel) rfl ?_
  refine z_aload_n (pc' := 3) (j := 0) (by decide +kernel) rfl rfl ?_
  have bd := bd_undo (σ := σ)
  refine z_callVH (pc' := 6) (idx := 41) (mj := m_X11_undo) (av := []) (n := 0) (ci := 11) (b := 0) (d' := 12) (by decide +kernel) k_X11_undo (amM5 48 rfl (by decide +kernel)) rfl (by decide) (am_le rfl) rfl (am_le rfl) h.1.o.1 h.1.o.2 rfl (ZM.mono (c_undo (h := h) (ho := ho) (hz := by omega)) fun r W hw => ?_)
  obtain ⟨e, hI, fr⟩ := hw
  generalize (o_undo σ) = o at e hI bd ⊢
  subst e
  by_cases c0 : o.1 = 0
  · rw [rO, if_pos c0]
    change ZP G 30 m_L_undo 6 [some (.ref 0), some (.ref 320), none] [iv o.2.1, iv 0, .ref 320] W _
    refine z_i2lr (pc' := 7) (by decide +kernel) rfl ?_
    refine z_lastore (pc' := 8) (by decide +kernel) (hou.ext fr.1) ⟨by decide, by decide, by decide⟩ rfl ?_
    refine z_goto (tgt := 14) (off := 6) (by decide +kernel) (by decide) ?_
    refine z_iconst (pc' := 15) (n := 0) (by decide +kernel) rfl ?_
    refine z_ireturn (by decide +kernel) ⟨_, rfl, rfl⟩ ?_
    exact ⟨by rw [c0]; rfl, (wL hI fr _).1, (wL hI fr _).2, fun _ => zSL_at W _⟩
  by_cases c1 : o.1 = 1
  · rw [rO, if_neg c0, show E3 eN "" "" o.1 = eN by rw [c1]; rfl]
    refine ⟨11, 2, 12, ⟨[], _, _, rfl, (fun z hz => absurd hz List.not_mem_nil), by decide, by decide, ⟨_, (amM4 102 rfl (by decide +kernel)), (amM4 113 rfl (by decide +kernel))⟩, rfl⟩, (Or.inl ⟨2, (by decide +kernel), rfl, rfl⟩), by decide, ?_⟩
    refine z_iconst (pc' := 13) (n := 1) (by decide +kernel) rfl ?_
    exact z_ireturn (by decide +kernel) ⟨_, rfl, rfl⟩ ⟨by rw [c1]; rfl, hI, wF fr, fun g => absurd g c0⟩
  exact absurd bd (by omega)
theorem bd_type {σ : St} {c : Int} : (o_type σ c).1 ≤ 2 := by
  unfold o_type
  repeat (first | exact Nat.le_of_ble_eq_true rfl | refine cIf_le ?_ ?_ | refine pIf_le (by decide) fun p => ?_)
theorem w_L_type {G : Gx} {Z : Zm} {σ : St} {c : Int} (h : IC Z σ) (ho : okS σ) (hz : zSz Z < 990000) (hou : zA Z 320 110 1) (hc : R32 c) : ZM G 30 m_L_type [.ref 0, iv c, .ref 320] Z (wC Z wPI (o_type σ c)) := by
  refine ZM.of [some (.ref 0), some (iv c), some (.ref 320), none] rfl ?_
  refine z_aload_n (pc' := 1) (j := 2) (by decide +kernel) rfl rfl ?_
  refine z_iconst (pc' := 2) (n := 0) (by decide +kernel) rfl ?_
  refine z_aload_n (pc' := 3) (j := 0) (by decide +kernel) rfl rfl ?_
  refine z_iload_n (pc' := 4) (j := 1) (by decide +kernel) rfl rfl ?_
  have bd := bd_type (σ := σ) (c := c)
  refine z_callVH (pc' := 7) (idx := 45) (mj := m_X11_type) (av := [iv c]) (n := 1) (ci := 11) (b := 0) (d' := 12) (by decide +kernel) k_X11_type (amM5 60 rfl (by decide +kernel)) rfl (by decide) (am_le rfl) rfl (am_le rfl) h.1.o.1 h.1.o.2 rfl (ZM.mono (c_type (h := h) (ho := ho) (hz := by omega) (hc := hc)) fun r W hw => ?_)
  obtain ⟨e, hI, fr⟩ := hw
  generalize (o_type σ c) = o at e hI bd ⊢
  subst e
  by_cases c0 : o.1 = 0
  · rw [rO, if_pos c0]
    change ZP G 30 m_L_type 7 [some (.ref 0), some (iv c), some (.ref 320), none] [iv o.2.1, iv 0, .ref 320] W _
    refine z_i2lr (pc' := 8) (by decide +kernel) rfl ?_
    refine z_lastore (pc' := 9) (by decide +kernel) (hou.ext fr.1) ⟨by decide, by decide, by decide⟩ rfl ?_
    refine z_goto (tgt := 18) (off := 9) (by decide +kernel) (by decide) ?_
    refine z_iconst (pc' := 19) (n := 0) (by decide +kernel) rfl ?_
    refine z_ireturn (by decide +kernel) ⟨_, rfl, rfl⟩ ?_
    exact ⟨by rw [c0]; rfl, (wL hI fr _).1, (wL hI fr _).2, fun _ => zSL_at W _⟩
  by_cases c1 : o.1 = 1
  · rw [rO, if_neg c0, show E3 eA eT "" o.1 = eA by rw [c1]; rfl]
    refine ⟨12, 3, 13, ⟨[], _, _, rfl, (fun z hz => absurd hz List.not_mem_nil), by decide, by decide, ⟨_, (amM4 4 rfl (by decide +kernel)), (amM4 12 rfl (by decide +kernel))⟩, rfl⟩, (Or.inl ⟨3, (by decide +kernel), rfl, rfl⟩), by decide, ?_⟩
    refine z_iconst (pc' := 14) (n := 1) (by decide +kernel) rfl ?_
    exact z_ireturn (by decide +kernel) ⟨_, rfl, rfl⟩ ⟨by rw [c1]; rfl, hI, wF fr, fun g => absurd g c0⟩
  by_cases c2 : o.1 = 2
  · rw [rO, if_neg c0, show E3 eA eT "" o.1 = eT by rw [c2]; rfl]
    refine ⟨15, 3, 16, ⟨[_], _, _, rfl, (fun z hz => by
      obtain rfl := List.mem_singleton.mp hz
      exact ⟨by decide, _, (amM4 4 rfl (by decide +kernel)), by decide +kernel⟩), by decide, by decide, ⟨_, (amM4 5 rfl (by decide +kernel)), (amM4 84 rfl (by decide +kernel))⟩, rfl⟩, (Or.inl ⟨3, (by decide +kernel), rfl, rfl⟩), by decide, ?_⟩
    refine z_iconst (pc' := 17) (n := 2) (by decide +kernel) rfl ?_
    exact z_ireturn (by decide +kernel) ⟨_, rfl, rfl⟩ ⟨by rw [c2]; rfl, hI, wF fr, fun g => absurd g c0⟩
  exact absurd bd (by omega)
theorem bd_signAt {σ : St} {x : Int} : (o_signAt σ x).1 ≤ 1 := by
  unfold o_signAt
  repeat (first | exact Nat.le_of_ble_eq_true rfl | refine cIf_le ?_ ?_ | refine pIf_le (by decide) fun p => ?_)
theorem w_L_signAt {G : Gx} {Z : Zm} {σ : St} {x : Int} (h : IC Z σ) (ho : okS σ) (hz : zSz Z < 990000) (hou : zA Z 320 110 1) (hx : R32 x) : ZM G 30 m_L_signAt [.ref 0, iv x, .ref 320] Z (wC Z wPI (o_signAt σ x)) := by
  refine ZM.of [some (.ref 0), some (iv x), some (.ref 320), none] rfl ?_
  refine z_aload_n (pc' := 1) (j := 2) (by decide +kernel) rfl rfl ?_
  refine z_iconst (pc' := 2) (n := 0) (by decide +kernel) rfl ?_
  refine z_aload_n (pc' := 3) (j := 0) (by decide +kernel) rfl rfl ?_
  refine z_iload_n (pc' := 4) (j := 1) (by decide +kernel) rfl rfl ?_
  have bd := bd_signAt (σ := σ) (x := x)
  refine z_callVH (pc' := 7) (idx := 49) (mj := m_X11_signAt) (av := [iv x]) (n := 1) (ci := 11) (b := 0) (d' := 12) (by decide +kernel) k_X11_signAt (amM5 93 rfl (by decide +kernel)) rfl (by decide) (am_le rfl) rfl (am_le rfl) h.1.o.1 h.1.o.2 rfl (ZM.mono (c_signAt (h := h) (ho := ho) (hz := by omega) (hx := hx)) fun r W hw => ?_)
  obtain ⟨e, hI, fr⟩ := hw
  generalize (o_signAt σ x) = o at e hI bd ⊢
  subst e
  by_cases c0 : o.1 = 0
  · rw [rO, if_pos c0]
    change ZP G 30 m_L_signAt 7 [some (.ref 0), some (iv x), some (.ref 320), none] [iv o.2.1, iv 0, .ref 320] W _
    refine z_i2lr (pc' := 8) (by decide +kernel) rfl ?_
    refine z_lastore (pc' := 9) (by decide +kernel) (hou.ext fr.1) ⟨by decide, by decide, by decide⟩ rfl ?_
    refine z_goto (tgt := 15) (off := 6) (by decide +kernel) (by decide) ?_
    refine z_iconst (pc' := 16) (n := 0) (by decide +kernel) rfl ?_
    refine z_ireturn (by decide +kernel) ⟨_, rfl, rfl⟩ ?_
    exact ⟨by rw [c0]; rfl, (wL hI fr _).1, (wL hI fr _).2, fun _ => zSL_at W _⟩
  by_cases c1 : o.1 = 1
  · rw [rO, if_neg c0, show E3 eI "" "" o.1 = eI by rw [c1]; rfl]
    refine ⟨12, 3, 13, ⟨[], _, _, rfl, (fun z hz => absurd hz List.not_mem_nil), by decide, by decide, ⟨_, (amM5 69 rfl (by decide +kernel)), (amM5 99 rfl (by decide +kernel))⟩, rfl⟩, (Or.inl ⟨3, (by decide +kernel), rfl, rfl⟩), by decide, ?_⟩
    refine z_iconst (pc' := 14) (n := 1) (by decide +kernel) rfl ?_
    exact z_ireturn (by decide +kernel) ⟨_, rfl, rfl⟩ ⟨by rw [c1]; rfl, hI, wF fr, fun g => absurd g c0⟩
  exact absurd bd (by omega)
theorem bd_earliest {σ : St} {t : Int} : (o_earliest σ t).1 ≤ 1 := by
  unfold o_earliest
  repeat (first | exact Nat.le_of_ble_eq_true rfl | refine cIf_le ?_ ?_ | refine pIf_le (by decide) fun p => ?_)
theorem w_L_earliest {G : Gx} {Z : Zm} {σ : St} {t : Int} (h : IC Z σ) (ho : okS σ) (hz : zSz Z < 990000) (hou : zA Z 320 110 1) (ht : R32 t) : ZM G 30 m_L_earliest [.ref 0, iv t, .ref 320] Z (wC Z wPI (o_earliest σ t)) := by
  refine ZM.of [some (.ref 0), some (iv t), some (.ref 320), none] rfl ?_
  refine z_aload_n (pc' := 1) (j := 2) (by decide +kernel) rfl rfl ?_
  refine z_iconst (pc' := 2) (n := 0) (by decide +kernel) rfl ?_
  refine z_aload_n (pc' := 3) (j := 0) (by decide +kernel) rfl rfl ?_
  refine z_iload_n (pc' := 4) (j := 1) (by decide +kernel) rfl rfl ?_
  have bd := bd_earliest (σ := σ) (t := t)
  refine z_callVH (pc' := 7) (idx := 55) (mj := m_X11_earliest) (av := [iv t]) (n := 1) (ci := 11) (b := 0) (d' := 12) (by decide +kernel) k_X11_earliest (amM5 113 rfl (by decide +kernel)) rfl (by decide) (am_le rfl) rfl (am_le rfl) h.1.o.1 h.1.o.2 rfl (ZM.mono (c_earliest (h := h) (ho := ho) (hz := by omega) (ht := ht)) fun r W hw => ?_)
  obtain ⟨e, hI, fr⟩ := hw
  generalize (o_earliest σ t) = o at e hI bd ⊢
  subst e
  by_cases c0 : o.1 = 0
  · rw [rO, if_pos c0]
    change ZP G 30 m_L_earliest 7 [some (.ref 0), some (iv t), some (.ref 320), none] [iv o.2.1, iv 0, .ref 320] W _
    refine z_i2lr (pc' := 8) (by decide +kernel) rfl ?_
    refine z_lastore (pc' := 9) (by decide +kernel) (hou.ext fr.1) ⟨by decide, by decide, by decide⟩ rfl ?_
    refine z_goto (tgt := 15) (off := 6) (by decide +kernel) (by decide) ?_
    refine z_iconst (pc' := 16) (n := 0) (by decide +kernel) rfl ?_
    refine z_ireturn (by decide +kernel) ⟨_, rfl, rfl⟩ ?_
    exact ⟨by rw [c0]; rfl, (wL hI fr _).1, (wL hI fr _).2, fun _ => zSL_at W _⟩
  by_cases c1 : o.1 = 1
  · rw [rO, if_neg c0, show E3 eN "" "" o.1 = eN by rw [c1]; rfl]
    refine ⟨12, 3, 13, ⟨[], _, _, rfl, (fun z hz => absurd hz List.not_mem_nil), by decide, by decide, ⟨_, (amM4 102 rfl (by decide +kernel)), (amM4 113 rfl (by decide +kernel))⟩, rfl⟩, (Or.inl ⟨3, (by decide +kernel), rfl, rfl⟩), by decide, ?_⟩
    refine z_iconst (pc' := 14) (n := 1) (by decide +kernel) rfl ?_
    exact z_ireturn (by decide +kernel) ⟨_, rfl, rfl⟩ ⟨by rw [c1]; rfl, hI, wF fr, fun g => absurd g c0⟩
  exact absurd bd (by omega)
theorem bd_latest {σ : St} {t : Int} : (o_latest σ t).1 ≤ 1 := by
  unfold o_latest
  repeat (first | exact Nat.le_of_ble_eq_true rfl | refine cIf_le ?_ ?_ | refine pIf_le (by decide) fun p => ?_)
theorem w_L_latest {G : Gx} {Z : Zm} {σ : St} {t : Int} (h : IC Z σ) (ho : okS σ) (hz : zSz Z < 990000) (hou : zA Z 320 110 1) (ht : R32 t) : ZM G 30 m_L_latest [.ref 0, iv t, .ref 320] Z (wC Z wPI (o_latest σ t)) := by
  refine ZM.of [some (.ref 0), some (iv t), some (.ref 320), none] rfl ?_
  refine z_aload_n (pc' := 1) (j := 2) (by decide +kernel) rfl rfl ?_
  refine z_iconst (pc' := 2) (n := 0) (by decide +kernel) rfl ?_
  refine z_aload_n (pc' := 3) (j := 0) (by decide +kernel) rfl rfl ?_
  refine z_iload_n (pc' := 4) (j := 1) (by decide +kernel) rfl rfl ?_
  have bd := bd_latest (σ := σ) (t := t)
  refine z_callVH (pc' := 7) (idx := 58) (mj := m_X11_latest) (av := [iv t]) (n := 1) (ci := 11) (b := 0) (d' := 12) (by decide +kernel) k_X11_latest (amM5 120 rfl (by decide +kernel)) rfl (by decide) (am_le rfl) rfl (am_le rfl) h.1.o.1 h.1.o.2 rfl (ZM.mono (c_latest (h := h) (ho := ho) (hz := by omega) (ht := ht)) fun r W hw => ?_)
  obtain ⟨e, hI, fr⟩ := hw
  generalize (o_latest σ t) = o at e hI bd ⊢
  subst e
  by_cases c0 : o.1 = 0
  · rw [rO, if_pos c0]
    change ZP G 30 m_L_latest 7 [some (.ref 0), some (iv t), some (.ref 320), none] [iv o.2.1, iv 0, .ref 320] W _
    refine z_i2lr (pc' := 8) (by decide +kernel) rfl ?_
    refine z_lastore (pc' := 9) (by decide +kernel) (hou.ext fr.1) ⟨by decide, by decide, by decide⟩ rfl ?_
    refine z_goto (tgt := 15) (off := 6) (by decide +kernel) (by decide) ?_
    refine z_iconst (pc' := 16) (n := 0) (by decide +kernel) rfl ?_
    refine z_ireturn (by decide +kernel) ⟨_, rfl, rfl⟩ ?_
    exact ⟨by rw [c0]; rfl, (wL hI fr _).1, (wL hI fr _).2, fun _ => zSL_at W _⟩
  by_cases c1 : o.1 = 1
  · rw [rO, if_neg c0, show E3 eN "" "" o.1 = eN by rw [c1]; rfl]
    refine ⟨12, 3, 13, ⟨[], _, _, rfl, (fun z hz => absurd hz List.not_mem_nil), by decide, by decide, ⟨_, (amM4 102 rfl (by decide +kernel)), (amM4 113 rfl (by decide +kernel))⟩, rfl⟩, (Or.inl ⟨3, (by decide +kernel), rfl, rfl⟩), by decide, ?_⟩
    refine z_iconst (pc' := 14) (n := 1) (by decide +kernel) rfl ?_
    exact z_ireturn (by decide +kernel) ⟨_, rfl, rfl⟩ ⟨by rw [c1]; rfl, hI, wF fr, fun g => absurd g c0⟩
  exact absurd bd (by omega)
theorem bd_slack {σ : St} {t c : Int} : (o_slack σ t c).1 ≤ 2 := by
  unfold o_slack
  repeat (first | exact Nat.le_of_ble_eq_true rfl | refine cIf_le ?_ ?_ | refine pIf_le (by decide) fun p => ?_)
theorem w_L_slack {G : Gx} {Z : Zm} {σ : St} {t c : Int} (h : IC Z σ) (ho : okS σ) (hz : zSz Z < 990000) (hou : zA Z 320 110 1) (ht : R32 t) (hcc : R32 c) : ZM G 30 m_L_slack [.ref 0, iv t, iv c, .ref 320] Z (wC Z wPI (o_slack σ t c)) := by
  refine ZM.of [some (.ref 0), some (iv t), some (iv c), some (.ref 320), none] rfl ?_
  refine z_aload_n (pc' := 1) (j := 3) (by decide +kernel) rfl rfl ?_
  refine z_iconst (pc' := 2) (n := 0) (by decide +kernel) rfl ?_
  refine z_aload_n (pc' := 3) (j := 0) (by decide +kernel) rfl rfl ?_
  refine z_iload_n (pc' := 4) (j := 1) (by decide +kernel) rfl rfl ?_
  refine z_iload_n (pc' := 5) (j := 2) (by decide +kernel) rfl rfl ?_
  have bd := bd_slack (σ := σ) (t := t) (c := c)
  refine z_callVH (pc' := 8) (idx := 61) (mj := m_X11_slack) (av := [iv t, iv c]) (n := 2) (ci := 11) (b := 0) (d' := 12) (by decide +kernel) k_X11_slack (amM5 127 rfl (by decide +kernel)) rfl (by decide) (am_le rfl) rfl (am_le rfl) h.1.o.1 h.1.o.2 rfl (ZM.mono (c_slack (h := h) (ho := ho) (hz := by omega) (ht := ht) (hcc := hcc)) fun r W hw => ?_)
  obtain ⟨e, hI, fr⟩ := hw
  generalize (o_slack σ t c) = o at e hI bd ⊢
  subst e
  by_cases c0 : o.1 = 0
  · rw [rO, if_pos c0]
    change ZP G 30 m_L_slack 8 [some (.ref 0), some (iv t), some (iv c), some (.ref 320), none] [iv o.2.1, iv 0, .ref 320] W _
    refine z_i2lr (pc' := 9) (by decide +kernel) rfl ?_
    refine z_lastore (pc' := 10) (by decide +kernel) (hou.ext fr.1) ⟨by decide, by decide, by decide⟩ rfl ?_
    refine z_goto (tgt := 21) (off := 11) (by decide +kernel) (by decide) ?_
    refine z_iconst (pc' := 22) (n := 0) (by decide +kernel) rfl ?_
    refine z_ireturn (by decide +kernel) ⟨_, rfl, rfl⟩ ?_
    exact ⟨by rw [c0]; rfl, (wL hI fr _).1, (wL hI fr _).2, fun _ => zSL_at W _⟩
  by_cases c1 : o.1 = 1
  · rw [rO, if_neg c0, show E3 eN eA "" o.1 = eN by rw [c1]; rfl]
    refine ⟨13, 4, 15, ⟨[], _, _, rfl, (fun z hz => absurd hz List.not_mem_nil), by decide, by decide, ⟨_, (amM4 102 rfl (by decide +kernel)), (amM4 113 rfl (by decide +kernel))⟩, rfl⟩, (Or.inr ⟨(by decide +kernel), rfl⟩), by decide, ?_⟩
    refine z_iconst (pc' := 16) (n := 1) (by decide +kernel) rfl ?_
    exact z_ireturn (by decide +kernel) ⟨_, rfl, rfl⟩ ⟨by rw [c1]; rfl, hI, wF fr, fun g => absurd g c0⟩
  by_cases c2 : o.1 = 2
  · rw [rO, if_neg c0, show E3 eN eA "" o.1 = eA by rw [c2]; rfl]
    refine ⟨17, 4, 19, ⟨[_], _, _, rfl, (fun z hz => by
      obtain rfl := List.mem_singleton.mp hz
      exact ⟨by decide, _, (amM4 102 rfl (by decide +kernel)), by decide +kernel⟩), by decide, by decide, ⟨_, (amM4 4 rfl (by decide +kernel)), (amM4 12 rfl (by decide +kernel))⟩, rfl⟩, (Or.inr ⟨(by decide +kernel), rfl⟩), by decide, ?_⟩
    refine z_iconst (pc' := 20) (n := 2) (by decide +kernel) rfl ?_
    exact z_ireturn (by decide +kernel) ⟨_, rfl, rfl⟩ ⟨by rw [c2]; rfl, hI, wF fr, fun g => absurd g c0⟩
  exact absurd bd (by omega)
theorem bd_rest {σ : St} {t : Int} : (o_rest σ t).1 ≤ 1 := by
  unfold o_rest
  repeat (first | exact Nat.le_of_ble_eq_true rfl | refine cIf_le ?_ ?_ | refine pIf_le (by decide) fun p => ?_)
theorem w_L_rest {G : Gx} {Z : Zm} {σ : St} {t : Int} (h : IC Z σ) (ho : okS σ) (hz : zSz Z < 990000) (hou : zA Z 320 110 1) (ht : R32 t) : ZM G 30 m_L_rest [.ref 0, iv t, .ref 320] Z (wC Z wPI (o_rest σ t)) := by
  refine ZM.of [some (.ref 0), some (iv t), some (.ref 320), none] rfl ?_
  refine z_aload_n (pc' := 1) (j := 2) (by decide +kernel) rfl rfl ?_
  refine z_iconst (pc' := 2) (n := 0) (by decide +kernel) rfl ?_
  refine z_aload_n (pc' := 3) (j := 0) (by decide +kernel) rfl rfl ?_
  refine z_iload_n (pc' := 4) (j := 1) (by decide +kernel) rfl rfl ?_
  have bd := bd_rest (σ := σ) (t := t)
  refine z_callVH (pc' := 7) (idx := 64) (mj := m_X11_rest) (av := [iv t]) (n := 1) (ci := 11) (b := 0) (d' := 12) (by decide +kernel) k_X11_rest (amM5 146 rfl (by decide +kernel)) rfl (by decide) (am_le rfl) rfl (am_le rfl) h.1.o.1 h.1.o.2 rfl (ZM.mono (c_rest (h := h) (ho := ho) (hz := by omega) (ht := ht)) fun r W hw => ?_)
  obtain ⟨e, hI, fr⟩ := hw
  generalize (o_rest σ t) = o at e hI bd ⊢
  subst e
  by_cases c0 : o.1 = 0
  · rw [rO, if_pos c0]
    change ZP G 30 m_L_rest 7 [some (.ref 0), some (iv t), some (.ref 320), none] [iv o.2.1, iv 0, .ref 320] W _
    refine z_i2lr (pc' := 8) (by decide +kernel) rfl ?_
    refine z_lastore (pc' := 9) (by decide +kernel) (hou.ext fr.1) ⟨by decide, by decide, by decide⟩ rfl ?_
    refine z_goto (tgt := 15) (off := 6) (by decide +kernel) (by decide) ?_
    refine z_iconst (pc' := 16) (n := 0) (by decide +kernel) rfl ?_
    refine z_ireturn (by decide +kernel) ⟨_, rfl, rfl⟩ ?_
    exact ⟨by rw [c0]; rfl, (wL hI fr _).1, (wL hI fr _).2, fun _ => zSL_at W _⟩
  by_cases c1 : o.1 = 1
  · rw [rO, if_neg c0, show E3 eN "" "" o.1 = eN by rw [c1]; rfl]
    refine ⟨12, 3, 13, ⟨[], _, _, rfl, (fun z hz => absurd hz List.not_mem_nil), by decide, by decide, ⟨_, (amM4 102 rfl (by decide +kernel)), (amM4 113 rfl (by decide +kernel))⟩, rfl⟩, (Or.inl ⟨3, (by decide +kernel), rfl, rfl⟩), by decide, ?_⟩
    refine z_iconst (pc' := 14) (n := 1) (by decide +kernel) rfl ?_
    exact z_ireturn (by decide +kernel) ⟨_, rfl, rfl⟩ ⟨by rw [c1]; rfl, hI, wF fr, fun g => absurd g c0⟩
  exact absurd bd (by omega)
theorem bd_chainAt {σ : St} {x : Int} : (o_chainAt σ x).1 ≤ 1 := by
  unfold o_chainAt
  repeat (first | exact Nat.le_of_ble_eq_true rfl | refine cIf_le ?_ ?_ | refine pIf_le (by decide) fun p => ?_)
theorem w_L_chainAt {G : Gx} {Z : Zm} {σ : St} {x : Int} (h : IC Z σ) (ho : okS σ) (hz : zSz Z < 990000) (hou : zA Z 320 110 1) (hx : R32 x) : ZM G 30 m_L_chainAt [.ref 0, iv x, .ref 320] Z (wC Z wPI (o_chainAt σ x)) := by
  refine ZM.of [some (.ref 0), some (iv x), some (.ref 320), none] rfl ?_
  refine z_aload_n (pc' := 1) (j := 2) (by decide +kernel) rfl rfl ?_
  refine z_iconst (pc' := 2) (n := 0) (by decide +kernel) rfl ?_
  refine z_aload_n (pc' := 3) (j := 0) (by decide +kernel) rfl rfl ?_
  refine z_iload_n (pc' := 4) (j := 1) (by decide +kernel) rfl rfl ?_
  have bd := bd_chainAt (σ := σ) (x := x)
  refine z_callVH (pc' := 7) (idx := 67) (mj := m_X11_chainAt) (av := [iv x]) (n := 1) (ci := 11) (b := 0) (d' := 12) (by decide +kernel) k_X11_chainAt (amM5 154 rfl (by decide +kernel)) rfl (by decide) (am_le rfl) rfl (am_le rfl) h.1.o.1 h.1.o.2 rfl (ZM.mono (c_chainAt (h := h) (ho := ho) (hz := by omega) (hx := hx)) fun r W hw => ?_)
  obtain ⟨e, hI, fr⟩ := hw
  generalize (o_chainAt σ x) = o at e hI bd ⊢
  subst e
  by_cases c0 : o.1 = 0
  · rw [rO, if_pos c0]
    change ZP G 30 m_L_chainAt 7 [some (.ref 0), some (iv x), some (.ref 320), none] [iv o.2.1, iv 0, .ref 320] W _
    refine z_i2lr (pc' := 8) (by decide +kernel) rfl ?_
    refine z_lastore (pc' := 9) (by decide +kernel) (hou.ext fr.1) ⟨by decide, by decide, by decide⟩ rfl ?_
    refine z_goto (tgt := 15) (off := 6) (by decide +kernel) (by decide) ?_
    refine z_iconst (pc' := 16) (n := 0) (by decide +kernel) rfl ?_
    refine z_ireturn (by decide +kernel) ⟨_, rfl, rfl⟩ ?_
    exact ⟨by rw [c0]; rfl, (wL hI fr _).1, (wL hI fr _).2, fun _ => zSL_at W _⟩
  by_cases c1 : o.1 = 1
  · rw [rO, if_neg c0, show E3 eI "" "" o.1 = eI by rw [c1]; rfl]
    refine ⟨12, 3, 13, ⟨[], _, _, rfl, (fun z hz => absurd hz List.not_mem_nil), by decide, by decide, ⟨_, (amM5 69 rfl (by decide +kernel)), (amM5 99 rfl (by decide +kernel))⟩, rfl⟩, (Or.inl ⟨3, (by decide +kernel), rfl, rfl⟩), by decide, ?_⟩
    refine z_iconst (pc' := 14) (n := 1) (by decide +kernel) rfl ?_
    exact z_ireturn (by decide +kernel) ⟨_, rfl, rfl⟩ ⟨by rw [c1]; rfl, hI, wF fr, fun g => absurd g c0⟩
  exact absurd bd (by omega)
theorem bd_hours {σ : St} {x y z q : Int} : (o_hours σ x y z q).1 ≤ 2 := by
  unfold o_hours
  repeat (first | exact Nat.le_of_ble_eq_true rfl | refine cIf_le ?_ ?_ | refine pIf_le (by decide) fun p => ?_)
theorem w_L_hours {G : Gx} {Z : Zm} {σ : St} {x y z q : Int} (h : IC Z σ) (ho : okS σ) (hz : zSz Z < 990000) (hou : zA Z 320 110 1) (hx : R32 x) (hy : R32 y) (hzz : R32 z) (hq : q = 0 ∨ q = 1) : ZM G 30 m_L_hours [.ref 0, iv x, iv y, iv z, iv q, .ref 320] Z (wC Z wPI (o_hours σ x y z q)) := by
  refine ZM.of [some (.ref 0), some (iv x), some (iv y), some (iv z), some (iv q), some (.ref 320), none] rfl ?_
  refine z_aload (pc' := 2) (j := 5) (by decide +kernel) rfl rfl ?_
  refine z_iconst (pc' := 3) (n := 0) (by decide +kernel) rfl ?_
  refine z_aload_n (pc' := 4) (j := 0) (by decide +kernel) rfl rfl ?_
  refine z_iload_n (pc' := 5) (j := 1) (by decide +kernel) rfl rfl ?_
  refine z_iload_n (pc' := 6) (j := 2) (by decide +kernel) rfl rfl ?_
  refine z_iload_n (pc' := 7) (j := 3) (by decide +kernel) rfl rfl ?_
  refine z_iload (pc' := 9) (j := 4) (by decide +kernel) rfl rfl ?_
  have bd := bd_hours (σ := σ) (x := x) (y := y) (z := z) (q := q)
  refine z_callVH (pc' := 12) (idx := 70) (mj := m_X11_hours) (av := [iv x, iv y, iv z, iv q]) (n := 4) (ci := 11) (b := 0) (d' := 12) (by decide +kernel) k_X11_hours (amM5 162 rfl (by decide +kernel)) rfl (by decide) (am_le rfl) rfl (am_le rfl) h.1.o.1 h.1.o.2 rfl (ZM.mono (c_hours (h := h) (ho := ho) (hz := by omega) (hx := hx) (hy := hy) (hzz := hzz) (hq := hq)) fun r W hw => ?_)
  obtain ⟨e, hI, fr⟩ := hw
  generalize (o_hours σ x y z q) = o at e hI bd ⊢
  subst e
  by_cases c0 : o.1 = 0
  · rw [rO, if_pos c0]
    change ZP G 30 m_L_hours 12 [some (.ref 0), some (iv x), some (iv y), some (iv z), some (iv q), some (.ref 320), none] [iv o.2.1, iv 0, .ref 320] W _
    refine z_i2lr (pc' := 13) (by decide +kernel) rfl ?_
    refine z_lastore (pc' := 14) (by decide +kernel) (hou.ext fr.1) ⟨by decide, by decide, by decide⟩ rfl ?_
    refine z_goto (tgt := 25) (off := 11) (by decide +kernel) (by decide) ?_
    refine z_iconst (pc' := 26) (n := 0) (by decide +kernel) rfl ?_
    refine z_ireturn (by decide +kernel) ⟨_, rfl, rfl⟩ ?_
    exact ⟨by rw [c0]; rfl, (wL hI fr _).1, (wL hI fr _).2, fun _ => zSL_at W _⟩
  by_cases c1 : o.1 = 1
  · rw [rO, if_neg c0, show E3 eA eU "" o.1 = eA by rw [c1]; rfl]
    refine ⟨17, 6, 19, ⟨[], _, _, rfl, (fun z hz => absurd hz List.not_mem_nil), by decide, by decide, ⟨_, (amM4 4 rfl (by decide +kernel)), (amM4 12 rfl (by decide +kernel))⟩, rfl⟩, (Or.inr ⟨(by decide +kernel), rfl⟩), by decide, ?_⟩
    refine z_iconst (pc' := 20) (n := 1) (by decide +kernel) rfl ?_
    exact z_ireturn (by decide +kernel) ⟨_, rfl, rfl⟩ ⟨by rw [c1]; rfl, hI, wF fr, fun g => absurd g c0⟩
  by_cases c2 : o.1 = 2
  · rw [rO, if_neg c0, show E3 eA eU "" o.1 = eU by rw [c2]; rfl]
    refine ⟨21, 6, 23, ⟨[_], _, _, rfl, (fun z hz => by
      obtain rfl := List.mem_singleton.mp hz
      exact ⟨by decide, _, (amM4 4 rfl (by decide +kernel)), by decide +kernel⟩), by decide, by decide, ⟨_, (amM5 161 rfl (by decide +kernel)), (amM5 178 rfl (by decide +kernel))⟩, rfl⟩, (Or.inr ⟨(by decide +kernel), rfl⟩), by decide, ?_⟩
    refine z_iconst (pc' := 24) (n := 2) (by decide +kernel) rfl ?_
    exact z_ireturn (by decide +kernel) ⟨_, rfl, rfl⟩ ⟨by rw [c2]; rfl, hI, wF fr, fun g => absurd g c0⟩
  exact absurd bd (by omega)
theorem bd_isWork {σ : St} {x y : Int} : (o_isWork σ x y).1 ≤ 1 := by
  unfold o_isWork
  repeat (first | exact Nat.le_of_ble_eq_true rfl | refine cIf_le ?_ ?_ | refine pIf_le (by decide) fun p => ?_)
theorem w_L_isWork {G : Gx} {Z : Zm} {σ : St} {x y : Int} (h : IC Z σ) (ho : okS σ) (hz : zSz Z < 990000) (hou : zA Z 320 110 1) (hx : R32 x) (hy : R32 y) : ZM G 30 m_L_isWork [.ref 0, iv x, iv y, .ref 320] Z (wC Z wPB (o_isWork σ x y)) := by
  refine ZM.of [some (.ref 0), some (iv x), some (iv y), some (.ref 320), none] rfl ?_
  refine z_aload_n (pc' := 1) (j := 3) (by decide +kernel) rfl rfl ?_
  refine z_iconst (pc' := 2) (n := 0) (by decide +kernel) rfl ?_
  refine z_aload_n (pc' := 3) (j := 0) (by decide +kernel) rfl rfl ?_
  refine z_iload_n (pc' := 4) (j := 1) (by decide +kernel) rfl rfl ?_
  refine z_iload_n (pc' := 5) (j := 2) (by decide +kernel) rfl rfl ?_
  have bd := bd_isWork (σ := σ) (x := x) (y := y)
  refine z_callVH (pc' := 8) (idx := 76) (mj := m_X11_isWork) (av := [iv x, iv y]) (n := 2) (ci := 11) (b := 0) (d' := 12) (by decide +kernel) k_X11_isWork (amM5 199 rfl (by decide +kernel)) rfl (by decide) (am_le rfl) rfl (am_le rfl) h.1.o.1 h.1.o.2 rfl (ZM.mono (c_isWork (h := h) (ho := ho) (hz := by omega) (hx := hx) (hy := hy)) fun r W hw => ?_)
  obtain ⟨e, hI, fr⟩ := hw
  generalize (o_isWork σ x y) = o at e hI bd ⊢
  subst e
  by_cases c0 : o.1 = 0
  · rw [rO, if_pos c0]
    change ZP G 30 m_L_isWork 8 [some (.ref 0), some (iv x), some (iv y), some (.ref 320), none] [iv o.2.1, iv 0, .ref 320] W _
    refine z_zr (pc' := 11) (tgt := 15) (off := 7) (by decide +kernel) (by decide) rfl ?_
    by_cases cz : rI o.2.1 = 0
    · rw [if_pos cz]
      refine z_lconst (pc' := 16) (n := 0) (v := 0) (by decide +kernel) rfl rfl ?_
      refine z_lastore (pc' := 17) (by decide +kernel) (hou.ext fr.1) ⟨by decide, by decide, by decide⟩ rfl ?_
      refine z_goto (tgt := 24) (off := 7) (by decide +kernel) (by decide) ?_
      refine z_iconst (pc' := 25) (n := 0) (by decide +kernel) rfl ?_
      refine z_ireturn (by decide +kernel) ⟨_, rfl, rfl⟩ ?_
      exact ⟨by rw [c0]; rfl, (wL hI fr _).1, (wL hI fr _).2, fun _ => (zSL_at W 0).trans (if_pos cz).symm⟩
    · rw [if_neg cz]
      refine z_lconst (pc' := 12) (n := 1) (v := 1) (by decide +kernel) rfl rfl ?_
      refine z_goto (tgt := 16) (off := 4) (by decide +kernel) (by decide) ?_
      refine z_lastore (pc' := 17) (by decide +kernel) (hou.ext fr.1) ⟨by decide, by decide, by decide⟩ rfl ?_
      refine z_goto (tgt := 24) (off := 7) (by decide +kernel) (by decide) ?_
      refine z_iconst (pc' := 25) (n := 0) (by decide +kernel) rfl ?_
      refine z_ireturn (by decide +kernel) ⟨_, rfl, rfl⟩ ?_
      exact ⟨by rw [c0]; rfl, (wL hI fr _).1, (wL hI fr _).2, fun _ => (zSL_at W 1).trans (if_neg cz).symm⟩
  by_cases c1 : o.1 = 1
  · rw [rO, if_neg c0, show E3 eA "" "" o.1 = eA by rw [c1]; rfl]
    refine ⟨20, 4, 22, ⟨[], _, _, rfl, (fun z hz => absurd hz List.not_mem_nil), by decide, by decide, ⟨_, (amM4 4 rfl (by decide +kernel)), (amM4 12 rfl (by decide +kernel))⟩, rfl⟩, (Or.inr ⟨(by decide +kernel), rfl⟩), by decide, ?_⟩
    refine z_iconst (pc' := 23) (n := 1) (by decide +kernel) rfl ?_
    exact z_ireturn (by decide +kernel) ⟨_, rfl, rfl⟩ ⟨by rw [c1]; rfl, hI, wF fr, fun g => absurd g c0⟩
  exact absurd bd (by omega)
theorem bd_clockBegin {σ : St} {t : Int} : (o_clockBegin σ t).1 ≤ 2 := by
  unfold o_clockBegin
  repeat (first | exact Nat.le_of_ble_eq_true rfl | refine cIf_le ?_ ?_ | refine pIf_le (by decide) fun p => ?_)
theorem w_L_clockBegin {G : Gx} {Z : Zm} {σ : St} {t : Int} (h : IC Z σ) (ho : okS σ) (hz : zSz Z < 990000) (hou : zA Z 320 110 1) (ht : R32 t) : ZM G 30 m_L_clockBegin [.ref 0, iv t, .ref 320] Z (wC Z wPI (o_clockBegin σ t)) := by
  refine ZM.of [some (.ref 0), some (iv t), some (.ref 320), none] rfl ?_
  refine z_aload_n (pc' := 1) (j := 2) (by decide +kernel) rfl rfl ?_
  refine z_iconst (pc' := 2) (n := 0) (by decide +kernel) rfl ?_
  refine z_aload_n (pc' := 3) (j := 0) (by decide +kernel) rfl rfl ?_
  refine z_iload_n (pc' := 4) (j := 1) (by decide +kernel) rfl rfl ?_
  have bd := bd_clockBegin (σ := σ) (t := t)
  refine z_callVH (pc' := 7) (idx := 80) (mj := m_X11_clockBegin) (av := [iv t]) (n := 1) (ci := 11) (b := 0) (d' := 12) (by decide +kernel) k_X11_clockBegin (amM5 207 rfl (by decide +kernel)) rfl (by decide) (am_le rfl) rfl (am_le rfl) h.1.o.1 h.1.o.2 rfl (ZM.mono (c_clockBegin (h := h) (ho := ho) (hz := by omega) (ht := ht)) fun r W hw => ?_)
  obtain ⟨e, hI, fr⟩ := hw
  generalize (o_clockBegin σ t) = o at e hI bd ⊢
  subst e
  by_cases c0 : o.1 = 0
  · rw [rO, if_pos c0]
    change ZP G 30 m_L_clockBegin 7 [some (.ref 0), some (iv t), some (.ref 320), none] [iv o.2.1, iv 0, .ref 320] W _
    refine z_i2lr (pc' := 8) (by decide +kernel) rfl ?_
    refine z_lastore (pc' := 9) (by decide +kernel) (hou.ext fr.1) ⟨by decide, by decide, by decide⟩ rfl ?_
    refine z_goto (tgt := 18) (off := 9) (by decide +kernel) (by decide) ?_
    refine z_iconst (pc' := 19) (n := 0) (by decide +kernel) rfl ?_
    refine z_ireturn (by decide +kernel) ⟨_, rfl, rfl⟩ ?_
    exact ⟨by rw [c0]; rfl, (wL hI fr _).1, (wL hI fr _).2, fun _ => zSL_at W _⟩
  by_cases c1 : o.1 = 1
  · rw [rO, if_neg c0, show E3 eN eU "" o.1 = eN by rw [c1]; rfl]
    refine ⟨12, 3, 13, ⟨[], _, _, rfl, (fun z hz => absurd hz List.not_mem_nil), by decide, by decide, ⟨_, (amM4 102 rfl (by decide +kernel)), (amM4 113 rfl (by decide +kernel))⟩, rfl⟩, (Or.inl ⟨3, (by decide +kernel), rfl, rfl⟩), by decide, ?_⟩
    refine z_iconst (pc' := 14) (n := 1) (by decide +kernel) rfl ?_
    exact z_ireturn (by decide +kernel) ⟨_, rfl, rfl⟩ ⟨by rw [c1]; rfl, hI, wF fr, fun g => absurd g c0⟩
  by_cases c2 : o.1 = 2
  · rw [rO, if_neg c0, show E3 eN eU "" o.1 = eU by rw [c2]; rfl]
    refine ⟨15, 3, 16, ⟨[_], _, _, rfl, (fun z hz => by
      obtain rfl := List.mem_singleton.mp hz
      exact ⟨by decide, _, (amM4 102 rfl (by decide +kernel)), by decide +kernel⟩), by decide, by decide, ⟨_, (amM5 161 rfl (by decide +kernel)), (amM5 178 rfl (by decide +kernel))⟩, rfl⟩, (Or.inl ⟨3, (by decide +kernel), rfl, rfl⟩), by decide, ?_⟩
    refine z_iconst (pc' := 17) (n := 2) (by decide +kernel) rfl ?_
    exact z_ireturn (by decide +kernel) ⟨_, rfl, rfl⟩ ⟨by rw [c2]; rfl, hI, wF fr, fun g => absurd g c0⟩
  exact absurd bd (by omega)
theorem bd_clockEnd {σ : St} {t : Int} : (o_clockEnd σ t).1 ≤ 2 := by
  unfold o_clockEnd
  repeat (first | exact Nat.le_of_ble_eq_true rfl | refine cIf_le ?_ ?_ | refine pIf_le (by decide) fun p => ?_)
theorem w_L_clockEnd {G : Gx} {Z : Zm} {σ : St} {t : Int} (h : IC Z σ) (ho : okS σ) (hz : zSz Z < 990000) (hou : zA Z 320 110 1) (ht : R32 t) : ZM G 30 m_L_clockEnd [.ref 0, iv t, .ref 320] Z (wC Z wPI (o_clockEnd σ t)) := by
  refine ZM.of [some (.ref 0), some (iv t), some (.ref 320), none] rfl ?_
  refine z_aload_n (pc' := 1) (j := 2) (by decide +kernel) rfl rfl ?_
  refine z_iconst (pc' := 2) (n := 0) (by decide +kernel) rfl ?_
  refine z_aload_n (pc' := 3) (j := 0) (by decide +kernel) rfl rfl ?_
  refine z_iload_n (pc' := 4) (j := 1) (by decide +kernel) rfl rfl ?_
  have bd := bd_clockEnd (σ := σ) (t := t)
  refine z_callVH (pc' := 7) (idx := 83) (mj := m_X11_clockEnd) (av := [iv t]) (n := 1) (ci := 11) (b := 0) (d' := 12) (by decide +kernel) k_X11_clockEnd (amM6 0 rfl (by decide +kernel)) rfl (by decide) (am_le rfl) rfl (am_le rfl) h.1.o.1 h.1.o.2 rfl (ZM.mono (c_clockEnd (h := h) (ho := ho) (hz := by omega) (ht := ht)) fun r W hw => ?_)
  obtain ⟨e, hI, fr⟩ := hw
  generalize (o_clockEnd σ t) = o at e hI bd ⊢
  subst e
  by_cases c0 : o.1 = 0
  · rw [rO, if_pos c0]
    change ZP G 30 m_L_clockEnd 7 [some (.ref 0), some (iv t), some (.ref 320), none] [iv o.2.1, iv 0, .ref 320] W _
    refine z_i2lr (pc' := 8) (by decide +kernel) rfl ?_
    refine z_lastore (pc' := 9) (by decide +kernel) (hou.ext fr.1) ⟨by decide, by decide, by decide⟩ rfl ?_
    refine z_goto (tgt := 18) (off := 9) (by decide +kernel) (by decide) ?_
    refine z_iconst (pc' := 19) (n := 0) (by decide +kernel) rfl ?_
    refine z_ireturn (by decide +kernel) ⟨_, rfl, rfl⟩ ?_
    exact ⟨by rw [c0]; rfl, (wL hI fr _).1, (wL hI fr _).2, fun _ => zSL_at W _⟩
  by_cases c1 : o.1 = 1
  · rw [rO, if_neg c0, show E3 eN eU "" o.1 = eN by rw [c1]; rfl]
    refine ⟨12, 3, 13, ⟨[], _, _, rfl, (fun z hz => absurd hz List.not_mem_nil), by decide, by decide, ⟨_, (amM4 102 rfl (by decide +kernel)), (amM4 113 rfl (by decide +kernel))⟩, rfl⟩, (Or.inl ⟨3, (by decide +kernel), rfl, rfl⟩), by decide, ?_⟩
    refine z_iconst (pc' := 14) (n := 1) (by decide +kernel) rfl ?_
    exact z_ireturn (by decide +kernel) ⟨_, rfl, rfl⟩ ⟨by rw [c1]; rfl, hI, wF fr, fun g => absurd g c0⟩
  by_cases c2 : o.1 = 2
  · rw [rO, if_neg c0, show E3 eN eU "" o.1 = eU by rw [c2]; rfl]
    refine ⟨15, 3, 16, ⟨[_], _, _, rfl, (fun z hz => by
      obtain rfl := List.mem_singleton.mp hz
      exact ⟨by decide, _, (amM4 102 rfl (by decide +kernel)), by decide +kernel⟩), by decide, by decide, ⟨_, (amM5 161 rfl (by decide +kernel)), (amM5 178 rfl (by decide +kernel))⟩, rfl⟩, (Or.inl ⟨3, (by decide +kernel), rfl, rfl⟩), by decide, ?_⟩
    refine z_iconst (pc' := 17) (n := 2) (by decide +kernel) rfl ?_
    exact z_ireturn (by decide +kernel) ⟨_, rfl, rfl⟩ ⟨by rw [c2]; rfl, hI, wF fr, fun g => absurd g c0⟩
  exact absurd bd (by omega)
theorem bd_clockAll {σ : St}  : (o_clockAll σ).1 ≤ 1 := by
  unfold o_clockAll
  repeat (first | exact Nat.le_of_ble_eq_true rfl | refine cIf_le ?_ ?_ | refine pIf_le (by decide) fun p => ?_)
theorem w_L_clockAll {G : Gx} {Z : Zm} {σ : St}  (h : IC Z σ) (ho : okS σ) (hz : zSz Z < 990000) (hou : zA Z 320 110 1)  : ZM G 30 m_L_clockAll [.ref 0, .ref 320] Z (wC Z wPI (o_clockAll σ)) := by
  refine ZM.of [some (.ref 0), some (.ref 320), none] rfl ?_
  refine z_aload_n (pc' := 1) (j := 1) (by decide +kernel) rfl rfl ?_
  refine z_iconst (pc' := 2) (n := 0) (by decide +kernel) rfl ?_
  refine z_aload_n (pc' := 3) (j := 0) (by decide +kernel) rfl rfl ?_
  have bd := bd_clockAll (σ := σ)
  refine z_callVH (pc' := 6) (idx := 86) (mj := m_X11_clockAll) (av := []) (n := 0) (ci := 11) (b := 0) (d' := 12) (by decide +kernel) k_X11_clockAll (amM6 7 rfl (by decide +kernel)) rfl (by decide) (am_le rfl) rfl (am_le rfl) h.1.o.1 h.1.o.2 rfl (ZM.mono (c_clockAll (h := h) (ho := ho) (hz := by omega)) fun r W hw => ?_)
  obtain ⟨e, hI, fr⟩ := hw
  generalize (o_clockAll σ) = o at e hI bd ⊢
  subst e
  by_cases c0 : o.1 = 0
  · rw [rO, if_pos c0]
    change ZP G 30 m_L_clockAll 6 [some (.ref 0), some (.ref 320), none] [iv o.2.1, iv 0, .ref 320] W _
    refine z_i2lr (pc' := 7) (by decide +kernel) rfl ?_
    refine z_lastore (pc' := 8) (by decide +kernel) (hou.ext fr.1) ⟨by decide, by decide, by decide⟩ rfl ?_
    refine z_goto (tgt := 14) (off := 6) (by decide +kernel) (by decide) ?_
    refine z_iconst (pc' := 15) (n := 0) (by decide +kernel) rfl ?_
    refine z_ireturn (by decide +kernel) ⟨_, rfl, rfl⟩ ?_
    exact ⟨by rw [c0]; rfl, (wL hI fr _).1, (wL hI fr _).2, fun _ => zSL_at W _⟩
  by_cases c1 : o.1 = 1
  · rw [rO, if_neg c0, show E3 eU "" "" o.1 = eU by rw [c1]; rfl]
    refine ⟨11, 2, 12, ⟨[], _, _, rfl, (fun z hz => absurd hz List.not_mem_nil), by decide, by decide, ⟨_, (amM5 161 rfl (by decide +kernel)), (amM5 178 rfl (by decide +kernel))⟩, rfl⟩, (Or.inl ⟨2, (by decide +kernel), rfl, rfl⟩), by decide, ?_⟩
    refine z_iconst (pc' := 13) (n := 1) (by decide +kernel) rfl ?_
    exact z_ireturn (by decide +kernel) ⟨_, rfl, rfl⟩ ⟨by rw [c1]; rfl, hI, wF fr, fun g => absurd g c0⟩
  exact absurd bd (by omega)
theorem bd_hands {σ : St} {x y : Int} : (o_hands σ x y).1 ≤ 1 := by
  unfold o_hands
  repeat (first | exact Nat.le_of_ble_eq_true rfl | refine cIf_le ?_ ?_ | refine pIf_le (by decide) fun p => ?_)
theorem w_L_hands {G : Gx} {Z : Zm} {σ : St} {x y : Int} (h : IC Z σ) (ho : okS σ) (hz : zSz Z < 990000) (hou : zA Z 320 110 1) (hx : R32 x) (hy : R32 y) : ZM G 30 m_L_hands [.ref 0, iv x, iv y, .ref 320] Z (wC Z wPI (o_hands σ x y)) := by
  refine ZM.of [some (.ref 0), some (iv x), some (iv y), some (.ref 320), none] rfl ?_
  refine z_aload_n (pc' := 1) (j := 3) (by decide +kernel) rfl rfl ?_
  refine z_iconst (pc' := 2) (n := 0) (by decide +kernel) rfl ?_
  refine z_aload_n (pc' := 3) (j := 0) (by decide +kernel) rfl rfl ?_
  refine z_iload_n (pc' := 4) (j := 1) (by decide +kernel) rfl rfl ?_
  refine z_iload_n (pc' := 5) (j := 2) (by decide +kernel) rfl rfl ?_
  have bd := bd_hands (σ := σ) (x := x) (y := y)
  refine z_callVH (pc' := 8) (idx := 89) (mj := m_X11_hands) (av := [iv x, iv y]) (n := 2) (ci := 11) (b := 0) (d' := 12) (by decide +kernel) k_X11_hands (amM6 14 rfl (by decide +kernel)) rfl (by decide) (am_le rfl) rfl (am_le rfl) h.1.o.1 h.1.o.2 rfl (ZM.mono (c_hands (h := h) (hz := by omega) (hx := hx) (hy := hy)) fun r W hw => ?_)
  obtain ⟨e, hI, fr⟩ := hw
  generalize (o_hands σ x y) = o at e hI bd ⊢
  subst e
  by_cases c0 : o.1 = 0
  · rw [rO, if_pos c0]
    change ZP G 30 m_L_hands 8 [some (.ref 0), some (iv x), some (iv y), some (.ref 320), none] [iv o.2.1, iv 0, .ref 320] W _
    refine z_i2lr (pc' := 9) (by decide +kernel) rfl ?_
    refine z_lastore (pc' := 10) (by decide +kernel) (hou.ext fr.1) ⟨by decide, by decide, by decide⟩ rfl ?_
    refine z_goto (tgt := 17) (off := 7) (by decide +kernel) (by decide) ?_
    refine z_iconst (pc' := 18) (n := 0) (by decide +kernel) rfl ?_
    refine z_ireturn (by decide +kernel) ⟨_, rfl, rfl⟩ ?_
    exact ⟨by rw [c0]; rfl, (wL hI fr _).1, (wL hI fr _).2, fun _ => zSL_at W _⟩
  by_cases c1 : o.1 = 1
  · rw [rO, if_neg c0, show E3 eA "" "" o.1 = eA by rw [c1]; rfl]
    refine ⟨13, 4, 15, ⟨[], _, _, rfl, (fun z hz => absurd hz List.not_mem_nil), by decide, by decide, ⟨_, (amM4 4 rfl (by decide +kernel)), (amM4 12 rfl (by decide +kernel))⟩, rfl⟩, (Or.inr ⟨(by decide +kernel), rfl⟩), by decide, ?_⟩
    refine z_iconst (pc' := 16) (n := 1) (by decide +kernel) rfl ?_
    exact z_ireturn (by decide +kernel) ⟨_, rfl, rfl⟩ ⟨by rw [c1]; rfl, hI, wF fr, fun g => absurd g c0⟩
  exact absurd bd (by omega)
theorem bd_list {σ : St} {t : Int} : (o_list σ t).1 ≤ 2 := by
  unfold o_list
  repeat (first | exact Nat.le_of_ble_eq_true rfl | refine cIf_le ?_ ?_ | refine pIf_le (by decide) fun p => ?_)
theorem w_L_list {G : Gx} {Z : Zm} {σ : St} {t : Int} (h : IC Z σ) (ho : okS σ) (hz : zSz Z < 990000) (hou : zA Z 320 110 1) (ht : R32 t) : ZM G 30 m_L_list [.ref 0, iv t, .ref 320] Z (wC Z wPI (o_list σ t)) := by
  refine ZM.of [some (.ref 0), some (iv t), some (.ref 320), none] rfl ?_
  refine z_aload_n (pc' := 1) (j := 2) (by decide +kernel) rfl rfl ?_
  refine z_iconst (pc' := 2) (n := 0) (by decide +kernel) rfl ?_
  refine z_aload_n (pc' := 3) (j := 0) (by decide +kernel) rfl rfl ?_
  refine z_iload_n (pc' := 4) (j := 1) (by decide +kernel) rfl rfl ?_
  have bd := bd_list (σ := σ) (t := t)
  refine z_callVH (pc' := 7) (idx := 92) (mj := m_X11_list) (av := [iv t]) (n := 1) (ci := 11) (b := 0) (d' := 12) (by decide +kernel) k_X11_list (amM6 22 rfl (by decide +kernel)) rfl (by decide) (am_le rfl) rfl (am_le rfl) h.1.o.1 h.1.o.2 rfl (ZM.mono (c_list (h := h) (ho := ho) (hz := by omega) (ht := ht)) fun r W hw => ?_)
  obtain ⟨e, hI, fr⟩ := hw
  generalize (o_list σ t) = o at e hI bd ⊢
  subst e
  by_cases c0 : o.1 = 0
  · rw [rO, if_pos c0]
    change ZP G 30 m_L_list 7 [some (.ref 0), some (iv t), some (.ref 320), none] [iv o.2.1, iv 0, .ref 320] W _
    refine z_i2lr (pc' := 8) (by decide +kernel) rfl ?_
    refine z_lastore (pc' := 9) (by decide +kernel) (hou.ext fr.1) ⟨by decide, by decide, by decide⟩ rfl ?_
    refine z_goto (tgt := 18) (off := 9) (by decide +kernel) (by decide) ?_
    refine z_iconst (pc' := 19) (n := 0) (by decide +kernel) rfl ?_
    refine z_ireturn (by decide +kernel) ⟨_, rfl, rfl⟩ ?_
    exact ⟨by rw [c0]; rfl, (wL hI fr _).1, (wL hI fr _).2, fun _ => zSL_at W _⟩
  by_cases c1 : o.1 = 1
  · rw [rO, if_neg c0, show E3 eN eA "" o.1 = eN by rw [c1]; rfl]
    refine ⟨12, 3, 13, ⟨[], _, _, rfl, (fun z hz => absurd hz List.not_mem_nil), by decide, by decide, ⟨_, (amM4 102 rfl (by decide +kernel)), (amM4 113 rfl (by decide +kernel))⟩, rfl⟩, (Or.inl ⟨3, (by decide +kernel), rfl, rfl⟩), by decide, ?_⟩
    refine z_iconst (pc' := 14) (n := 1) (by decide +kernel) rfl ?_
    exact z_ireturn (by decide +kernel) ⟨_, rfl, rfl⟩ ⟨by rw [c1]; rfl, hI, wF fr, fun g => absurd g c0⟩
  by_cases c2 : o.1 = 2
  · rw [rO, if_neg c0, show E3 eN eA "" o.1 = eA by rw [c2]; rfl]
    refine ⟨15, 3, 16, ⟨[_], _, _, rfl, (fun z hz => by
      obtain rfl := List.mem_singleton.mp hz
      exact ⟨by decide, _, (amM4 102 rfl (by decide +kernel)), by decide +kernel⟩), by decide, by decide, ⟨_, (amM4 4 rfl (by decide +kernel)), (amM4 12 rfl (by decide +kernel))⟩, rfl⟩, (Or.inl ⟨3, (by decide +kernel), rfl, rfl⟩), by decide, ?_⟩
    refine z_iconst (pc' := 17) (n := 2) (by decide +kernel) rfl ?_
    exact z_ireturn (by decide +kernel) ⟨_, rfl, rfl⟩ ⟨by rw [c2]; rfl, hI, wF fr, fun g => absurd g c0⟩
  exact absurd bd (by omega)
theorem bd_listed {σ : St} {c x : Int} : (o_listed σ c x).1 ≤ 2 := by
  unfold o_listed
  repeat (first | exact Nat.le_of_ble_eq_true rfl | refine cIf_le ?_ ?_ | refine pIf_le (by decide) fun p => ?_)
theorem w_L_listed {G : Gx} {Z : Zm} {σ : St} {c x : Int} (h : IC Z σ) (ho : okS σ) (hz : zSz Z < 990000) (hou : zA Z 320 110 1) (hc : R32 c) (hx : R32 x) : ZM G 30 m_L_listed [.ref 0, iv c, iv x, .ref 320] Z (wC Z wPI (o_listed σ c x)) := by
  refine ZM.of [some (.ref 0), some (iv c), some (iv x), some (.ref 320), none] rfl ?_
  refine z_aload_n (pc' := 1) (j := 3) (by decide +kernel) rfl rfl ?_
  refine z_iconst (pc' := 2) (n := 0) (by decide +kernel) rfl ?_
  refine z_aload_n (pc' := 3) (j := 0) (by decide +kernel) rfl rfl ?_
  refine z_iload_n (pc' := 4) (j := 1) (by decide +kernel) rfl rfl ?_
  refine z_iload_n (pc' := 5) (j := 2) (by decide +kernel) rfl rfl ?_
  have bd := bd_listed (σ := σ) (c := c) (x := x)
  refine z_callVH (pc' := 8) (idx := 95) (mj := m_X11_listed) (av := [iv c, iv x]) (n := 2) (ci := 11) (b := 0) (d' := 12) (by decide +kernel) k_X11_listed (amM6 34 rfl (by decide +kernel)) rfl (by decide) (am_le rfl) rfl (am_le rfl) h.1.o.1 h.1.o.2 rfl (ZM.mono (c_listed (h := h) (ho := ho) (hz := by omega) (hc := hc) (hx := hx)) fun r W hw => ?_)
  obtain ⟨e, hI, fr⟩ := hw
  generalize (o_listed σ c x) = o at e hI bd ⊢
  subst e
  by_cases c0 : o.1 = 0
  · rw [rO, if_pos c0]
    change ZP G 30 m_L_listed 8 [some (.ref 0), some (iv c), some (iv x), some (.ref 320), none] [iv o.2.1, iv 0, .ref 320] W _
    refine z_i2lr (pc' := 9) (by decide +kernel) rfl ?_
    refine z_lastore (pc' := 10) (by decide +kernel) (hou.ext fr.1) ⟨by decide, by decide, by decide⟩ rfl ?_
    refine z_goto (tgt := 21) (off := 11) (by decide +kernel) (by decide) ?_
    refine z_iconst (pc' := 22) (n := 0) (by decide +kernel) rfl ?_
    refine z_ireturn (by decide +kernel) ⟨_, rfl, rfl⟩ ?_
    exact ⟨by rw [c0]; rfl, (wL hI fr _).1, (wL hI fr _).2, fun _ => zSL_at W _⟩
  by_cases c1 : o.1 = 1
  · rw [rO, if_neg c0, show E3 eA eI "" o.1 = eA by rw [c1]; rfl]
    refine ⟨13, 4, 15, ⟨[], _, _, rfl, (fun z hz => absurd hz List.not_mem_nil), by decide, by decide, ⟨_, (amM4 4 rfl (by decide +kernel)), (amM4 12 rfl (by decide +kernel))⟩, rfl⟩, (Or.inr ⟨(by decide +kernel), rfl⟩), by decide, ?_⟩
    refine z_iconst (pc' := 16) (n := 1) (by decide +kernel) rfl ?_
    exact z_ireturn (by decide +kernel) ⟨_, rfl, rfl⟩ ⟨by rw [c1]; rfl, hI, wF fr, fun g => absurd g c0⟩
  by_cases c2 : o.1 = 2
  · rw [rO, if_neg c0, show E3 eA eI "" o.1 = eI by rw [c2]; rfl]
    refine ⟨17, 4, 19, ⟨[_], _, _, rfl, (fun z hz => by
      obtain rfl := List.mem_singleton.mp hz
      exact ⟨by decide, _, (amM4 4 rfl (by decide +kernel)), by decide +kernel⟩), by decide, by decide, ⟨_, (amM5 69 rfl (by decide +kernel)), (amM5 99 rfl (by decide +kernel))⟩, rfl⟩, (Or.inr ⟨(by decide +kernel), rfl⟩), by decide, ?_⟩
    refine z_iconst (pc' := 20) (n := 2) (by decide +kernel) rfl ?_
    exact z_ireturn (by decide +kernel) ⟨_, rfl, rfl⟩ ⟨by rw [c2]; rfl, hI, wF fr, fun g => absurd g c0⟩
  exact absurd bd (by omega)
theorem bd_plan {σ : St} {c y : Int} : (o_plan σ c y).1 ≤ 1 := by
  unfold o_plan
  repeat (first | exact Nat.le_of_ble_eq_true rfl | refine cIf_le ?_ ?_ | refine pIf_le (by decide) fun p => ?_)
theorem w_L_plan {G : Gx} {Z : Zm} {σ : St} {c y : Int} (h : IC Z σ) (ho : okS σ) (hz : zSz Z < 990000) (hou : zA Z 320 110 1) (hc : R32 c) (hy : R32 y) : ZM G 30 m_L_plan [.ref 0, iv c, iv y, .ref 320] Z (wC Z wPI (o_plan σ c y)) := by
  refine ZM.of [some (.ref 0), some (iv c), some (iv y), some (.ref 320), none] rfl ?_
  refine z_aload_n (pc' := 1) (j := 3) (by decide +kernel) rfl rfl ?_
  refine z_iconst (pc' := 2) (n := 0) (by decide +kernel) rfl ?_
  refine z_aload_n (pc' := 3) (j := 0) (by decide +kernel) rfl rfl ?_
  refine z_iload_n (pc' := 4) (j := 1) (by decide +kernel) rfl rfl ?_
  refine z_iload_n (pc' := 5) (j := 2) (by decide +kernel) rfl rfl ?_
  have bd := bd_plan (σ := σ) (c := c) (y := y)
  refine z_callVH (pc' := 8) (idx := 99) (mj := m_X11_plan) (av := [iv c, iv y]) (n := 2) (ci := 11) (b := 0) (d' := 12) (by decide +kernel) k_X11_plan (amM6 55 rfl (by decide +kernel)) rfl (by decide) (am_le rfl) rfl (am_le rfl) h.1.o.1 h.1.o.2 rfl (ZM.mono (c_plan (h := h) (ho := ho) (hz := by omega) (hc := hc) (hy := hy)) fun r W hw => ?_)
  obtain ⟨e, hI, fr⟩ := hw
  generalize (o_plan σ c y) = o at e hI bd ⊢
  subst e
  by_cases c0 : o.1 = 0
  · rw [rO, if_pos c0]
    change ZP G 30 m_L_plan 8 [some (.ref 0), some (iv c), some (iv y), some (.ref 320), none] [iv o.2.1, iv 0, .ref 320] W _
    refine z_i2lr (pc' := 9) (by decide +kernel) rfl ?_
    refine z_lastore (pc' := 10) (by decide +kernel) (hou.ext fr.1) ⟨by decide, by decide, by decide⟩ rfl ?_
    refine z_goto (tgt := 17) (off := 7) (by decide +kernel) (by decide) ?_
    refine z_iconst (pc' := 18) (n := 0) (by decide +kernel) rfl ?_
    refine z_ireturn (by decide +kernel) ⟨_, rfl, rfl⟩ ?_
    exact ⟨by rw [c0]; rfl, (wL hI fr _).1, (wL hI fr _).2, fun _ => zSL_at W _⟩
  by_cases c1 : o.1 = 1
  · rw [rO, if_neg c0, show E3 eA "" "" o.1 = eA by rw [c1]; rfl]
    refine ⟨13, 4, 15, ⟨[], _, _, rfl, (fun z hz => absurd hz List.not_mem_nil), by decide, by decide, ⟨_, (amM4 4 rfl (by decide +kernel)), (amM4 12 rfl (by decide +kernel))⟩, rfl⟩, (Or.inr ⟨(by decide +kernel), rfl⟩), by decide, ?_⟩
    refine z_iconst (pc' := 16) (n := 1) (by decide +kernel) rfl ?_
    exact z_ireturn (by decide +kernel) ⟨_, rfl, rfl⟩ ⟨by rw [c1]; rfl, hI, wF fr, fun g => absurd g c0⟩
  exact absurd bd (by omega)
theorem bd_planBegin {σ : St} {t : Int} : (o_planBegin σ t).1 ≤ 2 := by
  unfold o_planBegin
  repeat (first | exact Nat.le_of_ble_eq_true rfl | refine cIf_le ?_ ?_ | refine pIf_le (by decide) fun p => ?_)
theorem w_L_planBegin {G : Gx} {Z : Zm} {σ : St} {t : Int} (h : IC Z σ) (ho : okS σ) (hz : zSz Z < 990000) (hou : zA Z 320 110 1) (ht : R32 t) : ZM G 30 m_L_planBegin [.ref 0, iv t, .ref 320] Z (wC Z wPI (o_planBegin σ t)) := by
  refine ZM.of [some (.ref 0), some (iv t), some (.ref 320), none] rfl ?_
  refine z_aload_n (pc' := 1) (j := 2) (by decide +kernel) rfl rfl ?_
  refine z_iconst (pc' := 2) (n := 0) (by decide +kernel) rfl ?_
  refine z_aload_n (pc' := 3) (j := 0) (by decide +kernel) rfl rfl ?_
  refine z_iload_n (pc' := 4) (j := 1) (by decide +kernel) rfl rfl ?_
  have bd := bd_planBegin (σ := σ) (t := t)
  refine z_callVH (pc' := 7) (idx := 103) (mj := m_X11_planBegin) (av := [iv t]) (n := 1) (ci := 11) (b := 0) (d' := 12) (by decide +kernel) k_X11_planBegin (amM6 110 rfl (by decide +kernel)) rfl (by decide) (am_le rfl) rfl (am_le rfl) h.1.o.1 h.1.o.2 rfl (ZM.mono (c_planBegin (h := h) (ho := ho) (hz := by omega) (ht := ht)) fun r W hw => ?_)
  obtain ⟨e, hI, fr⟩ := hw
  generalize (o_planBegin σ t) = o at e hI bd ⊢
  subst e
  by_cases c0 : o.1 = 0
  · rw [rO, if_pos c0]
    change ZP G 30 m_L_planBegin 7 [some (.ref 0), some (iv t), some (.ref 320), none] [iv o.2.1, iv 0, .ref 320] W _
    refine z_i2lr (pc' := 8) (by decide +kernel) rfl ?_
    refine z_lastore (pc' := 9) (by decide +kernel) (hou.ext fr.1) ⟨by decide, by decide, by decide⟩ rfl ?_
    refine z_goto (tgt := 18) (off := 9) (by decide +kernel) (by decide) ?_
    refine z_iconst (pc' := 19) (n := 0) (by decide +kernel) rfl ?_
    refine z_ireturn (by decide +kernel) ⟨_, rfl, rfl⟩ ?_
    exact ⟨by rw [c0]; rfl, (wL hI fr _).1, (wL hI fr _).2, fun _ => zSL_at W _⟩
  by_cases c1 : o.1 = 1
  · rw [rO, if_neg c0, show E3 eT eN "" o.1 = eT by rw [c1]; rfl]
    refine ⟨12, 3, 13, ⟨[], _, _, rfl, (fun z hz => absurd hz List.not_mem_nil), by decide, by decide, ⟨_, (amM4 5 rfl (by decide +kernel)), (amM4 84 rfl (by decide +kernel))⟩, rfl⟩, (Or.inl ⟨3, (by decide +kernel), rfl, rfl⟩), by decide, ?_⟩
    refine z_iconst (pc' := 14) (n := 1) (by decide +kernel) rfl ?_
    exact z_ireturn (by decide +kernel) ⟨_, rfl, rfl⟩ ⟨by rw [c1]; rfl, hI, wF fr, fun g => absurd g c0⟩
  by_cases c2 : o.1 = 2
  · rw [rO, if_neg c0, show E3 eT eN "" o.1 = eN by rw [c2]; rfl]
    refine ⟨15, 3, 16, ⟨[_], _, _, rfl, (fun z hz => by
      obtain rfl := List.mem_singleton.mp hz
      exact ⟨by decide, _, (amM4 5 rfl (by decide +kernel)), by decide +kernel⟩), by decide, by decide, ⟨_, (amM4 102 rfl (by decide +kernel)), (amM4 113 rfl (by decide +kernel))⟩, rfl⟩, (Or.inl ⟨3, (by decide +kernel), rfl, rfl⟩), by decide, ?_⟩
    refine z_iconst (pc' := 17) (n := 2) (by decide +kernel) rfl ?_
    exact z_ireturn (by decide +kernel) ⟨_, rfl, rfl⟩ ⟨by rw [c2]; rfl, hI, wF fr, fun g => absurd g c0⟩
  exact absurd bd (by omega)
theorem bd_planHand {σ : St} {t : Int} : (o_planHand σ t).1 ≤ 2 := by
  unfold o_planHand
  repeat (first | exact Nat.le_of_ble_eq_true rfl | refine cIf_le ?_ ?_ | refine pIf_le (by decide) fun p => ?_)
theorem w_L_planHand {G : Gx} {Z : Zm} {σ : St} {t : Int} (h : IC Z σ) (ho : okS σ) (hz : zSz Z < 990000) (hou : zA Z 320 110 1) (ht : R32 t) : ZM G 30 m_L_planHand [.ref 0, iv t, .ref 320] Z (wC Z wPI (o_planHand σ t)) := by
  refine ZM.of [some (.ref 0), some (iv t), some (.ref 320), none] rfl ?_
  refine z_aload_n (pc' := 1) (j := 2) (by decide +kernel) rfl rfl ?_
  refine z_iconst (pc' := 2) (n := 0) (by decide +kernel) rfl ?_
  refine z_aload_n (pc' := 3) (j := 0) (by decide +kernel) rfl rfl ?_
  refine z_iload_n (pc' := 4) (j := 1) (by decide +kernel) rfl rfl ?_
  have bd := bd_planHand (σ := σ) (t := t)
  refine z_callVH (pc' := 7) (idx := 106) (mj := m_X11_planHand) (av := [iv t]) (n := 1) (ci := 11) (b := 0) (d' := 12) (by decide +kernel) k_X11_planHand (amM6 122 rfl (by decide +kernel)) rfl (by decide) (am_le rfl) rfl (am_le rfl) h.1.o.1 h.1.o.2 rfl (ZM.mono (c_planHand (h := h) (ho := ho) (hz := by omega) (ht := ht)) fun r W hw => ?_)
  obtain ⟨e, hI, fr⟩ := hw
  generalize (o_planHand σ t) = o at e hI bd ⊢
  subst e
  by_cases c0 : o.1 = 0
  · rw [rO, if_pos c0]
    change ZP G 30 m_L_planHand 7 [some (.ref 0), some (iv t), some (.ref 320), none] [iv o.2.1, iv 0, .ref 320] W _
    refine z_i2lr (pc' := 8) (by decide +kernel) rfl ?_
    refine z_lastore (pc' := 9) (by decide +kernel) (hou.ext fr.1) ⟨by decide, by decide, by decide⟩ rfl ?_
    refine z_goto (tgt := 18) (off := 9) (by decide +kernel) (by decide) ?_
    refine z_iconst (pc' := 19) (n := 0) (by decide +kernel) rfl ?_
    refine z_ireturn (by decide +kernel) ⟨_, rfl, rfl⟩ ?_
    exact ⟨by rw [c0]; rfl, (wL hI fr _).1, (wL hI fr _).2, fun _ => zSL_at W _⟩
  by_cases c1 : o.1 = 1
  · rw [rO, if_neg c0, show E3 eT eN "" o.1 = eT by rw [c1]; rfl]
    refine ⟨12, 3, 13, ⟨[], _, _, rfl, (fun z hz => absurd hz List.not_mem_nil), by decide, by decide, ⟨_, (amM4 5 rfl (by decide +kernel)), (amM4 84 rfl (by decide +kernel))⟩, rfl⟩, (Or.inl ⟨3, (by decide +kernel), rfl, rfl⟩), by decide, ?_⟩
    refine z_iconst (pc' := 14) (n := 1) (by decide +kernel) rfl ?_
    exact z_ireturn (by decide +kernel) ⟨_, rfl, rfl⟩ ⟨by rw [c1]; rfl, hI, wF fr, fun g => absurd g c0⟩
  by_cases c2 : o.1 = 2
  · rw [rO, if_neg c0, show E3 eT eN "" o.1 = eN by rw [c2]; rfl]
    refine ⟨15, 3, 16, ⟨[_], _, _, rfl, (fun z hz => by
      obtain rfl := List.mem_singleton.mp hz
      exact ⟨by decide, _, (amM4 5 rfl (by decide +kernel)), by decide +kernel⟩), by decide, by decide, ⟨_, (amM4 102 rfl (by decide +kernel)), (amM4 113 rfl (by decide +kernel))⟩, rfl⟩, (Or.inl ⟨3, (by decide +kernel), rfl, rfl⟩), by decide, ?_⟩
    refine z_iconst (pc' := 17) (n := 2) (by decide +kernel) rfl ?_
    exact z_ireturn (by decide +kernel) ⟨_, rfl, rfl⟩ ⟨by rw [c2]; rfl, hI, wF fr, fun g => absurd g c0⟩
  exact absurd bd (by omega)
theorem bd_planEnd {σ : St}  : (o_planEnd σ).1 ≤ 1 := by
  unfold o_planEnd
  repeat (first | exact Nat.le_of_ble_eq_true rfl | refine cIf_le ?_ ?_ | refine pIf_le (by decide) fun p => ?_)
theorem w_L_planEnd {G : Gx} {Z : Zm} {σ : St}  (h : IC Z σ) (ho : okS σ) (hz : zSz Z < 990000) (hou : zA Z 320 110 1)  : ZM G 30 m_L_planEnd [.ref 0, .ref 320] Z (wC Z wPI (o_planEnd σ)) := by
  refine ZM.of [some (.ref 0), some (.ref 320), none] rfl ?_
  refine z_aload_n (pc' := 1) (j := 1) (by decide +kernel) rfl rfl ?_
  refine z_iconst (pc' := 2) (n := 0) (by decide +kernel) rfl ?_
  refine z_aload_n (pc' := 3) (j := 0) (by decide +kernel) rfl rfl ?_
  have bd := bd_planEnd (σ := σ)
  refine z_callVH (pc' := 6) (idx := 109) (mj := m_X11_planEnd) (av := []) (n := 0) (ci := 11) (b := 0) (d' := 12) (by decide +kernel) k_X11_planEnd (amM6 129 rfl (by decide +kernel)) rfl (by decide) (am_le rfl) rfl (am_le rfl) h.1.o.1 h.1.o.2 rfl (ZM.mono (c_planEnd (h := h) (hz := by omega)) fun r W hw => ?_)
  obtain ⟨e, hI, fr⟩ := hw
  generalize (o_planEnd σ) = o at e hI bd ⊢
  subst e
  by_cases c0 : o.1 = 0
  · rw [rO, if_pos c0]
    change ZP G 30 m_L_planEnd 6 [some (.ref 0), some (.ref 320), none] [iv o.2.1, iv 0, .ref 320] W _
    refine z_i2lr (pc' := 7) (by decide +kernel) rfl ?_
    refine z_lastore (pc' := 8) (by decide +kernel) (hou.ext fr.1) ⟨by decide, by decide, by decide⟩ rfl ?_
    refine z_goto (tgt := 14) (off := 6) (by decide +kernel) (by decide) ?_
    refine z_iconst (pc' := 15) (n := 0) (by decide +kernel) rfl ?_
    refine z_ireturn (by decide +kernel) ⟨_, rfl, rfl⟩ ?_
    exact ⟨by rw [c0]; rfl, (wL hI fr _).1, (wL hI fr _).2, fun _ => zSL_at W _⟩
  by_cases c1 : o.1 = 1
  · rw [rO, if_neg c0, show E3 eT "" "" o.1 = eT by rw [c1]; rfl]
    refine ⟨11, 2, 12, ⟨[], _, _, rfl, (fun z hz => absurd hz List.not_mem_nil), by decide, by decide, ⟨_, (amM4 5 rfl (by decide +kernel)), (amM4 84 rfl (by decide +kernel))⟩, rfl⟩, (Or.inl ⟨2, (by decide +kernel), rfl, rfl⟩), by decide, ?_⟩
    refine z_iconst (pc' := 13) (n := 1) (by decide +kernel) rfl ?_
    exact z_ireturn (by decide +kernel) ⟨_, rfl, rfl⟩ ⟨by rw [c1]; rfl, hI, wF fr, fun g => absurd g c0⟩
  exact absurd bd (by omega)
theorem bd_busy {σ : St} {x y : Int} : (o_busy σ x y).1 ≤ 2 := by
  unfold o_busy
  repeat (first | exact Nat.le_of_ble_eq_true rfl | refine cIf_le ?_ ?_ | refine pIf_le (by decide) fun p => ?_)
theorem w_L_busy {G : Gx} {Z : Zm} {σ : St} {x y : Int} (h : IC Z σ) (ho : okS σ) (hz : zSz Z < 990000) (hou : zA Z 320 110 1) (hx : R32 x) (hy : R32 y) : ZM G 30 m_L_busy [.ref 0, iv x, iv y, .ref 320] Z (wC Z wPI (o_busy σ x y)) := by
  refine ZM.of [some (.ref 0), some (iv x), some (iv y), some (.ref 320), none] rfl ?_
  refine z_aload_n (pc' := 1) (j := 3) (by decide +kernel) rfl rfl ?_
  refine z_iconst (pc' := 2) (n := 0) (by decide +kernel) rfl ?_
  refine z_aload_n (pc' := 3) (j := 0) (by decide +kernel) rfl rfl ?_
  refine z_iload_n (pc' := 4) (j := 1) (by decide +kernel) rfl rfl ?_
  refine z_iload_n (pc' := 5) (j := 2) (by decide +kernel) rfl rfl ?_
  have bd := bd_busy (σ := σ) (x := x) (y := y)
  refine z_callVH (pc' := 8) (idx := 112) (mj := m_X11_busy) (av := [iv x, iv y]) (n := 2) (ci := 11) (b := 0) (d' := 12) (by decide +kernel) k_X11_busy (amM6 136 rfl (by decide +kernel)) rfl (by decide) (am_le rfl) rfl (am_le rfl) h.1.o.1 h.1.o.2 rfl (ZM.mono (c_busy (h := h) (ho := ho) (hz := by omega) (hx := hx) (hy := hy)) fun r W hw => ?_)
  obtain ⟨e, hI, fr⟩ := hw
  generalize (o_busy σ x y) = o at e hI bd ⊢
  subst e
  by_cases c0 : o.1 = 0
  · rw [rO, if_pos c0]
    change ZP G 30 m_L_busy 8 [some (.ref 0), some (iv x), some (iv y), some (.ref 320), none] [iv o.2.1, iv 0, .ref 320] W _
    refine z_i2lr (pc' := 9) (by decide +kernel) rfl ?_
    refine z_lastore (pc' := 10) (by decide +kernel) (hou.ext fr.1) ⟨by decide, by decide, by decide⟩ rfl ?_
    refine z_goto (tgt := 21) (off := 11) (by decide +kernel) (by decide) ?_
    refine z_iconst (pc' := 22) (n := 0) (by decide +kernel) rfl ?_
    refine z_ireturn (by decide +kernel) ⟨_, rfl, rfl⟩ ?_
    exact ⟨by rw [c0]; rfl, (wL hI fr _).1, (wL hI fr _).2, fun _ => zSL_at W _⟩
  by_cases c1 : o.1 = 1
  · rw [rO, if_neg c0, show E3 eT eA "" o.1 = eT by rw [c1]; rfl]
    refine ⟨13, 4, 15, ⟨[], _, _, rfl, (fun z hz => absurd hz List.not_mem_nil), by decide, by decide, ⟨_, (amM4 5 rfl (by decide +kernel)), (amM4 84 rfl (by decide +kernel))⟩, rfl⟩, (Or.inr ⟨(by decide +kernel), rfl⟩), by decide, ?_⟩
    refine z_iconst (pc' := 16) (n := 1) (by decide +kernel) rfl ?_
    exact z_ireturn (by decide +kernel) ⟨_, rfl, rfl⟩ ⟨by rw [c1]; rfl, hI, wF fr, fun g => absurd g c0⟩
  by_cases c2 : o.1 = 2
  · rw [rO, if_neg c0, show E3 eT eA "" o.1 = eA by rw [c2]; rfl]
    refine ⟨17, 4, 19, ⟨[_], _, _, rfl, (fun z hz => by
      obtain rfl := List.mem_singleton.mp hz
      exact ⟨by decide, _, (amM4 5 rfl (by decide +kernel)), by decide +kernel⟩), by decide, by decide, ⟨_, (amM4 4 rfl (by decide +kernel)), (amM4 12 rfl (by decide +kernel))⟩, rfl⟩, (Or.inr ⟨(by decide +kernel), rfl⟩), by decide, ?_⟩
    refine z_iconst (pc' := 20) (n := 2) (by decide +kernel) rfl ?_
    exact z_ireturn (by decide +kernel) ⟨_, rfl, rfl⟩ ⟨by rw [c2]; rfl, hI, wF fr, fun g => absurd g c0⟩
  exact absurd bd (by omega)
theorem bd_proofLength {σ : St}  : (o_proofLength σ).1 ≤ 1 := by
  unfold o_proofLength
  repeat (first | exact Nat.le_of_ble_eq_true rfl | refine cIf_le ?_ ?_ | refine pIf_le (by decide) fun p => ?_)
theorem w_L_proofLength {G : Gx} {Z : Zm} {σ : St}  (h : IC Z σ) (ho : okS σ) (hz : zSz Z < 990000) (hou : zA Z 320 110 1)  : ZM G 30 m_L_proofLength [.ref 0, .ref 320] Z (wC Z wPI (o_proofLength σ)) := by
  refine ZM.of [some (.ref 0), some (.ref 320), none] rfl ?_
  refine z_aload_n (pc' := 1) (j := 1) (by decide +kernel) rfl rfl ?_
  refine z_iconst (pc' := 2) (n := 0) (by decide +kernel) rfl ?_
  refine z_aload_n (pc' := 3) (j := 0) (by decide +kernel) rfl rfl ?_
  have bd := bd_proofLength (σ := σ)
  refine z_callVH (pc' := 6) (idx := 115) (mj := m_X11_proofLength) (av := []) (n := 0) (ci := 11) (b := 0) (d' := 12) (by decide +kernel) k_X11_proofLength (amM6 145 rfl (by decide +kernel)) rfl (by decide) (am_le rfl) rfl (am_le rfl) h.1.o.1 h.1.o.2 rfl (ZM.mono (c_proofLength (h := h) (ho := ho) (hz := by omega)) fun r W hw => ?_)
  obtain ⟨e, hI, fr⟩ := hw
  generalize (o_proofLength σ) = o at e hI bd ⊢
  subst e
  by_cases c0 : o.1 = 0
  · rw [rO, if_pos c0]
    change ZP G 30 m_L_proofLength 6 [some (.ref 0), some (.ref 320), none] [iv o.2.1, iv 0, .ref 320] W _
    refine z_i2lr (pc' := 7) (by decide +kernel) rfl ?_
    refine z_lastore (pc' := 8) (by decide +kernel) (hou.ext fr.1) ⟨by decide, by decide, by decide⟩ rfl ?_
    refine z_goto (tgt := 14) (off := 6) (by decide +kernel) (by decide) ?_
    refine z_iconst (pc' := 15) (n := 0) (by decide +kernel) rfl ?_
    refine z_ireturn (by decide +kernel) ⟨_, rfl, rfl⟩ ?_
    exact ⟨by rw [c0]; rfl, (wL hI fr _).1, (wL hI fr _).2, fun _ => zSL_at W _⟩
  by_cases c1 : o.1 = 1
  · rw [rO, if_neg c0, show E3 eT "" "" o.1 = eT by rw [c1]; rfl]
    refine ⟨11, 2, 12, ⟨[], _, _, rfl, (fun z hz => absurd hz List.not_mem_nil), by decide, by decide, ⟨_, (amM4 5 rfl (by decide +kernel)), (amM4 84 rfl (by decide +kernel))⟩, rfl⟩, (Or.inl ⟨2, (by decide +kernel), rfl, rfl⟩), by decide, ?_⟩
    refine z_iconst (pc' := 13) (n := 1) (by decide +kernel) rfl ?_
    exact z_ireturn (by decide +kernel) ⟨_, rfl, rfl⟩ ⟨by rw [c1]; rfl, hI, wF fr, fun g => absurd g c0⟩
  exact absurd bd (by omega)
theorem bd_proofAt {σ : St} {x : Int} : (o_proofAt σ x).1 ≤ 2 := by
  unfold o_proofAt
  repeat (first | exact Nat.le_of_ble_eq_true rfl | refine cIf_le ?_ ?_ | refine pIf_le (by decide) fun p => ?_)
theorem w_L_proofAt {G : Gx} {Z : Zm} {σ : St} {x : Int} (h : IC Z σ) (ho : okS σ) (hz : zSz Z < 990000) (hou : zA Z 320 110 1) (hx : R32 x) : ZM G 30 m_L_proofAt [.ref 0, iv x, .ref 320] Z (wC Z wPI (o_proofAt σ x)) := by
  refine ZM.of [some (.ref 0), some (iv x), some (.ref 320), none] rfl ?_
  refine z_aload_n (pc' := 1) (j := 2) (by decide +kernel) rfl rfl ?_
  refine z_iconst (pc' := 2) (n := 0) (by decide +kernel) rfl ?_
  refine z_aload_n (pc' := 3) (j := 0) (by decide +kernel) rfl rfl ?_
  refine z_iload_n (pc' := 4) (j := 1) (by decide +kernel) rfl rfl ?_
  have bd := bd_proofAt (σ := σ) (x := x)
  refine z_callVH (pc' := 7) (idx := 118) (mj := m_X11_proofAt) (av := [iv x]) (n := 1) (ci := 11) (b := 0) (d' := 12) (by decide +kernel) k_X11_proofAt (amM6 152 rfl (by decide +kernel)) rfl (by decide) (am_le rfl) rfl (am_le rfl) h.1.o.1 h.1.o.2 rfl (ZM.mono (c_proofAt (h := h) (ho := ho) (hz := by omega) (hx := hx)) fun r W hw => ?_)
  obtain ⟨e, hI, fr⟩ := hw
  generalize (o_proofAt σ x) = o at e hI bd ⊢
  subst e
  by_cases c0 : o.1 = 0
  · rw [rO, if_pos c0]
    change ZP G 30 m_L_proofAt 7 [some (.ref 0), some (iv x), some (.ref 320), none] [iv o.2.1, iv 0, .ref 320] W _
    refine z_i2lr (pc' := 8) (by decide +kernel) rfl ?_
    refine z_lastore (pc' := 9) (by decide +kernel) (hou.ext fr.1) ⟨by decide, by decide, by decide⟩ rfl ?_
    refine z_goto (tgt := 18) (off := 9) (by decide +kernel) (by decide) ?_
    refine z_iconst (pc' := 19) (n := 0) (by decide +kernel) rfl ?_
    refine z_ireturn (by decide +kernel) ⟨_, rfl, rfl⟩ ?_
    exact ⟨by rw [c0]; rfl, (wL hI fr _).1, (wL hI fr _).2, fun _ => zSL_at W _⟩
  by_cases c1 : o.1 = 1
  · rw [rO, if_neg c0, show E3 eT eI "" o.1 = eT by rw [c1]; rfl]
    refine ⟨12, 3, 13, ⟨[], _, _, rfl, (fun z hz => absurd hz List.not_mem_nil), by decide, by decide, ⟨_, (amM4 5 rfl (by decide +kernel)), (amM4 84 rfl (by decide +kernel))⟩, rfl⟩, (Or.inl ⟨3, (by decide +kernel), rfl, rfl⟩), by decide, ?_⟩
    refine z_iconst (pc' := 14) (n := 1) (by decide +kernel) rfl ?_
    exact z_ireturn (by decide +kernel) ⟨_, rfl, rfl⟩ ⟨by rw [c1]; rfl, hI, wF fr, fun g => absurd g c0⟩
  by_cases c2 : o.1 = 2
  · rw [rO, if_neg c0, show E3 eT eI "" o.1 = eI by rw [c2]; rfl]
    refine ⟨15, 3, 16, ⟨[_], _, _, rfl, (fun z hz => by
      obtain rfl := List.mem_singleton.mp hz
      exact ⟨by decide, _, (amM4 5 rfl (by decide +kernel)), by decide +kernel⟩), by decide, by decide, ⟨_, (amM5 69 rfl (by decide +kernel)), (amM5 99 rfl (by decide +kernel))⟩, rfl⟩, (Or.inl ⟨3, (by decide +kernel), rfl, rfl⟩), by decide, ?_⟩
    refine z_iconst (pc' := 17) (n := 2) (by decide +kernel) rfl ?_
    exact z_ireturn (by decide +kernel) ⟨_, rfl, rfl⟩ ⟨by rw [c2]; rfl, hI, wF fr, fun g => absurd g c0⟩
  exact absurd bd (by omega)
theorem bd_isProved {σ : St}  : (o_isProved σ).1 ≤ 1 := by
  unfold o_isProved
  repeat (first | exact Nat.le_of_ble_eq_true rfl | refine cIf_le ?_ ?_ | refine pIf_le (by decide) fun p => ?_)
theorem w_L_isProved {G : Gx} {Z : Zm} {σ : St}  (h : IC Z σ) (ho : okS σ) (hz : zSz Z < 990000) (hou : zA Z 320 110 1)  : ZM G 30 m_L_isProved [.ref 0, .ref 320] Z (wC Z wPB (o_isProved σ)) := by
  refine ZM.of [some (.ref 0), some (.ref 320), none] rfl ?_
  refine z_aload_n (pc' := 1) (j := 1) (by decide +kernel) rfl rfl ?_
  refine z_iconst (pc' := 2) (n := 0) (by decide +kernel) rfl ?_
  refine z_aload_n (pc' := 3) (j := 0) (by decide +kernel) rfl rfl ?_
  have bd := bd_isProved (σ := σ)
  refine z_callVH (pc' := 6) (idx := 121) (mj := m_X11_isProved) (av := []) (n := 0) (ci := 11) (b := 0) (d' := 12) (by decide +kernel) k_X11_isProved (amM6 159 rfl (by decide +kernel)) rfl (by decide) (am_le rfl) rfl (am_le rfl) h.1.o.1 h.1.o.2 rfl (ZM.mono (c_isProved (h := h) (ho := ho) (hz := by omega)) fun r W hw => ?_)
  obtain ⟨e, hI, fr⟩ := hw
  generalize (o_isProved σ) = o at e hI bd ⊢
  subst e
  by_cases c0 : o.1 = 0
  · rw [rO, if_pos c0]
    change ZP G 30 m_L_isProved 6 [some (.ref 0), some (.ref 320), none] [iv o.2.1, iv 0, .ref 320] W _
    refine z_zr (pc' := 9) (tgt := 13) (off := 7) (by decide +kernel) (by decide) rfl ?_
    by_cases cz : rI o.2.1 = 0
    · rw [if_pos cz]
      refine z_lconst (pc' := 14) (n := 0) (v := 0) (by decide +kernel) rfl rfl ?_
      refine z_lastore (pc' := 15) (by decide +kernel) (hou.ext fr.1) ⟨by decide, by decide, by decide⟩ rfl ?_
      refine z_goto (tgt := 21) (off := 6) (by decide +kernel) (by decide) ?_
      refine z_iconst (pc' := 22) (n := 0) (by decide +kernel) rfl ?_
      refine z_ireturn (by decide +kernel) ⟨_, rfl, rfl⟩ ?_
      exact ⟨by rw [c0]; rfl, (wL hI fr _).1, (wL hI fr _).2, fun _ => (zSL_at W 0).trans (if_pos cz).symm⟩
    · rw [if_neg cz]
      refine z_lconst (pc' := 10) (n := 1) (v := 1) (by decide +kernel) rfl rfl ?_
      refine z_goto (tgt := 14) (off := 4) (by decide +kernel) (by decide) ?_
      refine z_lastore (pc' := 15) (by decide +kernel) (hou.ext fr.1) ⟨by decide, by decide, by decide⟩ rfl ?_
      refine z_goto (tgt := 21) (off := 6) (by decide +kernel) (by decide) ?_
      refine z_iconst (pc' := 22) (n := 0) (by decide +kernel) rfl ?_
      refine z_ireturn (by decide +kernel) ⟨_, rfl, rfl⟩ ?_
      exact ⟨by rw [c0]; rfl, (wL hI fr _).1, (wL hI fr _).2, fun _ => (zSL_at W 1).trans (if_neg cz).symm⟩
  by_cases c1 : o.1 = 1
  · rw [rO, if_neg c0, show E3 eT "" "" o.1 = eT by rw [c1]; rfl]
    refine ⟨18, 2, 19, ⟨[], _, _, rfl, (fun z hz => absurd hz List.not_mem_nil), by decide, by decide, ⟨_, (amM4 5 rfl (by decide +kernel)), (amM4 84 rfl (by decide +kernel))⟩, rfl⟩, (Or.inl ⟨2, (by decide +kernel), rfl, rfl⟩), by decide, ?_⟩
    refine z_iconst (pc' := 20) (n := 1) (by decide +kernel) rfl ?_
    exact z_ireturn (by decide +kernel) ⟨_, rfl, rfl⟩ ⟨by rw [c1]; rfl, hI, wF fr, fun g => absurd g c0⟩
  exact absurd bd (by omega)
theorem bd_best {σ : St} {x : Int} : (o_best σ x).1 ≤ 2 := by
  unfold o_best
  repeat (first | exact Nat.le_of_ble_eq_true rfl | refine cIf_le ?_ ?_ | refine pIf_le (by decide) fun p => ?_)
theorem w_L_best {G : Gx} {Z : Zm} {σ : St} {x : Int} (h : IC Z σ) (ho : okS σ) (hz : zSz Z < 990000) (hou : zA Z 320 110 1) (hx : R32 x) : ZM G 30 m_L_best [.ref 0, iv x, .ref 320] Z (wC Z wPI (o_best σ x)) := by
  refine ZM.of [some (.ref 0), some (iv x), some (.ref 320), none] rfl ?_
  refine z_aload_n (pc' := 1) (j := 2) (by decide +kernel) rfl rfl ?_
  refine z_iconst (pc' := 2) (n := 0) (by decide +kernel) rfl ?_
  refine z_aload_n (pc' := 3) (j := 0) (by decide +kernel) rfl rfl ?_
  refine z_iload_n (pc' := 4) (j := 1) (by decide +kernel) rfl rfl ?_
  have bd := bd_best (σ := σ) (x := x)
  refine z_callVH (pc' := 7) (idx := 125) (mj := m_X11_best) (av := [iv x]) (n := 1) (ci := 11) (b := 0) (d' := 12) (by decide +kernel) k_X11_best (amM6 166 rfl (by decide +kernel)) rfl (by decide) (am_le rfl) rfl (am_le rfl) h.1.o.1 h.1.o.2 rfl (ZM.mono (c_best (h := h) (ho := ho) (hz := by omega) (hx := hx)) fun r W hw => ?_)
  obtain ⟨e, hI, fr⟩ := hw
  generalize (o_best σ x) = o at e hI bd ⊢
  subst e
  by_cases c0 : o.1 = 0
  · rw [rO, if_pos c0]
    change ZP G 30 m_L_best 7 [some (.ref 0), some (iv x), some (.ref 320), none] [iv o.2.1, iv 0, .ref 320] W _
    refine z_i2lr (pc' := 8) (by decide +kernel) rfl ?_
    refine z_lastore (pc' := 9) (by decide +kernel) (hou.ext fr.1) ⟨by decide, by decide, by decide⟩ rfl ?_
    refine z_goto (tgt := 18) (off := 9) (by decide +kernel) (by decide) ?_
    refine z_iconst (pc' := 19) (n := 0) (by decide +kernel) rfl ?_
    refine z_ireturn (by decide +kernel) ⟨_, rfl, rfl⟩ ?_
    exact ⟨by rw [c0]; rfl, (wL hI fr _).1, (wL hI fr _).2, fun _ => zSL_at W _⟩
  by_cases c1 : o.1 = 1
  · rw [rO, if_neg c0, show E3 eA eU "" o.1 = eA by rw [c1]; rfl]
    refine ⟨12, 3, 13, ⟨[], _, _, rfl, (fun z hz => absurd hz List.not_mem_nil), by decide, by decide, ⟨_, (amM4 4 rfl (by decide +kernel)), (amM4 12 rfl (by decide +kernel))⟩, rfl⟩, (Or.inl ⟨3, (by decide +kernel), rfl, rfl⟩), by decide, ?_⟩
    refine z_iconst (pc' := 14) (n := 1) (by decide +kernel) rfl ?_
    exact z_ireturn (by decide +kernel) ⟨_, rfl, rfl⟩ ⟨by rw [c1]; rfl, hI, wF fr, fun g => absurd g c0⟩
  by_cases c2 : o.1 = 2
  · rw [rO, if_neg c0, show E3 eA eU "" o.1 = eU by rw [c2]; rfl]
    refine ⟨15, 3, 16, ⟨[_], _, _, rfl, (fun z hz => by
      obtain rfl := List.mem_singleton.mp hz
      exact ⟨by decide, _, (amM4 4 rfl (by decide +kernel)), by decide +kernel⟩), by decide, by decide, ⟨_, (amM5 161 rfl (by decide +kernel)), (amM5 178 rfl (by decide +kernel))⟩, rfl⟩, (Or.inl ⟨3, (by decide +kernel), rfl, rfl⟩), by decide, ?_⟩
    refine z_iconst (pc' := 17) (n := 2) (by decide +kernel) rfl ?_
    exact z_ireturn (by decide +kernel) ⟨_, rfl, rfl⟩ ⟨by rw [c2]; rfl, hI, wF fr, fun g => absurd g c0⟩
  exact absurd bd (by omega)
theorem bd_bestByLists {σ : St} {x : Int} : (o_bestByLists σ x).1 ≤ 2 := by
  unfold o_bestByLists
  repeat (first | exact Nat.le_of_ble_eq_true rfl | refine cIf_le ?_ ?_ | refine pIf_le (by decide) fun p => ?_)
theorem w_L_bestByLists {G : Gx} {Z : Zm} {σ : St} {x : Int} (h : IC Z σ) (ho : okS σ) (hz : zSz Z < 990000) (hou : zA Z 320 110 1) (hx : R32 x) : ZM G 30 m_L_bestByLists [.ref 0, iv x, .ref 320] Z (wC Z wPI (o_bestByLists σ x)) := by
  refine ZM.of [some (.ref 0), some (iv x), some (.ref 320), none] rfl ?_
  refine z_aload_n (pc' := 1) (j := 2) (by decide +kernel) rfl rfl ?_
  refine z_iconst (pc' := 2) (n := 0) (by decide +kernel) rfl ?_
  refine z_aload_n (pc' := 3) (j := 0) (by decide +kernel) rfl rfl ?_
  refine z_iload_n (pc' := 4) (j := 1) (by decide +kernel) rfl rfl ?_
  have bd := bd_bestByLists (σ := σ) (x := x)
  refine z_callVH (pc' := 7) (idx := 128) (mj := m_X11_bestByLists) (av := [iv x]) (n := 1) (ci := 11) (b := 0) (d' := 12) (by decide +kernel) k_X11_bestByLists (amM6 212 rfl (by decide +kernel)) rfl (by decide) (am_le rfl) rfl (am_le rfl) h.1.o.1 h.1.o.2 rfl (ZM.mono (c_bestByLists (h := h) (ho := ho) (hz := by omega) (hx := hx)) fun r W hw => ?_)
  obtain ⟨e, hI, fr⟩ := hw
  generalize (o_bestByLists σ x) = o at e hI bd ⊢
  subst e
  by_cases c0 : o.1 = 0
  · rw [rO, if_pos c0]
    change ZP G 30 m_L_bestByLists 7 [some (.ref 0), some (iv x), some (.ref 320), none] [iv o.2.1, iv 0, .ref 320] W _
    refine z_i2lr (pc' := 8) (by decide +kernel) rfl ?_
    refine z_lastore (pc' := 9) (by decide +kernel) (hou.ext fr.1) ⟨by decide, by decide, by decide⟩ rfl ?_
    refine z_goto (tgt := 18) (off := 9) (by decide +kernel) (by decide) ?_
    refine z_iconst (pc' := 19) (n := 0) (by decide +kernel) rfl ?_
    refine z_ireturn (by decide +kernel) ⟨_, rfl, rfl⟩ ?_
    exact ⟨by rw [c0]; rfl, (wL hI fr _).1, (wL hI fr _).2, fun _ => zSL_at W _⟩
  by_cases c1 : o.1 = 1
  · rw [rO, if_neg c0, show E3 eA eU "" o.1 = eA by rw [c1]; rfl]
    refine ⟨12, 3, 13, ⟨[], _, _, rfl, (fun z hz => absurd hz List.not_mem_nil), by decide, by decide, ⟨_, (amM4 4 rfl (by decide +kernel)), (amM4 12 rfl (by decide +kernel))⟩, rfl⟩, (Or.inl ⟨3, (by decide +kernel), rfl, rfl⟩), by decide, ?_⟩
    refine z_iconst (pc' := 14) (n := 1) (by decide +kernel) rfl ?_
    exact z_ireturn (by decide +kernel) ⟨_, rfl, rfl⟩ ⟨by rw [c1]; rfl, hI, wF fr, fun g => absurd g c0⟩
  by_cases c2 : o.1 = 2
  · rw [rO, if_neg c0, show E3 eA eU "" o.1 = eU by rw [c2]; rfl]
    refine ⟨15, 3, 16, ⟨[_], _, _, rfl, (fun z hz => by
      obtain rfl := List.mem_singleton.mp hz
      exact ⟨by decide, _, (amM4 4 rfl (by decide +kernel)), by decide +kernel⟩), by decide, by decide, ⟨_, (amM5 161 rfl (by decide +kernel)), (amM5 178 rfl (by decide +kernel))⟩, rfl⟩, (Or.inl ⟨3, (by decide +kernel), rfl, rfl⟩), by decide, ?_⟩
    refine z_iconst (pc' := 17) (n := 2) (by decide +kernel) rfl ?_
    exact z_ireturn (by decide +kernel) ⟨_, rfl, rfl⟩ ⟨by rw [c2]; rfl, hI, wF fr, fun g => absurd g c0⟩
  exact absurd bd (by omega)
theorem bd_anomaly {σ : St} {c y : Int} : (o_anomaly σ c y).1 ≤ 1 := by
  unfold o_anomaly
  repeat (first | exact Nat.le_of_ble_eq_true rfl | refine cIf_le ?_ ?_ | refine pIf_le (by decide) fun p => ?_)
theorem w_L_anomaly {G : Gx} {Z : Zm} {σ : St} {c y : Int} (h : IC Z σ) (ho : okS σ) (hz : zSz Z < 990000) (hou : zA Z 320 110 1) (hc : R32 c) (hy : R32 y) : ZM G 30 m_L_anomaly [.ref 0, iv c, iv y, .ref 320] Z (wC Z wPI (o_anomaly σ c y)) := by
  refine ZM.of [some (.ref 0), some (iv c), some (iv y), some (.ref 320), none] rfl ?_
  refine z_aload_n (pc' := 1) (j := 3) (by decide +kernel) rfl rfl ?_
  refine z_iconst (pc' := 2) (n := 0) (by decide +kernel) rfl ?_
  refine z_aload_n (pc' := 3) (j := 0) (by decide +kernel) rfl rfl ?_
  refine z_iload_n (pc' := 4) (j := 1) (by decide +kernel) rfl rfl ?_
  refine z_iload_n (pc' := 5) (j := 2) (by decide +kernel) rfl rfl ?_
  have bd := bd_anomaly (σ := σ) (c := c) (y := y)
  refine z_callVH (pc' := 8) (idx := 131) (mj := m_X11_anomaly) (av := [iv c, iv y]) (n := 2) (ci := 11) (b := 0) (d' := 12) (by decide +kernel) k_X11_anomaly (amM6 219 rfl (by decide +kernel)) rfl (by decide) (am_le rfl) rfl (am_le rfl) h.1.o.1 h.1.o.2 rfl (ZM.mono (c_anomaly (h := h) (ho := ho) (hz := by omega) (hc := hc) (hy := hy)) fun r W hw => ?_)
  obtain ⟨e, hI, fr⟩ := hw
  generalize (o_anomaly σ c y) = o at e hI bd ⊢
  subst e
  by_cases c0 : o.1 = 0
  · rw [rO, if_pos c0]
    change ZP G 30 m_L_anomaly 8 [some (.ref 0), some (iv c), some (iv y), some (.ref 320), none] [iv o.2.1, iv 0, .ref 320] W _
    refine z_i2lr (pc' := 9) (by decide +kernel) rfl ?_
    refine z_lastore (pc' := 10) (by decide +kernel) (hou.ext fr.1) ⟨by decide, by decide, by decide⟩ rfl ?_
    refine z_goto (tgt := 17) (off := 7) (by decide +kernel) (by decide) ?_
    refine z_iconst (pc' := 18) (n := 0) (by decide +kernel) rfl ?_
    refine z_ireturn (by decide +kernel) ⟨_, rfl, rfl⟩ ?_
    exact ⟨by rw [c0]; rfl, (wL hI fr _).1, (wL hI fr _).2, fun _ => zSL_at W _⟩
  by_cases c1 : o.1 = 1
  · rw [rO, if_neg c0, show E3 eA "" "" o.1 = eA by rw [c1]; rfl]
    refine ⟨13, 4, 15, ⟨[], _, _, rfl, (fun z hz => absurd hz List.not_mem_nil), by decide, by decide, ⟨_, (amM4 4 rfl (by decide +kernel)), (amM4 12 rfl (by decide +kernel))⟩, rfl⟩, (Or.inr ⟨(by decide +kernel), rfl⟩), by decide, ?_⟩
    refine z_iconst (pc' := 16) (n := 1) (by decide +kernel) rfl ?_
    exact z_ireturn (by decide +kernel) ⟨_, rfl, rfl⟩ ⟨by rw [c1]; rfl, hI, wF fr, fun g => absurd g c0⟩
  exact absurd bd (by omega)
theorem bd_leastPeak {σ : St}  : (o_leastPeak σ).1 ≤ 1 := by
  unfold o_leastPeak
  repeat (first | exact Nat.le_of_ble_eq_true rfl | refine cIf_le ?_ ?_ | refine pIf_le (by decide) fun p => ?_)
theorem w_L_leastPeak {G : Gx} {Z : Zm} {σ : St}  (h : IC Z σ) (ho : okS σ) (hz : zSz Z < 990000) (hou : zA Z 320 110 1)  : ZM G 30 m_L_leastPeak [.ref 0, .ref 320] Z (wC Z wPI (o_leastPeak σ)) := by
  refine ZM.of [some (.ref 0), some (.ref 320), none] rfl ?_
  refine z_aload_n (pc' := 1) (j := 1) (by decide +kernel) rfl rfl ?_
  refine z_iconst (pc' := 2) (n := 0) (by decide +kernel) rfl ?_
  refine z_aload_n (pc' := 3) (j := 0) (by decide +kernel) rfl rfl ?_
  have bd := bd_leastPeak (σ := σ)
  refine z_callVH (pc' := 6) (idx := 134) (mj := m_X11_leastPeak) (av := []) (n := 0) (ci := 11) (b := 0) (d' := 14) (by decide +kernel) k_X11_leastPeak (amM6 235 rfl (by decide +kernel)) rfl (by decide) (am_le rfl) rfl (am_le rfl) h.1.o.1 h.1.o.2 rfl (ZM.mono (c_leastPeak (h := h) (ho := ho) (hz := by omega)) fun r W hw => ?_)
  obtain ⟨e, hI, fr⟩ := hw
  generalize (o_leastPeak σ) = o at e hI bd ⊢
  subst e
  by_cases c0 : o.1 = 0
  · rw [rO, if_pos c0]
    change ZP G 30 m_L_leastPeak 6 [some (.ref 0), some (.ref 320), none] [iv o.2.1, iv 0, .ref 320] W _
    refine z_i2lr (pc' := 7) (by decide +kernel) rfl ?_
    refine z_lastore (pc' := 8) (by decide +kernel) (hou.ext fr.1) ⟨by decide, by decide, by decide⟩ rfl ?_
    refine z_goto (tgt := 14) (off := 6) (by decide +kernel) (by decide) ?_
    refine z_iconst (pc' := 15) (n := 0) (by decide +kernel) rfl ?_
    refine z_ireturn (by decide +kernel) ⟨_, rfl, rfl⟩ ?_
    exact ⟨by rw [c0]; rfl, (wL hI fr _).1, (wL hI fr _).2, fun _ => zSL_at W _⟩
  by_cases c1 : o.1 = 1
  · rw [rO, if_neg c0, show E3 eU "" "" o.1 = eU by rw [c1]; rfl]
    refine ⟨11, 2, 12, ⟨[], _, _, rfl, (fun z hz => absurd hz List.not_mem_nil), by decide, by decide, ⟨_, (amM5 161 rfl (by decide +kernel)), (amM5 178 rfl (by decide +kernel))⟩, rfl⟩, (Or.inl ⟨2, (by decide +kernel), rfl, rfl⟩), by decide, ?_⟩
    refine z_iconst (pc' := 13) (n := 1) (by decide +kernel) rfl ?_
    exact z_ireturn (by decide +kernel) ⟨_, rfl, rfl⟩ ⟨by rw [c1]; rfl, hI, wF fr, fun g => absurd g c0⟩
  exact absurd bd (by omega)
theorem bd_shorten {σ : St} {t x y : Int} : (o_shorten σ t x y).1 ≤ 2 := by
  unfold o_shorten
  repeat (first | exact Nat.le_of_ble_eq_true rfl | refine cIf_le ?_ ?_ | refine pIf_le (by decide) fun p => ?_)
theorem w_L_shorten {G : Gx} {Z : Zm} {σ : St} {t x y : Int} (h : IC Z σ) (ho : okS σ) (hz : zSz Z < 990000) (hou : zA Z 320 110 1) (ht : R32 t) (hx : R32 x) (hy : R32 y) : ZM G 30 m_L_shorten [.ref 0, iv t, iv x, iv y, .ref 320] Z (wC Z wPI (o_shorten σ t x y)) := by
  refine ZM.of [some (.ref 0), some (iv t), some (iv x), some (iv y), some (.ref 320), none] rfl ?_
  refine z_aload (pc' := 2) (j := 4) (by decide +kernel) rfl rfl ?_
  refine z_iconst (pc' := 3) (n := 0) (by decide +kernel) rfl ?_
  refine z_aload_n (pc' := 4) (j := 0) (by decide +kernel) rfl rfl ?_
  refine z_iload_n (pc' := 5) (j := 1) (by decide +kernel) rfl rfl ?_
  refine z_iload_n (pc' := 6) (j := 2) (by decide +kernel) rfl rfl ?_
  refine z_iload_n (pc' := 7) (j := 3) (by decide +kernel) rfl rfl ?_
  have bd := bd_shorten (σ := σ) (t := t) (x := x) (y := y)
  refine z_callVH (pc' := 10) (idx := 137) (mj := m_X11_shorten) (av := [iv t, iv x, iv y]) (n := 3) (ci := 11) (b := 0) (d' := 12) (by decide +kernel) k_X11_shorten (amM7 30 rfl (by decide +kernel)) rfl (by decide) (am_le rfl) rfl (am_le rfl) h.1.o.1 h.1.o.2 rfl (ZM.mono (c_shorten (h := h) (ho := ho) (hz := by omega) (ht := ht) (hx := hx) (hy := hy)) fun r W hw => ?_)
  obtain ⟨e, hI, fr⟩ := hw
  generalize (o_shorten σ t x y) = o at e hI bd ⊢
  subst e
  by_cases c0 : o.1 = 0
  · rw [rO, if_pos c0]
    change ZP G 30 m_L_shorten 10 [some (.ref 0), some (iv t), some (iv x), some (iv y), some (.ref 320), none] [iv o.2.1, iv 0, .ref 320] W _
    refine z_i2lr (pc' := 11) (by decide +kernel) rfl ?_
    refine z_lastore (pc' := 12) (by decide +kernel) (hou.ext fr.1) ⟨by decide, by decide, by decide⟩ rfl ?_
    refine z_goto (tgt := 23) (off := 11) (by decide +kernel) (by decide) ?_
    refine z_iconst (pc' := 24) (n := 0) (by decide +kernel) rfl ?_
    refine z_ireturn (by decide +kernel) ⟨_, rfl, rfl⟩ ?_
    exact ⟨by rw [c0]; rfl, (wL hI fr _).1, (wL hI fr _).2, fun _ => zSL_at W _⟩
  by_cases c1 : o.1 = 1
  · rw [rO, if_neg c0, show E3 eN eA "" o.1 = eN by rw [c1]; rfl]
    refine ⟨15, 5, 17, ⟨[], _, _, rfl, (fun z hz => absurd hz List.not_mem_nil), by decide, by decide, ⟨_, (amM4 102 rfl (by decide +kernel)), (amM4 113 rfl (by decide +kernel))⟩, rfl⟩, (Or.inr ⟨(by decide +kernel), rfl⟩), by decide, ?_⟩
    refine z_iconst (pc' := 18) (n := 1) (by decide +kernel) rfl ?_
    exact z_ireturn (by decide +kernel) ⟨_, rfl, rfl⟩ ⟨by rw [c1]; rfl, hI, wF fr, fun g => absurd g c0⟩
  by_cases c2 : o.1 = 2
  · rw [rO, if_neg c0, show E3 eN eA "" o.1 = eA by rw [c2]; rfl]
    refine ⟨19, 5, 21, ⟨[_], _, _, rfl, (fun z hz => by
      obtain rfl := List.mem_singleton.mp hz
      exact ⟨by decide, _, (amM4 102 rfl (by decide +kernel)), by decide +kernel⟩), by decide, by decide, ⟨_, (amM4 4 rfl (by decide +kernel)), (amM4 12 rfl (by decide +kernel))⟩, rfl⟩, (Or.inr ⟨(by decide +kernel), rfl⟩), by decide, ?_⟩
    refine z_iconst (pc' := 22) (n := 2) (by decide +kernel) rfl ?_
    exact z_ireturn (by decide +kernel) ⟨_, rfl, rfl⟩ ⟨by rw [c2]; rfl, hI, wF fr, fun g => absurd g c0⟩
  exact absurd bd (by omega)
theorem bd_leastCost {σ : St} {x : Int} : (o_leastCost σ x).1 ≤ 2 := by
  unfold o_leastCost
  repeat (first | exact Nat.le_of_ble_eq_true rfl | refine cIf_le ?_ ?_ | refine pIf_le (by decide) fun p => ?_)
theorem w_L_leastCost {G : Gx} {Z : Zm} {σ : St} {x : Int} (h : IC Z σ) (ho : okS σ) (hz : zSz Z < 990000) (hou : zA Z 320 110 1) (hx : R32 x) : ZM G 30 m_L_leastCost [.ref 0, iv x, .ref 320] Z (wC Z wPI (o_leastCost σ x)) := by
  refine ZM.of [some (.ref 0), some (iv x), some (.ref 320), none] rfl ?_
  refine z_aload_n (pc' := 1) (j := 2) (by decide +kernel) rfl rfl ?_
  refine z_iconst (pc' := 2) (n := 0) (by decide +kernel) rfl ?_
  refine z_aload_n (pc' := 3) (j := 0) (by decide +kernel) rfl rfl ?_
  refine z_iload_n (pc' := 4) (j := 1) (by decide +kernel) rfl rfl ?_
  have bd := bd_leastCost (σ := σ) (x := x)
  refine z_callVH (pc' := 7) (idx := 140) (mj := m_X11_leastCost) (av := [iv x]) (n := 1) (ci := 11) (b := 0) (d' := 28) (by decide +kernel) k_X11_leastCost (amM7 39 rfl (by decide +kernel)) rfl (by decide) (am_le rfl) rfl (am_le rfl) h.1.o.1 h.1.o.2 rfl (ZM.mono (c_leastCost (h := h) (ho := ho) (hz := by omega) (hx := hx)) fun r W hw => ?_)
  obtain ⟨e, hI, fr⟩ := hw
  generalize (o_leastCost σ x) = o at e hI bd ⊢
  subst e
  by_cases c0 : o.1 = 0
  · rw [rO, if_pos c0]
    change ZP G 30 m_L_leastCost 7 [some (.ref 0), some (iv x), some (.ref 320), none] [iv o.2.1, iv 0, .ref 320] W _
    refine z_i2lr (pc' := 8) (by decide +kernel) rfl ?_
    refine z_lastore (pc' := 9) (by decide +kernel) (hou.ext fr.1) ⟨by decide, by decide, by decide⟩ rfl ?_
    refine z_goto (tgt := 18) (off := 9) (by decide +kernel) (by decide) ?_
    refine z_iconst (pc' := 19) (n := 0) (by decide +kernel) rfl ?_
    refine z_ireturn (by decide +kernel) ⟨_, rfl, rfl⟩ ?_
    exact ⟨by rw [c0]; rfl, (wL hI fr _).1, (wL hI fr _).2, fun _ => zSL_at W _⟩
  by_cases c1 : o.1 = 1
  · rw [rO, if_neg c0, show E3 eN eU "" o.1 = eN by rw [c1]; rfl]
    refine ⟨12, 3, 13, ⟨[], _, _, rfl, (fun z hz => absurd hz List.not_mem_nil), by decide, by decide, ⟨_, (amM4 102 rfl (by decide +kernel)), (amM4 113 rfl (by decide +kernel))⟩, rfl⟩, (Or.inl ⟨3, (by decide +kernel), rfl, rfl⟩), by decide, ?_⟩
    refine z_iconst (pc' := 14) (n := 1) (by decide +kernel) rfl ?_
    exact z_ireturn (by decide +kernel) ⟨_, rfl, rfl⟩ ⟨by rw [c1]; rfl, hI, wF fr, fun g => absurd g c0⟩
  by_cases c2 : o.1 = 2
  · rw [rO, if_neg c0, show E3 eN eU "" o.1 = eU by rw [c2]; rfl]
    refine ⟨15, 3, 16, ⟨[_], _, _, rfl, (fun z hz => by
      obtain rfl := List.mem_singleton.mp hz
      exact ⟨by decide, _, (amM4 102 rfl (by decide +kernel)), by decide +kernel⟩), by decide, by decide, ⟨_, (amM5 161 rfl (by decide +kernel)), (amM5 178 rfl (by decide +kernel))⟩, rfl⟩, (Or.inl ⟨3, (by decide +kernel), rfl, rfl⟩), by decide, ?_⟩
    refine z_iconst (pc' := 17) (n := 2) (by decide +kernel) rfl ?_
    exact z_ireturn (by decide +kernel) ⟨_, rfl, rfl⟩ ⟨by rw [c2]; rfl, hI, wF fr, fun g => absurd g c0⟩
  exact absurd bd (by omega)
theorem bd_guess {σ : St} {t x y : Int} : (o_guess σ t x y).1 ≤ 2 := by
  unfold o_guess
  repeat (first | exact Nat.le_of_ble_eq_true rfl | refine cIf_le ?_ ?_ | refine pIf_le (by decide) fun p => ?_)
theorem w_L_guess {G : Gx} {Z : Zm} {σ : St} {t x y : Int} (h : IC Z σ) (ho : okS σ) (hz : zSz Z < 990000) (hou : zA Z 320 110 1) (ht : R32 t) (hx : R32 x) (hy : R32 y) : ZM G 30 m_L_guess [.ref 0, iv t, iv x, iv y, .ref 320] Z (wC Z wPI (o_guess σ t x y)) := by
  refine ZM.of [some (.ref 0), some (iv t), some (iv x), some (iv y), some (.ref 320), none] rfl ?_
  refine z_aload (pc' := 2) (j := 4) (by decide +kernel) rfl rfl ?_
  refine z_iconst (pc' := 3) (n := 0) (by decide +kernel) rfl ?_
  refine z_aload_n (pc' := 4) (j := 0) (by decide +kernel) rfl rfl ?_
  refine z_iload_n (pc' := 5) (j := 1) (by decide +kernel) rfl rfl ?_
  refine z_iload_n (pc' := 6) (j := 2) (by decide +kernel) rfl rfl ?_
  refine z_iload_n (pc' := 7) (j := 3) (by decide +kernel) rfl rfl ?_
  have bd := bd_guess (σ := σ) (t := t) (x := x) (y := y)
  refine z_callVH (pc' := 10) (idx := 143) (mj := m_X11_guess) (av := [iv t, iv x, iv y]) (n := 3) (ci := 11) (b := 0) (d' := 12) (by decide +kernel) k_X11_guess (amM7 65 rfl (by decide +kernel)) rfl (by decide) (am_le rfl) rfl (am_le rfl) h.1.o.1 h.1.o.2 rfl (ZM.mono (c_guess (h := h) (ho := ho) (hz := by omega) (ht := ht) (hx := hx) (hy := hy)) fun r W hw => ?_)
  obtain ⟨e, hI, fr⟩ := hw
  generalize (o_guess σ t x y) = o at e hI bd ⊢
  subst e
  by_cases c0 : o.1 = 0
  · rw [rO, if_pos c0]
    change ZP G 30 m_L_guess 10 [some (.ref 0), some (iv t), some (iv x), some (iv y), some (.ref 320), none] [iv o.2.1, iv 0, .ref 320] W _
    refine z_i2lr (pc' := 11) (by decide +kernel) rfl ?_
    refine z_lastore (pc' := 12) (by decide +kernel) (hou.ext fr.1) ⟨by decide, by decide, by decide⟩ rfl ?_
    refine z_goto (tgt := 23) (off := 11) (by decide +kernel) (by decide) ?_
    refine z_iconst (pc' := 24) (n := 0) (by decide +kernel) rfl ?_
    refine z_ireturn (by decide +kernel) ⟨_, rfl, rfl⟩ ?_
    exact ⟨by rw [c0]; rfl, (wL hI fr _).1, (wL hI fr _).2, fun _ => zSL_at W _⟩
  by_cases c1 : o.1 = 1
  · rw [rO, if_neg c0, show E3 eN eA "" o.1 = eN by rw [c1]; rfl]
    refine ⟨15, 5, 17, ⟨[], _, _, rfl, (fun z hz => absurd hz List.not_mem_nil), by decide, by decide, ⟨_, (amM4 102 rfl (by decide +kernel)), (amM4 113 rfl (by decide +kernel))⟩, rfl⟩, (Or.inr ⟨(by decide +kernel), rfl⟩), by decide, ?_⟩
    refine z_iconst (pc' := 18) (n := 1) (by decide +kernel) rfl ?_
    exact z_ireturn (by decide +kernel) ⟨_, rfl, rfl⟩ ⟨by rw [c1]; rfl, hI, wF fr, fun g => absurd g c0⟩
  by_cases c2 : o.1 = 2
  · rw [rO, if_neg c0, show E3 eN eA "" o.1 = eA by rw [c2]; rfl]
    refine ⟨19, 5, 21, ⟨[_], _, _, rfl, (fun z hz => by
      obtain rfl := List.mem_singleton.mp hz
      exact ⟨by decide, _, (amM4 102 rfl (by decide +kernel)), by decide +kernel⟩), by decide, by decide, ⟨_, (amM4 4 rfl (by decide +kernel)), (amM4 12 rfl (by decide +kernel))⟩, rfl⟩, (Or.inr ⟨(by decide +kernel), rfl⟩), by decide, ?_⟩
    refine z_iconst (pc' := 22) (n := 2) (by decide +kernel) rfl ?_
    exact z_ireturn (by decide +kernel) ⟨_, rfl, rfl⟩ ⟨by rw [c2]; rfl, hI, wF fr, fun g => absurd g c0⟩
  exact absurd bd (by omega)
theorem bd_allOdds {σ : St}  : (o_allOdds σ).1 ≤ 1 := by
  unfold o_allOdds
  repeat (first | exact Nat.le_of_ble_eq_true rfl | refine cIf_le ?_ ?_ | refine pIf_le (by decide) fun p => ?_)
theorem w_L_allOdds {G : Gx} {Z : Zm} {σ : St}  (h : IC Z σ) (ho : okS σ) (hz : zSz Z < 990000) (hou : zA Z 320 110 1)  : ZM G 30 m_L_allOdds [.ref 0, .ref 320] Z (wC Z wPJ (o_allOdds σ)) := by
  refine ZM.of [some (.ref 0), some (.ref 320), none] rfl ?_
  refine z_aload_n (pc' := 1) (j := 1) (by decide +kernel) rfl rfl ?_
  refine z_iconst (pc' := 2) (n := 0) (by decide +kernel) rfl ?_
  refine z_aload_n (pc' := 3) (j := 0) (by decide +kernel) rfl rfl ?_
  have bd := bd_allOdds (σ := σ)
  refine z_callVH (pc' := 6) (idx := 146) (mj := m_X11_allOdds) (av := []) (n := 0) (ci := 11) (b := 0) (d' := 12) (by decide +kernel) k_X11_allOdds (amM7 77 rfl (by decide +kernel)) rfl (by decide) (am_le rfl) rfl (am_le rfl) h.1.o.1 h.1.o.2 rfl (ZM.mono (c_allOdds (h := h) (ho := ho) (hz := by omega)) fun r W hw => ?_)
  obtain ⟨e, hI, fr⟩ := hw
  generalize (o_allOdds σ) = o at e hI bd ⊢
  subst e
  by_cases c0 : o.1 = 0
  · rw [rO, if_pos c0]
    change ZP G 30 m_L_allOdds 6 [some (.ref 0), some (.ref 320), none] [jv o.2.1, iv 0, .ref 320] W _
    refine z_lastore (pc' := 7) (by decide +kernel) (hou.ext fr.1) ⟨by decide, by decide, by decide⟩ rfl ?_
    refine z_goto (tgt := 13) (off := 6) (by decide +kernel) (by decide) ?_
    refine z_iconst (pc' := 14) (n := 0) (by decide +kernel) rfl ?_
    refine z_ireturn (by decide +kernel) ⟨_, rfl, rfl⟩ ?_
    exact ⟨by rw [c0]; rfl, (wL hI fr _).1, (wL hI fr _).2, fun _ => zSL_at W _⟩
  by_cases c1 : o.1 = 1
  · rw [rO, if_neg c0, show E3 eU "" "" o.1 = eU by rw [c1]; rfl]
    refine ⟨10, 2, 11, ⟨[], _, _, rfl, (fun z hz => absurd hz List.not_mem_nil), by decide, by decide, ⟨_, (amM5 161 rfl (by decide +kernel)), (amM5 178 rfl (by decide +kernel))⟩, rfl⟩, (Or.inl ⟨2, (by decide +kernel), rfl, rfl⟩), by decide, ?_⟩
    refine z_iconst (pc' := 12) (n := 1) (by decide +kernel) rfl ?_
    exact z_ireturn (by decide +kernel) ⟨_, rfl, rfl⟩ ⟨by rw [c1]; rfl, hI, wF fr, fun g => absurd g c0⟩
  exact absurd bd (by omega)
theorem bd_oddsBy {σ : St} {x : Int} : (o_oddsBy σ x).1 ≤ 1 := by
  unfold o_oddsBy
  repeat (first | exact Nat.le_of_ble_eq_true rfl | refine cIf_le ?_ ?_ | refine pIf_le (by decide) fun p => ?_)
theorem w_L_oddsBy {G : Gx} {Z : Zm} {σ : St} {x : Int} (h : IC Z σ) (ho : okS σ) (hz : zSz Z < 990000) (hou : zA Z 320 110 1) (hx : R32 x) : ZM G 30 m_L_oddsBy [.ref 0, iv x, .ref 320] Z (wC Z wPJ (o_oddsBy σ x)) := by
  refine ZM.of [some (.ref 0), some (iv x), some (.ref 320), none] rfl ?_
  refine z_aload_n (pc' := 1) (j := 2) (by decide +kernel) rfl rfl ?_
  refine z_iconst (pc' := 2) (n := 0) (by decide +kernel) rfl ?_
  refine z_aload_n (pc' := 3) (j := 0) (by decide +kernel) rfl rfl ?_
  refine z_iload_n (pc' := 4) (j := 1) (by decide +kernel) rfl rfl ?_
  have bd := bd_oddsBy (σ := σ) (x := x)
  refine z_callVH (pc' := 7) (idx := 150) (mj := m_X11_oddsBy) (av := [iv x]) (n := 1) (ci := 11) (b := 0) (d' := 12) (by decide +kernel) k_X11_oddsBy (amM7 90 rfl (by decide +kernel)) rfl (by decide) (am_le rfl) rfl (am_le rfl) h.1.o.1 h.1.o.2 rfl (ZM.mono (c_oddsBy (h := h) (ho := ho) (hz := by omega) (hx := hx)) fun r W hw => ?_)
  obtain ⟨e, hI, fr⟩ := hw
  generalize (o_oddsBy σ x) = o at e hI bd ⊢
  subst e
  by_cases c0 : o.1 = 0
  · rw [rO, if_pos c0]
    change ZP G 30 m_L_oddsBy 7 [some (.ref 0), some (iv x), some (.ref 320), none] [jv o.2.1, iv 0, .ref 320] W _
    refine z_lastore (pc' := 8) (by decide +kernel) (hou.ext fr.1) ⟨by decide, by decide, by decide⟩ rfl ?_
    refine z_goto (tgt := 14) (off := 6) (by decide +kernel) (by decide) ?_
    refine z_iconst (pc' := 15) (n := 0) (by decide +kernel) rfl ?_
    refine z_ireturn (by decide +kernel) ⟨_, rfl, rfl⟩ ?_
    exact ⟨by rw [c0]; rfl, (wL hI fr _).1, (wL hI fr _).2, fun _ => zSL_at W _⟩
  by_cases c1 : o.1 = 1
  · rw [rO, if_neg c0, show E3 eU "" "" o.1 = eU by rw [c1]; rfl]
    refine ⟨11, 3, 12, ⟨[], _, _, rfl, (fun z hz => absurd hz List.not_mem_nil), by decide, by decide, ⟨_, (amM5 161 rfl (by decide +kernel)), (amM5 178 rfl (by decide +kernel))⟩, rfl⟩, (Or.inl ⟨3, (by decide +kernel), rfl, rfl⟩), by decide, ?_⟩
    refine z_iconst (pc' := 13) (n := 1) (by decide +kernel) rfl ?_
    exact z_ireturn (by decide +kernel) ⟨_, rfl, rfl⟩ ⟨by rw [c1]; rfl, hI, wF fr, fun g => absurd g c0⟩
  exact absurd bd (by omega)
theorem bd_oddsCritical {σ : St} {t : Int} : (o_oddsCritical σ t).1 ≤ 2 := by
  unfold o_oddsCritical
  repeat (first | exact Nat.le_of_ble_eq_true rfl | refine cIf_le ?_ ?_ | refine pIf_le (by decide) fun p => ?_)
theorem w_L_oddsCritical {G : Gx} {Z : Zm} {σ : St} {t : Int} (h : IC Z σ) (ho : okS σ) (hz : zSz Z < 990000) (hou : zA Z 320 110 1) (ht : R32 t) : ZM G 30 m_L_oddsCritical [.ref 0, iv t, .ref 320] Z (wC Z wPJ (o_oddsCritical σ t)) := by
  refine ZM.of [some (.ref 0), some (iv t), some (.ref 320), none] rfl ?_
  refine z_aload_n (pc' := 1) (j := 2) (by decide +kernel) rfl rfl ?_
  refine z_iconst (pc' := 2) (n := 0) (by decide +kernel) rfl ?_
  refine z_aload_n (pc' := 3) (j := 0) (by decide +kernel) rfl rfl ?_
  refine z_iload_n (pc' := 4) (j := 1) (by decide +kernel) rfl rfl ?_
  have bd := bd_oddsCritical (σ := σ) (t := t)
  refine z_callVH (pc' := 7) (idx := 154) (mj := m_X11_oddsCritical) (av := [iv t]) (n := 1) (ci := 11) (b := 0) (d' := 12) (by decide +kernel) k_X11_oddsCritical (amM7 119 rfl (by decide +kernel)) rfl (by decide) (am_le rfl) rfl (am_le rfl) h.1.o.1 h.1.o.2 rfl (ZM.mono (c_oddsCritical (h := h) (ho := ho) (hz := by omega) (ht := ht)) fun r W hw => ?_)
  obtain ⟨e, hI, fr⟩ := hw
  generalize (o_oddsCritical σ t) = o at e hI bd ⊢
  subst e
  by_cases c0 : o.1 = 0
  · rw [rO, if_pos c0]
    change ZP G 30 m_L_oddsCritical 7 [some (.ref 0), some (iv t), some (.ref 320), none] [jv o.2.1, iv 0, .ref 320] W _
    refine z_lastore (pc' := 8) (by decide +kernel) (hou.ext fr.1) ⟨by decide, by decide, by decide⟩ rfl ?_
    refine z_goto (tgt := 17) (off := 9) (by decide +kernel) (by decide) ?_
    refine z_iconst (pc' := 18) (n := 0) (by decide +kernel) rfl ?_
    refine z_ireturn (by decide +kernel) ⟨_, rfl, rfl⟩ ?_
    exact ⟨by rw [c0]; rfl, (wL hI fr _).1, (wL hI fr _).2, fun _ => zSL_at W _⟩
  by_cases c1 : o.1 = 1
  · rw [rO, if_neg c0, show E3 eN eU "" o.1 = eN by rw [c1]; rfl]
    refine ⟨11, 3, 12, ⟨[], _, _, rfl, (fun z hz => absurd hz List.not_mem_nil), by decide, by decide, ⟨_, (amM4 102 rfl (by decide +kernel)), (amM4 113 rfl (by decide +kernel))⟩, rfl⟩, (Or.inl ⟨3, (by decide +kernel), rfl, rfl⟩), by decide, ?_⟩
    refine z_iconst (pc' := 13) (n := 1) (by decide +kernel) rfl ?_
    exact z_ireturn (by decide +kernel) ⟨_, rfl, rfl⟩ ⟨by rw [c1]; rfl, hI, wF fr, fun g => absurd g c0⟩
  by_cases c2 : o.1 = 2
  · rw [rO, if_neg c0, show E3 eN eU "" o.1 = eU by rw [c2]; rfl]
    refine ⟨14, 3, 15, ⟨[_], _, _, rfl, (fun z hz => by
      obtain rfl := List.mem_singleton.mp hz
      exact ⟨by decide, _, (amM4 102 rfl (by decide +kernel)), by decide +kernel⟩), by decide, by decide, ⟨_, (amM5 161 rfl (by decide +kernel)), (amM5 178 rfl (by decide +kernel))⟩, rfl⟩, (Or.inl ⟨3, (by decide +kernel), rfl, rfl⟩), by decide, ?_⟩
    refine z_iconst (pc' := 16) (n := 2) (by decide +kernel) rfl ?_
    exact z_ireturn (by decide +kernel) ⟨_, rfl, rfl⟩ ⟨by rw [c2]; rfl, hI, wF fr, fun g => absurd g c0⟩
  exact absurd bd (by omega)
theorem bd_planned {σ : St} {x : Int} : (o_planned σ x).1 ≤ 1 := by
  unfold o_planned
  repeat (first | exact Nat.le_of_ble_eq_true rfl | refine cIf_le ?_ ?_ | refine pIf_le (by decide) fun p => ?_)
theorem w_L_planned {G : Gx} {Z : Zm} {σ : St} {x : Int} (h : IC Z σ) (ho : okS σ) (hz : zSz Z < 990000) (hou : zA Z 320 110 1) (hx : R32 x) : ZM G 30 m_L_planned [.ref 0, iv x, .ref 320] Z (wC Z wPI (o_planned σ x)) := by
  refine ZM.of [some (.ref 0), some (iv x), some (.ref 320), none] rfl ?_
  refine z_aload_n (pc' := 1) (j := 2) (by decide +kernel) rfl rfl ?_
  refine z_iconst (pc' := 2) (n := 0) (by decide +kernel) rfl ?_
  refine z_aload_n (pc' := 3) (j := 0) (by decide +kernel) rfl rfl ?_
  refine z_iload_n (pc' := 4) (j := 1) (by decide +kernel) rfl rfl ?_
  have bd := bd_planned (σ := σ) (x := x)
  refine z_callVH (pc' := 7) (idx := 157) (mj := m_X11_planned) (av := [iv x]) (n := 1) (ci := 11) (b := 0) (d' := 12) (by decide +kernel) k_X11_planned (amM7 126 rfl (by decide +kernel)) rfl (by decide) (am_le rfl) rfl (am_le rfl) h.1.o.1 h.1.o.2 rfl (ZM.mono (c_planned (h := h) (ho := ho) (hz := by omega) (hx := hx)) fun r W hw => ?_)
  obtain ⟨e, hI, fr⟩ := hw
  generalize (o_planned σ x) = o at e hI bd ⊢
  subst e
  by_cases c0 : o.1 = 0
  · rw [rO, if_pos c0]
    change ZP G 30 m_L_planned 7 [some (.ref 0), some (iv x), some (.ref 320), none] [iv o.2.1, iv 0, .ref 320] W _
    refine z_i2lr (pc' := 8) (by decide +kernel) rfl ?_
    refine z_lastore (pc' := 9) (by decide +kernel) (hou.ext fr.1) ⟨by decide, by decide, by decide⟩ rfl ?_
    refine z_goto (tgt := 15) (off := 6) (by decide +kernel) (by decide) ?_
    refine z_iconst (pc' := 16) (n := 0) (by decide +kernel) rfl ?_
    refine z_ireturn (by decide +kernel) ⟨_, rfl, rfl⟩ ?_
    exact ⟨by rw [c0]; rfl, (wL hI fr _).1, (wL hI fr _).2, fun _ => zSL_at W _⟩
  by_cases c1 : o.1 = 1
  · rw [rO, if_neg c0, show E3 eA "" "" o.1 = eA by rw [c1]; rfl]
    refine ⟨12, 3, 13, ⟨[], _, _, rfl, (fun z hz => absurd hz List.not_mem_nil), by decide, by decide, ⟨_, (amM4 4 rfl (by decide +kernel)), (amM4 12 rfl (by decide +kernel))⟩, rfl⟩, (Or.inl ⟨3, (by decide +kernel), rfl, rfl⟩), by decide, ?_⟩
    refine z_iconst (pc' := 14) (n := 1) (by decide +kernel) rfl ?_
    exact z_ireturn (by decide +kernel) ⟨_, rfl, rfl⟩ ⟨by rw [c1]; rfl, hI, wF fr, fun g => absurd g c0⟩
  exact absurd bd (by omega)
theorem bd_index {σ : St} {x : Int} : (o_index σ x).1 ≤ 2 := by
  unfold o_index
  repeat (first | exact Nat.le_of_ble_eq_true rfl | refine cIf_le ?_ ?_ | refine pIf_le (by decide) fun p => ?_)
theorem w_L_index {G : Gx} {Z : Zm} {σ : St} {x : Int} (h : IC Z σ) (ho : okS σ) (hz : zSz Z < 990000) (hou : zA Z 321 111 1) (hx : R32 x) (hn : (o_index σ x).1 = 0 → vf_n32 (vIx σ x)) : ZM G 30 m_L_index [.ref 0, iv x, .ref 321] Z (wC Z (wPF (vIx σ x)) (o_index σ x)) := by
  refine ZM.of [some (.ref 0), some (iv x), some (.ref 321), none] rfl ?_
  refine z_aload_n (pc' := 1) (j := 2) (by decide +kernel) rfl rfl ?_
  refine z_iconst (pc' := 2) (n := 0) (by decide +kernel) rfl ?_
  refine z_aload_n (pc' := 3) (j := 0) (by decide +kernel) rfl rfl ?_
  refine z_iload_n (pc' := 4) (j := 1) (by decide +kernel) rfl rfl ?_
  have bd := bd_index (σ := σ) (x := x)
  refine z_callVH (pc' := 7) (idx := 160) (mj := m_X11_index) (av := [iv x]) (n := 1) (ci := 11) (b := 0) (d' := 12) (by decide +kernel) k_X11_index (amM7 157 rfl (by decide +kernel)) rfl (by decide) (am_le rfl) rfl (am_le rfl) h.1.o.1 h.1.o.2 rfl (ZM.mono (c_index (h := h) (ho := ho) (hz := by omega) (hx := hx)) fun r W hw => ?_)
  obtain ⟨e, hI, fr⟩ := hw
  generalize (o_index σ x) = o at e hI bd hn ⊢
  subst e
  by_cases c0 : o.1 = 0
  · rw [rO, if_pos c0]
    change ZP G 30 m_L_index 7 [some (.ref 0), some (iv x), some (.ref 321), none] [.float (if o.2.1 = 0 then (vIx σ x) else 0), iv 0, .ref 321] W _
    refine z_f2d (pc' := 8) (by decide +kernel) (fw_num (by split; exact hn c0; exact n32_0)) rfl ?_
    refine z_dastore (pc' := 9) (by decide +kernel) (hou.ext fr.1) ⟨by decide, by decide, by decide⟩ rfl ?_
    refine z_goto (tgt := 18) (off := 9) (by decide +kernel) (by decide) ?_
    refine z_iconst (pc' := 19) (n := 0) (by decide +kernel) rfl ?_
    refine z_ireturn (by decide +kernel) ⟨_, rfl, rfl⟩ ?_
    exact ⟨by rw [c0]; rfl, (wD hI fr _).1, (wD hI fr _).2, fun _ => zSD_at W _⟩
  by_cases c1 : o.1 = 1
  · rw [rO, if_neg c0, show E3 eA eR' "" o.1 = eA by rw [c1]; rfl]
    refine ⟨12, 3, 13, ⟨[], _, _, rfl, (fun z hz => absurd hz List.not_mem_nil), by decide, by decide, ⟨_, (amM4 4 rfl (by decide +kernel)), (amM4 12 rfl (by decide +kernel))⟩, rfl⟩, (Or.inl ⟨3, (by decide +kernel), rfl, rfl⟩), by decide, ?_⟩
    refine z_iconst (pc' := 14) (n := 1) (by decide +kernel) rfl ?_
    exact z_ireturn (by decide +kernel) ⟨_, rfl, rfl⟩ ⟨by rw [c1]; rfl, hI, wF fr, fun g => absurd g c0⟩
  by_cases c2 : o.1 = 2
  · rw [rO, if_neg c0, show E3 eA eR' "" o.1 = eR' by rw [c2]; rfl]
    refine ⟨15, 3, 16, ⟨[_], _, _, rfl, (fun z hz => by
      obtain rfl := List.mem_singleton.mp hz
      exact ⟨by decide, _, (amM4 4 rfl (by decide +kernel)), by decide +kernel⟩), by decide, by decide, ⟨_, (amM7 143 rfl (by decide +kernel)), (amM7 155 rfl (by decide +kernel))⟩, rfl⟩, (Or.inl ⟨3, (by decide +kernel), rfl, rfl⟩), by decide, ?_⟩
    refine z_iconst (pc' := 17) (n := 2) (by decide +kernel) rfl ?_
    exact z_ireturn (by decide +kernel) ⟨_, rfl, rfl⟩ ⟨by rw [c2]; rfl, hI, wF fr, fun g => absurd g c0⟩
  exact absurd bd (by omega)
theorem bd_movedBy {σ : St} {t : Int} : (o_movedBy σ t).1 ≤ 2 := by
  unfold o_movedBy
  repeat (first | exact Nat.le_of_ble_eq_true rfl | refine cIf_le ?_ ?_ | refine pIf_le (by decide) fun p => ?_)
theorem w_L_movedBy {G : Gx} {Z : Zm} {σ : St} {t : Int} (h : IC Z σ) (ho : okS σ) (hz : zSz Z < 990000) (hou : zA Z 320 110 1) (ht : R32 t) : ZM G 30 m_L_movedBy [.ref 0, iv t, .ref 320] Z (wC Z wPI (o_movedBy σ t)) := by
  refine ZM.of [some (.ref 0), some (iv t), some (.ref 320), none] rfl ?_
  refine z_aload_n (pc' := 1) (j := 2) (by decide +kernel) rfl rfl ?_
  refine z_iconst (pc' := 2) (n := 0) (by decide +kernel) rfl ?_
  refine z_aload_n (pc' := 3) (j := 0) (by decide +kernel) rfl rfl ?_
  refine z_iload_n (pc' := 4) (j := 1) (by decide +kernel) rfl rfl ?_
  have bd := bd_movedBy (σ := σ) (t := t)
  refine z_callVH (pc' := 7) (idx := 166) (mj := m_X11_movedBy) (av := [iv t]) (n := 1) (ci := 11) (b := 0) (d' := 12) (by decide +kernel) k_X11_movedBy (amM7 167 rfl (by decide +kernel)) rfl (by decide) (am_le rfl) rfl (am_le rfl) h.1.o.1 h.1.o.2 rfl (ZM.mono (c_movedBy (h := h) (ho := ho) (hz := by omega) (ht := ht)) fun r W hw => ?_)
  obtain ⟨e, hI, fr⟩ := hw
  generalize (o_movedBy σ t) = o at e hI bd ⊢
  subst e
  by_cases c0 : o.1 = 0
  · rw [rO, if_pos c0]
    change ZP G 30 m_L_movedBy 7 [some (.ref 0), some (iv t), some (.ref 320), none] [iv o.2.1, iv 0, .ref 320] W _
    refine z_i2lr (pc' := 8) (by decide +kernel) rfl ?_
    refine z_lastore (pc' := 9) (by decide +kernel) (hou.ext fr.1) ⟨by decide, by decide, by decide⟩ rfl ?_
    refine z_goto (tgt := 18) (off := 9) (by decide +kernel) (by decide) ?_
    refine z_iconst (pc' := 19) (n := 0) (by decide +kernel) rfl ?_
    refine z_ireturn (by decide +kernel) ⟨_, rfl, rfl⟩ ?_
    exact ⟨by rw [c0]; rfl, (wL hI fr _).1, (wL hI fr _).2, fun _ => zSL_at W _⟩
  by_cases c1 : o.1 = 1
  · rw [rO, if_neg c0, show E3 eN eT "" o.1 = eN by rw [c1]; rfl]
    refine ⟨12, 3, 13, ⟨[], _, _, rfl, (fun z hz => absurd hz List.not_mem_nil), by decide, by decide, ⟨_, (amM4 102 rfl (by decide +kernel)), (amM4 113 rfl (by decide +kernel))⟩, rfl⟩, (Or.inl ⟨3, (by decide +kernel), rfl, rfl⟩), by decide, ?_⟩
    refine z_iconst (pc' := 14) (n := 1) (by decide +kernel) rfl ?_
    exact z_ireturn (by decide +kernel) ⟨_, rfl, rfl⟩ ⟨by rw [c1]; rfl, hI, wF fr, fun g => absurd g c0⟩
  by_cases c2 : o.1 = 2
  · rw [rO, if_neg c0, show E3 eN eT "" o.1 = eT by rw [c2]; rfl]
    refine ⟨15, 3, 16, ⟨[_], _, _, rfl, (fun z hz => by
      obtain rfl := List.mem_singleton.mp hz
      exact ⟨by decide, _, (amM4 102 rfl (by decide +kernel)), by decide +kernel⟩), by decide, by decide, ⟨_, (amM4 5 rfl (by decide +kernel)), (amM4 84 rfl (by decide +kernel))⟩, rfl⟩, (Or.inl ⟨3, (by decide +kernel), rfl, rfl⟩), by decide, ?_⟩
    refine z_iconst (pc' := 17) (n := 2) (by decide +kernel) rfl ?_
    exact z_ireturn (by decide +kernel) ⟨_, rfl, rfl⟩ ⟨by rw [c2]; rfl, hI, wF fr, fun g => absurd g c0⟩
  exact absurd bd (by omega)
theorem bd_crane {σ : St}  : (o_crane σ).1 ≤ 1 := by
  unfold o_crane
  repeat (first | exact Nat.le_of_ble_eq_true rfl | refine cIf_le ?_ ?_ | refine pIf_le (by decide) fun p => ?_)
theorem w_L_crane {G : Gx} {Z : Zm} {σ : St}  (h : IC Z σ) (ho : okS σ) (hz : zSz Z < 990000) (hou : zA Z 320 110 1)  : ZM G 30 m_L_crane [.ref 0, .ref 320] Z (wC Z wPI (o_crane σ)) := by
  refine ZM.of [some (.ref 0), some (.ref 320), none] rfl ?_
  refine z_aload_n (pc' := 1) (j := 1) (by decide +kernel) rfl rfl ?_
  refine z_iconst (pc' := 2) (n := 0) (by decide +kernel) rfl ?_
  refine z_aload_n (pc' := 3) (j := 0) (by decide +kernel) rfl rfl ?_
  have bd := bd_crane (σ := σ)
  refine z_callVH (pc' := 6) (idx := 169) (mj := m_X11_crane) (av := []) (n := 0) (ci := 11) (b := 0) (d' := 14) (by decide +kernel) k_X11_crane (amM7 175 rfl (by decide +kernel)) rfl (by decide) (am_le rfl) rfl (am_le rfl) h.1.o.1 h.1.o.2 rfl (ZM.mono (c_crane (h := h) (ho := ho) (hz := by omega)) fun r W hw => ?_)
  obtain ⟨e, hI, fr⟩ := hw
  generalize (o_crane σ) = o at e hI bd ⊢
  subst e
  by_cases c0 : o.1 = 0
  · rw [rO, if_pos c0]
    change ZP G 30 m_L_crane 6 [some (.ref 0), some (.ref 320), none] [iv o.2.1, iv 0, .ref 320] W _
    refine z_i2lr (pc' := 7) (by decide +kernel) rfl ?_
    refine z_lastore (pc' := 8) (by decide +kernel) (hou.ext fr.1) ⟨by decide, by decide, by decide⟩ rfl ?_
    refine z_goto (tgt := 14) (off := 6) (by decide +kernel) (by decide) ?_
    refine z_iconst (pc' := 15) (n := 0) (by decide +kernel) rfl ?_
    refine z_ireturn (by decide +kernel) ⟨_, rfl, rfl⟩ ?_
    exact ⟨by rw [c0]; rfl, (wL hI fr _).1, (wL hI fr _).2, fun _ => zSL_at W _⟩
  by_cases c1 : o.1 = 1
  · rw [rO, if_neg c0, show E3 eU "" "" o.1 = eU by rw [c1]; rfl]
    refine ⟨11, 2, 12, ⟨[], _, _, rfl, (fun z hz => absurd hz List.not_mem_nil), by decide, by decide, ⟨_, (amM5 161 rfl (by decide +kernel)), (amM5 178 rfl (by decide +kernel))⟩, rfl⟩, (Or.inl ⟨2, (by decide +kernel), rfl, rfl⟩), by decide, ?_⟩
    refine z_iconst (pc' := 13) (n := 1) (by decide +kernel) rfl ?_
    exact z_ireturn (by decide +kernel) ⟨_, rfl, rfl⟩ ⟨by rw [c1]; rfl, hI, wF fr, fun g => absurd g c0⟩
  exact absurd bd (by omega)
theorem bd_criticalShare {σ : St}  : (o_fig σ).1 ≤ 1 := by
  unfold o_fig
  repeat (first | exact Nat.le_of_ble_eq_true rfl | refine cIf_le ?_ ?_ | refine pIf_le (by decide) fun p => ?_)
theorem w_L_criticalShare {G : Gx} {Z : Zm} {σ : St}  (h : IC Z σ) (ho : okS σ) (hz : zSz Z < 990000) (hou : zA Z 321 111 1)  (hn : (o_fig σ).1 = 0 → vf_n32 (vCr σ)) : ZM G 30 m_L_criticalShare [.ref 0, .ref 321] Z (wC Z (wPF (vCr σ)) (o_fig σ)) := by
  refine ZM.of [some (.ref 0), some (.ref 321), none] rfl ?_
  refine z_aload_n (pc' := 1) (j := 1) (by decide +kernel) rfl rfl ?_
  refine z_iconst (pc' := 2) (n := 0) (by decide +kernel) rfl ?_
  refine z_aload_n (pc' := 3) (j := 0) (by decide +kernel) rfl rfl ?_
  have bd := bd_criticalShare (σ := σ)
  refine z_callVH (pc' := 6) (idx := 172) (mj := m_X11_criticalShare) (av := []) (n := 0) (ci := 11) (b := 0) (d' := 12) (by decide +kernel) k_X11_criticalShare (amM7 207 rfl (by decide +kernel)) rfl (by decide) (am_le rfl) rfl (am_le rfl) h.1.o.1 h.1.o.2 rfl (ZM.mono (c_criticalShare (h := h) (ho := ho) (hz := by omega)) fun r W hw => ?_)
  obtain ⟨e, hI, fr⟩ := hw
  generalize (o_fig σ) = o at e hI bd hn ⊢
  subst e
  by_cases c0 : o.1 = 0
  · rw [rO, if_pos c0]
    change ZP G 30 m_L_criticalShare 6 [some (.ref 0), some (.ref 321), none] [.float (if o.2.1 = 0 then (vCr σ) else 0), iv 0, .ref 321] W _
    refine z_f2d (pc' := 7) (by decide +kernel) (fw_num (by split; exact hn c0; exact n32_0)) rfl ?_
    refine z_dastore (pc' := 8) (by decide +kernel) (hou.ext fr.1) ⟨by decide, by decide, by decide⟩ rfl ?_
    refine z_goto (tgt := 14) (off := 6) (by decide +kernel) (by decide) ?_
    refine z_iconst (pc' := 15) (n := 0) (by decide +kernel) rfl ?_
    refine z_ireturn (by decide +kernel) ⟨_, rfl, rfl⟩ ?_
    exact ⟨by rw [c0]; rfl, (wD hI fr _).1, (wD hI fr _).2, fun _ => zSD_at W _⟩
  by_cases c1 : o.1 = 1
  · rw [rO, if_neg c0, show E3 eR' "" "" o.1 = eR' by rw [c1]; rfl]
    refine ⟨11, 2, 12, ⟨[], _, _, rfl, (fun z hz => absurd hz List.not_mem_nil), by decide, by decide, ⟨_, (amM7 143 rfl (by decide +kernel)), (amM7 155 rfl (by decide +kernel))⟩, rfl⟩, (Or.inl ⟨2, (by decide +kernel), rfl, rfl⟩), by decide, ?_⟩
    refine z_iconst (pc' := 13) (n := 1) (by decide +kernel) rfl ?_
    exact z_ireturn (by decide +kernel) ⟨_, rfl, rfl⟩ ⟨by rw [c1]; rfl, hI, wF fr, fun g => absurd g c0⟩
  exact absurd bd (by omega)
theorem bd_meanLength {σ : St}  : (o_fig σ).1 ≤ 1 := by
  unfold o_fig
  repeat (first | exact Nat.le_of_ble_eq_true rfl | refine cIf_le ?_ ?_ | refine pIf_le (by decide) fun p => ?_)
theorem w_L_meanLength {G : Gx} {Z : Zm} {σ : St}  (h : IC Z σ) (ho : okS σ) (hz : zSz Z < 990000) (hou : zA Z 321 111 1)  : ZM G 30 m_L_meanLength [.ref 0, .ref 321] Z (wC Z (wPD (vMe σ)) (o_fig σ)) := by
  refine ZM.of [some (.ref 0), some (.ref 321), none] rfl ?_
  refine z_aload_n (pc' := 1) (j := 1) (by decide +kernel) rfl rfl ?_
  refine z_iconst (pc' := 2) (n := 0) (by decide +kernel) rfl ?_
  refine z_aload_n (pc' := 3) (j := 0) (by decide +kernel) rfl rfl ?_
  have bd := bd_meanLength (σ := σ)
  refine z_callVH (pc' := 6) (idx := 176) (mj := m_X11_meanLength) (av := []) (n := 0) (ci := 11) (b := 0) (d' := 12) (by decide +kernel) k_X11_meanLength (amM7 219 rfl (by decide +kernel)) rfl (by decide) (am_le rfl) rfl (am_le rfl) h.1.o.1 h.1.o.2 rfl (ZM.mono (c_meanLength (h := h) (ho := ho) (hz := by omega)) fun r W hw => ?_)
  obtain ⟨e, hI, fr⟩ := hw
  generalize (o_fig σ) = o at e hI bd ⊢
  subst e
  by_cases c0 : o.1 = 0
  · rw [rO, if_pos c0]
    change ZP G 30 m_L_meanLength 6 [some (.ref 0), some (.ref 321), none] [.double (if o.2.1 = 0 then (vMe σ) else 0), iv 0, .ref 321] W _
    refine z_dastore (pc' := 7) (by decide +kernel) (hou.ext fr.1) ⟨by decide, by decide, by decide⟩ rfl ?_
    refine z_goto (tgt := 13) (off := 6) (by decide +kernel) (by decide) ?_
    refine z_iconst (pc' := 14) (n := 0) (by decide +kernel) rfl ?_
    refine z_ireturn (by decide +kernel) ⟨_, rfl, rfl⟩ ?_
    exact ⟨by rw [c0]; rfl, (wD hI fr _).1, (wD hI fr _).2, fun _ => zSD_at W _⟩
  by_cases c1 : o.1 = 1
  · rw [rO, if_neg c0, show E3 eR' "" "" o.1 = eR' by rw [c1]; rfl]
    refine ⟨10, 2, 11, ⟨[], _, _, rfl, (fun z hz => absurd hz List.not_mem_nil), by decide, by decide, ⟨_, (amM7 143 rfl (by decide +kernel)), (amM7 155 rfl (by decide +kernel))⟩, rfl⟩, (Or.inl ⟨2, (by decide +kernel), rfl, rfl⟩), by decide, ?_⟩
    refine z_iconst (pc' := 12) (n := 1) (by decide +kernel) rfl ?_
    exact z_ireturn (by decide +kernel) ⟨_, rfl, rfl⟩ ⟨by rw [c1]; rfl, hI, wF fr, fun g => absurd g c0⟩
  exact absurd bd (by omega)
