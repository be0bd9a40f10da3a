/-! ===== calls over whole numbers ===== -/
def zKc (G : Gx) (d : Nat) (mi : MI) (pc' : Nat) (ls : LsT) (st : List Value) (Q : Rv → Zm → Prop) : Rv → Zm → Prop := fun r Z1 => match r with
  | .inl v => ZP G d mi pc' ls (v.toList ++ st) Z1 Q
  | .inr E => Q (.inr E) Z1
/-- behind a call in a method with handlers: where each class that is thrown goes on -/
def zKh (G : Gx) (d : Nat) (mi : MI) (pc pc' : Nat) (ls : LsT) (st : List Value) (Q : Rv → Zm → Prop) : Rv → Zm → Prop := fun r Z1 => match r with
  | .inl v => ZP G d mi pc' ls (v.toList ++ st) Z1 Q
  | .inr E => ∃ hpc k pc2, amHd mi pc E hpc ∧ amAst mi hpc k pc2 ∧ k < mi.2.2.1 ∧ ZP G d mi pc2 ((amPre ls k).set k none) [] Z1 Q
theorem zKc_am {G : Gx} {d d' : Nat} {mi mj : MI} {pc' : Nat} {ls : LsT} {st av : List Value} {Z : Zm} {Q : Rv → Zm → Prop} (h : ZM G d' mj av Z (zKc G d mi pc' ls st Q)) : WM G d' mj av (enc Z) (amKc G d mi pc' ls st (fun r M' => ∃ Z', M' = enc Z' ∧ Q r Z')) := by
  refine WP.mono h fun r M' ⟨Z1, h1, h2⟩ => ?_
  subst h1
  cases r with
  | inl v => exact h2
  | inr E => exact ⟨Z1, rfl, h2⟩
theorem zKh_am {G : Gx} {d d' : Nat} {mi mj : MI} {pc pc' : Nat} {ls : LsT} {st av : List Value} {Z : Zm} {Q : Rv → Zm → Prop} (h : ZM G d' mj av Z (zKh G d mi pc pc' ls st Q)) : WM G d' mj av (enc Z) (amKh G d mi pc pc' ls st (fun r M' => ∃ Z', M' = enc Z' ∧ Q r Z')) := by
  refine WP.mono h fun r M' ⟨Z1, h1, h2⟩ => ?_
  subst h1
  cases r with
  | inl v => exact h2
  | inr E => exact h2
def amInst (mj : MI) (ci n : Nat) : Prop := amOkM mj ∧ Cond.instanceMethod mj.1 ∈ amWs ∧ Cond.selects mj.1.cls mj.1 mj.1 ∈ amWs ∧ (∃ r, amCl[ci]? = some r ∧ r.1 = mj.1.cls) ∧ ci < 100 ∧ amNp mj n
def amStat (mj : MI) (n : Nat) : Prop := amOkM mj ∧ Cond.static mj.1 ∈ amWs ∧ amNp mj n
def amStatH (mj : MI) (n : Nat) : Prop := amOkH mj ∧ Cond.static mj.1 ∈ amWs ∧ amNp mj n
def amCtor (mj : MI) (n : Nat) : Prop := amOkM mj ∧ mj.2.2.2.1 = none ∧ Cond.instanceMethod mj.1 ∈ amWs ∧ mj.1.name = "<init>" ∧ amNp mj n
def amStrM (mj : MI) (n : Nat) : Prop := amOkM mj ∧ Cond.instanceMethod mj.1 ∈ amWs ∧ Cond.selects mj.1.cls mj.1 mj.1 ∈ amWs ∧ mj.1.cls = "java/lang/String" ∧ amNp mj n
/-- a contract that tells the end -/
theorem zKf {G : Gx} {d d' : Nat} {mi mj : MI} {pc' : Nat} {ls : LsT} {st av : List Value} {Z Z1 : Zm} {Q : Rv → Zm → Prop} {v : Option Value} (h : ZM G d' mj av Z (fun r Z' => r = .inl v ∧ Z' = Z1)) (k : ZP G d mi pc' ls (v.toList ++ st) Z1 Q) : ZM G d' mj av Z (zKc G d mi pc' ls st Q) :=
  h.mono fun r Z' ⟨h1, h2⟩ => by
    subst h1
    subst h2
    exact k
/-- a contract that tells when it throws -/
theorem zKt {G : Gx} {d d' : Nat} {mi mj : MI} {pc' : Nat} {ls : LsT} {st av : List Value} {Z Z1 Z2 : Zm} {Q : Rv → Zm → Prop} {v : Option Value} {E : String} {c : Prop} [Decidable c] (h : ZM G d' mj av Z (fun r Z' => if c then r = .inl v ∧ Z' = Z1 else r = .inr E ∧ Z' = Z2)) (k : if c then ZP G d mi pc' ls (v.toList ++ st) Z1 Q else Q (.inr E) Z2) : ZM G d' mj av Z (zKc G d mi pc' ls st Q) :=
  h.mono fun r Z' h1 => by
    by_cases hc : c
    · rw [if_pos hc] at h1 k
      obtain ⟨rfl, rfl⟩ := h1
      exact k
    · rw [if_neg hc] at h1 k
      obtain ⟨rfl, rfl⟩ := h1
      exact k
theorem am_ite {c : Prop} [Decidable c] {a b a' b' : Prop} (h : if c then a else b) (f : a → a') (g : b → b') : if c then a' else b' := by
  by_cases hc : c
  · rw [if_pos hc] at h ⊢
    exact f h
  · rw [if_neg hc] at h ⊢
    exact g h
theorem z_callV {G : Gx} {d d' : Nat} {mi mj : MI} {pc pc' idx n : Nat} {ls : LsT} {stk st av : List Value} {Z : Zm} {Q : Rv → Zm → Prop} {ci b : Nat} (hd : decode mi.2.1 pc = .ok (.invokevirtual idx, 3)) (hh : mi.2.2.2.2 = []) (hm : amInst mj ci n) (hl : amLk mi.1.cls idx mj.1) (hav : av.length = n) (hdd : d' + 1 ≤ d) (hent : (amEnt (.ref b :: av)).length ≤ mj.2.2.1) (hstk : stk = av.reverse ++ .ref b :: st) (hst : (st.map fun v => v.category).sum ≤ 8) (hb : b < zSz Z) (hk : zKd Z b = ci) (hp : pc + 3 = pc') (h : ZM G d' mj (.ref b :: av) Z (zKc G d mi pc' ls st Q)) : ZP G d mi pc ls stk Z Q := by
  obtain ⟨h1, h2, h3, ⟨r, h4, h5⟩, h6, h7⟩ := hm
  exact w_callV hd (am_vis mi hh pc) h1 hl h2 h3 h4 h5 h6 h7 hav hdd hent hstk hst hb hk hp (zKc_am h)
theorem z_callVH {G : Gx} {d d' : Nat} {mi mj : MI} {pc pc' idx n : Nat} {ls : LsT} {stk st av : List Value} {Z : Zm} {Q : Rv → Zm → Prop} {ci b : Nat} (hd : decode mi.2.1 pc = .ok (.invokevirtual idx, 3)) (hm : amInst mj ci n) (hl : Cond.methodLink mi.1.cls idx mj.1 ∈ amWs) (hav : av.length = n) (hdd : d' + 1 ≤ d) (hent : (amEnt (.ref b :: av)).length ≤ mj.2.2.1) (hstk : stk = av.reverse ++ .ref b :: st) (hst : (st.map fun v => v.category).sum ≤ 8) (hb : b < zSz Z) (hk : zKd Z b = ci) (hp : pc + 3 = pc') (h : ZM G d' mj (.ref b :: av) Z (zKh G d mi pc pc' ls st Q)) : ZP G d mi pc ls stk Z Q := by
  obtain ⟨h1, h2, h3, ⟨r, h4, h5⟩, h6, h7⟩ := hm
  exact w_callVH hd h1 hl h2 h3 h4 h5 h6 h7 hav hdd hent hstk hst hb hk hp (zKh_am h)
theorem z_callS {G : Gx} {d d' : Nat} {mi mj : MI} {pc pc' idx n : Nat} {ls : LsT} {stk st av : List Value} {Z : Zm} {Q : Rv → Zm → Prop} (hd : decode mi.2.1 pc = .ok (.invokestatic idx, 3)) (hh : mi.2.2.2.2 = []) (hm : amStat mj n) (hl : amLk mi.1.cls idx mj.1) (hav : av.length = n) (hdd : d' + 1 ≤ d) (hent : (amEnt av).length ≤ mj.2.2.1) (hstk : stk = av.reverse ++ st) (hst : (st.map fun v => v.category).sum ≤ 8) (hp : pc + 3 = pc') (h : ZM G d' mj av Z (zKc G d mi pc' ls st Q)) : ZP G d mi pc ls stk Z Q := by
  obtain ⟨h1, h2, h3⟩ := hm
  exact w_callS hd (am_vis mi hh pc) h1 hl h2 h3 hav hdd hent hstk hst hp (zKc_am h)
theorem z_callSH {G : Gx} {d d' : Nat} {mi mj : MI} {pc pc' idx n : Nat} {ls : LsT} {stk st av : List Value} {Z : Zm} {Q : Rv → Zm → Prop} (hd : decode mi.2.1 pc = .ok (.invokestatic idx, 3)) (hh : mi.2.2.2.2 = []) (hm : amStatH mj n) (hl : Cond.methodLink mi.1.cls idx mj.1 ∈ amWs) (hav : av.length = n) (hdd : d' + 1 ≤ d) (hent : (amEnt av).length ≤ mj.2.2.1) (hstk : stk = av.reverse ++ st) (hst : (st.map fun v => v.category).sum ≤ 8) (hp : pc + 3 = pc') (h : ZM G d' mj av Z (zKc G d mi pc' ls st Q)) : ZP G d mi pc ls stk Z Q := by
  obtain ⟨h1, h2, h3⟩ := hm
  exact w_callSH hd (am_vis mi hh pc) h1 hl h2 h3 hav hdd hent hstk hst hp (zKc_am h)
theorem z_callT {G : Gx} {d d' : Nat} {mi mj : MI} {pc pc' idx n : Nat} {ls : LsT} {stk st av : List Value} {Z : Zm} {Q : Rv → Zm → Prop} {i : Nat} (hd : decode mi.2.1 pc = .ok (.invokevirtual idx, 3)) (hh : mi.2.2.2.2 = []) (hm : amStrM mj n) (hi : i < 10) (hl : Cond.methodLink mi.1.cls idx mj.1 ∈ amWs) (hav : av.length = n) (hdd : d' + 1 ≤ d) (hent : (amEnt (.ref (1000000 + i) :: av)).length ≤ mj.2.2.1) (hstk : stk = av.reverse ++ .ref (1000000 + i) :: st) (hst : (st.map fun v => v.category).sum ≤ 8) (hp : pc + 3 = pc') (h : ZM G d' mj (.ref (1000000 + i) :: av) Z (zKc G d mi pc' ls st Q)) : ZP G d mi pc ls stk Z Q := by
  obtain ⟨h1, h2, h3, h4, h5⟩ := hm
  exact w_callT hd (am_vis mi hh pc) h1 hl h2 h3 h4 hi h5 hav hdd hent hstk hst hp (zKc_am h)
theorem z_callI {G : Gx} {d d' : Nat} {mi mj : MI} {pc pc' idx n : Nat} {ls : LsT} {stk st av : List Value} {Z : Zm} {Q : Rv → Zm → Prop} {b : Nat} (hd : decode mi.2.1 pc = .ok (.invokespecial idx, 3)) (hh : mi.2.2.2.2 = []) (hm : amCtor mj n) (hl : amLk mi.1.cls idx mj.1) (hav : av.length = n) (hdd : d' + 1 ≤ d) (hent : (amEnt (.ref b :: av)).length ≤ mj.2.2.1) (hstk : stk = av.reverse ++ .ref b :: st) (hst : (st.map fun v => v.category).sum ≤ 8) (hb : b < zSz Z) (hp : pc + 3 = pc') (h : ZM G d' mj (.ref b :: av) Z (zKc G d mi pc' ls st Q)) : ZP G d mi pc ls stk Z Q := by
  obtain ⟨h1, h2, h3, h4, h5⟩ := hm
  exact w_callI hd (am_vis mi hh pc) h1 h2 hl h3 h4 h5 hav hdd hent hstk hst hb hp (zKc_am h)
theorem z_objInit {G : Gx} {d : Nat} {mi : MI} {pc pc' idx a : Nat} {ls : LsT} {st : List Value} {Z : Zm} {Q : Rv → Zm → Prop} (hd : decode mi.2.1 pc = .ok (.invokespecial idx, 3)) (hl : Cond.methodLink mi.1.cls idx Lib.objectInit ∈ amWs) (hin : Cond.instanceMethod Lib.objectInit ∈ amWs) (hc : Cond.code Lib.objectInit ⟨#[0xb1]⟩ 1 none ∈ amWs) (hd1 : 1 ≤ d) (hst : (st.map fun v => v.category).sum ≤ 8) (hp : pc + 3 = pc') (k : ZP G d mi pc' ls st Z Q) : ZP G d mi pc ls (.ref a :: st) Z Q := w_objInit hd hl hin hc hd1 hst hp k
theorem z_throw {G : Gx} {d : Nat} {mi : MI} {pc ik is ic ci k1 : Nat} {ls : LsT} {st : List Value} {Z : Zm} {Q : Rv → Zm → Prop} {cls text : String} {bs : ByteArray} (h : amTh mi.1.cls ik ic cls ci k1 bs) (hs : Cond.stringRef mi.1.cls is text ∈ tables_1) (hh : mi.2.2.2.2 = []) (d0 : decode mi.2.1 pc = .ok (.new ik, 3)) (d3 : decode mi.2.1 (pc + 3) = .ok (.dup, 1)) (d4 : (decode mi.2.1 (pc + 4) = .ok (.ldc is, 2) ∧ decode mi.2.1 (pc + 6) = .ok (.invokespecial ic, 3) ∧ decode mi.2.1 (pc + 9) = .ok (.athrow, 1)) ∨ (decode mi.2.1 (pc + 4) = .ok (.ldc_w is, 3) ∧ decode mi.2.1 (pc + 7) = .ok (.invokespecial ic, 3) ∧ decode mi.2.1 (pc + 10) = .ok (.athrow, 1))) (hd : 6 ≤ d) (hst : (st.map fun v => v.category).sum ≤ 8) (hr : zSz Z < 1000000) (q : Q (.inr cls) (zC Z ci 0 6)) : ZP G d mi pc ls st Z Q := w_throw h hs hh d0 d3 d4 hd hst hr (by
  rw [enc_nC]
  exact ⟨_, rfl, q⟩)
