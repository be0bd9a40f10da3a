/-! ===== the model: its book is kept ===== -/
theorem atModel.re {Z Z' : Zm} {m B B' : Nat} (h : atModel Z m B) (s : zSz Z ≤ zSz Z') (x : ∀ a, a < zSz Z → zKd Z' a = zKd Z a ∧ zLn Z' a = zLn Z a) (r : ∀ i, i ≠ 0 → zR Z' m i = zR Z m i) (r4 : zR Z' (m + 4) = zR Z (m + 4)) (h0 : zR Z' m 0 = some B') (hB : zA Z' B' 100 412) : atModel Z' m B' :=
  have a : ∀ {b k n : Nat}, zA Z b k n → zA Z' b k n := fun {b k n} g => ⟨Nat.lt_of_lt_of_le g.1 s, (x b g.1).1.trans g.2.1, (x b g.1).2.trans g.2.2⟩
  ⟨⟨Nat.lt_of_lt_of_le h.o.1 s, (x m h.o.1).1.trans h.o.2⟩, h0, hB, (r 1 (by decide)).trans h.r1, a h.a1, (r 3 (by decide)).trans h.r3, a h.a3, (r 5 (by decide)).trans h.r5, a h.a5, fun i hi => by rw [r4]; exact h.e5 i hi, fun i hi => a (h.x5 i hi), (r 6 (by decide)).trans h.r6, a h.a6, (r 7 (by decide)).trans h.r7, a h.a7, (r 11 (by decide)).trans h.r11, a h.a11, (r 12 (by decide)).trans h.r12, a h.a12, (r 13 (by decide)).trans h.r13, a h.a13, (r 15 (by decide)).trans h.r15, a h.a15, (r 17 (by decide)).trans h.r17, a h.a17, (r 18 (by decide)).trans h.r18, a h.a18, (r 20 (by decide)).trans h.r20, a h.a20, (r 21 (by decide)).trans h.r21, a h.a21, (r 22 (by decide)).trans h.r22, a h.a22⟩
set_option maxRecDepth 20000 in
theorem e_X12_keeps {G : Gx} {Q : Rv → Zm → Prop} {Z : Zm} {m : Nat} {B : Nat} (hm : atModel Z m B) (h : ((R32 (zI Z m 2)) ∧ (if (zI Z m 2) = 10 then (ZP G 2 m_X12_keeps 11 [some (.ref m), some (iv 1)] [] Z Q) else (ZM G 1 m_X12_copied [.ref B] Z (zKc G 2 m_X12_keeps 62 [some (.ref m), none] [iv (zI Z m 2), .ref (m + 2)] Q))))) : ZM G 2 m_X12_keeps [.ref m] Z Q := ZM.of [some (.ref m), none] rfl <| z_aload_n (pc' := 1) (j := 0) (by decide +kernel) rfl rfl <| z_getI (pc' := 4) (idx := 72) (ci := 12) (f := 2) (by decide +kernel) f_RX12_72 rfl hm.o.1 hm.o.2 rfl <| z_bipush (pc' := 6) (n := 10) (by decide +kernel) (by decide) rfl <| h.elim fun c1 h => z_icmp_ne (pc' := 9) (tgt := 47) (off := 41) (by decide +kernel) (by decide) rfl c1 (by decide : R32 10) (am_ite h (fun h => z_iconst (pc' := 10) (n := 1) (by decide +kernel) rfl <| z_istore_n (pc' := 11) (j := 1) (ls' := [some (.ref m), some (iv 1)]) (by decide +kernel) (by decide) rfl rfl <| h) (fun h => z_aload_n (pc' := 48) (j := 0) (by decide +kernel) rfl rfl <| z_getR (pc' := 51) (idx := 14) (ci := 12) (f := 1) (by decide +kernel) f_RX12_14 rfl hm.o.1 hm.o.2 hm.r1 rfl <| z_aload_n (pc' := 52) (j := 0) (by decide +kernel) rfl rfl <| z_getI (pc' := 55) (idx := 72) (ci := 12) (f := 2) (by decide +kernel) f_RX12_72 rfl hm.o.1 hm.o.2 rfl <| z_aload_n (pc' := 56) (j := 0) (by decide +kernel) rfl rfl <| z_getR (pc' := 59) (idx := 9) (ci := 12) (f := 0) (by decide +kernel) f_RX12_9 rfl hm.o.1 hm.o.2 hm.r0 rfl <| z_callS (pc' := 62) (idx := 75) (mj := m_X12_copied) (av := [.ref B]) (d' := 1) (by decide +kernel) rfl k_X12_copied l_RX12_75 rfl (by omega) (am_le rfl) rfl (am_le rfl) rfl h))
set_option maxRecDepth 20000 in
theorem b_X12_keeps_11 {G : Gx} {Q : Rv → Zm → Prop} {Z : Zm} {m : Nat} {B : Nat} {v1 : Int} (hm : atModel Z m B) (h : ((R32 v1) ∧ (if 10 ≤ v1 then (∀ Z2, Z2 = zSI Z m (zu (zI Z m) 2 ((zI Z m 2) - 1)) → ZM G 1 m_X12_copied [.ref B] Z2 (zKc G 2 m_X12_keeps 62 [some (.ref m), none] [iv (zI Z2 m 2), .ref (m + 2)] Q)) else ((zIx v1 10) ∧ ∃ r4, (zR Z (m + 2) v1.toNat = some r4 ∧ zA Z r4 100 412) ∧ (zIx (v1 - 1) 10) ∧ ∀ Z6, Z6 = zSR Z (m + 2) (zu (zR Z (m + 2)) (v1 - 1).toNat (some r4)) → ZP G 2 m_X12_keeps 31 [some (.ref m), some (iv v1)] [] Z6 Q)))) : ZP G 2 m_X12_keeps 11 [some (.ref m), some (iv v1)] [] Z Q := z_iload_n (pc' := 12) (j := 1) (by decide +kernel) rfl rfl <| z_bipush (pc' := 14) (n := 10) (by decide +kernel) (by decide) rfl <| h.elim fun c1 h => z_icmp_ge (pc' := 17) (tgt := 37) (off := 23) (by decide +kernel) (by decide) rfl c1 (by decide : R32 10) (am_ite h (fun h => z_aload_n (pc' := 38) (j := 0) (by decide +kernel) rfl rfl <| z_dup (pc' := 39) (by decide +kernel) rfl rfl <| z_getI (pc' := 42) (idx := 72) (ci := 12) (f := 2) (by decide +kernel) f_RX12_72 rfl hm.o.1 hm.o.2 rfl <| z_iconst (pc' := 43) (n := 1) (by decide +kernel) rfl <| z_isub (pc' := 44) (by decide +kernel) rfl <| z_putI (pc' := 47) (idx := 72) (ci := 12) (f := 2) (by decide +kernel) f_RX12_72 (am_nf rfl rfl) rfl rfl rfl hm.o.1 hm.o.2 rfl <| have h := h _ rfl; z_aload_n (pc' := 48) (j := 0) (by decide +kernel) rfl rfl <| z_getR (pc' := 51) (idx := 14) (ci := 12) (f := 1) (by decide +kernel) f_RX12_14 rfl hm.o.1 hm.o.2 hm.r1 rfl <| z_aload_n (pc' := 52) (j := 0) (by decide +kernel) rfl rfl <| z_getI (pc' := 55) (idx := 72) (ci := 12) (f := 2) (by decide +kernel) f_RX12_72 rfl hm.o.1 hm.o.2 rfl <| z_aload_n (pc' := 56) (j := 0) (by decide +kernel) rfl rfl <| z_getR (pc' := 59) (idx := 9) (ci := 12) (f := 0) (by decide +kernel) f_RX12_9 rfl hm.o.1 hm.o.2 hm.r0 rfl <| z_callS (pc' := 62) (idx := 75) (mj := m_X12_copied) (av := [.ref B]) (d' := 1) (by decide +kernel) rfl k_X12_copied l_RX12_75 rfl (by omega) (am_le rfl) rfl (am_le rfl) rfl (ZM.mono h (zKc_wk (wk_some (wk_none wk_nil))))) (fun h => z_aload_n (pc' := 18) (j := 0) (by decide +kernel) rfl rfl <| z_getR (pc' := 21) (idx := 14) (ci := 12) (f := 1) (by decide +kernel) f_RX12_14 rfl hm.o.1 hm.o.2 hm.r1 rfl <| z_iload_n (pc' := 22) (j := 1) (by decide +kernel) rfl rfl <| z_iconst (pc' := 23) (n := 1) (by decide +kernel) rfl <| z_isub (pc' := 24) (by decide +kernel) rfl <| z_aload_n (pc' := 25) (j := 0) (by decide +kernel) rfl rfl <| z_getR (pc' := 28) (idx := 14) (ci := 12) (f := 1) (by decide +kernel) f_RX12_14 rfl hm.o.1 hm.o.2 hm.r1 rfl <| z_iload_n (pc' := 29) (j := 1) (by decide +kernel) rfl rfl <| h.elim fun c3 h => h.elim fun r4 h => h.elim fun hr4 h => z_aaload120 (pc' := 30) (by decide +kernel) hm.a1 c3 hr4.1 rfl <| h.elim fun c5 h => z_aastore120 (pc' := 31) (by decide +kernel) hm.a1 c5 hr4.2.1 hr4.2.2.1 rfl <| have h := h _ rfl; h))
set_option maxRecDepth 20000 in
theorem b_X12_keeps_62 {G : Gx} {Q : Rv → Zm → Prop} {Z : Zm} {r62 : Nat} {m : Nat} {B : Nat} {s1 : Int} (hm : atModel Z m B) (hr62 : zA Z r62 100 412) (h : ((zIx s1 10) ∧ ∀ Z2, Z2 = zSR Z (m + 2) (zu (zR Z (m + 2)) s1.toNat (some r62)) → ZP G 2 m_X12_keeps 63 [some (.ref m), none] [] Z2 Q)) : ZP G 2 m_X12_keeps 62 [some (.ref m), none] [.ref r62, iv s1, .ref (m + 2)] Z Q := h.elim fun c1 h => z_aastore120 (pc' := 63) (by decide +kernel) hm.a1 c1 hr62.1 hr62.2.1 rfl <| have h := h _ rfl; h
set_option maxRecDepth 20000 in
theorem b_X12_keeps_31 {G : Gx} {Q : Rv → Zm → Prop} {Z : Zm} {m : Nat} {B : Nat} {v1 : Int} (hm : atModel Z m B) (h : (ZP G 2 m_X12_keeps 11 [some (.ref m), some (iv (v1 + 1))] [] Z Q)) : ZP G 2 m_X12_keeps 31 [some (.ref m), some (iv v1)] [] Z Q := z_iinc (pc' := 34) (j := 1) (n := 1) (x := v1) (ls' := [some (.ref m), some (iv (v1 + 1))]) (by decide +kernel) rfl (by decide) rfl rfl <| z_goto (tgt := 11) (off := -23) (by decide +kernel) (by decide) <| h
set_option maxRecDepth 20000 in
theorem b_X12_keeps_63 {G : Gx} {Q : Rv → Zm → Prop} {Z : Zm} {m : Nat} {B : Nat}  (hm : atModel Z m B) (h : (∀ Z1, Z1 = zSI Z m (zu (zI Z m) 2 ((zI Z m 2) + 1)) → ∀ Z2, Z2 = zSI Z1 m (zu (zI Z1 m) 9 0) → Q (.inl none) Z2)) : ZP G 2 m_X12_keeps 63 [some (.ref m), none] [] Z Q := z_aload_n (pc' := 64) (j := 0) (by decide +kernel) rfl rfl <| z_dup (pc' := 65) (by decide +kernel) rfl rfl <| z_getI (pc' := 68) (idx := 72) (ci := 12) (f := 2) (by decide +kernel) f_RX12_72 rfl hm.o.1 hm.o.2 rfl <| z_iconst (pc' := 69) (n := 1) (by decide +kernel) rfl <| z_iadd (pc' := 70) (by decide +kernel) rfl <| z_putI (pc' := 73) (idx := 72) (ci := 12) (f := 2) (by decide +kernel) f_RX12_72 (am_nf rfl rfl) rfl rfl rfl hm.o.1 hm.o.2 rfl <| have h := h _ rfl; z_aload_n (pc' := 74) (j := 0) (by decide +kernel) rfl rfl <| z_iconst (pc' := 75) (n := 0) (by decide +kernel) rfl <| z_putI (pc' := 78) (idx := 79) (ci := 12) (f := 9) (by decide +kernel) f_RX12_79 (am_nf rfl rfl) rfl (iN_narB (Or.inl rfl)) rfl hm.o.1 hm.o.2 rfl <| have h := h _ rfl; z_ret (by decide +kernel) rfl h
theorem am_nfL {ci f : Nat} {v : vw_C} {P : vw_C → Prop} (h : amCl[ci]? = some v) (hb : (v.2.1 f).2.2.2 = false) : ∀ r, amCl[ci]? = some r → (r.2.1 f).2.2.2 = false ∨ P r := fun r hr => Or.inl (am_nf h hb r hr)
theorem am_nfF {ci f : Nat} {v : vw_C} {P : vw_C → Prop} (h : amCl[ci]? = some v) (hb : (v.2.1 f).2.2.2 = true) (hp : P v) : ∀ r, amCl[ci]? = some r → (r.2.1 f).2.2.2 = false ∨ ((r.2.1 f).2.2.2 = true ∧ P r) := fun r hr => by
  rw [h] at hr
  cases hr
  exact Or.inr ⟨hb, hp⟩
theorem fC_1 {P : Prop} [Decidable P] {q r : Int} (h : P) : fC (b2 P) q r = 1 := by
  rw [b2_p h]
  rfl
theorem fC_2 {P Q : Prop} [Decidable P] [Decidable Q] {r : Int} (h : ¬ P) (k : Q) : fC (b2 P) (b2 Q) r = 2 := by
  rw [b2_f h, b2_p k]
  rfl
theorem fC_2' {P : Prop} [Decidable P] {r : Int} (h : ¬ P) : fC (b2 P) 1 r = 2 := by
  rw [b2_f h]
  rfl
theorem fC_3 {P Q R : Prop} [Decidable P] [Decidable Q] [Decidable R] (h : ¬ P) (k : ¬ Q) (g : R) : fC (b2 P) (b2 Q) (b2 R) = 3 := by
  rw [b2_f h, b2_f k, b2_p g]
  rfl
theorem fC_o1 {P : Prop} [Decidable P] (h : ¬ P) : fC (b2 P) 0 0 = 0 := by
  rw [b2_f h]
  rfl
theorem fC_o2 {P Q : Prop} [Decidable P] [Decidable Q] (h : ¬ P) (k : ¬ Q) : fC (b2 P) (b2 Q) 0 = 0 := by
  rw [b2_f h, b2_f k]
  rfl
theorem fC_o3 {P Q R : Prop} [Decidable P] [Decidable Q] [Decidable R] (h : ¬ P) (k : ¬ Q) (g : ¬ R) : fC (b2 P) (b2 Q) (b2 R) = 0 := by
  rw [b2_f h, b2_f k, b2_f g]
  rfl
/-- how a call of the model ends -/
abbrev zT (Z : Zm) (c : Int) : Zm := zSI Z 300 (zu (zI Z 300) 19 c)
def rM (Z : Zm) (f : Int → Value) (o : Ou) : Rv → Zm → Prop := fun r Z' => (∃ v, r = .inl (some (f v)) ∧ (o.1 = 0 → v = o.2.1)) ∧ zI Z' 300 19 = (o.1 : Int) ∧ IM Z' o.2.2 ∧ zV 250 6000 Z Z'
theorem IMb.big {Z : Zm} {B : Nat} {σ : St} (h : IMb Z B σ) (hz : 322 ≤ zSz Z) : B ≠ 300 ∧ (B = 301 ∨ 322 ≤ B) ∧ B < zSz Z := by
  have h1 := h.2.1
  have h2 := h.1.a0.1
  omega
theorem IMb.t {Z : Zm} {B : Nat} {σ : St} (h : IMb Z B σ) (c : Int) : IMb (zT Z c) B σ :=
  h.fr (S := fun a => a = 300) (zF_I rfl) (fun a g => Or.inl (by omega)) fun i hi => by rw [zI_same, zu_other (by omega)]
theorem zV_I {Z : Zm} {a : Nat} {f : Nat → Int} (h : 300 ≤ a ∧ a ≠ 320 ∧ a ≠ 321) : zV 0 0 Z (zSI Z a f) := ⟨⟨Nat.le_refl _, Nat.le_refl _, Nat.le_refl _, Nat.le_refl _⟩, fun b hb => ⟨⟨rfl, rfl, rfl⟩, zI_other (by omega), rfl, rfl⟩⟩
theorem zV_t {Z : Zm} {c : Int} : zV 0 0 Z (zT Z c) := zV_I (by decide)
theorem zV_C {Z : Zm} {k n w : Nat} (hz : 322 ≤ zSz Z) : zV 1 w Z (zC Z k n w) := zF.v (S := zNo) zF_C hz fun _ g => g.elim
theorem zI_t (Z : Zm) (c : Int) : zI (zT Z c) 300 19 = c := by rw [zI_same, zu_same]
theorem rM.no {Z : Zm} {f : Int → Value} {σ : St} {c : Nat} {v w : Int} {B : Nat} {x : Int} (h : IMb Z B σ) (hc : c ≠ 0) (e : x = (c : Int)) : rM Z f (c, v, σ) (.inl (some (f w))) (zT Z x) := ⟨⟨w, rfl, fun g => absurd g hc⟩, by rw [zI_t, e], ⟨B, h.t _⟩, zV_t.mono (by omega) (by omega)⟩
theorem rM.ok {Z Z' : Zm} {f : Int → Value} {σ : St} {v w : Int} {B : Nat} {c d : Nat} (h : IMb Z' B σ) (t : zI Z' 300 19 = 0) (fr : zV c d Z Z') (hc : c ≤ 250) (hd : d ≤ 6000) (e : w = v) : rM Z f (0, v, σ) (.inl (some (f w))) Z' := ⟨⟨w, rfl, fun _ => e⟩, t, ⟨B, h⟩, fr.mono hc hd⟩
theorem rM.st {Z : Zm} {f : Int → Value} {σ : St} {v w : Int} {B : Nat} {x : Int} (h : IMb Z B σ) (x0 : x = 0) (e : w = v) : rM Z f (0, v, σ) (.inl (some (f w))) (zT Z x) := rM.ok (h.t _) (by rw [zI_t, x0]) zV_t (by omega) (by omega) e
theorem zSR_same (Z : Zm) (a : Nat) (f : Nat → Option Nat) : zR (zSR Z a f) a = f := if_pos rfl
theorem zSR_other {Z : Zm} {a b : Nat} {f : Nat → Option Nat} (h : b ≠ a) : zR (zSR Z a f) b = zR Z b := if_neg h
theorem zSR_zSR (Z : Zm) (a : Nat) (f g : Nat → Option Nat) : zSR (zSR Z a f) a g = zSR Z a g := by
  show (_, _, _, _, _, _, _, zu (zu (zR Z) a f) a g) = (_, _, _, _, _, _, _, zu (zR Z) a g)
  rw [zu_zu]
  rfl
theorem zSR_id (Z : Zm) (a : Nat) : zSR Z a (zR Z a) = Z := by
  show (_, _, _, _, _, _, _, zu (zR Z) a (zR Z a)) = _
  rw [zu_id]
  rfl
theorem atModel.r302 {Z : Zm} {B : Nat} {f : Nat → Option Nat} (h : atModel Z 300 B) : atModel (zSR Z 302 f) 300 B :=
  h.re (Nat.le_refl _) (fun _ _ => ⟨rfl, rfl⟩) (fun i _ => by rw [zSR_other (by decide)]) (zSR_other (by decide)) (by rw [zSR_other (by decide)]; exact h.r0) h.a0
/-- the rest of the state, where kept and the row are other ones -/
theorem IMb.re {Z Z' : Zm} {B B' : Nat} {σ : St} {k : Bk} {n : Nat} {hb : Nat → Bk} {tn : Nat} (h : IMb Z B σ) (hm : atModel Z' 300 B') (e : ∀ a, a < 320 → a ≠ 300 → a ≠ 301 → zI Z' a = zI Z a) (h16 : zI Z' 300 16 = zI Z 300 16) (h4 : zI Z' 300 4 = zI Z 300 4) (h8 : zI Z' 300 8 = (tn : Int)) (ht : tn ≤ sTn σ) (h9 : zI Z' 300 9 = 0) (h2 : zI Z' 300 2 = (n : Int)) (hB : B' = 301 ∨ 322 ≤ B') (hk : cM Z' B' k) (hr : ∀ i, i < n → ∃ r, zR Z' 302 i = some r ∧ zA Z' r 100 412 ∧ 322 ≤ r ∧ r ≠ B' ∧ cM Z' r (hb (n - 1 - i))) : IMb Z' B' (stT (stP (stH (stK σ k) n hb) none) tn (sTs σ)) := by
  obtain ⟨a0, a1, a2, ⟨a3, a3'⟩, ⟨a4, a4'⟩, a5, a6, ⟨a7, a7'⟩, a8, ⟨a9, a9'⟩⟩ := h
  refine ⟨hm, hB, hk, ⟨h2, hr⟩, ⟨h4.trans a4, ?_⟩, fun c h g1 g2 => ?_, ?_, ⟨h8, ?_⟩, ⟨fun _ => h9, fun p e => by cases e⟩, ⟨h16.trans a9, ?_⟩⟩
  · rw [e 303 (by omega) (by omega) (by omega)]
    exact a4'
  · rw [e (305 + c) (by omega) (by omega) (by omega)]
    exact a5 c h g1 g2
  · rw [e 309 (by omega) (by omega) (by omega)]
    exact a6
  · rw [e 310 (by omega) (by omega) (by omega)]
    exact fun i hi => a7' i (Nat.lt_of_lt_of_le hi ht)
  · rw [e 314 (by omega) (by omega) (by omega)]
    exact a9'
/-- what a change of the model's book does -/
theorem s_keeps2 {G : Gx} {Z : Zm} {B : Nat} {σ : St} (h : IMb Z B σ) (ho : okS σ) (hz : 322 ≤ zSz Z ∧ zSz Z < 1000000) : ZM G 2 m_X12_keeps [.ref 300] Z (fun r Z' => r = .inl none ∧ IMb Z' B (stKeep σ) ∧ zV 1 412 Z Z' ∧ zI Z' 300 19 = zI Z 300 19 ∧ (∀ a, a < zSz Z → a ≠ 300 → zI Z' a = zI Z a ∧ zKd Z' a = zKd Z a ∧ zLn Z' a = zLn Z a) ∧ ∀ y, y < zSz Z → (∀ i r, i < sHn σ → zR Z 302 i = some r → r ≠ y) → ∀ i r, i < sHn (stKeep σ) → zR Z' 302 i = some r → r ≠ y) := by
  obtain ⟨hB1, hB2, hB3⟩ := h.big hz.1
  have hm := h.1
  have hN := ho.1.n
  have hM := ho.1.m
  obtain ⟨h2, hr⟩ := h.2.2.2.1
  have hn := ho.2.1.1
  -- behind the copy
  have fin : ∀ (Z0 W : Zm) (a n : Nat) (g : Nat → Option Nat), n < 10 → zV 0 0 Z Z0 → (zSz Z0 = zSz Z ∧ zR Z0 302 = g ∧ (∀ b, b ≠ 300 → zI Z0 b = zI Z b) ∧ (∀ i, i ≠ 2 → zI Z0 300 i = zI Z 300 i) ∧ (∀ b, zKd Z0 b = zKd Z b ∧ zLn Z0 b = zLn Z b) ∧ ∀ b, b ≠ 302 → zR Z0 b = zR Z b) → zI Z0 300 2 = (n : Int) → (∀ i, i < n → ∃ r, g i = some r ∧ zA Z r 100 412 ∧ 322 ≤ r ∧ r ≠ B ∧ cM Z r (sHb σ (n - 1 - i))) → (∀ i, i < n → ∃ j, j < sHn σ ∧ g i = zR Z 302 j) → n + 1 = min (sHn σ + 1) 10 → a = zSz Z0 → zF zNo 1 412 Z0 W → zA W a 100 412 → (∀ i, i < 412 → zI W a i = zI Z0 B i) → ZP G 2 m_X12_keeps 62 [some (.ref 300), none] [.ref a, iv (n : Int), .ref 302] W (fun r Z' => r = .inl none ∧ IMb Z' B (stKeep σ) ∧ zV 1 412 Z Z' ∧ zI Z' 300 19 = zI Z 300 19 ∧ (∀ a, a < zSz Z → a ≠ 300 → zI Z' a = zI Z a ∧ zKd Z' a = zKd Z a ∧ zLn Z' a = zLn Z a) ∧ ∀ y, y < zSz Z → (∀ i r, i < sHn σ → zR Z 302 i = some r → r ≠ y) → ∀ i r, i < sHn (stKeep σ) → zR Z' 302 i = some r → r ≠ y) := by
    intro Z0 W a n g hn10 v0 ⟨z1, z2, z3, z4, z5, z6⟩ e2 hg hg2 hmin ha f hA hI
    have hm0 : atModel Z0 300 B := hm.re (by omega) (fun b _ => z5 b) (fun i _ => by rw [z6 300 (by omega)]) (z6 304 (by omega)) (by rw [z6 300 (by omega)]; exact hm.r0) (by
      have := hm.a0
      exact ⟨by omega, (z5 B).1.trans this.2.1, (z5 B).2.trans this.2.2⟩)
    have hmW := hm0.ext f.1
    refine b_X12_keeps_62 hmW hA ⟨zIx_nat hn10 (by omega), ?_⟩
    rintro _ rfl
    rw [Int.toNat_natCast]
    have eR : zR W 302 = g := by
      have := (f.1.2 302 hm0.a1.1).2.2
      rw [this]
      exact z2
    rw [show (300 : Nat) + 2 = 302 from rfl, eR]
    refine b_X12_keeps_63 (hmW.r302 (f := zu g n (some a))) ?_
    rintro _ rfl
    rw [zI_same]
    rintro _ rfl
    have eW : ∀ b, b < zSz Z0 → zI W b = zI Z0 b := fun b hb => f.i hb fun g => g
    have e300 : zI (zSR W 302 (zu g n (some a))) 300 = zI Z0 300 := eW 300 (by omega)
    rw [e300, zSI_zSI]
    have hsz := f.1.1
    have hfz := f.2.1
    have eI : ∀ b, b < zSz Z → b ≠ 300 → zI (zSI (zSR W 302 (zu g n (some a))) 300 (zu (zu (zI Z0 300) 2 (zI Z0 300 2 + 1)) 9 0)) b = zI Z b := fun b hb hb3 => by
      rw [zI_other hb3]
      exact (eW b (by omega)).trans (z3 b hb3)
    have h300 : zI (zSI (zSR W 302 (zu g n (some a))) 300 (zu (zu (zI Z0 300) 2 (zI Z0 300 2 + 1)) 9 0)) 300 = zu (zu (zI Z0 300) 2 (zI Z0 300 2 + 1)) 9 0 := zI_same _ _ _
    have cB9 : ∀ r k, zA Z r 100 412 → r ≠ 300 → cM Z r k → kN k ≤ 20 ∧ kM k ≤ 50 → cM (zSI (zSR W 302 (zu g n (some a))) 300 (zu (zu (zI Z0 300) 2 (zI Z0 300 2 + 1)) 9 0)) r k := fun r k r1 r2 r3 r4 => r3.of (fun i _ => by rw [eI r r1.1 r2]) r4
    refine ⟨rfl, ?_, ?_, ?_, fun b hb h3 => ⟨eI b hb h3, (f.1.2 b (by omega)).1.trans (z5 b).1, (f.1.2 b (by omega)).2.1.trans (z5 b).2⟩, fun y hy hr9 i r hi e9 => ?_⟩
    · have key := h.re (Z' := zSI (zSR W 302 (zu g n (some a))) 300 (zu (zu (zI Z0 300) 2 (zI Z0 300 2 + 1)) 9 0)) (B' := B) (k := sK σ) (n := n + 1) (hb := kpush (sHb σ) (sK σ)) (tn := sTn σ) (hmW.r302 (f := zu g n (some a))) (fun b g1 g2 g3 => eI b (by omega) g2) (by rw [h300, zu_other (by decide), zu_other (by decide), z4 16 (by decide)]) (by rw [h300, zu_other (by decide), zu_other (by decide), z4 4 (by decide)]) (by rw [h300, zu_other (by decide), zu_other (by decide), z4 8 (by decide)]; exact h.2.2.2.2.2.2.2.1.1) (Nat.le_refl _) (by rw [h300, zu_same]) (by rw [h300, zu_other (by decide), zu_same, e2]; omega) h.2.1 (cB9 B _ hm.a0 hB1 h.2.2.1 ⟨hN, hM⟩) fun i hi => by
        have er : zR (zSI (zSR W 302 (zu g n (some a))) 300 (zu (zu (zI Z0 300) 2 (zI Z0 300 2 + 1)) 9 0)) 302 = zu g n (some a) := zSR_same W 302 (zu g n (some a))
        rw [er]
        by_cases c : i = n
        · rw [c, zu_same]
          refine ⟨a, rfl, hA, by omega, by omega, ?_⟩
          have e0 : kpush (sHb σ) (sK σ) (n + 1 - 1 - n) = sK σ := if_pos (by omega)
          rw [e0]
          refine h.2.2.1.of (fun i hi => ?_) ⟨hN, hM⟩
          rw [zI_other (by omega)]
          exact (hI i hi).trans (by rw [z3 B hB1])
        · rw [zu_other c]
          obtain ⟨r, r1, r2, r3, r4, r5⟩ := hg i (by omega)
          have hr2 : zA W r 100 412 := by
            have x1 : zA Z0 r 100 412 := ⟨by have := r2.1; omega, (z5 r).1.trans r2.2.1, (z5 r).2.trans r2.2.2⟩
            exact x1.ext f.1
          refine ⟨r, r1, hr2, r3, r4, ?_⟩
          have e0 : kpush (sHb σ) (sK σ) (n + 1 - 1 - i) = sHb σ (n - 1 - i) := (if_neg (by omega)).trans (by rw [show n + 1 - 1 - i - 1 = n - 1 - i by omega])
          rw [e0]
          have hk9 := (ho.2.1.2 (n - 1 - i) (by omega))
          exact cB9 r _ r2 (by omega) r5 ⟨hk9.n, hk9.m⟩
      rw [hmin] at key
      exact key
    · exact (((v0.trans (zF.v f (by omega) fun _ g => g.elim)).trans (zV_R (by decide))).trans (zV_I (by decide))).mono (by omega) (by omega)
    · rw [h300, zu_other (by decide), zu_other (by decide), z4 19 (by decide)]
    · have er : zR (zSI (zSR W 302 (zu g n (some a))) 300 (zu (zu (zI Z0 300) 2 (zI Z0 300 2 + 1)) 9 0)) 302 = zu g n (some a) := zSR_same W 302 (zu g n (some a))
      rw [er] at e9
      have hi' : i < min (sHn σ + 1) 10 := hi
      by_cases c : i = n
      · rw [c, zu_same] at e9
        cases e9
        omega
      · rw [zu_other c] at e9
        obtain ⟨j, j1, j2⟩ := hg2 i (by omega)
        exact hr9 j r j1 (by rw [← j2]; exact e9)
  refine e_X12_keeps hm ⟨by omega, ?_⟩
  by_cases c : sHn σ = 10
  · rw [if_pos (by omega)]
    -- the rows are moved
    have shf : ∀ j, j ≤ 9 → ZP G 2 m_X12_keeps 11 [some (.ref 300), some (iv (((j : Nat) : Int) + 1))] [] (zSR Z 302 (fun i => if i < j then zR Z 302 (i + 1) else zR Z 302 i)) (fun r Z' => r = .inl none ∧ IMb Z' B (stKeep σ) ∧ zV 1 412 Z Z' ∧ zI Z' 300 19 = zI Z 300 19 ∧ (∀ a, a < zSz Z → a ≠ 300 → zI Z' a = zI Z a ∧ zKd Z' a = zKd Z a ∧ zLn Z' a = zLn Z a) ∧ ∀ y, y < zSz Z → (∀ i r, i < sHn σ → zR Z 302 i = some r → r ≠ y) → ∀ i r, i < sHn (stKeep σ) → zR Z' 302 i = some r → r ≠ y) := by
      refine am_up (n := 9) fun j hj ih => ?_
      refine b_X12_keeps_11 hm.r302 ⟨by omega, ?_⟩
      by_cases d : j < 9
      · rw [if_neg (by omega)]
        obtain ⟨r, r1, r2, -⟩ := hr (j + 1) (by omega)
        refine ⟨⟨by omega, by omega, by omega⟩, r, ⟨?_, r2⟩, ⟨by omega, by omega, by omega⟩, ?_⟩
        · rw [show (300 : Nat) + 2 = 302 from rfl, zSR_same, show ((j : Int) + 1).toNat = j + 1 by omega, if_neg (by omega)]
          exact r1
        · rintro _ rfl
          rw [show (300 : Nat) + 2 = 302 from rfl, zSR_same, zSR_zSR]
          refine b_X12_keeps_31 hm.r302 ?_
          have h9 := ih d
          have e : zu (fun i => if i < j then zR Z 302 (i + 1) else zR Z 302 i) ((j : Int) + 1 - 1).toNat (some r) = fun i => if i < j + 1 then zR Z 302 (i + 1) else zR Z 302 i := funext fun i => by
            rw [show ((j : Int) + 1 - 1).toNat = j by omega]
            unfold zu
            by_cases q : i = j
            · rw [if_pos q, if_pos (by omega), q, r1]
            · rw [if_neg q]
              show (if i < j then zR Z 302 (i + 1) else zR Z 302 i) = _
              by_cases q2 : i < j
              · rw [if_pos q2, if_pos (by omega)]
              · rw [if_neg q2, if_neg (by omega)]
          rw [e]
          exact h9
      · rw [if_pos (by omega)]
        have ej : j = 9 := by omega
        subst ej
        rintro _ rfl
        have e1 : zI (zSR Z 302 (fun i => if i < 9 then zR Z 302 (i + 1) else zR Z 302 i)) 300 = zI Z 300 := rfl
        rw [e1, h2, show (sHn σ : Int) - 1 = ((9 : Nat) : Int) by omega]
        refine ((s_copied (G := G) (Z := zSI (zSR Z 302 (fun i => if i < 9 then zR Z 302 (i + 1) else zR Z 302 i)) 300 (zu (zI Z 300) 2 ((9 : Nat) : Int))) (n := 412) (u := B) hm.a0 (by omega) hz.2).deeper (by omega)).mono ?_
        rintro r W ⟨rfl, f, hA, hI⟩
        rw [zI_same, zu_same]
        refine fin _ W _ 9 (fun i => if i < 9 then zR Z 302 (i + 1) else zR Z 302 i) (by omega) ((zV_R (by decide)).trans (zV_I (by decide))) ⟨rfl, zSR_same _ _ _, fun b hb => zI_other hb, fun i hi => ?_, fun b => ⟨rfl, rfl⟩, fun b hb => zSR_other hb⟩ ?_ (fun i hi => ?_) (fun i hi => ⟨i + 1, by omega, if_pos hi⟩) (by omega) rfl f hA hI
        · rw [zI_same, zu_other hi]
        · rw [zI_same, zu_same]
        · obtain ⟨r, r1, r2, r3, r4, r5⟩ := hr (i + 1) (by omega)
          refine ⟨r, ?_, r2, r3, r4, ?_⟩
          · show (if i < 9 then zR Z 302 (i + 1) else zR Z 302 i) = _
            rw [if_pos hi]
            exact r1
          · rw [show 9 - 1 - i = sHn σ - 1 - (i + 1) by omega]
            exact r5
    have h9 := shf 0 (by omega)
    have e : (fun i => if i < 0 then zR Z 302 (i + 1) else zR Z 302 i) = zR Z 302 := funext fun i => if_neg (Nat.not_lt_zero _)
    rw [e, zSR_id] at h9
    exact h9
  · rw [if_neg (by omega)]
    refine ((s_copied (G := G) (n := 412) (u := B) hm.a0 (by omega) hz.2).deeper (by omega)).mono ?_
    rintro r W ⟨rfl, f, hA, hI⟩
    rw [h2]
    exact fin Z W _ (sHn σ) (zR Z 302) (by omega) zV.rfl ⟨rfl, rfl, fun _ _ => rfl, fun _ _ => rfl, fun _ => ⟨rfl, rfl⟩, fun _ _ => rfl⟩ h2 hr (fun i hi => ⟨i, hi, rfl⟩) (by omega) rfl f hA hI
theorem s_keeps {G : Gx} {Z : Zm} {B : Nat} {σ : St} (h : IMb Z B σ) (ho : okS σ) (hz : 322 ≤ zSz Z ∧ zSz Z < 1000000) : ZM G 2 m_X12_keeps [.ref 300] Z (fun r Z' => r = .inl none ∧ IMb Z' B (stKeep σ) ∧ zV 1 412 Z Z' ∧ zI Z' 300 19 = zI Z 300 19) :=
  (s_keeps2 h ho hz).mono fun r Z' g => ⟨g.1, g.2.1, g.2.2.1, g.2.2.2.1⟩
