/-! ===== shapes again: what lies outside may change ===== -/
def zLo (lo hi : Nat) (Z Z' : Zm) : Prop := zSz Z ≤ zSz Z' ∧ ∀ a, lo ≤ a → a < hi → zKd Z' a = zKd Z a ∧ zLn Z' a = zLn Z a ∧ zR Z' a = zR Z a
theorem zA.loc {Z Z' : Zm} {lo hi a k n : Nat} (x : zLo lo hi Z Z') (h1 : lo ≤ a) (h2 : a < hi) (h : zA Z a k n) : zA Z' a k n := by
  obtain ⟨e1, e2, e3⟩ := x.2 a h1 h2
  exact ⟨Nat.lt_of_lt_of_le h.1 x.1, e1.trans h.2.1, e2.trans h.2.2⟩
theorem zO.loc {Z Z' : Zm} {lo hi a k : Nat} (x : zLo lo hi Z Z') (h1 : lo ≤ a) (h2 : a < hi) (h : zO Z a k) : zO Z' a k := ⟨Nat.lt_of_lt_of_le h.1 x.1, (x.2 a h1 h2).1.trans h.2⟩
theorem zR.loc {Z Z' : Zm} {lo hi a k : Nat} {v : Option Nat} (x : zLo lo hi Z Z') (h1 : lo ≤ a) (h2 : a < hi) (h : zR Z a k = v) : zR Z' a k = v := by
  rw [(x.2 a h1 h2).2.2]
  exact h
theorem zLo.mono {Z Z' : Zm} {lo hi lo' hi' : Nat} (x : zLo lo hi Z Z') (h1 : lo ≤ lo') (h2 : hi' ≤ hi) : zLo lo' hi' Z Z' := ⟨x.1, fun a g1 g2 => x.2 a (by omega) (by omega)⟩
theorem atBook.loc {Z Z' : Zm} {b : Nat} (x : zLo b (b + 19) Z Z') (h : atBook Z b) : atBook Z' b := ⟨h.o.loc x (by omega) (by omega), zR.loc x (by omega) (by omega) h.r0, h.a0.loc x (by omega) (by omega), fun i hi => zR.loc x (by omega) (by omega) (h.e0 i hi), fun i hi => (h.x0 i hi).loc x (by omega) (by omega), zR.loc x (by omega) (by omega) h.r1, h.a1.loc x (by omega) (by omega), fun i hi => zR.loc x (by omega) (by omega) (h.e1 i hi), fun i hi => (h.x1 i hi).loc x (by omega) (by omega), zR.loc x (by omega) (by omega) h.r2, h.a2.loc x (by omega) (by omega)⟩
theorem atClock.loc {Z Z' : Zm} {c : Nat} (x : zLo c (c + 8) Z Z') (h : atClock Z c) : atClock Z' c := ⟨h.o.loc x (by omega) (by omega), zR.loc x (by omega) (by omega) h.r0, h.a0.loc x (by omega) (by omega), fun i hi => zR.loc x (by omega) (by omega) (h.e0 i hi), fun i hi => (h.x0 i hi).loc x (by omega) (by omega), zR.loc x (by omega) (by omega) h.r1, h.a1.loc x (by omega) (by omega), zR.loc x (by omega) (by omega) h.r2, h.a2.loc x (by omega) (by omega)⟩
theorem atCrane.loc {Z Z' : Zm} {s b n : Nat} (x : zLo s (s + 10) Z Z') (h : atCrane Z s b n) : atCrane Z' s b n := ⟨h.o.loc x (by omega) (by omega), zR.loc x (by omega) (by omega) h.r0, zR.loc x (by omega) (by omega) h.r1, zR.loc x (by omega) (by omega) h.r2, h.a2.loc x (by omega) (by omega), zR.loc x (by omega) (by omega) h.r3, h.a3.loc x (by omega) (by omega), zR.loc x (by omega) (by omega) h.r4, h.a4.loc x (by omega) (by omega), fun i hi => zR.loc x (by omega) (by omega) (h.e4 i hi), fun i hi => (h.x4 i hi).loc x (by omega) (by omega)⟩
theorem atHist.loc {Z Z' : Zm} {q : Nat} (x : zLo q (q + 192) Z Z') (h : atHist Z q) : atHist Z' q := ⟨h.o.loc x (by omega) (by omega), zR.loc x (by omega) (by omega) h.r0, h.a0.loc x (by omega) (by omega), fun i hi => zR.loc x (by omega) (by omega) (h.e0 i hi), fun i hi => (h.x0 i hi).loc (x.mono (by omega) (by omega))⟩
theorem atLevels.loc {Z Z' : Zm} {s b n : Nat} (x : zLo s (s + 2) Z Z') (h : atLevels Z s b n) (hc : zA Z' (b + 2) 100 20) : atLevels Z' s b n := ⟨h.o.loc x (by omega) (by omega), zR.loc x (by omega) (by omega) h.r0, zR.loc x (by omega) (by omega) h.r1, hc, zR.loc x (by omega) (by omega) h.r2, h.a2.loc x (by omega) (by omega)⟩
theorem atLike.loc {Z Z' : Zm} {s b n : Nat} (x : zLo s (s + 2) Z Z') (h : atLike Z s b n) : atLike Z' s b n := ⟨h.o.loc x (by omega) (by omega), zR.loc x (by omega) (by omega) h.r0, zR.loc x (by omega) (by omega) h.r1, zR.loc x (by omega) (by omega) h.r2, h.a2.loc x (by omega) (by omega)⟩
theorem atMoney.loc {Z Z' : Zm} {s b n : Nat} (x : zLo s (s + 4) Z Z') (h : atMoney Z s b n) : atMoney Z' s b n := ⟨h.o.loc x (by omega) (by omega), zR.loc x (by omega) (by omega) h.r0, zR.loc x (by omega) (by omega) h.r1, zR.loc x (by omega) (by omega) h.r2, h.a2.loc x (by omega) (by omega), zR.loc x (by omega) (by omega) h.r3, h.a3.loc x (by omega) (by omega), zR.loc x (by omega) (by omega) h.r4, h.a4.loc x (by omega) (by omega)⟩
theorem atNet.loc {Z Z' : Zm} {n : Nat} (x : zLo n (n + 11) Z Z') (h : atNet Z n) : atNet Z' n := ⟨h.o.loc x (by omega) (by omega), zR.loc x (by omega) (by omega) h.r4, h.a4.loc x (by omega) (by omega), zR.loc x (by omega) (by omega) h.r5, h.a5.loc x (by omega) (by omega), zR.loc x (by omega) (by omega) h.r6, h.a6.loc x (by omega) (by omega), zR.loc x (by omega) (by omega) h.r7, h.a7.loc x (by omega) (by omega), zR.loc x (by omega) (by omega) h.r8, h.a8.loc x (by omega) (by omega), zR.loc x (by omega) (by omega) h.r9, h.a9.loc x (by omega) (by omega), zR.loc x (by omega) (by omega) h.r10, h.a10.loc x (by omega) (by omega), zR.loc x (by omega) (by omega) h.r11, h.a11.loc x (by omega) (by omega), zR.loc x (by omega) (by omega) h.r12, h.a12.loc x (by omega) (by omega), zR.loc x (by omega) (by omega) h.r13, h.a13.loc x (by omega) (by omega)⟩
theorem atOdds.loc {Z Z' : Zm} {s b n : Nat} (x : zLo s (s + 5) Z Z') (h : atOdds Z s b n) : atOdds Z' s b n := ⟨h.o.loc x (by omega) (by omega), zR.loc x (by omega) (by omega) h.r0, zR.loc x (by omega) (by omega) h.r1, zR.loc x (by omega) (by omega) h.r2, h.a2.loc x (by omega) (by omega), zR.loc x (by omega) (by omega) h.r3, h.a3.loc x (by omega) (by omega), zR.loc x (by omega) (by omega) h.r4, h.a4.loc x (by omega) (by omega), zR.loc x (by omega) (by omega) h.r5, h.a5.loc x (by omega) (by omega)⟩
theorem atPlan.loc {Z Z' : Zm} {p : Nat} (x : zLo p (p + 10) Z Z') (h : atPlan Z p) : atPlan Z' p := ⟨h.o.loc x (by omega) (by omega), zR.loc x (by omega) (by omega) h.r6, h.a6.loc x (by omega) (by omega), zR.loc x (by omega) (by omega) h.r7, h.a7.loc x (by omega) (by omega), zR.loc x (by omega) (by omega) h.r8, h.a8.loc x (by omega) (by omega), zR.loc x (by omega) (by omega) h.r9, h.a9.loc x (by omega) (by omega), zR.loc x (by omega) (by omega) h.r10, h.a10.loc x (by omega) (by omega), zR.loc x (by omega) (by omega) h.r11, h.a11.loc x (by omega) (by omega), zR.loc x (by omega) (by omega) h.r12, h.a12.loc x (by omega) (by omega), zR.loc x (by omega) (by omega) h.r13, h.a13.loc x (by omega) (by omega), zR.loc x (by omega) (by omega) h.r14, h.a14.loc x (by omega) (by omega)⟩
theorem atText.loc {Z Z' : Zm} {t : Nat} (x : zLo t (t + 2) Z Z') (h : atText Z t) : atText Z' t := ⟨h.o.loc x (by omega) (by omega), zR.loc x (by omega) (by omega) h.r0, h.a0.loc x (by omega) (by omega)⟩
def atAll (Z : Zm) : Prop := zO Z 0 11 ∧ zR Z 0 0 = some 1 ∧ atBook Z 1 ∧ zR Z 0 1 = some 20 ∧ atBook Z 20 ∧ zR Z 0 2 = some 39 ∧ atHist Z 39 ∧ zR Z 0 3 = some 231 ∧ atText Z 231 ∧ zR Z 0 4 = some 233 ∧ atNet Z 233 ∧ zR Z 0 5 = some 244 ∧ atClock Z 244 ∧ zR Z 0 6 = some 252 ∧ zA Z 252 100 3 ∧ zR Z 0 7 = some 253 ∧ zA Z 253 100 20 ∧ zR Z 0 9 = some 254 ∧ zA Z 254 100 20 ∧ zR Z 0 10 = some 255 ∧ zA Z 255 100 20 ∧ zR Z 0 11 = some 256 ∧ atPlan Z 256 ∧ zR Z 0 12 = some 266 ∧ atPlan Z 266 ∧ zR Z 0 13 = some 276 ∧ zA Z 276 100 20 ∧ zR Z 0 15 = some 277 ∧ atLike Z 277 1 233 ∧ zR Z 0 16 = some 279 ∧ atLevels Z 279 1 233 ∧ zR Z 0 17 = some 281 ∧ atMoney Z 281 1 233 ∧ zR Z 0 18 = some 285 ∧ atOdds Z 285 1 233 ∧ zR Z 0 19 = some 290 ∧ atCrane Z 290 1 233
theorem atAll.o {Z : Zm} (h : atAll Z) : zO Z 0 11 := h.1
theorem atAll.r0 {Z : Zm} (h : atAll Z) : zR Z 0 0 = some 1 := h.2.1
theorem atAll.bk {Z : Zm} (h : atAll Z) : atBook Z 1 := h.2.2.1
theorem atAll.r1 {Z : Zm} (h : atAll Z) : zR Z 0 1 = some 20 := h.2.2.2.1
theorem atAll.rb {Z : Zm} (h : atAll Z) : atBook Z 20 := h.2.2.2.2.1
theorem atAll.r2 {Z : Zm} (h : atAll Z) : zR Z 0 2 = some 39 := h.2.2.2.2.2.1
theorem atAll.hi {Z : Zm} (h : atAll Z) : atHist Z 39 := h.2.2.2.2.2.2.1
theorem atAll.r3 {Z : Zm} (h : atAll Z) : zR Z 0 3 = some 231 := h.2.2.2.2.2.2.2.1
theorem atAll.tx {Z : Zm} (h : atAll Z) : atText Z 231 := h.2.2.2.2.2.2.2.2.1
theorem atAll.r4 {Z : Zm} (h : atAll Z) : zR Z 0 4 = some 233 := h.2.2.2.2.2.2.2.2.2.1
theorem atAll.nt {Z : Zm} (h : atAll Z) : atNet Z 233 := h.2.2.2.2.2.2.2.2.2.2.1
theorem atAll.r5 {Z : Zm} (h : atAll Z) : zR Z 0 5 = some 244 := h.2.2.2.2.2.2.2.2.2.2.2.1
theorem atAll.cl {Z : Zm} (h : atAll Z) : atClock Z 244 := h.2.2.2.2.2.2.2.2.2.2.2.2.1
theorem atAll.r6 {Z : Zm} (h : atAll Z) : zR Z 0 6 = some 252 := h.2.2.2.2.2.2.2.2.2.2.2.2.2.1
theorem atAll.a6 {Z : Zm} (h : atAll Z) : zA Z 252 100 3 := h.2.2.2.2.2.2.2.2.2.2.2.2.2.2.1
theorem atAll.r7 {Z : Zm} (h : atAll Z) : zR Z 0 7 = some 253 := h.2.2.2.2.2.2.2.2.2.2.2.2.2.2.2.1
theorem atAll.a7 {Z : Zm} (h : atAll Z) : zA Z 253 100 20 := h.2.2.2.2.2.2.2.2.2.2.2.2.2.2.2.2.1
theorem atAll.r9 {Z : Zm} (h : atAll Z) : zR Z 0 9 = some 254 := h.2.2.2.2.2.2.2.2.2.2.2.2.2.2.2.2.2.1
theorem atAll.a9 {Z : Zm} (h : atAll Z) : zA Z 254 100 20 := h.2.2.2.2.2.2.2.2.2.2.2.2.2.2.2.2.2.2.1
theorem atAll.r10 {Z : Zm} (h : atAll Z) : zR Z 0 10 = some 255 := h.2.2.2.2.2.2.2.2.2.2.2.2.2.2.2.2.2.2.2.1
theorem atAll.a10 {Z : Zm} (h : atAll Z) : zA Z 255 100 20 := h.2.2.2.2.2.2.2.2.2.2.2.2.2.2.2.2.2.2.2.2.1
theorem atAll.r11 {Z : Zm} (h : atAll Z) : zR Z 0 11 = some 256 := h.2.2.2.2.2.2.2.2.2.2.2.2.2.2.2.2.2.2.2.2.2.1
theorem atAll.pm {Z : Zm} (h : atAll Z) : atPlan Z 256 := h.2.2.2.2.2.2.2.2.2.2.2.2.2.2.2.2.2.2.2.2.2.2.1
theorem atAll.r12 {Z : Zm} (h : atAll Z) : zR Z 0 12 = some 266 := h.2.2.2.2.2.2.2.2.2.2.2.2.2.2.2.2.2.2.2.2.2.2.2.1
theorem atAll.pt {Z : Zm} (h : atAll Z) : atPlan Z 266 := h.2.2.2.2.2.2.2.2.2.2.2.2.2.2.2.2.2.2.2.2.2.2.2.2.1
theorem atAll.r13 {Z : Zm} (h : atAll Z) : zR Z 0 13 = some 276 := h.2.2.2.2.2.2.2.2.2.2.2.2.2.2.2.2.2.2.2.2.2.2.2.2.2.1
theorem atAll.a13 {Z : Zm} (h : atAll Z) : zA Z 276 100 20 := h.2.2.2.2.2.2.2.2.2.2.2.2.2.2.2.2.2.2.2.2.2.2.2.2.2.2.1
theorem atAll.r15 {Z : Zm} (h : atAll Z) : zR Z 0 15 = some 277 := h.2.2.2.2.2.2.2.2.2.2.2.2.2.2.2.2.2.2.2.2.2.2.2.2.2.2.2.1
theorem atAll.lh {Z : Zm} (h : atAll Z) : atLike Z 277 1 233 := h.2.2.2.2.2.2.2.2.2.2.2.2.2.2.2.2.2.2.2.2.2.2.2.2.2.2.2.2.1
theorem atAll.r16 {Z : Zm} (h : atAll Z) : zR Z 0 16 = some 279 := h.2.2.2.2.2.2.2.2.2.2.2.2.2.2.2.2.2.2.2.2.2.2.2.2.2.2.2.2.2.1
theorem atAll.lv {Z : Zm} (h : atAll Z) : atLevels Z 279 1 233 := h.2.2.2.2.2.2.2.2.2.2.2.2.2.2.2.2.2.2.2.2.2.2.2.2.2.2.2.2.2.2.1
theorem atAll.r17 {Z : Zm} (h : atAll Z) : zR Z 0 17 = some 281 := h.2.2.2.2.2.2.2.2.2.2.2.2.2.2.2.2.2.2.2.2.2.2.2.2.2.2.2.2.2.2.2.1
theorem atAll.mo {Z : Zm} (h : atAll Z) : atMoney Z 281 1 233 := h.2.2.2.2.2.2.2.2.2.2.2.2.2.2.2.2.2.2.2.2.2.2.2.2.2.2.2.2.2.2.2.2.1
theorem atAll.r18 {Z : Zm} (h : atAll Z) : zR Z 0 18 = some 285 := h.2.2.2.2.2.2.2.2.2.2.2.2.2.2.2.2.2.2.2.2.2.2.2.2.2.2.2.2.2.2.2.2.2.1
theorem atAll.od {Z : Zm} (h : atAll Z) : atOdds Z 285 1 233 := h.2.2.2.2.2.2.2.2.2.2.2.2.2.2.2.2.2.2.2.2.2.2.2.2.2.2.2.2.2.2.2.2.2.2.1
theorem atAll.r19 {Z : Zm} (h : atAll Z) : zR Z 0 19 = some 290 := h.2.2.2.2.2.2.2.2.2.2.2.2.2.2.2.2.2.2.2.2.2.2.2.2.2.2.2.2.2.2.2.2.2.2.2.1
theorem atAll.cr {Z : Zm} (h : atAll Z) : atCrane Z 290 1 233 := h.2.2.2.2.2.2.2.2.2.2.2.2.2.2.2.2.2.2.2.2.2.2.2.2.2.2.2.2.2.2.2.2.2.2.2.2
theorem atAll.ext {Z Z' : Zm} (x : zX Z Z') (h : atAll Z) : atAll Z' := ⟨h.o.ext x, by
    rw [(x.2 0 h.o.1).2.2]
    exact h.r0, h.bk.ext x, by
    rw [(x.2 0 h.o.1).2.2]
    exact h.r1, h.rb.ext x, by
    rw [(x.2 0 h.o.1).2.2]
    exact h.r2, h.hi.ext x, by
    rw [(x.2 0 h.o.1).2.2]
    exact h.r3, h.tx.ext x, by
    rw [(x.2 0 h.o.1).2.2]
    exact h.r4, h.nt.ext x, by
    rw [(x.2 0 h.o.1).2.2]
    exact h.r5, h.cl.ext x, by
    rw [(x.2 0 h.o.1).2.2]
    exact h.r6, h.a6.ext x, by
    rw [(x.2 0 h.o.1).2.2]
    exact h.r7, h.a7.ext x, by
    rw [(x.2 0 h.o.1).2.2]
    exact h.r9, h.a9.ext x, by
    rw [(x.2 0 h.o.1).2.2]
    exact h.r10, h.a10.ext x, by
    rw [(x.2 0 h.o.1).2.2]
    exact h.r11, h.pm.ext x, by
    rw [(x.2 0 h.o.1).2.2]
    exact h.r12, h.pt.ext x, by
    rw [(x.2 0 h.o.1).2.2]
    exact h.r13, h.a13.ext x, by
    rw [(x.2 0 h.o.1).2.2]
    exact h.r15, h.lh.ext x, by
    rw [(x.2 0 h.o.1).2.2]
    exact h.r16, h.lv.ext x, by
    rw [(x.2 0 h.o.1).2.2]
    exact h.r17, h.mo.ext x, by
    rw [(x.2 0 h.o.1).2.2]
    exact h.r18, h.od.ext x, by
    rw [(x.2 0 h.o.1).2.2]
    exact h.r19, h.cr.ext x⟩
theorem atAll.loc {Z Z' : Zm} (x : zLo 0 300 Z Z') (h : atAll Z) : atAll Z' := ⟨h.o.loc x (by omega) (by omega), zR.loc x (by omega) (by omega) h.r0, h.bk.loc (x.mono (by omega) (by omega)), zR.loc x (by omega) (by omega) h.r1, h.rb.loc (x.mono (by omega) (by omega)), zR.loc x (by omega) (by omega) h.r2, h.hi.loc (x.mono (by omega) (by omega)), zR.loc x (by omega) (by omega) h.r3, h.tx.loc (x.mono (by omega) (by omega)), zR.loc x (by omega) (by omega) h.r4, h.nt.loc (x.mono (by omega) (by omega)), zR.loc x (by omega) (by omega) h.r5, h.cl.loc (x.mono (by omega) (by omega)), zR.loc x (by omega) (by omega) h.r6, h.a6.loc x (by omega) (by omega), zR.loc x (by omega) (by omega) h.r7, h.a7.loc x (by omega) (by omega), zR.loc x (by omega) (by omega) h.r9, h.a9.loc x (by omega) (by omega), zR.loc x (by omega) (by omega) h.r10, h.a10.loc x (by omega) (by omega), zR.loc x (by omega) (by omega) h.r11, h.pm.loc (x.mono (by omega) (by omega)), zR.loc x (by omega) (by omega) h.r12, h.pt.loc (x.mono (by omega) (by omega)), zR.loc x (by omega) (by omega) h.r13, h.a13.loc x (by omega) (by omega), zR.loc x (by omega) (by omega) h.r15, h.lh.loc (x.mono (by omega) (by omega)), zR.loc x (by omega) (by omega) h.r16, h.lv.loc (x.mono (by omega) (by omega)) (h.bk.x0 0 (by omega) |>.loc x (by omega) (by omega)), zR.loc x (by omega) (by omega) h.r17, h.mo.loc (x.mono (by omega) (by omega)), zR.loc x (by omega) (by omega) h.r18, h.od.loc (x.mono (by omega) (by omega)), zR.loc x (by omega) (by omega) h.r19, h.cr.loc (x.mono (by omega) (by omega))⟩
/-! ===== plans ===== -/
/-- a plan: whether as hands are free; begins; the hand of each task; how many hands; the end -/
abbrev Pl : Type := Int × (Nat → Int) × (Nat → Int) × (Nat → Int) × Int
def plF (p : Pl) : Int := p.1
def plB (p : Pl) : Nat → Int := p.2.1
def plW (p : Pl) : Nat → Int := p.2.2.1
def plH (p : Pl) : Nat → Int := p.2.2.2.1
def plE (p : Pl) : Int := p.2.2.2.2
/-- the time at which a need lets its later task begin -/
def lateB (k : Bk) (b : Nat → Int) (j : Nat) : Int := b (kE k j) + kF k 0 (kE k j) + kG k j
def wkAt (k : Bk) (b : Nat → Int) (t : Nat) (x : Int) : Prop := b t ≤ x ∧ x < b t + kF k 0 t
def okPl (k : Bk) (p : Pl) : Prop := plE p = zmax (fun t => plB p t + kF k 0 t) (kN k) ∧ (plF p = 0 ∨ plF p = 1) ∧ (∀ s, s < 3 → 1 ≤ plH p s ∧ plH p s ≤ 5) ∧
  (∀ t, t < kN k → (0 ≤ plB p t ∧ plB p t ≤ 5000) ∧ 0 ≤ plW p t ∧ plW p t < plH p (kF k 1 t).toNat) ∧
  (∀ j, j < kM k → lateB k (plB p) j ≤ plB p (kL k j)) ∧
  (∀ t u x, t < kN k → u < kN k → t ≠ u → wkAt k (plB p) t x → wkAt k (plB p) u x → (kF k 1 t = kF k 1 u → plW p t ≠ plW p u) ∧ (0 ≤ kF k 2 t → kF k 2 t ≠ kF k 2 u)) ∧
  (plF p = 1 → ∀ t x, t < kN k → 0 ≤ x → x < plB p t → (∀ j, j < kM k → kL k j = t → lateB k (plB p) j ≤ x) →
    (∀ h : Int, 0 ≤ h → h < plH p (kF k 1 t).toNat → ∃ u, u < kN k ∧ kF k 1 u = kF k 1 t ∧ plW p u = h ∧ wkAt k (plB p) u x) ∨ (0 ≤ kF k 2 t ∧ ∃ u, u < kN k ∧ kF k 2 u = kF k 2 t ∧ wkAt k (plB p) u x))
/-- the proof of a plan, the last task first; behind each the lag to the next one -/
def isPs (k : Bk) (p : Pl) (x : Int) : Prop := (x = -1 ∧ ∀ t, t < kN k → plB p t + kF k 0 t ≠ plE p) ∨ ∃ t : Nat, t < kN k ∧ x = (t : Int) ∧ plB p t + kF k 0 t = plE p ∧ ∀ s, s < t → plB p s + kF k 0 s ≠ plE p
def isPn (k : Bk) (p : Pl) (t : Nat) (x g : Int) : Prop := (x = -1 ∧ g = 0 ∧ ∀ j, j < kM k → kL k j ≠ t) ∨ ∃ j, j < kM k ∧ kL k j = t ∧ x = (kE k j : Int) ∧ g = kG k j ∧ ∀ i, i < kM k → kL k i = t → lateB k (plB p) i < lateB k (plB p) j ∨ (lateB k (plB p) i = lateB k (plB p) j ∧ kE k j ≤ kE k i)
def isPf (k : Bk) (p : Pl) (d g : Nat → Int) (q : Nat) : Prop := isPs k p (d 0) ∧ q ≤ kN k ∧ (∀ i, i < q → 0 ≤ d i ∧ d i < kN k ∧ isPn k p (d i).toNat (d (i + 1)) (g i)) ∧ d q = -1
/-! ===== the state ===== -/
/-- the book; the kept books, the newest first; the text; the weeks; the hands; the typed list; the plan; the kept begins -/
abbrev St : Type := Bk × (Nat × (Nat → Bk)) × (Nat × (Nat → Int)) × (Nat → Nat → Int) × (Nat → Int) × (Nat × (Nat → Nat)) × Option Pl × (Nat × (Nat → Int))
def sK (σ : St) : Bk := σ.1
def sHn (σ : St) : Nat := σ.2.1.1
def sHb (σ : St) : Nat → Bk := σ.2.1.2
def sXn (σ : St) : Nat := σ.2.2.1.1
def sXs (σ : St) : Nat → Int := σ.2.2.1.2
def sW (σ : St) : Nat → Nat → Int := σ.2.2.2.1
def sA (σ : St) : Nat → Int := σ.2.2.2.2.1
def sTn (σ : St) : Nat := σ.2.2.2.2.2.1.1
def sTs (σ : St) : Nat → Nat := σ.2.2.2.2.2.1.2
def sP (σ : St) : Option Pl := σ.2.2.2.2.2.2.1
def sBn (σ : St) : Nat := σ.2.2.2.2.2.2.2.1
def sBs (σ : St) : Nat → Int := σ.2.2.2.2.2.2.2.2
def okS (σ : St) : Prop := kOk (sK σ) ∧ (sHn σ ≤ 10 ∧ ∀ i, i < sHn σ → kOk (sHb σ i)) ∧ (sXn σ ≤ 80 ∧ ∀ i, i < sXn σ → 32 ≤ sXs σ i ∧ sXs σ i ≤ 126) ∧
  (∀ c, c < 4 → (∀ h, h < 168 → sW σ c h = 0 ∨ sW σ c h = 1) ∧ ∃ h, h < 168 ∧ sW σ c h = 1) ∧ (∀ s, s < 3 → 1 ≤ sA σ s ∧ sA σ s ≤ 5) ∧
  (sTn σ ≤ 20 ∧ (∀ i, i < sTn σ → sTs σ i < kN (sK σ)) ∧ ∀ i j, i < sTn σ → j < sTn σ → sTs σ i = sTs σ j → i = j) ∧
  (∀ p, sP σ = some p → okPl (sK σ) p) ∧ (sBn σ ≤ 20 ∧ ∀ i, i < sBn σ → 0 ≤ sBs σ i ∧ sBs σ i ≤ 1710)
/-- the class: the history, the plan, all -/
def cH (Z : Zm) (n : Nat) (h : Nat → Bk) : Prop := zI Z 39 1 = (n : Int) ∧ ∃ x : Nat, x < 10 ∧ zI Z 39 2 = (x : Int) ∧ ∀ i, i < n → cB Z (41 + 19 * ((x + 9 - i) % 10)) (h i)
def cPl (Z : Zm) (k : Bk) (o : Option Pl) : Prop := (o = none → zI Z 256 0 = 0) ∧ ∀ p, o = some p → zI Z 256 0 = 1 ∧ zI Z 256 1 = plF p ∧ zI Z 256 2 = (kN k : Int) ∧ zI Z 256 4 = plE p ∧ (∀ s, s < 3 → zI Z 257 s = plH p s) ∧ (∀ t, t < kN k → zI Z 259 t = plB p t ∧ zI Z 260 t = plB p t + kF k 0 t ∧ zI Z 261 t = plW p t) ∧
  ∃ (q : Nat) (d g : Nat → Int), isPf k p d g q ∧ zI Z 256 5 = (q : Int) ∧ ∀ i, i < q → zI Z 264 (q - 1 - i) = d i ∧ zI Z 265 (q - 1 - i) = (if i = 0 then 0 else g (i - 1))
def IC (Z : Zm) (σ : St) : Prop := atAll Z ∧ cB Z 1 (sK σ) ∧ cH Z (sHn σ) (sHb σ) ∧ (zI Z 231 1 = (sXn σ : Int) ∧ ∀ i, i < sXn σ → zI Z 232 i = sXs σ i) ∧ (zI Z 233 0 = 0 ∨ cN Z 233 (sK σ)) ∧
  (∀ c h, c < 4 → h < 168 → zI Z (246 + c) h = sW σ c h) ∧ (∀ s, s < 3 → zI Z 252 s = sA σ s) ∧ (zI Z 0 8 = (sTn σ : Int) ∧ ∀ i, i < sTn σ → zI Z 253 i = (sTs σ i : Int)) ∧ cPl Z (sK σ) (sP σ) ∧ (zI Z 0 14 = (sBn σ : Int) ∧ ∀ i, i < sBn σ → zI Z 276 i = sBs σ i)
/-- the model -/
def mPl (Z : Zm) (k : Bk) (o : Option Pl) : Prop := (o = none → zI Z 300 9 = 0) ∧ ∀ p, o = some p → zI Z 300 9 = 1 ∧ zI Z 300 10 = plF p ∧ zI Z 300 14 = plE p ∧ (∀ s, s < 3 → zI Z 313 s = plH p s) ∧ ∀ t, t < kN k → zI Z 311 t = plB p t ∧ zI Z 312 t = plW p t
def IMb (Z : Zm) (B : Nat) (σ : St) : Prop := atModel Z 300 B ∧ (B = 301 ∨ 322 ≤ B) ∧ cM Z B (sK σ) ∧ (zI Z 300 2 = (sHn σ : Int) ∧ ∀ i, i < sHn σ → ∃ r, zR Z 302 i = some r ∧ zA Z r 100 412 ∧ 322 ≤ r ∧ r ≠ B ∧ cM Z r (sHb σ (sHn σ - 1 - i))) ∧ (zI Z 300 4 = (sXn σ : Int) ∧ ∀ i, i < sXn σ → zI Z 303 i = sXs σ i) ∧
  (∀ c h, c < 4 → h < 168 → zI Z (305 + c) h = sW σ c h) ∧ (∀ s, s < 3 → zI Z 309 s = sA σ s) ∧ (zI Z 300 8 = (sTn σ : Int) ∧ ∀ i, i < sTn σ → zI Z 310 i = (sTs σ i : Int)) ∧ mPl Z (sK σ) (sP σ) ∧ (zI Z 300 16 = (sBn σ : Int) ∧ ∀ i, i < sBn σ → zI Z 314 i = sBs σ i)
def IM (Z : Zm) (σ : St) : Prop := ∃ B, IMb Z B σ
/-! ===== frames of the state ===== -/
theorem cB.loc {Z Z' : Zm} {b : Nat} {k : Bk} (h : cB Z b k) (e : ∀ a, b ≤ a → a < b + 18 → zI Z' a = zI Z a) : cB Z' b k := h.of e
/-- what may be overwritten -/
def scr (a : Nat) : Prop := a = 19 ∨ (20 ≤ a ∧ a < 39) ∨ (233 ≤ a ∧ a < 244) ∨ a = 250 ∨ a = 251 ∨ a = 254 ∨ a = 255 ∨ (266 ≤ a ∧ a < 276) ∨ 277 ≤ a
theorem IC.eqs {Z Z' : Zm} {σ : St} (h : IC Z σ) (ha : atAll Z') (e : ∀ a, a < 300 → ¬ scr a → zI Z' a = zI Z a) (hn : zI Z' 233 0 = 0 ∨ cN Z' 233 (sK σ)) : IC Z' σ := by
  obtain ⟨h0, h1, h2, h3, h4, h5, h6, h7, h8, h9⟩ := h
  have e' : ∀ a, a < 300 → (a ≠ 19 ∧ ¬ (20 ≤ a ∧ a < 39) ∧ ¬ (233 ≤ a ∧ a < 244) ∧ a ≠ 250 ∧ a ≠ 251 ∧ a ≠ 254 ∧ a ≠ 255 ∧ ¬ (266 ≤ a ∧ a < 276) ∧ ¬ 277 ≤ a) → zI Z' a = zI Z a := fun a g1 g2 => e a g1 (by unfold scr; omega)
  refine ⟨ha, h1.of fun a g1 g2 => e' a (by omega) (by omega), ?_, ?_, hn, fun c h g1 g2 => ?_, fun s hs => ?_, ?_, ?_, ?_⟩
  · obtain ⟨a1, x, a2, a3, a4⟩ := h2
    rw [cH, e' 39 (by omega) (by omega)]
    exact ⟨a1, x, a2, a3, fun i hi => (a4 i hi).of fun a g1 g2 => e' a (by omega) (by omega)⟩
  · rw [e' 231 (by omega) (by omega), e' 232 (by omega) (by omega)]
    exact h3
  · rw [e' (246 + c) (by omega) (by omega)]
    exact h5 c h g1 g2
  · rw [e' 252 (by omega) (by omega)]
    exact h6 s hs
  · rw [e' 0 (by omega) (by omega), e' 253 (by omega) (by omega)]
    exact h7
  · rw [cPl, e' 256 (by omega) (by omega), e' 257 (by omega) (by omega), e' 259 (by omega) (by omega), e' 260 (by omega) (by omega), e' 261 (by omega) (by omega), e' 264 (by omega) (by omega), e' 265 (by omega) (by omega)]
    exact h8
  · rw [e' 0 (by omega) (by omega), e' 276 (by omega) (by omega)]
    exact h9
theorem atAll.lt {Z : Zm} (h : atAll Z) : ∀ a, a < 300 → a < zSz Z := fun a ha => Nat.lt_of_le_of_lt (show a ≤ 290 + 4 + 5 by omega) (h.cr.x4 5 (by omega)).1
theorem cN.keep {S : Nat → Prop} {c w : Nat} {Z Z' : Zm} {k : Bk} (h : zI Z 233 0 = 0 ∨ cN Z 233 k) (hx : atAll Z) (f : zF S c w Z Z') (hs : ∀ a, 233 ≤ a → a < 241 → ¬ S a) : zI Z' 233 0 = 0 ∨ cN Z' 233 k := by
  rcases h with h | h
  · exact Or.inl (by rw [f.i (hx.lt _ (by omega)) (hs _ (by omega) (by omega))]; exact h)
  · exact Or.inr (h.frame hx.nt f fun a g1 g2 => hs a g1 (by omega))
theorem IC.fr {S : Nat → Prop} {c w : Nat} {Z Z' : Zm} {σ : St} (h : IC Z σ) (f : zF S c w Z Z') (hs : ∀ a, S a → scr a) (hn : zI Z' 233 0 = 0 ∨ cN Z' 233 (sK σ)) : IC Z' σ :=
  h.eqs (h.1.ext f.1) (fun a g1 g2 => f.i (h.1.lt a g1) fun g => g2 (hs a g)) hn
theorem IC.fr0 {S : Nat → Prop} {c w : Nat} {Z Z' : Zm} {σ : St} (h : IC Z σ) (f : zF S c w Z Z') (hs : ∀ a, S a → scr a) (hs2 : ∀ a, 233 ≤ a → a < 241 → ¬ S a) : IC Z' σ :=
  h.fr f hs (cN.keep h.2.2.2.2.1 h.1 f hs2)
/-- what the model's calls may do: all but the class' cells and both rows of the law -/
def zV (c w : Nat) (Z Z' : Zm) : Prop := (zSz Z ≤ zSz Z' ∧ zSz Z' ≤ zSz Z + c ∧ zSl Z ≤ zSl Z' ∧ zSl Z' ≤ zSl Z + w) ∧ ∀ a, a < 300 ∨ a = 320 ∨ a = 321 → (zKd Z' a = zKd Z a ∧ zLn Z' a = zLn Z a ∧ zR Z' a = zR Z a) ∧ zI Z' a = zI Z a ∧ zL Z' a = zL Z a ∧ zD Z' a = zD Z a
theorem zV.rfl {Z : Zm} : zV 0 0 Z Z := ⟨⟨Nat.le_refl _, Nat.le_refl _, Nat.le_refl _, Nat.le_refl _⟩, fun _ _ => ⟨⟨_root_.rfl, _root_.rfl, _root_.rfl⟩, _root_.rfl, _root_.rfl, _root_.rfl⟩⟩
theorem zV.trans {c w c' w' : Nat} {Z Z' Z'' : Zm} (h : zV c w Z Z') (k : zV c' w' Z' Z'') : zV (c + c') (w + w') Z Z'' := by
  obtain ⟨⟨h1, h2, h3, h4⟩, h5⟩ := h
  obtain ⟨⟨k1, k2, k3, k4⟩, k5⟩ := k
  refine ⟨⟨by omega, by omega, by omega, by omega⟩, fun a ha => ?_⟩
  obtain ⟨⟨a1, a2, a3⟩, a4, a5, a6⟩ := h5 a ha
  obtain ⟨⟨b1, b2, b3⟩, b4, b5, b6⟩ := k5 a ha
  exact ⟨⟨b1.trans a1, b2.trans a2, b3.trans a3⟩, b4.trans a4, b5.trans a5, b6.trans a6⟩
theorem zV.mono {c w c' w' : Nat} {Z Z' : Zm} (h : zV c w Z Z') (hc : c ≤ c') (hw : w ≤ w') : zV c' w' Z Z' := by
  obtain ⟨⟨h1, h2, h3, h4⟩, h5⟩ := h
  exact ⟨⟨h1, by omega, h3, by omega⟩, h5⟩
theorem zF.v {S : Nat → Prop} {c w : Nat} {Z Z' : Zm} (f : zF S c w Z Z') (hz : 322 ≤ zSz Z) (hs : ∀ a, S a → 300 ≤ a ∧ a ≠ 320 ∧ a ≠ 321) : zV c w Z Z' := ⟨⟨f.1.1, f.2.1.1, f.2.1.2.1, f.2.1.2.2⟩, fun a ha => ⟨f.1.2 a (by omega), f.2.2 a (by omega) fun g => by have := hs a g; omega⟩⟩
theorem zV_R {Z : Zm} {a : Nat} {f : Nat → Option Nat} (h : 300 ≤ a ∧ a ≠ 320 ∧ a ≠ 321) : zV 0 0 Z (zSR Z a f) := ⟨⟨Nat.le_refl _, Nat.le_refl _, Nat.le_refl _, Nat.le_refl _⟩, fun b hb => ⟨⟨_root_.rfl, _root_.rfl, if_neg (by omega)⟩, _root_.rfl, _root_.rfl, _root_.rfl⟩⟩
theorem IC.v {c w : Nat} {Z Z' : Zm} {σ : St} (h : IC Z σ) (v : zV c w Z Z') : IC Z' σ := by
  have x : zLo 0 300 Z Z' := ⟨v.1.1, fun a _ g => (v.2 a (Or.inl g)).1⟩
  refine h.eqs (h.1.loc x) (fun a g _ => (v.2 a (Or.inl g)).2.1) ?_
  have ei : ∀ a, a < 300 → zI Z' a = zI Z a := fun a g => (v.2 a (Or.inl g)).2.1
  rcases h.2.2.2.2.1 with h1 | ⟨h0, k', o, pos, h1, h2, h3, h4, h5, h6, h7⟩
  · exact Or.inl (by rw [ei _ (by omega)]; exact h1)
  · refine Or.inr ⟨by rw [ei _ (by omega)]; exact h0, k', o, pos, h1, h2, h3, ?_, ?_, ?_, ?_⟩
    · obtain ⟨a1, a2, a3, a4⟩ := h4
      refine ⟨by rw [ei _ (by omega)]; exact a1, by rw [ei _ (by omega)]; exact a2, fun p hp => by rw [ei _ (by omega)]; exact a3 p hp, fun j hj => by rw [ei _ (by omega), ei _ (by omega), ei _ (by omega)]; exact a4 j hj⟩
    · rw [ei _ (by omega)]
      exact h5
    · rw [ei _ (by omega), ei _ (by omega)]
      exact h6
    · rw [ei _ (by omega), ei _ (by omega)]
      exact h7
/-- the model's state goes with its cells -/
theorem IMb.fr {S : Nat → Prop} {c w : Nat} {Z Z' : Zm} {B : Nat} {σ : St} (h : IMb Z B σ) (f : zF S c w Z Z') (hs : ∀ a, S a → a < 301 ∨ (315 ≤ a ∧ a < 322)) (h0 : ∀ i, i < 17 → zI Z' 300 i = zI Z 300 i) : IMb Z' B σ := by
  obtain ⟨a0, a1, a2, ⟨a3, a3'⟩, ⟨a4, a4'⟩, a5, a6, ⟨a7, a7'⟩, a8, ⟨a9, a9'⟩⟩ := h
  have n : ∀ a, 301 ≤ a → a < 315 → ¬ S a := fun a g1 g2 g => by have := hs a g; omega
  have nB : ¬ S B := fun g => by have := hs B g; omega
  refine ⟨a0.ext f.1, a1, a2.frame a0.a0.1 f nB, ⟨by rw [h0 2 (by omega)]; exact a3, fun i hi => ?_⟩, ⟨by rw [h0 4 (by omega)]; exact a4, ?_⟩, fun c h g1 g2 => ?_, ?_, ⟨by rw [h0 8 (by omega)]; exact a7, ?_⟩, ?_, ⟨by rw [h0 16 (by omega)]; exact a9, ?_⟩⟩
  · obtain ⟨r, r1, r2, r3, r4, r5⟩ := a3' i hi
    exact ⟨r, zX_r f.1 a0.a1.1 r1, r2.ext f.1, r3, r4, r5.frame r2.1 f fun g => by have := hs r g; omega⟩
  · rw [f.i a0.a3.1 (n _ (by omega) (by omega))]
    exact a4'
  · rw [f.i (show 305 + c < zSz Z from (a0.x5 c g1).1) (n _ (by omega) (by omega))]
    exact a5 c h g1 g2
  · rw [f.i a0.a6.1 (n _ (by omega) (by omega))]
    exact a6
  · rw [f.i a0.a7.1 (n _ (by omega) (by omega))]
    exact a7'
  · obtain ⟨p1, p2⟩ := a8
    refine ⟨fun e => by rw [h0 9 (by omega)]; exact p1 e, fun p e => ?_⟩
    rw [h0 9 (by omega), h0 10 (by omega), h0 14 (by omega), f.i a0.a13.1 (n _ (by omega) (by omega)), f.i a0.a11.1 (n _ (by omega) (by omega)), f.i a0.a12.1 (n _ (by omega) (by omega))]
    exact p2 p e
  · rw [f.i a0.a15.1 (n _ (by omega) (by omega))]
    exact a9'
/-! ===== a loop that counts up ===== -/
theorem am_up {P : Nat → Prop} {n : Nat} (h : ∀ j, j ≤ n → (j < n → P (j + 1)) → P j) : ∀ j, j ≤ n → P j := by
  suffices key : ∀ m j, j + m = n → P j from fun j hj => key (n - j) j (by omega)
  intro m
  induction m with
  | zero => exact fun j hj => h j (by omega) fun g => by omega
  | succ m ih => exact fun j hj => h j (by omega) fun _ => ih (j + 1) (by omega)
theorem am_up0 {P : Nat → Prop} (n : Nat) (h : ∀ j, j ≤ n → (j < n → P (j + 1)) → P j) : P 0 := am_up h 0 (Nat.zero_le _)
/-! ===== what a call answers: how it ends (0: it returns), the answer, the state ===== -/
abbrev Ou : Type := Nat × Int × St
def rO (E : Nat → String) (f : Int → Value) (o : Ou) : Rv := if o.1 = 0 then .inl (some (f o.2.1)) else .inr (E o.1)
