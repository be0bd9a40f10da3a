/-! ===== which cells an object has ===== -/
/-- Z' has the cells of Z, and they stand as they did, but for their ints, longs and doubles -/
def zX (Z Z' : Zm) : Prop := zSz Z ≤ zSz Z' ∧ ∀ a, a < zSz Z → zKd Z' a = zKd Z a ∧ zLn Z' a = zLn Z a ∧ zR Z' a = zR Z a
theorem zX.rfl {Z : Zm} : zX Z Z := ⟨Nat.le_refl _, fun _ _ => ⟨_root_.rfl, _root_.rfl, _root_.rfl⟩⟩
theorem zX.trans {Z Z' Z'' : Zm} (h : zX Z Z') (h' : zX Z' Z'') : zX Z Z'' := ⟨Nat.le_trans h.1 h'.1, fun a ha => by
  obtain ⟨h1, h2, h3⟩ := h.2 a ha
  obtain ⟨g1, g2, g3⟩ := h'.2 a (Nat.lt_of_lt_of_le ha h.1)
  exact ⟨g1.trans h1, g2.trans h2, g3.trans h3⟩⟩
theorem zX_C (Z : Zm) (k n w : Nat) : zX Z (zC Z k n w) := ⟨Nat.le_succ _, fun a ha => by
  have h : ¬ a = zSz Z := Nat.ne_of_lt ha
  exact ⟨if_neg h, if_neg h, if_neg h⟩⟩
theorem zX_M (Z : Zm) (kO kI n k : Nat) : zX Z (zM Z kO kI n k) := ⟨Nat.le_add_right _ _, fun a ha => ⟨if_pos ha, if_pos ha, if_pos ha⟩⟩
theorem zA.ext {Z Z' : Zm} {a k n : Nat} (x : zX Z Z') (h : zA Z a k n) : zA Z' a k n := by
  obtain ⟨h1, h2, h3⟩ := x.2 a h.1
  exact ⟨Nat.lt_of_lt_of_le h.1 x.1, h1.trans h.2.1, h2.trans h.2.2⟩
theorem zA_C (Z : Zm) (k n w : Nat) : zA (zC Z k n w) (zSz Z) k n := ⟨Nat.lt_succ_self _, if_pos _root_.rfl, if_pos _root_.rfl⟩
def zO (Z : Zm) (a k : Nat) : Prop := a < zSz Z ∧ zKd Z a = k
theorem zO.ext {Z Z' : Zm} {a k : Nat} (x : zX Z Z') (h : zO Z a k) : zO Z' a k := ⟨Nat.lt_of_lt_of_le h.1 x.1, (x.2 a h.1).1.trans h.2⟩
def atBook (Z : Zm) (b : Nat) : Prop := zO Z b 0 ∧ zR Z b 0 = some (b + 1) ∧ zA Z (b + 1) 120 12 ∧ (∀ i, i < 12 → zR Z (b + 1) i = some (b + 2 + i)) ∧ (∀ i, i < 12 → zA Z (b + 2 + i) 100 20) ∧ zR Z b 1 = some (b + 14) ∧ zA Z (b + 14) 120 3 ∧ (∀ i, i < 3 → zR Z (b + 14) i = some (b + 15 + i)) ∧ (∀ i, i < 3 → zA Z (b + 15 + i) 100 50) ∧ zR Z b 2 = some (b + 18) ∧ zA Z (b + 18) 100 20
theorem atBook.o {Z : Zm} {b : Nat} (h : atBook Z b) : zO Z b 0 := h.1
theorem atBook.r0 {Z : Zm} {b : Nat} (h : atBook Z b) : zR Z b 0 = some (b + 1) := h.2.1
theorem atBook.a0 {Z : Zm} {b : Nat} (h : atBook Z b) : zA Z (b + 1) 120 12 := h.2.2.1
theorem atBook.e0 {Z : Zm} {b : Nat} (h : atBook Z b) : ∀ i, i < 12 → zR Z (b + 1) i = some (b + 2 + i) := h.2.2.2.1
theorem atBook.x0 {Z : Zm} {b : Nat} (h : atBook Z b) : ∀ i, i < 12 → zA Z (b + 2 + i) 100 20 := h.2.2.2.2.1
theorem atBook.r1 {Z : Zm} {b : Nat} (h : atBook Z b) : zR Z b 1 = some (b + 14) := h.2.2.2.2.2.1
theorem atBook.a1 {Z : Zm} {b : Nat} (h : atBook Z b) : zA Z (b + 14) 120 3 := h.2.2.2.2.2.2.1
theorem atBook.e1 {Z : Zm} {b : Nat} (h : atBook Z b) : ∀ i, i < 3 → zR Z (b + 14) i = some (b + 15 + i) := h.2.2.2.2.2.2.2.1
theorem atBook.x1 {Z : Zm} {b : Nat} (h : atBook Z b) : ∀ i, i < 3 → zA Z (b + 15 + i) 100 50 := h.2.2.2.2.2.2.2.2.1
theorem atBook.r2 {Z : Zm} {b : Nat} (h : atBook Z b) : zR Z b 2 = some (b + 18) := h.2.2.2.2.2.2.2.2.2.1
theorem atBook.a2 {Z : Zm} {b : Nat} (h : atBook Z b) : zA Z (b + 18) 100 20 := h.2.2.2.2.2.2.2.2.2.2
theorem atBook.ext {Z Z' : Zm} {b : Nat} (x : zX Z Z') (h : atBook Z b) : atBook Z' b := ⟨h.o.ext x, by
    rw [(x.2 b h.o.1).2.2]
    exact h.r0, h.a0.ext x, fun i hi => by
    rw [(x.2 _ h.a0.1).2.2]
    exact h.e0 i hi, fun i hi => (h.x0 i hi).ext x, by
    rw [(x.2 b h.o.1).2.2]
    exact h.r1, h.a1.ext x, fun i hi => by
    rw [(x.2 _ h.a1.1).2.2]
    exact h.e1 i hi, fun i hi => (h.x1 i hi).ext x, by
    rw [(x.2 b h.o.1).2.2]
    exact h.r2, h.a2.ext x⟩
def atClock (Z : Zm) (c : Nat) : Prop := zO Z c 1 ∧ zR Z c 0 = some (c + 1) ∧ zA Z (c + 1) 120 4 ∧ (∀ i, i < 4 → zR Z (c + 1) i = some (c + 2 + i)) ∧ (∀ i, i < 4 → zA Z (c + 2 + i) 100 168) ∧ zR Z c 1 = some (c + 6) ∧ zA Z (c + 6) 100 20 ∧ zR Z c 2 = some (c + 7) ∧ zA Z (c + 7) 100 20
theorem atClock.o {Z : Zm} {c : Nat} (h : atClock Z c) : zO Z c 1 := h.1
theorem atClock.r0 {Z : Zm} {c : Nat} (h : atClock Z c) : zR Z c 0 = some (c + 1) := h.2.1
theorem atClock.a0 {Z : Zm} {c : Nat} (h : atClock Z c) : zA Z (c + 1) 120 4 := h.2.2.1
theorem atClock.e0 {Z : Zm} {c : Nat} (h : atClock Z c) : ∀ i, i < 4 → zR Z (c + 1) i = some (c + 2 + i) := h.2.2.2.1
theorem atClock.x0 {Z : Zm} {c : Nat} (h : atClock Z c) : ∀ i, i < 4 → zA Z (c + 2 + i) 100 168 := h.2.2.2.2.1
theorem atClock.r1 {Z : Zm} {c : Nat} (h : atClock Z c) : zR Z c 1 = some (c + 6) := h.2.2.2.2.2.1
theorem atClock.a1 {Z : Zm} {c : Nat} (h : atClock Z c) : zA Z (c + 6) 100 20 := h.2.2.2.2.2.2.1
theorem atClock.r2 {Z : Zm} {c : Nat} (h : atClock Z c) : zR Z c 2 = some (c + 7) := h.2.2.2.2.2.2.2.1
theorem atClock.a2 {Z : Zm} {c : Nat} (h : atClock Z c) : zA Z (c + 7) 100 20 := h.2.2.2.2.2.2.2.2
theorem atClock.ext {Z Z' : Zm} {c : Nat} (x : zX Z Z') (h : atClock Z c) : atClock Z' c := ⟨h.o.ext x, by
    rw [(x.2 c h.o.1).2.2]
    exact h.r0, h.a0.ext x, fun i hi => by
    rw [(x.2 _ h.a0.1).2.2]
    exact h.e0 i hi, fun i hi => (h.x0 i hi).ext x, by
    rw [(x.2 c h.o.1).2.2]
    exact h.r1, h.a1.ext x, by
    rw [(x.2 c h.o.1).2.2]
    exact h.r2, h.a2.ext x⟩
def atCrane (Z : Zm) (s b n : Nat) : Prop := zO Z s 2 ∧ zR Z s 0 = some b ∧ zR Z s 1 = some n ∧ zR Z s 2 = some (s + 1) ∧ zA Z (s + 1) 100 20 ∧ zR Z s 3 = some (s + 2) ∧ zA Z (s + 2) 100 20 ∧ zR Z s 4 = some (s + 3) ∧ zA Z (s + 3) 120 6 ∧ (∀ i, i < 6 → zR Z (s + 3) i = some (s + 4 + i)) ∧ (∀ i, i < 6 → zA Z (s + 4 + i) 100 20)
theorem atCrane.o {Z : Zm} {s b n : Nat} (h : atCrane Z s b n) : zO Z s 2 := h.1
theorem atCrane.r0 {Z : Zm} {s b n : Nat} (h : atCrane Z s b n) : zR Z s 0 = some b := h.2.1
theorem atCrane.r1 {Z : Zm} {s b n : Nat} (h : atCrane Z s b n) : zR Z s 1 = some n := h.2.2.1
theorem atCrane.r2 {Z : Zm} {s b n : Nat} (h : atCrane Z s b n) : zR Z s 2 = some (s + 1) := h.2.2.2.1
theorem atCrane.a2 {Z : Zm} {s b n : Nat} (h : atCrane Z s b n) : zA Z (s + 1) 100 20 := h.2.2.2.2.1
theorem atCrane.r3 {Z : Zm} {s b n : Nat} (h : atCrane Z s b n) : zR Z s 3 = some (s + 2) := h.2.2.2.2.2.1
theorem atCrane.a3 {Z : Zm} {s b n : Nat} (h : atCrane Z s b n) : zA Z (s + 2) 100 20 := h.2.2.2.2.2.2.1
theorem atCrane.r4 {Z : Zm} {s b n : Nat} (h : atCrane Z s b n) : zR Z s 4 = some (s + 3) := h.2.2.2.2.2.2.2.1
theorem atCrane.a4 {Z : Zm} {s b n : Nat} (h : atCrane Z s b n) : zA Z (s + 3) 120 6 := h.2.2.2.2.2.2.2.2.1
theorem atCrane.e4 {Z : Zm} {s b n : Nat} (h : atCrane Z s b n) : ∀ i, i < 6 → zR Z (s + 3) i = some (s + 4 + i) := h.2.2.2.2.2.2.2.2.2.1
theorem atCrane.x4 {Z : Zm} {s b n : Nat} (h : atCrane Z s b n) : ∀ i, i < 6 → zA Z (s + 4 + i) 100 20 := h.2.2.2.2.2.2.2.2.2.2
theorem atCrane.ext {Z Z' : Zm} {s b n : Nat} (x : zX Z Z') (h : atCrane Z s b n) : atCrane Z' s b n := ⟨h.o.ext x, by
    rw [(x.2 s h.o.1).2.2]
    exact h.r0, by
    rw [(x.2 s h.o.1).2.2]
    exact h.r1, by
    rw [(x.2 s h.o.1).2.2]
    exact h.r2, h.a2.ext x, by
    rw [(x.2 s h.o.1).2.2]
    exact h.r3, h.a3.ext x, by
    rw [(x.2 s h.o.1).2.2]
    exact h.r4, h.a4.ext x, fun i hi => by
    rw [(x.2 _ h.a4.1).2.2]
    exact h.e4 i hi, fun i hi => (h.x4 i hi).ext x⟩
def atHist (Z : Zm) (q : Nat) : Prop := zO Z q 3 ∧ zR Z q 0 = some (q + 1) ∧ zA Z (q + 1) 122 10 ∧ (∀ i, i < 10 → zR Z (q + 1) i = some (q + 2 + 19 * i)) ∧ (∀ i, i < 10 → atBook Z (q + 2 + 19 * i))
theorem atHist.o {Z : Zm} {q : Nat} (h : atHist Z q) : zO Z q 3 := h.1
theorem atHist.r0 {Z : Zm} {q : Nat} (h : atHist Z q) : zR Z q 0 = some (q + 1) := h.2.1
theorem atHist.a0 {Z : Zm} {q : Nat} (h : atHist Z q) : zA Z (q + 1) 122 10 := h.2.2.1
theorem atHist.e0 {Z : Zm} {q : Nat} (h : atHist Z q) : ∀ i, i < 10 → zR Z (q + 1) i = some (q + 2 + 19 * i) := h.2.2.2.1
theorem atHist.x0 {Z : Zm} {q : Nat} (h : atHist Z q) : ∀ i, i < 10 → atBook Z (q + 2 + 19 * i) := h.2.2.2.2
theorem atHist.ext {Z Z' : Zm} {q : Nat} (x : zX Z Z') (h : atHist Z q) : atHist Z' q := ⟨h.o.ext x, by
    rw [(x.2 q h.o.1).2.2]
    exact h.r0, h.a0.ext x, fun i hi => by
    rw [(x.2 _ h.a0.1).2.2]
    exact h.e0 i hi, fun i hi => (h.x0 i hi).ext x⟩
def atLevels (Z : Zm) (s b n : Nat) : Prop := zO Z s 4 ∧ zR Z s 0 = some n ∧ zR Z s 1 = some (b + 2) ∧ zA Z (b + 2) 100 20 ∧ zR Z s 2 = some (s + 1) ∧ zA Z (s + 1) 100 20
theorem atLevels.o {Z : Zm} {s b n : Nat} (h : atLevels Z s b n) : zO Z s 4 := h.1
theorem atLevels.r0 {Z : Zm} {s b n : Nat} (h : atLevels Z s b n) : zR Z s 0 = some n := h.2.1
theorem atLevels.r1 {Z : Zm} {s b n : Nat} (h : atLevels Z s b n) : zR Z s 1 = some (b + 2) := h.2.2.1
theorem atLevels.a1 {Z : Zm} {s b n : Nat} (h : atLevels Z s b n) : zA Z (b + 2) 100 20 := h.2.2.2.1
theorem atLevels.r2 {Z : Zm} {s b n : Nat} (h : atLevels Z s b n) : zR Z s 2 = some (s + 1) := h.2.2.2.2.1
theorem atLevels.a2 {Z : Zm} {s b n : Nat} (h : atLevels Z s b n) : zA Z (s + 1) 100 20 := h.2.2.2.2.2
theorem atLevels.ext {Z Z' : Zm} {s b n : Nat} (x : zX Z Z') (h : atLevels Z s b n) : atLevels Z' s b n := ⟨h.o.ext x, by
    rw [(x.2 s h.o.1).2.2]
    exact h.r0, by
    rw [(x.2 s h.o.1).2.2]
    exact h.r1, h.a1.ext x, by
    rw [(x.2 s h.o.1).2.2]
    exact h.r2, h.a2.ext x⟩
def atLike (Z : Zm) (s b n : Nat) : Prop := zO Z s 5 ∧ zR Z s 0 = some b ∧ zR Z s 1 = some n ∧ zR Z s 2 = some (s + 1) ∧ zA Z (s + 1) 100 20
theorem atLike.o {Z : Zm} {s b n : Nat} (h : atLike Z s b n) : zO Z s 5 := h.1
theorem atLike.r0 {Z : Zm} {s b n : Nat} (h : atLike Z s b n) : zR Z s 0 = some b := h.2.1
theorem atLike.r1 {Z : Zm} {s b n : Nat} (h : atLike Z s b n) : zR Z s 1 = some n := h.2.2.1
theorem atLike.r2 {Z : Zm} {s b n : Nat} (h : atLike Z s b n) : zR Z s 2 = some (s + 1) := h.2.2.2.1
theorem atLike.a2 {Z : Zm} {s b n : Nat} (h : atLike Z s b n) : zA Z (s + 1) 100 20 := h.2.2.2.2
theorem atLike.ext {Z Z' : Zm} {s b n : Nat} (x : zX Z Z') (h : atLike Z s b n) : atLike Z' s b n := ⟨h.o.ext x, by
    rw [(x.2 s h.o.1).2.2]
    exact h.r0, by
    rw [(x.2 s h.o.1).2.2]
    exact h.r1, by
    rw [(x.2 s h.o.1).2.2]
    exact h.r2, h.a2.ext x⟩
def atMoney (Z : Zm) (s b n : Nat) : Prop := zO Z s 6 ∧ zR Z s 0 = some b ∧ zR Z s 1 = some n ∧ zR Z s 2 = some (s + 1) ∧ zA Z (s + 1) 100 20 ∧ zR Z s 3 = some (s + 2) ∧ zA Z (s + 2) 100 20 ∧ zR Z s 4 = some (s + 3) ∧ zA Z (s + 3) 100 20
theorem atMoney.o {Z : Zm} {s b n : Nat} (h : atMoney Z s b n) : zO Z s 6 := h.1
theorem atMoney.r0 {Z : Zm} {s b n : Nat} (h : atMoney Z s b n) : zR Z s 0 = some b := h.2.1
theorem atMoney.r1 {Z : Zm} {s b n : Nat} (h : atMoney Z s b n) : zR Z s 1 = some n := h.2.2.1
theorem atMoney.r2 {Z : Zm} {s b n : Nat} (h : atMoney Z s b n) : zR Z s 2 = some (s + 1) := h.2.2.2.1
theorem atMoney.a2 {Z : Zm} {s b n : Nat} (h : atMoney Z s b n) : zA Z (s + 1) 100 20 := h.2.2.2.2.1
theorem atMoney.r3 {Z : Zm} {s b n : Nat} (h : atMoney Z s b n) : zR Z s 3 = some (s + 2) := h.2.2.2.2.2.1
theorem atMoney.a3 {Z : Zm} {s b n : Nat} (h : atMoney Z s b n) : zA Z (s + 2) 100 20 := h.2.2.2.2.2.2.1
theorem atMoney.r4 {Z : Zm} {s b n : Nat} (h : atMoney Z s b n) : zR Z s 4 = some (s + 3) := h.2.2.2.2.2.2.2.1
theorem atMoney.a4 {Z : Zm} {s b n : Nat} (h : atMoney Z s b n) : zA Z (s + 3) 100 20 := h.2.2.2.2.2.2.2.2
theorem atMoney.ext {Z Z' : Zm} {s b n : Nat} (x : zX Z Z') (h : atMoney Z s b n) : atMoney Z' s b n := ⟨h.o.ext x, by
    rw [(x.2 s h.o.1).2.2]
    exact h.r0, by
    rw [(x.2 s h.o.1).2.2]
    exact h.r1, by
    rw [(x.2 s h.o.1).2.2]
    exact h.r2, h.a2.ext x, by
    rw [(x.2 s h.o.1).2.2]
    exact h.r3, h.a3.ext x, by
    rw [(x.2 s h.o.1).2.2]
    exact h.r4, h.a4.ext x⟩
def atNet (Z : Zm) (n : Nat) : Prop := zO Z n 7 ∧ zR Z n 4 = some (n + 1) ∧ zA Z (n + 1) 100 20 ∧ zR Z n 5 = some (n + 2) ∧ zA Z (n + 2) 100 20 ∧ zR Z n 6 = some (n + 3) ∧ zA Z (n + 3) 100 50 ∧ zR Z n 7 = some (n + 4) ∧ zA Z (n + 4) 100 50 ∧ zR Z n 8 = some (n + 5) ∧ zA Z (n + 5) 100 50 ∧ zR Z n 9 = some (n + 6) ∧ zA Z (n + 6) 100 20 ∧ zR Z n 10 = some (n + 7) ∧ zA Z (n + 7) 100 20 ∧ zR Z n 11 = some (n + 8) ∧ zA Z (n + 8) 100 20 ∧ zR Z n 12 = some (n + 9) ∧ zA Z (n + 9) 100 20 ∧ zR Z n 13 = some (n + 10) ∧ zA Z (n + 10) 110 20
theorem atNet.o {Z : Zm} {n : Nat} (h : atNet Z n) : zO Z n 7 := h.1
theorem atNet.r4 {Z : Zm} {n : Nat} (h : atNet Z n) : zR Z n 4 = some (n + 1) := h.2.1
theorem atNet.a4 {Z : Zm} {n : Nat} (h : atNet Z n) : zA Z (n + 1) 100 20 := h.2.2.1
theorem atNet.r5 {Z : Zm} {n : Nat} (h : atNet Z n) : zR Z n 5 = some (n + 2) := h.2.2.2.1
theorem atNet.a5 {Z : Zm} {n : Nat} (h : atNet Z n) : zA Z (n + 2) 100 20 := h.2.2.2.2.1
theorem atNet.r6 {Z : Zm} {n : Nat} (h : atNet Z n) : zR Z n 6 = some (n + 3) := h.2.2.2.2.2.1
theorem atNet.a6 {Z : Zm} {n : Nat} (h : atNet Z n) : zA Z (n + 3) 100 50 := h.2.2.2.2.2.2.1
theorem atNet.r7 {Z : Zm} {n : Nat} (h : atNet Z n) : zR Z n 7 = some (n + 4) := h.2.2.2.2.2.2.2.1
theorem atNet.a7 {Z : Zm} {n : Nat} (h : atNet Z n) : zA Z (n + 4) 100 50 := h.2.2.2.2.2.2.2.2.1
theorem atNet.r8 {Z : Zm} {n : Nat} (h : atNet Z n) : zR Z n 8 = some (n + 5) := h.2.2.2.2.2.2.2.2.2.1
theorem atNet.a8 {Z : Zm} {n : Nat} (h : atNet Z n) : zA Z (n + 5) 100 50 := h.2.2.2.2.2.2.2.2.2.2.1
theorem atNet.r9 {Z : Zm} {n : Nat} (h : atNet Z n) : zR Z n 9 = some (n + 6) := h.2.2.2.2.2.2.2.2.2.2.2.1
theorem atNet.a9 {Z : Zm} {n : Nat} (h : atNet Z n) : zA Z (n + 6) 100 20 := h.2.2.2.2.2.2.2.2.2.2.2.2.1
theorem atNet.r10 {Z : Zm} {n : Nat} (h : atNet Z n) : zR Z n 10 = some (n + 7) := h.2.2.2.2.2.2.2.2.2.2.2.2.2.1
theorem atNet.a10 {Z : Zm} {n : Nat} (h : atNet Z n) : zA Z (n + 7) 100 20 := h.2.2.2.2.2.2.2.2.2.2.2.2.2.2.1
theorem atNet.r11 {Z : Zm} {n : Nat} (h : atNet Z n) : zR Z n 11 = some (n + 8) := h.2.2.2.2.2.2.2.2.2.2.2.2.2.2.2.1
theorem atNet.a11 {Z : Zm} {n : Nat} (h : atNet Z n) : zA Z (n + 8) 100 20 := h.2.2.2.2.2.2.2.2.2.2.2.2.2.2.2.2.1
theorem atNet.r12 {Z : Zm} {n : Nat} (h : atNet Z n) : zR Z n 12 = some (n + 9) := h.2.2.2.2.2.2.2.2.2.2.2.2.2.2.2.2.2.1
theorem atNet.a12 {Z : Zm} {n : Nat} (h : atNet Z n) : zA Z (n + 9) 100 20 := h.2.2.2.2.2.2.2.2.2.2.2.2.2.2.2.2.2.2.1
theorem atNet.r13 {Z : Zm} {n : Nat} (h : atNet Z n) : zR Z n 13 = some (n + 10) := h.2.2.2.2.2.2.2.2.2.2.2.2.2.2.2.2.2.2.2.1
theorem atNet.a13 {Z : Zm} {n : Nat} (h : atNet Z n) : zA Z (n + 10) 110 20 := h.2.2.2.2.2.2.2.2.2.2.2.2.2.2.2.2.2.2.2.2
theorem atNet.ext {Z Z' : Zm} {n : Nat} (x : zX Z Z') (h : atNet Z n) : atNet Z' n := ⟨h.o.ext x, by
    rw [(x.2 n h.o.1).2.2]
    exact h.r4, h.a4.ext x, by
    rw [(x.2 n h.o.1).2.2]
    exact h.r5, h.a5.ext x, by
    rw [(x.2 n h.o.1).2.2]
    exact h.r6, h.a6.ext x, by
    rw [(x.2 n h.o.1).2.2]
    exact h.r7, h.a7.ext x, by
    rw [(x.2 n h.o.1).2.2]
    exact h.r8, h.a8.ext x, by
    rw [(x.2 n h.o.1).2.2]
    exact h.r9, h.a9.ext x, by
    rw [(x.2 n h.o.1).2.2]
    exact h.r10, h.a10.ext x, by
    rw [(x.2 n h.o.1).2.2]
    exact h.r11, h.a11.ext x, by
    rw [(x.2 n h.o.1).2.2]
    exact h.r12, h.a12.ext x, by
    rw [(x.2 n h.o.1).2.2]
    exact h.r13, h.a13.ext x⟩
def atOdds (Z : Zm) (s b n : Nat) : Prop := zO Z s 8 ∧ zR Z s 0 = some b ∧ zR Z s 1 = some n ∧ zR Z s 2 = some (s + 1) ∧ zA Z (s + 1) 100 6 ∧ zR Z s 3 = some (s + 2) ∧ zA Z (s + 2) 100 20 ∧ zR Z s 4 = some (s + 3) ∧ zA Z (s + 3) 100 20 ∧ zR Z s 5 = some (s + 4) ∧ zA Z (s + 4) 100 20
theorem atOdds.o {Z : Zm} {s b n : Nat} (h : atOdds Z s b n) : zO Z s 8 := h.1
theorem atOdds.r0 {Z : Zm} {s b n : Nat} (h : atOdds Z s b n) : zR Z s 0 = some b := h.2.1
theorem atOdds.r1 {Z : Zm} {s b n : Nat} (h : atOdds Z s b n) : zR Z s 1 = some n := h.2.2.1
theorem atOdds.r2 {Z : Zm} {s b n : Nat} (h : atOdds Z s b n) : zR Z s 2 = some (s + 1) := h.2.2.2.1
theorem atOdds.a2 {Z : Zm} {s b n : Nat} (h : atOdds Z s b n) : zA Z (s + 1) 100 6 := h.2.2.2.2.1
theorem atOdds.r3 {Z : Zm} {s b n : Nat} (h : atOdds Z s b n) : zR Z s 3 = some (s + 2) := h.2.2.2.2.2.1
theorem atOdds.a3 {Z : Zm} {s b n : Nat} (h : atOdds Z s b n) : zA Z (s + 2) 100 20 := h.2.2.2.2.2.2.1
theorem atOdds.r4 {Z : Zm} {s b n : Nat} (h : atOdds Z s b n) : zR Z s 4 = some (s + 3) := h.2.2.2.2.2.2.2.1
theorem atOdds.a4 {Z : Zm} {s b n : Nat} (h : atOdds Z s b n) : zA Z (s + 3) 100 20 := h.2.2.2.2.2.2.2.2.1
theorem atOdds.r5 {Z : Zm} {s b n : Nat} (h : atOdds Z s b n) : zR Z s 5 = some (s + 4) := h.2.2.2.2.2.2.2.2.2.1
theorem atOdds.a5 {Z : Zm} {s b n : Nat} (h : atOdds Z s b n) : zA Z (s + 4) 100 20 := h.2.2.2.2.2.2.2.2.2.2
theorem atOdds.ext {Z Z' : Zm} {s b n : Nat} (x : zX Z Z') (h : atOdds Z s b n) : atOdds Z' s b n := ⟨h.o.ext x, by
    rw [(x.2 s h.o.1).2.2]
    exact h.r0, by
    rw [(x.2 s h.o.1).2.2]
    exact h.r1, by
    rw [(x.2 s h.o.1).2.2]
    exact h.r2, h.a2.ext x, by
    rw [(x.2 s h.o.1).2.2]
    exact h.r3, h.a3.ext x, by
    rw [(x.2 s h.o.1).2.2]
    exact h.r4, h.a4.ext x, by
    rw [(x.2 s h.o.1).2.2]
    exact h.r5, h.a5.ext x⟩
def atPlan (Z : Zm) (p : Nat) : Prop := zO Z p 9 ∧ zR Z p 6 = some (p + 1) ∧ zA Z (p + 1) 100 3 ∧ zR Z p 7 = some (p + 2) ∧ zA Z (p + 2) 100 20 ∧ zR Z p 8 = some (p + 3) ∧ zA Z (p + 3) 100 20 ∧ zR Z p 9 = some (p + 4) ∧ zA Z (p + 4) 100 20 ∧ zR Z p 10 = some (p + 5) ∧ zA Z (p + 5) 100 20 ∧ zR Z p 11 = some (p + 6) ∧ zA Z (p + 6) 100 20 ∧ zR Z p 12 = some (p + 7) ∧ zA Z (p + 7) 100 20 ∧ zR Z p 13 = some (p + 8) ∧ zA Z (p + 8) 100 20 ∧ zR Z p 14 = some (p + 9) ∧ zA Z (p + 9) 100 20
theorem atPlan.o {Z : Zm} {p : Nat} (h : atPlan Z p) : zO Z p 9 := h.1
theorem atPlan.r6 {Z : Zm} {p : Nat} (h : atPlan Z p) : zR Z p 6 = some (p + 1) := h.2.1
theorem atPlan.a6 {Z : Zm} {p : Nat} (h : atPlan Z p) : zA Z (p + 1) 100 3 := h.2.2.1
theorem atPlan.r7 {Z : Zm} {p : Nat} (h : atPlan Z p) : zR Z p 7 = some (p + 2) := h.2.2.2.1
theorem atPlan.a7 {Z : Zm} {p : Nat} (h : atPlan Z p) : zA Z (p + 2) 100 20 := h.2.2.2.2.1
theorem atPlan.r8 {Z : Zm} {p : Nat} (h : atPlan Z p) : zR Z p 8 = some (p + 3) := h.2.2.2.2.2.1
theorem atPlan.a8 {Z : Zm} {p : Nat} (h : atPlan Z p) : zA Z (p + 3) 100 20 := h.2.2.2.2.2.2.1
theorem atPlan.r9 {Z : Zm} {p : Nat} (h : atPlan Z p) : zR Z p 9 = some (p + 4) := h.2.2.2.2.2.2.2.1
theorem atPlan.a9 {Z : Zm} {p : Nat} (h : atPlan Z p) : zA Z (p + 4) 100 20 := h.2.2.2.2.2.2.2.2.1
theorem atPlan.r10 {Z : Zm} {p : Nat} (h : atPlan Z p) : zR Z p 10 = some (p + 5) := h.2.2.2.2.2.2.2.2.2.1
theorem atPlan.a10 {Z : Zm} {p : Nat} (h : atPlan Z p) : zA Z (p + 5) 100 20 := h.2.2.2.2.2.2.2.2.2.2.1
theorem atPlan.r11 {Z : Zm} {p : Nat} (h : atPlan Z p) : zR Z p 11 = some (p + 6) := h.2.2.2.2.2.2.2.2.2.2.2.1
theorem atPlan.a11 {Z : Zm} {p : Nat} (h : atPlan Z p) : zA Z (p + 6) 100 20 := h.2.2.2.2.2.2.2.2.2.2.2.2.1
theorem atPlan.r12 {Z : Zm} {p : Nat} (h : atPlan Z p) : zR Z p 12 = some (p + 7) := h.2.2.2.2.2.2.2.2.2.2.2.2.2.1
theorem atPlan.a12 {Z : Zm} {p : Nat} (h : atPlan Z p) : zA Z (p + 7) 100 20 := h.2.2.2.2.2.2.2.2.2.2.2.2.2.2.1
theorem atPlan.r13 {Z : Zm} {p : Nat} (h : atPlan Z p) : zR Z p 13 = some (p + 8) := h.2.2.2.2.2.2.2.2.2.2.2.2.2.2.2.1
theorem atPlan.a13 {Z : Zm} {p : Nat} (h : atPlan Z p) : zA Z (p + 8) 100 20 := h.2.2.2.2.2.2.2.2.2.2.2.2.2.2.2.2.1
theorem atPlan.r14 {Z : Zm} {p : Nat} (h : atPlan Z p) : zR Z p 14 = some (p + 9) := h.2.2.2.2.2.2.2.2.2.2.2.2.2.2.2.2.2.1
theorem atPlan.a14 {Z : Zm} {p : Nat} (h : atPlan Z p) : zA Z (p + 9) 100 20 := h.2.2.2.2.2.2.2.2.2.2.2.2.2.2.2.2.2.2
theorem atPlan.ext {Z Z' : Zm} {p : Nat} (x : zX Z Z') (h : atPlan Z p) : atPlan Z' p := ⟨h.o.ext x, by
    rw [(x.2 p h.o.1).2.2]
    exact h.r6, h.a6.ext x, by
    rw [(x.2 p h.o.1).2.2]
    exact h.r7, h.a7.ext x, by
    rw [(x.2 p h.o.1).2.2]
    exact h.r8, h.a8.ext x, by
    rw [(x.2 p h.o.1).2.2]
    exact h.r9, h.a9.ext x, by
    rw [(x.2 p h.o.1).2.2]
    exact h.r10, h.a10.ext x, by
    rw [(x.2 p h.o.1).2.2]
    exact h.r11, h.a11.ext x, by
    rw [(x.2 p h.o.1).2.2]
    exact h.r12, h.a12.ext x, by
    rw [(x.2 p h.o.1).2.2]
    exact h.r13, h.a13.ext x, by
    rw [(x.2 p h.o.1).2.2]
    exact h.r14, h.a14.ext x⟩
def atText (Z : Zm) (t : Nat) : Prop := zO Z t 10 ∧ zR Z t 0 = some (t + 1) ∧ zA Z (t + 1) 101 80
theorem atText.o {Z : Zm} {t : Nat} (h : atText Z t) : zO Z t 10 := h.1
theorem atText.r0 {Z : Zm} {t : Nat} (h : atText Z t) : zR Z t 0 = some (t + 1) := h.2.1
theorem atText.a0 {Z : Zm} {t : Nat} (h : atText Z t) : zA Z (t + 1) 101 80 := h.2.2
theorem atText.ext {Z Z' : Zm} {t : Nat} (x : zX Z Z') (h : atText Z t) : atText Z' t := ⟨h.o.ext x, by
    rw [(x.2 t h.o.1).2.2]
    exact h.r0, h.a0.ext x⟩
def atModel (Z : Zm) (m B : Nat) : Prop := zO Z m 12 ∧ zR Z m 0 = some (B) ∧ zA Z (B) 100 412 ∧ zR Z m 1 = some (m + 2) ∧ zA Z (m + 2) 120 10 ∧ zR Z m 3 = some (m + 3) ∧ zA Z (m + 3) 101 80 ∧ zR Z m 5 = some (m + 4) ∧ zA Z (m + 4) 121 4 ∧ (∀ i, i < 4 → zR Z (m + 4) i = some (m + 5 + i)) ∧ (∀ i, i < 4 → zA Z (m + 5 + i) 102 168) ∧ zR Z m 6 = some (m + 9) ∧ zA Z (m + 9) 100 3 ∧ zR Z m 7 = some (m + 10) ∧ zA Z (m + 10) 100 20 ∧ zR Z m 11 = some (m + 11) ∧ zA Z (m + 11) 100 20 ∧ zR Z m 12 = some (m + 12) ∧ zA Z (m + 12) 100 20 ∧ zR Z m 13 = some (m + 13) ∧ zA Z (m + 13) 100 3 ∧ zR Z m 15 = some (m + 14) ∧ zA Z (m + 14) 100 20 ∧ zR Z m 17 = some (m + 15) ∧ zA Z (m + 15) 100 20 ∧ zR Z m 18 = some (m + 16) ∧ zA Z (m + 16) 100 20 ∧ zR Z m 20 = some (m + 17) ∧ zA Z (m + 17) 100 20 ∧ zR Z m 21 = some (m + 18) ∧ zA Z (m + 18) 100 20 ∧ zR Z m 22 = some (m + 19) ∧ zA Z (m + 19) 100 20
theorem atModel.o {Z : Zm} {m B : Nat} (h : atModel Z m B) : zO Z m 12 := h.1
theorem atModel.r0 {Z : Zm} {m B : Nat} (h : atModel Z m B) : zR Z m 0 = some (B) := h.2.1
theorem atModel.a0 {Z : Zm} {m B : Nat} (h : atModel Z m B) : zA Z (B) 100 412 := h.2.2.1
theorem atModel.r1 {Z : Zm} {m B : Nat} (h : atModel Z m B) : zR Z m 1 = some (m + 2) := h.2.2.2.1
theorem atModel.a1 {Z : Zm} {m B : Nat} (h : atModel Z m B) : zA Z (m + 2) 120 10 := h.2.2.2.2.1
theorem atModel.r3 {Z : Zm} {m B : Nat} (h : atModel Z m B) : zR Z m 3 = some (m + 3) := h.2.2.2.2.2.1
theorem atModel.a3 {Z : Zm} {m B : Nat} (h : atModel Z m B) : zA Z (m + 3) 101 80 := h.2.2.2.2.2.2.1
theorem atModel.r5 {Z : Zm} {m B : Nat} (h : atModel Z m B) : zR Z m 5 = some (m + 4) := h.2.2.2.2.2.2.2.1
theorem atModel.a5 {Z : Zm} {m B : Nat} (h : atModel Z m B) : zA Z (m + 4) 121 4 := h.2.2.2.2.2.2.2.2.1
theorem atModel.e5 {Z : Zm} {m B : Nat} (h : atModel Z m B) : ∀ i, i < 4 → zR Z (m + 4) i = some (m + 5 + i) := h.2.2.2.2.2.2.2.2.2.1
theorem atModel.x5 {Z : Zm} {m B : Nat} (h : atModel Z m B) : ∀ i, i < 4 → zA Z (m + 5 + i) 102 168 := h.2.2.2.2.2.2.2.2.2.2.1
theorem atModel.r6 {Z : Zm} {m B : Nat} (h : atModel Z m B) : zR Z m 6 = some (m + 9) := h.2.2.2.2.2.2.2.2.2.2.2.1
theorem atModel.a6 {Z : Zm} {m B : Nat} (h : atModel Z m B) : zA Z (m + 9) 100 3 := h.2.2.2.2.2.2.2.2.2.2.2.2.1
theorem atModel.r7 {Z : Zm} {m B : Nat} (h : atModel Z m B) : zR Z m 7 = some (m + 10) := h.2.2.2.2.2.2.2.2.2.2.2.2.2.1
theorem atModel.a7 {Z : Zm} {m B : Nat} (h : atModel Z m B) : zA Z (m + 10) 100 20 := h.2.2.2.2.2.2.2.2.2.2.2.2.2.2.1
theorem atModel.r11 {Z : Zm} {m B : Nat} (h : atModel Z m B) : zR Z m 11 = some (m + 11) := h.2.2.2.2.2.2.2.2.2.2.2.2.2.2.2.1
theorem atModel.a11 {Z : Zm} {m B : Nat} (h : atModel Z m B) : zA Z (m + 11) 100 20 := h.2.2.2.2.2.2.2.2.2.2.2.2.2.2.2.2.1
theorem atModel.r12 {Z : Zm} {m B : Nat} (h : atModel Z m B) : zR Z m 12 = some (m + 12) := h.2.2.2.2.2.2.2.2.2.2.2.2.2.2.2.2.2.1
theorem atModel.a12 {Z : Zm} {m B : Nat} (h : atModel Z m B) : zA Z (m + 12) 100 20 := h.2.2.2.2.2.2.2.2.2.2.2.2.2.2.2.2.2.2.1
theorem atModel.r13 {Z : Zm} {m B : Nat} (h : atModel Z m B) : zR Z m 13 = some (m + 13) := h.2.2.2.2.2.2.2.2.2.2.2.2.2.2.2.2.2.2.2.1
theorem atModel.a13 {Z : Zm} {m B : Nat} (h : atModel Z m B) : zA Z (m + 13) 100 3 := h.2.2.2.2.2.2.2.2.2.2.2.2.2.2.2.2.2.2.2.2.1
theorem atModel.r15 {Z : Zm} {m B : Nat} (h : atModel Z m B) : zR Z m 15 = some (m + 14) := h.2.2.2.2.2.2.2.2.2.2.2.2.2.2.2.2.2.2.2.2.2.1
theorem atModel.a15 {Z : Zm} {m B : Nat} (h : atModel Z m B) : zA Z (m + 14) 100 20 := h.2.2.2.2.2.2.2.2.2.2.2.2.2.2.2.2.2.2.2.2.2.2.1
theorem atModel.r17 {Z : Zm} {m B : Nat} (h : atModel Z m B) : zR Z m 17 = some (m + 15) := h.2.2.2.2.2.2.2.2.2.2.2.2.2.2.2.2.2.2.2.2.2.2.2.1
theorem atModel.a17 {Z : Zm} {m B : Nat} (h : atModel Z m B) : zA Z (m + 15) 100 20 := h.2.2.2.2.2.2.2.2.2.2.2.2.2.2.2.2.2.2.2.2.2.2.2.2.1
theorem atModel.r18 {Z : Zm} {m B : Nat} (h : atModel Z m B) : zR Z m 18 = some (m + 16) := h.2.2.2.2.2.2.2.2.2.2.2.2.2.2.2.2.2.2.2.2.2.2.2.2.2.1
theorem atModel.a18 {Z : Zm} {m B : Nat} (h : atModel Z m B) : zA Z (m + 16) 100 20 := h.2.2.2.2.2.2.2.2.2.2.2.2.2.2.2.2.2.2.2.2.2.2.2.2.2.2.1
theorem atModel.r20 {Z : Zm} {m B : Nat} (h : atModel Z m B) : zR Z m 20 = some (m + 17) := h.2.2.2.2.2.2.2.2.2.2.2.2.2.2.2.2.2.2.2.2.2.2.2.2.2.2.2.1
theorem atModel.a20 {Z : Zm} {m B : Nat} (h : atModel Z m B) : zA Z (m + 17) 100 20 := h.2.2.2.2.2.2.2.2.2.2.2.2.2.2.2.2.2.2.2.2.2.2.2.2.2.2.2.2.1
theorem atModel.r21 {Z : Zm} {m B : Nat} (h : atModel Z m B) : zR Z m 21 = some (m + 18) := h.2.2.2.2.2.2.2.2.2.2.2.2.2.2.2.2.2.2.2.2.2.2.2.2.2.2.2.2.2.1
theorem atModel.a21 {Z : Zm} {m B : Nat} (h : atModel Z m B) : zA Z (m + 18) 100 20 := h.2.2.2.2.2.2.2.2.2.2.2.2.2.2.2.2.2.2.2.2.2.2.2.2.2.2.2.2.2.2.1
theorem atModel.r22 {Z : Zm} {m B : Nat} (h : atModel Z m B) : zR Z m 22 = some (m + 19) := h.2.2.2.2.2.2.2.2.2.2.2.2.2.2.2.2.2.2.2.2.2.2.2.2.2.2.2.2.2.2.2.1
theorem atModel.a22 {Z : Zm} {m B : Nat} (h : atModel Z m B) : zA Z (m + 19) 100 20 := h.2.2.2.2.2.2.2.2.2.2.2.2.2.2.2.2.2.2.2.2.2.2.2.2.2.2.2.2.2.2.2.2
theorem atModel.ext {Z Z' : Zm} {m B : Nat} (x : zX Z Z') (h : atModel Z m B) : atModel Z' m B := ⟨h.o.ext x, by
    rw [(x.2 m h.o.1).2.2]
    exact h.r0, h.a0.ext x, by
    rw [(x.2 m h.o.1).2.2]
    exact h.r1, h.a1.ext x, by
    rw [(x.2 m h.o.1).2.2]
    exact h.r3, h.a3.ext x, by
    rw [(x.2 m h.o.1).2.2]
    exact h.r5, h.a5.ext x, fun i hi => by
    rw [(x.2 _ h.a5.1).2.2]
    exact h.e5 i hi, fun i hi => (h.x5 i hi).ext x, by
    rw [(x.2 m h.o.1).2.2]
    exact h.r6, h.a6.ext x, by
    rw [(x.2 m h.o.1).2.2]
    exact h.r7, h.a7.ext x, by
    rw [(x.2 m h.o.1).2.2]
    exact h.r11, h.a11.ext x, by
    rw [(x.2 m h.o.1).2.2]
    exact h.r12, h.a12.ext x, by
    rw [(x.2 m h.o.1).2.2]
    exact h.r13, h.a13.ext x, by
    rw [(x.2 m h.o.1).2.2]
    exact h.r15, h.a15.ext x, by
    rw [(x.2 m h.o.1).2.2]
    exact h.r17, h.a17.ext x, by
    rw [(x.2 m h.o.1).2.2]
    exact h.r18, h.a18.ext x, by
    rw [(x.2 m h.o.1).2.2]
    exact h.r20, h.a20.ext x, by
    rw [(x.2 m h.o.1).2.2]
    exact h.r21, h.a21.ext x, by
    rw [(x.2 m h.o.1).2.2]
    exact h.r22, h.a22.ext x⟩
