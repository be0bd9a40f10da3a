/-! ===== the clock: begins and ends ===== -/
theorem w01_no {w : Nat → Int} (hw : w01 w) {l b : Nat} (h : isRB w l 1 b) : cW w l (b - l) = 0 := by
  have h0 : ∀ i, i < b - l → w ((l + i) % 168) = 0 := fun i hi => by
    obtain ⟨j, j1, j2, j3⟩ := h.2.2 (l + i) (by omega) (by omega)
    rw [show j = l + i by omega] at j3
    exact (hw _ (by omega)).resolve_right j3
  unfold cW
  rw [zsum_eq h0]
  exact zsum_0 _
theorem isPE_pre {w : Nat → Int} (hw : w01 w) {l b n e : Nat} (h : isRB w l 1 b) (h' : isPE w b n e) : isPE w l n e := by
  have h1 := cW_add w l (b - l) (e - b)
  have h2 := w01_no hw h
  have h3 := h.1
  have h4 := h'.1
  rw [show l + (b - l) = b by omega, show b - l + (e - b) = e - l by omega] at h1
  exact ⟨by omega, by have := h'.2.1; omega, h'.2.2⟩
theorem zsum_w1 {w : Nat → Int} (hw : w01 w) (hp : ∃ h, h < 168 ∧ w h = 1) : 1 ≤ zsum w 168 := by
  obtain ⟨h, h1, h2⟩ := hp
  have h3 := zsum_lt (f := fun _ => 0) (g := w) (n := 168) (i := h) (fun i hi => by rcases hw i hi with e | e <;> omega) h1 (by omega)
  rw [zsum_0] at h3
  omega
theorem isPE_r {w : Nat → Int} (hw : w01 w) (hp : ∃ h, h < 168 ∧ w h = 1) {l n e : Nat} (h : isPE w l n e) : e ≤ l + 168 * n := by
  refine Classical.byContradiction fun c => ?_
  have h1 := cW_weeks w l n
  have h2 := zsum_w1 hw hp
  have h3 := cW_le hw l (m := 168 * n) (m' := e - 1 - l) (by omega)
  have h4 := cW_s w l (e - 1 - l)
  have h5 := h.1
  rw [show e - 1 - l + 1 = e - l by omega, show l + (e - 1 - l) = e - 1 by omega, h.2.1, h.2.2] at h4
  have h6 : (1 : Int) * n ≤ zsum w 168 * n := Int.mul_le_mul_of_nonneg_right h2 (by omega)
  omega
theorem noRB_ab {w : Nat → Int} (hp : ∃ h, h < 168 ∧ w h = 1) {l : Nat} (h : noRB w l 1) : False := by
  obtain ⟨x, h1, h2⟩ := hp
  obtain ⟨i, i1, i2, i3⟩ := h (168 * l + x) (by omega)
  rw [show i = 168 * l + x by omega, show (168 * l + x) % 168 = x by omega] at i3
  exact i3 h2
/-- the let of a task, by the first j needs; -1 if one of those that it needs never begins -/
def sLt (k : Bk) (e : Nat → Int) (t j : Nat) (L : Int) : Prop := (L = -1 ∧ ∃ i, i < j ∧ kL k i = t ∧ e (kE k i) = -1) ∨ (0 ≤ L ∧ (∀ i, i < j → kL k i = t → e (kE k i) ≠ -1 ∧ e (kE k i) + kG k i ≤ L) ∧ (L = 0 ∨ ∃ i, i < j ∧ kL k i = t ∧ L = e (kE k i) + kG k i))
theorem sLt_0 (k : Bk) (e : Nat → Int) (t : Nat) : sLt k e t 0 0 := Or.inr ⟨Int.le_refl _, fun i hi => absurd hi (Nat.not_lt_zero _), Or.inl rfl⟩
theorem sLt.skip {k : Bk} {e : Nat → Int} {t j : Nat} {L : Int} (h : sLt k e t j L) (c : kL k j ≠ t) : sLt k e t (j + 1) L := by
  have q : ∀ i, i < j + 1 → kL k i = t → i < j := fun i hi e => by
    by_cases g : i = j
    · rw [g] at e
      exact absurd e c
    · omega
  rcases h with ⟨h1, i, i1, i2, i3⟩ | ⟨h1, h2, h3⟩
  · exact Or.inl ⟨h1, i, by omega, i2, i3⟩
  · refine Or.inr ⟨h1, fun i hi e => h2 i (q i hi e) e, ?_⟩
    rcases h3 with g | ⟨i, i1, i2, i3⟩
    · exact Or.inl g
    · exact Or.inr ⟨i, by omega, i2, i3⟩
theorem sLt.take {k : Bk} {e : Nat → Int} {t j : Nat} {L : Int} (h : sLt k e t j L) (c : kL k j = t) (he : -1 ≤ e (kE k j)) (hg : 0 ≤ kG k j) : sLt k e t (j + 1) (if L = -1 then -1 else if e (kE k j) = -1 then -1 else max L (e (kE k j) + kG k j)) := by
  rcases h with ⟨h1, i, i1, i2, i3⟩ | ⟨h1, h2, h3⟩
  · rw [if_pos h1]
    exact Or.inl ⟨rfl, i, by omega, i2, i3⟩
  · rw [if_neg (by omega)]
    by_cases d : e (kE k j) = -1
    · rw [if_pos d]
      exact Or.inl ⟨rfl, j, by omega, c, d⟩
    · rw [if_neg d]
      refine Or.inr ⟨by omega, fun i hi e1 => ?_, ?_⟩
      · by_cases g : i = j
        · rw [g]
          exact ⟨d, by omega⟩
        · have := h2 i (by omega) e1
          exact ⟨this.1, by omega⟩
      · by_cases g : L ≤ e (kE k j) + kG k j
        · exact Or.inr ⟨j, by omega, c, by omega⟩
        · rcases h3 with g2 | ⟨i, i1, i2, i3⟩
          · exact Or.inl (by omega)
          · exact Or.inr ⟨i, by omega, i2, by omega⟩
theorem sLt.le {k : Bk} {e : Nat → Int} {t j : Nat} {L M : Int} (h : sLt k e t j L) (hM : ∀ i, i < j → kL k i = t → e (kE k i) + kG k i ≤ M) (h0 : 0 ≤ M) : -1 ≤ L ∧ L ≤ M := by
  rcases h with ⟨h1, -⟩ | ⟨h1, h2, h3 | ⟨i, i1, i2, i3⟩⟩
  · omega
  · omega
  · have := hM i i1 i2
    omega
theorem sLt.eqn {k : Bk} {e e' : Nat → Int} {t j : Nat} {L : Int} (h : sLt k e t j L) (he : ∀ i, i < j → kL k i = t → e' (kE k i) = e (kE k i)) : sLt k e' t j L := by
  rcases h with ⟨h1, i, i1, i2, i3⟩ | ⟨h1, h2, h3⟩
  · exact Or.inl ⟨h1, i, i1, i2, by rw [he i i1 i2]; exact i3⟩
  · refine Or.inr ⟨h1, fun i hi q => by rw [he i hi q]; exact h2 i hi q, ?_⟩
    rcases h3 with g | ⟨i, i1, i2, i3⟩
    · exact Or.inl g
    · exact Or.inr ⟨i, i1, i2, by rw [he i i1 i2]; exact i3⟩
theorem sLt_eq {k : Bk} {e : Nat → Int} {t j : Nat} {L L' : Int} (he : ∀ i, i < j → kL k i = t → -1 ≤ e (kE k i)) (hg : ∀ i, i < j → 0 ≤ kG k i) (h : sLt k e t j L) (h' : sLt k e t j L') : L = L' := by
  rcases h with ⟨h1, i, i1, i2, i3⟩ | ⟨h1, h2, h3⟩
  · rcases h' with ⟨h1', -⟩ | ⟨h1', h2', -⟩
    · omega
    · exact absurd i3 (h2' i i1 i2).1
  · rcases h' with ⟨h1', i, i1, i2, i3⟩ | ⟨h1', h2', h3'⟩
    · exact absurd i3 (h2 i i1 i2).1
    · rcases h3 with a | ⟨i, i1, i2, i3⟩
      · rcases h3' with b | ⟨i, i1, i2, i3⟩
        · omega
        · have := (h2 i i1 i2).2
          omega
      · have := (h2' i i1 i2).2
        rcases h3' with b | ⟨i', i1', i2', i3'⟩
        · have := h1'
          omega
        · have := (h2 i' i1' i2').2
          omega
theorem kPm.slt {k k' : Bk} (h : kPm k k') {e : Nat → Int} {t : Nat} {L : Int} (hf : sLt k' e t (kM k') L) : sLt k e t (kM k) L := by
  rcases hf with ⟨h1, i, i1, i2, i3⟩ | ⟨h1, h2, h3⟩
  · obtain ⟨j, j1, j2, j3, j4⟩ := h.of i1
    exact Or.inl ⟨h1, j, j1, j3.trans i2, by rw [j2]; exact i3⟩
  · refine Or.inr ⟨h1, fun i hi q => ?_, ?_⟩
    · obtain ⟨j, j1, j2, j3, j4⟩ := h.to hi
      have := h2 j j1 (j3.trans q)
      rw [j2, j4] at this
      exact this
    · rcases h3 with g | ⟨i, i1, i2, i3⟩
      · exact Or.inl g
      · obtain ⟨j, j1, j2, j3, j4⟩ := h.of i1
        exact Or.inr ⟨j, j1, j3.trans i2, by rw [j2, j4]; exact i3⟩
/-- the begin and the end of a task of n hours that L lets begin -/
def isTk (w : Nat → Int) (d pz L b e : Int) : Prop := (L = -1 ∧ b = -1 ∧ e = -1) ∨ ∃ l n : Nat, L = (l : Int) ∧ d = (n : Int) ∧ ((pz = 1 ∧ ∃ b' e' : Nat, isRB w l 1 b' ∧ isPE w l n e' ∧ b = (b' : Int) ∧ e = (e' : Int)) ∨ (pz ≠ 1 ∧ ((∃ b' : Nat, isRB w l n b' ∧ b = (b' : Int) ∧ e = (b' : Int) + n) ∨ (noRB w l n ∧ b = -1 ∧ e = -1))))
theorem isTk_eq {w : Nat → Int} (hw : w01 w) {d pz L b e b' e' : Int} (h : isTk w d pz L b e) (h' : isTk w d pz L b' e') : b = b' ∧ e = e' := by
  rcases h with ⟨h1, h2, h3⟩ | ⟨l, n, h1, h2, h3⟩
  · rcases h' with ⟨h1', h2', h3'⟩ | ⟨l, n, h1', -, -⟩
    · omega
    · omega
  · rcases h' with ⟨h1', h2', h3'⟩ | ⟨l', n', h1', h2', h3'⟩
    · omega
    · obtain rfl : l' = l := by omega
      obtain rfl : n' = n := by omega
      rcases h3 with ⟨c, x, y, a1, a2, a3, a4⟩ | ⟨c, a⟩
      · rcases h3' with ⟨c', x', y', b1, b2, b3, b4⟩ | ⟨c', -⟩
        · have := isRB_eq a1 b1
          have := isPE_eq hw a2 b2
          omega
        · exact absurd c c'
      · rcases h3' with ⟨c', -⟩ | ⟨c', a'⟩
        · exact absurd c' c
        · rcases a with ⟨x, a1, a2, a3⟩ | ⟨a1, a2, a3⟩
          · rcases a' with ⟨x', b1, b2, b3⟩ | ⟨b1, b2, b3⟩
            · have := isRB_eq a1 b1
              omega
            · exact (noRB_no b1 a1).elim
          · rcases a' with ⟨x', b1, b2, b3⟩ | ⟨b1, b2, b3⟩
            · exact (noRB_no a1 b1).elim
            · omega
theorem isTk.r {w : Nat → Int} (hw : w01 w) (hp : ∃ h, h < 168 ∧ w h = 1) {d pz L b e : Int} (h : isTk w d pz L b e) (hd : 1 ≤ d ∧ d ≤ 60) (hL : -1 ≤ L) : -1 ≤ b ∧ b ≤ e ∧ e ≤ L + 10250 ∧ (b = -1 ↔ e = -1) := by
  rcases h with ⟨h1, h2, h3⟩ | ⟨l, n, h1, h2, ⟨c, x, y, a1, a2, a3, a4⟩ | ⟨c, ⟨x, a1, a2, a3⟩ | ⟨a1, a2, a3⟩⟩⟩
  · omega
  · have := isPE_r hw hp a2
    have g : x < y := by
      refine Classical.byContradiction fun g => ?_
      have g0 := a2.1
      have g1 := w01_no hw a1
      have g2 := cW_le hw l (m := y - l) (m' := x - l) (by omega)
      have g3 := a2.2.1
      omega
    omega
  · have := isRB_r a1
    omega
  · omega
/-- the known tasks F stand as they must -/
def ckI (k : Bk) (W : Nat → Nat → Int) (pos : Nat → Nat) (F : Nat → Prop) (b e : Nat → Int) : Prop := ∀ t, t < kN k → F t → (∀ j, j < kM k → kL k j = t → F (kE k j)) ∧ (∃ L, sLt k e t (kM k) L ∧ isTk (W (kF k 3 t).toNat) (kF k 0 t) (kF k 5 t) L (b t) (e t)) ∧ -1 ≤ b t ∧ b t ≤ e t ∧ e t ≤ 10300 * ((pos t : Int) + 1) ∧ (b t = -1 ↔ e t = -1)
def wOk (W : Nat → Nat → Int) : Prop := ∀ c, c < 4 → w01 (W c) ∧ ∃ h, h < 168 ∧ W c h = 1
theorem okS.w {σ : St} (h : okS σ) : wOk (sW σ) := fun c hc => ⟨fun x hx => (h.2.2.2.1 c hc).1 x hx, (h.2.2.2.1 c hc).2⟩
theorem kOk.c {k : Bk} (ho : kOk k) {t : Nat} (ht : t < kN k) : 0 ≤ kF k 3 t ∧ kF k 3 t ≤ 3 := by
  have := ho.2.1 t ht
  omega
theorem ckI.let {k : Bk} (ho : kOk k) {W : Nat → Nat → Int} {pos : Nat → Nat} {F : Nat → Prop} {b e : Nat → Int} (h : ckI k W pos F b e) {x : Nat} (hp : ∀ j, j < kM k → pos (kE k j) < pos (kL k j)) {j : Nat} (hF : ∀ i, i < j → kL k i = x → F (kE k i)) (hj : j ≤ kM k) {L : Int} (hL : sLt k e x j L) : -1 ≤ L ∧ L ≤ 10300 * (pos x : Int) + 30 := by
  refine hL.le (fun i hi q => ?_) (by omega)
  have h1 := (h (kE k i) (ho.e (by omega)) (hF i hi q)).2.2.2.2.1
  have h2 := hp i (by omega)
  have h3 := ho.g (show i < kM k by omega)
  rw [q] at h2
  omega
theorem ckI.set {k : Bk} (ho : kOk k) {W : Nat → Nat → Int} (hW : wOk W) {pos : Nat → Nat} {F : Nat → Prop} {b e : Nat → Int} (h : ckI k W pos F b e) {x : Nat} (hx : x < kN k) (hn : ¬ F x) (hp : ∀ j, j < kM k → pos (kE k j) < pos (kL k j)) (hF : ∀ j, j < kM k → kL k j = x → F (kE k j)) {L b' e' : Int} (hL : sLt k e x (kM k) L) (hT : isTk (W (kF k 3 x).toNat) (kF k 0 x) (kF k 5 x) L b' e') {F' : Nat → Prop} (hF' : ∀ t, t < kN k → (F' t ↔ F t ∨ t = x)) : ckI k W pos F' (zu b x b') (zu e x e') := by
  have hL2 := h.let ho hp hF (Nat.le_refl _) hL
  have hc := ho.c hx
  obtain ⟨w1, w2⟩ := hW (kF k 3 x).toNat (by omega)
  have hr := hT.r w1 w2 (ho.len hx) hL2.1
  intro t ht hf
  by_cases c : t = x
  · rw [c, zu_same, zu_same]
    refine ⟨fun j hj q => (hF' _ (ho.e hj)).mpr (Or.inl (hF j hj q)), ⟨L, hL.eqn fun i hi q => ?_, hT⟩, by omega, by omega, by omega, by omega⟩
    have : kE k i ≠ x := fun g => hn (by rw [← g]; exact hF i hi q)
    rw [zu_other this]
  · have hf' := ((hF' t ht).mp hf).resolve_right c
    obtain ⟨h1, ⟨M, h2, h3⟩, h4⟩ := h t ht hf'
    rw [zu_other c, zu_other c]
    refine ⟨fun j hj q => (hF' _ (ho.e hj)).mpr (Or.inl (h1 j hj q)), ⟨M, h2.eqn fun i hi q => ?_, h3⟩, h4⟩
    have : kE k i ≠ x := fun g => hn (by rw [← g]; exact h1 i hi q)
    rw [zu_other this]
def isClk (k : Bk) (W : Nat → Nat → Int) (b e : Nat → Int) : Prop := ∀ t, t < kN k → (∃ L, sLt k e t (kM k) L ∧ isTk (W (kF k 3 t).toNat) (kF k 0 t) (kF k 5 t) L (b t) (e t)) ∧ -1 ≤ b t ∧ b t ≤ e t ∧ e t ≤ 206000 ∧ (b t = -1 ↔ e t = -1)
theorem ckI.clk {k : Bk} (ho : kOk k) {W : Nat → Nat → Int} {pos : Nat → Nat} {F : Nat → Prop} {b e : Nat → Int} (h : ckI k W pos F b e) (hF : ∀ t, t < kN k → F t) (hp : ∀ t, t < kN k → pos t < kN k) : isClk k W b e := fun t ht => by
  obtain ⟨-, h2, h3, h4, h5, h6⟩ := h t ht (hF t ht)
  have := hp t ht
  have := ho.n
  exact ⟨h2, h3, h4, by omega, h6⟩
theorem isClk_eq {k : Bk} (ho : kOk k) {W : Nat → Nat → Int} (hW : wOk W) {b e b' e' : Nat → Int} (h : isClk k W b e) (h' : isClk k W b' e') : ∀ t, t < kN k → b t = b' t ∧ e t = e' t := by
  obtain ⟨pos, p1, p2⟩ := kPos ho
  suffices key : ∀ n t, pos t < n → t < kN k → b t = b' t ∧ e t = e' t from fun t ht => key _ t (Nat.lt_succ_self _) ht
  intro n
  induction n with
  | zero => exact fun t ht => absurd ht (Nat.not_lt_zero _)
  | succ n ih =>
    intro t hp ht
    obtain ⟨⟨L, a1, a2⟩, -⟩ := h t ht
    obtain ⟨⟨L', b1, b2⟩, -⟩ := h' t ht
    have a3 : sLt k e' t (kM k) L := a1.eqn fun i hi q => by
      have g := p2 i hi
      rw [q] at g
      exact (ih _ (by omega) (ho.e hi)).2.symm
    have eL : L = L' := sLt_eq (fun i hi _ => by have := h' _ (ho.e hi); omega) (fun i hi => (ho.g hi).1) a3 b1
    rw [← eL] at b2
    have hc := ho.c ht
    exact isTk_eq (hW _ (by omega)).1 a2 b2
noncomputable def vClk (k : Bk) (W : Nat → Nat → Int) : (Nat → Int) × (Nat → Int) := @Classical.epsilon _ ⟨(fun _ => 0, fun _ => 0)⟩ (fun a : (Nat → Int) × (Nat → Int) => isClk k W a.1 a.2)
theorem vClk_of {k : Bk} (ho : kOk k) {W : Nat → Nat → Int} (hW : wOk W) {b e : Nat → Int} (h : isClk k W b e) : ∀ t, t < kN k → b t = (vClk k W).1 t ∧ e t = (vClk k W).2 t := isClk_eq ho hW h (@Classical.epsilon_spec _ (fun a : (Nat → Int) × (Nat → Int) => isClk k W a.1 a.2) ⟨(b, e), h⟩)
