set_option maxRecDepth 20000 in
theorem e_X12_swap {G : Gx} {Q : Rv → Zm → Prop} {Z : Zm} {u : Nat} {N : Nat} {x : Int} {y : Int} (hu : zA Z u 100 N) (h : ((zIx x N) ∧ (zIx y N) ∧ ∀ Z3, Z3 = zSI Z u (zu (zI Z u) x.toNat (zI Z u y.toNat)) → ∀ Z4, Z4 = zSI Z3 u (zu (zI Z3 u) y.toNat (zI Z u x.toNat)) → Q (.inl none) Z4)) : ZM G 0 m_X12_swap [.ref u, iv x, iv y] Z Q := ZM.of [some (.ref u), some (iv x), some (iv y), none] rfl <| z_aload_n (pc' := 1) (j := 0) (by decide +kernel) rfl rfl <| z_iload_n (pc' := 2) (j := 1) (by decide +kernel) rfl rfl <| h.elim fun c1 h => z_iaload (pc' := 3) (by decide +kernel) hu c1 rfl <| z_istore_n (pc' := 4) (j := 3) (ls' := [some (.ref u), some (iv x), some (iv y), some (iv (zI Z u x.toNat))]) (by decide +kernel) (by decide) rfl rfl <| z_aload_n (pc' := 5) (j := 0) (by decide +kernel) rfl rfl <| z_iload_n (pc' := 6) (j := 1) (by decide +kernel) rfl rfl <| z_aload_n (pc' := 7) (j := 0) (by decide +kernel) rfl rfl <| z_iload_n (pc' := 8) (j := 2) (by decide +kernel) rfl rfl <| h.elim fun c2 h => z_iaload (pc' := 9) (by decide +kernel) hu c2 rfl <| z_iastore (pc' := 10) (by decide +kernel) hu c1 rfl <| have h := h _ rfl; z_aload_n (pc' := 11) (j := 0) (by decide +kernel) rfl rfl <| z_iload_n (pc' := 12) (j := 2) (by decide +kernel) rfl rfl <| z_iload_n (pc' := 13) (j := 3) (by decide +kernel) rfl rfl <| z_iastore (pc' := 14) (by decide +kernel) hu c2 rfl <| have h := h _ rfl; z_ret (by decide +kernel) rfl h
set_option maxRecDepth 20000 in
theorem e_X12_hasNext {G : Gx} {Q : Rv → Zm → Prop} {Z : Zm} {u : Nat} {N : Nat} (hu : zA Z u 100 N) (h : (ZP G 1 m_X12_hasNext 5 [some (.ref u), some (iv ((N : Int) - 2)), none, none, none] [] Z Q)) : ZM G 1 m_X12_hasNext [.ref u] Z Q := ZM.of [some (.ref u), none, none, none, none] rfl <| z_aload_n (pc' := 1) (j := 0) (by decide +kernel) rfl rfl <| z_alen (pc' := 2) (by decide +kernel) hu (by decide) rfl <| z_iconst (pc' := 3) (n := 2) (by decide +kernel) rfl <| z_isub (pc' := 4) (by decide +kernel) rfl <| z_istore_n (pc' := 5) (j := 1) (ls' := [some (.ref u), some (iv ((N : Int) - 2)), none, none, none]) (by decide +kernel) (by decide) rfl rfl <| h
set_option maxRecDepth 20000 in
theorem b_X12_hasNext_5 {G : Gx} {Q : Rv → Zm → Prop} {Z : Zm} {u : Nat} {N : Nat} {v1 : Int} (hu : zA Z u 100 N) (h : ((R32 v1) ∧ (if v1 < 0 then ((if 0 ≤ v1 then (ZP G 1 m_X12_hasNext 37 [some (.ref u), some (iv v1), some (iv ((N : Int) - 1)), none, none] [] Z Q) else (Q (.inl (some (iv 0))) Z))) else ((zIx v1 N) ∧ (zIx (v1 + 1) N) ∧ (R32 (zI Z u v1.toNat)) ∧ (R32 (zI Z u (v1 + 1).toNat)) ∧ (if (zI Z u v1.toNat) ≤ (zI Z u (v1 + 1).toNat) then ((if 0 ≤ v1 then (ZP G 1 m_X12_hasNext 37 [some (.ref u), some (iv v1), some (iv ((N : Int) - 1)), none, none] [] Z Q) else (Q (.inl (some (iv 0))) Z))) else (ZP G 1 m_X12_hasNext 5 [some (.ref u), some (iv (v1 + (-1))), none, none, none] [] Z Q)))))) : ZP G 1 m_X12_hasNext 5 [some (.ref u), some (iv v1), none, none, none] [] Z Q := z_iload_n (pc' := 6) (j := 1) (by decide +kernel) rfl rfl <| h.elim fun c1 h => z_if_lt (pc' := 9) (tgt := 26) (off := 20) (by decide +kernel) (by decide) rfl c1 (am_ite h (fun h => z_iload_n (pc' := 27) (j := 1) (by decide +kernel) rfl rfl <| z_if_ge (pc' := 30) (tgt := 32) (off := 5) (by decide +kernel) (by decide) rfl c1 (am_ite h (fun h => z_aload_n (pc' := 33) (j := 0) (by decide +kernel) rfl rfl <| z_alen (pc' := 34) (by decide +kernel) hu (by decide) rfl <| z_iconst (pc' := 35) (n := 1) (by decide +kernel) rfl <| z_isub (pc' := 36) (by decide +kernel) rfl <| z_istore_n (pc' := 37) (j := 2) (ls' := [some (.ref u), some (iv v1), some (iv ((N : Int) - 1)), none, none]) (by decide +kernel) (by decide) rfl rfl <| h) (fun h => z_iconst (pc' := 31) (n := 0) (by decide +kernel) rfl <| z_ireturn (by decide +kernel) (am_rb (Or.inl rfl)) h))) (fun h => z_aload_n (pc' := 10) (j := 0) (by decide +kernel) rfl rfl <| z_iload_n (pc' := 11) (j := 1) (by decide +kernel) rfl rfl <| h.elim fun c6 h => z_iaload (pc' := 12) (by decide +kernel) hu c6 rfl <| z_aload_n (pc' := 13) (j := 0) (by decide +kernel) rfl rfl <| z_iload_n (pc' := 14) (j := 1) (by decide +kernel) rfl rfl <| z_iconst (pc' := 15) (n := 1) (by decide +kernel) rfl <| z_iadd (pc' := 16) (by decide +kernel) rfl <| h.elim fun c7 h => z_iaload (pc' := 17) (by decide +kernel) hu c7 rfl <| h.elim fun c8 h => h.elim fun c9 h => z_icmp_le (pc' := 20) (tgt := 26) (off := 9) (by decide +kernel) (by decide) rfl c8 c9 (am_ite h (fun h => z_iload_n (pc' := 27) (j := 1) (by decide +kernel) rfl rfl <| z_if_ge (pc' := 30) (tgt := 32) (off := 5) (by decide +kernel) (by decide) rfl c1 (am_ite h (fun h => z_aload_n (pc' := 33) (j := 0) (by decide +kernel) rfl rfl <| z_alen (pc' := 34) (by decide +kernel) hu (by decide) rfl <| z_iconst (pc' := 35) (n := 1) (by decide +kernel) rfl <| z_isub (pc' := 36) (by decide +kernel) rfl <| z_istore_n (pc' := 37) (j := 2) (ls' := [some (.ref u), some (iv v1), some (iv ((N : Int) - 1)), none, none]) (by decide +kernel) (by decide) rfl rfl <| h) (fun h => z_iconst (pc' := 31) (n := 0) (by decide +kernel) rfl <| z_ireturn (by decide +kernel) (am_rb (Or.inl rfl)) h))) (fun h => z_iinc (pc' := 23) (j := 1) (n := -1) (x := v1) (ls' := [some (.ref u), some (iv (v1 + (-1))), none, none, none]) (by decide +kernel) rfl (by decide) rfl rfl <| z_goto (tgt := 5) (off := -18) (by decide +kernel) (by decide) <| h))))
set_option maxRecDepth 20000 in
theorem b_X12_hasNext_37 {G : Gx} {Q : Rv → Zm → Prop} {Z : Zm} {u : Nat} {N : Nat} {v1 : Int} {v2 : Int} (hu : zA Z u 100 N) (h : ((zIx v2 N) ∧ (zIx v1 N) ∧ (R32 (zI Z u v2.toNat)) ∧ (R32 (zI Z u v1.toNat)) ∧ (if (zI Z u v1.toNat) ≤ (zI Z u v2.toNat) then (ZM G 0 m_X12_swap [.ref u, iv v1, iv v2] Z (zKc G 1 m_X12_hasNext 58 [some (.ref u), some (iv v1), none, none, none] [] Q)) else (ZP G 1 m_X12_hasNext 37 [some (.ref u), some (iv v1), some (iv (v2 + (-1))), none, none] [] Z Q)))) : ZP G 1 m_X12_hasNext 37 [some (.ref u), some (iv v1), some (iv v2), none, none] [] Z Q := z_aload_n (pc' := 38) (j := 0) (by decide +kernel) rfl rfl <| z_iload_n (pc' := 39) (j := 2) (by decide +kernel) rfl rfl <| h.elim fun c1 h => z_iaload (pc' := 40) (by decide +kernel) hu c1 rfl <| z_aload_n (pc' := 41) (j := 0) (by decide +kernel) rfl rfl <| z_iload_n (pc' := 42) (j := 1) (by decide +kernel) rfl rfl <| h.elim fun c2 h => z_iaload (pc' := 43) (by decide +kernel) hu c2 rfl <| h.elim fun c3 h => h.elim fun c4 h => z_icmp_ge (pc' := 46) (tgt := 52) (off := 9) (by decide +kernel) (by decide) rfl c3 c4 (am_ite h (fun h => z_aload_n (pc' := 53) (j := 0) (by decide +kernel) rfl rfl <| z_iload_n (pc' := 54) (j := 1) (by decide +kernel) rfl rfl <| z_iload_n (pc' := 55) (j := 2) (by decide +kernel) rfl rfl <| z_callS (pc' := 58) (idx := 299) (mj := m_X12_swap) (av := [.ref u, iv v1, iv v2]) (d' := 0) (by decide +kernel) rfl k_X12_swap l_RX12_299 rfl (by omega) (am_le rfl) rfl (am_le rfl) rfl (ZM.mono h (zKc_wk (wk_some (wk_some (wk_none (wk_none (wk_none wk_nil)))))))) (fun h => z_iinc (pc' := 49) (j := 2) (n := -1) (x := v2) (ls' := [some (.ref u), some (iv v1), some (iv (v2 + (-1))), none, none]) (by decide +kernel) rfl (by decide) rfl rfl <| z_goto (tgt := 37) (off := -12) (by decide +kernel) (by decide) <| h))
set_option maxRecDepth 20000 in
theorem b_X12_hasNext_58 {G : Gx} {Q : Rv → Zm → Prop} {Z : Zm} {u : Nat} {N : Nat} {v1 : Int} (hu : zA Z u 100 N) (h : (ZP G 1 m_X12_hasNext 68 [some (.ref u), none, none, some (iv ((N : Int) - 1)), some (iv (v1 + 1))] [] Z Q)) : ZP G 1 m_X12_hasNext 58 [some (.ref u), some (iv v1), none, none, none] [] Z Q := z_aload_n (pc' := 59) (j := 0) (by decide +kernel) rfl rfl <| z_alen (pc' := 60) (by decide +kernel) hu (by decide) rfl <| z_iconst (pc' := 61) (n := 1) (by decide +kernel) rfl <| z_isub (pc' := 62) (by decide +kernel) rfl <| z_istore_n (pc' := 63) (j := 3) (ls' := [some (.ref u), some (iv v1), none, some (iv ((N : Int) - 1)), none]) (by decide +kernel) (by decide) rfl rfl <| z_iload_n (pc' := 64) (j := 1) (by decide +kernel) rfl rfl <| z_iconst (pc' := 65) (n := 1) (by decide +kernel) rfl <| z_iadd (pc' := 66) (by decide +kernel) rfl <| z_istore (pc' := 68) (j := 4) (ls' := [some (.ref u), some (iv v1), none, some (iv ((N : Int) - 1)), some (iv (v1 + 1))]) (by decide +kernel) (by decide) rfl rfl <| (ZP.wk (wk_some (wk_none (wk_none (wk_some (wk_some wk_nil))))) h)
set_option maxRecDepth 20000 in
theorem b_X12_hasNext_68 {G : Gx} {Q : Rv → Zm → Prop} {Z : Zm} {u : Nat} {N : Nat} {v3 : Int} {v4 : Int} (hu : zA Z u 100 N) (h : ((R32 v4) ∧ (R32 v3) ∧ (if v3 ≤ v4 then (Q (.inl (some (iv 1))) Z) else (ZM G 0 m_X12_swap [.ref u, iv v4, iv v3] Z (zKc G 1 m_X12_hasNext 81 [some (.ref u), none, none, some (iv v3), some (iv v4)] [] Q))))) : ZP G 1 m_X12_hasNext 68 [some (.ref u), none, none, some (iv v3), some (iv v4)] [] Z Q := z_iload (pc' := 70) (j := 4) (by decide +kernel) rfl rfl <| z_iload_n (pc' := 71) (j := 3) (by decide +kernel) rfl rfl <| h.elim fun c1 h => h.elim fun c2 h => z_icmp_ge (pc' := 74) (tgt := 90) (off := 19) (by decide +kernel) (by decide) rfl c1 c2 (am_ite h (fun h => z_iconst (pc' := 91) (n := 1) (by decide +kernel) rfl <| z_ireturn (by decide +kernel) (am_rb (Or.inr rfl)) h) (fun h => z_aload_n (pc' := 75) (j := 0) (by decide +kernel) rfl rfl <| z_iload (pc' := 77) (j := 4) (by decide +kernel) rfl rfl <| z_iload_n (pc' := 78) (j := 3) (by decide +kernel) rfl rfl <| z_callS (pc' := 81) (idx := 299) (mj := m_X12_swap) (av := [.ref u, iv v4, iv v3]) (d' := 0) (by decide +kernel) rfl k_X12_swap l_RX12_299 rfl (by omega) (am_le rfl) rfl (am_le rfl) rfl h))
set_option maxRecDepth 20000 in
theorem b_X12_hasNext_81 {G : Gx} {Q : Rv → Zm → Prop} {Z : Zm} {u : Nat} {N : Nat} {v3 : Int} {v4 : Int} (hu : zA Z u 100 N) (h : (ZP G 1 m_X12_hasNext 68 [some (.ref u), none, none, some (iv (v3 + (-1))), some (iv (v4 + 1))] [] Z Q)) : ZP G 1 m_X12_hasNext 81 [some (.ref u), none, none, some (iv v3), some (iv v4)] [] Z Q := z_iinc (pc' := 84) (j := 3) (n := -1) (x := v3) (ls' := [some (.ref u), none, none, some (iv (v3 + (-1))), some (iv v4)]) (by decide +kernel) rfl (by decide) rfl rfl <| z_iinc (pc' := 87) (j := 4) (n := 1) (x := v4) (ls' := [some (.ref u), none, none, some (iv (v3 + (-1))), some (iv (v4 + 1))]) (by decide +kernel) rfl (by decide) rfl rfl <| z_goto (tgt := 68) (off := -19) (by decide +kernel) (by decide) <| h
set_option maxRecDepth 20000 in
theorem e_X12_numbers {G : Gx} {Q : Rv → Zm → Prop} {Z : Zm} {x : Int}  (h : ((0 ≤ x) ∧ (x < 1000) ∧ (zSz Z < 1000000) ∧ ∀ Z4, Z4 = zC Z 100 x.toNat x.toNat → ZP G 0 m_X12_numbers 6 [some (iv x), some (.ref (zSz Z)), some (iv 0)] [] Z4 Q)) : ZM G 0 m_X12_numbers [iv x] Z Q := ZM.of [some (iv x), none, none] rfl <| z_iload_n (pc' := 1) (j := 0) (by decide +kernel) rfl rfl <| h.elim fun c1 h => h.elim fun c2 h => h.elim fun c3 h => z_new100 (pc' := 3) (by decide +kernel) (amM1 88 rfl (by decide +kernel)) c1 c2 c3 rfl <| have h := h _ rfl; z_astore_n (pc' := 4) (j := 1) (ls' := [some (iv x), some (.ref (zSz Z)), none]) (by decide +kernel) (by decide) rfl rfl <| z_iconst (pc' := 5) (n := 0) (by decide +kernel) rfl <| z_istore_n (pc' := 6) (j := 2) (ls' := [some (iv x), some (.ref (zSz Z)), some (iv 0)]) (by decide +kernel) (by decide) rfl rfl <| h
set_option maxRecDepth 20000 in
theorem b_X12_numbers_6 {G : Gx} {Q : Rv → Zm → Prop} {Z : Zm} {a1 : Nat} {Na1 : Nat} {x : Int} {v2 : Int} (ha1 : zA Z a1 100 Na1) (h : ((R32 v2) ∧ (R32 x) ∧ (if x ≤ v2 then (Q (.inl (some (.ref a1))) Z) else ((zIx v2 Na1) ∧ ∀ Z5, Z5 = zSI Z a1 (zu (zI Z a1) v2.toNat v2) → ZP G 0 m_X12_numbers 6 [some (iv x), some (.ref a1), some (iv (v2 + 1))] [] Z5 Q)))) : ZP G 0 m_X12_numbers 6 [some (iv x), some (.ref a1), some (iv v2)] [] Z Q := z_iload_n (pc' := 7) (j := 2) (by decide +kernel) rfl rfl <| z_iload_n (pc' := 8) (j := 0) (by decide +kernel) rfl rfl <| h.elim fun c1 h => h.elim fun c2 h => z_icmp_ge (pc' := 11) (tgt := 21) (off := 13) (by decide +kernel) (by decide) rfl c1 c2 (am_ite h (fun h => z_aload_n (pc' := 22) (j := 1) (by decide +kernel) rfl rfl <| z_areturn (by decide +kernel) (by first | exact ⟨_, rfl, Or.inl ⟨_, rfl⟩⟩ | exact ⟨_, rfl, Or.inr ⟨_, rfl⟩⟩) h) (fun h => z_aload_n (pc' := 12) (j := 1) (by decide +kernel) rfl rfl <| z_iload_n (pc' := 13) (j := 2) (by decide +kernel) rfl rfl <| z_iload_n (pc' := 14) (j := 2) (by decide +kernel) rfl rfl <| h.elim fun c4 h => z_iastore (pc' := 15) (by decide +kernel) ha1 c4 rfl <| have h := h _ rfl; z_iinc (pc' := 18) (j := 2) (n := 1) (x := v2) (ls' := [some (iv x), some (.ref a1), some (iv (v2 + 1))]) (by decide +kernel) rfl (by decide) rfl rfl <| z_goto (tgt := 6) (off := -12) (by decide +kernel) (by decide) <| h))
/-! ===== the model goes through all orders ===== -/
theorem s_numbers {G : Gx} {Z : Zm} {n : Nat} (hn : n ≤ 20) (hz : zSz Z < 1000000) : ZM G 0 m_X12_numbers [iv (n : Int)] Z (fun r Z' => r = .inl (some (.ref (zSz Z))) ∧ zF zNo 1 n Z Z' ∧ zA Z' (zSz Z) 100 n ∧ ∀ i, i < n → zI Z' (zSz Z) i = (i : Int)) := by
  refine e_X12_numbers ⟨by omega, by omega, hz, ?_⟩
  rintro _ rfl
  rw [Int.toNat_natCast]
  suffices key : ∀ j, j ≤ n → ∀ f, (∀ i, i < j → f i = (i : Int)) → ZP G 0 m_X12_numbers 6 [some (iv (n : Int)), some (.ref (zSz Z)), some (iv (j : Int))] [] (zSI (zC Z 100 n n) (zSz Z) f) (fun r Z' => r = .inl (some (.ref (zSz Z))) ∧ zF zNo 1 n Z Z' ∧ zA Z' (zSz Z) 100 n ∧ ∀ i, i < n → zI Z' (zSz Z) i = (i : Int)) by
    have h := key 0 (Nat.zero_le _) (fun _ => 0) fun j hj => by omega
    rw [← zI_C Z 100 n n, zSI_id] at h
    exact h
  refine am_up (n := n) fun j hj ih f hf => ?_
  refine b_X12_numbers_6 (zA_C Z 100 n n) ⟨by omega, by omega, ?_⟩
  by_cases c : j < n
  · rw [if_neg (by omega)]
    refine ⟨zIx_nat c (by omega), ?_⟩
    rintro _ rfl
    rw [zI_same, zSI_zSI, Int.toNat_natCast]
    refine ih c _ fun i hi => ?_
    by_cases e : i = j
    · rw [e, zu_same]
    · rw [zu_other e]
      exact hf i (by omega)
  · rw [if_pos (by omega)]
    exact ⟨rfl, zF_mk, zA_C Z 100 n n, fun i hi => by rw [zI_same]; exact hf i (by omega)⟩
theorem s_swap {G : Gx} {Z : Zm} {u N x y : Nat} (hu : zA Z u 100 N) (hx : x < N) (hy : y < N) (hN : N ≤ 20) : ZM G 0 m_X12_swap [.ref u, iv (x : Int), iv (y : Int)] Z (fun r W => r = .inl none ∧ W = zSI Z u (zu (zu (zI Z u) x (zI Z u y)) y (zI Z u x))) := by
  refine e_X12_swap hu ⟨zIx_nat hx (by omega), zIx_nat hy (by omega), ?_⟩
  rintro _ rfl
  rintro _ rfl
  rw [zI_same, zSI_zSI, Int.toNat_natCast, Int.toNat_natCast]
  exact ⟨rfl, rfl⟩
def mid (N pl ot c i : Nat) : Nat := if i < pl + 1 + c ∨ N < i + 1 + c then tau N pl ot i else if i = ot then pl else i
theorem mid_in {N pl ot c i : Nat} (h : ¬ (i < pl + 1 + c ∨ N < i + 1 + c)) : mid N pl ot c i = if i = ot then pl else i := if_neg h
theorem mid_out {N pl ot c i : Nat} (h : i < pl + 1 + c ∨ N < i + 1 + c) : mid N pl ot c i = tau N pl ot i := if_pos h
theorem tau_sw {N pl ot i j : Nat} (hi : pl < i) (e : pl + N - i = j) : tau N pl ot i = if j = ot then pl else j := by rw [tau_hi hi, e]
theorem s_hasNext {G : Gx} {Z : Zm} {u N : Nat} {p : Nat → Nat} (hu : zA Z u 100 N) (hN : N ≤ 20) (hp : ∀ i, i < N → zI Z u i = (p i : Int)) (hb : ∀ i, i < N → p i < 20) (hi : ∀ i j, i < N → j < N → p i = p j → i = j) : ZM G 1 m_X12_hasNext [.ref u] Z (fun r W => (r = .inl (some (iv 0)) ∧ W = Z ∧ ∀ i, i + 1 < N → p (i + 1) < p i) ∨ (r = .inl (some (iv 1)) ∧ ∃ pl ot f, isNxt N p pl ot ∧ W = zSI Z u f ∧ ∀ i, i < N → f i = (p (tau N pl ot i) : Int))) := by
  generalize hR : (fun (r : Rv) (W : Zm) => (r = .inl (some (iv 0)) ∧ W = Z ∧ ∀ i, i + 1 < N → p (i + 1) < p i) ∨ (r = .inl (some (iv 1)) ∧ ∃ pl ot f, isNxt N p pl ot ∧ W = zSI Z u f ∧ ∀ i, i < N → f i = (p (tau N pl ot i) : Int))) = R
  refine e_X12_hasNext hu ?_
  suffices down : ∀ j, j ≤ N - 1 → (∀ i : Nat, (N : Int) - 2 - (j : Int) < (i : Int) → i + 1 < N → p (i + 1) < p i) → ZP G 1 m_X12_hasNext 5 [some (.ref u), some (iv ((N : Int) - 2 - (j : Int))), none, none, none] [] Z R by
    have h9 := down 0 (Nat.zero_le _) fun i h1 h2 => by omega
    rw [show (N : Int) - 2 - ((0 : Nat) : Int) = (N : Int) - 2 by omega] at h9
    exact h9
  refine am_up (n := N - 1) fun j hj ih hd => ?_
  refine b_X12_hasNext_5 hu ⟨by omega, ?_⟩
  by_cases c : (N : Int) - 2 - (j : Int) < 0
  · rw [if_pos c, if_neg (by omega), ← hR]
    exact Or.inl ⟨rfl, rfl, fun i h1 => hd i (by omega) h1⟩
  · obtain ⟨pl, hpl⟩ : ∃ pl : Nat, (N : Int) - 2 - (j : Int) = (pl : Int) := ⟨((N : Int) - 2 - (j : Int)).toNat, by omega⟩
    rw [hpl] at c hd ⊢
    have b1 := hb pl (by omega)
    have b2 := hb (pl + 1) (by omega)
    rw [if_neg c, show ((pl : Int) + 1).toNat = pl + 1 by omega, Int.toNat_natCast, hp pl (by omega), hp (pl + 1) (by omega)]
    refine ⟨zIx_nat (by omega) (by omega), ⟨by omega, by omega, by omega⟩, by omega, by omega, ?_⟩
    have ne : p pl ≠ p (pl + 1) := fun e => by
      have := hi pl (pl + 1) (by omega) (by omega) e
      omega
    by_cases d : (p pl : Int) ≤ (p (pl + 1) : Int)
    case neg =>
      rw [if_neg d]
      have h9 := ih (by omega) fun i h1 h2 => by
        by_cases e : i = pl
        · rw [e]
          omega
        · exact hd i (by omega) h2
      rw [show (N : Int) - 2 - ((j + 1 : Nat) : Int) = (pl : Int) + -1 by omega] at h9
      exact h9
    rw [if_pos d, if_pos (by omega)]
    have lt : p pl < p (pl + 1) := by omega
    have ds : ∀ i, pl + 1 ≤ i → i + 1 < N → p (i + 1) < p i := fun i h1 h2 => hd i (by omega) h2
    -- where the number comes from
    suffices find : ∀ q, q ≤ N - 1 - (pl + 1) → (∀ i, N - 1 - q < i → i < N → p i < p pl) → ZP G 1 m_X12_hasNext 37 [some (.ref u), some (iv (pl : Int)), some (iv ((N : Int) - 1 - (q : Int))), none, none] [] Z R by
      have h9 := find 0 (Nat.zero_le _) fun i h1 h2 => by omega
      rw [show (N : Int) - 1 - ((0 : Nat) : Int) = (N : Int) - 1 by omega] at h9
      exact h9
    refine am_up (n := N - 1 - (pl + 1)) fun q hq ihq hot => ?_
    obtain ⟨ot, eot⟩ : ∃ ot : Nat, ot = N - 1 - q := ⟨_, rfl⟩
    rw [← eot] at hot
    have eo : (N : Int) - 1 - (q : Int) = (ot : Int) := by omega
    have b3 := hb ot (by omega)
    rw [eo]
    refine b_X12_hasNext_37 hu ?_
    rw [Int.toNat_natCast, Int.toNat_natCast, hp pl (by omega), hp ot (by omega)]
    refine ⟨zIx_nat (by omega) (by omega), zIx_nat (by omega) (by omega), by omega, by omega, ?_⟩
    by_cases e : (p pl : Int) ≤ (p ot : Int)
    case neg =>
      rw [if_neg e]
      have : q < N - 1 - (pl + 1) := by
        refine Nat.lt_of_le_of_ne hq fun g => ?_
        have : ot = pl + 1 := by omega
        rw [this] at e
        omega
      have h9 := ihq this fun i h1 h2 => by
        by_cases g : i = ot
        · rw [g]
          omega
        · exact hot i (by omega) h2
      rw [show (N : Int) - 1 - ((q + 1 : Nat) : Int) = (ot : Int) + -1 by omega] at h9
      exact h9
    rw [if_pos e]
    have no : p pl ≠ p ot := fun g => by
      have := hi pl ot (by omega) (by omega) g
      omega
    have nx : isNxt N p pl ot := ⟨by omega, lt, ds, by omega, by omega, by omega, hot⟩
    refine (s_swap hu (by omega) (by omega) hN).mono ?_
    rintro r W ⟨rfl, rfl⟩
    refine b_X12_hasNext_58 (hu.s) ?_
    suffices rev : ∀ c, c ≤ N → ∀ f, (∀ i, i < N → f i = (p (mid N pl ot c i) : Int)) → ZP G 1 m_X12_hasNext 68 [some (.ref u), none, none, some (iv ((N : Int) - 1 - (c : Int))), some (iv ((pl : Int) + 1 + (c : Int)))] [] (zSI Z u f) R by
      have h9 := rev 0 (Nat.zero_le _) (zu (zu (zI Z u) pl (zI Z u ot)) ot (zI Z u pl)) fun i hi' => by
        by_cases g1 : i = ot
        · rw [g1, zu_same, hp pl (by omega), mid_in (show ¬ (ot < pl + 1 + 0 ∨ N < ot + 1 + 0) by omega), if_pos rfl]
        · rw [zu_other g1]
          by_cases g2 : i = pl
          · rw [g2, zu_same, hp ot (by omega), mid_out (show pl < pl + 1 + 0 ∨ N < pl + 1 + 0 by omega)]
            unfold tau
            rw [if_neg (Nat.lt_irrefl _), if_pos rfl]
          · rw [zu_other g2, hp i hi']
            by_cases g3 : i < pl
            · rw [mid_out (show i < pl + 1 + 0 ∨ N < i + 1 + 0 by omega)]
              unfold tau
              rw [if_pos g3]
            · rw [mid_in (show ¬ (i < pl + 1 + 0 ∨ N < i + 1 + 0) by omega), if_neg g1]
      rw [show (N : Int) - 1 - ((0 : Nat) : Int) = (N : Int) - 1 by omega, show (pl : Int) + 1 + ((0 : Nat) : Int) = (pl : Int) + 1 by omega] at h9
      exact h9
    refine am_up (n := N) fun c hc ihc f hf => ?_
    refine b_X12_hasNext_68 hu.s ⟨by omega, by omega, ?_⟩
    by_cases g : (N : Int) - 1 - (c : Int) ≤ (pl : Int) + 1 + (c : Int)
    · rw [if_pos g, ← hR]
      refine Or.inr ⟨rfl, pl, ot, f, nx, rfl, fun i hi' => ?_⟩
      rw [hf i hi']
      by_cases g2 : i < pl + 1 + c ∨ N < i + 1 + c
      · rw [mid_out g2]
      · rw [mid_in g2, tau_sw (show pl < i by omega) (show pl + N - i = i by omega)]
    · rw [if_neg g]
      obtain ⟨lo, elo⟩ : ∃ lo : Nat, lo = pl + 1 + c := ⟨_, rfl⟩
      obtain ⟨hg, ehg⟩ : ∃ hg : Nat, hg = N - 1 - c := ⟨_, rfl⟩
      have g1 : (pl : Int) + 1 + (c : Int) = (lo : Int) := by omega
      have g2 : (N : Int) - 1 - (c : Int) = (hg : Int) := by omega
      rw [g1, g2]
      refine (s_swap hu.s (by omega) (by omega) hN).mono ?_
      rintro r W ⟨rfl, rfl⟩
      refine b_X12_hasNext_81 hu.s.s ?_
      rw [zI_same, zSI_zSI]
      have h9 := ihc (by omega) (zu (zu f lo (f hg)) hg (f lo)) fun i hi' => by
        by_cases k1 : i = hg
        · rw [k1, zu_same, hf lo (by omega)]
          rw [mid_in (show ¬ (lo < pl + 1 + c ∨ N < lo + 1 + c) by omega), mid_out (show hg < pl + 1 + (c + 1) ∨ N < hg + 1 + (c + 1) by omega), tau_sw (show pl < hg by omega) (show pl + N - hg = lo by omega)]
        · rw [zu_other k1]
          by_cases k2 : i = lo
          · rw [k2, zu_same, hf hg (by omega)]
            rw [mid_in (show ¬ (hg < pl + 1 + c ∨ N < hg + 1 + c) by omega), mid_out (show lo < pl + 1 + (c + 1) ∨ N < lo + 1 + (c + 1) by omega), tau_sw (show pl < lo by omega) (show pl + N - lo = hg by omega)]
          · rw [zu_other k2, hf i hi']
            by_cases k3 : i < pl + 1 + c ∨ N < i + 1 + c
            · rw [mid_out k3, mid_out (show i < pl + 1 + (c + 1) ∨ N < i + 1 + (c + 1) by omega)]
            · rw [mid_in k3, mid_in (show ¬ (i < pl + 1 + (c + 1) ∨ N < i + 1 + (c + 1)) by omega)]
      rw [show (N : Int) - 1 - ((c + 1 : Nat) : Int) = (hg : Int) + -1 by omega, show (pl : Int) + 1 + ((c + 1 : Nat) : Int) = (lo : Int) + 1 by omega] at h9
      exact h9
