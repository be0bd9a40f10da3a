set_option maxRecDepth 20000 in
theorem e_X12_copied {G : Gx} {Q : Rv → Zm → Prop} {Z : Zm} {u : Nat} {n : Nat} (hu : zA Z u 100 n) (h : ((0 ≤ (n : Int)) ∧ ((n : Int) < 1000) ∧ (zSz Z < 1000000) ∧ ∀ Z4, Z4 = zC Z 100 (n : Int).toNat (n : Int).toNat → ZP G 0 m_X12_copied 7 [some (.ref u), some (.ref (zSz Z)), some (iv 0)] [] Z4 Q)) : ZM G 0 m_X12_copied [.ref u] Z Q := ZM.of [some (.ref u), none, none] rfl <| z_aload_n (pc' := 1) (j := 0) (by decide +kernel) rfl rfl <| z_alen (pc' := 2) (by decide +kernel) hu (by decide) rfl <| h.elim fun c1 h => h.elim fun c2 h => h.elim fun c3 h => z_new100 (pc' := 4) (by decide +kernel) (amM1 88 rfl (by decide +kernel)) c1 c2 c3 rfl <| have h := h _ rfl; z_astore_n (pc' := 5) (j := 1) (ls' := [some (.ref u), some (.ref (zSz Z)), none]) (by decide +kernel) (by decide) rfl rfl <| z_iconst (pc' := 6) (n := 0) (by decide +kernel) rfl <| z_istore_n (pc' := 7) (j := 2) (ls' := [some (.ref u), some (.ref (zSz Z)), some (iv 0)]) (by decide +kernel) (by decide) rfl rfl <| h
set_option maxRecDepth 20000 in
theorem b_X12_copied_7 {G : Gx} {Q : Rv → Zm → Prop} {Z : Zm} {a2 : Nat} {Na2 : Nat} {u : Nat} {n : Nat} {v2 : Int} (hu : zA Z u 100 n) (ha2 : zA Z a2 100 Na2) (h : ((R32 v2) ∧ (R32 (n : Int)) ∧ (if (n : Int) ≤ v2 then (Q (.inl (some (.ref a2))) Z) else ((zIx v2 n) ∧ (zIx v2 Na2) ∧ ∀ Z7, Z7 = zSI Z a2 (zu (zI Z a2) v2.toNat (zI Z u v2.toNat)) → ZP G 0 m_X12_copied 7 [some (.ref u), some (.ref a2), some (iv (v2 + 1))] [] Z7 Q)))) : ZP G 0 m_X12_copied 7 [some (.ref u), some (.ref a2), some (iv v2)] [] Z Q := z_iload_n (pc' := 8) (j := 2) (by decide +kernel) rfl rfl <| z_aload_n (pc' := 9) (j := 0) (by decide +kernel) rfl rfl <| z_alen (pc' := 10) (by decide +kernel) hu (by decide) rfl <| h.elim fun c1 h => h.elim fun c2 h => z_icmp_ge (pc' := 13) (tgt := 25) (off := 15) (by decide +kernel) (by decide) rfl c1 c2 (am_ite h (fun h => z_aload_n (pc' := 26) (j := 1) (by decide +kernel) rfl rfl <| z_areturn (by decide +kernel) (by first | exact ⟨_, rfl, Or.inl ⟨_, rfl⟩⟩ | exact ⟨_, rfl, Or.inr ⟨_, rfl⟩⟩) h) (fun h => z_aload_n (pc' := 14) (j := 1) (by decide +kernel) rfl rfl <| z_iload_n (pc' := 15) (j := 2) (by decide +kernel) rfl rfl <| z_aload_n (pc' := 16) (j := 0) (by decide +kernel) rfl rfl <| z_iload_n (pc' := 17) (j := 2) (by decide +kernel) rfl rfl <| h.elim fun c5 h => z_iaload (pc' := 18) (by decide +kernel) hu c5 rfl <| h.elim fun c6 h => z_iastore (pc' := 19) (by decide +kernel) ha2 c6 rfl <| have h := h _ rfl; z_iinc (pc' := 22) (j := 2) (n := 1) (x := v2) (ls' := [some (.ref u), some (.ref a2), some (iv (v2 + 1))]) (by decide +kernel) rfl (by decide) rfl rfl <| z_goto (tgt := 7) (off := -15) (by decide +kernel) (by decide) <| h))
set_option maxRecDepth 20000 in
theorem e_X12_lengthsInto {G : Gx} {Q : Rv → Zm → Prop} {Z : Zm} {m : Nat} {B : Nat} {u : Nat} (hm : atModel Z m B) (hu : zA Z u 100 20) (h : (ZP G 1 m_X12_lengthsInto 2 [some (.ref m), some (.ref u), some (iv 0)] [] Z Q)) : ZM G 1 m_X12_lengthsInto [.ref m, .ref u] Z Q := ZM.of [some (.ref m), some (.ref u), none] rfl <| z_iconst (pc' := 1) (n := 0) (by decide +kernel) rfl <| z_istore_n (pc' := 2) (j := 2) (ls' := [some (.ref m), some (.ref u), some (iv 0)]) (by decide +kernel) (by decide) rfl rfl <| h
set_option maxRecDepth 20000 in
theorem b_X12_lengthsInto_2 {G : Gx} {Q : Rv → Zm → Prop} {Z : Zm} {m : Nat} {B : Nat} {u : Nat} {v2 : Int} (hm : atModel Z m B) (hu : zA Z u 100 20) (h : ((R32 v2) ∧ (R32 (zI Z B 0)) ∧ (if (zI Z B 0) ≤ v2 then (Q (.inl (some (.ref u))) Z) else ((zIx v2 20) ∧ ∀ Z5, Z5 = zSI Z u (zu (zI Z u) v2.toNat (mG Z B v2.toNat 0)) → ZP G 1 m_X12_lengthsInto 2 [some (.ref m), some (.ref u), some (iv (v2 + 1))] [] Z5 Q)))) : ZP G 1 m_X12_lengthsInto 2 [some (.ref m), some (.ref u), some (iv v2)] [] Z Q := z_iload_n (pc' := 3) (j := 2) (by decide +kernel) rfl rfl <| z_aload_n (pc' := 4) (j := 0) (by decide +kernel) rfl rfl <| z_callV (pc' := 7) (idx := 64) (mj := m_X12_many) (av := []) (d' := 0) (by decide +kernel) rfl k_X12_many l_RX12_64 rfl (by omega) (am_le rfl) rfl (am_le rfl) hm.o.1 hm.o.2 rfl <| zKf (s_many hm) <| h.elim fun c1 h => h.elim fun c2 h => z_icmp_ge (pc' := 10) (tgt := 25) (off := 18) (by decide +kernel) (by decide) rfl c1 c2 (am_ite h (fun h => z_aload_n (pc' := 26) (j := 1) (by decide +kernel) rfl rfl <| z_areturn (by decide +kernel) (by first | exact ⟨_, rfl, Or.inl ⟨_, rfl⟩⟩ | exact ⟨_, rfl, Or.inr ⟨_, rfl⟩⟩) h) (fun h => z_aload_n (pc' := 11) (j := 1) (by decide +kernel) rfl rfl <| z_iload_n (pc' := 12) (j := 2) (by decide +kernel) rfl rfl <| z_aload_n (pc' := 13) (j := 0) (by decide +kernel) rfl rfl <| z_iload_n (pc' := 14) (j := 2) (by decide +kernel) rfl rfl <| z_iconst (pc' := 15) (n := 0) (by decide +kernel) rfl <| h.elim fun c4 h => z_callV (pc' := 18) (idx := 83) (mj := m_X12_get) (av := [iv v2, iv 0]) (d' := 0) (by decide +kernel) rfl k_X12_get l_RX12_83 rfl (by omega) (am_le rfl) rfl (am_le rfl) hm.o.1 hm.o.2 rfl <| zKf (s_get hm c4 ⟨by decide, by decide, by decide⟩) <| z_iastore (pc' := 19) (by decide +kernel) hu c4 rfl <| have h := h _ rfl; z_iinc (pc' := 22) (j := 2) (n := 1) (x := v2) (ls' := [some (.ref m), some (.ref u), some (iv (v2 + 1))]) (by decide +kernel) rfl (by decide) rfl rfl <| z_goto (tgt := 2) (off := -20) (by decide +kernel) (by decide) <| h))
set_option maxRecDepth 20000 in
theorem e_X12_lengths {G : Gx} {Q : Rv → Zm → Prop} {Z : Zm} {m : Nat} {B : Nat} (hm : atModel Z m B) (h : ((zSz Z < 1000000) ∧ ∀ Z2, Z2 = zC Z 100 20 20 → ZM G 1 m_X12_lengthsInto [.ref m, .ref (zSz Z)] Z2 (zKc G 2 m_X12_lengths 8 [none] [] Q))) : ZM G 2 m_X12_lengths [.ref m] Z Q := ZM.of [some (.ref m)] rfl <| z_aload_n (pc' := 1) (j := 0) (by decide +kernel) rfl rfl <| z_bipush (pc' := 3) (n := 20) (by decide +kernel) (by decide) rfl <| h.elim fun c1 h => z_new100 (pc' := 5) (by decide +kernel) (amM1 88 rfl (by decide +kernel)) (by decide) (by decide) c1 rfl <| have h := h _ rfl; z_callV (pc' := 8) (idx := 87) (mj := m_X12_lengthsInto) (av := [.ref (zSz Z)]) (d' := 1) (by decide +kernel) rfl k_X12_lengthsInto l_RX12_87 rfl (by omega) (am_le rfl) rfl (am_le rfl) (hm.o.ext (zX_C _ _ _ _)).1 (hm.o.ext (zX_C _ _ _ _)).2 rfl (ZM.mono h (zKc_wk (wk_none wk_nil)))
set_option maxRecDepth 20000 in
theorem b_X12_lengths_8 {G : Gx} {Q : Rv → Zm → Prop} {Z : Zm} {r8 : Nat} {m : Nat} {B : Nat}  (hm : atModel Z m B) (hr8 : zA Z r8 100 20) (h : (Q (.inl (some (.ref r8))) Z)) : ZP G 2 m_X12_lengths 8 [none] [.ref r8] Z Q := z_areturn (by decide +kernel) (by first | exact ⟨_, rfl, Or.inl ⟨_, rfl⟩⟩ | exact ⟨_, rfl, Or.inr ⟨_, rfl⟩⟩) h
set_option maxRecDepth 20000 in
theorem e_X12_earliestInto {G : Gx} {Q : Rv → Zm → Prop} {Z : Zm} {m : Nat} {B : Nat} {u : Nat} {v : Nat} (hm : atModel Z m B) (hu : zA Z u 100 20) (hv : zA Z v 100 20) (h : (ZP G 1 m_X12_earliestInto 2 [some (.ref m), some (.ref v), some (.ref u), some (iv 0), none, none] [] Z Q)) : ZM G 1 m_X12_earliestInto [.ref m, .ref v, .ref u] Z Q := ZM.of [some (.ref m), some (.ref v), some (.ref u), none, none, none] rfl <| z_iconst (pc' := 1) (n := 0) (by decide +kernel) rfl <| z_istore_n (pc' := 2) (j := 3) (ls' := [some (.ref m), some (.ref v), some (.ref u), some (iv 0), none, none]) (by decide +kernel) (by decide) rfl rfl <| h
set_option maxRecDepth 20000 in
theorem b_X12_earliestInto_2 {G : Gx} {Q : Rv → Zm → Prop} {Z : Zm} {m : Nat} {B : Nat} {u : Nat} {v : Nat} {v3 : Int} (hm : atModel Z m B) (hu : zA Z u 100 20) (hv : zA Z v 100 20) (h : ((R32 v3) ∧ (if 20 ≤ v3 then (ZP G 1 m_X12_earliestInto 20 [some (.ref m), some (.ref v), some (.ref u), some (iv 1), none, none] [] Z Q) else ((zIx v3 20) ∧ ∀ Z4, Z4 = zSI Z v (zu (zI Z v) v3.toNat 0) → ZP G 1 m_X12_earliestInto 2 [some (.ref m), some (.ref v), some (.ref u), some (iv (v3 + 1)), none, none] [] Z4 Q)))) : ZP G 1 m_X12_earliestInto 2 [some (.ref m), some (.ref v), some (.ref u), some (iv v3), none, none] [] Z Q := z_iload_n (pc' := 3) (j := 3) (by decide +kernel) rfl rfl <| z_bipush (pc' := 5) (n := 20) (by decide +kernel) (by decide) rfl <| h.elim fun c1 h => z_icmp_ge (pc' := 8) (tgt := 18) (off := 13) (by decide +kernel) (by decide) rfl c1 (by decide : R32 20) (am_ite h (fun h => z_iconst (pc' := 19) (n := 1) (by decide +kernel) rfl <| z_istore_n (pc' := 20) (j := 3) (ls' := [some (.ref m), some (.ref v), some (.ref u), some (iv 1), none, none]) (by decide +kernel) (by decide) rfl rfl <| h) (fun h => z_aload_n (pc' := 9) (j := 1) (by decide +kernel) rfl rfl <| z_iload_n (pc' := 10) (j := 3) (by decide +kernel) rfl rfl <| z_iconst (pc' := 11) (n := 0) (by decide +kernel) rfl <| h.elim fun c3 h => z_iastore (pc' := 12) (by decide +kernel) hv c3 rfl <| have h := h _ rfl; z_iinc (pc' := 15) (j := 3) (n := 1) (x := v3) (ls' := [some (.ref m), some (.ref v), some (.ref u), some (iv (v3 + 1)), none, none]) (by decide +kernel) rfl (by decide) rfl rfl <| z_goto (tgt := 2) (off := -13) (by decide +kernel) (by decide) <| h))
set_option maxRecDepth 20000 in
theorem b_X12_earliestInto_20 {G : Gx} {Q : Rv → Zm → Prop} {Z : Zm} {m : Nat} {B : Nat} {u : Nat} {v : Nat} {v3 : Int} (hm : atModel Z m B) (hu : zA Z u 100 20) (hv : zA Z v 100 20) (h : ((R32 v3) ∧ (if v3 = 0 then (Q (.inl (some (.ref v))) Z) else (ZP G 1 m_X12_earliestInto 29 [some (.ref m), some (.ref v), some (.ref u), some (iv 0), some (iv 0), none] [] Z Q)))) : ZP G 1 m_X12_earliestInto 20 [some (.ref m), some (.ref v), some (.ref u), some (iv v3), none, none] [] Z Q := z_iload_n (pc' := 21) (j := 3) (by decide +kernel) rfl rfl <| h.elim fun c1 h => z_if_eq (pc' := 24) (tgt := 98) (off := 77) (by decide +kernel) (by decide) rfl c1 (am_ite h (fun h => z_aload_n (pc' := 99) (j := 1) (by decide +kernel) rfl rfl <| z_areturn (by decide +kernel) (by first | exact ⟨_, rfl, Or.inl ⟨_, rfl⟩⟩ | exact ⟨_, rfl, Or.inr ⟨_, rfl⟩⟩) h) (fun h => z_iconst (pc' := 25) (n := 0) (by decide +kernel) rfl <| z_istore_n (pc' := 26) (j := 3) (ls' := [some (.ref m), some (.ref v), some (.ref u), some (iv 0), none, none]) (by decide +kernel) (by decide) rfl rfl <| z_iconst (pc' := 27) (n := 0) (by decide +kernel) rfl <| z_istore (pc' := 29) (j := 4) (ls' := [some (.ref m), some (.ref v), some (.ref u), some (iv 0), some (iv 0), none]) (by decide +kernel) (by decide) rfl rfl <| h))
set_option maxRecDepth 20000 in
theorem b_X12_earliestInto_29 {G : Gx} {Q : Rv → Zm → Prop} {Z : Zm} {m : Nat} {B : Nat} {u : Nat} {v : Nat} {v3 : Int} {v4 : Int} (hm : atModel Z m B) (hu : zA Z u 100 20) (hv : zA Z v 100 20) (h : ((R32 v4) ∧ (R32 (zI Z B 1)) ∧ (if (zI Z B 1) ≤ v4 then (ZP G 1 m_X12_earliestInto 20 [some (.ref m), some (.ref v), some (.ref u), some (iv v3), none, none] [] Z Q) else ((zIx v4 50) ∧ (zIx (mE Z B v4.toNat) 20) ∧ (zIx (mQ Z B v4.toNat) 20) ∧ (R32 (((zI Z v (mE Z B v4.toNat).toNat) + (zI Z u (mE Z B v4.toNat).toNat)) + (mK Z B v4.toNat))) ∧ (R32 (zI Z v (mQ Z B v4.toNat).toNat)) ∧ (if (((zI Z v (mE Z B v4.toNat).toNat) + (zI Z u (mE Z B v4.toNat).toNat)) + (mK Z B v4.toNat)) ≤ (zI Z v (mQ Z B v4.toNat).toNat) then (ZP G 1 m_X12_earliestInto 29 [some (.ref m), some (.ref v), some (.ref u), some (iv v3), some (iv (v4 + 1)), none] [] Z Q) else (∀ Z13, Z13 = zSI Z v (zu (zI Z v) (mQ Z B v4.toNat).toNat (((zI Z v (mE Z B v4.toNat).toNat) + (zI Z u (mE Z B v4.toNat).toNat)) + (mK Z B v4.toNat))) → ZP G 1 m_X12_earliestInto 29 [some (.ref m), some (.ref v), some (.ref u), some (iv 1), some (iv (v4 + 1)), none] [] Z13 Q)))))) : ZP G 1 m_X12_earliestInto 29 [some (.ref m), some (.ref v), some (.ref u), some (iv v3), some (iv v4), none] [] Z Q := z_iload (pc' := 31) (j := 4) (by decide +kernel) rfl rfl <| z_aload_n (pc' := 32) (j := 0) (by decide +kernel) rfl rfl <| z_callV (pc' := 35) (idx := 94) (mj := m_X12_needsMany) (av := []) (d' := 0) (by decide +kernel) rfl k_X12_needsMany l_RX12_94 rfl (by omega) (am_le rfl) rfl (am_le rfl) hm.o.1 hm.o.2 rfl <| zKf (s_needsMany hm) <| h.elim fun c1 h => h.elim fun c2 h => z_icmp_ge (pc' := 38) (tgt := 95) (off := 60) (by decide +kernel) (by decide) rfl c1 c2 (am_ite h (fun h => z_goto (tgt := 20) (off := -75) (by decide +kernel) (by decide) <| (ZP.wk (wk_some (wk_some (wk_some (wk_some (wk_none (wk_none wk_nil)))))) h)) (fun h => z_aload_n (pc' := 39) (j := 1) (by decide +kernel) rfl rfl <| z_aload_n (pc' := 40) (j := 0) (by decide +kernel) rfl rfl <| z_iload (pc' := 42) (j := 4) (by decide +kernel) rfl rfl <| h.elim fun c8 h => z_callV (pc' := 45) (idx := 97) (mj := m_X12_earlier) (av := [iv v4]) (d' := 0) (by decide +kernel) rfl k_X12_earlier l_RX12_97 rfl (by omega) (am_le rfl) rfl (am_le rfl) hm.o.1 hm.o.2 rfl <| zKf (s_earlier hm c8) <| h.elim fun c9 h => z_iaload (pc' := 46) (by decide +kernel) hv c9 rfl <| z_aload_n (pc' := 47) (j := 2) (by decide +kernel) rfl rfl <| z_aload_n (pc' := 48) (j := 0) (by decide +kernel) rfl rfl <| z_iload (pc' := 50) (j := 4) (by decide +kernel) rfl rfl <| z_callV (pc' := 53) (idx := 97) (mj := m_X12_earlier) (av := [iv v4]) (d' := 0) (by decide +kernel) rfl k_X12_earlier l_RX12_97 rfl (by omega) (am_le rfl) rfl (am_le rfl) hm.o.1 hm.o.2 rfl <| zKf (s_earlier hm c8) <| z_iaload (pc' := 54) (by decide +kernel) hu c9 rfl <| z_iadd (pc' := 55) (by decide +kernel) rfl <| z_aload_n (pc' := 56) (j := 0) (by decide +kernel) rfl rfl <| z_iload (pc' := 58) (j := 4) (by decide +kernel) rfl rfl <| z_callV (pc' := 61) (idx := 101) (mj := m_X12_lag) (av := [iv v4]) (d' := 0) (by decide +kernel) rfl k_X12_lag l_RX12_101 rfl (by omega) (am_le rfl) rfl (am_le rfl) hm.o.1 hm.o.2 rfl <| zKf (s_lag hm c8) <| z_iadd (pc' := 62) (by decide +kernel) rfl <| z_istore (pc' := 64) (j := 5) (ls' := [some (.ref m), some (.ref v), some (.ref u), some (iv v3), some (iv v4), some (iv (((zI Z v (mE Z B v4.toNat).toNat) + (zI Z u (mE Z B v4.toNat).toNat)) + (mK Z B v4.toNat)))]) (by decide +kernel) (by decide) rfl rfl <| z_iload (pc' := 66) (j := 5) (by decide +kernel) rfl rfl <| z_aload_n (pc' := 67) (j := 1) (by decide +kernel) rfl rfl <| z_aload_n (pc' := 68) (j := 0) (by decide +kernel) rfl rfl <| z_iload (pc' := 70) (j := 4) (by decide +kernel) rfl rfl <| z_callV (pc' := 73) (idx := 104) (mj := m_X12_later) (av := [iv v4]) (d' := 0) (by decide +kernel) rfl k_X12_later l_RX12_104 rfl (by omega) (am_le rfl) rfl (am_le rfl) hm.o.1 hm.o.2 rfl <| zKf (s_later hm c8) <| h.elim fun c10 h => z_iaload (pc' := 74) (by decide +kernel) hv c10 rfl <| h.elim fun c11 h => h.elim fun c12 h => z_icmp_le (pc' := 77) (tgt := 89) (off := 15) (by decide +kernel) (by decide) rfl c11 c12 (am_ite h (fun h => z_iinc (pc' := 92) (j := 4) (n := 1) (x := v4) (ls' := [some (.ref m), some (.ref v), some (.ref u), some (iv v3), some (iv (v4 + 1)), some (iv (((zI Z v (mE Z B v4.toNat).toNat) + (zI Z u (mE Z B v4.toNat).toNat)) + (mK Z B v4.toNat)))]) (by decide +kernel) rfl (by decide) rfl rfl <| z_goto (tgt := 29) (off := -63) (by decide +kernel) (by decide) <| (ZP.wk (wk_some (wk_some (wk_some (wk_some (wk_some (wk_none wk_nil)))))) h)) (fun h => z_aload_n (pc' := 78) (j := 1) (by decide +kernel) rfl rfl <| z_aload_n (pc' := 79) (j := 0) (by decide +kernel) rfl rfl <| z_iload (pc' := 81) (j := 4) (by decide +kernel) rfl rfl <| z_callV (pc' := 84) (idx := 104) (mj := m_X12_later) (av := [iv v4]) (d' := 0) (by decide +kernel) rfl k_X12_later l_RX12_104 rfl (by omega) (am_le rfl) rfl (am_le rfl) hm.o.1 hm.o.2 rfl <| zKf (s_later hm c8) <| z_iload (pc' := 86) (j := 5) (by decide +kernel) rfl rfl <| z_iastore (pc' := 87) (by decide +kernel) hv c10 rfl <| have h := h _ rfl; z_iconst (pc' := 88) (n := 1) (by decide +kernel) rfl <| z_istore_n (pc' := 89) (j := 3) (ls' := [some (.ref m), some (.ref v), some (.ref u), some (iv 1), some (iv v4), some (iv (((zI Z v (mE Z B v4.toNat).toNat) + (zI Z u (mE Z B v4.toNat).toNat)) + (mK Z B v4.toNat)))]) (by decide +kernel) (by decide) rfl rfl <| z_iinc (pc' := 92) (j := 4) (n := 1) (x := v4) (ls' := [some (.ref m), some (.ref v), some (.ref u), some (iv 1), some (iv (v4 + 1)), some (iv (((zI Z v (mE Z B v4.toNat).toNat) + (zI Z u (mE Z B v4.toNat).toNat)) + (mK Z B v4.toNat)))]) (by decide +kernel) rfl (by decide) rfl rfl <| z_goto (tgt := 29) (off := -63) (by decide +kernel) (by decide) <| (ZP.wk (wk_some (wk_some (wk_some (wk_some (wk_some (wk_none wk_nil)))))) h)))))
set_option maxRecDepth 20000 in
theorem e_X12_earliestBegins {G : Gx} {Q : Rv → Zm → Prop} {Z : Zm} {m : Nat} {B : Nat} {u : Nat} (hm : atModel Z m B) (hu : zA Z u 100 20) (h : ((zSz Z < 1000000) ∧ ∀ Z2, Z2 = zC Z 100 20 20 → ZM G 1 m_X12_earliestInto [.ref m, .ref (zSz Z), .ref u] Z2 (zKc G 2 m_X12_earliestBegins 9 [none, none] [] Q))) : ZM G 2 m_X12_earliestBegins [.ref m, .ref u] Z Q := ZM.of [some (.ref m), some (.ref u)] rfl <| z_aload_n (pc' := 1) (j := 0) (by decide +kernel) rfl rfl <| z_bipush (pc' := 3) (n := 20) (by decide +kernel) (by decide) rfl <| h.elim fun c1 h => z_new100 (pc' := 5) (by decide +kernel) (amM1 88 rfl (by decide +kernel)) (by decide) (by decide) c1 rfl <| have h := h _ rfl; z_aload_n (pc' := 6) (j := 1) (by decide +kernel) rfl rfl <| z_callV (pc' := 9) (idx := 90) (mj := m_X12_earliestInto) (av := [.ref (zSz Z), .ref u]) (d' := 1) (by decide +kernel) rfl k_X12_earliestInto l_RX12_90 rfl (by omega) (am_le rfl) rfl (am_le rfl) (hm.o.ext (zX_C _ _ _ _)).1 (hm.o.ext (zX_C _ _ _ _)).2 rfl (ZM.mono h (zKc_wk (wk_none (wk_none wk_nil))))
set_option maxRecDepth 20000 in
theorem b_X12_earliestBegins_9 {G : Gx} {Q : Rv → Zm → Prop} {Z : Zm} {r9 : Nat} {m : Nat} {B : Nat} {u : Nat}  (hm : atModel Z m B) (hu : zA Z u 100 20) (hr9 : zA Z r9 100 20) (h : (Q (.inl (some (.ref r9))) Z)) : ZP G 2 m_X12_earliestBegins 9 [none, none] [.ref r9] Z Q := z_areturn (by decide +kernel) (by first | exact ⟨_, rfl, Or.inl ⟨_, rfl⟩⟩ | exact ⟨_, rfl, Or.inr ⟨_, rfl⟩⟩) h
set_option maxRecDepth 20000 in
theorem e_X12_endBy {G : Gx} {Q : Rv → Zm → Prop} {Z : Zm} {m : Nat} {B : Nat} {u : Nat} {v : Nat} (hm : atModel Z m B) (hu : zA Z u 100 20) (hv : zA Z v 100 20) (h : (ZP G 1 m_X12_endBy 5 [some (.ref m), some (.ref v), some (.ref u), some (iv 0), some (iv 0)] [] Z Q)) : ZM G 1 m_X12_endBy [.ref m, .ref v, .ref u] Z Q := ZM.of [some (.ref m), some (.ref v), some (.ref u), none, none] rfl <| z_iconst (pc' := 1) (n := 0) (by decide +kernel) rfl <| z_istore_n (pc' := 2) (j := 3) (ls' := [some (.ref m), some (.ref v), some (.ref u), some (iv 0), none]) (by decide +kernel) (by decide) rfl rfl <| z_iconst (pc' := 3) (n := 0) (by decide +kernel) rfl <| z_istore (pc' := 5) (j := 4) (ls' := [some (.ref m), some (.ref v), some (.ref u), some (iv 0), some (iv 0)]) (by decide +kernel) (by decide) rfl rfl <| h
set_option maxRecDepth 20000 in
theorem b_X12_endBy_5 {G : Gx} {Q : Rv → Zm → Prop} {Z : Zm} {m : Nat} {B : Nat} {u : Nat} {v : Nat} {v3 : Int} {v4 : Int} (hm : atModel Z m B) (hu : zA Z u 100 20) (hv : zA Z v 100 20) (h : ((R32 v4) ∧ (R32 (zI Z B 0)) ∧ (if (zI Z B 0) ≤ v4 then (Q (.inl (some (iv v3))) Z) else ((zIx v4 20) ∧ (R32 v3) ∧ (R32 ((zI Z v v4.toNat) + (zI Z u v4.toNat))) ∧ ZP G 1 m_X12_endBy 5 [some (.ref m), some (.ref v), some (.ref u), some (iv (max v3 ((zI Z v v4.toNat) + (zI Z u v4.toNat)))), some (iv (v4 + 1))] [] Z Q)))) : ZP G 1 m_X12_endBy 5 [some (.ref m), some (.ref v), some (.ref u), some (iv v3), some (iv v4)] [] Z Q := z_iload (pc' := 7) (j := 4) (by decide +kernel) rfl rfl <| z_aload_n (pc' := 8) (j := 0) (by decide +kernel) rfl rfl <| z_callV (pc' := 11) (idx := 64) (mj := m_X12_many) (av := []) (d' := 0) (by decide +kernel) rfl k_X12_many l_RX12_64 rfl (by omega) (am_le rfl) rfl (am_le rfl) hm.o.1 hm.o.2 rfl <| zKf (s_many hm) <| h.elim fun c1 h => h.elim fun c2 h => z_icmp_ge (pc' := 14) (tgt := 34) (off := 23) (by decide +kernel) (by decide) rfl c1 c2 (am_ite h (fun h => z_iload_n (pc' := 35) (j := 3) (by decide +kernel) rfl rfl <| z_ireturn (by decide +kernel) ⟨_, rfl, rfl⟩ h) (fun h => z_iload_n (pc' := 15) (j := 3) (by decide +kernel) rfl rfl <| z_aload_n (pc' := 16) (j := 1) (by decide +kernel) rfl rfl <| z_iload (pc' := 18) (j := 4) (by decide +kernel) rfl rfl <| h.elim fun c6 h => z_iaload (pc' := 19) (by decide +kernel) hv c6 rfl <| z_aload_n (pc' := 20) (j := 2) (by decide +kernel) rfl rfl <| z_iload (pc' := 22) (j := 4) (by decide +kernel) rfl rfl <| z_iaload (pc' := 23) (by decide +kernel) hu c6 rfl <| z_iadd (pc' := 24) (by decide +kernel) rfl <| h.elim fun c7 h => h.elim fun c8 h => z_max (pc' := 27) (idx := 107) (by decide +kernel) (amM9 18 rfl (by decide +kernel)) (amM3 108 rfl (by decide +kernel)) (amM1 21 rfl (by decide +kernel)) (amM3 109 rfl (by decide +kernel)) (by omega) (am_le rfl) c7 c8 rfl <| z_istore_n (pc' := 28) (j := 3) (ls' := [some (.ref m), some (.ref v), some (.ref u), some (iv (max v3 ((zI Z v v4.toNat) + (zI Z u v4.toNat)))), some (iv v4)]) (by decide +kernel) (by decide) rfl rfl <| z_iinc (pc' := 31) (j := 4) (n := 1) (x := v4) (ls' := [some (.ref m), some (.ref v), some (.ref u), some (iv (max v3 ((zI Z v v4.toNat) + (zI Z u v4.toNat)))), some (iv (v4 + 1))]) (by decide +kernel) rfl (by decide) rfl rfl <| z_goto (tgt := 5) (off := -26) (by decide +kernel) (by decide) <| h))
set_option maxRecDepth 20000 in
theorem e_X12_endOf {G : Gx} {Q : Rv → Zm → Prop} {Z : Zm} {m : Nat} {B : Nat} {u : Nat} (hm : atModel Z m B) (hu : zA Z u 100 20) (h : (ZM G 1 m_X12_earliestInto [.ref m, .ref (m + 18), .ref u] Z (zKc G 2 m_X12_endOf 10 [none, some (.ref u)] [.ref m] Q))) : ZM G 2 m_X12_endOf [.ref m, .ref u] Z Q := ZM.of [some (.ref m), some (.ref u)] rfl <| z_aload_n (pc' := 1) (j := 0) (by decide +kernel) rfl rfl <| z_aload_n (pc' := 2) (j := 0) (by decide +kernel) rfl rfl <| z_aload_n (pc' := 3) (j := 0) (by decide +kernel) rfl rfl <| z_getR (pc' := 6) (idx := 54) (ci := 12) (f := 21) (by decide +kernel) f_RX12_54 rfl hm.o.1 hm.o.2 hm.r21 rfl <| z_aload_n (pc' := 7) (j := 1) (by decide +kernel) rfl rfl <| z_callV (pc' := 10) (idx := 90) (mj := m_X12_earliestInto) (av := [.ref (m + 18), .ref u]) (d' := 1) (by decide +kernel) rfl k_X12_earliestInto l_RX12_90 rfl (by omega) (am_le rfl) rfl (am_le rfl) hm.o.1 hm.o.2 rfl (ZM.mono h (zKc_wk (wk_none (wk_some wk_nil))))
set_option maxRecDepth 20000 in
theorem b_X12_endOf_10 {G : Gx} {Q : Rv → Zm → Prop} {Z : Zm} {r10 : Nat} {m : Nat} {B : Nat} {u : Nat}  (hm : atModel Z m B) (hu : zA Z u 100 20) (hr10 : zA Z r10 100 20) (h : (ZM G 1 m_X12_endBy [.ref m, .ref r10, .ref u] Z (zKc G 2 m_X12_endOf 14 [none, none] [] Q))) : ZP G 2 m_X12_endOf 10 [none, some (.ref u)] [.ref r10, .ref m] Z Q := z_aload_n (pc' := 11) (j := 1) (by decide +kernel) rfl rfl <| z_callV (pc' := 14) (idx := 112) (mj := m_X12_endBy) (av := [.ref r10, .ref u]) (d' := 1) (by decide +kernel) rfl k_X12_endBy l_RX12_112 rfl (by omega) (am_le rfl) rfl (am_le rfl) hm.o.1 hm.o.2 rfl (ZM.mono h (zKc_wk (wk_none (wk_none wk_nil))))
set_option maxRecDepth 20000 in
theorem b_X12_endOf_14 {G : Gx} {Q : Rv → Zm → Prop} {Z : Zm} {m : Nat} {B : Nat} {u : Nat} {s0 : Int} (hm : atModel Z m B) (hu : zA Z u 100 20) (h : (Q (.inl (some (iv s0))) Z)) : ZP G 2 m_X12_endOf 14 [none, none] [iv s0] Z Q := z_ireturn (by decide +kernel) ⟨_, rfl, rfl⟩ h
set_option maxRecDepth 20000 in
theorem e_X12_latestInto {G : Gx} {Q : Rv → Zm → Prop} {Z : Zm} {m : Nat} {B : Nat} {u : Nat} {v : Nat} (hm : atModel Z m B) (hu : zA Z u 100 20) (hv : zA Z v 100 20) (h : (ZM G 2 m_X12_endOf [.ref m, .ref u] Z (zKc G 3 m_X12_latestInto 5 [some (.ref m), some (.ref v), some (.ref u), none, none, none, none] [] Q))) : ZM G 3 m_X12_latestInto [.ref m, .ref v, .ref u] Z Q := ZM.of [some (.ref m), some (.ref v), some (.ref u), none, none, none, none] rfl <| z_aload_n (pc' := 1) (j := 0) (by decide +kernel) rfl rfl <| z_aload_n (pc' := 2) (j := 2) (by decide +kernel) rfl rfl <| z_callV (pc' := 5) (idx := 119) (mj := m_X12_endOf) (av := [.ref u]) (d' := 2) (by decide +kernel) rfl k_X12_endOf l_RX12_119 rfl (by omega) (am_le rfl) rfl (am_le rfl) hm.o.1 hm.o.2 rfl h
set_option maxRecDepth 20000 in
theorem b_X12_latestInto_5 {G : Gx} {Q : Rv → Zm → Prop} {Z : Zm} {m : Nat} {B : Nat} {u : Nat} {v : Nat} {s0 : Int} (hm : atModel Z m B) (hu : zA Z u 100 20) (hv : zA Z v 100 20) (h : (ZP G 3 m_X12_latestInto 9 [some (.ref m), some (.ref v), some (.ref u), some (iv s0), some (iv 0), none, none] [] Z Q)) : ZP G 3 m_X12_latestInto 5 [some (.ref m), some (.ref v), some (.ref u), none, none, none, none] [iv s0] Z Q := z_istore_n (pc' := 6) (j := 3) (ls' := [some (.ref m), some (.ref v), some (.ref u), some (iv s0), none, none, none]) (by decide +kernel) (by decide) rfl rfl <| z_iconst (pc' := 7) (n := 0) (by decide +kernel) rfl <| z_istore (pc' := 9) (j := 4) (ls' := [some (.ref m), some (.ref v), some (.ref u), some (iv s0), some (iv 0), none, none]) (by decide +kernel) (by decide) rfl rfl <| h
set_option maxRecDepth 20000 in
theorem b_X12_latestInto_9 {G : Gx} {Q : Rv → Zm → Prop} {Z : Zm} {m : Nat} {B : Nat} {u : Nat} {v : Nat} {v3 : Int} {v4 : Int} (hm : atModel Z m B) (hu : zA Z u 100 20) (hv : zA Z v 100 20) (h : ((R32 v4) ∧ (R32 (zI Z B 0)) ∧ (if (zI Z B 0) ≤ v4 then (ZP G 3 m_X12_latestInto 37 [some (.ref m), some (.ref v), some (.ref u), none, some (iv 1), none, none] [] Z Q) else ((zIx v4 20) ∧ ∀ Z5, Z5 = zSI Z v (zu (zI Z v) v4.toNat (v3 - (zI Z u v4.toNat))) → ZP G 3 m_X12_latestInto 9 [some (.ref m), some (.ref v), some (.ref u), some (iv v3), some (iv (v4 + 1)), none, none] [] Z5 Q)))) : ZP G 3 m_X12_latestInto 9 [some (.ref m), some (.ref v), some (.ref u), some (iv v3), some (iv v4), none, none] [] Z Q := z_iload (pc' := 11) (j := 4) (by decide +kernel) rfl rfl <| z_aload_n (pc' := 12) (j := 0) (by decide +kernel) rfl rfl <| z_callV (pc' := 15) (idx := 64) (mj := m_X12_many) (av := []) (d' := 0) (by decide +kernel) rfl k_X12_many l_RX12_64 rfl (by omega) (am_le rfl) rfl (am_le rfl) hm.o.1 hm.o.2 rfl <| zKf (s_many hm) <| h.elim fun c1 h => h.elim fun c2 h => z_icmp_ge (pc' := 18) (tgt := 34) (off := 19) (by decide +kernel) (by decide) rfl c1 c2 (am_ite h (fun h => z_iconst (pc' := 35) (n := 1) (by decide +kernel) rfl <| z_istore (pc' := 37) (j := 4) (ls' := [some (.ref m), some (.ref v), some (.ref u), some (iv v3), some (iv 1), none, none]) (by decide +kernel) (by decide) rfl rfl <| (ZP.wk (wk_some (wk_some (wk_some (wk_none (wk_some (wk_none (wk_none wk_nil))))))) h)) (fun h => z_aload_n (pc' := 19) (j := 1) (by decide +kernel) rfl rfl <| z_iload (pc' := 21) (j := 4) (by decide +kernel) rfl rfl <| z_iload_n (pc' := 22) (j := 3) (by decide +kernel) rfl rfl <| z_aload_n (pc' := 23) (j := 2) (by decide +kernel) rfl rfl <| z_iload (pc' := 25) (j := 4) (by decide +kernel) rfl rfl <| h.elim fun c4 h => z_iaload (pc' := 26) (by decide +kernel) hu c4 rfl <| z_isub (pc' := 27) (by decide +kernel) rfl <| z_iastore (pc' := 28) (by decide +kernel) hv c4 rfl <| have h := h _ rfl; z_iinc (pc' := 31) (j := 4) (n := 1) (x := v4) (ls' := [some (.ref m), some (.ref v), some (.ref u), some (iv v3), some (iv (v4 + 1)), none, none]) (by decide +kernel) rfl (by decide) rfl rfl <| z_goto (tgt := 9) (off := -22) (by decide +kernel) (by decide) <| h))
set_option maxRecDepth 20000 in
theorem b_X12_latestInto_37 {G : Gx} {Q : Rv → Zm → Prop} {Z : Zm} {m : Nat} {B : Nat} {u : Nat} {v : Nat} {v4 : Int} (hm : atModel Z m B) (hu : zA Z u 100 20) (hv : zA Z v 100 20) (h : ((R32 v4) ∧ (if v4 = 0 then (Q (.inl (some (.ref v))) Z) else (ZP G 3 m_X12_latestInto 48 [some (.ref m), some (.ref v), some (.ref u), none, some (iv 0), some (iv 0), none] [] Z Q)))) : ZP G 3 m_X12_latestInto 37 [some (.ref m), some (.ref v), some (.ref u), none, some (iv v4), none, none] [] Z Q := z_iload (pc' := 39) (j := 4) (by decide +kernel) rfl rfl <| h.elim fun c1 h => z_if_eq (pc' := 42) (tgt := 118) (off := 79) (by decide +kernel) (by decide) rfl c1 (am_ite h (fun h => z_aload_n (pc' := 119) (j := 1) (by decide +kernel) rfl rfl <| z_areturn (by decide +kernel) (by first | exact ⟨_, rfl, Or.inl ⟨_, rfl⟩⟩ | exact ⟨_, rfl, Or.inr ⟨_, rfl⟩⟩) h) (fun h => z_iconst (pc' := 43) (n := 0) (by decide +kernel) rfl <| z_istore (pc' := 45) (j := 4) (ls' := [some (.ref m), some (.ref v), some (.ref u), none, some (iv 0), none, none]) (by decide +kernel) (by decide) rfl rfl <| z_iconst (pc' := 46) (n := 0) (by decide +kernel) rfl <| z_istore (pc' := 48) (j := 5) (ls' := [some (.ref m), some (.ref v), some (.ref u), none, some (iv 0), some (iv 0), none]) (by decide +kernel) (by decide) rfl rfl <| h))
set_option maxRecDepth 20000 in
theorem b_X12_latestInto_48 {G : Gx} {Q : Rv → Zm → Prop} {Z : Zm} {m : Nat} {B : Nat} {u : Nat} {v : Nat} {v4 : Int} {v5 : Int} (hm : atModel Z m B) (hu : zA Z u 100 20) (hv : zA Z v 100 20) (h : ((R32 v5) ∧ (R32 (zI Z B 1)) ∧ (if (zI Z B 1) ≤ v5 then (ZP G 3 m_X12_latestInto 37 [some (.ref m), some (.ref v), some (.ref u), none, some (iv v4), none, none] [] Z Q) else ((zIx v5 50) ∧ (zIx (mQ Z B v5.toNat) 20) ∧ (zIx (mE Z B v5.toNat) 20) ∧ (R32 (((zI Z v (mQ Z B v5.toNat).toNat) - (mK Z B v5.toNat)) - (zI Z u (mE Z B v5.toNat).toNat))) ∧ (R32 (zI Z v (mE Z B v5.toNat).toNat)) ∧ (if (zI Z v (mE Z B v5.toNat).toNat) ≤ (((zI Z v (mQ Z B v5.toNat).toNat) - (mK Z B v5.toNat)) - (zI Z u (mE Z B v5.toNat).toNat)) then (ZP G 3 m_X12_latestInto 48 [some (.ref m), some (.ref v), some (.ref u), none, some (iv v4), some (iv (v5 + 1)), none] [] Z Q) else (∀ Z13, Z13 = zSI Z v (zu (zI Z v) (mE Z B v5.toNat).toNat (((zI Z v (mQ Z B v5.toNat).toNat) - (mK Z B v5.toNat)) - (zI Z u (mE Z B v5.toNat).toNat))) → ZP G 3 m_X12_latestInto 48 [some (.ref m), some (.ref v), some (.ref u), none, some (iv 1), some (iv (v5 + 1)), none] [] Z13 Q)))))) : ZP G 3 m_X12_latestInto 48 [some (.ref m), some (.ref v), some (.ref u), none, some (iv v4), some (iv v5), none] [] Z Q := z_iload (pc' := 50) (j := 5) (by decide +kernel) rfl rfl <| z_aload_n (pc' := 51) (j := 0) (by decide +kernel) rfl rfl <| z_callV (pc' := 54) (idx := 94) (mj := m_X12_needsMany) (av := []) (d' := 0) (by decide +kernel) rfl k_X12_needsMany l_RX12_94 rfl (by omega) (am_le rfl) rfl (am_le rfl) hm.o.1 hm.o.2 rfl <| zKf (s_needsMany hm) <| h.elim fun c1 h => h.elim fun c2 h => z_icmp_ge (pc' := 57) (tgt := 115) (off := 61) (by decide +kernel) (by decide) rfl c1 c2 (am_ite h (fun h => z_goto (tgt := 37) (off := -78) (by decide +kernel) (by decide) <| (ZP.wk (wk_some (wk_some (wk_some (wk_none (wk_some (wk_none (wk_none wk_nil))))))) h)) (fun h => z_aload_n (pc' := 58) (j := 1) (by decide +kernel) rfl rfl <| z_aload_n (pc' := 59) (j := 0) (by decide +kernel) rfl rfl <| z_iload (pc' := 61) (j := 5) (by decide +kernel) rfl rfl <| h.elim fun c8 h => z_callV (pc' := 64) (idx := 104) (mj := m_X12_later) (av := [iv v5]) (d' := 0) (by decide +kernel) rfl k_X12_later l_RX12_104 rfl (by omega) (am_le rfl) rfl (am_le rfl) hm.o.1 hm.o.2 rfl <| zKf (s_later hm c8) <| h.elim fun c9 h => z_iaload (pc' := 65) (by decide +kernel) hv c9 rfl <| z_aload_n (pc' := 66) (j := 0) (by decide +kernel) rfl rfl <| z_iload (pc' := 68) (j := 5) (by decide +kernel) rfl rfl <| z_callV (pc' := 71) (idx := 101) (mj := m_X12_lag) (av := [iv v5]) (d' := 0) (by decide +kernel) rfl k_X12_lag l_RX12_101 rfl (by omega) (am_le rfl) rfl (am_le rfl) hm.o.1 hm.o.2 rfl <| zKf (s_lag hm c8) <| z_isub (pc' := 72) (by decide +kernel) rfl <| z_aload_n (pc' := 73) (j := 2) (by decide +kernel) rfl rfl <| z_aload_n (pc' := 74) (j := 0) (by decide +kernel) rfl rfl <| z_iload (pc' := 76) (j := 5) (by decide +kernel) rfl rfl <| z_callV (pc' := 79) (idx := 97) (mj := m_X12_earlier) (av := [iv v5]) (d' := 0) (by decide +kernel) rfl k_X12_earlier l_RX12_97 rfl (by omega) (am_le rfl) rfl (am_le rfl) hm.o.1 hm.o.2 rfl <| zKf (s_earlier hm c8) <| h.elim fun c10 h => z_iaload (pc' := 80) (by decide +kernel) hu c10 rfl <| z_isub (pc' := 81) (by decide +kernel) rfl <| z_istore (pc' := 83) (j := 6) (ls' := [some (.ref m), some (.ref v), some (.ref u), none, some (iv v4), some (iv v5), some (iv (((zI Z v (mQ Z B v5.toNat).toNat) - (mK Z B v5.toNat)) - (zI Z u (mE Z B v5.toNat).toNat)))]) (by decide +kernel) (by decide) rfl rfl <| z_iload (pc' := 85) (j := 6) (by decide +kernel) rfl rfl <| z_aload_n (pc' := 86) (j := 1) (by decide +kernel) rfl rfl <| z_aload_n (pc' := 87) (j := 0) (by decide +kernel) rfl rfl <| z_iload (pc' := 89) (j := 5) (by decide +kernel) rfl rfl <| z_callV (pc' := 92) (idx := 97) (mj := m_X12_earlier) (av := [iv v5]) (d' := 0) (by decide +kernel) rfl k_X12_earlier l_RX12_97 rfl (by omega) (am_le rfl) rfl (am_le rfl) hm.o.1 hm.o.2 rfl <| zKf (s_earlier hm c8) <| z_iaload (pc' := 93) (by decide +kernel) hv c10 rfl <| h.elim fun c11 h => h.elim fun c12 h => z_icmp_ge (pc' := 96) (tgt := 109) (off := 16) (by decide +kernel) (by decide) rfl c11 c12 (am_ite h (fun h => z_iinc (pc' := 112) (j := 5) (n := 1) (x := v5) (ls' := [some (.ref m), some (.ref v), some (.ref u), none, some (iv v4), some (iv (v5 + 1)), some (iv (((zI Z v (mQ Z B v5.toNat).toNat) - (mK Z B v5.toNat)) - (zI Z u (mE Z B v5.toNat).toNat)))]) (by decide +kernel) rfl (by decide) rfl rfl <| z_goto (tgt := 48) (off := -64) (by decide +kernel) (by decide) <| (ZP.wk (wk_some (wk_some (wk_some (wk_none (wk_some (wk_some (wk_none wk_nil))))))) h)) (fun h => z_aload_n (pc' := 97) (j := 1) (by decide +kernel) rfl rfl <| z_aload_n (pc' := 98) (j := 0) (by decide +kernel) rfl rfl <| z_iload (pc' := 100) (j := 5) (by decide +kernel) rfl rfl <| z_callV (pc' := 103) (idx := 97) (mj := m_X12_earlier) (av := [iv v5]) (d' := 0) (by decide +kernel) rfl k_X12_earlier l_RX12_97 rfl (by omega) (am_le rfl) rfl (am_le rfl) hm.o.1 hm.o.2 rfl <| zKf (s_earlier hm c8) <| z_iload (pc' := 105) (j := 6) (by decide +kernel) rfl rfl <| z_iastore (pc' := 106) (by decide +kernel) hv c10 rfl <| have h := h _ rfl; z_iconst (pc' := 107) (n := 1) (by decide +kernel) rfl <| z_istore (pc' := 109) (j := 4) (ls' := [some (.ref m), some (.ref v), some (.ref u), none, some (iv 1), some (iv v5), some (iv (((zI Z v (mQ Z B v5.toNat).toNat) - (mK Z B v5.toNat)) - (zI Z u (mE Z B v5.toNat).toNat)))]) (by decide +kernel) (by decide) rfl rfl <| z_iinc (pc' := 112) (j := 5) (n := 1) (x := v5) (ls' := [some (.ref m), some (.ref v), some (.ref u), none, some (iv 1), some (iv (v5 + 1)), some (iv (((zI Z v (mQ Z B v5.toNat).toNat) - (mK Z B v5.toNat)) - (zI Z u (mE Z B v5.toNat).toNat)))]) (by decide +kernel) rfl (by decide) rfl rfl <| z_goto (tgt := 48) (off := -64) (by decide +kernel) (by decide) <| (ZP.wk (wk_some (wk_some (wk_some (wk_none (wk_some (wk_some (wk_none wk_nil))))))) h)))))
set_option maxRecDepth 20000 in
theorem e_X12_latestBegins {G : Gx} {Q : Rv → Zm → Prop} {Z : Zm} {m : Nat} {B : Nat} {u : Nat} (hm : atModel Z m B) (hu : zA Z u 100 20) (h : ((zSz Z < 1000000) ∧ ∀ Z2, Z2 = zC Z 100 20 20 → ZM G 3 m_X12_latestInto [.ref m, .ref (zSz Z), .ref u] Z2 (zKc G 4 m_X12_latestBegins 9 [none, none] [] Q))) : ZM G 4 m_X12_latestBegins [.ref m, .ref u] Z Q := ZM.of [some (.ref m), some (.ref u)] rfl <| z_aload_n (pc' := 1) (j := 0) (by decide +kernel) rfl rfl <| z_bipush (pc' := 3) (n := 20) (by decide +kernel) (by decide) rfl <| h.elim fun c1 h => z_new100 (pc' := 5) (by decide +kernel) (amM1 88 rfl (by decide +kernel)) (by decide) (by decide) c1 rfl <| have h := h _ rfl; z_aload_n (pc' := 6) (j := 1) (by decide +kernel) rfl rfl <| z_callV (pc' := 9) (idx := 116) (mj := m_X12_latestInto) (av := [.ref (zSz Z), .ref u]) (d' := 3) (by decide +kernel) rfl k_X12_latestInto l_RX12_116 rfl (by omega) (am_le rfl) rfl (am_le rfl) (hm.o.ext (zX_C _ _ _ _)).1 (hm.o.ext (zX_C _ _ _ _)).2 rfl (ZM.mono h (zKc_wk (wk_none (wk_none wk_nil))))
set_option maxRecDepth 20000 in
theorem b_X12_latestBegins_9 {G : Gx} {Q : Rv → Zm → Prop} {Z : Zm} {r9 : Nat} {m : Nat} {B : Nat} {u : Nat}  (hm : atModel Z m B) (hu : zA Z u 100 20) (hr9 : zA Z r9 100 20) (h : (Q (.inl (some (.ref r9))) Z)) : ZP G 4 m_X12_latestBegins 9 [none, none] [.ref r9] Z Q := z_areturn (by decide +kernel) (by first | exact ⟨_, rfl, Or.inl ⟨_, rfl⟩⟩ | exact ⟨_, rfl, Or.inr ⟨_, rfl⟩⟩) h
set_option maxRecDepth 20000 in
theorem e_X12_rests {G : Gx} {Q : Rv → Zm → Prop} {Z : Zm} {m : Nat} {B : Nat} {u : Nat} (hm : atModel Z m B) (hu : zA Z u 100 20) (h : (ZM G 0 m_X12_copied [.ref u] Z (zKc G 1 m_X12_rests 4 [some (.ref m), some (.ref u), none, none, none, none] [] Q))) : ZM G 1 m_X12_rests [.ref m, .ref u] Z Q := ZM.of [some (.ref m), some (.ref u), none, none, none, none] rfl <| z_aload_n (pc' := 1) (j := 1) (by decide +kernel) rfl rfl <| z_callS (pc' := 4) (idx := 75) (mj := m_X12_copied) (av := [.ref u]) (d' := 0) (by decide +kernel) rfl k_X12_copied l_RX12_75 rfl (by omega) (am_le rfl) rfl (am_le rfl) rfl h
set_option maxRecDepth 20000 in
theorem b_X12_rests_4 {G : Gx} {Q : Rv → Zm → Prop} {Z : Zm} {r4 : Nat} {m : Nat} {B : Nat} {u : Nat}  (hm : atModel Z m B) (hu : zA Z u 100 20) (hr4 : zA Z r4 100 20) (h : (ZP G 1 m_X12_rests 7 [some (.ref m), some (.ref u), some (.ref r4), some (iv 1), none, none] [] Z Q)) : ZP G 1 m_X12_rests 4 [some (.ref m), some (.ref u), none, none, none, none] [.ref r4] Z Q := z_astore_n (pc' := 5) (j := 2) (ls' := [some (.ref m), some (.ref u), some (.ref r4), none, none, none]) (by decide +kernel) (by decide) rfl rfl <| z_iconst (pc' := 6) (n := 1) (by decide +kernel) rfl <| z_istore_n (pc' := 7) (j := 3) (ls' := [some (.ref m), some (.ref u), some (.ref r4), some (iv 1), none, none]) (by decide +kernel) (by decide) rfl rfl <| h
set_option maxRecDepth 20000 in
theorem b_X12_rests_7 {G : Gx} {Q : Rv → Zm → Prop} {Z : Zm} {r4 : Nat} {m : Nat} {B : Nat} {u : Nat} {v3 : Int} (hm : atModel Z m B) (hu : zA Z u 100 20) (hr4 : zA Z r4 100 20) (h : ((R32 v3) ∧ (if v3 = 0 then (Q (.inl (some (.ref r4))) Z) else (ZP G 1 m_X12_rests 16 [some (.ref m), some (.ref u), some (.ref r4), some (iv 0), some (iv 0), none] [] Z Q)))) : ZP G 1 m_X12_rests 7 [some (.ref m), some (.ref u), some (.ref r4), some (iv v3), none, none] [] Z Q := z_iload_n (pc' := 8) (j := 3) (by decide +kernel) rfl rfl <| h.elim fun c1 h => z_if_eq (pc' := 11) (tgt := 85) (off := 77) (by decide +kernel) (by decide) rfl c1 (am_ite h (fun h => z_aload_n (pc' := 86) (j := 2) (by decide +kernel) rfl rfl <| z_areturn (by decide +kernel) (by first | exact ⟨_, rfl, Or.inl ⟨_, rfl⟩⟩ | exact ⟨_, rfl, Or.inr ⟨_, rfl⟩⟩) h) (fun h => z_iconst (pc' := 12) (n := 0) (by decide +kernel) rfl <| z_istore_n (pc' := 13) (j := 3) (ls' := [some (.ref m), some (.ref u), some (.ref r4), some (iv 0), none, none]) (by decide +kernel) (by decide) rfl rfl <| z_iconst (pc' := 14) (n := 0) (by decide +kernel) rfl <| z_istore (pc' := 16) (j := 4) (ls' := [some (.ref m), some (.ref u), some (.ref r4), some (iv 0), some (iv 0), none]) (by decide +kernel) (by decide) rfl rfl <| h))
set_option maxRecDepth 20000 in
theorem b_X12_rests_16 {G : Gx} {Q : Rv → Zm → Prop} {Z : Zm} {r4 : Nat} {m : Nat} {B : Nat} {u : Nat} {v3 : Int} {v4 : Int} (hm : atModel Z m B) (hu : zA Z u 100 20) (hr4 : zA Z r4 100 20) (h : ((R32 v4) ∧ (R32 (zI Z B 1)) ∧ (if (zI Z B 1) ≤ v4 then (ZP G 1 m_X12_rests 7 [some (.ref m), some (.ref u), some (.ref r4), some (iv v3), none, none] [] Z Q) else ((zIx v4 50) ∧ (zIx (mE Z B v4.toNat) 20) ∧ (zIx (mQ Z B v4.toNat) 20) ∧ (R32 (((zI Z u (mE Z B v4.toNat).toNat) + (mK Z B v4.toNat)) + (zI Z r4 (mQ Z B v4.toNat).toNat))) ∧ (R32 (zI Z r4 (mE Z B v4.toNat).toNat)) ∧ (if (((zI Z u (mE Z B v4.toNat).toNat) + (mK Z B v4.toNat)) + (zI Z r4 (mQ Z B v4.toNat).toNat)) ≤ (zI Z r4 (mE Z B v4.toNat).toNat) then (ZP G 1 m_X12_rests 16 [some (.ref m), some (.ref u), some (.ref r4), some (iv v3), some (iv (v4 + 1)), none] [] Z Q) else (∀ Z13, Z13 = zSI Z r4 (zu (zI Z r4) (mE Z B v4.toNat).toNat (((zI Z u (mE Z B v4.toNat).toNat) + (mK Z B v4.toNat)) + (zI Z r4 (mQ Z B v4.toNat).toNat))) → ZP G 1 m_X12_rests 16 [some (.ref m), some (.ref u), some (.ref r4), some (iv 1), some (iv (v4 + 1)), none] [] Z13 Q)))))) : ZP G 1 m_X12_rests 16 [some (.ref m), some (.ref u), some (.ref r4), some (iv v3), some (iv v4), none] [] Z Q := z_iload (pc' := 18) (j := 4) (by decide +kernel) rfl rfl <| z_aload_n (pc' := 19) (j := 0) (by decide +kernel) rfl rfl <| z_callV (pc' := 22) (idx := 94) (mj := m_X12_needsMany) (av := []) (d' := 0) (by decide +kernel) rfl k_X12_needsMany l_RX12_94 rfl (by omega) (am_le rfl) rfl (am_le rfl) hm.o.1 hm.o.2 rfl <| zKf (s_needsMany hm) <| h.elim fun c1 h => h.elim fun c2 h => z_icmp_ge (pc' := 25) (tgt := 82) (off := 60) (by decide +kernel) (by decide) rfl c1 c2 (am_ite h (fun h => z_goto (tgt := 7) (off := -75) (by decide +kernel) (by decide) <| (ZP.wk (wk_some (wk_some (wk_some (wk_some (wk_none (wk_none wk_nil)))))) h)) (fun h => z_aload_n (pc' := 26) (j := 1) (by decide +kernel) rfl rfl <| z_aload_n (pc' := 27) (j := 0) (by decide +kernel) rfl rfl <| z_iload (pc' := 29) (j := 4) (by decide +kernel) rfl rfl <| h.elim fun c8 h => z_callV (pc' := 32) (idx := 97) (mj := m_X12_earlier) (av := [iv v4]) (d' := 0) (by decide +kernel) rfl k_X12_earlier l_RX12_97 rfl (by omega) (am_le rfl) rfl (am_le rfl) hm.o.1 hm.o.2 rfl <| zKf (s_earlier hm c8) <| h.elim fun c9 h => z_iaload (pc' := 33) (by decide +kernel) hu c9 rfl <| z_aload_n (pc' := 34) (j := 0) (by decide +kernel) rfl rfl <| z_iload (pc' := 36) (j := 4) (by decide +kernel) rfl rfl <| z_callV (pc' := 39) (idx := 101) (mj := m_X12_lag) (av := [iv v4]) (d' := 0) (by decide +kernel) rfl k_X12_lag l_RX12_101 rfl (by omega) (am_le rfl) rfl (am_le rfl) hm.o.1 hm.o.2 rfl <| zKf (s_lag hm c8) <| z_iadd (pc' := 40) (by decide +kernel) rfl <| z_aload_n (pc' := 41) (j := 2) (by decide +kernel) rfl rfl <| z_aload_n (pc' := 42) (j := 0) (by decide +kernel) rfl rfl <| z_iload (pc' := 44) (j := 4) (by decide +kernel) rfl rfl <| z_callV (pc' := 47) (idx := 104) (mj := m_X12_later) (av := [iv v4]) (d' := 0) (by decide +kernel) rfl k_X12_later l_RX12_104 rfl (by omega) (am_le rfl) rfl (am_le rfl) hm.o.1 hm.o.2 rfl <| zKf (s_later hm c8) <| h.elim fun c10 h => z_iaload (pc' := 48) (by decide +kernel) hr4 c10 rfl <| z_iadd (pc' := 49) (by decide +kernel) rfl <| z_istore (pc' := 51) (j := 5) (ls' := [some (.ref m), some (.ref u), some (.ref r4), some (iv v3), some (iv v4), some (iv (((zI Z u (mE Z B v4.toNat).toNat) + (mK Z B v4.toNat)) + (zI Z r4 (mQ Z B v4.toNat).toNat)))]) (by decide +kernel) (by decide) rfl rfl <| z_iload (pc' := 53) (j := 5) (by decide +kernel) rfl rfl <| z_aload_n (pc' := 54) (j := 2) (by decide +kernel) rfl rfl <| z_aload_n (pc' := 55) (j := 0) (by decide +kernel) rfl rfl <| z_iload (pc' := 57) (j := 4) (by decide +kernel) rfl rfl <| z_callV (pc' := 60) (idx := 97) (mj := m_X12_earlier) (av := [iv v4]) (d' := 0) (by decide +kernel) rfl k_X12_earlier l_RX12_97 rfl (by omega) (am_le rfl) rfl (am_le rfl) hm.o.1 hm.o.2 rfl <| zKf (s_earlier hm c8) <| z_iaload (pc' := 61) (by decide +kernel) hr4 c9 rfl <| h.elim fun c11 h => h.elim fun c12 h => z_icmp_le (pc' := 64) (tgt := 76) (off := 15) (by decide +kernel) (by decide) rfl c11 c12 (am_ite h (fun h => z_iinc (pc' := 79) (j := 4) (n := 1) (x := v4) (ls' := [some (.ref m), some (.ref u), some (.ref r4), some (iv v3), some (iv (v4 + 1)), some (iv (((zI Z u (mE Z B v4.toNat).toNat) + (mK Z B v4.toNat)) + (zI Z r4 (mQ Z B v4.toNat).toNat)))]) (by decide +kernel) rfl (by decide) rfl rfl <| z_goto (tgt := 16) (off := -63) (by decide +kernel) (by decide) <| (ZP.wk (wk_some (wk_some (wk_some (wk_some (wk_some (wk_none wk_nil)))))) h)) (fun h => z_aload_n (pc' := 65) (j := 2) (by decide +kernel) rfl rfl <| z_aload_n (pc' := 66) (j := 0) (by decide +kernel) rfl rfl <| z_iload (pc' := 68) (j := 4) (by decide +kernel) rfl rfl <| z_callV (pc' := 71) (idx := 97) (mj := m_X12_earlier) (av := [iv v4]) (d' := 0) (by decide +kernel) rfl k_X12_earlier l_RX12_97 rfl (by omega) (am_le rfl) rfl (am_le rfl) hm.o.1 hm.o.2 rfl <| zKf (s_earlier hm c8) <| z_iload (pc' := 73) (j := 5) (by decide +kernel) rfl rfl <| z_iastore (pc' := 74) (by decide +kernel) hr4 c9 rfl <| have h := h _ rfl; z_iconst (pc' := 75) (n := 1) (by decide +kernel) rfl <| z_istore_n (pc' := 76) (j := 3) (ls' := [some (.ref m), some (.ref u), some (.ref r4), some (iv 1), some (iv v4), some (iv (((zI Z u (mE Z B v4.toNat).toNat) + (mK Z B v4.toNat)) + (zI Z r4 (mQ Z B v4.toNat).toNat)))]) (by decide +kernel) (by decide) rfl rfl <| z_iinc (pc' := 79) (j := 4) (n := 1) (x := v4) (ls' := [some (.ref m), some (.ref u), some (.ref r4), some (iv 1), some (iv (v4 + 1)), some (iv (((zI Z u (mE Z B v4.toNat).toNat) + (mK Z B v4.toNat)) + (zI Z r4 (mQ Z B v4.toNat).toNat)))]) (by decide +kernel) rfl (by decide) rfl rfl <| z_goto (tgt := 16) (off := -63) (by decide +kernel) (by decide) <| (ZP.wk (wk_some (wk_some (wk_some (wk_some (wk_some (wk_none wk_nil)))))) h)))))
/-! ===== frames again ===== -/
abbrev zNo : Nat → Prop := fun _ => False
theorem zF.wr {S : Nat → Prop} {c w : Nat} {Z Z' : Zm} (h : zF S c w Z Z') {a : Nat} {f : Nat → Int} (ha : S a ∨ zSz Z ≤ a) : zF S c w Z (zSI Z' a f) := by
  obtain ⟨h1, h2, h3⟩ := h
  refine ⟨h1.trans ⟨Nat.le_refl _, fun _ _ => ⟨rfl, rfl, rfl⟩⟩, h2, fun b hb hs => ?_⟩
  have hne : b ≠ a := fun e => by
    subst e
    rcases ha with h | h
    · exact hs h
    · omega
  rw [zI_other hne]
  exact h3 b hb hs
theorem zF.tr {S S' : Nat → Prop} {c w c' w' : Nat} {Z Z' Z'' : Zm} (h : zF S c w Z Z') (k : zF S' c' w' Z' Z'') (hs : ∀ a, a < zSz Z → S' a → S a) : zF S (c + c') (w + w') Z Z'' := by
  obtain ⟨h1, ⟨h2, h3, h4⟩, h5⟩ := h
  obtain ⟨k1, ⟨k2, k3, k4⟩, k5⟩ := k
  refine ⟨h1.trans k1, ⟨by omega, by omega, by omega⟩, fun a ha hn => ?_⟩
  obtain ⟨g1, g2, g3⟩ := h5 a ha hn
  obtain ⟨f1, f2, f3⟩ := k5 a (Nat.lt_of_lt_of_le ha h1.1) (fun g => hn (hs a ha g))
  exact ⟨f1.trans g1, f2.trans g2, f3.trans g3⟩
theorem zF.sz {S : Nat → Prop} {c w : Nat} {Z Z' : Zm} (h : zF S c w Z Z') : zSz Z ≤ zSz Z' := h.1.1
/-- an array that was made -/
theorem zI_C (Z : Zm) (k n w : Nat) : zI (zC Z k n w) (zSz Z) = fun _ => 0 := if_pos rfl
theorem zSI_sz (Z : Zm) (a : Nat) (f : Nat → Int) : zSz (zSI Z a f) = zSz Z := rfl
theorem zF_mk {S : Nat → Prop} {Z : Zm} {k n w : Nat} {f : Nat → Int} : zF S 1 w Z (zSI (zC Z k n w) (zSz Z) f) := zF.wr zF_C (Or.inr (Nat.le_refl _))
theorem s_copied {G : Gx} {Z : Zm} {u n : Nat} (hu : zA Z u 100 n) (hn : n < 1000) (hz : zSz Z < 1000000) : ZM G 0 m_X12_copied [.ref u] Z (fun r Z' => r = .inl (some (.ref (zSz Z))) ∧ zF zNo 1 n Z Z' ∧ zA Z' (zSz Z) 100 n ∧ ∀ i, i < n → zI Z' (zSz Z) i = zI Z u i) := by
  refine e_X12_copied hu ⟨by omega, by omega, hz, ?_⟩
  rintro _ rfl
  rw [Int.toNat_natCast]
  have hne : u ≠ zSz Z := Nat.ne_of_lt hu.1
  have x1 : ∀ f, zX Z (zSI (zC Z 100 n n) (zSz Z) f) := fun f => (zF_mk (S := zNo) (f := f)).1
  suffices key : ∀ (m i : Nat) (f : Nat → Int), i + m = n → (∀ j, j < i → f j = zI Z u j) → ZP G 0 m_X12_copied 7 [some (.ref u), some (.ref (zSz Z)), some (iv (i : Int))] [] (zSI (zC Z 100 n n) (zSz Z) f) (fun r Z' => r = .inl (some (.ref (zSz Z))) ∧ zF zNo 1 n Z Z' ∧ zA Z' (zSz Z) 100 n ∧ ∀ i, i < n → zI Z' (zSz Z) i = zI Z u i) by
    have h := key n 0 (fun _ => 0) (by omega) fun j hj => by omega
    rw [← zI_C Z 100 n n, zSI_id] at h
    exact h
  intro m
  induction m with
  | zero =>
    intro i f hi hf
    refine b_X12_copied_7 (hu.ext (x1 f)) (zA_C Z 100 n n) ⟨by omega, by omega, ?_⟩
    rw [if_pos (by omega)]
    exact ⟨rfl, zF_mk, zA_C Z 100 n n, fun j hj => by rw [zI_same]; exact hf j (by omega)⟩
  | succ m ih =>
    intro i f hi hf
    refine b_X12_copied_7 (hu.ext (x1 f)) (zA_C Z 100 n n) ⟨by omega, by omega, ?_⟩
    rw [if_neg (by omega)]
    refine ⟨zIx_nat (by omega) (by omega), zIx_nat (by omega) (by omega), ?_⟩
    rintro _ rfl
    rw [zI_same, zSI_zSI, Int.toNat_natCast]
    refine ih (i + 1) _ (by omega) fun j hj => ?_
    by_cases c : j = i
    · rw [c, zu_same, zI_other hne]
      exact (zF_C (S := zNo) (Z := Z) (k := 100) (n := n) (w := n)).i hu.1 (fun h => h) ▸ rfl
    · rw [zu_other c]
      exact hf j (by omega)
theorem s_lengthsInto {G : Gx} {Z : Zm} {m B u : Nat} {k : Bk} (hm : atModel Z m B) (hu : zA Z u 100 20) (hk : cM Z B k) (ho : kOk k) (huB : u ≠ B) : ZM G 1 m_X12_lengthsInto [.ref m, .ref u] Z (fun r Z' => r = .inl (some (.ref u)) ∧ ∃ f, Z' = zSI Z u f ∧ (∀ t, t < kN k → f t = kF k 0 t) ∧ ∀ t, kN k ≤ t → f t = zI Z u t) := by
  have hN := ho.n
  refine e_X12_lengthsInto hm hu ?_
  suffices key : ∀ (q i : Nat) (f : Nat → Int), i + q = kN k → (∀ t, t < i → f t = kF k 0 t) → (∀ t, kN k ≤ t → f t = zI Z u t) → ZP G 1 m_X12_lengthsInto 2 [some (.ref m), some (.ref u), some (iv (i : Int))] [] (zSI Z u f) (fun r Z' => r = .inl (some (.ref u)) ∧ ∃ f, Z' = zSI Z u f ∧ (∀ t, t < kN k → f t = kF k 0 t) ∧ ∀ t, kN k ≤ t → f t = zI Z u t) by
    have h := key (kN k) 0 (zI Z u) (by omega) (fun t ht => by omega) fun _ _ => rfl
    rw [zSI_id] at h
    exact h
  intro q
  induction q with
  | zero =>
    intro i f hi h1 h2
    have e0 : zI (zSI Z u f) B = zI Z B := zI_other (Ne.symm huB)
    refine b_X12_lengthsInto_2 (Z := zSI Z u f) hm hu ⟨by omega, by rw [e0, hk.1]; omega, ?_⟩
    rw [e0, hk.1, if_pos (by omega)]
    exact ⟨rfl, f, rfl, fun t ht => h1 t (by omega), h2⟩
  | succ q ih =>
    intro i f hi h1 h2
    have e0 : zI (zSI Z u f) B = zI Z B := zI_other (Ne.symm huB)
    have e1 : mG (zSI Z u f) B i 0 = kF k 0 i := by
      rw [← hk.f (r := 0) (show i < kN k by omega) (by omega)]
      unfold mG
      rw [e0]
    refine b_X12_lengthsInto_2 (Z := zSI Z u f) hm hu ⟨by omega, by rw [e0, hk.1]; omega, ?_⟩
    rw [e0, hk.1, if_neg (by omega)]
    refine ⟨zIx_nat (by omega) (by omega), ?_⟩
    rintro _ rfl
    rw [zI_same, zSI_zSI, Int.toNat_natCast, e1]
    refine ih (i + 1) _ (by omega) (fun t ht => ?_) fun t ht => ?_
    · by_cases c : t = i
      · rw [c, zu_same]
      · rw [zu_other c]
        exact h1 t (by omega)
    · rw [zu_other (by omega)]
      exact h2 t ht
theorem cM.mk {Z : Zm} {B : Nat} {k : Bk} {S : Nat → Prop} {c w : Nat} {Z' : Zm} (h : cM Z B k) (hB : B < zSz Z) (f : zF S c w Z Z') (hs : ¬ S B) : cM Z' B k := h.frame hB f hs
theorem s_lengths {G : Gx} {Z : Zm} {m B : Nat} {k : Bk} (hm : atModel Z m B) (hk : cM Z B k) (ho : kOk k) (hz : zSz Z < 1000000) : ZM G 2 m_X12_lengths [.ref m] Z (fun r Z' => r = .inl (some (.ref (zSz Z))) ∧ zF zNo 1 20 Z Z' ∧ zA Z' (zSz Z) 100 20 ∧ ∀ t, t < kN k → zI Z' (zSz Z) t = kF k 0 t) := by
  refine e_X12_lengths hm ⟨hz, ?_⟩
  rintro _ rfl
  have hB := hm.a0.1
  have f1 : zF zNo 1 20 Z (zC Z 100 20 20) := zF_C
  refine (s_lengthsInto (hm.ext f1.1) (zA_C Z 100 20 20) (hk.frame hB f1 (fun h => h)) ho (by omega)).mono ?_
  rintro r W ⟨rfl, f, rfl, h1, h2⟩
  refine b_X12_lengths_8 (hm.ext (f1.wr (Or.inr (Nat.le_refl _))).1) (zA_C Z 100 20 20) ?_
  exact ⟨rfl, f1.wr (Or.inr (Nat.le_refl _)), zA_C Z 100 20 20, fun t ht => by rw [zI_same]; exact h1 t ht⟩
/-! ===== least times are there ===== -/
def zmx (p : Nat → Bool) (f : Nat → Int) (b : Int) : Nat → Int
  | 0 => b
  | n + 1 => if p n then max (zmx p f b n) (f n) else zmx p f b n
theorem zmx_s (p : Nat → Bool) (f : Nat → Int) (b : Int) (n : Nat) : zmx p f b (n + 1) = if p n then max (zmx p f b n) (f n) else zmx p f b n := rfl
theorem zmx_spec (p : Nat → Bool) (f : Nat → Int) (b : Int) (n : Nat) : b ≤ zmx p f b n ∧ (∀ j, j < n → p j = true → f j ≤ zmx p f b n) ∧ (zmx p f b n = b ∨ ∃ j, j < n ∧ p j = true ∧ zmx p f b n = f j) := by
  induction n with
  | zero => exact ⟨Int.le_refl _, fun j hj => absurd hj (Nat.not_lt_zero _), Or.inl rfl⟩
  | succ n ih =>
    obtain ⟨h1, h2, h3⟩ := ih
    rw [zmx_s]
    by_cases c : p n = true
    · rw [if_pos c]
      refine ⟨by omega, fun j hj hp => ?_, ?_⟩
      · by_cases e : j = n
        · rw [e]
          omega
        · have := h2 j (by omega) hp
          omega
      · by_cases d : zmx p f b n ≤ f n
        · exact Or.inr ⟨n, by omega, c, by omega⟩
        · rcases h3 with h | ⟨j, hj, hp, h⟩
          · exact Or.inl (by omega)
          · exact Or.inr ⟨j, by omega, hp, by omega⟩
    · rw [if_neg c]
      refine ⟨h1, fun j hj hp => ?_, ?_⟩
      · by_cases e : j = n
        · rw [e] at hp
          exact absurd hp c
        · exact h2 j (by omega) hp
      · rcases h3 with h | ⟨j, hj, hp, h⟩
        · exact Or.inl h
        · exact Or.inr ⟨j, by omega, hp, h⟩
theorem zmx_congr {p : Nat → Bool} {f g : Nat → Int} {b : Int} {n : Nat} (h : ∀ j, j < n → p j = true → f j = g j) : zmx p f b n = zmx p g b n := by
  induction n with
  | zero => rfl
  | succ n ih =>
    rw [zmx_s, zmx_s, ih fun j hj => h j (by omega)]
    by_cases c : p n = true
    · rw [if_pos c, if_pos c, h n (by omega) c]
    · rw [if_neg c, if_neg c]
def lfN (k : Bk) (len lo : Nat → Int) : Nat → Nat → Int
  | 0, t => lo t
  | n + 1, t => zmx (fun j => decide (kL k j = t)) (fun j => lfN k len lo n (kE k j) + len (kE k j) + kG k j) (lo t) (kM k)
theorem isLF_ex {k : Bk} (ho : kOk k) (len lo : Nat → Int) : ∃ f, isLF k len lo f := by
  obtain ⟨r, hr⟩ := ho.2.2.2.2
  obtain ⟨N, hN⟩ := nat_bound r (kN k)
  have st : ∀ (n t : Nat), r t ≤ n → t < kN k → lfN k len lo (n + 1) t = lfN k len lo n t := by
    intro n
    induction n with
    | zero =>
      intro t h ht
      obtain ⟨-, -, h3⟩ := zmx_spec (fun j => decide (kL k j = t)) (fun j => lfN k len lo 0 (kE k j) + len (kE k j) + kG k j) (lo t) (kM k)
      rcases h3 with e | ⟨j, hj, hp, -⟩
      · exact e
      · have := hr j hj
        rw [of_decide_eq_true hp] at this
        omega
    | succ n ih =>
      intro t h ht
      refine zmx_congr fun j hj hp => ?_
      have := hr j hj
      rw [of_decide_eq_true hp] at this
      show lfN k len lo (n + 1) (kE k j) + _ + _ = lfN k len lo n (kE k j) + _ + _
      rw [ih _ (by omega) (ho.e hj)]
  refine ⟨lfN k len lo N, fun t ht => ?_⟩
  rw [← st N t (hN t ht) ht]
  obtain ⟨h1, h2, h3⟩ := zmx_spec (fun j => decide (kL k j = t)) (fun j => lfN k len lo N (kE k j) + len (kE k j) + kG k j) (lo t) (kM k)
  refine ⟨h1, fun j hj e => h2 j hj (decide_eq_true e), ?_⟩
  rcases h3 with e | ⟨j, hj, hp, e⟩
  · exact Or.inl e
  · exact Or.inr ⟨j, hj, of_decide_eq_true hp, e⟩
/-- the needs turned round -/
def kRev (k : Bk) : Bk := (kN k, kM k, kF k, kL k, kE k, kG k)
theorem kRev_ok {k : Bk} (ho : kOk k) : kOk (kRev k) := by
  obtain ⟨h1, h2, h3, h4, r, h5⟩ := ho
  obtain ⟨N, hN⟩ := nat_bound r (kN k)
  refine ⟨h1, h2, fun j hj => ⟨(h3 j hj).2.1, (h3 j hj).1, (h3 j hj).2.2⟩, fun i j hi hj e1 e2 => h4 i j hi hj e2 e1, fun t => N - r t, fun j hj => ?_⟩
  have a1 := h5 j hj
  have a2 := hN _ (h3 j hj).2.1
  show N - r (kL k j) < N - r (kE k j)
  omega
theorem isLat_ex {k : Bk} (ho : kOk k) (len : Nat → Int) (en : Int) : ∃ f, isLat k len en f := by
  obtain ⟨f, hf⟩ := isLF_ex (kRev_ok ho) len (fun _ => 0)
  refine ⟨fun t => en - len t - f t, fun t ht => ?_⟩
  obtain ⟨h1, h2, h3⟩ := hf t ht
  have h1' : 0 ≤ f t := h1
  refine ⟨by show en - len t - f t ≤ en - len t; omega, fun j hj e => ?_, ?_⟩
  · have a : f (kL k j) + len (kL k j) + kG k j ≤ f t := h2 j hj e
    show en - len t - f t ≤ en - len (kL k j) - f (kL k j) - kG k j - len t
    omega
  · rcases h3 with e | ⟨j, hj, e1, e2⟩
    · have e' : f t = 0 := e
      exact Or.inl (by show en - len t - f t = _; omega)
    · have a : f t = f (kL k j) + len (kL k j) + kG k j := e2
      refine Or.inr ⟨j, hj, e1, ?_⟩
      show en - len t - f t = en - len (kL k j) - f (kL k j) - kG k j - len t
      omega
theorem isLat_shift {k : Bk} (ho : kOk k) {len f : Nat → Int} {en : Int} (h : isLat k len en f) (c : Int) : isLat k len (en + c) (fun t => f t + c) := fun t ht => by
  obtain ⟨h1, h2, h3⟩ := h t ht
  refine ⟨by show f t + c ≤ en + c - len t; omega, fun j hj e => ?_, ?_⟩
  · have := h2 j hj e
    show f t + c ≤ f (kL k j) + c - kG k j - len t
    omega
  · rcases h3 with e | ⟨j, hj, e1, e2⟩
    · exact Or.inl (by show f t + c = en + c - len t; omega)
    · refine Or.inr ⟨j, hj, e1, ?_⟩
      show f t + c = f (kL k j) + c - kG k j - len t
      omega
theorem zsum_sub_lt {F f : Nat → Int} {n i : Nat} {x : Int} (hi : i < n) (h : f i < x) : zsum (fun t => F t - zu f i x t) n + 1 ≤ zsum (fun t => F t - f t) n := zsum_lt (fun t _ => by
  show F t - zu f i x t ≤ F t - f t
  by_cases c : t = i
  · rw [c, zu_same]
    omega
  · rw [zu_other c]
    exact Int.le_refl _) hi (by
  show F i - zu f i x i < F i - f i
  rw [zu_same]
  omega)
theorem zsum_sub_lt2 {F f : Nat → Int} {n i : Nat} {x : Int} (hi : i < n) (h : x < f i) : zsum (fun t => zu f i x t - F t) n + 1 ≤ zsum (fun t => f t - F t) n := zsum_lt (fun t _ => by
  show zu f i x t - F t ≤ f t - F t
  by_cases c : t = i
  · rw [c, zu_same]
    omega
  · rw [zu_other c]
    exact Int.le_refl _) hi (by
  show zu f i x i - F i < f i - F i
  rw [zu_same]
  omega)
theorem zsum_nn {f : Nat → Int} {n : Nat} (h : ∀ i, i < n → 0 ≤ f i) : 0 ≤ zsum f n := by
  induction n with
  | zero => exact Int.le_refl _
  | succ n ih =>
    have := ih fun i hi => h i (by omega)
    have := h n (by omega)
    rw [zsum_s]
    omega
theorem s_earliestInto {G : Gx} {Z : Zm} {m B u v : Nat} {k : Bk} {len : Nat → Int} (hm : atModel Z m B) (hu : zA Z u 100 20) (hv : zA Z v 100 20) (hk : cM Z B k) (ho : kOk k) (hlen : ∀ t, t < kN k → zI Z u t = len t ∧ 1 ≤ len t ∧ len t ≤ 60) (hvB : v ≠ B) (hvu : v ≠ u) : ZM G 1 m_X12_earliestInto [.ref m, .ref v, .ref u] Z (fun r Z' => r = .inl (some (.ref v)) ∧ ∃ f, Z' = zSI Z v f ∧ isLF k len (fun _ => 0) f) := by
  have hN := ho.n
  have hM := ho.m
  obtain ⟨F, hF⟩ := isLF_ex ho len (fun _ => 0)
  have hFb : ∀ t, t < kN k → 0 ≤ F t ∧ F t ≤ 1710 := fun t ht => by
    have := isLF_bound (c := 0) ho hF (fun t ht => (hlen t ht).2) (fun _ _ => by omega) t ht
    omega
  have e0 : ∀ f, zI (zSI Z v f) B = zI Z B := fun f => zI_other (Ne.symm hvB)
  have eu : ∀ f, zI (zSI Z v f) u = zI Z u := fun f => zI_other (Ne.symm hvu)
  have hkf : ∀ f, cM (zSI Z v f) B k := fun f => hk.of (fun i _ => by rw [e0]) ⟨hN, hM⟩
  refine e_X12_earliestInto hm hu hv ?_
  have L2 : ∀ (b : Nat) (f : Nat → Int), zsum (fun t => F t - f t) (kN k) ≤ b → (∀ t, t < kN k → 0 ≤ f t ∧ f t ≤ F t) → ZP G 1 m_X12_earliestInto 20 [some (.ref m), some (.ref v), some (.ref u), some (iv 1), none, none] [] (zSI Z v f) (fun r Z' => r = .inl (some (.ref v)) ∧ ∃ f, Z' = zSI Z v f ∧ isLF k len (fun _ => 0) f) := by
    intro b
    induction b with
    | zero =>
      intro f hb hf
      refine b_X12_earliestInto_20 (Z := zSI Z v f) hm hu hv ⟨by decide, ?_⟩
      rw [if_neg (by decide)]
      suffices inner : ∀ (q j : Nat), j + q = kM k → (∀ i, i < j → f (kE k i) + len (kE k i) + kG k i ≤ f (kL k i)) → ZP G 1 m_X12_earliestInto 29 [some (.ref m), some (.ref v), some (.ref u), some (iv 0), some (iv (j : Int)), none] [] (zSI Z v f) (fun r Z' => r = .inl (some (.ref v)) ∧ ∃ f, Z' = zSI Z v f ∧ isLF k len (fun _ => 0) f) from inner (kM k) 0 (by omega) fun i hi => by omega
      have eqF : ∀ t, t < kN k → F t = f t := fun t ht => by
        refine Classical.byContradiction fun c => ?_
        have := zsum_pos (f := fun t => F t - f t) (n := kN k) (i := t) (fun i hi => by have := hf i hi; show 0 ≤ F i - f i; omega) ht (by have := hf t ht; show 0 < F t - f t; omega)
        omega
      intro q
      induction q with
      | zero =>
        intro j hj hw
        refine b_X12_earliestInto_29 (Z := zSI Z v f) hm hu hv ⟨by omega, by rw [e0, hk.2.1]; omega, ?_⟩
        rw [e0, hk.2.1, if_pos (by omega)]
        refine b_X12_earliestInto_20 (Z := zSI Z v f) hm hu hv ⟨by decide, ?_⟩
        rw [if_pos rfl]
        exact ⟨rfl, f, rfl, isLF_congr ho hF (fun _ _ => rfl) (fun _ _ => rfl) eqF⟩
      | succ q ih =>
        intro j hj hw
        have hjk : j < kM k := by omega
        obtain ⟨e1, e2, e3⟩ := (hkf f).2.2.2 j hjk
        have he := ho.e hjk
        have hl := ho.l hjk
        have hg := ho.g hjk
        have b1 := hlen _ he
        have b2 := hf _ he
        have b3 := hf _ hl
        have b4 := hFb _ he
        have b5 := hFb _ hl
        refine b_X12_earliestInto_29 (Z := zSI Z v f) hm hu hv ⟨by omega, by rw [e0, hk.2.1]; omega, ?_⟩
        rw [e0, hk.2.1, if_neg (by omega), Int.toNat_natCast, e1, e2, e3, Int.toNat_natCast, Int.toNat_natCast, zI_same, eu, b1.1]
        have hle : f (kE k j) + len (kE k j) + kG k j ≤ f (kL k j) := by
          have h9 := (hF _ hl).2.1 j hjk rfl
          have := eqF _ he
          have := eqF _ hl
          omega
        refine ⟨zIx_nat (by omega) (by omega), zIx_nat (by omega) (by omega), zIx_nat (by omega) (by omega), by omega, by omega, ?_⟩
        rw [if_pos hle]
        exact ih (j + 1) (by omega) fun i hi => by
          by_cases c : i = j
          · rw [c]
            exact hle
          · exact hw i (by omega)
    | succ b ihb =>
      intro f hb hf
      refine b_X12_earliestInto_20 (Z := zSI Z v f) hm hu hv ⟨by decide, ?_⟩
      rw [if_neg (by decide)]
      suffices inner : ∀ (q j : Nat) (g : Nat → Int) (x : Int), j + q = kM k → (∀ t, t < kN k → 0 ≤ g t ∧ g t ≤ F t) → ((x = 0 ∧ g = f ∧ ∀ i, i < j → f (kE k i) + len (kE k i) + kG k i ≤ f (kL k i)) ∨ (x = 1 ∧ zsum (fun t => F t - g t) (kN k) ≤ b)) → ZP G 1 m_X12_earliestInto 29 [some (.ref m), some (.ref v), some (.ref u), some (iv x), some (iv (j : Int)), none] [] (zSI Z v g) (fun r Z' => r = .inl (some (.ref v)) ∧ ∃ f, Z' = zSI Z v f ∧ isLF k len (fun _ => 0) f) from inner (kM k) 0 f 0 (by omega) hf (Or.inl ⟨rfl, rfl, fun i hi => by omega⟩)
      intro q
      induction q with
      | zero =>
        intro j g x hj hg hx
        refine b_X12_earliestInto_29 (Z := zSI Z v g) hm hu hv ⟨by omega, by rw [e0, hk.2.1]; omega, ?_⟩
        rw [e0, hk.2.1, if_pos (by omega)]
        rcases hx with ⟨rfl, rfl, hw⟩ | ⟨rfl, hw⟩
        · refine b_X12_earliestInto_20 (Z := zSI Z v g) hm hu hv ⟨by decide, ?_⟩
          rw [if_pos rfl]
          refine ⟨rfl, g, rfl, isLF_congr ho hF (fun _ _ => rfl) (fun _ _ => rfl) fun t ht => Int.le_antisymm (isLF_le ho hF (fun t ht => ⟨(hf t ht).1, fun i hi e => ?_⟩) t ht) (hf t ht).2⟩
          have := hw i (by omega)
          rw [e] at this
          exact this
        · exact ihb g hw hg
      | succ q ih =>
        intro j g x hj hg hx
        have hjk : j < kM k := by omega
        obtain ⟨e1, e2, e3⟩ := (hkf g).2.2.2 j hjk
        have he := ho.e hjk
        have hl := ho.l hjk
        have hgg := ho.g hjk
        have b1 := hlen _ he
        have b2 := hg _ he
        have b3 := hg _ hl
        have b4 := hFb _ he
        have b5 := hFb _ hl
        refine b_X12_earliestInto_29 (Z := zSI Z v g) hm hu hv ⟨by omega, by rw [e0, hk.2.1]; omega, ?_⟩
        rw [e0, hk.2.1, if_neg (by omega), Int.toNat_natCast, e1, e2, e3, Int.toNat_natCast, Int.toNat_natCast, zI_same, eu, b1.1]
        refine ⟨zIx_nat (by omega) (by omega), zIx_nat (by omega) (by omega), zIx_nat (by omega) (by omega), by omega, by omega, ?_⟩
        by_cases c : g (kE k j) + len (kE k j) + kG k j ≤ g (kL k j)
        · rw [if_pos c]
          refine ih (j + 1) g x (by omega) hg ?_
          rcases hx with ⟨rfl, rfl, hw⟩ | hw
          · refine Or.inl ⟨rfl, rfl, fun i hi => ?_⟩
            by_cases d : i = j
            · rw [d]
              exact c
            · exact hw i (by omega)
          · exact Or.inr hw
        · rw [if_neg c]
          rintro _ rfl
          rw [zSI_zSI]
          have h9 := (hF _ hl).2.1 j hjk rfl
          have d9 := zsum_sub_lt (F := F) (f := g) hl (show g (kL k j) < g (kE k j) + len (kE k j) + kG k j by omega)
          refine ih (j + 1) _ 1 (by omega) (fun t ht => ?_) (Or.inr ⟨rfl, ?_⟩)
          · by_cases d : t = kL k j
            · rw [d, zu_same]
              omega
            · rw [zu_other d]
              exact hg t ht
          · rcases hx with ⟨_, rfl, _⟩ | ⟨_, hw⟩
            · omega
            · omega
  suffices L1 : ∀ (q i : Nat) (f : Nat → Int), i + q = 20 → (∀ t, t < i → f t = 0) → ZP G 1 m_X12_earliestInto 2 [some (.ref m), some (.ref v), some (.ref u), some (iv (i : Int)), none, none] [] (zSI Z v f) (fun r Z' => r = .inl (some (.ref v)) ∧ ∃ f, Z' = zSI Z v f ∧ isLF k len (fun _ => 0) f) by
    have h := L1 20 0 (zI Z v) rfl fun t ht => by omega
    rw [zSI_id] at h
    exact h
  intro q
  induction q with
  | zero =>
    intro i f hi hf
    refine b_X12_earliestInto_2 (Z := zSI Z v f) hm hu hv ⟨by omega, ?_⟩
    rw [if_pos (by omega)]
    refine L2 (zsum (fun t => F t - f t) (kN k)).toNat f (by omega) fun t ht => ?_
    rw [hf t (by omega)]
    exact ⟨Int.le_refl _, (hFb t ht).1⟩
  | succ q ih =>
    intro i f hi hf
    refine b_X12_earliestInto_2 (Z := zSI Z v f) hm hu hv ⟨by omega, ?_⟩
    rw [if_neg (by omega)]
    refine ⟨zIx_nat (by omega) (by omega), ?_⟩
    rintro _ rfl
    rw [zI_same, zSI_zSI, Int.toNat_natCast]
    refine ih (i + 1) _ (by omega) fun t ht => ?_
    by_cases c : t = i
    · rw [c, zu_same]
    · rw [zu_other c]
      exact hf t (by omega)
theorem s_earliestBegins {G : Gx} {Z : Zm} {m B u : Nat} {k : Bk} {len : Nat → Int} (hm : atModel Z m B) (hu : zA Z u 100 20) (hk : cM Z B k) (ho : kOk k) (hlen : ∀ t, t < kN k → zI Z u t = len t ∧ 1 ≤ len t ∧ len t ≤ 60) (hz : zSz Z < 1000000) : ZM G 2 m_X12_earliestBegins [.ref m, .ref u] Z (fun r Z' => r = .inl (some (.ref (zSz Z))) ∧ zF zNo 1 20 Z Z' ∧ zA Z' (zSz Z) 100 20 ∧ isLF k len (fun _ => 0) (zI Z' (zSz Z))) := by
  refine e_X12_earliestBegins hm hu ⟨hz, ?_⟩
  rintro _ rfl
  have hB := hm.a0.1
  have f1 : zF zNo 1 20 Z (zC Z 100 20 20) := zF_C
  refine (s_earliestInto (hm.ext f1.1) (hu.ext f1.1) (zA_C Z 100 20 20) (hk.frame hB f1 (fun h => h)) ho (fun t ht => by rw [f1.i hu.1 (fun h => h)]; exact hlen t ht) (by omega) (by have := hu.1; omega)).mono ?_
  rintro r W ⟨rfl, f, rfl, h1⟩
  have f2 := f1.wr (a := zSz Z) (f := f) (Or.inr (Nat.le_refl _))
  refine b_X12_earliestBegins_9 (hm.ext f2.1) (hu.ext f2.1) (zA_C Z 100 20 20) ?_
  exact ⟨rfl, f2, zA_C Z 100 20 20, by rw [zI_same]; exact h1⟩
theorem s_endBy {G : Gx} {Z : Zm} {m B u v : Nat} {k : Bk} {len f : Nat → Int} (hm : atModel Z m B) (hu : zA Z u 100 20) (hv : zA Z v 100 20) (hk : cM Z B k) (ho : kOk k) (hlen : ∀ t, t < kN k → zI Z u t = len t ∧ 0 ≤ len t ∧ len t ≤ 60) (hf : ∀ t, t < kN k → zI Z v t = f t ∧ -1 ≤ f t ∧ f t ≤ 1000000) : ZM G 1 m_X12_endBy [.ref m, .ref v, .ref u] Z (fun r Z' => r = .inl (some (iv (kEnd k len f))) ∧ Z' = Z) := by
  have hN := ho.n
  refine e_X12_endBy hm hu hv ?_
  have hb : ∀ i, i ≤ kN k → 0 ≤ zmax (fun t => f t + len t) i ∧ zmax (fun t => f t + len t) i ≤ 1000060 := fun i hi => ⟨zmax_0 _ _, zmax_le (by omega) fun t ht => by
    have := hlen t (by omega)
    have := hf t (by omega)
    show f t + len t ≤ _
    omega⟩
  suffices key : ∀ (q i : Nat), i + q = kN k → ZP G 1 m_X12_endBy 5 [some (.ref m), some (.ref v), some (.ref u), some (iv (zmax (fun t => f t + len t) i)), some (iv (i : Int))] [] Z (fun r Z' => r = .inl (some (iv (kEnd k len f))) ∧ Z' = Z) from key (kN k) 0 (by omega)
  intro q
  induction q with
  | zero =>
    intro i hi
    refine b_X12_endBy_5 hm hu hv ⟨by omega, by rw [hk.1]; omega, ?_⟩
    rw [hk.1, if_pos (by omega), show i = kN k by omega]
    exact ⟨rfl, rfl⟩
  | succ q ih =>
    intro i hi
    have h1 := hlen i (by omega)
    have h2 := hf i (by omega)
    have h3 := hb i (by omega)
    refine b_X12_endBy_5 hm hu hv ⟨by omega, by rw [hk.1]; omega, ?_⟩
    rw [hk.1, if_neg (by omega), Int.toNat_natCast, h1.1, h2.1]
    exact ⟨zIx_nat (by omega) (by omega), by omega, by omega, ih (i + 1) (by omega)⟩
theorem s_endOf {G : Gx} {Z : Zm} {m B u : Nat} {k : Bk} {len : Nat → Int} (hm : atModel Z m B) (hu : zA Z u 100 20) (hk : cM Z B k) (ho : kOk k) (hlen : ∀ t, t < kN k → zI Z u t = len t ∧ 1 ≤ len t ∧ len t ≤ 60) (hB : m + 18 ≠ B) (hmu : m + 18 ≠ u) : ZM G 2 m_X12_endOf [.ref m, .ref u] Z (fun r Z' => ∃ f, isLF k len (fun _ => 0) f ∧ r = .inl (some (iv (kEnd k len f))) ∧ Z' = zSI Z (m + 18) f) := by
  have hN := ho.n
  have hM := ho.m
  refine e_X12_endOf hm hu ((s_earliestInto hm hu hm.a21 hk ho hlen hB hmu).mono ?_)
  rintro r W ⟨rfl, f, rfl, h1⟩
  have hfb := isLF_bound (c := 0) ho h1 (fun t ht => (hlen t ht).2) (fun _ _ => by omega)
  refine b_X12_endOf_10 (Z := zSI Z (m + 18) f) hm hu hm.a21 ?_
  refine (s_endBy (Z := zSI Z (m + 18) f) (f := f) hm hu hm.a21 (hk.of (fun i _ => by rw [zI_other (Ne.symm hB)]) ⟨hN, hM⟩) ho (fun t ht => by
    rw [zI_other (Ne.symm hmu)]
    have := hlen t ht
    exact ⟨this.1, by omega, this.2.2⟩) (fun t ht => by
    rw [zI_same]
    have := hfb t ht
    exact ⟨rfl, by omega, by omega⟩)).mono ?_
  rintro r W ⟨rfl, rfl⟩
  exact b_X12_endOf_14 (Z := zSI Z (m + 18) f) hm hu ⟨f, h1, rfl, rfl⟩
theorem s_latestInto {G : Gx} {Z : Zm} {m B u v : Nat} {k : Bk} {len : Nat → Int} (hm : atModel Z m B) (hu : zA Z u 100 20) (hv : zA Z v 100 20) (hk : cM Z B k) (ho : kOk k) (hlen : ∀ t, t < kN k → zI Z u t = len t ∧ 1 ≤ len t ∧ len t ≤ 60) (hvB : v ≠ B) (hvu : v ≠ u) (hB : m + 18 ≠ B) (hmu : m + 18 ≠ u) (hvm : v ≠ m + 18) : ZM G 3 m_X12_latestInto [.ref m, .ref v, .ref u] Z (fun r Z' => r = .inl (some (.ref v)) ∧ ∃ f L, isLF k len (fun _ => 0) f ∧ isLat k len (kEnd k len f) L ∧ Z' = zSI (zSI Z (m + 18) f) v L) := by
  have hN := ho.n
  have hM := ho.m
  refine e_X12_latestInto hm hu hv ((s_endOf hm hu hk ho hlen hB hmu).mono ?_)
  rintro r W ⟨E, hE, rfl, rfl⟩
  refine b_X12_latestInto_5 (Z := zSI Z (m + 18) E) hm hu hv ?_
  have hEb := isLF_bound (c := 0) ho hE (fun t ht => (hlen t ht).2) (fun _ _ => by omega)
  have hen : 0 ≤ kEnd k len E ∧ kEnd k len E ≤ 1770 := kEnd_r ho (fun t ht => (hlen t ht).2) fun t ht => by
    have := hEb t ht
    omega
  obtain ⟨L, hL⟩ := isLat_ex ho len (kEnd k len E)
  have hLb : ∀ t, t < kN k → 0 ≤ L t ∧ L t ≤ 1770 := fun t ht => by
    have h1 := isLat_ge ho hL (f' := E) (fun t ht => ⟨?_, fun j hj e => ?_⟩) t ht
    · have h2 := hEb t ht
      have h3 := (hL t ht).1
      have h4 := hlen t ht
      omega
    · have : E t + len t ≤ kEnd k len E := zmax_ge (f := fun t => E t + len t) ht
      omega
    · have h1 := (hE _ (ho.l hj)).2.1 j hj rfl
      rw [e] at h1
      omega
  generalize hen0 : kEnd k len E = en at hen hL ⊢
  have e0 : ∀ f, zI (zSI (zSI Z (m + 18) E) v f) B = zI Z B := fun f => by rw [zI_other (Ne.symm hvB), zI_other (Ne.symm hB)]
  have eu : ∀ f, zI (zSI (zSI Z (m + 18) E) v f) u = zI Z u := fun f => by rw [zI_other (Ne.symm hvu), zI_other (Ne.symm hmu)]
  have hkf : ∀ f, cM (zSI (zSI Z (m + 18) E) v f) B k := fun f => hk.of (fun i _ => by rw [e0]) ⟨hN, hM⟩
  have fin : ∀ f, (∀ t, t < kN k → L t = f t) → ∃ f' L', isLF k len (fun _ => 0) f' ∧ isLat k len (kEnd k len f') L' ∧ zSI (zSI Z (m + 18) E) v f = zSI (zSI Z (m + 18) f') v L' := fun f hf => ⟨E, f, hE, by rw [hen0]; exact isLat_congr ho hL (fun _ _ => rfl) hf, rfl⟩
  have L2 : ∀ (b : Nat) (f : Nat → Int), zsum (fun t => f t - L t) (kN k) ≤ b → (∀ t, t < kN k → L t ≤ f t ∧ f t ≤ en - len t) → ZP G 3 m_X12_latestInto 37 [some (.ref m), some (.ref v), some (.ref u), none, some (iv 1), none, none] [] (zSI (zSI Z (m + 18) E) v f) (fun r Z' => r = .inl (some (.ref v)) ∧ ∃ f L, isLF k len (fun _ => 0) f ∧ isLat k len (kEnd k len f) L ∧ Z' = zSI (zSI Z (m + 18) f) v L) := by
    intro b
    induction b with
    | zero =>
      intro f hb hf
      refine b_X12_latestInto_37 (Z := zSI (zSI Z (m + 18) E) v f) hm hu hv ⟨by decide, ?_⟩
      rw [if_neg (by decide)]
      have eqF : ∀ t, t < kN k → L t = f t := fun t ht => by
        refine Classical.byContradiction fun c => ?_
        have := zsum_pos (f := fun t => f t - L t) (n := kN k) (i := t) (fun i hi => by have := hf i hi; show 0 ≤ f i - L i; omega) ht (by have := hf t ht; show 0 < f t - L t; omega)
        omega
      suffices inner : ∀ (q j : Nat), j + q = kM k → ZP G 3 m_X12_latestInto 48 [some (.ref m), some (.ref v), some (.ref u), none, some (iv 0), some (iv (j : Int)), none] [] (zSI (zSI Z (m + 18) E) v f) (fun r Z' => r = .inl (some (.ref v)) ∧ ∃ f L, isLF k len (fun _ => 0) f ∧ isLat k len (kEnd k len f) L ∧ Z' = zSI (zSI Z (m + 18) f) v L) from inner (kM k) 0 (by omega)
      intro q
      induction q with
      | zero =>
        intro j hj
        refine b_X12_latestInto_48 (Z := zSI (zSI Z (m + 18) E) v f) hm hu hv ⟨by omega, by rw [e0, hk.2.1]; omega, ?_⟩
        rw [e0, hk.2.1, if_pos (by omega)]
        refine b_X12_latestInto_37 (Z := zSI (zSI Z (m + 18) E) v f) hm hu hv ⟨by decide, ?_⟩
        rw [if_pos rfl]
        exact ⟨rfl, fin f eqF⟩
      | succ q ih =>
        intro j hj
        have hjk : j < kM k := by omega
        obtain ⟨e1, e2, e3⟩ := (hkf f).2.2.2 j hjk
        have he := ho.e hjk
        have hl := ho.l hjk
        have hg := ho.g hjk
        have b1 := hlen _ he
        have b2 := hf _ he
        have b3 := hf _ hl
        have b4 := hLb _ he
        have b5 := hLb _ hl
        have b6 := hlen _ hl
        refine b_X12_latestInto_48 (Z := zSI (zSI Z (m + 18) E) v f) hm hu hv ⟨by omega, by rw [e0, hk.2.1]; omega, ?_⟩
        rw [e0, hk.2.1, if_neg (by omega), Int.toNat_natCast, e1, e2, e3, Int.toNat_natCast, Int.toNat_natCast, zI_same, eu, b1.1]
        have hle : f (kE k j) ≤ f (kL k j) - kG k j - len (kE k j) := by
          have h9 := (hL _ he).2.1 j hjk rfl
          have := eqF _ he
          have := eqF _ hl
          omega
        refine ⟨zIx_nat (by omega) (by omega), zIx_nat (by omega) (by omega), zIx_nat (by omega) (by omega), by omega, by omega, ?_⟩
        rw [if_pos hle]
        exact ih (j + 1) (by omega)
    | succ b ihb =>
      intro f hb hf
      refine b_X12_latestInto_37 (Z := zSI (zSI Z (m + 18) E) v f) hm hu hv ⟨by decide, ?_⟩
      rw [if_neg (by decide)]
      suffices inner : ∀ (q j : Nat) (g : Nat → Int) (x : Int), j + q = kM k → (∀ t, t < kN k → L t ≤ g t ∧ g t ≤ en - len t) → ((x = 0 ∧ g = f ∧ ∀ i, i < j → f (kE k i) ≤ f (kL k i) - kG k i - len (kE k i)) ∨ (x = 1 ∧ zsum (fun t => g t - L t) (kN k) ≤ b)) → ZP G 3 m_X12_latestInto 48 [some (.ref m), some (.ref v), some (.ref u), none, some (iv x), some (iv (j : Int)), none] [] (zSI (zSI Z (m + 18) E) v g) (fun r Z' => r = .inl (some (.ref v)) ∧ ∃ f L, isLF k len (fun _ => 0) f ∧ isLat k len (kEnd k len f) L ∧ Z' = zSI (zSI Z (m + 18) f) v L) from inner (kM k) 0 f 0 (by omega) hf (Or.inl ⟨rfl, rfl, fun i hi => by omega⟩)
      intro q
      induction q with
      | zero =>
        intro j g x hj hg hx
        refine b_X12_latestInto_48 (Z := zSI (zSI Z (m + 18) E) v g) hm hu hv ⟨by omega, by rw [e0, hk.2.1]; omega, ?_⟩
        rw [e0, hk.2.1, if_pos (by omega)]
        rcases hx with ⟨rfl, rfl, hw⟩ | ⟨rfl, hw⟩
        · refine b_X12_latestInto_37 (Z := zSI (zSI Z (m + 18) E) v g) hm hu hv ⟨by decide, ?_⟩
          rw [if_pos rfl]
          refine ⟨rfl, fin g (fun t ht => Int.le_antisymm (hf t ht).1 (isLat_ge ho hL (fun t ht => ⟨(hf t ht).2, fun i hi e => ?_⟩) t ht))⟩
          have := hw i (by omega)
          rw [e] at this
          exact this
        · exact ihb g hw hg
      | succ q ih =>
        intro j g x hj hg hx
        have hjk : j < kM k := by omega
        obtain ⟨e1, e2, e3⟩ := (hkf g).2.2.2 j hjk
        have he := ho.e hjk
        have hl := ho.l hjk
        have hgg := ho.g hjk
        have b1 := hlen _ he
        have b2 := hg _ he
        have b3 := hg _ hl
        have b4 := hLb _ he
        have b5 := hLb _ hl
        have b6 := hlen _ hl
        refine b_X12_latestInto_48 (Z := zSI (zSI Z (m + 18) E) v g) hm hu hv ⟨by omega, by rw [e0, hk.2.1]; omega, ?_⟩
        rw [e0, hk.2.1, if_neg (by omega), Int.toNat_natCast, e1, e2, e3, Int.toNat_natCast, Int.toNat_natCast, zI_same, eu, b1.1]
        refine ⟨zIx_nat (by omega) (by omega), zIx_nat (by omega) (by omega), zIx_nat (by omega) (by omega), by omega, by omega, ?_⟩
        by_cases c : g (kE k j) ≤ g (kL k j) - kG k j - len (kE k j)
        · rw [if_pos c]
          refine ih (j + 1) g x (by omega) hg ?_
          rcases hx with ⟨rfl, rfl, hw⟩ | hw
          · refine Or.inl ⟨rfl, rfl, fun i hi => ?_⟩
            by_cases d : i = j
            · rw [d]
              exact c
            · exact hw i (by omega)
          · exact Or.inr hw
        · rw [if_neg c]
          rintro _ rfl
          rw [zSI_zSI]
          have h9 := (hL _ he).2.1 j hjk rfl
          have d9 := zsum_sub_lt2 (F := L) (f := g) he (show g (kL k j) - kG k j - len (kE k j) < g (kE k j) by omega)
          refine ih (j + 1) _ 1 (by omega) (fun t ht => ?_) (Or.inr ⟨rfl, ?_⟩)
          · by_cases d : t = kE k j
            · rw [d, zu_same]
              omega
            · rw [zu_other d]
              exact hg t ht
          · rcases hx with ⟨_, rfl, _⟩ | ⟨_, hw⟩
            · omega
            · omega
  suffices L1 : ∀ (q i : Nat) (f : Nat → Int), i + q = kN k → (∀ t, t < i → f t = en - len t) → ZP G 3 m_X12_latestInto 9 [some (.ref m), some (.ref v), some (.ref u), some (iv en), some (iv (i : Int)), none, none] [] (zSI (zSI Z (m + 18) E) v f) (fun r Z' => r = .inl (some (.ref v)) ∧ ∃ f L, isLF k len (fun _ => 0) f ∧ isLat k len (kEnd k len f) L ∧ Z' = zSI (zSI Z (m + 18) f) v L) by
    have h := L1 (kN k) 0 (zI (zSI Z (m + 18) E) v) (by omega) fun t ht => by omega
    rw [zSI_id] at h
    exact h
  intro q
  induction q with
  | zero =>
    intro i f hi hf
    refine b_X12_latestInto_9 (Z := zSI (zSI Z (m + 18) E) v f) hm hu hv ⟨by omega, by rw [e0, hk.1]; omega, ?_⟩
    rw [e0, hk.1, if_pos (by omega)]
    refine L2 (zsum (fun t => f t - L t) (kN k)).toNat f (by omega) fun t ht => ?_
    rw [hf t (by omega)]
    exact ⟨(hL t ht).1, Int.le_refl _⟩
  | succ q ih =>
    intro i f hi hf
    refine b_X12_latestInto_9 (Z := zSI (zSI Z (m + 18) E) v f) hm hu hv ⟨by omega, by rw [e0, hk.1]; omega, ?_⟩
    rw [e0, hk.1, if_neg (by omega)]
    refine ⟨zIx_nat (by omega) (by omega), ?_⟩
    rintro _ rfl
    rw [zI_same, zSI_zSI, Int.toNat_natCast, eu, (hlen i (by omega)).1]
    refine ih (i + 1) _ (by omega) fun t ht => ?_
    by_cases c : t = i
    · rw [c, zu_same]
    · rw [zu_other c]
      exact hf t (by omega)
theorem s_latestBegins {G : Gx} {Z : Zm} {m B u : Nat} {k : Bk} {len : Nat → Int} (hm : atModel Z m B) (hu : zA Z u 100 20) (hk : cM Z B k) (ho : kOk k) (hlen : ∀ t, t < kN k → zI Z u t = len t ∧ 1 ≤ len t ∧ len t ≤ 60) (hz : zSz Z < 1000000) (hB : m + 18 ≠ B) (hmu : m + 18 ≠ u) : ZM G 4 m_X12_latestBegins [.ref m, .ref u] Z (fun r Z' => r = .inl (some (.ref (zSz Z))) ∧ zF (zB (m + 18) (m + 19)) 1 20 Z Z' ∧ zA Z' (zSz Z) 100 20 ∧ ∃ f, isLF k len (fun _ => 0) f ∧ isLat k len (kEnd k len f) (zI Z' (zSz Z))) := by
  refine e_X12_latestBegins hm hu ⟨hz, ?_⟩
  rintro _ rfl
  have hB9 := hm.a0.1
  have hm9 := hm.a21.1
  have f1 : zF (zB (m + 18) (m + 19)) 1 20 Z (zC Z 100 20 20) := zF_C
  refine (s_latestInto (hm.ext f1.1) (hu.ext f1.1) (zA_C Z 100 20 20) (hk.frame hB9 f1 (by unfold zB; omega)) ho (fun t ht => by rw [f1.i hu.1 (by unfold zB; omega)]; exact hlen t ht) (by omega) (by have := hu.1; omega) hB hmu (by omega)).mono ?_
  rintro r W ⟨rfl, f, L, h1, h2, rfl⟩
  have f2 := (f1.wr (a := m + 18) (f := f) (Or.inl ⟨by omega, by omega⟩)).wr (a := zSz Z) (f := L) (Or.inr (Nat.le_refl _))
  refine b_X12_latestBegins_9 (hm.ext f2.1) (hu.ext f2.1) (zA_C Z 100 20 20) ?_
  exact ⟨rfl, f2, zA_C Z 100 20 20, f, h1, by rw [zI_same]; exact h2⟩
theorem s_rests {G : Gx} {Z : Zm} {m B u : Nat} {k : Bk} {len : Nat → Int} (hm : atModel Z m B) (hu : zA Z u 100 20) (hk : cM Z B k) (ho : kOk k) (hlen : ∀ t, t < kN k → zI Z u t = len t ∧ 1 ≤ len t ∧ len t ≤ 60) (hz : zSz Z < 1000000) : ZM G 1 m_X12_rests [.ref m, .ref u] Z (fun r Z' => r = .inl (some (.ref (zSz Z))) ∧ zF zNo 1 20 Z Z' ∧ zA Z' (zSz Z) 100 20 ∧ isLat k len 0 (fun t => - zI Z' (zSz Z) t)) := by
  have hN := ho.n
  have hM := ho.m
  refine e_X12_rests hm hu ((s_copied hu (by decide) hz).mono ?_)
  rintro r W ⟨rfl, f1, hA, hW⟩
  generalize hav : zSz Z = a at hA hW ⊢
  obtain ⟨R, hR⟩ : ∃ R : Nat → Int, isLat k len 0 (fun t => - R t) := by
    obtain ⟨L, hL⟩ := isLat_ex ho len 0
    refine ⟨fun t => - L t, ?_⟩
    have e : (fun t => - (- L t)) = L := funext fun t => by omega
    rw [e]
    exact hL
  have hRb : ∀ t, t < kN k → R t ≤ 1770 := fun t ht => by
    obtain ⟨E, hE⟩ := isLF_ex ho len (fun _ => 0)
    have hEb := isLF_bound (c := 0) ho hE (fun t ht => (hlen t ht).2) (fun _ _ => by omega)
    have hen : 0 ≤ kEnd k len E ∧ kEnd k len E ≤ 1770 := kEnd_r ho (fun t ht => (hlen t ht).2) fun t ht => by
      have := hEb t ht
      omega
    have h1 := isLat_ge ho (isLat_shift ho hR (kEnd k len E)) (f' := E) (fun t ht => ⟨?_, fun j hj e => ?_⟩) t ht
    · have := hEb t ht
      have h2 : E t ≤ - R t + kEnd k len E := h1
      omega
    · have : E t + len t ≤ kEnd k len E := zmax_ge (f := fun t => E t + len t) ht
      omega
    · have h1 := (hE _ (ho.l hj)).2.1 j hj rfl
      rw [e] at h1
      omega
  have hB9 := hm.a0.1
  have hm1 := hm.ext f1.1
  have hu1 := hu.ext f1.1
  have hk1 := hk.frame hB9 f1 (fun h => h)
  have hun := hu.1
  refine b_X12_rests_4 hm1 hu1 hA ?_
  have e0 : ∀ f, zI (zSI W a f) B = zI W B := fun f => zI_other (by omega)
  have eu : ∀ f, zI (zSI W a f) u = zI Z u := fun f => by rw [zI_other (by omega), f1.i hu.1 (fun h => h)]
  have hkf : ∀ f, cM (zSI W a f) B k := fun f => hk1.of (fun i _ => by rw [e0]) ⟨hN, hM⟩
  have hfr : ∀ f, zF zNo 1 20 Z (zSI W a f) := fun f => f1.wr (Or.inr (by omega))
  have L2 : ∀ (b : Nat) (f : Nat → Int), zsum (fun t => R t - f t) (kN k) ≤ b → (∀ t, t < kN k → len t ≤ f t ∧ f t ≤ R t) → ZP G 1 m_X12_rests 7 [some (.ref m), some (.ref u), some (.ref a), some (iv 1), none, none] [] (zSI W a f) (fun r Z' => r = .inl (some (.ref a)) ∧ zF zNo 1 20 Z Z' ∧ zA Z' a 100 20 ∧ isLat k len 0 (fun t => - zI Z' a t)) := by
    intro b
    induction b with
    | zero =>
      intro f hb hf
      refine b_X12_rests_7 (Z := zSI W a f) hm1 hu1 hA ⟨by decide, ?_⟩
      rw [if_neg (by decide)]
      have eqF : ∀ t, t < kN k → R t = f t := fun t ht => by
        refine Classical.byContradiction fun c => ?_
        have := zsum_pos (f := fun t => R t - f t) (n := kN k) (i := t) (fun i hi => by have := hf i hi; show 0 ≤ R i - f i; omega) ht (by have := hf t ht; show 0 < R t - f t; omega)
        omega
      suffices inner : ∀ (q j : Nat), j + q = kM k → ZP G 1 m_X12_rests 16 [some (.ref m), some (.ref u), some (.ref a), some (iv 0), some (iv (j : Int)), none] [] (zSI W a f) (fun r Z' => r = .inl (some (.ref a)) ∧ zF zNo 1 20 Z Z' ∧ zA Z' a 100 20 ∧ isLat k len 0 (fun t => - zI Z' a t)) from inner (kM k) 0 (by omega)
      intro q
      induction q with
      | zero =>
        intro j hj
        refine b_X12_rests_16 (Z := zSI W a f) hm1 hu1 hA ⟨by omega, by rw [e0, hk1.2.1]; omega, ?_⟩
        rw [e0, hk1.2.1, if_pos (by omega)]
        refine b_X12_rests_7 (Z := zSI W a f) hm1 hu1 hA ⟨by decide, ?_⟩
        rw [if_pos rfl]
        exact ⟨rfl, hfr f, hA, by rw [zI_same]; exact isLat_congr ho hR (fun _ _ => rfl) fun t ht => by rw [eqF t ht]⟩
      | succ q ih =>
        intro j hj
        have hjk : j < kM k := by omega
        obtain ⟨e1, e2, e3⟩ := (hkf f).2.2.2 j hjk
        have he := ho.e hjk
        have hl := ho.l hjk
        have hg := ho.g hjk
        have b1 := hlen _ he
        have b2 := hf _ he
        have b3 := hf _ hl
        have b4 := hRb _ he
        have b5 := hRb _ hl
        have b6 := hlen _ hl
        refine b_X12_rests_16 (Z := zSI W a f) hm1 hu1 hA ⟨by omega, by rw [e0, hk1.2.1]; omega, ?_⟩
        rw [e0, hk1.2.1, if_neg (by omega), Int.toNat_natCast, e1, e2, e3, Int.toNat_natCast, Int.toNat_natCast, zI_same, eu, b1.1]
        have hle : len (kE k j) + kG k j + f (kL k j) ≤ f (kE k j) := by
          have h9 : - R (kE k j) ≤ - R (kL k j) - kG k j - len (kE k j) := (hR _ he).2.1 j hjk rfl
          have := eqF _ he
          have := eqF _ hl
          omega
        refine ⟨zIx_nat (by omega) (by omega), zIx_nat (by omega) (by omega), zIx_nat (by omega) (by omega), by omega, by omega, ?_⟩
        rw [if_pos hle]
        exact ih (j + 1) (by omega)
    | succ b ihb =>
      intro f hb hf
      refine b_X12_rests_7 (Z := zSI W a f) hm1 hu1 hA ⟨by decide, ?_⟩
      rw [if_neg (by decide)]
      suffices inner : ∀ (q j : Nat) (g : Nat → Int) (x : Int), j + q = kM k → (∀ t, t < kN k → len t ≤ g t ∧ g t ≤ R t) → ((x = 0 ∧ g = f ∧ ∀ i, i < j → len (kE k i) + kG k i + f (kL k i) ≤ f (kE k i)) ∨ (x = 1 ∧ zsum (fun t => R t - g t) (kN k) ≤ b)) → ZP G 1 m_X12_rests 16 [some (.ref m), some (.ref u), some (.ref a), some (iv x), some (iv (j : Int)), none] [] (zSI W a g) (fun r Z' => r = .inl (some (.ref a)) ∧ zF zNo 1 20 Z Z' ∧ zA Z' a 100 20 ∧ isLat k len 0 (fun t => - zI Z' a t)) from inner (kM k) 0 f 0 (by omega) hf (Or.inl ⟨rfl, rfl, fun i hi => by omega⟩)
      intro q
      induction q with
      | zero =>
        intro j g x hj hg hx
        refine b_X12_rests_16 (Z := zSI W a g) hm1 hu1 hA ⟨by omega, by rw [e0, hk1.2.1]; omega, ?_⟩
        rw [e0, hk1.2.1, if_pos (by omega)]
        rcases hx with ⟨rfl, rfl, hw⟩ | ⟨rfl, hw⟩
        · refine b_X12_rests_7 (Z := zSI W a g) hm1 hu1 hA ⟨by decide, ?_⟩
          rw [if_pos rfl]
          refine ⟨rfl, hfr g, hA, ?_⟩
          rw [zI_same]
          refine isLat_congr ho hR (fun _ _ => rfl) fun t ht => ?_
          have h1 : - g t ≤ - R t := isLat_ge ho hR (f' := fun t => - g t) (fun t ht => ⟨by have := hf t ht; show - g t ≤ 0 - len t; omega, fun i hi e => by
            have := hw i (by omega)
            rw [e] at this
            show - g t ≤ - g (kL k i) - kG k i - len t
            omega⟩) t ht
          have := hf t ht
          show - R t = - g t
          omega
        · exact ihb g hw hg
      | succ q ih =>
        intro j g x hj hg hx
        have hjk : j < kM k := by omega
        obtain ⟨e1, e2, e3⟩ := (hkf g).2.2.2 j hjk
        have he := ho.e hjk
        have hl := ho.l hjk
        have hgg := ho.g hjk
        have b1 := hlen _ he
        have b2 := hg _ he
        have b3 := hg _ hl
        have b4 := hRb _ he
        have b5 := hRb _ hl
        have b6 := hlen _ hl
        refine b_X12_rests_16 (Z := zSI W a g) hm1 hu1 hA ⟨by omega, by rw [e0, hk1.2.1]; omega, ?_⟩
        rw [e0, hk1.2.1, if_neg (by omega), Int.toNat_natCast, e1, e2, e3, Int.toNat_natCast, Int.toNat_natCast, zI_same, eu, b1.1]
        refine ⟨zIx_nat (by omega) (by omega), zIx_nat (by omega) (by omega), zIx_nat (by omega) (by omega), by omega, by omega, ?_⟩
        by_cases c : len (kE k j) + kG k j + g (kL k j) ≤ g (kE k j)
        · rw [if_pos c]
          refine ih (j + 1) g x (by omega) hg ?_
          rcases hx with ⟨rfl, rfl, hw⟩ | hw
          · refine Or.inl ⟨rfl, rfl, fun i hi => ?_⟩
            by_cases d : i = j
            · rw [d]
              exact c
            · exact hw i (by omega)
          · exact Or.inr hw
        · rw [if_neg c]
          rintro _ rfl
          rw [zSI_zSI]
          have h9 : - R (kE k j) ≤ - R (kL k j) - kG k j - len (kE k j) := (hR _ he).2.1 j hjk rfl
          have d9 := zsum_sub_lt (F := R) (f := g) he (show g (kE k j) < len (kE k j) + kG k j + g (kL k j) by omega)
          refine ih (j + 1) _ 1 (by omega) (fun t ht => ?_) (Or.inr ⟨rfl, ?_⟩)
          · by_cases d : t = kE k j
            · rw [d, zu_same]
              omega
            · rw [zu_other d]
              exact hg t ht
          · rcases hx with ⟨_, rfl, _⟩ | ⟨_, hw⟩
            · omega
            · omega
  have h := L2 (zsum (fun t => R t - zI W a t) (kN k)).toNat (zI W a) (by omega) fun t ht => by
    rw [hW t (by omega), (hlen t ht).1]
    have : - R t ≤ 0 - len t := (hR t ht).1
    omega
  rw [zSI_id] at h
  exact h
