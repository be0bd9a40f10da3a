set_option maxRecDepth 20000 in
theorem e_X12_ordered {G : Gx} {Q : Rv → Zm → Prop} {Z : Zm} {m : Nat} {B : Nat} {l : Nat} {L : Nat} {u : Nat} (hm : atModel Z m B) (hl : zA Z l 100 L) (hu : zA Z u 100 20) (h : ((zSz Z < 1000000) ∧ ∀ Z2, Z2 = zC Z 100 20 20 → ZP G 1 m_X12_ordered 11 [some (.ref m), some (.ref l), some (.ref u), some (.ref (zSz Z)), some (iv 1), some (iv 0), none, none, none, none, none] [] Z2 Q)) : ZM G 1 m_X12_ordered [.ref m, .ref l, .ref u] Z Q := ZM.of [some (.ref m), some (.ref l), some (.ref u), none, none, none, none, none, none, none, none] rfl <| z_bipush (pc' := 2) (n := 20) (by decide +kernel) (by decide) rfl <| h.elim fun c1 h => z_new100 (pc' := 4) (by decide +kernel) (amM1 88 rfl (by decide +kernel)) (by decide) (by decide) c1 rfl <| have h := h _ rfl; z_astore_n (pc' := 5) (j := 3) (ls' := [some (.ref m), some (.ref l), some (.ref u), some (.ref (zSz Z)), none, none, none, none, none, none, none]) (by decide +kernel) (by decide) rfl rfl <| z_iconst (pc' := 6) (n := 1) (by decide +kernel) rfl <| z_istore (pc' := 8) (j := 4) (ls' := [some (.ref m), some (.ref l), some (.ref u), some (.ref (zSz Z)), some (iv 1), none, none, none, none, none, none]) (by decide +kernel) (by decide) rfl rfl <| z_iconst (pc' := 9) (n := 0) (by decide +kernel) rfl <| z_istore (pc' := 11) (j := 5) (ls' := [some (.ref m), some (.ref l), some (.ref u), some (.ref (zSz Z)), some (iv 1), some (iv 0), none, none, none, none, none]) (by decide +kernel) (by decide) rfl rfl <| h
set_option maxRecDepth 20000 in
theorem b_X12_ordered_11 {G : Gx} {Q : Rv → Zm → Prop} {Z : Zm} {a2 : Nat} {m : Nat} {B : Nat} {l : Nat} {L : Nat} {u : Nat} {v4 : Int} {v5 : Int} (hm : atModel Z m B) (hl : zA Z l 100 L) (hu : zA Z u 100 20) (ha2 : zA Z a2 100 20) (h : ((R32 v5) ∧ (R32 (zI Z B 0)) ∧ (if (zI Z B 0) < v5 then ((R32 v4) ∧ (if v4 = 0 then ((zSz Z < 1000000) ∧ ∀ Z6, Z6 = zC Z 100 2 2 → ZP G 1 m_X12_ordered 189 [some (.ref m), none, some (.ref u), some (.ref a2), none, some (.ref (zSz Z)), some (iv 0), none, none, none, none] [] Z6 Q) else (Q (.inl (some (iv (-1)))) Z))) else ((R32 v4) ∧ (if v4 = 0 then ((if v4 = 0 then ((zSz Z < 1000000) ∧ ∀ Z9, Z9 = zC Z 100 2 2 → ZP G 1 m_X12_ordered 189 [some (.ref m), none, some (.ref u), some (.ref a2), none, some (.ref (zSz Z)), some (iv 0), none, none, none, none] [] Z9 Q) else (Q (.inl (some (iv (-1)))) Z))) else (ZP G 1 m_X12_ordered 31 [some (.ref m), some (.ref l), some (.ref u), some (.ref a2), some (iv 0), some (iv v5), some (iv 0), none, none, none, none] [] Z Q)))))) : ZP G 1 m_X12_ordered 11 [some (.ref m), some (.ref l), some (.ref u), some (.ref a2), some (iv v4), some (iv v5), none, none, none, none, none] [] Z Q := z_iload (pc' := 13) (j := 5) (by decide +kernel) rfl rfl <| z_aload_n (pc' := 14) (j := 0) (by decide +kernel) rfl rfl <| z_callV (pc' := 17) (idx := 64) (mj := m_X12_many) (av := []) (d' := 0) (by decide +kernel) rfl k_X12_many l_RX12_64 rfl (by omega) (am_le rfl) rfl (am_le rfl) hm.o.1 hm.o.2 rfl <| zKf (s_many hm) <| h.elim fun c1 h => h.elim fun c2 h => z_icmp_gt (pc' := 20) (tgt := 174) (off := 157) (by decide +kernel) (by decide) rfl c1 c2 (am_ite h (fun h => z_iload (pc' := 176) (j := 4) (by decide +kernel) rfl rfl <| h.elim fun c4 h => z_if_eq (pc' := 179) (tgt := 181) (off := 5) (by decide +kernel) (by decide) rfl c4 (am_ite h (fun h => z_iconst (pc' := 182) (n := 2) (by decide +kernel) rfl <| h.elim fun c5 h => z_new100 (pc' := 184) (by decide +kernel) (amM1 88 rfl (by decide +kernel)) (by decide) (by decide) c5 rfl <| have h := h _ rfl; z_astore (pc' := 186) (j := 5) (ls' := [some (.ref m), some (.ref l), some (.ref u), some (.ref a2), some (iv v4), some (.ref (zSz Z)), none, none, none, none, none]) (by decide +kernel) (by decide) rfl rfl <| z_iconst (pc' := 187) (n := 0) (by decide +kernel) rfl <| z_istore (pc' := 189) (j := 6) (ls' := [some (.ref m), some (.ref l), some (.ref u), some (.ref a2), some (iv v4), some (.ref (zSz Z)), some (iv 0), none, none, none, none]) (by decide +kernel) (by decide) rfl rfl <| (ZP.wk (wk_some (wk_none (wk_some (wk_some (wk_none (wk_some (wk_some (wk_none (wk_none (wk_none (wk_none wk_nil))))))))))) h)) (fun h => z_iconst (pc' := 180) (n := -1) (by decide +kernel) rfl <| z_ireturn (by decide +kernel) ⟨_, rfl, rfl⟩ h))) (fun h => z_iload (pc' := 22) (j := 4) (by decide +kernel) rfl rfl <| h.elim fun c7 h => z_if_eq (pc' := 25) (tgt := 174) (off := 152) (by decide +kernel) (by decide) rfl c7 (am_ite h (fun h => z_iload (pc' := 176) (j := 4) (by decide +kernel) rfl rfl <| z_if_eq (pc' := 179) (tgt := 181) (off := 5) (by decide +kernel) (by decide) rfl c7 (am_ite h (fun h => z_iconst (pc' := 182) (n := 2) (by decide +kernel) rfl <| h.elim fun c8 h => z_new100 (pc' := 184) (by decide +kernel) (amM1 88 rfl (by decide +kernel)) (by decide) (by decide) c8 rfl <| have h := h _ rfl; z_astore (pc' := 186) (j := 5) (ls' := [some (.ref m), some (.ref l), some (.ref u), some (.ref a2), some (iv v4), some (.ref (zSz Z)), none, none, none, none, none]) (by decide +kernel) (by decide) rfl rfl <| z_iconst (pc' := 187) (n := 0) (by decide +kernel) rfl <| z_istore (pc' := 189) (j := 6) (ls' := [some (.ref m), some (.ref l), some (.ref u), some (.ref a2), some (iv v4), some (.ref (zSz Z)), some (iv 0), none, none, none, none]) (by decide +kernel) (by decide) rfl rfl <| (ZP.wk (wk_some (wk_none (wk_some (wk_some (wk_none (wk_some (wk_some (wk_none (wk_none (wk_none (wk_none wk_nil))))))))))) h)) (fun h => z_iconst (pc' := 180) (n := -1) (by decide +kernel) rfl <| z_ireturn (by decide +kernel) ⟨_, rfl, rfl⟩ h))) (fun h => z_iconst (pc' := 26) (n := 0) (by decide +kernel) rfl <| z_istore (pc' := 28) (j := 4) (ls' := [some (.ref m), some (.ref l), some (.ref u), some (.ref a2), some (iv 0), some (iv v5), none, none, none, none, none]) (by decide +kernel) (by decide) rfl rfl <| z_iconst (pc' := 29) (n := 0) (by decide +kernel) rfl <| z_istore (pc' := 31) (j := 6) (ls' := [some (.ref m), some (.ref l), some (.ref u), some (.ref a2), some (iv 0), some (iv v5), some (iv 0), none, none, none, none]) (by decide +kernel) (by decide) rfl rfl <| h))))
set_option maxRecDepth 20000 in
theorem b_X12_ordered_189 {G : Gx} {Q : Rv → Zm → Prop} {Z : Zm} {a2 : Nat} {a182 : Nat} {m : Nat} {B : Nat} {l : Nat} {L : Nat} {u : Nat} {v6 : Int} (hm : atModel Z m B) (hl : zA Z l 100 L) (hu : zA Z u 100 20) (ha2 : zA Z a2 100 20) (ha182 : zA Z a182 100 2) (h : ((R32 v6) ∧ (R32 (zI Z B 0)) ∧ (if (zI Z B 0) ≤ v6 then (Q (.inl (some (iv ((zI Z a182 0) + (zI Z a182 1))))) Z) else ((zIx v6 20) ∧ (zIx (mG Z B v6.toNat 4) 2) ∧ (R32 (zI Z a182 (mG Z B v6.toNat 4).toNat)) ∧ (R32 ((zI Z a2 v6.toNat) + (zI Z u v6.toNat))) ∧ ∀ Z11, Z11 = zSI Z a182 (zu (zI Z a182) (mG Z B v6.toNat 4).toNat (max (zI Z a182 (mG Z B v6.toNat 4).toNat) ((zI Z a2 v6.toNat) + (zI Z u v6.toNat)))) → ZP G 1 m_X12_ordered 189 [some (.ref m), none, some (.ref u), some (.ref a2), none, some (.ref a182), some (iv (v6 + 1)), none, none, none, none] [] Z11 Q)))) : ZP G 1 m_X12_ordered 189 [some (.ref m), none, some (.ref u), some (.ref a2), none, some (.ref a182), some (iv v6), none, none, none, none] [] Z Q := z_iload (pc' := 191) (j := 6) (by decide +kernel) rfl rfl <| z_aload_n (pc' := 192) (j := 0) (by decide +kernel) rfl rfl <| z_callV (pc' := 195) (idx := 64) (mj := m_X12_many) (av := []) (d' := 0) (by decide +kernel) rfl k_X12_many l_RX12_64 rfl (by omega) (am_le rfl) rfl (am_le rfl) hm.o.1 hm.o.2 rfl <| zKf (s_many hm) <| h.elim fun c1 h => h.elim fun c2 h => z_icmp_ge (pc' := 198) (tgt := 235) (off := 40) (by decide +kernel) (by decide) rfl c1 c2 (am_ite h (fun h => z_aload (pc' := 237) (j := 5) (by decide +kernel) rfl rfl <| z_iconst (pc' := 238) (n := 0) (by decide +kernel) rfl <| z_iaload (pc' := 239) (by decide +kernel) ha182 ⟨by decide, by decide, by decide⟩ rfl <| z_aload (pc' := 241) (j := 5) (by decide +kernel) rfl rfl <| z_iconst (pc' := 242) (n := 1) (by decide +kernel) rfl <| z_iaload (pc' := 243) (by decide +kernel) ha182 ⟨by decide, by decide, by decide⟩ rfl <| z_iadd (pc' := 244) (by decide +kernel) rfl <| z_ireturn (by decide +kernel) ⟨_, rfl, rfl⟩ h) (fun h => z_aload_n (pc' := 199) (j := 0) (by decide +kernel) rfl rfl <| z_iload (pc' := 201) (j := 6) (by decide +kernel) rfl rfl <| z_iconst (pc' := 202) (n := 4) (by decide +kernel) rfl <| h.elim fun c7 h => z_callV (pc' := 205) (idx := 83) (mj := m_X12_get) (av := [iv v6, iv 4]) (d' := 0) (by decide +kernel) rfl k_X12_get l_RX12_83 rfl (by omega) (am_le rfl) rfl (am_le rfl) hm.o.1 hm.o.2 rfl <| zKf (s_get hm c7 ⟨by decide, by decide, by decide⟩) <| z_istore (pc' := 207) (j := 7) (ls' := [some (.ref m), none, some (.ref u), some (.ref a2), none, some (.ref a182), some (iv v6), some (iv (mG Z B v6.toNat 4)), none, none, none]) (by decide +kernel) (by decide) rfl rfl <| z_aload (pc' := 209) (j := 5) (by decide +kernel) rfl rfl <| z_iload (pc' := 211) (j := 7) (by decide +kernel) rfl rfl <| z_aload (pc' := 213) (j := 5) (by decide +kernel) rfl rfl <| z_iload (pc' := 215) (j := 7) (by decide +kernel) rfl rfl <| h.elim fun c8 h => z_iaload (pc' := 216) (by decide +kernel) ha182 c8 rfl <| z_aload_n (pc' := 217) (j := 3) (by decide +kernel) rfl rfl <| z_iload (pc' := 219) (j := 6) (by decide +kernel) rfl rfl <| z_iaload (pc' := 220) (by decide +kernel) ha2 c7 rfl <| z_aload_n (pc' := 221) (j := 2) (by decide +kernel) rfl rfl <| z_iload (pc' := 223) (j := 6) (by decide +kernel) rfl rfl <| z_iaload (pc' := 224) (by decide +kernel) hu c7 rfl <| z_iadd (pc' := 225) (by decide +kernel) rfl <| h.elim fun c9 h => h.elim fun c10 h => z_max (pc' := 228) (idx := 107) (by decide +kernel) (amM9 18 rfl (by decide +kernel)) (amM3 108 rfl (by decide +kernel)) (amM1 21 rfl (by decide +kernel)) (amM3 109 rfl (by decide +kernel)) (by omega) (am_le rfl) c9 c10 rfl <| z_iastore (pc' := 229) (by decide +kernel) ha182 c8 rfl <| have h := h _ rfl; z_iinc (pc' := 232) (j := 6) (n := 1) (x := v6) (ls' := [some (.ref m), none, some (.ref u), some (.ref a2), none, some (.ref a182), some (iv (v6 + 1)), some (iv (mG Z B v6.toNat 4)), none, none, none]) (by decide +kernel) rfl (by decide) rfl rfl <| z_goto (tgt := 189) (off := -43) (by decide +kernel) (by decide) <| (ZP.wk (wk_some (wk_none (wk_some (wk_some (wk_none (wk_some (wk_some (wk_none (wk_none (wk_none (wk_none wk_nil))))))))))) h)))
set_option maxRecDepth 20000 in
theorem b_X12_ordered_31 {G : Gx} {Q : Rv → Zm → Prop} {Z : Zm} {a2 : Nat} {m : Nat} {B : Nat} {l : Nat} {L : Nat} {u : Nat} {v4 : Int} {v5 : Int} {v6 : Int} (hm : atModel Z m B) (hl : zA Z l 100 L) (hu : zA Z u 100 20) (ha2 : zA Z a2 100 20) (h : ((R32 ((L : Int) - 1)) ∧ (R32 v6) ∧ (R32 ((zI Z B 1) + (max 0 ((L : Int) - 1)))) ∧ (if ((zI Z B 1) + (max 0 ((L : Int) - 1))) ≤ v6 then (ZP G 1 m_X12_ordered 11 [some (.ref m), some (.ref l), some (.ref u), some (.ref a2), some (iv v4), some (iv (v5 + 1)), none, none, none, none, none] [] Z Q) else ((R32 (zI Z B 1)) ∧ (¬ ((zI Z B 1) ≤ v6) → (zIx v6 50) ∧ True) ∧ (¬ (¬ ((zI Z B 1) ≤ v6)) → (zIx (v6 - (zI Z B 1)) L) ∧ True) ∧ (¬ ((zI Z B 1) ≤ v6) → (zIx v6 50) ∧ True) ∧ (¬ (¬ ((zI Z B 1) ≤ v6)) → (zIx ((v6 - (zI Z B 1)) + 1) L) ∧ True) ∧ (zIx (if ¬ ((zI Z B 1) ≤ v6) then mE Z B v6.toNat else zI Z l (v6 - (zI Z B 1)).toNat) 20) ∧ (¬ ((zI Z B 1) ≤ v6) → (zIx v6 50) ∧ True) ∧ (zIx (if ¬ ((zI Z B 1) ≤ v6) then mQ Z B v6.toNat else zI Z l ((v6 - (zI Z B 1)) + 1).toNat) 20) ∧ (R32 (((zI Z a2 (if ¬ ((zI Z B 1) ≤ v6) then mE Z B v6.toNat else zI Z l (v6 - (zI Z B 1)).toNat).toNat) + (zI Z u (if ¬ ((zI Z B 1) ≤ v6) then mE Z B v6.toNat else zI Z l (v6 - (zI Z B 1)).toNat).toNat)) + (if ¬ ((zI Z B 1) ≤ v6) then mK Z B v6.toNat else 0))) ∧ (R32 (zI Z a2 (if ¬ ((zI Z B 1) ≤ v6) then mQ Z B v6.toNat else zI Z l ((v6 - (zI Z B 1)) + 1).toNat).toNat)) ∧ (if (((zI Z a2 (if ¬ ((zI Z B 1) ≤ v6) then mE Z B v6.toNat else zI Z l (v6 - (zI Z B 1)).toNat).toNat) + (zI Z u (if ¬ ((zI Z B 1) ≤ v6) then mE Z B v6.toNat else zI Z l (v6 - (zI Z B 1)).toNat).toNat)) + (if ¬ ((zI Z B 1) ≤ v6) then mK Z B v6.toNat else 0)) ≤ (zI Z a2 (if ¬ ((zI Z B 1) ≤ v6) then mQ Z B v6.toNat else zI Z l ((v6 - (zI Z B 1)) + 1).toNat).toNat) then (ZP G 1 m_X12_ordered 31 [some (.ref m), some (.ref l), some (.ref u), some (.ref a2), some (iv v4), some (iv v5), some (iv (v6 + 1)), none, none, none, none] [] Z Q) else (∀ Z56, Z56 = zSI Z a2 (zu (zI Z a2) (if ¬ ((zI Z B 1) ≤ v6) then mQ Z B v6.toNat else zI Z l ((v6 - (zI Z B 1)) + 1).toNat).toNat (((zI Z a2 (if ¬ ((zI Z B 1) ≤ v6) then mE Z B v6.toNat else zI Z l (v6 - (zI Z B 1)).toNat).toNat) + (zI Z u (if ¬ ((zI Z B 1) ≤ v6) then mE Z B v6.toNat else zI Z l (v6 - (zI Z B 1)).toNat).toNat)) + (if ¬ ((zI Z B 1) ≤ v6) then mK Z B v6.toNat else 0))) → ZP G 1 m_X12_ordered 31 [some (.ref m), some (.ref l), some (.ref u), some (.ref a2), some (iv 1), some (iv v5), some (iv (v6 + 1)), none, none, none, none] [] Z56 Q)))))) : ZP G 1 m_X12_ordered 31 [some (.ref m), some (.ref l), some (.ref u), some (.ref a2), some (iv v4), some (iv v5), some (iv v6), none, none, none, none] [] Z Q := z_iload (pc' := 33) (j := 6) (by decide +kernel) rfl rfl <| z_aload_n (pc' := 34) (j := 0) (by decide +kernel) rfl rfl <| z_callV (pc' := 37) (idx := 94) (mj := m_X12_needsMany) (av := []) (d' := 0) (by decide +kernel) rfl k_X12_needsMany l_RX12_94 rfl (by omega) (am_le rfl) rfl (am_le rfl) hm.o.1 hm.o.2 rfl <| zKf (s_needsMany hm) <| z_iconst (pc' := 38) (n := 0) (by decide +kernel) rfl <| z_aload_n (pc' := 39) (j := 1) (by decide +kernel) rfl rfl <| z_alen (pc' := 40) (by decide +kernel) hl (by decide) rfl <| z_iconst (pc' := 41) (n := 1) (by decide +kernel) rfl <| z_isub (pc' := 42) (by decide +kernel) rfl <| h.elim fun c1 h => z_max (pc' := 45) (idx := 107) (by decide +kernel) (amM9 18 rfl (by decide +kernel)) (amM3 108 rfl (by decide +kernel)) (amM1 21 rfl (by decide +kernel)) (amM3 109 rfl (by decide +kernel)) (by omega) (am_le rfl) (by decide : R32 0) c1 rfl <| z_iadd (pc' := 46) (by decide +kernel) rfl <| h.elim fun c2 h => h.elim fun c3 h => z_icmp_ge (pc' := 49) (tgt := 168) (off := 122) (by decide +kernel) (by decide) rfl c2 c3 (am_ite h (fun h => z_iinc (pc' := 171) (j := 5) (n := 1) (x := v5) (ls' := [some (.ref m), some (.ref l), some (.ref u), some (.ref a2), some (iv v4), some (iv (v5 + 1)), some (iv v6), none, none, none, none]) (by decide +kernel) rfl (by decide) rfl rfl <| z_goto (tgt := 11) (off := -160) (by decide +kernel) (by decide) <| (ZP.wk (wk_some (wk_some (wk_some (wk_some (wk_some (wk_some (wk_none (wk_none (wk_none (wk_none (wk_none wk_nil))))))))))) h)) (fun h => z_iload (pc' := 51) (j := 6) (by decide +kernel) rfl rfl <| z_aload_n (pc' := 52) (j := 0) (by decide +kernel) rfl rfl <| z_callV (pc' := 55) (idx := 94) (mj := m_X12_needsMany) (av := []) (d' := 0) (by decide +kernel) rfl k_X12_needsMany l_RX12_94 rfl (by omega) (am_le rfl) rfl (am_le rfl) hm.o.1 hm.o.2 rfl <| zKf (s_needsMany hm) <| h.elim fun c30 h => am_use (fun k33 => z_icmp_ge (pc' := 58) (tgt := 62) (off := 7) (by decide +kernel) (by decide) rfl c2 c30 (am_ite2 (fun q34 => z_iconst (pc' := 63) (n := 0) (by decide +kernel) rfl <| (am_jp (P := fun z9 => ZP G 1 m_X12_ordered 63 [some (.ref m), some (.ref l), some (.ref u), some (.ref a2), some (iv v4), some (iv v5), some (iv v6), none, none, none, none] [iv z9] _ Q) (b2_n q34) k33)) (fun q34 => z_iconst (pc' := 59) (n := 1) (by decide +kernel) rfl <| z_goto (tgt := 63) (off := 4) (by decide +kernel) (by decide) <| (am_jp (P := fun z9 => ZP G 1 m_X12_ordered 63 [some (.ref m), some (.ref l), some (.ref u), some (.ref a2), some (iv v4), some (iv v5), some (iv v6), none, none, none, none] [iv z9] _ Q) (b2_nn q34) k33)))) <| z_istore (pc' := 65) (j := 7) (ls' := [some (.ref m), some (.ref l), some (.ref u), some (.ref a2), some (iv v4), some (iv v5), some (iv v6), some (iv (b2 (¬ ((zI Z B 1) ≤ v6)))), none, none, none]) (by decide +kernel) (by decide) rfl rfl <| z_iload (pc' := 67) (j := 7) (by decide +kernel) rfl rfl <| h.elim fun g37 h => h.elim fun g38 h => am_use (fun k39 => z_ifB_eq (pc' := 70) (tgt := 79) (off := 12) (by decide +kernel) (by decide) rfl (am_ite2 (fun q40 => have h := g37 q40; z_aload_n (pc' := 71) (j := 0) (by decide +kernel) rfl rfl <| z_iload (pc' := 73) (j := 6) (by decide +kernel) rfl rfl <| h.elim fun c35 h => z_callV (pc' := 76) (idx := 97) (mj := m_X12_earlier) (av := [iv v6]) (d' := 0) (by decide +kernel) rfl k_X12_earlier l_RX12_97 rfl (by omega) (am_le rfl) rfl (am_le rfl) hm.o.1 hm.o.2 rfl <| zKf (s_earlier hm c35) <| z_goto (tgt := 88) (off := 12) (by decide +kernel) (by decide) <| (am_jp (P := fun z9 => ZP G 1 m_X12_ordered 88 [some (.ref m), some (.ref l), some (.ref u), some (.ref a2), some (iv v4), some (iv v5), some (iv v6), some (iv (b2 (¬ ((zI Z B 1) ≤ v6)))), none, none, none] [iv z9] _ Q) (if_pos q40) k39)) (fun q40 => have h := g38 q40; z_aload_n (pc' := 80) (j := 1) (by decide +kernel) rfl rfl <| z_iload (pc' := 82) (j := 6) (by decide +kernel) rfl rfl <| z_aload_n (pc' := 83) (j := 0) (by decide +kernel) rfl rfl <| z_callV (pc' := 86) (idx := 94) (mj := m_X12_needsMany) (av := []) (d' := 0) (by decide +kernel) rfl k_X12_needsMany l_RX12_94 rfl (by omega) (am_le rfl) rfl (am_le rfl) hm.o.1 hm.o.2 rfl <| zKf (s_needsMany hm) <| z_isub (pc' := 87) (by decide +kernel) rfl <| h.elim fun c36 h => z_iaload (pc' := 88) (by decide +kernel) hl c36 rfl <| (am_jp (P := fun z9 => ZP G 1 m_X12_ordered 88 [some (.ref m), some (.ref l), some (.ref u), some (.ref a2), some (iv v4), some (iv v5), some (iv v6), some (iv (b2 (¬ ((zI Z B 1) ≤ v6)))), none, none, none] [iv z9] _ Q) (if_neg q40) k39)))) <| z_istore (pc' := 90) (j := 8) (ls' := [some (.ref m), some (.ref l), some (.ref u), some (.ref a2), some (iv v4), some (iv v5), some (iv v6), some (iv (b2 (¬ ((zI Z B 1) ≤ v6)))), some (iv (if ¬ ((zI Z B 1) ≤ v6) then mE Z B v6.toNat else zI Z l (v6 - (zI Z B 1)).toNat)), none, none]) (by decide +kernel) (by decide) rfl rfl <| z_iload (pc' := 92) (j := 7) (by decide +kernel) rfl rfl <| h.elim fun g43 h => h.elim fun g44 h => am_use (fun k45 => z_ifB_eq (pc' := 95) (tgt := 104) (off := 12) (by decide +kernel) (by decide) rfl (am_ite2 (fun q46 => have h := g43 q46; z_aload_n (pc' := 96) (j := 0) (by decide +kernel) rfl rfl <| z_iload (pc' := 98) (j := 6) (by decide +kernel) rfl rfl <| h.elim fun c41 h => z_callV (pc' := 101) (idx := 104) (mj := m_X12_later) (av := [iv v6]) (d' := 0) (by decide +kernel) rfl k_X12_later l_RX12_104 rfl (by omega) (am_le rfl) rfl (am_le rfl) hm.o.1 hm.o.2 rfl <| zKf (s_later hm c41) <| z_goto (tgt := 115) (off := 14) (by decide +kernel) (by decide) <| (am_jp (P := fun z9 => ZP G 1 m_X12_ordered 115 [some (.ref m), some (.ref l), some (.ref u), some (.ref a2), some (iv v4), some (iv v5), some (iv v6), some (iv (b2 (¬ ((zI Z B 1) ≤ v6)))), some (iv (if ¬ ((zI Z B 1) ≤ v6) then mE Z B v6.toNat else zI Z l (v6 - (zI Z B 1)).toNat)), none, none] [iv z9] _ Q) (if_pos q46) k45)) (fun q46 => have h := g44 q46; z_aload_n (pc' := 105) (j := 1) (by decide +kernel) rfl rfl <| z_iload (pc' := 107) (j := 6) (by decide +kernel) rfl rfl <| z_aload_n (pc' := 108) (j := 0) (by decide +kernel) rfl rfl <| z_callV (pc' := 111) (idx := 94) (mj := m_X12_needsMany) (av := []) (d' := 0) (by decide +kernel) rfl k_X12_needsMany l_RX12_94 rfl (by omega) (am_le rfl) rfl (am_le rfl) hm.o.1 hm.o.2 rfl <| zKf (s_needsMany hm) <| z_isub (pc' := 112) (by decide +kernel) rfl <| z_iconst (pc' := 113) (n := 1) (by decide +kernel) rfl <| z_iadd (pc' := 114) (by decide +kernel) rfl <| h.elim fun c42 h => z_iaload (pc' := 115) (by decide +kernel) hl c42 rfl <| (am_jp (P := fun z9 => ZP G 1 m_X12_ordered 115 [some (.ref m), some (.ref l), some (.ref u), some (.ref a2), some (iv v4), some (iv v5), some (iv v6), some (iv (b2 (¬ ((zI Z B 1) ≤ v6)))), some (iv (if ¬ ((zI Z B 1) ≤ v6) then mE Z B v6.toNat else zI Z l (v6 - (zI Z B 1)).toNat)), none, none] [iv z9] _ Q) (if_neg q46) k45)))) <| z_istore (pc' := 117) (j := 9) (ls' := [some (.ref m), some (.ref l), some (.ref u), some (.ref a2), some (iv v4), some (iv v5), some (iv v6), some (iv (b2 (¬ ((zI Z B 1) ≤ v6)))), some (iv (if ¬ ((zI Z B 1) ≤ v6) then mE Z B v6.toNat else zI Z l (v6 - (zI Z B 1)).toNat)), some (iv (if ¬ ((zI Z B 1) ≤ v6) then mQ Z B v6.toNat else zI Z l ((v6 - (zI Z B 1)) + 1).toNat)), none]) (by decide +kernel) (by decide) rfl rfl <| z_aload_n (pc' := 118) (j := 3) (by decide +kernel) rfl rfl <| z_iload (pc' := 120) (j := 8) (by decide +kernel) rfl rfl <| h.elim fun c47 h => z_iaload (pc' := 121) (by decide +kernel) ha2 c47 rfl <| z_aload_n (pc' := 122) (j := 2) (by decide +kernel) rfl rfl <| z_iload (pc' := 124) (j := 8) (by decide +kernel) rfl rfl <| z_iaload (pc' := 125) (by decide +kernel) hu c47 rfl <| z_iadd (pc' := 126) (by decide +kernel) rfl <| z_iload (pc' := 128) (j := 7) (by decide +kernel) rfl rfl <| h.elim fun g49 h => am_use (fun k51 => z_ifB_eq (pc' := 131) (tgt := 140) (off := 12) (by decide +kernel) (by decide) rfl (am_ite2 (fun q52 => have h := g49 q52; z_aload_n (pc' := 132) (j := 0) (by decide +kernel) rfl rfl <| z_iload (pc' := 134) (j := 6) (by decide +kernel) rfl rfl <| h.elim fun c48 h => z_callV (pc' := 137) (idx := 101) (mj := m_X12_lag) (av := [iv v6]) (d' := 0) (by decide +kernel) rfl k_X12_lag l_RX12_101 rfl (by omega) (am_le rfl) rfl (am_le rfl) hm.o.1 hm.o.2 rfl <| zKf (s_lag hm c48) <| z_goto (tgt := 141) (off := 4) (by decide +kernel) (by decide) <| (am_jp (P := fun z9 => ZP G 1 m_X12_ordered 141 [some (.ref m), some (.ref l), some (.ref u), some (.ref a2), some (iv v4), some (iv v5), some (iv v6), some (iv (b2 (¬ ((zI Z B 1) ≤ v6)))), some (iv (if ¬ ((zI Z B 1) ≤ v6) then mE Z B v6.toNat else zI Z l (v6 - (zI Z B 1)).toNat)), some (iv (if ¬ ((zI Z B 1) ≤ v6) then mQ Z B v6.toNat else zI Z l ((v6 - (zI Z B 1)) + 1).toNat)), none] [iv z9, iv ((zI Z a2 (if ¬ ((zI Z B 1) ≤ v6) then mE Z B v6.toNat else zI Z l (v6 - (zI Z B 1)).toNat).toNat) + (zI Z u (if ¬ ((zI Z B 1) ≤ v6) then mE Z B v6.toNat else zI Z l (v6 - (zI Z B 1)).toNat).toNat))] _ Q) (if_pos q52) k51)) (fun q52 => z_iconst (pc' := 141) (n := 0) (by decide +kernel) rfl <| (am_jp (P := fun z9 => ZP G 1 m_X12_ordered 141 [some (.ref m), some (.ref l), some (.ref u), some (.ref a2), some (iv v4), some (iv v5), some (iv v6), some (iv (b2 (¬ ((zI Z B 1) ≤ v6)))), some (iv (if ¬ ((zI Z B 1) ≤ v6) then mE Z B v6.toNat else zI Z l (v6 - (zI Z B 1)).toNat)), some (iv (if ¬ ((zI Z B 1) ≤ v6) then mQ Z B v6.toNat else zI Z l ((v6 - (zI Z B 1)) + 1).toNat)), none] [iv z9, iv ((zI Z a2 (if ¬ ((zI Z B 1) ≤ v6) then mE Z B v6.toNat else zI Z l (v6 - (zI Z B 1)).toNat).toNat) + (zI Z u (if ¬ ((zI Z B 1) ≤ v6) then mE Z B v6.toNat else zI Z l (v6 - (zI Z B 1)).toNat).toNat))] _ Q) (if_neg q52) k51)))) <| z_iadd (pc' := 142) (by decide +kernel) rfl <| z_istore (pc' := 144) (j := 10) (ls' := [some (.ref m), some (.ref l), some (.ref u), some (.ref a2), some (iv v4), some (iv v5), some (iv v6), some (iv (b2 (¬ ((zI Z B 1) ≤ v6)))), some (iv (if ¬ ((zI Z B 1) ≤ v6) then mE Z B v6.toNat else zI Z l (v6 - (zI Z B 1)).toNat)), some (iv (if ¬ ((zI Z B 1) ≤ v6) then mQ Z B v6.toNat else zI Z l ((v6 - (zI Z B 1)) + 1).toNat)), some (iv (((zI Z a2 (if ¬ ((zI Z B 1) ≤ v6) then mE Z B v6.toNat else zI Z l (v6 - (zI Z B 1)).toNat).toNat) + (zI Z u (if ¬ ((zI Z B 1) ≤ v6) then mE Z B v6.toNat else zI Z l (v6 - (zI Z B 1)).toNat).toNat)) + (if ¬ ((zI Z B 1) ≤ v6) then mK Z B v6.toNat else 0)))]) (by decide +kernel) (by decide) rfl rfl <| z_iload (pc' := 146) (j := 10) (by decide +kernel) rfl rfl <| z_aload_n (pc' := 147) (j := 3) (by decide +kernel) rfl rfl <| z_iload (pc' := 149) (j := 9) (by decide +kernel) rfl rfl <| h.elim fun c53 h => z_iaload (pc' := 150) (by decide +kernel) ha2 c53 rfl <| h.elim fun c54 h => h.elim fun c55 h => z_icmp_le (pc' := 153) (tgt := 162) (off := 12) (by decide +kernel) (by decide) rfl c54 c55 (am_ite h (fun h => z_iinc (pc' := 165) (j := 6) (n := 1) (x := v6) (ls' := [some (.ref m), some (.ref l), some (.ref u), some (.ref a2), some (iv v4), some (iv v5), some (iv (v6 + 1)), some (iv (b2 (¬ ((zI Z B 1) ≤ v6)))), some (iv (if ¬ ((zI Z B 1) ≤ v6) then mE Z B v6.toNat else zI Z l (v6 - (zI Z B 1)).toNat)), some (iv (if ¬ ((zI Z B 1) ≤ v6) then mQ Z B v6.toNat else zI Z l ((v6 - (zI Z B 1)) + 1).toNat)), some (iv (((zI Z a2 (if ¬ ((zI Z B 1) ≤ v6) then mE Z B v6.toNat else zI Z l (v6 - (zI Z B 1)).toNat).toNat) + (zI Z u (if ¬ ((zI Z B 1) ≤ v6) then mE Z B v6.toNat else zI Z l (v6 - (zI Z B 1)).toNat).toNat)) + (if ¬ ((zI Z B 1) ≤ v6) then mK Z B v6.toNat else 0)))]) (by decide +kernel) rfl (by decide) rfl rfl <| z_goto (tgt := 31) (off := -134) (by decide +kernel) (by decide) <| (ZP.wk (wk_some (wk_some (wk_some (wk_some (wk_some (wk_some (wk_some (wk_none (wk_none (wk_none (wk_none wk_nil))))))))))) h)) (fun h => z_aload_n (pc' := 154) (j := 3) (by decide +kernel) rfl rfl <| z_iload (pc' := 156) (j := 9) (by decide +kernel) rfl rfl <| z_iload (pc' := 158) (j := 10) (by decide +kernel) rfl rfl <| z_iastore (pc' := 159) (by decide +kernel) ha2 c53 rfl <| have h := h _ rfl; z_iconst (pc' := 160) (n := 1) (by decide +kernel) rfl <| z_istore (pc' := 162) (j := 4) (ls' := [some (.ref m), some (.ref l), some (.ref u), some (.ref a2), some (iv 1), some (iv v5), some (iv v6), some (iv (b2 (¬ ((zI Z B 1) ≤ v6)))), some (iv (if ¬ ((zI Z B 1) ≤ v6) then mE Z B v6.toNat else zI Z l (v6 - (zI Z B 1)).toNat)), some (iv (if ¬ ((zI Z B 1) ≤ v6) then mQ Z B v6.toNat else zI Z l ((v6 - (zI Z B 1)) + 1).toNat)), some (iv (((zI Z a2 (if ¬ ((zI Z B 1) ≤ v6) then mE Z B v6.toNat else zI Z l (v6 - (zI Z B 1)).toNat).toNat) + (zI Z u (if ¬ ((zI Z B 1) ≤ v6) then mE Z B v6.toNat else zI Z l (v6 - (zI Z B 1)).toNat).toNat)) + (if ¬ ((zI Z B 1) ≤ v6) then mK Z B v6.toNat else 0)))]) (by decide +kernel) (by decide) rfl rfl <| z_iinc (pc' := 165) (j := 6) (n := 1) (x := v6) (ls' := [some (.ref m), some (.ref l), some (.ref u), some (.ref a2), some (iv 1), some (iv v5), some (iv (v6 + 1)), some (iv (b2 (¬ ((zI Z B 1) ≤ v6)))), some (iv (if ¬ ((zI Z B 1) ≤ v6) then mE Z B v6.toNat else zI Z l (v6 - (zI Z B 1)).toNat)), some (iv (if ¬ ((zI Z B 1) ≤ v6) then mQ Z B v6.toNat else zI Z l ((v6 - (zI Z B 1)) + 1).toNat)), some (iv (((zI Z a2 (if ¬ ((zI Z B 1) ≤ v6) then mE Z B v6.toNat else zI Z l (v6 - (zI Z B 1)).toNat).toNat) + (zI Z u (if ¬ ((zI Z B 1) ≤ v6) then mE Z B v6.toNat else zI Z l (v6 - (zI Z B 1)).toNat).toNat)) + (if ¬ ((zI Z B 1) ≤ v6) then mK Z B v6.toNat else 0)))]) (by decide +kernel) rfl (by decide) rfl rfl <| z_goto (tgt := 31) (off := -134) (by decide +kernel) (by decide) <| (ZP.wk (wk_some (wk_some (wk_some (wk_some (wk_some (wk_some (wk_some (wk_none (wk_none (wk_none (wk_none wk_nil))))))))))) h)))))
/-! ===== the model: begins in a told order ===== -/
def orF (k : Bk) (L : Nat → Nat) (e : Nat) : Nat := if e < kM k then kE k e else L (e - kM k)
def orT (k : Bk) (L : Nat → Nat) (e : Nat) : Nat := if e < kM k then kL k e else L (e - kM k + 1)
def orG (k : Bk) (e : Nat) : Int := if e < kM k then kG k e else 0
def orE (k : Bk) (N : Nat) : Nat := kM k + (N - 1)
def orS (k : Bk) (L : Nat → Nat) (p : Nat → Int) (e : Nat) : Prop := p (orF k L e) + kF k 0 (orF k L e) + orG k e ≤ p (orT k L e)
/-- begins that keep needs and order -/
def orB (k : Bk) (N : Nat) (L : Nat → Nat) (b : Nat → Int) : Prop := (∀ t, t < kN k → 0 ≤ b t) ∧ ∀ e, e < orE k N → orS k L b e
theorem or_lt {k : Bk} (ho : kOk k) {N : Nat} {L : Nat → Nat} (hL : ∀ i, i < N → L i < kN k) {e : Nat} (he : e < orE k N) : orF k L e < kN k ∧ orT k L e < kN k ∧ 0 ≤ orG k e ∧ orG k e ≤ 30 := by
  unfold orE at he
  unfold orF orT orG
  by_cases c : e < kM k
  · rw [if_pos c, if_pos c, if_pos c]
    have := ho.g c
    exact ⟨ho.e c, ho.l c, by omega⟩
  · rw [if_neg c, if_neg c, if_neg c]
    exact ⟨hL _ (by omega), hL _ (by omega), by decide⟩
def rkB (k : Bk) (b : Nat → Int) (t : Nat) : Int := cBelow b (b t) (kN k)
theorem rkB_r (k : Bk) (b : Nat → Int) {t : Nat} (ht : t < kN k) : 0 ≤ rkB k b t ∧ rkB k b t + 1 ≤ kN k := by
  have a := cBelow_r b (b t) (kN k)
  have c := cBelow_r b (b t + 1) (kN k)
  have d := cBelow_lt (f := b) (x := b t) (y := b t + 1) ht (by omega) (Int.lt_irrefl _) (by omega)
  unfold rkB
  omega
theorem rkB_lt {k : Bk} (ho : kOk k) {N : Nat} {L : Nat → Nat} (hL : ∀ i, i < N → L i < kN k) {b : Nat → Int} (hb : orB k N L b) {e : Nat} (he : e < orE k N) : rkB k b (orF k L e) + 1 ≤ rkB k b (orT k L e) := by
  obtain ⟨h1, h2, h3, h4⟩ := or_lt ho hL he
  have l := ho.len h1
  have s := hb.2 e he
  unfold orS at s
  exact cBelow_lt (f := b) h1 (by omega) (Int.lt_irrefl _) (by omega)
/-- behind so many rounds -/
def orP (k : Bk) (N : Nat) (L : Nat → Nat) (r : Int) (m : Nat) (p : Nat → Int) : Prop := ∀ b, orB k N L b → (∀ t, t < kN k → p t ≤ b t) ∧ (∀ e, e < orE k N → rkB k b (orT k L e) < r → orS k L p e) ∧ ∀ e, e < m → rkB k b (orT k L e) = r → orS k L p e
theorem orP.skip {k : Bk} {N : Nat} {L : Nat → Nat} {r : Int} {m : Nat} {p : Nat → Int} (h : orP k N L r m p) (hs : orS k L p m) : orP k N L r (m + 1) p := fun b hb => by
  obtain ⟨h1, h2, h3⟩ := h b hb
  refine ⟨h1, h2, fun e he q => ?_⟩
  by_cases c : e = m
  · rw [c]
    exact hs
  · exact h3 e (by omega) q
theorem orP.put {k : Bk} (ho : kOk k) {N : Nat} {L : Nat → Nat} (hL : ∀ i, i < N → L i < kN k) {r : Int} {m : Nat} {p : Nat → Int} (h : orP k N L r m p) (hm : m < orE k N) (hs : ¬ orS k L p m) : orP k N L r (m + 1) (zu p (orT k L m) (p (orF k L m) + kF k 0 (orF k L m) + orG k m)) := fun b hb => by
  obtain ⟨h1, h2, h3⟩ := h b hb
  have hl := or_lt ho hL hm
  have rm : ¬ rkB k b (orT k L m) < r := fun q => hs (h2 m hm q)
  have keep : ∀ e, e < orE k N → rkB k b (orT k L e) ≤ r → orS k L p e → orS k L (zu p (orT k L m) (p (orF k L m) + kF k 0 (orF k L m) + orG k m)) e := fun e he hr s => by
    have le := rkB_lt ho hL hb he
    have ne : orF k L e ≠ orT k L m := fun q => by rw [q] at le; omega
    unfold orS at s hs ⊢
    rw [zu_other ne]
    by_cases c : orT k L e = orT k L m
    · rw [c, zu_same]
      rw [c] at s
      omega
    · rw [zu_other c]
      exact s
  refine ⟨fun t ht => ?_, fun e he q => keep e he (by omega) (h2 e he q), fun e he q => ?_⟩
  · by_cases c : t = orT k L m
    · rw [c, zu_same]
      have a := hb.2 m hm
      have d := h1 _ hl.1
      unfold orS at a
      omega
    · rw [zu_other c]
      exact h1 t ht
  · by_cases c : e = m
    · rw [c]
      have le := rkB_lt ho hL hb hm
      have ne : orF k L m ≠ orT k L m := fun q => by rw [q] at le; omega
      unfold orS
      rw [zu_other ne, zu_same]
      exact Int.le_refl _
    · exact keep e (by omega) (by omega) (h3 e (by omega) q)
theorem orP.next {k : Bk} {N : Nat} {L : Nat → Nat} {r : Int} {p : Nat → Int} (h : orP k N L r (orE k N) p) : orP k N L (r + 1) 0 p := fun b hb => by
  obtain ⟨h1, h2, h3⟩ := h b hb
  refine ⟨h1, fun e he q => ?_, fun e he => absurd he (Nat.not_lt_zero _)⟩
  by_cases c : rkB k b (orT k L e) < r
  · exact h2 e he c
  · exact h3 e he (by omega)
def orR (k : Bk) (N : Nat) (L : Nat → Nat) (v : Int) : Prop := (v = -1 ∧ ∀ b, ¬ orB k N L b) ∨ ∃ b, orB k N L b ∧ (∀ t, t < kN k → b t ≤ 200000) ∧ v = seC k b ∧ ∀ b', orB k N L b' → seC k b ≤ seC k b'
theorem s_ordered {G : Gx} {Z : Zm} {B l u N : Nat} {k : Bk} {L : Nat → Nat} (hm : atModel Z 300 B) (hk : cM Z B k) (ho : kOk k) (hz : 322 ≤ zSz Z ∧ zSz Z < 999000) (hB : B < zSz Z) (hN5 : N ≤ 5) (hl : zA Z l 100 N) (hL : ∀ i, i < N → zI Z l i = (L i : Int) ∧ L i < kN k) (hu : zA Z u 100 20) (hlen : ∀ t, t < kN k → zI Z u t = kF k 0 t) : ZM G 1 m_X12_ordered [.ref 300, .ref l, .ref u] Z (fun r W => (∃ v, r = .inl (some (iv v)) ∧ orR k N L v) ∧ zF zNo 2 22 Z W) := by
  have hN := ho.n
  have hM := ho.m
  have hL' : ∀ i, i < N → L i < kN k := fun i hi => (hL i hi).2
  have hl2 := hl.1
  have hu2 := hu.1
  generalize hQ : (fun (r : Rv) (W : Zm) => (∃ v, r = .inl (some (iv v)) ∧ orR k N L v) ∧ zF zNo 2 22 Z W) = Q
  refine e_X12_ordered hm hl hu ⟨by omega, ?_⟩
  intro Z2 z2
  have f0 : zF zNo 1 20 Z Z2 := by rw [z2]; exact zF_C
  have a0 : zA Z2 (zSz Z) 100 20 := by rw [z2]; exact zA_C Z 100 20 20
  have v0 : ∀ t, zI Z2 (zSz Z) t = 0 := fun t => by rw [z2, zI_C]
  clear z2
  -- the sum of the ends
  have fin : ∀ V p, zF zNo 1 20 Z V → zA V (zSz Z) 100 20 → (∀ t, t < kN k → zI V (zSz Z) t = p t) → orB k N L p → (∀ t, t < kN k → p t ≤ 200000) → (∀ b, orB k N L b → ∀ t, t < kN k → p t ≤ b t) → (zSz V < 1000000) ∧ ∀ Z6, Z6 = zC V 100 2 2 → ZP G 1 m_X12_ordered 189 [some (.ref 300), none, some (.ref u), some (.ref (zSz Z)), none, some (.ref (zSz V)), some (iv 0), none, none, none, none] [] Z6 Q := by
    intro V p fV aV eV pS pB pM
    have sV := fV.2.1.1
    have sV2 := fV.sz
    refine ⟨by omega, ?_⟩
    intro Z6 z6
    have f6 : zF zNo 1 2 V Z6 := by rw [z6]; exact zF_C
    have a6 : zA Z6 (zSz V) 100 2 := by rw [z6]; exact zA_C V 100 2 2
    have v6 : ∀ t, zI Z6 (zSz V) t = 0 := fun t => by rw [z6, zI_C]
    clear z6
    have ff : zF zNo 2 22 Z Z6 := fV.trans f6
    have eM : zI Z6 (zSz Z) = zI V (zSz Z) := f6.i aV.1 (fun g => g)
    have aM := aV.ext f6.1
    have nm : zSz V ≠ zSz Z := by have := aV.1; omega
    generalize zSz V = w at *
    suffices key : ∀ j, j ≤ kN k → ∀ W, zF zNo 2 22 Z W → zA W w 100 2 → zA W (zSz Z) 100 20 → (∀ t, t < kN k → zI W (zSz Z) t = p t) → (∀ q : Nat, q < 2 → zI W w q = zmax (fun t => if kF k 4 t = (q : Int) then p t + kF k 0 t else 0) j) → ZP G 1 m_X12_ordered 189 [some (.ref 300), none, some (.ref u), some (.ref (zSz Z)), none, some (.ref w), some (iv (j : Int)), none, none, none, none] [] W Q from key 0 (Nat.zero_le _) Z6 ff a6 aM (fun t ht => by rw [eM]; exact eV t ht) fun q _ => v6 q
    refine am_up (n := kN k) fun j hj ih W fW aW aM' eW qW => ?_
    have kW := hk.frame hB fW (fun g => g)
    refine b_X12_ordered_189 (l := l) (L := N) (hm.ext fW.1) (hl.ext fW.1) (hu.ext fW.1) aM' aW ⟨by omega, by rw [kW.1]; omega, ?_⟩
    rw [kW.1]
    by_cases c : j < kN k
    case neg =>
      rw [if_pos (by omega), ← hQ]
      have q0 := qW 0 (by decide)
      have q1 := qW 1 (by decide)
      rw [show j = kN k by omega] at q0 q1
      refine ⟨⟨_, rfl, Or.inr ⟨p, pS, pB, ?_, fun b' hb' => seC_up ho (pM b' hb')⟩⟩, fW⟩
      rw [q0, q1]
      rfl
    have uW : zI W u j = kF k 0 j := by
      rw [fW.i hu2 (fun g => g)]
      exact hlen j c
    have e4 := kW.k c (r := 4) (by omega)
    have r4 := (ho.2.1 j c).2.2.2.2.1
    have lj := ho.len c
    have pj := pB j c
    have p0 := pS.1 j c
    obtain ⟨q, hq, hq2⟩ : ∃ q : Nat, q < 2 ∧ kF k 4 j = (q : Int) := ⟨(kF k 4 j).toNat, by omega, by omega⟩
    have zr : 0 ≤ zI W w q ∧ zI W w q ≤ 200060 := by
      rw [qW q hq]
      refine ⟨zmax_0 _ _, zmax_le (by omega) fun t ht => ?_⟩
      show (if kF k 4 t = (q : Int) then p t + kF k 0 t else 0) ≤ 200060
      have a := pB t (by omega)
      have b := ho.len (t := t) (by omega)
      by_cases g : kF k 4 t = (q : Int)
      · rw [if_pos g]
        omega
      · rw [if_neg g]
        omega
    rw [if_neg (by omega), Int.toNat_natCast, e4, hq2, Int.toNat_natCast, uW, eW j c]
    refine ⟨zIx_nat (by omega) (by omega), zIx_nat hq (by decide), by omega, by omega, ?_⟩
    rintro _ rfl
    refine ih c _ (fW.wr (Or.inr (by have := fV.sz; omega))) aW.s aM'.s (fun t ht => by rw [zI_other (Ne.symm nm)]; exact eW t ht) fun q' hq' => ?_
    rw [zI_same, zmax_s]
    by_cases g : q' = q
    · rw [g, zu_same, qW q hq, if_pos hq2]
    · rw [zu_other g, qW q' hq', if_neg (by omega), Int.max_eq_left (zmax_0 _ _)]
  generalize em : zSz Z = mm at *
  have eE : orE k N ≤ 54 := by unfold orE; omega
  suffices outer : ∀ j, j ≤ kN k + 1 → ∀ V p g, zF zNo 1 20 Z V → zA V mm 100 20 → (∀ t, t < kN k → zI V mm t = p t ∧ 0 ≤ p t ∧ p t ≤ 5000 * (j : Int)) → orP k N L (j : Int) 0 p → (g = 0 ∧ (∀ e, e < orE k N → orS k L p e) ∨ g = 1 ∧ ∀ b, orB k N L b → j ≤ kN k) → ZP G 1 m_X12_ordered 11 [some (.ref 300), some (.ref l), some (.ref u), some (.ref mm), some (iv g), some (iv (j : Int)), none, none, none, none, none] [] V Q from outer 0 (Nat.zero_le _) Z2 (fun _ => 0) 1 f0 a0 (fun t ht => ⟨v0 t, Int.le_refl _, Int.le_refl _⟩) (fun b hb => ⟨hb.1, fun e he q => by
      have := rkB_r k b (or_lt ho hL' he).2.1
      omega, fun e he => absurd he (Nat.not_lt_zero _)⟩) (Or.inr ⟨rfl, fun b hb => Nat.zero_le _⟩)
  refine am_up (n := kN k + 1) fun j hj ih V p g fV aV eV hP hg => ?_
  have kV := hk.frame (show B < zSz Z by omega) fV (fun g => g)
  have pb : ∀ t, t < kN k → p t ≤ 200000 := fun t ht => by have := eV t ht; omega
  have g01 : g = 0 ∨ g = 1 := by rcases hg with q | q <;> omega
  refine b_X12_ordered_11 (hm.ext fV.1) (hl.ext fV.1) (hu.ext fV.1) aV ⟨by omega, by rw [kV.1]; omega, ?_⟩
  rw [kV.1]
  have done : g = 0 → (zSz V < 1000000) ∧ ∀ Z6, Z6 = zC V 100 2 2 → ZP G 1 m_X12_ordered 189 [some (.ref 300), none, some (.ref u), some (.ref mm), none, some (.ref (zSz V)), some (iv 0), none, none, none, none] [] Z6 Q := fun e => by
    have s : ∀ e, e < orE k N → orS k L p e := by
      rcases hg with q | q
      · exact q.2
      · omega
    exact fin V p fV aV (fun t ht => (eV t ht).1) ⟨fun t ht => (eV t ht).2.1, s⟩ pb fun b hb => (hP b hb).1
  by_cases c : (kN k : Int) < (j : Int)
  · rw [if_pos c]
    refine ⟨by omega, ?_⟩
    by_cases d : g = 0
    · rw [if_pos d]
      exact done d
    · rw [if_neg d, ← hQ]
      refine ⟨⟨-1, rfl, Or.inl ⟨rfl, fun b hb => ?_⟩⟩, fV.mono (fun _ g => g) (by omega) (by omega)⟩
      rcases hg with q | q
      · exact d q.1
      · have := q.2 b hb
        omega
  rw [if_neg c]
  refine ⟨by omega, ?_⟩
  by_cases d : g = 0
  · rw [if_pos d, if_pos d]
    exact done d
  rw [if_neg d]
  have nx := ih (by omega)
  clear ih done hg d g01 g
  suffices inner : ∀ i, i ≤ orE k N → ∀ V p g, zF zNo 1 20 Z V → zA V mm 100 20 → (∀ t, t < kN k → zI V mm t = p t ∧ 0 ≤ p t ∧ p t ≤ 5000 * (j : Int) + 90 * (i : Int)) → orP k N L (j : Int) i p → (g = 0 ∧ (∀ e, e < i → orS k L p e) ∨ g = 1 ∧ ∀ b, orB k N L b → j < kN k) → ZP G 1 m_X12_ordered 31 [some (.ref 300), some (.ref l), some (.ref u), some (.ref mm), some (iv g), some (iv (j : Int)), some (iv (i : Int)), none, none, none, none] [] V Q from inner 0 (Nat.zero_le _) V p 0 fV aV (fun t ht => by have := eV t ht; omega) hP (Or.inl ⟨rfl, fun e he => absurd he (Nat.not_lt_zero _)⟩)
  clear hP pb kV eV aV fV p V
  refine am_up (n := orE k N) fun i hi ihi V p g fV aV eV hP hg => ?_
  have kV := hk.frame (show B < zSz Z by omega) fV (fun g => g)
  have g01 : g = 0 ∨ g = 1 := by rcases hg with q | q <;> omega
  have lV : ∀ i, i < N → zI V l i = (L i : Int) := fun i hi => by
    rw [fV.i (show l < zSz Z by omega) (fun g => g)]
    exact (hL i hi).1
  have mx : (kM k : Int) + max 0 ((N : Int) - 1) = (orE k N : Int) := by unfold orE; omega
  refine b_X12_ordered_31 (hm.ext fV.1) (hl.ext fV.1) (hu.ext fV.1) aV ⟨by omega, by omega, by rw [kV.2.1, mx]; omega, ?_⟩
  rw [kV.2.1, mx]
  by_cases c : i < orE k N
  case neg =>
    rw [if_pos (by omega)]
    rw [show i = orE k N by omega] at hP hg eV
    exact nx V p g fV aV (fun t ht => by have := eV t ht; omega) hP.next (hg.imp id fun q => ⟨q.1, fun b hb => q.2 b hb⟩)
  rw [if_neg (by omega)]
  have ol := or_lt ho hL' c
  have eF : (if ¬ ((kM k : Int) ≤ (i : Int)) then mE V B (i : Int).toNat else zI V l ((i : Int) - (kM k : Int)).toNat) = (orF k L i : Int) := by
    unfold orF
    by_cases d : i < kM k
    · rw [if_pos (by omega), if_pos d, Int.toNat_natCast, (kV.2.2.2 i d).1]
    · rw [if_neg (by omega), if_neg d, show ((i : Int) - (kM k : Int)).toNat = i - kM k by omega, lV _ (by unfold orE at c; omega)]
  have eT : (if ¬ ((kM k : Int) ≤ (i : Int)) then mQ V B (i : Int).toNat else zI V l (((i : Int) - (kM k : Int)) + 1).toNat) = (orT k L i : Int) := by
    unfold orT
    by_cases d : i < kM k
    · rw [if_pos (by omega), if_pos d, Int.toNat_natCast, (kV.2.2.2 i d).2.1]
    · rw [if_neg (by omega), if_neg d, show (((i : Int) - (kM k : Int)) + 1).toNat = i - kM k + 1 by omega, lV _ (by unfold orE at c; omega)]
  have eG : (if ¬ ((kM k : Int) ≤ (i : Int)) then mK V B (i : Int).toNat else 0) = orG k i := by
    unfold orG
    by_cases d : i < kM k
    · rw [if_pos (by omega), if_pos d, Int.toNat_natCast, (kV.2.2.2 i d).2.2]
    · rw [if_neg (by omega), if_neg d]
  have uV : zI V u (orF k L i) = kF k 0 (orF k L i) := by
    rw [fV.i (show u < zSz Z by omega) (fun g => g)]
    exact hlen _ ol.1
  have lf := ho.len ol.1
  have pf := eV _ ol.1
  have pt := eV _ ol.2.1
  rw [eF, eT, eG, Int.toNat_natCast, Int.toNat_natCast, pf.1, pt.1, uV]
  refine ⟨by omega, fun q => ⟨⟨by omega, by omega, by decide⟩, trivial⟩, fun q => ⟨⟨by omega, by unfold orE at c; omega, by omega⟩, trivial⟩, fun q => ⟨⟨by omega, by omega, by decide⟩, trivial⟩, fun q => ⟨⟨by omega, by unfold orE at c; omega, by omega⟩, trivial⟩, zIx_nat (by omega) (by decide), fun q => ⟨⟨by omega, by omega, by decide⟩, trivial⟩, zIx_nat (by omega) (by decide), by omega, by omega, ?_⟩
  by_cases s : orS k L p i
  · rw [if_pos (show p (orF k L i) + kF k 0 (orF k L i) + orG k i ≤ p (orT k L i) from s)]
    exact ihi c V p g fV aV (fun t ht => by have := eV t ht; omega) (hP.skip s) (hg.imp (fun q => ⟨q.1, fun e he => by
      by_cases d : e = i
      · rw [d]
        exact s
      · exact q.2 e (by omega)⟩) id)
  · rw [if_neg (show ¬ (p (orF k L i) + kF k 0 (orF k L i) + orG k i ≤ p (orT k L i)) from s)]
    rintro _ rfl
    refine ihi c _ _ 1 (fV.wr (Or.inr (by omega))) aV.s (fun t ht => ?_) (hP.put ho hL' c s) (Or.inr ⟨rfl, fun b hb => ?_⟩)
    · rw [zI_same]
      by_cases d : t = orT k L i
      · rw [d, zu_same, zu_same]
        omega
      · rw [zu_other d, zu_other d]
        have := eV t ht
        omega
    · have r := rkB_r k b ol.2.1
      have n : ¬ rkB k b (orT k L i) < (j : Int) := fun q => s ((hP b hb).2.1 i c q)
      omega
