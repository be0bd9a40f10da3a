set_option maxRecDepth 20000 in
theorem e_X12_nextOf {G : Gx} {Q : Rv → Zm → Prop} {Z : Zm} {m : Nat} {B : Nat} {l : Nat} {L : Nat} {u : Nat} (hm : atModel Z m B) (hl : zA Z l 100 L) (hu : zA Z u 100 20) (h : (ZP G 2 m_X12_nextOf 2 [some (.ref m), some (.ref l), some (.ref u), some (iv 0)] [] Z Q)) : ZM G 2 m_X12_nextOf [.ref m, .ref l, .ref u] Z Q := ZM.of [some (.ref m), some (.ref l), some (.ref u), none] rfl <| z_iconst (pc' := 1) (n := 0) (by decide +kernel) rfl <| z_istore_n (pc' := 2) (j := 3) (ls' := [some (.ref m), some (.ref l), some (.ref u), some (iv 0)]) (by decide +kernel) (by decide) rfl rfl <| h
set_option maxRecDepth 20000 in
theorem b_X12_nextOf_2 {G : Gx} {Q : Rv → Zm → Prop} {Z : Zm} {m : Nat} {B : Nat} {l : Nat} {L : Nat} {u : Nat} {v3 : Int} (hm : atModel Z m B) (hl : zA Z l 100 L) (hu : zA Z u 100 20) (h : ((R32 v3) ∧ (R32 (L : Int)) ∧ (if (L : Int) ≤ v3 then (Q (.inl (some (iv (-1)))) Z) else ((zIx v3 L) ∧ (zIx (zI Z l v3.toNat) 20) ∧ (R32 (zI Z (m + 15) (zI Z l v3.toNat).toNat)) ∧ (if (zI Z (m + 15) (zI Z l v3.toNat).toNat) = (-1) then (ZM G 1 m_X12_letBy [.ref m, iv (zI Z l v3.toNat), .ref u, iv (-1)] Z (zKc G 2 m_X12_nextOf 29 [some (.ref m), some (.ref l), some (.ref u), some (iv v3)] [] Q)) else (ZP G 2 m_X12_nextOf 2 [some (.ref m), some (.ref l), some (.ref u), some (iv (v3 + 1))] [] Z Q)))))) : ZP G 2 m_X12_nextOf 2 [some (.ref m), some (.ref l), some (.ref u), some (iv v3)] [] Z Q := z_iload_n (pc' := 3) (j := 3) (by decide +kernel) rfl rfl <| z_aload_n (pc' := 4) (j := 1) (by decide +kernel) rfl rfl <| z_alen (pc' := 5) (by decide +kernel) hl (by decide) rfl <| h.elim fun c1 h => h.elim fun c2 h => z_icmp_ge (pc' := 8) (tgt := 43) (off := 38) (by decide +kernel) (by decide) rfl c1 c2 (am_ite h (fun h => z_iconst (pc' := 44) (n := -1) (by decide +kernel) rfl <| z_ireturn (by decide +kernel) ⟨_, rfl, rfl⟩ h) (fun h => z_aload_n (pc' := 9) (j := 0) (by decide +kernel) rfl rfl <| z_getR (pc' := 12) (idx := 45) (ci := 12) (f := 17) (by decide +kernel) f_RX12_45 rfl hm.o.1 hm.o.2 hm.r17 rfl <| z_aload_n (pc' := 13) (j := 1) (by decide +kernel) rfl rfl <| z_iload_n (pc' := 14) (j := 3) (by decide +kernel) rfl rfl <| h.elim fun c3 h => z_iaload (pc' := 15) (by decide +kernel) hl c3 rfl <| h.elim fun c4 h => z_iaload (pc' := 16) (by decide +kernel) hm.a17 c4 rfl <| z_iconst (pc' := 17) (n := -1) (by decide +kernel) rfl <| h.elim fun c5 h => z_icmp_ne (pc' := 20) (tgt := 37) (off := 20) (by decide +kernel) (by decide) rfl c5 (by decide : R32 (-1)) (am_ite h (fun h => z_aload_n (pc' := 21) (j := 0) (by decide +kernel) rfl rfl <| z_aload_n (pc' := 22) (j := 1) (by decide +kernel) rfl rfl <| z_iload_n (pc' := 23) (j := 3) (by decide +kernel) rfl rfl <| z_iaload (pc' := 24) (by decide +kernel) hl c3 rfl <| z_aload_n (pc' := 25) (j := 2) (by decide +kernel) rfl rfl <| z_iconst (pc' := 26) (n := -1) (by decide +kernel) rfl <| z_callV (pc' := 29) (idx := 246) (mj := m_X12_letBy) (av := [iv (zI Z l v3.toNat), .ref u, iv (-1)]) (d' := 1) (by decide +kernel) rfl k_X12_letBy l_RX12_246 rfl (by omega) (am_le rfl) rfl (am_le rfl) hm.o.1 hm.o.2 rfl h) (fun h => z_iinc (pc' := 40) (j := 3) (n := 1) (x := v3) (ls' := [some (.ref m), some (.ref l), some (.ref u), some (iv (v3 + 1))]) (by decide +kernel) rfl (by decide) rfl rfl <| z_goto (tgt := 2) (off := -38) (by decide +kernel) (by decide) <| h))))
set_option maxRecDepth 20000 in
theorem b_X12_nextOf_29 {G : Gx} {Q : Rv → Zm → Prop} {Z : Zm} {m : Nat} {B : Nat} {l : Nat} {L : Nat} {u : Nat} {v3 : Int} {s0 : Int} (hm : atModel Z m B) (hl : zA Z l 100 L) (hu : zA Z u 100 20) (h : ((R32 s0) ∧ (if s0 = (-1) then (ZP G 2 m_X12_nextOf 2 [some (.ref m), some (.ref l), some (.ref u), some (iv (v3 + 1))] [] Z Q) else ((zIx v3 L) ∧ Q (.inl (some (iv (zI Z l v3.toNat)))) Z)))) : ZP G 2 m_X12_nextOf 29 [some (.ref m), some (.ref l), some (.ref u), some (iv v3)] [iv s0] Z Q := z_iconst (pc' := 30) (n := -1) (by decide +kernel) rfl <| h.elim fun c1 h => z_icmp_eq (pc' := 33) (tgt := 37) (off := 7) (by decide +kernel) (by decide) rfl c1 (by decide : R32 (-1)) (am_ite h (fun h => z_iinc (pc' := 40) (j := 3) (n := 1) (x := v3) (ls' := [some (.ref m), some (.ref l), some (.ref u), some (iv (v3 + 1))]) (by decide +kernel) rfl (by decide) rfl rfl <| z_goto (tgt := 2) (off := -38) (by decide +kernel) (by decide) <| h) (fun h => z_aload_n (pc' := 34) (j := 1) (by decide +kernel) rfl rfl <| z_iload_n (pc' := 35) (j := 3) (by decide +kernel) rfl rfl <| h.elim fun c2 h => z_iaload (pc' := 36) (by decide +kernel) hl c2 rfl <| z_ireturn (by decide +kernel) ⟨_, rfl, rfl⟩ h))
set_option maxRecDepth 20000 in
theorem e_X12_oneByOne {G : Gx} {Q : Rv → Zm → Prop} {Z : Zm} {m : Nat} {B : Nat} {l : Nat} {L : Nat} {u : Nat} (hm : atModel Z m B) (hl : zA Z l 100 L) (hu : zA Z u 100 20) (h : (ZM G 2 m_X12_triesNone [.ref m] Z (zKc G 3 m_X12_oneByOne 4 [some (.ref m), some (.ref l), some (.ref u), none, none, none, none] [] Q))) : ZM G 3 m_X12_oneByOne [.ref m, .ref l, .ref u] Z Q := ZM.of [some (.ref m), some (.ref l), some (.ref u), none, none, none, none] rfl <| z_aload_n (pc' := 1) (j := 0) (by decide +kernel) rfl rfl <| z_callV (pc' := 4) (idx := 243) (mj := m_X12_triesNone) (av := []) (d' := 2) (by decide +kernel) rfl k_X12_triesNone l_RX12_243 rfl (by omega) (am_le rfl) rfl (am_le rfl) hm.o.1 hm.o.2 rfl h
set_option maxRecDepth 20000 in
theorem b_X12_oneByOne_4 {G : Gx} {Q : Rv → Zm → Prop} {Z : Zm} {m : Nat} {B : Nat} {l : Nat} {L : Nat} {u : Nat}  (hm : atModel Z m B) (hl : zA Z l 100 L) (hu : zA Z u 100 20) (h : (ZM G 2 m_X12_nextOf [.ref m, .ref l, .ref u] Z (zKc G 3 m_X12_oneByOne 10 [some (.ref m), some (.ref l), some (.ref u), none, none, none, none] [] Q))) : ZP G 3 m_X12_oneByOne 4 [some (.ref m), some (.ref l), some (.ref u), none, none, none, none] [] Z Q := z_aload_n (pc' := 5) (j := 0) (by decide +kernel) rfl rfl <| z_aload_n (pc' := 6) (j := 1) (by decide +kernel) rfl rfl <| z_aload_n (pc' := 7) (j := 2) (by decide +kernel) rfl rfl <| z_callV (pc' := 10) (idx := 262) (mj := m_X12_nextOf) (av := [.ref l, .ref u]) (d' := 2) (by decide +kernel) rfl k_X12_nextOf l_RX12_262 rfl (by omega) (am_le rfl) rfl (am_le rfl) hm.o.1 hm.o.2 rfl h
set_option maxRecDepth 20000 in
theorem b_X12_oneByOne_10 {G : Gx} {Q : Rv → Zm → Prop} {Z : Zm} {m : Nat} {B : Nat} {l : Nat} {L : Nat} {u : Nat} {s0 : Int} (hm : atModel Z m B) (hl : zA Z l 100 L) (hu : zA Z u 100 20) (h : (ZP G 3 m_X12_oneByOne 11 [some (.ref m), some (.ref l), some (.ref u), some (iv s0), none, none, none] [] Z Q)) : ZP G 3 m_X12_oneByOne 10 [some (.ref m), some (.ref l), some (.ref u), none, none, none, none] [iv s0] Z Q := z_istore_n (pc' := 11) (j := 3) (ls' := [some (.ref m), some (.ref l), some (.ref u), some (iv s0), none, none, none]) (by decide +kernel) (by decide) rfl rfl <| h
set_option maxRecDepth 20000 in
theorem b_X12_oneByOne_11 {G : Gx} {Q : Rv → Zm → Prop} {Z : Zm} {m : Nat} {B : Nat} {l : Nat} {L : Nat} {u : Nat} {v3 : Int} (hm : atModel Z m B) (hl : zA Z l 100 L) (hu : zA Z u 100 20) (h : ((R32 v3) ∧ (if v3 = (-1) then (ZM G 2 m_X12_endBy [.ref m, .ref (m + 15), .ref u] Z (zKc G 3 m_X12_oneByOne 151 [none, none, none, none, none, none, none] [] Q)) else (ZM G 2 m_X12_letBy [.ref m, iv v3, .ref u, iv (-1)] Z (zKc G 3 m_X12_oneByOne 23 [some (.ref m), some (.ref l), some (.ref u), some (iv v3), none, none, none] [] Q))))) : ZP G 3 m_X12_oneByOne 11 [some (.ref m), some (.ref l), some (.ref u), some (iv v3), none, none, none] [] Z Q := z_iload_n (pc' := 12) (j := 3) (by decide +kernel) rfl rfl <| z_iconst (pc' := 13) (n := -1) (by decide +kernel) rfl <| h.elim fun c1 h => z_icmp_eq (pc' := 16) (tgt := 142) (off := 129) (by decide +kernel) (by decide) rfl c1 (by decide : R32 (-1)) (am_ite h (fun h => z_aload_n (pc' := 143) (j := 0) (by decide +kernel) rfl rfl <| z_aload_n (pc' := 144) (j := 0) (by decide +kernel) rfl rfl <| z_getR (pc' := 147) (idx := 45) (ci := 12) (f := 17) (by decide +kernel) f_RX12_45 rfl hm.o.1 hm.o.2 hm.r17 rfl <| z_aload_n (pc' := 148) (j := 2) (by decide +kernel) rfl rfl <| z_callV (pc' := 151) (idx := 112) (mj := m_X12_endBy) (av := [.ref (m + 15), .ref u]) (d' := 2) (by decide +kernel) rfl k_X12_endBy l_RX12_112 rfl (by omega) (am_le rfl) rfl (am_le rfl) hm.o.1 hm.o.2 rfl (ZM.mono h (zKc_wk (wk_none (wk_none (wk_none (wk_none (wk_none (wk_none (wk_none wk_nil)))))))))) (fun h => z_aload_n (pc' := 17) (j := 0) (by decide +kernel) rfl rfl <| z_iload_n (pc' := 18) (j := 3) (by decide +kernel) rfl rfl <| z_aload_n (pc' := 19) (j := 2) (by decide +kernel) rfl rfl <| z_iconst (pc' := 20) (n := -1) (by decide +kernel) rfl <| z_callV (pc' := 23) (idx := 246) (mj := m_X12_letBy) (av := [iv v3, .ref u, iv (-1)]) (d' := 2) (by decide +kernel) rfl k_X12_letBy l_RX12_246 rfl (by omega) (am_le rfl) rfl (am_le rfl) hm.o.1 hm.o.2 rfl h))
set_option maxRecDepth 20000 in
theorem b_X12_oneByOne_151 {G : Gx} {Q : Rv → Zm → Prop} {Z : Zm} {m : Nat} {B : Nat} {l : Nat} {L : Nat} {u : Nat} {s0 : Int} (hm : atModel Z m B) (hl : zA Z l 100 L) (hu : zA Z u 100 20) (h : (Q (.inl (some (iv s0))) Z)) : ZP G 3 m_X12_oneByOne 151 [none, none, none, none, none, none, none] [iv s0] Z Q := z_ireturn (by decide +kernel) ⟨_, rfl, rfl⟩ h
set_option maxRecDepth 20000 in
theorem b_X12_oneByOne_23 {G : Gx} {Q : Rv → Zm → Prop} {Z : Zm} {m : Nat} {B : Nat} {l : Nat} {L : Nat} {u : Nat} {v3 : Int} {s0 : Int} (hm : atModel Z m B) (hl : zA Z l 100 L) (hu : zA Z u 100 20) (h : (ZP G 3 m_X12_oneByOne 28 [some (.ref m), some (.ref l), some (.ref u), some (iv v3), some (iv s0), some (iv (-1)), none] [] Z Q)) : ZP G 3 m_X12_oneByOne 23 [some (.ref m), some (.ref l), some (.ref u), some (iv v3), none, none, none] [iv s0] Z Q := z_istore (pc' := 25) (j := 4) (ls' := [some (.ref m), some (.ref l), some (.ref u), some (iv v3), some (iv s0), none, none]) (by decide +kernel) (by decide) rfl rfl <| z_iconst (pc' := 26) (n := -1) (by decide +kernel) rfl <| z_istore (pc' := 28) (j := 5) (ls' := [some (.ref m), some (.ref l), some (.ref u), some (iv v3), some (iv s0), some (iv (-1)), none]) (by decide +kernel) (by decide) rfl rfl <| h
set_option maxRecDepth 20000 in
theorem b_X12_oneByOne_28 {G : Gx} {Q : Rv → Zm → Prop} {Z : Zm} {m : Nat} {B : Nat} {l : Nat} {L : Nat} {u : Nat} {v3 : Int} {v4 : Int} {v5 : Int} (hm : atModel Z m B) (hl : zA Z l 100 L) (hu : zA Z u 100 20) (h : ((R32 v5) ∧ (if v5 = (-1) then ((zIx v3 20) ∧ ZM G 2 m_X12_isMachineIn [.ref m, iv (mG Z B v3.toNat 2), iv v4, iv (v4 + (zI Z u v3.toNat)), .ref u] Z (zKc G 3 m_X12_oneByOne 53 [some (.ref m), some (.ref l), some (.ref u), some (iv v3), some (iv v4), none, none] [] Q)) else ((zIx v3 20) ∧ ∀ Z5, Z5 = zSI Z (m + 15) (zu (zI Z (m + 15)) v3.toNat v4) → ∀ Z6, Z6 = zSI Z5 (m + 16) (zu (zI Z5 (m + 16)) v3.toNat v5) → ZM G 2 m_X12_nextOf [.ref m, .ref l, .ref u] Z6 (zKc G 3 m_X12_oneByOne 138 [some (.ref m), some (.ref l), some (.ref u), none, none, none, none] [] Q))))) : ZP G 3 m_X12_oneByOne 28 [some (.ref m), some (.ref l), some (.ref u), some (iv v3), some (iv v4), some (iv v5), none] [] Z Q := z_iload (pc' := 30) (j := 5) (by decide +kernel) rfl rfl <| z_iconst (pc' := 31) (n := -1) (by decide +kernel) rfl <| h.elim fun c1 h => z_icmp_ne (pc' := 34) (tgt := 116) (off := 85) (by decide +kernel) (by decide) rfl c1 (by decide : R32 (-1)) (am_ite h (fun h => z_aload_n (pc' := 35) (j := 0) (by decide +kernel) rfl rfl <| z_aload_n (pc' := 36) (j := 0) (by decide +kernel) rfl rfl <| z_iload_n (pc' := 37) (j := 3) (by decide +kernel) rfl rfl <| z_iconst (pc' := 38) (n := 2) (by decide +kernel) rfl <| h.elim fun c3 h => z_callV (pc' := 41) (idx := 83) (mj := m_X12_get) (av := [iv v3, iv 2]) (d' := 0) (by decide +kernel) rfl k_X12_get l_RX12_83 rfl (by omega) (am_le rfl) rfl (am_le rfl) hm.o.1 hm.o.2 rfl <| zKf (s_get hm c3 ⟨by decide, by decide, by decide⟩) <| z_iload (pc' := 43) (j := 4) (by decide +kernel) rfl rfl <| z_iload (pc' := 45) (j := 4) (by decide +kernel) rfl rfl <| z_aload_n (pc' := 46) (j := 2) (by decide +kernel) rfl rfl <| z_iload_n (pc' := 47) (j := 3) (by decide +kernel) rfl rfl <| z_iaload (pc' := 48) (by decide +kernel) hu c3 rfl <| z_iadd (pc' := 49) (by decide +kernel) rfl <| z_aload_n (pc' := 50) (j := 2) (by decide +kernel) rfl rfl <| z_callV (pc' := 53) (idx := 254) (mj := m_X12_isMachineIn) (av := [iv (mG Z B v3.toNat 2), iv v4, iv (v4 + (zI Z u v3.toNat)), .ref u]) (d' := 2) (by decide +kernel) rfl k_X12_isMachineIn l_RX12_254 rfl (by omega) (am_le rfl) rfl (am_le rfl) hm.o.1 hm.o.2 rfl (ZM.mono h (zKc_wk (wk_some (wk_some (wk_some (wk_some (wk_some (wk_none (wk_none wk_nil)))))))))) (fun h => z_aload_n (pc' := 117) (j := 0) (by decide +kernel) rfl rfl <| z_getR (pc' := 120) (idx := 45) (ci := 12) (f := 17) (by decide +kernel) f_RX12_45 rfl hm.o.1 hm.o.2 hm.r17 rfl <| z_iload_n (pc' := 121) (j := 3) (by decide +kernel) rfl rfl <| z_iload (pc' := 123) (j := 4) (by decide +kernel) rfl rfl <| h.elim fun c4 h => z_iastore (pc' := 124) (by decide +kernel) hm.a17 c4 rfl <| have h := h _ rfl; z_aload_n (pc' := 125) (j := 0) (by decide +kernel) rfl rfl <| z_getR (pc' := 128) (idx := 48) (ci := 12) (f := 18) (by decide +kernel) f_RX12_48 rfl hm.o.1 hm.o.2 hm.r18 rfl <| z_iload_n (pc' := 129) (j := 3) (by decide +kernel) rfl rfl <| z_iload (pc' := 131) (j := 5) (by decide +kernel) rfl rfl <| z_iastore (pc' := 132) (by decide +kernel) hm.a18 c4 rfl <| have h := h _ rfl; z_aload_n (pc' := 133) (j := 0) (by decide +kernel) rfl rfl <| z_aload_n (pc' := 134) (j := 1) (by decide +kernel) rfl rfl <| z_aload_n (pc' := 135) (j := 2) (by decide +kernel) rfl rfl <| z_callV (pc' := 138) (idx := 262) (mj := m_X12_nextOf) (av := [.ref l, .ref u]) (d' := 2) (by decide +kernel) rfl k_X12_nextOf l_RX12_262 rfl (by omega) (am_le rfl) rfl (am_le rfl) hm.o.1 hm.o.2 rfl (ZM.mono h (zKc_wk (wk_some (wk_some (wk_some (wk_none (wk_none (wk_none (wk_none wk_nil)))))))))))
set_option maxRecDepth 20000 in
theorem b_X12_oneByOne_53 {G : Gx} {Q : Rv → Zm → Prop} {Z : Zm} {m : Nat} {B : Nat} {l : Nat} {L : Nat} {u : Nat} {v3 : Int} {v4 : Int} {s0 : Int} (hm : atModel Z m B) (hl : zA Z l 100 L) (hu : zA Z u 100 20) (h : ((R32 s0) ∧ (if s0 = 0 then (ZP G 3 m_X12_oneByOne 28 [some (.ref m), some (.ref l), some (.ref u), some (iv v3), some (iv (v4 + (b2 ((-1) = (-1))))), some (iv (-1)), none] [] Z Q) else ((zIx v3 20) ∧ (zIx (mG Z B v3.toNat 1) 3) ∧ ZM G 2 m_X12_handIn [.ref m, iv (mG Z B v3.toNat 1), iv v4, iv (v4 + (zI Z u v3.toNat)), .ref u, iv (zI Z (m + 9) (mG Z B v3.toNat 1).toNat), iv 0] Z (zKc G 3 m_X12_oneByOne 91 [some (.ref m), some (.ref l), some (.ref u), some (iv v3), some (iv v4), none, none] [] Q))))) : ZP G 3 m_X12_oneByOne 53 [some (.ref m), some (.ref l), some (.ref u), some (iv v3), some (iv v4), none, none] [iv s0] Z Q := z_istore (pc' := 55) (j := 6) (ls' := [some (.ref m), some (.ref l), some (.ref u), some (iv v3), some (iv v4), none, some (iv s0)]) (by decide +kernel) (by decide) rfl rfl <| z_iload (pc' := 57) (j := 6) (by decide +kernel) rfl rfl <| h.elim fun c1 h => z_if_eq (pc' := 60) (tgt := 94) (off := 37) (by decide +kernel) (by decide) rfl c1 (am_ite h (fun h => z_iconst (pc' := 95) (n := -1) (by decide +kernel) rfl <| z_istore (pc' := 97) (j := 5) (ls' := [some (.ref m), some (.ref l), some (.ref u), some (iv v3), some (iv v4), some (iv (-1)), some (iv s0)]) (by decide +kernel) (by decide) rfl rfl <| z_iload (pc' := 99) (j := 4) (by decide +kernel) rfl rfl <| z_iload (pc' := 101) (j := 5) (by decide +kernel) rfl rfl <| z_iconst (pc' := 102) (n := -1) (by decide +kernel) rfl <| am_use (fun k6 => z_icmp_ne (pc' := 105) (tgt := 109) (off := 7) (by decide +kernel) (by decide) rfl (by decide : R32 (-1)) (by decide : R32 (-1)) (am_ite2 (fun q7 => z_iconst (pc' := 106) (n := 1) (by decide +kernel) rfl <| z_goto (tgt := 110) (off := 4) (by decide +kernel) (by decide) <| (am_jp (P := fun z9 => ZP G 3 m_X12_oneByOne 110 [some (.ref m), some (.ref l), some (.ref u), some (iv v3), some (iv v4), some (iv (-1)), some (iv s0)] [iv z9, iv v4] _ Q) (b2_p q7) k6)) (fun q7 => z_iconst (pc' := 110) (n := 0) (by decide +kernel) rfl <| (am_jp (P := fun z9 => ZP G 3 m_X12_oneByOne 110 [some (.ref m), some (.ref l), some (.ref u), some (iv v3), some (iv v4), some (iv (-1)), some (iv s0)] [iv z9, iv v4] _ Q) (b2_f q7) k6)))) <| z_iadd (pc' := 111) (by decide +kernel) rfl <| z_istore (pc' := 113) (j := 4) (ls' := [some (.ref m), some (.ref l), some (.ref u), some (iv v3), some (iv (v4 + (b2 ((-1) = (-1))))), some (iv (-1)), some (iv s0)]) (by decide +kernel) (by decide) rfl rfl <| z_goto (tgt := 28) (off := -85) (by decide +kernel) (by decide) <| (ZP.wk (wk_some (wk_some (wk_some (wk_some (wk_some (wk_some (wk_none wk_nil))))))) h)) (fun h => z_aload_n (pc' := 61) (j := 0) (by decide +kernel) rfl rfl <| z_aload_n (pc' := 62) (j := 0) (by decide +kernel) rfl rfl <| z_iload_n (pc' := 63) (j := 3) (by decide +kernel) rfl rfl <| z_iconst (pc' := 64) (n := 1) (by decide +kernel) rfl <| h.elim fun c8 h => z_callV (pc' := 67) (idx := 83) (mj := m_X12_get) (av := [iv v3, iv 1]) (d' := 0) (by decide +kernel) rfl k_X12_get l_RX12_83 rfl (by omega) (am_le rfl) rfl (am_le rfl) hm.o.1 hm.o.2 rfl <| zKf (s_get hm c8 ⟨by decide, by decide, by decide⟩) <| z_iload (pc' := 69) (j := 4) (by decide +kernel) rfl rfl <| z_iload (pc' := 71) (j := 4) (by decide +kernel) rfl rfl <| z_aload_n (pc' := 72) (j := 2) (by decide +kernel) rfl rfl <| z_iload_n (pc' := 73) (j := 3) (by decide +kernel) rfl rfl <| z_iaload (pc' := 74) (by decide +kernel) hu c8 rfl <| z_iadd (pc' := 75) (by decide +kernel) rfl <| z_aload_n (pc' := 76) (j := 2) (by decide +kernel) rfl rfl <| z_aload_n (pc' := 77) (j := 0) (by decide +kernel) rfl rfl <| z_getR (pc' := 80) (idx := 27) (ci := 12) (f := 6) (by decide +kernel) f_RX12_27 rfl hm.o.1 hm.o.2 hm.r6 rfl <| z_aload_n (pc' := 81) (j := 0) (by decide +kernel) rfl rfl <| z_iload_n (pc' := 82) (j := 3) (by decide +kernel) rfl rfl <| z_iconst (pc' := 83) (n := 1) (by decide +kernel) rfl <| z_callV (pc' := 86) (idx := 83) (mj := m_X12_get) (av := [iv v3, iv 1]) (d' := 0) (by decide +kernel) rfl k_X12_get l_RX12_83 rfl (by omega) (am_le rfl) rfl (am_le rfl) hm.o.1 hm.o.2 rfl <| zKf (s_get hm c8 ⟨by decide, by decide, by decide⟩) <| h.elim fun c9 h => z_iaload (pc' := 87) (by decide +kernel) hm.a6 c9 rfl <| z_iconst (pc' := 88) (n := 0) (by decide +kernel) rfl <| z_callV (pc' := 91) (idx := 250) (mj := m_X12_handIn) (av := [iv (mG Z B v3.toNat 1), iv v4, iv (v4 + (zI Z u v3.toNat)), .ref u, iv (zI Z (m + 9) (mG Z B v3.toNat 1).toNat), iv 0]) (d' := 2) (by decide +kernel) rfl k_X12_handIn l_RX12_250 rfl (by omega) (am_le rfl) rfl (am_le rfl) hm.o.1 hm.o.2 rfl (ZM.mono h (zKc_wk (wk_some (wk_some (wk_some (wk_some (wk_some (wk_none (wk_none wk_nil)))))))))))
set_option maxRecDepth 20000 in
theorem b_X12_oneByOne_138 {G : Gx} {Q : Rv → Zm → Prop} {Z : Zm} {m : Nat} {B : Nat} {l : Nat} {L : Nat} {u : Nat} {s0 : Int} (hm : atModel Z m B) (hl : zA Z l 100 L) (hu : zA Z u 100 20) (h : (ZP G 3 m_X12_oneByOne 11 [some (.ref m), some (.ref l), some (.ref u), some (iv s0), none, none, none] [] Z Q)) : ZP G 3 m_X12_oneByOne 138 [some (.ref m), some (.ref l), some (.ref u), none, none, none, none] [iv s0] Z Q := z_istore_n (pc' := 139) (j := 3) (ls' := [some (.ref m), some (.ref l), some (.ref u), some (iv s0), none, none, none]) (by decide +kernel) (by decide) rfl rfl <| z_goto (tgt := 11) (off := -128) (by decide +kernel) (by decide) <| h
set_option maxRecDepth 20000 in
theorem b_X12_oneByOne_91 {G : Gx} {Q : Rv → Zm → Prop} {Z : Zm} {m : Nat} {B : Nat} {l : Nat} {L : Nat} {u : Nat} {v3 : Int} {v4 : Int} {s0 : Int} (hm : atModel Z m B) (hl : zA Z l 100 L) (hu : zA Z u 100 20) (h : ((R32 s0) ∧ ZP G 3 m_X12_oneByOne 28 [some (.ref m), some (.ref l), some (.ref u), some (iv v3), some (iv (v4 + (b2 (s0 = (-1))))), some (iv s0), none] [] Z Q)) : ZP G 3 m_X12_oneByOne 91 [some (.ref m), some (.ref l), some (.ref u), some (iv v3), some (iv v4), none, none] [iv s0] Z Q := z_goto (tgt := 95) (off := 4) (by decide +kernel) (by decide) <| z_istore (pc' := 97) (j := 5) (ls' := [some (.ref m), some (.ref l), some (.ref u), some (iv v3), some (iv v4), some (iv s0), none]) (by decide +kernel) (by decide) rfl rfl <| z_iload (pc' := 99) (j := 4) (by decide +kernel) rfl rfl <| z_iload (pc' := 101) (j := 5) (by decide +kernel) rfl rfl <| z_iconst (pc' := 102) (n := -1) (by decide +kernel) rfl <| h.elim fun c1 h => am_use (fun k4 => z_icmp_ne (pc' := 105) (tgt := 109) (off := 7) (by decide +kernel) (by decide) rfl c1 (by decide : R32 (-1)) (am_ite2 (fun q5 => z_iconst (pc' := 106) (n := 1) (by decide +kernel) rfl <| z_goto (tgt := 110) (off := 4) (by decide +kernel) (by decide) <| (am_jp (P := fun z9 => ZP G 3 m_X12_oneByOne 110 [some (.ref m), some (.ref l), some (.ref u), some (iv v3), some (iv v4), some (iv s0), none] [iv z9, iv v4] _ Q) (b2_p q5) k4)) (fun q5 => z_iconst (pc' := 110) (n := 0) (by decide +kernel) rfl <| (am_jp (P := fun z9 => ZP G 3 m_X12_oneByOne 110 [some (.ref m), some (.ref l), some (.ref u), some (iv v3), some (iv v4), some (iv s0), none] [iv z9, iv v4] _ Q) (b2_f q5) k4)))) <| z_iadd (pc' := 111) (by decide +kernel) rfl <| z_istore (pc' := 113) (j := 4) (ls' := [some (.ref m), some (.ref l), some (.ref u), some (iv v3), some (iv (v4 + (b2 (s0 = (-1))))), some (iv s0), none]) (by decide +kernel) (by decide) rfl rfl <| z_goto (tgt := 28) (off := -85) (by decide +kernel) (by decide) <| h
/-! ===== the model puts one after another ===== -/
theorem s_nextOf {G : Gx} {Z : Zm} {B u l : Nat} {P : Sp} {L : Nat → Nat} {s : Ss} (h : mCx Z B u P) (hx : pX P = -1) (hs : mTr Z P s) (hl : mLs Z P l L) : ZM G 2 m_X12_nextOf [.ref 300, .ref l, .ref u] Z (fun r W => r = .inl (some (iv (fuF P L s))) ∧ W = Z) := by
  have hP := h.2.2.1
  have hN := hP.1.n
  have hL := hl.2.2.2.1
  refine e_X12_nextOf h.1 hl.1 h.2.2.2.2.1 ?_
  suffices key : ∀ v, v ≤ kN (pK P) → (∀ w, w < v → s.1 (L w) ≠ -1 ∨ ltA P s.1 (L w) = -1) → ZP G 2 m_X12_nextOf 2 [some (.ref 300), some (.ref l), some (.ref u), some (iv (v : Int))] [] Z (fun r W => r = .inl (some (iv (fuF P L s))) ∧ W = Z) from key 0 (Nat.zero_le _) fun w hw => absurd hw (Nat.not_lt_zero _)
  refine am_up (n := kN (pK P)) fun v hv ih hw => ?_
  refine b_X12_nextOf_2 h.1 hl.1 h.2.2.2.2.1 ⟨by omega, by omega, ?_⟩
  by_cases c : v < kN (pK P)
  · have ht := hL.1 v c
    obtain ⟨t1, t2, t3, t4, t5, t6⟩ := hs (L v) ht
    have nx : (s.1 (L v) ≠ -1 ∨ ltA P s.1 (L v) = -1) → ∀ w, w < v + 1 → s.1 (L w) ≠ -1 ∨ ltA P s.1 (L w) = -1 := fun q w hw' => by
      by_cases e : w = v
      · rw [e]
        exact q
      · exact hw w (by omega)
    rw [if_neg (by omega), Int.toNat_natCast, hl.2.2.2.2 v c, Int.toNat_natCast, show zI Z (300 + 15) (L v) = s.1 (L v) from t1]
    refine ⟨zIx_nat (by omega) (by omega), zIx_nat (by omega) (by omega), by omega, ?_⟩
    by_cases c1 : s.1 (L v) = -1
    · rw [if_pos c1]
      have lb := s_letBy (G := G) h hs (t := L v) (by rw [hx]; decide) ht
      rw [hx] at lb
      refine lb.mono ?_
      rintro r W ⟨⟨rfl, r1, r2⟩, hW⟩
      obtain rfl := hW.symm
      refine b_X12_nextOf_29 h.1 hl.1 h.2.2.2.2.1 ⟨by omega, ?_⟩
      by_cases c2 : ltA P s.1 (L v) = -1
      · rw [if_pos c2]
        exact ih c (nx (Or.inr c2))
      · rw [if_neg c2, Int.toNat_natCast, hl.2.2.2.2 v c]
        refine ⟨zIx_nat (by omega) (by omega), ?_, rfl⟩
        rw [isFu_eq (fuF_is P L s) (Or.inr ⟨v, c, rfl, c1, c2, hw⟩)]
    · rw [if_neg c1]
      exact ih c (nx (Or.inl c1))
  · rw [if_pos (by omega)]
    refine ⟨?_, rfl⟩
    rw [isFu_eq (fuF_is P L s) (Or.inl ⟨rfl, fun w hw' => hw w (by omega)⟩)]
theorem ptF_nn {P : Sp} {s : Ss} {t : Nat} {x : Int} (hx : x ≠ -1) (h : nn s) : nn (ptF P s t x) := by
  unfold ptF
  by_cases c : fhF P s t x ≠ -1
  · rw [cIf_p c]
    intro u hu
    have hu' : zu s.1 t x u = -1 := hu
    show zu s.2 t _ u = -1
    by_cases e : u = t
    · rw [e, zu_same] at hu'
      exact absurd hu' hx
    · rw [zu_other e] at hu' ⊢
      exact h u hu'
  · rw [cIf_f c]
    exact h
theorem s_oneByOne {G : Gx} {Z : Zm} {B u l : Nat} {P : Sp} {L : Nat → Nat} (h : mCx Z B u P) (hx : pX P = -1) (hl : mLs Z P l L) (hS : ∀ t, t < kN (pK P) → pS P t = (kF (pK P) 1 t).toNat ∧ pM P t = kF (pK P) 2 t) (hH : ∀ c, c < 3 → zI Z 309 c = pH P c) : ZM G 3 m_X12_oneByOne [.ref 300, .ref l, .ref u] Z (fun r W => r = .inl (some (iv (zmax (fun t => (srE P L).1 t + pD P t) (kN (pK P))))) ∧ (∃ f g, W = zSI (zSI Z 315 f) 316 g) ∧ ∀ t, t < kN (pK P) → zI W 315 t = (srE P L).1 t ∧ zI W 316 t = (srE P L).2 t) := by
  have hP := h.2.2.1
  have hL := hl.2.2.2.1
  have hN := hP.1.n
  have hC : ∀ f g, mCx (zSI (zSI Z 315 f) 316 g) B u P := fun f g => (h.s (Or.inl rfl)).s (Or.inr rfl)
  have hT : ∀ f g, mLs (zSI (zSI Z 315 f) 316 g) P l L := fun f g => (hl.s (Or.inl rfl)).s (Or.inr rfl)
  have e315 : ∀ f g, zI (zSI (zSI Z 315 f) 316 g) 315 = f := fun f g => (zI_other (by decide)).trans (zI_same _ _ _)
  have e316 : ∀ f g, zI (zSI (zSI Z 315 f) 316 g) 316 = g := fun f g => zI_same _ _ _
  have e309 : ∀ f g, zI (zSI (zSI Z 315 f) 316 g) 309 = zI Z 309 := fun f g => (zI_other (by decide)).trans (zI_other (by decide))
  have up : ∀ f g f' g', zSI (zSI (zSI (zSI Z 315 f) 316 g) 315 f') 316 g' = zSI (zSI Z 315 f') 316 g' := fun f g f' g' => by
    rw [zSI_comm (zSI Z 315 f) g f' (by decide), zSI_zSI, zSI_zSI]
  generalize hR : (fun (r : Rv) (W : Zm) => r = .inl (some (iv (zmax (fun t => (srE P L).1 t + pD P t) (kN (pK P))))) ∧ (∃ f g, W = zSI (zSI Z 315 f) 316 g) ∧ ∀ t, t < kN (pK P) → zI W 315 t = (srE P L).1 t ∧ zI W 316 t = (srE P L).2 t) = R
  refine e_X12_oneByOne h.1 hl.1 h.2.2.2.2.1 (((s_triesNone h.1).deeper (by omega)).mono ?_)
  rintro r W ⟨rfl, f0, g0, rfl, hf0⟩
  have tr : ∀ n : Nat, n ≤ 20 → nn (srF P L n) → ∀ f g, (∀ t, t < kN (pK P) → f t = (srF P L n).1 t ∧ g t = (srF P L n).2 t) → mTr (zSI (zSI Z 315 f) 316 g) P (srF P L n) := fun n hn hnn f g hf => (srF_ok hP hL n).1.tr hP hnn (by omega) fun t ht => by rw [e315, e316]; exact hf t ht
  suffices outer : ∀ m n : Nat, n + m = kN (pK P) → nn (srF P L n) → ∀ f g, (∀ t, t < kN (pK P) → f t = (srF P L n).1 t ∧ g t = (srF P L n).2 t) → ZP G 3 m_X12_oneByOne 11 [some (.ref 300), some (.ref l), some (.ref u), some (iv (fuF P L (srF P L n))), none, none, none] [] (zSI (zSI Z 315 f) 316 g) R by
    refine b_X12_oneByOne_4 (hC f0 g0).1 (hT f0 g0).1 (hC f0 g0).2.2.2.2.1 ?_
    have hf : ∀ t, t < kN (pK P) → f0 t = (srF P L 0).1 t ∧ g0 t = (srF P L 0).2 t := fun t ht => hf0 t (by omega)
    refine (s_nextOf (hC f0 g0) hx (tr 0 (by omega) (fun _ _ => rfl) f0 g0 hf) (hT f0 g0)).mono ?_
    rintro r W ⟨rfl, hW⟩
    obtain rfl := hW.symm
    refine b_X12_oneByOne_10 (hC f0 g0).1 (hT f0 g0).1 (hC f0 g0).2.2.2.2.1 ?_
    exact outer (kN (pK P)) 0 (by omega) (fun _ _ => rfl) f0 g0 hf
  intro m
  have done : ∀ n, n = kN (pK P) → nn (srF P L n) → ∀ f g, (∀ t, t < kN (pK P) → f t = (srF P L n).1 t ∧ g t = (srF P L n).2 t) → ZP G 3 m_X12_oneByOne 11 [some (.ref 300), some (.ref l), some (.ref u), some (iv (fuF P L (srF P L n))), none, none, none] [] (zSI (zSI Z 315 f) 316 g) R := fun n hn hnn f g hf => by
    have eE : srF P L n = srE P L := by
      rw [hn]
      rfl
    have all : allB P (srF P L n) := by
      rw [eE]
      exact srE_all hP hL
    have t0 := tr n (by omega) hnn f g hf
    refine b_X12_oneByOne_11 (hC f g).1 (hT f g).1 (hC f g).2.2.2.2.1 ?_
    rw [(fuF_all hP hL).mpr all, if_pos rfl]
    refine ⟨by decide, ((s_endBy (len := pD P) (f := (srE P L).1) (hC f g).1 (hC f g).2.2.2.2.1 (hC f g).1.a17 (hC f g).2.1 hP.1 (fun t ht => ⟨(hC f g).2.2.2.2.2.2.2 t ht, by have := hP.2.1 t ht; omega⟩) fun t ht => ⟨by rw [e315, (hf t ht).1, eE], by
      rw [← eE]
      have := (t0 t ht).2.2
      omega⟩).deeper (by omega)).mono ?_⟩
    rintro r W ⟨rfl, hW⟩
    obtain rfl := hW.symm
    refine b_X12_oneByOne_151 (hC f g).1 (hT f g).1 (hC f g).2.2.2.2.1 ?_
    rw [← hR]
    refine ⟨rfl, ⟨f, g, rfl⟩, fun t ht => ?_⟩
    rw [e315, e316, ← eE]
    exact hf t ht
  induction m with
  | zero => exact fun n hn hnn f g hf => done n (by omega) hnn f g hf
  | succ m ih =>
    intro n hn hnn f g hf
    have t0 := tr n (by omega) hnn f g hf
    have nz : fuF P L (srF P L n) ≠ -1 := fun e => by
      have := cntS_all.mpr ((fuF_all hP hL).mp e)
      have := srF_cnt hP hL n (by omega)
      omega
    have fr : 0 ≤ fuF P L (srF P L n) := by
      rcases fuF_is P L (srF P L n) with ⟨q, -⟩ | ⟨v, v1, v2, -⟩
      · exact absurd q nz
      · omega
    obtain ⟨t, et⟩ : ∃ t : Nat, fuF P L (srF P L n) = (t : Int) := ⟨(fuF P L (srF P L n)).toNat, by omega⟩
    obtain ⟨ht, s0, l0, ft, ft0, ft1, so⟩ := srF_step hP hL (E := 90 * (n : Int)) (by omega) (srF_ok hP hL n) et
    have sn : srF P L (n + 1) = ptF P (srF P L n) t (ftF P (srF P L n) t) := by
      show cIf (fuF P L (srF P L n) = -1) (srF P L n) (ptF P (srF P L n) (fuF P L (srF P L n)).toNat (ftF P (srF P L n) (fuF P L (srF P L n)).toNat)) = _
      rw [cIf_f nz, et, Int.toNat_natCast]
    have nn1 : nn (srF P L (n + 1)) := by
      rw [sn]
      exact ptF_nn (by omega) hnn
    have ih' := ih (n + 1) (by omega) nn1
    have tr' := tr (n + 1) (by omega) nn1
    rw [sn] at ih' tr'
    rw [et]
    generalize srF P L n = s at *
    have ks := (hC f g).2.1.k ht (r := 1) (by omega)
    have km := (hC f g).2.1.k ht (r := 2) (by omega)
    have rs := hP.1.s ht
    have rm := hP.1.f (r := 2) (by omega) ht
    have rh := hP.2.2.1 t ht
    have hD := hP.2.1 t ht
    have eu : zI (zSI (zSI Z 315 f) 316 g) u t = pD P t := (hC f g).2.2.2.2.2.2.2 t ht
    refine b_X12_oneByOne_11 (hC f g).1 (hT f g).1 (hC f g).2.2.2.2.1 ⟨by omega, ?_⟩
    rw [if_neg (by omega)]
    have lb := s_letBy (G := G) (hC f g) t0 (t := t) (by rw [hx]; decide) ht
    rw [hx] at lb
    refine (lb.deeper (by omega)).mono ?_
    rintro r W ⟨⟨rfl, r1, r2⟩, hW⟩
    obtain rfl := hW.symm
    refine b_X12_oneByOne_23 (hC f g).1 (hT f g).1 (hC f g).2.2.2.2.1 ?_
    have l1 := lt_ge l0
    have l2 := ft.1
    suffices find : ∀ i, i ≤ (ftF P s t - ltA P s.1 t).toNat → ZP G 3 m_X12_oneByOne 28 [some (.ref 300), some (.ref l), some (.ref u), some (iv (t : Int)), some (iv (ltA P s.1 t + (i : Int))), some (iv (-1)), none] [] (zSI (zSI Z 315 f) 316 g) R by
      have h9 := find 0 (Nat.zero_le _)
      rw [show ltA P s.1 t + ((0 : Nat) : Int) = ltA P s.1 t by omega] at h9
      exact h9
    refine am_up (n := (ftF P s t - ltA P s.1 t).toNat) fun i hi ihi => ?_
    have nxt : i < (ftF P s t - ltA P s.1 t).toNat → ZP G 3 m_X12_oneByOne 28 [some (.ref 300), some (.ref l), some (.ref u), some (iv (t : Int)), some (iv (ltA P s.1 t + (i : Int) + 1)), some (iv (-1)), none] [] (zSI (zSI Z 315 f) 316 g) R := fun q => by
      have h9 := ihi q
      rw [show ltA P s.1 t + ((i + 1 : Nat) : Int) = ltA P s.1 t + (i : Int) + 1 by omega] at h9
      exact h9
    refine b_X12_oneByOne_28 (hC f g).1 (hT f g).1 (hC f g).2.2.2.2.1 ⟨by decide, ?_⟩
    rw [if_pos rfl, Int.toNat_natCast, km, eu]
    -- whether it can be put there
    have at1 : i < (ftF P s t - ltA P s.1 t).toNat → fhF P s t (ltA P s.1 t + (i : Int)) = -1 := fun q => ft.2.2 _ (by omega) (by omega)
    have at2 : ¬ i < (ftF P s t - ltA P s.1 t).toNat → ltA P s.1 t + (i : Int) = ftF P s t := fun q => by omega
    generalize ex : ltA P s.1 t + (i : Int) = x at *
    refine ⟨zIx_nat (by omega) (by omega), ((s_isMachineIn (m := kF (pK P) 2 t) (hC f g) t0 (by omega) (by omega) (by omega) fun t' ht' => (hS t' ht').2).deeper (by omega)).mono ?_⟩
    rintro r W ⟨⟨w, rfl, hw⟩, hW⟩
    obtain rfl := hW.symm
    rw [← (hS t ht).2] at hw
    refine b_X12_oneByOne_53 (hC f g).1 (hT f g).1 (hC f g).2.2.2.2.1 ⟨b01_r hw.r, ?_⟩
    rcases hw with ⟨w1, w2⟩ | ⟨w1, w2⟩
    case inr =>
      have fn : fhF P s t x = -1 := by
        unfold fhF
        exact cIf_f w2
      have lt : i < (ftF P s t - ltA P s.1 t).toNat := Classical.byContradiction fun q => by
        have := ft.2.1
        rw [← at2 q] at this
        exact this fn
      rw [if_pos w1, show x + b2 ((-1 : Int) = -1) = x + 1 by rfl]
      exact nxt lt
    have ef : fhF P s t x = hdF P s (pS P t) x (x + pD P t) := cIf_p w2
    rw [if_neg (by omega), Int.toNat_natCast, ks, eu, show zI (zSI (zSI Z 315 f) 316 g) (300 + 9) (kF (pK P) 1 t).toNat = pH P (pS P t) by
      rw [show 300 + 9 = 309 from rfl, e309, (hS t ht).1]
      exact hH _ (by omega)]
    refine ⟨zIx_nat (by omega) (by omega), ⟨by omega, by omega, by decide⟩, ((s_handIn (sk := kF (pK P) 1 t) (c := pS P t) (a := 0) (hC f g) t0 (by omega) (by omega) (by omega) (by decide) (by omega) fun t' ht' => ?_).deeper (by omega)).mono ?_⟩
    · rw [(hS t' ht').1, (hS t ht).1]
      have := hP.1.s ht'
      constructor
      · intro e
        exact Or.inr (by omega)
      · rintro (e | e)
        · exact absurd rfl e
        · rw [e]
    rintro r W ⟨rfl, hW⟩
    obtain rfl := hW.symm
    rw [← ef]
    have fr2 := fhF_r (s := s) hP ht x
    refine b_X12_oneByOne_91 (hC f g).1 (hT f g).1 (hC f g).2.2.2.2.1 ⟨by omega, ?_⟩
    by_cases c1 : fhF P s t x = -1
    · have lt : i < (ftF P s t - ltA P s.1 t).toNat := Classical.byContradiction fun q => by
        have := ft.2.1
        rw [← at2 q] at this
        exact this c1
      rw [c1, show x + b2 ((-1 : Int) = -1) = x + 1 by rfl]
      exact nxt lt
    · have ge : x = ftF P s t := at2 fun q => c1 (at1 q)
      rw [b2_f c1, Int.add_zero]
      refine b_X12_oneByOne_28 (hC f g).1 (hT f g).1 (hC f g).2.2.2.2.1 ⟨by omega, ?_⟩
      rw [if_neg c1]
      refine ⟨zIx_nat (by omega) (by omega), ?_⟩
      rintro _ rfl
      rintro _ rfl
      rw [Int.toNat_natCast, show 300 + 15 = 315 from rfl, show 300 + 16 = 316 from rfl, zI_other (f := zu (zI (zSI (zSI Z 315 f) 316 g) 315) t x) (show 316 ≠ 315 by decide), e315, e316, up]
      have es : ptF P s t (ftF P s t) = (zu s.1 t x, zu s.2 t (fhF P s t x)) := by
        rw [← ge]
        exact cIf_p c1
      rw [es] at ih' tr'
      have hf' : ∀ t', t' < kN (pK P) → zu f t x t' = (zu s.1 t x, zu s.2 t (fhF P s t x)).1 t' ∧ zu g t (fhF P s t x) t' = (zu s.1 t x, zu s.2 t (fhF P s t x)).2 t' := fun t' ht' => by
        show zu f t x t' = zu s.1 t x t' ∧ zu g t (fhF P s t x) t' = zu s.2 t (fhF P s t x) t'
        by_cases e : t' = t
        · rw [e, zu_same, zu_same, zu_same, zu_same]
          exact ⟨rfl, rfl⟩
        · rw [zu_other e, zu_other e, zu_other e, zu_other e]
          exact hf t' ht'
      refine (s_nextOf (hC _ _) hx (tr' _ _ hf') (hT _ _)).mono ?_
      rintro r W ⟨rfl, hW⟩
      obtain rfl := hW.symm
      refine b_X12_oneByOne_138 (hC _ _).1 (hT _ _).1 (hC _ _).2.2.2.2.1 ?_
      exact ih' _ _ hf'
