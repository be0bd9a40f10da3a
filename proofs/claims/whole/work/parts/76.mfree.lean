set_option maxRecDepth 20000 in
theorem e_X12_free {G : Gx} {Q : Rv → Zm → Prop} {Z : Zm} {m : Nat} {B : Nat} {l : Nat} {L : Nat} {u : Nat} {q : Nat} {H : Nat} {a : Int} {x : Int} (hm : atModel Z m B) (hl : zA Z l 100 L) (hu : zA Z u 100 20) (hq : zA Z q 100 H) (h : (ZM G 1 m_X12_triesNone [.ref m] Z (zKc G 2 m_X12_free 4 [some (.ref m), some (.ref l), some (.ref u), some (.ref q), some (iv a), some (iv x), none, none, none, none, none, none] [] Q))) : ZM G 2 m_X12_free [.ref m, .ref l, .ref u, .ref q, iv a, iv x] Z Q := ZM.of [some (.ref m), some (.ref l), some (.ref u), some (.ref q), some (iv a), some (iv x), none, none, none, none, none, none] rfl <| z_aload_n (pc' := 1) (j := 0) (by decide +kernel) rfl rfl <| z_callV (pc' := 4) (idx := 243) (mj := m_X12_triesNone) (av := []) (d' := 1) (by decide +kernel) rfl k_X12_triesNone l_RX12_243 rfl (by omega) (am_le rfl) rfl (am_le rfl) hm.o.1 hm.o.2 rfl h
set_option maxRecDepth 20000 in
theorem b_X12_free_4 {G : Gx} {Q : Rv → Zm → Prop} {Z : Zm} {m : Nat} {B : Nat} {l : Nat} {L : Nat} {u : Nat} {q : Nat} {H : Nat} {a : Int} {x : Int}  (hm : atModel Z m B) (hl : zA Z l 100 L) (hu : zA Z u 100 20) (hq : zA Z q 100 H) (h : (ZP G 2 m_X12_free 13 [some (.ref m), some (.ref l), some (.ref u), some (.ref q), some (iv a), some (iv x), some (iv (zI Z B 0)), some (iv 0), none, none, none, none] [] Z Q)) : ZP G 2 m_X12_free 4 [some (.ref m), some (.ref l), some (.ref u), some (.ref q), some (iv a), some (iv x), none, none, none, none, none, none] [] Z Q := z_aload_n (pc' := 5) (j := 0) (by decide +kernel) rfl rfl <| z_callV (pc' := 8) (idx := 64) (mj := m_X12_many) (av := []) (d' := 0) (by decide +kernel) rfl k_X12_many l_RX12_64 rfl (by omega) (am_le rfl) rfl (am_le rfl) hm.o.1 hm.o.2 rfl <| zKf (s_many hm) <| z_istore (pc' := 10) (j := 6) (ls' := [some (.ref m), some (.ref l), some (.ref u), some (.ref q), some (iv a), some (iv x), some (iv (zI Z B 0)), none, none, none, none, none]) (by decide +kernel) (by decide) rfl rfl <| z_iconst (pc' := 11) (n := 0) (by decide +kernel) rfl <| z_istore (pc' := 13) (j := 7) (ls' := [some (.ref m), some (.ref l), some (.ref u), some (.ref q), some (iv a), some (iv x), some (iv (zI Z B 0)), some (iv 0), none, none, none, none]) (by decide +kernel) (by decide) rfl rfl <| h
set_option maxRecDepth 20000 in
theorem b_X12_free_13 {G : Gx} {Q : Rv → Zm → Prop} {Z : Zm} {m : Nat} {B : Nat} {l : Nat} {L : Nat} {u : Nat} {q : Nat} {H : Nat} {a : Int} {x : Int} {v6 : Int} {v7 : Int} (hm : atModel Z m B) (hl : zA Z l 100 L) (hu : zA Z u 100 20) (hq : zA Z q 100 H) (h : ((R32 v6) ∧ (if v6 ≤ 0 then (ZM G 1 m_X12_endBy [.ref m, .ref (m + 15), .ref u] Z (zKc G 2 m_X12_free 198 [none, none, none, none, none, none, none, none, none, none, none, none] [] Q)) else (ZP G 2 m_X12_free 21 [some (.ref m), some (.ref l), some (.ref u), some (.ref q), some (iv a), some (iv x), some (iv v6), some (iv v7), some (iv 0), none, none, none] [] Z Q)))) : ZP G 2 m_X12_free 13 [some (.ref m), some (.ref l), some (.ref u), some (.ref q), some (iv a), some (iv x), some (iv v6), some (iv v7), none, none, none, none] [] Z Q := z_iload (pc' := 15) (j := 6) (by decide +kernel) rfl rfl <| h.elim fun c1 h => z_if_le (pc' := 18) (tgt := 189) (off := 174) (by decide +kernel) (by decide) rfl c1 (am_ite h (fun h => z_aload_n (pc' := 190) (j := 0) (by decide +kernel) rfl rfl <| z_aload_n (pc' := 191) (j := 0) (by decide +kernel) rfl rfl <| z_getR (pc' := 194) (idx := 45) (ci := 12) (f := 17) (by decide +kernel) f_RX12_45 rfl hm.o.1 hm.o.2 hm.r17 rfl <| z_aload_n (pc' := 195) (j := 2) (by decide +kernel) rfl rfl <| z_callV (pc' := 198) (idx := 112) (mj := m_X12_endBy) (av := [.ref (m + 15), .ref u]) (d' := 1) (by decide +kernel) rfl k_X12_endBy l_RX12_112 rfl (by omega) (am_le rfl) rfl (am_le rfl) hm.o.1 hm.o.2 rfl (ZM.mono h (zKc_wk (wk_none (wk_none (wk_none (wk_none (wk_none (wk_none (wk_none (wk_none (wk_none (wk_none (wk_none (wk_none wk_nil))))))))))))))) (fun h => z_iconst (pc' := 19) (n := 0) (by decide +kernel) rfl <| z_istore (pc' := 21) (j := 8) (ls' := [some (.ref m), some (.ref l), some (.ref u), some (.ref q), some (iv a), some (iv x), some (iv v6), some (iv v7), some (iv 0), none, none, none]) (by decide +kernel) (by decide) rfl rfl <| h))
set_option maxRecDepth 20000 in
theorem b_X12_free_198 {G : Gx} {Q : Rv → Zm → Prop} {Z : Zm} {m : Nat} {B : Nat} {l : Nat} {L : Nat} {u : Nat} {q : Nat} {H : Nat} {s0 : Int} (hm : atModel Z m B) (hl : zA Z l 100 L) (hu : zA Z u 100 20) (hq : zA Z q 100 H) (h : (Q (.inl (some (iv s0))) Z)) : ZP G 2 m_X12_free 198 [none, none, none, none, none, none, none, none, none, none, none, none] [iv s0] Z Q := z_ireturn (by decide +kernel) ⟨_, rfl, rfl⟩ h
set_option maxRecDepth 20000 in
theorem b_X12_free_21 {G : Gx} {Q : Rv → Zm → Prop} {Z : Zm} {m : Nat} {B : Nat} {l : Nat} {L : Nat} {u : Nat} {q : Nat} {H : Nat} {a : Int} {x : Int} {v6 : Int} {v7 : Int} {v8 : Int} (hm : atModel Z m B) (hl : zA Z l 100 L) (hu : zA Z u 100 20) (hq : zA Z q 100 H) (h : ((R32 v8) ∧ (R32 (L : Int)) ∧ (if (L : Int) ≤ v8 then (ZM G 1 m_X12_nextTime [.ref m, iv v7, .ref u] Z (zKc G 2 m_X12_free 184 [some (.ref m), some (.ref l), some (.ref u), some (.ref q), some (iv a), some (iv x), some (iv v6), none, none, none, none, none] [] Q)) else ((zIx v8 L) ∧ (zIx (zI Z l v8.toNat) 20) ∧ (R32 (zI Z (m + 15) (zI Z l v8.toNat).toNat)) ∧ (if (zI Z (m + 15) (zI Z l v8.toNat).toNat) = (-1) then (ZM G 1 m_X12_letBy [.ref m, iv (zI Z l v8.toNat), .ref u, iv x] Z (zKc G 2 m_X12_free 54 [some (.ref m), some (.ref l), some (.ref u), some (.ref q), some (iv a), some (iv x), some (iv v6), some (iv v7), some (iv v8), some (iv (zI Z l v8.toNat)), none, none] [] Q)) else ((if (-1) = (-1) then (ZP G 2 m_X12_free 21 [some (.ref m), some (.ref l), some (.ref u), some (.ref q), some (iv a), some (iv x), some (iv v6), some (iv v7), some (iv (v8 + 1)), none, none, none] [] Z Q) else ((R32 v7) ∧ (if (-1) ≤ v7 then ((R32 a) ∧ (a = 0 → (zIx (mG Z B (zI Z l v8.toNat).toNat 1) H) ∧ True) ∧ (¬ (a = 0) → (zIx 0 H) ∧ True) ∧ ZM G 1 m_X12_handIn [.ref m, iv (mG Z B (zI Z l v8.toNat).toNat 1), iv v7, iv (v7 + 1), .ref u, iv (if a = 0 then zI Z q (mG Z B (zI Z l v8.toNat).toNat 1).toNat else zI Z q 0), iv a] Z (zKc G 2 m_X12_free 116 [some (.ref m), some (.ref l), some (.ref u), some (.ref q), some (iv a), some (iv x), some (iv v6), some (iv v7), some (iv v8), some (iv (zI Z l v8.toNat)), none, none] [] Q)) else (ZP G 2 m_X12_free 21 [some (.ref m), some (.ref l), some (.ref u), some (.ref q), some (iv a), some (iv x), some (iv v6), some (iv v7), some (iv (v8 + 1)), none, none, none] [] Z Q)))))))))) : ZP G 2 m_X12_free 21 [some (.ref m), some (.ref l), some (.ref u), some (.ref q), some (iv a), some (iv x), some (iv v6), some (iv v7), some (iv v8), none, none, none] [] Z Q := z_iload (pc' := 23) (j := 8) (by decide +kernel) rfl rfl <| z_aload_n (pc' := 24) (j := 1) (by decide +kernel) rfl rfl <| z_alen (pc' := 25) (by decide +kernel) hl (by decide) rfl <| h.elim fun c1 h => h.elim fun c2 h => z_icmp_ge (pc' := 28) (tgt := 177) (off := 152) (by decide +kernel) (by decide) rfl c1 c2 (am_ite h (fun h => z_aload_n (pc' := 178) (j := 0) (by decide +kernel) rfl rfl <| z_iload (pc' := 180) (j := 7) (by decide +kernel) rfl rfl <| z_aload_n (pc' := 181) (j := 2) (by decide +kernel) rfl rfl <| z_callV (pc' := 184) (idx := 257) (mj := m_X12_nextTime) (av := [iv v7, .ref u]) (d' := 1) (by decide +kernel) rfl k_X12_nextTime l_RX12_257 rfl (by omega) (am_le rfl) rfl (am_le rfl) hm.o.1 hm.o.2 rfl (ZM.mono h (zKc_wk (wk_some (wk_some (wk_some (wk_some (wk_some (wk_some (wk_some (wk_none (wk_none (wk_none (wk_none (wk_none wk_nil))))))))))))))) (fun h => z_aload_n (pc' := 29) (j := 1) (by decide +kernel) rfl rfl <| z_iload (pc' := 31) (j := 8) (by decide +kernel) rfl rfl <| h.elim fun c6 h => z_iaload (pc' := 32) (by decide +kernel) hl c6 rfl <| z_istore (pc' := 34) (j := 9) (ls' := [some (.ref m), some (.ref l), some (.ref u), some (.ref q), some (iv a), some (iv x), some (iv v6), some (iv v7), some (iv v8), some (iv (zI Z l v8.toNat)), none, none]) (by decide +kernel) (by decide) rfl rfl <| z_aload_n (pc' := 35) (j := 0) (by decide +kernel) rfl rfl <| z_getR (pc' := 38) (idx := 45) (ci := 12) (f := 17) (by decide +kernel) f_RX12_45 rfl hm.o.1 hm.o.2 hm.r17 rfl <| z_iload (pc' := 40) (j := 9) (by decide +kernel) rfl rfl <| h.elim fun c7 h => z_iaload (pc' := 41) (by decide +kernel) hm.a17 c7 rfl <| z_iconst (pc' := 42) (n := -1) (by decide +kernel) rfl <| h.elim fun c8 h => z_icmp_ne (pc' := 45) (tgt := 57) (off := 15) (by decide +kernel) (by decide) rfl c8 (by decide : R32 (-1)) (am_ite h (fun h => z_aload_n (pc' := 46) (j := 0) (by decide +kernel) rfl rfl <| z_iload (pc' := 48) (j := 9) (by decide +kernel) rfl rfl <| z_aload_n (pc' := 49) (j := 2) (by decide +kernel) rfl rfl <| z_iload (pc' := 51) (j := 5) (by decide +kernel) rfl rfl <| z_callV (pc' := 54) (idx := 246) (mj := m_X12_letBy) (av := [iv (zI Z l v8.toNat), .ref u, iv x]) (d' := 1) (by decide +kernel) rfl k_X12_letBy l_RX12_246 rfl (by omega) (am_le rfl) rfl (am_le rfl) hm.o.1 hm.o.2 rfl h) (fun h => z_iconst (pc' := 58) (n := -1) (by decide +kernel) rfl <| z_istore (pc' := 60) (j := 10) (ls' := [some (.ref m), some (.ref l), some (.ref u), some (.ref q), some (iv a), some (iv x), some (iv v6), some (iv v7), some (iv v8), some (iv (zI Z l v8.toNat)), some (iv (-1)), none]) (by decide +kernel) (by decide) rfl rfl <| z_iload (pc' := 62) (j := 10) (by decide +kernel) rfl rfl <| z_iconst (pc' := 63) (n := -1) (by decide +kernel) rfl <| z_icmp_eq (pc' := 66) (tgt := 171) (off := 108) (by decide +kernel) (by decide) rfl (by decide : R32 (-1)) (by decide : R32 (-1)) (am_ite h (fun h => z_iinc (pc' := 174) (j := 8) (n := 1) (x := v8) (ls' := [some (.ref m), some (.ref l), some (.ref u), some (.ref q), some (iv a), some (iv x), some (iv v6), some (iv v7), some (iv (v8 + 1)), some (iv (zI Z l v8.toNat)), some (iv (-1)), none]) (by decide +kernel) rfl (by decide) rfl rfl <| z_goto (tgt := 21) (off := -153) (by decide +kernel) (by decide) <| (ZP.wk (wk_some (wk_some (wk_some (wk_some (wk_some (wk_some (wk_some (wk_some (wk_some (wk_none (wk_none (wk_none wk_nil)))))))))))) h)) (fun h => z_iload (pc' := 68) (j := 10) (by decide +kernel) rfl rfl <| z_iload (pc' := 70) (j := 7) (by decide +kernel) rfl rfl <| h.elim fun c17 h => z_icmp_le (pc' := 73) (tgt := 76) (off := 6) (by decide +kernel) (by decide) rfl (by decide : R32 (-1)) c17 (am_ite h (fun h => z_aload_n (pc' := 77) (j := 0) (by decide +kernel) rfl rfl <| z_aload_n (pc' := 78) (j := 0) (by decide +kernel) rfl rfl <| z_iload (pc' := 80) (j := 9) (by decide +kernel) rfl rfl <| z_iconst (pc' := 81) (n := 1) (by decide +kernel) rfl <| z_callV (pc' := 84) (idx := 83) (mj := m_X12_get) (av := [iv (zI Z l v8.toNat), iv 1]) (d' := 0) (by decide +kernel) rfl k_X12_get l_RX12_83 rfl (by omega) (am_le rfl) rfl (am_le rfl) hm.o.1 hm.o.2 rfl <| zKf (s_get hm c7 ⟨by decide, by decide, by decide⟩) <| z_iload (pc' := 86) (j := 7) (by decide +kernel) rfl rfl <| z_iload (pc' := 88) (j := 7) (by decide +kernel) rfl rfl <| z_iconst (pc' := 89) (n := 1) (by decide +kernel) rfl <| z_iadd (pc' := 90) (by decide +kernel) rfl <| z_aload_n (pc' := 91) (j := 2) (by decide +kernel) rfl rfl <| z_iload (pc' := 93) (j := 4) (by decide +kernel) rfl rfl <| h.elim fun c25 h => h.elim fun g28 h => h.elim fun g29 h => am_use (fun k30 => z_if_eq (pc' := 96) (tgt := 102) (off := 9) (by decide +kernel) (by decide) rfl c25 (am_ite2 (fun q31 => have h := g28 q31; z_aload_n (pc' := 103) (j := 3) (by decide +kernel) rfl rfl <| z_aload_n (pc' := 104) (j := 0) (by decide +kernel) rfl rfl <| z_iload (pc' := 106) (j := 9) (by decide +kernel) rfl rfl <| z_iconst (pc' := 107) (n := 1) (by decide +kernel) rfl <| z_callV (pc' := 110) (idx := 83) (mj := m_X12_get) (av := [iv (zI Z l v8.toNat), iv 1]) (d' := 0) (by decide +kernel) rfl k_X12_get l_RX12_83 rfl (by omega) (am_le rfl) rfl (am_le rfl) hm.o.1 hm.o.2 rfl <| zKf (s_get hm c7 ⟨by decide, by decide, by decide⟩) <| h.elim fun c26 h => z_iaload (pc' := 111) (by decide +kernel) hq c26 rfl <| (am_jp (P := fun z9 => ZP G 2 m_X12_free 111 [some (.ref m), some (.ref l), some (.ref u), some (.ref q), some (iv a), some (iv x), some (iv v6), some (iv v7), some (iv v8), some (iv (zI Z l v8.toNat)), some (iv (-1)), none] [iv z9, .ref u, iv (v7 + 1), iv v7, iv (mG Z B (zI Z l v8.toNat).toNat 1), .ref m] _ Q) (if_pos q31) k30)) (fun q31 => have h := g29 q31; z_aload_n (pc' := 97) (j := 3) (by decide +kernel) rfl rfl <| z_iconst (pc' := 98) (n := 0) (by decide +kernel) rfl <| h.elim fun c27 h => z_iaload (pc' := 99) (by decide +kernel) hq c27 rfl <| z_goto (tgt := 111) (off := 12) (by decide +kernel) (by decide) <| (am_jp (P := fun z9 => ZP G 2 m_X12_free 111 [some (.ref m), some (.ref l), some (.ref u), some (.ref q), some (iv a), some (iv x), some (iv v6), some (iv v7), some (iv v8), some (iv (zI Z l v8.toNat)), some (iv (-1)), none] [iv z9, .ref u, iv (v7 + 1), iv v7, iv (mG Z B (zI Z l v8.toNat).toNat 1), .ref m] _ Q) (if_neg q31) k30)))) <| z_iload (pc' := 113) (j := 4) (by decide +kernel) rfl rfl <| z_callV (pc' := 116) (idx := 250) (mj := m_X12_handIn) (av := [iv (mG Z B (zI Z l v8.toNat).toNat 1), iv v7, iv (v7 + 1), .ref u, iv (if a = 0 then zI Z q (mG Z B (zI Z l v8.toNat).toNat 1).toNat else zI Z q 0), iv a]) (d' := 1) (by decide +kernel) rfl k_X12_handIn l_RX12_250 rfl (by omega) (am_le rfl) rfl (am_le rfl) hm.o.1 hm.o.2 rfl (ZM.mono h (zKc_wk (wk_some (wk_some (wk_some (wk_some (wk_some (wk_some (wk_some (wk_some (wk_some (wk_some (wk_none (wk_none wk_nil))))))))))))))) (fun h => z_goto (tgt := 171) (off := 98) (by decide +kernel) (by decide) <| z_iinc (pc' := 174) (j := 8) (n := 1) (x := v8) (ls' := [some (.ref m), some (.ref l), some (.ref u), some (.ref q), some (iv a), some (iv x), some (iv v6), some (iv v7), some (iv (v8 + 1)), some (iv (zI Z l v8.toNat)), some (iv (-1)), none]) (by decide +kernel) rfl (by decide) rfl rfl <| z_goto (tgt := 21) (off := -153) (by decide +kernel) (by decide) <| (ZP.wk (wk_some (wk_some (wk_some (wk_some (wk_some (wk_some (wk_some (wk_some (wk_some (wk_none (wk_none (wk_none wk_nil)))))))))))) h)))))))))
set_option maxRecDepth 20000 in
theorem b_X12_free_184 {G : Gx} {Q : Rv → Zm → Prop} {Z : Zm} {m : Nat} {B : Nat} {l : Nat} {L : Nat} {u : Nat} {q : Nat} {H : Nat} {a : Int} {x : Int} {v6 : Int} {s0 : Int} (hm : atModel Z m B) (hl : zA Z l 100 L) (hu : zA Z u 100 20) (hq : zA Z q 100 H) (h : (ZP G 2 m_X12_free 13 [some (.ref m), some (.ref l), some (.ref u), some (.ref q), some (iv a), some (iv x), some (iv v6), some (iv s0), none, none, none, none] [] Z Q)) : ZP G 2 m_X12_free 184 [some (.ref m), some (.ref l), some (.ref u), some (.ref q), some (iv a), some (iv x), some (iv v6), none, none, none, none, none] [iv s0] Z Q := z_istore (pc' := 186) (j := 7) (ls' := [some (.ref m), some (.ref l), some (.ref u), some (.ref q), some (iv a), some (iv x), some (iv v6), some (iv s0), none, none, none, none]) (by decide +kernel) (by decide) rfl rfl <| z_goto (tgt := 13) (off := -173) (by decide +kernel) (by decide) <| h
set_option maxRecDepth 20000 in
theorem b_X12_free_54 {G : Gx} {Q : Rv → Zm → Prop} {Z : Zm} {m : Nat} {B : Nat} {l : Nat} {L : Nat} {u : Nat} {q : Nat} {H : Nat} {a : Int} {x : Int} {v6 : Int} {v7 : Int} {v8 : Int} {v9 : Int} {s0 : Int} (hm : atModel Z m B) (hl : zA Z l 100 L) (hu : zA Z u 100 20) (hq : zA Z q 100 H) (h : ((R32 s0) ∧ (if s0 = (-1) then (ZP G 2 m_X12_free 21 [some (.ref m), some (.ref l), some (.ref u), some (.ref q), some (iv a), some (iv x), some (iv v6), some (iv v7), some (iv (v8 + 1)), none, none, none] [] Z Q) else ((R32 v7) ∧ (if s0 ≤ v7 then ((zIx v9 20) ∧ (R32 a) ∧ (a = 0 → (zIx (mG Z B v9.toNat 1) H) ∧ True) ∧ (¬ (a = 0) → (zIx 0 H) ∧ True) ∧ ZM G 1 m_X12_handIn [.ref m, iv (mG Z B v9.toNat 1), iv v7, iv (v7 + 1), .ref u, iv (if a = 0 then zI Z q (mG Z B v9.toNat 1).toNat else zI Z q 0), iv a] Z (zKc G 2 m_X12_free 116 [some (.ref m), some (.ref l), some (.ref u), some (.ref q), some (iv a), some (iv x), some (iv v6), some (iv v7), some (iv v8), some (iv v9), none, none] [] Q)) else (ZP G 2 m_X12_free 21 [some (.ref m), some (.ref l), some (.ref u), some (.ref q), some (iv a), some (iv x), some (iv v6), some (iv v7), some (iv (v8 + 1)), none, none, none] [] Z Q)))))) : ZP G 2 m_X12_free 54 [some (.ref m), some (.ref l), some (.ref u), some (.ref q), some (iv a), some (iv x), some (iv v6), some (iv v7), some (iv v8), some (iv v9), none, none] [iv s0] Z Q := z_goto (tgt := 58) (off := 4) (by decide +kernel) (by decide) <| z_istore (pc' := 60) (j := 10) (ls' := [some (.ref m), some (.ref l), some (.ref u), some (.ref q), some (iv a), some (iv x), some (iv v6), some (iv v7), some (iv v8), some (iv v9), some (iv s0), none]) (by decide +kernel) (by decide) rfl rfl <| z_iload (pc' := 62) (j := 10) (by decide +kernel) rfl rfl <| z_iconst (pc' := 63) (n := -1) (by decide +kernel) rfl <| h.elim fun c1 h => z_icmp_eq (pc' := 66) (tgt := 171) (off := 108) (by decide +kernel) (by decide) rfl c1 (by decide : R32 (-1)) (am_ite h (fun h => z_iinc (pc' := 174) (j := 8) (n := 1) (x := v8) (ls' := [some (.ref m), some (.ref l), some (.ref u), some (.ref q), some (iv a), some (iv x), some (iv v6), some (iv v7), some (iv (v8 + 1)), some (iv v9), some (iv s0), none]) (by decide +kernel) rfl (by decide) rfl rfl <| z_goto (tgt := 21) (off := -153) (by decide +kernel) (by decide) <| (ZP.wk (wk_some (wk_some (wk_some (wk_some (wk_some (wk_some (wk_some (wk_some (wk_some (wk_none (wk_none (wk_none wk_nil)))))))))))) h)) (fun h => z_iload (pc' := 68) (j := 10) (by decide +kernel) rfl rfl <| z_iload (pc' := 70) (j := 7) (by decide +kernel) rfl rfl <| h.elim fun c11 h => z_icmp_le (pc' := 73) (tgt := 76) (off := 6) (by decide +kernel) (by decide) rfl c1 c11 (am_ite h (fun h => z_aload_n (pc' := 77) (j := 0) (by decide +kernel) rfl rfl <| z_aload_n (pc' := 78) (j := 0) (by decide +kernel) rfl rfl <| z_iload (pc' := 80) (j := 9) (by decide +kernel) rfl rfl <| z_iconst (pc' := 81) (n := 1) (by decide +kernel) rfl <| h.elim fun c20 h => z_callV (pc' := 84) (idx := 83) (mj := m_X12_get) (av := [iv v9, iv 1]) (d' := 0) (by decide +kernel) rfl k_X12_get l_RX12_83 rfl (by omega) (am_le rfl) rfl (am_le rfl) hm.o.1 hm.o.2 rfl <| zKf (s_get hm c20 ⟨by decide, by decide, by decide⟩) <| z_iload (pc' := 86) (j := 7) (by decide +kernel) rfl rfl <| z_iload (pc' := 88) (j := 7) (by decide +kernel) rfl rfl <| z_iconst (pc' := 89) (n := 1) (by decide +kernel) rfl <| z_iadd (pc' := 90) (by decide +kernel) rfl <| z_aload_n (pc' := 91) (j := 2) (by decide +kernel) rfl rfl <| z_iload (pc' := 93) (j := 4) (by decide +kernel) rfl rfl <| h.elim fun c21 h => h.elim fun g24 h => h.elim fun g25 h => am_use (fun k26 => z_if_eq (pc' := 96) (tgt := 102) (off := 9) (by decide +kernel) (by decide) rfl c21 (am_ite2 (fun q27 => have h := g24 q27; z_aload_n (pc' := 103) (j := 3) (by decide +kernel) rfl rfl <| z_aload_n (pc' := 104) (j := 0) (by decide +kernel) rfl rfl <| z_iload (pc' := 106) (j := 9) (by decide +kernel) rfl rfl <| z_iconst (pc' := 107) (n := 1) (by decide +kernel) rfl <| z_callV (pc' := 110) (idx := 83) (mj := m_X12_get) (av := [iv v9, iv 1]) (d' := 0) (by decide +kernel) rfl k_X12_get l_RX12_83 rfl (by omega) (am_le rfl) rfl (am_le rfl) hm.o.1 hm.o.2 rfl <| zKf (s_get hm c20 ⟨by decide, by decide, by decide⟩) <| h.elim fun c22 h => z_iaload (pc' := 111) (by decide +kernel) hq c22 rfl <| (am_jp (P := fun z9 => ZP G 2 m_X12_free 111 [some (.ref m), some (.ref l), some (.ref u), some (.ref q), some (iv a), some (iv x), some (iv v6), some (iv v7), some (iv v8), some (iv v9), some (iv s0), none] [iv z9, .ref u, iv (v7 + 1), iv v7, iv (mG Z B v9.toNat 1), .ref m] _ Q) (if_pos q27) k26)) (fun q27 => have h := g25 q27; z_aload_n (pc' := 97) (j := 3) (by decide +kernel) rfl rfl <| z_iconst (pc' := 98) (n := 0) (by decide +kernel) rfl <| h.elim fun c23 h => z_iaload (pc' := 99) (by decide +kernel) hq c23 rfl <| z_goto (tgt := 111) (off := 12) (by decide +kernel) (by decide) <| (am_jp (P := fun z9 => ZP G 2 m_X12_free 111 [some (.ref m), some (.ref l), some (.ref u), some (.ref q), some (iv a), some (iv x), some (iv v6), some (iv v7), some (iv v8), some (iv v9), some (iv s0), none] [iv z9, .ref u, iv (v7 + 1), iv v7, iv (mG Z B v9.toNat 1), .ref m] _ Q) (if_neg q27) k26)))) <| z_iload (pc' := 113) (j := 4) (by decide +kernel) rfl rfl <| z_callV (pc' := 116) (idx := 250) (mj := m_X12_handIn) (av := [iv (mG Z B v9.toNat 1), iv v7, iv (v7 + 1), .ref u, iv (if a = 0 then zI Z q (mG Z B v9.toNat 1).toNat else zI Z q 0), iv a]) (d' := 1) (by decide +kernel) rfl k_X12_handIn l_RX12_250 rfl (by omega) (am_le rfl) rfl (am_le rfl) hm.o.1 hm.o.2 rfl (ZM.mono h (zKc_wk (wk_some (wk_some (wk_some (wk_some (wk_some (wk_some (wk_some (wk_some (wk_some (wk_some (wk_none (wk_none wk_nil))))))))))))))) (fun h => z_goto (tgt := 171) (off := 98) (by decide +kernel) (by decide) <| z_iinc (pc' := 174) (j := 8) (n := 1) (x := v8) (ls' := [some (.ref m), some (.ref l), some (.ref u), some (.ref q), some (iv a), some (iv x), some (iv v6), some (iv v7), some (iv (v8 + 1)), some (iv v9), some (iv s0), none]) (by decide +kernel) rfl (by decide) rfl rfl <| z_goto (tgt := 21) (off := -153) (by decide +kernel) (by decide) <| (ZP.wk (wk_some (wk_some (wk_some (wk_some (wk_some (wk_some (wk_some (wk_some (wk_some (wk_none (wk_none (wk_none wk_nil)))))))))))) h)))))
set_option maxRecDepth 20000 in
theorem b_X12_free_116 {G : Gx} {Q : Rv → Zm → Prop} {Z : Zm} {m : Nat} {B : Nat} {l : Nat} {L : Nat} {u : Nat} {q : Nat} {H : Nat} {a : Int} {x : Int} {v6 : Int} {v7 : Int} {v8 : Int} {v9 : Int} {s0 : Int} (hm : atModel Z m B) (hl : zA Z l 100 L) (hu : zA Z u 100 20) (hq : zA Z q 100 H) (h : ((R32 s0) ∧ (if s0 = (-1) then (ZP G 2 m_X12_free 21 [some (.ref m), some (.ref l), some (.ref u), some (.ref q), some (iv a), some (iv x), some (iv v6), some (iv v7), some (iv (v8 + 1)), none, none, none] [] Z Q) else ((R32 a) ∧ (if a = 0 then ((zIx v9 20) ∧ ZM G 1 m_X12_isMachineIn [.ref m, iv (mG Z B v9.toNat 2), iv v7, iv (v7 + 1), .ref u] Z (zKc G 2 m_X12_free 147 [some (.ref m), some (.ref l), some (.ref u), some (.ref q), some (iv a), some (iv x), some (iv v6), some (iv v7), some (iv v8), some (iv v9), none, some (iv s0)] [] Q)) else ((zIx v9 20) ∧ ∀ Z8, Z8 = zSI Z (m + 15) (zu (zI Z (m + 15)) v9.toNat v7) → ∀ Z9, Z9 = zSI Z8 (m + 16) (zu (zI Z8 (m + 16)) v9.toNat s0) → ZP G 2 m_X12_free 21 [some (.ref m), some (.ref l), some (.ref u), some (.ref q), some (iv a), some (iv x), some (iv (v6 + (-1))), some (iv v7), some (iv (v8 + 1)), none, none, none] [] Z9 Q)))))) : ZP G 2 m_X12_free 116 [some (.ref m), some (.ref l), some (.ref u), some (.ref q), some (iv a), some (iv x), some (iv v6), some (iv v7), some (iv v8), some (iv v9), none, none] [iv s0] Z Q := z_istore (pc' := 118) (j := 11) (ls' := [some (.ref m), some (.ref l), some (.ref u), some (.ref q), some (iv a), some (iv x), some (iv v6), some (iv v7), some (iv v8), some (iv v9), none, some (iv s0)]) (by decide +kernel) (by decide) rfl rfl <| z_iload (pc' := 120) (j := 11) (by decide +kernel) rfl rfl <| z_iconst (pc' := 121) (n := -1) (by decide +kernel) rfl <| h.elim fun c1 h => z_icmp_eq (pc' := 124) (tgt := 171) (off := 50) (by decide +kernel) (by decide) rfl c1 (by decide : R32 (-1)) (am_ite h (fun h => z_iinc (pc' := 174) (j := 8) (n := 1) (x := v8) (ls' := [some (.ref m), some (.ref l), some (.ref u), some (.ref q), some (iv a), some (iv x), some (iv v6), some (iv v7), some (iv (v8 + 1)), some (iv v9), none, some (iv s0)]) (by decide +kernel) rfl (by decide) rfl rfl <| z_goto (tgt := 21) (off := -153) (by decide +kernel) (by decide) <| (ZP.wk (wk_some (wk_some (wk_some (wk_some (wk_some (wk_some (wk_some (wk_some (wk_some (wk_none (wk_none (wk_none wk_nil)))))))))))) h)) (fun h => z_iload (pc' := 126) (j := 4) (by decide +kernel) rfl rfl <| h.elim fun c4 h => z_if_ne (pc' := 129) (tgt := 150) (off := 24) (by decide +kernel) (by decide) rfl c4 (am_ite h (fun h => z_aload_n (pc' := 130) (j := 0) (by decide +kernel) rfl rfl <| z_aload_n (pc' := 131) (j := 0) (by decide +kernel) rfl rfl <| z_iload (pc' := 133) (j := 9) (by decide +kernel) rfl rfl <| z_iconst (pc' := 134) (n := 2) (by decide +kernel) rfl <| h.elim fun c6 h => z_callV (pc' := 137) (idx := 83) (mj := m_X12_get) (av := [iv v9, iv 2]) (d' := 0) (by decide +kernel) rfl k_X12_get l_RX12_83 rfl (by omega) (am_le rfl) rfl (am_le rfl) hm.o.1 hm.o.2 rfl <| zKf (s_get hm c6 ⟨by decide, by decide, by decide⟩) <| z_iload (pc' := 139) (j := 7) (by decide +kernel) rfl rfl <| z_iload (pc' := 141) (j := 7) (by decide +kernel) rfl rfl <| z_iconst (pc' := 142) (n := 1) (by decide +kernel) rfl <| z_iadd (pc' := 143) (by decide +kernel) rfl <| z_aload_n (pc' := 144) (j := 2) (by decide +kernel) rfl rfl <| z_callV (pc' := 147) (idx := 254) (mj := m_X12_isMachineIn) (av := [iv (mG Z B v9.toNat 2), iv v7, iv (v7 + 1), .ref u]) (d' := 1) (by decide +kernel) rfl k_X12_isMachineIn l_RX12_254 rfl (by omega) (am_le rfl) rfl (am_le rfl) hm.o.1 hm.o.2 rfl h) (fun h => z_aload_n (pc' := 151) (j := 0) (by decide +kernel) rfl rfl <| z_getR (pc' := 154) (idx := 45) (ci := 12) (f := 17) (by decide +kernel) f_RX12_45 rfl hm.o.1 hm.o.2 hm.r17 rfl <| z_iload (pc' := 156) (j := 9) (by decide +kernel) rfl rfl <| z_iload (pc' := 158) (j := 7) (by decide +kernel) rfl rfl <| h.elim fun c7 h => z_iastore (pc' := 159) (by decide +kernel) hm.a17 c7 rfl <| have h := h _ rfl; z_aload_n (pc' := 160) (j := 0) (by decide +kernel) rfl rfl <| z_getR (pc' := 163) (idx := 48) (ci := 12) (f := 18) (by decide +kernel) f_RX12_48 rfl hm.o.1 hm.o.2 hm.r18 rfl <| z_iload (pc' := 165) (j := 9) (by decide +kernel) rfl rfl <| z_iload (pc' := 167) (j := 11) (by decide +kernel) rfl rfl <| z_iastore (pc' := 168) (by decide +kernel) hm.a18 c7 rfl <| have h := h _ rfl; z_iinc (pc' := 171) (j := 6) (n := -1) (x := v6) (ls' := [some (.ref m), some (.ref l), some (.ref u), some (.ref q), some (iv a), some (iv x), some (iv (v6 + (-1))), some (iv v7), some (iv v8), some (iv v9), none, some (iv s0)]) (by decide +kernel) rfl (by decide) rfl rfl <| z_iinc (pc' := 174) (j := 8) (n := 1) (x := v8) (ls' := [some (.ref m), some (.ref l), some (.ref u), some (.ref q), some (iv a), some (iv x), some (iv (v6 + (-1))), some (iv v7), some (iv (v8 + 1)), some (iv v9), none, some (iv s0)]) (by decide +kernel) rfl (by decide) rfl rfl <| z_goto (tgt := 21) (off := -153) (by decide +kernel) (by decide) <| (ZP.wk (wk_some (wk_some (wk_some (wk_some (wk_some (wk_some (wk_some (wk_some (wk_some (wk_none (wk_none (wk_none wk_nil)))))))))))) h)))))
set_option maxRecDepth 20000 in
theorem b_X12_free_147 {G : Gx} {Q : Rv → Zm → Prop} {Z : Zm} {m : Nat} {B : Nat} {l : Nat} {L : Nat} {u : Nat} {q : Nat} {H : Nat} {a : Int} {x : Int} {v6 : Int} {v7 : Int} {v8 : Int} {v9 : Int} {v11 : Int} {s0 : Int} (hm : atModel Z m B) (hl : zA Z l 100 L) (hu : zA Z u 100 20) (hq : zA Z q 100 H) (h : ((R32 s0) ∧ (if s0 = 0 then (ZP G 2 m_X12_free 21 [some (.ref m), some (.ref l), some (.ref u), some (.ref q), some (iv a), some (iv x), some (iv v6), some (iv v7), some (iv (v8 + 1)), none, none, none] [] Z Q) else ((zIx v9 20) ∧ ∀ Z4, Z4 = zSI Z (m + 15) (zu (zI Z (m + 15)) v9.toNat v7) → ∀ Z5, Z5 = zSI Z4 (m + 16) (zu (zI Z4 (m + 16)) v9.toNat v11) → ZP G 2 m_X12_free 21 [some (.ref m), some (.ref l), some (.ref u), some (.ref q), some (iv a), some (iv x), some (iv (v6 + (-1))), some (iv v7), some (iv (v8 + 1)), none, none, none] [] Z5 Q)))) : ZP G 2 m_X12_free 147 [some (.ref m), some (.ref l), some (.ref u), some (.ref q), some (iv a), some (iv x), some (iv v6), some (iv v7), some (iv v8), some (iv v9), none, some (iv v11)] [iv s0] Z Q := h.elim fun c1 h => z_if_eq (pc' := 150) (tgt := 171) (off := 24) (by decide +kernel) (by decide) rfl c1 (am_ite h (fun h => z_iinc (pc' := 174) (j := 8) (n := 1) (x := v8) (ls' := [some (.ref m), some (.ref l), some (.ref u), some (.ref q), some (iv a), some (iv x), some (iv v6), some (iv v7), some (iv (v8 + 1)), some (iv v9), none, some (iv v11)]) (by decide +kernel) rfl (by decide) rfl rfl <| z_goto (tgt := 21) (off := -153) (by decide +kernel) (by decide) <| (ZP.wk (wk_some (wk_some (wk_some (wk_some (wk_some (wk_some (wk_some (wk_some (wk_some (wk_none (wk_none (wk_none wk_nil)))))))))))) h)) (fun h => z_aload_n (pc' := 151) (j := 0) (by decide +kernel) rfl rfl <| z_getR (pc' := 154) (idx := 45) (ci := 12) (f := 17) (by decide +kernel) f_RX12_45 rfl hm.o.1 hm.o.2 hm.r17 rfl <| z_iload (pc' := 156) (j := 9) (by decide +kernel) rfl rfl <| z_iload (pc' := 158) (j := 7) (by decide +kernel) rfl rfl <| h.elim fun c3 h => z_iastore (pc' := 159) (by decide +kernel) hm.a17 c3 rfl <| have h := h _ rfl; z_aload_n (pc' := 160) (j := 0) (by decide +kernel) rfl rfl <| z_getR (pc' := 163) (idx := 48) (ci := 12) (f := 18) (by decide +kernel) f_RX12_48 rfl hm.o.1 hm.o.2 hm.r18 rfl <| z_iload (pc' := 165) (j := 9) (by decide +kernel) rfl rfl <| z_iload (pc' := 167) (j := 11) (by decide +kernel) rfl rfl <| z_iastore (pc' := 168) (by decide +kernel) hm.a18 c3 rfl <| have h := h _ rfl; z_iinc (pc' := 171) (j := 6) (n := -1) (x := v6) (ls' := [some (.ref m), some (.ref l), some (.ref u), some (.ref q), some (iv a), some (iv x), some (iv (v6 + (-1))), some (iv v7), some (iv v8), some (iv v9), none, some (iv v11)]) (by decide +kernel) rfl (by decide) rfl rfl <| z_iinc (pc' := 174) (j := 8) (n := 1) (x := v8) (ls' := [some (.ref m), some (.ref l), some (.ref u), some (.ref q), some (iv a), some (iv x), some (iv (v6 + (-1))), some (iv v7), some (iv (v8 + 1)), some (iv v9), none, some (iv v11)]) (by decide +kernel) rfl (by decide) rfl rfl <| z_goto (tgt := 21) (off := -153) (by decide +kernel) (by decide) <| (ZP.wk (wk_some (wk_some (wk_some (wk_some (wk_some (wk_some (wk_some (wk_some (wk_some (wk_none (wk_none (wk_none wk_nil)))))))))))) h)))
/-! ===== the model's plan by free hands ===== -/
theorem s_triesNone {G : Gx} {Z : Zm} {B : Nat} (h : atModel Z 300 B) : ZM G 0 m_X12_triesNone [.ref 300] Z (fun r W => r = .inl none ∧ ∃ f g, W = zSI (zSI Z 315 f) 316 g ∧ ∀ t, t < 20 → f t = -1 ∧ g t = -1) := by
  refine e_X12_triesNone h ?_
  have e315 : ∀ f g, zI (zSI (zSI Z 315 f) 316 g) 315 = f := fun f g => (zI_other (by decide)).trans (zI_same _ _ _)
  have e316 : ∀ f g, zI (zSI (zSI Z 315 f) 316 g) 316 = g := fun f g => zI_same _ _ _
  suffices key : ∀ j : Nat, j ≤ 20 → ∀ f g : Nat → Int, (∀ t, t < j → f t = -1 ∧ g t = -1) → ZP G 0 m_X12_triesNone 2 [some (.ref 300), some (iv (j : Int))] [] (zSI (zSI Z 315 f) 316 g) (fun r W => r = .inl none ∧ ∃ f g, W = zSI (zSI Z 315 f) 316 g ∧ ∀ t, t < 20 → f t = -1 ∧ g t = -1) by
    have h9 := key 0 (Nat.zero_le _) (zI Z 315) (zI Z 316) fun t ht => absurd ht (Nat.not_lt_zero _)
    rw [zSI_id, zSI_id] at h9
    exact h9
  refine am_up (n := 20) fun j hj ih f g hf => ?_
  refine b_X12_triesNone_2 h.s.s ⟨by omega, ?_⟩
  by_cases c : j < 20
  · rw [if_neg (by omega)]
    refine ⟨zIx_nat (by omega) (by omega), ?_⟩
    rintro _ rfl
    rintro _ rfl
    rw [Int.toNat_natCast, show 300 + 15 = 315 from rfl, show 300 + 16 = 316 from rfl, zI_other (f := zu (zI (zSI (zSI Z 315 f) 316 g) 315) j (-1)) (show 316 ≠ 315 by decide), e315, e316, zSI_comm (zSI Z 315 f) g _ (by decide), zSI_zSI, zSI_zSI]
    refine ih c _ _ fun t ht => ?_
    by_cases e : t = j
    · rw [e, zu_same, zu_same]
      exact ⟨rfl, rfl⟩
    · rw [zu_other e, zu_other e]
      exact hf t (by omega)
  · rw [if_pos (by omega)]
    exact ⟨rfl, f, g, rfl, fun t ht => hf t (by omega)⟩
def isNt (P : Sp) (s : Ss) (x nx : Int) (n m : Nat) : Prop := x < nx ∧ nx ≤ 1000000 ∧ (∀ t, t < n → s.1 t ≠ -1 → x < s.1 t + pD P t → nx ≤ s.1 t + pD P t) ∧ ∀ j, j < m → s.1 (kE (pK P) j) ≠ -1 → x < ltB P s.1 j → nx ≤ ltB P s.1 j
theorem s_nextTime {G : Gx} {Z : Zm} {B u : Nat} {P : Sp} {s : Ss} {x : Int} (h : mCx Z B u P) (hs : mTr Z P s) (hx : 0 ≤ x ∧ x ≤ 100000) : ZM G 1 m_X12_nextTime [.ref 300, iv x, .ref u] Z (fun r W => (∃ nx, r = .inl (some (iv nx)) ∧ isNt P s x nx (kN (pK P)) (kM (pK P))) ∧ W = Z) := by
  obtain ⟨h1, h2, hP, h4, h5, h6, h7, h8⟩ := h
  have hN := hP.1.n
  have hM := hP.1.m
  refine e_X12_nextTime h1 h5 ?_
  suffices keyA : ∀ i, i ≤ kN (pK P) → ∀ nx, isNt P s x nx i 0 → ZP G 1 m_X12_nextTime 7 [some (.ref 300), some (iv x), some (.ref u), some (iv nx), some (iv (i : Int)), none] [] Z (fun r W => (∃ nx, r = .inl (some (iv nx)) ∧ isNt P s x nx (kN (pK P)) (kM (pK P))) ∧ W = Z) from keyA 0 (Nat.zero_le _) 1000000 ⟨by omega, by omega, fun t ht => absurd ht (Nat.not_lt_zero _), fun t ht => absurd ht (Nat.not_lt_zero _)⟩
  have keyB : ∀ j, j ≤ kM (pK P) → ∀ nx, isNt P s x nx (kN (pK P)) j → ZP G 1 m_X12_nextTime 67 [some (.ref 300), some (iv x), some (.ref u), some (iv nx), some (iv (j : Int)), none] [] Z (fun r W => (∃ nx, r = .inl (some (iv nx)) ∧ isNt P s x nx (kN (pK P)) (kM (pK P))) ∧ W = Z) := by
    refine am_up (n := kM (pK P)) fun j hj ih nx hn => ?_
    obtain ⟨n1, n2, n3, n4⟩ := hn
    refine b_X12_nextTime_67 h1 h5 ⟨by omega, by rw [h2.2.1]; omega, ?_⟩
    rw [h2.2.1]
    by_cases c : j < kM (pK P)
    · obtain ⟨e1, e2, e3⟩ := h2.2.2.2 j c
      have hE := hP.1.e c
      have hg := hP.1.g c
      have hD := hP.2.1 _ hE
      obtain ⟨f1, -, f3, f4, -⟩ := hs _ hE
      rw [if_neg (by omega), Int.toNat_natCast, e1, e3, Int.toNat_natCast, show zI Z (300 + 15) (kE (pK P) j) = s.1 (kE (pK P) j) from f1, h8 _ hE]
      refine ⟨zIx_nat (by omega) (by omega), zIx_nat (by omega) (by omega), by omega, fun _ => ⟨by omega, by omega, fun _ => ⟨by omega, trivial⟩, trivial⟩, ih c _ ?_⟩
      have el : ltB P s.1 j = s.1 (kE (pK P) j) + pD P (kE (pK P) j) + kG (pK P) j := rfl
      rw [← el]
      have cs : ∀ i, i < j + 1 → i = j ∨ i < j := fun i hi => by omega
      by_cases c1 : s.1 (kE (pK P) j) = -1
      · rw [if_pos c1]
        refine ⟨n1, n2, n3, fun i hi g1 g2 => ?_⟩
        rcases cs i hi with e | e
        · rw [e] at g1
          exact absurd c1 g1
        · exact n4 i e g1 g2
      · rw [if_neg c1]
        by_cases c2 : ltB P s.1 j ≤ x
        · rw [if_pos c2]
          refine ⟨n1, n2, n3, fun i hi g1 g2 => ?_⟩
          rcases cs i hi with e | e
          · rw [e] at g2
            omega
          · exact n4 i e g1 g2
        · rw [if_neg c2]
          refine ⟨by omega, by omega, fun t ht g1 g2 => by have := n3 t ht g1 g2; omega, fun i hi g1 g2 => ?_⟩
          rcases cs i hi with e | e
          · rw [e]
            omega
          · have := n4 i e g1 g2
            omega
    · rw [if_pos (by omega)]
      rw [show j = kM (pK P) by omega] at n4
      exact ⟨⟨nx, rfl, n1, n2, n3, n4⟩, rfl⟩
  refine am_up (n := kN (pK P)) fun i hi ih nx hn => ?_
  obtain ⟨n1, n2, n3, n4⟩ := hn
  refine b_X12_nextTime_7 h1 h5 ⟨by omega, by rw [h2.1]; omega, ?_⟩
  rw [h2.1]
  by_cases c : i < kN (pK P)
  · have hD := hP.2.1 i c
    obtain ⟨f1, -, f3, f4, -⟩ := hs i c
    rw [if_neg (by omega), Int.toNat_natCast, show zI Z (300 + 15) i = s.1 i from f1, h8 i c]
    refine ⟨zIx_nat (by omega) (by omega), by omega, fun _ => ⟨by omega, by omega, fun _ => ⟨by omega, trivial⟩, trivial⟩, ih c _ ?_⟩
    have cs : ∀ t, t < i + 1 → t = i ∨ t < i := fun t ht => by omega
    by_cases c1 : s.1 i = -1
    · rw [if_pos c1]
      refine ⟨n1, n2, fun t ht g1 g2 => ?_, n4⟩
      rcases cs t ht with e | e
      · rw [e] at g1
        exact absurd c1 g1
      · exact n3 t e g1 g2
    · rw [if_neg c1]
      by_cases c2 : s.1 i + pD P i ≤ x
      · rw [if_pos c2]
        refine ⟨n1, n2, fun t ht g1 g2 => ?_, n4⟩
        rcases cs t ht with e | e
        · rw [e] at g2
          omega
        · exact n3 t e g1 g2
      · rw [if_neg c2]
        refine ⟨by omega, by omega, fun t ht g1 g2 => ?_, fun j hj => absurd hj (Nat.not_lt_zero _)⟩
        rcases cs t ht with e | e
        · rw [e]
          omega
        · have := n3 t e g1 g2
          omega
  · rw [if_pos (by omega)]
    rw [show i = kN (pK P) by omega] at n3
    exact keyB 0 (Nat.zero_le _) nx ⟨n1, n2, n3, n4⟩
/-- how many have not begun -/
def cntS (P : Sp) (s : Ss) : Int := zsum (fun t => b2 (s.1 t = -1)) (kN (pK P))
theorem cntS_r (P : Sp) (s : Ss) : 0 ≤ cntS P s ∧ cntS P s ≤ kN (pK P) := by
  have := zsum_bound (f := fun t => b2 (s.1 t = -1)) (n := kN (pK P)) (a := 0) (b := 1) fun i _ => by
    by_cases c : s.1 i = -1
    · rw [b2_p c]
      omega
    · rw [b2_f c]
      omega
  unfold cntS
  omega
theorem cntS_all {P : Sp} {s : Ss} : cntS P s ≤ 0 ↔ allB P s := by
  constructor
  · intro h t ht e
    have h1 := zsum_lt (f := fun _ => 0) (g := fun t => b2 (s.1 t = -1)) (n := kN (pK P)) (i := t) (fun i hi => by
      by_cases c : s.1 i = -1
      · show (0 : Int) ≤ b2 _
        rw [b2_p c]
        decide
      · show (0 : Int) ≤ b2 _
        rw [b2_f c]
        decide) ht (by show (0 : Int) < b2 _; rw [b2_p e]; decide)
    rw [zsum_0] at h1
    unfold cntS at h
    omega
  · intro h
    unfold cntS
    rw [zsum_eq (g := fun _ => 0), zsum_0]
    · exact Int.le_refl _
    · exact fun i hi => b2_f (h i hi)
theorem zsum_dec {f g : Nat → Int} {n i : Nat} (h : ∀ j, j < n → j ≠ i → g j = f j) (hi : i < n) : zsum g n = zsum f n + (g i - f i) := by
  induction n with
  | zero => exact absurd hi (Nat.not_lt_zero _)
  | succ n ih =>
    rw [zsum_s, zsum_s]
    by_cases c : i = n
    · rw [zsum_eq (f := g) (g := f) fun j hj => h j (by omega) (by omega), c]
      omega
    · rw [ih (fun j hj e => h j (by omega) e) (by omega), h n (by omega) (by omega)]
      omega
theorem cntS_put {P : Sp} {s : Ss} {t : Nat} {x : Int} {g : Nat → Int} (ht : t < kN (pK P)) (h0 : s.1 t = -1) (hx : x ≠ -1) : cntS P (zu s.1 t x, g) = cntS P s + -1 := by
  unfold cntS
  rw [zsum_dec (f := fun t => b2 (s.1 t = -1)) (g := fun u => b2 ((zu s.1 t x, g).1 u = -1)) (i := t) (fun j hj e => by
    show b2 (zu s.1 t x j = -1) = b2 (s.1 j = -1)
    rw [zu_other e]) ht]
  have e1 : b2 ((zu s.1 t x, g).1 t = -1) = 0 := b2_f (by show zu s.1 t x t ≠ -1; rw [zu_same]; exact hx)
  have e2 : b2 (s.1 t = -1) = 1 := b2_p h0
  rw [e1, e2]
  omega
def nn (s : Ss) : Prop := ∀ t, s.1 t = -1 → s.2 t = -1
theorem stF_nn {P : Sp} {x : Int} {t : Nat} {s : Ss} (hx : 0 ≤ x) (h : nn s) : nn (stF P x t s) := by
  unfold stF
  by_cases c : goes P x t s
  · rw [cIf_p c]
    intro u hu
    have hu' : zu s.1 t x u = -1 := hu
    show zu s.2 t _ u = -1
    by_cases e : u = t
    · rw [e, zu_same] at hu'
      omega
    · rw [zu_other e] at hu' ⊢
      exact h u hu'
  · rw [cIf_f c]
    exact h
theorem psF_nn {P : Sp} {L : Nat → Nat} {x : Int} {s : Ss} (hx : 0 ≤ x) (h : nn s) : ∀ v, nn (psF P L x s v) := by
  intro v
  induction v with
  | zero => exact h
  | succ v ih => exact stF_nn hx ih
theorem simF_nn (P : Sp) (L : Nat → Nat) : ∀ x, nn (simF P L x) := by
  intro x
  induction x with
  | zero => exact fun _ _ => rfl
  | succ x ih => exact psF_nn (by omega) ih _
theorem wfS.tr {P : Sp} {Z : Zm} {x : Int} {s : Ss} (hP : okP P) (h : wfS P x s) (hn : nn s) (hx : x ≤ 9000) (e : ∀ t, t < kN (pK P) → zI Z 315 t = s.1 t ∧ zI Z 316 t = s.2 t) : mTr Z P s := fun t ht => by
  obtain ⟨e1, e2⟩ := e t ht
  have a := h.1 t ht
  have b := h.2.1 t ht
  have c := hP.2.2.1 t ht
  have d := hn t
  refine ⟨e1, e2, by omega, by omega, ?_, ?_⟩
  · by_cases g : s.1 t = -1
    · have := d g
      omega
    · have := (b g).2
      omega
  · by_cases g : s.1 t = -1
    · have := d g
      omega
    · have := (b g).2
      omega
/-- the hands of the row q, and whether all are alike -/
def mHd (Z : Zm) (P : Sp) (q H : Nat) (a : Int) : Prop := zA Z q 100 H ∧ q ≠ 315 ∧ q ≠ 316 ∧ H ≤ 100 ∧ ((a = 0 ∧ (∀ t, t < kN (pK P) → pS P t = (kF (pK P) 1 t).toNat ∧ pM P t = kF (pK P) 2 t) ∧ 3 ≤ H ∧ ∀ c, c < 3 → zI Z q c = pH P c) ∨ (a = 1 ∧ (∀ t, t < kN (pK P) → pS P t = 0 ∧ pM P t = -1) ∧ 1 ≤ H ∧ zI Z q 0 = pH P 0))
def mLs (Z : Zm) (P : Sp) (l : Nat) (L : Nat → Nat) : Prop := zA Z l 100 (kN (pK P)) ∧ l ≠ 315 ∧ l ≠ 316 ∧ okL P L ∧ ∀ p, p < kN (pK P) → zI Z l p = (L p : Int)
theorem mHd.s {Z : Zm} {P : Sp} {q H b : Nat} {a : Int} {f : Nat → Int} (h : mHd Z P q H a) (hb : b = 315 ∨ b = 316) : mHd (zSI Z b f) P q H a := by
  obtain ⟨h1, h2, h3, h0, h4⟩ := h
  have e : zI (zSI Z b f) q = zI Z q := zI_other (by omega)
  refine ⟨h1.s, h2, h3, h0, ?_⟩
  rw [e]
  exact h4
theorem mLs.s {Z : Zm} {P : Sp} {l b : Nat} {L : Nat → Nat} {f : Nat → Int} (h : mLs Z P l L) (hb : b = 315 ∨ b = 316) : mLs (zSI Z b f) P l L := by
  obtain ⟨h1, h2, h3, h4, h5⟩ := h
  have e : zI (zSI Z b f) l = zI Z l := zI_other (by omega)
  refine ⟨h1.s, h2, h3, h4, ?_⟩
  rw [e]
  exact h5
