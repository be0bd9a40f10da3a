set_option maxRecDepth 20000 in
theorem e_X6_endWith {G : Gx} {Q : Rv → Zm → Prop} {Z : Zm} {s : Nat} {b : Nat} {n : Nat} {u : Nat} (hs : atMoney Z s b n) (hb : atBook Z b) (hn : atNet Z n) (hu : zA Z u 100 20) (h : (∀ Z1, Z1 = zSI Z (s + 3) (zfl (zI Z (s + 3)) 20 0) → ZM G 1 m_X7_pushBegins [.ref n, .ref u, .ref (s + 3)] Z1 (zKc G 2 m_X6_endWith 20 [some (.ref s), some (.ref u)] [] Q))) : ZM G 2 m_X6_endWith [.ref s, .ref u] Z Q := ZM.of [some (.ref s), some (.ref u)] rfl <| z_aload_n (pc' := 1) (j := 0) (by decide +kernel) rfl rfl <| z_getR (pc' := 4) (idx := 18) (ci := 6) (f := 4) (by decide +kernel) f_RX6_18 rfl hs.o.1 hs.o.2 hs.r4 rfl <| z_iconst (pc' := 5) (n := 0) (by decide +kernel) rfl <| z_callS (pc' := 8) (idx := 45) (mj := m_J7_fill_53178) (av := [.ref (s + 3), iv 0]) (d' := 0) (by decide +kernel) rfl k_J7_fill_53178 l_RX6_45 rfl (by omega) (am_le rfl) rfl (am_le rfl) rfl <| zKf ((s_fill hs.a4 (by decide))) <| have h := h _ rfl; z_aload_n (pc' := 9) (j := 0) (by decide +kernel) rfl rfl <| z_getR (pc' := 12) (idx := 25) (ci := 6) (f := 1) (by decide +kernel) f_RX6_25 rfl hs.o.1 hs.o.2 hs.r1 rfl <| z_aload_n (pc' := 13) (j := 1) (by decide +kernel) rfl rfl <| z_aload_n (pc' := 14) (j := 0) (by decide +kernel) rfl rfl <| z_getR (pc' := 17) (idx := 18) (ci := 6) (f := 4) (by decide +kernel) f_RX6_18 rfl hs.o.1 hs.o.2 hs.r4 rfl <| z_callV (pc' := 20) (idx := 51) (mj := m_X7_pushBegins) (av := [.ref u, .ref (s + 3)]) (d' := 1) (by decide +kernel) rfl k_X7_pushBegins l_RX6_51 rfl (by omega) (am_le rfl) rfl (am_le rfl) hn.o.1 hn.o.2 rfl h
set_option maxRecDepth 20000 in
theorem b_X6_endWith_20 {G : Gx} {Q : Rv → Zm → Prop} {Z : Zm} {s : Nat} {b : Nat} {n : Nat} {u : Nat}  (hs : atMoney Z s b n) (hb : atBook Z b) (hn : atNet Z n) (hu : zA Z u 100 20) (h : (ZM G 1 m_X7_lastEnd [.ref n, .ref u, .ref (s + 3)] Z (zKc G 2 m_X6_endWith 32 [none, none] [] Q))) : ZP G 2 m_X6_endWith 20 [some (.ref s), some (.ref u)] [] Z Q := z_aload_n (pc' := 21) (j := 0) (by decide +kernel) rfl rfl <| z_getR (pc' := 24) (idx := 25) (ci := 6) (f := 1) (by decide +kernel) f_RX6_25 rfl hs.o.1 hs.o.2 hs.r1 rfl <| z_aload_n (pc' := 25) (j := 1) (by decide +kernel) rfl rfl <| z_aload_n (pc' := 26) (j := 0) (by decide +kernel) rfl rfl <| z_getR (pc' := 29) (idx := 18) (ci := 6) (f := 4) (by decide +kernel) f_RX6_18 rfl hs.o.1 hs.o.2 hs.r4 rfl <| z_callV (pc' := 32) (idx := 57) (mj := m_X7_lastEnd) (av := [.ref u, .ref (s + 3)]) (d' := 1) (by decide +kernel) rfl k_X7_lastEnd l_RX6_57 rfl (by omega) (am_le rfl) rfl (am_le rfl) hn.o.1 hn.o.2 rfl (ZM.mono h (zKc_wk (wk_none (wk_none wk_nil))))
set_option maxRecDepth 20000 in
theorem b_X6_endWith_32 {G : Gx} {Q : Rv → Zm → Prop} {Z : Zm} {s : Nat} {b : Nat} {n : Nat} {u : Nat} {s0 : Int} (hs : atMoney Z s b n) (hb : atBook Z b) (hn : atNet Z n) (hu : zA Z u 100 20) (h : (Q (.inl (some (iv s0))) Z)) : ZP G 2 m_X6_endWith 32 [none, none] [iv s0] Z Q := z_ireturn (by decide +kernel) ⟨_, rfl, rfl⟩ h
set_option maxRecDepth 20000 in
theorem e_X6_shortestEnd {G : Gx} {Q : Rv → Zm → Prop} {Z : Zm} {s : Nat} {b : Nat} {n : Nat} (hs : atMoney Z s b n) (hb : atBook Z b) (hn : atNet Z n) (h : (ZP G 3 m_X6_shortestEnd 2 [some (.ref s), some (iv 0)] [] Z Q)) : ZM G 3 m_X6_shortestEnd [.ref s] Z Q := ZM.of [some (.ref s), none] rfl <| z_iconst (pc' := 1) (n := 0) (by decide +kernel) rfl <| z_istore_n (pc' := 2) (j := 1) (ls' := [some (.ref s), some (iv 0)]) (by decide +kernel) (by decide) rfl rfl <| h
set_option maxRecDepth 20000 in
theorem b_X6_shortestEnd_2 {G : Gx} {Q : Rv → Zm → Prop} {Z : Zm} {s : Nat} {b : Nat} {n : Nat} {v1 : Int} (hs : atMoney Z s b n) (hb : atBook Z b) (hn : atNet Z n) (h : ((R32 v1) ∧ (R32 (zI Z b 3)) ∧ (if (zI Z b 3) ≤ v1 then (ZM G 2 m_X6_endWith [.ref s, .ref (s + 2)] Z (zKc G 3 m_X6_shortestEnd 69 [none, none] [] Q)) else ((zIx v1 20) ∧ ∀ Z5, Z5 = zSI Z (s + 1) (zu (zI Z (s + 1)) v1.toNat (zI Z (b + 2) v1.toNat)) → ∀ Z6, Z6 = zSI Z5 (s + 2) (zu (zI Z5 (s + 2)) v1.toNat ((zI Z5 (s + 1) v1.toNat) - (zI Z5 (b + 10) v1.toNat))) → ZP G 3 m_X6_shortestEnd 2 [some (.ref s), some (iv (v1 + 1))] [] Z6 Q)))) : ZP G 3 m_X6_shortestEnd 2 [some (.ref s), some (iv v1)] [] Z Q := z_iload_n (pc' := 3) (j := 1) (by decide +kernel) rfl rfl <| z_aload_n (pc' := 4) (j := 0) (by decide +kernel) rfl rfl <| z_getR (pc' := 7) (idx := 21) (ci := 6) (f := 0) (by decide +kernel) f_RX6_21 rfl hs.o.1 hs.o.2 hs.r0 rfl <| z_getI (pc' := 10) (idx := 29) (ci := 0) (f := 3) (by decide +kernel) f_RX6_29 rfl hb.o.1 hb.o.2 rfl <| h.elim fun c1 h => h.elim fun c2 h => z_icmp_ge (pc' := 13) (tgt := 61) (off := 51) (by decide +kernel) (by decide) rfl c1 c2 (am_ite h (fun h => z_aload_n (pc' := 62) (j := 0) (by decide +kernel) rfl rfl <| z_aload_n (pc' := 63) (j := 0) (by decide +kernel) rfl rfl <| z_getR (pc' := 66) (idx := 15) (ci := 6) (f := 3) (by decide +kernel) f_RX6_15 rfl hs.o.1 hs.o.2 hs.r3 rfl <| z_callV (pc' := 69) (idx := 39) (mj := m_X6_endWith) (av := [.ref (s + 2)]) (d' := 2) (by decide +kernel) rfl k_X6_endWith l_RX6_39 rfl (by omega) (am_le rfl) rfl (am_le rfl) hs.o.1 hs.o.2 rfl (ZM.mono h (zKc_wk (wk_none (wk_none wk_nil))))) (fun h => z_aload_n (pc' := 14) (j := 0) (by decide +kernel) rfl rfl <| z_getR (pc' := 17) (idx := 9) (ci := 6) (f := 2) (by decide +kernel) f_RX6_9 rfl hs.o.1 hs.o.2 hs.r2 rfl <| z_iload_n (pc' := 18) (j := 1) (by decide +kernel) rfl rfl <| z_aload_n (pc' := 19) (j := 0) (by decide +kernel) rfl rfl <| z_getR (pc' := 22) (idx := 21) (ci := 6) (f := 0) (by decide +kernel) f_RX6_21 rfl hs.o.1 hs.o.2 hs.r0 rfl <| z_getR (pc' := 25) (idx := 35) (ci := 0) (f := 0) (by decide +kernel) f_RX6_35 rfl hb.o.1 hb.o.2 hb.r0 rfl <| z_iconst (pc' := 26) (n := 0) (by decide +kernel) rfl <| z_aaload120 (pc' := 27) (by decide +kernel) hb.a0 ⟨by decide, by decide, by decide⟩ (hb.e0 0 (by decide)) rfl <| z_iload_n (pc' := 28) (j := 1) (by decide +kernel) rfl rfl <| h.elim fun c4 h => z_iaload (pc' := 29) (by decide +kernel) (hb.x0 0 (by decide)) c4 rfl <| z_iastore (pc' := 30) (by decide +kernel) hs.a2 c4 rfl <| have h := h _ rfl; z_aload_n (pc' := 31) (j := 0) (by decide +kernel) rfl rfl <| z_getR (pc' := 34) (idx := 15) (ci := 6) (f := 3) (by decide +kernel) f_RX6_15 rfl hs.o.1 hs.o.2 hs.r3 rfl <| z_iload_n (pc' := 35) (j := 1) (by decide +kernel) rfl rfl <| z_aload_n (pc' := 36) (j := 0) (by decide +kernel) rfl rfl <| z_getR (pc' := 39) (idx := 9) (ci := 6) (f := 2) (by decide +kernel) f_RX6_9 rfl hs.o.1 hs.o.2 hs.r2 rfl <| z_iload_n (pc' := 40) (j := 1) (by decide +kernel) rfl rfl <| z_iaload (pc' := 41) (by decide +kernel) hs.a2 c4 rfl <| z_aload_n (pc' := 42) (j := 0) (by decide +kernel) rfl rfl <| z_getR (pc' := 45) (idx := 21) (ci := 6) (f := 0) (by decide +kernel) f_RX6_21 rfl hs.o.1 hs.o.2 hs.r0 rfl <| z_getR (pc' := 48) (idx := 35) (ci := 0) (f := 0) (by decide +kernel) f_RX6_35 rfl hb.o.1 hb.o.2 hb.r0 rfl <| z_bipush (pc' := 50) (n := 8) (by decide +kernel) (by decide) rfl <| z_aaload120 (pc' := 51) (by decide +kernel) hb.a0 ⟨by decide, by decide, by decide⟩ (hb.e0 8 (by decide)) rfl <| z_iload_n (pc' := 52) (j := 1) (by decide +kernel) rfl rfl <| z_iaload (pc' := 53) (by decide +kernel) (hb.x0 8 (by decide)) c4 rfl <| z_isub (pc' := 54) (by decide +kernel) rfl <| z_iastore (pc' := 55) (by decide +kernel) hs.a3 c4 rfl <| have h := h _ rfl; z_iinc (pc' := 58) (j := 1) (n := 1) (x := v1) (ls' := [some (.ref s), some (iv (v1 + 1))]) (by decide +kernel) rfl (by decide) rfl rfl <| z_goto (tgt := 2) (off := -56) (by decide +kernel) (by decide) <| h))
set_option maxRecDepth 20000 in
theorem b_X6_shortestEnd_69 {G : Gx} {Q : Rv → Zm → Prop} {Z : Zm} {s : Nat} {b : Nat} {n : Nat} {s0 : Int} (hs : atMoney Z s b n) (hb : atBook Z b) (hn : atNet Z n) (h : (Q (.inl (some (iv s0))) Z)) : ZP G 3 m_X6_shortestEnd 69 [none, none] [iv s0] Z Q := z_ireturn (by decide +kernel) ⟨_, rfl, rfl⟩ h
set_option maxRecDepth 20000 in
theorem e_X6_areFew {G : Gx} {Q : Rv → Zm → Prop} {Z : Zm} {s : Nat} {b : Nat} {n : Nat} (hs : atMoney Z s b n) (hb : atBook Z b) (hn : atNet Z n) (h : (ZP G 0 m_X6_areFew 4 [some (.ref s), some (jv 1), none, some (iv 0)] [] Z Q)) : ZM G 0 m_X6_areFew [.ref s] Z Q := ZM.of [some (.ref s), none, none, none] rfl <| z_lconst (pc' := 1) (n := 1) (v := 1) (by decide +kernel) rfl rfl <| z_lstore_n (pc' := 2) (j := 1) (ls' := [some (.ref s), some (jv 1), none, none]) (by decide +kernel) (by decide) rfl rfl <| z_iconst (pc' := 3) (n := 0) (by decide +kernel) rfl <| z_istore_n (pc' := 4) (j := 3) (ls' := [some (.ref s), some (jv 1), none, some (iv 0)]) (by decide +kernel) (by decide) rfl rfl <| h
set_option maxRecDepth 20000 in
theorem b_X6_areFew_4 {G : Gx} {Q : Rv → Zm → Prop} {Z : Zm} {s : Nat} {b : Nat} {n : Nat} {v1 : Int} {v3 : Int} (hs : atMoney Z s b n) (hb : atBook Z b) (hn : atNet Z n) (h : ((R32 v3) ∧ (R32 (zI Z b 3)) ∧ (if (zI Z b 3) ≤ v3 then ((R64 v1) ∧ Q (.inl (some (iv (b2 (¬ (0 < (zcmp v1 2000))))))) Z) else ((R64 v1) ∧ (if 0 < (zcmp v1 2000) then (Q (.inl (some (iv (b2 (¬ (0 < (zcmp v1 2000))))))) Z) else ((zIx v3 20) ∧ (R32 ((zI Z (b + 10) v3.toNat) + 1)) ∧ ZP G 0 m_X6_areFew 4 [some (.ref s), some (jv (v1 * ((zI Z (b + 10) v3.toNat) + 1))), none, some (iv (v3 + 1))] [] Z Q)))))) : ZP G 0 m_X6_areFew 4 [some (.ref s), some (jv v1), none, some (iv v3)] [] Z Q := z_iload_n (pc' := 5) (j := 3) (by decide +kernel) rfl rfl <| z_aload_n (pc' := 6) (j := 0) (by decide +kernel) rfl rfl <| z_getR (pc' := 9) (idx := 21) (ci := 6) (f := 0) (by decide +kernel) f_RX6_21 rfl hs.o.1 hs.o.2 hs.r0 rfl <| z_getI (pc' := 12) (idx := 29) (ci := 0) (f := 3) (by decide +kernel) f_RX6_29 rfl hb.o.1 hb.o.2 rfl <| h.elim fun c1 h => h.elim fun c2 h => z_icmp_ge (pc' := 15) (tgt := 47) (off := 35) (by decide +kernel) (by decide) rfl c1 c2 (am_ite h (fun h => z_lload_n (pc' := 48) (j := 1) (by decide +kernel) rfl rfl <| z_ldc2 (pc' := 51) (idx := 43) (w := 2000) (v := 2000) (by decide +kernel) (amM7 48 rfl (by decide +kernel)) (by decide) rfl <| h.elim fun c6 h => z_lcmp (pc' := 52) (by decide +kernel) c6 (by decide : R64 2000) rfl <| am_use (fun k9 => z_if_gt (pc' := 55) (tgt := 59) (off := 7) (by decide +kernel) (by decide) rfl (zcmp_r _ _) (am_ite2 (fun q10 => z_iconst (pc' := 60) (n := 0) (by decide +kernel) rfl <| (am_jp (P := fun z9 => ZP G 0 m_X6_areFew 60 [some (.ref s), some (jv v1), none, some (iv v3)] [iv z9] _ Q) (b2_n q10) k9)) (fun q10 => z_iconst (pc' := 56) (n := 1) (by decide +kernel) rfl <| z_goto (tgt := 60) (off := 4) (by decide +kernel) (by decide) <| (am_jp (P := fun z9 => ZP G 0 m_X6_areFew 60 [some (.ref s), some (jv v1), none, some (iv v3)] [iv z9] _ Q) (b2_nn q10) k9)))) <| z_ireturn (by decide +kernel) (am_rb (b2_01 _)) h) (fun h => z_lload_n (pc' := 16) (j := 1) (by decide +kernel) rfl rfl <| z_ldc2 (pc' := 19) (idx := 43) (w := 2000) (v := 2000) (by decide +kernel) (amM7 48 rfl (by decide +kernel)) (by decide) rfl <| h.elim fun c11 h => z_lcmp (pc' := 20) (by decide +kernel) c11 (by decide : R64 2000) rfl <| z_if_gt (pc' := 23) (tgt := 47) (off := 27) (by decide +kernel) (by decide) rfl (zcmp_r _ _) (am_ite h (fun h => z_lload_n (pc' := 48) (j := 1) (by decide +kernel) rfl rfl <| z_ldc2 (pc' := 51) (idx := 43) (w := 2000) (v := 2000) (by decide +kernel) (amM7 48 rfl (by decide +kernel)) (by decide) rfl <| z_lcmp (pc' := 52) (by decide +kernel) c11 (by decide : R64 2000) rfl <| am_use (fun k16 => z_if_gt (pc' := 55) (tgt := 59) (off := 7) (by decide +kernel) (by decide) rfl (zcmp_r _ _) (am_ite2 (fun q17 => z_iconst (pc' := 60) (n := 0) (by decide +kernel) rfl <| (am_jp (P := fun z9 => ZP G 0 m_X6_areFew 60 [some (.ref s), some (jv v1), none, some (iv v3)] [iv z9] _ Q) (b2_n q17) k16)) (fun q17 => z_iconst (pc' := 56) (n := 1) (by decide +kernel) rfl <| z_goto (tgt := 60) (off := 4) (by decide +kernel) (by decide) <| (am_jp (P := fun z9 => ZP G 0 m_X6_areFew 60 [some (.ref s), some (jv v1), none, some (iv v3)] [iv z9] _ Q) (b2_nn q17) k16)))) <| z_ireturn (by decide +kernel) (am_rb (b2_01 _)) h) (fun h => z_lload_n (pc' := 24) (j := 1) (by decide +kernel) rfl rfl <| z_aload_n (pc' := 25) (j := 0) (by decide +kernel) rfl rfl <| z_getR (pc' := 28) (idx := 21) (ci := 6) (f := 0) (by decide +kernel) f_RX6_21 rfl hs.o.1 hs.o.2 hs.r0 rfl <| z_getR (pc' := 31) (idx := 35) (ci := 0) (f := 0) (by decide +kernel) f_RX6_35 rfl hb.o.1 hb.o.2 hb.r0 rfl <| z_bipush (pc' := 33) (n := 8) (by decide +kernel) (by decide) rfl <| z_aaload120 (pc' := 34) (by decide +kernel) hb.a0 ⟨by decide, by decide, by decide⟩ (hb.e0 8 (by decide)) rfl <| z_iload_n (pc' := 35) (j := 3) (by decide +kernel) rfl rfl <| h.elim fun c18 h => z_iaload (pc' := 36) (by decide +kernel) (hb.x0 8 (by decide)) c18 rfl <| z_iconst (pc' := 37) (n := 1) (by decide +kernel) rfl <| z_iadd (pc' := 38) (by decide +kernel) rfl <| h.elim fun c19 h => z_i2l (pc' := 39) (by decide +kernel) c19 rfl <| z_lmul (pc' := 40) (by decide +kernel) rfl <| z_lstore_n (pc' := 41) (j := 1) (ls' := [some (.ref s), some (jv (v1 * ((zI Z (b + 10) v3.toNat) + 1))), none, some (iv v3)]) (by decide +kernel) (by decide) rfl rfl <| z_iinc (pc' := 44) (j := 3) (n := 1) (x := v3) (ls' := [some (.ref s), some (jv (v1 * ((zI Z (b + 10) v3.toNat) + 1))), none, some (iv (v3 + 1))]) (by decide +kernel) rfl (by decide) rfl rfl <| z_goto (tgt := 4) (off := -40) (by decide +kernel) (by decide) <| h))))
set_option maxRecDepth 20000 in
theorem e_X6_nextToCut {G : Gx} {Q : Rv → Zm → Prop} {Z : Zm} {s : Nat} {b : Nat} {n : Nat} {x : Int} (hs : atMoney Z s b n) (hb : atBook Z b) (hn : atNet Z n) (h : (ZP G 0 m_X6_nextToCut 2 [some (.ref s), none, some (iv x)] [] Z Q)) : ZM G 0 m_X6_nextToCut [.ref s, iv x] Z Q := ZM.of [some (.ref s), some (iv x), none] rfl <| z_iload_n (pc' := 1) (j := 1) (by decide +kernel) rfl rfl <| z_istore_n (pc' := 2) (j := 2) (ls' := [some (.ref s), some (iv x), some (iv x)]) (by decide +kernel) (by decide) rfl rfl <| (ZP.wk (wk_some (wk_none (wk_some wk_nil))) h)
set_option maxRecDepth 20000 in
theorem b_X6_nextToCut_2 {G : Gx} {Q : Rv → Zm → Prop} {Z : Zm} {s : Nat} {b : Nat} {n : Nat} {v2 : Int} (hs : atMoney Z s b n) (hb : atBook Z b) (hn : atNet Z n) (h : ((R32 v2) ∧ (R32 (zI Z b 3)) ∧ (if (zI Z b 3) ≤ v2 then (Q (.inl (some (iv 20))) Z) else ((zIx v2 20) ∧ (R32 (zI Z (b + 10) v2.toNat)) ∧ (if (zI Z (b + 10) v2.toNat) ≤ 0 then (ZP G 0 m_X6_nextToCut 2 [some (.ref s), none, some (iv (v2 + 1))] [] Z Q) else (Q (.inl (some (iv v2))) Z)))))) : ZP G 0 m_X6_nextToCut 2 [some (.ref s), none, some (iv v2)] [] Z Q := z_iload_n (pc' := 3) (j := 2) (by decide +kernel) rfl rfl <| z_aload_n (pc' := 4) (j := 0) (by decide +kernel) rfl rfl <| z_getR (pc' := 7) (idx := 21) (ci := 6) (f := 0) (by decide +kernel) f_RX6_21 rfl hs.o.1 hs.o.2 hs.r0 rfl <| z_getI (pc' := 10) (idx := 29) (ci := 0) (f := 3) (by decide +kernel) f_RX6_29 rfl hb.o.1 hb.o.2 rfl <| h.elim fun c1 h => h.elim fun c2 h => z_icmp_ge (pc' := 13) (tgt := 36) (off := 26) (by decide +kernel) (by decide) rfl c1 c2 (am_ite h (fun h => z_bipush (pc' := 38) (n := 20) (by decide +kernel) (by decide) rfl <| z_ireturn (by decide +kernel) ⟨_, rfl, rfl⟩ h) (fun h => z_aload_n (pc' := 14) (j := 0) (by decide +kernel) rfl rfl <| z_getR (pc' := 17) (idx := 21) (ci := 6) (f := 0) (by decide +kernel) f_RX6_21 rfl hs.o.1 hs.o.2 hs.r0 rfl <| z_getR (pc' := 20) (idx := 35) (ci := 0) (f := 0) (by decide +kernel) f_RX6_35 rfl hb.o.1 hb.o.2 hb.r0 rfl <| z_bipush (pc' := 22) (n := 8) (by decide +kernel) (by decide) rfl <| z_aaload120 (pc' := 23) (by decide +kernel) hb.a0 ⟨by decide, by decide, by decide⟩ (hb.e0 8 (by decide)) rfl <| z_iload_n (pc' := 24) (j := 2) (by decide +kernel) rfl rfl <| h.elim fun c3 h => z_iaload (pc' := 25) (by decide +kernel) (hb.x0 8 (by decide)) c3 rfl <| h.elim fun c4 h => z_if_le (pc' := 28) (tgt := 30) (off := 5) (by decide +kernel) (by decide) rfl c4 (am_ite h (fun h => z_iinc (pc' := 33) (j := 2) (n := 1) (x := v2) (ls' := [some (.ref s), none, some (iv (v2 + 1))]) (by decide +kernel) rfl (by decide) rfl rfl <| z_goto (tgt := 2) (off := -31) (by decide +kernel) (by decide) <| h) (fun h => z_iload_n (pc' := 29) (j := 2) (by decide +kernel) rfl rfl <| z_ireturn (by decide +kernel) ⟨_, rfl, rfl⟩ h))))
/-! ===== the class' money ===== -/
def mnC (Z : Zm) (k : Bk) (o pos : Nat → Nat) : Prop := atMoney Z 281 1 233 ∧ atBook Z 1 ∧ atNet Z 233 ∧ nS Z 233 k o ∧ kOk k ∧ kOrd k o pos ∧ kSrt k pos ∧ zI Z 1 3 = (kN k : Int) ∧ ∀ t, t < kN k → zI Z 3 t = kF k 0 t ∧ zI Z 11 t = kF k 8 t ∧ zI Z 12 t = kF k 9 t
theorem nS.s {Z : Zm} {k : Bk} {o : Nat → Nat} {a : Nat} {f : Nat → Int} (h : nS Z 233 k o) (ha : 241 ≤ a) : nS (zSI Z a f) 233 k o := by
  unfold nS at *
  rw [zI_other (show 233 ≠ a by omega), zI_other (show 233 + 1 ≠ a by omega), zI_other (show 233 + 3 ≠ a by omega), zI_other (show 233 + 4 ≠ a by omega), zI_other (show 233 + 5 ≠ a by omega)]
  exact h
theorem mnC.s {Z : Zm} {k : Bk} {o pos : Nat → Nat} {a : Nat} {f : Nat → Int} (h : mnC Z k o pos) (ha : 281 ≤ a) : mnC (zSI Z a f) k o pos := by
  obtain ⟨h1, h2, h3, h4, h5, h6, h7, h8, h9⟩ := h
  refine ⟨h1, h2, h3, h4.s (by omega), h5, h6, h7, by rw [zI_other (by omega)]; exact h8, fun t ht => ?_⟩
  rw [zI_other (by omega), zI_other (by omega), zI_other (by omega)]
  exact h9 t ht
theorem s_endWith {G : Gx} {Z : Zm} {k : Bk} {o pos : Nat → Nat} {u : Nat} {len : Nat → Int} (h : mnC Z k o pos) (hu : zA Z u 100 20) (hu2 : u ≠ 284) (hlen : ∀ t, t < kN k → zI Z u t = len t ∧ 1 ≤ len t ∧ len t ≤ 60) : ZM G 2 m_X6_endWith [.ref 281, .ref u] Z (fun r W => r = .inl (some (iv (endF k len))) ∧ ∃ f, W = zSI Z 284 f) := by
  have ho : kOk k := h.2.2.2.2.1
  refine e_X6_endWith h.1 h.2.1 h.2.2.1 hu ?_
  rintro _ rfl
  have h1 := h.s (a := 281 + 3) (f := zfl (zI Z (281 + 3)) 20 0) (by omega)
  refine ((s_pushBegins (u := u) (v := 281 + 3) (len := len) (lo := fun _ => 0) (c := 0) h1.2.2.1 hu.s h.1.a4.s h1.2.2.2.1 ho h.2.2.2.2.2.1 h.2.2.2.2.2.2.1 (fun t ht => ?_) (fun t ht => ?_) (by decide) (fun e => hu2 e.symm) (by omega)).deeper (by omega)).mono ?_
  · rw [zI_other hu2]
    exact hlen t ht
  · rw [zI_same]
    exact ⟨if_pos (by have := ho.n; omega), Int.le_refl _, Int.le_refl _⟩
  rintro r W ⟨rfl, f, rfl, lf, -⟩
  rw [zSI_zSI]
  have h2 := h.s (a := 281 + 3) (f := f) (by omega)
  refine b_X6_endWith_20 h2.1 h2.2.1 h2.2.2.1 hu.s ?_
  have bd := isLF_bound ho lf (fun t ht => (hlen t ht).2) (c := 0) (fun _ _ => ⟨Int.le_refl _, Int.le_refl _⟩)
  refine (s_lastEnd (len := len) (f := f) h2.2.2.1 hu.s h.1.a4.s h2.2.2.2.1 ho (fun t ht => by rw [zI_other hu2]; exact (hlen t ht).1) (fun t ht => by rw [zI_same]) fun t ht => by
    have := bd t ht
    have := hlen t ht
    omega).mono ?_
  rintro r V ⟨rfl, hV⟩
  obtain rfl := hV.symm
  refine b_X6_endWith_32 h2.1 h2.2.1 h2.2.2.1 hu.s ⟨?_, f, rfl⟩
  rw [← endF_of ho lf]
  rfl
def mW4 (Z : Zm) (a b c d : Nat → Int) : Zm := zSI (zSI (zSI (zSI Z 282 a) 283 b) 284 c) 281 d
theorem mW4_1 (Z : Zm) (a b c d f : Nat → Int) : zSI (mW4 Z a b c d) 282 f = mW4 Z f b c d := by
  unfold mW4
  rw [zSI_comm _ d f (by decide), zSI_comm _ c f (by decide), zSI_comm _ b f (by decide), zSI_zSI]
theorem mW4_2 (Z : Zm) (a b c d f : Nat → Int) : zSI (mW4 Z a b c d) 283 f = mW4 Z a f c d := by
  unfold mW4
  rw [zSI_comm _ d f (by decide), zSI_comm _ c f (by decide), zSI_zSI]
theorem mW4_3 (Z : Zm) (a b c d f : Nat → Int) : zSI (mW4 Z a b c d) 284 f = mW4 Z a b f d := by
  unfold mW4
  rw [zSI_comm _ d f (by decide), zSI_zSI]
theorem mW4_0 (Z : Zm) (a b c d f : Nat → Int) : zSI (mW4 Z a b c d) 281 f = mW4 Z a b c f := by
  unfold mW4
  rw [zSI_zSI]
theorem mW4_i1 (Z : Zm) (a b c d : Nat → Int) : zI (mW4 Z a b c d) 282 = a := by
  unfold mW4
  rw [zI_other (by decide), zI_other (by decide), zI_other (by decide), zI_same]
theorem mW4_i2 (Z : Zm) (a b c d : Nat → Int) : zI (mW4 Z a b c d) 283 = b := by
  unfold mW4
  rw [zI_other (by decide), zI_other (by decide), zI_same]
theorem mW4_i0 (Z : Zm) (a b c d : Nat → Int) : zI (mW4 Z a b c d) 281 = d := zI_same _ _ _
theorem mW4_id (Z : Zm) : mW4 Z (zI Z 282) (zI Z 283) (zI Z 284) (zI Z 281) = Z := by
  unfold mW4
  rw [zSI_id, zSI_id, zSI_id, zSI_id]
theorem mnC.w {Z : Zm} {k : Bk} {o pos : Nat → Nat} {a b c d : Nat → Int} (h : mnC Z k o pos) : mnC (mW4 Z a b c d) k o pos := (((h.s (by omega)).s (by omega)).s (by omega)).s (by omega)
theorem mW4_f (Z : Zm) (a b c d : Nat → Int) : zF (zB 281 285) 0 0 Z (mW4 Z a b c d) := (((zF_I (by unfold zB; omega)).trans (zF_I (by unfold zB; omega))).trans (zF_I (by unfold zB; omega))).trans (zF_I (by unfold zB; omega))
theorem s_shortestEnd {G : Gx} {Z : Zm} {k : Bk} {o pos : Nat → Nat} (h : mnC Z k o pos) : ZM G 3 m_X6_shortestEnd [.ref 281] Z (fun r W => r = .inl (some (iv (endF k (cLn k (kF k 8))))) ∧ ∃ a b c, W = mW4 Z a b c (zI Z 281) ∧ ∀ t, t < kN k → a t = kF k 0 t ∧ b t = cLn k (kF k 8) t) := by
  have ho : kOk k := h.2.2.2.2.1
  have hN := ho.n
  refine e_X6_shortestEnd h.1 h.2.1 h.2.2.1 ?_
  suffices key : ∀ j, j ≤ kN k → ∀ a b, (∀ t, t < j → a t = kF k 0 t ∧ b t = cLn k (kF k 8) t) → ZP G 3 m_X6_shortestEnd 2 [some (.ref 281), some (iv (j : Int))] [] (mW4 Z a b (zI Z 284) (zI Z 281)) (fun r W => r = .inl (some (iv (endF k (cLn k (kF k 8))))) ∧ ∃ a b c, W = mW4 Z a b c (zI Z 281) ∧ ∀ t, t < kN k → a t = kF k 0 t ∧ b t = cLn k (kF k 8) t) by
    have h9 := key 0 (Nat.zero_le _) (zI Z 282) (zI Z 283) fun t ht => absurd ht (Nat.not_lt_zero _)
    rw [mW4_id] at h9
    exact h9
  refine am_up (n := kN k) fun j hj ih a b hab => ?_
  have hw := h.w (a := a) (b := b) (c := zI Z 284) (d := zI Z 281)
  have e3 : zI (mW4 Z a b (zI Z 284) (zI Z 281)) 1 3 = (kN k : Int) := hw.2.2.2.2.2.2.2.1
  refine b_X6_shortestEnd_2 hw.1 hw.2.1 hw.2.2.1 ⟨by omega, by rw [e3]; omega, ?_⟩
  rw [e3]
  by_cases c : j < kN k
  · obtain ⟨g1, g2, g3⟩ := hw.2.2.2.2.2.2.2.2 j c
    rw [if_neg (by omega)]
    refine ⟨zIx_nat (by omega) (by omega), ?_⟩
    rintro _ rfl
    rw [Int.toNat_natCast, show 281 + 1 = 282 from rfl, mW4_1, mW4_i1, show zI (mW4 Z a b (zI Z 284) (zI Z 281)) (1 + 2) j = kF k 0 j from g1]
    rintro _ rfl
    have hw2 := h.w (a := zu a j (kF k 0 j)) (b := b) (c := zI Z 284) (d := zI Z 281)
    obtain ⟨-, q2, -⟩ := hw2.2.2.2.2.2.2.2.2 j c
    rw [show 281 + 2 = 283 from rfl, mW4_2, mW4_i2, mW4_i1, zu_same, show zI (mW4 Z (zu a j (kF k 0 j)) b (zI Z 284) (zI Z 281)) (1 + 10) j = kF k 8 j from q2]
    refine ih c _ _ fun t ht => ?_
    by_cases e : t = j
    · rw [e, zu_same, zu_same]
      exact ⟨rfl, rfl⟩
    · rw [zu_other e, zu_other e]
      exact hab t (by omega)
  · rw [if_pos (by omega)]
    refine (s_endWith (len := cLn k (kF k 8)) hw hw.1.a3 (by decide) fun t ht => ?_).mono ?_
    · rw [show 281 + 2 = 283 from rfl, mW4_i2, (hab t (by omega)).2]
      have := ho.o8 t ht
      have := ho.len ht
      unfold cLn
      omega
    rintro r W ⟨rfl, f, rfl⟩
    rw [mW4_3]
    have hw3 := h.w (a := a) (b := b) (c := f) (d := zI Z 281)
    exact b_X6_shortestEnd_69 hw3.1 hw3.2.1 hw3.2.2.1 ⟨rfl, a, b, f, rfl, fun t ht => hab t (by omega)⟩
theorem s_mareFew {G : Gx} {Z : Zm} {k : Bk} {o pos : Nat → Nat} (h : mnC Z k o pos) : ZM G 0 m_X6_areFew [.ref 281] Z (fun r W => (∃ x, r = .inl (some (iv x)) ∧ isB x (prF (fun t => kF k 8 t + 1) (kN k) ≤ 2000)) ∧ W = Z) := by
  have ho : kOk k := h.2.2.2.2.1
  have hN := ho.n
  have e3 := h.2.2.2.2.2.2.2.1
  have f1 : ∀ t, t < kN k → 1 ≤ kF k 8 t + 1 ∧ kF k 8 t + 1 ≤ 6 := fun t ht => by have := ho.o8 t ht; omega
  refine e_X6_areFew h.1 h.2.1 h.2.2.1 ?_
  suffices key : ∀ j, j ≤ kN k → prF (fun t => kF k 8 t + 1) j ≤ 4000000 → ZP G 0 m_X6_areFew 4 [some (.ref 281), some (jv (prF (fun t => kF k 8 t + 1) j)), none, some (iv (j : Int))] [] Z (fun r W => (∃ x, r = .inl (some (iv x)) ∧ isB x (prF (fun t => kF k 8 t + 1) (kN k) ≤ 2000)) ∧ W = Z) from key 0 (Nat.zero_le _) (by show (1 : Int) ≤ 4000000; decide)
  refine am_up (n := kN k) fun j hj ih hb => ?_
  have p1 := prF_1 (f := fun t => kF k 8 t + 1) j fun t ht => (f1 t (by omega)).1
  have up := prF_up (f := fun t => kF k 8 t + 1) (j := j) (kN k - j) fun t ht => (f1 t (by omega)).1
  rw [show j + (kN k - j) = kN k by omega] at up
  refine b_X6_areFew_4 h.1 h.2.1 h.2.2.1 ⟨by omega, by rw [e3]; omega, ?_⟩
  rw [e3]
  by_cases c : j < kN k
  · rw [if_neg (by omega)]
    refine ⟨by omega, ?_⟩
    by_cases d : 0 < zcmp (prF (fun t => kF k 8 t + 1) j) 2000
    · rw [if_pos d]
      refine ⟨⟨_, rfl, isB_b2 ⟨fun q => absurd d q, fun q => ?_⟩⟩, rfl⟩
      have := zcmp_gt.mp d
      omega
    · rw [if_neg d]
      obtain ⟨-, e, -⟩ := h.2.2.2.2.2.2.2.2 j c
      have fj := f1 j c
      have le : prF (fun t => kF k 8 t + 1) j ≤ 2000 := Int.not_lt.mp fun g => d (zcmp_gt.mpr g)
      have m := mul_b (a := prF (fun t => kF k 8 t + 1) j) (b := kF k 8 j + 1) (A := 2000) (B := 2000) (by omega) (by omega)
      rw [Int.toNat_natCast, show zI Z (1 + 10) j = kF k 8 j from e]
      exact ⟨zIx_nat (by omega) (by omega), by omega, ih c (by show prF (fun t => kF k 8 t + 1) j * (kF k 8 j + 1) ≤ 4000000; omega)⟩
  · rw [if_pos (by omega)]
    rw [show j = kN k by omega] at hb p1 ⊢
    refine ⟨by omega, ⟨_, rfl, isB_b2 ⟨fun q => ?_, fun q => ?_⟩⟩, rfl⟩
    · exact Int.not_lt.mp fun g => q (zcmp_gt.mpr g)
    · intro g
      have := zcmp_gt.mp g
      omega
def isNc (k : Bk) (t : Nat) (x : Int) : Prop := (x = 20 ∧ ∀ s, t ≤ s → s < kN k → kF k 8 s ≤ 0) ∨ ∃ s : Nat, t ≤ s ∧ s < kN k ∧ x = (s : Int) ∧ 0 < kF k 8 s ∧ ∀ r, t ≤ r → r < s → kF k 8 r ≤ 0
theorem s_nextToCut {G : Gx} {Z : Zm} {k : Bk} {o pos : Nat → Nat} {t : Nat} (h : mnC Z k o pos) (ht : t ≤ kN k) : ZM G 0 m_X6_nextToCut [.ref 281, iv (t : Int)] Z (fun r W => (∃ x, r = .inl (some (iv x)) ∧ isNc k t x) ∧ W = Z) := by
  have ho : kOk k := h.2.2.2.2.1
  have hN := ho.n
  have e3 := h.2.2.2.2.2.2.2.1
  refine e_X6_nextToCut h.1 h.2.1 h.2.2.1 ?_
  suffices key : ∀ j, j ≤ kN k - t → (∀ r, t ≤ r → r < t + j → kF k 8 r ≤ 0) → ZP G 0 m_X6_nextToCut 2 [some (.ref 281), none, some (iv ((t + j : Nat) : Int))] [] Z (fun r W => (∃ x, r = .inl (some (iv x)) ∧ isNc k t x) ∧ W = Z) from key 0 (Nat.zero_le _) fun r h1 h2 => by omega
  refine am_up (n := kN k - t) fun j hj ih hz => ?_
  refine b_X6_nextToCut_2 h.1 h.2.1 h.2.2.1 ⟨by omega, by rw [e3]; omega, ?_⟩
  rw [e3]
  by_cases c : t + j < kN k
  · obtain ⟨-, e, -⟩ := h.2.2.2.2.2.2.2.2 (t + j) c
    have o8 := ho.o8 (t + j) c
    rw [if_neg (by omega), Int.toNat_natCast, show zI Z (1 + 10) (t + j) = kF k 8 (t + j) from e]
    refine ⟨zIx_nat (by omega) (by omega), by omega, ?_⟩
    by_cases d : kF k 8 (t + j) ≤ 0
    · rw [if_pos d]
      have h9 := ih (by omega) fun r h1 h2 => by
        by_cases g : r = t + j
        · rw [g]
          exact d
        · exact hz r h1 (by omega)
      rw [show ((t + (j + 1) : Nat) : Int) = ((t + j : Nat) : Int) + 1 by omega] at h9
      exact h9
    · rw [if_neg d]
      exact ⟨⟨_, rfl, Or.inr ⟨t + j, by omega, c, rfl, by omega, hz⟩⟩, rfl⟩
  · rw [if_pos (by omega)]
    exact ⟨⟨20, rfl, Or.inl ⟨rfl, fun s h1 h2 => hz s h1 (by omega)⟩⟩, rfl⟩
