set_option maxRecDepth 20000 in
theorem e_X8_findGuessed {G : Gx} {Q : Rv → Zm → Prop} {Z : Zm} {s : Nat} {b : Nat} {n : Nat} (hs : atOdds Z s b n) (hb : atBook Z b) (hn : atNet Z n) (h : (ZP G 1 m_X8_findGuessed 4 [some (.ref s), some (iv 0), some (iv 0)] [] Z Q)) : ZM G 1 m_X8_findGuessed [.ref s] Z Q := ZM.of [some (.ref s), none, none] rfl <| z_iconst (pc' := 1) (n := 0) (by decide +kernel) rfl <| z_istore_n (pc' := 2) (j := 1) (ls' := [some (.ref s), some (iv 0), none]) (by decide +kernel) (by decide) rfl rfl <| z_iconst (pc' := 3) (n := 0) (by decide +kernel) rfl <| z_istore_n (pc' := 4) (j := 2) (ls' := [some (.ref s), some (iv 0), some (iv 0)]) (by decide +kernel) (by decide) rfl rfl <| h
set_option maxRecDepth 20000 in
theorem b_X8_findGuessed_4 {G : Gx} {Q : Rv → Zm → Prop} {Z : Zm} {s : Nat} {b : Nat} {n : Nat} {v1 : Int} {v2 : Int} (hs : atOdds Z s b n) (hb : atBook Z b) (hn : atNet Z n) (h : ((R32 v2) ∧ (R32 (zI Z b 3)) ∧ (if (zI Z b 3) ≤ v2 then (Q (.inl (some (iv v1))) Z) else ((R32 v1) ∧ (if 6 ≤ v1 then (Q (.inl (some (iv v1))) Z) else (ZM G 0 m_X0_isGuessed [.ref b, iv v2] Z (zKc G 1 m_X8_findGuessed 29 [some (.ref s), some (iv v1), some (iv v2)] [] Q))))))) : ZP G 1 m_X8_findGuessed 4 [some (.ref s), some (iv v1), some (iv v2)] [] Z Q := z_iload_n (pc' := 5) (j := 2) (by decide +kernel) rfl rfl <| z_aload_n (pc' := 6) (j := 0) (by decide +kernel) rfl rfl <| z_getR (pc' := 9) (idx := 24) (ci := 8) (f := 0) (by decide +kernel) f_RX8_24 rfl hs.o.1 hs.o.2 hs.r0 rfl <| z_getI (pc' := 12) (idx := 72) (ci := 0) (f := 3) (by decide +kernel) f_RX8_72 rfl hb.o.1 hb.o.2 rfl <| h.elim fun c1 h => h.elim fun c2 h => z_icmp_ge (pc' := 15) (tgt := 48) (off := 36) (by decide +kernel) (by decide) rfl c1 c2 (am_ite h (fun h => z_iload_n (pc' := 49) (j := 1) (by decide +kernel) rfl rfl <| z_ireturn (by decide +kernel) ⟨_, rfl, rfl⟩ h) (fun h => z_iload_n (pc' := 16) (j := 1) (by decide +kernel) rfl rfl <| z_bipush (pc' := 18) (n := 6) (by decide +kernel) (by decide) rfl <| h.elim fun c4 h => z_icmp_ge (pc' := 21) (tgt := 48) (off := 30) (by decide +kernel) (by decide) rfl c4 (by decide : R32 6) (am_ite h (fun h => z_iload_n (pc' := 49) (j := 1) (by decide +kernel) rfl rfl <| z_ireturn (by decide +kernel) ⟨_, rfl, rfl⟩ h) (fun h => z_aload_n (pc' := 22) (j := 0) (by decide +kernel) rfl rfl <| z_getR (pc' := 25) (idx := 24) (ci := 8) (f := 0) (by decide +kernel) f_RX8_24 rfl hs.o.1 hs.o.2 hs.r0 rfl <| z_iload_n (pc' := 26) (j := 2) (by decide +kernel) rfl rfl <| z_callV (pc' := 29) (idx := 76) (mj := m_X0_isGuessed) (av := [iv v2]) (d' := 0) (by decide +kernel) rfl k_X0_isGuessed l_RX8_76 rfl (by omega) (am_le rfl) rfl (am_le rfl) hb.o.1 hb.o.2 rfl h))))
set_option maxRecDepth 20000 in
theorem b_X8_findGuessed_29 {G : Gx} {Q : Rv → Zm → Prop} {Z : Zm} {s : Nat} {b : Nat} {n : Nat} {v1 : Int} {v2 : Int} {s0 : Int} (hs : atOdds Z s b n) (hb : atBook Z b) (hn : atNet Z n) (h : ((R32 s0) ∧ (if s0 = 0 then (ZP G 1 m_X8_findGuessed 4 [some (.ref s), some (iv v1), some (iv (v2 + 1))] [] Z Q) else ((zIx v1 6) ∧ ∀ Z4, Z4 = zSI Z (s + 1) (zu (zI Z (s + 1)) v1.toNat v2) → ZP G 1 m_X8_findGuessed 4 [some (.ref s), some (iv (v1 + 1)), some (iv (v2 + 1))] [] Z4 Q)))) : ZP G 1 m_X8_findGuessed 29 [some (.ref s), some (iv v1), some (iv v2)] [iv s0] Z Q := h.elim fun c1 h => z_if_eq (pc' := 32) (tgt := 42) (off := 13) (by decide +kernel) (by decide) rfl c1 (am_ite h (fun h => z_iinc (pc' := 45) (j := 2) (n := 1) (x := v2) (ls' := [some (.ref s), some (iv v1), some (iv (v2 + 1))]) (by decide +kernel) rfl (by decide) rfl rfl <| z_goto (tgt := 4) (off := -41) (by decide +kernel) (by decide) <| h) (fun h => z_aload_n (pc' := 33) (j := 0) (by decide +kernel) rfl rfl <| z_getR (pc' := 36) (idx := 9) (ci := 8) (f := 2) (by decide +kernel) f_RX8_9 rfl hs.o.1 hs.o.2 hs.r2 rfl <| z_iload_n (pc' := 37) (j := 1) (by decide +kernel) rfl rfl <| z_iload_n (pc' := 38) (j := 2) (by decide +kernel) rfl rfl <| h.elim fun c3 h => z_iastore (pc' := 39) (by decide +kernel) hs.a2 c3 rfl <| have h := h _ rfl; z_iinc (pc' := 42) (j := 1) (n := 1) (x := v1) (ls' := [some (.ref s), some (iv (v1 + 1)), some (iv v2)]) (by decide +kernel) rfl (by decide) rfl rfl <| z_iinc (pc' := 45) (j := 2) (n := 1) (x := v2) (ls' := [some (.ref s), some (iv (v1 + 1)), some (iv (v2 + 1))]) (by decide +kernel) rfl (by decide) rfl rfl <| z_goto (tgt := 4) (off := -41) (by decide +kernel) (by decide) <| h))
set_option maxRecDepth 20000 in
theorem e_X8_takeLengths {G : Gx} {Q : Rv → Zm → Prop} {Z : Zm} {s : Nat} {b : Nat} {n : Nat} {x : Int} {y : Int} (hs : atOdds Z s b n) (hb : atBook Z b) (hn : atNet Z n) (h : (ZP G 0 m_X8_takeLengths 8 [some (.ref s), some (iv x), none, some (iv y), some (iv 1), some (iv 0), none, none] [] Z Q)) : ZM G 0 m_X8_takeLengths [.ref s, iv x, iv y] Z Q := ZM.of [some (.ref s), some (iv x), some (iv y), none, none, none, none, none] rfl <| z_iload_n (pc' := 1) (j := 2) (by decide +kernel) rfl rfl <| z_istore_n (pc' := 2) (j := 3) (ls' := [some (.ref s), some (iv x), some (iv y), some (iv y), none, none, none, none]) (by decide +kernel) (by decide) rfl rfl <| z_iconst (pc' := 3) (n := 1) (by decide +kernel) rfl <| z_istore (pc' := 5) (j := 4) (ls' := [some (.ref s), some (iv x), some (iv y), some (iv y), some (iv 1), none, none, none]) (by decide +kernel) (by decide) rfl rfl <| z_iconst (pc' := 6) (n := 0) (by decide +kernel) rfl <| z_istore (pc' := 8) (j := 5) (ls' := [some (.ref s), some (iv x), some (iv y), some (iv y), some (iv 1), some (iv 0), none, none]) (by decide +kernel) (by decide) rfl rfl <| (ZP.wk (wk_some (wk_some (wk_none (wk_some (wk_some (wk_some (wk_none (wk_none wk_nil)))))))) h)
set_option maxRecDepth 20000 in
theorem b_X8_takeLengths_8 {G : Gx} {Q : Rv → Zm → Prop} {Z : Zm} {s : Nat} {b : Nat} {n : Nat} {x : Int} {v3 : Int} {v4 : Int} {v5 : Int} (hs : atOdds Z s b n) (hb : atBook Z b) (hn : atNet Z n) (h : ((R32 v5) ∧ (R32 x) ∧ (if x ≤ v5 then (Q (.inl (some (iv v4))) Z) else ((zIx v5 6) ∧ (R32 v3) ∧ (0 ≤ v3) ∧ (R32 (v3 % 3)) ∧ (if (v3 % 3) = 0 then ((zIx (zI Z (s + 1) v5.toNat) 20) ∧ ∀ Z14, Z14 = zSI Z (s + 2) (zu (zI Z (s + 2)) (zI Z (s + 1) v5.toNat).toNat (zI Z (b + 2) (zI Z (s + 1) v5.toNat).toNat)) → ZP G 0 m_X8_takeLengths 8 [some (.ref s), some (iv x), none, some (iv (v3 / 3)), some (iv (v4 * 4)), some (iv (v5 + 1)), none, none] [] Z14 Q) else ((zIx (if (v3 % 3) = 1 then (10 : Int) else 11) 12) ∧ (zIx (zI Z (s + 1) v5.toNat) 20) ∧ ∀ Z21, Z21 = zSI Z (s + 2) (zu (zI Z (s + 2)) (zI Z (s + 1) v5.toNat).toNat (zI Z (b + 2 + (if (v3 % 3) = 1 then (10 : Int) else 11).toNat) (zI Z (s + 1) v5.toNat).toNat)) → ZP G 0 m_X8_takeLengths 8 [some (.ref s), some (iv x), none, some (iv (v3 / 3)), some (iv v4), some (iv (v5 + 1)), none, none] [] Z21 Q)))))) : ZP G 0 m_X8_takeLengths 8 [some (.ref s), some (iv x), none, some (iv v3), some (iv v4), some (iv v5), none, none] [] Z Q := z_iload (pc' := 10) (j := 5) (by decide +kernel) rfl rfl <| z_iload_n (pc' := 11) (j := 1) (by decide +kernel) rfl rfl <| h.elim fun c1 h => h.elim fun c2 h => z_icmp_ge (pc' := 14) (tgt := 102) (off := 91) (by decide +kernel) (by decide) rfl c1 c2 (am_ite h (fun h => z_iload (pc' := 104) (j := 4) (by decide +kernel) rfl rfl <| z_ireturn (by decide +kernel) ⟨_, rfl, rfl⟩ h) (fun h => z_aload_n (pc' := 15) (j := 0) (by decide +kernel) rfl rfl <| z_getR (pc' := 18) (idx := 9) (ci := 8) (f := 2) (by decide +kernel) f_RX8_9 rfl hs.o.1 hs.o.2 hs.r2 rfl <| z_iload (pc' := 20) (j := 5) (by decide +kernel) rfl rfl <| h.elim fun c8 h => z_iaload (pc' := 21) (by decide +kernel) hs.a2 c8 rfl <| z_istore (pc' := 23) (j := 6) (ls' := [some (.ref s), some (iv x), none, some (iv v3), some (iv v4), some (iv v5), some (iv (zI Z (s + 1) v5.toNat)), none]) (by decide +kernel) (by decide) rfl rfl <| z_iload_n (pc' := 24) (j := 3) (by decide +kernel) rfl rfl <| z_iconst (pc' := 25) (n := 3) (by decide +kernel) rfl <| h.elim fun c9 h => h.elim fun c10 h => z_irem (pc' := 26) (by decide +kernel) c9 (by decide : R32 3) c10 (by decide) rfl <| z_istore (pc' := 28) (j := 7) (ls' := [some (.ref s), some (iv x), none, some (iv v3), some (iv v4), some (iv v5), some (iv (zI Z (s + 1) v5.toNat)), some (iv (v3 % 3))]) (by decide +kernel) (by decide) rfl rfl <| z_iload_n (pc' := 29) (j := 3) (by decide +kernel) rfl rfl <| z_iconst (pc' := 30) (n := 3) (by decide +kernel) rfl <| z_idiv (pc' := 31) (by decide +kernel) c9 (by decide : R32 3) c10 (by decide) rfl <| z_istore_n (pc' := 32) (j := 3) (ls' := [some (.ref s), some (iv x), none, some (iv (v3 / 3)), some (iv v4), some (iv v5), some (iv (zI Z (s + 1) v5.toNat)), some (iv (v3 % 3))]) (by decide +kernel) (by decide) rfl rfl <| z_iload (pc' := 34) (j := 7) (by decide +kernel) rfl rfl <| h.elim fun c11 h => z_if_ne (pc' := 37) (tgt := 65) (off := 31) (by decide +kernel) (by decide) rfl c11 (am_ite h (fun h => z_aload_n (pc' := 38) (j := 0) (by decide +kernel) rfl rfl <| z_getR (pc' := 41) (idx := 15) (ci := 8) (f := 3) (by decide +kernel) f_RX8_15 rfl hs.o.1 hs.o.2 hs.r3 rfl <| z_iload (pc' := 43) (j := 6) (by decide +kernel) rfl rfl <| z_aload_n (pc' := 44) (j := 0) (by decide +kernel) rfl rfl <| z_getR (pc' := 47) (idx := 24) (ci := 8) (f := 0) (by decide +kernel) f_RX8_24 rfl hs.o.1 hs.o.2 hs.r0 rfl <| z_getR (pc' := 50) (idx := 32) (ci := 0) (f := 0) (by decide +kernel) f_RX8_32 rfl hb.o.1 hb.o.2 hb.r0 rfl <| z_iconst (pc' := 51) (n := 0) (by decide +kernel) rfl <| z_aaload120 (pc' := 52) (by decide +kernel) hb.a0 ⟨by decide, by decide, by decide⟩ (hb.e0 0 (by decide)) rfl <| z_iload (pc' := 54) (j := 6) (by decide +kernel) rfl rfl <| h.elim fun c13 h => z_iaload (pc' := 55) (by decide +kernel) (hb.x0 0 (by decide)) c13 rfl <| z_iastore (pc' := 56) (by decide +kernel) hs.a3 c13 rfl <| have h := h _ rfl; z_iload (pc' := 58) (j := 4) (by decide +kernel) rfl rfl <| z_iconst (pc' := 59) (n := 4) (by decide +kernel) rfl <| z_imul (pc' := 60) (by decide +kernel) rfl <| z_istore (pc' := 62) (j := 4) (ls' := [some (.ref s), some (iv x), none, some (iv (v3 / 3)), some (iv (v4 * 4)), some (iv v5), some (iv (zI Z (s + 1) v5.toNat)), some (iv (v3 % 3))]) (by decide +kernel) (by decide) rfl rfl <| z_goto (tgt := 96) (off := 34) (by decide +kernel) (by decide) <| z_iinc (pc' := 99) (j := 5) (n := 1) (x := v5) (ls' := [some (.ref s), some (iv x), none, some (iv (v3 / 3)), some (iv (v4 * 4)), some (iv (v5 + 1)), some (iv (zI Z (s + 1) v5.toNat)), some (iv (v3 % 3))]) (by decide +kernel) rfl (by decide) rfl rfl <| z_goto (tgt := 8) (off := -91) (by decide +kernel) (by decide) <| (ZP.wk (wk_some (wk_some (wk_none (wk_some (wk_some (wk_some (wk_none (wk_none wk_nil)))))))) h)) (fun h => z_aload_n (pc' := 66) (j := 0) (by decide +kernel) rfl rfl <| z_getR (pc' := 69) (idx := 15) (ci := 8) (f := 3) (by decide +kernel) f_RX8_15 rfl hs.o.1 hs.o.2 hs.r3 rfl <| z_iload (pc' := 71) (j := 6) (by decide +kernel) rfl rfl <| z_aload_n (pc' := 72) (j := 0) (by decide +kernel) rfl rfl <| z_getR (pc' := 75) (idx := 24) (ci := 8) (f := 0) (by decide +kernel) f_RX8_24 rfl hs.o.1 hs.o.2 hs.r0 rfl <| z_getR (pc' := 78) (idx := 32) (ci := 0) (f := 0) (by decide +kernel) f_RX8_32 rfl hb.o.1 hb.o.2 hb.r0 rfl <| z_iload (pc' := 80) (j := 7) (by decide +kernel) rfl rfl <| z_iconst (pc' := 81) (n := 1) (by decide +kernel) rfl <| am_use (fun k17 => z_icmp_ne (pc' := 84) (tgt := 89) (off := 8) (by decide +kernel) (by decide) rfl c11 (by decide : R32 1) (am_ite2 (fun q18 => z_bipush (pc' := 86) (n := 10) (by decide +kernel) (by decide) rfl <| z_goto (tgt := 91) (off := 5) (by decide +kernel) (by decide) <| (am_jp (P := fun z9 => ZP G 0 m_X8_takeLengths 91 [some (.ref s), some (iv x), none, some (iv (v3 / 3)), some (iv v4), some (iv v5), some (iv (zI Z (s + 1) v5.toNat)), some (iv (v3 % 3))] [iv z9, .ref (b + 1), iv (zI Z (s + 1) v5.toNat), .ref (s + 2)] _ Q) (if_pos q18) k17)) (fun q18 => z_bipush (pc' := 91) (n := 11) (by decide +kernel) (by decide) rfl <| (am_jp (P := fun z9 => ZP G 0 m_X8_takeLengths 91 [some (.ref s), some (iv x), none, some (iv (v3 / 3)), some (iv v4), some (iv v5), some (iv (zI Z (s + 1) v5.toNat)), some (iv (v3 % 3))] [iv z9, .ref (b + 1), iv (zI Z (s + 1) v5.toNat), .ref (s + 2)] _ Q) (if_neg q18) k17)))) <| h.elim fun c19 h => z_aaload120 (pc' := 92) (by decide +kernel) hb.a0 c19 (hb.e0 _ c19.n) rfl <| z_iload (pc' := 94) (j := 6) (by decide +kernel) rfl rfl <| h.elim fun c20 h => z_iaload (pc' := 95) (by decide +kernel) (hb.x0 _ c19.n) c20 rfl <| z_iastore (pc' := 96) (by decide +kernel) hs.a3 c20 rfl <| have h := h _ rfl; z_iinc (pc' := 99) (j := 5) (n := 1) (x := v5) (ls' := [some (.ref s), some (iv x), none, some (iv (v3 / 3)), some (iv v4), some (iv (v5 + 1)), some (iv (zI Z (s + 1) v5.toNat)), some (iv (v3 % 3))]) (by decide +kernel) rfl (by decide) rfl rfl <| z_goto (tgt := 8) (off := -91) (by decide +kernel) (by decide) <| (ZP.wk (wk_some (wk_some (wk_none (wk_some (wk_some (wk_some (wk_none (wk_none wk_nil)))))))) h)))))
set_option maxRecDepth 20000 in
theorem e_X8_isCritical {G : Gx} {Q : Rv → Zm → Prop} {Z : Zm} {s : Nat} {b : Nat} {n : Nat} {x : Int} {y : Int} (hs : atOdds Z s b n) (hb : atBook Z b) (hn : atNet Z n) (h : (ZM G 0 m_X7_pullLatests [.ref n, .ref (s + 2), iv x, .ref (s + 4)] Z (zKc G 1 m_X8_isCritical 16 [some (.ref s), none, some (iv y)] [] Q))) : ZM G 1 m_X8_isCritical [.ref s, iv x, iv y] Z Q := ZM.of [some (.ref s), some (iv x), some (iv y)] rfl <| z_aload_n (pc' := 1) (j := 0) (by decide +kernel) rfl rfl <| z_getR (pc' := 4) (idx := 28) (ci := 8) (f := 1) (by decide +kernel) f_RX8_28 rfl hs.o.1 hs.o.2 hs.r1 rfl <| z_aload_n (pc' := 5) (j := 0) (by decide +kernel) rfl rfl <| z_getR (pc' := 8) (idx := 15) (ci := 8) (f := 3) (by decide +kernel) f_RX8_15 rfl hs.o.1 hs.o.2 hs.r3 rfl <| z_iload_n (pc' := 9) (j := 1) (by decide +kernel) rfl rfl <| z_aload_n (pc' := 10) (j := 0) (by decide +kernel) rfl rfl <| z_getR (pc' := 13) (idx := 21) (ci := 8) (f := 5) (by decide +kernel) f_RX8_21 rfl hs.o.1 hs.o.2 hs.r5 rfl <| z_callV (pc' := 16) (idx := 80) (mj := m_X7_pullLatests) (av := [.ref (s + 2), iv x, .ref (s + 4)]) (d' := 0) (by decide +kernel) rfl k_X7_pullLatests l_RX8_80 rfl (by omega) (am_le rfl) rfl (am_le rfl) hn.o.1 hn.o.2 rfl (ZM.mono h (zKc_wk (wk_some (wk_none (wk_some wk_nil)))))
set_option maxRecDepth 20000 in
theorem b_X8_isCritical_16 {G : Gx} {Q : Rv → Zm → Prop} {Z : Zm} {s : Nat} {b : Nat} {n : Nat} {y : Int}  (hs : atOdds Z s b n) (hb : atBook Z b) (hn : atNet Z n) (h : ((zIx y 20) ∧ (R32 (zI Z (s + 4) y.toNat)) ∧ (R32 (zI Z (s + 3) y.toNat)) ∧ Q (.inl (some (iv (b2 ((zI Z (s + 4) y.toNat) = (zI Z (s + 3) y.toNat)))))) Z)) : ZP G 1 m_X8_isCritical 16 [some (.ref s), none, some (iv y)] [] Z Q := z_aload_n (pc' := 17) (j := 0) (by decide +kernel) rfl rfl <| z_getR (pc' := 20) (idx := 21) (ci := 8) (f := 5) (by decide +kernel) f_RX8_21 rfl hs.o.1 hs.o.2 hs.r5 rfl <| z_iload_n (pc' := 21) (j := 2) (by decide +kernel) rfl rfl <| h.elim fun c1 h => z_iaload (pc' := 22) (by decide +kernel) hs.a5 c1 rfl <| z_aload_n (pc' := 23) (j := 0) (by decide +kernel) rfl rfl <| z_getR (pc' := 26) (idx := 18) (ci := 8) (f := 4) (by decide +kernel) f_RX8_18 rfl hs.o.1 hs.o.2 hs.r4 rfl <| z_iload_n (pc' := 27) (j := 2) (by decide +kernel) rfl rfl <| z_iaload (pc' := 28) (by decide +kernel) hs.a4 c1 rfl <| h.elim fun c2 h => h.elim fun c3 h => am_use (fun k6 => z_icmp_ne (pc' := 31) (tgt := 35) (off := 7) (by decide +kernel) (by decide) rfl c2 c3 (am_ite2 (fun q7 => z_iconst (pc' := 32) (n := 1) (by decide +kernel) rfl <| z_goto (tgt := 36) (off := 4) (by decide +kernel) (by decide) <| (am_jp (P := fun z9 => ZP G 1 m_X8_isCritical 36 [some (.ref s), none, some (iv y)] [iv z9] _ Q) (b2_p q7) k6)) (fun q7 => z_iconst (pc' := 36) (n := 0) (by decide +kernel) rfl <| (am_jp (P := fun z9 => ZP G 1 m_X8_isCritical 36 [some (.ref s), none, some (iv y)] [iv z9] _ Q) (b2_f q7) k6)))) <| z_ireturn (by decide +kernel) (am_rb (b2_01 _)) h
set_option maxRecDepth 20000 in
theorem e_X8_countParts {G : Gx} {Q : Rv → Zm → Prop} {Z : Zm} {s : Nat} {b : Nat} {n : Nat} {x : Int} {y : Int} (hs : atOdds Z s b n) (hb : atBook Z b) (hn : atNet Z n) (h : (∀ Z1, Z1 = zSI Z (s + 2) (zcpy (zI Z (b + 2)) (zI Z (s + 2)) 0 0 20) → ZM G 2 m_X8_findGuessed [.ref s] Z1 (zKc G 3 m_X8_countParts 24 [some (.ref s), some (iv x), some (iv y), none, none, none, none, none, none, none] [] Q))) : ZM G 3 m_X8_countParts [.ref s, iv x, iv y] Z Q := ZM.of [some (.ref s), some (iv x), some (iv y), none, none, none, none, none, none, none] rfl <| z_aload_n (pc' := 1) (j := 0) (by decide +kernel) rfl rfl <| z_getR (pc' := 4) (idx := 24) (ci := 8) (f := 0) (by decide +kernel) f_RX8_24 rfl hs.o.1 hs.o.2 hs.r0 rfl <| z_getR (pc' := 7) (idx := 32) (ci := 0) (f := 0) (by decide +kernel) f_RX8_32 rfl hb.o.1 hb.o.2 hb.r0 rfl <| z_iconst (pc' := 8) (n := 0) (by decide +kernel) rfl <| z_aaload120 (pc' := 9) (by decide +kernel) hb.a0 ⟨by decide, by decide, by decide⟩ (hb.e0 0 (by decide)) rfl <| z_iconst (pc' := 10) (n := 0) (by decide +kernel) rfl <| z_aload_n (pc' := 11) (j := 0) (by decide +kernel) rfl rfl <| z_getR (pc' := 14) (idx := 15) (ci := 8) (f := 3) (by decide +kernel) f_RX8_15 rfl hs.o.1 hs.o.2 hs.r3 rfl <| z_iconst (pc' := 15) (n := 0) (by decide +kernel) rfl <| z_bipush (pc' := 17) (n := 20) (by decide +kernel) (by decide) rfl <| z_copy (pc' := 20) (idx := 38) (by decide +kernel) (amM7 98 rfl (by decide +kernel)) (amM3 71 rfl (by decide +kernel)) (amM3 70 rfl (by decide +kernel)) (amM1 20 rfl (by decide +kernel)) (by omega) (am_le rfl) (hb.x0 0 (by decide)) hs.a3 (by decide) rfl <| have h := h _ rfl; z_aload_n (pc' := 21) (j := 0) (by decide +kernel) rfl rfl <| z_callV (pc' := 24) (idx := 44) (mj := m_X8_findGuessed) (av := []) (d' := 2) (by decide +kernel) rfl k_X8_findGuessed l_RX8_44 rfl (by omega) (am_le rfl) rfl (am_le rfl) hs.o.1 hs.o.2 rfl h
set_option maxRecDepth 20000 in
theorem b_X8_countParts_24 {G : Gx} {Q : Rv → Zm → Prop} {Z : Zm} {s : Nat} {b : Nat} {n : Nat} {x : Int} {y : Int} {s0 : Int} (hs : atOdds Z s b n) (hb : atBook Z b) (hn : atNet Z n) (h : (ZP G 3 m_X8_countParts 31 [some (.ref s), some (iv x), some (iv y), some (iv s0), some (iv 1), some (iv 0), none, none, none, none] [] Z Q)) : ZP G 3 m_X8_countParts 24 [some (.ref s), some (iv x), some (iv y), none, none, none, none, none, none, none] [iv s0] Z Q := z_istore_n (pc' := 25) (j := 3) (ls' := [some (.ref s), some (iv x), some (iv y), some (iv s0), none, none, none, none, none, none]) (by decide +kernel) (by decide) rfl rfl <| z_iconst (pc' := 26) (n := 1) (by decide +kernel) rfl <| z_istore (pc' := 28) (j := 4) (ls' := [some (.ref s), some (iv x), some (iv y), some (iv s0), some (iv 1), none, none, none, none, none]) (by decide +kernel) (by decide) rfl rfl <| z_iconst (pc' := 29) (n := 0) (by decide +kernel) rfl <| z_istore (pc' := 31) (j := 5) (ls' := [some (.ref s), some (iv x), some (iv y), some (iv s0), some (iv 1), some (iv 0), none, none, none, none]) (by decide +kernel) (by decide) rfl rfl <| h
set_option maxRecDepth 20000 in
theorem b_X8_countParts_31 {G : Gx} {Q : Rv → Zm → Prop} {Z : Zm} {s : Nat} {b : Nat} {n : Nat} {x : Int} {y : Int} {v3 : Int} {v4 : Int} {v5 : Int} (hs : atOdds Z s b n) (hb : atBook Z b) (hn : atNet Z n) (h : ((R32 v5) ∧ (R32 v3) ∧ (if v3 ≤ v5 then (ZP G 3 m_X8_countParts 55 [some (.ref s), some (iv x), some (iv y), some (iv v3), some (iv v4), some (jv 0), none, some (iv 0), none, none] [] Z Q) else (ZP G 3 m_X8_countParts 31 [some (.ref s), some (iv x), some (iv y), some (iv v3), some (iv (v4 * 3)), some (iv (v5 + 1)), none, none, none, none] [] Z Q)))) : ZP G 3 m_X8_countParts 31 [some (.ref s), some (iv x), some (iv y), some (iv v3), some (iv v4), some (iv v5), none, none, none, none] [] Z Q := z_iload (pc' := 33) (j := 5) (by decide +kernel) rfl rfl <| z_iload_n (pc' := 34) (j := 3) (by decide +kernel) rfl rfl <| h.elim fun c1 h => h.elim fun c2 h => z_icmp_ge (pc' := 37) (tgt := 49) (off := 15) (by decide +kernel) (by decide) rfl c1 c2 (am_ite h (fun h => z_lconst (pc' := 50) (n := 0) (v := 0) (by decide +kernel) rfl rfl <| z_lstore (pc' := 52) (j := 5) (ls' := [some (.ref s), some (iv x), some (iv y), some (iv v3), some (iv v4), some (jv 0), none, none, none, none]) (by decide +kernel) (by decide) rfl rfl <| z_iconst (pc' := 53) (n := 0) (by decide +kernel) rfl <| z_istore (pc' := 55) (j := 7) (ls' := [some (.ref s), some (iv x), some (iv y), some (iv v3), some (iv v4), some (jv 0), none, some (iv 0), none, none]) (by decide +kernel) (by decide) rfl rfl <| h) (fun h => z_iload (pc' := 39) (j := 4) (by decide +kernel) rfl rfl <| z_iconst (pc' := 40) (n := 3) (by decide +kernel) rfl <| z_imul (pc' := 41) (by decide +kernel) rfl <| z_istore (pc' := 43) (j := 4) (ls' := [some (.ref s), some (iv x), some (iv y), some (iv v3), some (iv (v4 * 3)), some (iv v5), none, none, none, none]) (by decide +kernel) (by decide) rfl rfl <| z_iinc (pc' := 46) (j := 5) (n := 1) (x := v5) (ls' := [some (.ref s), some (iv x), some (iv y), some (iv v3), some (iv (v4 * 3)), some (iv (v5 + 1)), none, none, none, none]) (by decide +kernel) rfl (by decide) rfl rfl <| z_goto (tgt := 31) (off := -15) (by decide +kernel) (by decide) <| h))
set_option maxRecDepth 20000 in
theorem b_X8_countParts_55 {G : Gx} {Q : Rv → Zm → Prop} {Z : Zm} {s : Nat} {b : Nat} {n : Nat} {x : Int} {y : Int} {v3 : Int} {v4 : Int} {v5 : Int} {v7 : Int} (hs : atOdds Z s b n) (hb : atBook Z b) (hn : atNet Z n) (h : ((R32 v7) ∧ (R32 v4) ∧ (if v4 ≤ v7 then (Q (.inl (some (jv v5))) Z) else (ZM G 2 m_X8_takeLengths [.ref s, iv v3, iv v7] Z (zKc G 3 m_X8_countParts 69 [some (.ref s), some (iv x), some (iv y), some (iv v3), some (iv v4), some (jv v5), none, some (iv v7), none, none] [] Q))))) : ZP G 3 m_X8_countParts 55 [some (.ref s), some (iv x), some (iv y), some (iv v3), some (iv v4), some (jv v5), none, some (iv v7), none, none] [] Z Q := z_iload (pc' := 57) (j := 7) (by decide +kernel) rfl rfl <| z_iload (pc' := 59) (j := 4) (by decide +kernel) rfl rfl <| h.elim fun c1 h => h.elim fun c2 h => z_icmp_ge (pc' := 62) (tgt := 149) (off := 90) (by decide +kernel) (by decide) rfl c1 c2 (am_ite h (fun h => z_lload (pc' := 151) (j := 5) (by decide +kernel) rfl rfl <| z_lreturn (by decide +kernel) rfl h) (fun h => z_aload_n (pc' := 63) (j := 0) (by decide +kernel) rfl rfl <| z_iload_n (pc' := 64) (j := 3) (by decide +kernel) rfl rfl <| z_iload (pc' := 66) (j := 7) (by decide +kernel) rfl rfl <| z_callV (pc' := 69) (idx := 48) (mj := m_X8_takeLengths) (av := [iv v3, iv v7]) (d' := 2) (by decide +kernel) rfl k_X8_takeLengths l_RX8_48 rfl (by omega) (am_le rfl) rfl (am_le rfl) hs.o.1 hs.o.2 rfl h))
set_option maxRecDepth 20000 in
theorem b_X8_countParts_69 {G : Gx} {Q : Rv → Zm → Prop} {Z : Zm} {s : Nat} {b : Nat} {n : Nat} {x : Int} {y : Int} {v3 : Int} {v4 : Int} {v5 : Int} {v7 : Int} {s0 : Int} (hs : atOdds Z s b n) (hb : atBook Z b) (hn : atNet Z n) (h : (∀ Z1, Z1 = zSI Z (s + 3) (zfl (zI Z (s + 3)) 20 0) → ZM G 2 m_X7_pushBegins [.ref n, .ref (s + 2), .ref (s + 3)] Z1 (zKc G 3 m_X8_countParts 94 [some (.ref s), some (iv x), some (iv y), some (iv v3), some (iv v4), some (jv v5), none, some (iv v7), some (iv s0), none] [] Q))) : ZP G 3 m_X8_countParts 69 [some (.ref s), some (iv x), some (iv y), some (iv v3), some (iv v4), some (jv v5), none, some (iv v7), none, none] [iv s0] Z Q := z_istore (pc' := 71) (j := 8) (ls' := [some (.ref s), some (iv x), some (iv y), some (iv v3), some (iv v4), some (jv v5), none, some (iv v7), some (iv s0), none]) (by decide +kernel) (by decide) rfl rfl <| z_aload_n (pc' := 72) (j := 0) (by decide +kernel) rfl rfl <| z_getR (pc' := 75) (idx := 18) (ci := 8) (f := 4) (by decide +kernel) f_RX8_18 rfl hs.o.1 hs.o.2 hs.r4 rfl <| z_iconst (pc' := 76) (n := 0) (by decide +kernel) rfl <| z_callS (pc' := 79) (idx := 52) (mj := m_J7_fill_53178) (av := [.ref (s + 3), iv 0]) (d' := 0) (by decide +kernel) rfl k_J7_fill_53178 l_RX8_52 rfl (by omega) (am_le rfl) rfl (am_le rfl) rfl <| zKf ((s_fill hs.a4 (by decide))) <| have h := h _ rfl; z_aload_n (pc' := 80) (j := 0) (by decide +kernel) rfl rfl <| z_getR (pc' := 83) (idx := 28) (ci := 8) (f := 1) (by decide +kernel) f_RX8_28 rfl hs.o.1 hs.o.2 hs.r1 rfl <| z_aload_n (pc' := 84) (j := 0) (by decide +kernel) rfl rfl <| z_getR (pc' := 87) (idx := 15) (ci := 8) (f := 3) (by decide +kernel) f_RX8_15 rfl hs.o.1 hs.o.2 hs.r3 rfl <| z_aload_n (pc' := 88) (j := 0) (by decide +kernel) rfl rfl <| z_getR (pc' := 91) (idx := 18) (ci := 8) (f := 4) (by decide +kernel) f_RX8_18 rfl hs.o.1 hs.o.2 hs.r4 rfl <| z_callV (pc' := 94) (idx := 58) (mj := m_X7_pushBegins) (av := [.ref (s + 2), .ref (s + 3)]) (d' := 2) (by decide +kernel) rfl k_X7_pushBegins l_RX8_58 rfl (by omega) (am_le rfl) rfl (am_le rfl) hn.o.1 hn.o.2 rfl h
set_option maxRecDepth 20000 in
theorem b_X8_countParts_94 {G : Gx} {Q : Rv → Zm → Prop} {Z : Zm} {s : Nat} {b : Nat} {n : Nat} {x : Int} {y : Int} {v3 : Int} {v4 : Int} {v5 : Int} {v7 : Int} {v8 : Int} (hs : atOdds Z s b n) (hb : atBook Z b) (hn : atNet Z n) (h : (ZM G 2 m_X7_lastEnd [.ref n, .ref (s + 2), .ref (s + 3)] Z (zKc G 3 m_X8_countParts 109 [some (.ref s), some (iv x), some (iv y), some (iv v3), some (iv v4), some (jv v5), none, some (iv v7), some (iv v8), none] [] Q))) : ZP G 3 m_X8_countParts 94 [some (.ref s), some (iv x), some (iv y), some (iv v3), some (iv v4), some (jv v5), none, some (iv v7), some (iv v8), none] [] Z Q := z_aload_n (pc' := 95) (j := 0) (by decide +kernel) rfl rfl <| z_getR (pc' := 98) (idx := 28) (ci := 8) (f := 1) (by decide +kernel) f_RX8_28 rfl hs.o.1 hs.o.2 hs.r1 rfl <| z_aload_n (pc' := 99) (j := 0) (by decide +kernel) rfl rfl <| z_getR (pc' := 102) (idx := 15) (ci := 8) (f := 3) (by decide +kernel) f_RX8_15 rfl hs.o.1 hs.o.2 hs.r3 rfl <| z_aload_n (pc' := 103) (j := 0) (by decide +kernel) rfl rfl <| z_getR (pc' := 106) (idx := 18) (ci := 8) (f := 4) (by decide +kernel) f_RX8_18 rfl hs.o.1 hs.o.2 hs.r4 rfl <| z_callV (pc' := 109) (idx := 64) (mj := m_X7_lastEnd) (av := [.ref (s + 2), .ref (s + 3)]) (d' := 2) (by decide +kernel) rfl k_X7_lastEnd l_RX8_64 rfl (by omega) (am_le rfl) rfl (am_le rfl) hn.o.1 hn.o.2 rfl h
set_option maxRecDepth 20000 in
theorem b_X8_countParts_109 {G : Gx} {Q : Rv → Zm → Prop} {Z : Zm} {s : Nat} {b : Nat} {n : Nat} {x : Int} {y : Int} {v3 : Int} {v4 : Int} {v5 : Int} {v7 : Int} {v8 : Int} {s0 : Int} (hs : atOdds Z s b n) (hb : atBook Z b) (hn : atNet Z n) (h : ((R32 y) ∧ (if y = (-1) then ((R32 s0) ∧ (R32 x) ∧ (if x < s0 then (ZP G 3 m_X8_countParts 55 [some (.ref s), some (iv x), some (iv y), some (iv v3), some (iv v4), some (jv v5), none, some (iv (v7 + 1)), none, none] [] Z Q) else ((R32 v8) ∧ ZP G 3 m_X8_countParts 55 [some (.ref s), some (iv x), some (iv y), some (iv v3), some (iv v4), some (jv (v5 + v8)), none, some (iv (v7 + 1)), none, none] [] Z Q))) else (ZM G 2 m_X8_isCritical [.ref s, iv s0, iv y] Z (zKc G 3 m_X8_countParts 132 [some (.ref s), some (iv x), some (iv y), some (iv v3), some (iv v4), some (jv v5), none, some (iv v7), some (iv v8), none] [] Q))))) : ZP G 3 m_X8_countParts 109 [some (.ref s), some (iv x), some (iv y), some (iv v3), some (iv v4), some (jv v5), none, some (iv v7), some (iv v8), none] [iv s0] Z Q := z_istore (pc' := 111) (j := 9) (ls' := [some (.ref s), some (iv x), some (iv y), some (iv v3), some (iv v4), some (jv v5), none, some (iv v7), some (iv v8), some (iv s0)]) (by decide +kernel) (by decide) rfl rfl <| z_iload_n (pc' := 112) (j := 2) (by decide +kernel) rfl rfl <| z_iconst (pc' := 113) (n := -1) (by decide +kernel) rfl <| h.elim fun c1 h => z_icmp_ne (pc' := 116) (tgt := 125) (off := 12) (by decide +kernel) (by decide) rfl c1 (by decide : R32 (-1)) (am_ite h (fun h => z_iload (pc' := 118) (j := 9) (by decide +kernel) rfl rfl <| z_iload_n (pc' := 119) (j := 1) (by decide +kernel) rfl rfl <| h.elim fun c5 h => h.elim fun c6 h => z_icmp_gt (pc' := 122) (tgt := 143) (off := 24) (by decide +kernel) (by decide) rfl c5 c6 (am_ite h (fun h => z_iinc (pc' := 146) (j := 7) (n := 1) (x := v7) (ls' := [some (.ref s), some (iv x), some (iv y), some (iv v3), some (iv v4), some (jv v5), none, some (iv (v7 + 1)), some (iv v8), some (iv s0)]) (by decide +kernel) rfl (by decide) rfl rfl <| z_goto (tgt := 55) (off := -91) (by decide +kernel) (by decide) <| (ZP.wk (wk_some (wk_some (wk_some (wk_some (wk_some (wk_some (wk_none (wk_some (wk_none (wk_none wk_nil)))))))))) h)) (fun h => z_goto (tgt := 135) (off := 13) (by decide +kernel) (by decide) <| z_lload (pc' := 137) (j := 5) (by decide +kernel) rfl rfl <| z_iload (pc' := 139) (j := 8) (by decide +kernel) rfl rfl <| h.elim fun c8 h => z_i2l (pc' := 140) (by decide +kernel) c8 rfl <| z_ladd (pc' := 141) (by decide +kernel) rfl <| z_lstore (pc' := 143) (j := 5) (ls' := [some (.ref s), some (iv x), some (iv y), some (iv v3), some (iv v4), some (jv (v5 + v8)), none, some (iv v7), some (iv v8), some (iv s0)]) (by decide +kernel) (by decide) rfl rfl <| z_iinc (pc' := 146) (j := 7) (n := 1) (x := v7) (ls' := [some (.ref s), some (iv x), some (iv y), some (iv v3), some (iv v4), some (jv (v5 + v8)), none, some (iv (v7 + 1)), some (iv v8), some (iv s0)]) (by decide +kernel) rfl (by decide) rfl rfl <| z_goto (tgt := 55) (off := -91) (by decide +kernel) (by decide) <| (ZP.wk (wk_some (wk_some (wk_some (wk_some (wk_some (wk_some (wk_none (wk_some (wk_none (wk_none wk_nil)))))))))) h)))) (fun h => z_aload_n (pc' := 126) (j := 0) (by decide +kernel) rfl rfl <| z_iload (pc' := 128) (j := 9) (by decide +kernel) rfl rfl <| z_iload_n (pc' := 129) (j := 2) (by decide +kernel) rfl rfl <| z_callV (pc' := 132) (idx := 68) (mj := m_X8_isCritical) (av := [iv s0, iv y]) (d' := 2) (by decide +kernel) rfl k_X8_isCritical l_RX8_68 rfl (by omega) (am_le rfl) rfl (am_le rfl) hs.o.1 hs.o.2 rfl (ZM.mono h (zKc_wk (wk_some (wk_some (wk_some (wk_some (wk_some (wk_some (wk_none (wk_some (wk_some (wk_none wk_nil))))))))))))))
set_option maxRecDepth 20000 in
theorem b_X8_countParts_132 {G : Gx} {Q : Rv → Zm → Prop} {Z : Zm} {s : Nat} {b : Nat} {n : Nat} {x : Int} {y : Int} {v3 : Int} {v4 : Int} {v5 : Int} {v7 : Int} {v8 : Int} {s0 : Int} (hs : atOdds Z s b n) (hb : atBook Z b) (hn : atNet Z n) (h : ((R32 s0) ∧ (if s0 = 0 then (ZP G 3 m_X8_countParts 55 [some (.ref s), some (iv x), some (iv y), some (iv v3), some (iv v4), some (jv v5), none, some (iv (v7 + 1)), none, none] [] Z Q) else ((R32 v8) ∧ ZP G 3 m_X8_countParts 55 [some (.ref s), some (iv x), some (iv y), some (iv v3), some (iv v4), some (jv (v5 + v8)), none, some (iv (v7 + 1)), none, none] [] Z Q)))) : ZP G 3 m_X8_countParts 132 [some (.ref s), some (iv x), some (iv y), some (iv v3), some (iv v4), some (jv v5), none, some (iv v7), some (iv v8), none] [iv s0] Z Q := h.elim fun c1 h => z_if_eq (pc' := 135) (tgt := 143) (off := 11) (by decide +kernel) (by decide) rfl c1 (am_ite h (fun h => z_iinc (pc' := 146) (j := 7) (n := 1) (x := v7) (ls' := [some (.ref s), some (iv x), some (iv y), some (iv v3), some (iv v4), some (jv v5), none, some (iv (v7 + 1)), some (iv v8), none]) (by decide +kernel) rfl (by decide) rfl rfl <| z_goto (tgt := 55) (off := -91) (by decide +kernel) (by decide) <| (ZP.wk (wk_some (wk_some (wk_some (wk_some (wk_some (wk_some (wk_none (wk_some (wk_none (wk_none wk_nil)))))))))) h)) (fun h => z_lload (pc' := 137) (j := 5) (by decide +kernel) rfl rfl <| z_iload (pc' := 139) (j := 8) (by decide +kernel) rfl rfl <| h.elim fun c3 h => z_i2l (pc' := 140) (by decide +kernel) c3 rfl <| z_ladd (pc' := 141) (by decide +kernel) rfl <| z_lstore (pc' := 143) (j := 5) (ls' := [some (.ref s), some (iv x), some (iv y), some (iv v3), some (iv v4), some (jv (v5 + v8)), none, some (iv v7), some (iv v8), none]) (by decide +kernel) (by decide) rfl rfl <| z_iinc (pc' := 146) (j := 7) (n := 1) (x := v7) (ls' := [some (.ref s), some (iv x), some (iv y), some (iv v3), some (iv v4), some (jv (v5 + v8)), none, some (iv (v7 + 1)), some (iv v8), none]) (by decide +kernel) rfl (by decide) rfl rfl <| z_goto (tgt := 55) (off := -91) (by decide +kernel) (by decide) <| (ZP.wk (wk_some (wk_some (wk_some (wk_some (wk_some (wk_some (wk_none (wk_some (wk_none (wk_none wk_nil)))))))))) h)))
set_option maxRecDepth 20000 in
theorem e_X11_oddsBy {G : Gx} {Q : Rv → Zm → Prop} {Z : Zm} {x : Int} (hx : atAll Z) (h : (ZM G 11 m_X11_checkGuesses [.ref 0] Z (zKc G 12 m_X11_oddsBy 4 [some (.ref 0), some (iv x)] [] Q))) : ZM G 12 m_X11_oddsBy [.ref 0, iv x] Z Q := ZM.of [some (.ref 0), some (iv x)] rfl <| z_aload_n (pc' := 1) (j := 0) (by decide +kernel) rfl rfl <| z_callV (pc' := 4) (idx := 421) (mj := m_X11_checkGuesses) (av := []) (d' := 11) (by decide +kernel) rfl k_X11_checkGuesses l_RX11_421 rfl (by omega) (am_le rfl) rfl (am_le rfl) hx.o.1 hx.o.2 rfl h
set_option maxRecDepth 20000 in
theorem b_X11_oddsBy_4 {G : Gx} {Q : Rv → Zm → Prop} {Z : Zm} {x : Int}  (hx : atAll Z) (h : (ZM G 11 m_X11_freshNet [.ref 0] Z (zKc G 12 m_X11_oddsBy 8 [some (.ref 0), some (iv x)] [] Q))) : ZP G 12 m_X11_oddsBy 4 [some (.ref 0), some (iv x)] [] Z Q := z_aload_n (pc' := 5) (j := 0) (by decide +kernel) rfl rfl <| z_callV (pc' := 8) (idx := 238) (mj := m_X11_freshNet) (av := []) (d' := 11) (by decide +kernel) rfl k_X11_freshNet l_RX11_238 rfl (by omega) (am_le rfl) rfl (am_le rfl) hx.o.1 hx.o.2 rfl h
set_option maxRecDepth 20000 in
theorem b_X11_oddsBy_8 {G : Gx} {Q : Rv → Zm → Prop} {Z : Zm} {x : Int}  (hx : atAll Z) (h : (ZM G 11 m_X8_countParts [.ref 285, iv x, iv (-1)] Z (zKc G 12 m_X11_oddsBy 18 [none, none] [] Q))) : ZP G 12 m_X11_oddsBy 8 [some (.ref 0), some (iv x)] [.ref 233] Z Q := z_pop (pc' := 9) (by decide +kernel) rfl rfl <| z_aload_n (pc' := 10) (j := 0) (by decide +kernel) rfl rfl <| z_getR (pc' := 13) (idx := 99) (ci := 11) (f := 18) (by decide +kernel) f_RX11_99 rfl hx.o.1 hx.o.2 hx.r18 rfl <| z_iload_n (pc' := 14) (j := 1) (by decide +kernel) rfl rfl <| z_iconst (pc' := 15) (n := -1) (by decide +kernel) rfl <| z_callV (pc' := 18) (idx := 426) (mj := m_X8_countParts) (av := [iv x, iv (-1)]) (d' := 11) (by decide +kernel) rfl k_X8_countParts l_RX11_426 rfl (by omega) (am_le rfl) rfl (am_le rfl) hx.od.o.1 hx.od.o.2 rfl (ZM.mono h (zKc_wk (wk_none (wk_none wk_nil))))
set_option maxRecDepth 20000 in
theorem b_X11_oddsBy_18 {G : Gx} {Q : Rv → Zm → Prop} {Z : Zm}  {s0 : Int} (hx : atAll Z) (h : (Q (.inl (some (jv s0))) Z)) : ZP G 12 m_X11_oddsBy 18 [none, none] [jv s0] Z Q := z_lreturn (by decide +kernel) rfl h
set_option maxRecDepth 20000 in
theorem e_X11_oddsCritical {G : Gx} {Q : Rv → Zm → Prop} {Z : Zm} {t : Int} (hx : atAll Z) (h : ((R32 t) ∧ (R32 (zI Z 1 3)) ∧ (zSz Z < 1000000) ∧ (if 0 ≤ t ∧ t < zI Z 1 3 then (ZM G 11 m_X11_checkGuesses [.ref 0] Z (zKc G 12 m_X11_oddsCritical 9 [some (.ref 0), some (iv t)] [] Q)) else Q (.inr "java/util/NoSuchElementException") (zC Z 15 0 6)))) : ZM G 12 m_X11_oddsCritical [.ref 0, iv t] Z Q := ZM.of [some (.ref 0), some (iv t)] rfl <| z_aload_n (pc' := 1) (j := 0) (by decide +kernel) rfl rfl <| z_iload_n (pc' := 2) (j := 1) (by decide +kernel) rfl rfl <| h.elim fun c1 h => h.elim fun c2 h => h.elim fun c3 h => z_callV (pc' := 5) (idx := 133) (mj := m_X11_checkTask) (av := [iv t]) (d' := 8) (by decide +kernel) rfl k_X11_checkTask l_RX11_133 rfl (by omega) (am_le rfl) rfl (am_le rfl) hx.o.1 hx.o.2 rfl <| zKt (s_checkTask hx c1 c2 c3) (am_ite h (fun h => z_aload_n (pc' := 6) (j := 0) (by decide +kernel) rfl rfl <| z_callV (pc' := 9) (idx := 421) (mj := m_X11_checkGuesses) (av := []) (d' := 11) (by decide +kernel) rfl k_X11_checkGuesses l_RX11_421 rfl (by omega) (am_le rfl) rfl (am_le rfl) hx.o.1 hx.o.2 rfl h) (fun h => h))
set_option maxRecDepth 20000 in
theorem b_X11_oddsCritical_9 {G : Gx} {Q : Rv → Zm → Prop} {Z : Zm} {t : Int}  (hx : atAll Z) (h : (ZM G 11 m_X11_freshNet [.ref 0] Z (zKc G 12 m_X11_oddsCritical 13 [some (.ref 0), some (iv t)] [] Q))) : ZP G 12 m_X11_oddsCritical 9 [some (.ref 0), some (iv t)] [] Z Q := z_aload_n (pc' := 10) (j := 0) (by decide +kernel) rfl rfl <| z_callV (pc' := 13) (idx := 238) (mj := m_X11_freshNet) (av := []) (d' := 11) (by decide +kernel) rfl k_X11_freshNet l_RX11_238 rfl (by omega) (am_le rfl) rfl (am_le rfl) hx.o.1 hx.o.2 rfl h
set_option maxRecDepth 20000 in
theorem b_X11_oddsCritical_13 {G : Gx} {Q : Rv → Zm → Prop} {Z : Zm} {t : Int}  (hx : atAll Z) (h : (ZM G 11 m_X8_countParts [.ref 285, iv 0, iv t] Z (zKc G 12 m_X11_oddsCritical 23 [none, none] [] Q))) : ZP G 12 m_X11_oddsCritical 13 [some (.ref 0), some (iv t)] [.ref 233] Z Q := z_pop (pc' := 14) (by decide +kernel) rfl rfl <| z_aload_n (pc' := 15) (j := 0) (by decide +kernel) rfl rfl <| z_getR (pc' := 18) (idx := 99) (ci := 11) (f := 18) (by decide +kernel) f_RX11_99 rfl hx.o.1 hx.o.2 hx.r18 rfl <| z_iconst (pc' := 19) (n := 0) (by decide +kernel) rfl <| z_iload_n (pc' := 20) (j := 1) (by decide +kernel) rfl rfl <| z_callV (pc' := 23) (idx := 426) (mj := m_X8_countParts) (av := [iv 0, iv t]) (d' := 11) (by decide +kernel) rfl k_X8_countParts l_RX11_426 rfl (by omega) (am_le rfl) rfl (am_le rfl) hx.od.o.1 hx.od.o.2 rfl (ZM.mono h (zKc_wk (wk_none (wk_none wk_nil))))
set_option maxRecDepth 20000 in
theorem b_X11_oddsCritical_23 {G : Gx} {Q : Rv → Zm → Prop} {Z : Zm}  {s0 : Int} (hx : atAll Z) (h : (Q (.inl (some (jv s0))) Z)) : ZP G 12 m_X11_oddsCritical 23 [none, none] [jv s0] Z Q := z_lreturn (by decide +kernel) rfl h
/-! ===== odds: all lengths of the guessed tasks ===== -/
def oO (F : Nat → Nat → Int) : Nat → ((Nat → Int) → Int) → Int
  | 0, v => v (F 0)
  | t + 1, v => if 0 < F 10 t then 4 * oO F t v + oO F t (fun f => v (zu f t (F 10 t))) + oO F t (fun f => v (zu f t (F 11 t))) else oO F t v
def gcN (F : Nat → Nat → Int) : Nat → Nat
  | 0 => 0
  | t + 1 => if 0 < F 10 t then gcN F t + 1 else gcN F t
theorem gcN_p {F : Nat → Nat → Int} {t : Nat} (h : 0 < F 10 t) : gcN F (t + 1) = gcN F t + 1 := if_pos h
theorem gcN_n {F : Nat → Nat → Int} {t : Nat} (h : ¬ 0 < F 10 t) : gcN F (t + 1) = gcN F t := if_neg h
theorem gcN_le {F : Nat → Nat → Int} (t : Nat) : ∀ m, gcN F t ≤ gcN F (t + m) := by
  intro m
  induction m with
  | zero => exact Nat.le_refl _
  | succ m ih =>
    by_cases g : 0 < F 10 (t + m)
    · rw [show t + (m + 1) = t + m + 1 from rfl, gcN_p g]
      omega
    · rw [show t + (m + 1) = t + m + 1 from rfl, gcN_n g]
      exact ih
theorem gcN_lt {F : Nat → Nat → Int} {u t : Nat} (h : u < t) (g : 0 < F 10 u) : gcN F u + 1 ≤ gcN F t := by
  have a := gcN_le (F := F) (u + 1) (t - (u + 1))
  rw [gcN_p g, show u + 1 + (t - (u + 1)) = t by omega] at a
  exact a
theorem gcN_mo {F : Nat → Nat → Int} {u t : Nat} (h : u ≤ t) : gcN F u ≤ gcN F t := by
  have a := gcN_le (F := F) u (t - u)
  rw [show u + (t - u) = t by omega] at a
  exact a
theorem gcN_ex {F : Nat → Nat → Int} {e : Nat} : ∀ n, e < gcN F n → ∃ t, t < n ∧ 0 < F 10 t ∧ gcN F t = e := by
  intro n
  induction n with
  | zero => exact fun h => absurd h (Nat.not_lt_zero _)
  | succ n ih =>
    intro h
    by_cases g : 0 < F 10 n
    · rw [gcN_p g] at h
      by_cases c : e < gcN F n
      · obtain ⟨t, h1, h2⟩ := ih c
        exact ⟨t, by omega, h2⟩
      · exact ⟨n, Nat.lt_succ_self _, g, by omega⟩
    · rw [gcN_n g] at h
      obtain ⟨t, h1, h2⟩ := ih h
      exact ⟨t, by omega, h2⟩
theorem gsN_gc (k : Bk) : gsN k = (gcN (kF k) (kN k) : Int) := by
  unfold gsN
  generalize kN k = n
  induction n with
  | zero => rfl
  | succ n ih =>
    show zsum _ n + b2 (0 < kF k 10 n) = _
    rw [ih]
    by_cases g : 0 < kF k 10 n
    · rw [gcN_p g, b2_p g]
      omega
    · rw [gcN_n g, b2_f g]
      omega
/-! the digits of a number -/
def dgt (s e : Nat) : Nat := s / 3 ^ e % 3
def wE (s : Nat) : Nat → Int
  | 0 => 1
  | e + 1 => if dgt s e = 0 then wE s e * 4 else wE s e
def ch (F : Nat → Nat → Int) (t d : Nat) : Int := if d = 0 then F 0 t else if d = 1 then F 10 t else F 11 t
def clE (F : Nat → Nat → Int) (s t : Nat) : Int := if 0 < F 10 t then ch F t (dgt s (gcN F t)) else F 0 t
def lnE (F : Nat → Nat → Int) (s t u : Nat) : Int := if u < t then clE F s u else F 0 u
theorem dgt_lo {d s e i : Nat} (h : i < e) : dgt (d * 3 ^ e + s) i = dgt s i := by
  unfold dgt
  obtain ⟨j, rfl⟩ : ∃ j, e = i + 1 + j := ⟨e - (i + 1), by omega⟩
  have e1 : d * 3 ^ (i + 1 + j) = (d * 3 ^ j * 3) * 3 ^ i := by
    rw [Nat.pow_add, Nat.pow_succ]
    rw [show 3 ^ i * 3 * 3 ^ j = 3 ^ j * 3 * 3 ^ i by rw [Nat.mul_comm (3 ^ i) 3, Nat.mul_assoc, Nat.mul_comm (3 ^ i) (3 ^ j), ← Nat.mul_assoc, Nat.mul_comm 3 (3 ^ j)]]
    rw [← Nat.mul_assoc, ← Nat.mul_assoc]
  rw [e1, Nat.add_comm, Nat.add_mul_div_right _ _ (Nat.pow_pos (by decide))]
  omega
theorem dgt_at {d s e : Nat} (hd : d < 3) (hs : s < 3 ^ e) : dgt (d * 3 ^ e + s) e = d := by
  unfold dgt
  rw [Nat.add_comm, Nat.add_mul_div_right _ _ (Nat.pow_pos (by decide)), Nat.div_eq_of_lt hs]
  omega
theorem wE_lo {d s e : Nat} : ∀ i, i ≤ e → wE (d * 3 ^ e + s) i = wE s i := by
  intro i
  induction i with
  | zero => exact fun _ => rfl
  | succ i ih =>
    intro h
    show (if dgt (d * 3 ^ e + s) i = 0 then wE (d * 3 ^ e + s) i * 4 else wE (d * 3 ^ e + s) i) = if dgt s i = 0 then wE s i * 4 else wE s i
    rw [dgt_lo (by omega), ih (by omega)]
theorem wE_r (s : Nat) : ∀ e, 1 ≤ wE s e ∧ wE s e ≤ ((4 ^ e : Nat) : Int) := by
  intro e
  induction e with
  | zero => exact ⟨Int.le_refl _, Int.le_refl _⟩
  | succ e ih =>
    show 1 ≤ (if dgt s e = 0 then wE s e * 4 else wE s e) ∧ (if dgt s e = 0 then wE s e * 4 else wE s e) ≤ _
    rw [Nat.pow_succ]
    by_cases g : dgt s e = 0
    · rw [if_pos g]
      omega
    · rw [if_neg g]
      omega
theorem wE_s {s e : Nat} (h : e ≤ 6) : 1 ≤ wE s e ∧ wE s e ≤ 4096 := by
  have a := wE_r s e
  have b : 4 ^ e ≤ 4 ^ 6 := Nat.pow_le_pow_right (by decide) h
  have c : (4 : Nat) ^ 6 = 4096 := by decide
  omega
theorem lnE_next {F : Nat → Nat → Int} {s t d : Nat} (g : 0 < F 10 t) (hd : d < 3) (hs : s < 3 ^ gcN F t) : lnE F (d * 3 ^ gcN F t + s) (t + 1) = zu (lnE F s t) t (ch F t d) := by
  funext u
  by_cases c : u = t
  · rw [c, zu_same]
    unfold lnE clE
    rw [if_pos (Nat.lt_succ_self _), if_pos g, dgt_at hd hs]
  · rw [zu_other c]
    unfold lnE
    by_cases c2 : u < t
    · rw [if_pos c2, if_pos (by omega)]
      unfold clE
      by_cases c3 : 0 < F 10 u
      · rw [if_pos c3, if_pos c3, dgt_lo (gcN_lt c2 c3)]
      · rw [if_neg c3, if_neg c3]
    · rw [if_neg c2, if_neg (by omega)]
theorem lnE_skip {F : Nat → Nat → Int} {s t : Nat} (g : ¬ 0 < F 10 t) : lnE F s (t + 1) = lnE F s t := by
  funext u
  unfold lnE
  by_cases c2 : u < t
  · rw [if_pos c2, if_pos (by omega)]
  · rw [if_neg c2]
    by_cases c : u = t
    · rw [c, if_pos (by omega)]
      unfold clE
      rw [if_neg g]
    · rw [if_neg (by omega)]
theorem lnE_own (F : Nat → Nat → Int) (s t : Nat) : zu (lnE F s t) t (F 0 t) = lnE F s t := by
  funext u
  by_cases c : u = t
  · rw [c, zu_same]
    unfold lnE
    rw [if_neg (Nat.lt_irrefl _)]
  · rw [zu_other c]
theorem zsum_mul (c : Int) (f : Nat → Int) : ∀ n, zsum (fun i => c * f i) n = c * zsum f n := by
  intro n
  induction n with
  | zero => exact (Int.mul_zero _).symm
  | succ n ih =>
    show zsum (fun i => c * f i) n + c * f n = c * (zsum f n + f n)
    rw [ih, Int.mul_add]
theorem oO_sum (F : Nat → Nat → Int) : ∀ t v, zsum (fun s => wE s (gcN F t) * v (lnE F s t)) (3 ^ gcN F t) = oO F t v := by
  intro t
  induction t with
  | zero =>
    intro v
    show 0 + 1 * v (lnE F 0 0) = v (F 0)
    rw [show lnE F 0 0 = F 0 from funext fun u => if_neg (Nat.not_lt_zero _)]
    omega
  | succ t ih =>
    intro v
    by_cases g : 0 < F 10 t
    · rw [gcN_p g]
      show _ = if 0 < F 10 t then 4 * oO F t v + oO F t (fun f => v (zu f t (F 10 t))) + oO F t (fun f => v (zu f t (F 11 t))) else oO F t v
      rw [if_pos g, ← ih v, ← ih (fun f => v (zu f t (F 10 t))), ← ih (fun f => v (zu f t (F 11 t)))]
      have step : ∀ d s, d < 3 → s < 3 ^ gcN F t → wE (d * 3 ^ gcN F t + s) (gcN F t + 1) * v (lnE F (d * 3 ^ gcN F t + s) (t + 1)) = (if d = 0 then wE s (gcN F t) * 4 else wE s (gcN F t)) * v (zu (lnE F s t) t (ch F t d)) := fun d s hd hs => by
        rw [lnE_next g hd hs]
        show (if dgt (d * 3 ^ gcN F t + s) (gcN F t) = 0 then wE (d * 3 ^ gcN F t + s) (gcN F t) * 4 else wE (d * 3 ^ gcN F t + s) (gcN F t)) * _ = _
        rw [dgt_at hd hs, wE_lo _ (Nat.le_refl _)]
      rw [show 3 ^ (gcN F t + 1) = 3 ^ gcN F t + (3 ^ gcN F t + 3 ^ gcN F t) by rw [Nat.pow_succ]; omega, zsum_split, zsum_split, ← zsum_mul, Int.add_assoc]
      congr 1
      · refine zsum_eq fun s hs => ?_
        have := step 0 s (by decide) hs
        rw [Nat.zero_mul, Nat.zero_add, if_pos rfl, show ch F t 0 = F 0 t from rfl, lnE_own] at this
        rw [this, Int.mul_comm (wE s (gcN F t)) 4, Int.mul_assoc]
      · congr 1
        · refine zsum_eq fun s hs => ?_
          have := step 1 s (by decide) hs
          rw [Nat.one_mul, if_neg (by decide)] at this
          exact this
        · refine zsum_eq fun s hs => ?_
          have := step 2 s (by decide) hs
          rw [show 2 * 3 ^ gcN F t + s = 3 ^ gcN F t + (3 ^ gcN F t + s) by omega, if_neg (by decide)] at this
          exact this
    · rw [gcN_n g]
      show _ = if 0 < F 10 t then 4 * oO F t v + oO F t (fun f => v (zu f t (F 10 t))) + oO F t (fun f => v (zu f t (F 11 t))) else oO F t v
      rw [if_neg g, ← ih v]
      exact zsum_eq fun s _ => by rw [lnE_skip g]
/-! what is counted -/
def crQ (k : Bk) (t : Nat) (len : Nat → Int) : Prop := ∃ f L, isLF k len (fun _ => 0) f ∧ isLat k len (kEnd k len f) L ∧ L t = f t
theorem crQ_of {k : Bk} (ho : kOk k) {t : Nat} (ht : t < kN k) {len f L : Nat → Int} (hf : isLF k len (fun _ => 0) f) (hL : isLat k len (kEnd k len f) L) : crQ k t len ↔ L t = f t := by
  constructor
  · rintro ⟨f', L', h1, h2, h3⟩
    have ef := isLF_eq ho h1 hf
    have ee : kEnd k len f' = kEnd k len f := zmax_eq fun u hu => by rw [ef u hu]
    rw [ee] at h2
    rw [← isLat_eq ho h2 hL t ht, ← ef t ht]
    exact h3
  · exact fun h => ⟨f, L, hf, hL, h⟩
theorem kEnd_pm {k k' : Bk} (h : kPm k k') (len f : Nat → Int) : kEnd k' len f = kEnd k len f := by
  have hn : kN k' = kN k := h.1
  unfold kEnd
  rw [hn]
theorem kPm.crQ {k k' : Bk} (h : kPm k k') (ho : kOk k) {t : Nat} (ht : t < kN k) (len : Nat → Int) : _root_.Jvm.Pilot.@@N@@.crQ k' t len ↔ _root_.Jvm.Pilot.@@N@@.crQ k t len := by
  obtain ⟨f, hf⟩ := isLF_ex (h.ok ho) len fun _ => 0
  obtain ⟨L, hL⟩ := isLat_ex (h.ok ho) len (kEnd k' len f)
  have hn : kN k' = kN k := h.1
  have hL2 := h.lat hL
  rw [kEnd_pm h] at hL2
  rw [crQ_of (h.ok ho) (by omega) hf hL, crQ_of ho ht (h.lf hf) hL2]
theorem lat_r {k : Bk} (ho : kOk k) {len f L : Nat → Int} (hf : isLF k len (fun _ => 0) f) (hL : isLat k len (endF k len) L) : ∀ t, t < kN k → f t ≤ L t ∧ L t ≤ endF k len - len t := fun t ht => ⟨isLat_ge ho hL (f' := f) (fun u hu => ⟨by
    have a := zmax_ge (f := fun t => f t + len t) hu
    have b : zmax (fun t => f t + len t) (kN k) = endF k len := endF_of ho hf
    have c : f u + len u ≤ zmax (fun t => f t + len t) (kN k) := a
    omega, fun j hj e => by
    have a := (hf _ (ho.l hj)).2.1 j hj rfl
    rw [e] at a
    omega⟩) t ht, (hL t ht).1⟩
def odQ (k : Bk) (x y : Int) (len : Nat → Int) : Prop := (y = -1 ∧ endF k len ≤ x) ∨ (0 ≤ y ∧ crQ k y.toNat len)
noncomputable def odV (k : Bk) (x y : Int) (len : Nat → Int) : Int := cIf (odQ k x y len) 1 0
theorem odV_pm {k k' : Bk} (h : kPm k k') (ho : kOk k) (x : Int) {y : Int} (hy : y = -1 ∨ (0 ≤ y ∧ y < kN k)) : odV k' x y = odV k x y := funext fun len => by
  have e : odQ k' x y len ↔ odQ k x y len := by
    unfold odQ
    rw [h.endF ho]
    rcases hy with hy | hy
    · constructor
      · rintro (q | q)
        · exact Or.inl q
        · omega
      · rintro (q | q)
        · exact Or.inl q
        · omega
    · rw [h.crQ ho (by omega)]
  unfold odV
  by_cases c : odQ k x y len
  · rw [cIf_p c, cIf_p (e.mpr c)]
  · rw [cIf_f c, cIf_f fun q => c (e.mp q)]
noncomputable def o_oddsBy (σ : St) (x : Int) : Ou := cIf (gsN (sK σ) ≤ 6) (0, oO (kF (sK σ)) (kN (sK σ)) (odV (sK σ) x (-1)), σ) (1, 0, σ)
noncomputable def o_oddsCritical (σ : St) (t : Int) : Ou := cIf (0 ≤ t ∧ t < kN (sK σ)) (cIf (gsN (sK σ) ≤ 6) (0, oO (kF (sK σ)) (kN (sK σ)) (odV (sK σ) 0 t), σ) (2, 0, σ)) (1, 0, σ)
theorem gs_r {k : Bk} (ho : kOk k) {t : Nat} (ht : t < kN k) : (1 ≤ kF k 0 t ∧ kF k 0 t ≤ 60) ∧ 0 ≤ kF k 10 t ∧ kF k 10 t ≤ kF k 0 t ∧ (0 < kF k 10 t → kF k 0 t ≤ kF k 11 t) ∧ 0 ≤ kF k 11 t ∧ kF k 11 t ≤ 60 := by
  have a := ho.2.1 t ht
  exact ⟨a.1, a.2.2.2.2.2.2.2.2.2.2⟩
theorem lnE_r {k : Bk} (ho : kOk k) {s t u : Nat} (hu : u < kN k) : 1 ≤ lnE (kF k) s t u ∧ lnE (kF k) s t u ≤ 60 := by
  have a := gs_r ho hu
  unfold lnE clE ch
  by_cases c : u < t
  · rw [if_pos c]
    by_cases d : 0 < kF k 10 u
    · rw [if_pos d]
      have a5 := a.2.2.2.1 d
      by_cases e : dgt s (gcN (kF k) u) = 0
      · rw [if_pos e]
        omega
      · rw [if_neg e]
        by_cases e2 : dgt s (gcN (kF k) u) = 1
        · rw [if_pos e2]
          omega
        · rw [if_neg e2]
          omega
    · rw [if_neg d]
      omega
  · rw [if_neg c]
    omega
/-! ===== the class' odds ===== -/
def odC (Z : Zm) (k0 k : Bk) (o pos : Nat → Nat) : Prop := atOdds Z 285 1 233 ∧ atBook Z 1 ∧ atNet Z 233 ∧ nS Z 233 k o ∧ kOk k ∧ kOrd k o pos ∧ kSrt k pos ∧ cB Z 1 k0 ∧ kOk k0 ∧ kN k0 = kN k ∧ kF k0 = kF k
theorem odC.s {Z : Zm} {k0 k : Bk} {o pos : Nat → Nat} {a : Nat} {f : Nat → Int} (h : odC Z k0 k o pos) (ha : 285 ≤ a) : odC (zSI Z a f) k0 k o pos := by
  obtain ⟨h1, h2, h3, h4, h5, h6, h7, h8, h9⟩ := h
  exact ⟨h1, h2, h3, h4.s (by omega), h5, h6, h7, h8.of fun b g1 g2 => zI_other (by omega), h9⟩
def oZ (Z : Zm) (a b c d : Nat → Int) : Zm := zSI (zSI (zSI (zSI Z 286 a) 287 b) 288 c) 289 d
theorem oZ_1 (Z : Zm) (a b c d f : Nat → Int) : zSI (oZ Z a b c d) 286 f = oZ Z f b c d := by
  unfold oZ
  rw [zSI_comm _ d f (by decide), zSI_comm _ c f (by decide), zSI_comm _ b f (by decide), zSI_zSI]
theorem oZ_2 (Z : Zm) (a b c d f : Nat → Int) : zSI (oZ Z a b c d) 287 f = oZ Z a f c d := by
  unfold oZ
  rw [zSI_comm _ d f (by decide), zSI_comm _ c f (by decide), zSI_zSI]
theorem oZ_3 (Z : Zm) (a b c d f : Nat → Int) : zSI (oZ Z a b c d) 288 f = oZ Z a b f d := by
  unfold oZ
  rw [zSI_comm _ d f (by decide), zSI_zSI]
theorem oZ_4 (Z : Zm) (a b c d f : Nat → Int) : zSI (oZ Z a b c d) 289 f = oZ Z a b c f := by
  unfold oZ
  rw [zSI_zSI]
theorem oZ_i1 (Z : Zm) (a b c d : Nat → Int) : zI (oZ Z a b c d) 286 = a := by
  unfold oZ
  rw [zI_other (by decide), zI_other (by decide), zI_other (by decide), zI_same]
theorem oZ_i2 (Z : Zm) (a b c d : Nat → Int) : zI (oZ Z a b c d) 287 = b := by
  unfold oZ
  rw [zI_other (by decide), zI_other (by decide), zI_same]
theorem oZ_i3 (Z : Zm) (a b c d : Nat → Int) : zI (oZ Z a b c d) 288 = c := by
  unfold oZ
  rw [zI_other (by decide), zI_same]
theorem oZ_i4 (Z : Zm) (a b c d : Nat → Int) : zI (oZ Z a b c d) 289 = d := zI_same _ _ _
theorem oZ_id (Z : Zm) : oZ Z (zI Z 286) (zI Z 287) (zI Z 288) (zI Z 289) = Z := by
  unfold oZ
  rw [zSI_id, zSI_id, zSI_id, zSI_id]
theorem odC.w {Z : Zm} {k0 k : Bk} {o pos : Nat → Nat} {a b c d : Nat → Int} (h : odC Z k0 k o pos) : odC (oZ Z a b c d) k0 k o pos := (((h.s (by omega)).s (by omega)).s (by omega)).s (by omega)
theorem oZ_f (Z : Zm) (a b c d : Nat → Int) : zF (zB 286 290) 0 0 Z (oZ Z a b c d) := (((zF_I (by unfold zB; omega)).trans (zF_I (by unfold zB; omega))).trans (zF_I (by unfold zB; omega))).trans (zF_I (by unfold zB; omega))
theorem s_findGuessed {G : Gx} {Z : Zm} {k0 k : Bk} {o pos : Nat → Nat} {a0 b c d : Nat → Int} (h : odC Z k0 k o pos) (hg : gcN (kF k) (kN k) ≤ 6) : ZM G 1 m_X8_findGuessed [.ref 285] (oZ Z a0 b c d) (fun r W => r = .inl (some (iv (gcN (kF k) (kN k) : Int))) ∧ ∃ a, W = oZ Z a b c d ∧ ∀ t, t < kN k → 0 < kF k 10 t → a (gcN (kF k) t) = (t : Int)) := by
  have ho : kOk k := h.2.2.2.2.1
  have hN := ho.n
  have h0 := h.w (a := a0) (b := b) (c := c) (d := d)
  refine e_X8_findGuessed h0.1 h0.2.1 h0.2.2.1 ?_
  suffices key : ∀ j, j ≤ kN k → ∀ a, (∀ t, t < j → 0 < kF k 10 t → a (gcN (kF k) t) = (t : Int)) → ZP G 1 m_X8_findGuessed 4 [some (.ref 285), some (iv (gcN (kF k) j : Int)), some (iv (j : Int))] [] (oZ Z a b c d) (fun r W => r = .inl (some (iv (gcN (kF k) (kN k) : Int))) ∧ ∃ a, W = oZ Z a b c d ∧ ∀ t, t < kN k → 0 < kF k 10 t → a (gcN (kF k) t) = (t : Int)) from key 0 (Nat.zero_le _) a0 fun t ht => absurd ht (Nat.not_lt_zero _)
  refine am_up (n := kN k) fun j hj ih a ha => ?_
  have hw := h.w (a := a) (b := b) (c := c) (d := d)
  obtain ⟨q1, q2, q3, -, -, -, -, q8, q9, qn, qf⟩ := hw
  have e3 : zI (oZ Z a b c d) 1 3 = (kN k : Int) := by rw [← qn]; exact q8.1
  have mo := gcN_mo (F := kF k) hj
  refine b_X8_findGuessed_4 q1 q2 q3 ⟨by omega, by rw [e3]; omega, ?_⟩
  rw [e3]
  by_cases cj : j < kN k
  case neg =>
    rw [if_pos (by omega)]
    have ej : j = kN k := by omega
    rw [ej] at ha ⊢
    exact ⟨rfl, a, rfl, ha⟩
  rw [if_neg (by omega)]
  refine ⟨by omega, ?_⟩
  by_cases c6 : 6 ≤ gcN (kF k) j
  · rw [if_pos (by omega)]
    refine ⟨by rw [show gcN (kF k) j = gcN (kF k) (kN k) by omega], a, rfl, fun t ht g => ?_⟩
    by_cases c2 : t < j
    · exact ha t c2 g
    · have l1 := gcN_lt ht g
      have l2 := gcN_mo (F := kF k) (show j ≤ t by omega)
      omega
  rw [if_neg (by omega)]
  refine ((s_isGuessed q2 q8 q9 (t := j) (by omega)).mono ?_)
  rintro r W ⟨rfl, hW⟩
  obtain rfl := hW.symm
  rw [qf]
  refine b_X8_findGuessed_29 q1 q2 q3 ⟨b01_r (b2_01 _), ?_⟩
  by_cases g : 0 < kF k 10 j
  · rw [b2_p g, if_neg (by decide)]
    refine ⟨zIx_nat (by omega) (by decide), ?_⟩
    rintro _ rfl
    rw [Int.toNat_natCast, show 285 + 1 = 286 from rfl, oZ_1, oZ_i1]
    have h9 := ih cj (zu a (gcN (kF k) j) (j : Int)) fun t ht gt => by
      by_cases e : t = j
      · rw [e, zu_same]
      · have := gcN_lt (F := kF k) (show t < j by omega) gt
        rw [zu_other (by omega)]
        exact ha t (by omega) gt
    rw [gcN_p g] at h9
    exact h9
  · rw [b2_f g, if_pos rfl]
    have h9 := ih cj a fun t ht gt => by
      by_cases e : t = j
      · rw [e] at gt
        exact absurd gt g
      · exact ha t (by omega) gt
    rw [gcN_n g] at h9
    exact h9
theorem s_takeLengths {G : Gx} {Z : Zm} {k0 k : Bk} {o pos : Nat → Nat} {a b0 c d : Nat → Int} {s : Nat} (h : odC Z k0 k o pos) (hg : gcN (kF k) (kN k) ≤ 6) (ha : ∀ t, t < kN k → 0 < kF k 10 t → a (gcN (kF k) t) = (t : Int)) (hs : s < 729) (hb : ∀ t, t < kN k → ¬ 0 < kF k 10 t → b0 t = kF k 0 t) : ZM G 0 m_X8_takeLengths [.ref 285, iv (gcN (kF k) (kN k) : Int), iv (s : Int)] (oZ Z a b0 c d) (fun r W => r = .inl (some (iv (wE s (gcN (kF k) (kN k))))) ∧ ∃ b, W = oZ Z a b c d ∧ ∀ t, t < kN k → b t = lnE (kF k) s (kN k) t) := by
  have ho : kOk k := h.2.2.2.2.1
  have hN := ho.n
  have h0 := h.w (a := a) (b := b0) (c := c) (d := d)
  refine e_X8_takeLengths h0.1 h0.2.1 h0.2.2.1 ?_
  generalize eg : gcN (kF k) (kN k) = m at *
  suffices key : ∀ j, j ≤ m → ∀ b, (∀ t, t < kN k → b t = if 0 < kF k 10 t ∧ gcN (kF k) t < j then clE (kF k) s t else b0 t) → ZP G 0 m_X8_takeLengths 8 [some (.ref 285), some (iv (m : Int)), none, some (iv ((s / 3 ^ j : Nat) : Int)), some (iv (wE s j)), some (iv (j : Int)), none, none] [] (oZ Z a b c d) (fun r W => r = .inl (some (iv (wE s m))) ∧ ∃ b, W = oZ Z a b c d ∧ ∀ t, t < kN k → b t = lnE (kF k) s (kN k) t) by
    have h9 := key 0 (Nat.zero_le _) b0 fun t ht => by rw [if_neg (by omega)]
    rw [Nat.pow_zero, Nat.div_one] at h9
    exact h9
  refine am_up (n := m) fun j hj ih b hbj => ?_
  have hw := h.w (a := a) (b := b) (c := c) (d := d)
  obtain ⟨q1, q2, q3, -, -, -, -, q8, q9, qn, qf⟩ := hw
  have sd : s / 3 ^ j ≤ s := Nat.div_le_self _ _
  have em0 : s / 3 ^ j % 3 = dgt s j := rfl
  have ed0 : s / 3 ^ j / 3 = s / 3 ^ (j + 1) := by rw [Nat.pow_succ, ← Nat.div_div_eq_div_mul]
  generalize s / 3 ^ j = vj at *
  refine b_X8_takeLengths_8 q1 q2 q3 ⟨by omega, by omega, ?_⟩
  by_cases cj : j < m
  case neg =>
    rw [if_pos (by omega)]
    have ej : j = m := by omega
    rw [ej] at hbj ⊢
    refine ⟨rfl, b, rfl, fun t ht => ?_⟩
    rw [hbj t ht]
    unfold lnE
    rw [if_pos ht]
    by_cases g : 0 < kF k 10 t
    · have := gcN_lt ht g
      rw [if_pos ⟨g, by omega⟩]
    · rw [if_neg (fun q => g q.1), hb t ht g]
      unfold clE
      rw [if_neg g]
  rw [if_neg (by omega)]
  obtain ⟨t, t1, t2, t3⟩ := gcN_ex (F := kF k) (kN k) (show j < gcN (kF k) (kN k) by omega)
  have at' : a j = (t : Int) := by rw [← t3]; exact ha t t1 t2
  have em : ((vj : Int) % 3) = (dgt s j : Int) := by omega
  have ed : ((vj : Int) / 3) = ((s / 3 ^ (j + 1) : Nat) : Int) := by
    rw [← ed0]
    omega
  have dl : dgt s j < 3 := Nat.mod_lt _ (by decide)
  have rowF : ∀ r, r < 12 → zI (oZ Z a b c d) (1 + 2 + r) t = kF k r t := fun r hr => by
    rw [← qf]
    exact q8.2.2.1 r t hr (by omega)
  have nx : ∀ x, x = clE (kF k) s t → ∀ u, u < kN k → zu b t x u = if 0 < kF k 10 u ∧ gcN (kF k) u < j + 1 then clE (kF k) s u else b0 u := fun x hx u hu => by
    by_cases e : u = t
    · rw [e, zu_same, if_pos ⟨t2, by omega⟩, hx]
    · rw [zu_other e, hbj u hu]
      by_cases g : 0 < kF k 10 u
      · have ne : gcN (kF k) u ≠ j := fun q => by
          by_cases l : u < t
          · have := gcN_lt l g
            omega
          · have := gcN_lt (F := kF k) (show t < u by omega) t2
            omega
        by_cases g2 : gcN (kF k) u < j
        · rw [if_pos ⟨g, g2⟩, if_pos ⟨g, by omega⟩]
        · rw [if_neg (fun q => g2 q.2), if_neg (fun q => g2 (by have := q.2; omega))]
      · rw [if_neg (fun q => g q.1), if_neg (fun q => g q.1)]
  have cle : clE (kF k) s t = ch (kF k) t (dgt s j) := by
    unfold clE
    rw [if_pos t2, t3]
  refine ⟨zIx_nat (by omega) (by decide), by omega, by omega, by omega, ?_⟩
  rw [em, ed, show 285 + 1 = 286 from rfl, oZ_i1, Int.toNat_natCast, at', Int.toNat_natCast, show 285 + 2 = 287 from rfl, oZ_i2]
  by_cases c0 : dgt s j = 0
  · rw [if_pos (by omega)]
    refine ⟨zIx_nat (by omega) (by decide), ?_⟩
    rintro _ rfl
    rw [oZ_2, show zI (oZ Z a b c d) (1 + 2) t = kF k 0 t from rowF 0 (by decide)]
    have h9 := ih cj (zu b t (kF k 0 t)) (nx _ (by rw [cle, c0]; rfl))
    rw [show wE s (j + 1) = wE s j * 4 from if_pos c0] at h9
    exact h9
  · rw [if_neg (by omega)]
    have h9 := fun x hx => ih cj (zu b t x) (nx x hx)
    rw [show wE s (j + 1) = wE s j from if_neg c0] at h9
    by_cases c1 : dgt s j = 1
    · rw [if_pos (show (dgt s j : Int) = 1 by omega)]
      refine ⟨⟨by decide, by decide, by decide⟩, zIx_nat (by omega) (by decide), ?_⟩
      rintro _ rfl
      rw [oZ_2, show zI (oZ Z a b c d) (1 + 2 + (10 : Int).toNat) t = kF k 10 t from rowF 10 (by decide)]
      exact h9 _ (by rw [cle, c1]; rfl)
    · rw [if_neg (show ¬ (dgt s j : Int) = 1 by omega)]
      refine ⟨⟨by decide, by decide, by decide⟩, zIx_nat (by omega) (by decide), ?_⟩
      rintro _ rfl
      rw [oZ_2, show zI (oZ Z a b c d) (1 + 2 + (11 : Int).toNat) t = kF k 11 t from rowF 11 (by decide)]
      exact h9 _ (by rw [cle]; unfold ch; rw [if_neg c0, if_neg c1])
theorem s_countParts {G : Gx} {Z : Zm} {k0 k : Bk} {o pos : Nat → Nat} {x y : Int} (h : odC Z k0 k o pos) (hg : gcN (kF k) (kN k) ≤ 6) (hx : R32 x) (hy : y = -1 ∨ (0 ≤ y ∧ y < kN k)) : ZM G 3 m_X8_countParts [.ref 285, iv x, iv y] Z (fun r W => r = .inl (some (jv (oO (kF k) (kN k) (odV k x y)))) ∧ ∃ a b c d, W = oZ Z a b c d) := by
  have ho : kOk k := h.2.2.2.2.1
  have hN := ho.n
  have e1 := oO_sum (kF k) (kN k) (odV k x y)
  generalize eR : oO (kF k) (kN k) (odV k x y) = R at *
  refine e_X8_countParts h.1 h.2.1 h.2.2.1 ?_
  rintro _ rfl
  have b0 : ∀ t, t < kN k → zcpy (zI Z (1 + 2)) (zI Z (285 + 2)) 0 0 20 t = kF k 0 t := fun t ht => by
    show (if 0 ≤ t ∧ t < 0 + 20 then zI Z (1 + 2) (0 + (t - 0)) else zI Z (285 + 2) t) = _
    rw [if_pos (by omega), Nat.zero_add, Nat.sub_zero]
    have := h.2.2.2.2.2.2.2.1.2.2.1 0 t (by decide) (by rw [h.2.2.2.2.2.2.2.2.2.1]; exact ht)
    rw [h.2.2.2.2.2.2.2.2.2.2] at this
    exact this
  generalize zcpy (zI Z (1 + 2)) (zI Z (285 + 2)) 0 0 20 = b at *
  have eZ : zSI Z (285 + 2) b = oZ Z (zI Z 286) b (zI Z 288) (zI Z 289) := by
    rw [← oZ_2 Z (zI Z 286) (zI Z 287), oZ_id]
  rw [eZ]
  refine ((s_findGuessed h hg).deeper (by omega)).mono ?_
  rintro r W ⟨rfl, a, rfl, ha⟩
  have hw := h.w (a := a) (b := b) (c := zI Z 288) (d := zI Z 289)
  refine b_X8_countParts_24 hw.1 hw.2.1 hw.2.2.1 ?_
  generalize eg : gcN (kF k) (kN k) = m at *
  have pw : ∀ j, j ≤ m → 3 ^ j ≤ 729 := fun j hj => by
    have b : 3 ^ j ≤ 3 ^ 6 := Nat.pow_le_pow_right (by decide) (by omega)
    have c : (3 : Nat) ^ 6 = 729 := by decide
    omega
  suffices key0 : ∀ j, j ≤ m → ZP G 3 m_X8_countParts 31 [some (.ref 285), some (iv x), some (iv y), some (iv (m : Int)), some (iv ((3 ^ j : Nat) : Int)), some (iv (j : Int)), none, none, none, none] [] (oZ Z a b (zI Z 288) (zI Z 289)) (fun r W => r = .inl (some (jv R)) ∧ ∃ a b c d, W = oZ Z a b c d) from key0 0 (Nat.zero_le _)
  refine am_up (n := m) fun j hj ih => ?_
  have pj := pw j hj
  refine b_X8_countParts_31 hw.1 hw.2.1 hw.2.2.1 ⟨by omega, by omega, ?_⟩
  by_cases cj : j < m
  · rw [if_neg (by omega)]
    have h9 := ih cj
    rw [Nat.pow_succ] at h9
    rw [show ((3 ^ j : Nat) : Int) * 3 = ((3 ^ j * 3 : Nat) : Int) by omega, show (j : Int) + 1 = ((j + 1 : Nat) : Int) by omega]
    exact h9
  rw [if_pos (by omega)]
  have ej : j = m := by omega
  rw [ej] at pj ⊢
  clear ih ej hj cj
  have bU : ∀ t, t < kN k → ¬ 0 < kF k 10 t → b t = kF k 0 t := fun t ht _ => b0 t ht
  clear b0 eZ hw
  suffices key : ∀ s, s ≤ 3 ^ m → ∀ b c d, (∀ t, t < kN k → ¬ 0 < kF k 10 t → b t = kF k 0 t) → ZP G 3 m_X8_countParts 55 [some (.ref 285), some (iv x), some (iv y), some (iv (m : Int)), some (iv ((3 ^ m : Nat) : Int)), some (jv (zsum (fun s => wE s m * odV k x y (lnE (kF k) s (kN k))) s)), none, some (iv (s : Int)), none, none] [] (oZ Z a b c d) (fun r W => r = .inl (some (jv R)) ∧ ∃ a b c d, W = oZ Z a b c d) from key 0 (Nat.zero_le _) b _ _ bU
  clear bU b
  refine am_up (n := 3 ^ m) fun s hs ih b c d hb => ?_
  have hw := h.w (a := a) (b := b) (c := c) (d := d)
  refine b_X8_countParts_55 hw.1 hw.2.1 hw.2.2.1 ⟨by omega, by omega, ?_⟩
  by_cases cs : s < 3 ^ m
  case neg =>
    rw [if_pos (by omega)]
    exact ⟨by rw [show s = 3 ^ m by omega, e1], a, b, c, d, rfl⟩
  rw [if_neg (by omega)]
  have nxt := fun (b' c' d' : Nat → Int) (hb' : ∀ t, t < kN k → ¬ 0 < kF k 10 t → b' t = kF k 0 t) => ih cs b' c' d' hb'
  clear ih
  subst eg
  refine ((s_takeLengths (s := s) h hg ha (by omega) hb).deeper (by omega)).mono ?_
  rintro r W ⟨rfl, b', rfl, hb'⟩
  have bU' : ∀ t, t < kN k → ¬ 0 < kF k 10 t → b' t = kF k 0 t := fun t ht g => by
    rw [hb' t ht]
    unfold lnE clE
    rw [if_pos ht, if_neg g]
  have wr := wE_s (s := s) hg
  have lr : ∀ t, t < kN k → b' t = lnE (kF k) s (kN k) t ∧ 1 ≤ lnE (kF k) s (kN k) t ∧ lnE (kF k) s (kN k) t ≤ 60 := fun t ht => ⟨hb' t ht, lnE_r ho ht⟩
  have zs : zsum (fun s => wE s (gcN (kF k) (kN k)) * odV k x y (lnE (kF k) s (kN k))) (s + 1) = zsum (fun s => wE s (gcN (kF k) (kN k)) * odV k x y (lnE (kF k) s (kN k))) s + wE s (gcN (kF k) (kN k)) * odV k x y (lnE (kF k) s (kN k)) := rfl
  rw [zs] at nxt
  generalize zsum (fun s => wE s (gcN (kF k) (kN k)) * odV k x y (lnE (kF k) s (kN k))) s = acc at *
  clear zs e1 hb'
  generalize wE s (gcN (kF k) (kN k)) = w at *
  generalize lnE (kF k) s (kN k) = len at *
  generalize eM : ((3 ^ gcN (kF k) (kN k) : Nat) : Int) = M at *
  generalize eMm : ((gcN (kF k) (kN k) : Nat) : Int) = mm at *
  have yes : ∀ c' d', odQ k x y len → ZP G 3 m_X8_countParts 55 [some (.ref 285), some (iv x), some (iv y), some (iv mm), some (iv M), some (jv (acc + w)), none, some (iv ((s : Int) + 1)), none, none] [] (oZ Z a b' c' d') (fun r W => r = .inl (some (jv R)) ∧ ∃ a b c d, W = oZ Z a b c d) := fun c' d' q => by
    have h9 := nxt b' c' d' bU'
    rw [show odV k x y len = 1 from cIf_p q, Int.mul_one] at h9
    exact h9
  have no : ∀ c' d', ¬ odQ k x y len → ZP G 3 m_X8_countParts 55 [some (.ref 285), some (iv x), some (iv y), some (iv mm), some (iv M), some (jv acc), none, some (iv ((s : Int) + 1)), none, none] [] (oZ Z a b' c' d') (fun r W => r = .inl (some (jv R)) ∧ ∃ a b c d, W = oZ Z a b c d) := fun c' d' q => by
    have h9 := nxt b' c' d' bU'
    rw [show odV k x y len = 0 from cIf_f q, Int.mul_zero, Int.add_zero] at h9
    exact h9
  clear nxt
  have hw2 := h.w (a := a) (b := b') (c := c) (d := d)
  refine b_X8_countParts_69 hw2.1 hw2.2.1 hw2.2.2.1 ?_
  rintro _ rfl
  rw [show 285 + 3 = 288 from rfl, show 285 + 2 = 287 from rfl, oZ_3, oZ_i3]
  have c0 : ∀ t, t < kN k → zfl c 20 0 t = 0 := fun t ht => if_pos (by omega)
  generalize zfl c 20 0 = c1 at *
  have hw3 := h.w (a := a) (b := b') (c := c1) (d := d)
  refine ((s_pushBegins (u := 287) (v := 288) (len := len) (lo := fun _ => 0) (c := 0) hw3.2.2.1 hw3.1.a3 hw3.1.a4 hw3.2.2.2.1 ho hw3.2.2.2.2.2.1 hw3.2.2.2.2.2.2.1 (fun t ht => ?_) (fun t ht => ?_) (by decide) (by decide) (by omega)).deeper (by omega)).mono ?_
  · rw [oZ_i2]
    exact lr t ht
  · rw [oZ_i3]
    exact ⟨c0 t ht, Int.le_refl _, Int.le_refl _⟩
  rintro r V ⟨rfl, f, rfl, lf, -⟩
  rw [oZ_3]
  have bd := isLF_bound ho lf (fun t ht => (lr t ht).2) (c := 0) (fun _ _ => ⟨Int.le_refl _, Int.le_refl _⟩)
  have hw4 := h.w (a := a) (b := b') (c := f) (d := d)
  refine b_X8_countParts_94 hw4.1 hw4.2.1 hw4.2.2.1 ?_
  refine ((s_lastEnd (u := 287) (v := 288) (len := len) (f := f) hw4.2.2.1 hw4.1.a3 hw4.1.a4 hw4.2.2.2.1 ho (fun t ht => by rw [oZ_i2]; exact (lr t ht).1) (fun t ht => by rw [oZ_i3]) fun t ht => by
    have := bd t ht
    have := lr t ht
    omega).deeper (by omega)).mono ?_
  rintro r V ⟨rfl, hV⟩
  obtain rfl := hV.symm
  have eE : zmax (fun t => f t + len t) (kN k) = endF k len := endF_of ho lf
  rw [eE]
  have er := endF_r ho (len := len) fun t ht => (lr t ht).2
  refine b_X8_countParts_109 hw4.1 hw4.2.1 hw4.2.2.1 ⟨by omega, ?_⟩
  rcases hy with hy | hy
  · rw [if_pos hy]
    refine ⟨by omega, hx, ?_⟩
    by_cases q : x < endF k len
    · rw [if_pos q]
      exact no f d fun g => by
        rcases g with ⟨-, g⟩ | ⟨g, -⟩ <;> omega
    · rw [if_neg q]
      exact ⟨by omega, yes f d (Or.inl ⟨hy, by omega⟩)⟩
  · rw [if_neg (by omega)]
    refine (e_X8_isCritical hw4.1 hw4.2.1 hw4.2.2.1 ?_).deeper (by omega)
    rw [show 285 + 2 = 287 from rfl, show 285 + 4 = 289 from rfl]
    refine ((s_pullLatests (u := 287) (v := 289) (len := len) (en := endF k len) hw4.2.2.1 hw4.1.a3 hw4.1.a5 hw4.2.2.2.1 ho hw4.2.2.2.2.2.1 hw4.2.2.2.2.2.2.1 (fun t ht => by rw [oZ_i2]; exact lr t ht) (by omega) (by decide) (by omega)).deeper (by omega)).mono ?_
    rintro r V ⟨rfl, L, rfl, hL⟩
    rw [oZ_4]
    have hw5 := h.w (a := a) (b := b') (c := f) (d := L)
    have eEnd : kEnd k len f = endF k len := endF_of ho lf
    have cr := crQ_of ho (t := y.toNat) (by omega) lf (by rw [eEnd]; exact hL)
    refine b_X8_isCritical_16 hw5.1 hw5.2.1 hw5.2.2.1 ⟨⟨by omega, by omega, by decide⟩, ?_⟩
    rw [show 285 + 4 = 289 from rfl, show 285 + 3 = 288 from rfl, oZ_i4, oZ_i3]
    have by' := bd y.toNat (by omega)
    have Lr : R32 (L y.toNat) := by
      have := lat_r ho lf hL y.toNat (by omega)
      have := lr y.toNat (by omega)
      omega
    refine ⟨Lr, by omega, ?_⟩
    refine b_X8_countParts_132 hw5.1 hw5.2.1 hw5.2.2.1 ⟨b01_r (b2_01 _), ?_⟩
    by_cases q : L y.toNat = f y.toNat
    · rw [b2_p q, if_neg (by decide)]
      exact ⟨by omega, yes f L (Or.inr ⟨hy.1, cr.mpr q⟩)⟩
    · rw [b2_f q, if_pos rfl]
      exact no f L fun g => by
        rcases g with ⟨g, -⟩ | ⟨-, g⟩
        · omega
        · exact q (cr.mp g)
theorem s_odC {Z : Zm} {σ : St} (h : IC Z σ) (ho : kOk (sK σ)) (hc : cN Z 233 (sK σ)) : ∃ k' o pos, kPm (sK σ) k' ∧ odC Z (sK σ) k' o pos := by
  obtain ⟨-, k', o, pos, hpm, hord, hsrt, ns, -⟩ := hc
  have hn : kN k' = kN (sK σ) := hpm.1
  have hf : kF k' = kF (sK σ) := hpm.2.2.1
  exact ⟨k', o, pos, hpm, h.1.od, h.1.bk, h.1.nt, ns, hpm.ok ho, hord, hsrt, h.2.1, ho, hn.symm, hf.symm⟩
theorem s_odds {G : Gx} {Z : Zm} {σ : St} {x y : Int} (h : IC Z σ) (ho : okS σ) (hc : cN Z 233 (sK σ)) (hg : gsN (sK σ) ≤ 6) (hx : R32 x) (hy : y = -1 ∨ (0 ≤ y ∧ y < kN (sK σ))) : ZM G 3 m_X8_countParts [.ref 285, iv x, iv y] Z (fun r W => r = .inl (some (jv (oO (kF (sK σ)) (kN (sK σ)) (odV (sK σ) x y)))) ∧ zF cF 0 0 Z W ∧ IC W σ) := by
  obtain ⟨k', o, pos, hpm, od⟩ := s_odC h ho.1 hc
  have hn : kN k' = kN (sK σ) := hpm.1
  have hf : kF k' = kF (sK σ) := hpm.2.2.1
  rw [gsN_gc] at hg
  refine (s_countParts od (by rw [hf, hn]; omega) hx (by rw [hn]; exact hy)).mono ?_
  rintro r W ⟨rfl, a, b, c, d, rfl⟩
  have f2 := oZ_f Z a b c d
  refine ⟨by rw [hf, hn, odV_pm hpm ho.1 x hy], f2.mono (fun a q => by unfold zB at q; show a < 300; omega) (Nat.le_refl _) (Nat.le_refl _), h.fr0 f2 (fun a q => by unfold zB at q; unfold scr; omega) fun a g1 g2 q => by unfold zB at q; omega⟩
theorem c_oddsBy {G : Gx} {Z : Zm} {σ : St} {x : Int} (h : IC Z σ) (ho : okS σ) (hz : zSz Z < 1000000) (hx : R32 x) : ZM G 12 m_X11_oddsBy [.ref 0, iv x] Z (rC Z (E3 eU "" "") jv (o_oddsBy σ x)) := by
  refine e_X11_oddsBy h.1 (((s_checkGuesses h ho.1 hz).deeper (by omega)).mono fun r W q => ?_)
  unfold o_oddsBy
  by_cases c : zsum (fun t => b2 (0 < kF (sK σ) 10 t)) (kN (sK σ)) ≤ 6
  · rw [if_pos c] at q
    obtain ⟨rfl, rfl⟩ := q
    rw [cIf_p (show gsN (sK σ) ≤ 6 from c)]
    refine b_X11_oddsBy_4 h.1 (((s_freshNet h ho.1).deeper (by omega)).mono ?_)
    rintro r V ⟨rfl, f, cn⟩
    obtain ⟨h1, f1⟩ := h.nt f cn
    refine b_X11_oddsBy_8 h1.1 (((s_odds h1 ho cn c hx (Or.inl rfl)).deeper (by omega)).mono ?_)
    rintro r X ⟨rfl, f2, h2⟩
    exact b_X11_oddsBy_18 h2.1 (rC.ok h2 (f1.trans f2).c1 rfl)
  · rw [if_neg c] at q
    obtain ⟨rfl, rfl⟩ := q
    rw [cIf_f (show ¬ gsN (sK σ) ≤ 6 from c)]
    exact rC.no h (by decide) rfl
theorem c_oddsCritical {G : Gx} {Z : Zm} {σ : St} {t : Int} (h : IC Z σ) (ho : okS σ) (hz : zSz Z < 1000000) (ht : R32 t) : ZM G 12 m_X11_oddsCritical [.ref 0, iv t] Z (rC Z (E3 eN eU "") jv (o_oddsCritical σ t)) := by
  have hN := ho.1.n
  have e3 : zI Z 1 3 = (kN (sK σ) : Int) := h.2.1.1
  refine e_X11_oddsCritical h.1 ⟨ht, by rw [e3]; omega, hz, ?_⟩
  rw [e3]
  unfold o_oddsCritical
  by_cases c1 : 0 ≤ t ∧ t < (kN (sK σ) : Int)
  case neg =>
    rw [if_neg c1, cIf_f c1]
    exact rC.no h (by decide) rfl
  rw [if_pos c1, cIf_p c1]
  refine ((s_checkGuesses h ho.1 hz).deeper (by omega)).mono fun r W q => ?_
  by_cases c : zsum (fun t => b2 (0 < kF (sK σ) 10 t)) (kN (sK σ)) ≤ 6
  · rw [if_pos c] at q
    obtain ⟨rfl, rfl⟩ := q
    rw [cIf_p (show gsN (sK σ) ≤ 6 from c)]
    refine b_X11_oddsCritical_9 h.1 (((s_freshNet h ho.1).deeper (by omega)).mono ?_)
    rintro r V ⟨rfl, f, cn⟩
    obtain ⟨h1, f1⟩ := h.nt f cn
    refine b_X11_oddsCritical_13 h1.1 (((s_odds h1 ho cn c (by decide) (Or.inr c1)).deeper (by omega)).mono ?_)
    rintro r X ⟨rfl, f2, h2⟩
    exact b_X11_oddsCritical_23 h2.1 (rC.ok h2 (f1.trans f2).c1 rfl)
  · rw [if_neg c] at q
    obtain ⟨rfl, rfl⟩ := q
    rw [cIf_f (show ¬ gsN (sK σ) ≤ 6 from c)]
    exact rC.no h (by decide) rfl
