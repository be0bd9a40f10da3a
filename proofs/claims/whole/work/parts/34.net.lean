set_option maxRecDepth 20000 in
theorem e_X7_orderTasks {G : Gx} {Q : Rv → Zm → Prop} {Z : Zm} {n : Nat} {b : Nat} (hn : atNet Z n) (hb : atBook Z b) (h : (∀ Z1, Z1 = zSI Z (n + 2) (zfl (zI Z (n + 2)) 20 0) → ZP G 1 m_X7_orderTasks 10 [some (.ref n), some (.ref b), some (iv 0), none, none, none] [] Z1 Q)) : ZM G 1 m_X7_orderTasks [.ref n, .ref b] Z Q := ZM.of [some (.ref n), some (.ref b), none, none, none, none] rfl <| z_aload_n (pc' := 1) (j := 0) (by decide +kernel) rfl rfl <| z_getR (pc' := 4) (idx := 15) (ci := 7) (f := 5) (by decide +kernel) f_RX7_15 rfl hn.o.1 hn.o.2 hn.r5 rfl <| z_iconst (pc' := 5) (n := 0) (by decide +kernel) rfl <| z_callS (pc' := 8) (idx := 61) (mj := m_J7_fill_53178) (av := [.ref (n + 2), iv 0]) (d' := 0) (by decide +kernel) rfl k_J7_fill_53178 l_RX7_61 rfl (by omega) (am_le rfl) rfl (am_le rfl) rfl <| zKf ((s_fill hn.a5 (by decide))) <| have h := h _ rfl; z_iconst (pc' := 9) (n := 0) (by decide +kernel) rfl <| z_istore_n (pc' := 10) (j := 2) (ls' := [some (.ref n), some (.ref b), some (iv 0), none, none, none]) (by decide +kernel) (by decide) rfl rfl <| h
set_option maxRecDepth 20000 in
theorem b_X7_orderTasks_10 {G : Gx} {Q : Rv → Zm → Prop} {Z : Zm} {n : Nat} {b : Nat} {v2 : Int} {o3 : Option Value} {o4 : Option Value} {o5 : Option Value} (hn : atNet Z n) (hb : atBook Z b) (h : ((R32 v2) ∧ (R32 (zI Z n 2)) ∧ (if (zI Z n 2) ≤ v2 then (ZP G 1 m_X7_orderTasks 45 [some (.ref n), some (.ref b), some (iv 0), some (iv 0), o4, o5] [] Z Q) else ((zIx v2 50) ∧ (zIx (zI Z (b + 16) v2.toNat) 20) ∧ ∀ Z7, Z7 = zSI Z (n + 2) (zu (zI Z (n + 2)) (zI Z (b + 16) v2.toNat).toNat ((zI Z (n + 2) (zI Z (b + 16) v2.toNat).toNat) + 1)) → ZP G 1 m_X7_orderTasks 10 [some (.ref n), some (.ref b), some (iv (v2 + 1)), o3, o4, o5] [] Z7 Q)))) : ZP G 1 m_X7_orderTasks 10 [some (.ref n), some (.ref b), some (iv v2), o3, o4, o5] [] Z Q := z_iload_n (pc' := 11) (j := 2) (by decide +kernel) rfl rfl <| z_aload_n (pc' := 12) (j := 0) (by decide +kernel) rfl rfl <| z_getI (pc' := 15) (idx := 53) (ci := 7) (f := 2) (by decide +kernel) f_RX7_53 rfl hn.o.1 hn.o.2 rfl <| h.elim fun c1 h => h.elim fun c2 h => z_icmp_ge (pc' := 18) (tgt := 41) (off := 26) (by decide +kernel) (by decide) rfl c1 c2 (am_ite h (fun h => z_iconst (pc' := 42) (n := 0) (by decide +kernel) rfl <| z_istore_n (pc' := 43) (j := 2) (ls' := [some (.ref n), some (.ref b), some (iv 0), o3, o4, o5]) (by decide +kernel) (by decide) rfl rfl <| z_iconst (pc' := 44) (n := 0) (by decide +kernel) rfl <| z_istore_n (pc' := 45) (j := 3) (ls' := [some (.ref n), some (.ref b), some (iv 0), some (iv 0), o4, o5]) (by decide +kernel) (by decide) rfl rfl <| h) (fun h => z_aload_n (pc' := 19) (j := 0) (by decide +kernel) rfl rfl <| z_getR (pc' := 22) (idx := 15) (ci := 7) (f := 5) (by decide +kernel) f_RX7_15 rfl hn.o.1 hn.o.2 hn.r5 rfl <| z_aload_n (pc' := 23) (j := 1) (by decide +kernel) rfl rfl <| z_getR (pc' := 26) (idx := 90) (ci := 0) (f := 1) (by decide +kernel) f_RX7_90 rfl hb.o.1 hb.o.2 hb.r1 rfl <| z_iconst (pc' := 27) (n := 1) (by decide +kernel) rfl <| z_aaload120 (pc' := 28) (by decide +kernel) hb.a1 ⟨by decide, by decide, by decide⟩ (hb.e1 1 (by decide)) rfl <| z_iload_n (pc' := 29) (j := 2) (by decide +kernel) rfl rfl <| h.elim fun c5 h => z_iaload (pc' := 30) (by decide +kernel) (hb.x1 1 (by decide)) c5 rfl <| z_dup2 (pc' := 31) (by decide +kernel) rfl rfl rfl <| h.elim fun c6 h => z_iaload (pc' := 32) (by decide +kernel) hn.a5 c6 rfl <| z_iconst (pc' := 33) (n := 1) (by decide +kernel) rfl <| z_iadd (pc' := 34) (by decide +kernel) rfl <| z_iastore (pc' := 35) (by decide +kernel) hn.a5 c6 rfl <| have h := h _ rfl; z_iinc (pc' := 38) (j := 2) (n := 1) (x := v2) (ls' := [some (.ref n), some (.ref b), some (iv (v2 + 1)), o3, o4, o5]) (by decide +kernel) rfl (by decide) rfl rfl <| z_goto (tgt := 10) (off := -28) (by decide +kernel) (by decide) <| h))
set_option maxRecDepth 20000 in
theorem b_X7_orderTasks_45 {G : Gx} {Q : Rv → Zm → Prop} {Z : Zm} {n : Nat} {b : Nat} {v2 : Int} {v3 : Int} {o4 : Option Value} {o5 : Option Value} (hn : atNet Z n) (hb : atBook Z b) (h : ((R32 v3) ∧ (R32 (zI Z n 1)) ∧ (if (zI Z n 1) ≤ v3 then (ZP G 1 m_X7_orderTasks 80 [some (.ref n), some (.ref b), some (iv v2), some (iv 0), o4, o5] [] Z Q) else ((zIx v3 20) ∧ (R32 (zI Z (n + 2) v3.toNat)) ∧ (if (zI Z (n + 2) v3.toNat) = 0 then ((zIx v2 20) ∧ ∀ Z10, Z10 = zSI Z (n + 1) (zu (zI Z (n + 1)) v2.toNat v3) → ZP G 1 m_X7_orderTasks 45 [some (.ref n), some (.ref b), some (iv (v2 + 1)), some (iv (v3 + 1)), o4, o5] [] Z10 Q) else (ZP G 1 m_X7_orderTasks 45 [some (.ref n), some (.ref b), some (iv v2), some (iv (v3 + 1)), o4, o5] [] Z Q)))))) : ZP G 1 m_X7_orderTasks 45 [some (.ref n), some (.ref b), some (iv v2), some (iv v3), o4, o5] [] Z Q := z_iload_n (pc' := 46) (j := 3) (by decide +kernel) rfl rfl <| z_aload_n (pc' := 47) (j := 0) (by decide +kernel) rfl rfl <| z_getI (pc' := 50) (idx := 49) (ci := 7) (f := 1) (by decide +kernel) f_RX7_49 rfl hn.o.1 hn.o.2 rfl <| h.elim fun c1 h => h.elim fun c2 h => z_icmp_ge (pc' := 53) (tgt := 78) (off := 28) (by decide +kernel) (by decide) rfl c1 c2 (am_ite h (fun h => z_iconst (pc' := 79) (n := 0) (by decide +kernel) rfl <| z_istore_n (pc' := 80) (j := 3) (ls' := [some (.ref n), some (.ref b), some (iv v2), some (iv 0), o4, o5]) (by decide +kernel) (by decide) rfl rfl <| h) (fun h => z_aload_n (pc' := 54) (j := 0) (by decide +kernel) rfl rfl <| z_getR (pc' := 57) (idx := 15) (ci := 7) (f := 5) (by decide +kernel) f_RX7_15 rfl hn.o.1 hn.o.2 hn.r5 rfl <| z_iload_n (pc' := 58) (j := 3) (by decide +kernel) rfl rfl <| h.elim fun c6 h => z_iaload (pc' := 59) (by decide +kernel) hn.a5 c6 rfl <| h.elim fun c7 h => z_if_ne (pc' := 62) (tgt := 72) (off := 13) (by decide +kernel) (by decide) rfl c7 (am_ite h (fun h => z_aload_n (pc' := 63) (j := 0) (by decide +kernel) rfl rfl <| z_getR (pc' := 66) (idx := 9) (ci := 7) (f := 4) (by decide +kernel) f_RX7_9 rfl hn.o.1 hn.o.2 hn.r4 rfl <| z_iload_n (pc' := 67) (j := 2) (by decide +kernel) rfl rfl <| z_iload_n (pc' := 68) (j := 3) (by decide +kernel) rfl rfl <| h.elim fun c9 h => z_iastore (pc' := 69) (by decide +kernel) hn.a4 c9 rfl <| have h := h _ rfl; z_iinc (pc' := 72) (j := 2) (n := 1) (x := v2) (ls' := [some (.ref n), some (.ref b), some (iv (v2 + 1)), some (iv v3), o4, o5]) (by decide +kernel) rfl (by decide) rfl rfl <| z_iinc (pc' := 75) (j := 3) (n := 1) (x := v3) (ls' := [some (.ref n), some (.ref b), some (iv (v2 + 1)), some (iv (v3 + 1)), o4, o5]) (by decide +kernel) rfl (by decide) rfl rfl <| z_goto (tgt := 45) (off := -30) (by decide +kernel) (by decide) <| h) (fun h => z_iinc (pc' := 75) (j := 3) (n := 1) (x := v3) (ls' := [some (.ref n), some (.ref b), some (iv v2), some (iv (v3 + 1)), o4, o5]) (by decide +kernel) rfl (by decide) rfl rfl <| z_goto (tgt := 45) (off := -30) (by decide +kernel) (by decide) <| h))))
set_option maxRecDepth 20000 in
theorem b_X7_orderTasks_80 {G : Gx} {Q : Rv → Zm → Prop} {Z : Zm} {n : Nat} {b : Nat} {v2 : Int} {v3 : Int} {o4 : Option Value} {o5 : Option Value} (hn : atNet Z n) (hb : atBook Z b) (h : ((R32 v3) ∧ (R32 (zI Z n 1)) ∧ (if (zI Z n 1) ≤ v3 then (Q (.inl none) Z) else ((R32 v2) ∧ (if v2 ≤ v3 then (Q (.inl none) Z) else (ZP G 1 m_X7_orderTasks 96 [some (.ref n), some (.ref b), some (iv v2), some (iv v3), some (iv 0), o5] [] Z Q)))))) : ZP G 1 m_X7_orderTasks 80 [some (.ref n), some (.ref b), some (iv v2), some (iv v3), o4, o5] [] Z Q := z_iload_n (pc' := 81) (j := 3) (by decide +kernel) rfl rfl <| z_aload_n (pc' := 82) (j := 0) (by decide +kernel) rfl rfl <| z_getI (pc' := 85) (idx := 49) (ci := 7) (f := 1) (by decide +kernel) f_RX7_49 rfl hn.o.1 hn.o.2 rfl <| h.elim fun c1 h => h.elim fun c2 h => z_icmp_ge (pc' := 88) (tgt := 189) (off := 104) (by decide +kernel) (by decide) rfl c1 c2 (am_ite h (fun h => z_ret (by decide +kernel) rfl h) (fun h => z_iload_n (pc' := 89) (j := 3) (by decide +kernel) rfl rfl <| z_iload_n (pc' := 90) (j := 2) (by decide +kernel) rfl rfl <| h.elim fun c4 h => z_icmp_ge (pc' := 93) (tgt := 189) (off := 99) (by decide +kernel) (by decide) rfl c1 c4 (am_ite h (fun h => z_ret (by decide +kernel) rfl h) (fun h => z_iconst (pc' := 94) (n := 0) (by decide +kernel) rfl <| z_istore (pc' := 96) (j := 4) (ls' := [some (.ref n), some (.ref b), some (iv v2), some (iv v3), some (iv 0), o5]) (by decide +kernel) (by decide) rfl rfl <| h))))
set_option maxRecDepth 20000 in
theorem b_X7_orderTasks_96 {G : Gx} {Q : Rv → Zm → Prop} {Z : Zm} {n : Nat} {b : Nat} {v2 : Int} {v3 : Int} {v4 : Int} {o5 : Option Value} (hn : atNet Z n) (hb : atBook Z b) (h : ((R32 v4) ∧ (R32 (zI Z n 2)) ∧ (if (zI Z n 2) ≤ v4 then (ZP G 1 m_X7_orderTasks 80 [some (.ref n), some (.ref b), some (iv v2), some (iv (v3 + 1)), some (iv v4), o5] [] Z Q) else ((zIx v4 50) ∧ (zIx v3 20) ∧ (R32 (zI Z (b + 15) v4.toNat)) ∧ (R32 (zI Z (n + 1) v3.toNat)) ∧ (if (zI Z (b + 15) v4.toNat) = (zI Z (n + 1) v3.toNat) then ((zIx (zI Z (b + 16) v4.toNat) 20) ∧ ∀ Z14, Z14 = zSI Z (n + 2) (zu (zI Z (n + 2)) (zI Z (b + 16) v4.toNat).toNat ((zI Z (n + 2) (zI Z (b + 16) v4.toNat).toNat) - 1)) → (R32 (zI Z14 (n + 2) (zI Z (b + 16) v4.toNat).toNat)) ∧ (if (zI Z14 (n + 2) (zI Z (b + 16) v4.toNat).toNat) = 0 then ((R32 v2) ∧ (R32 (zI Z14 n 1)) ∧ (if (zI Z14 n 1) ≤ v2 then (ZP G 1 m_X7_orderTasks 96 [some (.ref n), some (.ref b), some (iv v2), some (iv v3), some (iv (v4 + 1)), some (iv (zI Z (b + 16) v4.toNat))] [] Z14 Q) else ((zIx v2 20) ∧ ∀ Z23, Z23 = zSI Z14 (n + 1) (zu (zI Z14 (n + 1)) v2.toNat (zI Z (b + 16) v4.toNat)) → ZP G 1 m_X7_orderTasks 96 [some (.ref n), some (.ref b), some (iv (v2 + 1)), some (iv v3), some (iv (v4 + 1)), some (iv (zI Z (b + 16) v4.toNat))] [] Z23 Q))) else (ZP G 1 m_X7_orderTasks 96 [some (.ref n), some (.ref b), some (iv v2), some (iv v3), some (iv (v4 + 1)), some (iv (zI Z (b + 16) v4.toNat))] [] Z14 Q))) else (ZP G 1 m_X7_orderTasks 96 [some (.ref n), some (.ref b), some (iv v2), some (iv v3), some (iv (v4 + 1)), some (iv (zI Z (b + 16) v4.toNat))] [] Z Q)))))) : ZP G 1 m_X7_orderTasks 96 [some (.ref n), some (.ref b), some (iv v2), some (iv v3), some (iv v4), o5] [] Z Q := z_iload (pc' := 98) (j := 4) (by decide +kernel) rfl rfl <| z_aload_n (pc' := 99) (j := 0) (by decide +kernel) rfl rfl <| z_getI (pc' := 102) (idx := 53) (ci := 7) (f := 2) (by decide +kernel) f_RX7_53 rfl hn.o.1 hn.o.2 rfl <| h.elim fun c1 h => h.elim fun c2 h => z_icmp_ge (pc' := 105) (tgt := 183) (off := 81) (by decide +kernel) (by decide) rfl c1 c2 (am_ite h (fun h => z_iinc (pc' := 186) (j := 3) (n := 1) (x := v3) (ls' := [some (.ref n), some (.ref b), some (iv v2), some (iv (v3 + 1)), some (iv v4), o5]) (by decide +kernel) rfl (by decide) rfl rfl <| z_goto (tgt := 80) (off := -106) (by decide +kernel) (by decide) <| h) (fun h => z_aload_n (pc' := 106) (j := 1) (by decide +kernel) rfl rfl <| z_getR (pc' := 109) (idx := 90) (ci := 0) (f := 1) (by decide +kernel) f_RX7_90 rfl hb.o.1 hb.o.2 hb.r1 rfl <| z_iconst (pc' := 110) (n := 1) (by decide +kernel) rfl <| z_aaload120 (pc' := 111) (by decide +kernel) hb.a1 ⟨by decide, by decide, by decide⟩ (hb.e1 1 (by decide)) rfl <| z_iload (pc' := 113) (j := 4) (by decide +kernel) rfl rfl <| h.elim fun c8 h => z_iaload (pc' := 114) (by decide +kernel) (hb.x1 1 (by decide)) c8 rfl <| z_istore (pc' := 116) (j := 5) (ls' := [some (.ref n), some (.ref b), some (iv v2), some (iv v3), some (iv v4), some (iv (zI Z (b + 16) v4.toNat))]) (by decide +kernel) (by decide) rfl rfl <| z_aload_n (pc' := 117) (j := 1) (by decide +kernel) rfl rfl <| z_getR (pc' := 120) (idx := 90) (ci := 0) (f := 1) (by decide +kernel) f_RX7_90 rfl hb.o.1 hb.o.2 hb.r1 rfl <| z_iconst (pc' := 121) (n := 0) (by decide +kernel) rfl <| z_aaload120 (pc' := 122) (by decide +kernel) hb.a1 ⟨by decide, by decide, by decide⟩ (hb.e1 0 (by decide)) rfl <| z_iload (pc' := 124) (j := 4) (by decide +kernel) rfl rfl <| z_iaload (pc' := 125) (by decide +kernel) (hb.x1 0 (by decide)) c8 rfl <| z_aload_n (pc' := 126) (j := 0) (by decide +kernel) rfl rfl <| z_getR (pc' := 129) (idx := 9) (ci := 7) (f := 4) (by decide +kernel) f_RX7_9 rfl hn.o.1 hn.o.2 hn.r4 rfl <| z_iload_n (pc' := 130) (j := 3) (by decide +kernel) rfl rfl <| h.elim fun c9 h => z_iaload (pc' := 131) (by decide +kernel) hn.a4 c9 rfl <| h.elim fun c10 h => h.elim fun c11 h => z_icmp_eq (pc' := 134) (tgt := 137) (off := 6) (by decide +kernel) (by decide) rfl c10 c11 (am_ite h (fun h => z_aload_n (pc' := 138) (j := 0) (by decide +kernel) rfl rfl <| z_getR (pc' := 141) (idx := 15) (ci := 7) (f := 5) (by decide +kernel) f_RX7_15 rfl hn.o.1 hn.o.2 hn.r5 rfl <| z_iload (pc' := 143) (j := 5) (by decide +kernel) rfl rfl <| z_dup2 (pc' := 144) (by decide +kernel) rfl rfl rfl <| h.elim fun c13 h => z_iaload (pc' := 145) (by decide +kernel) hn.a5 c13 rfl <| z_iconst (pc' := 146) (n := 1) (by decide +kernel) rfl <| z_isub (pc' := 147) (by decide +kernel) rfl <| z_iastore (pc' := 148) (by decide +kernel) hn.a5 c13 rfl <| have h := h _ rfl; z_aload_n (pc' := 149) (j := 0) (by decide +kernel) rfl rfl <| z_getR (pc' := 152) (idx := 15) (ci := 7) (f := 5) (by decide +kernel) f_RX7_15 rfl hn.o.1 hn.o.2 hn.r5 rfl <| z_iload (pc' := 154) (j := 5) (by decide +kernel) rfl rfl <| z_iaload (pc' := 155) (by decide +kernel) hn.a5 c13 rfl <| h.elim fun c15 h => z_if_ne (pc' := 158) (tgt := 177) (off := 22) (by decide +kernel) (by decide) rfl c15 (am_ite h (fun h => z_iload_n (pc' := 159) (j := 2) (by decide +kernel) rfl rfl <| z_aload_n (pc' := 160) (j := 0) (by decide +kernel) rfl rfl <| z_getI (pc' := 163) (idx := 49) (ci := 7) (f := 1) (by decide +kernel) f_RX7_49 rfl hn.o.1 hn.o.2 rfl <| h.elim fun c19 h => h.elim fun c20 h => z_icmp_ge (pc' := 166) (tgt := 177) (off := 14) (by decide +kernel) (by decide) rfl c19 c20 (am_ite h (fun h => z_iinc (pc' := 180) (j := 4) (n := 1) (x := v4) (ls' := [some (.ref n), some (.ref b), some (iv v2), some (iv v3), some (iv (v4 + 1)), some (iv (zI Z (b + 16) v4.toNat))]) (by decide +kernel) rfl (by decide) rfl rfl <| z_goto (tgt := 96) (off := -84) (by decide +kernel) (by decide) <| h) (fun h => z_aload_n (pc' := 167) (j := 0) (by decide +kernel) rfl rfl <| z_getR (pc' := 170) (idx := 9) (ci := 7) (f := 4) (by decide +kernel) f_RX7_9 rfl hn.o.1 hn.o.2 hn.r4 rfl <| z_iload_n (pc' := 171) (j := 2) (by decide +kernel) rfl rfl <| z_iload (pc' := 173) (j := 5) (by decide +kernel) rfl rfl <| h.elim fun c22 h => z_iastore (pc' := 174) (by decide +kernel) hn.a4 c22 rfl <| have h := h _ rfl; z_iinc (pc' := 177) (j := 2) (n := 1) (x := v2) (ls' := [some (.ref n), some (.ref b), some (iv (v2 + 1)), some (iv v3), some (iv v4), some (iv (zI Z (b + 16) v4.toNat))]) (by decide +kernel) rfl (by decide) rfl rfl <| z_iinc (pc' := 180) (j := 4) (n := 1) (x := v4) (ls' := [some (.ref n), some (.ref b), some (iv (v2 + 1)), some (iv v3), some (iv (v4 + 1)), some (iv (zI Z (b + 16) v4.toNat))]) (by decide +kernel) rfl (by decide) rfl rfl <| z_goto (tgt := 96) (off := -84) (by decide +kernel) (by decide) <| h))) (fun h => z_iinc (pc' := 180) (j := 4) (n := 1) (x := v4) (ls' := [some (.ref n), some (.ref b), some (iv v2), some (iv v3), some (iv (v4 + 1)), some (iv (zI Z (b + 16) v4.toNat))]) (by decide +kernel) rfl (by decide) rfl rfl <| z_goto (tgt := 96) (off := -84) (by decide +kernel) (by decide) <| h))) (fun h => z_goto (tgt := 177) (off := 43) (by decide +kernel) (by decide) <| z_iinc (pc' := 180) (j := 4) (n := 1) (x := v4) (ls' := [some (.ref n), some (.ref b), some (iv v2), some (iv v3), some (iv (v4 + 1)), some (iv (zI Z (b + 16) v4.toNat))]) (by decide +kernel) rfl (by decide) rfl rfl <| z_goto (tgt := 96) (off := -84) (by decide +kernel) (by decide) <| h))))
set_option maxRecDepth 20000 in
theorem e_X7_orderNeeds {G : Gx} {Q : Rv → Zm → Prop} {Z : Zm} {n : Nat} {b : Nat} (hn : atNet Z n) (hb : atBook Z b) (h : (ZP G 0 m_X7_orderNeeds 4 [some (.ref n), some (.ref b), some (iv 0), some (iv 0), none] [] Z Q)) : ZM G 0 m_X7_orderNeeds [.ref n, .ref b] Z Q := ZM.of [some (.ref n), some (.ref b), none, none, none] rfl <| z_iconst (pc' := 1) (n := 0) (by decide +kernel) rfl <| z_istore_n (pc' := 2) (j := 2) (ls' := [some (.ref n), some (.ref b), some (iv 0), none, none]) (by decide +kernel) (by decide) rfl rfl <| z_iconst (pc' := 3) (n := 0) (by decide +kernel) rfl <| z_istore_n (pc' := 4) (j := 3) (ls' := [some (.ref n), some (.ref b), some (iv 0), some (iv 0), none]) (by decide +kernel) (by decide) rfl rfl <| h
set_option maxRecDepth 20000 in
theorem b_X7_orderNeeds_4 {G : Gx} {Q : Rv → Zm → Prop} {Z : Zm} {n : Nat} {b : Nat} {v2 : Int} {v3 : Int} {o4 : Option Value} (hn : atNet Z n) (hb : atBook Z b) (h : ((R32 v3) ∧ (R32 (zI Z n 1)) ∧ (if (zI Z n 1) ≤ v3 then (Q (.inl none) Z) else (ZP G 0 m_X7_orderNeeds 15 [some (.ref n), some (.ref b), some (iv v2), some (iv v3), some (iv 0)] [] Z Q)))) : ZP G 0 m_X7_orderNeeds 4 [some (.ref n), some (.ref b), some (iv v2), some (iv v3), o4] [] Z Q := z_iload_n (pc' := 5) (j := 3) (by decide +kernel) rfl rfl <| z_aload_n (pc' := 6) (j := 0) (by decide +kernel) rfl rfl <| z_getI (pc' := 9) (idx := 49) (ci := 7) (f := 1) (by decide +kernel) f_RX7_49 rfl hn.o.1 hn.o.2 rfl <| h.elim fun c1 h => h.elim fun c2 h => z_icmp_ge (pc' := 12) (tgt := 107) (off := 98) (by decide +kernel) (by decide) rfl c1 c2 (am_ite h (fun h => z_ret (by decide +kernel) rfl h) (fun h => z_iconst (pc' := 13) (n := 0) (by decide +kernel) rfl <| z_istore (pc' := 15) (j := 4) (ls' := [some (.ref n), some (.ref b), some (iv v2), some (iv v3), some (iv 0)]) (by decide +kernel) (by decide) rfl rfl <| h))
set_option maxRecDepth 20000 in
theorem b_X7_orderNeeds_15 {G : Gx} {Q : Rv → Zm → Prop} {Z : Zm} {n : Nat} {b : Nat} {v2 : Int} {v3 : Int} {v4 : Int} (hn : atNet Z n) (hb : atBook Z b) (h : ((R32 v4) ∧ (R32 (zI Z n 2)) ∧ (if (zI Z n 2) ≤ v4 then (ZP G 0 m_X7_orderNeeds 4 [some (.ref n), some (.ref b), some (iv v2), some (iv (v3 + 1)), some (iv v4)] [] Z Q) else ((zIx v4 50) ∧ (zIx v3 20) ∧ (R32 (zI Z (b + 16) v4.toNat)) ∧ (R32 (zI Z (n + 1) v3.toNat)) ∧ (if (zI Z (b + 16) v4.toNat) = (zI Z (n + 1) v3.toNat) then ((R32 v2) ∧ (if (zI Z n 2) ≤ v2 then (ZP G 0 m_X7_orderNeeds 15 [some (.ref n), some (.ref b), some (iv v2), some (iv v3), some (iv (v4 + 1))] [] Z Q) else ((zIx v2 50) ∧ ∀ Z18, Z18 = zSI Z (n + 3) (zu (zI Z (n + 3)) v2.toNat (zI Z (b + 15) v4.toNat)) → ∀ Z19, Z19 = zSI Z18 (n + 4) (zu (zI Z18 (n + 4)) v2.toNat (zI Z18 (n + 1) v3.toNat)) → ∀ Z20, Z20 = zSI Z19 (n + 5) (zu (zI Z19 (n + 5)) v2.toNat (zI Z19 (b + 17) v4.toNat)) → ZP G 0 m_X7_orderNeeds 15 [some (.ref n), some (.ref b), some (iv (v2 + 1)), some (iv v3), some (iv (v4 + 1))] [] Z20 Q))) else (ZP G 0 m_X7_orderNeeds 15 [some (.ref n), some (.ref b), some (iv v2), some (iv v3), some (iv (v4 + 1))] [] Z Q)))))) : ZP G 0 m_X7_orderNeeds 15 [some (.ref n), some (.ref b), some (iv v2), some (iv v3), some (iv v4)] [] Z Q := z_iload (pc' := 17) (j := 4) (by decide +kernel) rfl rfl <| z_aload_n (pc' := 18) (j := 0) (by decide +kernel) rfl rfl <| z_getI (pc' := 21) (idx := 53) (ci := 7) (f := 2) (by decide +kernel) f_RX7_53 rfl hn.o.1 hn.o.2 rfl <| h.elim fun c1 h => h.elim fun c2 h => z_icmp_ge (pc' := 24) (tgt := 101) (off := 80) (by decide +kernel) (by decide) rfl c1 c2 (am_ite h (fun h => z_iinc (pc' := 104) (j := 3) (n := 1) (x := v3) (ls' := [some (.ref n), some (.ref b), some (iv v2), some (iv (v3 + 1)), some (iv v4)]) (by decide +kernel) rfl (by decide) rfl rfl <| z_goto (tgt := 4) (off := -100) (by decide +kernel) (by decide) <| h) (fun h => z_aload_n (pc' := 25) (j := 1) (by decide +kernel) rfl rfl <| z_getR (pc' := 28) (idx := 90) (ci := 0) (f := 1) (by decide +kernel) f_RX7_90 rfl hb.o.1 hb.o.2 hb.r1 rfl <| z_iconst (pc' := 29) (n := 1) (by decide +kernel) rfl <| z_aaload120 (pc' := 30) (by decide +kernel) hb.a1 ⟨by decide, by decide, by decide⟩ (hb.e1 1 (by decide)) rfl <| z_iload (pc' := 32) (j := 4) (by decide +kernel) rfl rfl <| h.elim fun c9 h => z_iaload (pc' := 33) (by decide +kernel) (hb.x1 1 (by decide)) c9 rfl <| z_aload_n (pc' := 34) (j := 0) (by decide +kernel) rfl rfl <| z_getR (pc' := 37) (idx := 9) (ci := 7) (f := 4) (by decide +kernel) f_RX7_9 rfl hn.o.1 hn.o.2 hn.r4 rfl <| z_iload_n (pc' := 38) (j := 3) (by decide +kernel) rfl rfl <| h.elim fun c10 h => z_iaload (pc' := 39) (by decide +kernel) hn.a4 c10 rfl <| h.elim fun c11 h => h.elim fun c12 h => z_icmp_ne (pc' := 42) (tgt := 95) (off := 56) (by decide +kernel) (by decide) rfl c11 c12 (am_ite h (fun h => z_iload_n (pc' := 43) (j := 2) (by decide +kernel) rfl rfl <| z_aload_n (pc' := 44) (j := 0) (by decide +kernel) rfl rfl <| z_getI (pc' := 47) (idx := 53) (ci := 7) (f := 2) (by decide +kernel) f_RX7_53 rfl hn.o.1 hn.o.2 rfl <| h.elim fun c15 h => z_icmp_ge (pc' := 50) (tgt := 95) (off := 48) (by decide +kernel) (by decide) rfl c15 c2 (am_ite h (fun h => z_iinc (pc' := 98) (j := 4) (n := 1) (x := v4) (ls' := [some (.ref n), some (.ref b), some (iv v2), some (iv v3), some (iv (v4 + 1))]) (by decide +kernel) rfl (by decide) rfl rfl <| z_goto (tgt := 15) (off := -83) (by decide +kernel) (by decide) <| h) (fun h => z_aload_n (pc' := 51) (j := 0) (by decide +kernel) rfl rfl <| z_getR (pc' := 54) (idx := 18) (ci := 7) (f := 6) (by decide +kernel) f_RX7_18 rfl hn.o.1 hn.o.2 hn.r6 rfl <| z_iload_n (pc' := 55) (j := 2) (by decide +kernel) rfl rfl <| z_aload_n (pc' := 56) (j := 1) (by decide +kernel) rfl rfl <| z_getR (pc' := 59) (idx := 90) (ci := 0) (f := 1) (by decide +kernel) f_RX7_90 rfl hb.o.1 hb.o.2 hb.r1 rfl <| z_iconst (pc' := 60) (n := 0) (by decide +kernel) rfl <| z_aaload120 (pc' := 61) (by decide +kernel) hb.a1 ⟨by decide, by decide, by decide⟩ (hb.e1 0 (by decide)) rfl <| z_iload (pc' := 63) (j := 4) (by decide +kernel) rfl rfl <| z_iaload (pc' := 64) (by decide +kernel) (hb.x1 0 (by decide)) c9 rfl <| h.elim fun c17 h => z_iastore (pc' := 65) (by decide +kernel) hn.a6 c17 rfl <| have h := h _ rfl; z_aload_n (pc' := 66) (j := 0) (by decide +kernel) rfl rfl <| z_getR (pc' := 69) (idx := 21) (ci := 7) (f := 7) (by decide +kernel) f_RX7_21 rfl hn.o.1 hn.o.2 hn.r7 rfl <| z_iload_n (pc' := 70) (j := 2) (by decide +kernel) rfl rfl <| z_aload_n (pc' := 71) (j := 0) (by decide +kernel) rfl rfl <| z_getR (pc' := 74) (idx := 9) (ci := 7) (f := 4) (by decide +kernel) f_RX7_9 rfl hn.o.1 hn.o.2 hn.r4 rfl <| z_iload_n (pc' := 75) (j := 3) (by decide +kernel) rfl rfl <| z_iaload (pc' := 76) (by decide +kernel) hn.a4 c10 rfl <| z_iastore (pc' := 77) (by decide +kernel) hn.a7 c17 rfl <| have h := h _ rfl; z_aload_n (pc' := 78) (j := 0) (by decide +kernel) rfl rfl <| z_getR (pc' := 81) (idx := 24) (ci := 7) (f := 8) (by decide +kernel) f_RX7_24 rfl hn.o.1 hn.o.2 hn.r8 rfl <| z_iload_n (pc' := 82) (j := 2) (by decide +kernel) rfl rfl <| z_aload_n (pc' := 83) (j := 1) (by decide +kernel) rfl rfl <| z_getR (pc' := 86) (idx := 90) (ci := 0) (f := 1) (by decide +kernel) f_RX7_90 rfl hb.o.1 hb.o.2 hb.r1 rfl <| z_iconst (pc' := 87) (n := 2) (by decide +kernel) rfl <| z_aaload120 (pc' := 88) (by decide +kernel) hb.a1 ⟨by decide, by decide, by decide⟩ (hb.e1 2 (by decide)) rfl <| z_iload (pc' := 90) (j := 4) (by decide +kernel) rfl rfl <| z_iaload (pc' := 91) (by decide +kernel) (hb.x1 2 (by decide)) c9 rfl <| z_iastore (pc' := 92) (by decide +kernel) hn.a8 c17 rfl <| have h := h _ rfl; z_iinc (pc' := 95) (j := 2) (n := 1) (x := v2) (ls' := [some (.ref n), some (.ref b), some (iv (v2 + 1)), some (iv v3), some (iv v4)]) (by decide +kernel) rfl (by decide) rfl rfl <| z_iinc (pc' := 98) (j := 4) (n := 1) (x := v4) (ls' := [some (.ref n), some (.ref b), some (iv (v2 + 1)), some (iv v3), some (iv (v4 + 1))]) (by decide +kernel) rfl (by decide) rfl rfl <| z_goto (tgt := 15) (off := -83) (by decide +kernel) (by decide) <| h))) (fun h => z_iinc (pc' := 98) (j := 4) (n := 1) (x := v4) (ls' := [some (.ref n), some (.ref b), some (iv v2), some (iv v3), some (iv (v4 + 1))]) (by decide +kernel) rfl (by decide) rfl rfl <| z_goto (tgt := 15) (off := -83) (by decide +kernel) (by decide) <| h))))
set_option maxRecDepth 20000 in
theorem e_X7_pushBegins {G : Gx} {Q : Rv → Zm → Prop} {Z : Zm} {n : Nat} {u : Nat} {v : Nat} (hn : atNet Z n) (hu : zA Z u 100 20) (hv : zA Z v 100 20) (h : (ZP G 0 m_X7_pushBegins 2 [some (.ref n), some (.ref u), some (.ref v), some (iv 0), none, none] [] Z Q)) : ZM G 0 m_X7_pushBegins [.ref n, .ref u, .ref v] Z Q := ZM.of [some (.ref n), some (.ref u), some (.ref v), none, none, none] rfl <| z_iconst (pc' := 1) (n := 0) (by decide +kernel) rfl <| z_istore_n (pc' := 2) (j := 3) (ls' := [some (.ref n), some (.ref u), some (.ref v), some (iv 0), none, none]) (by decide +kernel) (by decide) rfl rfl <| h
set_option maxRecDepth 20000 in
theorem b_X7_pushBegins_2 {G : Gx} {Q : Rv → Zm → Prop} {Z : Zm} {n : Nat} {u : Nat} {v : Nat} {v3 : Int} {o4 : Option Value} {o5 : Option Value} (hn : atNet Z n) (hu : zA Z u 100 20) (hv : zA Z v 100 20) (h : ((R32 v3) ∧ (R32 (zI Z n 2)) ∧ (if (zI Z n 2) ≤ v3 then (Q (.inl none) Z) else ((zIx v3 50) ∧ (zIx (zI Z (n + 3) v3.toNat) 20) ∧ (zIx (zI Z (n + 4) v3.toNat) 20) ∧ (R32 (((zI Z v (zI Z (n + 3) v3.toNat).toNat) + (zI Z u (zI Z (n + 3) v3.toNat).toNat)) + (zI Z (n + 5) v3.toNat))) ∧ (R32 (zI Z v (zI Z (n + 4) v3.toNat).toNat)) ∧ (if (((zI Z v (zI Z (n + 3) v3.toNat).toNat) + (zI Z u (zI Z (n + 3) v3.toNat).toNat)) + (zI Z (n + 5) v3.toNat)) ≤ (zI Z v (zI Z (n + 4) v3.toNat).toNat) then (ZP G 0 m_X7_pushBegins 2 [some (.ref n), some (.ref u), some (.ref v), some (iv (v3 + 1)), some (iv (zI Z (n + 3) v3.toNat)), some (iv (((zI Z v (zI Z (n + 3) v3.toNat).toNat) + (zI Z u (zI Z (n + 3) v3.toNat).toNat)) + (zI Z (n + 5) v3.toNat)))] [] Z Q) else (∀ Z13, Z13 = zSI Z v (zu (zI Z v) (zI Z (n + 4) v3.toNat).toNat (((zI Z v (zI Z (n + 3) v3.toNat).toNat) + (zI Z u (zI Z (n + 3) v3.toNat).toNat)) + (zI Z (n + 5) v3.toNat))) → ZP G 0 m_X7_pushBegins 2 [some (.ref n), some (.ref u), some (.ref v), some (iv (v3 + 1)), some (iv (zI Z (n + 3) v3.toNat)), some (iv (((zI Z v (zI Z (n + 3) v3.toNat).toNat) + (zI Z u (zI Z (n + 3) v3.toNat).toNat)) + (zI Z (n + 5) v3.toNat)))] [] Z13 Q)))))) : ZP G 0 m_X7_pushBegins 2 [some (.ref n), some (.ref u), some (.ref v), some (iv v3), o4, o5] [] Z Q := z_iload_n (pc' := 3) (j := 3) (by decide +kernel) rfl rfl <| z_aload_n (pc' := 4) (j := 0) (by decide +kernel) rfl rfl <| z_getI (pc' := 7) (idx := 53) (ci := 7) (f := 2) (by decide +kernel) f_RX7_53 rfl hn.o.1 hn.o.2 rfl <| h.elim fun c1 h => h.elim fun c2 h => z_icmp_ge (pc' := 10) (tgt := 65) (off := 58) (by decide +kernel) (by decide) rfl c1 c2 (am_ite h (fun h => z_ret (by decide +kernel) rfl h) (fun h => z_aload_n (pc' := 11) (j := 0) (by decide +kernel) rfl rfl <| z_getR (pc' := 14) (idx := 18) (ci := 7) (f := 6) (by decide +kernel) f_RX7_18 rfl hn.o.1 hn.o.2 hn.r6 rfl <| z_iload_n (pc' := 15) (j := 3) (by decide +kernel) rfl rfl <| h.elim fun c8 h => z_iaload (pc' := 16) (by decide +kernel) hn.a6 c8 rfl <| z_istore (pc' := 18) (j := 4) (ls' := [some (.ref n), some (.ref u), some (.ref v), some (iv v3), some (iv (zI Z (n + 3) v3.toNat)), o5]) (by decide +kernel) (by decide) rfl rfl <| z_aload_n (pc' := 19) (j := 2) (by decide +kernel) rfl rfl <| z_iload (pc' := 21) (j := 4) (by decide +kernel) rfl rfl <| h.elim fun c9 h => z_iaload (pc' := 22) (by decide +kernel) hv c9 rfl <| z_aload_n (pc' := 23) (j := 1) (by decide +kernel) rfl rfl <| z_iload (pc' := 25) (j := 4) (by decide +kernel) rfl rfl <| z_iaload (pc' := 26) (by decide +kernel) hu c9 rfl <| z_iadd (pc' := 27) (by decide +kernel) rfl <| z_aload_n (pc' := 28) (j := 0) (by decide +kernel) rfl rfl <| z_getR (pc' := 31) (idx := 24) (ci := 7) (f := 8) (by decide +kernel) f_RX7_24 rfl hn.o.1 hn.o.2 hn.r8 rfl <| z_iload_n (pc' := 32) (j := 3) (by decide +kernel) rfl rfl <| z_iaload (pc' := 33) (by decide +kernel) hn.a8 c8 rfl <| z_iadd (pc' := 34) (by decide +kernel) rfl <| z_istore (pc' := 36) (j := 5) (ls' := [some (.ref n), some (.ref u), some (.ref v), some (iv v3), some (iv (zI Z (n + 3) v3.toNat)), some (iv (((zI Z v (zI Z (n + 3) v3.toNat).toNat) + (zI Z u (zI Z (n + 3) v3.toNat).toNat)) + (zI Z (n + 5) v3.toNat)))]) (by decide +kernel) (by decide) rfl rfl <| z_iload (pc' := 38) (j := 5) (by decide +kernel) rfl rfl <| z_aload_n (pc' := 39) (j := 2) (by decide +kernel) rfl rfl <| z_aload_n (pc' := 40) (j := 0) (by decide +kernel) rfl rfl <| z_getR (pc' := 43) (idx := 21) (ci := 7) (f := 7) (by decide +kernel) f_RX7_21 rfl hn.o.1 hn.o.2 hn.r7 rfl <| z_iload_n (pc' := 44) (j := 3) (by decide +kernel) rfl rfl <| z_iaload (pc' := 45) (by decide +kernel) hn.a7 c8 rfl <| h.elim fun c10 h => z_iaload (pc' := 46) (by decide +kernel) hv c10 rfl <| h.elim fun c11 h => h.elim fun c12 h => z_icmp_le (pc' := 49) (tgt := 59) (off := 13) (by decide +kernel) (by decide) rfl c11 c12 (am_ite h (fun h => z_iinc (pc' := 62) (j := 3) (n := 1) (x := v3) (ls' := [some (.ref n), some (.ref u), some (.ref v), some (iv (v3 + 1)), some (iv (zI Z (n + 3) v3.toNat)), some (iv (((zI Z v (zI Z (n + 3) v3.toNat).toNat) + (zI Z u (zI Z (n + 3) v3.toNat).toNat)) + (zI Z (n + 5) v3.toNat)))]) (by decide +kernel) rfl (by decide) rfl rfl <| z_goto (tgt := 2) (off := -60) (by decide +kernel) (by decide) <| h) (fun h => z_aload_n (pc' := 50) (j := 2) (by decide +kernel) rfl rfl <| z_aload_n (pc' := 51) (j := 0) (by decide +kernel) rfl rfl <| z_getR (pc' := 54) (idx := 21) (ci := 7) (f := 7) (by decide +kernel) f_RX7_21 rfl hn.o.1 hn.o.2 hn.r7 rfl <| z_iload_n (pc' := 55) (j := 3) (by decide +kernel) rfl rfl <| z_iaload (pc' := 56) (by decide +kernel) hn.a7 c8 rfl <| z_iload (pc' := 58) (j := 5) (by decide +kernel) rfl rfl <| z_iastore (pc' := 59) (by decide +kernel) hv c10 rfl <| have h := h _ rfl; z_iinc (pc' := 62) (j := 3) (n := 1) (x := v3) (ls' := [some (.ref n), some (.ref u), some (.ref v), some (iv (v3 + 1)), some (iv (zI Z (n + 3) v3.toNat)), some (iv (((zI Z v (zI Z (n + 3) v3.toNat).toNat) + (zI Z u (zI Z (n + 3) v3.toNat).toNat)) + (zI Z (n + 5) v3.toNat)))]) (by decide +kernel) rfl (by decide) rfl rfl <| z_goto (tgt := 2) (off := -60) (by decide +kernel) (by decide) <| h))))
set_option maxRecDepth 20000 in
theorem e_X7_lastEnd {G : Gx} {Q : Rv → Zm → Prop} {Z : Zm} {n : Nat} {u : Nat} {v : Nat} (hn : atNet Z n) (hu : zA Z u 100 20) (hv : zA Z v 100 20) (h : (ZP G 1 m_X7_lastEnd 5 [some (.ref n), some (.ref u), some (.ref v), some (iv 0), some (iv 0)] [] Z Q)) : ZM G 1 m_X7_lastEnd [.ref n, .ref u, .ref v] Z Q := ZM.of [some (.ref n), some (.ref u), some (.ref v), none, none] rfl <| z_iconst (pc' := 1) (n := 0) (by decide +kernel) rfl <| z_istore_n (pc' := 2) (j := 3) (ls' := [some (.ref n), some (.ref u), some (.ref v), some (iv 0), none]) (by decide +kernel) (by decide) rfl rfl <| z_iconst (pc' := 3) (n := 0) (by decide +kernel) rfl <| z_istore (pc' := 5) (j := 4) (ls' := [some (.ref n), some (.ref u), some (.ref v), some (iv 0), some (iv 0)]) (by decide +kernel) (by decide) rfl rfl <| h
set_option maxRecDepth 20000 in
theorem b_X7_lastEnd_5 {G : Gx} {Q : Rv → Zm → Prop} {Z : Zm} {n : Nat} {u : Nat} {v : Nat} {v3 : Int} {v4 : Int} (hn : atNet Z n) (hu : zA Z u 100 20) (hv : zA Z v 100 20) (h : ((R32 v4) ∧ (R32 (zI Z n 1)) ∧ (if (zI Z n 1) ≤ v4 then (Q (.inl (some (iv v3))) Z) else ((zIx v4 20) ∧ (R32 v3) ∧ (R32 ((zI Z v v4.toNat) + (zI Z u v4.toNat))) ∧ ZP G 1 m_X7_lastEnd 5 [some (.ref n), some (.ref u), some (.ref v), some (iv (max v3 ((zI Z v v4.toNat) + (zI Z u v4.toNat)))), some (iv (v4 + 1))] [] Z Q)))) : ZP G 1 m_X7_lastEnd 5 [some (.ref n), some (.ref u), some (.ref v), some (iv v3), some (iv v4)] [] Z Q := z_iload (pc' := 7) (j := 4) (by decide +kernel) rfl rfl <| z_aload_n (pc' := 8) (j := 0) (by decide +kernel) rfl rfl <| z_getI (pc' := 11) (idx := 49) (ci := 7) (f := 1) (by decide +kernel) f_RX7_49 rfl hn.o.1 hn.o.2 rfl <| h.elim fun c1 h => h.elim fun c2 h => z_icmp_ge (pc' := 14) (tgt := 34) (off := 23) (by decide +kernel) (by decide) rfl c1 c2 (am_ite h (fun h => z_iload_n (pc' := 35) (j := 3) (by decide +kernel) rfl rfl <| z_ireturn (by decide +kernel) ⟨_, rfl, rfl⟩ h) (fun h => z_iload_n (pc' := 15) (j := 3) (by decide +kernel) rfl rfl <| z_aload_n (pc' := 16) (j := 2) (by decide +kernel) rfl rfl <| z_iload (pc' := 18) (j := 4) (by decide +kernel) rfl rfl <| h.elim fun c6 h => z_iaload (pc' := 19) (by decide +kernel) hv c6 rfl <| z_aload_n (pc' := 20) (j := 1) (by decide +kernel) rfl rfl <| z_iload (pc' := 22) (j := 4) (by decide +kernel) rfl rfl <| z_iaload (pc' := 23) (by decide +kernel) hu c6 rfl <| z_iadd (pc' := 24) (by decide +kernel) rfl <| h.elim fun c7 h => h.elim fun c8 h => z_max (pc' := 27) (idx := 93) (by decide +kernel) (amM3 107 rfl (by decide +kernel)) (amM3 108 rfl (by decide +kernel)) (amM1 21 rfl (by decide +kernel)) (amM3 109 rfl (by decide +kernel)) (by omega) (am_le rfl) c7 c8 rfl <| z_istore_n (pc' := 28) (j := 3) (ls' := [some (.ref n), some (.ref u), some (.ref v), some (iv (max v3 ((zI Z v v4.toNat) + (zI Z u v4.toNat)))), some (iv v4)]) (by decide +kernel) (by decide) rfl rfl <| z_iinc (pc' := 31) (j := 4) (n := 1) (x := v4) (ls' := [some (.ref n), some (.ref u), some (.ref v), some (iv (max v3 ((zI Z v v4.toNat) + (zI Z u v4.toNat)))), some (iv (v4 + 1))]) (by decide +kernel) rfl (by decide) rfl rfl <| z_goto (tgt := 5) (off := -26) (by decide +kernel) (by decide) <| h))
set_option maxRecDepth 20000 in
theorem e_X7_pullLatests {G : Gx} {Q : Rv → Zm → Prop} {Z : Zm} {n : Nat} {u : Nat} {v : Nat} {x : Int} (hn : atNet Z n) (hu : zA Z u 100 20) (hv : zA Z v 100 20) (h : (ZP G 0 m_X7_pullLatests 3 [some (.ref n), some (.ref u), some (iv x), some (.ref v), some (iv 0), none, none] [] Z Q)) : ZM G 0 m_X7_pullLatests [.ref n, .ref u, iv x, .ref v] Z Q := ZM.of [some (.ref n), some (.ref u), some (iv x), some (.ref v), none, none, none] rfl <| z_iconst (pc' := 1) (n := 0) (by decide +kernel) rfl <| z_istore (pc' := 3) (j := 4) (ls' := [some (.ref n), some (.ref u), some (iv x), some (.ref v), some (iv 0), none, none]) (by decide +kernel) (by decide) rfl rfl <| h
set_option maxRecDepth 20000 in
theorem b_X7_pullLatests_3 {G : Gx} {Q : Rv → Zm → Prop} {Z : Zm} {n : Nat} {u : Nat} {v : Nat} {x : Int} {v4 : Int} {o5 : Option Value} {o6 : Option Value} (hn : atNet Z n) (hu : zA Z u 100 20) (hv : zA Z v 100 20) (h : ((R32 v4) ∧ (R32 (zI Z n 1)) ∧ (if (zI Z n 1) ≤ v4 then (ZP G 0 m_X7_pullLatests 36 [some (.ref n), some (.ref u), some (iv x), some (.ref v), some (iv ((zI Z n 2) - 1)), o5, o6] [] Z Q) else ((zIx v4 20) ∧ ∀ Z5, Z5 = zSI Z v (zu (zI Z v) v4.toNat (x - (zI Z u v4.toNat))) → ZP G 0 m_X7_pullLatests 3 [some (.ref n), some (.ref u), some (iv x), some (.ref v), some (iv (v4 + 1)), o5, o6] [] Z5 Q)))) : ZP G 0 m_X7_pullLatests 3 [some (.ref n), some (.ref u), some (iv x), some (.ref v), some (iv v4), o5, o6] [] Z Q := z_iload (pc' := 5) (j := 4) (by decide +kernel) rfl rfl <| z_aload_n (pc' := 6) (j := 0) (by decide +kernel) rfl rfl <| z_getI (pc' := 9) (idx := 49) (ci := 7) (f := 1) (by decide +kernel) f_RX7_49 rfl hn.o.1 hn.o.2 rfl <| h.elim fun c1 h => h.elim fun c2 h => z_icmp_ge (pc' := 12) (tgt := 28) (off := 19) (by decide +kernel) (by decide) rfl c1 c2 (am_ite h (fun h => z_aload_n (pc' := 29) (j := 0) (by decide +kernel) rfl rfl <| z_getI (pc' := 32) (idx := 53) (ci := 7) (f := 2) (by decide +kernel) f_RX7_53 rfl hn.o.1 hn.o.2 rfl <| z_iconst (pc' := 33) (n := 1) (by decide +kernel) rfl <| z_isub (pc' := 34) (by decide +kernel) rfl <| z_istore (pc' := 36) (j := 4) (ls' := [some (.ref n), some (.ref u), some (iv x), some (.ref v), some (iv ((zI Z n 2) - 1)), o5, o6]) (by decide +kernel) (by decide) rfl rfl <| h) (fun h => z_aload_n (pc' := 13) (j := 3) (by decide +kernel) rfl rfl <| z_iload (pc' := 15) (j := 4) (by decide +kernel) rfl rfl <| z_iload_n (pc' := 16) (j := 2) (by decide +kernel) rfl rfl <| z_aload_n (pc' := 17) (j := 1) (by decide +kernel) rfl rfl <| z_iload (pc' := 19) (j := 4) (by decide +kernel) rfl rfl <| h.elim fun c4 h => z_iaload (pc' := 20) (by decide +kernel) hu c4 rfl <| z_isub (pc' := 21) (by decide +kernel) rfl <| z_iastore (pc' := 22) (by decide +kernel) hv c4 rfl <| have h := h _ rfl; z_iinc (pc' := 25) (j := 4) (n := 1) (x := v4) (ls' := [some (.ref n), some (.ref u), some (iv x), some (.ref v), some (iv (v4 + 1)), o5, o6]) (by decide +kernel) rfl (by decide) rfl rfl <| z_goto (tgt := 3) (off := -22) (by decide +kernel) (by decide) <| h))
set_option maxRecDepth 20000 in
theorem b_X7_pullLatests_36 {G : Gx} {Q : Rv → Zm → Prop} {Z : Zm} {n : Nat} {u : Nat} {v : Nat} {o2 : Option Value} {v4 : Int} {o5 : Option Value} {o6 : Option Value} (hn : atNet Z n) (hu : zA Z u 100 20) (hv : zA Z v 100 20) (h : ((R32 v4) ∧ (if v4 < 0 then (Q (.inl none) Z) else ((zIx v4 50) ∧ (zIx (zI Z (n + 4) v4.toNat) 20) ∧ (zIx (zI Z (n + 3) v4.toNat) 20) ∧ (R32 (((zI Z v (zI Z (n + 4) v4.toNat).toNat) - (zI Z (n + 5) v4.toNat)) - (zI Z u (zI Z (n + 3) v4.toNat).toNat))) ∧ (R32 (zI Z v (zI Z (n + 3) v4.toNat).toNat)) ∧ (if (zI Z v (zI Z (n + 3) v4.toNat).toNat) ≤ (((zI Z v (zI Z (n + 4) v4.toNat).toNat) - (zI Z (n + 5) v4.toNat)) - (zI Z u (zI Z (n + 3) v4.toNat).toNat)) then (ZP G 0 m_X7_pullLatests 36 [some (.ref n), some (.ref u), o2, some (.ref v), some (iv (v4 + (-1))), some (iv (zI Z (n + 3) v4.toNat)), some (iv (((zI Z v (zI Z (n + 4) v4.toNat).toNat) - (zI Z (n + 5) v4.toNat)) - (zI Z u (zI Z (n + 3) v4.toNat).toNat)))] [] Z Q) else (∀ Z12, Z12 = zSI Z v (zu (zI Z v) (zI Z (n + 3) v4.toNat).toNat (((zI Z v (zI Z (n + 4) v4.toNat).toNat) - (zI Z (n + 5) v4.toNat)) - (zI Z u (zI Z (n + 3) v4.toNat).toNat))) → ZP G 0 m_X7_pullLatests 36 [some (.ref n), some (.ref u), o2, some (.ref v), some (iv (v4 + (-1))), some (iv (zI Z (n + 3) v4.toNat)), some (iv (((zI Z v (zI Z (n + 4) v4.toNat).toNat) - (zI Z (n + 5) v4.toNat)) - (zI Z u (zI Z (n + 3) v4.toNat).toNat)))] [] Z12 Q)))))) : ZP G 0 m_X7_pullLatests 36 [some (.ref n), some (.ref u), o2, some (.ref v), some (iv v4), o5, o6] [] Z Q := z_iload (pc' := 38) (j := 4) (by decide +kernel) rfl rfl <| h.elim fun c1 h => z_if_lt (pc' := 41) (tgt := 95) (off := 57) (by decide +kernel) (by decide) rfl c1 (am_ite h (fun h => z_ret (by decide +kernel) rfl h) (fun h => z_aload_n (pc' := 42) (j := 0) (by decide +kernel) rfl rfl <| z_getR (pc' := 45) (idx := 18) (ci := 7) (f := 6) (by decide +kernel) f_RX7_18 rfl hn.o.1 hn.o.2 hn.r6 rfl <| z_iload (pc' := 47) (j := 4) (by decide +kernel) rfl rfl <| h.elim fun c7 h => z_iaload (pc' := 48) (by decide +kernel) hn.a6 c7 rfl <| z_istore (pc' := 50) (j := 5) (ls' := [some (.ref n), some (.ref u), o2, some (.ref v), some (iv v4), some (iv (zI Z (n + 3) v4.toNat)), o6]) (by decide +kernel) (by decide) rfl rfl <| z_aload_n (pc' := 51) (j := 3) (by decide +kernel) rfl rfl <| z_aload_n (pc' := 52) (j := 0) (by decide +kernel) rfl rfl <| z_getR (pc' := 55) (idx := 21) (ci := 7) (f := 7) (by decide +kernel) f_RX7_21 rfl hn.o.1 hn.o.2 hn.r7 rfl <| z_iload (pc' := 57) (j := 4) (by decide +kernel) rfl rfl <| z_iaload (pc' := 58) (by decide +kernel) hn.a7 c7 rfl <| h.elim fun c8 h => z_iaload (pc' := 59) (by decide +kernel) hv c8 rfl <| z_aload_n (pc' := 60) (j := 0) (by decide +kernel) rfl rfl <| z_getR (pc' := 63) (idx := 24) (ci := 7) (f := 8) (by decide +kernel) f_RX7_24 rfl hn.o.1 hn.o.2 hn.r8 rfl <| z_iload (pc' := 65) (j := 4) (by decide +kernel) rfl rfl <| z_iaload (pc' := 66) (by decide +kernel) hn.a8 c7 rfl <| z_isub (pc' := 67) (by decide +kernel) rfl <| z_aload_n (pc' := 68) (j := 1) (by decide +kernel) rfl rfl <| z_iload (pc' := 70) (j := 5) (by decide +kernel) rfl rfl <| h.elim fun c9 h => z_iaload (pc' := 71) (by decide +kernel) hu c9 rfl <| z_isub (pc' := 72) (by decide +kernel) rfl <| z_istore (pc' := 74) (j := 6) (ls' := [some (.ref n), some (.ref u), o2, some (.ref v), some (iv v4), some (iv (zI Z (n + 3) v4.toNat)), some (iv (((zI Z v (zI Z (n + 4) v4.toNat).toNat) - (zI Z (n + 5) v4.toNat)) - (zI Z u (zI Z (n + 3) v4.toNat).toNat)))]) (by decide +kernel) (by decide) rfl rfl <| z_iload (pc' := 76) (j := 6) (by decide +kernel) rfl rfl <| z_aload_n (pc' := 77) (j := 3) (by decide +kernel) rfl rfl <| z_iload (pc' := 79) (j := 5) (by decide +kernel) rfl rfl <| z_iaload (pc' := 80) (by decide +kernel) hv c9 rfl <| h.elim fun c10 h => h.elim fun c11 h => z_icmp_ge (pc' := 83) (tgt := 89) (off := 9) (by decide +kernel) (by decide) rfl c10 c11 (am_ite h (fun h => z_iinc (pc' := 92) (j := 4) (n := -1) (x := v4) (ls' := [some (.ref n), some (.ref u), o2, some (.ref v), some (iv (v4 + (-1))), some (iv (zI Z (n + 3) v4.toNat)), some (iv (((zI Z v (zI Z (n + 4) v4.toNat).toNat) - (zI Z (n + 5) v4.toNat)) - (zI Z u (zI Z (n + 3) v4.toNat).toNat)))]) (by decide +kernel) rfl (by decide) rfl rfl <| z_goto (tgt := 36) (off := -56) (by decide +kernel) (by decide) <| h) (fun h => z_aload_n (pc' := 84) (j := 3) (by decide +kernel) rfl rfl <| z_iload (pc' := 86) (j := 5) (by decide +kernel) rfl rfl <| z_iload (pc' := 88) (j := 6) (by decide +kernel) rfl rfl <| z_iastore (pc' := 89) (by decide +kernel) hv c9 rfl <| have h := h _ rfl; z_iinc (pc' := 92) (j := 4) (n := -1) (x := v4) (ls' := [some (.ref n), some (.ref u), o2, some (.ref v), some (iv (v4 + (-1))), some (iv (zI Z (n + 3) v4.toNat)), some (iv (((zI Z v (zI Z (n + 4) v4.toNat).toNat) - (zI Z (n + 5) v4.toNat)) - (zI Z u (zI Z (n + 3) v4.toNat).toNat)))]) (by decide +kernel) rfl (by decide) rfl rfl <| z_goto (tgt := 36) (off := -56) (by decide +kernel) (by decide) <| h))))
set_option maxRecDepth 20000 in
theorem e_X7_lay {G : Gx} {Q : Rv → Zm → Prop} {Z : Zm} {n : Nat} {b : Nat} (hn : atNet Z n) (hb : atBook Z b) (h : (∀ Z1, Z1 = zSI Z n (zu (zI Z n) 1 (zI Z b 3)) → ∀ Z2, Z2 = zSI Z1 n (zu (zI Z1 n) 2 (zI Z1 b 4)) → ZM G 1 m_X7_orderTasks [.ref n, .ref b] Z2 (zKc G 2 m_X7_lay 21 [some (.ref n), some (.ref b), none] [] Q))) : ZM G 2 m_X7_lay [.ref n, .ref b] Z Q := ZM.of [some (.ref n), some (.ref b), none] rfl <| z_aload_n (pc' := 1) (j := 0) (by decide +kernel) rfl rfl <| z_aload_n (pc' := 2) (j := 1) (by decide +kernel) rfl rfl <| z_getI (pc' := 5) (idx := 43) (ci := 0) (f := 3) (by decide +kernel) f_RX7_43 rfl hb.o.1 hb.o.2 rfl <| z_putI (pc' := 8) (idx := 49) (ci := 7) (f := 1) (by decide +kernel) f_RX7_49 (am_nf rfl rfl) rfl rfl rfl hn.o.1 hn.o.2 rfl <| have h := h _ rfl; z_aload_n (pc' := 9) (j := 0) (by decide +kernel) rfl rfl <| z_aload_n (pc' := 10) (j := 1) (by decide +kernel) rfl rfl <| z_getI (pc' := 13) (idx := 50) (ci := 0) (f := 4) (by decide +kernel) f_RX7_50 rfl hb.o.1 hb.o.2 rfl <| z_putI (pc' := 16) (idx := 53) (ci := 7) (f := 2) (by decide +kernel) f_RX7_53 (am_nf rfl rfl) rfl rfl rfl hn.o.1 hn.o.2 rfl <| have h := h _ rfl; z_aload_n (pc' := 17) (j := 0) (by decide +kernel) rfl rfl <| z_aload_n (pc' := 18) (j := 1) (by decide +kernel) rfl rfl <| z_callV (pc' := 21) (idx := 54) (mj := m_X7_orderTasks) (av := [.ref b]) (d' := 1) (by decide +kernel) rfl k_X7_orderTasks l_RX7_54 rfl (by omega) (am_le rfl) rfl (am_le rfl) hn.o.1 hn.o.2 rfl h
set_option maxRecDepth 20000 in
theorem b_X7_lay_21 {G : Gx} {Q : Rv → Zm → Prop} {Z : Zm} {n : Nat} {b : Nat} {o2 : Option Value} (hn : atNet Z n) (hb : atBook Z b) (h : (ZM G 1 m_X7_orderNeeds [.ref n, .ref b] Z (zKc G 2 m_X7_lay 26 [some (.ref n), some (.ref b), o2] [] Q))) : ZP G 2 m_X7_lay 21 [some (.ref n), some (.ref b), o2] [] Z Q := z_aload_n (pc' := 22) (j := 0) (by decide +kernel) rfl rfl <| z_aload_n (pc' := 23) (j := 1) (by decide +kernel) rfl rfl <| z_callV (pc' := 26) (idx := 58) (mj := m_X7_orderNeeds) (av := [.ref b]) (d' := 1) (by decide +kernel) rfl k_X7_orderNeeds l_RX7_58 rfl (by omega) (am_le rfl) rfl (am_le rfl) hn.o.1 hn.o.2 rfl h
set_option maxRecDepth 20000 in
theorem b_X7_lay_26 {G : Gx} {Q : Rv → Zm → Prop} {Z : Zm} {n : Nat} {b : Nat} {o2 : Option Value} (hn : atNet Z n) (hb : atBook Z b) (h : (∀ Z1, Z1 = zSI Z (n + 6) (zfl (zI Z (n + 6)) 20 0) → ZM G 1 m_X7_pushBegins [.ref n, .ref (b + 2), .ref (n + 6)] Z1 (zKc G 2 m_X7_lay 50 [some (.ref n), some (.ref b), some (.ref (b + 2))] [] Q))) : ZP G 2 m_X7_lay 26 [some (.ref n), some (.ref b), o2] [] Z Q := z_aload_n (pc' := 27) (j := 0) (by decide +kernel) rfl rfl <| z_getR (pc' := 30) (idx := 27) (ci := 7) (f := 9) (by decide +kernel) f_RX7_27 rfl hn.o.1 hn.o.2 hn.r9 rfl <| z_iconst (pc' := 31) (n := 0) (by decide +kernel) rfl <| z_callS (pc' := 34) (idx := 61) (mj := m_J7_fill_53178) (av := [.ref (n + 6), iv 0]) (d' := 0) (by decide +kernel) rfl k_J7_fill_53178 l_RX7_61 rfl (by omega) (am_le rfl) rfl (am_le rfl) rfl <| zKf ((s_fill hn.a9 (by decide))) <| have h := h _ rfl; z_aload_n (pc' := 35) (j := 1) (by decide +kernel) rfl rfl <| z_getR (pc' := 38) (idx := 67) (ci := 0) (f := 0) (by decide +kernel) f_RX7_67 rfl hb.o.1 hb.o.2 hb.r0 rfl <| z_iconst (pc' := 39) (n := 0) (by decide +kernel) rfl <| z_aaload120 (pc' := 40) (by decide +kernel) hb.a0 ⟨by decide, by decide, by decide⟩ (hb.e0 0 (by decide)) rfl <| z_astore_n (pc' := 41) (j := 2) (ls' := [some (.ref n), some (.ref b), some (.ref (b + 2))]) (by decide +kernel) (by decide) rfl rfl <| z_aload_n (pc' := 42) (j := 0) (by decide +kernel) rfl rfl <| z_aload_n (pc' := 43) (j := 2) (by decide +kernel) rfl rfl <| z_aload_n (pc' := 44) (j := 0) (by decide +kernel) rfl rfl <| z_getR (pc' := 47) (idx := 27) (ci := 7) (f := 9) (by decide +kernel) f_RX7_27 rfl hn.o.1 hn.o.2 hn.r9 rfl <| z_callV (pc' := 50) (idx := 71) (mj := m_X7_pushBegins) (av := [.ref (b + 2), .ref (n + 6)]) (d' := 1) (by decide +kernel) rfl k_X7_pushBegins l_RX7_71 rfl (by omega) (am_le rfl) rfl (am_le rfl) hn.o.1 hn.o.2 rfl h
set_option maxRecDepth 20000 in
theorem b_X7_lay_50 {G : Gx} {Q : Rv → Zm → Prop} {Z : Zm} {n : Nat} {b : Nat} {o1 : Option Value} (hn : atNet Z n) (hb : atBook Z b) (h : (ZM G 1 m_X7_lastEnd [.ref n, .ref (b + 2), .ref (n + 6)] Z (zKc G 2 m_X7_lay 60 [some (.ref n), o1, some (.ref (b + 2))] [.ref n] Q))) : ZP G 2 m_X7_lay 50 [some (.ref n), o1, some (.ref (b + 2))] [] Z Q := z_aload_n (pc' := 51) (j := 0) (by decide +kernel) rfl rfl <| z_aload_n (pc' := 52) (j := 0) (by decide +kernel) rfl rfl <| z_aload_n (pc' := 53) (j := 2) (by decide +kernel) rfl rfl <| z_aload_n (pc' := 54) (j := 0) (by decide +kernel) rfl rfl <| z_getR (pc' := 57) (idx := 27) (ci := 7) (f := 9) (by decide +kernel) f_RX7_27 rfl hn.o.1 hn.o.2 hn.r9 rfl <| z_callV (pc' := 60) (idx := 75) (mj := m_X7_lastEnd) (av := [.ref (b + 2), .ref (n + 6)]) (d' := 1) (by decide +kernel) rfl k_X7_lastEnd l_RX7_75 rfl (by omega) (am_le rfl) rfl (am_le rfl) hn.o.1 hn.o.2 rfl h
set_option maxRecDepth 20000 in
theorem b_X7_lay_60 {G : Gx} {Q : Rv → Zm → Prop} {Z : Zm} {n : Nat} {b : Nat} {o1 : Option Value} {s0 : Int} (hn : atNet Z n) (hb : atBook Z b) (h : (∀ Z1, Z1 = zSI Z n (zu (zI Z n) 3 s0) → ZM G 1 m_X7_pullLatests [.ref n, .ref (b + 2), iv (zI Z1 n 3), .ref (n + 7)] Z1 (zKc G 2 m_X7_lay 76 [some (.ref n), o1, some (.ref (b + 2))] [] Q))) : ZP G 2 m_X7_lay 60 [some (.ref n), o1, some (.ref (b + 2))] [iv s0, .ref n] Z Q := z_putI (pc' := 63) (idx := 79) (ci := 7) (f := 3) (by decide +kernel) f_RX7_79 (am_nf rfl rfl) rfl rfl rfl hn.o.1 hn.o.2 rfl <| have h := h _ rfl; z_aload_n (pc' := 64) (j := 0) (by decide +kernel) rfl rfl <| z_aload_n (pc' := 65) (j := 2) (by decide +kernel) rfl rfl <| z_aload_n (pc' := 66) (j := 0) (by decide +kernel) rfl rfl <| z_getI (pc' := 69) (idx := 79) (ci := 7) (f := 3) (by decide +kernel) f_RX7_79 rfl hn.o.1 hn.o.2 rfl <| z_aload_n (pc' := 70) (j := 0) (by decide +kernel) rfl rfl <| z_getR (pc' := 73) (idx := 30) (ci := 7) (f := 10) (by decide +kernel) f_RX7_30 rfl hn.o.1 hn.o.2 hn.r10 rfl <| z_callV (pc' := 76) (idx := 82) (mj := m_X7_pullLatests) (av := [.ref (b + 2), iv (zI (zSI Z n (zu (zI Z n) 3 s0)) n 3), .ref (n + 7)]) (d' := 1) (by decide +kernel) rfl k_X7_pullLatests l_RX7_82 rfl (by omega) (am_le rfl) rfl (am_le rfl) hn.o.1 hn.o.2 rfl h
set_option maxRecDepth 20000 in
theorem b_X7_lay_76 {G : Gx} {Q : Rv → Zm → Prop} {Z : Zm} {n : Nat} {b : Nat} {o1 : Option Value} {o2 : Option Value} (hn : atNet Z n) (hb : atBook Z b) (h : (∀ Z1, Z1 = zSI Z n (zu (zI Z n) 0 1) → Q (.inl none) Z1)) : ZP G 2 m_X7_lay 76 [some (.ref n), o1, o2] [] Z Q := z_aload_n (pc' := 77) (j := 0) (by decide +kernel) rfl rfl <| z_iconst (pc' := 78) (n := 1) (by decide +kernel) rfl <| z_putI (pc' := 81) (idx := 86) (ci := 7) (f := 0) (by decide +kernel) f_RX7_86 (am_nf rfl rfl) rfl (iN_narB (Or.inr rfl)) rfl hn.o.1 hn.o.2 rfl <| have h := h _ rfl; z_ret (by decide +kernel) rfl h
theorem pig {f : Nat → Nat} : ∀ {N a : Nat}, (∀ q, q < a → f q < N) → (∀ q q', q < a → q' < a → f q = f q' → q = q') → a ≤ N := by
  intro N
  induction N generalizing f with
  | zero =>
    intro a h _
    rcases Nat.eq_zero_or_pos a with e | e
    · omega
    · exact absurd (h 0 e) (Nat.not_lt_zero _)
  | succ N ih =>
    intro a h hi
    rcases Nat.eq_zero_or_pos a with e | e
    · omega
    · by_cases hq : ∃ q0, q0 < a ∧ f q0 = N
      · obtain ⟨q0, hq0, hf⟩ := hq
        have := ih (f := fun q => if q = q0 then f (a - 1) else f q) (a := a - 1) (fun q hq => by
          show (if q = q0 then f (a - 1) else f q) < N
          by_cases c : q = q0
          · rw [if_pos c]
            have h1 := h (a - 1) (by omega)
            by_cases d : f (a - 1) = N
            · have := hi (a - 1) q0 (by omega) hq0 (d.trans hf.symm)
              omega
            · omega
          · rw [if_neg c]
            have h1 := h q (by omega)
            by_cases d : f q = N
            · exact absurd (hi q q0 (by omega) hq0 (d.trans hf.symm)) c
            · omega) (fun q q' hq hq' he => by
          have he' : (if q = q0 then f (a - 1) else f q) = (if q' = q0 then f (a - 1) else f q') := he
          by_cases c : q = q0
          · by_cases c' : q' = q0
            · omega
            · rw [if_pos c, if_neg c'] at he'
              have := hi (a - 1) q' (by omega) (by omega) he'
              omega
          · by_cases c' : q' = q0
            · rw [if_neg c, if_pos c'] at he'
              have := hi q (a - 1) (by omega) (by omega) he'
              omega
            · rw [if_neg c, if_neg c'] at he'
              exact hi q q' (by omega) (by omega) he')
        omega
      · have := ih (f := f) (a := a) (fun q hqa => by
          have := h q hqa
          by_cases d : f q = N
          · exact absurd ⟨q, hqa, d⟩ hq
          · omega) hi
        omega
theorem pig_miss {f : Nat → Nat} {N a y : Nat} (h : ∀ q, q < a → f q < N) (hi : ∀ q q', q < a → q' < a → f q = f q' → q = q') (hy : y < N) (hm : ∀ q, q < a → f q ≠ y) : a < N := by
  have := pig (f := fun q => if q = a then y else f q) (N := N) (a := a + 1) (fun q hq => by
    show (if q = a then y else f q) < N
    by_cases c : q = a
    · rw [if_pos c]
      exact hy
    · rw [if_neg c]
      exact h q (by omega)) (fun q q' hq hq' he => by
    have he' : (if q = a then y else f q) = (if q' = a then y else f q') := he
    by_cases c : q = a
    · by_cases c' : q' = a
      · omega
      · rw [if_pos c, if_neg c'] at he'
        exact absurd he'.symm (hm q' (by omega))
    · by_cases c' : q' = a
      · rw [if_neg c, if_pos c'] at he'
        exact absurd he' (hm q (by omega))
      · rw [if_neg c, if_neg c'] at he'
        exact hi q q' (by omega) (by omega) he')
  omega
theorem zsum_one {f g : Nat → Int} {n i : Nat} (h : ∀ j, j < n → j ≠ i → f j = g j) (hi : i < n) : zsum f n = zsum g n + (f i - g i) := by
  induction n with
  | zero => exact absurd hi (Nat.not_lt_zero _)
  | succ n ih =>
    rw [zsum_s, zsum_s]
    by_cases e : i = n
    · subst e
      rw [zsum_eq fun j hj => h j (by omega) (by omega)]
      omega
    · rw [ih (fun j hj => h j (by omega)) (by omega), h n (by omega) (by omega)]
      omega
theorem zsum_pos {f : Nat → Int} {n i : Nat} (h : ∀ j, j < n → 0 ≤ f j) (hi : i < n) (h1 : 0 < f i) : 1 ≤ zsum f n := by
  have h2 := zsum_lt (f := fun _ => 0) (g := f) h hi h1
  have h3 := (zsum_bound (f := fun _ => (0 : Int)) (n := n) (a := 0) (b := 0) fun _ _ => ⟨Int.le_refl _, Int.le_refl _⟩).1
  omega
theorem zsum_zero {f : Nat → Int} {n : Nat} (h : ∀ j, j < n → 0 ≤ f j) (h1 : zsum f n ≠ 0) : ∃ j, j < n ∧ f j ≠ 0 := by
  by_cases c : ∃ j, j < n ∧ f j ≠ 0
  · exact c
  · refine absurd ?_ h1
    rw [zsum_eq (g := fun _ => 0) fun j hj => Classical.byContradiction fun d => c ⟨j, hj, d⟩]
    have h3 := zsum_bound (f := fun _ => (0 : Int)) (n := n) (a := 0) (b := 0) fun _ _ => ⟨Int.le_refl _, Int.le_refl _⟩
    omega
/-- the needs of which the earlier task is gone through -/
def oDn (k : Bk) (o : Nat → Nat) (p i j : Nat) : Prop := (∃ q, q < p ∧ o q = kE k j) ∨ (j < i ∧ o p = kE k j)
noncomputable def oW (k : Bk) (o : Nat → Nat) (p i t : Nat) : Int := zsum (fun j => @ite _ (kL k j = t ∧ ¬ oDn k o p i j) (Classical.propDecidable _) 1 0) (kM k)
theorem oW_r (k : Bk) (o : Nat → Nat) (p i t : Nat) : 0 ≤ oW k o p i t ∧ oW k o p i t ≤ kM k := by
  have h := zsum_bound (f := fun j => @ite Int (kL k j = t ∧ ¬ oDn k o p i j) (Classical.propDecidable _) 1 0) (n := kM k) (a := 0) (b := 1) fun j _ => by
    by_cases c : kL k j = t ∧ ¬ oDn k o p i j
    · simp only [if_pos c]
      decide
    · simp only [if_neg c]
      decide
  unfold oW
  omega
theorem oW_eq {k : Bk} {o o' : Nat → Nat} {p i p' i' t : Nat} (h : ∀ j, j < kM k → kL k j = t → (oDn k o p i j ↔ oDn k o' p' i' j)) : oW k o p i t = oW k o' p' i' t := zsum_eq fun j hj => by
  by_cases c : kL k j = t
  · by_cases d : oDn k o p i j
    · rw [if_neg (fun g => g.2 d), if_neg (fun g => g.2 ((h j hj c).mp d))]
    · rw [if_pos ⟨c, d⟩, if_pos ⟨c, fun g => d ((h j hj c).mpr g)⟩]
  · rw [if_neg (fun g => c g.1), if_neg (fun g => c g.1)]
theorem oW_step {k : Bk} {o : Nat → Nat} {p i : Nat} (hi : i < kM k) (h : o p = kE k i) (hq : ∀ q, q < p → o q ≠ o p) (t : Nat) : oW k o p (i + 1) t = if t = kL k i then oW k o p i t - 1 else oW k o p i t := by
  have hno : ¬ oDn k o p i i := fun g => by
    rcases g with ⟨q, h1, h2⟩ | ⟨h1, h2⟩
    · exact hq q h1 (h2.trans h.symm)
    · omega
  have hyes : oDn k o p (i + 1) i := Or.inr ⟨by omega, h⟩
  have oth : ∀ j, j ≠ i → (oDn k o p (i + 1) j ↔ oDn k o p i j) := fun j hj => ⟨fun g => by
    rcases g with g | ⟨h1, h2⟩
    · exact Or.inl g
    · exact Or.inr ⟨by omega, h2⟩, fun g => by
    rcases g with g | ⟨h1, h2⟩
    · exact Or.inl g
    · exact Or.inr ⟨by omega, h2⟩⟩
  by_cases c : t = kL k i
  · rw [if_pos c]
    have := zsum_one (f := fun j => @ite Int (kL k j = t ∧ ¬ oDn k o p i j) (Classical.propDecidable _) 1 0) (g := fun j => @ite Int (kL k j = t ∧ ¬ oDn k o p (i + 1) j) (Classical.propDecidable _) 1 0) (n := kM k) (i := i) (fun j hj hne => by
      by_cases d : kL k j = t ∧ ¬ oDn k o p i j
      · simp only [if_pos d, if_pos (show kL k j = t ∧ ¬ oDn k o p (i + 1) j from ⟨d.1, fun g => d.2 ((oth j hne).mp g)⟩)]
      · simp only [if_neg d, if_neg (show ¬ (kL k j = t ∧ ¬ oDn k o p (i + 1) j) from fun g => d ⟨g.1, fun z => g.2 ((oth j hne).mpr z)⟩)]) hi
    simp only [if_pos (show kL k i = t ∧ ¬ oDn k o p i i from ⟨c.symm, hno⟩), if_neg (show ¬ (kL k i = t ∧ ¬ oDn k o p (i + 1) i) from fun g => g.2 hyes)] at this
    unfold oW
    omega
  · rw [if_neg c]
    exact oW_eq fun j hj hl => oth j fun e => c (by rw [← hl, e])
theorem oW_zero {k : Bk} {o : Nat → Nat} {p i t : Nat} (h : oW k o p i t = 0) {j : Nat} (hj : j < kM k) (hl : kL k j = t) : oDn k o p i j := Classical.byContradiction fun c => by
  have := zsum_pos (f := fun j => @ite Int (kL k j = t ∧ ¬ oDn k o p i j) (Classical.propDecidable _) 1 0) (n := kM k) (i := j) (fun j _ => by
    by_cases d : kL k j = t ∧ ¬ oDn k o p i j
    · simp only [if_pos d]
      decide
    · simp only [if_neg d]
      decide) hj (by
    simp only [if_pos (show kL k j = t ∧ ¬ oDn k o p i j from ⟨hl, c⟩)]
    decide)
  unfold oW at h
  omega
theorem oW_nz {k : Bk} {o : Nat → Nat} {p i t : Nat} (h : oW k o p i t ≠ 0) : ∃ j, j < kM k ∧ kL k j = t ∧ ¬ oDn k o p i j := by
  obtain ⟨j, hj, h1⟩ := zsum_zero (f := fun j => @ite Int (kL k j = t ∧ ¬ oDn k o p i j) (Classical.propDecidable _) 1 0) (n := kM k) (fun j _ => by
    by_cases d : kL k j = t ∧ ¬ oDn k o p i j
    · simp only [if_pos d]
      decide
    · simp only [if_neg d]
      decide) h
  by_cases d : kL k j = t ∧ ¬ oDn k o p i j
  · exact ⟨j, hj, d⟩
  · simp only [if_neg d] at h1
    exact absurd rfl h1
/-- the tasks in an order in which none is ahead of one that it needs -/
def oInv (k : Bk) (o : Nat → Nat) (p i put : Nat) : Prop := put ≤ kN k ∧ (∀ q, q < put → o q < kN k) ∧ (∀ q q', q < put → q' < put → o q = o q' → q = q') ∧ (∀ t, t < kN k → (oW k o p i t = 0 ↔ ∃ q, q < put ∧ o q = t)) ∧ ∀ q, q < put → ∀ j, j < kM k → kL k j = o q → ∃ q', q' < q ∧ o q' = kE k j
def kOrd (k : Bk) (o : Nat → Nat) (pos : Nat → Nat) : Prop := (∀ p, p < kN k → o p < kN k ∧ pos (o p) = p) ∧ (∀ t, t < kN k → pos t < kN k ∧ o (pos t) = t) ∧ ∀ j, j < kM k → pos (kE k j) < pos (kL k j)
theorem oInv_end {k : Bk} (ho : kOk k) {o : Nat → Nat} {put : Nat} (h : oInv k o put 0 put) : put = kN k ∧ ∃ pos, kOrd k o pos := by
  obtain ⟨h1, h2, h3, h4, h5⟩ := h
  obtain ⟨r, hr⟩ := ho.2.2.2.2
  have all : ∀ (b t : Nat), r t ≤ b → t < kN k → ∃ q, q < put ∧ o q = t := by
    intro b
    induction b with
    | zero =>
      intro t hb ht
      refine (h4 t ht).mp (Classical.byContradiction fun c => ?_)
      obtain ⟨j, hj, hl, _⟩ := oW_nz c
      have := hr j hj
      rw [hl] at this
      omega
    | succ b ih =>
      intro t hb ht
      refine (h4 t ht).mp (Classical.byContradiction fun c => ?_)
      obtain ⟨j, hj, hl, hd⟩ := oW_nz c
      have h9 := hr j hj
      rw [hl] at h9
      exact hd (Or.inl (ih (kE k j) (by omega) (ho.e hj)))
  have hc : ∀ t, ∃ q, t < kN k → q < put ∧ o q = t := fun t => by
    by_cases c : t < kN k
    · obtain ⟨q, hq⟩ := all (r t) t (Nat.le_refl _) c
      exact ⟨q, fun _ => hq⟩
    · exact ⟨0, fun g => absurd g c⟩
  obtain ⟨pos, hp⟩ := Classical.axiomOfChoice hc
  have hput : kN k ≤ put := pig (f := pos) (fun t ht => (hp t ht).1) fun t t' ht ht' e => by
    rw [← (hp t ht).2, e, (hp t' ht').2]
  have e : put = kN k := by omega
  refine ⟨e, pos, fun p hpp => ?_, fun t ht => ?_, fun j hj => ?_⟩
  · have h6 := hp (o p) (h2 p (by omega))
    exact ⟨h2 p (by omega), h3 _ _ h6.1 (by omega) h6.2⟩
  · have h6 := hp t ht
    exact ⟨by omega, h6.2⟩
  · have hl := hp _ (ho.l hj)
    obtain ⟨q', hq', e'⟩ := h5 _ hl.1 j hj hl.2.symm
    have he := hp _ (ho.e hj)
    have := h3 _ _ he.1 (by omega) (he.2.trans e'.symm)
    omega
theorem oW_00 (k : Bk) (o : Nat → Nat) (t : Nat) : oW k o 0 0 t = zsum (fun j => if kL k j = t then 1 else 0) (kM k) := zsum_eq fun j hj => by
  have hd : ¬ oDn k o 0 0 j := fun g => by
    rcases g with ⟨q, h1, _⟩ | ⟨h1, _⟩ <;> omega
  by_cases c : kL k j = t
  · rw [if_pos ⟨c, hd⟩, if_pos c]
  · rw [if_neg (fun g => c g.1), if_neg c]
theorem s_orderTasks {G : Gx} {Z : Zm} {n b : Nat} {k : Bk} (hn : atNet Z n) (hb : atBook Z b) (hk : cB Z b k) (ho : kOk k) (h1 : zI Z n 1 = (kN k : Int)) (h2 : zI Z n 2 = (kM k : Int)) (hd : n + 11 ≤ b ∨ b + 19 ≤ n) : ZM G 1 m_X7_orderTasks [.ref n, .ref b] Z (fun r Z' => r = .inl none ∧ zF (zB (n + 1) (n + 3)) 0 0 Z Z' ∧ ∃ o pos, kOrd k o pos ∧ ∀ p, p < kN k → zI Z' (n + 1) p = (o p : Int)) := by
  have hN := ho.n
  have hM := ho.m
  have hcb : ∀ W, zF (zB (n + 1) (n + 3)) 0 0 Z W → cB W b k := fun W f => hk.frame hb f fun a h1 h2 => by unfold zB; omega
  have hw1 : ∀ W, zF (zB (n + 1) (n + 3)) 0 0 Z W → zI W n 1 = (kN k : Int) := fun W f => by rw [f.i hn.o.1 (by unfold zB; omega)]; exact h1
  have hw2 : ∀ W, zF (zB (n + 1) (n + 3)) 0 0 Z W → zI W n 2 = (kM k : Int) := fun W f => by rw [f.i hn.o.1 (by unfold zB; omega)]; exact h2
  have fI : ∀ (W : Zm) (f : Nat → Int), zF (zB (n + 1) (n + 3)) 0 0 Z W → zF (zB (n + 1) (n + 3)) 0 0 Z (zSI W (n + 2) f) := fun W f g => g.trans (zF_I ⟨by omega, by omega⟩)
  have fO : ∀ (W : Zm) (f : Nat → Int), zF (zB (n + 1) (n + 3)) 0 0 Z W → zF (zB (n + 1) (n + 3)) 0 0 Z (zSI W (n + 1) f) := fun W f g => g.trans (zF_I ⟨by omega, by omega⟩)
  refine e_X7_orderTasks hn hb ?_
  rintro _ rfl
  -- the third loop
  have L3 : ∀ (m p put : Nat) (W : Zm) (o : Nat → Nat) (o4 o5 : Option Value), p + m = kN k → p ≤ put → zF (zB (n + 1) (n + 3)) 0 0 Z W → oInv k o p 0 put → (∀ q, q < put → zI W (n + 1) q = (o q : Int)) → (∀ t, t < kN k → zI W (n + 2) t = oW k o p 0 t) → ZP G 1 m_X7_orderTasks 80 [some (.ref n), some (.ref b), some (iv (put : Int)), some (iv (p : Int)), o4, o5] [] W (fun r Z' => r = .inl none ∧ zF (zB (n + 1) (n + 3)) 0 0 Z Z' ∧ ∃ o pos, kOrd k o pos ∧ ∀ p, p < kN k → zI Z' (n + 1) p = (o p : Int)) := by
    intro m
    induction m with
    | zero =>
      intro p put W o o4 o5 hp hpp f inv wo ww
      have := inv.1
      refine b_X7_orderTasks_80 (hn.ext f.1) (hb.ext f.1) ⟨by omega, by rw [hw1 W f]; omega, ?_⟩
      rw [hw1 W f, if_pos (by omega)]
      have ep : p = put := by omega
      subst ep
      obtain ⟨e, pos, hpos⟩ := oInv_end ho inv
      exact ⟨rfl, f, o, pos, hpos, fun q hq => wo q (by omega)⟩
    | succ m ih =>
      intro p put W o o4 o5 hp hpp f inv wo ww
      have hput := inv.1
      refine b_X7_orderTasks_80 (hn.ext f.1) (hb.ext f.1) ⟨by omega, by rw [hw1 W f]; omega, ?_⟩
      rw [hw1 W f, if_neg (by omega)]
      refine ⟨by omega, ?_⟩
      by_cases hlt : put ≤ p
      · rw [if_pos (by omega)]
        have ep : p = put := by omega
        subst ep
        obtain ⟨e, pos, hpos⟩ := oInv_end ho inv
        omega
      · rw [if_neg (by omega)]
        suffices inner : ∀ (g i put : Nat) (W : Zm) (o : Nat → Nat) (o5 : Option Value), i + g = kM k → p < put → zF (zB (n + 1) (n + 3)) 0 0 Z W → oInv k o p i put → (∀ q, q < put → zI W (n + 1) q = (o q : Int)) → (∀ t, t < kN k → zI W (n + 2) t = oW k o p i t) → ZP G 1 m_X7_orderTasks 96 [some (.ref n), some (.ref b), some (iv (put : Int)), some (iv (p : Int)), some (iv (i : Int)), o5] [] W (fun r Z' => r = .inl none ∧ zF (zB (n + 1) (n + 3)) 0 0 Z Z' ∧ ∃ o pos, kOrd k o pos ∧ ∀ p, p < kN k → zI Z' (n + 1) p = (o p : Int)) from inner (kM k) 0 put W o o5 (by omega) (by omega) f inv wo ww
        intro g
        induction g with
        | zero =>
          intro i put W o o5 hi hpp f inv wo ww
          have ei : i = kM k := by omega
          subst ei
          have e : ∀ t, oW k o p (kM k) t = oW k o (p + 1) 0 t := fun t => oW_eq fun j hj _ => ⟨fun z => by
            rcases z with ⟨q, z1, z2⟩ | ⟨z1, z2⟩
            · exact Or.inl ⟨q, by omega, z2⟩
            · exact Or.inl ⟨p, by omega, z2⟩, fun z => by
            rcases z with ⟨q, z1, z2⟩ | ⟨z1, z2⟩
            · by_cases c : q = p
              · rw [c] at z2
                exact Or.inr ⟨hj, z2⟩
              · exact Or.inl ⟨q, by omega, z2⟩
            · omega⟩
          refine b_X7_orderTasks_96 (hn.ext f.1) (hb.ext f.1) ⟨by omega, by rw [hw2 W f]; omega, ?_⟩
          rw [hw2 W f, if_pos (by omega)]
          refine ih (p + 1) put W o _ _ (by omega) (by omega) f ⟨inv.1, inv.2.1, inv.2.2.1, fun t ht => by rw [← e]; exact inv.2.2.2.1 t ht, inv.2.2.2.2⟩ wo fun t ht => by rw [← e]; exact ww t ht
        | succ g ihg =>
          intro i put W o o5 hi hpp f inv wo ww
          have hik : i < kM k := by omega
          obtain ⟨e1, e2, e3⟩ := (hcb W f).2.2.2 i hik
          have he := ho.e hik
          have hl := ho.l hik
          obtain ⟨i1, i2, i3, i4, i5⟩ := inv
          have hop := i2 p hpp
          have hw := oW_r k o p i (kL k i)
          refine b_X7_orderTasks_96 (hn.ext f.1) (hb.ext f.1) ⟨by omega, by rw [hw2 W f]; omega, ?_⟩
          rw [hw2 W f, if_neg (by omega), Int.toNat_natCast, Int.toNat_natCast, e1, e2, Int.toNat_natCast, wo p hpp]
          refine ⟨zIx_nat (by omega) (by omega), zIx_nat (by omega) (by omega), by omega, by omega, ?_⟩
          by_cases c : (kE k i : Int) = (o p : Int)
          · rw [if_pos c]
            have ce : o p = kE k i := by omega
            have stp := oW_step hik ce (fun q hq ec => by have := i3 q p (by omega) hpp ec; omega)
            have hnd : ¬ oDn k o p i i := fun z => by
              rcases z with ⟨q, z1, z2⟩ | ⟨z1, z2⟩
              · have := i3 q p (by omega) hpp (z2.trans ce.symm)
                omega
              · omega
            have hwn : oW k o p i (kL k i) ≠ 0 := fun z => hnd (oW_zero z hik rfl)
            refine ⟨zIx_nat (by omega) (by omega), ?_⟩
            rintro _ rfl
            rw [zI_same, zu_same, ww _ hl, hw1 _ (fI W _ f)]
            refine ⟨by omega, ?_⟩
            have row : ∀ t, t < kN k → zu (zI W (n + 2)) (kL k i) (oW k o p i (kL k i) - 1) t = oW k o p (i + 1) t := fun t ht => by
              rw [stp t]
              unfold zu
              by_cases d : t = kL k i
              · rw [if_pos d, if_pos d, d]
              · rw [if_neg d, if_neg d]
                exact ww t ht
            by_cases c0 : oW k o p i (kL k i) - 1 = 0
            · rw [if_pos c0]
              have hnew : ∀ q, q < put → o q ≠ kL k i := fun q hq eq => hwn ((i4 _ hl).mpr ⟨q, hq, eq⟩)
              have hput := pig_miss i2 i3 hl hnew
              refine ⟨by omega, by omega, ?_⟩
              rw [if_neg (by omega)]
              refine ⟨zIx_nat (by omega) (by omega), ?_⟩
              rintro _ rfl
              have hz : ∀ q, q < put → zu o put (kL k i) q = o q := fun q hq => zu_other (by omega)
              have od : ∀ j, oDn k (zu o put (kL k i)) p (i + 1) j ↔ oDn k o p (i + 1) j := fun j => by
                unfold oDn
                rw [hz p hpp]
                exact ⟨fun z => by
                  rcases z with ⟨q, z1, z2⟩ | z
                  · rw [hz q (by omega)] at z2
                    exact Or.inl ⟨q, z1, z2⟩
                  · exact Or.inr z, fun z => by
                  rcases z with ⟨q, z1, z2⟩ | z
                  · exact Or.inl ⟨q, z1, by rw [hz q (by omega)]; exact z2⟩
                  · exact Or.inr z⟩
              have ow : ∀ t, oW k (zu o put (kL k i)) p (i + 1) t = oW k o p (i + 1) t := fun t => oW_eq fun j _ _ => od j
              rw [Int.toNat_natCast]
              refine ihg (i + 1) (put + 1) _ (zu o put (kL k i)) _ (by omega) (by omega) (fO _ _ (fI W _ f)) ⟨by omega, fun q hq => ?_, fun q q' hq hq' eq => ?_, fun t ht => ?_, fun q hq j hj hlj => ?_⟩ (fun q hq => ?_) fun t ht => ?_
              · by_cases d : q = put
                · rw [d, zu_same]
                  exact hl
                · rw [hz q (by omega)]
                  exact i2 q (by omega)
              · by_cases d : q = put
                · by_cases d' : q' = put
                  · omega
                  · rw [d, zu_same, hz q' (by omega)] at eq
                    exact absurd eq.symm (hnew q' (by omega))
                · by_cases d' : q' = put
                  · rw [d', zu_same, hz q (by omega)] at eq
                    exact absurd eq (hnew q (by omega))
                  · rw [hz q (by omega), hz q' (by omega)] at eq
                    exact i3 q q' (by omega) (by omega) eq
              · rw [ow t, stp t]
                by_cases d : t = kL k i
                · rw [if_pos d, d]
                  exact ⟨fun _ => ⟨put, by omega, zu_same _ _ _⟩, fun _ => c0⟩
                · rw [if_neg d, i4 t ht]
                  exact ⟨fun ⟨q, z1, z2⟩ => ⟨q, by omega, by rw [hz q z1]; exact z2⟩, fun ⟨q, z1, z2⟩ => by
                    by_cases e9 : q = put
                    · rw [e9, zu_same] at z2
                      exact absurd z2.symm d
                    · exact ⟨q, by omega, by rw [hz q (by omega)] at z2; exact z2⟩⟩
              · by_cases d : q = put
                · rw [d, zu_same] at hlj
                  have h0 : oW k o p (i + 1) (kL k i) = 0 := by rw [stp, if_pos rfl]; exact c0
                  have := oW_zero h0 hj hlj
                  rcases this with ⟨q', z1, z2⟩ | ⟨z1, z2⟩
                  · exact ⟨q', by omega, by rw [hz q' (by omega)]; exact z2⟩
                  · exact ⟨p, by omega, by rw [hz p hpp]; exact z2⟩
                · rw [hz q (by omega)] at hlj
                  obtain ⟨q', z1, z2⟩ := i5 q (by omega) j hj hlj
                  exact ⟨q', z1, by rw [hz q' (by omega)]; exact z2⟩
              · rw [zI_same, zI_other (by omega)]
                unfold zu
                by_cases d : q = put
                · rw [if_pos d, if_pos d]
                · rw [if_neg d, if_neg d]
                  exact wo q (by omega)
              · rw [ow t, zI_other (by omega), zI_same]
                exact row t ht
            · rw [if_neg c0]
              refine ihg (i + 1) put _ o _ (by omega) hpp (fI W _ f) ⟨i1, i2, i3, fun t ht => ?_, i5⟩ (fun q hq => by rw [zI_other (by omega)]; exact wo q hq) fun t ht => by rw [zI_same]; exact row t ht
              rw [stp t]
              by_cases d : t = kL k i
              · rw [if_pos d, d]
                exact ⟨fun z => absurd z c0, fun z => absurd ((i4 _ hl).mpr z) hwn⟩
              · rw [if_neg d]
                exact i4 t ht
          · rw [if_neg c]
            have od : ∀ j, j < kM k → (oDn k o p (i + 1) j ↔ oDn k o p i j) := fun j hj => ⟨fun z => by
              rcases z with z | ⟨z1, z2⟩
              · exact Or.inl z
              · by_cases d : j = i
                · rw [d] at z2
                  exact absurd (by omega) c
                · exact Or.inr ⟨by omega, z2⟩, fun z => by
              rcases z with z | ⟨z1, z2⟩
              · exact Or.inl z
              · exact Or.inr ⟨by omega, z2⟩⟩
            have ow : ∀ t, oW k o p (i + 1) t = oW k o p i t := fun t => oW_eq fun j hj _ => od j hj
            exact ihg (i + 1) put W o _ (by omega) hpp f ⟨i1, i2, i3, fun t ht => by rw [ow t]; exact i4 t ht, i5⟩ wo fun t ht => by rw [ow t]; exact ww t ht
  -- the second loop
  have L2 : ∀ (m s put : Nat) (W : Zm) (o : Nat → Nat) (o4 o5 : Option Value), s + m = kN k → put ≤ s → zF (zB (n + 1) (n + 3)) 0 0 Z W → (∀ q, q < put → o q < s) → (∀ q q', q < put → q' < put → o q = o q' → q = q') → (∀ t, t < s → (oW k o 0 0 t = 0 ↔ ∃ q, q < put ∧ o q = t)) → (∀ q, q < put → zI W (n + 1) q = (o q : Int)) → (∀ t, t < kN k → zI W (n + 2) t = oW k o 0 0 t) → ZP G 1 m_X7_orderTasks 45 [some (.ref n), some (.ref b), some (iv (put : Int)), some (iv (s : Int)), o4, o5] [] W (fun r Z' => r = .inl none ∧ zF (zB (n + 1) (n + 3)) 0 0 Z Z' ∧ ∃ o pos, kOrd k o pos ∧ ∀ p, p < kN k → zI Z' (n + 1) p = (o p : Int)) := by
    intro m
    induction m with
    | zero =>
      intro s put W o o4 o5 hs hp f i2 i3 i4 wo ww
      refine b_X7_orderTasks_45 (hn.ext f.1) (hb.ext f.1) ⟨by omega, by rw [hw1 W f]; omega, ?_⟩
      rw [hw1 W f, if_pos (by omega)]
      have es : s = kN k := by omega
      subst es
      refine L3 (kN k) 0 put W o o4 o5 (by omega) (by omega) f ⟨hp, i2, i3, i4, fun q hq j hj hlj => ?_⟩ wo ww
      have h0 := (i4 _ (i2 q hq)).mpr ⟨q, hq, rfl⟩
      rcases oW_zero h0 hj hlj with ⟨q', z1, z2⟩ | ⟨z1, z2⟩ <;> omega
    | succ m ih =>
      intro s put W o o4 o5 hs hp f i2 i3 i4 wo ww
      have hw := oW_r k o 0 0 s
      have hsN : s < kN k := by omega
      refine b_X7_orderTasks_45 (hn.ext f.1) (hb.ext f.1) ⟨by omega, by rw [hw1 W f]; omega, ?_⟩
      rw [hw1 W f, if_neg (by omega), Int.toNat_natCast, Int.toNat_natCast, ww s hsN]
      refine ⟨zIx_nat (by omega) (by omega), by omega, ?_⟩
      by_cases c : oW k o 0 0 s = 0
      · rw [if_pos c]
        refine ⟨zIx_nat (by omega) (by omega), ?_⟩
        rintro _ rfl
        have ow : ∀ t, oW k (zu o put s) 0 0 t = oW k o 0 0 t := fun t => by rw [oW_00, oW_00]
        have hz : ∀ q, q < put → zu o put s q = o q := fun q hq => zu_other (by omega)
        refine ih (s + 1) (put + 1) _ (zu o put s) _ _ (by omega) (by omega) (fO W _ f) (fun q hq => ?_) (fun q q' hq hq' e => ?_) (fun t ht => ?_) (fun q hq => ?_) fun t ht => ?_
        · by_cases d : q = put
          · rw [d, zu_same]
            omega
          · rw [hz q (by omega)]
            have := i2 q (by omega)
            omega
        · by_cases d : q = put
          · by_cases d' : q' = put
            · omega
            · rw [d, zu_same, hz q' (by omega)] at e
              have := i2 q' (by omega)
              omega
          · by_cases d' : q' = put
            · rw [d', zu_same, hz q (by omega)] at e
              have := i2 q (by omega)
              omega
            · rw [hz q (by omega), hz q' (by omega)] at e
              exact i3 q q' (by omega) (by omega) e
        · rw [ow]
          by_cases d : t = s
          · rw [d]
            exact ⟨fun _ => ⟨put, by omega, zu_same _ _ _⟩, fun _ => c⟩
          · rw [i4 t (by omega)]
            exact ⟨fun ⟨q, z1, z2⟩ => ⟨q, by omega, by rw [hz q z1]; exact z2⟩, fun ⟨q, z1, z2⟩ => by
              by_cases e9 : q = put
              · rw [e9, zu_same] at z2
                exact absurd z2.symm d
              · exact ⟨q, by omega, by rw [hz q (by omega)] at z2; exact z2⟩⟩
        · rw [zI_same]
          unfold zu
          by_cases d : q = put
          · rw [if_pos d, if_pos d]
          · rw [if_neg d, if_neg d]
            exact wo q (by omega)
        · rw [ow, zI_other (by omega)]
          exact ww t ht
      · rw [if_neg c]
        refine ih (s + 1) put W o _ _ (by omega) (by omega) f (fun q hq => by have := i2 q hq; omega) i3 (fun t ht => ?_) wo ww
        by_cases d : t = s
        · rw [d]
          exact ⟨fun z => absurd z c, fun ⟨q, z1, z2⟩ => by
            have := i2 q z1
            omega⟩
        · exact i4 t (by omega)
  -- the first loop
  suffices L1 : ∀ (m j : Nat) (W : Zm) (o3 o4 o5 : Option Value), j + m = kM k → zF (zB (n + 1) (n + 3)) 0 0 Z W → (∀ t, t < kN k → zI W (n + 2) t = zsum (fun i => if kL k i = t then 1 else 0) j) → ZP G 1 m_X7_orderTasks 10 [some (.ref n), some (.ref b), some (iv (j : Int)), o3, o4, o5] [] W (fun r Z' => r = .inl none ∧ zF (zB (n + 1) (n + 3)) 0 0 Z Z' ∧ ∃ o pos, kOrd k o pos ∧ ∀ p, p < kN k → zI Z' (n + 1) p = (o p : Int)) from L1 (kM k) 0 _ _ _ _ (by omega) (fI Z _ zF.refl) fun t ht => by
    rw [zI_same]
    exact if_pos (by omega)
  intro m
  induction m with
  | zero =>
    intro j W o3 o4 o5 hj f w
    refine b_X7_orderTasks_10 (hn.ext f.1) (hb.ext f.1) ⟨by omega, by rw [hw2 W f]; omega, ?_⟩
    rw [hw2 W f, if_pos (by omega)]
    exact L2 (kN k) 0 0 W (fun _ => 0) _ _ (by omega) (by omega) f (fun q hq => by omega) (fun q q' hq => by omega) (fun t ht => by omega) (fun q hq => by omega) fun t ht => by rw [w t ht, oW_00, show j = kM k by omega]
  | succ m ih =>
    intro j W o3 o4 o5 hj f w
    have hjk : j < kM k := by omega
    obtain ⟨e1, e2, e3⟩ := (hcb W f).2.2.2 j hjk
    have hl := ho.l hjk
    refine b_X7_orderTasks_10 (hn.ext f.1) (hb.ext f.1) ⟨by omega, by rw [hw2 W f]; omega, ?_⟩
    rw [hw2 W f, if_neg (by omega), Int.toNat_natCast, e2, Int.toNat_natCast]
    refine ⟨zIx_nat (by omega) (by omega), zIx_nat (by omega) (by omega), ?_⟩
    rintro _ rfl
    refine ih (j + 1) _ _ _ _ (by omega) (fI W _ f) fun t ht => ?_
    rw [zI_same, zsum_s]
    by_cases d : t = kL k j
    · rw [d, zu_same, if_pos rfl, w _ hl]
    · rw [zu_other d, if_neg (fun e => d e.symm), w t ht]
      omega
