set_option maxRecDepth 20000 in
theorem e_X12_peakOf {G : Gx} {Q : Rv → Zm → Prop} {Z : Zm} {m : Nat} {B : Nat} {v : Nat} {u : Nat} (hm : atModel Z m B) (hv : zA Z v 100 20) (hu : zA Z u 100 20) (h : (ZP G 1 m_X12_peakOf 5 [some (.ref m), some (.ref v), some (.ref u), some (iv 0), some (iv 0), none, none] [] Z Q)) : ZM G 1 m_X12_peakOf [.ref m, .ref v, .ref u] Z Q := ZM.of [some (.ref m), some (.ref v), some (.ref u), none, none, none, none] rfl <| z_iconst (pc' := 1) (n := 0) (by decide +kernel) rfl <| z_istore_n (pc' := 2) (j := 3) (ls' := [some (.ref m), some (.ref v), some (.ref u), some (iv 0), none, none, none]) (by decide +kernel) (by decide) rfl rfl <| z_iconst (pc' := 3) (n := 0) (by decide +kernel) rfl <| z_istore (pc' := 5) (j := 4) (ls' := [some (.ref m), some (.ref v), some (.ref u), some (iv 0), some (iv 0), none, none]) (by decide +kernel) (by decide) rfl rfl <| h
set_option maxRecDepth 20000 in
theorem b_X12_peakOf_5 {G : Gx} {Q : Rv → Zm → Prop} {Z : Zm} {m : Nat} {B : Nat} {v : Nat} {u : Nat} {v3 : Int} {v4 : Int} (hm : atModel Z m B) (hv : zA Z v 100 20) (hu : zA Z u 100 20) (h : ((R32 v4) ∧ (R32 (zI Z B 0)) ∧ (if (zI Z B 0) ≤ v4 then (Q (.inl (some (iv v3))) Z) else (ZP G 1 m_X12_peakOf 20 [some (.ref m), some (.ref v), some (.ref u), some (iv v3), some (iv v4), some (iv 0), some (iv 0)] [] Z Q)))) : ZP G 1 m_X12_peakOf 5 [some (.ref m), some (.ref v), some (.ref u), some (iv v3), some (iv v4), none, none] [] Z Q := z_iload (pc' := 7) (j := 4) (by decide +kernel) rfl rfl <| z_aload_n (pc' := 8) (j := 0) (by decide +kernel) rfl rfl <| z_callV (pc' := 11) (idx := 64) (mj := m_X12_many) (av := []) (d' := 0) (by decide +kernel) rfl k_X12_many l_RX12_64 rfl (by omega) (am_le rfl) rfl (am_le rfl) hm.o.1 hm.o.2 rfl <| zKf (s_many hm) <| h.elim fun c1 h => h.elim fun c2 h => z_icmp_ge (pc' := 14) (tgt := 85) (off := 74) (by decide +kernel) (by decide) rfl c1 c2 (am_ite h (fun h => z_iload_n (pc' := 86) (j := 3) (by decide +kernel) rfl rfl <| z_ireturn (by decide +kernel) ⟨_, rfl, rfl⟩ h) (fun h => z_iconst (pc' := 15) (n := 0) (by decide +kernel) rfl <| z_istore (pc' := 17) (j := 5) (ls' := [some (.ref m), some (.ref v), some (.ref u), some (iv v3), some (iv v4), some (iv 0), none]) (by decide +kernel) (by decide) rfl rfl <| z_iconst (pc' := 18) (n := 0) (by decide +kernel) rfl <| z_istore (pc' := 20) (j := 6) (ls' := [some (.ref m), some (.ref v), some (.ref u), some (iv v3), some (iv v4), some (iv 0), some (iv 0)]) (by decide +kernel) (by decide) rfl rfl <| h))
set_option maxRecDepth 20000 in
theorem b_X12_peakOf_20 {G : Gx} {Q : Rv → Zm → Prop} {Z : Zm} {m : Nat} {B : Nat} {v : Nat} {u : Nat} {v3 : Int} {v4 : Int} {v5 : Int} {v6 : Int} (hm : atModel Z m B) (hv : zA Z v 100 20) (hu : zA Z u 100 20) (h : ((R32 v6) ∧ (R32 (zI Z B 0)) ∧ (if (zI Z B 0) ≤ v6 then ((R32 v3) ∧ (R32 v5) ∧ ZP G 1 m_X12_peakOf 5 [some (.ref m), some (.ref v), some (.ref u), some (iv (max v3 v5)), some (iv (v4 + 1)), none, none] [] Z Q) else ((zIx v6 20) ∧ (zIx v4 20) ∧ (R32 (zI Z v v6.toNat)) ∧ (R32 (zI Z v v4.toNat)) ∧ (¬ ((zI Z v v4.toNat) < (zI Z v v6.toNat)) → (R32 ((zI Z v v6.toNat) + (zI Z u v6.toNat))) ∧ True) ∧ ZP G 1 m_X12_peakOf 20 [some (.ref m), some (.ref v), some (.ref u), some (iv v3), some (iv v4), some (iv (v5 + (b2 (¬ ((zI Z v v4.toNat) < (zI Z v v6.toNat)) ∧ (¬ (((zI Z v v6.toNat) + (zI Z u v6.toNat)) ≤ (zI Z v v4.toNat))))))), some (iv (v6 + 1))] [] Z Q)))) : ZP G 1 m_X12_peakOf 20 [some (.ref m), some (.ref v), some (.ref u), some (iv v3), some (iv v4), some (iv v5), some (iv v6)] [] Z Q := z_iload (pc' := 22) (j := 6) (by decide +kernel) rfl rfl <| z_aload_n (pc' := 23) (j := 0) (by decide +kernel) rfl rfl <| z_callV (pc' := 26) (idx := 64) (mj := m_X12_many) (av := []) (d' := 0) (by decide +kernel) rfl k_X12_many l_RX12_64 rfl (by omega) (am_le rfl) rfl (am_le rfl) hm.o.1 hm.o.2 rfl <| zKf (s_many hm) <| h.elim fun c1 h => h.elim fun c2 h => z_icmp_ge (pc' := 29) (tgt := 72) (off := 46) (by decide +kernel) (by decide) rfl c1 c2 (am_ite h (fun h => z_iload_n (pc' := 73) (j := 3) (by decide +kernel) rfl rfl <| z_iload (pc' := 75) (j := 5) (by decide +kernel) rfl rfl <| h.elim fun c16 h => h.elim fun c17 h => z_max (pc' := 78) (idx := 107) (by decide +kernel) (amM9 18 rfl (by decide +kernel)) (amM3 108 rfl (by decide +kernel)) (amM1 21 rfl (by decide +kernel)) (amM3 109 rfl (by decide +kernel)) (by omega) (am_le rfl) c16 c17 rfl <| z_istore_n (pc' := 79) (j := 3) (ls' := [some (.ref m), some (.ref v), some (.ref u), some (iv (max v3 v5)), some (iv v4), some (iv v5), some (iv v6)]) (by decide +kernel) (by decide) rfl rfl <| z_iinc (pc' := 82) (j := 4) (n := 1) (x := v4) (ls' := [some (.ref m), some (.ref v), some (.ref u), some (iv (max v3 v5)), some (iv (v4 + 1)), some (iv v5), some (iv v6)]) (by decide +kernel) rfl (by decide) rfl rfl <| z_goto (tgt := 5) (off := -77) (by decide +kernel) (by decide) <| (ZP.wk (wk_some (wk_some (wk_some (wk_some (wk_some (wk_none (wk_none wk_nil))))))) h)) (fun h => z_iload (pc' := 31) (j := 5) (by decide +kernel) rfl rfl <| z_aload_n (pc' := 32) (j := 1) (by decide +kernel) rfl rfl <| z_iload (pc' := 34) (j := 6) (by decide +kernel) rfl rfl <| h.elim fun c18 h => z_iaload (pc' := 35) (by decide +kernel) hv c18 rfl <| z_aload_n (pc' := 36) (j := 1) (by decide +kernel) rfl rfl <| z_iload (pc' := 38) (j := 4) (by decide +kernel) rfl rfl <| h.elim fun c19 h => z_iaload (pc' := 39) (by decide +kernel) hv c19 rfl <| h.elim fun c20 h => h.elim fun c21 h => h.elim fun g28 h => am_use (fun k29 => z_icmp_gt (pc' := 42) (tgt := 62) (off := 23) (by decide +kernel) (by decide) rfl c20 c21 (am_ite2 (fun q30 => z_iconst (pc' := 63) (n := 0) (by decide +kernel) rfl <| (am_jp (P := fun z9 => ZP G 1 m_X12_peakOf 63 [some (.ref m), some (.ref v), some (.ref u), some (iv v3), some (iv v4), some (iv v5), some (iv v6)] [iv z9, iv v5] _ Q) (b2_a1 q30) k29)) (fun q30 => have h := g28 q30; z_aload_n (pc' := 43) (j := 1) (by decide +kernel) rfl rfl <| z_iload (pc' := 45) (j := 4) (by decide +kernel) rfl rfl <| z_iaload (pc' := 46) (by decide +kernel) hv c19 rfl <| z_aload_n (pc' := 47) (j := 1) (by decide +kernel) rfl rfl <| z_iload (pc' := 49) (j := 6) (by decide +kernel) rfl rfl <| z_iaload (pc' := 50) (by decide +kernel) hv c18 rfl <| z_aload_n (pc' := 51) (j := 2) (by decide +kernel) rfl rfl <| z_iload (pc' := 53) (j := 6) (by decide +kernel) rfl rfl <| z_iaload (pc' := 54) (by decide +kernel) hu c18 rfl <| z_iadd (pc' := 55) (by decide +kernel) rfl <| h.elim fun c22 h => am_use (fun k25 => z_icmp_ge (pc' := 58) (tgt := 62) (off := 7) (by decide +kernel) (by decide) rfl c21 c22 (am_ite2 (fun q26 => z_iconst (pc' := 63) (n := 0) (by decide +kernel) rfl <| (am_jp (P := fun z9 => ZP G 1 m_X12_peakOf 63 [some (.ref m), some (.ref v), some (.ref u), some (iv v3), some (iv v4), some (iv v5), some (iv v6)] [iv z9, iv v5] _ Q) (b2_n q26) k25)) (fun q26 => z_iconst (pc' := 59) (n := 1) (by decide +kernel) rfl <| z_goto (tgt := 63) (off := 4) (by decide +kernel) (by decide) <| (am_jp (P := fun z9 => ZP G 1 m_X12_peakOf 63 [some (.ref m), some (.ref v), some (.ref u), some (iv v3), some (iv v4), some (iv v5), some (iv v6)] [iv z9, iv v5] _ Q) (b2_nn q26) k25)))) <| (am_jp (P := fun z9 => ZP G 1 m_X12_peakOf 63 [some (.ref m), some (.ref v), some (.ref u), some (iv v3), some (iv v4), some (iv v5), some (iv v6)] [iv z9, iv v5] _ Q) (b2_a2 q30) k29)))) <| z_iadd (pc' := 64) (by decide +kernel) rfl <| z_istore (pc' := 66) (j := 5) (ls' := [some (.ref m), some (.ref v), some (.ref u), some (iv v3), some (iv v4), some (iv (v5 + (b2 (¬ ((zI Z v v4.toNat) < (zI Z v v6.toNat)) ∧ (¬ (((zI Z v v6.toNat) + (zI Z u v6.toNat)) ≤ (zI Z v v4.toNat))))))), some (iv v6)]) (by decide +kernel) (by decide) rfl rfl <| z_iinc (pc' := 69) (j := 6) (n := 1) (x := v6) (ls' := [some (.ref m), some (.ref v), some (.ref u), some (iv v3), some (iv v4), some (iv (v5 + (b2 (¬ ((zI Z v v4.toNat) < (zI Z v v6.toNat)) ∧ (¬ (((zI Z v v6.toNat) + (zI Z u v6.toNat)) ≤ (zI Z v v4.toNat))))))), some (iv (v6 + 1))]) (by decide +kernel) rfl (by decide) rfl rfl <| z_goto (tgt := 20) (off := -49) (by decide +kernel) (by decide) <| h))
set_option maxRecDepth 20000 in
theorem e_X12_areLet {G : Gx} {Q : Rv → Zm → Prop} {Z : Zm} {m : Nat} {B : Nat} {v : Nat} {u : Nat} (hm : atModel Z m B) (hv : zA Z v 100 20) (hu : zA Z u 100 20) (h : (ZP G 1 m_X12_areLet 5 [some (.ref m), some (.ref v), some (.ref u), some (iv 1), some (iv 0)] [] Z Q)) : ZM G 1 m_X12_areLet [.ref m, .ref v, .ref u] Z Q := ZM.of [some (.ref m), some (.ref v), some (.ref u), none, none] rfl <| z_iconst (pc' := 1) (n := 1) (by decide +kernel) rfl <| z_istore_n (pc' := 2) (j := 3) (ls' := [some (.ref m), some (.ref v), some (.ref u), some (iv 1), none]) (by decide +kernel) (by decide) rfl rfl <| z_iconst (pc' := 3) (n := 0) (by decide +kernel) rfl <| z_istore (pc' := 5) (j := 4) (ls' := [some (.ref m), some (.ref v), some (.ref u), some (iv 1), some (iv 0)]) (by decide +kernel) (by decide) rfl rfl <| h
set_option maxRecDepth 20000 in
theorem b_X12_areLet_5 {G : Gx} {Q : Rv → Zm → Prop} {Z : Zm} {m : Nat} {B : Nat} {v : Nat} {u : Nat} {v3 : Int} {v4 : Int} (hm : atModel Z m B) (hv : zA Z v 100 20) (hu : zA Z u 100 20) (h : ((R32 v4) ∧ (R32 (zI Z B 1)) ∧ (if (zI Z B 1) ≤ v4 then ((v3 = 0 ∨ v3 = 1) ∧ Q (.inl (some (iv v3))) Z) else ((R32 v3) ∧ (if v3 = 0 then ((v3 = 0 ∨ v3 = 1) ∧ Q (.inl (some (iv v3))) Z) else ((zIx v4 50) ∧ (zIx (mQ Z B v4.toNat) 20) ∧ (zIx (mE Z B v4.toNat) 20) ∧ (R32 (zI Z v (mQ Z B v4.toNat).toNat)) ∧ (R32 (((zI Z v (mE Z B v4.toNat).toNat) + (zI Z u (mE Z B v4.toNat).toNat)) + (mK Z B v4.toNat))) ∧ ZP G 1 m_X12_areLet 5 [some (.ref m), some (.ref v), some (.ref u), some (iv (b2 (¬ ((zI Z v (mQ Z B v4.toNat).toNat) < (((zI Z v (mE Z B v4.toNat).toNat) + (zI Z u (mE Z B v4.toNat).toNat)) + (mK Z B v4.toNat)))))), some (iv (v4 + 1))] [] Z Q)))))) : ZP G 1 m_X12_areLet 5 [some (.ref m), some (.ref v), some (.ref u), some (iv v3), some (iv v4)] [] Z Q := z_iload (pc' := 7) (j := 4) (by decide +kernel) rfl rfl <| z_aload_n (pc' := 8) (j := 0) (by decide +kernel) rfl rfl <| z_callV (pc' := 11) (idx := 94) (mj := m_X12_needsMany) (av := []) (d' := 0) (by decide +kernel) rfl k_X12_needsMany l_RX12_94 rfl (by omega) (am_le rfl) rfl (am_le rfl) hm.o.1 hm.o.2 rfl <| zKf (s_needsMany hm) <| h.elim fun c1 h => h.elim fun c2 h => z_icmp_ge (pc' := 14) (tgt := 65) (off := 54) (by decide +kernel) (by decide) rfl c1 c2 (am_ite h (fun h => z_iload_n (pc' := 66) (j := 3) (by decide +kernel) rfl rfl <| h.elim fun c13 h => z_ireturn (by decide +kernel) (am_rb c13) h) (fun h => z_iload_n (pc' := 15) (j := 3) (by decide +kernel) rfl rfl <| h.elim fun c14 h => z_if_eq (pc' := 18) (tgt := 65) (off := 50) (by decide +kernel) (by decide) rfl c14 (am_ite h (fun h => z_iload_n (pc' := 66) (j := 3) (by decide +kernel) rfl rfl <| h.elim fun c24 h => z_ireturn (by decide +kernel) (am_rb c24) h) (fun h => z_aload_n (pc' := 19) (j := 1) (by decide +kernel) rfl rfl <| z_aload_n (pc' := 20) (j := 0) (by decide +kernel) rfl rfl <| z_iload (pc' := 22) (j := 4) (by decide +kernel) rfl rfl <| h.elim fun c25 h => z_callV (pc' := 25) (idx := 104) (mj := m_X12_later) (av := [iv v4]) (d' := 0) (by decide +kernel) rfl k_X12_later l_RX12_104 rfl (by omega) (am_le rfl) rfl (am_le rfl) hm.o.1 hm.o.2 rfl <| zKf (s_later hm c25) <| h.elim fun c26 h => z_iaload (pc' := 26) (by decide +kernel) hv c26 rfl <| z_aload_n (pc' := 27) (j := 1) (by decide +kernel) rfl rfl <| z_aload_n (pc' := 28) (j := 0) (by decide +kernel) rfl rfl <| z_iload (pc' := 30) (j := 4) (by decide +kernel) rfl rfl <| z_callV (pc' := 33) (idx := 97) (mj := m_X12_earlier) (av := [iv v4]) (d' := 0) (by decide +kernel) rfl k_X12_earlier l_RX12_97 rfl (by omega) (am_le rfl) rfl (am_le rfl) hm.o.1 hm.o.2 rfl <| zKf (s_earlier hm c25) <| h.elim fun c27 h => z_iaload (pc' := 34) (by decide +kernel) hv c27 rfl <| z_aload_n (pc' := 35) (j := 2) (by decide +kernel) rfl rfl <| z_aload_n (pc' := 36) (j := 0) (by decide +kernel) rfl rfl <| z_iload (pc' := 38) (j := 4) (by decide +kernel) rfl rfl <| z_callV (pc' := 41) (idx := 97) (mj := m_X12_earlier) (av := [iv v4]) (d' := 0) (by decide +kernel) rfl k_X12_earlier l_RX12_97 rfl (by omega) (am_le rfl) rfl (am_le rfl) hm.o.1 hm.o.2 rfl <| zKf (s_earlier hm c25) <| z_iaload (pc' := 42) (by decide +kernel) hu c27 rfl <| z_iadd (pc' := 43) (by decide +kernel) rfl <| z_aload_n (pc' := 44) (j := 0) (by decide +kernel) rfl rfl <| z_iload (pc' := 46) (j := 4) (by decide +kernel) rfl rfl <| z_callV (pc' := 49) (idx := 101) (mj := m_X12_lag) (av := [iv v4]) (d' := 0) (by decide +kernel) rfl k_X12_lag l_RX12_101 rfl (by omega) (am_le rfl) rfl (am_le rfl) hm.o.1 hm.o.2 rfl <| zKf (s_lag hm c25) <| z_iadd (pc' := 50) (by decide +kernel) rfl <| h.elim fun c28 h => h.elim fun c29 h => am_use (fun k32 => z_icmp_lt (pc' := 53) (tgt := 57) (off := 7) (by decide +kernel) (by decide) rfl c28 c29 (am_ite2 (fun q33 => z_iconst (pc' := 58) (n := 0) (by decide +kernel) rfl <| (am_jp (P := fun z9 => ZP G 1 m_X12_areLet 58 [some (.ref m), some (.ref v), some (.ref u), some (iv v3), some (iv v4)] [iv z9] _ Q) (b2_n q33) k32)) (fun q33 => z_iconst (pc' := 54) (n := 1) (by decide +kernel) rfl <| z_goto (tgt := 58) (off := 4) (by decide +kernel) (by decide) <| (am_jp (P := fun z9 => ZP G 1 m_X12_areLet 58 [some (.ref m), some (.ref v), some (.ref u), some (iv v3), some (iv v4)] [iv z9] _ Q) (b2_nn q33) k32)))) <| z_istore_n (pc' := 59) (j := 3) (ls' := [some (.ref m), some (.ref v), some (.ref u), some (iv (b2 (¬ ((zI Z v (mQ Z B v4.toNat).toNat) < (((zI Z v (mE Z B v4.toNat).toNat) + (zI Z u (mE Z B v4.toNat).toNat)) + (mK Z B v4.toNat)))))), some (iv v4)]) (by decide +kernel) (by decide) rfl rfl <| z_iinc (pc' := 62) (j := 4) (n := 1) (x := v4) (ls' := [some (.ref m), some (.ref v), some (.ref u), some (iv (b2 (¬ ((zI Z v (mQ Z B v4.toNat).toNat) < (((zI Z v (mE Z B v4.toNat).toNat) + (zI Z u (mE Z B v4.toNat).toNat)) + (mK Z B v4.toNat)))))), some (iv (v4 + 1))]) (by decide +kernel) rfl (by decide) rfl rfl <| z_goto (tgt := 5) (off := -57) (by decide +kernel) (by decide) <| h))))
set_option maxRecDepth 20000 in
theorem e_X12_leastPeak {G : Gx} {Q : Rv → Zm → Prop} {Z : Zm} {m : Nat} {B : Nat} (hm : atModel Z m B) (h : (ZM G 11 m_X12_lengths [.ref m] Z (zKc G 12 m_X12_leastPeak 4 [some (.ref m), none, none, none, none, none] [] Q))) : ZM G 12 m_X12_leastPeak [.ref m] Z Q := ZM.of [some (.ref m), none, none, none, none, none] rfl <| z_aload_n (pc' := 1) (j := 0) (by decide +kernel) rfl rfl <| z_callV (pc' := 4) (idx := 123) (mj := m_X12_lengths) (av := []) (d' := 11) (by decide +kernel) rfl k_X12_lengths l_RX12_123 rfl (by omega) (am_le rfl) rfl (am_le rfl) hm.o.1 hm.o.2 rfl h
set_option maxRecDepth 20000 in
theorem b_X12_leastPeak_4 {G : Gx} {Q : Rv → Zm → Prop} {Z : Zm} {r4 : Nat} {m : Nat} {B : Nat}  (hm : atModel Z m B) (hr4 : zA Z r4 100 20) (h : (ZM G 11 m_X12_earliestBegins [.ref m, .ref r4] Z (zKc G 12 m_X12_leastPeak 10 [some (.ref m), some (.ref r4), none, none, none, none] [] Q))) : ZP G 12 m_X12_leastPeak 4 [some (.ref m), none, none, none, none, none] [.ref r4] Z Q := z_astore_n (pc' := 5) (j := 1) (ls' := [some (.ref m), some (.ref r4), none, none, none, none]) (by decide +kernel) (by decide) rfl rfl <| z_aload_n (pc' := 6) (j := 0) (by decide +kernel) rfl rfl <| z_aload_n (pc' := 7) (j := 1) (by decide +kernel) rfl rfl <| z_callV (pc' := 10) (idx := 130) (mj := m_X12_earliestBegins) (av := [.ref r4]) (d' := 11) (by decide +kernel) rfl k_X12_earliestBegins l_RX12_130 rfl (by omega) (am_le rfl) rfl (am_le rfl) hm.o.1 hm.o.2 rfl h
set_option maxRecDepth 20000 in
theorem b_X12_leastPeak_10 {G : Gx} {Q : Rv → Zm → Prop} {Z : Zm} {r4 : Nat} {r10 : Nat} {m : Nat} {B : Nat}  (hm : atModel Z m B) (hr4 : zA Z r4 100 20) (hr10 : zA Z r10 100 20) (h : (ZM G 11 m_X12_latestBegins [.ref m, .ref r4] Z (zKc G 12 m_X12_leastPeak 16 [some (.ref m), some (.ref r4), some (.ref r10), none, none, none] [] Q))) : ZP G 12 m_X12_leastPeak 10 [some (.ref m), some (.ref r4), none, none, none, none] [.ref r10] Z Q := z_astore_n (pc' := 11) (j := 2) (ls' := [some (.ref m), some (.ref r4), some (.ref r10), none, none, none]) (by decide +kernel) (by decide) rfl rfl <| z_aload_n (pc' := 12) (j := 0) (by decide +kernel) rfl rfl <| z_aload_n (pc' := 13) (j := 1) (by decide +kernel) rfl rfl <| z_callV (pc' := 16) (idx := 127) (mj := m_X12_latestBegins) (av := [.ref r4]) (d' := 11) (by decide +kernel) rfl k_X12_latestBegins l_RX12_127 rfl (by omega) (am_le rfl) rfl (am_le rfl) hm.o.1 hm.o.2 rfl h
set_option maxRecDepth 20000 in
theorem b_X12_leastPeak_16 {G : Gx} {Q : Rv → Zm → Prop} {Z : Zm} {r4 : Nat} {r10 : Nat} {r16 : Nat} {m : Nat} {B : Nat}  (hm : atModel Z m B) (hr4 : zA Z r4 100 20) (hr10 : zA Z r10 100 20) (hr16 : zA Z r16 100 20) (h : ((R32 (zI Z B 0)) ∧ (if 6 < (zI Z B 0) then (∀ Z2, Z2 = zSI Z m (zu (zI Z m) 19 (fC 1 0 0)) → (if 0 < fC 1 0 0 then (Q (.inl (some (iv 0))) Z2) else (ZM G 11 m_X12_copied [.ref r10] Z2 (zKc G 12 m_X12_leastPeak 55 [some (.ref m), some (.ref r4), some (.ref r10), some (.ref r16), none, none] [] Q)))) else (ZM G 11 m_X12_areTooMany [.ref m, .ref r10, .ref r16] Z (zKc G 12 m_X12_leastPeak 33 [some (.ref m), some (.ref r4), some (.ref r10), some (.ref r16), none, none] [.ref m] Q))))) : ZP G 12 m_X12_leastPeak 16 [some (.ref m), some (.ref r4), some (.ref r10), none, none, none] [.ref r16] Z Q := z_astore_n (pc' := 17) (j := 3) (ls' := [some (.ref m), some (.ref r4), some (.ref r10), some (.ref r16), none, none]) (by decide +kernel) (by decide) rfl rfl <| z_aload_n (pc' := 18) (j := 0) (by decide +kernel) rfl rfl <| z_aload_n (pc' := 19) (j := 0) (by decide +kernel) rfl rfl <| z_callV (pc' := 22) (idx := 64) (mj := m_X12_many) (av := []) (d' := 0) (by decide +kernel) rfl k_X12_many l_RX12_64 rfl (by omega) (am_le rfl) rfl (am_le rfl) hm.o.1 hm.o.2 rfl <| zKf (s_many hm) <| z_bipush (pc' := 24) (n := 6) (by decide +kernel) (by decide) rfl <| h.elim fun c1 h => z_icmp_gt (pc' := 27) (tgt := 36) (off := 12) (by decide +kernel) (by decide) rfl c1 (by decide : R32 6) (am_ite h (fun h => z_iconst (pc' := 37) (n := 1) (by decide +kernel) rfl <| z_goto (tgt := 41) (off := 4) (by decide +kernel) (by decide) <| z_iconst (pc' := 42) (n := 0) (by decide +kernel) rfl <| z_iconst (pc' := 43) (n := 0) (by decide +kernel) rfl <| z_callV (pc' := 46) (idx := 133) (mj := m_X12_fails) (av := [iv 1, iv 0, iv 0]) (d' := 0) (by decide +kernel) rfl k_X12_fails l_RX12_133 rfl (by omega) (am_le rfl) rfl (am_le rfl) hm.o.1 hm.o.2 rfl <| zKf (s_fails hm (Or.inr rfl) (Or.inl rfl) (Or.inl rfl)) <| have h := h _ rfl; z_ifB_eq (pc' := 49) (tgt := 51) (off := 5) (by decide +kernel) (by decide) rfl (am_ite h (fun h => z_iconst (pc' := 50) (n := 0) (by decide +kernel) rfl <| z_ireturn (by decide +kernel) ⟨_, rfl, rfl⟩ h) (fun h => z_aload_n (pc' := 52) (j := 2) (by decide +kernel) rfl rfl <| z_callS (pc' := 55) (idx := 75) (mj := m_X12_copied) (av := [.ref r10]) (d' := 11) (by decide +kernel) rfl k_X12_copied l_RX12_75 rfl (by omega) (am_le rfl) rfl (am_le rfl) rfl h))) (fun h => z_aload_n (pc' := 28) (j := 0) (by decide +kernel) rfl rfl <| z_aload_n (pc' := 29) (j := 2) (by decide +kernel) rfl rfl <| z_aload_n (pc' := 30) (j := 3) (by decide +kernel) rfl rfl <| z_callV (pc' := 33) (idx := 324) (mj := m_X12_areTooMany) (av := [.ref r10, .ref r16]) (d' := 11) (by decide +kernel) rfl k_X12_areTooMany l_RX12_324 rfl (by omega) (am_le rfl) rfl (am_le rfl) hm.o.1 hm.o.2 rfl h))
set_option maxRecDepth 20000 in
theorem b_X12_leastPeak_55 {G : Gx} {Q : Rv → Zm → Prop} {Z : Zm} {r4 : Nat} {r10 : Nat} {r16 : Nat} {r55 : Nat} {m : Nat} {B : Nat}  (hm : atModel Z m B) (hr4 : zA Z r4 100 20) (hr10 : zA Z r10 100 20) (hr16 : zA Z r16 100 20) (hr55 : zA Z r55 100 20) (h : (ZM G 11 m_X12_peakOf [.ref m, .ref r55, .ref r4] Z (zKc G 12 m_X12_leastPeak 64 [some (.ref m), some (.ref r4), some (.ref r10), some (.ref r16), some (.ref r55), none] [] Q))) : ZP G 12 m_X12_leastPeak 55 [some (.ref m), some (.ref r4), some (.ref r10), some (.ref r16), none, none] [.ref r55] Z Q := z_astore (pc' := 57) (j := 4) (ls' := [some (.ref m), some (.ref r4), some (.ref r10), some (.ref r16), some (.ref r55), none]) (by decide +kernel) (by decide) rfl rfl <| z_aload_n (pc' := 58) (j := 0) (by decide +kernel) rfl rfl <| z_aload (pc' := 60) (j := 4) (by decide +kernel) rfl rfl <| z_aload_n (pc' := 61) (j := 1) (by decide +kernel) rfl rfl <| z_callV (pc' := 64) (idx := 328) (mj := m_X12_peakOf) (av := [.ref r55, .ref r4]) (d' := 11) (by decide +kernel) rfl k_X12_peakOf l_RX12_328 rfl (by omega) (am_le rfl) rfl (am_le rfl) hm.o.1 hm.o.2 rfl h
set_option maxRecDepth 20000 in
theorem b_X12_leastPeak_33 {G : Gx} {Q : Rv → Zm → Prop} {Z : Zm} {r4 : Nat} {r10 : Nat} {r16 : Nat} {m : Nat} {B : Nat} {s0 : Int} (hm : atModel Z m B) (hr4 : zA Z r4 100 20) (hr10 : zA Z r10 100 20) (hr16 : zA Z r16 100 20) (h : ((R32 s0) ∧ ∀ Z6, Z6 = zSI Z m (zu (zI Z m) 19 (fC (b2 (¬ (s0 = 0))) 0 0)) → (if 0 < fC (b2 (¬ (s0 = 0))) 0 0 then (Q (.inl (some (iv 0))) Z6) else (ZM G 11 m_X12_copied [.ref r10] Z6 (zKc G 12 m_X12_leastPeak 55 [some (.ref m), some (.ref r4), some (.ref r10), some (.ref r16), none, none] [] Q))))) : ZP G 12 m_X12_leastPeak 33 [some (.ref m), some (.ref r4), some (.ref r10), some (.ref r16), none, none] [iv s0, .ref m] Z Q := h.elim fun c1 h => am_use (fun k4 => z_if_eq (pc' := 36) (tgt := 40) (off := 7) (by decide +kernel) (by decide) rfl c1 (am_ite2 (fun q5 => z_iconst (pc' := 41) (n := 0) (by decide +kernel) rfl <| (am_jp (P := fun z9 => ZP G 12 m_X12_leastPeak 41 [some (.ref m), some (.ref r4), some (.ref r10), some (.ref r16), none, none] [iv z9, .ref m] _ Q) (b2_n q5) k4)) (fun q5 => z_iconst (pc' := 37) (n := 1) (by decide +kernel) rfl <| z_goto (tgt := 41) (off := 4) (by decide +kernel) (by decide) <| (am_jp (P := fun z9 => ZP G 12 m_X12_leastPeak 41 [some (.ref m), some (.ref r4), some (.ref r10), some (.ref r16), none, none] [iv z9, .ref m] _ Q) (b2_nn q5) k4)))) <| z_iconst (pc' := 42) (n := 0) (by decide +kernel) rfl <| z_iconst (pc' := 43) (n := 0) (by decide +kernel) rfl <| z_callV (pc' := 46) (idx := 133) (mj := m_X12_fails) (av := [iv (b2 (¬ (s0 = 0))), iv 0, iv 0]) (d' := 0) (by decide +kernel) rfl k_X12_fails l_RX12_133 rfl (by omega) (am_le rfl) rfl (am_le rfl) hm.o.1 hm.o.2 rfl <| zKf (s_fails hm (b2_01 _) (Or.inl rfl) (Or.inl rfl)) <| have h := h _ rfl; z_ifB_eq (pc' := 49) (tgt := 51) (off := 5) (by decide +kernel) (by decide) rfl (am_ite h (fun h => z_iconst (pc' := 50) (n := 0) (by decide +kernel) rfl <| z_ireturn (by decide +kernel) ⟨_, rfl, rfl⟩ h) (fun h => z_aload_n (pc' := 52) (j := 2) (by decide +kernel) rfl rfl <| z_callS (pc' := 55) (idx := 75) (mj := m_X12_copied) (av := [.ref r10]) (d' := 11) (by decide +kernel) rfl k_X12_copied l_RX12_75 rfl (by omega) (am_le rfl) rfl (am_le rfl) rfl h))
set_option maxRecDepth 20000 in
theorem b_X12_leastPeak_64 {G : Gx} {Q : Rv → Zm → Prop} {Z : Zm} {r4 : Nat} {r10 : Nat} {r16 : Nat} {r55 : Nat} {m : Nat} {B : Nat} {s0 : Int} (hm : atModel Z m B) (hr4 : zA Z r4 100 20) (hr10 : zA Z r10 100 20) (hr16 : zA Z r16 100 20) (hr55 : zA Z r55 100 20) (h : (ZP G 12 m_X12_leastPeak 66 [some (.ref m), some (.ref r4), some (.ref r10), some (.ref r16), some (.ref r55), some (iv s0)] [] Z Q)) : ZP G 12 m_X12_leastPeak 64 [some (.ref m), some (.ref r4), some (.ref r10), some (.ref r16), some (.ref r55), none] [iv s0] Z Q := z_istore (pc' := 66) (j := 5) (ls' := [some (.ref m), some (.ref r4), some (.ref r10), some (.ref r16), some (.ref r55), some (iv s0)]) (by decide +kernel) (by decide) rfl rfl <| h
set_option maxRecDepth 20000 in
theorem b_X12_leastPeak_66 {G : Gx} {Q : Rv → Zm → Prop} {Z : Zm} {r4 : Nat} {r10 : Nat} {r16 : Nat} {r55 : Nat} {m : Nat} {B : Nat} {v5 : Int} (hm : atModel Z m B) (hr4 : zA Z r4 100 20) (hr10 : zA Z r10 100 20) (hr16 : zA Z r16 100 20) (hr55 : zA Z r55 100 20) (h : (ZM G 11 m_X12_goesOn [.ref m, .ref r55, .ref r10, .ref r16] Z (zKc G 12 m_X12_leastPeak 74 [some (.ref m), some (.ref r4), some (.ref r10), some (.ref r16), some (.ref r55), some (iv v5)] [] Q))) : ZP G 12 m_X12_leastPeak 66 [some (.ref m), some (.ref r4), some (.ref r10), some (.ref r16), some (.ref r55), some (iv v5)] [] Z Q := z_aload_n (pc' := 67) (j := 0) (by decide +kernel) rfl rfl <| z_aload (pc' := 69) (j := 4) (by decide +kernel) rfl rfl <| z_aload_n (pc' := 70) (j := 2) (by decide +kernel) rfl rfl <| z_aload_n (pc' := 71) (j := 3) (by decide +kernel) rfl rfl <| z_callV (pc' := 74) (idx := 331) (mj := m_X12_goesOn) (av := [.ref r55, .ref r10, .ref r16]) (d' := 11) (by decide +kernel) rfl k_X12_goesOn l_RX12_331 rfl (by omega) (am_le rfl) rfl (am_le rfl) hm.o.1 hm.o.2 rfl h
set_option maxRecDepth 20000 in
theorem b_X12_leastPeak_74 {G : Gx} {Q : Rv → Zm → Prop} {Z : Zm} {r4 : Nat} {r10 : Nat} {r16 : Nat} {r55 : Nat} {m : Nat} {B : Nat} {v5 : Int} {s0 : Int} (hm : atModel Z m B) (hr4 : zA Z r4 100 20) (hr10 : zA Z r10 100 20) (hr16 : zA Z r16 100 20) (hr55 : zA Z r55 100 20) (h : ((R32 s0) ∧ (if s0 = 0 then (Q (.inl (some (iv v5))) Z) else (ZM G 11 m_X12_areLet [.ref m, .ref r55, .ref r4] Z (zKc G 12 m_X12_leastPeak 84 [some (.ref m), some (.ref r4), some (.ref r10), some (.ref r16), some (.ref r55), some (iv v5)] [] Q))))) : ZP G 12 m_X12_leastPeak 74 [some (.ref m), some (.ref r4), some (.ref r10), some (.ref r16), some (.ref r55), some (iv v5)] [iv s0] Z Q := h.elim fun c1 h => z_if_eq (pc' := 77) (tgt := 109) (off := 35) (by decide +kernel) (by decide) rfl c1 (am_ite h (fun h => z_iload (pc' := 111) (j := 5) (by decide +kernel) rfl rfl <| z_ireturn (by decide +kernel) ⟨_, rfl, rfl⟩ h) (fun h => z_aload_n (pc' := 78) (j := 0) (by decide +kernel) rfl rfl <| z_aload (pc' := 80) (j := 4) (by decide +kernel) rfl rfl <| z_aload_n (pc' := 81) (j := 1) (by decide +kernel) rfl rfl <| z_callV (pc' := 84) (idx := 335) (mj := m_X12_areLet) (av := [.ref r55, .ref r4]) (d' := 11) (by decide +kernel) rfl k_X12_areLet l_RX12_335 rfl (by omega) (am_le rfl) rfl (am_le rfl) hm.o.1 hm.o.2 rfl h))
set_option maxRecDepth 20000 in
theorem b_X12_leastPeak_84 {G : Gx} {Q : Rv → Zm → Prop} {Z : Zm} {r4 : Nat} {r10 : Nat} {r16 : Nat} {r55 : Nat} {m : Nat} {B : Nat} {v5 : Int} {s0 : Int} (hm : atModel Z m B) (hr4 : zA Z r4 100 20) (hr10 : zA Z r10 100 20) (hr16 : zA Z r16 100 20) (hr55 : zA Z r55 100 20) (h : ((R32 s0) ∧ (if s0 = 0 then (ZP G 12 m_X12_leastPeak 66 [some (.ref m), some (.ref r4), some (.ref r10), some (.ref r16), some (.ref r55), some (iv v5)] [] Z Q) else (ZM G 11 m_X12_peakOf [.ref m, .ref r55, .ref r4] Z (zKc G 12 m_X12_leastPeak 96 [some (.ref m), some (.ref r4), some (.ref r10), some (.ref r16), some (.ref r55), none] [iv v5] Q))))) : ZP G 12 m_X12_leastPeak 84 [some (.ref m), some (.ref r4), some (.ref r10), some (.ref r16), some (.ref r55), some (iv v5)] [iv s0] Z Q := h.elim fun c1 h => z_if_eq (pc' := 87) (tgt := 102) (off := 18) (by decide +kernel) (by decide) rfl c1 (am_ite h (fun h => z_iload (pc' := 104) (j := 5) (by decide +kernel) rfl rfl <| z_istore (pc' := 106) (j := 5) (ls' := [some (.ref m), some (.ref r4), some (.ref r10), some (.ref r16), some (.ref r55), some (iv v5)]) (by decide +kernel) (by decide) rfl rfl <| z_goto (tgt := 66) (off := -40) (by decide +kernel) (by decide) <| h) (fun h => z_iload (pc' := 89) (j := 5) (by decide +kernel) rfl rfl <| z_aload_n (pc' := 90) (j := 0) (by decide +kernel) rfl rfl <| z_aload (pc' := 92) (j := 4) (by decide +kernel) rfl rfl <| z_aload_n (pc' := 93) (j := 1) (by decide +kernel) rfl rfl <| z_callV (pc' := 96) (idx := 328) (mj := m_X12_peakOf) (av := [.ref r55, .ref r4]) (d' := 11) (by decide +kernel) rfl k_X12_peakOf l_RX12_328 rfl (by omega) (am_le rfl) rfl (am_le rfl) hm.o.1 hm.o.2 rfl (ZM.mono h (zKc_wk (wk_some (wk_some (wk_some (wk_some (wk_some (wk_none wk_nil))))))))))
set_option maxRecDepth 20000 in
theorem b_X12_leastPeak_96 {G : Gx} {Q : Rv → Zm → Prop} {Z : Zm} {r4 : Nat} {r10 : Nat} {r16 : Nat} {r55 : Nat} {m : Nat} {B : Nat} {s0 : Int} {s1 : Int} (hm : atModel Z m B) (hr4 : zA Z r4 100 20) (hr10 : zA Z r10 100 20) (hr16 : zA Z r16 100 20) (hr55 : zA Z r55 100 20) (h : ((R32 s1) ∧ (R32 s0) ∧ ZP G 12 m_X12_leastPeak 66 [some (.ref m), some (.ref r4), some (.ref r10), some (.ref r16), some (.ref r55), some (iv (min s1 s0))] [] Z Q)) : ZP G 12 m_X12_leastPeak 96 [some (.ref m), some (.ref r4), some (.ref r10), some (.ref r16), some (.ref r55), none] [iv s0, iv s1] Z Q := h.elim fun c1 h => h.elim fun c2 h => z_min (pc' := 99) (idx := 186) (by decide +kernel) (amM8 209 rfl (by decide +kernel)) (amM3 35 rfl (by decide +kernel)) (amM1 21 rfl (by decide +kernel)) (amM3 36 rfl (by decide +kernel)) (by omega) (am_le rfl) c1 c2 rfl <| z_goto (tgt := 104) (off := 5) (by decide +kernel) (by decide) <| z_istore (pc' := 106) (j := 5) (ls' := [some (.ref m), some (.ref r4), some (.ref r10), some (.ref r16), some (.ref r55), some (iv (min s1 s0))]) (by decide +kernel) (by decide) rfl rfl <| z_goto (tgt := 66) (off := -40) (by decide +kernel) (by decide) <| h
/-! ===== the model's leastPeak ===== -/
theorem ci_b2 {Q R : Prop} [Decidable Q] (h : Q ↔ R) : b2 Q = ci R := by
  by_cases g : Q
  · rw [b2_p g, ci_p (h.mp g)]
  · rw [b2_f g, ci_f fun q => g (h.mpr q)]
theorem s_peakOf {G : Gx} {Z : Zm} {B u v : Nat} {k : Bk} {b : Nat → Int} (hm : atModel Z 300 B) (hn : zI Z B 0 = (kN k : Int)) (ho : kOk k) (hv : zA Z v 100 20) (hu : zA Z u 100 20) (hb : ∀ t, t < kN k → zI Z v t = b t ∧ 0 ≤ b t ∧ b t ≤ 100000) (hl : ∀ t, t < kN k → zI Z u t = kF k 0 t) : ZM G 1 m_X12_peakOf [.ref 300, .ref v, .ref u] Z (fun r W => r = .inl (some (iv (pkP k b))) ∧ W = Z) := by
  have hN := ho.n
  refine e_X12_peakOf hm hv hu ?_
  generalize hf : (fun t => if b t = -1 then 0 else cntP k b (b t)) = f
  have ep : pkP k b = zmax f (kN k) := by rw [← hf]; rfl
  have fj : ∀ t, t < kN k → f t = cntP k b (b t) := fun t ht => by
    rw [← hf]
    exact if_neg (by have := (hb t ht).2; omega)
  suffices key : ∀ j, j ≤ kN k → ZP G 1 m_X12_peakOf 5 [some (.ref 300), some (.ref v), some (.ref u), some (iv (zmax f j)), some (iv (j : Int)), none, none] [] Z (fun r W => r = .inl (some (iv (pkP k b))) ∧ W = Z) from key 0 (Nat.zero_le _)
  refine am_up (n := kN k) fun j hj ih => ?_
  have zr : 0 ≤ zmax f j ∧ zmax f j ≤ kN k := ⟨zmax_0 _ _, zmax_le (by omega) fun t ht => by rw [fj t (by omega)]; exact (cntP_r k b _).2⟩
  refine b_X12_peakOf_5 hm hv hu ⟨by omega, by rw [hn]; omega, ?_⟩
  rw [hn]
  by_cases c : j < kN k
  case neg =>
    rw [if_pos (by omega), ep, show j = kN k by omega]
    exact ⟨rfl, rfl⟩
  rw [if_neg (by omega)]
  have nx := ih c
  rw [zmax_s, fj j c] at nx
  suffices inner : ∀ i, i ≤ kN k → ZP G 1 m_X12_peakOf 20 [some (.ref 300), some (.ref v), some (.ref u), some (iv (zmax f j)), some (iv (j : Int)), some (iv (zsum (fun u => ci (wk0 k b u (b j))) i)), some (iv (i : Int))] [] Z (fun r W => r = .inl (some (iv (pkP k b))) ∧ W = Z) from inner 0 (Nat.zero_le _)
  refine am_up (n := kN k) fun i hi ihi => ?_
  refine b_X12_peakOf_20 hm hv hu ⟨by omega, by rw [hn]; omega, ?_⟩
  rw [hn]
  have bj := hb j c
  by_cases d : i < kN k
  · rw [if_neg (by omega), Int.toNat_natCast, Int.toNat_natCast, (hb i d).1, (hb j c).1, hl i d]
    have bi := hb i d
    have l := ho.len d
    refine ⟨zIx_nat (by omega) (by omega), zIx_nat (by omega) (by omega), by omega, by omega, fun _ => ⟨by omega, trivial⟩, ?_⟩
    have e : b2 (¬ (b j < b i) ∧ (¬ (b i + kF k 0 i ≤ b j))) = ci (wk0 k b i (b j)) := ci_b2 (by unfold wk0; omega)
    rw [e]
    exact ihi d
  · rw [if_pos (by omega), show i = kN k by omega]
    have cr := cntP_r k b (b j)
    have e : zsum (fun u => ci (wk0 k b u (b j))) (kN k) = cntP k b (b j) := rfl
    rw [e]
    exact ⟨by omega, by omega, nx⟩
theorem s_areLet {G : Gx} {Z : Zm} {B u v : Nat} {k : Bk} {b : Nat → Int} (hm : atModel Z 300 B) (hk : cM Z B k) (ho : kOk k) (hv : zA Z v 100 20) (hu : zA Z u 100 20) (hb : ∀ t, t < kN k → zI Z v t = b t ∧ 0 ≤ b t ∧ b t ≤ 100000) (hl : ∀ t, t < kN k → zI Z u t = kF k 0 t) : ZM G 1 m_X12_areLet [.ref 300, .ref v, .ref u] Z (fun r W => (∃ x, r = .inl (some (iv x)) ∧ isB x (∀ j, j < kM k → lateB k b j ≤ b (kL k j))) ∧ W = Z) := by
  have hN := ho.n
  have hM := ho.m
  refine e_X12_areLet hm hv hu ?_
  suffices key : ∀ j, j ≤ kM k → ∀ x, isB x (∀ i, i < j → lateB k b i ≤ b (kL k i)) → ZP G 1 m_X12_areLet 5 [some (.ref 300), some (.ref v), some (.ref u), some (iv x), some (iv (j : Int))] [] Z (fun r W => (∃ x, r = .inl (some (iv x)) ∧ isB x (∀ j, j < kM k → lateB k b j ≤ b (kL k j))) ∧ W = Z) from key 0 (Nat.zero_le _) 1 (Or.inl ⟨rfl, fun i hi => absurd hi (Nat.not_lt_zero _)⟩)
  refine am_up (n := kM k) fun j hj ih x hx => ?_
  have xr := hx.r
  refine b_X12_areLet_5 hm hv hu ⟨by omega, by rw [hk.2.1]; omega, ?_⟩
  rw [hk.2.1]
  by_cases c : j < kM k
  case neg =>
    rw [if_pos (by omega)]
    rw [show j = kM k by omega] at hx
    exact ⟨xr, ⟨x, rfl, hx⟩, rfl⟩
  rw [if_neg (by omega)]
  refine ⟨by omega, ?_⟩
  by_cases d : x = 0
  · rw [if_pos d]
    refine ⟨xr, ⟨x, rfl, Or.inr ⟨d, fun q => ?_⟩⟩, rfl⟩
    have := hx.p.mpr fun i hi => q i (by omega)
    omega
  rw [if_neg d]
  have hx1 := hx.p.mp (by omega)
  obtain ⟨g1, g2, g3⟩ := hk.2.2.2 j c
  have le := ho.e c
  have ll := ho.l c
  rw [Int.toNat_natCast, g1, g2, g3, Int.toNat_natCast, Int.toNat_natCast, (hb _ le).1, (hb _ ll).1, hl _ le]
  have b1 := hb _ le
  have b2' := hb _ ll
  have l := ho.len le
  have g := ho.g c
  refine ⟨zIx_nat (by omega) (by omega), zIx_nat (by omega) (by omega), zIx_nat (by omega) (by omega), by omega, by omega, ?_⟩
  refine ih c _ (isB_b2 ⟨fun q i hi => ?_, fun q => ?_⟩)
  · by_cases e : i = j
    · rw [e]
      unfold lateB
      omega
    · exact hx1 i (by omega)
  · have := q j (Nat.lt_succ_self _)
    unfold lateB at this
    omega
theorem pkP_congr {k : Bk} {b q : Nat → Int} (h : ∀ t, t < kN k → q t = b t) : pkP k b = pkP k q := Int.le_antisymm (pkP_up fun t ht _ => h t ht) (pkP_up fun t ht _ => (h t ht).symm)
theorem vR.congr {k : Bk} (ho : kOk k) {L b q : Nat → Int} (hb : vR k L b) (h : ∀ t, t < kN k → q t = b t) : vR k L q := ⟨fun t ht => by rw [h t ht]; exact hb.1 t ht, fun j hj => by
  have g := hb.2 j hj
  unfold lateB at g ⊢
  rw [h _ (ho.e hj), h _ (ho.l hj)]
  exact g⟩
theorem vR.bx {k : Bk} (ho : kOk k) {b : Nat → Int} (hb : vR k (eL k) b) : _root_.Jvm.Pilot.@@N@@.bx (kN k) (eE k) (eL k) b := fun t ht => ⟨isLF_le ho (eOk_all ho).1 (f' := b) (fun t ht => ⟨(hb.1 t ht).1, fun j hj e => by
  have g := hb.2 j hj
  rw [e] at g
  exact g⟩) t ht, (hb.1 t ht).2⟩
def vRs (k : Bk) (v : Int) (q : Nat → Int) : Prop := vR k (eL k) q → v ≤ pkP k q
def vRa (k : Bk) (v : Int) : Prop := ∃ b, vR k (eL k) b ∧ v = pkP k b
theorem d_leastPeak {G : Gx} {Z : Zm} {B : Nat} {σ : St} (h : IMb Z B σ) (ho : okS σ) (hz : 322 ≤ zSz Z ∧ zSz Z < 990000) : ZM G 12 m_X12_leastPeak [.ref 300] Z (rM Z iv (o_leastPeak σ)) := by
  have hN := ho.1.n
  have hk := eOk_all ho.1
  refine e_X12_leastPeak h.1 (((m_len h ho.T ⟨hz.1, by omega⟩).deeper (by omega)).mono ?_)
  rintro r Y1 ⟨rfl, f1, h1, u1⟩
  have z1 : mHz Y1 := mHz.f hz f1 (by omega)
  have s1 := f1.2.1.1
  generalize eu : zSz Z = u at *
  refine b_X12_leastPeak_4 h1.1 u1.1 (((m_E h1 ho.T z1 u1).deeper (by omega)).mono ?_)
  rintro r Y2 ⟨rfl, f2, h2, v2⟩
  have u2 := u1.fr f2
  have f12 := f1.trans f2
  have s2 := f12.2.1.1
  have sz1 := f1.sz
  have sz2 := f2.sz
  generalize ev : zSz Y1 = v at *
  refine b_X12_leastPeak_10 h2.1 u2.1 v2.1 (((m_L h2 ho.T ⟨by omega, by omega⟩ u2).deeper (by omega)).mono ?_)
  rintro r Y3 ⟨rfl, f3, h3, w3⟩
  have u3 := u2.fr f3
  have v3 := v2.fr f3
  have f13 := f12.trans f3
  have s3 := f13.2.1.1
  have sz3 := f3.sz
  have V3 := mS_v f13 (by omega)
  generalize ew : zSz Y2 = w at *
  have h0 := h3.2.2.1.1
  have er : ∀ t, t < kN (sK σ) → 0 ≤ eE (sK σ) t ∧ eE (sK σ) t ≤ eL (sK σ) t ∧ eL (sK σ) t ≤ 1770 := fun t ht => by
    have a := hk.e ho.1 ht
    have b := hk.el ho.1 ht
    have c := hk.en ho.1
    have l := ho.1.len ht
    omega
  unfold o_leastPeak
  refine b_X12_leastPeak_16 h3.1 u3.1 v3.1 w3.1 ⟨by rw [h0]; omega, ?_⟩
  rw [h0]
  have fail : ∀ (v w : Int) (X : Zm), X = zT Y3 1 → rM Z iv (1, v, σ) (.inl (some (iv w))) X := fun v w X e => by
    rw [e]
    exact ⟨⟨w, rfl, fun g => absurd (show (1 : Nat) = 0 from g) (by decide)⟩, zI_t Y3 1, ⟨B, h3.t 1⟩, (V3.trans zV_t).mono (by omega) (by omega)⟩
  by_cases c1 : kN (sK σ) ≤ 6
  case neg =>
    rw [if_pos (by omega), cIf_f c1]
    rintro _ rfl
    rw [if_pos (by decide)]
    exact fail _ _ _ rfl
  rw [if_neg (by omega), cIf_p c1]
  refine ((s_areTooMany (f := fun t => eL (sK σ) t - eE (sK σ) t + 1) h3.1 h0 hN v3.1 w3.1 fun t ht => ?_).deeper (by omega)).mono ?_
  · have := er t ht
    rw [v3.2.2 t ht, w3.2.2 t ht]
    omega
  rintro r W ⟨⟨x, rfl, hx⟩, hW⟩
  obtain rfl := hW.symm
  refine b_X12_leastPeak_33 h3.1 u3.1 v3.1 w3.1 ⟨b01_r hx.r, ?_⟩
  rintro _ rfl
  by_cases c2 : prF (fun t => eL (sK σ) t - eE (sK σ) t + 1) (kN (sK σ)) ≤ 2000
  case neg =>
    have x1 : x = 1 := hx.p.mpr (by omega)
    rw [cIf_f c2, fC_1 (P := ¬ x = 0) (by omega), if_pos (by decide)]
    exact fail _ _ _ rfl
  have x0 : x = 0 := hx.r.resolve_right fun e => by
    have := hx.p.mp e
    omega
  rw [cIf_p c2, fC_o1 (P := ¬ x = 0) (fun q => q x0), if_neg (by decide)]
  rw [show zSI Y3 300 (zu (zI Y3 300) 19 0) = zT Y3 0 from rfl]
  have hY := h3.t 0
  have uY := u3.t (c := 0)
  have vY := v3.t (c := 0)
  have wY := w3.t (c := 0)
  have VY := V3.trans (zV_t (Z := Y3) (c := 0))
  have tY := zI_t Y3 0
  have szY : zSz (zT Y3 0) = zSz Y3 := rfl
  generalize zT Y3 0 = Y at *
  refine ((s_copied vY.1 (by decide) (by omega)).deeper (by omega)).mono ?_
  rintro r X ⟨rfl, fX0, aX, eX⟩
  have fX : zF mS 1 20 Y X := zNo_m fX0
  have vX : isV X (zSz Y) (kN (sK σ)) (eE (sK σ)) := ⟨aX, by omega, fun t ht => by rw [eX t (by omega)]; exact vY.2.2 t ht⟩
  clear fX0 aX eX
  generalize el : zSz Y = l at *
  have zY : 322 ≤ zSz Y := by omega
  have hX := hY.m zY fX
  have uX := uY.fr fX
  have nX := vY.fr fX
  have mX := wY.fr fX
  have lv : l ≠ v := fun e => by have := vY.1.1; omega
  have lw : l ≠ w := fun e => by have := wY.1.1; omega
  have lu : l ≠ u := fun e => by have := uY.1.1; omega
  have hB := hY.big zY
  have fW : ∀ W p, mRw X l (kN (sK σ)) W p → zF mS 1 20 Y W := fun W p hW => fX.tr hW.1 (c' := 0) (w' := 0) fun a ha q => q.resolve_right (by omega)
  have iW : ∀ W p, mRw X l (kN (sK σ)) W p → IMb W B σ := fun W p hW => hY.m zY (fW W p hW)
  have uW : ∀ W p, mRw X l (kN (sK σ)) W p → (isV W u (kN (sK σ)) (kF (sK σ) 0) ∧ isV W v (kN (sK σ)) (eE (sK σ))) ∧ isV W w (kN (sK σ)) (eL (sK σ)) ∧ isV W l (kN (sK σ)) p := fun W p hW => ⟨⟨⟨uX.1.ext hW.1.1, uX.2.1, fun t ht => by
    rw [hW.1.i uX.1.1 (by have := uX.2.1; unfold mS zB; omega)]
    exact uX.2.2 t ht⟩, ⟨nX.1.ext hW.1.1, nX.2.1, fun t ht => by
    rw [hW.1.i nX.1.1 (by have := nX.2.1; unfold mS zB; omega)]
    exact nX.2.2 t ht⟩⟩, ⟨mX.1.ext hW.1.1, mX.2.1, fun t ht => by
    rw [hW.1.i mX.1.1 (by have := mX.2.1; unfold mS zB; omega)]
    exact mX.2.2 t ht⟩, ⟨vX.1.ext hW.1.1, vX.2.1, hW.2⟩⟩
  have hX0 : mRw X l (kN (sK σ)) X (eE (sK σ)) := ⟨zF.refl, vX.2.2⟩
  refine b_X12_leastPeak_55 hX.1 uX.1 nX.1 mX.1 vX.1 ?_
  refine ((s_peakOf (b := eE (sK σ)) hX.1 hX.2.2.1.1 ho.1 vX.1 uX.1 (fun t ht => ⟨vX.2.2 t ht, by have := er t ht; omega⟩) uX.2.2).deeper (by omega)).mono ?_
  rintro r W ⟨rfl, hW⟩
  obtain rfl := hW.symm
  refine b_X12_leastPeak_64 hX.1 uX.1 nX.1 mX.1 vX.1 ?_
  have pr : ∀ b, 0 ≤ pkP (sK σ) b ∧ pkP (sK σ) b ≤ 20 := fun b => ⟨pkP_0 _ _, by have := pkP_n (k := sK σ) (b := b); omega⟩
  suffices key : ∀ m p x, bx (kN (sK σ)) (eE (sK σ)) (eL (sK σ)) p → bW (kN (sK σ)) ≤ bV (eE (sK σ)) p (kN (sK σ)) + m → (0 ≤ x ∧ x ≤ 20) → vRa (sK σ) x → seenB (kN (sK σ)) (eE (sK σ)) (eL (sK σ)) (vRs (sK σ) x) p → ∀ W, mRw X l (kN (sK σ)) W p → ZP G 12 m_X12_leastPeak 66 [some (.ref 300), some (.ref u), some (.ref v), some (.ref w), some (.ref l), some (iv x)] [] W (rM Z iv (0, vLp (sK σ) (eL (sK σ)), σ)) from key (bW (kN (sK σ))) (eE (sK σ)) _ (fun t ht => ⟨Int.le_refl _, (er t ht).2.1⟩) (by omega) (pr _) ⟨_, eE_vR ho.1, rfl⟩ (seenB.first fun _ => Int.le_refl _) X hX0
  intro m
  induction m with
  | zero =>
    intro p x hp hm
    have := bV_le (lo := eE (sK σ)) (p := p) (kN (sK σ)) fun t ht => by
      have a := hp t ht
      have b := er t ht
      omega
    omega
  | succ m ih =>
    intro p x hp hm hx hat sn W hW
    obtain ⟨⟨w1, w2⟩, w3, w4⟩ := uW W p hW
    refine b_X12_leastPeak_66 (iW _ _ hW).1 w1.1 w2.1 w3.1 w4.1 ?_
    refine ((s_goesOn (lo := eE (sK σ)) (hi := eL (sK σ)) (p := p) (iW W p hW).1 (iW W p hW).2.2.1.1 hN w4.1 w2.1 w3.1 (by omega) lv lw fun t ht => ⟨w4.2.2 t ht, w2.2.2 t ht, w3.2.2 t ht, ?_⟩).deeper (by omega)).mono ?_
    · have a := hp t ht
      have b := er t ht
      omega
    rintro r V2 (⟨rfl, hd, f, rfl⟩ | ⟨rfl, i, f, hi, hlt, hd, rfl, hf⟩)
    · have hV : mRw X l (kN (sK σ)) (zSI W l f) f := ⟨hW.1.trans (zF_I (Or.inr rfl)), fun t ht => by rw [zI_same]⟩
      obtain ⟨⟨w1, w2⟩, w3, w4⟩ := uW _ _ hV
      refine b_X12_leastPeak_74 (iW _ _ hV).1 w1.1 w2.1 w3.1 w4.1 ⟨by decide, ?_⟩
      rw [if_pos rfl]
      have fV := fW _ _ hV
      have all := sn.last hd
      have le : ∀ b, vR (sK σ) (eL (sK σ)) b → x ≤ pkP (sK σ) b := fun b hb => by
        obtain ⟨q', e, r⟩ := all b (hb.bx ho.1)
        have := r (hb.congr ho.1 e)
        rw [← pkP_congr e] at this
        exact this
      have V2 := mS_v fV zY
      refine rM.ok (iW _ _ hV) ?_ (VY.trans V2) (by omega) (by omega) (vLp_of ⟨hat, le⟩)
      rw [fV.i (by omega) (by unfold mS zB; omega)]
      exact tY
    · have hV : mRw X l (kN (sK σ)) (zSI W l f) (nxB (eE (sK σ)) p i) := ⟨hW.1.trans (zF_I (Or.inr rfl)), fun t ht => by rw [zI_same]; exact hf t ht⟩
      obtain ⟨⟨w1, w2⟩, w3, w4⟩ := uW _ _ hV
      refine b_X12_leastPeak_74 (iW _ _ hV).1 w1.1 w2.1 w3.1 w4.1 ⟨by decide, ?_⟩
      rw [if_neg (by decide)]
      have nv := bV_nx (lo := eE (sK σ)) (p := p) (i := i) (hp i hi).1 (fun t ht => by
        have a := hp t (by omega)
        have b := er t (by omega)
        omega) (kN (sK σ) - (i + 1))
      rw [show i + 1 + (kN (sK σ) - (i + 1)) = kN (sK σ) by omega] at nv
      have hp2 := hp.next (fun t ht => (er t ht).2.1) hi hlt
      have nx : ∀ x', (0 ≤ x' ∧ x' ≤ 20) → vRa (sK σ) x' → (∀ q, vRs (sK σ) x q → vRs (sK σ) x' q) → vRs (sK σ) x' (nxB (eE (sK σ)) p i) → ZP G 12 m_X12_leastPeak 66 [some (.ref 300), some (.ref u), some (.ref v), some (.ref w), some (.ref l), some (iv x')] [] (zSI W l f) (rM Z iv (0, vLp (sK σ) (eL (sK σ)), σ)) := fun x' a1 a2 a3 a4 => ih _ x' hp2 (by omega) a1 a2 ((sn.mono a3).next hd hi a4) _ hV
      generalize zSI W l f = W2 at *
      generalize nxB (eE (sK σ)) p i = p2 at *
      have pb : ∀ t, t < kN (sK σ) → zI W2 l t = p2 t ∧ 0 ≤ p2 t ∧ p2 t ≤ 100000 := fun t ht => ⟨w4.2.2 t ht, by
        have a := hp2 t ht
        have b := er t ht
        omega⟩
      refine ((s_areLet (b := p2) (iW _ _ hV).1 (iW _ _ hV).2.2.1 ho.1 w4.1 w1.1 pb w1.2.2).deeper (by omega)).mono ?_
      rintro r W ⟨⟨y, rfl, hy⟩, hW⟩
      obtain rfl := hW.symm
      refine b_X12_leastPeak_84 (iW _ _ hV).1 w1.1 w2.1 w3.1 w4.1 ⟨b01_r hy.r, ?_⟩
      by_cases c : y = 0
      · rw [if_pos c]
        exact nx x hx hat (fun q g => g) fun g => absurd (hy.p.mpr g.2) (by omega)
      · rw [if_neg c]
        have y1 := hy.p.mp (hy.r.resolve_left c)
        refine ((s_peakOf (b := p2) (iW _ _ hV).1 (iW _ _ hV).2.2.1.1 ho.1 w4.1 w1.1 pb w1.2.2).deeper (by omega)).mono ?_
        rintro r W ⟨rfl, hW⟩
        obtain rfl := hW.symm
        have p2r := pr p2
        refine b_X12_leastPeak_96 (iW _ _ hV).1 w1.1 w2.1 w3.1 w4.1 ⟨by omega, by omega, ?_⟩
        refine nx (min x (pkP (sK σ) p2)) (by omega) ?_ (fun q g ok => Int.le_trans (Int.min_le_left _ _) (g ok)) fun _ => Int.min_le_right _ _
        by_cases e : x ≤ pkP (sK σ) p2
        · rw [Int.min_eq_left e]
          exact hat
        · rw [Int.min_eq_right (by omega)]
          exact ⟨p2, ⟨fun t ht => ⟨(pb t ht).2.1, (hp2 t ht).2⟩, y1⟩, rfl⟩
