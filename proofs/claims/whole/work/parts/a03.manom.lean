set_option maxRecDepth 20000 in
theorem e_X12_anomaly {G : Gx} {Q : Rv → Zm → Prop} {Z : Zm} {m : Nat} {B : Nat} {c : Int} {y : Int} (hm : atModel Z m B) (h : ((R32 c) ∧ (R32 (zIdx 9 c)) ∧ (¬ ((zIdx 9 c) < 0) → (R32 y) ∧ (R32 (zIdx 8 y)) ∧ True) ∧ ∀ Z13, Z13 = zSI Z m (zu (zI Z m) 19 (fC (b2 (((zIdx 9 c) < 0) ∨ (¬ (0 ≤ (zIdx 8 y))))) 0 0)) → (if 0 < fC (b2 (((zIdx 9 c) < 0) ∨ (¬ (0 ≤ (zIdx 8 y))))) 0 0 then (Q (.inl (some (iv 0))) Z13) else (ZM G 11 m_X12_listBy [.ref m, iv y] Z13 (zKc G 12 m_X12_anomaly 40 [some (.ref m), some (iv c), none, none, none, none, none, none, none] [] Q))))) : ZM G 12 m_X12_anomaly [.ref m, iv c, iv y] Z Q := ZM.of [some (.ref m), some (iv c), some (iv y), none, none, none, none, none, none] rfl <| z_aload_n (pc' := 1) (j := 0) (by decide +kernel) rfl rfl <| z_ldcSw (pc' := 4) (idx := 320) (i := 9) (by decide +kernel) (by decide) (by decide) (by decide) rfl <| z_iload_n (pc' := 5) (j := 1) (by decide +kernel) rfl rfl <| h.elim fun c1 h => z_callT (pc' := 8) (idx := 146) (i := 9) (mj := m_J0_indexOf_0f7a4) (av := [iv c]) (d' := 3) (by decide +kernel) rfl k_J0_indexOf_0f7a4 (by decide) (amM8 107 rfl (by decide +kernel)) rfl (by omega) (am_le rfl) rfl (am_le rfl) rfl <| zKf (s_indexOf (by decide) c1) <| h.elim fun c2 h => h.elim fun g10 h => am_use (fun k11 => z_if_lt (pc' := 11) (tgt := 20) (off := 12) (by decide +kernel) (by decide) rfl c2 (am_ite2 (fun q12 => z_iconst (pc' := 21) (n := 1) (by decide +kernel) rfl <| z_goto (tgt := 25) (off := 4) (by decide +kernel) (by decide) <| (am_jp (P := fun z9 => ZP G 12 m_X12_anomaly 25 [some (.ref m), some (iv c), some (iv y), none, none, none, none, none, none] [iv z9, .ref m] _ Q) (b2_o1 q12) k11)) (fun q12 => have h := g10 q12; z_ldcS (pc' := 13) (idx := 233) (i := 8) (by decide +kernel) (by decide) (by decide) (by decide) rfl <| z_iload_n (pc' := 14) (j := 2) (by decide +kernel) rfl rfl <| h.elim fun c3 h => z_callT (pc' := 17) (idx := 146) (i := 8) (mj := m_J0_indexOf_0f7a4) (av := [iv y]) (d' := 3) (by decide +kernel) rfl k_J0_indexOf_0f7a4 (by decide) (amM8 107 rfl (by decide +kernel)) rfl (by omega) (am_le rfl) rfl (am_le rfl) rfl <| zKf (s_indexOf (by decide) c3) <| h.elim fun c4 h => am_use (fun k7 => z_if_ge (pc' := 20) (tgt := 24) (off := 7) (by decide +kernel) (by decide) rfl c4 (am_ite2 (fun q8 => z_iconst (pc' := 25) (n := 0) (by decide +kernel) rfl <| (am_jp (P := fun z9 => ZP G 12 m_X12_anomaly 25 [some (.ref m), some (iv c), some (iv y), none, none, none, none, none, none] [iv z9, .ref m] _ Q) (b2_n q8) k7)) (fun q8 => z_iconst (pc' := 21) (n := 1) (by decide +kernel) rfl <| z_goto (tgt := 25) (off := 4) (by decide +kernel) (by decide) <| (am_jp (P := fun z9 => ZP G 12 m_X12_anomaly 25 [some (.ref m), some (iv c), some (iv y), none, none, none, none, none, none] [iv z9, .ref m] _ Q) (b2_nn q8) k7)))) <| (am_jp (P := fun z9 => ZP G 12 m_X12_anomaly 25 [some (.ref m), some (iv c), some (iv y), none, none, none, none, none, none] [iv z9, .ref m] _ Q) (b2_o2 q12) k11)))) <| z_iconst (pc' := 26) (n := 0) (by decide +kernel) rfl <| z_iconst (pc' := 27) (n := 0) (by decide +kernel) rfl <| z_callV (pc' := 30) (idx := 133) (mj := m_X12_fails) (av := [iv (b2 (((zIdx 9 c) < 0) ∨ (¬ (0 ≤ (zIdx 8 y))))), iv 0, iv 0]) (d' := 0) (by decide +kernel) rfl k_X12_fails l_RX12_133 rfl (by omega) (am_le rfl) rfl (am_le rfl) hm.o.1 hm.o.2 rfl <| zKf (s_fails hm (b2_01 _) (Or.inl rfl) (Or.inl rfl)) <| have h := h _ rfl; z_ifB_eq (pc' := 33) (tgt := 35) (off := 5) (by decide +kernel) (by decide) rfl (am_ite h (fun h => z_iconst (pc' := 34) (n := 0) (by decide +kernel) rfl <| z_ireturn (by decide +kernel) ⟨_, rfl, rfl⟩ h) (fun h => z_aload_n (pc' := 36) (j := 0) (by decide +kernel) rfl rfl <| z_iload_n (pc' := 37) (j := 2) (by decide +kernel) rfl rfl <| z_callV (pc' := 40) (idx := 235) (mj := m_X12_listBy) (av := [iv y]) (d' := 11) (by decide +kernel) rfl k_X12_listBy l_RX12_235 rfl (by omega) (am_le rfl) rfl (am_le rfl) hm.o.1 hm.o.2 rfl (ZM.mono h (zKc_wk (wk_some (wk_some (wk_none (wk_none (wk_none (wk_none (wk_none (wk_none (wk_none wk_nil)))))))))))))
set_option maxRecDepth 20000 in
theorem b_X12_anomaly_40 {G : Gx} {Q : Rv → Zm → Prop} {Z : Zm} {r40 : Nat} {Nr40 : Nat} {m : Nat} {B : Nat} {c : Int}  (hm : atModel Z m B) (hr40 : zA Z r40 100 Nr40) (h : (ZM G 11 m_X12_lengths [.ref m] Z (zKc G 12 m_X12_anomaly 45 [some (.ref m), some (iv c), none, some (.ref r40), none, none, none, none, none] [] Q))) : ZP G 12 m_X12_anomaly 40 [some (.ref m), some (iv c), none, none, none, none, none, none, none] [.ref r40] Z Q := z_astore_n (pc' := 41) (j := 3) (ls' := [some (.ref m), some (iv c), none, some (.ref r40), none, none, none, none, none]) (by decide +kernel) (by decide) rfl rfl <| z_aload_n (pc' := 42) (j := 0) (by decide +kernel) rfl rfl <| z_callV (pc' := 45) (idx := 123) (mj := m_X12_lengths) (av := []) (d' := 11) (by decide +kernel) rfl k_X12_lengths l_RX12_123 rfl (by omega) (am_le rfl) rfl (am_le rfl) hm.o.1 hm.o.2 rfl h
set_option maxRecDepth 20000 in
theorem b_X12_anomaly_45 {G : Gx} {Q : Rv → Zm → Prop} {Z : Zm} {r40 : Nat} {Nr40 : Nat} {r45 : Nat} {m : Nat} {B : Nat} {c : Int}  (hm : atModel Z m B) (hr40 : zA Z r40 100 Nr40) (hr45 : zA Z r45 100 20) (h : (ZM G 11 m_X12_free [.ref m, .ref r40, .ref r45, .ref (m + 9), iv 0, iv (-1)] Z (zKc G 12 m_X12_anomaly 60 [some (.ref m), some (iv c), none, some (.ref r40), some (.ref r45), none, none, none, none] [] Q))) : ZP G 12 m_X12_anomaly 45 [some (.ref m), some (iv c), none, some (.ref r40), none, none, none, none, none] [.ref r45] Z Q := z_astore (pc' := 47) (j := 4) (ls' := [some (.ref m), some (iv c), none, some (.ref r40), some (.ref r45), none, none, none, none]) (by decide +kernel) (by decide) rfl rfl <| z_aload_n (pc' := 48) (j := 0) (by decide +kernel) rfl rfl <| z_aload_n (pc' := 49) (j := 3) (by decide +kernel) rfl rfl <| z_aload (pc' := 51) (j := 4) (by decide +kernel) rfl rfl <| z_aload_n (pc' := 52) (j := 0) (by decide +kernel) rfl rfl <| z_getR (pc' := 55) (idx := 27) (ci := 12) (f := 6) (by decide +kernel) f_RX12_27 rfl hm.o.1 hm.o.2 hm.r6 rfl <| z_iconst (pc' := 56) (n := 0) (by decide +kernel) rfl <| z_iconst (pc' := 57) (n := -1) (by decide +kernel) rfl <| z_callV (pc' := 60) (idx := 268) (mj := m_X12_free) (av := [.ref r40, .ref r45, .ref (m + 9), iv 0, iv (-1)]) (d' := 11) (by decide +kernel) rfl k_X12_free l_RX12_268 rfl (by omega) (am_le rfl) rfl (am_le rfl) hm.o.1 hm.o.2 rfl h
set_option maxRecDepth 20000 in
theorem b_X12_anomaly_60 {G : Gx} {Q : Rv → Zm → Prop} {Z : Zm} {r40 : Nat} {Nr40 : Nat} {r45 : Nat} {m : Nat} {B : Nat} {c : Int} {s0 : Int} (hm : atModel Z m B) (hr40 : zA Z r40 100 Nr40) (hr45 : zA Z r45 100 20) (h : ((R32 c) ∧ (if c = 104 then (ZM G 11 m_X12_copied [.ref (m + 9)] Z (zKc G 12 m_X12_anomaly 75 [some (.ref m), none, none, some (.ref r40), some (.ref r45), some (iv s0), none, none, none] [] Q)) else (ZP G 12 m_X12_anomaly 129 [some (.ref m), some (iv c), none, some (.ref r40), some (.ref r45), some (iv s0), some (iv (if c = 115 then zI Z B 0 else zI Z B 1)), some (iv 0), none] [] Z Q)))) : ZP G 12 m_X12_anomaly 60 [some (.ref m), some (iv c), none, some (.ref r40), some (.ref r45), none, none, none, none] [iv s0] Z Q := z_istore (pc' := 62) (j := 5) (ls' := [some (.ref m), some (iv c), none, some (.ref r40), some (.ref r45), some (iv s0), none, none, none]) (by decide +kernel) (by decide) rfl rfl <| z_iload_n (pc' := 63) (j := 1) (by decide +kernel) rfl rfl <| z_bipush (pc' := 65) (n := 104) (by decide +kernel) (by decide) rfl <| h.elim fun c1 h => z_icmp_ne (pc' := 68) (tgt := 107) (off := 42) (by decide +kernel) (by decide) rfl c1 (by decide : R32 104) (am_ite h (fun h => z_aload_n (pc' := 69) (j := 0) (by decide +kernel) rfl rfl <| z_getR (pc' := 72) (idx := 27) (ci := 12) (f := 6) (by decide +kernel) f_RX12_27 rfl hm.o.1 hm.o.2 hm.r6 rfl <| z_callS (pc' := 75) (idx := 75) (mj := m_X12_copied) (av := [.ref (m + 9)]) (d' := 11) (by decide +kernel) rfl k_X12_copied l_RX12_75 rfl (by omega) (am_le rfl) rfl (am_le rfl) rfl (ZM.mono h (zKc_wk (wk_some (wk_none (wk_none (wk_some (wk_some (wk_some (wk_none (wk_none (wk_none wk_nil)))))))))))) (fun h => z_iload_n (pc' := 108) (j := 1) (by decide +kernel) rfl rfl <| z_bipush (pc' := 110) (n := 115) (by decide +kernel) (by decide) rfl <| am_use (fun k4 => z_icmp_ne (pc' := 113) (tgt := 120) (off := 10) (by decide +kernel) (by decide) rfl c1 (by decide : R32 115) (am_ite2 (fun q5 => z_aload_n (pc' := 114) (j := 0) (by decide +kernel) rfl rfl <| z_callV (pc' := 117) (idx := 64) (mj := m_X12_many) (av := []) (d' := 0) (by decide +kernel) rfl k_X12_many l_RX12_64 rfl (by omega) (am_le rfl) rfl (am_le rfl) hm.o.1 hm.o.2 rfl <| zKf (s_many hm) <| z_goto (tgt := 124) (off := 7) (by decide +kernel) (by decide) <| (am_jp (P := fun z9 => ZP G 12 m_X12_anomaly 124 [some (.ref m), some (iv c), none, some (.ref r40), some (.ref r45), some (iv s0), none, none, none] [iv z9] _ Q) (if_pos q5) k4)) (fun q5 => z_aload_n (pc' := 121) (j := 0) (by decide +kernel) rfl rfl <| z_callV (pc' := 124) (idx := 94) (mj := m_X12_needsMany) (av := []) (d' := 0) (by decide +kernel) rfl k_X12_needsMany l_RX12_94 rfl (by omega) (am_le rfl) rfl (am_le rfl) hm.o.1 hm.o.2 rfl <| zKf (s_needsMany hm) <| (am_jp (P := fun z9 => ZP G 12 m_X12_anomaly 124 [some (.ref m), some (iv c), none, some (.ref r40), some (.ref r45), some (iv s0), none, none, none] [iv z9] _ Q) (if_neg q5) k4)))) <| z_istore (pc' := 126) (j := 6) (ls' := [some (.ref m), some (iv c), none, some (.ref r40), some (.ref r45), some (iv s0), some (iv (if c = 115 then zI Z B 0 else zI Z B 1)), none, none]) (by decide +kernel) (by decide) rfl rfl <| z_iconst (pc' := 127) (n := 0) (by decide +kernel) rfl <| z_istore (pc' := 129) (j := 7) (ls' := [some (.ref m), some (iv c), none, some (.ref r40), some (.ref r45), some (iv s0), some (iv (if c = 115 then zI Z B 0 else zI Z B 1)), some (iv 0), none]) (by decide +kernel) (by decide) rfl rfl <| h))
set_option maxRecDepth 20000 in
theorem b_X12_anomaly_75 {G : Gx} {Q : Rv → Zm → Prop} {Z : Zm} {r40 : Nat} {Nr40 : Nat} {r45 : Nat} {r75 : Nat} {Nr75 : Nat} {m : Nat} {B : Nat} {v5 : Int} (hm : atModel Z m B) (hr40 : zA Z r40 100 Nr40) (hr45 : zA Z r45 100 20) (hr75 : zA Z r75 100 Nr75) (h : ((zIx 0 Nr75) ∧ ∀ Z2, Z2 = zSI Z r75 (zu (zI Z r75) 0 ((zI Z r75 0) + 1)) → ZM G 11 m_X12_free [.ref m, .ref r40, .ref r45, .ref r75, iv 0, iv (-1)] Z2 (zKc G 12 m_X12_anomaly 96 [none, none, none, none, none, some (iv v5), none, none, none] [] Q))) : ZP G 12 m_X12_anomaly 75 [some (.ref m), none, none, some (.ref r40), some (.ref r45), some (iv v5), none, none, none] [.ref r75] Z Q := z_astore (pc' := 77) (j := 6) (ls' := [some (.ref m), none, none, some (.ref r40), some (.ref r45), some (iv v5), some (.ref r75), none, none]) (by decide +kernel) (by decide) rfl rfl <| z_aload (pc' := 79) (j := 6) (by decide +kernel) rfl rfl <| z_iconst (pc' := 80) (n := 0) (by decide +kernel) rfl <| z_dup2 (pc' := 81) (by decide +kernel) rfl rfl rfl <| h.elim fun c1 h => z_iaload (pc' := 82) (by decide +kernel) hr75 c1 rfl <| z_iconst (pc' := 83) (n := 1) (by decide +kernel) rfl <| z_iadd (pc' := 84) (by decide +kernel) rfl <| z_iastore (pc' := 85) (by decide +kernel) hr75 c1 rfl <| have h := h _ rfl; z_aload_n (pc' := 86) (j := 0) (by decide +kernel) rfl rfl <| z_aload_n (pc' := 87) (j := 3) (by decide +kernel) rfl rfl <| z_aload (pc' := 89) (j := 4) (by decide +kernel) rfl rfl <| z_aload (pc' := 91) (j := 6) (by decide +kernel) rfl rfl <| z_iconst (pc' := 92) (n := 0) (by decide +kernel) rfl <| z_iconst (pc' := 93) (n := -1) (by decide +kernel) rfl <| z_callV (pc' := 96) (idx := 268) (mj := m_X12_free) (av := [.ref r40, .ref r45, .ref r75, iv 0, iv (-1)]) (d' := 11) (by decide +kernel) rfl k_X12_free l_RX12_268 rfl (by omega) (am_le rfl) rfl (am_le rfl) hm.o.1 hm.o.2 rfl (ZM.mono h (zKc_wk (wk_none (wk_none (wk_none (wk_none (wk_none (wk_some (wk_none (wk_none (wk_none wk_nil)))))))))))
set_option maxRecDepth 20000 in
theorem b_X12_anomaly_129 {G : Gx} {Q : Rv → Zm → Prop} {Z : Zm} {r40 : Nat} {Nr40 : Nat} {r45 : Nat} {m : Nat} {B : Nat} {c : Int} {v5 : Int} {v6 : Int} {v7 : Int} (hm : atModel Z m B) (hr40 : zA Z r40 100 Nr40) (hr45 : zA Z r45 100 20) (h : ((R32 v7) ∧ (R32 v6) ∧ (if v6 ≤ v7 then (Q (.inl (some (iv (-1)))) Z) else (ZM G 11 m_X12_copied [.ref r45] Z (zKc G 12 m_X12_anomaly 141 [some (.ref m), some (iv c), none, some (.ref r40), some (.ref r45), some (iv v5), some (iv v6), some (iv v7), none] [] Q))))) : ZP G 12 m_X12_anomaly 129 [some (.ref m), some (iv c), none, some (.ref r40), some (.ref r45), some (iv v5), some (iv v6), some (iv v7), none] [] Z Q := z_iload (pc' := 131) (j := 7) (by decide +kernel) rfl rfl <| z_iload (pc' := 133) (j := 6) (by decide +kernel) rfl rfl <| h.elim fun c1 h => h.elim fun c2 h => z_icmp_ge (pc' := 136) (tgt := 219) (off := 86) (by decide +kernel) (by decide) rfl c1 c2 (am_ite h (fun h => z_iconst (pc' := 220) (n := -1) (by decide +kernel) rfl <| z_ireturn (by decide +kernel) ⟨_, rfl, rfl⟩ h) (fun h => z_aload (pc' := 138) (j := 4) (by decide +kernel) rfl rfl <| z_callS (pc' := 141) (idx := 75) (mj := m_X12_copied) (av := [.ref r45]) (d' := 11) (by decide +kernel) rfl k_X12_copied l_RX12_75 rfl (by omega) (am_le rfl) rfl (am_le rfl) rfl h))
set_option maxRecDepth 20000 in
theorem b_X12_anomaly_96 {G : Gx} {Q : Rv → Zm → Prop} {Z : Zm} {m : Nat} {B : Nat} {v5 : Int} {s0 : Int} (hm : atModel Z m B) (h : ((R32 s0) ∧ (R32 v5) ∧ Q (.inl (some (iv (if s0 ≤ v5 then (-1) else 0)))) Z)) : ZP G 12 m_X12_anomaly 96 [none, none, none, none, none, some (iv v5), none, none, none] [iv s0] Z Q := z_iload (pc' := 98) (j := 5) (by decide +kernel) rfl rfl <| h.elim fun c1 h => h.elim fun c2 h => am_use (fun k5 => z_icmp_le (pc' := 101) (tgt := 105) (off := 7) (by decide +kernel) (by decide) rfl c1 c2 (am_ite2 (fun q6 => z_iconst (pc' := 106) (n := -1) (by decide +kernel) rfl <| (am_jp (P := fun z9 => ZP G 12 m_X12_anomaly 106 [none, none, none, none, none, some (iv v5), none, none, none] [iv z9] _ Q) (if_pos q6) k5)) (fun q6 => z_iconst (pc' := 102) (n := 0) (by decide +kernel) rfl <| z_goto (tgt := 106) (off := 4) (by decide +kernel) (by decide) <| (am_jp (P := fun z9 => ZP G 12 m_X12_anomaly 106 [none, none, none, none, none, some (iv v5), none, none, none] [iv z9] _ Q) (if_neg q6) k5)))) <| z_ireturn (by decide +kernel) ⟨_, rfl, rfl⟩ h
set_option maxRecDepth 20000 in
theorem b_X12_anomaly_141 {G : Gx} {Q : Rv → Zm → Prop} {Z : Zm} {r40 : Nat} {Nr40 : Nat} {r45 : Nat} {r141 : Nat} {Nr141 : Nat} {m : Nat} {B : Nat} {c : Int} {v5 : Int} {v6 : Int} {v7 : Int} (hm : atModel Z m B) (hr40 : zA Z r40 100 Nr40) (hr45 : zA Z r45 100 20) (hr141 : zA Z r141 100 Nr141) (h : ((R32 c) ∧ (zIx (if c = 115 then v7 else 0) Nr141) ∧ (c = 115 → (zIx v7 20) ∧ (R32 (zI Z r45 v7.toNat)) ∧ True) ∧ ∀ Z17, Z17 = zSI Z r141 (zu (zI Z r141) (if c = 115 then v7 else 0).toNat ((zI Z r141 (if c = 115 then v7 else 0).toNat) - (b2 ((c = 115) ∧ (¬ ((zI Z r45 v7.toNat) ≤ 1)))))) → ZM G 11 m_X12_free [.ref m, .ref r40, .ref r141, .ref (m + 9), iv 0, iv (if c = 110 then v7 else (-1))] Z17 (zKc G 12 m_X12_anomaly 205 [some (.ref m), some (iv c), none, some (.ref r40), some (.ref r45), some (iv v5), some (iv v6), some (iv v7), none] [] Q))) : ZP G 12 m_X12_anomaly 141 [some (.ref m), some (iv c), none, some (.ref r40), some (.ref r45), some (iv v5), some (iv v6), some (iv v7), none] [.ref r141] Z Q := z_astore (pc' := 143) (j := 8) (ls' := [some (.ref m), some (iv c), none, some (.ref r40), some (.ref r45), some (iv v5), some (iv v6), some (iv v7), some (.ref r141)]) (by decide +kernel) (by decide) rfl rfl <| z_aload (pc' := 145) (j := 8) (by decide +kernel) rfl rfl <| z_iload_n (pc' := 146) (j := 1) (by decide +kernel) rfl rfl <| z_bipush (pc' := 148) (n := 115) (by decide +kernel) (by decide) rfl <| h.elim fun c1 h => am_use (fun k4 => z_icmp_ne (pc' := 151) (tgt := 156) (off := 8) (by decide +kernel) (by decide) rfl c1 (by decide : R32 115) (am_ite2 (fun q5 => z_iload (pc' := 153) (j := 7) (by decide +kernel) rfl rfl <| z_goto (tgt := 157) (off := 4) (by decide +kernel) (by decide) <| (am_jp (P := fun z9 => ZP G 12 m_X12_anomaly 157 [some (.ref m), some (iv c), none, some (.ref r40), some (.ref r45), some (iv v5), some (iv v6), some (iv v7), some (.ref r141)] [iv z9, .ref r141] _ Q) (if_pos q5) k4)) (fun q5 => z_iconst (pc' := 157) (n := 0) (by decide +kernel) rfl <| (am_jp (P := fun z9 => ZP G 12 m_X12_anomaly 157 [some (.ref m), some (iv c), none, some (.ref r40), some (.ref r45), some (iv v5), some (iv v6), some (iv v7), some (.ref r141)] [iv z9, .ref r141] _ Q) (if_neg q5) k4)))) <| z_dup2 (pc' := 158) (by decide +kernel) rfl rfl rfl <| h.elim fun c6 h => z_iaload (pc' := 159) (by decide +kernel) hr141 c6 rfl <| z_iload_n (pc' := 160) (j := 1) (by decide +kernel) rfl rfl <| z_bipush (pc' := 162) (n := 115) (by decide +kernel) (by decide) rfl <| h.elim fun g13 h => am_use (fun k15 => z_icmp_ne (pc' := 165) (tgt := 178) (off := 16) (by decide +kernel) (by decide) rfl c1 (by decide : R32 115) (am_ite2 (fun q16 => have h := g13 q16; z_aload (pc' := 167) (j := 4) (by decide +kernel) rfl rfl <| z_iload (pc' := 169) (j := 7) (by decide +kernel) rfl rfl <| h.elim fun c7 h => z_iaload (pc' := 170) (by decide +kernel) hr45 c7 rfl <| z_iconst (pc' := 171) (n := 1) (by decide +kernel) rfl <| h.elim fun c8 h => am_use (fun k11 => z_icmp_le (pc' := 174) (tgt := 178) (off := 7) (by decide +kernel) (by decide) rfl c8 (by decide : R32 1) (am_ite2 (fun q12 => z_iconst (pc' := 179) (n := 0) (by decide +kernel) rfl <| (am_jp (P := fun z9 => ZP G 12 m_X12_anomaly 179 [some (.ref m), some (iv c), none, some (.ref r40), some (.ref r45), some (iv v5), some (iv v6), some (iv v7), some (.ref r141)] [iv z9, iv (zI Z r141 (if c = 115 then v7 else 0).toNat), iv (if c = 115 then v7 else 0), .ref r141] _ Q) (b2_n q12) k11)) (fun q12 => z_iconst (pc' := 175) (n := 1) (by decide +kernel) rfl <| z_goto (tgt := 179) (off := 4) (by decide +kernel) (by decide) <| (am_jp (P := fun z9 => ZP G 12 m_X12_anomaly 179 [some (.ref m), some (iv c), none, some (.ref r40), some (.ref r45), some (iv v5), some (iv v6), some (iv v7), some (.ref r141)] [iv z9, iv (zI Z r141 (if c = 115 then v7 else 0).toNat), iv (if c = 115 then v7 else 0), .ref r141] _ Q) (b2_nn q12) k11)))) <| (am_jp (P := fun z9 => ZP G 12 m_X12_anomaly 179 [some (.ref m), some (iv c), none, some (.ref r40), some (.ref r45), some (iv v5), some (iv v6), some (iv v7), some (.ref r141)] [iv z9, iv (zI Z r141 (if c = 115 then v7 else 0).toNat), iv (if c = 115 then v7 else 0), .ref r141] _ Q) (b2_c1 q16) k15)) (fun q16 => z_iconst (pc' := 179) (n := 0) (by decide +kernel) rfl <| (am_jp (P := fun z9 => ZP G 12 m_X12_anomaly 179 [some (.ref m), some (iv c), none, some (.ref r40), some (.ref r45), some (iv v5), some (iv v6), some (iv v7), some (.ref r141)] [iv z9, iv (zI Z r141 (if c = 115 then v7 else 0).toNat), iv (if c = 115 then v7 else 0), .ref r141] _ Q) (b2_c2 q16) k15)))) <| z_isub (pc' := 180) (by decide +kernel) rfl <| z_iastore (pc' := 181) (by decide +kernel) hr141 c6 rfl <| have h := h _ rfl; z_aload_n (pc' := 182) (j := 0) (by decide +kernel) rfl rfl <| z_aload_n (pc' := 183) (j := 3) (by decide +kernel) rfl rfl <| z_aload (pc' := 185) (j := 8) (by decide +kernel) rfl rfl <| z_aload_n (pc' := 186) (j := 0) (by decide +kernel) rfl rfl <| z_getR (pc' := 189) (idx := 27) (ci := 12) (f := 6) (by decide +kernel) f_RX12_27 rfl hm.o.1 hm.o.2 hm.r6 rfl <| z_iconst (pc' := 190) (n := 0) (by decide +kernel) rfl <| z_iload_n (pc' := 191) (j := 1) (by decide +kernel) rfl rfl <| z_bipush (pc' := 193) (n := 110) (by decide +kernel) (by decide) rfl <| am_use (fun k20 => z_icmp_ne (pc' := 196) (tgt := 201) (off := 8) (by decide +kernel) (by decide) rfl c1 (by decide : R32 110) (am_ite2 (fun q21 => z_iload (pc' := 198) (j := 7) (by decide +kernel) rfl rfl <| z_goto (tgt := 202) (off := 4) (by decide +kernel) (by decide) <| (am_jp (P := fun z9 => ZP G 12 m_X12_anomaly 202 [some (.ref m), some (iv c), none, some (.ref r40), some (.ref r45), some (iv v5), some (iv v6), some (iv v7), some (.ref r141)] [iv z9, iv 0, .ref (m + 9), .ref r141, .ref r40, .ref m] _ Q) (if_pos q21) k20)) (fun q21 => z_iconst (pc' := 202) (n := -1) (by decide +kernel) rfl <| (am_jp (P := fun z9 => ZP G 12 m_X12_anomaly 202 [some (.ref m), some (iv c), none, some (.ref r40), some (.ref r45), some (iv v5), some (iv v6), some (iv v7), some (.ref r141)] [iv z9, iv 0, .ref (m + 9), .ref r141, .ref r40, .ref m] _ Q) (if_neg q21) k20)))) <| z_callV (pc' := 205) (idx := 268) (mj := m_X12_free) (av := [.ref r40, .ref r141, .ref (m + 9), iv 0, iv (if c = 110 then v7 else (-1))]) (d' := 11) (by decide +kernel) rfl k_X12_free l_RX12_268 rfl (by omega) (am_le rfl) rfl (am_le rfl) hm.o.1 hm.o.2 rfl (ZM.mono h (zKc_wk (wk_some (wk_some (wk_none (wk_some (wk_some (wk_some (wk_some (wk_some (wk_none wk_nil)))))))))))
set_option maxRecDepth 20000 in
theorem b_X12_anomaly_205 {G : Gx} {Q : Rv → Zm → Prop} {Z : Zm} {r40 : Nat} {Nr40 : Nat} {r45 : Nat} {m : Nat} {B : Nat} {c : Int} {v5 : Int} {v6 : Int} {v7 : Int} {s0 : Int} (hm : atModel Z m B) (hr40 : zA Z r40 100 Nr40) (hr45 : zA Z r45 100 20) (h : ((R32 s0) ∧ (R32 v5) ∧ (if s0 ≤ v5 then (ZP G 12 m_X12_anomaly 129 [some (.ref m), some (iv c), none, some (.ref r40), some (.ref r45), some (iv v5), some (iv v6), some (iv (v7 + 1)), none] [] Z Q) else (Q (.inl (some (iv v7))) Z)))) : ZP G 12 m_X12_anomaly 205 [some (.ref m), some (iv c), none, some (.ref r40), some (.ref r45), some (iv v5), some (iv v6), some (iv v7), none] [iv s0] Z Q := z_iload (pc' := 207) (j := 5) (by decide +kernel) rfl rfl <| h.elim fun c1 h => h.elim fun c2 h => z_icmp_le (pc' := 210) (tgt := 213) (off := 6) (by decide +kernel) (by decide) rfl c1 c2 (am_ite h (fun h => z_iinc (pc' := 216) (j := 7) (n := 1) (x := v7) (ls' := [some (.ref m), some (iv c), none, some (.ref r40), some (.ref r45), some (iv v5), some (iv v6), some (iv (v7 + 1)), none]) (by decide +kernel) rfl (by decide) rfl rfl <| z_goto (tgt := 129) (off := -87) (by decide +kernel) (by decide) <| h) (fun h => z_iload (pc' := 212) (j := 7) (by decide +kernel) rfl rfl <| z_ireturn (by decide +kernel) ⟨_, rfl, rfl⟩ h))
/-! ===== anomalies: the model ===== -/
theorem m_free {G : Gx} {Z : Zm} {B u q H l : Nat} {σ : St} {P : Sp} {L : Nat → Nat} (h : IMb Z B σ) (hz : 322 ≤ zSz Z) (hP : okP P) (hk : pK P = sK σ) (hu : isV Z u (kN (sK σ)) (pD P)) (hx : R32 (pX P)) (hq : mHd Z P q H 0) (hl : mLs Z P l L) : ZM G 2 m_X12_free [.ref 300, .ref l, .ref u, .ref q, iv 0, iv (pX P)] Z (fun r W => r = .inl (some (iv (enP P L))) ∧ zF mS 0 0 Z W ∧ IMb W B σ) := (s_free (h.cx hP hk hu) hx hq hl).mono fun r W g => by
  obtain ⟨g1, ⟨f, g', rfl⟩, -⟩ := g
  have fr : zF mS 0 0 Z (zSI (zSI Z 315 f) 316 g') := (zF_I (by unfold mS zB; omega)).trans (zF_I (by unfold mS zB; omega))
  exact ⟨g1, fr, h.m hz fr⟩
theorem d_anomaly {G : Gx} {Z : Zm} {B : Nat} {σ : St} {c y : Int} (h : IMb Z B σ) (ho : okS σ) (hz : 322 ≤ zSz Z ∧ zSz Z < 990000) (hc : R32 c) (hy : R32 y) : ZM G 12 m_X12_anomaly [.ref 300, iv c, iv y] Z (rM Z iv (o_anomaly σ c y)) := by
  have hN := ho.1.n
  have hM := ho.1.m
  have e9 : zIdx 9 c = zIdx 4 c := (zIdx_eq rfl c).symm
  have e8 : zIdx 8 y = zIdx 2 y := (zIdx_eq rfl y).symm
  refine e_X12_anomaly h.1 ⟨hc, zIdx_r32 _ _, fun _ => ⟨hy, zIdx_r32 _ _, trivial⟩, ?_⟩
  intro Y eY
  rw [e9, e8] at *
  unfold o_anomaly
  by_cases c1 : 0 ≤ zIdx 4 c ∧ 0 ≤ zIdx 2 y
  case neg =>
    rw [fC_1 (P := (zIdx 4 c < 0) ∨ (¬ (0 ≤ zIdx 2 y))) (by omega)] at eY ⊢
    rw [cIf_f c1, if_pos (by decide), eY]
    exact rM.no h (by decide) rfl
  rw [fC_o1 (P := (zIdx 4 c < 0) ∨ (¬ (0 ≤ zIdx 2 y))) (by omega)] at eY ⊢
  rw [cIf_p c1, if_neg (by decide)]
  have cc := z_hsn c1.1
  have eY : Y = zT Z 0 := eY
  have h1 : IMb Y B σ := by rw [eY]; exact h.t 0
  have sz : zSz Y = zSz Z := by rw [eY]; rfl
  have e19 : zI Y 300 19 = 0 := by rw [eY]; exact zI_t Z 0
  have v0 : zV 0 0 Z Y := by rw [eY]; exact zV_t
  clear eY
  have hzY : 322 ≤ zSz Y ∧ zSz Y < 990000 := by rw [sz]; exact hz
  refine ((s_listBy h1 ho.T hzY hy).deeper (by omega)).mono ?_
  rintro r W ⟨rfl, fW, hW, aW, ls, el⟩
  have hL : okL (sP0 σ) (vLs σ y) := ls.okL (P := sP0 σ)
  generalize hl : zSz Y + 4 = l at *
  have l322 : 322 ≤ l := by omega
  refine b_X12_anomaly_40 hW.1 aW (((m_len hW ho.T (mHz.f hzY fW (by omega))).deeper (by omega)).mono ?_)
  rintro r X ⟨rfl, fX, hX, vX⟩
  generalize hu : zSz W = u at *
  have fYX := fW.trans fX
  have aX := aW.ext fX.1
  have elX : ∀ p, p < kN (sK σ) → zI X l p = (vLs σ y p : Int) := fun p hp => by
    rw [fX.i aW.1 (by unfold mS zB; omega)]
    exact el p hp
  have zX' : 322 ≤ zSz X := Nat.le_trans hzY.1 fYX.sz
  refine b_X12_anomaly_45 hX.1 aX vX.1 ?_
  refine ((m_free (P := sP0 σ) (H := 3) hX zX' (sP0_ok ho) rfl vX (by show R32 (-1); decide) ⟨hX.1.a6, by decide, by decide, by decide, Or.inl ⟨rfl, fun t ht => ⟨rfl, rfl⟩, by decide, fun c hc => hX.ha c hc⟩⟩ ⟨aX, by omega, by omega, hL, elX⟩).deeper (by omega)).mono ?_
  rintro r V ⟨rfl, fV, hV⟩
  have vV := vX.fr fV
  have aV := aX.ext fV.1
  have fYV := fYX.trans fV
  have r0 := enP_r (sP0_ok ho) hL
  have zV' : 322 ≤ zSz V ∧ zSz V < 991000 := ⟨Nat.le_trans hzY.1 fYV.sz, by have := fYV.2.1.1; omega⟩
  have elV : ∀ p, p < kN (sK σ) → zI V l p = (vLs σ y p : Int) := fun p hp => by
    rw [fV.i aX.1 (by unfold mS zB; omega)]
    exact elX p hp
  -- the end
  have fin : ∀ {U : Zm} {a b : Nat} {v : Int}, IMb U B σ → zF mS a b V U → a ≤ 100 → b ≤ 2000 → v = anF σ c (vLs σ y) (anM σ c) 0 → rM Z iv (0, anF σ c (vLs σ y) (anM σ c) 0, σ) (.inl (some (iv v))) U := fun {U a b v} hU fU ha hb e => by
    have f3 := fYV.trans fU
    refine rM.ok hU ?_ (v0.trans (mS_v f3 hzY.1)) (by omega) (by omega) e
    rw [f3.i (by omega) (by unfold mS zB; omega)]
    exact e19
  refine b_X12_anomaly_60 hV.1 aV vV.1 ⟨hc, ?_⟩
  by_cases c4 : c = 104
  · rw [if_pos c4]
    refine ((s_copied (n := 3) hV.1.a6 (by omega) (by omega)).deeper (by omega)).mono ?_
    rintro r U ⟨rfl, fU, aU, eU⟩
    refine b_X12_anomaly_75 (hV.n zV'.1 fU).1 (aV.ext fU.1) (vV.1.ext fU.1) aU ⟨⟨by decide, by decide, by decide⟩, ?_⟩
    rintro _ rfl
    have fT : zF mS 1 3 V (zSI U (zSz V) (zu (zI U (zSz V)) 0 (zI U (zSz V) 0 + 1))) := (zNo_m fU).wr (Or.inr (Nat.le_refl _))
    have hT := hV.m zV'.1 fT
    have r1 := enP_r (P := anP σ c 0) (L := vLs σ y) (anP_ok ho c 0) hL
    have fr := m_free (G := G) (P := anP σ c 0) (H := 3) (q := zSz V) (L := vLs σ y) hT (Nat.le_trans zV'.1 fT.sz) (anP_ok ho c 0) rfl (u := u) ⟨vV.1.ext fT.1, vV.2.1, fun t ht => by
      rw [anP_d (by omega), fT.i vV.1.1 (by have := vV.2.1; unfold mS zB; omega)]
      exact vV.2.2 t ht⟩ (by
      show R32 (if c = 110 then ((0 : Nat) : Int) else -1)
      rw [if_neg (by omega)]
      decide) ⟨aU.s, by omega, by omega, by omega, Or.inl ⟨rfl, fun t ht => ⟨rfl, rfl⟩, by omega, fun s hs => by
      rw [zI_same]
      show _ = if c = 104 ∧ s = 0 then sA σ s + 1 else sA σ s
      by_cases e : s = 0
      · rw [e, zu_same, if_pos ⟨c4, rfl⟩, eU 0 (by omega)]
        exact congrArg (· + 1) (hV.ha 0 (by omega))
      · rw [zu_other e, if_neg fun q => e q.2, eU s hs]
        exact hV.ha s hs⟩⟩ (l := l) ⟨aV.ext fT.1, by omega, by omega, hL, fun p hp => by
      rw [fT.i aV.1 (by unfold mS zB; omega)]
      exact elV p hp⟩
    rw [show pX (anP σ c 0) = -1 from if_neg (by omega)] at fr
    refine (fr.deeper (by omega)).mono ?_
    rintro r T ⟨rfl, f2, hT2⟩
    refine b_X12_anomaly_96 hT2.1 ⟨by omega, by omega, ?_⟩
    refine fin hT2 (fT.trans f2) (by omega) (by omega) ?_
    have em : anM σ c = 1 := if_pos c4
    rw [em]
    show _ = cIf (enP (sP0 σ) (vLs σ y) < enP (anP σ c 0) (vLs σ y)) ((0 : Nat) : Int) (-1)
    by_cases d : enP (anP σ c 0) (vLs σ y) ≤ enP (sP0 σ) (vLs σ y)
    · rw [if_pos d, cIf_f (by omega)]
    · rw [if_neg d, cIf_p (by omega)]
      rfl
  · rw [if_neg c4]
    have em : (if c = 115 then zI V B 0 else zI V B 1) = (anM σ c : Int) := by
      unfold anM
      rw [if_neg c4, hV.2.2.1.1, hV.2.2.1.2.1]
      by_cases d : c = 115
      · rw [if_pos d, if_pos d]
      · rw [if_neg d, if_neg d]
    have mr := anM_r ho c
    rw [em]
    suffices key : ∀ j, j ≤ anM σ c → ∀ U, IMb U B σ → zF mS j (20 * j) V U → anF σ c (vLs σ y) (anM σ c) 0 = anF σ c (vLs σ y) (anM σ c - j) j → ZP G 12 m_X12_anomaly 129 [some (.ref 300), some (iv c), none, some (.ref l), some (.ref u), some (iv (enP (sP0 σ) (vLs σ y))), some (iv (anM σ c : Int)), some (iv (j : Int)), none] [] U (rM Z iv (0, anF σ c (vLs σ y) (anM σ c) 0, σ)) from key 0 (Nat.zero_le _) V hV zF.refl rfl
    refine am_up (n := anM σ c) fun j hj ih U hU fU ej => ?_
    have vU := vV.fr fU
    have aU := aV.ext fU.1
    have elU : ∀ p, p < kN (sK σ) → zI U l p = (vLs σ y p : Int) := fun p hp => by
      rw [fU.i aV.1 (by unfold mS zB; omega)]
      exact elV p hp
    have zU : 322 ≤ zSz U ∧ zSz U < 992000 := ⟨Nat.le_trans zV'.1 fU.sz, by have := fU.2.1.1; omega⟩
    refine b_X12_anomaly_129 hU.1 aU vU.1 ⟨by omega, by omega, ?_⟩
    by_cases cj : j < anM σ c
    case neg =>
      rw [if_pos (by omega)]
      refine fin hU fU (by omega) (by omega) ?_
      rw [ej, show anM σ c - j = 0 by omega]
      rfl
    rw [if_neg (by omega)]
    have en : anF σ c (vLs σ y) (anM σ c - j) j = cIf (enP (sP0 σ) (vLs σ y) < enP (anP σ c j) (vLs σ y)) (j : Int) (anF σ c (vLs σ y) (anM σ c - (j + 1)) (j + 1)) := by
      rw [show anM σ c - j = anM σ c - (j + 1) + 1 by omega]
      rfl
    have j20 : c = 115 → j < kN (sK σ) := fun q => by
      unfold anM at cj
      rw [if_neg c4, if_pos q] at cj
      exact cj
    refine ((s_copied (n := 20) vU.1 (by omega) (by omega)).deeper (by omega)).mono ?_
    rintro r T ⟨rfl, fT, aT, eT⟩
    have huT : ∀ t, t < kN (sK σ) → zI T u t = kF (sK σ) 0 t := fun t ht => by
      rw [fT.i vU.1.1 (fun g => g)]
      exact vU.2.2 t ht
    refine b_X12_anomaly_141 (hU.n zU.1 fT).1 (aU.ext fT.1) (vU.1.ext fT.1) aT ⟨hc, ?_, fun q => ⟨zIx_nat (by have := j20 q; omega) (by omega), ?_, trivial⟩, ?_⟩
    · by_cases d : c = 115
      · rw [if_pos d]
        exact zIx_nat (by have := j20 d; omega) (by omega)
      · rw [if_neg d]
        exact ⟨by decide, by decide, by decide⟩
    · rw [Int.toNat_natCast, huT j (j20 q)]
      have := ho.1.len (j20 q)
      omega
    intro Z17 e17
    have f17 : zF mS 1 20 U Z17 := by
      rw [e17]
      exact (zNo_m fT).wr (Or.inr (Nat.le_refl _))
    have a17 : zA Z17 (zSz U) 100 20 := by
      rw [e17]
      exact aT.s
    have v17 : ∀ t, t < kN (sK σ) → zI Z17 (zSz U) t = pD (anP σ c j) t := fun t ht => by
      rw [e17, zI_same, Int.toNat_natCast]
      have e0 : ∀ t, t < kN (sK σ) → zI T (zSz U) t = kF (sK σ) 0 t := fun t ht => by rw [eT t (by omega)]; exact vU.2.2 t ht
      show _ = if c = 115 ∧ t = j ∧ 1 < kF (sK σ) 0 t then kF (sK σ) 0 t - 1 else kF (sK σ) 0 t
      by_cases d : c = 115
      · have hj' := j20 d
        rw [if_pos d, Int.toNat_natCast, huT j hj']
        by_cases e : t = j
        · rw [e, zu_same, e0 j hj']
          by_cases g : kF (sK σ) 0 j ≤ 1
          · rw [b2_f (fun q => q.2 g), if_neg (fun q => by have := q.2.2; omega)]
            omega
          · rw [b2_p ⟨d, g⟩, if_pos ⟨d, rfl, by omega⟩]
        · rw [zu_other e, if_neg fun q => e q.2.1]
          exact e0 t ht
      · rw [if_neg d, if_neg fun q => d q.1, b2_f (fun q => d q.1), Int.sub_zero, zu_id]
        exact e0 t ht
    clear e17
    have h17 := hU.m zU.1 f17
    have r1 := enP_r (P := anP σ c j) (L := vLs σ y) (anP_ok ho c j) hL
    have fr := m_free (G := G) (P := anP σ c j) (H := 3) (q := 309) (L := vLs σ y) h17 (Nat.le_trans zU.1 f17.sz) (anP_ok ho c j) rfl (u := zSz U) ⟨a17, zU.1, v17⟩ (by
      show R32 (if c = 110 then (j : Int) else -1)
      split <;> omega) ⟨h17.1.a6, by omega, by omega, by omega, Or.inl ⟨rfl, fun t ht => ⟨rfl, rfl⟩, by omega, fun s hs => by
      show _ = if c = 104 ∧ s = 0 then sA σ s + 1 else sA σ s
      rw [if_neg fun q => c4 q.1]
      exact h17.ha s hs⟩⟩ (l := l) ⟨aU.ext f17.1, by omega, by omega, hL, fun p hp => by
      rw [f17.i aU.1 (by unfold mS zB; omega)]
      exact elU p hp⟩
    refine (fr.deeper (by omega)).mono ?_
    rintro r S ⟨rfl, f2, hS⟩
    have fS := f17.trans f2
    have vS := vU.fr fS
    refine b_X12_anomaly_205 hS.1 (aU.ext fS.1) vS.1 ⟨by omega, by omega, ?_⟩
    by_cases d : enP (anP σ c j) (vLs σ y) ≤ enP (sP0 σ) (vLs σ y)
    · rw [if_pos d]
      refine ih cj S hS ((fU.trans fS).mono (fun _ q => q) (by omega) (by omega)) ?_
      rw [ej, en, cIf_f (by omega)]
    · rw [if_neg d]
      refine fin hS (fU.trans fS) (by omega) (by omega) ?_
      rw [ej, en, cIf_p (by omega)]
