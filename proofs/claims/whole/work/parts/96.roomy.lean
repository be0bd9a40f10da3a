set_option maxRecDepth 20000 in
theorem e_X12_worksAt {G : Gx} {Q : Rv → Zm → Prop} {Z : Zm} {m : Nat} {B : Nat} {x : Int} {u : Nat} (hm : atModel Z m B) (hu : zA Z u 100 20) (h : (ZP G 1 m_X12_worksAt 5 [some (.ref m), some (iv x), some (.ref u), some (iv 0), some (iv 0)] [] Z Q)) : ZM G 1 m_X12_worksAt [.ref m, iv x, .ref u] Z Q := ZM.of [some (.ref m), some (iv x), some (.ref u), none, none] rfl <| z_iconst (pc' := 1) (n := 0) (by decide +kernel) rfl <| z_istore_n (pc' := 2) (j := 3) (ls' := [some (.ref m), some (iv x), some (.ref u), some (iv 0), none]) (by decide +kernel) (by decide) rfl rfl <| z_iconst (pc' := 3) (n := 0) (by decide +kernel) rfl <| z_istore (pc' := 5) (j := 4) (ls' := [some (.ref m), some (iv x), some (.ref u), some (iv 0), some (iv 0)]) (by decide +kernel) (by decide) rfl rfl <| h
set_option maxRecDepth 20000 in
theorem b_X12_worksAt_5 {G : Gx} {Q : Rv → Zm → Prop} {Z : Zm} {m : Nat} {B : Nat} {x : Int} {u : Nat} {v3 : Int} {v4 : Int} (hm : atModel Z m B) (hu : zA Z u 100 20) (h : ((R32 v4) ∧ (R32 (zI Z B 0)) ∧ (if (zI Z B 0) ≤ v4 then (Q (.inl (some (iv v3))) Z) else (ZM G 0 m_X12_meets [.ref m, iv v4, iv x, iv (x + 1), .ref u] Z (zKc G 1 m_X12_worksAt 26 [some (.ref m), some (iv x), some (.ref u), none, some (iv v4)] [iv v3] Q))))) : ZP G 1 m_X12_worksAt 5 [some (.ref m), some (iv x), some (.ref u), some (iv v3), some (iv v4)] [] Z Q := z_iload (pc' := 7) (j := 4) (by decide +kernel) rfl rfl <| z_aload_n (pc' := 8) (j := 0) (by decide +kernel) rfl rfl <| z_callV (pc' := 11) (idx := 64) (mj := m_X12_many) (av := []) (d' := 0) (by decide +kernel) rfl k_X12_many l_RX12_64 rfl (by omega) (am_le rfl) rfl (am_le rfl) hm.o.1 hm.o.2 rfl <| zKf (s_many hm) <| h.elim fun c1 h => h.elim fun c2 h => z_icmp_ge (pc' := 14) (tgt := 42) (off := 31) (by decide +kernel) (by decide) rfl c1 c2 (am_ite h (fun h => z_iload_n (pc' := 43) (j := 3) (by decide +kernel) rfl rfl <| z_ireturn (by decide +kernel) ⟨_, rfl, rfl⟩ h) (fun h => z_iload_n (pc' := 15) (j := 3) (by decide +kernel) rfl rfl <| z_aload_n (pc' := 16) (j := 0) (by decide +kernel) rfl rfl <| z_iload (pc' := 18) (j := 4) (by decide +kernel) rfl rfl <| z_iload_n (pc' := 19) (j := 1) (by decide +kernel) rfl rfl <| z_iload_n (pc' := 20) (j := 1) (by decide +kernel) rfl rfl <| z_iconst (pc' := 21) (n := 1) (by decide +kernel) rfl <| z_iadd (pc' := 22) (by decide +kernel) rfl <| z_aload_n (pc' := 23) (j := 2) (by decide +kernel) rfl rfl <| z_callV (pc' := 26) (idx := 239) (mj := m_X12_meets) (av := [iv v4, iv x, iv (x + 1), .ref u]) (d' := 0) (by decide +kernel) rfl k_X12_meets l_RX12_239 rfl (by omega) (am_le rfl) rfl (am_le rfl) hm.o.1 hm.o.2 rfl (ZM.mono h (zKc_wk (wk_some (wk_some (wk_some (wk_none (wk_some wk_nil)))))))))
set_option maxRecDepth 20000 in
theorem b_X12_worksAt_26 {G : Gx} {Q : Rv → Zm → Prop} {Z : Zm} {m : Nat} {B : Nat} {x : Int} {u : Nat} {v4 : Int} {s0 : Int} {s1 : Int} (hm : atModel Z m B) (hu : zA Z u 100 20) (h : ((R32 s0) ∧ ZP G 1 m_X12_worksAt 5 [some (.ref m), some (iv x), some (.ref u), some (iv (s1 + (b2 (¬ (s0 = 0))))), some (iv (v4 + 1))] [] Z Q)) : ZP G 1 m_X12_worksAt 26 [some (.ref m), some (iv x), some (.ref u), none, some (iv v4)] [iv s0, iv s1] Z Q := h.elim fun c1 h => am_use (fun k4 => z_if_eq (pc' := 29) (tgt := 33) (off := 7) (by decide +kernel) (by decide) rfl c1 (am_ite2 (fun q5 => z_iconst (pc' := 34) (n := 0) (by decide +kernel) rfl <| (am_jp (P := fun z9 => ZP G 1 m_X12_worksAt 34 [some (.ref m), some (iv x), some (.ref u), none, some (iv v4)] [iv z9, iv s1] _ Q) (b2_n q5) k4)) (fun q5 => z_iconst (pc' := 30) (n := 1) (by decide +kernel) rfl <| z_goto (tgt := 34) (off := 4) (by decide +kernel) (by decide) <| (am_jp (P := fun z9 => ZP G 1 m_X12_worksAt 34 [some (.ref m), some (iv x), some (.ref u), none, some (iv v4)] [iv z9, iv s1] _ Q) (b2_nn q5) k4)))) <| z_iadd (pc' := 35) (by decide +kernel) rfl <| z_istore_n (pc' := 36) (j := 3) (ls' := [some (.ref m), some (iv x), some (.ref u), some (iv (s1 + (b2 (¬ (s0 = 0))))), some (iv v4)]) (by decide +kernel) (by decide) rfl rfl <| z_iinc (pc' := 39) (j := 4) (n := 1) (x := v4) (ls' := [some (.ref m), some (iv x), some (.ref u), some (iv (s1 + (b2 (¬ (s0 = 0))))), some (iv (v4 + 1))]) (by decide +kernel) rfl (by decide) rfl rfl <| z_goto (tgt := 5) (off := -34) (by decide +kernel) (by decide) <| h
set_option maxRecDepth 20000 in
theorem e_X12_isRoom {G : Gx} {Q : Rv → Zm → Prop} {Z : Zm} {m : Nat} {B : Nat} {x : Int} {y : Int} {u : Nat} {z : Int} (hm : atModel Z m B) (hu : zA Z u 100 20) (h : (ZM G 1 m_X12_worksAt [.ref m, iv x, .ref u] Z (zKc G 2 m_X12_isRoom 6 [some (.ref m), some (iv x), some (iv y), some (.ref u), some (iv z), none, none] [] Q))) : ZM G 2 m_X12_isRoom [.ref m, iv x, iv y, .ref u, iv z] Z Q := ZM.of [some (.ref m), some (iv x), some (iv y), some (.ref u), some (iv z), none, none] rfl <| z_aload_n (pc' := 1) (j := 0) (by decide +kernel) rfl rfl <| z_iload_n (pc' := 2) (j := 1) (by decide +kernel) rfl rfl <| z_aload_n (pc' := 3) (j := 3) (by decide +kernel) rfl rfl <| z_callV (pc' := 6) (idx := 302) (mj := m_X12_worksAt) (av := [iv x, .ref u]) (d' := 1) (by decide +kernel) rfl k_X12_worksAt l_RX12_302 rfl (by omega) (am_le rfl) rfl (am_le rfl) hm.o.1 hm.o.2 rfl h
set_option maxRecDepth 20000 in
theorem b_X12_isRoom_6 {G : Gx} {Q : Rv → Zm → Prop} {Z : Zm} {m : Nat} {B : Nat} {x : Int} {y : Int} {u : Nat} {z : Int} {s0 : Int} (hm : atModel Z m B) (hu : zA Z u 100 20) (h : ((R32 s0) ∧ (R32 z) ∧ ZP G 2 m_X12_isRoom 21 [some (.ref m), some (iv x), some (iv y), some (.ref u), some (iv z), some (iv (b2 (¬ (z ≤ s0)))), some (iv 0)] [] Z Q)) : ZP G 2 m_X12_isRoom 6 [some (.ref m), some (iv x), some (iv y), some (.ref u), some (iv z), none, none] [iv s0] Z Q := z_iload (pc' := 8) (j := 4) (by decide +kernel) rfl rfl <| h.elim fun c1 h => h.elim fun c2 h => am_use (fun k5 => z_icmp_ge (pc' := 11) (tgt := 15) (off := 7) (by decide +kernel) (by decide) rfl c1 c2 (am_ite2 (fun q6 => z_iconst (pc' := 16) (n := 0) (by decide +kernel) rfl <| (am_jp (P := fun z9 => ZP G 2 m_X12_isRoom 16 [some (.ref m), some (iv x), some (iv y), some (.ref u), some (iv z), none, none] [iv z9] _ Q) (b2_n q6) k5)) (fun q6 => z_iconst (pc' := 12) (n := 1) (by decide +kernel) rfl <| z_goto (tgt := 16) (off := 4) (by decide +kernel) (by decide) <| (am_jp (P := fun z9 => ZP G 2 m_X12_isRoom 16 [some (.ref m), some (iv x), some (iv y), some (.ref u), some (iv z), none, none] [iv z9] _ Q) (b2_nn q6) k5)))) <| z_istore (pc' := 18) (j := 5) (ls' := [some (.ref m), some (iv x), some (iv y), some (.ref u), some (iv z), some (iv (b2 (¬ (z ≤ s0)))), none]) (by decide +kernel) (by decide) rfl rfl <| z_iconst (pc' := 19) (n := 0) (by decide +kernel) rfl <| z_istore (pc' := 21) (j := 6) (ls' := [some (.ref m), some (iv x), some (iv y), some (.ref u), some (iv z), some (iv (b2 (¬ (z ≤ s0)))), some (iv 0)]) (by decide +kernel) (by decide) rfl rfl <| h
set_option maxRecDepth 20000 in
theorem b_X12_isRoom_21 {G : Gx} {Q : Rv → Zm → Prop} {Z : Zm} {m : Nat} {B : Nat} {x : Int} {y : Int} {u : Nat} {z : Int} {v5 : Int} {v6 : Int} (hm : atModel Z m B) (hu : zA Z u 100 20) (h : ((R32 v6) ∧ (R32 (zI Z B 0)) ∧ (if (zI Z B 0) ≤ v6 then ((v5 = 0 ∨ v5 = 1) ∧ Q (.inl (some (iv v5))) Z) else ((R32 v5) ∧ (if v5 = 0 then ((v5 = 0 ∨ v5 = 1) ∧ Q (.inl (some (iv v5))) Z) else ((zIx v6 20) ∧ (R32 (zI Z (m + 15) v6.toNat)) ∧ (if (zI Z (m + 15) v6.toNat) = (-1) then (ZP G 2 m_X12_isRoom 21 [some (.ref m), some (iv x), some (iv y), some (.ref u), some (iv z), some (iv 1), some (iv (v6 + 1))] [] Z Q) else ((R32 x) ∧ (if (zI Z (m + 15) v6.toNat) ≤ x then (ZP G 2 m_X12_isRoom 21 [some (.ref m), some (iv x), some (iv y), some (.ref u), some (iv z), some (iv 1), some (iv (v6 + 1))] [] Z Q) else ((R32 y) ∧ (if y ≤ (zI Z (m + 15) v6.toNat) then (ZP G 2 m_X12_isRoom 21 [some (.ref m), some (iv x), some (iv y), some (.ref u), some (iv z), some (iv 1), some (iv (v6 + 1))] [] Z Q) else (ZM G 1 m_X12_worksAt [.ref m, iv (zI Z (m + 15) v6.toNat), .ref u] Z (zKc G 2 m_X12_isRoom 80 [some (.ref m), some (iv x), some (iv y), some (.ref u), some (iv z), none, some (iv v6)] [] Q))))))))))))) : ZP G 2 m_X12_isRoom 21 [some (.ref m), some (iv x), some (iv y), some (.ref u), some (iv z), some (iv v5), some (iv v6)] [] Z Q := z_iload (pc' := 23) (j := 6) (by decide +kernel) rfl rfl <| z_aload_n (pc' := 24) (j := 0) (by decide +kernel) rfl rfl <| z_callV (pc' := 27) (idx := 64) (mj := m_X12_many) (av := []) (d' := 0) (by decide +kernel) rfl k_X12_many l_RX12_64 rfl (by omega) (am_le rfl) rfl (am_le rfl) hm.o.1 hm.o.2 rfl <| zKf (s_many hm) <| h.elim fun c1 h => h.elim fun c2 h => z_icmp_ge (pc' := 30) (tgt := 98) (off := 71) (by decide +kernel) (by decide) rfl c1 c2 (am_ite h (fun h => z_iload (pc' := 100) (j := 5) (by decide +kernel) rfl rfl <| h.elim fun c8 h => z_ireturn (by decide +kernel) (am_rb c8) h) (fun h => z_iload (pc' := 32) (j := 5) (by decide +kernel) rfl rfl <| h.elim fun c9 h => z_if_eq (pc' := 35) (tgt := 98) (off := 66) (by decide +kernel) (by decide) rfl c9 (am_ite h (fun h => z_iload (pc' := 100) (j := 5) (by decide +kernel) rfl rfl <| h.elim fun c14 h => z_ireturn (by decide +kernel) (am_rb c14) h) (fun h => z_aload_n (pc' := 36) (j := 0) (by decide +kernel) rfl rfl <| z_getR (pc' := 39) (idx := 45) (ci := 12) (f := 17) (by decide +kernel) f_RX12_45 rfl hm.o.1 hm.o.2 hm.r17 rfl <| z_iload (pc' := 41) (j := 6) (by decide +kernel) rfl rfl <| h.elim fun c15 h => z_iaload (pc' := 42) (by decide +kernel) hm.a17 c15 rfl <| z_iconst (pc' := 43) (n := -1) (by decide +kernel) rfl <| h.elim fun c16 h => z_icmp_eq (pc' := 46) (tgt := 85) (off := 42) (by decide +kernel) (by decide) rfl c16 (by decide : R32 (-1)) (am_ite h (fun h => z_iconst (pc' := 86) (n := 1) (by decide +kernel) rfl <| z_goto (tgt := 90) (off := 4) (by decide +kernel) (by decide) <| z_istore (pc' := 92) (j := 5) (ls' := [some (.ref m), some (iv x), some (iv y), some (.ref u), some (iv z), some (iv 1), some (iv v6)]) (by decide +kernel) (by decide) rfl rfl <| z_iinc (pc' := 95) (j := 6) (n := 1) (x := v6) (ls' := [some (.ref m), some (iv x), some (iv y), some (.ref u), some (iv z), some (iv 1), some (iv (v6 + 1))]) (by decide +kernel) rfl (by decide) rfl rfl <| z_goto (tgt := 21) (off := -74) (by decide +kernel) (by decide) <| h) (fun h => z_aload_n (pc' := 47) (j := 0) (by decide +kernel) rfl rfl <| z_getR (pc' := 50) (idx := 45) (ci := 12) (f := 17) (by decide +kernel) f_RX12_45 rfl hm.o.1 hm.o.2 hm.r17 rfl <| z_iload (pc' := 52) (j := 6) (by decide +kernel) rfl rfl <| z_iaload (pc' := 53) (by decide +kernel) hm.a17 c15 rfl <| z_iload_n (pc' := 54) (j := 1) (by decide +kernel) rfl rfl <| h.elim fun c19 h => z_icmp_le (pc' := 57) (tgt := 85) (off := 31) (by decide +kernel) (by decide) rfl c16 c19 (am_ite h (fun h => z_iconst (pc' := 86) (n := 1) (by decide +kernel) rfl <| z_goto (tgt := 90) (off := 4) (by decide +kernel) (by decide) <| z_istore (pc' := 92) (j := 5) (ls' := [some (.ref m), some (iv x), some (iv y), some (.ref u), some (iv z), some (iv 1), some (iv v6)]) (by decide +kernel) (by decide) rfl rfl <| z_iinc (pc' := 95) (j := 6) (n := 1) (x := v6) (ls' := [some (.ref m), some (iv x), some (iv y), some (.ref u), some (iv z), some (iv 1), some (iv (v6 + 1))]) (by decide +kernel) rfl (by decide) rfl rfl <| z_goto (tgt := 21) (off := -74) (by decide +kernel) (by decide) <| h) (fun h => z_aload_n (pc' := 58) (j := 0) (by decide +kernel) rfl rfl <| z_getR (pc' := 61) (idx := 45) (ci := 12) (f := 17) (by decide +kernel) f_RX12_45 rfl hm.o.1 hm.o.2 hm.r17 rfl <| z_iload (pc' := 63) (j := 6) (by decide +kernel) rfl rfl <| z_iaload (pc' := 64) (by decide +kernel) hm.a17 c15 rfl <| z_iload_n (pc' := 65) (j := 2) (by decide +kernel) rfl rfl <| h.elim fun c21 h => z_icmp_ge (pc' := 68) (tgt := 85) (off := 20) (by decide +kernel) (by decide) rfl c16 c21 (am_ite h (fun h => z_iconst (pc' := 86) (n := 1) (by decide +kernel) rfl <| z_goto (tgt := 90) (off := 4) (by decide +kernel) (by decide) <| z_istore (pc' := 92) (j := 5) (ls' := [some (.ref m), some (iv x), some (iv y), some (.ref u), some (iv z), some (iv 1), some (iv v6)]) (by decide +kernel) (by decide) rfl rfl <| z_iinc (pc' := 95) (j := 6) (n := 1) (x := v6) (ls' := [some (.ref m), some (iv x), some (iv y), some (.ref u), some (iv z), some (iv 1), some (iv (v6 + 1))]) (by decide +kernel) rfl (by decide) rfl rfl <| z_goto (tgt := 21) (off := -74) (by decide +kernel) (by decide) <| h) (fun h => z_aload_n (pc' := 69) (j := 0) (by decide +kernel) rfl rfl <| z_aload_n (pc' := 70) (j := 0) (by decide +kernel) rfl rfl <| z_getR (pc' := 73) (idx := 45) (ci := 12) (f := 17) (by decide +kernel) f_RX12_45 rfl hm.o.1 hm.o.2 hm.r17 rfl <| z_iload (pc' := 75) (j := 6) (by decide +kernel) rfl rfl <| z_iaload (pc' := 76) (by decide +kernel) hm.a17 c15 rfl <| z_aload_n (pc' := 77) (j := 3) (by decide +kernel) rfl rfl <| z_callV (pc' := 80) (idx := 302) (mj := m_X12_worksAt) (av := [iv (zI Z (m + 15) v6.toNat), .ref u]) (d' := 1) (by decide +kernel) rfl k_X12_worksAt l_RX12_302 rfl (by omega) (am_le rfl) rfl (am_le rfl) hm.o.1 hm.o.2 rfl (ZM.mono h (zKc_wk (wk_some (wk_some (wk_some (wk_some (wk_some (wk_none (wk_some wk_nil)))))))))))))))))))
set_option maxRecDepth 20000 in
theorem b_X12_isRoom_80 {G : Gx} {Q : Rv → Zm → Prop} {Z : Zm} {m : Nat} {B : Nat} {x : Int} {y : Int} {u : Nat} {z : Int} {v6 : Int} {s0 : Int} (hm : atModel Z m B) (hu : zA Z u 100 20) (h : ((R32 s0) ∧ (R32 z) ∧ ZP G 2 m_X12_isRoom 21 [some (.ref m), some (iv x), some (iv y), some (.ref u), some (iv z), some (iv (b2 (¬ (z ≤ s0)))), some (iv (v6 + 1))] [] Z Q)) : ZP G 2 m_X12_isRoom 80 [some (.ref m), some (iv x), some (iv y), some (.ref u), some (iv z), none, some (iv v6)] [iv s0] Z Q := z_iload (pc' := 82) (j := 4) (by decide +kernel) rfl rfl <| h.elim fun c1 h => h.elim fun c2 h => am_use (fun k5 => z_icmp_ge (pc' := 85) (tgt := 89) (off := 7) (by decide +kernel) (by decide) rfl c1 c2 (am_ite2 (fun q6 => z_iconst (pc' := 90) (n := 0) (by decide +kernel) rfl <| (am_jp (P := fun z9 => ZP G 2 m_X12_isRoom 90 [some (.ref m), some (iv x), some (iv y), some (.ref u), some (iv z), none, some (iv v6)] [iv z9] _ Q) (b2_n q6) k5)) (fun q6 => z_iconst (pc' := 86) (n := 1) (by decide +kernel) rfl <| z_goto (tgt := 90) (off := 4) (by decide +kernel) (by decide) <| (am_jp (P := fun z9 => ZP G 2 m_X12_isRoom 90 [some (.ref m), some (iv x), some (iv y), some (.ref u), some (iv z), none, some (iv v6)] [iv z9] _ Q) (b2_nn q6) k5)))) <| z_istore (pc' := 92) (j := 5) (ls' := [some (.ref m), some (iv x), some (iv y), some (.ref u), some (iv z), some (iv (b2 (¬ (z ≤ s0)))), some (iv v6)]) (by decide +kernel) (by decide) rfl rfl <| z_iinc (pc' := 95) (j := 6) (n := 1) (x := v6) (ls' := [some (.ref m), some (iv x), some (iv y), some (.ref u), some (iv z), some (iv (b2 (¬ (z ≤ s0)))), some (iv (v6 + 1))]) (by decide +kernel) rfl (by decide) rfl rfl <| z_goto (tgt := 21) (off := -74) (by decide +kernel) (by decide) <| h
set_option maxRecDepth 20000 in
theorem e_X12_roomy {G : Gx} {Q : Rv → Zm → Prop} {Z : Zm} {m : Nat} {B : Nat} {l : Nat} {L : Nat} {u : Nat} {x : Int} (hm : atModel Z m B) (hl : zA Z l 100 L) (hu : zA Z u 100 20) (h : (ZM G 2 m_X12_triesNone [.ref m] Z (zKc G 3 m_X12_roomy 4 [some (.ref m), some (.ref l), some (.ref u), some (iv x), none, none, none, none, none, none] [] Q))) : ZM G 3 m_X12_roomy [.ref m, .ref l, .ref u, iv x] Z Q := ZM.of [some (.ref m), some (.ref l), some (.ref u), some (iv x), none, none, none, none, none, none] rfl <| z_aload_n (pc' := 1) (j := 0) (by decide +kernel) rfl rfl <| z_callV (pc' := 4) (idx := 243) (mj := m_X12_triesNone) (av := []) (d' := 2) (by decide +kernel) rfl k_X12_triesNone l_RX12_243 rfl (by omega) (am_le rfl) rfl (am_le rfl) hm.o.1 hm.o.2 rfl h
set_option maxRecDepth 20000 in
theorem b_X12_roomy_4 {G : Gx} {Q : Rv → Zm → Prop} {Z : Zm} {m : Nat} {B : Nat} {l : Nat} {L : Nat} {u : Nat} {x : Int}  (hm : atModel Z m B) (hl : zA Z l 100 L) (hu : zA Z u 100 20) (h : (ZM G 2 m_X12_nextOf [.ref m, .ref l, .ref u] Z (zKc G 3 m_X12_roomy 10 [some (.ref m), some (.ref l), some (.ref u), some (iv x), none, none, none, none, none, none] [] Q))) : ZP G 3 m_X12_roomy 4 [some (.ref m), some (.ref l), some (.ref u), some (iv x), none, none, none, none, none, none] [] Z Q := z_aload_n (pc' := 5) (j := 0) (by decide +kernel) rfl rfl <| z_aload_n (pc' := 6) (j := 1) (by decide +kernel) rfl rfl <| z_aload_n (pc' := 7) (j := 2) (by decide +kernel) rfl rfl <| z_callV (pc' := 10) (idx := 262) (mj := m_X12_nextOf) (av := [.ref l, .ref u]) (d' := 2) (by decide +kernel) rfl k_X12_nextOf l_RX12_262 rfl (by omega) (am_le rfl) rfl (am_le rfl) hm.o.1 hm.o.2 rfl h
set_option maxRecDepth 20000 in
theorem b_X12_roomy_10 {G : Gx} {Q : Rv → Zm → Prop} {Z : Zm} {m : Nat} {B : Nat} {l : Nat} {L : Nat} {u : Nat} {x : Int} {s0 : Int} (hm : atModel Z m B) (hl : zA Z l 100 L) (hu : zA Z u 100 20) (h : (ZP G 3 m_X12_roomy 12 [some (.ref m), some (.ref l), some (.ref u), some (iv x), some (iv s0), none, none, none, none, none] [] Z Q)) : ZP G 3 m_X12_roomy 10 [some (.ref m), some (.ref l), some (.ref u), some (iv x), none, none, none, none, none, none] [iv s0] Z Q := z_istore (pc' := 12) (j := 4) (ls' := [some (.ref m), some (.ref l), some (.ref u), some (iv x), some (iv s0), none, none, none, none, none]) (by decide +kernel) (by decide) rfl rfl <| h
set_option maxRecDepth 20000 in
theorem b_X12_roomy_12 {G : Gx} {Q : Rv → Zm → Prop} {Z : Zm} {m : Nat} {B : Nat} {l : Nat} {L : Nat} {u : Nat} {x : Int} {v4 : Int} (hm : atModel Z m B) (hl : zA Z l 100 L) (hu : zA Z u 100 20) (h : ((R32 v4) ∧ (if v4 = (-1) then (ZM G 2 m_X12_endBy [.ref m, .ref (m + 15), .ref u] Z (zKc G 3 m_X12_roomy 181 [none, none, none, none, none, none, none, none, none, none] [] Q)) else (ZM G 2 m_X12_letBy [.ref m, iv v4, .ref u, iv (-1)] Z (zKc G 3 m_X12_roomy 26 [some (.ref m), some (.ref l), some (.ref u), some (iv x), some (iv v4), none, none, none, none, none] [] Q))))) : ZP G 3 m_X12_roomy 12 [some (.ref m), some (.ref l), some (.ref u), some (iv x), some (iv v4), none, none, none, none, none] [] Z Q := z_iload (pc' := 14) (j := 4) (by decide +kernel) rfl rfl <| z_iconst (pc' := 15) (n := -1) (by decide +kernel) rfl <| h.elim fun c1 h => z_icmp_eq (pc' := 18) (tgt := 172) (off := 157) (by decide +kernel) (by decide) rfl c1 (by decide : R32 (-1)) (am_ite h (fun h => z_aload_n (pc' := 173) (j := 0) (by decide +kernel) rfl rfl <| z_aload_n (pc' := 174) (j := 0) (by decide +kernel) rfl rfl <| z_getR (pc' := 177) (idx := 45) (ci := 12) (f := 17) (by decide +kernel) f_RX12_45 rfl hm.o.1 hm.o.2 hm.r17 rfl <| z_aload_n (pc' := 178) (j := 2) (by decide +kernel) rfl rfl <| z_callV (pc' := 181) (idx := 112) (mj := m_X12_endBy) (av := [.ref (m + 15), .ref u]) (d' := 2) (by decide +kernel) rfl k_X12_endBy l_RX12_112 rfl (by omega) (am_le rfl) rfl (am_le rfl) hm.o.1 hm.o.2 rfl (ZM.mono h (zKc_wk (wk_none (wk_none (wk_none (wk_none (wk_none (wk_none (wk_none (wk_none (wk_none (wk_none wk_nil))))))))))))) (fun h => z_aload_n (pc' := 19) (j := 0) (by decide +kernel) rfl rfl <| z_iload (pc' := 21) (j := 4) (by decide +kernel) rfl rfl <| z_aload_n (pc' := 22) (j := 2) (by decide +kernel) rfl rfl <| z_iconst (pc' := 23) (n := -1) (by decide +kernel) rfl <| z_callV (pc' := 26) (idx := 246) (mj := m_X12_letBy) (av := [iv v4, .ref u, iv (-1)]) (d' := 2) (by decide +kernel) rfl k_X12_letBy l_RX12_246 rfl (by omega) (am_le rfl) rfl (am_le rfl) hm.o.1 hm.o.2 rfl h))
set_option maxRecDepth 20000 in
theorem b_X12_roomy_181 {G : Gx} {Q : Rv → Zm → Prop} {Z : Zm} {m : Nat} {B : Nat} {l : Nat} {L : Nat} {u : Nat} {s0 : Int} (hm : atModel Z m B) (hl : zA Z l 100 L) (hu : zA Z u 100 20) (h : (Q (.inl (some (iv s0))) Z)) : ZP G 3 m_X12_roomy 181 [none, none, none, none, none, none, none, none, none, none] [iv s0] Z Q := z_ireturn (by decide +kernel) ⟨_, rfl, rfl⟩ h
set_option maxRecDepth 20000 in
theorem b_X12_roomy_26 {G : Gx} {Q : Rv → Zm → Prop} {Z : Zm} {m : Nat} {B : Nat} {l : Nat} {L : Nat} {u : Nat} {x : Int} {v4 : Int} {s0 : Int} (hm : atModel Z m B) (hl : zA Z l 100 L) (hu : zA Z u 100 20) (h : ((zIx v4 20) ∧ ZM G 2 m_X12_isRoom [.ref m, iv s0, iv (s0 + (zI Z u v4.toNat)), .ref u, iv x] Z (zKc G 3 m_X12_roomy 43 [some (.ref m), some (.ref l), some (.ref u), some (iv x), some (iv v4), some (iv s0), none, none, none, none] [] Q))) : ZP G 3 m_X12_roomy 26 [some (.ref m), some (.ref l), some (.ref u), some (iv x), some (iv v4), none, none, none, none, none] [iv s0] Z Q := z_istore (pc' := 28) (j := 5) (ls' := [some (.ref m), some (.ref l), some (.ref u), some (iv x), some (iv v4), some (iv s0), none, none, none, none]) (by decide +kernel) (by decide) rfl rfl <| z_aload_n (pc' := 29) (j := 0) (by decide +kernel) rfl rfl <| z_iload (pc' := 31) (j := 5) (by decide +kernel) rfl rfl <| z_iload (pc' := 33) (j := 5) (by decide +kernel) rfl rfl <| z_aload_n (pc' := 34) (j := 2) (by decide +kernel) rfl rfl <| z_iload (pc' := 36) (j := 4) (by decide +kernel) rfl rfl <| h.elim fun c1 h => z_iaload (pc' := 37) (by decide +kernel) hu c1 rfl <| z_iadd (pc' := 38) (by decide +kernel) rfl <| z_aload_n (pc' := 39) (j := 2) (by decide +kernel) rfl rfl <| z_iload_n (pc' := 40) (j := 3) (by decide +kernel) rfl rfl <| z_callV (pc' := 43) (idx := 305) (mj := m_X12_isRoom) (av := [iv s0, iv (s0 + (zI Z u v4.toNat)), .ref u, iv x]) (d' := 2) (by decide +kernel) rfl k_X12_isRoom l_RX12_305 rfl (by omega) (am_le rfl) rfl (am_le rfl) hm.o.1 hm.o.2 rfl h
set_option maxRecDepth 20000 in
theorem b_X12_roomy_43 {G : Gx} {Q : Rv → Zm → Prop} {Z : Zm} {m : Nat} {B : Nat} {l : Nat} {L : Nat} {u : Nat} {x : Int} {v4 : Int} {v5 : Int} {s0 : Int} (hm : atModel Z m B) (hl : zA Z l 100 L) (hu : zA Z u 100 20) (h : ((R32 s0) ∧ ZP G 3 m_X12_roomy 59 [some (.ref m), some (.ref l), some (.ref u), some (iv x), some (iv v4), some (iv v5), some (iv (if s0 = 0 then 1000000 else v5)), some (iv 0), none, none] [] Z Q)) : ZP G 3 m_X12_roomy 43 [some (.ref m), some (.ref l), some (.ref u), some (iv x), some (iv v4), some (iv v5), none, none, none, none] [iv s0] Z Q := h.elim fun c1 h => am_use (fun k4 => z_if_eq (pc' := 46) (tgt := 51) (off := 8) (by decide +kernel) (by decide) rfl c1 (am_ite2 (fun q5 => z_ldcw (pc' := 54) (idx := 261) (w := 1000000) (v := 1000000) (by decide +kernel) (amM9 148 rfl (by decide +kernel)) (by decide) rfl <| (am_jp (P := fun z9 => ZP G 3 m_X12_roomy 54 [some (.ref m), some (.ref l), some (.ref u), some (iv x), some (iv v4), some (iv v5), none, none, none, none] [iv z9] _ Q) (if_pos q5) k4)) (fun q5 => z_iload (pc' := 48) (j := 5) (by decide +kernel) rfl rfl <| z_goto (tgt := 54) (off := 6) (by decide +kernel) (by decide) <| (am_jp (P := fun z9 => ZP G 3 m_X12_roomy 54 [some (.ref m), some (.ref l), some (.ref u), some (iv x), some (iv v4), some (iv v5), none, none, none, none] [iv z9] _ Q) (if_neg q5) k4)))) <| z_istore (pc' := 56) (j := 6) (ls' := [some (.ref m), some (.ref l), some (.ref u), some (iv x), some (iv v4), some (iv v5), some (iv (if s0 = 0 then 1000000 else v5)), none, none, none]) (by decide +kernel) (by decide) rfl rfl <| z_iconst (pc' := 57) (n := 0) (by decide +kernel) rfl <| z_istore (pc' := 59) (j := 7) (ls' := [some (.ref m), some (.ref l), some (.ref u), some (iv x), some (iv v4), some (iv v5), some (iv (if s0 = 0 then 1000000 else v5)), some (iv 0), none, none]) (by decide +kernel) (by decide) rfl rfl <| h
set_option maxRecDepth 20000 in
theorem b_X12_roomy_59 {G : Gx} {Q : Rv → Zm → Prop} {Z : Zm} {m : Nat} {B : Nat} {l : Nat} {L : Nat} {u : Nat} {x : Int} {v4 : Int} {v5 : Int} {v6 : Int} {v7 : Int} (hm : atModel Z m B) (hl : zA Z l 100 L) (hu : zA Z u 100 20) (h : ((R32 v7) ∧ (R32 (zI Z B 0)) ∧ (if (zI Z B 0) ≤ v7 then ((zIx v4 20) ∧ ∀ Z10, Z10 = zSI Z (m + 15) (zu (zI Z (m + 15)) v4.toNat v6) → ZM G 2 m_X12_nextOf [.ref m, .ref l, .ref u] Z10 (zKc G 3 m_X12_roomy 167 [some (.ref m), some (.ref l), some (.ref u), some (iv x), none, none, none, none, none, none] [] Q)) else ((zIx v7 20) ∧ (R32 (zI Z (m + 15) v7.toNat)) ∧ (if (zI Z (m + 15) v7.toNat) = (-1) then (ZP G 3 m_X12_roomy 59 [some (.ref m), some (.ref l), some (.ref u), some (iv x), some (iv v4), some (iv v5), some (iv v6), some (iv (v7 + 1)), none, none] [] Z Q) else ((R32 ((zI Z (m + 15) v7.toNat) + (zI Z u v7.toNat))) ∧ (R32 v5) ∧ (if ((zI Z (m + 15) v7.toNat) + (zI Z u v7.toNat)) ≤ v5 then (ZP G 3 m_X12_roomy 59 [some (.ref m), some (.ref l), some (.ref u), some (iv x), some (iv v4), some (iv v5), some (iv v6), some (iv (v7 + 1)), none, none] [] Z Q) else ((R32 v6) ∧ (if v6 ≤ ((zI Z (m + 15) v7.toNat) + (zI Z u v7.toNat)) then (ZP G 3 m_X12_roomy 59 [some (.ref m), some (.ref l), some (.ref u), some (iv x), some (iv v4), some (iv v5), some (iv v6), some (iv (v7 + 1)), none, none] [] Z Q) else ((zIx v4 20) ∧ ZM G 2 m_X12_isRoom [.ref m, iv ((zI Z (m + 15) v7.toNat) + (zI Z u v7.toNat)), iv (((zI Z (m + 15) v7.toNat) + (zI Z u v7.toNat)) + (zI Z u v4.toNat)), .ref u, iv x] Z (zKc G 3 m_X12_roomy 122 [some (.ref m), some (.ref l), some (.ref u), some (iv x), some (iv v4), some (iv v5), some (iv v6), some (iv v7), some (iv ((zI Z (m + 15) v7.toNat) + (zI Z u v7.toNat))), none] [] Q))))))))))) : ZP G 3 m_X12_roomy 59 [some (.ref m), some (.ref l), some (.ref u), some (iv x), some (iv v4), some (iv v5), some (iv v6), some (iv v7), none, none] [] Z Q := z_iload (pc' := 61) (j := 7) (by decide +kernel) rfl rfl <| z_aload_n (pc' := 62) (j := 0) (by decide +kernel) rfl rfl <| z_callV (pc' := 65) (idx := 64) (mj := m_X12_many) (av := []) (d' := 0) (by decide +kernel) rfl k_X12_many l_RX12_64 rfl (by omega) (am_le rfl) rfl (am_le rfl) hm.o.1 hm.o.2 rfl <| zKf (s_many hm) <| h.elim fun c1 h => h.elim fun c2 h => z_icmp_ge (pc' := 68) (tgt := 152) (off := 87) (by decide +kernel) (by decide) rfl c1 c2 (am_ite h (fun h => z_aload_n (pc' := 153) (j := 0) (by decide +kernel) rfl rfl <| z_getR (pc' := 156) (idx := 45) (ci := 12) (f := 17) (by decide +kernel) f_RX12_45 rfl hm.o.1 hm.o.2 hm.r17 rfl <| z_iload (pc' := 158) (j := 4) (by decide +kernel) rfl rfl <| z_iload (pc' := 160) (j := 6) (by decide +kernel) rfl rfl <| h.elim fun c9 h => z_iastore (pc' := 161) (by decide +kernel) hm.a17 c9 rfl <| have h := h _ rfl; z_aload_n (pc' := 162) (j := 0) (by decide +kernel) rfl rfl <| z_aload_n (pc' := 163) (j := 1) (by decide +kernel) rfl rfl <| z_aload_n (pc' := 164) (j := 2) (by decide +kernel) rfl rfl <| z_callV (pc' := 167) (idx := 262) (mj := m_X12_nextOf) (av := [.ref l, .ref u]) (d' := 2) (by decide +kernel) rfl k_X12_nextOf l_RX12_262 rfl (by omega) (am_le rfl) rfl (am_le rfl) hm.o.1 hm.o.2 rfl (ZM.mono h (zKc_wk (wk_some (wk_some (wk_some (wk_some (wk_none (wk_none (wk_none (wk_none (wk_none (wk_none wk_nil))))))))))))) (fun h => z_aload_n (pc' := 69) (j := 0) (by decide +kernel) rfl rfl <| z_getR (pc' := 72) (idx := 45) (ci := 12) (f := 17) (by decide +kernel) f_RX12_45 rfl hm.o.1 hm.o.2 hm.r17 rfl <| z_iload (pc' := 74) (j := 7) (by decide +kernel) rfl rfl <| h.elim fun c11 h => z_iaload (pc' := 75) (by decide +kernel) hm.a17 c11 rfl <| z_aload_n (pc' := 76) (j := 2) (by decide +kernel) rfl rfl <| z_iload (pc' := 78) (j := 7) (by decide +kernel) rfl rfl <| z_iaload (pc' := 79) (by decide +kernel) hu c11 rfl <| z_iadd (pc' := 80) (by decide +kernel) rfl <| z_istore (pc' := 82) (j := 8) (ls' := [some (.ref m), some (.ref l), some (.ref u), some (iv x), some (iv v4), some (iv v5), some (iv v6), some (iv v7), some (iv ((zI Z (m + 15) v7.toNat) + (zI Z u v7.toNat))), none]) (by decide +kernel) (by decide) rfl rfl <| z_aload_n (pc' := 83) (j := 0) (by decide +kernel) rfl rfl <| z_getR (pc' := 86) (idx := 45) (ci := 12) (f := 17) (by decide +kernel) f_RX12_45 rfl hm.o.1 hm.o.2 hm.r17 rfl <| z_iload (pc' := 88) (j := 7) (by decide +kernel) rfl rfl <| z_iaload (pc' := 89) (by decide +kernel) hm.a17 c11 rfl <| z_iconst (pc' := 90) (n := -1) (by decide +kernel) rfl <| h.elim fun c12 h => z_icmp_eq (pc' := 93) (tgt := 129) (off := 39) (by decide +kernel) (by decide) rfl c12 (by decide : R32 (-1)) (am_ite h (fun h => z_iconst (pc' := 130) (n := 0) (by decide +kernel) rfl <| z_istore (pc' := 132) (j := 9) (ls' := [some (.ref m), some (.ref l), some (.ref u), some (iv x), some (iv v4), some (iv v5), some (iv v6), some (iv v7), some (iv ((zI Z (m + 15) v7.toNat) + (zI Z u v7.toNat))), some (iv 0)]) (by decide +kernel) (by decide) rfl rfl <| z_iload (pc' := 134) (j := 9) (by decide +kernel) rfl rfl <| z_if_eq (pc' := 137) (tgt := 142) (off := 8) (by decide +kernel) (by decide) rfl (by decide : R32 0) <| am_ifT (by decide) <| z_iload (pc' := 144) (j := 6) (by decide +kernel) rfl rfl <| z_istore (pc' := 146) (j := 6) (ls' := [some (.ref m), some (.ref l), some (.ref u), some (iv x), some (iv v4), some (iv v5), some (iv v6), some (iv v7), some (iv ((zI Z (m + 15) v7.toNat) + (zI Z u v7.toNat))), some (iv 0)]) (by decide +kernel) (by decide) rfl rfl <| z_iinc (pc' := 149) (j := 7) (n := 1) (x := v7) (ls' := [some (.ref m), some (.ref l), some (.ref u), some (iv x), some (iv v4), some (iv v5), some (iv v6), some (iv (v7 + 1)), some (iv ((zI Z (m + 15) v7.toNat) + (zI Z u v7.toNat))), some (iv 0)]) (by decide +kernel) rfl (by decide) rfl rfl <| z_goto (tgt := 59) (off := -90) (by decide +kernel) (by decide) <| (ZP.wk (wk_some (wk_some (wk_some (wk_some (wk_some (wk_some (wk_some (wk_some (wk_none (wk_none wk_nil)))))))))) h)) (fun h => z_iload (pc' := 95) (j := 8) (by decide +kernel) rfl rfl <| z_iload (pc' := 97) (j := 5) (by decide +kernel) rfl rfl <| h.elim fun c17 h => h.elim fun c18 h => z_icmp_le (pc' := 100) (tgt := 129) (off := 32) (by decide +kernel) (by decide) rfl c17 c18 (am_ite h (fun h => z_iconst (pc' := 130) (n := 0) (by decide +kernel) rfl <| z_istore (pc' := 132) (j := 9) (ls' := [some (.ref m), some (.ref l), some (.ref u), some (iv x), some (iv v4), some (iv v5), some (iv v6), some (iv v7), some (iv ((zI Z (m + 15) v7.toNat) + (zI Z u v7.toNat))), some (iv 0)]) (by decide +kernel) (by decide) rfl rfl <| z_iload (pc' := 134) (j := 9) (by decide +kernel) rfl rfl <| z_if_eq (pc' := 137) (tgt := 142) (off := 8) (by decide +kernel) (by decide) rfl (by decide : R32 0) <| am_ifT (by decide) <| z_iload (pc' := 144) (j := 6) (by decide +kernel) rfl rfl <| z_istore (pc' := 146) (j := 6) (ls' := [some (.ref m), some (.ref l), some (.ref u), some (iv x), some (iv v4), some (iv v5), some (iv v6), some (iv v7), some (iv ((zI Z (m + 15) v7.toNat) + (zI Z u v7.toNat))), some (iv 0)]) (by decide +kernel) (by decide) rfl rfl <| z_iinc (pc' := 149) (j := 7) (n := 1) (x := v7) (ls' := [some (.ref m), some (.ref l), some (.ref u), some (iv x), some (iv v4), some (iv v5), some (iv v6), some (iv (v7 + 1)), some (iv ((zI Z (m + 15) v7.toNat) + (zI Z u v7.toNat))), some (iv 0)]) (by decide +kernel) rfl (by decide) rfl rfl <| z_goto (tgt := 59) (off := -90) (by decide +kernel) (by decide) <| (ZP.wk (wk_some (wk_some (wk_some (wk_some (wk_some (wk_some (wk_some (wk_some (wk_none (wk_none wk_nil)))))))))) h)) (fun h => z_iload (pc' := 102) (j := 8) (by decide +kernel) rfl rfl <| z_iload (pc' := 104) (j := 6) (by decide +kernel) rfl rfl <| h.elim fun c21 h => z_icmp_ge (pc' := 107) (tgt := 129) (off := 25) (by decide +kernel) (by decide) rfl c17 c21 (am_ite h (fun h => z_iconst (pc' := 130) (n := 0) (by decide +kernel) rfl <| z_istore (pc' := 132) (j := 9) (ls' := [some (.ref m), some (.ref l), some (.ref u), some (iv x), some (iv v4), some (iv v5), some (iv v6), some (iv v7), some (iv ((zI Z (m + 15) v7.toNat) + (zI Z u v7.toNat))), some (iv 0)]) (by decide +kernel) (by decide) rfl rfl <| z_iload (pc' := 134) (j := 9) (by decide +kernel) rfl rfl <| z_if_eq (pc' := 137) (tgt := 142) (off := 8) (by decide +kernel) (by decide) rfl (by decide : R32 0) <| am_ifT (by decide) <| z_iload (pc' := 144) (j := 6) (by decide +kernel) rfl rfl <| z_istore (pc' := 146) (j := 6) (ls' := [some (.ref m), some (.ref l), some (.ref u), some (iv x), some (iv v4), some (iv v5), some (iv v6), some (iv v7), some (iv ((zI Z (m + 15) v7.toNat) + (zI Z u v7.toNat))), some (iv 0)]) (by decide +kernel) (by decide) rfl rfl <| z_iinc (pc' := 149) (j := 7) (n := 1) (x := v7) (ls' := [some (.ref m), some (.ref l), some (.ref u), some (iv x), some (iv v4), some (iv v5), some (iv v6), some (iv (v7 + 1)), some (iv ((zI Z (m + 15) v7.toNat) + (zI Z u v7.toNat))), some (iv 0)]) (by decide +kernel) rfl (by decide) rfl rfl <| z_goto (tgt := 59) (off := -90) (by decide +kernel) (by decide) <| (ZP.wk (wk_some (wk_some (wk_some (wk_some (wk_some (wk_some (wk_some (wk_some (wk_none (wk_none wk_nil)))))))))) h)) (fun h => z_aload_n (pc' := 108) (j := 0) (by decide +kernel) rfl rfl <| z_iload (pc' := 110) (j := 8) (by decide +kernel) rfl rfl <| z_iload (pc' := 112) (j := 8) (by decide +kernel) rfl rfl <| z_aload_n (pc' := 113) (j := 2) (by decide +kernel) rfl rfl <| z_iload (pc' := 115) (j := 4) (by decide +kernel) rfl rfl <| h.elim fun c23 h => z_iaload (pc' := 116) (by decide +kernel) hu c23 rfl <| z_iadd (pc' := 117) (by decide +kernel) rfl <| z_aload_n (pc' := 118) (j := 2) (by decide +kernel) rfl rfl <| z_iload_n (pc' := 119) (j := 3) (by decide +kernel) rfl rfl <| z_callV (pc' := 122) (idx := 305) (mj := m_X12_isRoom) (av := [iv ((zI Z (m + 15) v7.toNat) + (zI Z u v7.toNat)), iv (((zI Z (m + 15) v7.toNat) + (zI Z u v7.toNat)) + (zI Z u v4.toNat)), .ref u, iv x]) (d' := 2) (by decide +kernel) rfl k_X12_isRoom l_RX12_305 rfl (by omega) (am_le rfl) rfl (am_le rfl) hm.o.1 hm.o.2 rfl h))))))))
set_option maxRecDepth 20000 in
theorem b_X12_roomy_167 {G : Gx} {Q : Rv → Zm → Prop} {Z : Zm} {m : Nat} {B : Nat} {l : Nat} {L : Nat} {u : Nat} {x : Int} {s0 : Int} (hm : atModel Z m B) (hl : zA Z l 100 L) (hu : zA Z u 100 20) (h : (ZP G 3 m_X12_roomy 12 [some (.ref m), some (.ref l), some (.ref u), some (iv x), some (iv s0), none, none, none, none, none] [] Z Q)) : ZP G 3 m_X12_roomy 167 [some (.ref m), some (.ref l), some (.ref u), some (iv x), none, none, none, none, none, none] [iv s0] Z Q := z_istore (pc' := 169) (j := 4) (ls' := [some (.ref m), some (.ref l), some (.ref u), some (iv x), some (iv s0), none, none, none, none, none]) (by decide +kernel) (by decide) rfl rfl <| z_goto (tgt := 12) (off := -157) (by decide +kernel) (by decide) <| h
set_option maxRecDepth 20000 in
theorem b_X12_roomy_122 {G : Gx} {Q : Rv → Zm → Prop} {Z : Zm} {m : Nat} {B : Nat} {l : Nat} {L : Nat} {u : Nat} {x : Int} {v4 : Int} {v5 : Int} {v6 : Int} {v7 : Int} {v8 : Int} {s0 : Int} (hm : atModel Z m B) (hl : zA Z l 100 L) (hu : zA Z u 100 20) (h : ((R32 s0) ∧ ZP G 3 m_X12_roomy 59 [some (.ref m), some (.ref l), some (.ref u), some (iv x), some (iv v4), some (iv v5), some (iv (if ¬ (s0 = 0) then v8 else v6)), some (iv (v7 + 1)), none, none] [] Z Q)) : ZP G 3 m_X12_roomy 122 [some (.ref m), some (.ref l), some (.ref u), some (iv x), some (iv v4), some (iv v5), some (iv v6), some (iv v7), some (iv v8), none] [iv s0] Z Q := h.elim fun c1 h => am_use (fun k4 => z_if_eq (pc' := 125) (tgt := 129) (off := 7) (by decide +kernel) (by decide) rfl c1 (am_ite2 (fun q5 => z_iconst (pc' := 130) (n := 0) (by decide +kernel) rfl <| (am_jp (P := fun z9 => ZP G 3 m_X12_roomy 130 [some (.ref m), some (.ref l), some (.ref u), some (iv x), some (iv v4), some (iv v5), some (iv v6), some (iv v7), some (iv v8), none] [iv z9] _ Q) (b2_n q5) k4)) (fun q5 => z_iconst (pc' := 126) (n := 1) (by decide +kernel) rfl <| z_goto (tgt := 130) (off := 4) (by decide +kernel) (by decide) <| (am_jp (P := fun z9 => ZP G 3 m_X12_roomy 130 [some (.ref m), some (.ref l), some (.ref u), some (iv x), some (iv v4), some (iv v5), some (iv v6), some (iv v7), some (iv v8), none] [iv z9] _ Q) (b2_nn q5) k4)))) <| z_istore (pc' := 132) (j := 9) (ls' := [some (.ref m), some (.ref l), some (.ref u), some (iv x), some (iv v4), some (iv v5), some (iv v6), some (iv v7), some (iv v8), some (iv (b2 (¬ (s0 = 0))))]) (by decide +kernel) (by decide) rfl rfl <| z_iload (pc' := 134) (j := 9) (by decide +kernel) rfl rfl <| am_use (fun k8 => z_ifB_eq (pc' := 137) (tgt := 142) (off := 8) (by decide +kernel) (by decide) rfl (am_ite2 (fun q9 => z_iload (pc' := 139) (j := 8) (by decide +kernel) rfl rfl <| z_goto (tgt := 144) (off := 5) (by decide +kernel) (by decide) <| (am_jp (P := fun z9 => ZP G 3 m_X12_roomy 144 [some (.ref m), some (.ref l), some (.ref u), some (iv x), some (iv v4), some (iv v5), some (iv v6), some (iv v7), some (iv v8), some (iv (b2 (¬ (s0 = 0))))] [iv z9] _ Q) (if_pos q9) k8)) (fun q9 => z_iload (pc' := 144) (j := 6) (by decide +kernel) rfl rfl <| (am_jp (P := fun z9 => ZP G 3 m_X12_roomy 144 [some (.ref m), some (.ref l), some (.ref u), some (iv x), some (iv v4), some (iv v5), some (iv v6), some (iv v7), some (iv v8), some (iv (b2 (¬ (s0 = 0))))] [iv z9] _ Q) (if_neg q9) k8)))) <| z_istore (pc' := 146) (j := 6) (ls' := [some (.ref m), some (.ref l), some (.ref u), some (iv x), some (iv v4), some (iv v5), some (iv (if ¬ (s0 = 0) then v8 else v6)), some (iv v7), some (iv v8), some (iv (b2 (¬ (s0 = 0))))]) (by decide +kernel) (by decide) rfl rfl <| z_iinc (pc' := 149) (j := 7) (n := 1) (x := v7) (ls' := [some (.ref m), some (.ref l), some (.ref u), some (iv x), some (iv v4), some (iv v5), some (iv (if ¬ (s0 = 0) then v8 else v6)), some (iv (v7 + 1)), some (iv v8), some (iv (b2 (¬ (s0 = 0))))]) (by decide +kernel) rfl (by decide) rfl rfl <| z_goto (tgt := 59) (off := -90) (by decide +kernel) (by decide) <| (ZP.wk (wk_some (wk_some (wk_some (wk_some (wk_some (wk_some (wk_some (wk_some (wk_none (wk_none wk_nil)))))))))) h)
/-! ===== the model: one after another with room ===== -/
theorem cntP_r (k : Bk) (b : Nat → Int) (x : Int) : 0 ≤ cntP k b x ∧ cntP k b x ≤ kN k := by
  have := zsum_bound (f := fun t => ci (wk0 k b t x)) (n := kN k) (a := 0) (b := 1) fun i _ => ci_r _
  unfold cntP
  omega
theorem mts_wk {k : Bk} {H : Int} {s : Ss} {t : Nat} {x : Int} : mts (P1 k H) s t x (x + 1) ↔ wk0 k s.1 t x := by
  have e : pD (P1 k H) t = kF k 0 t := rfl
  unfold mts wk0
  rw [e]
  omega
theorem s_worksAt {G : Gx} {Z : Zm} {B u : Nat} {k : Bk} {H : Int} {s : Ss} {x : Int} (h : mCx Z B u (P1 k H)) (hs : mTr Z (P1 k H) s) (hx : 0 ≤ x ∧ x ≤ 100000) : ZM G 1 m_X12_worksAt [.ref 300, iv x, .ref u] Z (fun r W => r = .inl (some (iv (cntP k s.1 x))) ∧ W = Z) := by
  have hN : kN k ≤ 20 := h.2.2.1.1.n
  have h0 : zI Z B 0 = (kN k : Int) := h.2.1.1
  refine e_X12_worksAt h.1 h.2.2.2.2.1 ?_
  suffices key : ∀ j, j ≤ kN k → ZP G 1 m_X12_worksAt 5 [some (.ref 300), some (iv x), some (.ref u), some (iv (zsum (fun t => ci (wk0 k s.1 t x)) j)), some (iv (j : Int))] [] Z (fun r W => r = .inl (some (iv (cntP k s.1 x))) ∧ W = Z) from key 0 (Nat.zero_le _)
  refine am_up (n := kN k) fun j hj ih => ?_
  refine b_X12_worksAt_5 h.1 h.2.2.2.2.1 ⟨by omega, by rw [h0]; omega, ?_⟩
  rw [h0]
  by_cases c : j < kN k
  · rw [if_neg (by omega)]
    refine (s_meets h hs (t := j) c (by omega) (by omega)).mono ?_
    rintro r W ⟨⟨w, rfl, hw⟩, hW⟩
    obtain rfl := hW.symm
    refine b_X12_worksAt_26 h.1 h.2.2.2.2.1 ⟨b01_r hw.r, ?_⟩
    have h9 := ih c
    rw [zsum_s] at h9
    have e : b2 (¬ (w = 0)) = ci (wk0 k s.1 j x) := by
      rcases hw with ⟨w1, w2⟩ | ⟨w1, w2⟩
      · rw [ci_p (mts_wk.mp w2), w1]
        rfl
      · rw [ci_f fun q => w2 (mts_wk.mpr q), w1]
        rfl
    rw [e]
    exact h9
  · rw [if_pos (by omega), show j = kN k by omega]
    exact ⟨rfl, rfl⟩
def crt (k : Bk) (H : Int) (b : Nat → Int) (x y : Int) (n : Nat) : Prop := cntP k b x < H ∧ ∀ t, t < n → b t ≠ -1 → x < b t → b t < y → cntP k b (b t) < H
theorem crt_all {k : Bk} {H : Int} {b : Nat → Int} {x y : Int} (hxy : x < y) : crt k H b x y (kN k) ↔ ∀ z, x ≤ z → z < y → cntP k b z < H := by
  constructor
  · rintro ⟨h1, h2⟩
    suffices key : ∀ m : Nat, x + m < y → cntP k b (x + m) < H from fun z z1 z2 => by
      have := key (z - x).toNat (by omega)
      rw [show x + ((z - x).toNat : Int) = z by omega] at this
      exact this
    intro m
    induction m with
    | zero =>
      intro _
      rw [show x + ((0 : Nat) : Int) = x by omega]
      exact h1
    | succ m ih =>
      intro hm
      have a := ih (by omega)
      by_cases c : ∃ t, t < kN k ∧ b t ≠ -1 ∧ b t = x + ((m + 1 : Nat) : Int)
      · obtain ⟨t, t1, t2, t3⟩ := c
        have := h2 t t1 t2 (by omega) (by omega)
        rw [t3] at this
        exact this
      · refine Int.lt_of_le_of_lt (zsum_le fun u hu => ci_le fun q => ?_) a
        have ne : b u ≠ x + ((m + 1 : Nat) : Int) := fun e => c ⟨u, hu, q.1, e⟩
        have q1 := q.2.1
        have q2 := q.2.2
        exact ⟨q.1, by omega, by omega⟩
  · intro h
    exact ⟨h x (Int.le_refl _) hxy, fun t _ _ h1 h2 => h _ (by omega) h2⟩
theorem s_isRoom {G : Gx} {Z : Zm} {B u : Nat} {k : Bk} {H : Int} {s : Ss} {x y : Int} (h : mCx Z B u (P1 k H)) (hs : mTr Z (P1 k H) s) (hH : 1 ≤ H ∧ H ≤ 4) (hx : 0 ≤ x ∧ x < y ∧ y ≤ 100000) : ZM G 2 m_X12_isRoom [.ref 300, iv x, iv y, .ref u, iv H] Z (fun r W => (∃ v, r = .inl (some (iv v)) ∧ isB v (∀ z, x ≤ z → z < y → cntP k s.1 z < H)) ∧ W = Z) := by
  have hN : kN k ≤ 20 := h.2.2.1.1.n
  have h0 : zI Z B 0 = (kN k : Int) := h.2.1.1
  refine e_X12_isRoom h.1 h.2.2.2.2.1 ((s_worksAt h hs ⟨hx.1, by omega⟩).mono ?_)
  rintro r W ⟨rfl, hW⟩
  obtain rfl := hW.symm
  have cr := cntP_r k s.1
  have cx := cr x
  refine b_X12_isRoom_6 h.1 h.2.2.2.2.1 ⟨by omega, by omega, ?_⟩
  suffices key : ∀ j, j ≤ kN k → ∀ v, isB v (crt k H s.1 x y j) → ZP G 2 m_X12_isRoom 21 [some (.ref 300), some (iv x), some (iv y), some (.ref u), some (iv H), some (iv v), some (iv (j : Int))] [] Z (fun r W => (∃ v, r = .inl (some (iv v)) ∧ isB v (∀ z, x ≤ z → z < y → cntP k s.1 z < H)) ∧ W = Z) from key 0 (Nat.zero_le _) _ (isB_b2 ⟨fun q => ⟨by omega, fun t ht => absurd ht (Nat.not_lt_zero _)⟩, fun q => by have := q.1; omega⟩)
  refine am_up (n := kN k) fun j hj ih v hv => ?_
  have v01 := hv.r
  have fin : crt k H s.1 x y (kN k) → isB 1 (∀ z, x ≤ z → z < y → cntP k s.1 z < H) := fun q => Or.inl ⟨rfl, (crt_all hx.2.1).mp q⟩
  refine b_X12_isRoom_21 h.1 h.2.2.2.2.1 ⟨by omega, by rw [h0]; omega, ?_⟩
  rw [h0]
  by_cases c : j < kN k
  · rw [if_neg (by omega)]
    refine ⟨b01_r v01, ?_⟩
    by_cases c0 : v = 0
    · rw [if_pos c0]
      refine ⟨v01, ⟨v, rfl, Or.inr ⟨c0, fun g => ?_⟩⟩, rfl⟩
      have q := (crt_all hx.2.1).mpr g
      have := hv.p.mpr ⟨q.1, fun t ht => q.2 t (by omega)⟩
      omega
    · rw [if_neg c0]
      have q := hv.p.mp (v01.resolve_left c0)
      obtain ⟨t1, t2, t3, t4, t5, t6⟩ := hs j c
      rw [Int.toNat_natCast, show zI Z (300 + 15) j = s.1 j from t1]
      refine ⟨zIx_nat (by omega) (by omega), by omega, ?_⟩
      have skip : (s.1 j ≠ -1 → x < s.1 j → s.1 j < y → False) → ZP G 2 m_X12_isRoom 21 [some (.ref 300), some (iv x), some (iv y), some (.ref u), some (iv H), some (iv 1), some (iv ((j : Int) + 1))] [] Z (fun r W => (∃ v, r = .inl (some (iv v)) ∧ isB v (∀ z, x ≤ z → z < y → cntP k s.1 z < H)) ∧ W = Z) := fun g => ih c 1 (Or.inl ⟨rfl, q.1, fun t ht a1 a2 a3 => by
        by_cases e : t = j
        · rw [e] at a1 a2 a3
          exact absurd a3 (fun a3 => g a1 a2 a3)
        · exact q.2 t (by omega) a1 a2 a3⟩)
      by_cases c1 : s.1 j = -1
      · rw [if_pos c1]
        exact skip fun a _ _ => a c1
      rw [if_neg c1]
      refine ⟨by omega, ?_⟩
      by_cases c2 : s.1 j ≤ x
      · rw [if_pos c2]
        exact skip fun _ a _ => by omega
      rw [if_neg c2]
      refine ⟨by omega, ?_⟩
      by_cases c3 : y ≤ s.1 j
      · rw [if_pos c3]
        exact skip fun _ _ a => by omega
      rw [if_neg c3]
      refine (s_worksAt h hs ⟨by omega, by omega⟩).mono ?_
      rintro r W ⟨rfl, hW⟩
      obtain rfl := hW.symm
      have cj := cr (s.1 j)
      refine b_X12_isRoom_80 h.1 h.2.2.2.2.1 ⟨by omega, by omega, ih c _ (isB_b2 ⟨fun g => ⟨q.1, fun t ht a1 a2 a3 => ?_⟩, fun g => ?_⟩)⟩
      · by_cases e : t = j
        · rw [e]
          omega
        · exact q.2 t (by omega) a1 a2 a3
      · have := g.2 j (Nat.lt_succ_self _) c1 (by omega) (by omega)
        omega
  · rw [if_pos (by omega)]
    rw [show j = kN k by omega] at hv
    refine ⟨v01, ⟨v, rfl, ?_⟩, rfl⟩
    rcases hv with ⟨a, q⟩ | ⟨a, q⟩
    · rw [a]
      exact fin q
    · exact Or.inr ⟨a, fun g => q ((crt_all hx.2.1).mpr g)⟩
def isBc (k : Bk) (H : Int) (b : Nat → Int) (t : Nat) (lo : Int) (n : Nat) (v : Int) : Prop := (v = 1000000 ∨ (lo ≤ v ∧ v ≤ 20000 ∧ rmA k H b t v)) ∧ (rmA k H b t lo → v ≤ lo) ∧ ∀ u, u < n → b u ≠ -1 → lo < b u + kF k 0 u → rmA k H b t (b u + kF k 0 u) → v ≤ b u + kF k 0 u
theorem isBc.rm {k : Bk} (ho : kOk k) {H : Int} {b : Nat → Int} {t : Nat} {lo v E : Int} (h : isBc k H b t lo (kN k) v) (hl : lo ≤ 10100) (hE : ∀ u, u < kN k → b u ≠ -1 → b u + kF k 0 u ≤ E) (hE2 : E ≤ 20000) (hH : 1 ≤ H) (ht : t < kN k) : isRm k H b t lo v ∧ v ≤ max lo E := by
  obtain ⟨y, y1, y2, y3⟩ := rm_least ho (b := b) (t := t) (lo := lo) hE hH ht
  have le : v ≤ y := by
    rcases y3 with e | ⟨u, u1, u2, u3, u4⟩
    · have q := y1.2.1
      rw [e] at q ⊢
      exact h.2.1 q
    · have q := y1.2.1
      rw [← u3] at q u4 ⊢
      exact h.2.2 u u1 u2 u4 q
  have fe : lo ≤ v ∧ v ≤ 20000 ∧ rmA k H b t v := h.1.resolve_left fun e => by omega
  refine ⟨⟨fe.1, fe.2.2, fun z z1 z2 q => ?_⟩, by omega⟩
  exact y1.2.2 z z1 (by omega) q
theorem up3 (Z : Zm) {a b : Nat} (hab : a ≠ b) (f g f' : Nat → Int) : zSI (zSI (zSI Z a f) b g) a f' = zSI (zSI Z a f') b g := by
  rw [zSI_comm (zSI Z a f) g f' (fun e => hab e.symm), zSI_zSI]
/-- what a row of all tasks gives -/
def rvB (k : Bk) (H : Int) (L : Nat → Nat) (v : Int) : Prop := ∃ S, fs k H S ∧ v = enS k S ∧ ∀ S', tgS k H S' → isLs S' (kN k) L → ∀ t, t < kN k → S t = S' t
theorem s_roomy {G : Gx} {Z : Zm} {B u l : Nat} {k : Bk} {H : Int} {L : Nat → Nat} (h : mCx Z B u (P1 k H)) (hH : 1 ≤ H ∧ H ≤ 4) (hl : mLs Z (P1 k H) l L) : ZM G 3 m_X12_roomy [.ref 300, .ref l, .ref u, iv H] Z (fun r W => (∃ v, r = .inl (some (iv v)) ∧ rvB k H L v ∧ 0 ≤ v ∧ v ≤ 10000) ∧ ∃ f g, W = zSI (zSI Z 315 f) 316 g) := by
  have hP := h.2.2.1
  have ho : kOk k := hP.1
  have hL := hl.2.2.2.1
  have hN : kN k ≤ 20 := ho.n
  have hC : ∀ f g, mCx (zSI (zSI Z 315 f) 316 g) B u (P1 k H) := fun f g => (h.s (Or.inl rfl)).s (Or.inr rfl)
  have hT : ∀ f g, mLs (zSI (zSI Z 315 f) 316 g) (P1 k H) l L := fun f g => (hl.s (Or.inl rfl)).s (Or.inr rfl)
  have e315 : ∀ f g, zI (zSI (zSI Z 315 f) 316 g) 315 = f := fun f g => (zI_other (by decide)).trans (zI_same _ _ _)
  have e316 : ∀ f g, zI (zSI (zSI Z 315 f) 316 g) 316 = g := fun f g => zI_same _ _ _
  generalize hR : (fun (r : Rv) (W : Zm) => (∃ v, r = .inl (some (iv v)) ∧ rvB k H L v ∧ 0 ≤ v ∧ v ≤ 10000) ∧ ∃ f g, W = zSI (zSI Z 315 f) 316 g) = R
  refine e_X12_roomy h.1 hl.1 h.2.2.2.2.1 (((s_triesNone h.1).deeper (by omega)).mono ?_)
  rintro r W ⟨rfl, f0, g0, rfl, hf0⟩
  have tr : ∀ c b f, c ≤ kN k → rmI k H L c b → (∀ t, t < kN k → f t = b t) → mTr (zSI (zSI Z 315 f) 316 g0) (P1 k H) (b, fun _ => -1) := fun c b f hc hb hf t ht => by
    have ht' : t < kN k := ht
    rw [e315, e316, hf t ht', (hf0 t (by omega)).2]
    have := hb.1.1 t ht'
    have hlen := ho.len ht'
    refine ⟨rfl, rfl, ?_, ?_, (by decide : (-1 : Int) ≤ -1), (by decide : (-1 : Int) ≤ 6)⟩
    · show -1 ≤ b t
      omega
    · show b t ≤ 10000
      omega
  suffices outer : ∀ m c : Nat, c + m = kN k → ∀ b f, rmI k H L c b → (∀ t, t < kN k → f t = b t) → ZP G 3 m_X12_roomy 12 [some (.ref 300), some (.ref l), some (.ref u), some (iv H), some (iv (fuF (P1 k H) L (b, fun _ => -1))), none, none, none, none, none] [] (zSI (zSI Z 315 f) 316 g0) R by
    refine b_X12_roomy_4 (hC f0 g0).1 (hT f0 g0).1 (hC f0 g0).2.2.2.2.1 ?_
    have i0 := rm_first k (H := H) (by omega) L
    have hf : ∀ t, t < kN k → f0 t = -1 := fun t ht => (hf0 t (by omega)).1
    refine (s_nextOf (hC f0 g0) rfl (tr 0 _ f0 (Nat.zero_le _) i0 hf) (hT f0 g0)).mono ?_
    rintro r W ⟨rfl, hW⟩
    obtain rfl := hW.symm
    refine b_X12_roomy_10 (hC f0 g0).1 (hT f0 g0).1 (hC f0 g0).2.2.2.2.1 ?_
    exact outer (kN k) 0 (by omega) _ f0 i0 hf
  intro m
  have done : ∀ c, c = kN k → ∀ b f, rmI k H L c b → (∀ t, t < kN k → f t = b t) → ZP G 3 m_X12_roomy 12 [some (.ref 300), some (.ref l), some (.ref u), some (iv H), some (iv (fuF (P1 k H) L (b, fun _ => -1))), none, none, none, none, none] [] (zSI (zSI Z 315 f) 316 g0) R := fun c hc b f hb hf => by
    have all : allB (P1 k H) (b, fun _ => -1) := cntS_all.mp (by have := hb.2.1; omega)
    obtain ⟨q1, q2⟩ := rm_last hb hc
    refine b_X12_roomy_12 (hC f g0).1 (hT f g0).1 (hC f g0).2.2.2.2.1 ?_
    rw [(fuF_all hP hL).mpr all, if_pos rfl]
    have bd : ∀ t, t < kN k → 0 ≤ b t ∧ b t + kF k 0 t ≤ 90 * (c : Int) := fun t ht => (hb.1.1 t ht).resolve_left (all t ht)
    refine ⟨by decide, ((s_endBy (len := kF k 0) (f := b) (hC f g0).1 (hC f g0).2.2.2.2.1 (hC f g0).1.a17 (hC f g0).2.1 ho (fun t ht => ⟨(hC f g0).2.2.2.2.2.2.2 t ht, by have := ho.len ht; omega⟩) fun t ht => ⟨by rw [e315, hf t ht], by
      have := bd t ht
      have := ho.len ht
      omega⟩).deeper (by omega)).mono ?_⟩
    rintro r W ⟨rfl, hW⟩
    obtain rfl := hW.symm
    refine b_X12_roomy_181 (hC f g0).1 (hT f g0).1 (hC f g0).2.2.2.2.1 ?_
    rw [← hR]
    refine ⟨⟨_, rfl, ⟨b, q1, rfl, q2⟩, zmax_0 _ _, zmax_le (by omega) fun t ht => ?_⟩, f, g0, rfl⟩
    have := bd t ht
    omega
  induction m with
  | zero => exact fun c hc b f hb hf => done c (by omega) b f hb hf
  | succ m ih =>
    intro c hc b f hb hf
    have t0 := tr c b f (by omega) hb hf
    have nz : fuF (P1 k H) L (b, fun _ => -1) ≠ -1 := fun e => by
      have := cntS_all.mpr ((fuF_all hP hL).mp e)
      have := hb.2.1
      omega
    rcases fuF_is (P1 k H) L (b, fun _ => -1) with ⟨q, -⟩ | ⟨v, v1, v2, v3, v4, -⟩
    · exact absurd q nz
    have ht : L v < kN k := hL.1 v v1
    generalize et : L v = t at *
    have v3 : b t = -1 := v3
    have v4 : ltA (P1 k H) b t ≠ -1 := v4
    have st : ∀ x, isRm k H b t (ltA (P1 k H) b t) x → rmI k H L (c + 1) (zu b t x) := fun x hx => rm_step ho hH hL hb v2 hx
    rw [v2]
    have hlen := ho.len ht
    have eu : ∀ t, t < kN k → zI (zSI (zSI Z 315 f) 316 g0) u t = kF k 0 t := fun t ht => (hC f g0).2.2.2.2.2.2.2 t ht
    have e0 : zI (zSI (zSI Z 315 f) 316 g0) B 0 = (kN k : Int) := (hC f g0).2.1.1
    refine b_X12_roomy_12 (hC f g0).1 (hT f g0).1 (hC f g0).2.2.2.2.1 ⟨by omega, ?_⟩
    rw [if_neg (by omega)]
    refine ((s_letBy (G := G) (P := P1 k H) (hC f g0) t0 (t := t) (by show R32 (-1); decide) ht).deeper (by omega)).mono ?_
    rintro r W ⟨⟨rfl, r1, r2⟩, hW⟩
    obtain rfl := hW.symm
    have lo0 : 0 ≤ ltA (P1 k H) b t := lt_ge (P := P1 k H) (s := (b, fun _ => -1)) v4
    have r2 : ltA (P1 k H) b t ≤ 10100 := r2
    show ZP G 3 m_X12_roomy 26 [some (.ref 300), some (.ref l), some (.ref u), some (iv H), some (iv (t : Int)), none, none, none, none, none] [iv (ltA (P1 k H) b t)] _ _
    generalize hlo : ltA (P1 k H) b t = lo at *
    have hE : ∀ u, u < kN k → b u ≠ -1 → b u + kF k 0 u ≤ 90 * (c : Int) := fun u hu ne => ((hb.1.1 u hu).resolve_left ne).2
    refine b_X12_roomy_26 (hC f g0).1 (hT f g0).1 (hC f g0).2.2.2.2.1 ?_
    rw [Int.toNat_natCast, eu t ht]
    refine ⟨zIx_nat (by omega) (by omega), (s_isRoom (hC f g0) t0 hH ⟨lo0, by omega, by omega⟩).mono ?_⟩
    rintro r W ⟨⟨w, rfl, hw⟩, hW⟩
    obtain rfl := hW.symm
    refine b_X12_roomy_43 (hC f g0).1 (hT f g0).1 (hC f g0).2.2.2.2.1 ⟨b01_r hw.r, ?_⟩
    suffices key : ∀ j, j ≤ kN k → ∀ v, isBc k H b t lo j v → ZP G 3 m_X12_roomy 59 [some (.ref 300), some (.ref l), some (.ref u), some (iv H), some (iv (t : Int)), some (iv lo), some (iv v), some (iv (j : Int)), none, none] [] (zSI (zSI Z 315 f) 316 g0) R by
      refine key 0 (Nat.zero_le _) _ ?_
      rcases hw with ⟨w1, w2⟩ | ⟨w1, w2⟩
      · rw [if_neg (by omega)]
        exact ⟨Or.inr ⟨Int.le_refl _, by omega, w2⟩, fun _ => Int.le_refl _, fun u hu => absurd hu (Nat.not_lt_zero _)⟩
      · rw [if_pos w1]
        exact ⟨Or.inl rfl, fun q => absurd q w2, fun u hu => absurd hu (Nat.not_lt_zero _)⟩
    refine am_up (n := kN k) fun j hj ihj v hv => ?_
    have vr : 0 ≤ v ∧ v ≤ 1000000 := by
      rcases hv.1 with q | q
      · omega
      · omega
    refine b_X12_roomy_59 (hC f g0).1 (hT f g0).1 (hC f g0).2.2.2.2.1 ⟨by omega, by rw [e0]; omega, ?_⟩
    rw [e0]
    by_cases cj : j < kN k
    · obtain ⟨s1, -, s3, s4, -, -⟩ := t0 j cj
      have s1 : zI (zSI (zSI Z 315 f) 316 g0) (300 + 15) j = b j := s1
      have s3 : -1 ≤ b j := s3
      have s4 : b j ≤ 10000 := s4
      have lj := ho.len cj
      rw [if_neg (by omega), Int.toNat_natCast, Int.toNat_natCast, s1, eu j cj, eu t ht]
      refine ⟨zIx_nat (by omega) (by omega), by omega, ?_⟩
      have skip : (b j ≠ -1 → lo < b j + kF k 0 j → rmA k H b t (b j + kF k 0 j) → v ≤ b j + kF k 0 j) → ZP G 3 m_X12_roomy 59 [some (.ref 300), some (.ref l), some (.ref u), some (iv H), some (iv (t : Int)), some (iv lo), some (iv v), some (iv ((j : Int) + 1)), none, none] [] (zSI (zSI Z 315 f) 316 g0) R := fun g => ihj cj v ⟨hv.1, hv.2.1, fun u hu a1 a2 a3 => by
        by_cases e : u = j
        · rw [e] at a1 a2 a3 ⊢
          exact g a1 a2 a3
        · exact hv.2.2 u (by omega) a1 a2 a3⟩
      by_cases c1 : b j = -1
      · rw [if_pos c1]
        exact skip fun a => absurd c1 a
      rw [if_neg c1]
      refine ⟨by omega, by omega, ?_⟩
      by_cases c2 : b j + kF k 0 j ≤ lo
      · rw [if_pos c2]
        exact skip fun _ a => by omega
      rw [if_neg c2]
      refine ⟨by omega, ?_⟩
      by_cases c3 : v ≤ b j + kF k 0 j
      · rw [if_pos c3]
        exact skip fun _ _ _ => c3
      rw [if_neg c3]
      refine ⟨zIx_nat (by omega) (by omega), (s_isRoom (hC f g0) t0 hH ⟨by omega, by omega, by omega⟩).mono ?_⟩
      rintro r W ⟨⟨w, rfl, hw⟩, hW⟩
      obtain rfl := hW.symm
      refine b_X12_roomy_122 (hC f g0).1 (hT f g0).1 (hC f g0).2.2.2.2.1 ⟨b01_r hw.r, ?_⟩
      rcases hw with ⟨w1, w2⟩ | ⟨w1, w2⟩
      · rw [if_pos (by omega)]
        refine ihj cj _ ⟨Or.inr ⟨by omega, by omega, w2⟩, fun q => ?_, fun u hu a1 a2 a3 => ?_⟩
        · have := hv.2.1 q
          omega
        · by_cases e : u = j
          · rw [e]
            exact Int.le_refl _
          · have := hv.2.2 u (by omega) a1 a2 a3
            omega
      · rw [if_neg (by omega)]
        exact skip fun _ _ a => absurd a w2
    · rw [if_pos (by omega)]
      rw [show j = kN k by omega] at hv
      obtain ⟨rm, -⟩ := hv.rm ho r2 hE (by omega) hH.1 ht
      refine ⟨zIx_nat (by omega) (by omega), ?_⟩
      rintro _ rfl
      rw [Int.toNat_natCast, show 300 + 15 = 315 from rfl, e315, up3 _ (by decide)]
      have i1 := st v rm
      have hf1 : ∀ t', t' < kN k → zu f t v t' = zu b t v t' := fun t' ht' => by
        by_cases e : t' = t
        · rw [e, zu_same, zu_same]
        · rw [zu_other e, zu_other e]
          exact hf t' ht'
      refine (s_nextOf (hC _ _) rfl (tr (c + 1) _ _ (by omega) i1 hf1) (hT _ _)).mono ?_
      rintro r W ⟨rfl, hW⟩
      obtain rfl := hW.symm
      refine b_X12_roomy_167 (hC _ _).1 (hT _ _).1 (hC _ _).2.2.2.2.1 ?_
      exact ih (c + 1) (by omega) _ _ i1 hf1
