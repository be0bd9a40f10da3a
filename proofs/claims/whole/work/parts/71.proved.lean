set_option maxRecDepth 20000 in
theorem e_X9_doesProofHold {G : Gx} {Q : Rv → Zm → Prop} {Z : Zm} {p : Nat} {b : Nat} (hp : atPlan Z p) (hb : atBook Z b) (h : (ZP G 1 m_X9_doesProofHold 4 [some (.ref p), some (.ref b), some (iv 0), some (iv 0), none, none] [] Z Q)) : ZM G 1 m_X9_doesProofHold [.ref p, .ref b] Z Q := ZM.of [some (.ref p), some (.ref b), none, none, none, none] rfl <| z_iconst (pc' := 1) (n := 0) (by decide +kernel) rfl <| z_istore_n (pc' := 2) (j := 2) (ls' := [some (.ref p), some (.ref b), some (iv 0), none, none, none]) (by decide +kernel) (by decide) rfl rfl <| z_iconst (pc' := 3) (n := 0) (by decide +kernel) rfl <| z_istore_n (pc' := 4) (j := 3) (ls' := [some (.ref p), some (.ref b), some (iv 0), some (iv 0), none, none]) (by decide +kernel) (by decide) rfl rfl <| h
set_option maxRecDepth 20000 in
theorem b_X9_doesProofHold_4 {G : Gx} {Q : Rv → Zm → Prop} {Z : Zm} {p : Nat} {b : Nat} {v2 : Int} {v3 : Int} (hp : atPlan Z p) (hb : atBook Z b) (h : ((R32 v3) ∧ (R32 (zI Z p 5)) ∧ (if (zI Z p 5) ≤ v3 then (Q (.inl (some (iv 1))) Z) else ((zIx v3 20) ∧ ZP G 1 m_X9_doesProofHold 23 [some (.ref p), some (.ref b), none, some (iv v3), some (iv (zI Z (p + 8) v3.toNat)), some (iv v2)] [] Z Q)))) : ZP G 1 m_X9_doesProofHold 4 [some (.ref p), some (.ref b), some (iv v2), some (iv v3), none, none] [] Z Q := z_iload_n (pc' := 5) (j := 3) (by decide +kernel) rfl rfl <| z_aload_n (pc' := 6) (j := 0) (by decide +kernel) rfl rfl <| z_getI (pc' := 9) (idx := 107) (ci := 9) (f := 5) (by decide +kernel) f_RX9_107 rfl hp.o.1 hp.o.2 rfl <| h.elim fun c1 h => h.elim fun c2 h => z_icmp_ge (pc' := 12) (tgt := 81) (off := 72) (by decide +kernel) (by decide) rfl c1 c2 (am_ite h (fun h => z_iconst (pc' := 82) (n := 1) (by decide +kernel) rfl <| z_ireturn (by decide +kernel) (am_rb (Or.inr rfl)) h) (fun h => z_aload_n (pc' := 13) (j := 0) (by decide +kernel) rfl rfl <| z_getR (pc' := 16) (idx := 37) (ci := 9) (f := 13) (by decide +kernel) f_RX9_37 rfl hp.o.1 hp.o.2 hp.r13 rfl <| z_iload_n (pc' := 17) (j := 3) (by decide +kernel) rfl rfl <| h.elim fun c3 h => z_iaload (pc' := 18) (by decide +kernel) hp.a13 c3 rfl <| z_istore (pc' := 20) (j := 4) (ls' := [some (.ref p), some (.ref b), some (iv v2), some (iv v3), some (iv (zI Z (p + 8) v3.toNat)), none]) (by decide +kernel) (by decide) rfl rfl <| z_iload_n (pc' := 21) (j := 2) (by decide +kernel) rfl rfl <| z_istore (pc' := 23) (j := 5) (ls' := [some (.ref p), some (.ref b), some (iv v2), some (iv v3), some (iv (zI Z (p + 8) v3.toNat)), some (iv v2)]) (by decide +kernel) (by decide) rfl rfl <| (ZP.wk (wk_some (wk_some (wk_none (wk_some (wk_some (wk_some wk_nil)))))) h)))
set_option maxRecDepth 20000 in
theorem b_X9_doesProofHold_23 {G : Gx} {Q : Rv → Zm → Prop} {Z : Zm} {p : Nat} {b : Nat} {v3 : Int} {v4 : Int} {v5 : Int} (hp : atPlan Z p) (hb : atBook Z b) (h : ((zIx v4 20) ∧ (R32 v5) ∧ (R32 (zI Z (p + 3) v4.toNat)) ∧ (if (zI Z (p + 3) v4.toNat) ≤ v5 then ((zIx v3 20) ∧ ZP G 1 m_X9_doesProofHold 4 [some (.ref p), some (.ref b), some (iv ((zI Z (p + 4) v4.toNat) + (zI Z (p + 9) v3.toNat))), some (iv (v3 + 1)), none, none] [] Z Q) else (ZM G 0 m_X9_countWorking [.ref p, .ref b, iv 0, iv v5] Z (zKc G 1 m_X9_doesProofHold 43 [some (.ref p), some (.ref b), none, some (iv v3), some (iv v4), some (iv v5)] [] Q))))) : ZP G 1 m_X9_doesProofHold 23 [some (.ref p), some (.ref b), none, some (iv v3), some (iv v4), some (iv v5)] [] Z Q := z_iload (pc' := 25) (j := 5) (by decide +kernel) rfl rfl <| z_aload_n (pc' := 26) (j := 0) (by decide +kernel) rfl rfl <| z_getR (pc' := 29) (idx := 22) (ci := 9) (f := 8) (by decide +kernel) f_RX9_22 rfl hp.o.1 hp.o.2 hp.r8 rfl <| z_iload (pc' := 31) (j := 4) (by decide +kernel) rfl rfl <| h.elim fun c1 h => z_iaload (pc' := 32) (by decide +kernel) hp.a8 c1 rfl <| h.elim fun c2 h => h.elim fun c3 h => z_icmp_ge (pc' := 35) (tgt := 60) (off := 28) (by decide +kernel) (by decide) rfl c2 c3 (am_ite h (fun h => z_aload_n (pc' := 61) (j := 0) (by decide +kernel) rfl rfl <| z_getR (pc' := 64) (idx := 25) (ci := 9) (f := 9) (by decide +kernel) f_RX9_25 rfl hp.o.1 hp.o.2 hp.r9 rfl <| z_iload (pc' := 66) (j := 4) (by decide +kernel) rfl rfl <| z_iaload (pc' := 67) (by decide +kernel) hp.a9 c1 rfl <| z_aload_n (pc' := 68) (j := 0) (by decide +kernel) rfl rfl <| z_getR (pc' := 71) (idx := 40) (ci := 9) (f := 14) (by decide +kernel) f_RX9_40 rfl hp.o.1 hp.o.2 hp.r14 rfl <| z_iload_n (pc' := 72) (j := 3) (by decide +kernel) rfl rfl <| h.elim fun c4 h => z_iaload (pc' := 73) (by decide +kernel) hp.a14 c4 rfl <| z_iadd (pc' := 74) (by decide +kernel) rfl <| z_istore_n (pc' := 75) (j := 2) (ls' := [some (.ref p), some (.ref b), some (iv ((zI Z (p + 4) v4.toNat) + (zI Z (p + 9) v3.toNat))), some (iv v3), some (iv v4), some (iv v5)]) (by decide +kernel) (by decide) rfl rfl <| z_iinc (pc' := 78) (j := 3) (n := 1) (x := v3) (ls' := [some (.ref p), some (.ref b), some (iv ((zI Z (p + 4) v4.toNat) + (zI Z (p + 9) v3.toNat))), some (iv (v3 + 1)), some (iv v4), some (iv v5)]) (by decide +kernel) rfl (by decide) rfl rfl <| z_goto (tgt := 4) (off := -74) (by decide +kernel) (by decide) <| (ZP.wk (wk_some (wk_some (wk_some (wk_some (wk_none (wk_none wk_nil)))))) h)) (fun h => z_aload_n (pc' := 36) (j := 0) (by decide +kernel) rfl rfl <| z_aload_n (pc' := 37) (j := 1) (by decide +kernel) rfl rfl <| z_iconst (pc' := 38) (n := 0) (by decide +kernel) rfl <| z_iload (pc' := 40) (j := 5) (by decide +kernel) rfl rfl <| z_callV (pc' := 43) (idx := 110) (mj := m_X9_countWorking) (av := [.ref b, iv 0, iv v5]) (d' := 0) (by decide +kernel) rfl k_X9_countWorking l_RX9_110 rfl (by omega) (am_le rfl) rfl (am_le rfl) hp.o.1 hp.o.2 rfl h))
set_option maxRecDepth 20000 in
theorem b_X9_doesProofHold_43 {G : Gx} {Q : Rv → Zm → Prop} {Z : Zm} {p : Nat} {b : Nat} {v3 : Int} {v4 : Int} {v5 : Int} {s0 : Int} (hp : atPlan Z p) (hb : atBook Z b) (h : ((R32 s0) ∧ (R32 (zI Z (p + 1) 0)) ∧ (if s0 = (zI Z (p + 1) 0) then (ZP G 1 m_X9_doesProofHold 23 [some (.ref p), some (.ref b), none, some (iv v3), some (iv v4), some (iv (v5 + 1))] [] Z Q) else (Q (.inl (some (iv 0))) Z)))) : ZP G 1 m_X9_doesProofHold 43 [some (.ref p), some (.ref b), none, some (iv v3), some (iv v4), some (iv v5)] [iv s0] Z Q := z_aload_n (pc' := 44) (j := 0) (by decide +kernel) rfl rfl <| z_getR (pc' := 47) (idx := 15) (ci := 9) (f := 6) (by decide +kernel) f_RX9_15 rfl hp.o.1 hp.o.2 hp.r6 rfl <| z_iconst (pc' := 48) (n := 0) (by decide +kernel) rfl <| z_iaload (pc' := 49) (by decide +kernel) hp.a6 ⟨by decide, by decide, by decide⟩ rfl <| h.elim fun c1 h => h.elim fun c2 h => z_icmp_eq (pc' := 52) (tgt := 54) (off := 5) (by decide +kernel) (by decide) rfl c1 c2 (am_ite h (fun h => z_iinc (pc' := 57) (j := 5) (n := 1) (x := v5) (ls' := [some (.ref p), some (.ref b), none, some (iv v3), some (iv v4), some (iv (v5 + 1))]) (by decide +kernel) rfl (by decide) rfl rfl <| z_goto (tgt := 23) (off := -34) (by decide +kernel) (by decide) <| h) (fun h => z_iconst (pc' := 53) (n := 0) (by decide +kernel) rfl <| z_ireturn (by decide +kernel) (am_rb (Or.inl rfl)) h))
set_option maxRecDepth 20000 in
theorem e_X11_isProved {G : Gx} {Q : Rv → Zm → Prop} {Z : Zm}  (hx : atAll Z) (h : ((R32 (zI Z 256 0)) ∧ (zSz Z < 1000000) ∧ (if zI Z 256 0 ≠ 0 then (ZM G 11 m_X9_doesProofHold [.ref 256, .ref 1] Z (zKc G 12 m_X11_isProved 15 [none] [] Q)) else Q (.inr "java/lang/IllegalStateException") (zC Z 14 0 6)))) : ZM G 12 m_X11_isProved [.ref 0] Z Q := ZM.of [some (.ref 0)] rfl <| z_aload_n (pc' := 1) (j := 0) (by decide +kernel) rfl rfl <| h.elim fun c1 h => h.elim fun c2 h => z_callV (pc' := 4) (idx := 352) (mj := m_X11_checkPlan) (av := []) (d' := 8) (by decide +kernel) rfl k_X11_checkPlan l_RX11_352 rfl (by omega) (am_le rfl) rfl (am_le rfl) hx.o.1 hx.o.2 rfl <| zKt (s_checkPlan hx c1 c2) (am_ite h (fun h => z_aload_n (pc' := 5) (j := 0) (by decide +kernel) rfl rfl <| z_getR (pc' := 8) (idx := 63) (ci := 11) (f := 11) (by decide +kernel) f_RX11_63 rfl hx.o.1 hx.o.2 hx.r11 rfl <| z_aload_n (pc' := 9) (j := 0) (by decide +kernel) rfl rfl <| z_getR (pc' := 12) (idx := 10) (ci := 11) (f := 0) (by decide +kernel) f_RX11_10 rfl hx.o.1 hx.o.2 hx.r0 rfl <| z_callV (pc' := 15) (idx := 371) (mj := m_X9_doesProofHold) (av := [.ref 1]) (d' := 11) (by decide +kernel) rfl k_X9_doesProofHold l_RX11_371 rfl (by omega) (am_le rfl) rfl (am_le rfl) hx.pm.o.1 hx.pm.o.2 rfl (ZM.mono h (zKc_wk (wk_none wk_nil)))) (fun h => h))
set_option maxRecDepth 20000 in
theorem b_X11_isProved_15 {G : Gx} {Q : Rv → Zm → Prop} {Z : Zm}  {s0 : Int} (hx : atAll Z) (h : ((s0 = 0 ∨ s0 = 1) ∧ Q (.inl (some (iv s0))) Z)) : ZP G 12 m_X11_isProved 15 [none] [iv s0] Z Q := h.elim fun c1 h => z_ireturn (by decide +kernel) (am_rb c1) h
set_option maxRecDepth 20000 in
theorem e_X12_isChained {G : Gx} {Q : Rv → Zm → Prop} {Z : Zm} {m : Nat} {B : Nat} {u : Nat} {x : Int} (hm : atModel Z m B) (hu : zA Z u 100 21) (h : (ZP G 3 m_X12_isChained 5 [some (.ref m), some (.ref u), some (iv x), some (iv 0), some (iv 0), none, none] [] Z Q)) : ZM G 3 m_X12_isChained [.ref m, .ref u, iv x] Z Q := ZM.of [some (.ref m), some (.ref u), some (iv x), none, none, none, none] rfl <| z_iconst (pc' := 1) (n := 0) (by decide +kernel) rfl <| z_istore_n (pc' := 2) (j := 3) (ls' := [some (.ref m), some (.ref u), some (iv x), some (iv 0), none, none, none]) (by decide +kernel) (by decide) rfl rfl <| z_iconst (pc' := 3) (n := 0) (by decide +kernel) rfl <| z_istore (pc' := 5) (j := 4) (ls' := [some (.ref m), some (.ref u), some (iv x), some (iv 0), some (iv 0), none, none]) (by decide +kernel) (by decide) rfl rfl <| h
set_option maxRecDepth 20000 in
theorem b_X12_isChained_5 {G : Gx} {Q : Rv → Zm → Prop} {Z : Zm} {m : Nat} {B : Nat} {u : Nat} {x : Int} {v3 : Int} {v4 : Int} (hm : atModel Z m B) (hu : zA Z u 100 21) (h : ((zIx v4 21) ∧ (R32 (zI Z u v4.toNat)) ∧ (if (zI Z u v4.toNat) = (-1) then ((v3 = 0 ∨ v3 = 1) ∧ Q (.inl (some (iv v3))) Z) else ((R32 v3) ∧ (if v3 = 0 then ((zIx (zI Z u v4.toNat) 20) ∧ (R32 (zI Z (m + 11) (zI Z u v4.toNat).toNat)) ∧ (R32 x) ∧ (if x < (zI Z (m + 11) (zI Z u v4.toNat).toNat) then (ZM G 2 m_X12_lastNeed [.ref m, iv (zI Z u v4.toNat)] Z (zKc G 3 m_X12_isChained 57 [some (.ref m), some (.ref u), some (iv x), some (iv 0), some (iv v4), none, none] [] Q)) else (ZM G 2 m_X12_planned [.ref m, iv (zI Z u v4.toNat), iv 0] Z (zKc G 3 m_X12_isChained 42 [some (.ref m), some (.ref u), some (iv x), none, some (iv v4), some (iv (zI Z u v4.toNat)), none] [iv x] Q)))) else (ZM G 2 m_X12_lastNeed [.ref m, iv (zI Z u v4.toNat)] Z (zKc G 3 m_X12_isChained 57 [some (.ref m), some (.ref u), some (iv x), some (iv 1), some (iv v4), none, none] [] Q))))))) : ZP G 3 m_X12_isChained 5 [some (.ref m), some (.ref u), some (iv x), some (iv v3), some (iv v4), none, none] [] Z Q := z_aload_n (pc' := 6) (j := 1) (by decide +kernel) rfl rfl <| z_iload (pc' := 8) (j := 4) (by decide +kernel) rfl rfl <| h.elim fun c1 h => z_iaload (pc' := 9) (by decide +kernel) hu c1 rfl <| z_iconst (pc' := 10) (n := -1) (by decide +kernel) rfl <| h.elim fun c2 h => z_icmp_eq (pc' := 13) (tgt := 116) (off := 106) (by decide +kernel) (by decide) rfl c2 (by decide : R32 (-1)) (am_ite h (fun h => z_iload_n (pc' := 117) (j := 3) (by decide +kernel) rfl rfl <| h.elim fun c7 h => z_ireturn (by decide +kernel) (am_rb c7) h) (fun h => z_aload_n (pc' := 14) (j := 1) (by decide +kernel) rfl rfl <| z_iload (pc' := 16) (j := 4) (by decide +kernel) rfl rfl <| z_iaload (pc' := 17) (by decide +kernel) hu c1 rfl <| z_istore (pc' := 19) (j := 5) (ls' := [some (.ref m), some (.ref u), some (iv x), some (iv v3), some (iv v4), some (iv (zI Z u v4.toNat)), none]) (by decide +kernel) (by decide) rfl rfl <| z_iload_n (pc' := 20) (j := 3) (by decide +kernel) rfl rfl <| h.elim fun c8 h => z_if_ne (pc' := 23) (tgt := 45) (off := 25) (by decide +kernel) (by decide) rfl c8 (am_ite h (fun h => z_aload_n (pc' := 24) (j := 0) (by decide +kernel) rfl rfl <| z_getR (pc' := 27) (idx := 33) (ci := 12) (f := 11) (by decide +kernel) f_RX12_33 rfl hm.o.1 hm.o.2 hm.r11 rfl <| z_iload (pc' := 29) (j := 5) (by decide +kernel) rfl rfl <| h.elim fun c12 h => z_iaload (pc' := 30) (by decide +kernel) hm.a11 c12 rfl <| z_iload_n (pc' := 31) (j := 2) (by decide +kernel) rfl rfl <| h.elim fun c13 h => h.elim fun c14 h => z_icmp_gt (pc' := 34) (tgt := 49) (off := 18) (by decide +kernel) (by decide) rfl c13 c14 (am_ite h (fun h => z_iconst (pc' := 50) (n := 0) (by decide +kernel) rfl <| z_istore_n (pc' := 51) (j := 3) (ls' := [some (.ref m), some (.ref u), some (iv x), some (iv 0), some (iv v4), some (iv (zI Z u v4.toNat)), none]) (by decide +kernel) (by decide) rfl rfl <| z_aload_n (pc' := 52) (j := 0) (by decide +kernel) rfl rfl <| z_iload (pc' := 54) (j := 5) (by decide +kernel) rfl rfl <| z_callV (pc' := 57) (idx := 289) (mj := m_X12_lastNeed) (av := [iv (zI Z u v4.toNat)]) (d' := 2) (by decide +kernel) rfl k_X12_lastNeed l_RX12_289 rfl (by omega) (am_le rfl) rfl (am_le rfl) hm.o.1 hm.o.2 rfl (ZM.mono h (zKc_wk (wk_some (wk_some (wk_some (wk_some (wk_some (wk_none (wk_none wk_nil)))))))))) (fun h => z_iload_n (pc' := 35) (j := 2) (by decide +kernel) rfl rfl <| z_aload_n (pc' := 36) (j := 0) (by decide +kernel) rfl rfl <| z_iload (pc' := 38) (j := 5) (by decide +kernel) rfl rfl <| z_iconst (pc' := 39) (n := 0) (by decide +kernel) rfl <| z_callV (pc' := 42) (idx := 281) (mj := m_X12_planned) (av := [iv (zI Z u v4.toNat), iv 0]) (d' := 2) (by decide +kernel) rfl k_X12_planned l_RX12_281 rfl (by omega) (am_le rfl) rfl (am_le rfl) hm.o.1 hm.o.2 rfl (ZM.mono h (zKc_wk (wk_some (wk_some (wk_some (wk_none (wk_some (wk_some (wk_none wk_nil)))))))))))) (fun h => z_iconst (pc' := 46) (n := 1) (by decide +kernel) rfl <| z_goto (tgt := 50) (off := 4) (by decide +kernel) (by decide) <| z_istore_n (pc' := 51) (j := 3) (ls' := [some (.ref m), some (.ref u), some (iv x), some (iv 1), some (iv v4), some (iv (zI Z u v4.toNat)), none]) (by decide +kernel) (by decide) rfl rfl <| z_aload_n (pc' := 52) (j := 0) (by decide +kernel) rfl rfl <| z_iload (pc' := 54) (j := 5) (by decide +kernel) rfl rfl <| z_callV (pc' := 57) (idx := 289) (mj := m_X12_lastNeed) (av := [iv (zI Z u v4.toNat)]) (d' := 2) (by decide +kernel) rfl k_X12_lastNeed l_RX12_289 rfl (by omega) (am_le rfl) rfl (am_le rfl) hm.o.1 hm.o.2 rfl (ZM.mono h (zKc_wk (wk_some (wk_some (wk_some (wk_some (wk_some (wk_none (wk_none wk_nil)))))))))))))
set_option maxRecDepth 20000 in
theorem b_X12_isChained_57 {G : Gx} {Q : Rv → Zm → Prop} {Z : Zm} {m : Nat} {B : Nat} {u : Nat} {x : Int} {v3 : Int} {v4 : Int} {s0 : Int} (hm : atModel Z m B) (hu : zA Z u 100 21) (h : ((R32 v3) ∧ (if v3 = 0 then ((R32 s0) ∧ (if s0 = (-1) then (ZP G 3 m_X12_isChained 5 [some (.ref m), some (.ref u), some (iv x), some (iv 0), some (iv (v4 + 1)), none, none] [] Z Q) else ((zIx s0 50) ∧ ZM G 2 m_X12_planned [.ref m, iv (mE Z B s0.toNat), iv 0] Z (zKc G 3 m_X12_isChained 81 [some (.ref m), some (.ref u), some (iv x), none, some (iv v4), none, some (iv s0)] [iv x] Q)))) else (ZP G 3 m_X12_isChained 5 [some (.ref m), some (.ref u), some (iv x), some (iv 1), some (iv (v4 + 1)), none, none] [] Z Q)))) : ZP G 3 m_X12_isChained 57 [some (.ref m), some (.ref u), some (iv x), some (iv v3), some (iv v4), none, none] [iv s0] Z Q := z_istore (pc' := 59) (j := 6) (ls' := [some (.ref m), some (.ref u), some (iv x), some (iv v3), some (iv v4), none, some (iv s0)]) (by decide +kernel) (by decide) rfl rfl <| z_iload_n (pc' := 60) (j := 3) (by decide +kernel) rfl rfl <| h.elim fun c1 h => z_if_ne (pc' := 63) (tgt := 104) (off := 44) (by decide +kernel) (by decide) rfl c1 (am_ite h (fun h => z_iload (pc' := 65) (j := 6) (by decide +kernel) rfl rfl <| z_iconst (pc' := 66) (n := -1) (by decide +kernel) rfl <| h.elim fun c4 h => z_icmp_eq (pc' := 69) (tgt := 108) (off := 42) (by decide +kernel) (by decide) rfl c4 (by decide : R32 (-1)) (am_ite h (fun h => z_iconst (pc' := 109) (n := 0) (by decide +kernel) rfl <| z_istore_n (pc' := 110) (j := 3) (ls' := [some (.ref m), some (.ref u), some (iv x), some (iv 0), some (iv v4), none, some (iv s0)]) (by decide +kernel) (by decide) rfl rfl <| z_iinc (pc' := 113) (j := 4) (n := 1) (x := v4) (ls' := [some (.ref m), some (.ref u), some (iv x), some (iv 0), some (iv (v4 + 1)), none, some (iv s0)]) (by decide +kernel) rfl (by decide) rfl rfl <| z_goto (tgt := 5) (off := -108) (by decide +kernel) (by decide) <| (ZP.wk (wk_some (wk_some (wk_some (wk_some (wk_some (wk_none (wk_none wk_nil))))))) h)) (fun h => z_iload_n (pc' := 70) (j := 2) (by decide +kernel) rfl rfl <| z_aload_n (pc' := 71) (j := 0) (by decide +kernel) rfl rfl <| z_aload_n (pc' := 72) (j := 0) (by decide +kernel) rfl rfl <| z_iload (pc' := 74) (j := 6) (by decide +kernel) rfl rfl <| h.elim fun c6 h => z_callV (pc' := 77) (idx := 97) (mj := m_X12_earlier) (av := [iv s0]) (d' := 0) (by decide +kernel) rfl k_X12_earlier l_RX12_97 rfl (by omega) (am_le rfl) rfl (am_le rfl) hm.o.1 hm.o.2 rfl <| zKf (s_earlier hm c6) <| z_iconst (pc' := 78) (n := 0) (by decide +kernel) rfl <| z_callV (pc' := 81) (idx := 281) (mj := m_X12_planned) (av := [iv (mE Z B s0.toNat), iv 0]) (d' := 2) (by decide +kernel) rfl k_X12_planned l_RX12_281 rfl (by omega) (am_le rfl) rfl (am_le rfl) hm.o.1 hm.o.2 rfl (ZM.mono h (zKc_wk (wk_some (wk_some (wk_some (wk_none (wk_some (wk_none (wk_some wk_nil)))))))))))) (fun h => z_iconst (pc' := 105) (n := 1) (by decide +kernel) rfl <| z_goto (tgt := 109) (off := 4) (by decide +kernel) (by decide) <| z_istore_n (pc' := 110) (j := 3) (ls' := [some (.ref m), some (.ref u), some (iv x), some (iv 1), some (iv v4), none, some (iv s0)]) (by decide +kernel) (by decide) rfl rfl <| z_iinc (pc' := 113) (j := 4) (n := 1) (x := v4) (ls' := [some (.ref m), some (.ref u), some (iv x), some (iv 1), some (iv (v4 + 1)), none, some (iv s0)]) (by decide +kernel) rfl (by decide) rfl rfl <| z_goto (tgt := 5) (off := -108) (by decide +kernel) (by decide) <| (ZP.wk (wk_some (wk_some (wk_some (wk_some (wk_some (wk_none (wk_none wk_nil))))))) h)))
set_option maxRecDepth 20000 in
theorem b_X12_isChained_42 {G : Gx} {Q : Rv → Zm → Prop} {Z : Zm} {m : Nat} {B : Nat} {u : Nat} {x : Int} {v4 : Int} {v5 : Int} {s0 : Int} {s1 : Int} (hm : atModel Z m B) (hu : zA Z u 100 21) (h : ((R32 s1) ∧ (R32 s0) ∧ ZM G 2 m_X12_lastNeed [.ref m, iv v5] Z (zKc G 3 m_X12_isChained 57 [some (.ref m), some (.ref u), some (iv x), some (iv (b2 (¬ (s0 ≤ s1)))), some (iv v4), none, none] [] Q))) : ZP G 3 m_X12_isChained 42 [some (.ref m), some (.ref u), some (iv x), none, some (iv v4), some (iv v5), none] [iv s0, iv s1] Z Q := h.elim fun c1 h => h.elim fun c2 h => am_use (fun k5 => z_icmp_ge (pc' := 45) (tgt := 49) (off := 7) (by decide +kernel) (by decide) rfl c1 c2 (am_ite2 (fun q6 => z_iconst (pc' := 50) (n := 0) (by decide +kernel) rfl <| (am_jp (P := fun z9 => ZP G 3 m_X12_isChained 50 [some (.ref m), some (.ref u), some (iv x), none, some (iv v4), some (iv v5), none] [iv z9] _ Q) (b2_n q6) k5)) (fun q6 => z_iconst (pc' := 46) (n := 1) (by decide +kernel) rfl <| z_goto (tgt := 50) (off := 4) (by decide +kernel) (by decide) <| (am_jp (P := fun z9 => ZP G 3 m_X12_isChained 50 [some (.ref m), some (.ref u), some (iv x), none, some (iv v4), some (iv v5), none] [iv z9] _ Q) (b2_nn q6) k5)))) <| z_istore_n (pc' := 51) (j := 3) (ls' := [some (.ref m), some (.ref u), some (iv x), some (iv (b2 (¬ (s0 ≤ s1)))), some (iv v4), some (iv v5), none]) (by decide +kernel) (by decide) rfl rfl <| z_aload_n (pc' := 52) (j := 0) (by decide +kernel) rfl rfl <| z_iload (pc' := 54) (j := 5) (by decide +kernel) rfl rfl <| z_callV (pc' := 57) (idx := 289) (mj := m_X12_lastNeed) (av := [iv v5]) (d' := 2) (by decide +kernel) rfl k_X12_lastNeed l_RX12_289 rfl (by omega) (am_le rfl) rfl (am_le rfl) hm.o.1 hm.o.2 rfl (ZM.mono h (zKc_wk (wk_some (wk_some (wk_some (wk_some (wk_some (wk_none (wk_none wk_nil)))))))))
set_option maxRecDepth 20000 in
theorem b_X12_isChained_81 {G : Gx} {Q : Rv → Zm → Prop} {Z : Zm} {m : Nat} {B : Nat} {u : Nat} {x : Int} {v4 : Int} {v6 : Int} {s0 : Int} {s1 : Int} (hm : atModel Z m B) (hu : zA Z u 100 21) (h : ((R32 s1) ∧ (R32 s0) ∧ (if s1 < s0 then (ZP G 3 m_X12_isChained 5 [some (.ref m), some (.ref u), some (iv x), some (iv 0), some (iv (v4 + 1)), none, none] [] Z Q) else ((zIx v6 50) ∧ ZM G 2 m_X12_planned [.ref m, iv (mE Z B v6.toNat), iv (mK Z B v6.toNat)] Z (zKc G 3 m_X12_isChained 101 [some (.ref m), some (.ref u), some (iv x), none, some (iv v4), none, none] [iv x] Q))))) : ZP G 3 m_X12_isChained 81 [some (.ref m), some (.ref u), some (iv x), none, some (iv v4), none, some (iv v6)] [iv s0, iv s1] Z Q := h.elim fun c1 h => h.elim fun c2 h => z_icmp_lt (pc' := 84) (tgt := 108) (off := 27) (by decide +kernel) (by decide) rfl c1 c2 (am_ite h (fun h => z_iconst (pc' := 109) (n := 0) (by decide +kernel) rfl <| z_istore_n (pc' := 110) (j := 3) (ls' := [some (.ref m), some (.ref u), some (iv x), some (iv 0), some (iv v4), none, some (iv v6)]) (by decide +kernel) (by decide) rfl rfl <| z_iinc (pc' := 113) (j := 4) (n := 1) (x := v4) (ls' := [some (.ref m), some (.ref u), some (iv x), some (iv 0), some (iv (v4 + 1)), none, some (iv v6)]) (by decide +kernel) rfl (by decide) rfl rfl <| z_goto (tgt := 5) (off := -108) (by decide +kernel) (by decide) <| (ZP.wk (wk_some (wk_some (wk_some (wk_some (wk_some (wk_none (wk_none wk_nil))))))) h)) (fun h => z_iload_n (pc' := 85) (j := 2) (by decide +kernel) rfl rfl <| z_aload_n (pc' := 86) (j := 0) (by decide +kernel) rfl rfl <| z_aload_n (pc' := 87) (j := 0) (by decide +kernel) rfl rfl <| z_iload (pc' := 89) (j := 6) (by decide +kernel) rfl rfl <| h.elim fun c4 h => z_callV (pc' := 92) (idx := 97) (mj := m_X12_earlier) (av := [iv v6]) (d' := 0) (by decide +kernel) rfl k_X12_earlier l_RX12_97 rfl (by omega) (am_le rfl) rfl (am_le rfl) hm.o.1 hm.o.2 rfl <| zKf (s_earlier hm c4) <| z_aload_n (pc' := 93) (j := 0) (by decide +kernel) rfl rfl <| z_iload (pc' := 95) (j := 6) (by decide +kernel) rfl rfl <| z_callV (pc' := 98) (idx := 101) (mj := m_X12_lag) (av := [iv v6]) (d' := 0) (by decide +kernel) rfl k_X12_lag l_RX12_101 rfl (by omega) (am_le rfl) rfl (am_le rfl) hm.o.1 hm.o.2 rfl <| zKf (s_lag hm c4) <| z_callV (pc' := 101) (idx := 281) (mj := m_X12_planned) (av := [iv (mE Z B v6.toNat), iv (mK Z B v6.toNat)]) (d' := 2) (by decide +kernel) rfl k_X12_planned l_RX12_281 rfl (by omega) (am_le rfl) rfl (am_le rfl) hm.o.1 hm.o.2 rfl (ZM.mono h (zKc_wk (wk_some (wk_some (wk_some (wk_none (wk_some (wk_none (wk_none wk_nil)))))))))))
set_option maxRecDepth 20000 in
theorem b_X12_isChained_101 {G : Gx} {Q : Rv → Zm → Prop} {Z : Zm} {m : Nat} {B : Nat} {u : Nat} {x : Int} {v4 : Int} {s0 : Int} {s1 : Int} (hm : atModel Z m B) (hu : zA Z u 100 21) (h : ((R32 s1) ∧ (R32 s0) ∧ ZP G 3 m_X12_isChained 5 [some (.ref m), some (.ref u), some (iv x), some (iv (b2 (¬ (s0 ≤ s1)))), some (iv (v4 + 1)), none, none] [] Z Q)) : ZP G 3 m_X12_isChained 101 [some (.ref m), some (.ref u), some (iv x), none, some (iv v4), none, none] [iv s0, iv s1] Z Q := h.elim fun c1 h => h.elim fun c2 h => am_use (fun k5 => z_icmp_ge (pc' := 104) (tgt := 108) (off := 7) (by decide +kernel) (by decide) rfl c1 c2 (am_ite2 (fun q6 => z_iconst (pc' := 109) (n := 0) (by decide +kernel) rfl <| (am_jp (P := fun z9 => ZP G 3 m_X12_isChained 109 [some (.ref m), some (.ref u), some (iv x), none, some (iv v4), none, none] [iv z9] _ Q) (b2_n q6) k5)) (fun q6 => z_iconst (pc' := 105) (n := 1) (by decide +kernel) rfl <| z_goto (tgt := 109) (off := 4) (by decide +kernel) (by decide) <| (am_jp (P := fun z9 => ZP G 3 m_X12_isChained 109 [some (.ref m), some (.ref u), some (iv x), none, some (iv v4), none, none] [iv z9] _ Q) (b2_nn q6) k5)))) <| z_istore_n (pc' := 110) (j := 3) (ls' := [some (.ref m), some (.ref u), some (iv x), some (iv (b2 (¬ (s0 ≤ s1)))), some (iv v4), none, none]) (by decide +kernel) (by decide) rfl rfl <| z_iinc (pc' := 113) (j := 4) (n := 1) (x := v4) (ls' := [some (.ref m), some (.ref u), some (iv x), some (iv (b2 (¬ (s0 ≤ s1)))), some (iv (v4 + 1)), none, none]) (by decide +kernel) rfl (by decide) rfl rfl <| z_goto (tgt := 5) (off := -108) (by decide +kernel) (by decide) <| h
set_option maxRecDepth 20000 in
theorem e_X12_isProved {G : Gx} {Q : Rv → Zm → Prop} {Z : Zm} {m : Nat} {B : Nat} (hm : atModel Z m B) (h : ((R32 (zI Z m 9)) ∧ ∀ Z6, Z6 = zSI Z m (zu (zI Z m) 19 (fC (b2 ((zI Z m 9) = 0)) 0 0)) → (if 0 < fC (b2 ((zI Z m 9) = 0)) 0 0 then (Q (.inl (some (iv 0))) Z6) else (ZM G 11 m_X12_proof [.ref m] Z6 (zKc G 12 m_X12_isProved 27 [some (.ref m), none, none, none] [] Q))))) : ZM G 12 m_X12_isProved [.ref m] Z Q := ZM.of [some (.ref m), none, none, none] rfl <| z_aload_n (pc' := 1) (j := 0) (by decide +kernel) rfl rfl <| z_aload_n (pc' := 2) (j := 0) (by decide +kernel) rfl rfl <| z_getI (pc' := 5) (idx := 79) (ci := 12) (f := 9) (by decide +kernel) f_RX12_79 rfl hm.o.1 hm.o.2 rfl <| h.elim fun c1 h => am_use (fun k4 => z_if_ne (pc' := 8) (tgt := 12) (off := 7) (by decide +kernel) (by decide) rfl c1 (am_ite2 (fun q5 => z_iconst (pc' := 9) (n := 1) (by decide +kernel) rfl <| z_goto (tgt := 13) (off := 4) (by decide +kernel) (by decide) <| (am_jp (P := fun z9 => ZP G 12 m_X12_isProved 13 [some (.ref m), none, none, none] [iv z9, .ref m] _ Q) (b2_p q5) k4)) (fun q5 => z_iconst (pc' := 13) (n := 0) (by decide +kernel) rfl <| (am_jp (P := fun z9 => ZP G 12 m_X12_isProved 13 [some (.ref m), none, none, none] [iv z9, .ref m] _ Q) (b2_f q5) k4)))) <| z_iconst (pc' := 14) (n := 0) (by decide +kernel) rfl <| z_iconst (pc' := 15) (n := 0) (by decide +kernel) rfl <| z_callV (pc' := 18) (idx := 133) (mj := m_X12_fails) (av := [iv (b2 ((zI Z m 9) = 0)), iv 0, iv 0]) (d' := 0) (by decide +kernel) rfl k_X12_fails l_RX12_133 rfl (by omega) (am_le rfl) rfl (am_le rfl) hm.o.1 hm.o.2 rfl <| zKf (s_fails hm (b2_01 _) (Or.inl rfl) (Or.inl rfl)) <| have h := h _ rfl; z_ifB_eq (pc' := 21) (tgt := 23) (off := 5) (by decide +kernel) (by decide) rfl (am_ite h (fun h => z_iconst (pc' := 22) (n := 0) (by decide +kernel) rfl <| z_ireturn (by decide +kernel) (am_rb (Or.inl rfl)) h) (fun h => z_aload_n (pc' := 24) (j := 0) (by decide +kernel) rfl rfl <| z_callV (pc' := 27) (idx := 292) (mj := m_X12_proof) (av := []) (d' := 11) (by decide +kernel) rfl k_X12_proof l_RX12_292 rfl (by omega) (am_le rfl) rfl (am_le rfl) hm.o.1 hm.o.2 rfl h))
set_option maxRecDepth 20000 in
theorem b_X12_isProved_27 {G : Gx} {Q : Rv → Zm → Prop} {Z : Zm} {r27 : Nat} {m : Nat} {B : Nat}  (hm : atModel Z m B) (hr27 : zA Z r27 100 21) (h : (ZP G 12 m_X12_isProved 32 [some (.ref m), some (.ref r27), some (iv 1), some (iv 0)] [] Z Q)) : ZP G 12 m_X12_isProved 27 [some (.ref m), none, none, none] [.ref r27] Z Q := z_astore_n (pc' := 28) (j := 1) (ls' := [some (.ref m), some (.ref r27), none, none]) (by decide +kernel) (by decide) rfl rfl <| z_iconst (pc' := 29) (n := 1) (by decide +kernel) rfl <| z_istore_n (pc' := 30) (j := 2) (ls' := [some (.ref m), some (.ref r27), some (iv 1), none]) (by decide +kernel) (by decide) rfl rfl <| z_iconst (pc' := 31) (n := 0) (by decide +kernel) rfl <| z_istore_n (pc' := 32) (j := 3) (ls' := [some (.ref m), some (.ref r27), some (iv 1), some (iv 0)]) (by decide +kernel) (by decide) rfl rfl <| h
set_option maxRecDepth 20000 in
theorem b_X12_isProved_32 {G : Gx} {Q : Rv → Zm → Prop} {Z : Zm} {r27 : Nat} {m : Nat} {B : Nat} {v2 : Int} {v3 : Int} (hm : atModel Z m B) (hr27 : zA Z r27 100 21) (h : ((R32 v3) ∧ (R32 (zI Z m 14)) ∧ (if (zI Z m 14) ≤ v3 then ((v2 = 0 ∨ v2 = 1) ∧ Q (.inl (some (iv v2))) Z) else ((R32 v2) ∧ (if v2 = 0 then ((v2 = 0 ∨ v2 = 1) ∧ Q (.inl (some (iv v2))) Z) else (ZM G 11 m_X12_isChained [.ref m, .ref r27, iv v3] Z (zKc G 12 m_X12_isProved 50 [some (.ref m), some (.ref r27), none, some (iv v3)] [] Q))))))) : ZP G 12 m_X12_isProved 32 [some (.ref m), some (.ref r27), some (iv v2), some (iv v3)] [] Z Q := z_iload_n (pc' := 33) (j := 3) (by decide +kernel) rfl rfl <| z_aload_n (pc' := 34) (j := 0) (by decide +kernel) rfl rfl <| z_getI (pc' := 37) (idx := 275) (ci := 12) (f := 14) (by decide +kernel) f_RX12_275 rfl hm.o.1 hm.o.2 rfl <| h.elim fun c1 h => h.elim fun c2 h => z_icmp_ge (pc' := 40) (tgt := 80) (off := 43) (by decide +kernel) (by decide) rfl c1 c2 (am_ite h (fun h => z_iload_n (pc' := 81) (j := 2) (by decide +kernel) rfl rfl <| h.elim fun c4 h => z_ireturn (by decide +kernel) (am_rb c4) h) (fun h => z_iload_n (pc' := 41) (j := 2) (by decide +kernel) rfl rfl <| h.elim fun c5 h => z_if_eq (pc' := 44) (tgt := 80) (off := 39) (by decide +kernel) (by decide) rfl c5 (am_ite h (fun h => z_iload_n (pc' := 81) (j := 2) (by decide +kernel) rfl rfl <| h.elim fun c6 h => z_ireturn (by decide +kernel) (am_rb c6) h) (fun h => z_aload_n (pc' := 45) (j := 0) (by decide +kernel) rfl rfl <| z_aload_n (pc' := 46) (j := 1) (by decide +kernel) rfl rfl <| z_iload_n (pc' := 47) (j := 3) (by decide +kernel) rfl rfl <| z_callV (pc' := 50) (idx := 295) (mj := m_X12_isChained) (av := [.ref r27, iv v3]) (d' := 11) (by decide +kernel) rfl k_X12_isChained l_RX12_295 rfl (by omega) (am_le rfl) rfl (am_le rfl) hm.o.1 hm.o.2 rfl (ZM.mono h (zKc_wk (wk_some (wk_some (wk_none (wk_some wk_nil))))))))))
set_option maxRecDepth 20000 in
theorem b_X12_isProved_50 {G : Gx} {Q : Rv → Zm → Prop} {Z : Zm} {r27 : Nat} {m : Nat} {B : Nat} {v3 : Int} {s0 : Int} (hm : atModel Z m B) (hr27 : zA Z r27 100 21) (h : ((R32 s0) ∧ (if s0 = 0 then (ZM G 11 m_X12_busyIn [.ref m, iv 0, iv v3] Z (zKc G 12 m_X12_isProved 59 [some (.ref m), some (.ref r27), none, some (iv v3)] [] Q)) else (ZP G 12 m_X12_isProved 32 [some (.ref m), some (.ref r27), some (iv 1), some (iv (v3 + 1))] [] Z Q)))) : ZP G 12 m_X12_isProved 50 [some (.ref m), some (.ref r27), none, some (iv v3)] [iv s0] Z Q := h.elim fun c1 h => z_if_ne (pc' := 53) (tgt := 68) (off := 18) (by decide +kernel) (by decide) rfl c1 (am_ite h (fun h => z_aload_n (pc' := 54) (j := 0) (by decide +kernel) rfl rfl <| z_iconst (pc' := 55) (n := 0) (by decide +kernel) rfl <| z_iload_n (pc' := 56) (j := 3) (by decide +kernel) rfl rfl <| z_callV (pc' := 59) (idx := 278) (mj := m_X12_busyIn) (av := [iv 0, iv v3]) (d' := 11) (by decide +kernel) rfl k_X12_busyIn l_RX12_278 rfl (by omega) (am_le rfl) rfl (am_le rfl) hm.o.1 hm.o.2 rfl h) (fun h => z_iconst (pc' := 69) (n := 1) (by decide +kernel) rfl <| z_goto (tgt := 73) (off := 4) (by decide +kernel) (by decide) <| z_istore_n (pc' := 74) (j := 2) (ls' := [some (.ref m), some (.ref r27), some (iv 1), some (iv v3)]) (by decide +kernel) (by decide) rfl rfl <| z_iinc (pc' := 77) (j := 3) (n := 1) (x := v3) (ls' := [some (.ref m), some (.ref r27), some (iv 1), some (iv (v3 + 1))]) (by decide +kernel) rfl (by decide) rfl rfl <| z_goto (tgt := 32) (off := -45) (by decide +kernel) (by decide) <| h))
set_option maxRecDepth 20000 in
theorem b_X12_isProved_59 {G : Gx} {Q : Rv → Zm → Prop} {Z : Zm} {r27 : Nat} {m : Nat} {B : Nat} {v3 : Int} {s0 : Int} (hm : atModel Z m B) (hr27 : zA Z r27 100 21) (h : ((R32 s0) ∧ (R32 (zI Z (m + 13) 0)) ∧ ZP G 12 m_X12_isProved 32 [some (.ref m), some (.ref r27), some (iv (b2 (s0 = (zI Z (m + 13) 0)))), some (iv (v3 + 1))] [] Z Q)) : ZP G 12 m_X12_isProved 59 [some (.ref m), some (.ref r27), none, some (iv v3)] [iv s0] Z Q := z_aload_n (pc' := 60) (j := 0) (by decide +kernel) rfl rfl <| z_getR (pc' := 63) (idx := 39) (ci := 12) (f := 13) (by decide +kernel) f_RX12_39 rfl hm.o.1 hm.o.2 hm.r13 rfl <| z_iconst (pc' := 64) (n := 0) (by decide +kernel) rfl <| z_iaload (pc' := 65) (by decide +kernel) hm.a13 ⟨by decide, by decide, by decide⟩ rfl <| h.elim fun c1 h => h.elim fun c2 h => am_use (fun k5 => z_icmp_ne (pc' := 68) (tgt := 72) (off := 7) (by decide +kernel) (by decide) rfl c1 c2 (am_ite2 (fun q6 => z_iconst (pc' := 69) (n := 1) (by decide +kernel) rfl <| z_goto (tgt := 73) (off := 4) (by decide +kernel) (by decide) <| (am_jp (P := fun z9 => ZP G 12 m_X12_isProved 73 [some (.ref m), some (.ref r27), none, some (iv v3)] [iv z9] _ Q) (b2_p q6) k5)) (fun q6 => z_iconst (pc' := 73) (n := 0) (by decide +kernel) rfl <| (am_jp (P := fun z9 => ZP G 12 m_X12_isProved 73 [some (.ref m), some (.ref r27), none, some (iv v3)] [iv z9] _ Q) (b2_f q6) k5)))) <| z_istore_n (pc' := 74) (j := 2) (ls' := [some (.ref m), some (.ref r27), some (iv (b2 (s0 = (zI Z (m + 13) 0)))), some (iv v3)]) (by decide +kernel) (by decide) rfl rfl <| z_iinc (pc' := 77) (j := 3) (n := 1) (x := v3) (ls' := [some (.ref m), some (.ref r27), some (iv (b2 (s0 = (zI Z (m + 13) 0)))), some (iv (v3 + 1))]) (by decide +kernel) rfl (by decide) rfl rfl <| z_goto (tgt := 32) (off := -45) (by decide +kernel) (by decide) <| h
/-! ===== is the plan proved? ===== -/
def cbI (p : Pl) (d : Nat → Int) (i : Nat) : Int := plB p (d i).toNat
def ceI (k : Bk) (p : Pl) (d : Nat → Int) (i : Nat) : Int := plB p (d i).toNat + kF k 0 (d i).toNat
/-- an hour in which a task of the proof works, or a lag of it lies -/
def chd (k : Bk) (p : Pl) (d g : Nat → Int) (q : Nat) (x : Int) : Prop := ∃ i, i < q ∧ ((cbI p d i ≤ x ∧ x < ceI k p d i) ∨ (i + 1 < q ∧ ceI k p d (i + 1) ≤ x ∧ x < ceI k p d (i + 1) + g i))
def isPr (k : Bk) (p : Pl) : Prop := ∀ x, 0 ≤ x → x < plE p → chd k p (vPf k p).1 (vPf k p).2.1 (vPf k p).2.2 x ∨ busyN k p 0 x (kN k) = plH p 0
noncomputable def o_isProved (σ : St) : Ou := pIf σ fun p => cIf (isPr (sK σ) p) (0, 1, σ) (0, 0, σ)
theorem chd_st {k : Bk} {p : Pl} (ho : kOk k) (hp : okPl k p) {d g : Nat → Int} {q : Nat} (h : isPf k p d g q) {i : Nat} (hi : i < q) : 0 ≤ cbI p d i ∧ cbI p d i < ceI k p d i ∧ ceI k p d i ≤ 5060 ∧ (i + 1 < q → ceI k p d (i + 1) + g i ≤ cbI p d i ∧ 0 ≤ g i ∧ g i ≤ 30) := by
  obtain ⟨h1, h2, h3, h4⟩ := h
  obtain ⟨a1, a2, a3⟩ := h3 i hi
  have b1 := (hp.b (show (d i).toNat < kN k by omega)).1
  have b2' := ho.len (show (d i).toNat < kN k by omega)
  refine ⟨b1.1, by unfold cbI ceI; omega, by unfold ceI; omega, fun hq => ?_⟩
  have c1 := (h3 (i + 1) hq).1
  rcases a3 with ⟨e, -⟩ | ⟨j, j1, j2, j3, j4, -⟩
  · omega
  · have l := hp.2.2.2.2.1 j j1
    have hg := ho.g j1
    unfold lateB at l
    rw [j2] at l
    unfold cbI ceI
    rw [j3, Int.toNat_natCast, j4]
    omega
theorem chd_mono {k : Bk} {p : Pl} (ho : kOk k) (hp : okPl k p) {d g : Nat → Int} {q : Nat} (h : isPf k p d g q) {i : Nat} : ∀ m, i + m < q → cbI p d (i + m) ≤ cbI p d i ∧ ceI k p d (i + m) ≤ ceI k p d i := by
  intro m
  induction m with
  | zero => exact fun _ => ⟨Int.le_refl _, Int.le_refl _⟩
  | succ m ih =>
    intro hm
    have a := ih (by omega)
    have b := chd_st ho hp h (show i + m < q by omega)
    have c := chd_st ho hp h (show i + (m + 1) < q by omega)
    have e := b.2.2.2 (by omega)
    rw [show i + m + 1 = i + (m + 1) by omega] at e
    omega
theorem chd_last {k : Bk} {p : Pl} (ho : kOk k) (hp : okPl k p) {d g : Nat → Int} {q : Nat} (h : isPf k p d g q) : (q = 0 → plE p = 0) ∧ (0 < q → ceI k p d 0 = plE p) := by
  obtain ⟨h1, h2, h3, h4⟩ := h
  refine ⟨fun e => ?_, fun e => ?_⟩
  · rw [e] at h4
    rcases h1 with ⟨g1, g2⟩ | ⟨t, g1, g2, -⟩
    · by_cases c : 0 < kN k
      · obtain ⟨i, i1, i2⟩ := zmax_at (f := fun t => plB p t + kF k 0 t) c fun i hi => by
          have := (hp.b hi).1
          have := ho.len hi
          show 0 ≤ plB p i + kF k 0 i
          omega
        exact absurd (i2.trans hp.1.symm) (g2 i i1)
      · have e0 := hp.1
        rw [show kN k = 0 by omega] at e0
        exact e0
    · omega
  · have := h3 0 e
    rcases h1 with ⟨g1, g2⟩ | ⟨t, g1, g2, g3, -⟩
    · omega
    · unfold ceI
      rw [g2, Int.toNat_natCast]
      exact g3
theorem s_doesProofHold {G : Gx} {Z : Zm} {σ : St} {p : Pl} (h : IC Z σ) (ho : okS σ) (hp : sP σ = some p) : ZM G 1 m_X9_doesProofHold [.ref 256, .ref 1] Z (fun r W => (∃ s, r = .inl (some (iv s)) ∧ ((s = 1 ∧ isPr (sK σ) p) ∨ (s = 0 ∧ ¬ isPr (sK σ) p))) ∧ W = Z) := by
  have hN := ho.1.n
  have ok := ho.p p hp
  have hen := ok.e ho.1
  obtain ⟨-, q1, q2, q3, q4, q5, -⟩ := h.pl.2 p hp
  obtain ⟨pf, w1, w2⟩ := h.pf ho hp
  unfold isPr
  generalize (vPf (sK σ) p).1 = d at *
  generalize (vPf (sK σ) p).2.1 = g at *
  generalize (vPf (sK σ) p).2.2 = q at *
  have hq := pf.2.1
  refine e_X9_doesProofHold h.1.pm h.1.bk ?_
  suffices key : ∀ v, v ≤ q → ∀ f : Int, (0 ≤ f ∧ f ≤ 5090) → (v = 0 → f = 0) → (0 < v → f = ceI (sK σ) p d (q - v) + (if q - v = 0 then 0 else g (q - v - 1))) → (∀ x, 0 ≤ x → x < f → x < plE p → chd (sK σ) p d g q x ∨ busyN (sK σ) p 0 x (kN (sK σ)) = plH p 0) → ZP G 1 m_X9_doesProofHold 4 [some (.ref 256), some (.ref 1), some (iv f), some (iv (v : Int)), none, none] [] Z (fun r W => (∃ s, r = .inl (some (iv s)) ∧ ((s = 1 ∧ ∀ x, 0 ≤ x → x < plE p → chd (sK σ) p d g q x ∨ busyN (sK σ) p 0 x (kN (sK σ)) = plH p 0) ∨ (s = 0 ∧ ¬ ∀ x, 0 ≤ x → x < plE p → chd (sK σ) p d g q x ∨ busyN (sK σ) p 0 x (kN (sK σ)) = plH p 0))) ∧ W = Z) from key 0 (Nat.zero_le _) 0 (by omega) (fun _ => rfl) (fun e => absurd e (Nat.not_lt_zero _)) fun x h1 h2 => by omega
  refine am_up (n := q) fun v hv ih f hf f0 f1 hd => ?_
  refine b_X9_doesProofHold_4 h.1.pm h.1.bk ⟨by omega, by rw [w1]; omega, ?_⟩
  rw [w1]
  by_cases c : v < q
  · have st := chd_st ho.1 ok pf (show q - 1 - v < q by omega)
    obtain ⟨a1, a2⟩ := w2 (q - 1 - v) (by omega)
    rw [show q - 1 - (q - 1 - v) = v by omega] at a1 a2
    have dr := pf.2.2.1 (q - 1 - v) (by omega)
    rw [if_neg (by omega), Int.toNat_natCast, show zI Z (256 + 8) v = d (q - 1 - v) from a1]
    refine ⟨zIx_nat (by omega) (by omega), ?_⟩
    -- how far the hours are looked at
    have lef : f ≤ cbI p d (q - 1 - v) := by
      by_cases e : v = 0
      · rw [f0 e]
        exact st.1
      · have s2 := st.2.2.2 (by omega)
        have f2 := f1 (by omega)
        rw [if_neg (by omega), show q - v = q - 1 - v + 1 by omega, show q - 1 - v + 1 - 1 = q - 1 - v by omega] at f2
        omega
    have nch : ∀ x, f ≤ x → x < cbI p d (q - 1 - v) → ¬ chd (sK σ) p d g q x := fun x x1 x2 => by
      rintro ⟨l, l1, l2⟩
      by_cases e : q - 1 - v < l
      · -- one that is done
        have f2 := f1 (by omega)
        have m1 := chd_mono ho.1 ok pf (i := q - v) (l - (q - v)) (by omega)
        rw [show q - v + (l - (q - v)) = l by omega] at m1
        have sl := chd_st ho.1 ok pf l1
        have gp : 0 ≤ (if q - v = 0 then 0 else g (q - v - 1)) := by
          rw [if_neg (by omega)]
          have := (chd_st ho.1 ok pf (show q - v - 1 < q by omega)).2.2.2 (by omega)
          omega
        rcases l2 with l2 | ⟨l3, l4, l5⟩
        · omega
        · have := sl.2.2.2 l3
          omega
      · have m1 := chd_mono ho.1 ok pf (i := l) (q - 1 - v - l) (by omega)
        rw [show l + (q - 1 - v - l) = q - 1 - v by omega] at m1
        rcases l2 with l2 | ⟨l3, l4, l5⟩
        · omega
        · by_cases e2 : l = q - 1 - v
          · have f2 := f1 (by omega)
            rw [if_neg (by omega), show q - v = q - 1 - v + 1 by omega, show q - 1 - v + 1 - 1 = q - 1 - v by omega] at f2
            rw [e2] at l5
            omega
          · have m2 := chd_mono ho.1 ok pf (i := l + 1) (q - 1 - v - (l + 1)) (by omega)
            rw [show l + 1 + (q - 1 - v - (l + 1)) = q - 1 - v by omega] at m2
            omega
    have lend : ceI (sK σ) p d (q - 1 - v) ≤ plE p := by
      have m1 := chd_mono ho.1 ok pf (i := 0) (q - 1 - v) (by omega)
      rw [Nat.zero_add] at m1
      have := (chd_last ho.1 ok pf).2 (by omega)
      omega
    obtain ⟨F, hF⟩ : ∃ F : Nat, f = (F : Int) := ⟨f.toNat, by omega⟩
    obtain ⟨E, hE⟩ : ∃ E : Nat, cbI p d (q - 1 - v) = (E : Int) := ⟨(cbI p d (q - 1 - v)).toNat, by omega⟩
    suffices inn : ∀ y, y ≤ E → F ≤ y → (∀ x, 0 ≤ x → x < (y : Int) → x < plE p → chd (sK σ) p d g q x ∨ busyN (sK σ) p 0 x (kN (sK σ)) = plH p 0) → ZP G 1 m_X9_doesProofHold 23 [some (.ref 256), some (.ref 1), none, some (iv (v : Int)), some (iv (d (q - 1 - v))), some (iv (y : Int))] [] Z (fun r W => (∃ s, r = .inl (some (iv s)) ∧ ((s = 1 ∧ ∀ x, 0 ≤ x → x < plE p → chd (sK σ) p d g q x ∨ busyN (sK σ) p 0 x (kN (sK σ)) = plH p 0) ∨ (s = 0 ∧ ¬ ∀ x, 0 ≤ x → x < plE p → chd (sK σ) p d g q x ∨ busyN (sK σ) p 0 x (kN (sK σ)) = plH p 0))) ∧ W = Z) by
      have h9 := inn F (by omega) (Nat.le_refl _) (by rw [← hF]; exact hd)
      rw [hF]
      exact h9
    refine am_up (n := E) fun y hy ihy hFy hdy => ?_
    obtain ⟨e1, e2, e3⟩ := q5 (d (q - 1 - v)).toNat (by omega)
    have e1' : zI Z (256 + 3) (d (q - 1 - v)).toNat = (E : Int) := e1.trans hE
    have e2' : zI Z (256 + 4) (d (q - 1 - v)).toNat = ceI (sK σ) p d (q - 1 - v) := e2
    have hsk : ∀ s, zI Z (256 + 1) s = zI Z 257 s := fun s => rfl
    refine b_X9_doesProofHold_23 h.1.pm h.1.bk ⟨⟨by omega, by omega, by decide⟩, by omega, ?_⟩
    rw [e1']
    refine ⟨by omega, ?_⟩
    by_cases cy : y < E
    · rw [if_neg (by omega)]
      refine (s_countWorking h ho hp (by omega) (by omega)).mono ?_
      rintro r W ⟨rfl, hW⟩
      obtain rfl := hW.symm
      have br := busyN_r (sK σ) p 0 (y : Int) (kN (sK σ))
      have h0 := q4 0 (by omega)
      have hh := ok.h 0 (by omega)
      refine b_X9_doesProofHold_43 h.1.pm h.1.bk ?_
      rw [hsk, h0]
      refine ⟨by omega, by omega, ?_⟩
      by_cases cc : busyN (sK σ) p 0 (y : Int) (kN (sK σ)) = plH p 0
      · rw [if_pos cc]
        refine ihy cy (by omega) fun x x1 x2 x3 => ?_
        by_cases e : x = (y : Int)
        · rw [e]
          exact Or.inr cc
        · exact hdy x x1 (by omega) x3
      · rw [if_neg cc]
        refine ⟨⟨0, rfl, Or.inr ⟨rfl, fun all => ?_⟩⟩, rfl⟩
        rcases all (y : Int) (by omega) (by omega) with e | e
        · exact nch (y : Int) (by omega) (by omega) e
        · exact cc e
    · have ey : y = E := by omega
      rw [if_pos (by omega), Int.toNat_natCast, e2', show zI Z (256 + 9) v = _ from a2]
      refine ⟨zIx_nat (by omega) (by omega), ?_⟩
      have gp : 0 ≤ (if q - 1 - v = 0 then 0 else g (q - 1 - v - 1)) ∧ (if q - 1 - v = 0 then 0 else g (q - 1 - v - 1)) ≤ 30 := by
        by_cases e : q - 1 - v = 0
        · rw [if_pos e]
          omega
        · rw [if_neg e]
          have := (chd_st ho.1 ok pf (show q - 1 - v - 1 < q by omega)).2.2.2 (by omega)
          omega
      refine ih c _ (by omega) (fun e => by omega) (fun _ => by rw [show q - (v + 1) = q - 1 - v by omega]) fun x x1 x2 x3 => ?_
      by_cases g1 : x < (y : Int)
      · exact hdy x x1 g1 x3
      · left
        by_cases g2 : x < ceI (sK σ) p d (q - 1 - v)
        · exact ⟨q - 1 - v, by omega, Or.inl ⟨by omega, g2⟩⟩
        · by_cases e : q - 1 - v = 0
          · have := (chd_last ho.1 ok pf).2 (by omega)
            rw [e] at g2
            omega
          · rw [if_neg e] at x2
            refine ⟨q - 1 - v - 1, by omega, Or.inr ⟨by omega, ?_, ?_⟩⟩
            · rw [show q - 1 - v - 1 + 1 = q - 1 - v by omega]
              omega
            · rw [show q - 1 - v - 1 + 1 = q - 1 - v by omega]
              exact x2
  · rw [if_pos (by omega)]
    refine ⟨⟨1, rfl, Or.inl ⟨rfl, fun x x1 x2 => hd x x1 ?_ x2⟩⟩, rfl⟩
    by_cases e : q = 0
    · have := (chd_last ho.1 ok pf).1 e
      omega
    · have a := (chd_last ho.1 ok pf).2 (by omega)
      have b := f1 (by omega)
      rw [show q - v = 0 by omega, if_pos rfl] at b
      omega
theorem c_isProved {G : Gx} {Z : Zm} {σ : St} (h : IC Z σ) (ho : okS σ) (hz : zSz Z < 1000000) : ZM G 12 m_X11_isProved [.ref 0] Z (rC Z (E3 eT "" "") iv (o_isProved σ)) := by
  unfold o_isProved
  cases hp : sP σ with
  | none =>
    rw [pIf_n hp]
    have e0 := h.pn hp
    refine e_X11_isProved h.1 ?_
    rw [e0, if_neg (by decide)]
    exact ⟨by decide, hz, rC.no h (by decide) rfl⟩
  | some p =>
    rw [pIf_s hp]
    have e0 := (h.pl.2 p hp).1
    refine e_X11_isProved h.1 ?_
    rw [e0, if_pos (by decide)]
    refine ⟨by decide, hz, ((s_doesProofHold h ho hp).deeper (by omega)).mono ?_⟩
    rintro r W ⟨⟨s, rfl, hs⟩, hW⟩
    obtain rfl := hW.symm
    rcases hs with ⟨rfl, hs⟩ | ⟨rfl, hs⟩
    · rw [cIf_p hs]
      exact b_X11_isProved_15 h.1 ⟨Or.inr rfl, rC.st h rfl⟩
    · rw [cIf_f hs]
      exact b_X11_isProved_15 h.1 ⟨Or.inl rfl, rC.st h rfl⟩
