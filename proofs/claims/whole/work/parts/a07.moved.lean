set_option maxRecDepth 20000 in
theorem e_X11_keep {G : Gx} {Q : Rv → Zm → Prop} {Z : Zm}  (hx : atAll Z) (h : (ZM G 11 m_X11_freshNet [.ref 0] Z (zKc G 12 m_X11_keep 4 [some (.ref 0)] [] Q))) : ZM G 12 m_X11_keep [.ref 0] Z Q := ZM.of [some (.ref 0)] rfl <| z_aload_n (pc' := 1) (j := 0) (by decide +kernel) rfl rfl <| z_callV (pc' := 4) (idx := 238) (mj := m_X11_freshNet) (av := []) (d' := 11) (by decide +kernel) rfl k_X11_freshNet l_RX11_238 rfl (by omega) (am_le rfl) rfl (am_le rfl) hx.o.1 hx.o.2 rfl h
set_option maxRecDepth 20000 in
theorem b_X11_keep_4 {G : Gx} {Q : Rv → Zm → Prop} {Z : Zm}   (hx : atAll Z) (h : (∀ Z1, Z1 = zSI Z 276 (zcpy (zI Z 239) (zI Z 276) 0 0 20) → ∀ Z2, Z2 = zSI Z1 0 (zu (zI Z1 0) 14 (zI Z1 1 3)) → Q (.inl (some (iv (zI Z2 0 14)))) Z2)) : ZP G 12 m_X11_keep 4 [some (.ref 0)] [.ref 233] Z Q := z_getR (pc' := 7) (idx := 242) (ci := 7) (f := 9) (by decide +kernel) f_RX11_242 rfl hx.nt.o.1 hx.nt.o.2 hx.nt.r9 rfl <| z_iconst (pc' := 8) (n := 0) (by decide +kernel) rfl <| z_aload_n (pc' := 9) (j := 0) (by decide +kernel) rfl rfl <| z_getR (pc' := 12) (idx := 70) (ci := 11) (f := 13) (by decide +kernel) f_RX11_70 rfl hx.o.1 hx.o.2 hx.r13 rfl <| z_iconst (pc' := 13) (n := 0) (by decide +kernel) rfl <| z_bipush (pc' := 15) (n := 20) (by decide +kernel) (by decide) rfl <| z_copy (pc' := 18) (idx := 444) (by decide +kernel) (amM3 173 rfl (by decide +kernel)) (amM3 71 rfl (by decide +kernel)) (amM3 70 rfl (by decide +kernel)) (amM1 20 rfl (by decide +kernel)) (by omega) (am_le rfl) hx.nt.a9 hx.a13 (by decide) rfl <| have h := h _ rfl; z_aload_n (pc' := 19) (j := 0) (by decide +kernel) rfl rfl <| z_aload_n (pc' := 20) (j := 0) (by decide +kernel) rfl rfl <| z_getR (pc' := 23) (idx := 10) (ci := 11) (f := 0) (by decide +kernel) f_RX11_10 rfl hx.o.1 hx.o.2 hx.r0 rfl <| z_getI (pc' := 26) (idx := 117) (ci := 0) (f := 3) (by decide +kernel) f_RX11_117 rfl hx.bk.o.1 hx.bk.o.2 rfl <| z_putI (pc' := 29) (idx := 450) (ci := 11) (f := 14) (by decide +kernel) f_RX11_450 (am_nf rfl rfl) rfl rfl rfl hx.o.1 hx.o.2 rfl <| have h := h _ rfl; z_aload_n (pc' := 30) (j := 0) (by decide +kernel) rfl rfl <| z_getI (pc' := 33) (idx := 450) (ci := 11) (f := 14) (by decide +kernel) f_RX11_450 rfl hx.o.1 hx.o.2 rfl <| z_ireturn (by decide +kernel) ⟨_, rfl, rfl⟩ h
set_option maxRecDepth 20000 in
theorem e_X12_keep {G : Gx} {Q : Rv → Zm → Prop} {Z : Zm} {m : Nat} {B : Nat} (hm : atModel Z m B) (h : (∀ Z1, Z1 = zSI Z m (zu (zI Z m) 19 0) → ZM G 11 m_X12_lengths [.ref m] Z1 (zKc G 12 m_X12_keep 10 [some (.ref m), none, none] [.ref m] Q))) : ZM G 12 m_X12_keep [.ref m] Z Q := ZM.of [some (.ref m), none, none] rfl <| z_aload_n (pc' := 1) (j := 0) (by decide +kernel) rfl rfl <| z_iconst (pc' := 2) (n := 0) (by decide +kernel) rfl <| z_putI (pc' := 5) (idx := 60) (ci := 12) (f := 19) (by decide +kernel) f_RX12_60 (am_nf rfl rfl) rfl rfl rfl hm.o.1 hm.o.2 rfl <| have h := h _ rfl; z_aload_n (pc' := 6) (j := 0) (by decide +kernel) rfl rfl <| z_aload_n (pc' := 7) (j := 0) (by decide +kernel) rfl rfl <| z_callV (pc' := 10) (idx := 123) (mj := m_X12_lengths) (av := []) (d' := 11) (by decide +kernel) rfl k_X12_lengths l_RX12_123 rfl (by omega) (am_le rfl) rfl (am_le rfl) hm.o.1 hm.o.2 rfl h
set_option maxRecDepth 20000 in
theorem b_X12_keep_10 {G : Gx} {Q : Rv → Zm → Prop} {Z : Zm} {r10 : Nat} {m : Nat} {B : Nat}  (hm : atModel Z m B) (hr10 : zA Z r10 100 20) (h : (ZM G 11 m_X12_earliestBegins [.ref m, .ref r10] Z (zKc G 12 m_X12_keep 13 [some (.ref m), none, none] [] Q))) : ZP G 12 m_X12_keep 10 [some (.ref m), none, none] [.ref r10, .ref m] Z Q := z_callV (pc' := 13) (idx := 130) (mj := m_X12_earliestBegins) (av := [.ref r10]) (d' := 11) (by decide +kernel) rfl k_X12_earliestBegins l_RX12_130 rfl (by omega) (am_le rfl) rfl (am_le rfl) hm.o.1 hm.o.2 rfl h
set_option maxRecDepth 20000 in
theorem b_X12_keep_13 {G : Gx} {Q : Rv → Zm → Prop} {Z : Zm} {r13 : Nat} {m : Nat} {B : Nat}  (hm : atModel Z m B) (hr13 : zA Z r13 100 20) (h : (ZP G 12 m_X12_keep 16 [some (.ref m), some (.ref r13), some (iv 0)] [] Z Q)) : ZP G 12 m_X12_keep 13 [some (.ref m), none, none] [.ref r13] Z Q := z_astore_n (pc' := 14) (j := 1) (ls' := [some (.ref m), some (.ref r13), none]) (by decide +kernel) (by decide) rfl rfl <| z_iconst (pc' := 15) (n := 0) (by decide +kernel) rfl <| z_istore_n (pc' := 16) (j := 2) (ls' := [some (.ref m), some (.ref r13), some (iv 0)]) (by decide +kernel) (by decide) rfl rfl <| h
set_option maxRecDepth 20000 in
theorem b_X12_keep_16 {G : Gx} {Q : Rv → Zm → Prop} {Z : Zm} {r13 : Nat} {m : Nat} {B : Nat} {v2 : Int} (hm : atModel Z m B) (hr13 : zA Z r13 100 20) (h : ((R32 v2) ∧ (R32 (zI Z B 0)) ∧ (if (zI Z B 0) ≤ v2 then (∀ Z4, Z4 = zSI Z m (zu (zI Z m) 16 (zI Z B 0)) → Q (.inl (some (iv (zI Z4 m 16)))) Z4) else ((zIx v2 20) ∧ ∀ Z6, Z6 = zSI Z (m + 14) (zu (zI Z (m + 14)) v2.toNat (zI Z r13 v2.toNat)) → ZP G 12 m_X12_keep 16 [some (.ref m), some (.ref r13), some (iv (v2 + 1))] [] Z6 Q)))) : ZP G 12 m_X12_keep 16 [some (.ref m), some (.ref r13), some (iv v2)] [] Z Q := z_iload_n (pc' := 17) (j := 2) (by decide +kernel) rfl rfl <| z_aload_n (pc' := 18) (j := 0) (by decide +kernel) rfl rfl <| z_callV (pc' := 21) (idx := 64) (mj := m_X12_many) (av := []) (d' := 0) (by decide +kernel) rfl k_X12_many l_RX12_64 rfl (by omega) (am_le rfl) rfl (am_le rfl) hm.o.1 hm.o.2 rfl <| zKf (s_many hm) <| h.elim fun c1 h => h.elim fun c2 h => z_icmp_ge (pc' := 24) (tgt := 39) (off := 18) (by decide +kernel) (by decide) rfl c1 c2 (am_ite h (fun h => z_aload_n (pc' := 40) (j := 0) (by decide +kernel) rfl rfl <| z_aload_n (pc' := 41) (j := 0) (by decide +kernel) rfl rfl <| z_callV (pc' := 44) (idx := 64) (mj := m_X12_many) (av := []) (d' := 0) (by decide +kernel) rfl k_X12_many l_RX12_64 rfl (by omega) (am_le rfl) rfl (am_le rfl) hm.o.1 hm.o.2 rfl <| zKf (s_many hm) <| z_putI (pc' := 47) (idx := 361) (ci := 12) (f := 16) (by decide +kernel) f_RX12_361 (am_nf rfl rfl) rfl rfl rfl hm.o.1 hm.o.2 rfl <| have h := h _ rfl; z_aload_n (pc' := 48) (j := 0) (by decide +kernel) rfl rfl <| z_getI (pc' := 51) (idx := 361) (ci := 12) (f := 16) (by decide +kernel) f_RX12_361 rfl hm.o.1 hm.o.2 rfl <| z_ireturn (by decide +kernel) ⟨_, rfl, rfl⟩ h) (fun h => z_aload_n (pc' := 25) (j := 0) (by decide +kernel) rfl rfl <| z_getR (pc' := 28) (idx := 42) (ci := 12) (f := 15) (by decide +kernel) f_RX12_42 rfl hm.o.1 hm.o.2 hm.r15 rfl <| z_iload_n (pc' := 29) (j := 2) (by decide +kernel) rfl rfl <| z_aload_n (pc' := 30) (j := 1) (by decide +kernel) rfl rfl <| z_iload_n (pc' := 31) (j := 2) (by decide +kernel) rfl rfl <| h.elim fun c5 h => z_iaload (pc' := 32) (by decide +kernel) hr13 c5 rfl <| z_iastore (pc' := 33) (by decide +kernel) hm.a15 c5 rfl <| have h := h _ rfl; z_iinc (pc' := 36) (j := 2) (n := 1) (x := v2) (ls' := [some (.ref m), some (.ref r13), some (iv (v2 + 1))]) (by decide +kernel) rfl (by decide) rfl rfl <| z_goto (tgt := 16) (off := -20) (by decide +kernel) (by decide) <| h))
set_option maxRecDepth 20000 in
theorem e_X11_moved {G : Gx} {Q : Rv → Zm → Prop} {Z : Zm}  (hx : atAll Z) (h : (ZM G 11 m_X11_freshNet [.ref 0] Z (zKc G 12 m_X11_moved 4 [some (.ref 0), none, none, none] [] Q))) : ZM G 12 m_X11_moved [.ref 0] Z Q := ZM.of [some (.ref 0), none, none, none] rfl <| z_aload_n (pc' := 1) (j := 0) (by decide +kernel) rfl rfl <| z_callV (pc' := 4) (idx := 238) (mj := m_X11_freshNet) (av := []) (d' := 11) (by decide +kernel) rfl k_X11_freshNet l_RX11_238 rfl (by omega) (am_le rfl) rfl (am_le rfl) hx.o.1 hx.o.2 rfl h
set_option maxRecDepth 20000 in
theorem b_X11_moved_4 {G : Gx} {Q : Rv → Zm → Prop} {Z : Zm}   (hx : atAll Z) (h : (ZP G 12 m_X11_moved 12 [some (.ref 0), some (.ref 239), some (iv 0), some (iv 0)] [] Z Q)) : ZP G 12 m_X11_moved 4 [some (.ref 0), none, none, none] [.ref 233] Z Q := z_getR (pc' := 7) (idx := 242) (ci := 7) (f := 9) (by decide +kernel) f_RX11_242 rfl hx.nt.o.1 hx.nt.o.2 hx.nt.r9 rfl <| z_astore_n (pc' := 8) (j := 1) (ls' := [some (.ref 0), some (.ref 239), none, none]) (by decide +kernel) (by decide) rfl rfl <| z_iconst (pc' := 9) (n := 0) (by decide +kernel) rfl <| z_istore_n (pc' := 10) (j := 2) (ls' := [some (.ref 0), some (.ref 239), some (iv 0), none]) (by decide +kernel) (by decide) rfl rfl <| z_iconst (pc' := 11) (n := 0) (by decide +kernel) rfl <| z_istore_n (pc' := 12) (j := 3) (ls' := [some (.ref 0), some (.ref 239), some (iv 0), some (iv 0)]) (by decide +kernel) (by decide) rfl rfl <| h
set_option maxRecDepth 20000 in
theorem b_X11_moved_12 {G : Gx} {Q : Rv → Zm → Prop} {Z : Zm}  {v2 : Int} {v3 : Int} (hx : atAll Z) (h : ((R32 v3) ∧ (R32 (zI Z 0 14)) ∧ (if (zI Z 0 14) ≤ v3 then (Q (.inl (some (iv v2))) Z) else (ZM G 11 m_X0_hasTask [.ref 1, iv v3] Z (zKc G 12 m_X11_moved 28 [some (.ref 0), some (.ref 239), some (iv v2), some (iv v3)] [] Q))))) : ZP G 12 m_X11_moved 12 [some (.ref 0), some (.ref 239), some (iv v2), some (iv v3)] [] Z Q := z_iload_n (pc' := 13) (j := 3) (by decide +kernel) rfl rfl <| z_aload_n (pc' := 14) (j := 0) (by decide +kernel) rfl rfl <| z_getI (pc' := 17) (idx := 450) (ci := 11) (f := 14) (by decide +kernel) f_RX11_450 rfl hx.o.1 hx.o.2 rfl <| h.elim fun c1 h => h.elim fun c2 h => z_icmp_ge (pc' := 20) (tgt := 52) (off := 35) (by decide +kernel) (by decide) rfl c1 c2 (am_ite h (fun h => z_iload_n (pc' := 53) (j := 2) (by decide +kernel) rfl rfl <| z_ireturn (by decide +kernel) ⟨_, rfl, rfl⟩ h) (fun h => z_aload_n (pc' := 21) (j := 0) (by decide +kernel) rfl rfl <| z_getR (pc' := 24) (idx := 10) (ci := 11) (f := 0) (by decide +kernel) f_RX11_10 rfl hx.o.1 hx.o.2 hx.r0 rfl <| z_iload_n (pc' := 25) (j := 3) (by decide +kernel) rfl rfl <| z_callV (pc' := 28) (idx := 453) (mj := m_X0_hasTask) (av := [iv v3]) (d' := 11) (by decide +kernel) rfl k_X0_hasTask l_RX11_453 rfl (by omega) (am_le rfl) rfl (am_le rfl) hx.bk.o.1 hx.bk.o.2 rfl h))
set_option maxRecDepth 20000 in
theorem b_X11_moved_28 {G : Gx} {Q : Rv → Zm → Prop} {Z : Zm}  {v2 : Int} {v3 : Int} {s0 : Int} (hx : atAll Z) (h : ((R32 s0) ∧ (¬ (s0 = 0) → (zIx v3 20) ∧ (R32 (zI Z 239 v3.toNat)) ∧ (R32 (zI Z 276 v3.toNat)) ∧ True) ∧ ZP G 12 m_X11_moved 12 [some (.ref 0), some (.ref 239), some (iv (if s0 = 0 then v2 + 1 else (if (zI Z 239 v3.toNat) = (zI Z 276 v3.toNat) then v2 else v2 + 1))), some (iv (v3 + 1))] [] Z Q)) : ZP G 12 m_X11_moved 28 [some (.ref 0), some (.ref 239), some (iv v2), some (iv v3)] [iv s0] Z Q := h.elim fun c1 h => h.elim fun g10 h => am_use (fun k11 => z_if_eq (pc' := 31) (tgt := 43) (off := 15) (by decide +kernel) (by decide) rfl c1 (am_ite2 (fun q12 => z_iinc (pc' := 46) (j := 2) (n := 1) (x := v2) (ls' := [some (.ref 0), some (.ref 239), some (iv (v2 + 1)), some (iv v3)]) (by decide +kernel) rfl (by decide) rfl rfl <| (am_jp (P := fun z9 => ZP G 12 m_X11_moved 46 [some (.ref 0), some (.ref 239), some (iv z9), some (iv v3)] [] _ Q) (if_pos q12) k11)) (fun q12 => have h := g10 q12; z_aload_n (pc' := 32) (j := 1) (by decide +kernel) rfl rfl <| z_iload_n (pc' := 33) (j := 3) (by decide +kernel) rfl rfl <| h.elim fun c2 h => z_iaload (pc' := 34) (by decide +kernel) hx.nt.a9 c2 rfl <| z_aload_n (pc' := 35) (j := 0) (by decide +kernel) rfl rfl <| z_getR (pc' := 38) (idx := 70) (ci := 11) (f := 13) (by decide +kernel) f_RX11_70 rfl hx.o.1 hx.o.2 hx.r13 rfl <| z_iload_n (pc' := 39) (j := 3) (by decide +kernel) rfl rfl <| z_iaload (pc' := 40) (by decide +kernel) hx.a13 c2 rfl <| h.elim fun c3 h => h.elim fun c4 h => am_use (fun k7 => z_icmp_eq (pc' := 43) (tgt := 46) (off := 6) (by decide +kernel) (by decide) rfl c3 c4 (am_ite2 (fun q8 => (am_jp (P := fun z9 => ZP G 12 m_X11_moved 46 [some (.ref 0), some (.ref 239), some (iv z9), some (iv v3)] [] _ Q) (if_pos q8) k7)) (fun q8 => z_iinc (pc' := 46) (j := 2) (n := 1) (x := v2) (ls' := [some (.ref 0), some (.ref 239), some (iv (v2 + 1)), some (iv v3)]) (by decide +kernel) rfl (by decide) rfl rfl <| (am_jp (P := fun z9 => ZP G 12 m_X11_moved 46 [some (.ref 0), some (.ref 239), some (iv z9), some (iv v3)] [] _ Q) (if_neg q8) k7)))) <| (am_jp (P := fun z9 => ZP G 12 m_X11_moved 46 [some (.ref 0), some (.ref 239), some (iv z9), some (iv v3)] [] _ Q) (if_neg q12) k11)))) <| z_iinc (pc' := 49) (j := 3) (n := 1) (x := v3) (ls' := [some (.ref 0), some (.ref 239), some (iv (if s0 = 0 then v2 + 1 else (if (zI Z 239 v3.toNat) = (zI Z 276 v3.toNat) then v2 else v2 + 1))), some (iv (v3 + 1))]) (by decide +kernel) rfl (by decide) rfl rfl <| z_goto (tgt := 12) (off := -37) (by decide +kernel) (by decide) <| h
set_option maxRecDepth 20000 in
theorem e_X12_moved {G : Gx} {Q : Rv → Zm → Prop} {Z : Zm} {m : Nat} {B : Nat} (hm : atModel Z m B) (h : (∀ Z1, Z1 = zSI Z m (zu (zI Z m) 19 0) → ZM G 11 m_X12_lengths [.ref m] Z1 (zKc G 12 m_X12_moved 10 [some (.ref m), none, none, none] [.ref m] Q))) : ZM G 12 m_X12_moved [.ref m] Z Q := ZM.of [some (.ref m), none, none, none] rfl <| z_aload_n (pc' := 1) (j := 0) (by decide +kernel) rfl rfl <| z_iconst (pc' := 2) (n := 0) (by decide +kernel) rfl <| z_putI (pc' := 5) (idx := 60) (ci := 12) (f := 19) (by decide +kernel) f_RX12_60 (am_nf rfl rfl) rfl rfl rfl hm.o.1 hm.o.2 rfl <| have h := h _ rfl; z_aload_n (pc' := 6) (j := 0) (by decide +kernel) rfl rfl <| z_aload_n (pc' := 7) (j := 0) (by decide +kernel) rfl rfl <| z_callV (pc' := 10) (idx := 123) (mj := m_X12_lengths) (av := []) (d' := 11) (by decide +kernel) rfl k_X12_lengths l_RX12_123 rfl (by omega) (am_le rfl) rfl (am_le rfl) hm.o.1 hm.o.2 rfl h
set_option maxRecDepth 20000 in
theorem b_X12_moved_10 {G : Gx} {Q : Rv → Zm → Prop} {Z : Zm} {r10 : Nat} {m : Nat} {B : Nat}  (hm : atModel Z m B) (hr10 : zA Z r10 100 20) (h : (ZM G 11 m_X12_earliestBegins [.ref m, .ref r10] Z (zKc G 12 m_X12_moved 13 [some (.ref m), none, none, none] [] Q))) : ZP G 12 m_X12_moved 10 [some (.ref m), none, none, none] [.ref r10, .ref m] Z Q := z_callV (pc' := 13) (idx := 130) (mj := m_X12_earliestBegins) (av := [.ref r10]) (d' := 11) (by decide +kernel) rfl k_X12_earliestBegins l_RX12_130 rfl (by omega) (am_le rfl) rfl (am_le rfl) hm.o.1 hm.o.2 rfl h
set_option maxRecDepth 20000 in
theorem b_X12_moved_13 {G : Gx} {Q : Rv → Zm → Prop} {Z : Zm} {r13 : Nat} {m : Nat} {B : Nat}  (hm : atModel Z m B) (hr13 : zA Z r13 100 20) (h : (ZP G 12 m_X12_moved 18 [some (.ref m), some (.ref r13), some (iv 0), some (iv 0)] [] Z Q)) : ZP G 12 m_X12_moved 13 [some (.ref m), none, none, none] [.ref r13] Z Q := z_astore_n (pc' := 14) (j := 1) (ls' := [some (.ref m), some (.ref r13), none, none]) (by decide +kernel) (by decide) rfl rfl <| z_iconst (pc' := 15) (n := 0) (by decide +kernel) rfl <| z_istore_n (pc' := 16) (j := 2) (ls' := [some (.ref m), some (.ref r13), some (iv 0), none]) (by decide +kernel) (by decide) rfl rfl <| z_iconst (pc' := 17) (n := 0) (by decide +kernel) rfl <| z_istore_n (pc' := 18) (j := 3) (ls' := [some (.ref m), some (.ref r13), some (iv 0), some (iv 0)]) (by decide +kernel) (by decide) rfl rfl <| h
set_option maxRecDepth 20000 in
theorem b_X12_moved_18 {G : Gx} {Q : Rv → Zm → Prop} {Z : Zm} {r13 : Nat} {m : Nat} {B : Nat} {v2 : Int} {v3 : Int} (hm : atModel Z m B) (hr13 : zA Z r13 100 20) (h : ((R32 v3) ∧ (R32 (zI Z m 16)) ∧ (if (zI Z m 16) ≤ v3 then (Q (.inl (some (iv v2))) Z) else ((R32 (zI Z B 0)) ∧ (¬ ((zI Z B 0) ≤ v3) → (zIx v3 20) ∧ (R32 (zI Z r13 v3.toNat)) ∧ (R32 (zI Z (m + 14) v3.toNat)) ∧ True) ∧ ZP G 12 m_X12_moved 18 [some (.ref m), some (.ref r13), some (iv (v2 + (b2 (((zI Z B 0) ≤ v3) ∨ (¬ ((zI Z r13 v3.toNat) = (zI Z (m + 14) v3.toNat))))))), some (iv (v3 + 1))] [] Z Q)))) : ZP G 12 m_X12_moved 18 [some (.ref m), some (.ref r13), some (iv v2), some (iv v3)] [] Z Q := z_iload_n (pc' := 19) (j := 3) (by decide +kernel) rfl rfl <| z_aload_n (pc' := 20) (j := 0) (by decide +kernel) rfl rfl <| z_getI (pc' := 23) (idx := 361) (ci := 12) (f := 16) (by decide +kernel) f_RX12_361 rfl hm.o.1 hm.o.2 rfl <| h.elim fun c1 h => h.elim fun c2 h => z_icmp_ge (pc' := 26) (tgt := 60) (off := 37) (by decide +kernel) (by decide) rfl c1 c2 (am_ite h (fun h => z_iload_n (pc' := 61) (j := 2) (by decide +kernel) rfl rfl <| z_ireturn (by decide +kernel) ⟨_, rfl, rfl⟩ h) (fun h => z_iload_n (pc' := 27) (j := 2) (by decide +kernel) rfl rfl <| z_iload_n (pc' := 28) (j := 3) (by decide +kernel) rfl rfl <| z_aload_n (pc' := 29) (j := 0) (by decide +kernel) rfl rfl <| z_callV (pc' := 32) (idx := 64) (mj := m_X12_many) (av := []) (d' := 0) (by decide +kernel) rfl k_X12_many l_RX12_64 rfl (by omega) (am_le rfl) rfl (am_le rfl) hm.o.1 hm.o.2 rfl <| zKf (s_many hm) <| h.elim fun c15 h => h.elim fun g24 h => am_use (fun k25 => z_icmp_ge (pc' := 35) (tgt := 47) (off := 15) (by decide +kernel) (by decide) rfl c1 c15 (am_ite2 (fun q26 => z_iconst (pc' := 48) (n := 1) (by decide +kernel) rfl <| z_goto (tgt := 52) (off := 4) (by decide +kernel) (by decide) <| (am_jp (P := fun z9 => ZP G 12 m_X12_moved 52 [some (.ref m), some (.ref r13), some (iv v2), some (iv v3)] [iv z9, iv v2] _ Q) (b2_o1 q26) k25)) (fun q26 => have h := g24 q26; z_aload_n (pc' := 36) (j := 1) (by decide +kernel) rfl rfl <| z_iload_n (pc' := 37) (j := 3) (by decide +kernel) rfl rfl <| h.elim fun c16 h => z_iaload (pc' := 38) (by decide +kernel) hr13 c16 rfl <| z_aload_n (pc' := 39) (j := 0) (by decide +kernel) rfl rfl <| z_getR (pc' := 42) (idx := 42) (ci := 12) (f := 15) (by decide +kernel) f_RX12_42 rfl hm.o.1 hm.o.2 hm.r15 rfl <| z_iload_n (pc' := 43) (j := 3) (by decide +kernel) rfl rfl <| z_iaload (pc' := 44) (by decide +kernel) hm.a15 c16 rfl <| h.elim fun c17 h => h.elim fun c18 h => am_use (fun k21 => z_icmp_eq (pc' := 47) (tgt := 51) (off := 7) (by decide +kernel) (by decide) rfl c17 c18 (am_ite2 (fun q22 => z_iconst (pc' := 52) (n := 0) (by decide +kernel) rfl <| (am_jp (P := fun z9 => ZP G 12 m_X12_moved 52 [some (.ref m), some (.ref r13), some (iv v2), some (iv v3)] [iv z9, iv v2] _ Q) (b2_n q22) k21)) (fun q22 => z_iconst (pc' := 48) (n := 1) (by decide +kernel) rfl <| z_goto (tgt := 52) (off := 4) (by decide +kernel) (by decide) <| (am_jp (P := fun z9 => ZP G 12 m_X12_moved 52 [some (.ref m), some (.ref r13), some (iv v2), some (iv v3)] [iv z9, iv v2] _ Q) (b2_nn q22) k21)))) <| (am_jp (P := fun z9 => ZP G 12 m_X12_moved 52 [some (.ref m), some (.ref r13), some (iv v2), some (iv v3)] [iv z9, iv v2] _ Q) (b2_o2 q26) k25)))) <| z_iadd (pc' := 53) (by decide +kernel) rfl <| z_istore_n (pc' := 54) (j := 2) (ls' := [some (.ref m), some (.ref r13), some (iv (v2 + (b2 (((zI Z B 0) ≤ v3) ∨ (¬ ((zI Z r13 v3.toNat) = (zI Z (m + 14) v3.toNat))))))), some (iv v3)]) (by decide +kernel) (by decide) rfl rfl <| z_iinc (pc' := 57) (j := 3) (n := 1) (x := v3) (ls' := [some (.ref m), some (.ref r13), some (iv (v2 + (b2 (((zI Z B 0) ≤ v3) ∨ (¬ ((zI Z r13 v3.toNat) = (zI Z (m + 14) v3.toNat))))))), some (iv (v3 + 1))]) (by decide +kernel) rfl (by decide) rfl rfl <| z_goto (tgt := 18) (off := -39) (by decide +kernel) (by decide) <| h))
set_option maxRecDepth 20000 in
theorem e_X11_movedBy {G : Gx} {Q : Rv → Zm → Prop} {Z : Zm} {t : Int} (hx : atAll Z) (h : ((R32 t) ∧ (R32 (zI Z 1 3)) ∧ (zSz Z < 1000000) ∧ (if 0 ≤ t ∧ t < zI Z 1 3 then ((R32 (zI Z 0 14)) ∧ (if t < (zI Z 0 14) then (ZM G 11 m_X11_freshNet [.ref 0] Z (zKc G 12 m_X11_movedBy 28 [some (.ref 0), some (iv t)] [] Q)) else (Q (.inr "java/lang/IllegalStateException") (zC Z 14 0 6)))) else Q (.inr "java/util/NoSuchElementException") (zC Z 15 0 6)))) : ZM G 12 m_X11_movedBy [.ref 0, iv t] Z Q := ZM.of [some (.ref 0), some (iv t)] rfl <| z_aload_n (pc' := 1) (j := 0) (by decide +kernel) rfl rfl <| z_iload_n (pc' := 2) (j := 1) (by decide +kernel) rfl rfl <| h.elim fun c1 h => h.elim fun c2 h => h.elim fun c3 h => z_callV (pc' := 5) (idx := 133) (mj := m_X11_checkTask) (av := [iv t]) (d' := 8) (by decide +kernel) rfl k_X11_checkTask l_RX11_133 rfl (by omega) (am_le rfl) rfl (am_le rfl) hx.o.1 hx.o.2 rfl <| zKt (s_checkTask hx c1 c2 c3) (am_ite h (fun h => z_iload_n (pc' := 6) (j := 1) (by decide +kernel) rfl rfl <| z_aload_n (pc' := 7) (j := 0) (by decide +kernel) rfl rfl <| z_getI (pc' := 10) (idx := 450) (ci := 11) (f := 14) (by decide +kernel) f_RX11_450 rfl hx.o.1 hx.o.2 rfl <| h.elim fun c4 h => z_icmp_lt (pc' := 13) (tgt := 24) (off := 14) (by decide +kernel) (by decide) rfl c1 c4 (am_ite h (fun h => z_aload_n (pc' := 25) (j := 0) (by decide +kernel) rfl rfl <| z_callV (pc' := 28) (idx := 238) (mj := m_X11_freshNet) (av := []) (d' := 11) (by decide +kernel) rfl k_X11_freshNet l_RX11_238 rfl (by omega) (am_le rfl) rfl (am_le rfl) hx.o.1 hx.o.2 rfl h) (fun h => z_throw (is := 457) (text := "no begin is kept of the task") th_IllegalStateException (amT7 (i := 171) rfl) rfl (by decide +kernel) (by decide +kernel) (Or.inr ⟨(by decide +kernel), (by decide +kernel), (by decide +kernel)⟩) (by omega) (am_le rfl) c3 h))) (fun h => h))
set_option maxRecDepth 20000 in
theorem b_X11_movedBy_28 {G : Gx} {Q : Rv → Zm → Prop} {Z : Zm} {t : Int}  (hx : atAll Z) (h : ((zIx t 20) ∧ Q (.inl (some (iv ((zI Z 239 t.toNat) - (zI Z 276 t.toNat))))) Z)) : ZP G 12 m_X11_movedBy 28 [some (.ref 0), some (iv t)] [.ref 233] Z Q := z_getR (pc' := 31) (idx := 242) (ci := 7) (f := 9) (by decide +kernel) f_RX11_242 rfl hx.nt.o.1 hx.nt.o.2 hx.nt.r9 rfl <| z_iload_n (pc' := 32) (j := 1) (by decide +kernel) rfl rfl <| h.elim fun c1 h => z_iaload (pc' := 33) (by decide +kernel) hx.nt.a9 c1 rfl <| z_aload_n (pc' := 34) (j := 0) (by decide +kernel) rfl rfl <| z_getR (pc' := 37) (idx := 70) (ci := 11) (f := 13) (by decide +kernel) f_RX11_70 rfl hx.o.1 hx.o.2 hx.r13 rfl <| z_iload_n (pc' := 38) (j := 1) (by decide +kernel) rfl rfl <| z_iaload (pc' := 39) (by decide +kernel) hx.a13 c1 rfl <| z_isub (pc' := 40) (by decide +kernel) rfl <| z_ireturn (by decide +kernel) ⟨_, rfl, rfl⟩ h
set_option maxRecDepth 20000 in
theorem e_X12_movedBy {G : Gx} {Q : Rv → Zm → Prop} {Z : Zm} {m : Nat} {B : Nat} {t : Int} (hm : atModel Z m B) (h : ((R32 t) ∧ (R32 (zI Z B 0 - 1)) ∧ (R32 (zI Z m 16)) ∧ ∀ Z12, Z12 = zSI Z m (zu (zI Z m) 19 (fC (b2 (¬ (0 ≤ t ∧ t < zI Z B 0))) (b2 (¬ (t < (zI Z m 16)))) 0)) → (if 0 < fC (b2 (¬ (0 ≤ t ∧ t < zI Z B 0))) (b2 (¬ (t < (zI Z m 16)))) 0 then (Q (.inl (some (iv 0))) Z12) else (ZM G 11 m_X12_lengths [.ref m] Z12 (zKc G 12 m_X12_movedBy 43 [some (.ref m), some (iv t)] [.ref m] Q))))) : ZM G 12 m_X12_movedBy [.ref m, iv t] Z Q := ZM.of [some (.ref m), some (iv t)] rfl <| z_aload_n (pc' := 1) (j := 0) (by decide +kernel) rfl rfl <| z_aload_n (pc' := 2) (j := 0) (by decide +kernel) rfl rfl <| z_iload_n (pc' := 3) (j := 1) (by decide +kernel) rfl rfl <| h.elim fun c1 h => h.elim fun c2 h => z_callV (pc' := 6) (idx := 151) (mj := m_X12_isTask) (av := [iv t]) (d' := 1) (by decide +kernel) rfl k_X12_isTask l_RX12_151 rfl (by omega) (am_le rfl) rfl (am_le rfl) hm.o.1 hm.o.2 rfl <| zKf (s_isTask hm c1 c2) <| am_use (fun k5 => z_ifB_ne (pc' := 9) (tgt := 13) (off := 7) (by decide +kernel) (by decide) rfl (am_ite2 (fun q6 => z_iconst (pc' := 14) (n := 0) (by decide +kernel) rfl <| (am_jp (P := fun z9 => ZP G 12 m_X12_movedBy 14 [some (.ref m), some (iv t)] [iv z9, .ref m] _ Q) (b2_n q6) k5)) (fun q6 => z_iconst (pc' := 10) (n := 1) (by decide +kernel) rfl <| z_goto (tgt := 14) (off := 4) (by decide +kernel) (by decide) <| (am_jp (P := fun z9 => ZP G 12 m_X12_movedBy 14 [some (.ref m), some (iv t)] [iv z9, .ref m] _ Q) (b2_nn q6) k5)))) <| z_iload_n (pc' := 15) (j := 1) (by decide +kernel) rfl rfl <| z_aload_n (pc' := 16) (j := 0) (by decide +kernel) rfl rfl <| z_getI (pc' := 19) (idx := 361) (ci := 12) (f := 16) (by decide +kernel) f_RX12_361 rfl hm.o.1 hm.o.2 rfl <| h.elim fun c7 h => am_use (fun k10 => z_icmp_lt (pc' := 22) (tgt := 26) (off := 7) (by decide +kernel) (by decide) rfl c1 c7 (am_ite2 (fun q11 => z_iconst (pc' := 27) (n := 0) (by decide +kernel) rfl <| (am_jp (P := fun z9 => ZP G 12 m_X12_movedBy 27 [some (.ref m), some (iv t)] [iv z9, iv (b2 (¬ (0 ≤ t ∧ t < zI Z B 0))), .ref m] _ Q) (b2_n q11) k10)) (fun q11 => z_iconst (pc' := 23) (n := 1) (by decide +kernel) rfl <| z_goto (tgt := 27) (off := 4) (by decide +kernel) (by decide) <| (am_jp (P := fun z9 => ZP G 12 m_X12_movedBy 27 [some (.ref m), some (iv t)] [iv z9, iv (b2 (¬ (0 ≤ t ∧ t < zI Z B 0))), .ref m] _ Q) (b2_nn q11) k10)))) <| z_iconst (pc' := 28) (n := 0) (by decide +kernel) rfl <| z_callV (pc' := 31) (idx := 133) (mj := m_X12_fails) (av := [iv (b2 (¬ (0 ≤ t ∧ t < zI Z B 0))), iv (b2 (¬ (t < (zI Z m 16)))), iv 0]) (d' := 0) (by decide +kernel) rfl k_X12_fails l_RX12_133 rfl (by omega) (am_le rfl) rfl (am_le rfl) hm.o.1 hm.o.2 rfl <| zKf (s_fails hm (b2_01 _) (b2_01 _) (Or.inl rfl)) <| have h := h _ rfl; z_ifB_eq (pc' := 34) (tgt := 38) (off := 7) (by decide +kernel) (by decide) rfl (am_ite h (fun h => z_iconst (pc' := 35) (n := 0) (by decide +kernel) rfl <| z_goto (tgt := 55) (off := 20) (by decide +kernel) (by decide) <| z_ireturn (by decide +kernel) ⟨_, rfl, rfl⟩ h) (fun h => z_aload_n (pc' := 39) (j := 0) (by decide +kernel) rfl rfl <| z_aload_n (pc' := 40) (j := 0) (by decide +kernel) rfl rfl <| z_callV (pc' := 43) (idx := 123) (mj := m_X12_lengths) (av := []) (d' := 11) (by decide +kernel) rfl k_X12_lengths l_RX12_123 rfl (by omega) (am_le rfl) rfl (am_le rfl) hm.o.1 hm.o.2 rfl h))
set_option maxRecDepth 20000 in
theorem b_X12_movedBy_43 {G : Gx} {Q : Rv → Zm → Prop} {Z : Zm} {r43 : Nat} {m : Nat} {B : Nat} {t : Int}  (hm : atModel Z m B) (hr43 : zA Z r43 100 20) (h : (ZM G 11 m_X12_earliestBegins [.ref m, .ref r43] Z (zKc G 12 m_X12_movedBy 46 [some (.ref m), some (iv t)] [] Q))) : ZP G 12 m_X12_movedBy 43 [some (.ref m), some (iv t)] [.ref r43, .ref m] Z Q := z_callV (pc' := 46) (idx := 130) (mj := m_X12_earliestBegins) (av := [.ref r43]) (d' := 11) (by decide +kernel) rfl k_X12_earliestBegins l_RX12_130 rfl (by omega) (am_le rfl) rfl (am_le rfl) hm.o.1 hm.o.2 rfl h
set_option maxRecDepth 20000 in
theorem b_X12_movedBy_46 {G : Gx} {Q : Rv → Zm → Prop} {Z : Zm} {r46 : Nat} {m : Nat} {B : Nat} {t : Int}  (hm : atModel Z m B) (hr46 : zA Z r46 100 20) (h : ((zIx t 20) ∧ Q (.inl (some (iv ((zI Z r46 t.toNat) - (zI Z (m + 14) t.toNat))))) Z)) : ZP G 12 m_X12_movedBy 46 [some (.ref m), some (iv t)] [.ref r46] Z Q := z_iload_n (pc' := 47) (j := 1) (by decide +kernel) rfl rfl <| h.elim fun c1 h => z_iaload (pc' := 48) (by decide +kernel) hr46 c1 rfl <| z_aload_n (pc' := 49) (j := 0) (by decide +kernel) rfl rfl <| z_getR (pc' := 52) (idx := 42) (ci := 12) (f := 15) (by decide +kernel) f_RX12_42 rfl hm.o.1 hm.o.2 hm.r15 rfl <| z_iload_n (pc' := 53) (j := 1) (by decide +kernel) rfl rfl <| z_iaload (pc' := 54) (by decide +kernel) hm.a15 c1 rfl <| z_isub (pc' := 55) (by decide +kernel) rfl <| z_ireturn (by decide +kernel) ⟨_, rfl, rfl⟩ h
set_option maxRecDepth 20000 in
theorem e_X11_criticalShare {G : Gx} {Q : Rv → Zm → Prop} {Z : Zm}  (hx : atAll Z) (h : ((R32 (zI Z 1 3)) ∧ (zSz Z < 1000000) ∧ (if zI Z 1 3 ≠ 0 then (ZM G 11 m_X11_freshNet [.ref 0] Z (zKc G 12 m_X11_criticalShare 8 [some (.ref 0), none, none] [] Q)) else Q (.inr "java/lang/ArithmeticException") (zC Z 18 0 6)))) : ZM G 12 m_X11_criticalShare [.ref 0] Z Q := ZM.of [some (.ref 0), none, none] rfl <| z_aload_n (pc' := 1) (j := 0) (by decide +kernel) rfl rfl <| h.elim fun c1 h => h.elim fun c2 h => z_callV (pc' := 4) (idx := 467) (mj := m_X11_checkAnyTask) (av := []) (d' := 8) (by decide +kernel) rfl k_X11_checkAnyTask l_RX11_467 rfl (by omega) (am_le rfl) rfl (am_le rfl) hx.o.1 hx.o.2 rfl <| zKt (s_checkAnyTask hx c1 c2) (am_ite h (fun h => z_aload_n (pc' := 5) (j := 0) (by decide +kernel) rfl rfl <| z_callV (pc' := 8) (idx := 238) (mj := m_X11_freshNet) (av := []) (d' := 11) (by decide +kernel) rfl k_X11_freshNet l_RX11_238 rfl (by omega) (am_le rfl) rfl (am_le rfl) hx.o.1 hx.o.2 rfl h) (fun h => h))
set_option maxRecDepth 20000 in
theorem b_X11_criticalShare_8 {G : Gx} {Q : Rv → Zm → Prop} {Z : Zm}   (hx : atAll Z) (h : (ZP G 12 m_X11_criticalShare 13 [some (.ref 0), some (iv 0), some (iv 0)] [] Z Q)) : ZP G 12 m_X11_criticalShare 8 [some (.ref 0), none, none] [.ref 233] Z Q := z_pop (pc' := 9) (by decide +kernel) rfl rfl <| z_iconst (pc' := 10) (n := 0) (by decide +kernel) rfl <| z_istore_n (pc' := 11) (j := 1) (ls' := [some (.ref 0), some (iv 0), none]) (by decide +kernel) (by decide) rfl rfl <| z_iconst (pc' := 12) (n := 0) (by decide +kernel) rfl <| z_istore_n (pc' := 13) (j := 2) (ls' := [some (.ref 0), some (iv 0), some (iv 0)]) (by decide +kernel) (by decide) rfl rfl <| h
set_option maxRecDepth 20000 in
theorem b_X11_criticalShare_13 {G : Gx} {Q : Rv → Zm → Prop} {Z : Zm}  {v1 : Int} {v2 : Int} (hx : atAll Z) (h : ((R32 v2) ∧ (R32 (zI Z 1 3)) ∧ (if (zI Z 1 3) ≤ v2 then ((vf_n32 (FP.fdiv (FP.i2f (iN v1)) (FP.i2f (iN (zI Z 1 3))))) ∧ Q (.inl (some (.float (FP.fdiv (FP.i2f (iN v1)) (FP.i2f (iN (zI Z 1 3))))))) Z) else ((zIx v2 20) ∧ (R32 (zI Z (233 + 7) v2.toNat - zI Z (233 + 6) v2.toNat)) ∧ ZP G 12 m_X11_criticalShare 13 [some (.ref 0), some (iv (if (zI Z (233 + 7) v2.toNat - zI Z (233 + 6) v2.toNat) = 0 then v1 + 1 else v1)), some (iv (v2 + 1))] [] Z Q)))) : ZP G 12 m_X11_criticalShare 13 [some (.ref 0), some (iv v1), some (iv v2)] [] Z Q := z_iload_n (pc' := 14) (j := 2) (by decide +kernel) rfl rfl <| z_aload_n (pc' := 15) (j := 0) (by decide +kernel) rfl rfl <| z_getR (pc' := 18) (idx := 10) (ci := 11) (f := 0) (by decide +kernel) f_RX11_10 rfl hx.o.1 hx.o.2 hx.r0 rfl <| z_getI (pc' := 21) (idx := 117) (ci := 0) (f := 3) (by decide +kernel) f_RX11_117 rfl hx.bk.o.1 hx.bk.o.2 rfl <| h.elim fun c1 h => h.elim fun c2 h => z_icmp_ge (pc' := 24) (tgt := 44) (off := 23) (by decide +kernel) (by decide) rfl c1 c2 (am_ite h (fun h => z_iload_n (pc' := 45) (j := 1) (by decide +kernel) rfl rfl <| z_i2f (pc' := 46) (by decide +kernel) rfl <| z_aload_n (pc' := 47) (j := 0) (by decide +kernel) rfl rfl <| z_getR (pc' := 50) (idx := 10) (ci := 11) (f := 0) (by decide +kernel) f_RX11_10 rfl hx.o.1 hx.o.2 hx.r0 rfl <| z_getI (pc' := 53) (idx := 117) (ci := 0) (f := 3) (by decide +kernel) f_RX11_117 rfl hx.bk.o.1 hx.bk.o.2 rfl <| z_i2f (pc' := 54) (by decide +kernel) rfl <| h.elim fun c9 h => z_fdiv (pc' := 55) (by decide +kernel) c9 rfl <| z_freturn (by decide +kernel) rfl h) (fun h => z_aload_n (pc' := 25) (j := 0) (by decide +kernel) rfl rfl <| z_getR (pc' := 28) (idx := 36) (ci := 11) (f := 4) (by decide +kernel) f_RX11_36 rfl hx.o.1 hx.o.2 hx.r4 rfl <| z_iload_n (pc' := 29) (j := 2) (by decide +kernel) rfl rfl <| h.elim fun c10 h => z_callV (pc' := 32) (idx := 255) (mj := m_X7_slackOf) (av := [iv v2]) (d' := 0) (by decide +kernel) rfl k_X7_slackOf l_RX11_255 rfl (by omega) (am_le rfl) rfl (am_le rfl) hx.nt.o.1 hx.nt.o.2 rfl <| zKf (s_slackOf hx.nt c10) <| h.elim fun c11 h => am_use (fun k14 => z_if_ne (pc' := 35) (tgt := 38) (off := 6) (by decide +kernel) (by decide) rfl c11 (am_ite2 (fun q15 => z_iinc (pc' := 38) (j := 1) (n := 1) (x := v1) (ls' := [some (.ref 0), some (iv (v1 + 1)), some (iv v2)]) (by decide +kernel) rfl (by decide) rfl rfl <| (am_jp (P := fun z9 => ZP G 12 m_X11_criticalShare 38 [some (.ref 0), some (iv z9), some (iv v2)] [] _ Q) (if_pos q15) k14)) (fun q15 => (am_jp (P := fun z9 => ZP G 12 m_X11_criticalShare 38 [some (.ref 0), some (iv z9), some (iv v2)] [] _ Q) (if_neg q15) k14)))) <| z_iinc (pc' := 41) (j := 2) (n := 1) (x := v2) (ls' := [some (.ref 0), some (iv (if (zI Z (233 + 7) v2.toNat - zI Z (233 + 6) v2.toNat) = 0 then v1 + 1 else v1)), some (iv (v2 + 1))]) (by decide +kernel) rfl (by decide) rfl rfl <| z_goto (tgt := 13) (off := -28) (by decide +kernel) (by decide) <| h))
set_option maxRecDepth 20000 in
theorem e_X12_criticalShare {G : Gx} {Q : Rv → Zm → Prop} {Z : Zm} {m : Nat} {B : Nat} (hm : atModel Z m B) (h : (ZP G 12 m_X12_criticalShare 4 [some (.ref m), some (iv 0), some (iv 0)] [] Z Q)) : ZM G 12 m_X12_criticalShare [.ref m] Z Q := ZM.of [some (.ref m), none, none] rfl <| z_iconst (pc' := 1) (n := 0) (by decide +kernel) rfl <| z_istore_n (pc' := 2) (j := 1) (ls' := [some (.ref m), some (iv 0), none]) (by decide +kernel) (by decide) rfl rfl <| z_iconst (pc' := 3) (n := 0) (by decide +kernel) rfl <| z_istore_n (pc' := 4) (j := 2) (ls' := [some (.ref m), some (iv 0), some (iv 0)]) (by decide +kernel) (by decide) rfl rfl <| h
set_option maxRecDepth 20000 in
theorem b_X12_criticalShare_4 {G : Gx} {Q : Rv → Zm → Prop} {Z : Zm} {m : Nat} {B : Nat} {v1 : Int} {v2 : Int} (hm : atModel Z m B) (h : ((R32 v2) ∧ (R32 (zI Z B 0)) ∧ (if (zI Z B 0) ≤ v2 then (∀ Z7, Z7 = zSI Z m (zu (zI Z m) 19 (fC (b2 ((zI Z B 0) = 0)) 0 0)) → (if 0 < fC (b2 ((zI Z B 0) = 0)) 0 0 then (Q (.inl (some (.float 0))) Z7) else ((vf_n32 (FP.fdiv (FP.i2f (iN v1)) (FP.i2f (iN (zI Z7 B 0))))) ∧ Q (.inl (some (.float (FP.fdiv (FP.i2f (iN v1)) (FP.i2f (iN (zI Z7 B 0))))))) Z7))) else (ZM G 11 m_X12_totalSlack [.ref m, iv v2] Z (zKc G 12 m_X12_criticalShare 18 [some (.ref m), none, some (iv v2)] [iv v1] Q))))) : ZP G 12 m_X12_criticalShare 4 [some (.ref m), some (iv v1), some (iv v2)] [] Z Q := z_iload_n (pc' := 5) (j := 2) (by decide +kernel) rfl rfl <| z_aload_n (pc' := 6) (j := 0) (by decide +kernel) rfl rfl <| z_callV (pc' := 9) (idx := 64) (mj := m_X12_many) (av := []) (d' := 0) (by decide +kernel) rfl k_X12_many l_RX12_64 rfl (by omega) (am_le rfl) rfl (am_le rfl) hm.o.1 hm.o.2 rfl <| zKf (s_many hm) <| h.elim fun c1 h => h.elim fun c2 h => z_icmp_ge (pc' := 12) (tgt := 34) (off := 25) (by decide +kernel) (by decide) rfl c1 c2 (am_ite h (fun h => z_aload_n (pc' := 35) (j := 0) (by decide +kernel) rfl rfl <| z_aload_n (pc' := 36) (j := 0) (by decide +kernel) rfl rfl <| z_callV (pc' := 39) (idx := 64) (mj := m_X12_many) (av := []) (d' := 0) (by decide +kernel) rfl k_X12_many l_RX12_64 rfl (by omega) (am_le rfl) rfl (am_le rfl) hm.o.1 hm.o.2 rfl <| zKf (s_many hm) <| am_use (fun k5 => z_if_ne (pc' := 42) (tgt := 46) (off := 7) (by decide +kernel) (by decide) rfl c2 (am_ite2 (fun q6 => z_iconst (pc' := 43) (n := 1) (by decide +kernel) rfl <| z_goto (tgt := 47) (off := 4) (by decide +kernel) (by decide) <| (am_jp (P := fun z9 => ZP G 12 m_X12_criticalShare 47 [some (.ref m), some (iv v1), some (iv v2)] [iv z9, .ref m] _ Q) (b2_p q6) k5)) (fun q6 => z_iconst (pc' := 47) (n := 0) (by decide +kernel) rfl <| (am_jp (P := fun z9 => ZP G 12 m_X12_criticalShare 47 [some (.ref m), some (iv v1), some (iv v2)] [iv z9, .ref m] _ Q) (b2_f q6) k5)))) <| z_iconst (pc' := 48) (n := 0) (by decide +kernel) rfl <| z_iconst (pc' := 49) (n := 0) (by decide +kernel) rfl <| z_callV (pc' := 52) (idx := 133) (mj := m_X12_fails) (av := [iv (b2 ((zI Z B 0) = 0)), iv 0, iv 0]) (d' := 0) (by decide +kernel) rfl k_X12_fails l_RX12_133 rfl (by omega) (am_le rfl) rfl (am_le rfl) hm.o.1 hm.o.2 rfl <| zKf (s_fails hm (b2_01 _) (Or.inl rfl) (Or.inl rfl)) <| have h := h _ rfl; z_ifB_eq (pc' := 55) (tgt := 59) (off := 7) (by decide +kernel) (by decide) rfl (am_ite h (fun h => z_fconst0 (pc' := 56) (by decide +kernel) rfl <| z_goto (tgt := 67) (off := 11) (by decide +kernel) (by decide) <| z_freturn (by decide +kernel) rfl h) (fun h => z_iload_n (pc' := 60) (j := 1) (by decide +kernel) rfl rfl <| z_i2f (pc' := 61) (by decide +kernel) rfl <| z_aload_n (pc' := 62) (j := 0) (by decide +kernel) rfl rfl <| z_callV (pc' := 65) (idx := 64) (mj := m_X12_many) (av := []) (d' := 0) (by decide +kernel) rfl k_X12_many l_RX12_64 rfl (by omega) (am_le rfl) rfl (am_le rfl) hm.o.1 hm.o.2 rfl <| zKf (s_many hm) <| z_i2f (pc' := 66) (by decide +kernel) rfl <| h.elim fun c9 h => z_fdiv (pc' := 67) (by decide +kernel) c9 rfl <| z_freturn (by decide +kernel) rfl h))) (fun h => z_iload_n (pc' := 13) (j := 1) (by decide +kernel) rfl rfl <| z_aload_n (pc' := 14) (j := 0) (by decide +kernel) rfl rfl <| z_iload_n (pc' := 15) (j := 2) (by decide +kernel) rfl rfl <| z_callV (pc' := 18) (idx := 367) (mj := m_X12_totalSlack) (av := [iv v2]) (d' := 11) (by decide +kernel) rfl k_X12_totalSlack l_RX12_367 rfl (by omega) (am_le rfl) rfl (am_le rfl) hm.o.1 hm.o.2 rfl (ZM.mono h (zKc_wk (wk_some (wk_none (wk_some wk_nil)))))))
set_option maxRecDepth 20000 in
theorem b_X12_criticalShare_18 {G : Gx} {Q : Rv → Zm → Prop} {Z : Zm} {m : Nat} {B : Nat} {v2 : Int} {s0 : Int} {s1 : Int} (hm : atModel Z m B) (h : ((R32 s0) ∧ ZP G 12 m_X12_criticalShare 4 [some (.ref m), some (iv (s1 + (b2 (s0 = 0)))), some (iv (v2 + 1))] [] Z Q)) : ZP G 12 m_X12_criticalShare 18 [some (.ref m), none, some (iv v2)] [iv s0, iv s1] Z Q := h.elim fun c1 h => am_use (fun k4 => z_if_ne (pc' := 21) (tgt := 25) (off := 7) (by decide +kernel) (by decide) rfl c1 (am_ite2 (fun q5 => z_iconst (pc' := 22) (n := 1) (by decide +kernel) rfl <| z_goto (tgt := 26) (off := 4) (by decide +kernel) (by decide) <| (am_jp (P := fun z9 => ZP G 12 m_X12_criticalShare 26 [some (.ref m), none, some (iv v2)] [iv z9, iv s1] _ Q) (b2_p q5) k4)) (fun q5 => z_iconst (pc' := 26) (n := 0) (by decide +kernel) rfl <| (am_jp (P := fun z9 => ZP G 12 m_X12_criticalShare 26 [some (.ref m), none, some (iv v2)] [iv z9, iv s1] _ Q) (b2_f q5) k4)))) <| z_iadd (pc' := 27) (by decide +kernel) rfl <| z_istore_n (pc' := 28) (j := 1) (ls' := [some (.ref m), some (iv (s1 + (b2 (s0 = 0)))), some (iv v2)]) (by decide +kernel) (by decide) rfl rfl <| z_iinc (pc' := 31) (j := 2) (n := 1) (x := v2) (ls' := [some (.ref m), some (iv (s1 + (b2 (s0 = 0)))), some (iv (v2 + 1))]) (by decide +kernel) rfl (by decide) rfl rfl <| z_goto (tgt := 4) (off := -27) (by decide +kernel) (by decide) <| h
set_option maxRecDepth 20000 in
theorem e_X11_meanLength {G : Gx} {Q : Rv → Zm → Prop} {Z : Zm}  (hx : atAll Z) (h : ((R32 (zI Z 1 3)) ∧ (zSz Z < 1000000) ∧ (if zI Z 1 3 ≠ 0 then (ZM G 11 m_X0_sumOfLengths [.ref 1] Z (zKc G 12 m_X11_meanLength 11 [some (.ref 0)] [] Q)) else Q (.inr "java/lang/ArithmeticException") (zC Z 18 0 6)))) : ZM G 12 m_X11_meanLength [.ref 0] Z Q := ZM.of [some (.ref 0)] rfl <| z_aload_n (pc' := 1) (j := 0) (by decide +kernel) rfl rfl <| h.elim fun c1 h => h.elim fun c2 h => z_callV (pc' := 4) (idx := 467) (mj := m_X11_checkAnyTask) (av := []) (d' := 8) (by decide +kernel) rfl k_X11_checkAnyTask l_RX11_467 rfl (by omega) (am_le rfl) rfl (am_le rfl) hx.o.1 hx.o.2 rfl <| zKt (s_checkAnyTask hx c1 c2) (am_ite h (fun h => z_aload_n (pc' := 5) (j := 0) (by decide +kernel) rfl rfl <| z_getR (pc' := 8) (idx := 10) (ci := 11) (f := 0) (by decide +kernel) f_RX11_10 rfl hx.o.1 hx.o.2 hx.r0 rfl <| z_callV (pc' := 11) (idx := 470) (mj := m_X0_sumOfLengths) (av := []) (d' := 11) (by decide +kernel) rfl k_X0_sumOfLengths l_RX11_470 rfl (by omega) (am_le rfl) rfl (am_le rfl) hx.bk.o.1 hx.bk.o.2 rfl h) (fun h => h))
set_option maxRecDepth 20000 in
theorem b_X11_meanLength_11 {G : Gx} {Q : Rv → Zm → Prop} {Z : Zm}  {s0 : Int} (hx : atAll Z) (h : ((vf_n64 (FP.ddiv (FP.i2d (iN s0)) (FP.i2d (iN (zI Z 1 3))))) ∧ Q (.inl (some (.double (FP.ddiv (FP.i2d (iN s0)) (FP.i2d (iN (zI Z 1 3))))))) Z)) : ZP G 12 m_X11_meanLength 11 [some (.ref 0)] [iv s0] Z Q := z_i2d (pc' := 12) (by decide +kernel) rfl <| z_aload_n (pc' := 13) (j := 0) (by decide +kernel) rfl rfl <| z_getR (pc' := 16) (idx := 10) (ci := 11) (f := 0) (by decide +kernel) f_RX11_10 rfl hx.o.1 hx.o.2 hx.r0 rfl <| z_getI (pc' := 19) (idx := 117) (ci := 0) (f := 3) (by decide +kernel) f_RX11_117 rfl hx.bk.o.1 hx.bk.o.2 rfl <| z_i2d (pc' := 20) (by decide +kernel) rfl <| h.elim fun c1 h => z_ddiv (pc' := 21) (by decide +kernel) c1 rfl <| z_dreturn (by decide +kernel) rfl h
set_option maxRecDepth 20000 in
theorem e_X12_meanLength {G : Gx} {Q : Rv → Zm → Prop} {Z : Zm} {m : Nat} {B : Nat} (hm : atModel Z m B) (h : (ZP G 12 m_X12_meanLength 4 [some (.ref m), some (iv 0), some (iv 0)] [] Z Q)) : ZM G 12 m_X12_meanLength [.ref m] Z Q := ZM.of [some (.ref m), none, none] rfl <| z_iconst (pc' := 1) (n := 0) (by decide +kernel) rfl <| z_istore_n (pc' := 2) (j := 1) (ls' := [some (.ref m), some (iv 0), none]) (by decide +kernel) (by decide) rfl rfl <| z_iconst (pc' := 3) (n := 0) (by decide +kernel) rfl <| z_istore_n (pc' := 4) (j := 2) (ls' := [some (.ref m), some (iv 0), some (iv 0)]) (by decide +kernel) (by decide) rfl rfl <| h
set_option maxRecDepth 20000 in
theorem b_X12_meanLength_4 {G : Gx} {Q : Rv → Zm → Prop} {Z : Zm} {m : Nat} {B : Nat} {v1 : Int} {v2 : Int} (hm : atModel Z m B) (h : ((R32 v2) ∧ (R32 (zI Z B 0)) ∧ (if (zI Z B 0) ≤ v2 then (∀ Z8, Z8 = zSI Z m (zu (zI Z m) 19 (fC (b2 ((zI Z B 0) = 0)) 0 0)) → (if 0 < fC (b2 ((zI Z B 0) = 0)) 0 0 then (Q (.inl (some (.double 0))) Z8) else ((vf_n64 (FP.ddiv (FP.i2d (iN v1)) (FP.i2d (iN (zI Z8 B 0))))) ∧ Q (.inl (some (.double (FP.ddiv (FP.i2d (iN v1)) (FP.i2d (iN (zI Z8 B 0))))))) Z8))) else ((zIx v2 20) ∧ ZP G 12 m_X12_meanLength 4 [some (.ref m), some (iv (v1 + (mG Z B v2.toNat 0))), some (iv (v2 + 1))] [] Z Q)))) : ZP G 12 m_X12_meanLength 4 [some (.ref m), some (iv v1), some (iv v2)] [] Z Q := z_iload_n (pc' := 5) (j := 2) (by decide +kernel) rfl rfl <| z_aload_n (pc' := 6) (j := 0) (by decide +kernel) rfl rfl <| z_callV (pc' := 9) (idx := 64) (mj := m_X12_many) (av := []) (d' := 0) (by decide +kernel) rfl k_X12_many l_RX12_64 rfl (by omega) (am_le rfl) rfl (am_le rfl) hm.o.1 hm.o.2 rfl <| zKf (s_many hm) <| h.elim fun c1 h => h.elim fun c2 h => z_icmp_ge (pc' := 12) (tgt := 27) (off := 18) (by decide +kernel) (by decide) rfl c1 c2 (am_ite h (fun h => z_aload_n (pc' := 28) (j := 0) (by decide +kernel) rfl rfl <| z_aload_n (pc' := 29) (j := 0) (by decide +kernel) rfl rfl <| z_callV (pc' := 32) (idx := 64) (mj := m_X12_many) (av := []) (d' := 0) (by decide +kernel) rfl k_X12_many l_RX12_64 rfl (by omega) (am_le rfl) rfl (am_le rfl) hm.o.1 hm.o.2 rfl <| zKf (s_many hm) <| am_use (fun k6 => z_if_ne (pc' := 35) (tgt := 39) (off := 7) (by decide +kernel) (by decide) rfl c2 (am_ite2 (fun q7 => z_iconst (pc' := 36) (n := 1) (by decide +kernel) rfl <| z_goto (tgt := 40) (off := 4) (by decide +kernel) (by decide) <| (am_jp (P := fun z9 => ZP G 12 m_X12_meanLength 40 [some (.ref m), some (iv v1), some (iv v2)] [iv z9, .ref m] _ Q) (b2_p q7) k6)) (fun q7 => z_iconst (pc' := 40) (n := 0) (by decide +kernel) rfl <| (am_jp (P := fun z9 => ZP G 12 m_X12_meanLength 40 [some (.ref m), some (iv v1), some (iv v2)] [iv z9, .ref m] _ Q) (b2_f q7) k6)))) <| z_iconst (pc' := 41) (n := 0) (by decide +kernel) rfl <| z_iconst (pc' := 42) (n := 0) (by decide +kernel) rfl <| z_callV (pc' := 45) (idx := 133) (mj := m_X12_fails) (av := [iv (b2 ((zI Z B 0) = 0)), iv 0, iv 0]) (d' := 0) (by decide +kernel) rfl k_X12_fails l_RX12_133 rfl (by omega) (am_le rfl) rfl (am_le rfl) hm.o.1 hm.o.2 rfl <| zKf (s_fails hm (b2_01 _) (Or.inl rfl) (Or.inl rfl)) <| have h := h _ rfl; z_ifB_eq (pc' := 48) (tgt := 52) (off := 7) (by decide +kernel) (by decide) rfl (am_ite h (fun h => z_dconst0 (pc' := 49) (by decide +kernel) rfl <| z_goto (tgt := 60) (off := 11) (by decide +kernel) (by decide) <| z_dreturn (by decide +kernel) rfl h) (fun h => z_iload_n (pc' := 53) (j := 1) (by decide +kernel) rfl rfl <| z_i2d (pc' := 54) (by decide +kernel) rfl <| z_aload_n (pc' := 55) (j := 0) (by decide +kernel) rfl rfl <| z_callV (pc' := 58) (idx := 64) (mj := m_X12_many) (av := []) (d' := 0) (by decide +kernel) rfl k_X12_many l_RX12_64 rfl (by omega) (am_le rfl) rfl (am_le rfl) hm.o.1 hm.o.2 rfl <| zKf (s_many hm) <| z_i2d (pc' := 59) (by decide +kernel) rfl <| h.elim fun c10 h => z_ddiv (pc' := 60) (by decide +kernel) c10 rfl <| z_dreturn (by decide +kernel) rfl h))) (fun h => z_iload_n (pc' := 13) (j := 1) (by decide +kernel) rfl rfl <| z_aload_n (pc' := 14) (j := 0) (by decide +kernel) rfl rfl <| z_iload_n (pc' := 15) (j := 2) (by decide +kernel) rfl rfl <| z_iconst (pc' := 16) (n := 0) (by decide +kernel) rfl <| h.elim fun c11 h => z_callV (pc' := 19) (idx := 83) (mj := m_X12_get) (av := [iv v2, iv 0]) (d' := 0) (by decide +kernel) rfl k_X12_get l_RX12_83 rfl (by omega) (am_le rfl) rfl (am_le rfl) hm.o.1 hm.o.2 rfl <| zKf (s_get hm c11 ⟨by decide, by decide, by decide⟩) <| z_iadd (pc' := 20) (by decide +kernel) rfl <| z_istore_n (pc' := 21) (j := 1) (ls' := [some (.ref m), some (iv (v1 + (mG Z B v2.toNat 0))), some (iv v2)]) (by decide +kernel) (by decide) rfl rfl <| z_iinc (pc' := 24) (j := 2) (n := 1) (x := v2) (ls' := [some (.ref m), some (iv (v1 + (mG Z B v2.toNat 0))), some (iv (v2 + 1))]) (by decide +kernel) rfl (by decide) rfl rfl <| z_goto (tgt := 4) (off := -20) (by decide +kernel) (by decide) <| h))
set_option maxRecDepth 20000 in
theorem e_X11_checksum {G : Gx} {Q : Rv → Zm → Prop} {Z : Zm}  (hx : atAll Z) (h : (ZP G 12 m_X11_checksum 6 [some (.ref 0), some (jv 7), none, some (iv 0), none] [] Z Q)) : ZM G 12 m_X11_checksum [.ref 0] Z Q := ZM.of [some (.ref 0), none, none, none, none] rfl <| z_ldc2 (pc' := 3) (idx := 473) (w := 7) (v := 7) (by decide +kernel) (amM3 186 rfl (by decide +kernel)) (by decide) rfl <| z_lstore_n (pc' := 4) (j := 1) (ls' := [some (.ref 0), some (jv 7), none, none, none]) (by decide +kernel) (by decide) rfl rfl <| z_iconst (pc' := 5) (n := 0) (by decide +kernel) rfl <| z_istore_n (pc' := 6) (j := 3) (ls' := [some (.ref 0), some (jv 7), none, some (iv 0), none]) (by decide +kernel) (by decide) rfl rfl <| h
set_option maxRecDepth 20000 in
theorem b_X11_checksum_6 {G : Gx} {Q : Rv → Zm → Prop} {Z : Zm}  {v1 : Int} {v3 : Int} (hx : atAll Z) (h : ((R32 v3) ∧ (R32 (zI Z 1 3)) ∧ (if (zI Z 1 3) ≤ v3 then (ZP G 12 m_X11_checksum 61 [some (.ref 0), some (jv v1), none, some (iv 0), none] [] Z Q) else (ZP G 12 m_X11_checksum 20 [some (.ref 0), some (jv v1), none, some (iv v3), some (iv 0)] [] Z Q)))) : ZP G 12 m_X11_checksum 6 [some (.ref 0), some (jv v1), none, some (iv v3), none] [] Z Q := z_iload_n (pc' := 7) (j := 3) (by decide +kernel) rfl rfl <| z_aload_n (pc' := 8) (j := 0) (by decide +kernel) rfl rfl <| z_getR (pc' := 11) (idx := 10) (ci := 11) (f := 0) (by decide +kernel) f_RX11_10 rfl hx.o.1 hx.o.2 hx.r0 rfl <| z_getI (pc' := 14) (idx := 117) (ci := 0) (f := 3) (by decide +kernel) f_RX11_117 rfl hx.bk.o.1 hx.bk.o.2 rfl <| h.elim fun c1 h => h.elim fun c2 h => z_icmp_ge (pc' := 17) (tgt := 59) (off := 45) (by decide +kernel) (by decide) rfl c1 c2 (am_ite h (fun h => z_iconst (pc' := 60) (n := 0) (by decide +kernel) rfl <| z_istore_n (pc' := 61) (j := 3) (ls' := [some (.ref 0), some (jv v1), none, some (iv 0), none]) (by decide +kernel) (by decide) rfl rfl <| h) (fun h => z_iconst (pc' := 18) (n := 0) (by decide +kernel) rfl <| z_istore (pc' := 20) (j := 4) (ls' := [some (.ref 0), some (jv v1), none, some (iv v3), some (iv 0)]) (by decide +kernel) (by decide) rfl rfl <| h))
set_option maxRecDepth 20000 in
theorem b_X11_checksum_61 {G : Gx} {Q : Rv → Zm → Prop} {Z : Zm}  {v1 : Int} {v3 : Int} (hx : atAll Z) (h : ((R32 v3) ∧ (R32 (zI Z 1 4)) ∧ (if (zI Z 1 4) ≤ v3 then (ZP G 12 m_X11_checksum 115 [some (.ref 0), some (jv v1), none, some (iv 0), none] [] Z Q) else (ZP G 12 m_X11_checksum 75 [some (.ref 0), some (jv v1), none, some (iv v3), some (iv 0)] [] Z Q)))) : ZP G 12 m_X11_checksum 61 [some (.ref 0), some (jv v1), none, some (iv v3), none] [] Z Q := z_iload_n (pc' := 62) (j := 3) (by decide +kernel) rfl rfl <| z_aload_n (pc' := 63) (j := 0) (by decide +kernel) rfl rfl <| z_getR (pc' := 66) (idx := 10) (ci := 11) (f := 0) (by decide +kernel) f_RX11_10 rfl hx.o.1 hx.o.2 hx.r0 rfl <| z_getI (pc' := 69) (idx := 172) (ci := 0) (f := 4) (by decide +kernel) f_RX11_172 rfl hx.bk.o.1 hx.bk.o.2 rfl <| h.elim fun c1 h => h.elim fun c2 h => z_icmp_ge (pc' := 72) (tgt := 113) (off := 44) (by decide +kernel) (by decide) rfl c1 c2 (am_ite h (fun h => z_iconst (pc' := 114) (n := 0) (by decide +kernel) rfl <| z_istore_n (pc' := 115) (j := 3) (ls' := [some (.ref 0), some (jv v1), none, some (iv 0), none]) (by decide +kernel) (by decide) rfl rfl <| h) (fun h => z_iconst (pc' := 73) (n := 0) (by decide +kernel) rfl <| z_istore (pc' := 75) (j := 4) (ls' := [some (.ref 0), some (jv v1), none, some (iv v3), some (iv 0)]) (by decide +kernel) (by decide) rfl rfl <| h))
set_option maxRecDepth 20000 in
theorem b_X11_checksum_20 {G : Gx} {Q : Rv → Zm → Prop} {Z : Zm}  {v1 : Int} {v3 : Int} {v4 : Int} (hx : atAll Z) (h : ((R32 v4) ∧ (if 7 < v4 then (ZP G 12 m_X11_checksum 6 [some (.ref 0), some (jv v1), none, some (iv (v3 + 1)), none] [] Z Q) else ((zIx v4 12) ∧ (zIx v3 20) ∧ (R32 (zI Z (3 + v4.toNat) v3.toNat)) ∧ ZP G 12 m_X11_checksum 20 [some (.ref 0), some (jv ((31 * v1) + (zI Z (3 + v4.toNat) v3.toNat))), none, some (iv v3), some (iv (v4 + 1))] [] Z Q)))) : ZP G 12 m_X11_checksum 20 [some (.ref 0), some (jv v1), none, some (iv v3), some (iv v4)] [] Z Q := z_iload (pc' := 22) (j := 4) (by decide +kernel) rfl rfl <| z_bipush (pc' := 24) (n := 7) (by decide +kernel) (by decide) rfl <| h.elim fun c1 h => z_icmp_gt (pc' := 27) (tgt := 53) (off := 29) (by decide +kernel) (by decide) rfl c1 (by decide : R32 7) (am_ite h (fun h => z_iinc (pc' := 56) (j := 3) (n := 1) (x := v3) (ls' := [some (.ref 0), some (jv v1), none, some (iv (v3 + 1)), some (iv v4)]) (by decide +kernel) rfl (by decide) rfl rfl <| z_goto (tgt := 6) (off := -50) (by decide +kernel) (by decide) <| (ZP.wk (wk_some (wk_some (wk_none (wk_some (wk_none wk_nil))))) h)) (fun h => z_ldc2 (pc' := 30) (idx := 475) (w := 31) (v := 31) (by decide +kernel) (amM3 187 rfl (by decide +kernel)) (by decide) rfl <| z_lload_n (pc' := 31) (j := 1) (by decide +kernel) rfl rfl <| z_lmul (pc' := 32) (by decide +kernel) rfl <| z_aload_n (pc' := 33) (j := 0) (by decide +kernel) rfl rfl <| z_getR (pc' := 36) (idx := 10) (ci := 11) (f := 0) (by decide +kernel) f_RX11_10 rfl hx.o.1 hx.o.2 hx.r0 rfl <| z_getR (pc' := 39) (idx := 155) (ci := 0) (f := 0) (by decide +kernel) f_RX11_155 rfl hx.bk.o.1 hx.bk.o.2 hx.bk.r0 rfl <| z_iload (pc' := 41) (j := 4) (by decide +kernel) rfl rfl <| h.elim fun c5 h => z_aaload120 (pc' := 42) (by decide +kernel) hx.bk.a0 c5 (hx.bk.e0 _ c5.n) rfl <| z_iload_n (pc' := 43) (j := 3) (by decide +kernel) rfl rfl <| h.elim fun c6 h => z_iaload (pc' := 44) (by decide +kernel) (hx.bk.x0 _ c5.n) c6 rfl <| h.elim fun c7 h => z_i2l (pc' := 45) (by decide +kernel) c7 rfl <| z_ladd (pc' := 46) (by decide +kernel) rfl <| z_lstore_n (pc' := 47) (j := 1) (ls' := [some (.ref 0), some (jv ((31 * v1) + (zI Z (3 + v4.toNat) v3.toNat))), none, some (iv v3), some (iv v4)]) (by decide +kernel) (by decide) rfl rfl <| z_iinc (pc' := 50) (j := 4) (n := 1) (x := v4) (ls' := [some (.ref 0), some (jv ((31 * v1) + (zI Z (3 + v4.toNat) v3.toNat))), none, some (iv v3), some (iv (v4 + 1))]) (by decide +kernel) rfl (by decide) rfl rfl <| z_goto (tgt := 20) (off := -30) (by decide +kernel) (by decide) <| h))
set_option maxRecDepth 20000 in
theorem b_X11_checksum_115 {G : Gx} {Q : Rv → Zm → Prop} {Z : Zm}  {v1 : Int} {v3 : Int} (hx : atAll Z) (h : ((R32 v3) ∧ (R32 (zI Z 231 1)) ∧ (if (zI Z 231 1) ≤ v3 then (Q (.inl (some (jv v1))) Z) else ((zIx v3 80) ∧ (R32 (zI Z 232 v3.toNat)) ∧ ZP G 12 m_X11_checksum 115 [some (.ref 0), some (jv ((31 * v1) + (zI Z 232 v3.toNat))), none, some (iv (v3 + 1)), none] [] Z Q)))) : ZP G 12 m_X11_checksum 115 [some (.ref 0), some (jv v1), none, some (iv v3), none] [] Z Q := z_iload_n (pc' := 116) (j := 3) (by decide +kernel) rfl rfl <| z_aload_n (pc' := 117) (j := 0) (by decide +kernel) rfl rfl <| z_getR (pc' := 120) (idx := 29) (ci := 11) (f := 3) (by decide +kernel) f_RX11_29 rfl hx.o.1 hx.o.2 hx.r3 rfl <| z_getI (pc' := 123) (idx := 219) (ci := 10) (f := 1) (by decide +kernel) f_RX11_219 rfl hx.tx.o.1 hx.tx.o.2 rfl <| h.elim fun c1 h => h.elim fun c2 h => z_icmp_ge (pc' := 126) (tgt := 149) (off := 26) (by decide +kernel) (by decide) rfl c1 c2 (am_ite h (fun h => z_lload_n (pc' := 150) (j := 1) (by decide +kernel) rfl rfl <| z_lreturn (by decide +kernel) rfl h) (fun h => z_ldc2 (pc' := 129) (idx := 475) (w := 31) (v := 31) (by decide +kernel) (amM3 187 rfl (by decide +kernel)) (by decide) rfl <| z_lload_n (pc' := 130) (j := 1) (by decide +kernel) rfl rfl <| z_lmul (pc' := 131) (by decide +kernel) rfl <| z_aload_n (pc' := 132) (j := 0) (by decide +kernel) rfl rfl <| z_getR (pc' := 135) (idx := 29) (ci := 11) (f := 3) (by decide +kernel) f_RX11_29 rfl hx.o.1 hx.o.2 hx.r3 rfl <| z_getR (pc' := 138) (idx := 222) (ci := 10) (f := 0) (by decide +kernel) f_RX11_222 rfl hx.tx.o.1 hx.tx.o.2 hx.tx.r0 rfl <| z_iload_n (pc' := 139) (j := 3) (by decide +kernel) rfl rfl <| h.elim fun c5 h => z_caload (pc' := 140) (by decide +kernel) hx.tx.a0 c5 rfl <| h.elim fun c6 h => z_i2l (pc' := 141) (by decide +kernel) c6 rfl <| z_ladd (pc' := 142) (by decide +kernel) rfl <| z_lstore_n (pc' := 143) (j := 1) (ls' := [some (.ref 0), some (jv ((31 * v1) + (zI Z 232 v3.toNat))), none, some (iv v3), none]) (by decide +kernel) (by decide) rfl rfl <| z_iinc (pc' := 146) (j := 3) (n := 1) (x := v3) (ls' := [some (.ref 0), some (jv ((31 * v1) + (zI Z 232 v3.toNat))), none, some (iv (v3 + 1)), none]) (by decide +kernel) rfl (by decide) rfl rfl <| z_goto (tgt := 115) (off := -31) (by decide +kernel) (by decide) <| h))
set_option maxRecDepth 20000 in
theorem b_X11_checksum_75 {G : Gx} {Q : Rv → Zm → Prop} {Z : Zm}  {v1 : Int} {v3 : Int} {v4 : Int} (hx : atAll Z) (h : ((R32 v4) ∧ (if 3 ≤ v4 then (ZP G 12 m_X11_checksum 61 [some (.ref 0), some (jv v1), none, some (iv (v3 + 1)), none] [] Z Q) else ((zIx v4 3) ∧ (zIx v3 50) ∧ (R32 (zI Z (16 + v4.toNat) v3.toNat)) ∧ ZP G 12 m_X11_checksum 75 [some (.ref 0), some (jv ((31 * v1) + (zI Z (16 + v4.toNat) v3.toNat))), none, some (iv v3), some (iv (v4 + 1))] [] Z Q)))) : ZP G 12 m_X11_checksum 75 [some (.ref 0), some (jv v1), none, some (iv v3), some (iv v4)] [] Z Q := z_iload (pc' := 77) (j := 4) (by decide +kernel) rfl rfl <| z_iconst (pc' := 78) (n := 3) (by decide +kernel) rfl <| h.elim fun c1 h => z_icmp_ge (pc' := 81) (tgt := 107) (off := 29) (by decide +kernel) (by decide) rfl c1 (by decide : R32 3) (am_ite h (fun h => z_iinc (pc' := 110) (j := 3) (n := 1) (x := v3) (ls' := [some (.ref 0), some (jv v1), none, some (iv (v3 + 1)), some (iv v4)]) (by decide +kernel) rfl (by decide) rfl rfl <| z_goto (tgt := 61) (off := -49) (by decide +kernel) (by decide) <| (ZP.wk (wk_some (wk_some (wk_none (wk_some (wk_none wk_nil))))) h)) (fun h => z_ldc2 (pc' := 84) (idx := 475) (w := 31) (v := 31) (by decide +kernel) (amM3 187 rfl (by decide +kernel)) (by decide) rfl <| z_lload_n (pc' := 85) (j := 1) (by decide +kernel) rfl rfl <| z_lmul (pc' := 86) (by decide +kernel) rfl <| z_aload_n (pc' := 87) (j := 0) (by decide +kernel) rfl rfl <| z_getR (pc' := 90) (idx := 10) (ci := 11) (f := 0) (by decide +kernel) f_RX11_10 rfl hx.o.1 hx.o.2 hx.r0 rfl <| z_getR (pc' := 93) (idx := 196) (ci := 0) (f := 1) (by decide +kernel) f_RX11_196 rfl hx.bk.o.1 hx.bk.o.2 hx.bk.r1 rfl <| z_iload (pc' := 95) (j := 4) (by decide +kernel) rfl rfl <| h.elim fun c5 h => z_aaload120 (pc' := 96) (by decide +kernel) hx.bk.a1 c5 (hx.bk.e1 _ c5.n) rfl <| z_iload_n (pc' := 97) (j := 3) (by decide +kernel) rfl rfl <| h.elim fun c6 h => z_iaload (pc' := 98) (by decide +kernel) (hx.bk.x1 _ c5.n) c6 rfl <| h.elim fun c7 h => z_i2l (pc' := 99) (by decide +kernel) c7 rfl <| z_ladd (pc' := 100) (by decide +kernel) rfl <| z_lstore_n (pc' := 101) (j := 1) (ls' := [some (.ref 0), some (jv ((31 * v1) + (zI Z (16 + v4.toNat) v3.toNat))), none, some (iv v3), some (iv v4)]) (by decide +kernel) (by decide) rfl rfl <| z_iinc (pc' := 104) (j := 4) (n := 1) (x := v4) (ls' := [some (.ref 0), some (jv ((31 * v1) + (zI Z (16 + v4.toNat) v3.toNat))), none, some (iv v3), some (iv (v4 + 1))]) (by decide +kernel) rfl (by decide) rfl rfl <| z_goto (tgt := 75) (off := -29) (by decide +kernel) (by decide) <| h))
set_option maxRecDepth 20000 in
theorem e_X12_checksum {G : Gx} {Q : Rv → Zm → Prop} {Z : Zm} {m : Nat} {B : Nat} (hm : atModel Z m B) (h : (∀ Z1, Z1 = zSI Z m (zu (zI Z m) 19 0) → ZP G 12 m_X12_checksum 11 [some (.ref m), some (jv 7), none, some (iv 0), none] [] Z1 Q)) : ZM G 12 m_X12_checksum [.ref m] Z Q := ZM.of [some (.ref m), none, none, none, none] rfl <| z_aload_n (pc' := 1) (j := 0) (by decide +kernel) rfl rfl <| z_iconst (pc' := 2) (n := 0) (by decide +kernel) rfl <| z_putI (pc' := 5) (idx := 60) (ci := 12) (f := 19) (by decide +kernel) f_RX12_60 (am_nf rfl rfl) rfl rfl rfl hm.o.1 hm.o.2 rfl <| have h := h _ rfl; z_ldc2 (pc' := 8) (idx := 370) (w := 7) (v := 7) (by decide +kernel) (amM10 125 rfl (by decide +kernel)) (by decide) rfl <| z_lstore_n (pc' := 9) (j := 1) (ls' := [some (.ref m), some (jv 7), none, none, none]) (by decide +kernel) (by decide) rfl rfl <| z_iconst (pc' := 10) (n := 0) (by decide +kernel) rfl <| z_istore_n (pc' := 11) (j := 3) (ls' := [some (.ref m), some (jv 7), none, some (iv 0), none]) (by decide +kernel) (by decide) rfl rfl <| h
set_option maxRecDepth 20000 in
theorem b_X12_checksum_11 {G : Gx} {Q : Rv → Zm → Prop} {Z : Zm} {m : Nat} {B : Nat} {v1 : Int} {v3 : Int} (hm : atModel Z m B) (h : ((R32 v3) ∧ (R32 (zI Z B 0)) ∧ (if (zI Z B 0) ≤ v3 then (ZP G 12 m_X12_checksum 61 [some (.ref m), some (jv v1), none, some (iv 0), none] [] Z Q) else (ZP G 12 m_X12_checksum 22 [some (.ref m), some (jv v1), none, some (iv v3), some (iv 0)] [] Z Q)))) : ZP G 12 m_X12_checksum 11 [some (.ref m), some (jv v1), none, some (iv v3), none] [] Z Q := z_iload_n (pc' := 12) (j := 3) (by decide +kernel) rfl rfl <| z_aload_n (pc' := 13) (j := 0) (by decide +kernel) rfl rfl <| z_callV (pc' := 16) (idx := 64) (mj := m_X12_many) (av := []) (d' := 0) (by decide +kernel) rfl k_X12_many l_RX12_64 rfl (by omega) (am_le rfl) rfl (am_le rfl) hm.o.1 hm.o.2 rfl <| zKf (s_many hm) <| h.elim fun c1 h => h.elim fun c2 h => z_icmp_ge (pc' := 19) (tgt := 59) (off := 43) (by decide +kernel) (by decide) rfl c1 c2 (am_ite h (fun h => z_iconst (pc' := 60) (n := 0) (by decide +kernel) rfl <| z_istore_n (pc' := 61) (j := 3) (ls' := [some (.ref m), some (jv v1), none, some (iv 0), none]) (by decide +kernel) (by decide) rfl rfl <| h) (fun h => z_iconst (pc' := 20) (n := 0) (by decide +kernel) rfl <| z_istore (pc' := 22) (j := 4) (ls' := [some (.ref m), some (jv v1), none, some (iv v3), some (iv 0)]) (by decide +kernel) (by decide) rfl rfl <| h))
set_option maxRecDepth 20000 in
theorem b_X12_checksum_61 {G : Gx} {Q : Rv → Zm → Prop} {Z : Zm} {m : Nat} {B : Nat} {v1 : Int} {v3 : Int} (hm : atModel Z m B) (h : ((R32 v3) ∧ (R32 (3 * (zI Z B 1))) ∧ (if (3 * (zI Z B 1)) ≤ v3 then (ZP G 12 m_X12_checksum 97 [some (.ref m), some (jv v1), none, some (iv 0), none] [] Z Q) else ((zIx (262 + v3) 412) ∧ (R32 (zI Z B (262 + v3).toNat)) ∧ ZP G 12 m_X12_checksum 61 [some (.ref m), some (jv ((31 * v1) + (zI Z B (262 + v3).toNat))), none, some (iv (v3 + 1)), none] [] Z Q)))) : ZP G 12 m_X12_checksum 61 [some (.ref m), some (jv v1), none, some (iv v3), none] [] Z Q := z_iload_n (pc' := 62) (j := 3) (by decide +kernel) rfl rfl <| z_iconst (pc' := 63) (n := 3) (by decide +kernel) rfl <| z_aload_n (pc' := 64) (j := 0) (by decide +kernel) rfl rfl <| z_callV (pc' := 67) (idx := 94) (mj := m_X12_needsMany) (av := []) (d' := 0) (by decide +kernel) rfl k_X12_needsMany l_RX12_94 rfl (by omega) (am_le rfl) rfl (am_le rfl) hm.o.1 hm.o.2 rfl <| zKf (s_needsMany hm) <| z_imul (pc' := 68) (by decide +kernel) rfl <| h.elim fun c1 h => h.elim fun c2 h => z_icmp_ge (pc' := 71) (tgt := 95) (off := 27) (by decide +kernel) (by decide) rfl c1 c2 (am_ite h (fun h => z_iconst (pc' := 96) (n := 0) (by decide +kernel) rfl <| z_istore_n (pc' := 97) (j := 3) (ls' := [some (.ref m), some (jv v1), none, some (iv 0), none]) (by decide +kernel) (by decide) rfl rfl <| h) (fun h => z_ldc2 (pc' := 74) (idx := 375) (w := 31) (v := 31) (by decide +kernel) (amM10 127 rfl (by decide +kernel)) (by decide) rfl <| z_lload_n (pc' := 75) (j := 1) (by decide +kernel) rfl rfl <| z_lmul (pc' := 76) (by decide +kernel) rfl <| z_aload_n (pc' := 77) (j := 0) (by decide +kernel) rfl rfl <| z_getR (pc' := 80) (idx := 9) (ci := 12) (f := 0) (by decide +kernel) f_RX12_9 rfl hm.o.1 hm.o.2 hm.r0 rfl <| z_sipush (pc' := 83) (n := 262) (by decide +kernel) (by decide) rfl <| z_iload_n (pc' := 84) (j := 3) (by decide +kernel) rfl rfl <| z_iadd (pc' := 85) (by decide +kernel) rfl <| h.elim fun c5 h => z_iaload (pc' := 86) (by decide +kernel) hm.a0 c5 rfl <| h.elim fun c6 h => z_i2l (pc' := 87) (by decide +kernel) c6 rfl <| z_ladd (pc' := 88) (by decide +kernel) rfl <| z_lstore_n (pc' := 89) (j := 1) (ls' := [some (.ref m), some (jv ((31 * v1) + (zI Z B (262 + v3).toNat))), none, some (iv v3), none]) (by decide +kernel) (by decide) rfl rfl <| z_iinc (pc' := 92) (j := 3) (n := 1) (x := v3) (ls' := [some (.ref m), some (jv ((31 * v1) + (zI Z B (262 + v3).toNat))), none, some (iv (v3 + 1)), none]) (by decide +kernel) rfl (by decide) rfl rfl <| z_goto (tgt := 61) (off := -31) (by decide +kernel) (by decide) <| h))
set_option maxRecDepth 20000 in
theorem b_X12_checksum_22 {G : Gx} {Q : Rv → Zm → Prop} {Z : Zm} {m : Nat} {B : Nat} {v1 : Int} {v3 : Int} {v4 : Int} (hm : atModel Z m B) (h : ((R32 v4) ∧ (R32 (zLen 5 : Int)) ∧ (if (zLen 5 : Int) ≤ v4 then (ZP G 12 m_X12_checksum 11 [some (.ref m), some (jv v1), none, some (iv (v3 + 1)), none] [] Z Q) else ((zIx v3 20) ∧ (zIx v4 13) ∧ (R32 (mG Z B v3.toNat v4.toNat)) ∧ ZP G 12 m_X12_checksum 22 [some (.ref m), some (jv ((31 * v1) + (mG Z B v3.toNat v4.toNat))), none, some (iv v3), some (iv (v4 + 1))] [] Z Q)))) : ZP G 12 m_X12_checksum 22 [some (.ref m), some (jv v1), none, some (iv v3), some (iv v4)] [] Z Q := z_iload (pc' := 24) (j := 4) (by decide +kernel) rfl rfl <| z_ldcS (pc' := 26) (idx := 144) (i := 5) (by decide +kernel) (by decide) (by decide) (by decide) rfl <| z_callT (pc' := 29) (idx := 372) (i := 5) (mj := m_J0_length_8abf5) (av := []) (d' := 1) (by decide +kernel) rfl k_J0_length_8abf5 (by decide) (amM10 126 rfl (by decide +kernel)) rfl (by omega) (am_le rfl) rfl (am_le rfl) rfl <| zKf (s_length (by decide)) <| h.elim fun c1 h => h.elim fun c2 h => z_icmp_ge (pc' := 32) (tgt := 53) (off := 24) (by decide +kernel) (by decide) rfl c1 c2 (am_ite h (fun h => z_iinc (pc' := 56) (j := 3) (n := 1) (x := v3) (ls' := [some (.ref m), some (jv v1), none, some (iv (v3 + 1)), some (iv v4)]) (by decide +kernel) rfl (by decide) rfl rfl <| z_goto (tgt := 11) (off := -45) (by decide +kernel) (by decide) <| (ZP.wk (wk_some (wk_some (wk_none (wk_some (wk_none wk_nil))))) h)) (fun h => z_ldc2 (pc' := 35) (idx := 375) (w := 31) (v := 31) (by decide +kernel) (amM10 127 rfl (by decide +kernel)) (by decide) rfl <| z_lload_n (pc' := 36) (j := 1) (by decide +kernel) rfl rfl <| z_lmul (pc' := 37) (by decide +kernel) rfl <| z_aload_n (pc' := 38) (j := 0) (by decide +kernel) rfl rfl <| z_iload_n (pc' := 39) (j := 3) (by decide +kernel) rfl rfl <| z_iload (pc' := 41) (j := 4) (by decide +kernel) rfl rfl <| h.elim fun c6 h => h.elim fun c7 h => z_callV (pc' := 44) (idx := 83) (mj := m_X12_get) (av := [iv v3, iv v4]) (d' := 0) (by decide +kernel) rfl k_X12_get l_RX12_83 rfl (by omega) (am_le rfl) rfl (am_le rfl) hm.o.1 hm.o.2 rfl <| zKf (s_get hm c6 c7) <| h.elim fun c8 h => z_i2l (pc' := 45) (by decide +kernel) c8 rfl <| z_ladd (pc' := 46) (by decide +kernel) rfl <| z_lstore_n (pc' := 47) (j := 1) (ls' := [some (.ref m), some (jv ((31 * v1) + (mG Z B v3.toNat v4.toNat))), none, some (iv v3), some (iv v4)]) (by decide +kernel) (by decide) rfl rfl <| z_iinc (pc' := 50) (j := 4) (n := 1) (x := v4) (ls' := [some (.ref m), some (jv ((31 * v1) + (mG Z B v3.toNat v4.toNat))), none, some (iv v3), some (iv (v4 + 1))]) (by decide +kernel) rfl (by decide) rfl rfl <| z_goto (tgt := 22) (off := -28) (by decide +kernel) (by decide) <| h))
set_option maxRecDepth 20000 in
theorem b_X12_checksum_97 {G : Gx} {Q : Rv → Zm → Prop} {Z : Zm} {m : Nat} {B : Nat} {v1 : Int} {v3 : Int} (hm : atModel Z m B) (h : ((R32 v3) ∧ (R32 (zI Z m 4)) ∧ (if (zI Z m 4) ≤ v3 then (Q (.inl (some (jv v1))) Z) else ((zIx v3 80) ∧ (R32 (zI Z (m + 3) v3.toNat)) ∧ ZP G 12 m_X12_checksum 97 [some (.ref m), some (jv ((31 * v1) + (zI Z (m + 3) v3.toNat))), none, some (iv (v3 + 1)), none] [] Z Q)))) : ZP G 12 m_X12_checksum 97 [some (.ref m), some (jv v1), none, some (iv v3), none] [] Z Q := z_iload_n (pc' := 98) (j := 3) (by decide +kernel) rfl rfl <| z_aload_n (pc' := 99) (j := 0) (by decide +kernel) rfl rfl <| z_getI (pc' := 102) (idx := 174) (ci := 12) (f := 4) (by decide +kernel) f_RX12_174 rfl hm.o.1 hm.o.2 rfl <| h.elim fun c1 h => h.elim fun c2 h => z_icmp_ge (pc' := 105) (tgt := 125) (off := 23) (by decide +kernel) (by decide) rfl c1 c2 (am_ite h (fun h => z_lload_n (pc' := 126) (j := 1) (by decide +kernel) rfl rfl <| z_lreturn (by decide +kernel) rfl h) (fun h => z_ldc2 (pc' := 108) (idx := 375) (w := 31) (v := 31) (by decide +kernel) (amM10 127 rfl (by decide +kernel)) (by decide) rfl <| z_lload_n (pc' := 109) (j := 1) (by decide +kernel) rfl rfl <| z_lmul (pc' := 110) (by decide +kernel) rfl <| z_aload_n (pc' := 111) (j := 0) (by decide +kernel) rfl rfl <| z_getR (pc' := 114) (idx := 18) (ci := 12) (f := 3) (by decide +kernel) f_RX12_18 rfl hm.o.1 hm.o.2 hm.r3 rfl <| z_iload_n (pc' := 115) (j := 3) (by decide +kernel) rfl rfl <| h.elim fun c5 h => z_caload (pc' := 116) (by decide +kernel) hm.a3 c5 rfl <| h.elim fun c6 h => z_i2l (pc' := 117) (by decide +kernel) c6 rfl <| z_ladd (pc' := 118) (by decide +kernel) rfl <| z_lstore_n (pc' := 119) (j := 1) (ls' := [some (.ref m), some (jv ((31 * v1) + (zI Z (m + 3) v3.toNat))), none, some (iv v3), none]) (by decide +kernel) (by decide) rfl rfl <| z_iinc (pc' := 122) (j := 3) (n := 1) (x := v3) (ls' := [some (.ref m), some (jv ((31 * v1) + (zI Z (m + 3) v3.toNat))), none, some (iv (v3 + 1)), none]) (by decide +kernel) rfl (by decide) rfl rfl <| z_goto (tgt := 97) (off := -25) (by decide +kernel) (by decide) <| h))
/-! ===== kept begins ===== -/
theorem IC.kept {Z : Zm} {σ : St} {f g b : Nat → Int} {n : Nat} (h : IC Z σ) (h1 : g 14 = (n : Int)) (h2 : ∀ i, i < n → f i = b i) (h3 : g 8 = zI Z 0 8) : IC (zSI (zSI Z 276 f) 0 g) (stB σ n b) := by
  have fr : zF (fun b => b = 276 ∨ b = 0) 0 0 Z (zSI (zSI Z 276 f) 0 g) := (zF_I (Or.inl rfl)).trans (zF_I (Or.inr rfl))
  have e : ∀ b, b ≠ 276 → b ≠ 0 → zI (zSI (zSI Z 276 f) 0 g) b = zI Z b := fun b g1 g2 => by rw [zI_other g2, zI_other g1]
  obtain ⟨h0, h1', h2', h3', h4, h5, h6, h7, h8, h9⟩ := h
  refine ⟨h0.ext fr.1, h1'.fr h0 fr (by omega) (fun a g1 g2 => by omega), h2'.fr h0 fr (fun a g1 g2 => by omega), ?_, cN.keep h4 h0 fr (fun a g1 g2 => by omega), fun c q g1 g2 => ?_, ?_, ?_, ?_, ⟨?_, fun i hi => ?_⟩⟩
  · rw [e 231 (by omega) (by omega), e 232 (by omega) (by omega)]
    exact h3'
  · rw [e (246 + c) (by omega) (by omega)]
    exact h5 c q g1 g2
  · rw [e 252 (by omega) (by omega)]
    exact h6
  · rw [zI_same, h3, e 253 (by omega) (by omega)]
    exact h7
  · rw [cPl, e 256 (by omega) (by omega), e 257 (by omega) (by omega), e 259 (by omega) (by omega), e 260 (by omega) (by omega), e 261 (by omega) (by omega), e 264 (by omega) (by omega), e 265 (by omega) (by omega)]
    exact h8
  · rw [zI_same]
    exact h1
  · rw [zI_other (by omega), zI_same]
    exact h2 i hi
theorem IMb.kept {Z : Zm} {B : Nat} {σ : St} {f g b : Nat → Int} {n : Nat} (h : IMb Z B σ) (ho : okS σ) (h16 : g 16 = (n : Int)) (hf : ∀ i, i < n → f i = b i) (hg : ∀ i, i < 16 → g i = zI Z 300 i) : IMb (zSI (zSI Z 314 f) 300 g) B (stB σ n b) := by
  have e : ∀ b, b ≠ 314 → b ≠ 300 → zI (zSI (zSI Z 314 f) 300 g) b = zI Z b := fun b g1 g2 => by rw [zI_other g2, zI_other g1]
  refine h.up (σ' := stB σ n b) ⟨Nat.le_refl _, fun _ _ => ⟨rfl, rfl, rfl⟩⟩ (fun b g1 g2 => e b (by omega) (by omega)) rfl rfl rfl (by rw [zI_same, hg 2 (by omega)]) (by rw [zI_same, hg 4 (by omega), e 303 (by omega) (by omega)]; exact h.tx) (fun c q g1 g2 => by rw [e (305 + c) (by omega) (by omega)]; exact h.wk c q g1 g2) (by rw [e 309 (by omega) (by omega)]; exact h.ha) (by rw [zI_same, hg 8 (by omega), e 310 (by omega) (by omega)]; exact h.ty) ?_ ⟨by rw [zI_same]; exact h16, fun i hi => by rw [zI_other (by omega), zI_same]; exact hf i hi⟩ ho.k ho.h
  rw [mPl, zI_same, hg 9 (by omega), hg 10 (by omega), hg 14 (by omega), e 313 (by omega) (by omega), e 311 (by omega) (by omega), e 312 (by omega) (by omega)]
  exact h.pl
theorem okS.b {σ : St} (h : okS σ) : sBn σ ≤ 20 ∧ ∀ i, i < sBn σ → 0 ≤ sBs σ i ∧ sBs σ i ≤ 1710 := h.2.2.2.2.2.2.2
noncomputable def o_keep (σ : St) : Ou := (0, (kN (sK σ) : Int), stB σ (kN (sK σ)) (eE (sK σ)))
noncomputable def mvN (σ : St) (n : Nat) : Int := zsum (fun t => ci ((kN (sK σ) : Int) ≤ (t : Int) ∨ eE (sK σ) t ≠ sBs σ t)) n
noncomputable def o_moved (σ : St) : Ou := (0, mvN σ (sBn σ), σ)
noncomputable def o_movedBy (σ : St) (t : Int) : Ou := cIf (0 ≤ t ∧ t < kN (sK σ)) (cIf (t < sBn σ) (0, eE (sK σ) t.toNat - sBs σ t.toNat, σ) (2, 0, σ)) (1, 0, σ)
theorem IC.kb {Z : Zm} {σ : St} (h : IC Z σ) : zI Z 0 14 = (sBn σ : Int) ∧ ∀ i, i < sBn σ → zI Z 276 i = sBs σ i := h.2.2.2.2.2.2.2.2.2
theorem mvN_s (σ : St) (n : Nat) : mvN σ (n + 1) = mvN σ n + ci ((kN (sK σ) : Int) ≤ (n : Int) ∨ eE (sK σ) n ≠ sBs σ n) := rfl
theorem c_keep {G : Gx} {Z : Zm} {σ : St} (h : IC Z σ) (ho : okS σ) : ZM G 12 m_X11_keep [.ref 0] Z (rC Z (E3 "" "" "") iv (o_keep σ)) := by
  have hN := ho.1.n
  refine e_X11_keep h.1 (((s_freshNet h ho.1).deeper (by omega)).mono ?_)
  rintro r W ⟨rfl, f, hc⟩
  obtain ⟨h1, f1⟩ := h.nt f hc
  obtain ⟨e6, -⟩ := hc.e ho.1
  refine b_X11_keep_4 h1.1 ?_
  intro Z1 z1 Z2 z2
  have w1 : zI Z1 1 3 = (kN (sK σ) : Int) := by rw [z1, zI_other (by decide)]; exact h1.2.1.1
  have w0 : zI Z1 0 = zI W 0 := by rw [z1]; exact zI_other (by decide)
  rw [w1, w0] at z2
  have ic : IC Z2 (stB σ (kN (sK σ)) (eE (sK σ))) := by
    rw [z2, z1]
    refine h1.kept (zu_same _ _ _) (fun i hi => ?_) (zu_other (by decide))
    show (if 0 ≤ i ∧ i < 0 + 20 then zI W 239 (0 + (i - 0)) else _) = _
    rw [if_pos (by omega), show 0 + (i - 0) = i by omega]
    exact e6 i hi
  have fr : zF cF 0 0 W Z2 := by
    rw [z2, z1]
    exact (zF_cI (by omega)).trans (zF_cI (by omega))
  refine rC.ok ic (f1.trans fr).c1 ?_
  rw [z2, zI_same, zu_same]
theorem d_keep {G : Gx} {Z : Zm} {B : Nat} {σ : St} (h : IMb Z B σ) (ho : okS σ) (hz : 322 ≤ zSz Z ∧ zSz Z < 990000) : ZM G 12 m_X12_keep [.ref 300] Z (rM Z iv (o_keep σ)) := by
  have hN := ho.1.n
  refine e_X12_keep h.1 ?_
  rintro _ rfl
  refine ((m_len (h.t 0) ho.T ⟨hz.1, by show zSz Z < 999000; omega⟩).deeper (by omega)).mono ?_
  rintro r W ⟨rfl, f1, h1, u1⟩
  refine b_X12_keep_10 h1.1 u1.1 (((m_E h1 ho.T (mHz.f (Z := zT Z 0) hz f1 (by omega)) u1).deeper (by omega)).mono ?_)
  rintro r V ⟨rfl, f2, h2, u2⟩
  generalize zSz W = u at *
  refine b_X12_keep_13 h2.1 u2.1 ?_
  obtain ⟨v, e19⟩ := mS_t (f1.trans f2) hz.1
  have h0 := h2.2.2.1.1
  have hB := h2.big (by have := (f1.trans f2).sz; have e : zSz (zT Z 0) = zSz Z := rfl; omega)
  suffices key : ∀ j, j ≤ kN (sK σ) → ∀ g, (∀ i, i < j → g i = eE (sK σ) i) → ZP G 12 m_X12_keep 16 [some (.ref 300), some (.ref u), some (iv (j : Int))] [] (zSI V 314 g) (rM Z iv (o_keep σ)) by
    have h9 := key 0 (Nat.zero_le _) (zI V 314) fun i hi => absurd hi (Nat.not_lt_zero _)
    rw [zSI_id] at h9
    exact h9
  refine am_up (n := kN (sK σ)) fun j hj ih g hg => ?_
  have e0 : zI (zSI V 314 g) B 0 = (kN (sK σ) : Int) := by rw [zI_other (by omega)]; exact h0
  refine b_X12_keep_16 h2.1.s u2.1.s ⟨by omega, by rw [e0]; omega, ?_⟩
  rw [e0]
  by_cases c : j < kN (sK σ)
  · rw [if_neg (by omega)]
    refine ⟨zIx_nat (by omega) (by omega), ?_⟩
    rintro _ rfl
    rw [Int.toNat_natCast, show 300 + 14 = 314 from rfl, zI_same, zSI_zSI, zI_other (b := u) (by have := u2.2.1; omega), u2.2.2 j c]
    refine ih c _ fun i hi => ?_
    by_cases d : i = j
    · rw [d, zu_same]
    · rw [zu_other d]
      exact hg i (by omega)
  · rw [if_pos (by omega)]
    rintro _ rfl
    rw [zI_other (Z := V) (a := 314) (b := 300) (by decide)]
    refine rM.ok (h2.kept ho (zu_same _ _ _) (fun i hi => hg i (by omega)) fun i hi => zu_other (by omega)) ?_ ((v.trans (zV_I (by decide))).trans (zV_I (by decide))) (by omega) (by omega) ?_
    · rw [zI_same, zu_other (by decide)]
      exact e19
    · rw [zI_same, zu_same]
theorem c_moved {G : Gx} {Z : Zm} {σ : St} (h : IC Z σ) (ho : okS σ) : ZM G 12 m_X11_moved [.ref 0] Z (rC Z (E3 "" "" "") iv (o_moved σ)) := by
  have hN := ho.1.n
  have hb := ho.b
  refine e_X11_moved h.1 (((s_freshNet h ho.1).deeper (by omega)).mono ?_)
  rintro r W ⟨rfl, f, hc⟩
  obtain ⟨h1, f1⟩ := h.nt f hc
  obtain ⟨e6, -, -, eo⟩ := hc.e ho.1
  have kb := h1.kb
  refine b_X11_moved_4 h1.1 ?_
  suffices key : ∀ j, j ≤ sBn σ → ZP G 12 m_X11_moved 12 [some (.ref 0), some (.ref 239), some (iv (mvN σ j)), some (iv (j : Int))] [] W (rC Z (E3 "" "" "") iv (o_moved σ)) from key 0 (Nat.zero_le _)
  refine am_up (n := sBn σ) fun j hj ih => ?_
  refine b_X11_moved_12 h1.1 ⟨by omega, by rw [kb.1]; omega, ?_⟩
  rw [kb.1]
  by_cases c : j < sBn σ
  · rw [if_neg (by omega)]
    refine ((s_hasTask h1.1.bk h1.2.1 ho.1 (t := (j : Int)) (by omega)).deeper (by omega)).mono ?_
    rintro r V ⟨rfl, hV⟩
    obtain rfl := hV.symm
    have bj := hb.2 j c
    have h9 := ih c
    rw [mvN_s] at h9
    refine b_X11_moved_28 h1.1 ⟨b01_r (b2_01 _), fun q => ?_, ?_⟩
    · have q2 : 0 ≤ (j : Int) ∧ (j : Int) < (kN (sK σ) : Int) := Classical.byContradiction fun g => q (b2_f g)
      have ee := eo.e ho.1 (t := j) (by omega)
      rw [Int.toNat_natCast, e6 j (by omega), kb.2 j c]
      exact ⟨zIx_nat (by omega) (by omega), by omega, by omega, trivial⟩
    · by_cases d : j < kN (sK σ)
      · rw [b2_p (c := 0 ≤ (j : Int) ∧ (j : Int) < (kN (sK σ) : Int)) (by omega), if_neg (by decide), Int.toNat_natCast, e6 j d, kb.2 j c]
        by_cases g : eE (sK σ) j = sBs σ j
        · rw [if_pos g]
          rw [ci_f (by omega), Int.add_zero] at h9
          exact h9
        · rw [if_neg g]
          rw [ci_p (Or.inr g)] at h9
          exact h9
      · rw [b2_f (c := 0 ≤ (j : Int) ∧ (j : Int) < (kN (sK σ) : Int)) (by omega), if_pos rfl]
        rw [ci_p (Or.inl (by omega))] at h9
        exact h9
  · rw [if_pos (by omega)]
    refine rC.ok h1 f1.c1 ?_
    rw [show j = sBn σ by omega]
theorem d_moved {G : Gx} {Z : Zm} {B : Nat} {σ : St} (h : IMb Z B σ) (ho : okS σ) (hz : 322 ≤ zSz Z ∧ zSz Z < 990000) : ZM G 12 m_X12_moved [.ref 300] Z (rM Z iv (o_moved σ)) := by
  have hN := ho.1.n
  have hb := ho.b
  refine e_X12_moved h.1 ?_
  rintro _ rfl
  refine ((m_len (h.t 0) ho.T ⟨hz.1, by show zSz Z < 999000; omega⟩).deeper (by omega)).mono ?_
  rintro r W ⟨rfl, f1, h1, u1⟩
  refine b_X12_moved_10 h1.1 u1.1 (((m_E h1 ho.T (mHz.f (Z := zT Z 0) hz f1 (by omega)) u1).deeper (by omega)).mono ?_)
  rintro r V ⟨rfl, f2, h2, u2⟩
  generalize zSz W = u at *
  refine b_X12_moved_13 h2.1 u2.1 ?_
  obtain ⟨v, e19⟩ := mS_t (f1.trans f2) hz.1
  have h0 := h2.2.2.1.1
  have kb := h2.kb
  suffices key : ∀ j, j ≤ sBn σ → ZP G 12 m_X12_moved 18 [some (.ref 300), some (.ref u), some (iv (mvN σ j)), some (iv (j : Int))] [] V (rM Z iv (o_moved σ)) from key 0 (Nat.zero_le _)
  refine am_up (n := sBn σ) fun j hj ih => ?_
  refine b_X12_moved_18 h2.1 u2.1 ⟨by omega, by rw [kb.1]; omega, ?_⟩
  rw [kb.1, h0]
  by_cases c : j < sBn σ
  · rw [if_neg (by omega)]
    have bj := hb.2 j c
    have h9 := ih c
    rw [mvN_s] at h9
    refine ⟨by omega, fun q => ?_, ?_⟩
    · have ee := (eOk_all ho.1).e ho.1 (t := j) (by omega)
      rw [Int.toNat_natCast, u2.2.2 j (by omega), show zI V (300 + 14) j = sBs σ j from kb.2 j c]
      exact ⟨zIx_nat (by omega) (by omega), by omega, by omega, trivial⟩
    · rw [Int.toNat_natCast, show zI V (300 + 14) j = sBs σ j from kb.2 j c]
      have e : b2 (((kN (sK σ) : Int) ≤ (j : Int)) ∨ (¬ (zI V u j = sBs σ j))) = ci ((kN (sK σ) : Int) ≤ (j : Int) ∨ eE (sK σ) j ≠ sBs σ j) := by
        by_cases d : j < kN (sK σ)
        · rw [u2.2.2 j d]
          by_cases g : (kN (sK σ) : Int) ≤ (j : Int) ∨ eE (sK σ) j ≠ sBs σ j
          · rw [b2_p g, ci_p g]
          · rw [b2_f g, ci_f g]
        · rw [b2_p (Or.inl (by omega)), ci_p (Or.inl (by omega))]
      rw [e]
      exact h9
  · rw [if_pos (by omega)]
    refine rM.ok h2 e19 v (by omega) (by omega) ?_
    rw [show j = sBn σ by omega]
theorem c_movedBy {G : Gx} {Z : Zm} {σ : St} {t : Int} (h : IC Z σ) (ho : okS σ) (hz : zSz Z < 1000000) (ht : R32 t) : ZM G 12 m_X11_movedBy [.ref 0, iv t] Z (rC Z (E3 eN eT "") iv (o_movedBy σ t)) := by
  have hN := ho.1.n
  have hb := ho.b
  refine e_X11_movedBy h.1 ⟨ht, ?_⟩
  rw [h.2.1.1]
  refine ⟨by omega, hz, ?_⟩
  unfold o_movedBy
  by_cases c1 : 0 ≤ t ∧ t < (kN (sK σ) : Int)
  case neg =>
    rw [if_neg c1, cIf_f c1]
    exact rC.no h (by decide) rfl
  rw [if_pos c1, cIf_p c1, h.kb.1]
  refine ⟨by omega, ?_⟩
  by_cases c2 : t < (sBn σ : Int)
  case neg =>
    rw [if_neg c2, cIf_f c2]
    exact rC.no h (by decide) rfl
  rw [if_pos c2, cIf_p c2]
  refine ((s_freshNet h ho.1).deeper (by omega)).mono ?_
  rintro r W ⟨rfl, f, hc⟩
  obtain ⟨h1, f1⟩ := h.nt f hc
  obtain ⟨e6, -⟩ := hc.e ho.1
  refine b_X11_movedBy_28 h1.1 ⟨⟨c1.1, by omega, by decide⟩, rC.ok h1 f1.c1 ?_⟩
  rw [e6 t.toNat (by omega), h1.kb.2 t.toNat (by omega)]
theorem d_movedBy {G : Gx} {Z : Zm} {B : Nat} {σ : St} {t : Int} (h : IMb Z B σ) (ho : okS σ) (hz : 322 ≤ zSz Z ∧ zSz Z < 990000) (ht : R32 t) : ZM G 12 m_X12_movedBy [.ref 300, iv t] Z (rM Z iv (o_movedBy σ t)) := by
  have hN := ho.1.n
  have hb := ho.b
  have h0 := h.2.2.1.1
  refine e_X12_movedBy h.1 ⟨ht, by omega, by rw [h.kb.1]; omega, ?_⟩
  rintro _ rfl
  rw [h0, h.kb.1]
  unfold o_movedBy
  by_cases c1 : 0 ≤ t ∧ t < (kN (sK σ) : Int)
  case neg =>
    rw [cIf_f c1, fC_1 (P := ¬ (0 ≤ t ∧ t < (kN (sK σ) : Int))) c1, if_pos (by decide)]
    exact rM.no h (by decide) rfl
  rw [cIf_p c1]
  by_cases c2 : t < (sBn σ : Int)
  case neg =>
    rw [cIf_f c2, fC_2 (P := ¬ (0 ≤ t ∧ t < (kN (sK σ) : Int))) (Q := ¬ (t < (sBn σ : Int))) (fun q => q c1) c2, if_pos (by decide)]
    exact rM.no h (by decide) rfl
  rw [cIf_p c2, fC_o2 (P := ¬ (0 ≤ t ∧ t < (kN (sK σ) : Int))) (Q := ¬ (t < (sBn σ : Int))) (fun q => q c1) (fun q => q c2), if_neg (by decide)]
  refine ((m_len (h.t 0) ho.T ⟨hz.1, by show zSz Z < 999000; omega⟩).deeper (by omega)).mono ?_
  rintro r W ⟨rfl, f1, h1, u1⟩
  refine b_X12_movedBy_43 h1.1 u1.1 (((m_E h1 ho.T (mHz.f (Z := zT Z 0) hz f1 (by omega)) u1).deeper (by omega)).mono ?_)
  rintro r V ⟨rfl, f2, h2, u2⟩
  obtain ⟨v, e19⟩ := mS_t (f1.trans f2) hz.1
  refine b_X12_movedBy_46 h2.1 u2.1 ⟨⟨c1.1, by omega, by decide⟩, rM.ok h2 e19 v (by omega) (by omega) ?_⟩
  rw [u2.2.2 t.toNat (by omega), show zI V (300 + 14) t.toNat = sBs σ t.toNat from h2.kb.2 t.toNat (by omega)]
/-! ===== figures ===== -/
noncomputable def crN (k : Bk) (n : Nat) : Int := zsum (fun t => b2 (eL k t - eE k t = 0)) n
theorem crN_s (k : Bk) (n : Nat) : crN k (n + 1) = crN k n + b2 (eL k n - eE k n = 0) := rfl
theorem crN_r (k : Bk) (n : Nat) : 0 ≤ crN k n ∧ crN k n ≤ n := by
  have := zsum_bound (f := fun t => b2 (eL k t - eE k t = 0)) (n := n) (a := 0) (b := 1) fun i _ => by
    rcases b2_01 (eL k i - eE k i = 0) with q | q <;> omega
  unfold crN
  omega
noncomputable def o_fig (σ : St) : Ou := cIf (kN (sK σ) = 0) (1, 0, σ) (0, 0, σ)
noncomputable def vCr (σ : St) : UInt32 := FP.fdiv (FP.i2f (iN (crN (sK σ) (kN (sK σ))))) (FP.i2f (iN (kN (sK σ) : Int)))
noncomputable def vMe (σ : St) : UInt64 := FP.ddiv (FP.i2d (iN (zsum (kF (sK σ) 0) (kN (sK σ))))) (FP.i2d (iN (kN (sK σ) : Int)))
theorem c_criticalShare {G : Gx} {Z : Zm} {σ : St} (h : IC Z σ) (ho : okS σ) (hz : zSz Z < 1000000) : ZM G 12 m_X11_criticalShare [.ref 0] Z (rC Z (E3 eR' "" "") (vF (vCr σ)) (o_fig σ)) := by
  have hN := ho.1.n
  refine e_X11_criticalShare h.1 ?_
  rw [h.2.1.1]
  refine ⟨by omega, hz, ?_⟩
  unfold o_fig
  by_cases c : kN (sK σ) = 0
  · rw [if_neg (by omega), cIf_p c]
    exact rC.no h (by decide) rfl
  rw [if_pos (by omega), cIf_f c]
  refine ((s_freshNet h ho.1).deeper (by omega)).mono ?_
  rintro r W ⟨rfl, f, hc⟩
  obtain ⟨h1, f1⟩ := h.nt f hc
  obtain ⟨e6, -, e7, eo⟩ := hc.e ho.1
  refine b_X11_criticalShare_8 h1.1 ?_
  suffices key : ∀ j, j ≤ kN (sK σ) → ZP G 12 m_X11_criticalShare 13 [some (.ref 0), some (iv (crN (sK σ) j)), some (iv (j : Int))] [] W (rC Z (E3 eR' "" "") (vF (vCr σ)) (0, 0, σ)) from key 0 (Nat.zero_le _)
  refine am_up (n := kN (sK σ)) fun j hj ih => ?_
  refine b_X11_criticalShare_13 h1.1 ⟨by omega, by rw [h1.2.1.1]; omega, ?_⟩
  rw [h1.2.1.1]
  by_cases d : j < kN (sK σ)
  · have a := eo.e ho.1 d
    have b := eo.el ho.1 d
    have g := eo.en ho.1
    have l := ho.1.len d
    rw [if_neg (by omega), Int.toNat_natCast, e6 j d, e7 j d]
    refine ⟨zIx_nat (by omega) (by omega), by omega, ?_⟩
    have h9 := ih d
    rw [crN_s] at h9
    by_cases q : eL (sK σ) j - eE (sK σ) j = 0
    · rw [if_pos q]
      rw [b2_p q] at h9
      exact h9
    · rw [if_neg q]
      rw [b2_f q, Int.add_zero] at h9
      exact h9
  · rw [if_pos (by omega)]
    have cr := crN_r (sK σ) j
    refine ⟨fb32_div cr.1 (by omega) (by omega) (by omega), ?_⟩
    have ej : j = kN (sK σ) := by omega
    rw [ej]
    exact rC.ok (f := vF (vCr σ)) (v' := 0) h1 f1.c1 rfl
theorem d_criticalShare {G : Gx} {Z : Zm} {B : Nat} {σ : St} (h : IMb Z B σ) (ho : okS σ) (hz : 322 ≤ zSz Z ∧ zSz Z < 990000) : ZM G 12 m_X12_criticalShare [.ref 300] Z (rM Z (vF (vCr σ)) (o_fig σ)) := by
  have hN := ho.1.n
  refine e_X12_criticalShare h.1 ?_
  suffices key : ∀ j, j ≤ kN (sK σ) → ∀ W, IMb W B σ → zF mS (3 * j) (60 * j) Z W → ZP G 12 m_X12_criticalShare 4 [some (.ref 300), some (iv (crN (sK σ) j)), some (iv (j : Int))] [] W (rM Z (vF (vCr σ)) (o_fig σ)) from key 0 (Nat.zero_le _) Z h zF.refl
  refine am_up (n := kN (sK σ)) fun j hj ih W hW fW => ?_
  have h0 := hW.2.2.1.1
  have zW : 322 ≤ zSz W ∧ zSz W < 998900 := ⟨Nat.le_trans hz.1 fW.sz, by have := fW.2.1.1; omega⟩
  refine b_X12_criticalShare_4 hW.1 ⟨by omega, by rw [h0]; omega, ?_⟩
  rw [h0]
  by_cases d : j < kN (sK σ)
  · rw [if_neg (by omega)]
    refine ((m_slack hW ho zW d).deeper (by omega)).mono ?_
    rintro r V ⟨rfl, f2, h2⟩
    have a := (eOk_all ho.1).e ho.1 d
    have b := (eOk_all ho.1).el ho.1 d
    have g := (eOk_all ho.1).en ho.1
    have l := ho.1.len d
    refine b_X12_criticalShare_18 h2.1 ⟨by omega, ?_⟩
    have h9 := ih d V h2 ((fW.trans f2).mono (fun _ q => q) (by omega) (by omega))
    rw [crN_s] at h9
    exact h9
  · rw [if_pos (by omega)]
    rintro _ rfl
    have cr := crN_r (sK σ) j
    have v := mS_v fW hz.1
    unfold o_fig
    by_cases c : kN (sK σ) = 0
    · rw [cIf_p c, fC_1 (P := (kN (sK σ) : Int) = 0) (by omega), if_pos (by decide)]
      exact ⟨⟨1, rfl, fun g => absurd (show (1 : Nat) = 0 from g) (by decide)⟩, zI_t W 1, ⟨B, hW.t 1⟩, (v.trans zV_t).mono (by omega) (by omega)⟩
    · rw [cIf_f c, fC_o1 (P := (kN (sK σ) : Int) = 0) (by omega), if_neg (by decide)]
      have e0 : zI (zT W 0) B 0 = (kN (sK σ) : Int) := (hW.t 0).2.2.1.1
      rw [e0]
      refine ⟨fb32_div cr.1 (by omega) (by omega) (by omega), ?_⟩
      have ej : j = kN (sK σ) := by omega
      rw [ej]
      exact rM.ok (f := vF (vCr σ)) (w := 0) (hW.t 0) (zI_t W 0) (v.trans zV_t) (by omega) (by omega) rfl
theorem c_meanLength {G : Gx} {Z : Zm} {σ : St} (h : IC Z σ) (ho : okS σ) (hz : zSz Z < 1000000) : ZM G 12 m_X11_meanLength [.ref 0] Z (rC Z (E3 eR' "" "") (vD (vMe σ)) (o_fig σ)) := by
  have hN := ho.1.n
  have sr := fs_len ho.1
  refine e_X11_meanLength h.1 ?_
  rw [h.2.1.1]
  refine ⟨by omega, hz, ?_⟩
  unfold o_fig
  by_cases c : kN (sK σ) = 0
  · rw [if_neg (by omega), cIf_p c]
    exact rC.no h (by decide) rfl
  rw [if_pos (by omega), cIf_f c]
  refine ((s_sumOfLengths h.1.bk h.2.1 ho.1).deeper (by omega)).mono ?_
  rintro r W ⟨rfl, hW⟩
  obtain rfl := hW.symm
  refine b_X11_meanLength_11 h.1 ?_
  rw [h.2.1.1]
  exact ⟨fb64_div sr.1 (by omega) (by omega) (by omega), rC.st (f := vD (vMe σ)) (v' := 0) h rfl⟩
theorem d_meanLength {G : Gx} {Z : Zm} {B : Nat} {σ : St} (h : IMb Z B σ) (ho : okS σ) : ZM G 12 m_X12_meanLength [.ref 300] Z (rM Z (vD (vMe σ)) (o_fig σ)) := by
  have hN := ho.1.n
  have sr := fs_len ho.1
  have h0 := h.2.2.1.1
  refine e_X12_meanLength h.1 ?_
  suffices key : ∀ j, j ≤ kN (sK σ) → ZP G 12 m_X12_meanLength 4 [some (.ref 300), some (iv (zsum (kF (sK σ) 0) j)), some (iv (j : Int))] [] Z (rM Z (vD (vMe σ)) (o_fig σ)) from key 0 (Nat.zero_le _)
  refine am_up (n := kN (sK σ)) fun j hj ih => ?_
  refine b_X12_meanLength_4 h.1 ⟨by omega, by rw [h0]; omega, ?_⟩
  rw [h0]
  by_cases d : j < kN (sK σ)
  · rw [if_neg (by omega), Int.toNat_natCast, h.2.2.1.k d (r := 0) (by omega)]
    exact ⟨zIx_nat (by omega) (by omega), ih d⟩
  · rw [if_pos (by omega)]
    rintro _ rfl
    unfold o_fig
    by_cases c : kN (sK σ) = 0
    · rw [cIf_p c, fC_1 (P := (kN (sK σ) : Int) = 0) (by omega), if_pos (by decide)]
      exact ⟨⟨1, rfl, fun g => absurd (show (1 : Nat) = 0 from g) (by decide)⟩, zI_t Z 1, ⟨B, h.t 1⟩, zV_t.mono (by omega) (by omega)⟩
    · rw [cIf_f c, fC_o1 (P := (kN (sK σ) : Int) = 0) (by omega), if_neg (by decide)]
      have e0 : zI (zT Z 0) B 0 = (kN (sK σ) : Int) := (h.t 0).2.2.1.1
      rw [e0]
      have ej : j = kN (sK σ) := by omega
      rw [ej]
      exact ⟨fb64_div sr.1 (by omega) (by omega) (by omega), rM.ok (f := vD (vMe σ)) (w := 0) (h.t 0) (zI_t Z 0) zV_t (by omega) (by omega) rfl⟩
/-! ===== the checksum ===== -/
def ckR (f : Nat → Int) : Nat → Int → Int
  | 0, s => s
  | n + 1, s => 31 * ckR f n s + f n
def ckT (k : Bk) : Nat → Int
  | 0 => 7
  | t + 1 => ckR (fun r => kF k r t) 8 (ckT k t)
def ndR (k : Bk) (j : Nat) : Nat → Int := fun r => if r = 0 then (kE k j : Int) else if r = 1 then (kL k j : Int) else kG k j
def ckN (k : Bk) : Nat → Int
  | 0 => ckT k (kN k)
  | j + 1 => ckR (ndR k j) 3 (ckN k j)
def ckX (σ : St) : Int := ckR (sXs σ) (sXn σ) (ckN (sK σ) (kM (sK σ)))
def o_checksum (σ : St) : Ou := (0, ckX σ, σ)
theorem okS.x' {σ : St} (h : okS σ) : sXn σ ≤ 80 ∧ ∀ i, i < sXn σ → 32 ≤ sXs σ i ∧ sXs σ i ≤ 126 := h.2.2.1
theorem c_checksum {G : Gx} {Z : Zm} {σ : St} (h : IC Z σ) (ho : okS σ) : ZM G 12 m_X11_checksum [.ref 0] Z (rC Z (E3 "" "" "") jv (o_checksum σ)) := by
  have hN := ho.1.n
  have hM := ho.1.m
  have hX := ho.x'
  have tx : zI Z 231 1 = (sXn σ : Int) ∧ ∀ i, i < sXn σ → zI Z 232 i = sXs σ i := h.2.2.2.1
  refine e_X11_checksum h.1 ?_
  have k3 : ∀ j, j ≤ sXn σ → ZP G 12 m_X11_checksum 115 [some (.ref 0), some (jv (ckR (sXs σ) j (ckN (sK σ) (kM (sK σ))))), none, some (iv (j : Int)), none] [] Z (rC Z (E3 "" "" "") jv (o_checksum σ)) := by
    refine am_up (n := sXn σ) fun j hj ih => ?_
    refine b_X11_checksum_115 h.1 ⟨by omega, by rw [tx.1]; omega, ?_⟩
    rw [tx.1]
    by_cases c : j < sXn σ
    · have := hX.2 j c
      rw [if_neg (by omega), Int.toNat_natCast, tx.2 j c]
      exact ⟨zIx_nat (by omega) (by omega), by omega, ih c⟩
    · rw [if_pos (by omega)]
      exact rC.st h (by rw [show j = sXn σ by omega]; rfl)
  have k2 : ∀ j, j ≤ kM (sK σ) → ZP G 12 m_X11_checksum 61 [some (.ref 0), some (jv (ckN (sK σ) j)), none, some (iv (j : Int)), none] [] Z (rC Z (E3 "" "" "") jv (o_checksum σ)) := by
    refine am_up (n := kM (sK σ)) fun j hj ih => ?_
    refine b_X11_checksum_61 h.1 ⟨by omega, by rw [h.2.1.2.1]; omega, ?_⟩
    rw [h.2.1.2.1]
    by_cases c : j < kM (sK σ)
    · rw [if_neg (by omega)]
      obtain ⟨g1, g2, g3⟩ := h.2.1.2.2.2 j c
      have hE := ho.1.e c
      have hl := ho.1.l c
      have hg := ho.1.g c
      suffices inn : ∀ r, r ≤ 3 → ZP G 12 m_X11_checksum 75 [some (.ref 0), some (jv (ckR (ndR (sK σ) j) r (ckN (sK σ) j))), none, some (iv (j : Int)), some (iv (r : Int))] [] Z (rC Z (E3 "" "" "") jv (o_checksum σ)) from inn 0 (by omega)
      refine am_up (n := 3) fun r hr ihr => ?_
      refine b_X11_checksum_75 h.1 ⟨by omega, ?_⟩
      by_cases d : r < 3
      · have e : zI Z (16 + r) j = ndR (sK σ) j r := by
          unfold ndR
          by_cases r0 : r = 0
          · rw [if_pos r0, r0]
            exact g1
          · rw [if_neg r0]
            by_cases r1 : r = 1
            · rw [if_pos r1, r1]
              exact g2
            · rw [if_neg r1, show r = 2 by omega]
              exact g3
        have er : R32 (ndR (sK σ) j r) := by
          unfold ndR
          split
          · omega
          · split <;> omega
        rw [if_neg (by omega), Int.toNat_natCast, Int.toNat_natCast, e]
        exact ⟨zIx_nat (by omega) (by omega), zIx_nat (by omega) (by omega), er, ihr d⟩
      · rw [if_pos (by omega), show r = 3 by omega]
        exact ih c
    · rw [if_pos (by omega), show j = kM (sK σ) by omega]
      exact k3 0 (Nat.zero_le _)
  suffices k1 : ∀ j, j ≤ kN (sK σ) → ZP G 12 m_X11_checksum 6 [some (.ref 0), some (jv (ckT (sK σ) j)), none, some (iv (j : Int)), none] [] Z (rC Z (E3 "" "" "") jv (o_checksum σ)) from k1 0 (Nat.zero_le _)
  refine am_up (n := kN (sK σ)) fun j hj ih => ?_
  refine b_X11_checksum_6 h.1 ⟨by omega, by rw [h.2.1.1]; omega, ?_⟩
  rw [h.2.1.1]
  by_cases c : j < kN (sK σ)
  · rw [if_neg (by omega)]
    suffices inn : ∀ r, r ≤ 8 → ZP G 12 m_X11_checksum 20 [some (.ref 0), some (jv (ckR (fun r => kF (sK σ) r j) r (ckT (sK σ) j))), none, some (iv (j : Int)), some (iv (r : Int))] [] Z (rC Z (E3 "" "" "") jv (o_checksum σ)) from inn 0 (by omega)
    refine am_up (n := 8) fun r hr ihr => ?_
    refine b_X11_checksum_20 h.1 ⟨by omega, ?_⟩
    by_cases d : r < 8
    · have e : zI Z (3 + r) j = kF (sK σ) r j := by
        have := h.2.1.2.2.1 r j (by omega) c
        rw [show 1 + 2 + r = 3 + r by omega] at this
        exact this
      have er := ho.1.f (r := r) (by omega) c
      rw [if_neg (by omega), Int.toNat_natCast, Int.toNat_natCast, e]
      exact ⟨zIx_nat (by omega) (by omega), zIx_nat (by omega) (by omega), by omega, ihr d⟩
    · rw [if_pos (by omega), show r = 8 by omega]
      exact ih c
  · rw [if_pos (by omega), show j = kN (sK σ) by omega]
    exact k2 0 (Nat.zero_le _)
theorem d_checksum {G : Gx} {Z : Zm} {B : Nat} {σ : St} (h : IMb Z B σ) (ho : okS σ) : ZM G 12 m_X12_checksum [.ref 300] Z (rM Z jv (o_checksum σ)) := by
  have hN := ho.1.n
  have hM := ho.1.m
  have hX := ho.x'
  refine e_X12_checksum h.1 ?_
  rintro _ rfl
  have h1 := h.t 0
  have tx := h1.tx
  have hk := h1.2.2.1
  have ok := rM.st (f := jv) (Z := Z) (x := 0) (w := ckX σ) (v := ckX σ) h rfl rfl
  generalize hR : rM Z jv (o_checksum σ) = R at *
  have fin : R (.inl (some (jv (ckX σ)))) (zT Z 0) := by rw [← hR]; exact ok
  have k3 : ∀ j, j ≤ sXn σ → ZP G 12 m_X12_checksum 97 [some (.ref 300), some (jv (ckR (sXs σ) j (ckN (sK σ) (kM (sK σ))))), none, some (iv (j : Int)), none] [] (zT Z 0) R := by
    refine am_up (n := sXn σ) fun j hj ih => ?_
    refine b_X12_checksum_97 h1.1 ⟨by omega, by rw [tx.1]; omega, ?_⟩
    rw [tx.1]
    by_cases c : j < sXn σ
    · have := hX.2 j c
      have e : zI (zT Z 0) (300 + 3) j = sXs σ j := tx.2 j c
      rw [if_neg (by omega), Int.toNat_natCast, e]
      exact ⟨zIx_nat (by omega) (by omega), by omega, ih c⟩
    · rw [if_pos (by omega), show j = sXn σ by omega]
      exact fin
  have k2 : ∀ j, j ≤ kM (sK σ) → ZP G 12 m_X12_checksum 61 [some (.ref 300), some (jv (ckN (sK σ) j)), none, some (iv (3 * (j : Int))), none] [] (zT Z 0) R := by
    refine am_up (n := kM (sK σ)) fun j hj ih => ?_
    by_cases c : j < kM (sK σ)
    · obtain ⟨g1, g2, g3⟩ := hk.2.2.2 j c
      have hE := ho.1.e c
      have hl := ho.1.l c
      have hg := ho.1.g c
      refine b_X12_checksum_61 h1.1 ⟨by omega, by rw [hk.2.1]; omega, ?_⟩
      have e1 : zI (zT Z 0) B (262 + 3 * j) = (kE (sK σ) j : Int) := g1
      rw [hk.2.1, if_neg (by omega), show (262 + 3 * (j : Int)).toNat = 262 + 3 * j by omega, e1]
      refine ⟨⟨by omega, by omega, by omega⟩, by omega, ?_⟩
      refine b_X12_checksum_61 h1.1 ⟨by omega, by rw [hk.2.1]; omega, ?_⟩
      have e2 : zI (zT Z 0) B (263 + 3 * j) = (kL (sK σ) j : Int) := g2
      rw [hk.2.1, if_neg (by omega), show (262 + (3 * (j : Int) + 1)).toNat = 263 + 3 * j by omega, e2]
      refine ⟨⟨by omega, by omega, by omega⟩, by omega, ?_⟩
      refine b_X12_checksum_61 h1.1 ⟨by omega, by rw [hk.2.1]; omega, ?_⟩
      have e3 : zI (zT Z 0) B (264 + 3 * j) = kG (sK σ) j := g3
      rw [hk.2.1, if_neg (by omega), show (262 + (3 * (j : Int) + 1 + 1)).toNat = 264 + 3 * j by omega, e3]
      refine ⟨⟨by omega, by omega, by omega⟩, by omega, ?_⟩
      have h9 := ih c
      rw [show 3 * ((j + 1 : Nat) : Int) = 3 * (j : Int) + 1 + 1 + 1 by omega] at h9
      exact h9
    · refine b_X12_checksum_61 h1.1 ⟨by omega, by rw [hk.2.1]; omega, ?_⟩
      rw [hk.2.1, if_pos (by omega), show j = kM (sK σ) by omega]
      exact k3 0 (Nat.zero_le _)
  suffices k1 : ∀ j, j ≤ kN (sK σ) → ZP G 12 m_X12_checksum 11 [some (.ref 300), some (jv (ckT (sK σ) j)), none, some (iv (j : Int)), none] [] (zT Z 0) R from k1 0 (Nat.zero_le _)
  refine am_up (n := kN (sK σ)) fun j hj ih => ?_
  refine b_X12_checksum_11 h1.1 ⟨by omega, by rw [hk.1]; omega, ?_⟩
  rw [hk.1]
  by_cases c : j < kN (sK σ)
  · rw [if_neg (by omega)]
    suffices inn : ∀ r, r ≤ 8 → ZP G 12 m_X12_checksum 22 [some (.ref 300), some (jv (ckR (fun r => kF (sK σ) r j) r (ckT (sK σ) j))), none, some (iv (j : Int)), some (iv (r : Int))] [] (zT Z 0) R from inn 0 (by omega)
    refine am_up (n := 8) fun r hr ihr => ?_
    have l5 : (zLen 5 : Int) = 8 := rfl
    refine b_X12_checksum_22 h1.1 ⟨by omega, by rw [l5]; decide, ?_⟩
    rw [l5]
    by_cases d : r < 8
    · have er := ho.1.f (r := r) (by omega) c
      rw [if_neg (by omega), Int.toNat_natCast, Int.toNat_natCast, hk.k c (r := r) (by omega)]
      exact ⟨zIx_nat (by omega) (by omega), zIx_nat (by omega) (by omega), by omega, ihr d⟩
    · rw [if_pos (by omega), show r = 8 by omega]
      exact ih c
  · rw [if_pos (by omega), show j = kN (sK σ) by omega]
    exact k2 0 (Nat.zero_le _)
