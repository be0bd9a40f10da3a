set_option maxRecDepth 20000 in
theorem e_X12_rowsFrom {G : Gx} {Q : Rv → Zm → Prop} {Z : Zm} {m : Nat} {B : Nat} {t : Int} {u : Nat} {v : Nat} (hm : atModel Z m B) (hu : zA Z u 100 20) (hv : zA Z v 100 20) (h : ((zSz Z < 1000000) ∧ ∀ Z2, Z2 = zC Z 110 20 20 → (zSz Z2 < 1000000) ∧ ∀ Z4, Z4 = zC Z2 102 20 20 → ZP G 1 m_X12_rowsFrom 12 [some (.ref m), some (iv t), some (.ref u), some (.ref v), some (.ref (zSz Z)), some (.ref (zSz Z2)), none, none, none, none, none] [] Z4 Q)) : ZM G 1 m_X12_rowsFrom [.ref m, iv t, .ref u, .ref v] Z Q := ZM.of [some (.ref m), some (iv t), some (.ref u), some (.ref v), none, none, none, none, none, none, none] rfl <| z_bipush (pc' := 2) (n := 20) (by decide +kernel) (by decide) rfl <| h.elim fun c1 h => z_new110 (pc' := 4) (by decide +kernel) (amM1 204 rfl (by decide +kernel)) (by decide) (by decide) c1 rfl <| have h := h _ rfl; z_astore (pc' := 6) (j := 4) (ls' := [some (.ref m), some (iv t), some (.ref u), some (.ref v), some (.ref (zSz Z)), none, none, none, none, none, none]) (by decide +kernel) (by decide) rfl rfl <| z_bipush (pc' := 8) (n := 20) (by decide +kernel) (by decide) rfl <| h.elim fun c3 h => z_new102 (pc' := 10) (by decide +kernel) (amM8 71 rfl (by decide +kernel)) (by decide) (by decide) c3 rfl <| have h := h _ rfl; z_astore (pc' := 12) (j := 5) (ls' := [some (.ref m), some (iv t), some (.ref u), some (.ref v), some (.ref (zSz Z)), some (.ref (zSz (zC Z 110 20 20))), none, none, none, none, none]) (by decide +kernel) (by decide) rfl rfl <| h
set_option maxRecDepth 20000 in
theorem b_X12_rowsFrom_12 {G : Gx} {Q : Rv → Zm → Prop} {Z : Zm} {a2 : Nat} {a8 : Nat} {m : Nat} {B : Nat} {t : Int} {u : Nat} {v : Nat}  (hm : atModel Z m B) (hu : zA Z u 100 20) (hv : zA Z v 100 20) (ha2 : zA Z a2 110 20) (ha8 : zA Z a8 102 20) (h : ((zIx t 20) ∧ (R32 (zI Z a8 t.toNat)) ∧ (if (zI Z a8 t.toNat) = 0 then (ZP G 1 m_X12_rowsFrom 22 [some (.ref m), some (iv t), some (.ref u), some (.ref v), some (.ref a2), some (.ref a8), some (iv 0), none, none, none, none] [] Z Q) else (Q (.inl (some (jv (zL Z a2 t.toNat)))) Z)))) : ZP G 1 m_X12_rowsFrom 12 [some (.ref m), some (iv t), some (.ref u), some (.ref v), some (.ref a2), some (.ref a8), none, none, none, none, none] [] Z Q := z_aload (pc' := 14) (j := 5) (by decide +kernel) rfl rfl <| z_iload_n (pc' := 15) (j := 1) (by decide +kernel) rfl rfl <| h.elim fun c1 h => z_baload (pc' := 16) (by decide +kernel) ha8 c1 rfl <| h.elim fun c2 h => z_if_ne (pc' := 19) (tgt := 181) (off := 165) (by decide +kernel) (by decide) rfl c2 (am_ite h (fun h => z_iconst (pc' := 20) (n := 0) (by decide +kernel) rfl <| z_istore (pc' := 22) (j := 6) (ls' := [some (.ref m), some (iv t), some (.ref u), some (.ref v), some (.ref a2), some (.ref a8), some (iv 0), none, none, none, none]) (by decide +kernel) (by decide) rfl rfl <| h) (fun h => z_aload (pc' := 183) (j := 4) (by decide +kernel) rfl rfl <| z_iload_n (pc' := 184) (j := 1) (by decide +kernel) rfl rfl <| z_laload (pc' := 185) (by decide +kernel) ha2 c1 rfl <| z_lreturn (by decide +kernel) rfl h))
set_option maxRecDepth 20000 in
theorem b_X12_rowsFrom_22 {G : Gx} {Q : Rv → Zm → Prop} {Z : Zm} {a2 : Nat} {a8 : Nat} {m : Nat} {B : Nat} {t : Int} {u : Nat} {v : Nat} {v6 : Int} (hm : atModel Z m B) (hu : zA Z u 100 20) (hv : zA Z v 100 20) (ha2 : zA Z a2 110 20) (ha8 : zA Z a8 102 20) (h : ((R32 v6) ∧ (R32 (zI Z B 0)) ∧ (if (zI Z B 0) ≤ v6 then (ZP G 1 m_X12_rowsFrom 12 [some (.ref m), some (iv t), some (.ref u), some (.ref v), some (.ref a2), some (.ref a8), none, none, none, none, none] [] Z Q) else ((zIx v6 20) ∧ (R32 (zI Z a8 v6.toNat)) ∧ ZP G 1 m_X12_rowsFrom 52 [some (.ref m), some (iv t), some (.ref u), some (.ref v), some (.ref a2), some (.ref a8), some (iv v6), some (jv 0), none, some (iv (b2 ((zI Z a8 v6.toNat) = 0))), some (iv 0)] [] Z Q)))) : ZP G 1 m_X12_rowsFrom 22 [some (.ref m), some (iv t), some (.ref u), some (.ref v), some (.ref a2), some (.ref a8), some (iv v6), none, none, none, none] [] Z Q := z_iload (pc' := 24) (j := 6) (by decide +kernel) rfl rfl <| z_aload_n (pc' := 25) (j := 0) (by decide +kernel) rfl rfl <| z_callV (pc' := 28) (idx := 64) (mj := m_X12_many) (av := []) (d' := 0) (by decide +kernel) rfl k_X12_many l_RX12_64 rfl (by omega) (am_le rfl) rfl (am_le rfl) hm.o.1 hm.o.2 rfl <| zKf (s_many hm) <| h.elim fun c1 h => h.elim fun c2 h => z_icmp_ge (pc' := 31) (tgt := 178) (off := 150) (by decide +kernel) (by decide) rfl c1 c2 (am_ite h (fun h => z_goto (tgt := 12) (off := -166) (by decide +kernel) (by decide) <| (ZP.wk (wk_some (wk_some (wk_some (wk_some (wk_some (wk_some (wk_none (wk_none (wk_none (wk_none (wk_none wk_nil))))))))))) h)) (fun h => z_lconst (pc' := 32) (n := 0) (v := 0) (by decide +kernel) rfl rfl <| z_lstore (pc' := 34) (j := 7) (ls' := [some (.ref m), some (iv t), some (.ref u), some (.ref v), some (.ref a2), some (.ref a8), some (iv v6), some (jv 0), none, none, none]) (by decide +kernel) (by decide) rfl rfl <| z_aload (pc' := 36) (j := 5) (by decide +kernel) rfl rfl <| z_iload (pc' := 38) (j := 6) (by decide +kernel) rfl rfl <| h.elim fun c9 h => z_baload (pc' := 39) (by decide +kernel) ha8 c9 rfl <| h.elim fun c10 h => am_use (fun k13 => z_if_ne (pc' := 42) (tgt := 46) (off := 7) (by decide +kernel) (by decide) rfl c10 (am_ite2 (fun q14 => z_iconst (pc' := 43) (n := 1) (by decide +kernel) rfl <| z_goto (tgt := 47) (off := 4) (by decide +kernel) (by decide) <| (am_jp (P := fun z9 => ZP G 1 m_X12_rowsFrom 47 [some (.ref m), some (iv t), some (.ref u), some (.ref v), some (.ref a2), some (.ref a8), some (iv v6), some (jv 0), none, none, none] [iv z9] _ Q) (b2_p q14) k13)) (fun q14 => z_iconst (pc' := 47) (n := 0) (by decide +kernel) rfl <| (am_jp (P := fun z9 => ZP G 1 m_X12_rowsFrom 47 [some (.ref m), some (iv t), some (.ref u), some (.ref v), some (.ref a2), some (.ref a8), some (iv v6), some (jv 0), none, none, none] [iv z9] _ Q) (b2_f q14) k13)))) <| z_istore (pc' := 49) (j := 9) (ls' := [some (.ref m), some (iv t), some (.ref u), some (.ref v), some (.ref a2), some (.ref a8), some (iv v6), some (jv 0), none, some (iv (b2 ((zI Z a8 v6.toNat) = 0))), none]) (by decide +kernel) (by decide) rfl rfl <| z_iconst (pc' := 50) (n := 0) (by decide +kernel) rfl <| z_istore (pc' := 52) (j := 10) (ls' := [some (.ref m), some (iv t), some (.ref u), some (.ref v), some (.ref a2), some (.ref a8), some (iv v6), some (jv 0), none, some (iv (b2 ((zI Z a8 v6.toNat) = 0))), some (iv 0)]) (by decide +kernel) (by decide) rfl rfl <| h))
set_option maxRecDepth 20000 in
theorem b_X12_rowsFrom_52 {G : Gx} {Q : Rv → Zm → Prop} {Z : Zm} {a2 : Nat} {a8 : Nat} {m : Nat} {B : Nat} {t : Int} {u : Nat} {v : Nat} {v6 : Int} {v7 : Int} {v9 : Int} {v10 : Int} (hm : atModel Z m B) (hu : zA Z u 100 20) (hv : zA Z v 100 20) (ha2 : zA Z a2 110 20) (ha8 : zA Z a8 102 20) (h : ((R32 v10) ∧ (R32 (zI Z B 1)) ∧ (if (zI Z B 1) ≤ v10 then ((R32 v9) ∧ (if v9 = 0 then (ZP G 1 m_X12_rowsFrom 22 [some (.ref m), some (iv t), some (.ref u), some (.ref v), some (.ref a2), some (.ref a8), some (iv (v6 + 1)), none, none, none, none] [] Z Q) else ((zIx v6 20) ∧ (R32 (zI Z v v6.toNat)) ∧ (R32 (zI Z u v6.toNat)) ∧ (if (zI Z v v6.toNat) = (zI Z u v6.toNat) then (∀ Z18, Z18 = zSL Z a2 (zu (zL Z a2) v6.toNat 1) → ∀ Z19, Z19 = zSI Z18 a8 (zu (zI Z18 a8) v6.toNat 1) → ZP G 1 m_X12_rowsFrom 22 [some (.ref m), some (iv t), some (.ref u), some (.ref v), some (.ref a2), some (.ref a8), some (iv (v6 + 1)), none, none, none, none] [] Z19 Q) else (∀ Z20, Z20 = zSL Z a2 (zu (zL Z a2) v6.toNat v7) → ∀ Z21, Z21 = zSI Z20 a8 (zu (zI Z20 a8) v6.toNat 1) → ZP G 1 m_X12_rowsFrom 22 [some (.ref m), some (iv t), some (.ref u), some (.ref v), some (.ref a2), some (.ref a8), some (iv (v6 + 1)), none, none, none, none] [] Z21 Q))))) else ((R32 v9) ∧ (if v9 = 0 then ((if v9 = 0 then (ZP G 1 m_X12_rowsFrom 22 [some (.ref m), some (iv t), some (.ref u), some (.ref v), some (.ref a2), some (.ref a8), some (iv (v6 + 1)), none, none, none, none] [] Z Q) else ((zIx v6 20) ∧ (R32 (zI Z v v6.toNat)) ∧ (R32 (zI Z u v6.toNat)) ∧ (if (zI Z v v6.toNat) = (zI Z u v6.toNat) then (∀ Z36, Z36 = zSL Z a2 (zu (zL Z a2) v6.toNat 1) → ∀ Z37, Z37 = zSI Z36 a8 (zu (zI Z36 a8) v6.toNat 1) → ZP G 1 m_X12_rowsFrom 22 [some (.ref m), some (iv t), some (.ref u), some (.ref v), some (.ref a2), some (.ref a8), some (iv (v6 + 1)), none, none, none, none] [] Z37 Q) else (∀ Z38, Z38 = zSL Z a2 (zu (zL Z a2) v6.toNat v7) → ∀ Z39, Z39 = zSI Z38 a8 (zu (zI Z38 a8) v6.toNat 1) → ZP G 1 m_X12_rowsFrom 22 [some (.ref m), some (iv t), some (.ref u), some (.ref v), some (.ref a2), some (.ref a8), some (iv (v6 + 1)), none, none, none, none] [] Z39 Q))))) else ((zIx v10 50) ∧ (R32 (mE Z B v10.toNat)) ∧ (R32 v6) ∧ (if (mE Z B v10.toNat) = v6 then ((zIx (mQ Z B v10.toNat) 20) ∧ (zIx v6 20) ∧ (R32 (((zI Z u v6.toNat) + (mK Z B v10.toNat)) + (zI Z v (mQ Z B v10.toNat).toNat))) ∧ (R32 (zI Z v v6.toNat)) ∧ (if (((zI Z u v6.toNat) + (mK Z B v10.toNat)) + (zI Z v (mQ Z B v10.toNat).toNat)) = (zI Z v v6.toNat) then (ZP G 1 m_X12_rowsFrom 52 [some (.ref m), some (iv t), some (.ref u), some (.ref v), some (.ref a2), some (.ref a8), some (iv v6), some (jv (v7 + (zL Z a2 (mQ Z B v10.toNat).toNat))), none, some (iv (zI Z a8 (mQ Z B v10.toNat).toNat)), some (iv (v10 + 1))] [] Z Q) else (ZP G 1 m_X12_rowsFrom 52 [some (.ref m), some (iv t), some (.ref u), some (.ref v), some (.ref a2), some (.ref a8), some (iv v6), some (jv (v7 + 0)), none, some (iv (zI Z a8 (mQ Z B v10.toNat).toNat)), some (iv (v10 + 1))] [] Z Q))) else (ZP G 1 m_X12_rowsFrom 52 [some (.ref m), some (iv t), some (.ref u), some (.ref v), some (.ref a2), some (.ref a8), some (iv v6), some (jv v7), none, some (iv v9), some (iv (v10 + 1))] [] Z Q)))))))) : ZP G 1 m_X12_rowsFrom 52 [some (.ref m), some (iv t), some (.ref u), some (.ref v), some (.ref a2), some (.ref a8), some (iv v6), some (jv v7), none, some (iv v9), some (iv v10)] [] Z Q := z_iload (pc' := 54) (j := 10) (by decide +kernel) rfl rfl <| z_aload_n (pc' := 55) (j := 0) (by decide +kernel) rfl rfl <| z_callV (pc' := 58) (idx := 94) (mj := m_X12_needsMany) (av := []) (d' := 0) (by decide +kernel) rfl k_X12_needsMany l_RX12_94 rfl (by omega) (am_le rfl) rfl (am_le rfl) hm.o.1 hm.o.2 rfl <| zKf (s_needsMany hm) <| h.elim fun c1 h => h.elim fun c2 h => z_icmp_ge (pc' := 61) (tgt := 139) (off := 81) (by decide +kernel) (by decide) rfl c1 c2 (am_ite h (fun h => z_iload (pc' := 141) (j := 9) (by decide +kernel) rfl rfl <| h.elim fun c11 h => z_if_eq (pc' := 144) (tgt := 172) (off := 31) (by decide +kernel) (by decide) rfl c11 (am_ite h (fun h => z_iinc (pc' := 175) (j := 6) (n := 1) (x := v6) (ls' := [some (.ref m), some (iv t), some (.ref u), some (.ref v), some (.ref a2), some (.ref a8), some (iv (v6 + 1)), some (jv v7), none, some (iv v9), some (iv v10)]) (by decide +kernel) rfl (by decide) rfl rfl <| z_goto (tgt := 22) (off := -153) (by decide +kernel) (by decide) <| (ZP.wk (wk_some (wk_some (wk_some (wk_some (wk_some (wk_some (wk_some (wk_none (wk_none (wk_none (wk_none wk_nil))))))))))) h)) (fun h => z_aload (pc' := 146) (j := 4) (by decide +kernel) rfl rfl <| z_iload (pc' := 148) (j := 6) (by decide +kernel) rfl rfl <| z_aload_n (pc' := 149) (j := 3) (by decide +kernel) rfl rfl <| z_iload (pc' := 151) (j := 6) (by decide +kernel) rfl rfl <| h.elim fun c15 h => z_iaload (pc' := 152) (by decide +kernel) hv c15 rfl <| z_aload_n (pc' := 153) (j := 2) (by decide +kernel) rfl rfl <| z_iload (pc' := 155) (j := 6) (by decide +kernel) rfl rfl <| z_iaload (pc' := 156) (by decide +kernel) hu c15 rfl <| h.elim fun c16 h => h.elim fun c17 h => z_icmp_ne (pc' := 159) (tgt := 163) (off := 7) (by decide +kernel) (by decide) rfl c16 c17 (am_ite h (fun h => z_lconst (pc' := 160) (n := 1) (v := 1) (by decide +kernel) rfl rfl <| z_goto (tgt := 165) (off := 5) (by decide +kernel) (by decide) <| z_lastore (pc' := 166) (by decide +kernel) ha2 c15 rfl <| have h := h _ rfl; z_aload (pc' := 168) (j := 5) (by decide +kernel) rfl rfl <| z_iload (pc' := 170) (j := 6) (by decide +kernel) rfl rfl <| z_iconst (pc' := 171) (n := 1) (by decide +kernel) rfl <| z_bastore (pc' := 172) (by decide +kernel) ha8 c15 (Or.inr rfl) rfl <| have h := h _ rfl; z_iinc (pc' := 175) (j := 6) (n := 1) (x := v6) (ls' := [some (.ref m), some (iv t), some (.ref u), some (.ref v), some (.ref a2), some (.ref a8), some (iv (v6 + 1)), some (jv v7), none, some (iv v9), some (iv v10)]) (by decide +kernel) rfl (by decide) rfl rfl <| z_goto (tgt := 22) (off := -153) (by decide +kernel) (by decide) <| (ZP.wk (wk_some (wk_some (wk_some (wk_some (wk_some (wk_some (wk_some (wk_none (wk_none (wk_none (wk_none wk_nil))))))))))) h)) (fun h => z_lload (pc' := 165) (j := 7) (by decide +kernel) rfl rfl <| z_lastore (pc' := 166) (by decide +kernel) ha2 c15 rfl <| have h := h _ rfl; z_aload (pc' := 168) (j := 5) (by decide +kernel) rfl rfl <| z_iload (pc' := 170) (j := 6) (by decide +kernel) rfl rfl <| z_iconst (pc' := 171) (n := 1) (by decide +kernel) rfl <| z_bastore (pc' := 172) (by decide +kernel) ha8 c15 (Or.inr rfl) rfl <| have h := h _ rfl; z_iinc (pc' := 175) (j := 6) (n := 1) (x := v6) (ls' := [some (.ref m), some (iv t), some (.ref u), some (.ref v), some (.ref a2), some (.ref a8), some (iv (v6 + 1)), some (jv v7), none, some (iv v9), some (iv v10)]) (by decide +kernel) rfl (by decide) rfl rfl <| z_goto (tgt := 22) (off := -153) (by decide +kernel) (by decide) <| (ZP.wk (wk_some (wk_some (wk_some (wk_some (wk_some (wk_some (wk_some (wk_none (wk_none (wk_none (wk_none wk_nil))))))))))) h)))))) (fun h => z_iload (pc' := 63) (j := 9) (by decide +kernel) rfl rfl <| h.elim fun c22 h => z_if_eq (pc' := 66) (tgt := 139) (off := 76) (by decide +kernel) (by decide) rfl c22 (am_ite h (fun h => z_iload (pc' := 141) (j := 9) (by decide +kernel) rfl rfl <| z_if_eq (pc' := 144) (tgt := 172) (off := 31) (by decide +kernel) (by decide) rfl c22 (am_ite h (fun h => z_iinc (pc' := 175) (j := 6) (n := 1) (x := v6) (ls' := [some (.ref m), some (iv t), some (.ref u), some (.ref v), some (.ref a2), some (.ref a8), some (iv (v6 + 1)), some (jv v7), none, some (iv v9), some (iv v10)]) (by decide +kernel) rfl (by decide) rfl rfl <| z_goto (tgt := 22) (off := -153) (by decide +kernel) (by decide) <| (ZP.wk (wk_some (wk_some (wk_some (wk_some (wk_some (wk_some (wk_some (wk_none (wk_none (wk_none (wk_none wk_nil))))))))))) h)) (fun h => z_aload (pc' := 146) (j := 4) (by decide +kernel) rfl rfl <| z_iload (pc' := 148) (j := 6) (by decide +kernel) rfl rfl <| z_aload_n (pc' := 149) (j := 3) (by decide +kernel) rfl rfl <| z_iload (pc' := 151) (j := 6) (by decide +kernel) rfl rfl <| h.elim fun c33 h => z_iaload (pc' := 152) (by decide +kernel) hv c33 rfl <| z_aload_n (pc' := 153) (j := 2) (by decide +kernel) rfl rfl <| z_iload (pc' := 155) (j := 6) (by decide +kernel) rfl rfl <| z_iaload (pc' := 156) (by decide +kernel) hu c33 rfl <| h.elim fun c34 h => h.elim fun c35 h => z_icmp_ne (pc' := 159) (tgt := 163) (off := 7) (by decide +kernel) (by decide) rfl c34 c35 (am_ite h (fun h => z_lconst (pc' := 160) (n := 1) (v := 1) (by decide +kernel) rfl rfl <| z_goto (tgt := 165) (off := 5) (by decide +kernel) (by decide) <| z_lastore (pc' := 166) (by decide +kernel) ha2 c33 rfl <| have h := h _ rfl; z_aload (pc' := 168) (j := 5) (by decide +kernel) rfl rfl <| z_iload (pc' := 170) (j := 6) (by decide +kernel) rfl rfl <| z_iconst (pc' := 171) (n := 1) (by decide +kernel) rfl <| z_bastore (pc' := 172) (by decide +kernel) ha8 c33 (Or.inr rfl) rfl <| have h := h _ rfl; z_iinc (pc' := 175) (j := 6) (n := 1) (x := v6) (ls' := [some (.ref m), some (iv t), some (.ref u), some (.ref v), some (.ref a2), some (.ref a8), some (iv (v6 + 1)), some (jv v7), none, some (iv v9), some (iv v10)]) (by decide +kernel) rfl (by decide) rfl rfl <| z_goto (tgt := 22) (off := -153) (by decide +kernel) (by decide) <| (ZP.wk (wk_some (wk_some (wk_some (wk_some (wk_some (wk_some (wk_some (wk_none (wk_none (wk_none (wk_none wk_nil))))))))))) h)) (fun h => z_lload (pc' := 165) (j := 7) (by decide +kernel) rfl rfl <| z_lastore (pc' := 166) (by decide +kernel) ha2 c33 rfl <| have h := h _ rfl; z_aload (pc' := 168) (j := 5) (by decide +kernel) rfl rfl <| z_iload (pc' := 170) (j := 6) (by decide +kernel) rfl rfl <| z_iconst (pc' := 171) (n := 1) (by decide +kernel) rfl <| z_bastore (pc' := 172) (by decide +kernel) ha8 c33 (Or.inr rfl) rfl <| have h := h _ rfl; z_iinc (pc' := 175) (j := 6) (n := 1) (x := v6) (ls' := [some (.ref m), some (iv t), some (.ref u), some (.ref v), some (.ref a2), some (.ref a8), some (iv (v6 + 1)), some (jv v7), none, some (iv v9), some (iv v10)]) (by decide +kernel) rfl (by decide) rfl rfl <| z_goto (tgt := 22) (off := -153) (by decide +kernel) (by decide) <| (ZP.wk (wk_some (wk_some (wk_some (wk_some (wk_some (wk_some (wk_some (wk_none (wk_none (wk_none (wk_none wk_nil))))))))))) h)))))) (fun h => z_aload_n (pc' := 67) (j := 0) (by decide +kernel) rfl rfl <| z_iload (pc' := 69) (j := 10) (by decide +kernel) rfl rfl <| h.elim fun c40 h => z_callV (pc' := 72) (idx := 97) (mj := m_X12_earlier) (av := [iv v10]) (d' := 0) (by decide +kernel) rfl k_X12_earlier l_RX12_97 rfl (by omega) (am_le rfl) rfl (am_le rfl) hm.o.1 hm.o.2 rfl <| zKf (s_earlier hm c40) <| z_iload (pc' := 74) (j := 6) (by decide +kernel) rfl rfl <| h.elim fun c41 h => h.elim fun c42 h => z_icmp_ne (pc' := 77) (tgt := 133) (off := 59) (by decide +kernel) (by decide) rfl c41 c42 (am_ite h (fun h => z_aload (pc' := 79) (j := 5) (by decide +kernel) rfl rfl <| z_aload_n (pc' := 80) (j := 0) (by decide +kernel) rfl rfl <| z_iload (pc' := 82) (j := 10) (by decide +kernel) rfl rfl <| z_callV (pc' := 85) (idx := 104) (mj := m_X12_later) (av := [iv v10]) (d' := 0) (by decide +kernel) rfl k_X12_later l_RX12_104 rfl (by omega) (am_le rfl) rfl (am_le rfl) hm.o.1 hm.o.2 rfl <| zKf (s_later hm c40) <| h.elim fun c47 h => z_baload (pc' := 86) (by decide +kernel) ha8 c47 rfl <| z_istore (pc' := 88) (j := 9) (ls' := [some (.ref m), some (iv t), some (.ref u), some (.ref v), some (.ref a2), some (.ref a8), some (iv v6), some (jv v7), none, some (iv (zI Z a8 (mQ Z B v10.toNat).toNat)), some (iv v10)]) (by decide +kernel) (by decide) rfl rfl <| z_lload (pc' := 90) (j := 7) (by decide +kernel) rfl rfl <| z_aload_n (pc' := 91) (j := 2) (by decide +kernel) rfl rfl <| z_iload (pc' := 93) (j := 6) (by decide +kernel) rfl rfl <| h.elim fun c48 h => z_iaload (pc' := 94) (by decide +kernel) hu c48 rfl <| z_aload_n (pc' := 95) (j := 0) (by decide +kernel) rfl rfl <| z_iload (pc' := 97) (j := 10) (by decide +kernel) rfl rfl <| z_callV (pc' := 100) (idx := 101) (mj := m_X12_lag) (av := [iv v10]) (d' := 0) (by decide +kernel) rfl k_X12_lag l_RX12_101 rfl (by omega) (am_le rfl) rfl (am_le rfl) hm.o.1 hm.o.2 rfl <| zKf (s_lag hm c40) <| z_iadd (pc' := 101) (by decide +kernel) rfl <| z_aload_n (pc' := 102) (j := 3) (by decide +kernel) rfl rfl <| z_aload_n (pc' := 103) (j := 0) (by decide +kernel) rfl rfl <| z_iload (pc' := 105) (j := 10) (by decide +kernel) rfl rfl <| z_callV (pc' := 108) (idx := 104) (mj := m_X12_later) (av := [iv v10]) (d' := 0) (by decide +kernel) rfl k_X12_later l_RX12_104 rfl (by omega) (am_le rfl) rfl (am_le rfl) hm.o.1 hm.o.2 rfl <| zKf (s_later hm c40) <| z_iaload (pc' := 109) (by decide +kernel) hv c47 rfl <| z_iadd (pc' := 110) (by decide +kernel) rfl <| z_aload_n (pc' := 111) (j := 3) (by decide +kernel) rfl rfl <| z_iload (pc' := 113) (j := 6) (by decide +kernel) rfl rfl <| z_iaload (pc' := 114) (by decide +kernel) hv c48 rfl <| h.elim fun c49 h => h.elim fun c50 h => z_icmp_ne (pc' := 117) (tgt := 129) (off := 15) (by decide +kernel) (by decide) rfl c49 c50 (am_ite h (fun h => z_aload (pc' := 119) (j := 4) (by decide +kernel) rfl rfl <| z_aload_n (pc' := 120) (j := 0) (by decide +kernel) rfl rfl <| z_iload (pc' := 122) (j := 10) (by decide +kernel) rfl rfl <| z_callV (pc' := 125) (idx := 104) (mj := m_X12_later) (av := [iv v10]) (d' := 0) (by decide +kernel) rfl k_X12_later l_RX12_104 rfl (by omega) (am_le rfl) rfl (am_le rfl) hm.o.1 hm.o.2 rfl <| zKf (s_later hm c40) <| z_laload (pc' := 126) (by decide +kernel) ha2 c47 rfl <| z_goto (tgt := 130) (off := 4) (by decide +kernel) (by decide) <| z_ladd (pc' := 131) (by decide +kernel) rfl <| z_lstore (pc' := 133) (j := 7) (ls' := [some (.ref m), some (iv t), some (.ref u), some (.ref v), some (.ref a2), some (.ref a8), some (iv v6), some (jv (v7 + (zL Z a2 (mQ Z B v10.toNat).toNat))), none, some (iv (zI Z a8 (mQ Z B v10.toNat).toNat)), some (iv v10)]) (by decide +kernel) (by decide) rfl rfl <| z_iinc (pc' := 136) (j := 10) (n := 1) (x := v10) (ls' := [some (.ref m), some (iv t), some (.ref u), some (.ref v), some (.ref a2), some (.ref a8), some (iv v6), some (jv (v7 + (zL Z a2 (mQ Z B v10.toNat).toNat))), none, some (iv (zI Z a8 (mQ Z B v10.toNat).toNat)), some (iv (v10 + 1))]) (by decide +kernel) rfl (by decide) rfl rfl <| z_goto (tgt := 52) (off := -84) (by decide +kernel) (by decide) <| h) (fun h => z_lconst (pc' := 130) (n := 0) (v := 0) (by decide +kernel) rfl rfl <| z_ladd (pc' := 131) (by decide +kernel) rfl <| z_lstore (pc' := 133) (j := 7) (ls' := [some (.ref m), some (iv t), some (.ref u), some (.ref v), some (.ref a2), some (.ref a8), some (iv v6), some (jv (v7 + 0)), none, some (iv (zI Z a8 (mQ Z B v10.toNat).toNat)), some (iv v10)]) (by decide +kernel) (by decide) rfl rfl <| z_iinc (pc' := 136) (j := 10) (n := 1) (x := v10) (ls' := [some (.ref m), some (iv t), some (.ref u), some (.ref v), some (.ref a2), some (.ref a8), some (iv v6), some (jv (v7 + 0)), none, some (iv (zI Z a8 (mQ Z B v10.toNat).toNat)), some (iv (v10 + 1))]) (by decide +kernel) rfl (by decide) rfl rfl <| z_goto (tgt := 52) (off := -84) (by decide +kernel) (by decide) <| h))) (fun h => z_iinc (pc' := 136) (j := 10) (n := 1) (x := v10) (ls' := [some (.ref m), some (iv t), some (.ref u), some (.ref v), some (.ref a2), some (.ref a8), some (iv v6), some (jv v7), none, some (iv v9), some (iv (v10 + 1))]) (by decide +kernel) rfl (by decide) rfl rfl <| z_goto (tgt := 52) (off := -84) (by decide +kernel) (by decide) <| h))))))
set_option maxRecDepth 20000 in
theorem e_X12_chains {G : Gx} {Q : Rv → Zm → Prop} {Z : Zm} {m : Nat} {B : Nat} (hm : atModel Z m B) (h : (∀ Z1, Z1 = zSI Z m (zu (zI Z m) 19 0) → ZM G 11 m_X12_lengths [.ref m] Z1 (zKc G 12 m_X12_chains 9 [some (.ref m), none, none, none, none, none, none] [] Q))) : ZM G 12 m_X12_chains [.ref m] Z Q := ZM.of [some (.ref m), none, none, none, none, none, none] rfl <| z_aload_n (pc' := 1) (j := 0) (by decide +kernel) rfl rfl <| z_iconst (pc' := 2) (n := 0) (by decide +kernel) rfl <| z_putI (pc' := 5) (idx := 60) (ci := 12) (f := 19) (by decide +kernel) f_RX12_60 (am_nf rfl rfl) rfl rfl rfl hm.o.1 hm.o.2 rfl <| have h := h _ rfl; z_aload_n (pc' := 6) (j := 0) (by decide +kernel) rfl rfl <| z_callV (pc' := 9) (idx := 123) (mj := m_X12_lengths) (av := []) (d' := 11) (by decide +kernel) rfl k_X12_lengths l_RX12_123 rfl (by omega) (am_le rfl) rfl (am_le rfl) hm.o.1 hm.o.2 rfl h
set_option maxRecDepth 20000 in
theorem b_X12_chains_9 {G : Gx} {Q : Rv → Zm → Prop} {Z : Zm} {r9 : Nat} {m : Nat} {B : Nat}  (hm : atModel Z m B) (hr9 : zA Z r9 100 20) (h : (ZM G 11 m_X12_rests [.ref m, .ref r9] Z (zKc G 12 m_X12_chains 15 [some (.ref m), some (.ref r9), none, none, none, none, none] [] Q))) : ZP G 12 m_X12_chains 9 [some (.ref m), none, none, none, none, none, none] [.ref r9] Z Q := z_astore_n (pc' := 10) (j := 1) (ls' := [some (.ref m), some (.ref r9), none, none, none, none, none]) (by decide +kernel) (by decide) rfl rfl <| z_aload_n (pc' := 11) (j := 0) (by decide +kernel) rfl rfl <| z_aload_n (pc' := 12) (j := 1) (by decide +kernel) rfl rfl <| z_callV (pc' := 15) (idx := 207) (mj := m_X12_rests) (av := [.ref r9]) (d' := 11) (by decide +kernel) rfl k_X12_rests l_RX12_207 rfl (by omega) (am_le rfl) rfl (am_le rfl) hm.o.1 hm.o.2 rfl h
set_option maxRecDepth 20000 in
theorem b_X12_chains_15 {G : Gx} {Q : Rv → Zm → Prop} {Z : Zm} {r9 : Nat} {r15 : Nat} {m : Nat} {B : Nat}  (hm : atModel Z m B) (hr9 : zA Z r9 100 20) (hr15 : zA Z r15 100 20) (h : (ZM G 11 m_X12_endOf [.ref m, .ref r9] Z (zKc G 12 m_X12_chains 21 [some (.ref m), some (.ref r9), some (.ref r15), none, none, none, none] [] Q))) : ZP G 12 m_X12_chains 15 [some (.ref m), some (.ref r9), none, none, none, none, none] [.ref r15] Z Q := z_astore_n (pc' := 16) (j := 2) (ls' := [some (.ref m), some (.ref r9), some (.ref r15), none, none, none, none]) (by decide +kernel) (by decide) rfl rfl <| z_aload_n (pc' := 17) (j := 0) (by decide +kernel) rfl rfl <| z_aload_n (pc' := 18) (j := 1) (by decide +kernel) rfl rfl <| z_callV (pc' := 21) (idx := 119) (mj := m_X12_endOf) (av := [.ref r9]) (d' := 11) (by decide +kernel) rfl k_X12_endOf l_RX12_119 rfl (by omega) (am_le rfl) rfl (am_le rfl) hm.o.1 hm.o.2 rfl h
set_option maxRecDepth 20000 in
theorem b_X12_chains_21 {G : Gx} {Q : Rv → Zm → Prop} {Z : Zm} {r9 : Nat} {r15 : Nat} {m : Nat} {B : Nat} {s0 : Int} (hm : atModel Z m B) (hr9 : zA Z r9 100 20) (hr15 : zA Z r15 100 20) (h : (ZP G 12 m_X12_chains 28 [some (.ref m), some (.ref r9), some (.ref r15), some (iv s0), some (jv 0), none, some (iv 0)] [] Z Q)) : ZP G 12 m_X12_chains 21 [some (.ref m), some (.ref r9), some (.ref r15), none, none, none, none] [iv s0] Z Q := z_istore_n (pc' := 22) (j := 3) (ls' := [some (.ref m), some (.ref r9), some (.ref r15), some (iv s0), none, none, none]) (by decide +kernel) (by decide) rfl rfl <| z_lconst (pc' := 23) (n := 0) (v := 0) (by decide +kernel) rfl rfl <| z_lstore (pc' := 25) (j := 4) (ls' := [some (.ref m), some (.ref r9), some (.ref r15), some (iv s0), some (jv 0), none, none]) (by decide +kernel) (by decide) rfl rfl <| z_iconst (pc' := 26) (n := 0) (by decide +kernel) rfl <| z_istore (pc' := 28) (j := 6) (ls' := [some (.ref m), some (.ref r9), some (.ref r15), some (iv s0), some (jv 0), none, some (iv 0)]) (by decide +kernel) (by decide) rfl rfl <| h
set_option maxRecDepth 20000 in
theorem b_X12_chains_28 {G : Gx} {Q : Rv → Zm → Prop} {Z : Zm} {r9 : Nat} {r15 : Nat} {m : Nat} {B : Nat} {v3 : Int} {v4 : Int} {v6 : Int} (hm : atModel Z m B) (hr9 : zA Z r9 100 20) (hr15 : zA Z r15 100 20) (h : ((R32 v6) ∧ (R32 (zI Z B 0)) ∧ (if (zI Z B 0) ≤ v6 then (Q (.inl (some (jv v4))) Z) else ((zIx v6 20) ∧ (R32 (zI Z r15 v6.toNat)) ∧ (R32 v3) ∧ (if (zI Z r15 v6.toNat) = v3 then (ZM G 11 m_X12_rowsFrom [.ref m, iv v6, .ref r9, .ref r15] Z (zKc G 12 m_X12_chains 55 [some (.ref m), some (.ref r9), some (.ref r15), some (iv v3), none, none, some (iv v6)] [jv v4] Q)) else (ZP G 12 m_X12_chains 28 [some (.ref m), some (.ref r9), some (.ref r15), some (iv v3), some (jv (v4 + 0)), none, some (iv (v6 + 1))] [] Z Q)))))) : ZP G 12 m_X12_chains 28 [some (.ref m), some (.ref r9), some (.ref r15), some (iv v3), some (jv v4), none, some (iv v6)] [] Z Q := z_iload (pc' := 30) (j := 6) (by decide +kernel) rfl rfl <| z_aload_n (pc' := 31) (j := 0) (by decide +kernel) rfl rfl <| z_callV (pc' := 34) (idx := 64) (mj := m_X12_many) (av := []) (d' := 0) (by decide +kernel) rfl k_X12_many l_RX12_64 rfl (by omega) (am_le rfl) rfl (am_le rfl) hm.o.1 hm.o.2 rfl <| zKf (s_many hm) <| h.elim fun c1 h => h.elim fun c2 h => z_icmp_ge (pc' := 37) (tgt := 68) (off := 34) (by decide +kernel) (by decide) rfl c1 c2 (am_ite h (fun h => z_lload (pc' := 70) (j := 4) (by decide +kernel) rfl rfl <| z_lreturn (by decide +kernel) rfl h) (fun h => z_lload (pc' := 39) (j := 4) (by decide +kernel) rfl rfl <| z_aload_n (pc' := 40) (j := 2) (by decide +kernel) rfl rfl <| z_iload (pc' := 42) (j := 6) (by decide +kernel) rfl rfl <| h.elim fun c6 h => z_iaload (pc' := 43) (by decide +kernel) hr15 c6 rfl <| z_iload_n (pc' := 44) (j := 3) (by decide +kernel) rfl rfl <| h.elim fun c7 h => h.elim fun c8 h => z_icmp_ne (pc' := 47) (tgt := 58) (off := 14) (by decide +kernel) (by decide) rfl c7 c8 (am_ite h (fun h => z_aload_n (pc' := 48) (j := 0) (by decide +kernel) rfl rfl <| z_iload (pc' := 50) (j := 6) (by decide +kernel) rfl rfl <| z_aload_n (pc' := 51) (j := 1) (by decide +kernel) rfl rfl <| z_aload_n (pc' := 52) (j := 2) (by decide +kernel) rfl rfl <| z_callV (pc' := 55) (idx := 210) (mj := m_X12_rowsFrom) (av := [iv v6, .ref r9, .ref r15]) (d' := 11) (by decide +kernel) rfl k_X12_rowsFrom l_RX12_210 rfl (by omega) (am_le rfl) rfl (am_le rfl) hm.o.1 hm.o.2 rfl (ZM.mono h (zKc_wk (wk_some (wk_some (wk_some (wk_some (wk_none (wk_none (wk_some wk_nil)))))))))) (fun h => z_lconst (pc' := 59) (n := 0) (v := 0) (by decide +kernel) rfl rfl <| z_ladd (pc' := 60) (by decide +kernel) rfl <| z_lstore (pc' := 62) (j := 4) (ls' := [some (.ref m), some (.ref r9), some (.ref r15), some (iv v3), some (jv (v4 + 0)), none, some (iv v6)]) (by decide +kernel) (by decide) rfl rfl <| z_iinc (pc' := 65) (j := 6) (n := 1) (x := v6) (ls' := [some (.ref m), some (.ref r9), some (.ref r15), some (iv v3), some (jv (v4 + 0)), none, some (iv (v6 + 1))]) (by decide +kernel) rfl (by decide) rfl rfl <| z_goto (tgt := 28) (off := -37) (by decide +kernel) (by decide) <| h))))
set_option maxRecDepth 20000 in
theorem b_X12_chains_55 {G : Gx} {Q : Rv → Zm → Prop} {Z : Zm} {r9 : Nat} {r15 : Nat} {m : Nat} {B : Nat} {v3 : Int} {v6 : Int} {s0 : Int} {s1 : Int} (hm : atModel Z m B) (hr9 : zA Z r9 100 20) (hr15 : zA Z r15 100 20) (h : (ZP G 12 m_X12_chains 28 [some (.ref m), some (.ref r9), some (.ref r15), some (iv v3), some (jv (s1 + s0)), none, some (iv (v6 + 1))] [] Z Q)) : ZP G 12 m_X12_chains 55 [some (.ref m), some (.ref r9), some (.ref r15), some (iv v3), none, none, some (iv v6)] [jv s0, jv s1] Z Q := z_goto (tgt := 59) (off := 4) (by decide +kernel) (by decide) <| z_ladd (pc' := 60) (by decide +kernel) rfl <| z_lstore (pc' := 62) (j := 4) (ls' := [some (.ref m), some (.ref r9), some (.ref r15), some (iv v3), some (jv (s1 + s0)), none, some (iv v6)]) (by decide +kernel) (by decide) rfl rfl <| z_iinc (pc' := 65) (j := 6) (n := 1) (x := v6) (ls' := [some (.ref m), some (.ref r9), some (.ref r15), some (iv v3), some (jv (s1 + s0)), none, some (iv (v6 + 1))]) (by decide +kernel) rfl (by decide) rfl rfl <| z_goto (tgt := 28) (off := -37) (by decide +kernel) (by decide) <| h
set_option maxRecDepth 20000 in
theorem e_X12_chain {G : Gx} {Q : Rv → Zm → Prop} {Z : Zm} {m : Nat} {B : Nat} (hm : atModel Z m B) (h : (ZM G 4 m_X12_lengths [.ref m] Z (zKc G 5 m_X12_chain 4 [some (.ref m), none, none, none, none, none, none, none, none] [] Q))) : ZM G 5 m_X12_chain [.ref m] Z Q := ZM.of [some (.ref m), none, none, none, none, none, none, none, none] rfl <| z_aload_n (pc' := 1) (j := 0) (by decide +kernel) rfl rfl <| z_callV (pc' := 4) (idx := 123) (mj := m_X12_lengths) (av := []) (d' := 4) (by decide +kernel) rfl k_X12_lengths l_RX12_123 rfl (by omega) (am_le rfl) rfl (am_le rfl) hm.o.1 hm.o.2 rfl h
set_option maxRecDepth 20000 in
theorem b_X12_chain_4 {G : Gx} {Q : Rv → Zm → Prop} {Z : Zm} {r4 : Nat} {m : Nat} {B : Nat}  (hm : atModel Z m B) (hr4 : zA Z r4 100 20) (h : (ZM G 4 m_X12_rests [.ref m, .ref r4] Z (zKc G 5 m_X12_chain 10 [some (.ref m), some (.ref r4), none, none, none, none, none, none, none] [] Q))) : ZP G 5 m_X12_chain 4 [some (.ref m), none, none, none, none, none, none, none, none] [.ref r4] Z Q := z_astore_n (pc' := 5) (j := 1) (ls' := [some (.ref m), some (.ref r4), none, none, none, none, none, none, none]) (by decide +kernel) (by decide) rfl rfl <| z_aload_n (pc' := 6) (j := 0) (by decide +kernel) rfl rfl <| z_aload_n (pc' := 7) (j := 1) (by decide +kernel) rfl rfl <| z_callV (pc' := 10) (idx := 207) (mj := m_X12_rests) (av := [.ref r4]) (d' := 4) (by decide +kernel) rfl k_X12_rests l_RX12_207 rfl (by omega) (am_le rfl) rfl (am_le rfl) hm.o.1 hm.o.2 rfl h
set_option maxRecDepth 20000 in
theorem b_X12_chain_10 {G : Gx} {Q : Rv → Zm → Prop} {Z : Zm} {r4 : Nat} {r10 : Nat} {m : Nat} {B : Nat}  (hm : atModel Z m B) (hr4 : zA Z r4 100 20) (hr10 : zA Z r10 100 20) (h : ((zSz Z < 1000000) ∧ ∀ Z2, Z2 = zC Z 100 21 21 → ZP G 5 m_X12_chain 30 [some (.ref m), some (.ref r4), some (.ref r10), some (.ref (zSz Z)), some (iv 0), some (iv (-1)), some (iv ((zI Z2 B 0) - 1)), none, none] [] Z2 Q)) : ZP G 5 m_X12_chain 10 [some (.ref m), some (.ref r4), none, none, none, none, none, none, none] [.ref r10] Z Q := z_astore_n (pc' := 11) (j := 2) (ls' := [some (.ref m), some (.ref r4), some (.ref r10), none, none, none, none, none, none]) (by decide +kernel) (by decide) rfl rfl <| z_bipush (pc' := 13) (n := 21) (by decide +kernel) (by decide) rfl <| h.elim fun c1 h => z_new100 (pc' := 15) (by decide +kernel) (amM1 88 rfl (by decide +kernel)) (by decide) (by decide) c1 rfl <| have h := h _ rfl; z_astore_n (pc' := 16) (j := 3) (ls' := [some (.ref m), some (.ref r4), some (.ref r10), some (.ref (zSz Z)), none, none, none, none, none]) (by decide +kernel) (by decide) rfl rfl <| z_iconst (pc' := 17) (n := 0) (by decide +kernel) rfl <| z_istore (pc' := 19) (j := 4) (ls' := [some (.ref m), some (.ref r4), some (.ref r10), some (.ref (zSz Z)), some (iv 0), none, none, none, none]) (by decide +kernel) (by decide) rfl rfl <| z_iconst (pc' := 20) (n := -1) (by decide +kernel) rfl <| z_istore (pc' := 22) (j := 5) (ls' := [some (.ref m), some (.ref r4), some (.ref r10), some (.ref (zSz Z)), some (iv 0), some (iv (-1)), none, none, none]) (by decide +kernel) (by decide) rfl rfl <| z_aload_n (pc' := 23) (j := 0) (by decide +kernel) rfl rfl <| z_callV (pc' := 26) (idx := 64) (mj := m_X12_many) (av := []) (d' := 0) (by decide +kernel) rfl k_X12_many l_RX12_64 rfl (by omega) (am_le rfl) rfl (am_le rfl) (hm.o.ext (zX_C Z 100 21 21)).1 (hm.o.ext (zX_C Z 100 21 21)).2 rfl <| zKf (s_many (hm.ext (zX_C Z 100 21 21))) <| z_iconst (pc' := 27) (n := 1) (by decide +kernel) rfl <| z_isub (pc' := 28) (by decide +kernel) rfl <| z_istore (pc' := 30) (j := 6) (ls' := [some (.ref m), some (.ref r4), some (.ref r10), some (.ref (zSz Z)), some (iv 0), some (iv (-1)), some (iv ((zI (zC Z 100 21 21) B 0) - 1)), none, none]) (by decide +kernel) (by decide) rfl rfl <| h
set_option maxRecDepth 20000 in
theorem b_X12_chain_30 {G : Gx} {Q : Rv → Zm → Prop} {Z : Zm} {r4 : Nat} {r10 : Nat} {a13 : Nat} {m : Nat} {B : Nat} {v4 : Int} {v5 : Int} {v6 : Int} (hm : atModel Z m B) (hr4 : zA Z r4 100 20) (hr10 : zA Z r10 100 20) (ha13 : zA Z a13 100 21) (h : ((R32 v6) ∧ (if v6 < 0 then (ZP G 5 m_X12_chain 62 [some (.ref m), some (.ref r4), some (.ref r10), some (.ref a13), some (iv v4), some (iv v5), none, none, none] [] Z Q) else ((zIx v6 20) ∧ ZM G 4 m_X12_endOf [.ref m, .ref r4] Z (zKc G 5 m_X12_chain 44 [some (.ref m), some (.ref r4), some (.ref r10), some (.ref a13), some (iv v4), some (iv v5), some (iv v6), none, none] [iv (zI Z r10 v6.toNat)] Q))))) : ZP G 5 m_X12_chain 30 [some (.ref m), some (.ref r4), some (.ref r10), some (.ref a13), some (iv v4), some (iv v5), some (iv v6), none, none] [] Z Q := z_iload (pc' := 32) (j := 6) (by decide +kernel) rfl rfl <| h.elim fun c1 h => z_if_lt (pc' := 35) (tgt := 62) (off := 30) (by decide +kernel) (by decide) rfl c1 (am_ite h (fun h => (ZP.wk (wk_some (wk_some (wk_some (wk_some (wk_some (wk_some (wk_none (wk_none (wk_none wk_nil))))))))) h)) (fun h => z_aload_n (pc' := 36) (j := 2) (by decide +kernel) rfl rfl <| z_iload (pc' := 38) (j := 6) (by decide +kernel) rfl rfl <| h.elim fun c2 h => z_iaload (pc' := 39) (by decide +kernel) hr10 c2 rfl <| z_aload_n (pc' := 40) (j := 0) (by decide +kernel) rfl rfl <| z_aload_n (pc' := 41) (j := 1) (by decide +kernel) rfl rfl <| z_callV (pc' := 44) (idx := 119) (mj := m_X12_endOf) (av := [.ref r4]) (d' := 4) (by decide +kernel) rfl k_X12_endOf l_RX12_119 rfl (by omega) (am_le rfl) rfl (am_le rfl) hm.o.1 hm.o.2 rfl h))
set_option maxRecDepth 20000 in
theorem b_X12_chain_62 {G : Gx} {Q : Rv → Zm → Prop} {Z : Zm} {r4 : Nat} {r10 : Nat} {a13 : Nat} {m : Nat} {B : Nat} {v4 : Int} {v5 : Int} (hm : atModel Z m B) (hr4 : zA Z r4 100 20) (hr10 : zA Z r10 100 20) (ha13 : zA Z a13 100 21) (h : ((R32 v5) ∧ (if v5 = (-1) then ((zIx v4 21) ∧ ∀ Z4, Z4 = zSI Z a13 (zu (zI Z a13) v4.toNat (-1)) → Q (.inl (some (.ref a13))) Z4) else ((zIx v4 21) ∧ ∀ Z6, Z6 = zSI Z a13 (zu (zI Z a13) v4.toNat v5) → ZP G 5 m_X12_chain 83 [some (.ref m), some (.ref r4), some (.ref r10), some (.ref a13), some (iv (v4 + 1)), some (iv v5), some (iv (-1)), some (iv 0), none] [] Z6 Q)))) : ZP G 5 m_X12_chain 62 [some (.ref m), some (.ref r4), some (.ref r10), some (.ref a13), some (iv v4), some (iv v5), none, none, none] [] Z Q := z_iload (pc' := 64) (j := 5) (by decide +kernel) rfl rfl <| z_iconst (pc' := 65) (n := -1) (by decide +kernel) rfl <| h.elim fun c1 h => z_icmp_eq (pc' := 68) (tgt := 185) (off := 120) (by decide +kernel) (by decide) rfl c1 (by decide : R32 (-1)) (am_ite h (fun h => z_aload_n (pc' := 186) (j := 3) (by decide +kernel) rfl rfl <| z_iload (pc' := 188) (j := 4) (by decide +kernel) rfl rfl <| z_iconst (pc' := 189) (n := -1) (by decide +kernel) rfl <| h.elim fun c3 h => z_iastore (pc' := 190) (by decide +kernel) ha13 c3 rfl <| have h := h _ rfl; z_aload_n (pc' := 191) (j := 3) (by decide +kernel) rfl rfl <| z_areturn (by decide +kernel) (by first | exact ⟨_, rfl, Or.inl ⟨_, rfl⟩⟩ | exact ⟨_, rfl, Or.inr ⟨_, rfl⟩⟩) h) (fun h => z_aload_n (pc' := 69) (j := 3) (by decide +kernel) rfl rfl <| z_iload (pc' := 71) (j := 4) (by decide +kernel) rfl rfl <| z_iload (pc' := 73) (j := 5) (by decide +kernel) rfl rfl <| h.elim fun c5 h => z_iastore (pc' := 74) (by decide +kernel) ha13 c5 rfl <| have h := h _ rfl; z_iinc (pc' := 77) (j := 4) (n := 1) (x := v4) (ls' := [some (.ref m), some (.ref r4), some (.ref r10), some (.ref a13), some (iv (v4 + 1)), some (iv v5), none, none, none]) (by decide +kernel) rfl (by decide) rfl rfl <| z_iconst (pc' := 78) (n := -1) (by decide +kernel) rfl <| z_istore (pc' := 80) (j := 6) (ls' := [some (.ref m), some (.ref r4), some (.ref r10), some (.ref a13), some (iv (v4 + 1)), some (iv v5), some (iv (-1)), none, none]) (by decide +kernel) (by decide) rfl rfl <| z_iconst (pc' := 81) (n := 0) (by decide +kernel) rfl <| z_istore (pc' := 83) (j := 7) (ls' := [some (.ref m), some (.ref r4), some (.ref r10), some (.ref a13), some (iv (v4 + 1)), some (iv v5), some (iv (-1)), some (iv 0), none]) (by decide +kernel) (by decide) rfl rfl <| h))
set_option maxRecDepth 20000 in
theorem b_X12_chain_44 {G : Gx} {Q : Rv → Zm → Prop} {Z : Zm} {r4 : Nat} {r10 : Nat} {a13 : Nat} {m : Nat} {B : Nat} {v4 : Int} {v5 : Int} {v6 : Int} {s0 : Int} {s1 : Int} (hm : atModel Z m B) (hr4 : zA Z r4 100 20) (hr10 : zA Z r10 100 20) (ha13 : zA Z a13 100 21) (h : ((R32 s1) ∧ (R32 s0) ∧ ZP G 5 m_X12_chain 30 [some (.ref m), some (.ref r4), some (.ref r10), some (.ref a13), some (iv v4), some (iv (if s1 = s0 then v6 else v5)), some (iv (v6 + (-1))), none, none] [] Z Q)) : ZP G 5 m_X12_chain 44 [some (.ref m), some (.ref r4), some (.ref r10), some (.ref a13), some (iv v4), some (iv v5), some (iv v6), none, none] [iv s0, iv s1] Z Q := h.elim fun c1 h => h.elim fun c2 h => am_use (fun k5 => z_icmp_ne (pc' := 47) (tgt := 52) (off := 8) (by decide +kernel) (by decide) rfl c1 c2 (am_ite2 (fun q6 => z_iload (pc' := 49) (j := 6) (by decide +kernel) rfl rfl <| z_goto (tgt := 54) (off := 5) (by decide +kernel) (by decide) <| (am_jp (P := fun z9 => ZP G 5 m_X12_chain 54 [some (.ref m), some (.ref r4), some (.ref r10), some (.ref a13), some (iv v4), some (iv v5), some (iv v6), none, none] [iv z9] _ Q) (if_pos q6) k5)) (fun q6 => z_iload (pc' := 54) (j := 5) (by decide +kernel) rfl rfl <| (am_jp (P := fun z9 => ZP G 5 m_X12_chain 54 [some (.ref m), some (.ref r4), some (.ref r10), some (.ref a13), some (iv v4), some (iv v5), some (iv v6), none, none] [iv z9] _ Q) (if_neg q6) k5)))) <| z_istore (pc' := 56) (j := 5) (ls' := [some (.ref m), some (.ref r4), some (.ref r10), some (.ref a13), some (iv v4), some (iv (if s1 = s0 then v6 else v5)), some (iv v6), none, none]) (by decide +kernel) (by decide) rfl rfl <| z_iinc (pc' := 59) (j := 6) (n := -1) (x := v6) (ls' := [some (.ref m), some (.ref r4), some (.ref r10), some (.ref a13), some (iv v4), some (iv (if s1 = s0 then v6 else v5)), some (iv (v6 + (-1))), none, none]) (by decide +kernel) rfl (by decide) rfl rfl <| z_goto (tgt := 30) (off := -29) (by decide +kernel) (by decide) <| h
set_option maxRecDepth 20000 in
theorem b_X12_chain_83 {G : Gx} {Q : Rv → Zm → Prop} {Z : Zm} {r4 : Nat} {r10 : Nat} {a13 : Nat} {m : Nat} {B : Nat} {v4 : Int} {v5 : Int} {v6 : Int} {v7 : Int} (hm : atModel Z m B) (hr4 : zA Z r4 100 20) (hr10 : zA Z r10 100 20) (ha13 : zA Z a13 100 21) (h : ((R32 v7) ∧ (R32 (zI Z B 1)) ∧ (if (zI Z B 1) ≤ v7 then (ZP G 5 m_X12_chain 62 [some (.ref m), some (.ref r4), some (.ref r10), some (.ref a13), some (iv v4), some (iv v6), none, none, none] [] Z Q) else ((zIx v7 50) ∧ (R32 (mE Z B v7.toNat)) ∧ (R32 v5) ∧ ((mE Z B v7.toNat) = v5 → (zIx v5 20) ∧ (zIx (mQ Z B v7.toNat) 20) ∧ (R32 (((zI Z r4 v5.toNat) + (mK Z B v7.toNat)) + (zI Z r10 (mQ Z B v7.toNat).toNat))) ∧ (R32 (zI Z r10 v5.toNat)) ∧ True) ∧ (((mE Z B v7.toNat) = v5) ∧ ((((zI Z r4 v5.toNat) + (mK Z B v7.toNat)) + (zI Z r10 (mQ Z B v7.toNat).toNat)) = (zI Z r10 v5.toNat)) → (R32 v6) ∧ (¬ (v6 = (-1)) → (R32 (mQ Z B v7.toNat)) ∧ True) ∧ True) ∧ ZP G 5 m_X12_chain 83 [some (.ref m), some (.ref r4), some (.ref r10), some (.ref a13), some (iv v4), some (iv v5), some (iv (if ((mE Z B v7.toNat) = v5) ∧ ((((zI Z r4 v5.toNat) + (mK Z B v7.toNat)) + (zI Z r10 (mQ Z B v7.toNat).toNat)) = (zI Z r10 v5.toNat)) then (if v6 = (-1) then mQ Z B v7.toNat else (if v6 ≤ (mQ Z B v7.toNat) then v6 else mQ Z B v7.toNat)) else v6)), some (iv (v7 + 1)), none] [] Z Q)))) : ZP G 5 m_X12_chain 83 [some (.ref m), some (.ref r4), some (.ref r10), some (.ref a13), some (iv v4), some (iv v5), some (iv v6), some (iv v7), none] [] Z Q := z_iload (pc' := 85) (j := 7) (by decide +kernel) rfl rfl <| z_aload_n (pc' := 86) (j := 0) (by decide +kernel) rfl rfl <| z_callV (pc' := 89) (idx := 94) (mj := m_X12_needsMany) (av := []) (d' := 0) (by decide +kernel) rfl k_X12_needsMany l_RX12_94 rfl (by omega) (am_le rfl) rfl (am_le rfl) hm.o.1 hm.o.2 rfl <| zKf (s_needsMany hm) <| h.elim fun c1 h => h.elim fun c2 h => z_icmp_ge (pc' := 92) (tgt := 178) (off := 89) (by decide +kernel) (by decide) rfl c1 c2 (am_ite h (fun h => z_iload (pc' := 180) (j := 6) (by decide +kernel) rfl rfl <| z_istore (pc' := 182) (j := 5) (ls' := [some (.ref m), some (.ref r4), some (.ref r10), some (.ref a13), some (iv v4), some (iv v6), some (iv v6), some (iv v7), none]) (by decide +kernel) (by decide) rfl rfl <| z_goto (tgt := 62) (off := -120) (by decide +kernel) (by decide) <| (ZP.wk (wk_some (wk_some (wk_some (wk_some (wk_some (wk_some (wk_none (wk_none (wk_none wk_nil))))))))) h)) (fun h => z_aload_n (pc' := 93) (j := 0) (by decide +kernel) rfl rfl <| z_iload (pc' := 95) (j := 7) (by decide +kernel) rfl rfl <| h.elim fun c32 h => z_callV (pc' := 98) (idx := 97) (mj := m_X12_earlier) (av := [iv v7]) (d' := 0) (by decide +kernel) rfl k_X12_earlier l_RX12_97 rfl (by omega) (am_le rfl) rfl (am_le rfl) hm.o.1 hm.o.2 rfl <| zKf (s_earlier hm c32) <| z_iload (pc' := 100) (j := 5) (by decide +kernel) rfl rfl <| h.elim fun c33 h => h.elim fun c34 h => h.elim fun g43 h => am_use (fun k45 => z_icmp_ne (pc' := 103) (tgt := 134) (off := 34) (by decide +kernel) (by decide) rfl c33 c34 (am_ite2 (fun q46 => have h := g43 q46; z_aload_n (pc' := 104) (j := 1) (by decide +kernel) rfl rfl <| z_iload (pc' := 106) (j := 5) (by decide +kernel) rfl rfl <| h.elim fun c35 h => z_iaload (pc' := 107) (by decide +kernel) hr4 c35 rfl <| z_aload_n (pc' := 108) (j := 0) (by decide +kernel) rfl rfl <| z_iload (pc' := 110) (j := 7) (by decide +kernel) rfl rfl <| z_callV (pc' := 113) (idx := 101) (mj := m_X12_lag) (av := [iv v7]) (d' := 0) (by decide +kernel) rfl k_X12_lag l_RX12_101 rfl (by omega) (am_le rfl) rfl (am_le rfl) hm.o.1 hm.o.2 rfl <| zKf (s_lag hm c32) <| z_iadd (pc' := 114) (by decide +kernel) rfl <| z_aload_n (pc' := 115) (j := 2) (by decide +kernel) rfl rfl <| z_aload_n (pc' := 116) (j := 0) (by decide +kernel) rfl rfl <| z_iload (pc' := 118) (j := 7) (by decide +kernel) rfl rfl <| z_callV (pc' := 121) (idx := 104) (mj := m_X12_later) (av := [iv v7]) (d' := 0) (by decide +kernel) rfl k_X12_later l_RX12_104 rfl (by omega) (am_le rfl) rfl (am_le rfl) hm.o.1 hm.o.2 rfl <| zKf (s_later hm c32) <| h.elim fun c36 h => z_iaload (pc' := 122) (by decide +kernel) hr10 c36 rfl <| z_iadd (pc' := 123) (by decide +kernel) rfl <| z_aload_n (pc' := 124) (j := 2) (by decide +kernel) rfl rfl <| z_iload (pc' := 126) (j := 5) (by decide +kernel) rfl rfl <| z_iaload (pc' := 127) (by decide +kernel) hr10 c35 rfl <| h.elim fun c37 h => h.elim fun c38 h => am_use (fun k41 => z_icmp_ne (pc' := 130) (tgt := 134) (off := 7) (by decide +kernel) (by decide) rfl c37 c38 (am_ite2 (fun q42 => z_iconst (pc' := 131) (n := 1) (by decide +kernel) rfl <| z_goto (tgt := 135) (off := 4) (by decide +kernel) (by decide) <| (am_jp (P := fun z9 => ZP G 5 m_X12_chain 135 [some (.ref m), some (.ref r4), some (.ref r10), some (.ref a13), some (iv v4), some (iv v5), some (iv v6), some (iv v7), none] [iv z9] _ Q) (b2_p q42) k41)) (fun q42 => z_iconst (pc' := 135) (n := 0) (by decide +kernel) rfl <| (am_jp (P := fun z9 => ZP G 5 m_X12_chain 135 [some (.ref m), some (.ref r4), some (.ref r10), some (.ref a13), some (iv v4), some (iv v5), some (iv v6), some (iv v7), none] [iv z9] _ Q) (b2_f q42) k41)))) <| (am_jp (P := fun z9 => ZP G 5 m_X12_chain 135 [some (.ref m), some (.ref r4), some (.ref r10), some (.ref a13), some (iv v4), some (iv v5), some (iv v6), some (iv v7), none] [iv z9] _ Q) (b2_c1 q46) k45)) (fun q46 => z_iconst (pc' := 135) (n := 0) (by decide +kernel) rfl <| (am_jp (P := fun z9 => ZP G 5 m_X12_chain 135 [some (.ref m), some (.ref r4), some (.ref r10), some (.ref a13), some (iv v4), some (iv v5), some (iv v6), some (iv v7), none] [iv z9] _ Q) (b2_c2 q46) k45)))) <| z_istore (pc' := 137) (j := 8) (ls' := [some (.ref m), some (.ref r4), some (.ref r10), some (.ref a13), some (iv v4), some (iv v5), some (iv v6), some (iv v7), some (iv (b2 (((mE Z B v7.toNat) = v5) ∧ ((((zI Z r4 v5.toNat) + (mK Z B v7.toNat)) + (zI Z r10 (mQ Z B v7.toNat).toNat)) = (zI Z r10 v5.toNat)))))]) (by decide +kernel) (by decide) rfl rfl <| z_iload (pc' := 139) (j := 8) (by decide +kernel) rfl rfl <| h.elim fun g57 h => am_use (fun k59 => z_ifB_eq (pc' := 142) (tgt := 168) (off := 29) (by decide +kernel) (by decide) rfl (am_ite2 (fun q60 => have h := g57 q60; z_iload (pc' := 144) (j := 6) (by decide +kernel) rfl rfl <| z_iconst (pc' := 145) (n := -1) (by decide +kernel) rfl <| h.elim fun c47 h => h.elim fun g54 h => am_use (fun k55 => z_icmp_eq (pc' := 148) (tgt := 159) (off := 14) (by decide +kernel) (by decide) rfl c47 (by decide : R32 (-1)) (am_ite2 (fun q56 => z_aload_n (pc' := 160) (j := 0) (by decide +kernel) rfl rfl <| z_iload (pc' := 162) (j := 7) (by decide +kernel) rfl rfl <| z_callV (pc' := 165) (idx := 104) (mj := m_X12_later) (av := [iv v7]) (d' := 0) (by decide +kernel) rfl k_X12_later l_RX12_104 rfl (by omega) (am_le rfl) rfl (am_le rfl) hm.o.1 hm.o.2 rfl <| zKf (s_later hm c32) <| z_goto (tgt := 170) (off := 5) (by decide +kernel) (by decide) <| (am_jp (P := fun z9 => ZP G 5 m_X12_chain 170 [some (.ref m), some (.ref r4), some (.ref r10), some (.ref a13), some (iv v4), some (iv v5), some (iv v6), some (iv v7), some (iv (b2 (((mE Z B v7.toNat) = v5) ∧ ((((zI Z r4 v5.toNat) + (mK Z B v7.toNat)) + (zI Z r10 (mQ Z B v7.toNat).toNat)) = (zI Z r10 v5.toNat)))))] [iv z9] _ Q) (if_pos q56) k55)) (fun q56 => have h := g54 q56; z_aload_n (pc' := 149) (j := 0) (by decide +kernel) rfl rfl <| z_iload (pc' := 151) (j := 7) (by decide +kernel) rfl rfl <| z_callV (pc' := 154) (idx := 104) (mj := m_X12_later) (av := [iv v7]) (d' := 0) (by decide +kernel) rfl k_X12_later l_RX12_104 rfl (by omega) (am_le rfl) rfl (am_le rfl) hm.o.1 hm.o.2 rfl <| zKf (s_later hm c32) <| z_iload (pc' := 156) (j := 6) (by decide +kernel) rfl rfl <| h.elim fun c48 h => am_use (fun k51 => z_icmp_ge (pc' := 159) (tgt := 168) (off := 12) (by decide +kernel) (by decide) rfl c48 c47 (am_ite2 (fun q52 => z_iload (pc' := 170) (j := 6) (by decide +kernel) rfl rfl <| (am_jp (P := fun z9 => ZP G 5 m_X12_chain 170 [some (.ref m), some (.ref r4), some (.ref r10), some (.ref a13), some (iv v4), some (iv v5), some (iv v6), some (iv v7), some (iv (b2 (((mE Z B v7.toNat) = v5) ∧ ((((zI Z r4 v5.toNat) + (mK Z B v7.toNat)) + (zI Z r10 (mQ Z B v7.toNat).toNat)) = (zI Z r10 v5.toNat)))))] [iv z9] _ Q) (if_pos q52) k51)) (fun q52 => z_aload_n (pc' := 160) (j := 0) (by decide +kernel) rfl rfl <| z_iload (pc' := 162) (j := 7) (by decide +kernel) rfl rfl <| z_callV (pc' := 165) (idx := 104) (mj := m_X12_later) (av := [iv v7]) (d' := 0) (by decide +kernel) rfl k_X12_later l_RX12_104 rfl (by omega) (am_le rfl) rfl (am_le rfl) hm.o.1 hm.o.2 rfl <| zKf (s_later hm c32) <| z_goto (tgt := 170) (off := 5) (by decide +kernel) (by decide) <| (am_jp (P := fun z9 => ZP G 5 m_X12_chain 170 [some (.ref m), some (.ref r4), some (.ref r10), some (.ref a13), some (iv v4), some (iv v5), some (iv v6), some (iv v7), some (iv (b2 (((mE Z B v7.toNat) = v5) ∧ ((((zI Z r4 v5.toNat) + (mK Z B v7.toNat)) + (zI Z r10 (mQ Z B v7.toNat).toNat)) = (zI Z r10 v5.toNat)))))] [iv z9] _ Q) (if_neg q52) k51)))) <| (am_jp (P := fun z9 => ZP G 5 m_X12_chain 170 [some (.ref m), some (.ref r4), some (.ref r10), some (.ref a13), some (iv v4), some (iv v5), some (iv v6), some (iv v7), some (iv (b2 (((mE Z B v7.toNat) = v5) ∧ ((((zI Z r4 v5.toNat) + (mK Z B v7.toNat)) + (zI Z r10 (mQ Z B v7.toNat).toNat)) = (zI Z r10 v5.toNat)))))] [iv z9] _ Q) (if_neg q56) k55)))) <| (am_jp (P := fun z9 => ZP G 5 m_X12_chain 170 [some (.ref m), some (.ref r4), some (.ref r10), some (.ref a13), some (iv v4), some (iv v5), some (iv v6), some (iv v7), some (iv (b2 (((mE Z B v7.toNat) = v5) ∧ ((((zI Z r4 v5.toNat) + (mK Z B v7.toNat)) + (zI Z r10 (mQ Z B v7.toNat).toNat)) = (zI Z r10 v5.toNat)))))] [iv z9] _ Q) (if_pos q60) k59)) (fun q60 => z_iload (pc' := 170) (j := 6) (by decide +kernel) rfl rfl <| (am_jp (P := fun z9 => ZP G 5 m_X12_chain 170 [some (.ref m), some (.ref r4), some (.ref r10), some (.ref a13), some (iv v4), some (iv v5), some (iv v6), some (iv v7), some (iv (b2 (((mE Z B v7.toNat) = v5) ∧ ((((zI Z r4 v5.toNat) + (mK Z B v7.toNat)) + (zI Z r10 (mQ Z B v7.toNat).toNat)) = (zI Z r10 v5.toNat)))))] [iv z9] _ Q) (if_neg q60) k59)))) <| z_istore (pc' := 172) (j := 6) (ls' := [some (.ref m), some (.ref r4), some (.ref r10), some (.ref a13), some (iv v4), some (iv v5), some (iv (if ((mE Z B v7.toNat) = v5) ∧ ((((zI Z r4 v5.toNat) + (mK Z B v7.toNat)) + (zI Z r10 (mQ Z B v7.toNat).toNat)) = (zI Z r10 v5.toNat)) then (if v6 = (-1) then mQ Z B v7.toNat else (if v6 ≤ (mQ Z B v7.toNat) then v6 else mQ Z B v7.toNat)) else v6)), some (iv v7), some (iv (b2 (((mE Z B v7.toNat) = v5) ∧ ((((zI Z r4 v5.toNat) + (mK Z B v7.toNat)) + (zI Z r10 (mQ Z B v7.toNat).toNat)) = (zI Z r10 v5.toNat)))))]) (by decide +kernel) (by decide) rfl rfl <| z_iinc (pc' := 175) (j := 7) (n := 1) (x := v7) (ls' := [some (.ref m), some (.ref r4), some (.ref r10), some (.ref a13), some (iv v4), some (iv v5), some (iv (if ((mE Z B v7.toNat) = v5) ∧ ((((zI Z r4 v5.toNat) + (mK Z B v7.toNat)) + (zI Z r10 (mQ Z B v7.toNat).toNat)) = (zI Z r10 v5.toNat)) then (if v6 = (-1) then mQ Z B v7.toNat else (if v6 ≤ (mQ Z B v7.toNat) then v6 else mQ Z B v7.toNat)) else v6)), some (iv (v7 + 1)), some (iv (b2 (((mE Z B v7.toNat) = v5) ∧ ((((zI Z r4 v5.toNat) + (mK Z B v7.toNat)) + (zI Z r10 (mQ Z B v7.toNat).toNat)) = (zI Z r10 v5.toNat)))))]) (by decide +kernel) rfl (by decide) rfl rfl <| z_goto (tgt := 83) (off := -92) (by decide +kernel) (by decide) <| (ZP.wk (wk_some (wk_some (wk_some (wk_some (wk_some (wk_some (wk_some (wk_some (wk_none wk_nil))))))))) h)))
set_option maxRecDepth 20000 in
theorem e_X12_chainLength {G : Gx} {Q : Rv → Zm → Prop} {Z : Zm} {m : Nat} {B : Nat} (hm : atModel Z m B) (h : (∀ Z1, Z1 = zSI Z m (zu (zI Z m) 19 0) → ZM G 11 m_X12_chain [.ref m] Z1 (zKc G 12 m_X12_chainLength 9 [none] [] Q))) : ZM G 12 m_X12_chainLength [.ref m] Z Q := ZM.of [some (.ref m)] rfl <| z_aload_n (pc' := 1) (j := 0) (by decide +kernel) rfl rfl <| z_iconst (pc' := 2) (n := 0) (by decide +kernel) rfl <| z_putI (pc' := 5) (idx := 60) (ci := 12) (f := 19) (by decide +kernel) f_RX12_60 (am_nf rfl rfl) rfl rfl rfl hm.o.1 hm.o.2 rfl <| have h := h _ rfl; z_aload_n (pc' := 6) (j := 0) (by decide +kernel) rfl rfl <| z_callV (pc' := 9) (idx := 214) (mj := m_X12_chain) (av := []) (d' := 11) (by decide +kernel) rfl k_X12_chain l_RX12_214 rfl (by omega) (am_le rfl) rfl (am_le rfl) hm.o.1 hm.o.2 rfl (ZM.mono h (zKc_wk (wk_none wk_nil)))
set_option maxRecDepth 20000 in
theorem b_X12_chainLength_9 {G : Gx} {Q : Rv → Zm → Prop} {Z : Zm} {r9 : Nat} {m : Nat} {B : Nat}  (hm : atModel Z m B) (hr9 : zA Z r9 100 21) (h : (ZM G 11 m_X12_sizeOf [.ref r9] Z (zKc G 12 m_X12_chainLength 12 [none] [] Q))) : ZP G 12 m_X12_chainLength 9 [none] [.ref r9] Z Q := z_callS (pc' := 12) (idx := 217) (mj := m_X12_sizeOf) (av := [.ref r9]) (d' := 11) (by decide +kernel) rfl k_X12_sizeOf l_RX12_217 rfl (by omega) (am_le rfl) rfl (am_le rfl) rfl h
set_option maxRecDepth 20000 in
theorem b_X12_chainLength_12 {G : Gx} {Q : Rv → Zm → Prop} {Z : Zm} {m : Nat} {B : Nat} {s0 : Int} (hm : atModel Z m B) (h : (Q (.inl (some (iv s0))) Z)) : ZP G 12 m_X12_chainLength 12 [none] [iv s0] Z Q := z_ireturn (by decide +kernel) ⟨_, rfl, rfl⟩ h
set_option maxRecDepth 20000 in
theorem e_X12_chainAt {G : Gx} {Q : Rv → Zm → Prop} {Z : Zm} {m : Nat} {B : Nat} {x : Int} (hm : atModel Z m B) (h : (ZM G 11 m_X12_chain [.ref m] Z (zKc G 12 m_X12_chainAt 4 [some (.ref m), some (iv x), none] [] Q))) : ZM G 12 m_X12_chainAt [.ref m, iv x] Z Q := ZM.of [some (.ref m), some (iv x), none] rfl <| z_aload_n (pc' := 1) (j := 0) (by decide +kernel) rfl rfl <| z_callV (pc' := 4) (idx := 214) (mj := m_X12_chain) (av := []) (d' := 11) (by decide +kernel) rfl k_X12_chain l_RX12_214 rfl (by omega) (am_le rfl) rfl (am_le rfl) hm.o.1 hm.o.2 rfl h
set_option maxRecDepth 20000 in
theorem b_X12_chainAt_4 {G : Gx} {Q : Rv → Zm → Prop} {Z : Zm} {r4 : Nat} {m : Nat} {B : Nat} {x : Int}  (hm : atModel Z m B) (hr4 : zA Z r4 100 21) (h : (ZM G 11 m_X12_sizeOf [.ref r4] Z (zKc G 12 m_X12_chainAt 12 [none, some (iv x), some (.ref r4)] [iv 0, iv x, .ref m] Q))) : ZP G 12 m_X12_chainAt 4 [some (.ref m), some (iv x), none] [.ref r4] Z Q := z_astore_n (pc' := 5) (j := 2) (ls' := [some (.ref m), some (iv x), some (.ref r4)]) (by decide +kernel) (by decide) rfl rfl <| z_aload_n (pc' := 6) (j := 0) (by decide +kernel) rfl rfl <| z_iload_n (pc' := 7) (j := 1) (by decide +kernel) rfl rfl <| z_iconst (pc' := 8) (n := 0) (by decide +kernel) rfl <| z_aload_n (pc' := 9) (j := 2) (by decide +kernel) rfl rfl <| z_callS (pc' := 12) (idx := 217) (mj := m_X12_sizeOf) (av := [.ref r4]) (d' := 11) (by decide +kernel) rfl k_X12_sizeOf l_RX12_217 rfl (by omega) (am_le rfl) rfl (am_le rfl) rfl (ZM.mono h (zKc_wk (wk_none (wk_some (wk_some wk_nil)))))
set_option maxRecDepth 20000 in
theorem b_X12_chainAt_12 {G : Gx} {Q : Rv → Zm → Prop} {Z : Zm} {r4 : Nat} {m : Nat} {B : Nat} {x : Int} {s0 : Int} {s1 : Int} {s2 : Int} (hm : atModel Z m B) (hr4 : zA Z r4 100 21) (h : ((R32 s2) ∧ (R32 s1) ∧ (R32 (s0 - 1)) ∧ ∀ Z8, Z8 = zSI Z m (zu (zI Z m) 19 (fC (b2 (¬ (s1 ≤ s2 ∧ s2 ≤ (s0 - 1)))) 0 0)) → (¬ (0 < fC (b2 (¬ (s1 ≤ s2 ∧ s2 ≤ (s0 - 1)))) 0 0) → (zIx x 21) ∧ True) ∧ Q (.inl (some (iv (if 0 < fC (b2 (¬ (s1 ≤ s2 ∧ s2 ≤ (s0 - 1)))) 0 0 then 0 else zI Z8 r4 x.toNat)))) Z8)) : ZP G 12 m_X12_chainAt 12 [none, some (iv x), some (.ref r4)] [iv s0, iv s1, iv s2, .ref m] Z Q := z_iconst (pc' := 13) (n := 1) (by decide +kernel) rfl <| z_isub (pc' := 14) (by decide +kernel) rfl <| h.elim fun c1 h => h.elim fun c2 h => h.elim fun c3 h => z_callS (pc' := 17) (idx := 68) (mj := m_X12_in) (av := [iv s2, iv s1, iv (s0 - 1)]) (d' := 0) (by decide +kernel) rfl k_X12_in l_RX12_68 rfl (by omega) (am_le rfl) rfl (am_le rfl) rfl <| zKf (s_in c1 c2 c3) <| am_use (fun k6 => z_ifB_ne (pc' := 20) (tgt := 24) (off := 7) (by decide +kernel) (by decide) rfl (am_ite2 (fun q7 => z_iconst (pc' := 25) (n := 0) (by decide +kernel) rfl <| (am_jp (P := fun z9 => ZP G 12 m_X12_chainAt 25 [none, some (iv x), some (.ref r4)] [iv z9, .ref m] _ Q) (b2_n q7) k6)) (fun q7 => z_iconst (pc' := 21) (n := 1) (by decide +kernel) rfl <| z_goto (tgt := 25) (off := 4) (by decide +kernel) (by decide) <| (am_jp (P := fun z9 => ZP G 12 m_X12_chainAt 25 [none, some (iv x), some (.ref r4)] [iv z9, .ref m] _ Q) (b2_nn q7) k6)))) <| z_iconst (pc' := 26) (n := 0) (by decide +kernel) rfl <| z_iconst (pc' := 27) (n := 0) (by decide +kernel) rfl <| z_callV (pc' := 30) (idx := 133) (mj := m_X12_fails) (av := [iv (b2 (¬ (s1 ≤ s2 ∧ s2 ≤ (s0 - 1)))), iv 0, iv 0]) (d' := 0) (by decide +kernel) rfl k_X12_fails l_RX12_133 rfl (by omega) (am_le rfl) rfl (am_le rfl) hm.o.1 hm.o.2 rfl <| zKf (s_fails hm (b2_01 _) (Or.inl rfl) (Or.inl rfl)) <| have h := h _ rfl; h.elim fun g11 h => am_use (fun k12 => z_ifB_eq (pc' := 33) (tgt := 37) (off := 7) (by decide +kernel) (by decide) rfl (am_ite2 (fun q13 => z_iconst (pc' := 34) (n := 0) (by decide +kernel) rfl <| z_goto (tgt := 40) (off := 6) (by decide +kernel) (by decide) <| (am_jp (P := fun z9 => ZP G 12 m_X12_chainAt 40 [none, some (iv x), some (.ref r4)] [iv z9] _ Q) (if_pos q13) k12)) (fun q13 => have h := g11 q13; z_aload_n (pc' := 38) (j := 2) (by decide +kernel) rfl rfl <| z_iload_n (pc' := 39) (j := 1) (by decide +kernel) rfl rfl <| h.elim fun c9 h => z_iaload (pc' := 40) (by decide +kernel) hr4 c9 rfl <| (am_jp (P := fun z9 => ZP G 12 m_X12_chainAt 40 [none, some (iv x), some (.ref r4)] [iv z9] _ Q) (if_neg q13) k12)))) <| z_ireturn (by decide +kernel) ⟨_, rfl, rfl⟩ h
set_option maxRecDepth 20000 in
theorem e_X12_sizeOf {G : Gx} {Q : Rv → Zm → Prop} {Z : Zm} {u : Nat} (hu : zA Z u 100 21) (h : (ZP G 0 m_X12_sizeOf 2 [some (.ref u), some (iv 0)] [] Z Q)) : ZM G 0 m_X12_sizeOf [.ref u] Z Q := ZM.of [some (.ref u), none] rfl <| z_iconst (pc' := 1) (n := 0) (by decide +kernel) rfl <| z_istore_n (pc' := 2) (j := 1) (ls' := [some (.ref u), some (iv 0)]) (by decide +kernel) (by decide) rfl rfl <| h
set_option maxRecDepth 20000 in
theorem b_X12_sizeOf_2 {G : Gx} {Q : Rv → Zm → Prop} {Z : Zm} {u : Nat} {v1 : Int} (hu : zA Z u 100 21) (h : ((zIx v1 21) ∧ (R32 (zI Z u v1.toNat)) ∧ (if (zI Z u v1.toNat) = (-1) then (Q (.inl (some (iv v1))) Z) else (ZP G 0 m_X12_sizeOf 2 [some (.ref u), some (iv (v1 + 1))] [] Z Q)))) : ZP G 0 m_X12_sizeOf 2 [some (.ref u), some (iv v1)] [] Z Q := z_aload_n (pc' := 3) (j := 0) (by decide +kernel) rfl rfl <| z_iload_n (pc' := 4) (j := 1) (by decide +kernel) rfl rfl <| h.elim fun c1 h => z_iaload (pc' := 5) (by decide +kernel) hu c1 rfl <| z_iconst (pc' := 6) (n := -1) (by decide +kernel) rfl <| h.elim fun c2 h => z_icmp_eq (pc' := 9) (tgt := 15) (off := 9) (by decide +kernel) (by decide) rfl c2 (by decide : R32 (-1)) (am_ite h (fun h => z_iload_n (pc' := 16) (j := 1) (by decide +kernel) rfl rfl <| z_ireturn (by decide +kernel) ⟨_, rfl, rfl⟩ h) (fun h => z_iinc (pc' := 12) (j := 1) (n := 1) (x := v1) (ls' := [some (.ref u), some (iv (v1 + 1))]) (by decide +kernel) rfl (by decide) rfl rfl <| z_goto (tgt := 2) (off := -10) (by decide +kernel) (by decide) <| h))
/-! ===== an order, the number of chains ===== -/
theorem atModel.l {Z : Zm} {m B a : Nat} {f : Nat → Int} (h : atModel Z m B) : atModel (zSL Z a f) m B := h
theorem zA.l {Z : Zm} {a k n b : Nat} {f : Nat → Int} (h : zA Z a k n) : zA (zSL Z b f) a k n := h
theorem kPos {k : Bk} (ho : kOk k) : ∃ pos : Nat → Nat, (∀ t, t < kN k → pos t < kN k) ∧ ∀ j, j < kM k → pos (kE k j) < pos (kL k j) := by
  obtain ⟨r, hr⟩ := ho.2.2.2.2
  have b : ∀ x : Int, 0 ≤ cBelow (fun s => (r s : Int)) x (kN k) ∧ cBelow (fun s => (r s : Int)) x (kN k) ≤ kN k := fun x => cBelow_r _ _ _
  refine ⟨fun t => (cBelow (fun s => (r s : Int)) (r t) (kN k)).toNat, fun t ht => ?_, fun j hj => ?_⟩
  · have h1 := cBelow_lt (f := fun s => (r s : Int)) (x := (r t : Int)) (y := (r t : Int) + 1) ht (by omega) (by show ¬ (r t : Int) < r t; omega) (by show (r t : Int) < r t + 1; omega)
    have h2 := b ((r t : Int) + 1)
    have h3 := b (r t)
    show (cBelow (fun s => (r s : Int)) (r t) (kN k)).toNat < kN k
    omega
  · have h0 := hr j hj
    have h1 := cBelow_lt (f := fun s => (r s : Int)) (x := (r (kE k j) : Int)) (y := (r (kL k j) : Int)) (ho.e hj) (by omega) (by show ¬ (r (kE k j) : Int) < r (kE k j); omega) (by show (r (kE k j) : Int) < r (kL k j); omega)
    have h2 := b (r (kE k j))
    show (cBelow (fun s => (r s : Int)) (r (kE k j)) (kN k)).toNat < (cBelow (fun s => (r s : Int)) (r (kL k j)) (kN k)).toNat
    omega
noncomputable def ccN (k : Bk) : Nat → Nat → Int
  | 0, _ => 0
  | n + 1, t => (if eR k t = kF k 0 t then 1 else 0) + zsum (fun j => @ite Int (kE k j = t ∧ tgt k j) (Classical.propDecidable _) (ccN k n (kL k j)) 0) (kM k)
theorem isCC_ex {k : Bk} (ho : kOk k) : ∃ c, isCC k c := by
  obtain ⟨pos, p1, p2⟩ := kPos ho
  have st : ∀ (n t : Nat), t < kN k → kN k - pos t ≤ n → ccN k (n + 1) t = ccN k n t := by
    intro n
    induction n with
    | zero =>
      intro t ht h
      have := p1 t ht
      omega
    | succ n ih =>
      intro t ht h
      show _ + _ = _ + _
      congr 1
      refine zsum_eq fun j hj => ?_
      by_cases g : kE k j = t ∧ tgt k j
      · have h1 := p2 j hj
        rw [g.1] at h1
        have h2 := p1 _ (ho.l hj)
        simp only [if_pos g]
        exact ih _ (ho.l hj) (by omega)
      · simp only [if_neg g]
  refine ⟨ccN k (kN k), fun t ht => ?_⟩
  rw [← st (kN k) t ht (by omega)]
  rfl
/-- what is known so far is right -/
def ccI (k : Bk) (c f w : Nat → Int) : Prop := (∀ t, t < kN k → f t = 0 ∨ f t = 1) ∧ ∀ t, t < kN k → f t = 1 → w t = c t
noncomputable def ccS (k : Bk) (c : Nat → Int) (v j : Nat) : Int := zsum (fun i => @ite Int (kE k i = v ∧ tgt k i) (Classical.propDecidable _) (c (kL k i)) 0) j
def ccJ (k : Bk) (c f : Nat → Int) (v j : Nat) (s al : Int) : Prop := (al = 1 ∧ f v = 0 ∧ (∀ i, i < j → kE k i = v → f (kL k i) = 1) ∧ s = ccS k c v j) ∨ (al = 0 ∧ (f v = 1 ∨ ∃ i, i < kM k ∧ kE k i = v ∧ f (kL k i) = 0))
def ccP (k : Bk) (f0 f : Nat → Int) (v : Nat) : Prop := (∀ t, t < kN k → f0 t = 1 → f t = 1) ∧ ∀ t, t < v → t < kN k → (∀ j, j < kM k → kE k j = t → f0 (kL k j) = 1) → f t = 1
theorem ccS_s (k : Bk) (c : Nat → Int) (v j : Nat) : ccS k c v (j + 1) = ccS k c v j + @ite Int (kE k j = v ∧ tgt k j) (Classical.propDecidable _) (c (kL k j)) 0 := rfl
theorem ccI.set {k : Bk} {c f w : Nat → Int} {v : Nat} {x : Int} (h : ccI k c f w) (hx : x = c v) : ccI k c (zu f v 1) (zu w v x) := by
  refine ⟨fun t ht => ?_, fun t ht g => ?_⟩
  · by_cases e : t = v
    · rw [e, zu_same]
      exact Or.inr rfl
    · rw [zu_other e]
      exact h.1 t ht
  · by_cases e : t = v
    · rw [e, zu_same, hx]
    · rw [zu_other e] at g ⊢
      exact h.2 t ht g
theorem ccP.set {k : Bk} {f0 f : Nat → Int} {v : Nat} (h : ccP k f0 f v) : ccP k f0 (zu f v 1) (v + 1) := by
  refine ⟨fun t ht g => ?_, fun t ht ht2 g => ?_⟩
  · by_cases e : t = v
    · rw [e, zu_same]
    · rw [zu_other e]
      exact h.1 t ht g
  · by_cases e : t = v
    · rw [e, zu_same]
    · rw [zu_other e]
      exact h.2 t (by omega) ht2 g
theorem ccP.no {k : Bk} (ho : kOk k) {c f0 f : Nat → Int} {v : Nat} {s : Int} {j : Nat} (h : ccP k f0 f v) (hj : ccJ k c f v j s 0) : ccP k f0 f (v + 1) := by
  refine ⟨h.1, fun t ht ht2 g => ?_⟩
  by_cases e : t = v
  · rcases hj with ⟨a, -⟩ | ⟨-, a | ⟨i, i1, i2, i3⟩⟩
    · omega
    · rw [e]
      exact a
    · have h1 := h.1 _ (ho.l i1) (g i i1 (i2.trans e.symm))
      omega
  · exact h.2 t (by omega) ht2 g
theorem ccP.more {k : Bk} (ho : kOk k) {f0 f : Nat → Int} (h : ccP k f0 f (kN k)) (h0 : ∀ t, t < kN k → f0 t = 0 ∨ f0 t = 1) (h1 : ∀ t, t < kN k → f t = 0 ∨ f t = 1) {t : Nat} (ht : t < kN k) (hu : f0 t = 0) : zsum f0 (kN k) + 1 ≤ zsum f (kN k) := by
  obtain ⟨pos, p1, p2⟩ := kPos ho
  have ex : ∀ (b t : Nat), kN k - pos t ≤ b → t < kN k → f0 t = 0 → ∃ s, s < kN k ∧ f0 s = 0 ∧ ∀ j, j < kM k → kE k j = s → f0 (kL k j) = 1 := by
    intro b
    induction b with
    | zero =>
      intro t hb ht hu
      have := p1 t ht
      omega
    | succ b ih =>
      intro t hb ht hu
      by_cases c : ∃ j, j < kM k ∧ kE k j = t ∧ f0 (kL k j) = 0
      · obtain ⟨j, j1, j2, j3⟩ := c
        have g1 := p2 j j1
        rw [j2] at g1
        have g2 := p1 t ht
        exact ih (kL k j) (by omega) (ho.l j1) j3
      · refine ⟨t, ht, hu, fun j hj e => ?_⟩
        exact (h0 _ (ho.l hj)).resolve_left fun g => c ⟨j, hj, e, g⟩
  obtain ⟨s, s1, s2, s3⟩ := ex (kN k) t (by omega) ht hu
  refine zsum_lt (fun i hi => ?_) s1 ?_
  · rcases h0 i hi with a | a
    · rcases h1 i hi with b | b <;> omega
    · have := h.1 i hi a
      omega
  · have := h.2 s s1 s1 s3
    omega
theorem zSL_zSI (Z : Zm) (a b : Nat) (f g : Nat → Int) : zSL (zSI Z a f) b g = zSI (zSL Z b g) a f := rfl
theorem eR_pos {k : Bk} (ho : kOk k) {t : Nat} (ht : t < kN k) : kF k 0 t ≤ eR k t ∧ eR k t ≤ 1770 ∧ 1 ≤ kF k 0 t ∧ kF k 0 t ≤ 60 := by
  have h1 := (eOk_all ho).el ho ht
  have h2 := (eOk_all ho).en ho
  have h3 := (eOk_all ho).e ho ht
  have h4 := ho.len ht
  unfold eR
  omega
theorem s_rowsFrom {G : Gx} {Z : Zm} {m B u v t : Nat} {k : Bk} {c : Nat → Int} (hm : atModel Z m B) (hk : cM Z B k) (ho : kOk k) (hu : zA Z u 100 20) (hv : zA Z v 100 20) (hu2 : ∀ t, t < kN k → zI Z u t = kF k 0 t) (hv2 : ∀ t, t < kN k → zI Z v t = eR k t) (hc : isCC k c) (ht : t < kN k) (hz : zSz Z < 999000) : ZM G 1 m_X12_rowsFrom [.ref m, iv (t : Int), .ref u, .ref v] Z (fun r W => r = .inl (some (jv (c t))) ∧ zF zNo 2 40 Z W) := by
  have hN := ho.n
  have hM := ho.m
  have hB := hm.a0.1
  refine e_X12_rowsFrom hm hu hv ⟨by omega, ?_⟩
  rintro _ rfl
  refine ⟨show zSz Z + 1 < 1000000 by omega, ?_⟩
  rintro _ rfl
  rw [show zSz (zC Z 110 20 20) = zSz Z + 1 from rfl]
  have fC : zF zNo 2 40 Z (zC (zC Z 110 20 20) 102 20 20) := (zF_C (S := zNo)).trans (zF_C (S := zNo))
  have aL : zA (zC (zC Z 110 20 20) 102 20 20) (zSz Z) 110 20 := (zA_C Z 110 20 20).ext (zX_C (zC Z 110 20 20) 102 20 20)
  have aI : zA (zC (zC Z 110 20 20) 102 20 20) (zSz Z + 1) 102 20 := zA_C (zC Z 110 20 20) 102 20 20
  have iI : zI (zC (zC Z 110 20 20) 102 20 20) (zSz Z + 1) = fun _ => 0 := zI_C (zC Z 110 20 20) 102 20 20
  generalize zC (zC Z 110 20 20) 102 20 20 = Y at fC aL aI iI ⊢
  generalize ha : zSz Z = a at aL aI iI ⊢
  have uY : ∀ t, t < kN k → zI Y u t = kF k 0 t := fun t ht => by rw [fC.i hu.1 fun g => g]; exact hu2 t ht
  have vY : ∀ t, t < kN k → zI Y v t = eR k t := fun t ht => by rw [fC.i hv.1 fun g => g]; exact hv2 t ht
  have kY : cM Y B k := hk.frame hB fC fun g => g
  have hmY := hm.ext fC.1
  have huY := hu.ext fC.1
  have hvY := hv.ext fC.1
  have hu1 := hu.1
  have hv1 := hv.1
  -- the world by what is known
  have mW : ∀ f w, atModel (zSI (zSL Y a w) (a + 1) f) m B := fun f w => hmY.l.s
  have uW : ∀ f w, zA (zSI (zSL Y a w) (a + 1) f) u 100 20 := fun f w => huY.l.s
  have vW : ∀ f w, zA (zSI (zSL Y a w) (a + 1) f) v 100 20 := fun f w => hvY.l.s
  have lW : ∀ f w, zA (zSI (zSL Y a w) (a + 1) f) a 110 20 := fun f w => aL.l.s
  have iW : ∀ f w, zA (zSI (zSL Y a w) (a + 1) f) (a + 1) 102 20 := fun f w => aI.l.s
  have eB : ∀ f w, zI (zSI (zSL Y a w) (a + 1) f) B = zI Y B := fun f w => zI_other (by omega)
  have eu : ∀ f w, zI (zSI (zSL Y a w) (a + 1) f) u = zI Y u := fun f w => zI_other (by omega)
  have ev : ∀ f w, zI (zSI (zSL Y a w) (a + 1) f) v = zI Y v := fun f w => zI_other (by omega)
  have ef : ∀ f w, zI (zSI (zSL Y a w) (a + 1) f) (a + 1) = f := fun f w => zI_same _ _ _
  have ew : ∀ f w, zL (zSI (zSL Y a w) (a + 1) f) a = w := fun f w => zL_same Y a w
  have kW : ∀ f w, cM (zSI (zSL Y a w) (a + 1) f) B k := fun f w => kY.of (fun i _ => by rw [eB]) ⟨hN, hM⟩
  have fW : ∀ f w, zF zNo 2 40 Z (zSI (zSL Y a w) (a + 1) f) := fun f w => by
    refine ⟨fC.1, fC.2.1, fun b hb hs => ?_⟩
    obtain ⟨g1, g2, g3⟩ := fC.2.2 b hb hs
    exact ⟨(zI_other (by omega)).trans g1, (if_neg (show ¬ b = a by omega)).trans g2, g3⟩
  have up : ∀ (f w : Nat → Int) (x : Nat) (y : Int), zSI (zSL (zSI (zSL Y a w) (a + 1) f) a (zu (zL (zSI (zSL Y a w) (a + 1) f) a) x y)) (a + 1) (zu (zI (zSL (zSI (zSL Y a w) (a + 1) f) a (zu (zL (zSI (zSL Y a w) (a + 1) f) a) x y)) (a + 1)) x 1) = zSI (zSL Y a (zu w x y)) (a + 1) (zu f x 1) := fun f w x y => by
    have e1 : zI (zSL (zSI (zSL Y a w) (a + 1) f) a (zu (zL (zSI (zSL Y a w) (a + 1) f) a) x y)) (a + 1) = f := ef f w
    rw [e1, ew, zSL_zSI, zSL_zSL, zSI_zSI]
  suffices outer : ∀ (b : Nat) (f w : Nat → Int), ccI k c f w → (kN k : Int) - zsum f (kN k) ≤ b → ZP G 1 m_X12_rowsFrom 12 [some (.ref m), some (iv (t : Int)), some (.ref u), some (.ref v), some (.ref a), some (.ref (a + 1)), none, none, none, none, none] [] (zSI (zSL Y a w) (a + 1) f) (fun r W => r = .inl (some (jv (c t))) ∧ zF zNo 2 40 Z W) by
    have h9 := outer (kN k) (fun _ => 0) (zL Y a) ⟨fun _ _ => Or.inl rfl, fun t ht g => by have : (0 : Int) = 1 := g; omega⟩ (by rw [zsum_0]; omega)
    have e9 : zSI (zSL Y a (zL Y a)) (a + 1) (fun _ => 0) = Y := by rw [zSL_id, ← iI, zSI_id]
    rw [e9] at h9
    exact h9
  intro b
  induction b with
  | zero =>
    intro f w hI hb
    refine b_X12_rowsFrom_12 (mW f w) (uW f w) (vW f w) (lW f w) (iW f w) ?_
    rw [ef, ew, Int.toNat_natCast]
    have f1 : f t = 1 := by
      refine (hI.1 t ht).resolve_left fun g => ?_
      have h1 : zsum f (kN k) + 1 ≤ zsum (fun _ => 1) (kN k) := zsum_lt (fun i hi => by rcases hI.1 i hi with q | q <;> omega) ht (by omega)
      have h2 := (zsum_bound (f := fun _ => (1 : Int)) (n := kN k) (a := 1) (b := 1) fun _ _ => ⟨Int.le_refl _, Int.le_refl _⟩).2
      omega
    rw [f1, if_neg (by decide), hI.2 t ht f1]
    exact ⟨zIx_nat (by omega) (by omega), by decide, rfl, fW f w⟩
  | succ b ihb =>
    intro f0 w0 hI0 hb
    refine b_X12_rowsFrom_12 (mW f0 w0) (uW f0 w0) (vW f0 w0) (lW f0 w0) (iW f0 w0) ?_
    rw [ef, ew, Int.toNat_natCast]
    have r01 : R32 (f0 t) := b01_r (hI0.1 t ht)
    refine ⟨zIx_nat (by omega) (by omega), r01, ?_⟩
    by_cases c0 : f0 t = 0
    · rw [if_pos c0]
      suffices pass : ∀ x, x ≤ kN k → ∀ f w, ccI k c f w → ccP k f0 f x → ZP G 1 m_X12_rowsFrom 22 [some (.ref m), some (iv (t : Int)), some (.ref u), some (.ref v), some (.ref a), some (.ref (a + 1)), some (iv (x : Int)), none, none, none, none] [] (zSI (zSL Y a w) (a + 1) f) (fun r W => r = .inl (some (jv (c t))) ∧ zF zNo 2 40 Z W) from pass 0 (Nat.zero_le _) f0 w0 hI0 ⟨fun _ _ g => g, fun t ht => absurd ht (Nat.not_lt_zero _)⟩
      refine am_up (n := kN k) fun x hx ihx f w hI hP => ?_
      refine b_X12_rowsFrom_22 (mW f w) (uW f w) (vW f w) (lW f w) (iW f w) ⟨by omega, by rw [(kW f w).1]; omega, ?_⟩
      rw [(kW f w).1]
      by_cases cx : x < kN k
      · rw [if_neg (by omega), ef, Int.toNat_natCast]
        refine ⟨zIx_nat (by omega) (by omega), b01_r (hI.1 x cx), ?_⟩
        have er := eR_pos ho cx
        suffices inn : ∀ j, j ≤ kM k → ∀ s al, ccJ k c f x j s al → ZP G 1 m_X12_rowsFrom 52 [some (.ref m), some (iv (t : Int)), some (.ref u), some (.ref v), some (.ref a), some (.ref (a + 1)), some (iv (x : Int)), some (jv s), none, some (iv al), some (iv (j : Int))] [] (zSI (zSL Y a w) (a + 1) f) (fun r W => r = .inl (some (jv (c t))) ∧ zF zNo 2 40 Z W) by
          refine inn 0 (Nat.zero_le _) 0 _ ?_
          rcases hI.1 x cx with g | g
          · exact Or.inl ⟨b2_p g, g, fun i hi => absurd hi (Nat.not_lt_zero _), rfl⟩
          · exact Or.inr ⟨b2_f (by omega), Or.inl g⟩
        refine am_up (n := kM k) fun j hj ihj s al hJ => ?_
        have no : al = 0 → ZP G 1 m_X12_rowsFrom 22 [some (.ref m), some (iv (t : Int)), some (.ref u), some (.ref v), some (.ref a), some (.ref (a + 1)), some (iv ((x : Int) + 1)), none, none, none, none] [] (zSI (zSL Y a w) (a + 1) f) (fun r W => r = .inl (some (jv (c t))) ∧ zF zNo 2 40 Z W) := fun e => by
          rw [e] at hJ
          exact ihx cx f w hI (hP.no ho hJ)
        have al01 : al = 0 ∨ al = 1 := by
          rcases hJ with ⟨q, -⟩ | ⟨q, -⟩
          · exact Or.inr q
          · exact Or.inl q
        refine b_X12_rowsFrom_52 (mW f w) (uW f w) (vW f w) (lW f w) (iW f w) ⟨by omega, by rw [(kW f w).2.1]; omega, ?_⟩
        rw [(kW f w).2.1]
        by_cases cj : j < kM k
        · rw [if_neg (by omega)]
          refine ⟨b01_r al01, ?_⟩
          rcases al01 with ea | ea
          · rw [if_pos ea, if_pos ea]
            exact no ea
          · rw [if_neg (by omega)]
            obtain ⟨J1, J2, J3⟩ : f x = 0 ∧ (∀ i, i < j → kE k i = x → f (kL k i) = 1) ∧ s = ccS k c x j := by
              rcases hJ with ⟨_, q⟩ | ⟨q, -⟩
              · exact q
              · omega
            obtain ⟨e1, e2, e3⟩ := (kW f w).2.2.2 j cj
            have he := ho.e cj
            have hl := ho.l cj
            have hg := ho.g cj
            have erl := eR_pos ho hl
            rw [Int.toNat_natCast, e1, e2, e3, Int.toNat_natCast, eu, ev, ef, ew, uY x cx, vY x cx, Int.toNat_natCast, vY _ hl]
            refine ⟨zIx_nat (by omega) (by omega), by omega, by omega, ?_⟩
            by_cases c1 : (kE k j : Int) = (x : Int)
            · have c1' : kE k j = x := by omega
              rw [if_pos c1]
              have J4 : ∀ y, (f (kL k j) = 1 → y = ccS k c x (j + 1)) → ccJ k c f x (j + 1) y (f (kL k j)) := fun y hy => by
                rcases hI.1 _ hl with g | g
                · rw [g]
                  exact Or.inr ⟨rfl, Or.inr ⟨j, cj, c1', g⟩⟩
                · rw [g]
                  refine Or.inl ⟨rfl, J1, fun i hi he => ?_, hy g⟩
                  by_cases e : i = j
                  · rw [e]
                    exact g
                  · exact J2 i (by omega) he
              refine ⟨zIx_nat (by omega) (by omega), zIx_nat (by omega) (by omega), by omega, by omega, ?_⟩
              have etg : (kF k 0 x + kG k j + eR k (kL k j) = eR k x) ↔ tgt k j := by
                unfold tgt
                rw [c1']
                omega
              by_cases c2 : kF k 0 x + kG k j + eR k (kL k j) = eR k x
              · rw [if_pos c2]
                refine ihj cj _ _ (J4 _ fun g => ?_)
                rw [ccS_s, if_pos ⟨c1', etg.mp c2⟩, J3, hI.2 _ hl g]
              · rw [if_neg c2]
                refine ihj cj _ _ (J4 _ fun g => ?_)
                rw [ccS_s, if_neg (fun q => c2 (etg.mpr q.2)), J3]
            · rw [if_neg c1]
              refine ihj cj _ _ (Or.inl ⟨ea, J1, fun i hi he => ?_, ?_⟩)
              · by_cases e : i = j
                · rw [e] at he
                  omega
                · exact J2 i (by omega) he
              · rw [ccS_s, if_neg (fun q => c1 (by have := q.1; omega)), J3, Int.add_zero]
        · rw [if_pos (by omega)]
          have ej : j = kM k := by omega
          refine ⟨b01_r al01, ?_⟩
          rcases al01 with ea | ea
          · rw [if_pos ea]
            exact no ea
          · rw [if_neg (by omega), Int.toNat_natCast, eu, ev, uY x cx, vY x cx]
            obtain ⟨J1, J2, J3⟩ : f x = 0 ∧ (∀ i, i < j → kE k i = x → f (kL k i) = 1) ∧ s = ccS k c x j := by
              rcases hJ with ⟨_, q⟩ | ⟨q, -⟩
              · exact q
              · omega
            refine ⟨zIx_nat (by omega) (by omega), by omega, by omega, ?_⟩
            have hcx := hc x cx
            by_cases c3 : eR k x = kF k 0 x
            · rw [if_pos c3]
              rintro _ rfl _ rfl
              rw [up]
              refine ihx cx _ _ (hI.set ?_) hP.set
              rw [hcx, if_pos c3, zsum_eq (g := fun _ => 0), zsum_0]
              · rfl
              · intro i hi
                rw [if_neg]
                rintro ⟨q1, q2⟩
                unfold tgt at q2
                rw [q1] at q2
                have := eR_pos ho (ho.l hi)
                have := ho.g hi
                omega
            · rw [if_neg c3]
              rintro _ rfl _ rfl
              rw [up]
              refine ihx cx _ _ (hI.set ?_) hP.set
              rw [hcx, if_neg c3, J3, ej, Int.zero_add]
              rfl
      · rw [if_pos (by omega)]
        have ex : x = kN k := by omega
        rw [ex] at hP
        have hmore := hP.more ho hI0.1 hI.1 ht c0
        exact ihb f w hI (by omega)
    · rw [if_neg c0, hI0.2 t ht ((hI0.1 t ht).resolve_left c0)]
      exact ⟨rfl, fW f0 w0⟩
theorem d_chains {G : Gx} {Z : Zm} {B : Nat} {σ : St} (h : IMb Z B σ) (ho : okS σ) (hz : 322 ≤ zSz Z ∧ zSz Z < 990000) : ZM G 12 m_X12_chains [.ref 300] Z (rM Z jv (o_chains σ)) := by
  have hN := ho.1.n
  obtain ⟨c, hc⟩ := isCC_ex ho.1
  refine e_X12_chains h.1 ?_
  rintro _ rfl
  refine ((m_len (h.t 0) ho.T ⟨hz.1, by show zSz Z < 999000; omega⟩).deeper (by omega)).mono ?_
  rintro r W ⟨rfl, f1, h1, u1⟩
  refine b_X12_chains_9 h1.1 u1.1 (((m_R h1 ho.T (mHz.f (Z := zT Z 0) hz f1 (by omega)) u1).deeper (by omega)).mono ?_)
  rintro r V ⟨rfl, f2, h2, u2⟩
  have v1 := u1.fr f2
  have g2 := f1.trans f2
  refine b_X12_chains_15 h2.1 v1.1 u2.1 (((m_End h2 ho.T (mHz.f (Z := zT Z 0) hz g2 (by omega)) v1).deeper (by omega)).mono ?_)
  rintro r Y ⟨rfl, f3, h3⟩
  have g3 := g2.trans f3
  have w1 := v1.fr f3
  have w2 := u2.fr f3
  have hen := (eOk_all ho.1).en ho.1
  refine b_X12_chains_21 h3.1 w1.1 w2.1 ?_
  suffices key : ∀ j, j ≤ kN (sK σ) → ∀ (U : Zm), zF mS (2 * j) (40 * j) Y U → ZP G 12 m_X12_chains 28 [some (.ref 300), some (.ref (zSz (zT Z 0))), some (.ref (zSz W)), some (iv (eEnd (sK σ))), some (jv (zsum (fun t => @ite Int (eR (sK σ) t = eEnd (sK σ)) (Classical.propDecidable _) (c t) 0) j)), none, some (iv (j : Int))] [] U (rM Z jv (o_chains σ)) from key 0 (Nat.zero_le _) Y zF.refl
  refine am_up (n := kN (sK σ)) fun j hj ih U f4 => ?_
  have h4 := h3.m (Nat.le_trans hz.1 g3.1.1) f4
  have x1 := w1.fr f4
  have x2 := w2.fr f4
  have g4 := g3.trans f4
  have hk : cM U B (sK σ) := h4.2.2.1
  refine b_X12_chains_28 h4.1 x1.1 x2.1 ⟨by omega, by rw [hk.1]; omega, ?_⟩
  rw [hk.1]
  by_cases d : j < kN (sK σ)
  · rw [if_neg (by omega), Int.toNat_natCast, x2.2.2 j d]
    have er := eR_pos ho.1 d
    have hs : ∀ x, zsum (fun t => @ite Int (eR (sK σ) t = eEnd (sK σ)) (Classical.propDecidable _) (c t) 0) (j + 1) = zsum (fun t => @ite Int (eR (sK σ) t = eEnd (sK σ)) (Classical.propDecidable _) (c t) 0) j + x ↔ @ite Int (eR (sK σ) j = eEnd (sK σ)) (Classical.propDecidable _) (c j) 0 = x := fun x => by rw [zsum_s]; omega
    refine ⟨zIx_nat (by omega) (by omega), by omega, by omega, ?_⟩
    have f5' : ∀ V', zF zNo 2 40 U V' → zF mS (2 * (j + 1)) (40 * (j + 1)) Y V' := fun V' f5 => (f4.trans (zNo_m f5)).mono (fun _ g => g) (by omega) (by omega)
    by_cases c1 : eR (sK σ) j = eEnd (sK σ)
    · rw [if_pos c1]
      have hzU := mHz.f (Z := zT Z 0) hz g4 (by omega)
      refine ((s_rowsFrom h4.1 hk ho.1 x1.1 x2.1 x1.2.2 x2.2.2 hc d hzU.2).deeper (by omega)).mono ?_
      rintro r V' ⟨rfl, f5⟩
      have h5 := h4.m hzU.1 (zNo_m f5)
      refine b_X12_chains_55 h5.1 (x1.fr (zNo_m f5)).1 (x2.fr (zNo_m f5)).1 ?_
      have h9 := ih d V' (f5' V' f5)
      rw [(hs (c j)).mpr (if_pos c1)] at h9
      exact h9
    · rw [if_neg c1]
      have h9 := ih d U (f4.mono (fun _ g => g) (by omega) (by omega))
      rw [(hs 0).mpr (if_neg c1)] at h9
      exact h9
  · rw [if_pos (by omega)]
    obtain ⟨v, e⟩ := mS_t g4 hz.1
    refine rM.ok h4 e v (by omega) (by omega) ?_
    rw [show j = kN (sK σ) by omega]
    exact vAll_of ho.1 ⟨c, hc, rfl⟩
