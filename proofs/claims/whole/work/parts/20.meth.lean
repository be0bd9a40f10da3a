/-! ===== the methods, and what the tables tell of them ===== -/
theorem amNp_of {mi : MI} {n : Nat} (h : (parseMethodDescriptor mi.1.desc).map (fun d => d.parameters.length) = some n) : amNp mi n := h
theorem amM1 {w : Cond} (i : Nat) (h : tables_1_1[i]? = some w) (hg : amOk w = true) : w ∈ amWs := List.mem_filter.mpr ⟨List.mem_append_right _ (show w ∈ tables_1 from List.mem_append_left _ (List.mem_of_getElem? h)), hg⟩
theorem amM2 {w : Cond} (i : Nat) (h : tables_1_2[i]? = some w) (hg : amOk w = true) : w ∈ amWs := List.mem_filter.mpr ⟨List.mem_append_right _ (show w ∈ tables_1 from List.mem_append_right _ (List.mem_append_left _ (List.mem_of_getElem? h))), hg⟩
theorem amM3 {w : Cond} (i : Nat) (h : tables_1_3[i]? = some w) (hg : amOk w = true) : w ∈ amWs := List.mem_filter.mpr ⟨List.mem_append_right _ (show w ∈ tables_1 from List.mem_append_right _ (List.mem_append_right _ (List.mem_append_left _ (List.mem_of_getElem? h)))), hg⟩
theorem amM4 {w : Cond} (i : Nat) (h : tables_1_4[i]? = some w) (hg : amOk w = true) : w ∈ amWs := List.mem_filter.mpr ⟨List.mem_append_right _ (show w ∈ tables_1 from List.mem_append_right _ (List.mem_append_right _ (List.mem_append_right _ (List.mem_append_left _ (List.mem_of_getElem? h))))), hg⟩
theorem amM5 {w : Cond} (i : Nat) (h : tables_1_5[i]? = some w) (hg : amOk w = true) : w ∈ amWs := List.mem_filter.mpr ⟨List.mem_append_right _ (show w ∈ tables_1 from List.mem_append_right _ (List.mem_append_right _ (List.mem_append_right _ (List.mem_append_right _ (List.mem_append_left _ (List.mem_of_getElem? h)))))), hg⟩
theorem amM6 {w : Cond} (i : Nat) (h : tables_1_6[i]? = some w) (hg : amOk w = true) : w ∈ amWs := List.mem_filter.mpr ⟨List.mem_append_right _ (show w ∈ tables_1 from List.mem_append_right _ (List.mem_append_right _ (List.mem_append_right _ (List.mem_append_right _ (List.mem_append_right _ (List.mem_append_left _ (List.mem_of_getElem? h))))))), hg⟩
theorem amM7 {w : Cond} (i : Nat) (h : tables_1_7[i]? = some w) (hg : amOk w = true) : w ∈ amWs := List.mem_filter.mpr ⟨List.mem_append_right _ (show w ∈ tables_1 from List.mem_append_right _ (List.mem_append_right _ (List.mem_append_right _ (List.mem_append_right _ (List.mem_append_right _ (List.mem_append_right _ (List.mem_append_left _ (List.mem_of_getElem? h)))))))), hg⟩
theorem amM8 {w : Cond} (i : Nat) (h : tables_1_8[i]? = some w) (hg : amOk w = true) : w ∈ amWs := List.mem_filter.mpr ⟨List.mem_append_right _ (show w ∈ tables_1 from List.mem_append_right _ (List.mem_append_right _ (List.mem_append_right _ (List.mem_append_right _ (List.mem_append_right _ (List.mem_append_right _ (List.mem_append_right _ (List.mem_append_left _ (List.mem_of_getElem? h))))))))), hg⟩
theorem amM9 {w : Cond} (i : Nat) (h : tables_1_9[i]? = some w) (hg : amOk w = true) : w ∈ amWs := List.mem_filter.mpr ⟨List.mem_append_right _ (show w ∈ tables_1 from List.mem_append_right _ (List.mem_append_right _ (List.mem_append_right _ (List.mem_append_right _ (List.mem_append_right _ (List.mem_append_right _ (List.mem_append_right _ (List.mem_append_right _ (List.mem_append_left _ (List.mem_of_getElem? h)))))))))), hg⟩
theorem amM10 {w : Cond} (i : Nat) (h : tables_1_10[i]? = some w) (hg : amOk w = true) : w ∈ amWs := List.mem_filter.mpr ⟨List.mem_append_right _ (show w ∈ tables_1 from List.mem_append_right _ (List.mem_append_right _ (List.mem_append_right _ (List.mem_append_right _ (List.mem_append_right _ (List.mem_append_right _ (List.mem_append_right _ (List.mem_append_right _ (List.mem_append_right _ (List.mem_of_getElem? h)))))))))), hg⟩
abbrev m_X11_init : MI := (yX11_init, cX11_init, 1, none, [])
set_option maxRecDepth 8000 in
theorem k_X11_init : amCtor m_X11_init 0 := ⟨⟨⟨by decide +kernel, by decide, by decide⟩, ⟨by decide, by decide⟩, (amM1 37 rfl (by decide +kernel)), (amM1 1 rfl (by decide +kernel))⟩, rfl, (amM1 36 rfl (by decide +kernel)), rfl, amNp_of (by decide +kernel)⟩
abbrev m_X0_init : MI := (yX0_init, cX0_init, 1, none, [])
set_option maxRecDepth 8000 in
theorem k_X0_init : amCtor m_X0_init 0 := ⟨⟨⟨by decide +kernel, by decide, by decide⟩, ⟨by decide, by decide⟩, (amM1 45 rfl (by decide +kernel)), (amM1 2 rfl (by decide +kernel))⟩, rfl, (amM1 44 rfl (by decide +kernel)), rfl, amNp_of (by decide +kernel)⟩
abbrev m_X3_init : MI := (yX3_init, cX3_init, 2, none, [])
set_option maxRecDepth 8000 in
theorem k_X3_init : amCtor m_X3_init 0 := ⟨⟨⟨by decide +kernel, by decide, by decide⟩, ⟨by decide, by decide⟩, (amM1 93 rfl (by decide +kernel)), (amM1 3 rfl (by decide +kernel))⟩, rfl, (amM1 92 rfl (by decide +kernel)), rfl, amNp_of (by decide +kernel)⟩
abbrev m_X10_init : MI := (yX10_init, cX10_init, 1, none, [])
set_option maxRecDepth 8000 in
theorem k_X10_init : amCtor m_X10_init 0 := ⟨⟨⟨by decide +kernel, by decide, by decide⟩, ⟨by decide, by decide⟩, (amM1 113 rfl (by decide +kernel)), (amM1 4 rfl (by decide +kernel))⟩, rfl, (amM1 112 rfl (by decide +kernel)), rfl, amNp_of (by decide +kernel)⟩
abbrev m_X7_init : MI := (yX7_init, cX7_init, 1, none, [])
set_option maxRecDepth 8000 in
theorem k_X7_init : amCtor m_X7_init 0 := ⟨⟨⟨by decide +kernel, by decide, by decide⟩, ⟨by decide, by decide⟩, (amM1 132 rfl (by decide +kernel)), (amM1 5 rfl (by decide +kernel))⟩, rfl, (amM1 131 rfl (by decide +kernel)), rfl, amNp_of (by decide +kernel)⟩
abbrev m_X1_init : MI := (yX1_init, cX1_init, 2, none, [])
set_option maxRecDepth 8000 in
theorem k_X1_init : amCtor m_X1_init 0 := ⟨⟨⟨by decide +kernel, by decide, by decide⟩, ⟨by decide, by decide⟩, (amM1 209 rfl (by decide +kernel)), (amM1 6 rfl (by decide +kernel))⟩, rfl, (amM1 208 rfl (by decide +kernel)), rfl, amNp_of (by decide +kernel)⟩
abbrev m_J7_fill_53178 : MI := (yJ7_fill_53178, cJ7_fill_53178, 4, none, [])
set_option maxRecDepth 8000 in
theorem k_J7_fill_53178 : amStat m_J7_fill_53178 2 := ⟨⟨⟨by decide +kernel, by decide, by decide⟩, ⟨by decide, by decide⟩, (amM1 214 rfl (by decide +kernel)), (amM1 7 rfl (by decide +kernel))⟩, (amM1 213 rfl (by decide +kernel)), amNp_of (by decide +kernel)⟩
abbrev m_X9_init : MI := (yX9_init, cX9_init, 1, none, [])
set_option maxRecDepth 8000 in
theorem k_X9_init : amCtor m_X9_init 0 := ⟨⟨⟨by decide +kernel, by decide, by decide⟩, ⟨by decide, by decide⟩, (amM1 232 rfl (by decide +kernel)), (amM1 8 rfl (by decide +kernel))⟩, rfl, (amM1 231 rfl (by decide +kernel)), rfl, amNp_of (by decide +kernel)⟩
abbrev m_X5_init : MI := (yX5_init, cX5_init, 3, none, [])
set_option maxRecDepth 8000 in
theorem k_X5_init : amCtor m_X5_init 2 := ⟨⟨⟨by decide +kernel, by decide, by decide⟩, ⟨by decide, by decide⟩, (amM2 52 rfl (by decide +kernel)), (amM1 9 rfl (by decide +kernel))⟩, rfl, (amM2 51 rfl (by decide +kernel)), rfl, amNp_of (by decide +kernel)⟩
abbrev m_X4_init : MI := (yX4_init, cX4_init, 3, none, [])
set_option maxRecDepth 8000 in
theorem k_X4_init : amCtor m_X4_init 2 := ⟨⟨⟨by decide +kernel, by decide, by decide⟩, ⟨by decide, by decide⟩, (amM2 80 rfl (by decide +kernel)), (amM1 10 rfl (by decide +kernel))⟩, rfl, (amM2 79 rfl (by decide +kernel)), rfl, amNp_of (by decide +kernel)⟩
abbrev m_X6_init : MI := (yX6_init, cX6_init, 3, none, [])
set_option maxRecDepth 8000 in
theorem k_X6_init : amCtor m_X6_init 2 := ⟨⟨⟨by decide +kernel, by decide, by decide⟩, ⟨by decide, by decide⟩, (amM2 99 rfl (by decide +kernel)), (amM1 11 rfl (by decide +kernel))⟩, rfl, (amM2 98 rfl (by decide +kernel)), rfl, amNp_of (by decide +kernel)⟩
abbrev m_X8_init : MI := (yX8_init, cX8_init, 3, none, [])
set_option maxRecDepth 8000 in
theorem k_X8_init : amCtor m_X8_init 2 := ⟨⟨⟨by decide +kernel, by decide, by decide⟩, ⟨by decide, by decide⟩, (amM2 127 rfl (by decide +kernel)), (amM1 12 rfl (by decide +kernel))⟩, rfl, (amM2 126 rfl (by decide +kernel)), rfl, amNp_of (by decide +kernel)⟩
abbrev m_X2_init : MI := (yX2_init, cX2_init, 3, none, [])
set_option maxRecDepth 8000 in
theorem k_X2_init : amCtor m_X2_init 2 := ⟨⟨⟨by decide +kernel, by decide, by decide⟩, ⟨by decide, by decide⟩, (amM2 152 rfl (by decide +kernel)), (amM1 13 rfl (by decide +kernel))⟩, rfl, (amM2 151 rfl (by decide +kernel)), rfl, amNp_of (by decide +kernel)⟩
abbrev m_X11_tasks : MI := (yX11_tasks, cX11_tasks, 1, (some .int), [])
set_option maxRecDepth 8000 in
theorem k_X11_tasks : amInst m_X11_tasks 11 0 := ⟨⟨⟨by decide +kernel, by decide, by decide⟩, ⟨by decide, by decide⟩, (amM3 1 rfl (by decide +kernel)), (amM1 1 rfl (by decide +kernel))⟩, (amM2 239 rfl (by decide +kernel)), (amM3 0 rfl (by decide +kernel)), ⟨_, rfl, rfl⟩, by decide, amNp_of (by decide +kernel)⟩
abbrev m_X11_needs : MI := (yX11_needs, cX11_needs, 1, (some .int), [])
set_option maxRecDepth 8000 in
theorem k_X11_needs : amInst m_X11_needs 11 0 := ⟨⟨⟨by decide +kernel, by decide, by decide⟩, ⟨by decide, by decide⟩, (amM3 5 rfl (by decide +kernel)), (amM1 1 rfl (by decide +kernel))⟩, (amM3 3 rfl (by decide +kernel)), (amM3 4 rfl (by decide +kernel)), ⟨_, rfl, rfl⟩, by decide, amNp_of (by decide +kernel)⟩
abbrev m_X11_erase : MI := (yX11_erase, cX11_erase, 2, (some .int), [])
set_option maxRecDepth 8000 in
theorem k_X11_erase : amInst m_X11_erase 11 0 := ⟨⟨⟨by decide +kernel, by decide, by decide⟩, ⟨by decide, by decide⟩, (amM3 9 rfl (by decide +kernel)), (amM1 1 rfl (by decide +kernel))⟩, (amM3 7 rfl (by decide +kernel)), (amM3 8 rfl (by decide +kernel)), ⟨_, rfl, rfl⟩, by decide, amNp_of (by decide +kernel)⟩
abbrev m_X11_read : MI := (yX11_read, cX11_read, 2, (some .int), [])
set_option maxRecDepth 8000 in
theorem k_X11_read : amInst m_X11_read 11 0 := ⟨⟨⟨by decide +kernel, by decide, by decide⟩, ⟨by decide, by decide⟩, (amM3 13 rfl (by decide +kernel)), (amM1 1 rfl (by decide +kernel))⟩, (amM3 11 rfl (by decide +kernel)), (amM3 12 rfl (by decide +kernel)), ⟨_, rfl, rfl⟩, by decide, amNp_of (by decide +kernel)⟩
abbrev m_X10_readInto : MI := (yX10_readInto, cX10_readInto, 4, (some .int), [])
set_option maxRecDepth 8000 in
theorem k_X10_readInto : amInst m_X10_readInto 10 1 := ⟨⟨⟨by decide +kernel, by decide, by decide⟩, ⟨by decide, by decide⟩, (amM3 17 rfl (by decide +kernel)), (amM1 4 rfl (by decide +kernel))⟩, (amM3 16 rfl (by decide +kernel)), (amMemS (n := 3) 0 rfl), ⟨_, rfl, rfl⟩, by decide, amNp_of (by decide +kernel)⟩
abbrev m_X0_makeEmpty : MI := (yX0_makeEmpty, cX0_makeEmpty, 1, none, [])
set_option maxRecDepth 8000 in
theorem k_X0_makeEmpty : amInst m_X0_makeEmpty 0 0 := ⟨⟨⟨by decide +kernel, by decide, by decide⟩, ⟨by decide, by decide⟩, (amM3 21 rfl (by decide +kernel)), (amM1 2 rfl (by decide +kernel))⟩, (amM3 20 rfl (by decide +kernel)), (amMemS (n := 5) 1 rfl), ⟨_, rfl, rfl⟩, by decide, amNp_of (by decide +kernel)⟩
abbrev m_X10_readTask : MI := (yX10_readTask, cX10_readTask, 6, (some .int), [])
set_option maxRecDepth 8000 in
theorem k_X10_readTask : amInst m_X10_readTask 10 1 := ⟨⟨⟨by decide +kernel, by decide, by decide⟩, ⟨by decide, by decide⟩, (amM3 25 rfl (by decide +kernel)), (amM1 4 rfl (by decide +kernel))⟩, (amM3 24 rfl (by decide +kernel)), (amMemS (n := 3) 2 rfl), ⟨_, rfl, rfl⟩, by decide, amNp_of (by decide +kernel)⟩
abbrev m_X10_readNumber : MI := (yX10_readNumber, cX10_readNumber, 4, (some .int), [])
set_option maxRecDepth 8000 in
theorem k_X10_readNumber : amInst m_X10_readNumber 10 0 := ⟨⟨⟨by decide +kernel, by decide, by decide⟩, ⟨by decide, by decide⟩, (amM3 29 rfl (by decide +kernel)), (amM1 4 rfl (by decide +kernel))⟩, (amM3 28 rfl (by decide +kernel)), (amMemS (n := 3) 3 rfl), ⟨_, rfl, rfl⟩, by decide, amNp_of (by decide +kernel)⟩
abbrev m_X10_isDigit : MI := (yX10_isDigit, cX10_isDigit, 2, (some .boolean), [])
set_option maxRecDepth 8000 in
theorem k_X10_isDigit : amInst m_X10_isDigit 10 1 := ⟨⟨⟨by decide +kernel, by decide, by decide⟩, ⟨by decide, by decide⟩, (amM3 33 rfl (by decide +kernel)), (amM1 4 rfl (by decide +kernel))⟩, (amM3 32 rfl (by decide +kernel)), (amMemS (n := 3) 4 rfl), ⟨_, rfl, rfl⟩, by decide, amNp_of (by decide +kernel)⟩
abbrev m_X0_addTask : MI := (yX0_addTask, cX0_addTask, 4, (some .int), [])
set_option maxRecDepth 8000 in
theorem k_X0_addTask : amInst m_X0_addTask 0 1 := ⟨⟨⟨by decide +kernel, by decide, by decide⟩, ⟨by decide, by decide⟩, (amM3 40 rfl (by decide +kernel)), (amM1 2 rfl (by decide +kernel))⟩, (amM3 39 rfl (by decide +kernel)), (amMemS (n := 5) 5 rfl), ⟨_, rfl, rfl⟩, by decide, amNp_of (by decide +kernel)⟩
abbrev m_X10_isAt : MI := (yX10_isAt, cX10_isAt, 2, (some .boolean), [])
set_option maxRecDepth 8000 in
theorem k_X10_isAt : amInst m_X10_isAt 10 1 := ⟨⟨⟨by decide +kernel, by decide, by decide⟩, ⟨by decide, by decide⟩, (amM3 44 rfl (by decide +kernel)), (amM1 4 rfl (by decide +kernel))⟩, (amM3 43 rfl (by decide +kernel)), (amMemS (n := 3) 6 rfl), ⟨_, rfl, rfl⟩, by decide, amNp_of (by decide +kernel)⟩
abbrev m_X10_readNeed : MI := (yX10_readNeed, cX10_readNeed, 6, (some .int), [])
set_option maxRecDepth 8000 in
theorem k_X10_readNeed : amInst m_X10_readNeed 10 1 := ⟨⟨⟨by decide +kernel, by decide, by decide⟩, ⟨by decide, by decide⟩, (amM3 48 rfl (by decide +kernel)), (amM1 4 rfl (by decide +kernel))⟩, (amM3 47 rfl (by decide +kernel)), (amMemS (n := 3) 7 rfl), ⟨_, rfl, rfl⟩, by decide, amNp_of (by decide +kernel)⟩
abbrev m_X0_hasNeed : MI := (yX0_hasNeed, cX0_hasNeed, 4, (some .boolean), [])
set_option maxRecDepth 8000 in
theorem k_X0_hasNeed : amInst m_X0_hasNeed 0 2 := ⟨⟨⟨by decide +kernel, by decide, by decide⟩, ⟨by decide, by decide⟩, (amM3 52 rfl (by decide +kernel)), (amM1 2 rfl (by decide +kernel))⟩, (amM3 51 rfl (by decide +kernel)), (amMemS (n := 5) 8 rfl), ⟨_, rfl, rfl⟩, by decide, amNp_of (by decide +kernel)⟩
abbrev m_X0_addNeed : MI := (yX0_addNeed, cX0_addNeed, 5, (some .int), [])
set_option maxRecDepth 8000 in
theorem k_X0_addNeed : amInst m_X0_addNeed 0 3 := ⟨⟨⟨by decide +kernel, by decide, by decide⟩, ⟨by decide, by decide⟩, (amM3 56 rfl (by decide +kernel)), (amM1 2 rfl (by decide +kernel))⟩, (amM3 55 rfl (by decide +kernel)), (amMemS (n := 5) 9 rfl), ⟨_, rfl, rfl⟩, by decide, amNp_of (by decide +kernel)⟩
abbrev m_X11_keepBook : MI := (yX11_keepBook, cX11_keepBook, 1, none, [])
set_option maxRecDepth 8000 in
theorem k_X11_keepBook : amInst m_X11_keepBook 11 0 := ⟨⟨⟨by decide +kernel, by decide, by decide⟩, ⟨by decide, by decide⟩, (amM3 60 rfl (by decide +kernel)), (amM1 1 rfl (by decide +kernel))⟩, (amM3 59 rfl (by decide +kernel)), (amMemS (n := 20) 10 rfl), ⟨_, rfl, rfl⟩, by decide, amNp_of (by decide +kernel)⟩
abbrev m_X3_put : MI := (yX3_put, cX3_put, 2, none, [])
set_option maxRecDepth 8000 in
theorem k_X3_put : amInst m_X3_put 3 1 := ⟨⟨⟨by decide +kernel, by decide, by decide⟩, ⟨by decide, by decide⟩, (amM3 64 rfl (by decide +kernel)), (amM1 3 rfl (by decide +kernel))⟩, (amM3 63 rfl (by decide +kernel)), (amMemS (n := 3) 11 rfl), ⟨_, rfl, rfl⟩, by decide, amNp_of (by decide +kernel)⟩
abbrev m_X0_becomeLike : MI := (yX0_becomeLike, cX0_becomeLike, 3, none, [])
set_option maxRecDepth 8000 in
theorem k_X0_becomeLike : amInst m_X0_becomeLike 0 1 := ⟨⟨⟨by decide +kernel, by decide, by decide⟩, ⟨by decide, by decide⟩, (amM3 68 rfl (by decide +kernel)), (amM1 2 rfl (by decide +kernel))⟩, (amM3 67 rfl (by decide +kernel)), (amMemS (n := 5) 12 rfl), ⟨_, rfl, rfl⟩, by decide, amNp_of (by decide +kernel)⟩
abbrev m_X11_leaveOldBook : MI := (yX11_leaveOldBook, cX11_leaveOldBook, 1, none, [])
set_option maxRecDepth 8000 in
theorem k_X11_leaveOldBook : amInst m_X11_leaveOldBook 11 0 := ⟨⟨⟨by decide +kernel, by decide, by decide⟩, ⟨by decide, by decide⟩, (amM3 76 rfl (by decide +kernel)), (amM1 1 rfl (by decide +kernel))⟩, (amM3 75 rfl (by decide +kernel)), (amMemS (n := 20) 13 rfl), ⟨_, rfl, rfl⟩, by decide, amNp_of (by decide +kernel)⟩
abbrev m_X11_end : MI := (yX11_end, cX11_end, 1, (some .int), [])
set_option maxRecDepth 8000 in
theorem k_X11_end : amInst m_X11_end 11 0 := ⟨⟨⟨by decide +kernel, by decide, by decide⟩, ⟨by decide, by decide⟩, (amM3 81 rfl (by decide +kernel)), (amM1 1 rfl (by decide +kernel))⟩, (amM3 79 rfl (by decide +kernel)), (amM3 80 rfl (by decide +kernel)), ⟨_, rfl, rfl⟩, by decide, amNp_of (by decide +kernel)⟩
abbrev m_X11_freshNet : MI := (yX11_freshNet, cX11_freshNet, 1, (some (.object "CriticalweekPlans$Net")), [])
set_option maxRecDepth 8000 in
theorem k_X11_freshNet : amInst m_X11_freshNet 11 0 := ⟨⟨⟨by decide +kernel, by decide, by decide⟩, ⟨by decide, by decide⟩, (amM3 85 rfl (by decide +kernel)), (amM1 1 rfl (by decide +kernel))⟩, (amM3 84 rfl (by decide +kernel)), (amMemS (n := 20) 14 rfl), ⟨_, rfl, rfl⟩, by decide, amNp_of (by decide +kernel)⟩
abbrev m_X7_lay : MI := (yX7_lay, cX7_lay, 3, none, [])
set_option maxRecDepth 8000 in
theorem k_X7_lay : amInst m_X7_lay 7 1 := ⟨⟨⟨by decide +kernel, by decide, by decide⟩, ⟨by decide, by decide⟩, (amM3 89 rfl (by decide +kernel)), (amM1 5 rfl (by decide +kernel))⟩, (amM3 88 rfl (by decide +kernel)), (amMemS (n := 14) 15 rfl), ⟨_, rfl, rfl⟩, by decide, amNp_of (by decide +kernel)⟩
abbrev m_X7_orderTasks : MI := (yX7_orderTasks, cX7_orderTasks, 6, none, [])
set_option maxRecDepth 8000 in
theorem k_X7_orderTasks : amInst m_X7_orderTasks 7 1 := ⟨⟨⟨by decide +kernel, by decide, by decide⟩, ⟨by decide, by decide⟩, (amM3 93 rfl (by decide +kernel)), (amM1 5 rfl (by decide +kernel))⟩, (amM3 92 rfl (by decide +kernel)), (amMemS (n := 14) 16 rfl), ⟨_, rfl, rfl⟩, by decide, amNp_of (by decide +kernel)⟩
abbrev m_X7_orderNeeds : MI := (yX7_orderNeeds, cX7_orderNeeds, 5, none, [])
set_option maxRecDepth 8000 in
theorem k_X7_orderNeeds : amInst m_X7_orderNeeds 7 1 := ⟨⟨⟨by decide +kernel, by decide, by decide⟩, ⟨by decide, by decide⟩, (amM3 98 rfl (by decide +kernel)), (amM1 5 rfl (by decide +kernel))⟩, (amM3 97 rfl (by decide +kernel)), (amMemS (n := 14) 17 rfl), ⟨_, rfl, rfl⟩, by decide, amNp_of (by decide +kernel)⟩
abbrev m_X7_pushBegins : MI := (yX7_pushBegins, cX7_pushBegins, 6, none, [])
set_option maxRecDepth 8000 in
theorem k_X7_pushBegins : amInst m_X7_pushBegins 7 2 := ⟨⟨⟨by decide +kernel, by decide, by decide⟩, ⟨by decide, by decide⟩, (amM3 102 rfl (by decide +kernel)), (amM1 5 rfl (by decide +kernel))⟩, (amM3 101 rfl (by decide +kernel)), (amMemS (n := 14) 18 rfl), ⟨_, rfl, rfl⟩, by decide, amNp_of (by decide +kernel)⟩
abbrev m_X7_lastEnd : MI := (yX7_lastEnd, cX7_lastEnd, 5, (some .int), [])
set_option maxRecDepth 8000 in
theorem k_X7_lastEnd : amInst m_X7_lastEnd 7 2 := ⟨⟨⟨by decide +kernel, by decide, by decide⟩, ⟨by decide, by decide⟩, (amM3 106 rfl (by decide +kernel)), (amM1 5 rfl (by decide +kernel))⟩, (amM3 105 rfl (by decide +kernel)), (amMemS (n := 14) 19 rfl), ⟨_, rfl, rfl⟩, by decide, amNp_of (by decide +kernel)⟩
abbrev m_X7_pullLatests : MI := (yX7_pullLatests, cX7_pullLatests, 7, none, [])
set_option maxRecDepth 8000 in
theorem k_X7_pullLatests : amInst m_X7_pullLatests 7 3 := ⟨⟨⟨by decide +kernel, by decide, by decide⟩, ⟨by decide, by decide⟩, (amM3 113 rfl (by decide +kernel)), (amM1 5 rfl (by decide +kernel))⟩, (amM3 112 rfl (by decide +kernel)), (amMemS (n := 14) 20 rfl), ⟨_, rfl, rfl⟩, by decide, amNp_of (by decide +kernel)⟩
abbrev m_X11_chains : MI := (yX11_chains, cX11_chains, 1, (some .long), [])
set_option maxRecDepth 8000 in
theorem k_X11_chains : amInst m_X11_chains 11 0 := ⟨⟨⟨by decide +kernel, by decide, by decide⟩, ⟨by decide, by decide⟩, (amM3 117 rfl (by decide +kernel)), (amM1 1 rfl (by decide +kernel))⟩, (amM3 115 rfl (by decide +kernel)), (amM3 116 rfl (by decide +kernel)), ⟨_, rfl, rfl⟩, by decide, amNp_of (by decide +kernel)⟩
abbrev m_X7_countChains : MI := (yX7_countChains, cX7_countChains, 5, (some .long), [])
set_option maxRecDepth 8000 in
theorem k_X7_countChains : amInst m_X7_countChains 7 1 := ⟨⟨⟨by decide +kernel, by decide, by decide⟩, ⟨by decide, by decide⟩, (amM3 121 rfl (by decide +kernel)), (amM1 5 rfl (by decide +kernel))⟩, (amM3 120 rfl (by decide +kernel)), (amMemS (n := 14) 21 rfl), ⟨_, rfl, rfl⟩, by decide, amNp_of (by decide +kernel)⟩
abbrev m_X7_restOf : MI := (yX7_restOf, cX7_restOf, 2, (some .int), [])
set_option maxRecDepth 8000 in
theorem k_X7_restOf : amInst m_X7_restOf 7 1 := ⟨⟨⟨by decide +kernel, by decide, by decide⟩, ⟨by decide, by decide⟩, (amM3 125 rfl (by decide +kernel)), (amM1 5 rfl (by decide +kernel))⟩, (amM3 124 rfl (by decide +kernel)), (amMemS (n := 14) 22 rfl), ⟨_, rfl, rfl⟩, by decide, amNp_of (by decide +kernel)⟩
abbrev m_X7_isLongest : MI := (yX7_isLongest, cX7_isLongest, 4, (some .boolean), [])
set_option maxRecDepth 8000 in
theorem k_X7_isLongest : amInst m_X7_isLongest 7 2 := ⟨⟨⟨by decide +kernel, by decide, by decide⟩, ⟨by decide, by decide⟩, (amM3 129 rfl (by decide +kernel)), (amM1 5 rfl (by decide +kernel))⟩, (amM3 128 rfl (by decide +kernel)), (amMemS (n := 14) 23 rfl), ⟨_, rfl, rfl⟩, by decide, amNp_of (by decide +kernel)⟩
abbrev m_X11_chainLength : MI := (yX11_chainLength, cX11_chainLength, 1, (some .int), [])
set_option maxRecDepth 8000 in
theorem k_X11_chainLength : amInst m_X11_chainLength 11 0 := ⟨⟨⟨by decide +kernel, by decide, by decide⟩, ⟨by decide, by decide⟩, (amM3 133 rfl (by decide +kernel)), (amM1 1 rfl (by decide +kernel))⟩, (amM3 131 rfl (by decide +kernel)), (amM3 132 rfl (by decide +kernel)), ⟨_, rfl, rfl⟩, by decide, amNp_of (by decide +kernel)⟩
abbrev m_X7_tellChain : MI := (yX7_tellChain, cX7_tellChain, 5, (some .int), [])
set_option maxRecDepth 8000 in
theorem k_X7_tellChain : amInst m_X7_tellChain 7 1 := ⟨⟨⟨by decide +kernel, by decide, by decide⟩, ⟨by decide, by decide⟩, (amM3 137 rfl (by decide +kernel)), (amM1 5 rfl (by decide +kernel))⟩, (amM3 136 rfl (by decide +kernel)), (amMemS (n := 14) 24 rfl), ⟨_, rfl, rfl⟩, by decide, amNp_of (by decide +kernel)⟩
abbrev m_X7_nextOnChain : MI := (yX7_nextOnChain, cX7_nextOnChain, 5, (some .int), [])
set_option maxRecDepth 8000 in
theorem k_X7_nextOnChain : amInst m_X7_nextOnChain 7 2 := ⟨⟨⟨by decide +kernel, by decide, by decide⟩, ⟨by decide, by decide⟩, (amM3 141 rfl (by decide +kernel)), (amM1 5 rfl (by decide +kernel))⟩, (amM3 140 rfl (by decide +kernel)), (amMemS (n := 14) 25 rfl), ⟨_, rfl, rfl⟩, by decide, amNp_of (by decide +kernel)⟩
abbrev m_X11_wipe : MI := (yX11_wipe, cX11_wipe, 2, (some .int), [])
set_option maxRecDepth 8000 in
theorem k_X11_wipe : amInst m_X11_wipe 11 0 := ⟨⟨⟨by decide +kernel, by decide, by decide⟩, ⟨by decide, by decide⟩, (amM3 145 rfl (by decide +kernel)), (amM1 1 rfl (by decide +kernel))⟩, (amM3 143 rfl (by decide +kernel)), (amM3 144 rfl (by decide +kernel)), ⟨_, rfl, rfl⟩, by decide, amNp_of (by decide +kernel)⟩
abbrev m_X11_leastEnd : MI := (yX11_leastEnd, cX11_leastEnd, 1, (some .int), [])
set_option maxRecDepth 8000 in
theorem k_X11_leastEnd : amInst m_X11_leastEnd 11 0 := ⟨⟨⟨by decide +kernel, by decide, by decide⟩, ⟨by decide, by decide⟩, (amM3 149 rfl (by decide +kernel)), (amM1 1 rfl (by decide +kernel))⟩, (amM3 147 rfl (by decide +kernel)), (amM3 148 rfl (by decide +kernel)), ⟨_, rfl, rfl⟩, by decide, amNp_of (by decide +kernel)⟩
abbrev m_X6_shortestEnd : MI := (yX6_shortestEnd, cX6_shortestEnd, 2, (some .int), [])
set_option maxRecDepth 8000 in
theorem k_X6_shortestEnd : amInst m_X6_shortestEnd 6 0 := ⟨⟨⟨by decide +kernel, by decide, by decide⟩, ⟨by decide, by decide⟩, (amM3 153 rfl (by decide +kernel)), (amM1 11 rfl (by decide +kernel))⟩, (amM3 152 rfl (by decide +kernel)), (amMemS (n := 7) 26 rfl), ⟨_, rfl, rfl⟩, by decide, amNp_of (by decide +kernel)⟩
abbrev m_X6_endWith : MI := (yX6_endWith, cX6_endWith, 2, (some .int), [])
set_option maxRecDepth 8000 in
theorem k_X6_endWith : amInst m_X6_endWith 6 1 := ⟨⟨⟨by decide +kernel, by decide, by decide⟩, ⟨by decide, by decide⟩, (amM3 157 rfl (by decide +kernel)), (amM1 11 rfl (by decide +kernel))⟩, (amM3 156 rfl (by decide +kernel)), (amMemS (n := 7) 27 rfl), ⟨_, rfl, rfl⟩, by decide, amNp_of (by decide +kernel)⟩
abbrev m_X11_earned : MI := (yX11_earned, cX11_earned, 1, (some .int), [])
set_option maxRecDepth 8000 in
theorem k_X11_earned : amInst m_X11_earned 11 0 := ⟨⟨⟨by decide +kernel, by decide, by decide⟩, ⟨by decide, by decide⟩, (amM3 164 rfl (by decide +kernel)), (amM1 1 rfl (by decide +kernel))⟩, (amM3 162 rfl (by decide +kernel)), (amM3 163 rfl (by decide +kernel)), ⟨_, rfl, rfl⟩, by decide, amNp_of (by decide +kernel)⟩
abbrev m_X11_worthDone : MI := (yX11_worthDone, cX11_worthDone, 3, (some .int), [])
set_option maxRecDepth 8000 in
theorem k_X11_worthDone : amInst m_X11_worthDone 11 0 := ⟨⟨⟨by decide +kernel, by decide, by decide⟩, ⟨by decide, by decide⟩, (amM3 168 rfl (by decide +kernel)), (amM1 1 rfl (by decide +kernel))⟩, (amM3 167 rfl (by decide +kernel)), (amMemS (n := 20) 28 rfl), ⟨_, rfl, rfl⟩, by decide, amNp_of (by decide +kernel)⟩
abbrev m_X11_keep : MI := (yX11_keep, cX11_keep, 1, (some .int), [])
set_option maxRecDepth 8000 in
theorem k_X11_keep : amInst m_X11_keep 11 0 := ⟨⟨⟨by decide +kernel, by decide, by decide⟩, ⟨by decide, by decide⟩, (amM3 172 rfl (by decide +kernel)), (amM1 1 rfl (by decide +kernel))⟩, (amM3 170 rfl (by decide +kernel)), (amM3 171 rfl (by decide +kernel)), ⟨_, rfl, rfl⟩, by decide, amNp_of (by decide +kernel)⟩
abbrev m_X11_moved : MI := (yX11_moved, cX11_moved, 4, (some .int), [])
set_option maxRecDepth 8000 in
theorem k_X11_moved : amInst m_X11_moved 11 0 := ⟨⟨⟨by decide +kernel, by decide, by decide⟩, ⟨by decide, by decide⟩, (amM3 177 rfl (by decide +kernel)), (amM1 1 rfl (by decide +kernel))⟩, (amM3 175 rfl (by decide +kernel)), (amM3 176 rfl (by decide +kernel)), ⟨_, rfl, rfl⟩, by decide, amNp_of (by decide +kernel)⟩
abbrev m_X0_hasTask : MI := (yX0_hasTask, cX0_hasTask, 2, (some .boolean), [])
set_option maxRecDepth 8000 in
theorem k_X0_hasTask : amInst m_X0_hasTask 0 1 := ⟨⟨⟨by decide +kernel, by decide, by decide⟩, ⟨by decide, by decide⟩, (amM3 181 rfl (by decide +kernel)), (amM1 2 rfl (by decide +kernel))⟩, (amM3 180 rfl (by decide +kernel)), (amMemS (n := 5) 29 rfl), ⟨_, rfl, rfl⟩, by decide, amNp_of (by decide +kernel)⟩
abbrev m_X11_checksum : MI := (yX11_checksum, cX11_checksum, 5, (some .long), [])
set_option maxRecDepth 8000 in
theorem k_X11_checksum : amInst m_X11_checksum 11 0 := ⟨⟨⟨by decide +kernel, by decide, by decide⟩, ⟨by decide, by decide⟩, (amM3 185 rfl (by decide +kernel)), (amM1 1 rfl (by decide +kernel))⟩, (amM3 183 rfl (by decide +kernel)), (amM3 184 rfl (by decide +kernel)), ⟨_, rfl, rfl⟩, by decide, amNp_of (by decide +kernel)⟩
abbrev m_X11_isTrue : MI := (yX11_isTrue, cX11_isTrue, 3, (some .boolean), [])
set_option maxRecDepth 8000 in
theorem k_X11_isTrue : amInst m_X11_isTrue 11 0 := ⟨⟨⟨by decide +kernel, by decide, by decide⟩, ⟨by decide, by decide⟩, (amM3 191 rfl (by decide +kernel)), (amM1 1 rfl (by decide +kernel))⟩, (amM3 189 rfl (by decide +kernel)), (amM3 190 rfl (by decide +kernel)), ⟨_, rfl, rfl⟩, by decide, amNp_of (by decide +kernel)⟩
abbrev m_X7_lengthOfChain : MI := (yX7_lengthOfChain, cX7_lengthOfChain, 5, (some .int), [])
set_option maxRecDepth 8000 in
theorem k_X7_lengthOfChain : amInst m_X7_lengthOfChain 7 1 := ⟨⟨⟨by decide +kernel, by decide, by decide⟩, ⟨by decide, by decide⟩, (amM3 195 rfl (by decide +kernel)), (amM1 5 rfl (by decide +kernel))⟩, (amM3 194 rfl (by decide +kernel)), (amMemS (n := 14) 30 rfl), ⟨_, rfl, rfl⟩, by decide, amNp_of (by decide +kernel)⟩
abbrev m_X7_slackOf : MI := (yX7_slackOf, cX7_slackOf, 2, (some .int), [])
set_option maxRecDepth 8000 in
theorem k_X7_slackOf : amInst m_X7_slackOf 7 1 := ⟨⟨⟨by decide +kernel, by decide, by decide⟩, ⟨by decide, by decide⟩, (amM3 200 rfl (by decide +kernel)), (amM1 5 rfl (by decide +kernel))⟩, (amM3 199 rfl (by decide +kernel)), (amMemS (n := 14) 31 rfl), ⟨_, rfl, rfl⟩, by decide, amNp_of (by decide +kernel)⟩
abbrev m_X9_keepsNeeds : MI := (yX9_keepsNeeds, cX9_keepsNeeds, 4, (some .boolean), [])
set_option maxRecDepth 8000 in
theorem k_X9_keepsNeeds : amInst m_X9_keepsNeeds 9 1 := ⟨⟨⟨by decide +kernel, by decide, by decide⟩, ⟨by decide, by decide⟩, (amM3 204 rfl (by decide +kernel)), (amM1 8 rfl (by decide +kernel))⟩, (amM3 203 rfl (by decide +kernel)), (amMemS (n := 15) 32 rfl), ⟨_, rfl, rfl⟩, by decide, amNp_of (by decide +kernel)⟩
abbrev m_X9_keepsHandsApart : MI := (yX9_keepsHandsApart, cX9_keepsHandsApart, 4, (some .boolean), [])
set_option maxRecDepth 8000 in
theorem k_X9_keepsHandsApart : amInst m_X9_keepsHandsApart 9 1 := ⟨⟨⟨by decide +kernel, by decide, by decide⟩, ⟨by decide, by decide⟩, (amM3 208 rfl (by decide +kernel)), (amM1 8 rfl (by decide +kernel))⟩, (amM3 207 rfl (by decide +kernel)), (amMemS (n := 15) 33 rfl), ⟨_, rfl, rfl⟩, by decide, amNp_of (by decide +kernel)⟩
abbrev m_X9_isShared : MI := (yX9_isShared, cX9_isShared, 5, (some .boolean), [])
set_option maxRecDepth 8000 in
theorem k_X9_isShared : amInst m_X9_isShared 9 3 := ⟨⟨⟨by decide +kernel, by decide, by decide⟩, ⟨by decide, by decide⟩, (amM3 212 rfl (by decide +kernel)), (amM1 8 rfl (by decide +kernel))⟩, (amM3 211 rfl (by decide +kernel)), (amMemS (n := 15) 34 rfl), ⟨_, rfl, rfl⟩, by decide, amNp_of (by decide +kernel)⟩
abbrev m_X11_isOfTheTheorem : MI := (yX11_isOfTheTheorem, cX11_isOfTheTheorem, 1, (some .boolean), [])
set_option maxRecDepth 8000 in
theorem k_X11_isOfTheTheorem : amInst m_X11_isOfTheTheorem 11 0 := ⟨⟨⟨by decide +kernel, by decide, by decide⟩, ⟨by decide, by decide⟩, (amM3 216 rfl (by decide +kernel)), (amM1 1 rfl (by decide +kernel))⟩, (amM3 215 rfl (by decide +kernel)), (amMemS (n := 20) 35 rfl), ⟨_, rfl, rfl⟩, by decide, amNp_of (by decide +kernel)⟩
abbrev m_X0_countWith : MI := (yX0_countWith, cX0_countWith, 5, (some .int), [])
set_option maxRecDepth 8000 in
theorem k_X0_countWith : amInst m_X0_countWith 0 2 := ⟨⟨⟨by decide +kernel, by decide, by decide⟩, ⟨by decide, by decide⟩, (amM3 220 rfl (by decide +kernel)), (amM1 2 rfl (by decide +kernel))⟩, (amM3 219 rfl (by decide +kernel)), (amMemS (n := 5) 36 rfl), ⟨_, rfl, rfl⟩, by decide, amNp_of (by decide +kernel)⟩
abbrev m_X0_hasNoLags : MI := (yX0_hasNoLags, cX0_hasNoLags, 2, (some .boolean), [])
set_option maxRecDepth 8000 in
theorem k_X0_hasNoLags : amInst m_X0_hasNoLags 0 0 := ⟨⟨⟨by decide +kernel, by decide, by decide⟩, ⟨by decide, by decide⟩, (amM3 224 rfl (by decide +kernel)), (amM1 2 rfl (by decide +kernel))⟩, (amM3 223 rfl (by decide +kernel)), (amMemS (n := 5) 37 rfl), ⟨_, rfl, rfl⟩, by decide, amNp_of (by decide +kernel)⟩
abbrev m_X9_doesProofHold : MI := (yX9_doesProofHold, cX9_doesProofHold, 6, (some .boolean), [])
set_option maxRecDepth 8000 in
theorem k_X9_doesProofHold : amInst m_X9_doesProofHold 9 1 := ⟨⟨⟨by decide +kernel, by decide, by decide⟩, ⟨by decide, by decide⟩, (amM3 228 rfl (by decide +kernel)), (amM1 8 rfl (by decide +kernel))⟩, (amM3 227 rfl (by decide +kernel)), (amMemS (n := 15) 38 rfl), ⟨_, rfl, rfl⟩, by decide, amNp_of (by decide +kernel)⟩
abbrev m_X9_countWorking : MI := (yX9_countWorking, cX9_countWorking, 6, (some .int), [])
set_option maxRecDepth 8000 in
theorem k_X9_countWorking : amInst m_X9_countWorking 9 3 := ⟨⟨⟨by decide +kernel, by decide, by decide⟩, ⟨by decide, by decide⟩, (amM3 232 rfl (by decide +kernel)), (amM1 8 rfl (by decide +kernel))⟩, (amM3 231 rfl (by decide +kernel)), (amMemS (n := 15) 39 rfl), ⟨_, rfl, rfl⟩, by decide, amNp_of (by decide +kernel)⟩
abbrev m_X11_isEndBounded : MI := (yX11_isEndBounded, cX11_isEndBounded, 2, (some .boolean), [])
set_option maxRecDepth 8000 in
theorem k_X11_isEndBounded : amInst m_X11_isEndBounded 11 0 := ⟨⟨⟨by decide +kernel, by decide, by decide⟩, ⟨by decide, by decide⟩, (amM3 236 rfl (by decide +kernel)), (amM1 1 rfl (by decide +kernel))⟩, (amM3 235 rfl (by decide +kernel)), (amMemS (n := 20) 40 rfl), ⟨_, rfl, rfl⟩, by decide, amNp_of (by decide +kernel)⟩
abbrev m_X0_sumOfLengths : MI := (yX0_sumOfLengths, cX0_sumOfLengths, 3, (some .int), [])
set_option maxRecDepth 8000 in
theorem k_X0_sumOfLengths : amInst m_X0_sumOfLengths 0 0 := ⟨⟨⟨by decide +kernel, by decide, by decide⟩, ⟨by decide, by decide⟩, (amM4 0 rfl (by decide +kernel)), (amM1 2 rfl (by decide +kernel))⟩, (amM3 239 rfl (by decide +kernel)), (amMemS (n := 5) 41 rfl), ⟨_, rfl, rfl⟩, by decide, amNp_of (by decide +kernel)⟩
abbrev m_L_task : MI := (yL_task, cL_task, 4, (some .int), [(0, 9, 12, 13), (0, 9, 15, 15)])
set_option maxRecDepth 8000 in
theorem k_L_task : amStatH m_L_task 3 := ⟨⟨⟨by decide +kernel, by decide, by decide⟩, ⟨by decide, by decide⟩, (amM4 3 rfl (by decide +kernel)), (amM1 0 rfl (by decide +kernel))⟩, (amM4 2 rfl (by decide +kernel)), amNp_of (by decide +kernel)⟩
abbrev m_X11_task : MI := (yX11_task, cX11_task, 2, (some .int), [])
set_option maxRecDepth 8000 in
theorem k_X11_task : amInst m_X11_task 11 1 := ⟨⟨⟨by decide +kernel, by decide, by decide⟩, ⟨by decide, by decide⟩, (amM4 9 rfl (by decide +kernel)), (amM1 1 rfl (by decide +kernel))⟩, (amM4 7 rfl (by decide +kernel)), (amM4 8 rfl (by decide +kernel)), ⟨_, rfl, rfl⟩, by decide, amNp_of (by decide +kernel)⟩
abbrev m_L_set : MI := (yL_set, cL_set, 6, (some .int), [(0, 12, 15, 21), (0, 12, 19, 13)])
set_option maxRecDepth 8000 in
theorem k_L_set : amStatH m_L_set 5 := ⟨⟨⟨by decide +kernel, by decide, by decide⟩, ⟨by decide, by decide⟩, (amM4 101 rfl (by decide +kernel)), (amM1 0 rfl (by decide +kernel))⟩, (amM4 100 rfl (by decide +kernel)), amNp_of (by decide +kernel)⟩
abbrev m_X11_set : MI := (yX11_set, cX11_set, 6, (some .int), [])
set_option maxRecDepth 8000 in
theorem k_X11_set : amInst m_X11_set 11 3 := ⟨⟨⟨by decide +kernel, by decide, by decide⟩, ⟨by decide, by decide⟩, (amM4 106 rfl (by decide +kernel)), (amM1 1 rfl (by decide +kernel))⟩, (amM4 104 rfl (by decide +kernel)), (amM4 105 rfl (by decide +kernel)), ⟨_, rfl, rfl⟩, by decide, amNp_of (by decide +kernel)⟩
abbrev m_X11_checkTask : MI := (yX11_checkTask, cX11_checkTask, 2, none, [])
set_option maxRecDepth 8000 in
theorem k_X11_checkTask : amInst m_X11_checkTask 11 1 := ⟨⟨⟨by decide +kernel, by decide, by decide⟩, ⟨by decide, by decide⟩, (amM4 110 rfl (by decide +kernel)), (amM1 1 rfl (by decide +kernel))⟩, (amM4 109 rfl (by decide +kernel)), (amMemS (n := 20) 43 rfl), ⟨_, rfl, rfl⟩, by decide, amNp_of (by decide +kernel)⟩
abbrev m_X11_rowOf : MI := (yX11_rowOf, cX11_rowOf, 3, (some .int), [])
set_option maxRecDepth 8000 in
theorem k_X11_rowOf : amInst m_X11_rowOf 11 1 := ⟨⟨⟨by decide +kernel, by decide, by decide⟩, ⟨by decide, by decide⟩, (amM4 130 rfl (by decide +kernel)), (amM1 1 rfl (by decide +kernel))⟩, (amM4 129 rfl (by decide +kernel)), (amMemS (n := 20) 44 rfl), ⟨_, rfl, rfl⟩, by decide, amNp_of (by decide +kernel)⟩
abbrev m_J0_indexOf_0f7a4 : MI := (yJ0_indexOf_0f7a4, cJ0_indexOf_0f7a4, 2, (some .int), [])
set_option maxRecDepth 8000 in
theorem k_J0_indexOf_0f7a4 : amStrM m_J0_indexOf_0f7a4 1 := ⟨⟨⟨by decide +kernel, by decide, by decide⟩, ⟨by decide, by decide⟩, (amM4 135 rfl (by decide +kernel)), (amM1 23 rfl (by decide +kernel))⟩, (amM4 133 rfl (by decide +kernel)), (amM4 134 rfl (by decide +kernel)), rfl, amNp_of (by decide +kernel)⟩
abbrev m_J0_indexOf_7cf53 : MI := (yJ0_indexOf_7cf53, cJ0_indexOf_7cf53, 3, (some .int), [])
set_option maxRecDepth 8000 in
theorem k_J0_indexOf_7cf53 : amStrM m_J0_indexOf_7cf53 2 := ⟨⟨⟨by decide +kernel, by decide, by decide⟩, ⟨by decide, by decide⟩, (amM4 139 rfl (by decide +kernel)), (amM1 23 rfl (by decide +kernel))⟩, (amM4 137 rfl (by decide +kernel)), (amM4 138 rfl (by decide +kernel)), rfl, amNp_of (by decide +kernel)⟩
abbrev m_J0_isLatin1_aae02 : MI := (yJ0_isLatin1_aae02, cJ0_isLatin1_aae02, 1, (some .boolean), [])
set_option maxRecDepth 8000 in
theorem k_J0_isLatin1_aae02 : amStrM m_J0_isLatin1_aae02 0 := ⟨⟨⟨by decide +kernel, by decide, by decide⟩, ⟨by decide, by decide⟩, (amM4 143 rfl (by decide +kernel)), (amM1 23 rfl (by decide +kernel))⟩, (amM4 141 rfl (by decide +kernel)), (amM4 142 rfl (by decide +kernel)), rfl, amNp_of (by decide +kernel)⟩
abbrev m_J0_length_8abf5 : MI := (yJ0_length_8abf5, cJ0_length_8abf5, 1, (some .int), [])
set_option maxRecDepth 8000 in
theorem k_J0_length_8abf5 : amStrM m_J0_length_8abf5 0 := ⟨⟨⟨by decide +kernel, by decide, by decide⟩, ⟨by decide, by decide⟩, (amM4 149 rfl (by decide +kernel)), (amM1 23 rfl (by decide +kernel))⟩, (amM4 147 rfl (by decide +kernel)), (amM4 148 rfl (by decide +kernel)), rfl, amNp_of (by decide +kernel)⟩
abbrev m_J0_coder_7d493 : MI := (yJ0_coder_7d493, cJ0_coder_7d493, 1, (some .byte), [])
set_option maxRecDepth 8000 in
theorem k_J0_coder_7d493 : amStrM m_J0_coder_7d493 0 := ⟨⟨⟨by decide +kernel, by decide, by decide⟩, ⟨by decide, by decide⟩, (amM4 153 rfl (by decide +kernel)), (amM1 23 rfl (by decide +kernel))⟩, (amM4 151 rfl (by decide +kernel)), (amM4 152 rfl (by decide +kernel)), rfl, amNp_of (by decide +kernel)⟩
abbrev m_J1_indexOf_4cfef : MI := (yJ1_indexOf_4cfef, cJ1_indexOf_4cfef, 4, (some .int), [])
set_option maxRecDepth 8000 in
theorem k_J1_indexOf_4cfef : amStat m_J1_indexOf_4cfef 4 := ⟨⟨⟨by decide +kernel, by decide, by decide⟩, ⟨by decide, by decide⟩, (amM4 156 rfl (by decide +kernel)), (amM1 24 rfl (by decide +kernel))⟩, (amM4 155 rfl (by decide +kernel)), amNp_of (by decide +kernel)⟩
abbrev m_J1_canEncode_9a6ad : MI := (yJ1_canEncode_9a6ad, cJ1_canEncode_9a6ad, 1, (some .boolean), [])
set_option maxRecDepth 8000 in
theorem k_J1_canEncode_9a6ad : amStat m_J1_canEncode_9a6ad 1 := ⟨⟨⟨by decide +kernel, by decide, by decide⟩, ⟨by decide, by decide⟩, (amM4 159 rfl (by decide +kernel)), (amM1 24 rfl (by decide +kernel))⟩, (amM4 158 rfl (by decide +kernel)), amNp_of (by decide +kernel)⟩
abbrev m_J1_indexOfChar_4cfef : MI := (yJ1_indexOfChar_4cfef, cJ1_indexOfChar_4cfef, 6, (some .int), [])
set_option maxRecDepth 8000 in
theorem k_J1_indexOfChar_4cfef : amStat m_J1_indexOfChar_4cfef 4 := ⟨⟨⟨by decide +kernel, by decide, by decide⟩, ⟨by decide, by decide⟩, (amM4 164 rfl (by decide +kernel)), (amM1 24 rfl (by decide +kernel))⟩, (amM4 163 rfl (by decide +kernel)), amNp_of (by decide +kernel)⟩
abbrev m_X0_canBeLong : MI := (yX0_canBeLong, cX0_canBeLong, 3, (some .boolean), [])
set_option maxRecDepth 8000 in
theorem k_X0_canBeLong : amInst m_X0_canBeLong 0 2 := ⟨⟨⟨by decide +kernel, by decide, by decide⟩, ⟨by decide, by decide⟩, (amM4 223 rfl (by decide +kernel)), (amM1 2 rfl (by decide +kernel))⟩, (amM4 222 rfl (by decide +kernel)), (amMemS (n := 5) 45 rfl), ⟨_, rfl, rfl⟩, by decide, amNp_of (by decide +kernel)⟩
abbrev m_X0_isGuessed : MI := (yX0_isGuessed, cX0_isGuessed, 2, (some .boolean), [])
set_option maxRecDepth 8000 in
theorem k_X0_isGuessed : amInst m_X0_isGuessed 0 1 := ⟨⟨⟨by decide +kernel, by decide, by decide⟩, ⟨by decide, by decide⟩, (amM4 227 rfl (by decide +kernel)), (amM1 2 rfl (by decide +kernel))⟩, (amM4 226 rfl (by decide +kernel)), (amMemS (n := 5) 46 rfl), ⟨_, rfl, rfl⟩, by decide, amNp_of (by decide +kernel)⟩
abbrev m_L_of : MI := (yL_of, cL_of, 5, (some .int), [(0, 10, 13, 21), (0, 10, 17, 13)])
set_option maxRecDepth 8000 in
theorem k_L_of : amStatH m_L_of 4 := ⟨⟨⟨by decide +kernel, by decide, by decide⟩, ⟨by decide, by decide⟩, (amM4 231 rfl (by decide +kernel)), (amM1 0 rfl (by decide +kernel))⟩, (amM4 230 rfl (by decide +kernel)), amNp_of (by decide +kernel)⟩
abbrev m_X11_of : MI := (yX11_of, cX11_of, 3, (some .int), [])
set_option maxRecDepth 8000 in
theorem k_X11_of : amInst m_X11_of 11 2 := ⟨⟨⟨by decide +kernel, by decide, by decide⟩, ⟨by decide, by decide⟩, (amM4 235 rfl (by decide +kernel)), (amM1 1 rfl (by decide +kernel))⟩, (amM4 233 rfl (by decide +kernel)), (amM4 234 rfl (by decide +kernel)), ⟨_, rfl, rfl⟩, by decide, amNp_of (by decide +kernel)⟩
abbrev m_L_need : MI := (yL_need, cL_need, 6, (some .int), [(0, 12, 15, 21), (0, 12, 19, 13), (0, 12, 23, 15)])
set_option maxRecDepth 8000 in
theorem k_L_need : amStatH m_L_need 5 := ⟨⟨⟨by decide +kernel, by decide, by decide⟩, ⟨by decide, by decide⟩, (amM4 238 rfl (by decide +kernel)), (amM1 0 rfl (by decide +kernel))⟩, (amM4 237 rfl (by decide +kernel)), amNp_of (by decide +kernel)⟩
abbrev m_X11_need : MI := (yX11_need, cX11_need, 4, (some .int), [])
set_option maxRecDepth 8000 in
theorem k_X11_need : amInst m_X11_need 11 3 := ⟨⟨⟨by decide +kernel, by decide, by decide⟩, ⟨by decide, by decide⟩, (amM5 2 rfl (by decide +kernel)), (amM1 1 rfl (by decide +kernel))⟩, (amM5 0 rfl (by decide +kernel)), (amM5 1 rfl (by decide +kernel)), ⟨_, rfl, rfl⟩, by decide, amNp_of (by decide +kernel)⟩
abbrev m_X0_ringSize : MI := (yX0_ringSize, cX0_ringSize, 6, (some .int), [])
set_option maxRecDepth 8000 in
theorem k_X0_ringSize : amInst m_X0_ringSize 0 2 := ⟨⟨⟨by decide +kernel, by decide, by decide⟩, ⟨by decide, by decide⟩, (amM5 9 rfl (by decide +kernel)), (amM1 2 rfl (by decide +kernel))⟩, (amM5 8 rfl (by decide +kernel)), (amMemS (n := 5) 47 rfl), ⟨_, rfl, rfl⟩, by decide, amNp_of (by decide +kernel)⟩
abbrev m_L_dropNeed : MI := (yL_dropNeed, cL_dropNeed, 4, (some .int), [(0, 9, 12, 21)])
set_option maxRecDepth 8000 in
theorem k_L_dropNeed : amStatH m_L_dropNeed 3 := ⟨⟨⟨by decide +kernel, by decide, by decide⟩, ⟨by decide, by decide⟩, (amM5 16 rfl (by decide +kernel)), (amM1 0 rfl (by decide +kernel))⟩, (amM5 15 rfl (by decide +kernel)), amNp_of (by decide +kernel)⟩
abbrev m_X11_dropNeed : MI := (yX11_dropNeed, cX11_dropNeed, 2, (some .int), [])
set_option maxRecDepth 8000 in
theorem k_X11_dropNeed : amInst m_X11_dropNeed 11 1 := ⟨⟨⟨by decide +kernel, by decide, by decide⟩, ⟨by decide, by decide⟩, (amM5 20 rfl (by decide +kernel)), (amM1 1 rfl (by decide +kernel))⟩, (amM5 18 rfl (by decide +kernel)), (amM5 19 rfl (by decide +kernel)), ⟨_, rfl, rfl⟩, by decide, amNp_of (by decide +kernel)⟩
abbrev m_X11_checkNeed : MI := (yX11_checkNeed, cX11_checkNeed, 2, none, [])
set_option maxRecDepth 8000 in
theorem k_X11_checkNeed : amInst m_X11_checkNeed 11 1 := ⟨⟨⟨by decide +kernel, by decide, by decide⟩, ⟨by decide, by decide⟩, (amM5 24 rfl (by decide +kernel)), (amM1 1 rfl (by decide +kernel))⟩, (amM5 23 rfl (by decide +kernel)), (amMemS (n := 20) 48 rfl), ⟨_, rfl, rfl⟩, by decide, amNp_of (by decide +kernel)⟩
abbrev m_X0_removeNeed : MI := (yX0_removeNeed, cX0_removeNeed, 3, none, [])
set_option maxRecDepth 8000 in
theorem k_X0_removeNeed : amInst m_X0_removeNeed 0 1 := ⟨⟨⟨by decide +kernel, by decide, by decide⟩, ⟨by decide, by decide⟩, (amM5 29 rfl (by decide +kernel)), (amM1 2 rfl (by decide +kernel))⟩, (amM5 28 rfl (by decide +kernel)), (amMemS (n := 5) 49 rfl), ⟨_, rfl, rfl⟩, by decide, amNp_of (by decide +kernel)⟩
abbrev m_L_needAt : MI := (yL_needAt, cL_needAt, 5, (some .int), [(0, 10, 13, 21), (0, 10, 17, 13)])
set_option maxRecDepth 8000 in
theorem k_L_needAt : amStatH m_L_needAt 4 := ⟨⟨⟨by decide +kernel, by decide, by decide⟩, ⟨by decide, by decide⟩, (amM5 32 rfl (by decide +kernel)), (amM1 0 rfl (by decide +kernel))⟩, (amM5 31 rfl (by decide +kernel)), amNp_of (by decide +kernel)⟩
abbrev m_X11_needAt : MI := (yX11_needAt, cX11_needAt, 4, (some .int), [])
set_option maxRecDepth 8000 in
theorem k_X11_needAt : amInst m_X11_needAt 11 2 := ⟨⟨⟨by decide +kernel, by decide, by decide⟩, ⟨by decide, by decide⟩, (amM5 36 rfl (by decide +kernel)), (amM1 1 rfl (by decide +kernel))⟩, (amM5 34 rfl (by decide +kernel)), (amM5 35 rfl (by decide +kernel)), ⟨_, rfl, rfl⟩, by decide, amNp_of (by decide +kernel)⟩
abbrev m_L_ring : MI := (yL_ring, cL_ring, 5, (some .int), [(0, 10, 13, 21)])
set_option maxRecDepth 8000 in
theorem k_L_ring : amStatH m_L_ring 4 := ⟨⟨⟨by decide +kernel, by decide, by decide⟩, ⟨by decide, by decide⟩, (amM5 40 rfl (by decide +kernel)), (amM1 0 rfl (by decide +kernel))⟩, (amM5 39 rfl (by decide +kernel)), amNp_of (by decide +kernel)⟩
abbrev m_X11_ring : MI := (yX11_ring, cX11_ring, 3, (some .int), [])
set_option maxRecDepth 8000 in
theorem k_X11_ring : amInst m_X11_ring 11 2 := ⟨⟨⟨by decide +kernel, by decide, by decide⟩, ⟨by decide, by decide⟩, (amM5 44 rfl (by decide +kernel)), (amM1 1 rfl (by decide +kernel))⟩, (amM5 42 rfl (by decide +kernel)), (amM5 43 rfl (by decide +kernel)), ⟨_, rfl, rfl⟩, by decide, amNp_of (by decide +kernel)⟩
abbrev m_L_undo : MI := (yL_undo, cL_undo, 3, (some .int), [(0, 8, 11, 21)])
set_option maxRecDepth 8000 in
theorem k_L_undo : amStatH m_L_undo 2 := ⟨⟨⟨by decide +kernel, by decide, by decide⟩, ⟨by decide, by decide⟩, (amM5 47 rfl (by decide +kernel)), (amM1 0 rfl (by decide +kernel))⟩, (amM5 46 rfl (by decide +kernel)), amNp_of (by decide +kernel)⟩
abbrev m_X11_undo : MI := (yX11_undo, cX11_undo, 1, (some .int), [])
set_option maxRecDepth 8000 in
theorem k_X11_undo : amInst m_X11_undo 11 0 := ⟨⟨⟨by decide +kernel, by decide, by decide⟩, ⟨by decide, by decide⟩, (amM5 51 rfl (by decide +kernel)), (amM1 1 rfl (by decide +kernel))⟩, (amM5 49 rfl (by decide +kernel)), (amM5 50 rfl (by decide +kernel)), ⟨_, rfl, rfl⟩, by decide, amNp_of (by decide +kernel)⟩
abbrev m_X3_takeBack : MI := (yX3_takeBack, cX3_takeBack, 2, none, [])
set_option maxRecDepth 8000 in
theorem k_X3_takeBack : amInst m_X3_takeBack 3 1 := ⟨⟨⟨by decide +kernel, by decide, by decide⟩, ⟨by decide, by decide⟩, (amM5 56 rfl (by decide +kernel)), (amM1 3 rfl (by decide +kernel))⟩, (amM5 55 rfl (by decide +kernel)), (amMemS (n := 3) 50 rfl), ⟨_, rfl, rfl⟩, by decide, amNp_of (by decide +kernel)⟩
abbrev m_L_type : MI := (yL_type, cL_type, 4, (some .int), [(0, 9, 12, 13), (0, 9, 15, 15)])
set_option maxRecDepth 8000 in
theorem k_L_type : amStatH m_L_type 3 := ⟨⟨⟨by decide +kernel, by decide, by decide⟩, ⟨by decide, by decide⟩, (amM5 59 rfl (by decide +kernel)), (amM1 0 rfl (by decide +kernel))⟩, (amM5 58 rfl (by decide +kernel)), amNp_of (by decide +kernel)⟩
abbrev m_X11_type : MI := (yX11_type, cX11_type, 2, (some .int), [])
set_option maxRecDepth 8000 in
theorem k_X11_type : amInst m_X11_type 11 1 := ⟨⟨⟨by decide +kernel, by decide, by decide⟩, ⟨by decide, by decide⟩, (amM5 63 rfl (by decide +kernel)), (amM1 1 rfl (by decide +kernel))⟩, (amM5 61 rfl (by decide +kernel)), (amM5 62 rfl (by decide +kernel)), ⟨_, rfl, rfl⟩, by decide, amNp_of (by decide +kernel)⟩
abbrev m_L_signAt : MI := (yL_signAt, cL_signAt, 4, (some .int), [(0, 9, 12, 53)])
set_option maxRecDepth 8000 in
theorem k_L_signAt : amStatH m_L_signAt 3 := ⟨⟨⟨by decide +kernel, by decide, by decide⟩, ⟨by decide, by decide⟩, (amM5 68 rfl (by decide +kernel)), (amM1 0 rfl (by decide +kernel))⟩, (amM5 67 rfl (by decide +kernel)), amNp_of (by decide +kernel)⟩
abbrev m_X11_signAt : MI := (yX11_signAt, cX11_signAt, 2, (some .char), [])
set_option maxRecDepth 8000 in
theorem k_X11_signAt : amInst m_X11_signAt 11 1 := ⟨⟨⟨by decide +kernel, by decide, by decide⟩, ⟨by decide, by decide⟩, (amM5 96 rfl (by decide +kernel)), (amM1 1 rfl (by decide +kernel))⟩, (amM5 94 rfl (by decide +kernel)), (amM5 95 rfl (by decide +kernel)), ⟨_, rfl, rfl⟩, by decide, amNp_of (by decide +kernel)⟩
abbrev m_L_earliest : MI := (yL_earliest, cL_earliest, 4, (some .int), [(0, 9, 12, 21)])
set_option maxRecDepth 8000 in
theorem k_L_earliest : amStatH m_L_earliest 3 := ⟨⟨⟨by decide +kernel, by decide, by decide⟩, ⟨by decide, by decide⟩, (amM5 112 rfl (by decide +kernel)), (amM1 0 rfl (by decide +kernel))⟩, (amM5 111 rfl (by decide +kernel)), amNp_of (by decide +kernel)⟩
abbrev m_X11_earliest : MI := (yX11_earliest, cX11_earliest, 2, (some .int), [])
set_option maxRecDepth 8000 in
theorem k_X11_earliest : amInst m_X11_earliest 11 1 := ⟨⟨⟨by decide +kernel, by decide, by decide⟩, ⟨by decide, by decide⟩, (amM5 116 rfl (by decide +kernel)), (amM1 1 rfl (by decide +kernel))⟩, (amM5 114 rfl (by decide +kernel)), (amM5 115 rfl (by decide +kernel)), ⟨_, rfl, rfl⟩, by decide, amNp_of (by decide +kernel)⟩
abbrev m_L_latest : MI := (yL_latest, cL_latest, 4, (some .int), [(0, 9, 12, 21)])
set_option maxRecDepth 8000 in
theorem k_L_latest : amStatH m_L_latest 3 := ⟨⟨⟨by decide +kernel, by decide, by decide⟩, ⟨by decide, by decide⟩, (amM5 119 rfl (by decide +kernel)), (amM1 0 rfl (by decide +kernel))⟩, (amM5 118 rfl (by decide +kernel)), amNp_of (by decide +kernel)⟩
abbrev m_X11_latest : MI := (yX11_latest, cX11_latest, 2, (some .int), [])
set_option maxRecDepth 8000 in
theorem k_X11_latest : amInst m_X11_latest 11 1 := ⟨⟨⟨by decide +kernel, by decide, by decide⟩, ⟨by decide, by decide⟩, (amM5 123 rfl (by decide +kernel)), (amM1 1 rfl (by decide +kernel))⟩, (amM5 121 rfl (by decide +kernel)), (amM5 122 rfl (by decide +kernel)), ⟨_, rfl, rfl⟩, by decide, amNp_of (by decide +kernel)⟩
abbrev m_L_slack : MI := (yL_slack, cL_slack, 5, (some .int), [(0, 10, 13, 21), (0, 10, 17, 13)])
set_option maxRecDepth 8000 in
theorem k_L_slack : amStatH m_L_slack 4 := ⟨⟨⟨by decide +kernel, by decide, by decide⟩, ⟨by decide, by decide⟩, (amM5 126 rfl (by decide +kernel)), (amM1 0 rfl (by decide +kernel))⟩, (amM5 125 rfl (by decide +kernel)), amNp_of (by decide +kernel)⟩
abbrev m_X11_slack : MI := (yX11_slack, cX11_slack, 6, (some .int), [])
set_option maxRecDepth 8000 in
theorem k_X11_slack : amInst m_X11_slack 11 2 := ⟨⟨⟨by decide +kernel, by decide, by decide⟩, ⟨by decide, by decide⟩, (amM5 130 rfl (by decide +kernel)), (amM1 1 rfl (by decide +kernel))⟩, (amM5 128 rfl (by decide +kernel)), (amM5 129 rfl (by decide +kernel)), ⟨_, rfl, rfl⟩, by decide, amNp_of (by decide +kernel)⟩
abbrev m_X7_leastAfter : MI := (yX7_leastAfter, cX7_leastAfter, 4, (some .int), [])
set_option maxRecDepth 8000 in
theorem k_X7_leastAfter : amInst m_X7_leastAfter 7 1 := ⟨⟨⟨by decide +kernel, by decide, by decide⟩, ⟨by decide, by decide⟩, (amM5 136 rfl (by decide +kernel)), (amM1 5 rfl (by decide +kernel))⟩, (amM5 135 rfl (by decide +kernel)), (amMemS (n := 14) 51 rfl), ⟨_, rfl, rfl⟩, by decide, amNp_of (by decide +kernel)⟩
abbrev m_X7_greatestAhead : MI := (yX7_greatestAhead, cX7_greatestAhead, 6, (some .int), [])
set_option maxRecDepth 8000 in
theorem k_X7_greatestAhead : amInst m_X7_greatestAhead 7 2 := ⟨⟨⟨by decide +kernel, by decide, by decide⟩, ⟨by decide, by decide⟩, (amM5 141 rfl (by decide +kernel)), (amM1 5 rfl (by decide +kernel))⟩, (amM5 140 rfl (by decide +kernel)), (amMemS (n := 14) 52 rfl), ⟨_, rfl, rfl⟩, by decide, amNp_of (by decide +kernel)⟩
abbrev m_L_rest : MI := (yL_rest, cL_rest, 4, (some .int), [(0, 9, 12, 21)])
set_option maxRecDepth 8000 in
theorem k_L_rest : amStatH m_L_rest 3 := ⟨⟨⟨by decide +kernel, by decide, by decide⟩, ⟨by decide, by decide⟩, (amM5 145 rfl (by decide +kernel)), (amM1 0 rfl (by decide +kernel))⟩, (amM5 144 rfl (by decide +kernel)), amNp_of (by decide +kernel)⟩
abbrev m_X11_rest : MI := (yX11_rest, cX11_rest, 2, (some .int), [])
set_option maxRecDepth 8000 in
theorem k_X11_rest : amInst m_X11_rest 11 1 := ⟨⟨⟨by decide +kernel, by decide, by decide⟩, ⟨by decide, by decide⟩, (amM5 149 rfl (by decide +kernel)), (amM1 1 rfl (by decide +kernel))⟩, (amM5 147 rfl (by decide +kernel)), (amM5 148 rfl (by decide +kernel)), ⟨_, rfl, rfl⟩, by decide, amNp_of (by decide +kernel)⟩
abbrev m_L_chainAt : MI := (yL_chainAt, cL_chainAt, 4, (some .int), [(0, 9, 12, 53)])
set_option maxRecDepth 8000 in
theorem k_L_chainAt : amStatH m_L_chainAt 3 := ⟨⟨⟨by decide +kernel, by decide, by decide⟩, ⟨by decide, by decide⟩, (amM5 153 rfl (by decide +kernel)), (amM1 0 rfl (by decide +kernel))⟩, (amM5 152 rfl (by decide +kernel)), amNp_of (by decide +kernel)⟩
abbrev m_X11_chainAt : MI := (yX11_chainAt, cX11_chainAt, 3, (some .int), [])
set_option maxRecDepth 8000 in
theorem k_X11_chainAt : amInst m_X11_chainAt 11 1 := ⟨⟨⟨by decide +kernel, by decide, by decide⟩, ⟨by decide, by decide⟩, (amM5 157 rfl (by decide +kernel)), (amM1 1 rfl (by decide +kernel))⟩, (amM5 155 rfl (by decide +kernel)), (amM5 156 rfl (by decide +kernel)), ⟨_, rfl, rfl⟩, by decide, amNp_of (by decide +kernel)⟩
abbrev m_L_hours : MI := (yL_hours, cL_hours, 7, (some .int), [(0, 14, 17, 13), (0, 14, 21, 74)])
set_option maxRecDepth 8000 in
theorem k_L_hours : amStatH m_L_hours 6 := ⟨⟨⟨by decide +kernel, by decide, by decide⟩, ⟨by decide, by decide⟩, (amM5 160 rfl (by decide +kernel)), (amM1 0 rfl (by decide +kernel))⟩, (amM5 159 rfl (by decide +kernel)), amNp_of (by decide +kernel)⟩
abbrev m_X11_hours : MI := (yX11_hours, cX11_hours, 5, (some .int), [])
set_option maxRecDepth 8000 in
theorem k_X11_hours : amInst m_X11_hours 11 4 := ⟨⟨⟨by decide +kernel, by decide, by decide⟩, ⟨by decide, by decide⟩, (amM5 165 rfl (by decide +kernel)), (amM1 1 rfl (by decide +kernel))⟩, (amM5 163 rfl (by decide +kernel)), (amM5 164 rfl (by decide +kernel)), ⟨_, rfl, rfl⟩, by decide, amNp_of (by decide +kernel)⟩
abbrev m_X1_countOutside : MI := (yX1_countOutside, cX1_countOutside, 4, (some .int), [])
set_option maxRecDepth 8000 in
theorem k_X1_countOutside : amInst m_X1_countOutside 1 3 := ⟨⟨⟨by decide +kernel, by decide, by decide⟩, ⟨by decide, by decide⟩, (amM5 171 rfl (by decide +kernel)), (amM1 6 rfl (by decide +kernel))⟩, (amM5 170 rfl (by decide +kernel)), (amMemS (n := 3) 53 rfl), ⟨_, rfl, rfl⟩, by decide, amNp_of (by decide +kernel)⟩
abbrev m_X1_countWork : MI := (yX1_countWork, cX1_countWork, 6, (some .int), [])
set_option maxRecDepth 8000 in
theorem k_X1_countWork : amInst m_X1_countWork 1 3 := ⟨⟨⟨by decide +kernel, by decide, by decide⟩, ⟨by decide, by decide⟩, (amM5 175 rfl (by decide +kernel)), (amM1 6 rfl (by decide +kernel))⟩, (amM5 174 rfl (by decide +kernel)), (amMemS (n := 3) 54 rfl), ⟨_, rfl, rfl⟩, by decide, amNp_of (by decide +kernel)⟩
abbrev m_X1_tellHours : MI := (yX1_tellHours, cX1_tellHours, 6, (some .int), [])
set_option maxRecDepth 8000 in
theorem k_X1_tellHours : amInst m_X1_tellHours 1 4 := ⟨⟨⟨by decide +kernel, by decide, by decide⟩, ⟨by decide, by decide⟩, (amM5 195 rfl (by decide +kernel)), (amM1 6 rfl (by decide +kernel))⟩, (amM5 194 rfl (by decide +kernel)), (amMemS (n := 3) 55 rfl), ⟨_, rfl, rfl⟩, by decide, amNp_of (by decide +kernel)⟩
abbrev m_L_isWork : MI := (yL_isWork, cL_isWork, 5, (some .int), [(0, 17, 20, 13)])
set_option maxRecDepth 8000 in
theorem k_L_isWork : amStatH m_L_isWork 4 := ⟨⟨⟨by decide +kernel, by decide, by decide⟩, ⟨by decide, by decide⟩, (amM5 198 rfl (by decide +kernel)), (amM1 0 rfl (by decide +kernel))⟩, (amM5 197 rfl (by decide +kernel)), amNp_of (by decide +kernel)⟩
abbrev m_X11_isWork : MI := (yX11_isWork, cX11_isWork, 3, (some .boolean), [])
set_option maxRecDepth 8000 in
theorem k_X11_isWork : amInst m_X11_isWork 11 2 := ⟨⟨⟨by decide +kernel, by decide, by decide⟩, ⟨by decide, by decide⟩, (amM5 202 rfl (by decide +kernel)), (amM1 1 rfl (by decide +kernel))⟩, (amM5 200 rfl (by decide +kernel)), (amM5 201 rfl (by decide +kernel)), ⟨_, rfl, rfl⟩, by decide, amNp_of (by decide +kernel)⟩
abbrev m_L_clockBegin : MI := (yL_clockBegin, cL_clockBegin, 4, (some .int), [(0, 9, 12, 21), (0, 9, 15, 74)])
set_option maxRecDepth 8000 in
theorem k_L_clockBegin : amStatH m_L_clockBegin 3 := ⟨⟨⟨by decide +kernel, by decide, by decide⟩, ⟨by decide, by decide⟩, (amM5 206 rfl (by decide +kernel)), (amM1 0 rfl (by decide +kernel))⟩, (amM5 205 rfl (by decide +kernel)), amNp_of (by decide +kernel)⟩
abbrev m_X11_clockBegin : MI := (yX11_clockBegin, cX11_clockBegin, 2, (some .int), [])
set_option maxRecDepth 8000 in
theorem k_X11_clockBegin : amInst m_X11_clockBegin 11 1 := ⟨⟨⟨by decide +kernel, by decide, by decide⟩, ⟨by decide, by decide⟩, (amM5 210 rfl (by decide +kernel)), (amM1 1 rfl (by decide +kernel))⟩, (amM5 208 rfl (by decide +kernel)), (amM5 209 rfl (by decide +kernel)), ⟨_, rfl, rfl⟩, by decide, amNp_of (by decide +kernel)⟩
abbrev m_X1_putAll : MI := (yX1_putAll, cX1_putAll, 6, none, [])
set_option maxRecDepth 8000 in
theorem k_X1_putAll : amInst m_X1_putAll 1 2 := ⟨⟨⟨by decide +kernel, by decide, by decide⟩, ⟨by decide, by decide⟩, (amM5 214 rfl (by decide +kernel)), (amM1 6 rfl (by decide +kernel))⟩, (amM5 213 rfl (by decide +kernel)), (amMemS (n := 3) 56 rfl), ⟨_, rfl, rfl⟩, by decide, amNp_of (by decide +kernel)⟩
abbrev m_X1_letOf : MI := (yX1_letOf, cX1_letOf, 6, (some .int), [])
set_option maxRecDepth 8000 in
theorem k_X1_letOf : amInst m_X1_letOf 1 2 := ⟨⟨⟨by decide +kernel, by decide, by decide⟩, ⟨by decide, by decide⟩, (amM5 218 rfl (by decide +kernel)), (amM1 6 rfl (by decide +kernel))⟩, (amM5 217 rfl (by decide +kernel)), (amMemS (n := 3) 57 rfl), ⟨_, rfl, rfl⟩, by decide, amNp_of (by decide +kernel)⟩
abbrev m_X1_putTask : MI := (yX1_putTask, cX1_putTask, 6, none, [])
set_option maxRecDepth 8000 in
theorem k_X1_putTask : amInst m_X1_putTask 1 3 := ⟨⟨⟨by decide +kernel, by decide, by decide⟩, ⟨by decide, by decide⟩, (amM5 223 rfl (by decide +kernel)), (amM1 6 rfl (by decide +kernel))⟩, (amM5 222 rfl (by decide +kernel)), (amMemS (n := 3) 58 rfl), ⟨_, rfl, rfl⟩, by decide, amNp_of (by decide +kernel)⟩
abbrev m_X1_firstOfRow : MI := (yX1_firstOfRow, cX1_firstOfRow, 6, (some .int), [])
set_option maxRecDepth 8000 in
theorem k_X1_firstOfRow : amInst m_X1_firstOfRow 1 3 := ⟨⟨⟨by decide +kernel, by decide, by decide⟩, ⟨by decide, by decide⟩, (amM5 227 rfl (by decide +kernel)), (amM1 6 rfl (by decide +kernel))⟩, (amM5 226 rfl (by decide +kernel)), (amMemS (n := 3) 59 rfl), ⟨_, rfl, rfl⟩, by decide, amNp_of (by decide +kernel)⟩
abbrev m_X1_endOfPausing : MI := (yX1_endOfPausing, cX1_endOfPausing, 9, (some .int), [])
set_option maxRecDepth 8000 in
theorem k_X1_endOfPausing : amInst m_X1_endOfPausing 1 3 := ⟨⟨⟨by decide +kernel, by decide, by decide⟩, ⟨by decide, by decide⟩, (amM5 231 rfl (by decide +kernel)), (amM1 6 rfl (by decide +kernel))⟩, (amM5 230 rfl (by decide +kernel)), (amMemS (n := 3) 60 rfl), ⟨_, rfl, rfl⟩, by decide, amNp_of (by decide +kernel)⟩
abbrev m_X11_checkBegun : MI := (yX11_checkBegun, cX11_checkBegun, 2, none, [])
set_option maxRecDepth 8000 in
theorem k_X11_checkBegun : amInst m_X11_checkBegun 11 1 := ⟨⟨⟨by decide +kernel, by decide, by decide⟩, ⟨by decide, by decide⟩, (amM5 235 rfl (by decide +kernel)), (amM1 1 rfl (by decide +kernel))⟩, (amM5 234 rfl (by decide +kernel)), (amMemS (n := 20) 61 rfl), ⟨_, rfl, rfl⟩, by decide, amNp_of (by decide +kernel)⟩
abbrev m_L_clockEnd : MI := (yL_clockEnd, cL_clockEnd, 4, (some .int), [(0, 9, 12, 21), (0, 9, 15, 74)])
set_option maxRecDepth 8000 in
theorem k_L_clockEnd : amStatH m_L_clockEnd 3 := ⟨⟨⟨by decide +kernel, by decide, by decide⟩, ⟨by decide, by decide⟩, (amM5 239 rfl (by decide +kernel)), (amM1 0 rfl (by decide +kernel))⟩, (amM5 238 rfl (by decide +kernel)), amNp_of (by decide +kernel)⟩
abbrev m_X11_clockEnd : MI := (yX11_clockEnd, cX11_clockEnd, 2, (some .int), [])
set_option maxRecDepth 8000 in
theorem k_X11_clockEnd : amInst m_X11_clockEnd 11 1 := ⟨⟨⟨by decide +kernel, by decide, by decide⟩, ⟨by decide, by decide⟩, (amM6 3 rfl (by decide +kernel)), (amM1 1 rfl (by decide +kernel))⟩, (amM6 1 rfl (by decide +kernel)), (amM6 2 rfl (by decide +kernel)), ⟨_, rfl, rfl⟩, by decide, amNp_of (by decide +kernel)⟩
abbrev m_L_clockAll : MI := (yL_clockAll, cL_clockAll, 3, (some .int), [(0, 8, 11, 74)])
set_option maxRecDepth 8000 in
theorem k_L_clockAll : amStatH m_L_clockAll 2 := ⟨⟨⟨by decide +kernel, by decide, by decide⟩, ⟨by decide, by decide⟩, (amM6 6 rfl (by decide +kernel)), (amM1 0 rfl (by decide +kernel))⟩, (amM6 5 rfl (by decide +kernel)), amNp_of (by decide +kernel)⟩
abbrev m_X11_clockAll : MI := (yX11_clockAll, cX11_clockAll, 3, (some .int), [])
set_option maxRecDepth 8000 in
theorem k_X11_clockAll : amInst m_X11_clockAll 11 0 := ⟨⟨⟨by decide +kernel, by decide, by decide⟩, ⟨by decide, by decide⟩, (amM6 10 rfl (by decide +kernel)), (amM1 1 rfl (by decide +kernel))⟩, (amM6 8 rfl (by decide +kernel)), (amM6 9 rfl (by decide +kernel)), ⟨_, rfl, rfl⟩, by decide, amNp_of (by decide +kernel)⟩
abbrev m_L_hands : MI := (yL_hands, cL_hands, 5, (some .int), [(0, 10, 13, 13)])
set_option maxRecDepth 8000 in
theorem k_L_hands : amStatH m_L_hands 4 := ⟨⟨⟨by decide +kernel, by decide, by decide⟩, ⟨by decide, by decide⟩, (amM6 13 rfl (by decide +kernel)), (amM1 0 rfl (by decide +kernel))⟩, (amM6 12 rfl (by decide +kernel)), amNp_of (by decide +kernel)⟩
abbrev m_X11_hands : MI := (yX11_hands, cX11_hands, 4, (some .int), [])
set_option maxRecDepth 8000 in
theorem k_X11_hands : amInst m_X11_hands 11 2 := ⟨⟨⟨by decide +kernel, by decide, by decide⟩, ⟨by decide, by decide⟩, (amM6 17 rfl (by decide +kernel)), (amM1 1 rfl (by decide +kernel))⟩, (amM6 15 rfl (by decide +kernel)), (amM6 16 rfl (by decide +kernel)), ⟨_, rfl, rfl⟩, by decide, amNp_of (by decide +kernel)⟩
abbrev m_L_list : MI := (yL_list, cL_list, 4, (some .int), [(0, 9, 12, 21), (0, 9, 15, 13)])
set_option maxRecDepth 8000 in
theorem k_L_list : amStatH m_L_list 3 := ⟨⟨⟨by decide +kernel, by decide, by decide⟩, ⟨by decide, by decide⟩, (amM6 21 rfl (by decide +kernel)), (amM1 0 rfl (by decide +kernel))⟩, (amM6 20 rfl (by decide +kernel)), amNp_of (by decide +kernel)⟩
abbrev m_X11_list : MI := (yX11_list, cX11_list, 2, (some .int), [])
set_option maxRecDepth 8000 in
theorem k_X11_list : amInst m_X11_list 11 1 := ⟨⟨⟨by decide +kernel, by decide, by decide⟩, ⟨by decide, by decide⟩, (amM6 25 rfl (by decide +kernel)), (amM1 1 rfl (by decide +kernel))⟩, (amM6 23 rfl (by decide +kernel)), (amM6 24 rfl (by decide +kernel)), ⟨_, rfl, rfl⟩, by decide, amNp_of (by decide +kernel)⟩
abbrev m_X11_typedPlace : MI := (yX11_typedPlace, cX11_typedPlace, 3, (some .int), [])
set_option maxRecDepth 8000 in
theorem k_X11_typedPlace : amInst m_X11_typedPlace 11 1 := ⟨⟨⟨by decide +kernel, by decide, by decide⟩, ⟨by decide, by decide⟩, (amM6 29 rfl (by decide +kernel)), (amM1 1 rfl (by decide +kernel))⟩, (amM6 28 rfl (by decide +kernel)), (amMemS (n := 20) 62 rfl), ⟨_, rfl, rfl⟩, by decide, amNp_of (by decide +kernel)⟩
abbrev m_L_listed : MI := (yL_listed, cL_listed, 5, (some .int), [(0, 10, 13, 13), (0, 10, 17, 53)])
set_option maxRecDepth 8000 in
theorem k_L_listed : amStatH m_L_listed 4 := ⟨⟨⟨by decide +kernel, by decide, by decide⟩, ⟨by decide, by decide⟩, (amM6 33 rfl (by decide +kernel)), (amM1 0 rfl (by decide +kernel))⟩, (amM6 32 rfl (by decide +kernel)), amNp_of (by decide +kernel)⟩
abbrev m_X11_listed : MI := (yX11_listed, cX11_listed, 3, (some .int), [])
set_option maxRecDepth 8000 in
theorem k_X11_listed : amInst m_X11_listed 11 2 := ⟨⟨⟨by decide +kernel, by decide, by decide⟩, ⟨by decide, by decide⟩, (amM6 37 rfl (by decide +kernel)), (amM1 1 rfl (by decide +kernel))⟩, (amM6 35 rfl (by decide +kernel)), (amM6 36 rfl (by decide +kernel)), ⟨_, rfl, rfl⟩, by decide, amNp_of (by decide +kernel)⟩
abbrev m_X11_checkRule : MI := (yX11_checkRule, cX11_checkRule, 2, none, [])
set_option maxRecDepth 8000 in
theorem k_X11_checkRule : amInst m_X11_checkRule 11 1 := ⟨⟨⟨by decide +kernel, by decide, by decide⟩, ⟨by decide, by decide⟩, (amM6 41 rfl (by decide +kernel)), (amM1 1 rfl (by decide +kernel))⟩, (amM6 40 rfl (by decide +kernel)), (amMemS (n := 20) 63 rfl), ⟨_, rfl, rfl⟩, by decide, amNp_of (by decide +kernel)⟩
abbrev m_X11_makeList : MI := (yX11_makeList, cX11_makeList, 4, none, [])
set_option maxRecDepth 8000 in
theorem k_X11_makeList : amInst m_X11_makeList 11 1 := ⟨⟨⟨by decide +kernel, by decide, by decide⟩, ⟨by decide, by decide⟩, (amM6 47 rfl (by decide +kernel)), (amM1 1 rfl (by decide +kernel))⟩, (amM6 46 rfl (by decide +kernel)), (amMemS (n := 20) 64 rfl), ⟨_, rfl, rfl⟩, by decide, amNp_of (by decide +kernel)⟩
abbrev m_X11_listKey : MI := (yX11_listKey, cX11_listKey, 3, (some .int), [])
set_option maxRecDepth 8000 in
theorem k_X11_listKey : amInst m_X11_listKey 11 2 := ⟨⟨⟨by decide +kernel, by decide, by decide⟩, ⟨by decide, by decide⟩, (amM6 51 rfl (by decide +kernel)), (amM1 1 rfl (by decide +kernel))⟩, (amM6 50 rfl (by decide +kernel)), (amMemS (n := 20) 65 rfl), ⟨_, rfl, rfl⟩, by decide, amNp_of (by decide +kernel)⟩
abbrev m_L_plan : MI := (yL_plan, cL_plan, 5, (some .int), [(0, 10, 13, 13)])
set_option maxRecDepth 8000 in
theorem k_L_plan : amStatH m_L_plan 4 := ⟨⟨⟨by decide +kernel, by decide, by decide⟩, ⟨by decide, by decide⟩, (amM6 54 rfl (by decide +kernel)), (amM1 0 rfl (by decide +kernel))⟩, (amM6 53 rfl (by decide +kernel)), amNp_of (by decide +kernel)⟩
abbrev m_X11_plan : MI := (yX11_plan, cX11_plan, 3, (some .int), [])
set_option maxRecDepth 8000 in
theorem k_X11_plan : amInst m_X11_plan 11 2 := ⟨⟨⟨by decide +kernel, by decide, by decide⟩, ⟨by decide, by decide⟩, (amM6 58 rfl (by decide +kernel)), (amM1 1 rfl (by decide +kernel))⟩, (amM6 56 rfl (by decide +kernel)), (amM6 57 rfl (by decide +kernel)), ⟨_, rfl, rfl⟩, by decide, amNp_of (by decide +kernel)⟩
abbrev m_X9_takeOver : MI := (yX9_takeOver, cX9_takeOver, 3, none, [])
set_option maxRecDepth 8000 in
theorem k_X9_takeOver : amInst m_X9_takeOver 9 2 := ⟨⟨⟨by decide +kernel, by decide, by decide⟩, ⟨by decide, by decide⟩, (amM6 63 rfl (by decide +kernel)), (amM1 8 rfl (by decide +kernel))⟩, (amM6 62 rfl (by decide +kernel)), (amMemS (n := 15) 66 rfl), ⟨_, rfl, rfl⟩, by decide, amNp_of (by decide +kernel)⟩
abbrev m_X9_makeByFreeHands : MI := (yX9_makeByFreeHands, cX9_makeByFreeHands, 7, none, [])
set_option maxRecDepth 8000 in
theorem k_X9_makeByFreeHands : amInst m_X9_makeByFreeHands 9 2 := ⟨⟨⟨by decide +kernel, by decide, by decide⟩, ⟨by decide, by decide⟩, (amM6 68 rfl (by decide +kernel)), (amM1 8 rfl (by decide +kernel))⟩, (amM6 67 rfl (by decide +kernel)), (amMemS (n := 15) 67 rfl), ⟨_, rfl, rfl⟩, by decide, amNp_of (by decide +kernel)⟩
abbrev m_X9_beginAnew : MI := (yX9_beginAnew, cX9_beginAnew, 3, none, [])
set_option maxRecDepth 8000 in
theorem k_X9_beginAnew : amInst m_X9_beginAnew 9 1 := ⟨⟨⟨by decide +kernel, by decide, by decide⟩, ⟨by decide, by decide⟩, (amM6 72 rfl (by decide +kernel)), (amM1 8 rfl (by decide +kernel))⟩, (amM6 71 rfl (by decide +kernel)), (amMemS (n := 15) 68 rfl), ⟨_, rfl, rfl⟩, by decide, amNp_of (by decide +kernel)⟩
abbrev m_X9_putIfFree : MI := (yX9_putIfFree, cX9_putIfFree, 7, none, [])
set_option maxRecDepth 8000 in
theorem k_X9_putIfFree : amInst m_X9_putIfFree 9 3 := ⟨⟨⟨by decide +kernel, by decide, by decide⟩, ⟨by decide, by decide⟩, (amM6 77 rfl (by decide +kernel)), (amM1 8 rfl (by decide +kernel))⟩, (amM6 76 rfl (by decide +kernel)), (amMemS (n := 15) 69 rfl), ⟨_, rfl, rfl⟩, by decide, amNp_of (by decide +kernel)⟩
abbrev m_X9_freeHand : MI := (yX9_freeHand, cX9_freeHand, 8, (some .int), [])
set_option maxRecDepth 8000 in
theorem k_X9_freeHand : amInst m_X9_freeHand 9 3 := ⟨⟨⟨by decide +kernel, by decide, by decide⟩, ⟨by decide, by decide⟩, (amM6 81 rfl (by decide +kernel)), (amM1 8 rfl (by decide +kernel))⟩, (amM6 80 rfl (by decide +kernel)), (amMemS (n := 15) 70 rfl), ⟨_, rfl, rfl⟩, by decide, amNp_of (by decide +kernel)⟩
abbrev m_X9_nextTime : MI := (yX9_nextTime, cX9_nextTime, 6, (some .int), [])
set_option maxRecDepth 8000 in
theorem k_X9_nextTime : amInst m_X9_nextTime 9 1 := ⟨⟨⟨by decide +kernel, by decide, by decide⟩, ⟨by decide, by decide⟩, (amM6 86 rfl (by decide +kernel)), (amM1 8 rfl (by decide +kernel))⟩, (amM6 85 rfl (by decide +kernel)), (amMemS (n := 15) 71 rfl), ⟨_, rfl, rfl⟩, by decide, amNp_of (by decide +kernel)⟩
abbrev m_X9_makeOneByOne : MI := (yX9_makeOneByOne, cX9_makeOneByOne, 7, none, [])
set_option maxRecDepth 8000 in
theorem k_X9_makeOneByOne : amInst m_X9_makeOneByOne 9 2 := ⟨⟨⟨by decide +kernel, by decide, by decide⟩, ⟨by decide, by decide⟩, (amM6 90 rfl (by decide +kernel)), (amM1 8 rfl (by decide +kernel))⟩, (amM6 89 rfl (by decide +kernel)), (amMemS (n := 15) 72 rfl), ⟨_, rfl, rfl⟩, by decide, amNp_of (by decide +kernel)⟩
abbrev m_X9_firstUnput : MI := (yX9_firstUnput, cX9_firstUnput, 3, (some .int), [])
set_option maxRecDepth 8000 in
theorem k_X9_firstUnput : amInst m_X9_firstUnput 9 1 := ⟨⟨⟨by decide +kernel, by decide, by decide⟩, ⟨by decide, by decide⟩, (amM6 94 rfl (by decide +kernel)), (amM1 8 rfl (by decide +kernel))⟩, (amM6 93 rfl (by decide +kernel)), (amMemS (n := 15) 73 rfl), ⟨_, rfl, rfl⟩, by decide, amNp_of (by decide +kernel)⟩
abbrev m_X9_nextEnd : MI := (yX9_nextEnd, cX9_nextEnd, 4, (some .int), [])
set_option maxRecDepth 8000 in
theorem k_X9_nextEnd : amInst m_X9_nextEnd 9 1 := ⟨⟨⟨by decide +kernel, by decide, by decide⟩, ⟨by decide, by decide⟩, (amM6 98 rfl (by decide +kernel)), (amM1 8 rfl (by decide +kernel))⟩, (amM6 97 rfl (by decide +kernel)), (amMemS (n := 15) 74 rfl), ⟨_, rfl, rfl⟩, by decide, amNp_of (by decide +kernel)⟩
abbrev m_X9_makeProof : MI := (yX9_makeProof, cX9_makeProof, 6, none, [])
set_option maxRecDepth 8000 in
theorem k_X9_makeProof : amInst m_X9_makeProof 9 1 := ⟨⟨⟨by decide +kernel, by decide, by decide⟩, ⟨by decide, by decide⟩, (amM6 102 rfl (by decide +kernel)), (amM1 8 rfl (by decide +kernel))⟩, (amM6 101 rfl (by decide +kernel)), (amMemS (n := 15) 75 rfl), ⟨_, rfl, rfl⟩, by decide, amNp_of (by decide +kernel)⟩
abbrev m_X9_lastNeed : MI := (yX9_lastNeed, cX9_lastNeed, 8, (some .int), [])
set_option maxRecDepth 8000 in
theorem k_X9_lastNeed : amInst m_X9_lastNeed 9 2 := ⟨⟨⟨by decide +kernel, by decide, by decide⟩, ⟨by decide, by decide⟩, (amM6 106 rfl (by decide +kernel)), (amM1 8 rfl (by decide +kernel))⟩, (amM6 105 rfl (by decide +kernel)), (amMemS (n := 15) 76 rfl), ⟨_, rfl, rfl⟩, by decide, amNp_of (by decide +kernel)⟩
abbrev m_L_planBegin : MI := (yL_planBegin, cL_planBegin, 4, (some .int), [(0, 9, 12, 15), (0, 9, 15, 21)])
set_option maxRecDepth 8000 in
theorem k_L_planBegin : amStatH m_L_planBegin 3 := ⟨⟨⟨by decide +kernel, by decide, by decide⟩, ⟨by decide, by decide⟩, (amM6 109 rfl (by decide +kernel)), (amM1 0 rfl (by decide +kernel))⟩, (amM6 108 rfl (by decide +kernel)), amNp_of (by decide +kernel)⟩
abbrev m_X11_planBegin : MI := (yX11_planBegin, cX11_planBegin, 2, (some .int), [])
set_option maxRecDepth 8000 in
theorem k_X11_planBegin : amInst m_X11_planBegin 11 1 := ⟨⟨⟨by decide +kernel, by decide, by decide⟩, ⟨by decide, by decide⟩, (amM6 113 rfl (by decide +kernel)), (amM1 1 rfl (by decide +kernel))⟩, (amM6 111 rfl (by decide +kernel)), (amM6 112 rfl (by decide +kernel)), ⟨_, rfl, rfl⟩, by decide, amNp_of (by decide +kernel)⟩
abbrev m_X11_checkPlan : MI := (yX11_checkPlan, cX11_checkPlan, 1, none, [])
set_option maxRecDepth 8000 in
theorem k_X11_checkPlan : amInst m_X11_checkPlan 11 0 := ⟨⟨⟨by decide +kernel, by decide, by decide⟩, ⟨by decide, by decide⟩, (amM6 117 rfl (by decide +kernel)), (amM1 1 rfl (by decide +kernel))⟩, (amM6 116 rfl (by decide +kernel)), (amMemS (n := 20) 77 rfl), ⟨_, rfl, rfl⟩, by decide, amNp_of (by decide +kernel)⟩
abbrev m_L_planHand : MI := (yL_planHand, cL_planHand, 4, (some .int), [(0, 9, 12, 15), (0, 9, 15, 21)])
set_option maxRecDepth 8000 in
theorem k_L_planHand : amStatH m_L_planHand 3 := ⟨⟨⟨by decide +kernel, by decide, by decide⟩, ⟨by decide, by decide⟩, (amM6 121 rfl (by decide +kernel)), (amM1 0 rfl (by decide +kernel))⟩, (amM6 120 rfl (by decide +kernel)), amNp_of (by decide +kernel)⟩
abbrev m_X11_planHand : MI := (yX11_planHand, cX11_planHand, 2, (some .int), [])
set_option maxRecDepth 8000 in
theorem k_X11_planHand : amInst m_X11_planHand 11 1 := ⟨⟨⟨by decide +kernel, by decide, by decide⟩, ⟨by decide, by decide⟩, (amM6 125 rfl (by decide +kernel)), (amM1 1 rfl (by decide +kernel))⟩, (amM6 123 rfl (by decide +kernel)), (amM6 124 rfl (by decide +kernel)), ⟨_, rfl, rfl⟩, by decide, amNp_of (by decide +kernel)⟩
abbrev m_L_planEnd : MI := (yL_planEnd, cL_planEnd, 3, (some .int), [(0, 8, 11, 15)])
set_option maxRecDepth 8000 in
theorem k_L_planEnd : amStatH m_L_planEnd 2 := ⟨⟨⟨by decide +kernel, by decide, by decide⟩, ⟨by decide, by decide⟩, (amM6 128 rfl (by decide +kernel)), (amM1 0 rfl (by decide +kernel))⟩, (amM6 127 rfl (by decide +kernel)), amNp_of (by decide +kernel)⟩
abbrev m_X11_planEnd : MI := (yX11_planEnd, cX11_planEnd, 1, (some .int), [])
set_option maxRecDepth 8000 in
theorem k_X11_planEnd : amInst m_X11_planEnd 11 0 := ⟨⟨⟨by decide +kernel, by decide, by decide⟩, ⟨by decide, by decide⟩, (amM6 132 rfl (by decide +kernel)), (amM1 1 rfl (by decide +kernel))⟩, (amM6 130 rfl (by decide +kernel)), (amM6 131 rfl (by decide +kernel)), ⟨_, rfl, rfl⟩, by decide, amNp_of (by decide +kernel)⟩
abbrev m_L_busy : MI := (yL_busy, cL_busy, 5, (some .int), [(0, 10, 13, 15), (0, 10, 17, 13)])
set_option maxRecDepth 8000 in
theorem k_L_busy : amStatH m_L_busy 4 := ⟨⟨⟨by decide +kernel, by decide, by decide⟩, ⟨by decide, by decide⟩, (amM6 135 rfl (by decide +kernel)), (amM1 0 rfl (by decide +kernel))⟩, (amM6 134 rfl (by decide +kernel)), amNp_of (by decide +kernel)⟩
abbrev m_X11_busy : MI := (yX11_busy, cX11_busy, 3, (some .int), [])
set_option maxRecDepth 8000 in
theorem k_X11_busy : amInst m_X11_busy 11 2 := ⟨⟨⟨by decide +kernel, by decide, by decide⟩, ⟨by decide, by decide⟩, (amM6 139 rfl (by decide +kernel)), (amM1 1 rfl (by decide +kernel))⟩, (amM6 137 rfl (by decide +kernel)), (amM6 138 rfl (by decide +kernel)), ⟨_, rfl, rfl⟩, by decide, amNp_of (by decide +kernel)⟩
abbrev m_L_proofLength : MI := (yL_proofLength, cL_proofLength, 3, (some .int), [(0, 8, 11, 15)])
set_option maxRecDepth 8000 in
theorem k_L_proofLength : amStatH m_L_proofLength 2 := ⟨⟨⟨by decide +kernel, by decide, by decide⟩, ⟨by decide, by decide⟩, (amM6 144 rfl (by decide +kernel)), (amM1 0 rfl (by decide +kernel))⟩, (amM6 143 rfl (by decide +kernel)), amNp_of (by decide +kernel)⟩
abbrev m_X11_proofLength : MI := (yX11_proofLength, cX11_proofLength, 1, (some .int), [])
set_option maxRecDepth 8000 in
theorem k_X11_proofLength : amInst m_X11_proofLength 11 0 := ⟨⟨⟨by decide +kernel, by decide, by decide⟩, ⟨by decide, by decide⟩, (amM6 148 rfl (by decide +kernel)), (amM1 1 rfl (by decide +kernel))⟩, (amM6 146 rfl (by decide +kernel)), (amM6 147 rfl (by decide +kernel)), ⟨_, rfl, rfl⟩, by decide, amNp_of (by decide +kernel)⟩
abbrev m_L_proofAt : MI := (yL_proofAt, cL_proofAt, 4, (some .int), [(0, 9, 12, 15), (0, 9, 15, 53)])
set_option maxRecDepth 8000 in
theorem k_L_proofAt : amStatH m_L_proofAt 3 := ⟨⟨⟨by decide +kernel, by decide, by decide⟩, ⟨by decide, by decide⟩, (amM6 151 rfl (by decide +kernel)), (amM1 0 rfl (by decide +kernel))⟩, (amM6 150 rfl (by decide +kernel)), amNp_of (by decide +kernel)⟩
abbrev m_X11_proofAt : MI := (yX11_proofAt, cX11_proofAt, 2, (some .int), [])
set_option maxRecDepth 8000 in
theorem k_X11_proofAt : amInst m_X11_proofAt 11 1 := ⟨⟨⟨by decide +kernel, by decide, by decide⟩, ⟨by decide, by decide⟩, (amM6 155 rfl (by decide +kernel)), (amM1 1 rfl (by decide +kernel))⟩, (amM6 153 rfl (by decide +kernel)), (amM6 154 rfl (by decide +kernel)), ⟨_, rfl, rfl⟩, by decide, amNp_of (by decide +kernel)⟩
abbrev m_L_isProved : MI := (yL_isProved, cL_isProved, 3, (some .int), [(0, 15, 18, 15)])
set_option maxRecDepth 8000 in
theorem k_L_isProved : amStatH m_L_isProved 2 := ⟨⟨⟨by decide +kernel, by decide, by decide⟩, ⟨by decide, by decide⟩, (amM6 158 rfl (by decide +kernel)), (amM1 0 rfl (by decide +kernel))⟩, (amM6 157 rfl (by decide +kernel)), amNp_of (by decide +kernel)⟩
abbrev m_X11_isProved : MI := (yX11_isProved, cX11_isProved, 1, (some .boolean), [])
set_option maxRecDepth 8000 in
theorem k_X11_isProved : amInst m_X11_isProved 11 0 := ⟨⟨⟨by decide +kernel, by decide, by decide⟩, ⟨by decide, by decide⟩, (amM6 162 rfl (by decide +kernel)), (amM1 1 rfl (by decide +kernel))⟩, (amM6 160 rfl (by decide +kernel)), (amM6 161 rfl (by decide +kernel)), ⟨_, rfl, rfl⟩, by decide, amNp_of (by decide +kernel)⟩
abbrev m_L_best : MI := (yL_best, cL_best, 4, (some .int), [(0, 9, 12, 13), (0, 9, 15, 74)])
set_option maxRecDepth 8000 in
theorem k_L_best : amStatH m_L_best 3 := ⟨⟨⟨by decide +kernel, by decide, by decide⟩, ⟨by decide, by decide⟩, (amM6 165 rfl (by decide +kernel)), (amM1 0 rfl (by decide +kernel))⟩, (amM6 164 rfl (by decide +kernel)), amNp_of (by decide +kernel)⟩
abbrev m_X11_best : MI := (yX11_best, cX11_best, 2, (some .int), [])
set_option maxRecDepth 8000 in
theorem k_X11_best : amInst m_X11_best 11 1 := ⟨⟨⟨by decide +kernel, by decide, by decide⟩, ⟨by decide, by decide⟩, (amM6 169 rfl (by decide +kernel)), (amM1 1 rfl (by decide +kernel))⟩, (amM6 167 rfl (by decide +kernel)), (amM6 168 rfl (by decide +kernel)), ⟨_, rfl, rfl⟩, by decide, amNp_of (by decide +kernel)⟩
abbrev m_X11_checkLikeHands : MI := (yX11_checkLikeHands, cX11_checkLikeHands, 2, none, [])
set_option maxRecDepth 8000 in
theorem k_X11_checkLikeHands : amInst m_X11_checkLikeHands 11 1 := ⟨⟨⟨by decide +kernel, by decide, by decide⟩, ⟨by decide, by decide⟩, (amM6 173 rfl (by decide +kernel)), (amM1 1 rfl (by decide +kernel))⟩, (amM6 172 rfl (by decide +kernel)), (amMemS (n := 20) 78 rfl), ⟨_, rfl, rfl⟩, by decide, amNp_of (by decide +kernel)⟩
abbrev m_X5_leastEndOf : MI := (yX5_leastEndOf, cX5_leastEndOf, 4, (some .int), [])
set_option maxRecDepth 8000 in
theorem k_X5_leastEndOf : amInst m_X5_leastEndOf 5 2 := ⟨⟨⟨by decide +kernel, by decide, by decide⟩, ⟨by decide, by decide⟩, (amM6 179 rfl (by decide +kernel)), (amM1 9 rfl (by decide +kernel))⟩, (amM6 178 rfl (by decide +kernel)), (amMemS (n := 7) 79 rfl), ⟨_, rfl, rfl⟩, by decide, amNp_of (by decide +kernel)⟩
abbrev m_X5_putNext : MI := (yX5_putNext, cX5_putNext, 7, none, [])
set_option maxRecDepth 8000 in
theorem k_X5_putNext : amStat m_X5_putNext 4 := ⟨⟨⟨by decide +kernel, by decide, by decide⟩, ⟨by decide, by decide⟩, (amM6 185 rfl (by decide +kernel)), (amM1 9 rfl (by decide +kernel))⟩, (amM6 184 rfl (by decide +kernel)), amNp_of (by decide +kernel)⟩
abbrev m_X5_lastOfEnds : MI := (yX5_lastOfEnds, cX5_lastOfEnds, 3, (some .int), [])
set_option maxRecDepth 8000 in
theorem k_X5_lastOfEnds : amInst m_X5_lastOfEnds 5 0 := ⟨⟨⟨by decide +kernel, by decide, by decide⟩, ⟨by decide, by decide⟩, (amM6 189 rfl (by decide +kernel)), (amM1 9 rfl (by decide +kernel))⟩, (amM6 188 rfl (by decide +kernel)), (amMemS (n := 7) 80 rfl), ⟨_, rfl, rfl⟩, by decide, amNp_of (by decide +kernel)⟩
abbrev m_X5_firstBegin : MI := (yX5_firstBegin, cX5_firstBegin, 5, (some .int), [])
set_option maxRecDepth 8000 in
theorem k_X5_firstBegin : amInst m_X5_firstBegin 5 1 := ⟨⟨⟨by decide +kernel, by decide, by decide⟩, ⟨by decide, by decide⟩, (amM6 194 rfl (by decide +kernel)), (amM1 9 rfl (by decide +kernel))⟩, (amM6 193 rfl (by decide +kernel)), (amMemS (n := 7) 81 rfl), ⟨_, rfl, rfl⟩, by decide, amNp_of (by decide +kernel)⟩
abbrev m_X5_beginOf : MI := (yX5_beginOf, cX5_beginOf, 6, (some .int), [])
set_option maxRecDepth 8000 in
theorem k_X5_beginOf : amInst m_X5_beginOf 5 2 := ⟨⟨⟨by decide +kernel, by decide, by decide⟩, ⟨by decide, by decide⟩, (amM6 199 rfl (by decide +kernel)), (amM1 9 rfl (by decide +kernel))⟩, (amM6 198 rfl (by decide +kernel)), (amMemS (n := 7) 82 rfl), ⟨_, rfl, rfl⟩, by decide, amNp_of (by decide +kernel)⟩
abbrev m_X5_countAt : MI := (yX5_countAt, cX5_countAt, 4, (some .int), [])
set_option maxRecDepth 8000 in
theorem k_X5_countAt : amInst m_X5_countAt 5 1 := ⟨⟨⟨by decide +kernel, by decide, by decide⟩, ⟨by decide, by decide⟩, (amM6 203 rfl (by decide +kernel)), (amM1 9 rfl (by decide +kernel))⟩, (amM6 202 rfl (by decide +kernel)), (amMemS (n := 7) 83 rfl), ⟨_, rfl, rfl⟩, by decide, amNp_of (by decide +kernel)⟩
abbrev m_X5_nextEnd : MI := (yX5_nextEnd, cX5_nextEnd, 4, (some .int), [])
set_option maxRecDepth 8000 in
theorem k_X5_nextEnd : amInst m_X5_nextEnd 5 1 := ⟨⟨⟨by decide +kernel, by decide, by decide⟩, ⟨by decide, by decide⟩, (amM6 207 rfl (by decide +kernel)), (amM1 9 rfl (by decide +kernel))⟩, (amM6 206 rfl (by decide +kernel)), (amMemS (n := 7) 84 rfl), ⟨_, rfl, rfl⟩, by decide, amNp_of (by decide +kernel)⟩
abbrev m_L_bestByLists : MI := (yL_bestByLists, cL_bestByLists, 4, (some .int), [(0, 9, 12, 13), (0, 9, 15, 74)])
set_option maxRecDepth 8000 in
theorem k_L_bestByLists : amStatH m_L_bestByLists 3 := ⟨⟨⟨by decide +kernel, by decide, by decide⟩, ⟨by decide, by decide⟩, (amM6 211 rfl (by decide +kernel)), (amM1 0 rfl (by decide +kernel))⟩, (amM6 210 rfl (by decide +kernel)), amNp_of (by decide +kernel)⟩
abbrev m_X11_bestByLists : MI := (yX11_bestByLists, cX11_bestByLists, 2, (some .int), [])
set_option maxRecDepth 8000 in
theorem k_X11_bestByLists : amInst m_X11_bestByLists 11 1 := ⟨⟨⟨by decide +kernel, by decide, by decide⟩, ⟨by decide, by decide⟩, (amM6 215 rfl (by decide +kernel)), (amM1 1 rfl (by decide +kernel))⟩, (amM6 213 rfl (by decide +kernel)), (amM6 214 rfl (by decide +kernel)), ⟨_, rfl, rfl⟩, by decide, amNp_of (by decide +kernel)⟩
abbrev m_L_anomaly : MI := (yL_anomaly, cL_anomaly, 5, (some .int), [(0, 10, 13, 13)])
set_option maxRecDepth 8000 in
theorem k_L_anomaly : amStatH m_L_anomaly 4 := ⟨⟨⟨by decide +kernel, by decide, by decide⟩, ⟨by decide, by decide⟩, (amM6 218 rfl (by decide +kernel)), (amM1 0 rfl (by decide +kernel))⟩, (amM6 217 rfl (by decide +kernel)), amNp_of (by decide +kernel)⟩
abbrev m_X11_anomaly : MI := (yX11_anomaly, cX11_anomaly, 6, (some .int), [])
set_option maxRecDepth 8000 in
theorem k_X11_anomaly : amInst m_X11_anomaly 11 2 := ⟨⟨⟨by decide +kernel, by decide, by decide⟩, ⟨by decide, by decide⟩, (amM6 222 rfl (by decide +kernel)), (amM1 1 rfl (by decide +kernel))⟩, (amM6 220 rfl (by decide +kernel)), (amM6 221 rfl (by decide +kernel)), ⟨_, rfl, rfl⟩, by decide, amNp_of (by decide +kernel)⟩
abbrev m_X11_changesOf : MI := (yX11_changesOf, cX11_changesOf, 2, (some .int), [])
set_option maxRecDepth 8000 in
theorem k_X11_changesOf : amInst m_X11_changesOf 11 1 := ⟨⟨⟨by decide +kernel, by decide, by decide⟩, ⟨by decide, by decide⟩, (amM6 227 rfl (by decide +kernel)), (amM1 1 rfl (by decide +kernel))⟩, (amM6 226 rfl (by decide +kernel)), (amMemS (n := 20) 85 rfl), ⟨_, rfl, rfl⟩, by decide, amNp_of (by decide +kernel)⟩
abbrev m_X11_endAfterChange : MI := (yX11_endAfterChange, cX11_endAfterChange, 3, (some .int), [])
set_option maxRecDepth 8000 in
theorem k_X11_endAfterChange : amInst m_X11_endAfterChange 11 2 := ⟨⟨⟨by decide +kernel, by decide, by decide⟩, ⟨by decide, by decide⟩, (amM6 231 rfl (by decide +kernel)), (amM1 1 rfl (by decide +kernel))⟩, (amM6 230 rfl (by decide +kernel)), (amMemS (n := 20) 86 rfl), ⟨_, rfl, rfl⟩, by decide, amNp_of (by decide +kernel)⟩
abbrev m_L_leastPeak : MI := (yL_leastPeak, cL_leastPeak, 3, (some .int), [(0, 8, 11, 74)])
set_option maxRecDepth 8000 in
theorem k_L_leastPeak : amStatH m_L_leastPeak 2 := ⟨⟨⟨by decide +kernel, by decide, by decide⟩, ⟨by decide, by decide⟩, (amM6 234 rfl (by decide +kernel)), (amM1 0 rfl (by decide +kernel))⟩, (amM6 233 rfl (by decide +kernel)), amNp_of (by decide +kernel)⟩
abbrev m_X11_leastPeak : MI := (yX11_leastPeak, cX11_leastPeak, 1, (some .int), [])
set_option maxRecDepth 8000 in
theorem k_X11_leastPeak : amInst m_X11_leastPeak 11 0 := ⟨⟨⟨by decide +kernel, by decide, by decide⟩, ⟨by decide, by decide⟩, (amM6 238 rfl (by decide +kernel)), (amM1 1 rfl (by decide +kernel))⟩, (amM6 236 rfl (by decide +kernel)), (amM6 237 rfl (by decide +kernel)), ⟨_, rfl, rfl⟩, by decide, amNp_of (by decide +kernel)⟩
abbrev m_X4_areFew : MI := (yX4_areFew, cX4_areFew, 4, (some .boolean), [])
set_option maxRecDepth 8000 in
theorem k_X4_areFew : amInst m_X4_areFew 4 0 := ⟨⟨⟨by decide +kernel, by decide, by decide⟩, ⟨by decide, by decide⟩, (amM7 2 rfl (by decide +kernel)), (amM1 10 rfl (by decide +kernel))⟩, (amM7 1 rfl (by decide +kernel)), (amMemS (n := 4) 87 rfl), ⟨_, rfl, rfl⟩, by decide, amNp_of (by decide +kernel)⟩
abbrev m_X4_leastOf : MI := (yX4_leastOf, cX4_leastOf, 1, (some .int), [])
set_option maxRecDepth 8000 in
theorem k_X4_leastOf : amInst m_X4_leastOf 4 0 := ⟨⟨⟨by decide +kernel, by decide, by decide⟩, ⟨by decide, by decide⟩, (amM7 9 rfl (by decide +kernel)), (amM1 10 rfl (by decide +kernel))⟩, (amM7 8 rfl (by decide +kernel)), (amMemS (n := 4) 88 rfl), ⟨_, rfl, rfl⟩, by decide, amNp_of (by decide +kernel)⟩
abbrev m_X4_putNext : MI := (yX4_putNext, cX4_putNext, 6, none, [])
set_option maxRecDepth 8000 in
theorem k_X4_putNext : amStat m_X4_putNext 3 := ⟨⟨⟨by decide +kernel, by decide, by decide⟩, ⟨by decide, by decide⟩, (amM7 13 rfl (by decide +kernel)), (amM1 10 rfl (by decide +kernel))⟩, (amM7 12 rfl (by decide +kernel)), amNp_of (by decide +kernel)⟩
abbrev m_X4_letOf : MI := (yX4_letOf, cX4_letOf, 5, (some .int), [])
set_option maxRecDepth 8000 in
theorem k_X4_letOf : amInst m_X4_letOf 4 1 := ⟨⟨⟨by decide +kernel, by decide, by decide⟩, ⟨by decide, by decide⟩, (amM7 17 rfl (by decide +kernel)), (amM1 10 rfl (by decide +kernel))⟩, (amM7 16 rfl (by decide +kernel)), (amMemS (n := 4) 89 rfl), ⟨_, rfl, rfl⟩, by decide, amNp_of (by decide +kernel)⟩
abbrev m_X4_peakWith : MI := (yX4_peakWith, cX4_peakWith, 5, (some .int), [])
set_option maxRecDepth 8000 in
theorem k_X4_peakWith : amInst m_X4_peakWith 4 1 := ⟨⟨⟨by decide +kernel, by decide, by decide⟩, ⟨by decide, by decide⟩, (amM7 22 rfl (by decide +kernel)), (amM1 10 rfl (by decide +kernel))⟩, (amM7 21 rfl (by decide +kernel)), (amMemS (n := 4) 90 rfl), ⟨_, rfl, rfl⟩, by decide, amNp_of (by decide +kernel)⟩
abbrev m_X4_countAt : MI := (yX4_countAt, cX4_countAt, 4, (some .int), [])
set_option maxRecDepth 8000 in
theorem k_X4_countAt : amInst m_X4_countAt 4 1 := ⟨⟨⟨by decide +kernel, by decide, by decide⟩, ⟨by decide, by decide⟩, (amM7 26 rfl (by decide +kernel)), (amM1 10 rfl (by decide +kernel))⟩, (amM7 25 rfl (by decide +kernel)), (amMemS (n := 4) 91 rfl), ⟨_, rfl, rfl⟩, by decide, amNp_of (by decide +kernel)⟩
abbrev m_L_shorten : MI := (yL_shorten, cL_shorten, 6, (some .int), [(0, 12, 15, 21), (0, 12, 19, 13)])
set_option maxRecDepth 8000 in
theorem k_L_shorten : amStatH m_L_shorten 5 := ⟨⟨⟨by decide +kernel, by decide, by decide⟩, ⟨by decide, by decide⟩, (amM7 29 rfl (by decide +kernel)), (amM1 0 rfl (by decide +kernel))⟩, (amM7 28 rfl (by decide +kernel)), amNp_of (by decide +kernel)⟩
abbrev m_X11_shorten : MI := (yX11_shorten, cX11_shorten, 5, (some .int), [])
set_option maxRecDepth 8000 in
theorem k_X11_shorten : amInst m_X11_shorten 11 3 := ⟨⟨⟨by decide +kernel, by decide, by decide⟩, ⟨by decide, by decide⟩, (amM7 33 rfl (by decide +kernel)), (amM1 1 rfl (by decide +kernel))⟩, (amM7 31 rfl (by decide +kernel)), (amM7 32 rfl (by decide +kernel)), ⟨_, rfl, rfl⟩, by decide, amNp_of (by decide +kernel)⟩
abbrev m_L_leastCost : MI := (yL_leastCost, cL_leastCost, 4, (some .int), [(0, 9, 12, 21), (0, 9, 15, 74)])
set_option maxRecDepth 8000 in
theorem k_L_leastCost : amStatH m_L_leastCost 3 := ⟨⟨⟨by decide +kernel, by decide, by decide⟩, ⟨by decide, by decide⟩, (amM7 38 rfl (by decide +kernel)), (amM1 0 rfl (by decide +kernel))⟩, (amM7 37 rfl (by decide +kernel)), amNp_of (by decide +kernel)⟩
abbrev m_X11_leastCost : MI := (yX11_leastCost, cX11_leastCost, 2, (some .int), [])
set_option maxRecDepth 8000 in
theorem k_X11_leastCost : amInst m_X11_leastCost 11 1 := ⟨⟨⟨by decide +kernel, by decide, by decide⟩, ⟨by decide, by decide⟩, (amM7 42 rfl (by decide +kernel)), (amM1 1 rfl (by decide +kernel))⟩, (amM7 40 rfl (by decide +kernel)), (amM7 41 rfl (by decide +kernel)), ⟨_, rfl, rfl⟩, by decide, amNp_of (by decide +kernel)⟩
abbrev m_X6_areFew : MI := (yX6_areFew, cX6_areFew, 4, (some .boolean), [])
set_option maxRecDepth 8000 in
theorem k_X6_areFew : amInst m_X6_areFew 6 0 := ⟨⟨⟨by decide +kernel, by decide, by decide⟩, ⟨by decide, by decide⟩, (amM7 47 rfl (by decide +kernel)), (amM1 11 rfl (by decide +kernel))⟩, (amM7 46 rfl (by decide +kernel)), (amMemS (n := 7) 92 rfl), ⟨_, rfl, rfl⟩, by decide, amNp_of (by decide +kernel)⟩
abbrev m_X6_leastFor : MI := (yX6_leastFor, cX6_leastFor, 2, (some .int), [])
set_option maxRecDepth 8000 in
theorem k_X6_leastFor : amInst m_X6_leastFor 6 1 := ⟨⟨⟨by decide +kernel, by decide, by decide⟩, ⟨by decide, by decide⟩, (amM7 53 rfl (by decide +kernel)), (amM1 11 rfl (by decide +kernel))⟩, (amM7 52 rfl (by decide +kernel)), (amMemS (n := 7) 93 rfl), ⟨_, rfl, rfl⟩, by decide, amNp_of (by decide +kernel)⟩
abbrev m_X6_cutFrom : MI := (yX6_cutFrom, cX6_cutFrom, 8, none, [])
set_option maxRecDepth 8000 in
theorem k_X6_cutFrom : amStat m_X6_cutFrom 3 := ⟨⟨⟨by decide +kernel, by decide, by decide⟩, ⟨by decide, by decide⟩, (amM7 57 rfl (by decide +kernel)), (amM1 11 rfl (by decide +kernel))⟩, (amM7 56 rfl (by decide +kernel)), amNp_of (by decide +kernel)⟩
abbrev m_X6_nextToCut : MI := (yX6_nextToCut, cX6_nextToCut, 3, (some .int), [])
set_option maxRecDepth 8000 in
theorem k_X6_nextToCut : amInst m_X6_nextToCut 6 1 := ⟨⟨⟨by decide +kernel, by decide, by decide⟩, ⟨by decide, by decide⟩, (amM7 61 rfl (by decide +kernel)), (amM1 11 rfl (by decide +kernel))⟩, (amM7 60 rfl (by decide +kernel)), (amMemS (n := 7) 94 rfl), ⟨_, rfl, rfl⟩, by decide, amNp_of (by decide +kernel)⟩
abbrev m_L_guess : MI := (yL_guess, cL_guess, 6, (some .int), [(0, 12, 15, 21), (0, 12, 19, 13)])
set_option maxRecDepth 8000 in
theorem k_L_guess : amStatH m_L_guess 5 := ⟨⟨⟨by decide +kernel, by decide, by decide⟩, ⟨by decide, by decide⟩, (amM7 64 rfl (by decide +kernel)), (amM1 0 rfl (by decide +kernel))⟩, (amM7 63 rfl (by decide +kernel)), amNp_of (by decide +kernel)⟩
abbrev m_X11_guess : MI := (yX11_guess, cX11_guess, 5, (some .int), [])
set_option maxRecDepth 8000 in
theorem k_X11_guess : amInst m_X11_guess 11 3 := ⟨⟨⟨by decide +kernel, by decide, by decide⟩, ⟨by decide, by decide⟩, (amM7 68 rfl (by decide +kernel)), (amM1 1 rfl (by decide +kernel))⟩, (amM7 66 rfl (by decide +kernel)), (amM7 67 rfl (by decide +kernel)), ⟨_, rfl, rfl⟩, by decide, amNp_of (by decide +kernel)⟩
abbrev m_X0_countGuessed : MI := (yX0_countGuessed, cX0_countGuessed, 3, (some .int), [])
set_option maxRecDepth 8000 in
theorem k_X0_countGuessed : amInst m_X0_countGuessed 0 0 := ⟨⟨⟨by decide +kernel, by decide, by decide⟩, ⟨by decide, by decide⟩, (amM7 73 rfl (by decide +kernel)), (amM1 2 rfl (by decide +kernel))⟩, (amM7 72 rfl (by decide +kernel)), (amMemS (n := 5) 95 rfl), ⟨_, rfl, rfl⟩, by decide, amNp_of (by decide +kernel)⟩
abbrev m_L_allOdds : MI := (yL_allOdds, cL_allOdds, 3, (some .int), [(0, 7, 10, 74)])
set_option maxRecDepth 8000 in
theorem k_L_allOdds : amStatH m_L_allOdds 2 := ⟨⟨⟨by decide +kernel, by decide, by decide⟩, ⟨by decide, by decide⟩, (amM7 76 rfl (by decide +kernel)), (amM1 0 rfl (by decide +kernel))⟩, (amM7 75 rfl (by decide +kernel)), amNp_of (by decide +kernel)⟩
abbrev m_X11_allOdds : MI := (yX11_allOdds, cX11_allOdds, 5, (some .long), [])
set_option maxRecDepth 8000 in
theorem k_X11_allOdds : amInst m_X11_allOdds 11 0 := ⟨⟨⟨by decide +kernel, by decide, by decide⟩, ⟨by decide, by decide⟩, (amM7 80 rfl (by decide +kernel)), (amM1 1 rfl (by decide +kernel))⟩, (amM7 78 rfl (by decide +kernel)), (amM7 79 rfl (by decide +kernel)), ⟨_, rfl, rfl⟩, by decide, amNp_of (by decide +kernel)⟩
abbrev m_X11_checkGuesses : MI := (yX11_checkGuesses, cX11_checkGuesses, 1, none, [])
set_option maxRecDepth 8000 in
theorem k_X11_checkGuesses : amInst m_X11_checkGuesses 11 0 := ⟨⟨⟨by decide +kernel, by decide, by decide⟩, ⟨by decide, by decide⟩, (amM7 84 rfl (by decide +kernel)), (amM1 1 rfl (by decide +kernel))⟩, (amM7 83 rfl (by decide +kernel)), (amMemS (n := 20) 96 rfl), ⟨_, rfl, rfl⟩, by decide, amNp_of (by decide +kernel)⟩
abbrev m_L_oddsBy : MI := (yL_oddsBy, cL_oddsBy, 4, (some .int), [(0, 8, 11, 74)])
set_option maxRecDepth 8000 in
theorem k_L_oddsBy : amStatH m_L_oddsBy 3 := ⟨⟨⟨by decide +kernel, by decide, by decide⟩, ⟨by decide, by decide⟩, (amM7 89 rfl (by decide +kernel)), (amM1 0 rfl (by decide +kernel))⟩, (amM7 88 rfl (by decide +kernel)), amNp_of (by decide +kernel)⟩
abbrev m_X11_oddsBy : MI := (yX11_oddsBy, cX11_oddsBy, 2, (some .long), [])
set_option maxRecDepth 8000 in
theorem k_X11_oddsBy : amInst m_X11_oddsBy 11 1 := ⟨⟨⟨by decide +kernel, by decide, by decide⟩, ⟨by decide, by decide⟩, (amM7 93 rfl (by decide +kernel)), (amM1 1 rfl (by decide +kernel))⟩, (amM7 91 rfl (by decide +kernel)), (amM7 92 rfl (by decide +kernel)), ⟨_, rfl, rfl⟩, by decide, amNp_of (by decide +kernel)⟩
abbrev m_X8_countParts : MI := (yX8_countParts, cX8_countParts, 10, (some .long), [])
set_option maxRecDepth 8000 in
theorem k_X8_countParts : amInst m_X8_countParts 8 2 := ⟨⟨⟨by decide +kernel, by decide, by decide⟩, ⟨by decide, by decide⟩, (amM7 97 rfl (by decide +kernel)), (amM1 12 rfl (by decide +kernel))⟩, (amM7 96 rfl (by decide +kernel)), (amMemS (n := 6) 97 rfl), ⟨_, rfl, rfl⟩, by decide, amNp_of (by decide +kernel)⟩
abbrev m_X8_findGuessed : MI := (yX8_findGuessed, cX8_findGuessed, 3, (some .int), [])
set_option maxRecDepth 8000 in
theorem k_X8_findGuessed : amInst m_X8_findGuessed 8 0 := ⟨⟨⟨by decide +kernel, by decide, by decide⟩, ⟨by decide, by decide⟩, (amM7 102 rfl (by decide +kernel)), (amM1 12 rfl (by decide +kernel))⟩, (amM7 101 rfl (by decide +kernel)), (amMemS (n := 6) 98 rfl), ⟨_, rfl, rfl⟩, by decide, amNp_of (by decide +kernel)⟩
abbrev m_X8_takeLengths : MI := (yX8_takeLengths, cX8_takeLengths, 8, (some .int), [])
set_option maxRecDepth 8000 in
theorem k_X8_takeLengths : amInst m_X8_takeLengths 8 2 := ⟨⟨⟨by decide +kernel, by decide, by decide⟩, ⟨by decide, by decide⟩, (amM7 107 rfl (by decide +kernel)), (amM1 12 rfl (by decide +kernel))⟩, (amM7 106 rfl (by decide +kernel)), (amMemS (n := 6) 99 rfl), ⟨_, rfl, rfl⟩, by decide, amNp_of (by decide +kernel)⟩
abbrev m_X8_isCritical : MI := (yX8_isCritical, cX8_isCritical, 3, (some .boolean), [])
set_option maxRecDepth 8000 in
theorem k_X8_isCritical : amInst m_X8_isCritical 8 2 := ⟨⟨⟨by decide +kernel, by decide, by decide⟩, ⟨by decide, by decide⟩, (amM7 114 rfl (by decide +kernel)), (amM1 12 rfl (by decide +kernel))⟩, (amM7 113 rfl (by decide +kernel)), (amMemS (n := 6) 100 rfl), ⟨_, rfl, rfl⟩, by decide, amNp_of (by decide +kernel)⟩
abbrev m_L_oddsCritical : MI := (yL_oddsCritical, cL_oddsCritical, 4, (some .int), [(0, 8, 11, 21), (0, 8, 14, 74)])
set_option maxRecDepth 8000 in
theorem k_L_oddsCritical : amStatH m_L_oddsCritical 3 := ⟨⟨⟨by decide +kernel, by decide, by decide⟩, ⟨by decide, by decide⟩, (amM7 118 rfl (by decide +kernel)), (amM1 0 rfl (by decide +kernel))⟩, (amM7 117 rfl (by decide +kernel)), amNp_of (by decide +kernel)⟩
abbrev m_X11_oddsCritical : MI := (yX11_oddsCritical, cX11_oddsCritical, 2, (some .long), [])
set_option maxRecDepth 8000 in
theorem k_X11_oddsCritical : amInst m_X11_oddsCritical 11 1 := ⟨⟨⟨by decide +kernel, by decide, by decide⟩, ⟨by decide, by decide⟩, (amM7 122 rfl (by decide +kernel)), (amM1 1 rfl (by decide +kernel))⟩, (amM7 120 rfl (by decide +kernel)), (amM7 121 rfl (by decide +kernel)), ⟨_, rfl, rfl⟩, by decide, amNp_of (by decide +kernel)⟩
abbrev m_L_planned : MI := (yL_planned, cL_planned, 4, (some .int), [(0, 9, 12, 13)])
set_option maxRecDepth 8000 in
theorem k_L_planned : amStatH m_L_planned 3 := ⟨⟨⟨by decide +kernel, by decide, by decide⟩, ⟨by decide, by decide⟩, (amM7 125 rfl (by decide +kernel)), (amM1 0 rfl (by decide +kernel))⟩, (amM7 124 rfl (by decide +kernel)), amNp_of (by decide +kernel)⟩
abbrev m_X11_planned : MI := (yX11_planned, cX11_planned, 2, (some .int), [])
set_option maxRecDepth 8000 in
theorem k_X11_planned : amInst m_X11_planned 11 1 := ⟨⟨⟨by decide +kernel, by decide, by decide⟩, ⟨by decide, by decide⟩, (amM7 129 rfl (by decide +kernel)), (amM1 1 rfl (by decide +kernel))⟩, (amM7 127 rfl (by decide +kernel)), (amM7 128 rfl (by decide +kernel)), ⟨_, rfl, rfl⟩, by decide, amNp_of (by decide +kernel)⟩
abbrev m_X11_checkTime : MI := (yX11_checkTime, cX11_checkTime, 2, none, [])
set_option maxRecDepth 8000 in
theorem k_X11_checkTime : amInst m_X11_checkTime 11 1 := ⟨⟨⟨by decide +kernel, by decide, by decide⟩, ⟨by decide, by decide⟩, (amM7 133 rfl (by decide +kernel)), (amM1 1 rfl (by decide +kernel))⟩, (amM7 132 rfl (by decide +kernel)), (amMemS (n := 20) 101 rfl), ⟨_, rfl, rfl⟩, by decide, amNp_of (by decide +kernel)⟩
abbrev m_X11_worthBy : MI := (yX11_worthBy, cX11_worthBy, 7, (some .int), [])
set_option maxRecDepth 8000 in
theorem k_X11_worthBy : amInst m_X11_worthBy 11 1 := ⟨⟨⟨by decide +kernel, by decide, by decide⟩, ⟨by decide, by decide⟩, (amM7 138 rfl (by decide +kernel)), (amM1 1 rfl (by decide +kernel))⟩, (amM7 137 rfl (by decide +kernel)), (amMemS (n := 20) 102 rfl), ⟨_, rfl, rfl⟩, by decide, amNp_of (by decide +kernel)⟩
abbrev m_L_index : MI := (yL_index, cL_index, 4, (some .int), [(0, 9, 12, 13), (0, 9, 15, 164)])
set_option maxRecDepth 8000 in
theorem k_L_index : amStatH m_L_index 3 := ⟨⟨⟨by decide +kernel, by decide, by decide⟩, ⟨by decide, by decide⟩, (amM7 142 rfl (by decide +kernel)), (amM1 0 rfl (by decide +kernel))⟩, (amM7 141 rfl (by decide +kernel)), amNp_of (by decide +kernel)⟩
abbrev m_X11_index : MI := (yX11_index, cX11_index, 3, (some .float), [])
set_option maxRecDepth 8000 in
theorem k_X11_index : amInst m_X11_index 11 1 := ⟨⟨⟨by decide +kernel, by decide, by decide⟩, ⟨by decide, by decide⟩, (amM7 160 rfl (by decide +kernel)), (amM1 1 rfl (by decide +kernel))⟩, (amM7 158 rfl (by decide +kernel)), (amM7 159 rfl (by decide +kernel)), ⟨_, rfl, rfl⟩, by decide, amNp_of (by decide +kernel)⟩
abbrev m_L_movedBy : MI := (yL_movedBy, cL_movedBy, 4, (some .int), [(0, 9, 12, 21), (0, 9, 15, 15)])
set_option maxRecDepth 8000 in
theorem k_L_movedBy : amStatH m_L_movedBy 3 := ⟨⟨⟨by decide +kernel, by decide, by decide⟩, ⟨by decide, by decide⟩, (amM7 166 rfl (by decide +kernel)), (amM1 0 rfl (by decide +kernel))⟩, (amM7 165 rfl (by decide +kernel)), amNp_of (by decide +kernel)⟩
abbrev m_X11_movedBy : MI := (yX11_movedBy, cX11_movedBy, 2, (some .int), [])
set_option maxRecDepth 8000 in
theorem k_X11_movedBy : amInst m_X11_movedBy 11 1 := ⟨⟨⟨by decide +kernel, by decide, by decide⟩, ⟨by decide, by decide⟩, (amM7 170 rfl (by decide +kernel)), (amM1 1 rfl (by decide +kernel))⟩, (amM7 168 rfl (by decide +kernel)), (amM7 169 rfl (by decide +kernel)), ⟨_, rfl, rfl⟩, by decide, amNp_of (by decide +kernel)⟩
abbrev m_L_crane : MI := (yL_crane, cL_crane, 3, (some .int), [(0, 8, 11, 74)])
set_option maxRecDepth 8000 in
theorem k_L_crane : amStatH m_L_crane 2 := ⟨⟨⟨by decide +kernel, by decide, by decide⟩, ⟨by decide, by decide⟩, (amM7 174 rfl (by decide +kernel)), (amM1 0 rfl (by decide +kernel))⟩, (amM7 173 rfl (by decide +kernel)), amNp_of (by decide +kernel)⟩
abbrev m_X11_crane : MI := (yX11_crane, cX11_crane, 1, (some .int), [])
set_option maxRecDepth 8000 in
theorem k_X11_crane : amInst m_X11_crane 11 0 := ⟨⟨⟨by decide +kernel, by decide, by decide⟩, ⟨by decide, by decide⟩, (amM7 178 rfl (by decide +kernel)), (amM1 1 rfl (by decide +kernel))⟩, (amM7 176 rfl (by decide +kernel)), (amM7 177 rfl (by decide +kernel)), ⟨_, rfl, rfl⟩, by decide, amNp_of (by decide +kernel)⟩
abbrev m_X2_leastSum : MI := (yX2_leastSum, cX2_leastSum, 1, (some .int), [])
set_option maxRecDepth 8000 in
theorem k_X2_leastSum : amInst m_X2_leastSum 2 0 := ⟨⟨⟨by decide +kernel, by decide, by decide⟩, ⟨by decide, by decide⟩, (amM7 183 rfl (by decide +kernel)), (amM1 13 rfl (by decide +kernel))⟩, (amM7 182 rfl (by decide +kernel)), (amMemS (n := 7) 103 rfl), ⟨_, rfl, rfl⟩, by decide, amNp_of (by decide +kernel)⟩
abbrev m_X2_findNeeded : MI := (yX2_findNeeded, cX2_findNeeded, 3, none, [])
set_option maxRecDepth 8000 in
theorem k_X2_findNeeded : amInst m_X2_findNeeded 2 0 := ⟨⟨⟨by decide +kernel, by decide, by decide⟩, ⟨by decide, by decide⟩, (amM7 189 rfl (by decide +kernel)), (amM1 13 rfl (by decide +kernel))⟩, (amM7 188 rfl (by decide +kernel)), (amMemS (n := 7) 104 rfl), ⟨_, rfl, rfl⟩, by decide, amNp_of (by decide +kernel)⟩
abbrev m_X2_findCraned : MI := (yX2_findCraned, cX2_findCraned, 2, none, [])
set_option maxRecDepth 8000 in
theorem k_X2_findCraned : amInst m_X2_findCraned 2 0 := ⟨⟨⟨by decide +kernel, by decide, by decide⟩, ⟨by decide, by decide⟩, (amM7 193 rfl (by decide +kernel)), (amM1 13 rfl (by decide +kernel))⟩, (amM7 192 rfl (by decide +kernel)), (amMemS (n := 7) 105 rfl), ⟨_, rfl, rfl⟩, by decide, amNp_of (by decide +kernel)⟩
abbrev m_X2_takeNext : MI := (yX2_takeNext, cX2_takeNext, 9, none, [])
set_option maxRecDepth 8000 in
theorem k_X2_takeNext : amStat m_X2_takeNext 4 := ⟨⟨⟨by decide +kernel, by decide, by decide⟩, ⟨by decide, by decide⟩, (amM7 196 rfl (by decide +kernel)), (amM1 13 rfl (by decide +kernel))⟩, (amM7 195 rfl (by decide +kernel)), amNp_of (by decide +kernel)⟩
abbrev m_X2_endOf : MI := (yX2_endOf, cX2_endOf, 5, (some .int), [])
set_option maxRecDepth 8000 in
theorem k_X2_endOf : amInst m_X2_endOf 2 2 := ⟨⟨⟨by decide +kernel, by decide, by decide⟩, ⟨by decide, by decide⟩, (amM7 202 rfl (by decide +kernel)), (amM1 13 rfl (by decide +kernel))⟩, (amM7 201 rfl (by decide +kernel)), (amMemS (n := 7) 106 rfl), ⟨_, rfl, rfl⟩, by decide, amNp_of (by decide +kernel)⟩
abbrev m_L_criticalShare : MI := (yL_criticalShare, cL_criticalShare, 3, (some .int), [(0, 8, 11, 164)])
set_option maxRecDepth 8000 in
theorem k_L_criticalShare : amStatH m_L_criticalShare 2 := ⟨⟨⟨by decide +kernel, by decide, by decide⟩, ⟨by decide, by decide⟩, (amM7 206 rfl (by decide +kernel)), (amM1 0 rfl (by decide +kernel))⟩, (amM7 205 rfl (by decide +kernel)), amNp_of (by decide +kernel)⟩
abbrev m_X11_criticalShare : MI := (yX11_criticalShare, cX11_criticalShare, 3, (some .float), [])
set_option maxRecDepth 8000 in
theorem k_X11_criticalShare : amInst m_X11_criticalShare 11 0 := ⟨⟨⟨by decide +kernel, by decide, by decide⟩, ⟨by decide, by decide⟩, (amM7 210 rfl (by decide +kernel)), (amM1 1 rfl (by decide +kernel))⟩, (amM7 208 rfl (by decide +kernel)), (amM7 209 rfl (by decide +kernel)), ⟨_, rfl, rfl⟩, by decide, amNp_of (by decide +kernel)⟩
abbrev m_X11_checkAnyTask : MI := (yX11_checkAnyTask, cX11_checkAnyTask, 1, none, [])
set_option maxRecDepth 8000 in
theorem k_X11_checkAnyTask : amInst m_X11_checkAnyTask 11 0 := ⟨⟨⟨by decide +kernel, by decide, by decide⟩, ⟨by decide, by decide⟩, (amM7 214 rfl (by decide +kernel)), (amM1 1 rfl (by decide +kernel))⟩, (amM7 213 rfl (by decide +kernel)), (amMemS (n := 20) 107 rfl), ⟨_, rfl, rfl⟩, by decide, amNp_of (by decide +kernel)⟩
abbrev m_L_meanLength : MI := (yL_meanLength, cL_meanLength, 3, (some .int), [(0, 7, 10, 164)])
set_option maxRecDepth 8000 in
theorem k_L_meanLength : amStatH m_L_meanLength 2 := ⟨⟨⟨by decide +kernel, by decide, by decide⟩, ⟨by decide, by decide⟩, (amM7 218 rfl (by decide +kernel)), (amM1 0 rfl (by decide +kernel))⟩, (amM7 217 rfl (by decide +kernel)), amNp_of (by decide +kernel)⟩
abbrev m_X11_meanLength : MI := (yX11_meanLength, cX11_meanLength, 1, (some .double), [])
set_option maxRecDepth 8000 in
theorem k_X11_meanLength : amInst m_X11_meanLength 11 0 := ⟨⟨⟨by decide +kernel, by decide, by decide⟩, ⟨by decide, by decide⟩, (amM7 222 rfl (by decide +kernel)), (amM1 1 rfl (by decide +kernel))⟩, (amM7 220 rfl (by decide +kernel)), (amM7 221 rfl (by decide +kernel)), ⟨_, rfl, rfl⟩, by decide, amNp_of (by decide +kernel)⟩
abbrev m_X12_init : MI := (yX12_init, cX12_init, 3, none, [])
set_option maxRecDepth 8000 in
theorem k_X12_init : amCtor m_X12_init 0 := ⟨⟨⟨by decide +kernel, by decide, by decide⟩, ⟨by decide, by decide⟩, (amM7 227 rfl (by decide +kernel)), (amM1 14 rfl (by decide +kernel))⟩, rfl, (amM7 226 rfl (by decide +kernel)), rfl, amNp_of (by decide +kernel)⟩
abbrev m_X12_thrown : MI := (yX12_thrown, cX12_thrown, 1, (some .int), [])
set_option maxRecDepth 8000 in
theorem k_X12_thrown : amInst m_X12_thrown 12 0 := ⟨⟨⟨by decide +kernel, by decide, by decide⟩, ⟨by decide, by decide⟩, (amM8 75 rfl (by decide +kernel)), (amM1 14 rfl (by decide +kernel))⟩, (amM8 73 rfl (by decide +kernel)), (amM8 74 rfl (by decide +kernel)), ⟨_, rfl, rfl⟩, by decide, amNp_of (by decide +kernel)⟩
abbrev m_X12_task : MI := (yX12_task, cX12_task, 4, (some .int), [])
set_option maxRecDepth 8000 in
theorem k_X12_task : amInst m_X12_task 12 1 := ⟨⟨⟨by decide +kernel, by decide, by decide⟩, ⟨by decide, by decide⟩, (amM8 79 rfl (by decide +kernel)), (amM1 14 rfl (by decide +kernel))⟩, (amM8 77 rfl (by decide +kernel)), (amM8 78 rfl (by decide +kernel)), ⟨_, rfl, rfl⟩, by decide, amNp_of (by decide +kernel)⟩
abbrev m_X12_in : MI := (yX12_in, cX12_in, 3, (some .boolean), [])
set_option maxRecDepth 8000 in
theorem k_X12_in : amStat m_X12_in 3 := ⟨⟨⟨by decide +kernel, by decide, by decide⟩, ⟨by decide, by decide⟩, (amM8 82 rfl (by decide +kernel)), (amM1 14 rfl (by decide +kernel))⟩, (amM8 81 rfl (by decide +kernel)), amNp_of (by decide +kernel)⟩
abbrev m_X12_many : MI := (yX12_many, cX12_many, 1, (some .int), [])
set_option maxRecDepth 8000 in
theorem k_X12_many : amInst m_X12_many 12 0 := ⟨⟨⟨by decide +kernel, by decide, by decide⟩, ⟨by decide, by decide⟩, (amM8 86 rfl (by decide +kernel)), (amM1 14 rfl (by decide +kernel))⟩, (amM8 85 rfl (by decide +kernel)), (amMemS (n := 26) 108 rfl), ⟨_, rfl, rfl⟩, by decide, amNp_of (by decide +kernel)⟩
abbrev m_X12_fails : MI := (yX12_fails, cX12_fails, 4, (some .boolean), [])
set_option maxRecDepth 8000 in
theorem k_X12_fails : amInst m_X12_fails 12 3 := ⟨⟨⟨by decide +kernel, by decide, by decide⟩, ⟨by decide, by decide⟩, (amM8 90 rfl (by decide +kernel)), (amM1 14 rfl (by decide +kernel))⟩, (amM8 89 rfl (by decide +kernel)), (amMemS (n := 26) 109 rfl), ⟨_, rfl, rfl⟩, by decide, amNp_of (by decide +kernel)⟩
abbrev m_X12_keeps : MI := (yX12_keeps, cX12_keeps, 2, none, [])
set_option maxRecDepth 8000 in
theorem k_X12_keeps : amInst m_X12_keeps 12 0 := ⟨⟨⟨by decide +kernel, by decide, by decide⟩, ⟨by decide, by decide⟩, (amM8 94 rfl (by decide +kernel)), (amM1 14 rfl (by decide +kernel))⟩, (amM8 93 rfl (by decide +kernel)), (amMemS (n := 26) 110 rfl), ⟨_, rfl, rfl⟩, by decide, amNp_of (by decide +kernel)⟩
abbrev m_X12_copied : MI := (yX12_copied, cX12_copied, 3, (some (.array .int)), [])
set_option maxRecDepth 8000 in
theorem k_X12_copied : amStat m_X12_copied 1 := ⟨⟨⟨by decide +kernel, by decide, by decide⟩, ⟨by decide, by decide⟩, (amM8 97 rfl (by decide +kernel)), (amM1 14 rfl (by decide +kernel))⟩, (amM8 96 rfl (by decide +kernel)), amNp_of (by decide +kernel)⟩
abbrev m_X12_put : MI := (yX12_put, cX12_put, 4, none, [])
set_option maxRecDepth 8000 in
theorem k_X12_put : amInst m_X12_put 12 3 := ⟨⟨⟨by decide +kernel, by decide, by decide⟩, ⟨by decide, by decide⟩, (amM8 101 rfl (by decide +kernel)), (amM1 14 rfl (by decide +kernel))⟩, (amM8 100 rfl (by decide +kernel)), (amMemS (n := 26) 111 rfl), ⟨_, rfl, rfl⟩, by decide, amNp_of (by decide +kernel)⟩
abbrev m_X12_set : MI := (yX12_set, cX12_set, 7, (some .int), [])
set_option maxRecDepth 8000 in
theorem k_X12_set : amInst m_X12_set 12 3 := ⟨⟨⟨by decide +kernel, by decide, by decide⟩, ⟨by decide, by decide⟩, (amM8 105 rfl (by decide +kernel)), (amM1 14 rfl (by decide +kernel))⟩, (amM8 103 rfl (by decide +kernel)), (amM8 104 rfl (by decide +kernel)), ⟨_, rfl, rfl⟩, by decide, amNp_of (by decide +kernel)⟩
abbrev m_X12_isTask : MI := (yX12_isTask, cX12_isTask, 2, (some .boolean), [])
set_option maxRecDepth 8000 in
theorem k_X12_isTask : amInst m_X12_isTask 12 1 := ⟨⟨⟨by decide +kernel, by decide, by decide⟩, ⟨by decide, by decide⟩, (amM8 111 rfl (by decide +kernel)), (amM1 14 rfl (by decide +kernel))⟩, (amM8 110 rfl (by decide +kernel)), (amMemS (n := 26) 112 rfl), ⟨_, rfl, rfl⟩, by decide, amNp_of (by decide +kernel)⟩
abbrev m_X12_isGood : MI := (yX12_isGood, cX12_isGood, 5, (some .boolean), [])
set_option maxRecDepth 8000 in
theorem k_X12_isGood : amInst m_X12_isGood 12 3 := ⟨⟨⟨by decide +kernel, by decide, by decide⟩, ⟨by decide, by decide⟩, (amM8 115 rfl (by decide +kernel)), (amM1 14 rfl (by decide +kernel))⟩, (amM8 114 rfl (by decide +kernel)), (amMemS (n := 26) 113 rfl), ⟨_, rfl, rfl⟩, by decide, amNp_of (by decide +kernel)⟩
abbrev m_X12_get : MI := (yX12_get, cX12_get, 3, (some .int), [])
set_option maxRecDepth 8000 in
theorem k_X12_get : amInst m_X12_get 12 2 := ⟨⟨⟨by decide +kernel, by decide, by decide⟩, ⟨by decide, by decide⟩, (amM8 119 rfl (by decide +kernel)), (amM1 14 rfl (by decide +kernel))⟩, (amM8 118 rfl (by decide +kernel)), (amMemS (n := 26) 114 rfl), ⟨_, rfl, rfl⟩, by decide, amNp_of (by decide +kernel)⟩
abbrev m_X12_of : MI := (yX12_of, cX12_of, 4, (some .int), [])
set_option maxRecDepth 8000 in
theorem k_X12_of : amInst m_X12_of 12 2 := ⟨⟨⟨by decide +kernel, by decide, by decide⟩, ⟨by decide, by decide⟩, (amM8 123 rfl (by decide +kernel)), (amM1 14 rfl (by decide +kernel))⟩, (amM8 121 rfl (by decide +kernel)), (amM8 122 rfl (by decide +kernel)), ⟨_, rfl, rfl⟩, by decide, amNp_of (by decide +kernel)⟩
abbrev m_X12_tasks : MI := (yX12_tasks, cX12_tasks, 1, (some .int), [])
set_option maxRecDepth 8000 in
theorem k_X12_tasks : amInst m_X12_tasks 12 0 := ⟨⟨⟨by decide +kernel, by decide, by decide⟩, ⟨by decide, by decide⟩, (amM8 127 rfl (by decide +kernel)), (amM1 14 rfl (by decide +kernel))⟩, (amM8 125 rfl (by decide +kernel)), (amM8 126 rfl (by decide +kernel)), ⟨_, rfl, rfl⟩, by decide, amNp_of (by decide +kernel)⟩
abbrev m_X12_need : MI := (yX12_need, cX12_need, 7, (some .int), [])
set_option maxRecDepth 8000 in
theorem k_X12_need : amInst m_X12_need 12 3 := ⟨⟨⟨by decide +kernel, by decide, by decide⟩, ⟨by decide, by decide⟩, (amM8 131 rfl (by decide +kernel)), (amM1 14 rfl (by decide +kernel))⟩, (amM8 129 rfl (by decide +kernel)), (amM8 130 rfl (by decide +kernel)), ⟨_, rfl, rfl⟩, by decide, amNp_of (by decide +kernel)⟩
abbrev m_X12_isNeeded : MI := (yX12_isNeeded, cX12_isNeeded, 4, (some .boolean), [])
set_option maxRecDepth 8000 in
theorem k_X12_isNeeded : amInst m_X12_isNeeded 12 2 := ⟨⟨⟨by decide +kernel, by decide, by decide⟩, ⟨by decide, by decide⟩, (amM8 135 rfl (by decide +kernel)), (amM1 14 rfl (by decide +kernel))⟩, (amM8 134 rfl (by decide +kernel)), (amMemS (n := 26) 115 rfl), ⟨_, rfl, rfl⟩, by decide, amNp_of (by decide +kernel)⟩
abbrev m_X12_needsMany : MI := (yX12_needsMany, cX12_needsMany, 1, (some .int), [])
set_option maxRecDepth 8000 in
theorem k_X12_needsMany : amInst m_X12_needsMany 12 0 := ⟨⟨⟨by decide +kernel, by decide, by decide⟩, ⟨by decide, by decide⟩, (amM8 139 rfl (by decide +kernel)), (amM1 14 rfl (by decide +kernel))⟩, (amM8 138 rfl (by decide +kernel)), (amMemS (n := 26) 116 rfl), ⟨_, rfl, rfl⟩, by decide, amNp_of (by decide +kernel)⟩
abbrev m_X12_earlier : MI := (yX12_earlier, cX12_earlier, 2, (some .int), [])
set_option maxRecDepth 8000 in
theorem k_X12_earlier : amInst m_X12_earlier 12 1 := ⟨⟨⟨by decide +kernel, by decide, by decide⟩, ⟨by decide, by decide⟩, (amM8 143 rfl (by decide +kernel)), (amM1 14 rfl (by decide +kernel))⟩, (amM8 142 rfl (by decide +kernel)), (amMemS (n := 26) 117 rfl), ⟨_, rfl, rfl⟩, by decide, amNp_of (by decide +kernel)⟩
abbrev m_X12_later : MI := (yX12_later, cX12_later, 2, (some .int), [])
set_option maxRecDepth 8000 in
theorem k_X12_later : amInst m_X12_later 12 1 := ⟨⟨⟨by decide +kernel, by decide, by decide⟩, ⟨by decide, by decide⟩, (amM8 147 rfl (by decide +kernel)), (amM1 14 rfl (by decide +kernel))⟩, (amM8 146 rfl (by decide +kernel)), (amMemS (n := 26) 118 rfl), ⟨_, rfl, rfl⟩, by decide, amNp_of (by decide +kernel)⟩
abbrev m_X12_ringOf : MI := (yX12_ringOf, cX12_ringOf, 6, (some .int), [])
set_option maxRecDepth 8000 in
theorem k_X12_ringOf : amInst m_X12_ringOf 12 2 := ⟨⟨⟨by decide +kernel, by decide, by decide⟩, ⟨by decide, by decide⟩, (amM8 151 rfl (by decide +kernel)), (amM1 14 rfl (by decide +kernel))⟩, (amM8 150 rfl (by decide +kernel)), (amMemS (n := 26) 119 rfl), ⟨_, rfl, rfl⟩, by decide, amNp_of (by decide +kernel)⟩
abbrev m_X12_dropNeed : MI := (yX12_dropNeed, cX12_dropNeed, 2, (some .int), [])
set_option maxRecDepth 8000 in
theorem k_X12_dropNeed : amInst m_X12_dropNeed 12 1 := ⟨⟨⟨by decide +kernel, by decide, by decide⟩, ⟨by decide, by decide⟩, (amM8 155 rfl (by decide +kernel)), (amM1 14 rfl (by decide +kernel))⟩, (amM8 153 rfl (by decide +kernel)), (amM8 154 rfl (by decide +kernel)), ⟨_, rfl, rfl⟩, by decide, amNp_of (by decide +kernel)⟩
abbrev m_X12_drops : MI := (yX12_drops, cX12_drops, 3, none, [])
set_option maxRecDepth 8000 in
theorem k_X12_drops : amInst m_X12_drops 12 1 := ⟨⟨⟨by decide +kernel, by decide, by decide⟩, ⟨by decide, by decide⟩, (amM8 159 rfl (by decide +kernel)), (amM1 14 rfl (by decide +kernel))⟩, (amM8 158 rfl (by decide +kernel)), (amMemS (n := 26) 120 rfl), ⟨_, rfl, rfl⟩, by decide, amNp_of (by decide +kernel)⟩
abbrev m_X12_needs : MI := (yX12_needs, cX12_needs, 1, (some .int), [])
set_option maxRecDepth 8000 in
theorem k_X12_needs : amInst m_X12_needs 12 0 := ⟨⟨⟨by decide +kernel, by decide, by decide⟩, ⟨by decide, by decide⟩, (amM8 163 rfl (by decide +kernel)), (amM1 14 rfl (by decide +kernel))⟩, (amM8 161 rfl (by decide +kernel)), (amM8 162 rfl (by decide +kernel)), ⟨_, rfl, rfl⟩, by decide, amNp_of (by decide +kernel)⟩
abbrev m_X12_needAt : MI := (yX12_needAt, cX12_needAt, 4, (some .int), [])
set_option maxRecDepth 8000 in
theorem k_X12_needAt : amInst m_X12_needAt 12 2 := ⟨⟨⟨by decide +kernel, by decide, by decide⟩, ⟨by decide, by decide⟩, (amM8 167 rfl (by decide +kernel)), (amM1 14 rfl (by decide +kernel))⟩, (amM8 165 rfl (by decide +kernel)), (amM8 166 rfl (by decide +kernel)), ⟨_, rfl, rfl⟩, by decide, amNp_of (by decide +kernel)⟩
abbrev m_X12_ring : MI := (yX12_ring, cX12_ring, 3, (some .int), [])
set_option maxRecDepth 8000 in
theorem k_X12_ring : amInst m_X12_ring 12 2 := ⟨⟨⟨by decide +kernel, by decide, by decide⟩, ⟨by decide, by decide⟩, (amM8 172 rfl (by decide +kernel)), (amM1 14 rfl (by decide +kernel))⟩, (amM8 170 rfl (by decide +kernel)), (amM8 171 rfl (by decide +kernel)), ⟨_, rfl, rfl⟩, by decide, amNp_of (by decide +kernel)⟩
abbrev m_X12_undo : MI := (yX12_undo, cX12_undo, 1, (some .int), [])
set_option maxRecDepth 8000 in
theorem k_X12_undo : amInst m_X12_undo 12 0 := ⟨⟨⟨by decide +kernel, by decide, by decide⟩, ⟨by decide, by decide⟩, (amM8 176 rfl (by decide +kernel)), (amM1 14 rfl (by decide +kernel))⟩, (amM8 174 rfl (by decide +kernel)), (amM8 175 rfl (by decide +kernel)), ⟨_, rfl, rfl⟩, by decide, amNp_of (by decide +kernel)⟩
abbrev m_X12_type : MI := (yX12_type, cX12_type, 2, (some .int), [])
set_option maxRecDepth 8000 in
theorem k_X12_type : amInst m_X12_type 12 1 := ⟨⟨⟨by decide +kernel, by decide, by decide⟩, ⟨by decide, by decide⟩, (amM8 180 rfl (by decide +kernel)), (amM1 14 rfl (by decide +kernel))⟩, (amM8 178 rfl (by decide +kernel)), (amM8 179 rfl (by decide +kernel)), ⟨_, rfl, rfl⟩, by decide, amNp_of (by decide +kernel)⟩
abbrev m_X12_erase : MI := (yX12_erase, cX12_erase, 2, (some .int), [])
set_option maxRecDepth 8000 in
theorem k_X12_erase : amInst m_X12_erase 12 0 := ⟨⟨⟨by decide +kernel, by decide, by decide⟩, ⟨by decide, by decide⟩, (amM8 184 rfl (by decide +kernel)), (amM1 14 rfl (by decide +kernel))⟩, (amM8 182 rfl (by decide +kernel)), (amM8 183 rfl (by decide +kernel)), ⟨_, rfl, rfl⟩, by decide, amNp_of (by decide +kernel)⟩
abbrev m_X12_signAt : MI := (yX12_signAt, cX12_signAt, 2, (some .char), [])
set_option maxRecDepth 8000 in
theorem k_X12_signAt : amInst m_X12_signAt 12 1 := ⟨⟨⟨by decide +kernel, by decide, by decide⟩, ⟨by decide, by decide⟩, (amM8 188 rfl (by decide +kernel)), (amM1 14 rfl (by decide +kernel))⟩, (amM8 186 rfl (by decide +kernel)), (amM8 187 rfl (by decide +kernel)), ⟨_, rfl, rfl⟩, by decide, amNp_of (by decide +kernel)⟩
abbrev m_X12_read : MI := (yX12_read, cX12_read, 3, (some .int), [])
set_option maxRecDepth 8000 in
theorem k_X12_read : amInst m_X12_read 12 0 := ⟨⟨⟨by decide +kernel, by decide, by decide⟩, ⟨by decide, by decide⟩, (amM8 192 rfl (by decide +kernel)), (amM1 14 rfl (by decide +kernel))⟩, (amM8 190 rfl (by decide +kernel)), (amM8 191 rfl (by decide +kernel)), ⟨_, rfl, rfl⟩, by decide, amNp_of (by decide +kernel)⟩
abbrev m_X12_isRead : MI := (yX12_isRead, cX12_isRead, 3, (some .boolean), [])
set_option maxRecDepth 8000 in
theorem k_X12_isRead : amInst m_X12_isRead 12 1 := ⟨⟨⟨by decide +kernel, by decide, by decide⟩, ⟨by decide, by decide⟩, (amM8 196 rfl (by decide +kernel)), (amM1 14 rfl (by decide +kernel))⟩, (amM8 195 rfl (by decide +kernel)), (amMemS (n := 26) 121 rfl), ⟨_, rfl, rfl⟩, by decide, amNp_of (by decide +kernel)⟩
abbrev m_X12_isTaskRead : MI := (yX12_isTaskRead, cX12_isTaskRead, 7, (some .boolean), [])
set_option maxRecDepth 8000 in
theorem k_X12_isTaskRead : amInst m_X12_isTaskRead 12 1 := ⟨⟨⟨by decide +kernel, by decide, by decide⟩, ⟨by decide, by decide⟩, (amM8 200 rfl (by decide +kernel)), (amM1 14 rfl (by decide +kernel))⟩, (amM8 199 rfl (by decide +kernel)), (amMemS (n := 26) 122 rfl), ⟨_, rfl, rfl⟩, by decide, amNp_of (by decide +kernel)⟩
abbrev m_X12_fault : MI := (yX12_fault, cX12_fault, 2, (some .boolean), [])
set_option maxRecDepth 8000 in
theorem k_X12_fault : amInst m_X12_fault 12 1 := ⟨⟨⟨by decide +kernel, by decide, by decide⟩, ⟨by decide, by decide⟩, (amM8 204 rfl (by decide +kernel)), (amM1 14 rfl (by decide +kernel))⟩, (amM8 203 rfl (by decide +kernel)), (amMemS (n := 26) 123 rfl), ⟨_, rfl, rfl⟩, by decide, amNp_of (by decide +kernel)⟩
abbrev m_X12_isNumber : MI := (yX12_isNumber, cX12_isNumber, 4, (some .boolean), [])
set_option maxRecDepth 8000 in
theorem k_X12_isNumber : amInst m_X12_isNumber 12 2 := ⟨⟨⟨by decide +kernel, by decide, by decide⟩, ⟨by decide, by decide⟩, (amM8 208 rfl (by decide +kernel)), (amM1 14 rfl (by decide +kernel))⟩, (amM8 207 rfl (by decide +kernel)), (amMemS (n := 26) 124 rfl), ⟨_, rfl, rfl⟩, by decide, amNp_of (by decide +kernel)⟩
abbrev m_X12_isSign : MI := (yX12_isSign, cX12_isSign, 2, (some .boolean), [])
set_option maxRecDepth 8000 in
theorem k_X12_isSign : amInst m_X12_isSign 12 1 := ⟨⟨⟨by decide +kernel, by decide, by decide⟩, ⟨by decide, by decide⟩, (amM8 213 rfl (by decide +kernel)), (amM1 14 rfl (by decide +kernel))⟩, (amM8 212 rfl (by decide +kernel)), (amMemS (n := 26) 125 rfl), ⟨_, rfl, rfl⟩, by decide, amNp_of (by decide +kernel)⟩
abbrev m_X12_earliest : MI := (yX12_earliest, cX12_earliest, 2, (some .int), [])
set_option maxRecDepth 8000 in
theorem k_X12_earliest : amInst m_X12_earliest 12 1 := ⟨⟨⟨by decide +kernel, by decide, by decide⟩, ⟨by decide, by decide⟩, (amM8 217 rfl (by decide +kernel)), (amM1 14 rfl (by decide +kernel))⟩, (amM8 215 rfl (by decide +kernel)), (amM8 216 rfl (by decide +kernel)), ⟨_, rfl, rfl⟩, by decide, amNp_of (by decide +kernel)⟩
abbrev m_X12_lengths : MI := (yX12_lengths, cX12_lengths, 1, (some (.array .int)), [])
set_option maxRecDepth 8000 in
theorem k_X12_lengths : amInst m_X12_lengths 12 0 := ⟨⟨⟨by decide +kernel, by decide, by decide⟩, ⟨by decide, by decide⟩, (amM8 221 rfl (by decide +kernel)), (amM1 14 rfl (by decide +kernel))⟩, (amM8 220 rfl (by decide +kernel)), (amMemS (n := 26) 126 rfl), ⟨_, rfl, rfl⟩, by decide, amNp_of (by decide +kernel)⟩
abbrev m_X12_lengthsInto : MI := (yX12_lengthsInto, cX12_lengthsInto, 3, (some (.array .int)), [])
set_option maxRecDepth 8000 in
theorem k_X12_lengthsInto : amInst m_X12_lengthsInto 12 1 := ⟨⟨⟨by decide +kernel, by decide, by decide⟩, ⟨by decide, by decide⟩, (amM8 225 rfl (by decide +kernel)), (amM1 14 rfl (by decide +kernel))⟩, (amM8 224 rfl (by decide +kernel)), (amMemS (n := 26) 127 rfl), ⟨_, rfl, rfl⟩, by decide, amNp_of (by decide +kernel)⟩
abbrev m_X12_earliestBegins : MI := (yX12_earliestBegins, cX12_earliestBegins, 2, (some (.array .int)), [])
set_option maxRecDepth 8000 in
theorem k_X12_earliestBegins : amInst m_X12_earliestBegins 12 1 := ⟨⟨⟨by decide +kernel, by decide, by decide⟩, ⟨by decide, by decide⟩, (amM8 229 rfl (by decide +kernel)), (amM1 14 rfl (by decide +kernel))⟩, (amM8 228 rfl (by decide +kernel)), (amMemS (n := 26) 128 rfl), ⟨_, rfl, rfl⟩, by decide, amNp_of (by decide +kernel)⟩
abbrev m_X12_earliestInto : MI := (yX12_earliestInto, cX12_earliestInto, 6, (some (.array .int)), [])
set_option maxRecDepth 8000 in
theorem k_X12_earliestInto : amInst m_X12_earliestInto 12 2 := ⟨⟨⟨by decide +kernel, by decide, by decide⟩, ⟨by decide, by decide⟩, (amM8 233 rfl (by decide +kernel)), (amM1 14 rfl (by decide +kernel))⟩, (amM8 232 rfl (by decide +kernel)), (amMemS (n := 26) 129 rfl), ⟨_, rfl, rfl⟩, by decide, amNp_of (by decide +kernel)⟩
abbrev m_X12_lag : MI := (yX12_lag, cX12_lag, 2, (some .int), [])
set_option maxRecDepth 8000 in
theorem k_X12_lag : amInst m_X12_lag 12 1 := ⟨⟨⟨by decide +kernel, by decide, by decide⟩, ⟨by decide, by decide⟩, (amM8 237 rfl (by decide +kernel)), (amM1 14 rfl (by decide +kernel))⟩, (amM8 236 rfl (by decide +kernel)), (amMemS (n := 26) 130 rfl), ⟨_, rfl, rfl⟩, by decide, amNp_of (by decide +kernel)⟩
abbrev m_X12_latest : MI := (yX12_latest, cX12_latest, 2, (some .int), [])
set_option maxRecDepth 8000 in
theorem k_X12_latest : amInst m_X12_latest 12 1 := ⟨⟨⟨by decide +kernel, by decide, by decide⟩, ⟨by decide, by decide⟩, (amM9 1 rfl (by decide +kernel)), (amM1 14 rfl (by decide +kernel))⟩, (amM8 239 rfl (by decide +kernel)), (amM9 0 rfl (by decide +kernel)), ⟨_, rfl, rfl⟩, by decide, amNp_of (by decide +kernel)⟩
abbrev m_X12_latestBegins : MI := (yX12_latestBegins, cX12_latestBegins, 2, (some (.array .int)), [])
set_option maxRecDepth 8000 in
theorem k_X12_latestBegins : amInst m_X12_latestBegins 12 1 := ⟨⟨⟨by decide +kernel, by decide, by decide⟩, ⟨by decide, by decide⟩, (amM9 5 rfl (by decide +kernel)), (amM1 14 rfl (by decide +kernel))⟩, (amM9 4 rfl (by decide +kernel)), (amMemS (n := 26) 131 rfl), ⟨_, rfl, rfl⟩, by decide, amNp_of (by decide +kernel)⟩
abbrev m_X12_latestInto : MI := (yX12_latestInto, cX12_latestInto, 7, (some (.array .int)), [])
set_option maxRecDepth 8000 in
theorem k_X12_latestInto : amInst m_X12_latestInto 12 2 := ⟨⟨⟨by decide +kernel, by decide, by decide⟩, ⟨by decide, by decide⟩, (amM9 9 rfl (by decide +kernel)), (amM1 14 rfl (by decide +kernel))⟩, (amM9 8 rfl (by decide +kernel)), (amMemS (n := 26) 132 rfl), ⟨_, rfl, rfl⟩, by decide, amNp_of (by decide +kernel)⟩
abbrev m_X12_endOf : MI := (yX12_endOf, cX12_endOf, 2, (some .int), [])
set_option maxRecDepth 8000 in
theorem k_X12_endOf : amInst m_X12_endOf 12 1 := ⟨⟨⟨by decide +kernel, by decide, by decide⟩, ⟨by decide, by decide⟩, (amM9 13 rfl (by decide +kernel)), (amM1 14 rfl (by decide +kernel))⟩, (amM9 12 rfl (by decide +kernel)), (amMemS (n := 26) 133 rfl), ⟨_, rfl, rfl⟩, by decide, amNp_of (by decide +kernel)⟩
abbrev m_X12_endBy : MI := (yX12_endBy, cX12_endBy, 5, (some .int), [])
set_option maxRecDepth 8000 in
theorem k_X12_endBy : amInst m_X12_endBy 12 2 := ⟨⟨⟨by decide +kernel, by decide, by decide⟩, ⟨by decide, by decide⟩, (amM9 17 rfl (by decide +kernel)), (amM1 14 rfl (by decide +kernel))⟩, (amM9 16 rfl (by decide +kernel)), (amMemS (n := 26) 134 rfl), ⟨_, rfl, rfl⟩, by decide, amNp_of (by decide +kernel)⟩
abbrev m_X12_end : MI := (yX12_end, cX12_end, 1, (some .int), [])
set_option maxRecDepth 8000 in
theorem k_X12_end : amInst m_X12_end 12 0 := ⟨⟨⟨by decide +kernel, by decide, by decide⟩, ⟨by decide, by decide⟩, (amM9 22 rfl (by decide +kernel)), (amM1 14 rfl (by decide +kernel))⟩, (amM9 20 rfl (by decide +kernel)), (amM9 21 rfl (by decide +kernel)), ⟨_, rfl, rfl⟩, by decide, amNp_of (by decide +kernel)⟩
abbrev m_X12_slack : MI := (yX12_slack, cX12_slack, 12, (some .int), [])
set_option maxRecDepth 8000 in
theorem k_X12_slack : amInst m_X12_slack 12 2 := ⟨⟨⟨by decide +kernel, by decide, by decide⟩, ⟨by decide, by decide⟩, (amM9 26 rfl (by decide +kernel)), (amM1 14 rfl (by decide +kernel))⟩, (amM9 24 rfl (by decide +kernel)), (amM9 25 rfl (by decide +kernel)), ⟨_, rfl, rfl⟩, by decide, amNp_of (by decide +kernel)⟩
abbrev m_X12_rest : MI := (yX12_rest, cX12_rest, 2, (some .int), [])
set_option maxRecDepth 8000 in
theorem k_X12_rest : amInst m_X12_rest 12 1 := ⟨⟨⟨by decide +kernel, by decide, by decide⟩, ⟨by decide, by decide⟩, (amM9 31 rfl (by decide +kernel)), (amM1 14 rfl (by decide +kernel))⟩, (amM9 29 rfl (by decide +kernel)), (amM9 30 rfl (by decide +kernel)), ⟨_, rfl, rfl⟩, by decide, amNp_of (by decide +kernel)⟩
abbrev m_X12_rests : MI := (yX12_rests, cX12_rests, 6, (some (.array .int)), [])
set_option maxRecDepth 8000 in
theorem k_X12_rests : amInst m_X12_rests 12 1 := ⟨⟨⟨by decide +kernel, by decide, by decide⟩, ⟨by decide, by decide⟩, (amM9 35 rfl (by decide +kernel)), (amM1 14 rfl (by decide +kernel))⟩, (amM9 34 rfl (by decide +kernel)), (amMemS (n := 26) 135 rfl), ⟨_, rfl, rfl⟩, by decide, amNp_of (by decide +kernel)⟩
abbrev m_X12_chains : MI := (yX12_chains, cX12_chains, 7, (some .long), [])
set_option maxRecDepth 8000 in
theorem k_X12_chains : amInst m_X12_chains 12 0 := ⟨⟨⟨by decide +kernel, by decide, by decide⟩, ⟨by decide, by decide⟩, (amM9 39 rfl (by decide +kernel)), (amM1 14 rfl (by decide +kernel))⟩, (amM9 37 rfl (by decide +kernel)), (amM9 38 rfl (by decide +kernel)), ⟨_, rfl, rfl⟩, by decide, amNp_of (by decide +kernel)⟩
abbrev m_X12_rowsFrom : MI := (yX12_rowsFrom, cX12_rowsFrom, 11, (some .long), [])
set_option maxRecDepth 8000 in
theorem k_X12_rowsFrom : amInst m_X12_rowsFrom 12 3 := ⟨⟨⟨by decide +kernel, by decide, by decide⟩, ⟨by decide, by decide⟩, (amM9 43 rfl (by decide +kernel)), (amM1 14 rfl (by decide +kernel))⟩, (amM9 42 rfl (by decide +kernel)), (amMemS (n := 26) 136 rfl), ⟨_, rfl, rfl⟩, by decide, amNp_of (by decide +kernel)⟩
abbrev m_X12_chainLength : MI := (yX12_chainLength, cX12_chainLength, 1, (some .int), [])
set_option maxRecDepth 8000 in
theorem k_X12_chainLength : amInst m_X12_chainLength 12 0 := ⟨⟨⟨by decide +kernel, by decide, by decide⟩, ⟨by decide, by decide⟩, (amM9 47 rfl (by decide +kernel)), (amM1 14 rfl (by decide +kernel))⟩, (amM9 45 rfl (by decide +kernel)), (amM9 46 rfl (by decide +kernel)), ⟨_, rfl, rfl⟩, by decide, amNp_of (by decide +kernel)⟩
abbrev m_X12_chain : MI := (yX12_chain, cX12_chain, 9, (some (.array .int)), [])
set_option maxRecDepth 8000 in
theorem k_X12_chain : amInst m_X12_chain 12 0 := ⟨⟨⟨by decide +kernel, by decide, by decide⟩, ⟨by decide, by decide⟩, (amM9 51 rfl (by decide +kernel)), (amM1 14 rfl (by decide +kernel))⟩, (amM9 50 rfl (by decide +kernel)), (amMemS (n := 26) 137 rfl), ⟨_, rfl, rfl⟩, by decide, amNp_of (by decide +kernel)⟩
abbrev m_X12_sizeOf : MI := (yX12_sizeOf, cX12_sizeOf, 2, (some .int), [])
set_option maxRecDepth 8000 in
theorem k_X12_sizeOf : amStat m_X12_sizeOf 1 := ⟨⟨⟨by decide +kernel, by decide, by decide⟩, ⟨by decide, by decide⟩, (amM9 54 rfl (by decide +kernel)), (amM1 14 rfl (by decide +kernel))⟩, (amM9 53 rfl (by decide +kernel)), amNp_of (by decide +kernel)⟩
abbrev m_X12_chainAt : MI := (yX12_chainAt, cX12_chainAt, 3, (some .int), [])
set_option maxRecDepth 8000 in
theorem k_X12_chainAt : amInst m_X12_chainAt 12 1 := ⟨⟨⟨by decide +kernel, by decide, by decide⟩, ⟨by decide, by decide⟩, (amM9 58 rfl (by decide +kernel)), (amM1 14 rfl (by decide +kernel))⟩, (amM9 56 rfl (by decide +kernel)), (amM9 57 rfl (by decide +kernel)), ⟨_, rfl, rfl⟩, by decide, amNp_of (by decide +kernel)⟩
abbrev m_X12_hours : MI := (yX12_hours, cX12_hours, 8, (some .int), [])
set_option maxRecDepth 8000 in
theorem k_X12_hours : amInst m_X12_hours 12 4 := ⟨⟨⟨by decide +kernel, by decide, by decide⟩, ⟨by decide, by decide⟩, (amM9 62 rfl (by decide +kernel)), (amM1 14 rfl (by decide +kernel))⟩, (amM9 60 rfl (by decide +kernel)), (amM9 61 rfl (by decide +kernel)), ⟨_, rfl, rfl⟩, by decide, amNp_of (by decide +kernel)⟩
abbrev m_X12_isWork : MI := (yX12_isWork, cX12_isWork, 3, (some .boolean), [])
set_option maxRecDepth 8000 in
theorem k_X12_isWork : amInst m_X12_isWork 12 2 := ⟨⟨⟨by decide +kernel, by decide, by decide⟩, ⟨by decide, by decide⟩, (amM9 66 rfl (by decide +kernel)), (amM1 14 rfl (by decide +kernel))⟩, (amM9 64 rfl (by decide +kernel)), (amM9 65 rfl (by decide +kernel)), ⟨_, rfl, rfl⟩, by decide, amNp_of (by decide +kernel)⟩
abbrev m_X12_clockBegin : MI := (yX12_clockBegin, cX12_clockBegin, 4, (some .int), [])
set_option maxRecDepth 8000 in
theorem k_X12_clockBegin : amInst m_X12_clockBegin 12 1 := ⟨⟨⟨by decide +kernel, by decide, by decide⟩, ⟨by decide, by decide⟩, (amM9 70 rfl (by decide +kernel)), (amM1 14 rfl (by decide +kernel))⟩, (amM9 68 rfl (by decide +kernel)), (amM9 69 rfl (by decide +kernel)), ⟨_, rfl, rfl⟩, by decide, amNp_of (by decide +kernel)⟩
abbrev m_X12_clock : MI := (yX12_clock, cX12_clock, 9, (some (.array .int)), [])
set_option maxRecDepth 8000 in
theorem k_X12_clock : amInst m_X12_clock 12 0 := ⟨⟨⟨by decide +kernel, by decide, by decide⟩, ⟨by decide, by decide⟩, (amM9 74 rfl (by decide +kernel)), (amM1 14 rfl (by decide +kernel))⟩, (amM9 73 rfl (by decide +kernel)), (amMemS (n := 26) 138 rfl), ⟨_, rfl, rfl⟩, by decide, amNp_of (by decide +kernel)⟩
abbrev m_X12_lets : MI := (yX12_lets, cX12_lets, 8, none, [])
set_option maxRecDepth 8000 in
theorem k_X12_lets : amInst m_X12_lets 12 3 := ⟨⟨⟨by decide +kernel, by decide, by decide⟩, ⟨by decide, by decide⟩, (amM9 78 rfl (by decide +kernel)), (amM1 14 rfl (by decide +kernel))⟩, (amM9 77 rfl (by decide +kernel)), (amMemS (n := 26) 139 rfl), ⟨_, rfl, rfl⟩, by decide, amNp_of (by decide +kernel)⟩
abbrev m_X12_isRow : MI := (yX12_isRow, cX12_isRow, 6, (some .boolean), [])
set_option maxRecDepth 8000 in
theorem k_X12_isRow : amInst m_X12_isRow 12 3 := ⟨⟨⟨by decide +kernel, by decide, by decide⟩, ⟨by decide, by decide⟩, (amM9 82 rfl (by decide +kernel)), (amM1 14 rfl (by decide +kernel))⟩, (amM9 81 rfl (by decide +kernel)), (amMemS (n := 26) 140 rfl), ⟨_, rfl, rfl⟩, by decide, amNp_of (by decide +kernel)⟩
abbrev m_X12_clockEnd : MI := (yX12_clockEnd, cX12_clockEnd, 4, (some .int), [])
set_option maxRecDepth 8000 in
theorem k_X12_clockEnd : amInst m_X12_clockEnd 12 1 := ⟨⟨⟨by decide +kernel, by decide, by decide⟩, ⟨by decide, by decide⟩, (amM9 86 rfl (by decide +kernel)), (amM1 14 rfl (by decide +kernel))⟩, (amM9 84 rfl (by decide +kernel)), (amM9 85 rfl (by decide +kernel)), ⟨_, rfl, rfl⟩, by decide, amNp_of (by decide +kernel)⟩
abbrev m_X12_clockAll : MI := (yX12_clockAll, cX12_clockAll, 5, (some .int), [])
set_option maxRecDepth 8000 in
theorem k_X12_clockAll : amInst m_X12_clockAll 12 0 := ⟨⟨⟨by decide +kernel, by decide, by decide⟩, ⟨by decide, by decide⟩, (amM9 90 rfl (by decide +kernel)), (amM1 14 rfl (by decide +kernel))⟩, (amM9 88 rfl (by decide +kernel)), (amM9 89 rfl (by decide +kernel)), ⟨_, rfl, rfl⟩, by decide, amNp_of (by decide +kernel)⟩
abbrev m_X12_hands : MI := (yX12_hands, cX12_hands, 4, (some .int), [])
set_option maxRecDepth 8000 in
theorem k_X12_hands : amInst m_X12_hands 12 2 := ⟨⟨⟨by decide +kernel, by decide, by decide⟩, ⟨by decide, by decide⟩, (amM9 94 rfl (by decide +kernel)), (amM1 14 rfl (by decide +kernel))⟩, (amM9 92 rfl (by decide +kernel)), (amM9 93 rfl (by decide +kernel)), ⟨_, rfl, rfl⟩, by decide, amNp_of (by decide +kernel)⟩
abbrev m_X12_list : MI := (yX12_list, cX12_list, 3, (some .int), [])
set_option maxRecDepth 8000 in
theorem k_X12_list : amInst m_X12_list 12 1 := ⟨⟨⟨by decide +kernel, by decide, by decide⟩, ⟨by decide, by decide⟩, (amM9 98 rfl (by decide +kernel)), (amM1 14 rfl (by decide +kernel))⟩, (amM9 96 rfl (by decide +kernel)), (amM9 97 rfl (by decide +kernel)), ⟨_, rfl, rfl⟩, by decide, amNp_of (by decide +kernel)⟩
abbrev m_X12_typedPlace : MI := (yX12_typedPlace, cX12_typedPlace, 3, (some .int), [])
set_option maxRecDepth 8000 in
theorem k_X12_typedPlace : amInst m_X12_typedPlace 12 1 := ⟨⟨⟨by decide +kernel, by decide, by decide⟩, ⟨by decide, by decide⟩, (amM9 102 rfl (by decide +kernel)), (amM1 14 rfl (by decide +kernel))⟩, (amM9 101 rfl (by decide +kernel)), (amMemS (n := 26) 141 rfl), ⟨_, rfl, rfl⟩, by decide, amNp_of (by decide +kernel)⟩
abbrev m_X12_wipe : MI := (yX12_wipe, cX12_wipe, 2, (some .int), [])
set_option maxRecDepth 8000 in
theorem k_X12_wipe : amInst m_X12_wipe 12 0 := ⟨⟨⟨by decide +kernel, by decide, by decide⟩, ⟨by decide, by decide⟩, (amM9 106 rfl (by decide +kernel)), (amM1 14 rfl (by decide +kernel))⟩, (amM9 104 rfl (by decide +kernel)), (amM9 105 rfl (by decide +kernel)), ⟨_, rfl, rfl⟩, by decide, amNp_of (by decide +kernel)⟩
abbrev m_X12_listed : MI := (yX12_listed, cX12_listed, 3, (some .int), [])
set_option maxRecDepth 8000 in
theorem k_X12_listed : amInst m_X12_listed 12 2 := ⟨⟨⟨by decide +kernel, by decide, by decide⟩, ⟨by decide, by decide⟩, (amM9 110 rfl (by decide +kernel)), (amM1 14 rfl (by decide +kernel))⟩, (amM9 108 rfl (by decide +kernel)), (amM9 109 rfl (by decide +kernel)), ⟨_, rfl, rfl⟩, by decide, amNp_of (by decide +kernel)⟩
abbrev m_X12_listBy : MI := (yX12_listBy, cX12_listBy, 13, (some (.array .int)), [])
set_option maxRecDepth 8000 in
theorem k_X12_listBy : amInst m_X12_listBy 12 1 := ⟨⟨⟨by decide +kernel, by decide, by decide⟩, ⟨by decide, by decide⟩, (amM9 115 rfl (by decide +kernel)), (amM1 14 rfl (by decide +kernel))⟩, (amM9 114 rfl (by decide +kernel)), (amMemS (n := 26) 142 rfl), ⟨_, rfl, rfl⟩, by decide, amNp_of (by decide +kernel)⟩
abbrev m_X12_plan : MI := (yX12_plan, cX12_plan, 4, (some .int), [])
set_option maxRecDepth 8000 in
theorem k_X12_plan : amInst m_X12_plan 12 2 := ⟨⟨⟨by decide +kernel, by decide, by decide⟩, ⟨by decide, by decide⟩, (amM9 119 rfl (by decide +kernel)), (amM1 14 rfl (by decide +kernel))⟩, (amM9 117 rfl (by decide +kernel)), (amM9 118 rfl (by decide +kernel)), ⟨_, rfl, rfl⟩, by decide, amNp_of (by decide +kernel)⟩
abbrev m_X12_free : MI := (yX12_free, cX12_free, 12, (some .int), [])
set_option maxRecDepth 8000 in
theorem k_X12_free : amInst m_X12_free 12 5 := ⟨⟨⟨by decide +kernel, by decide, by decide⟩, ⟨by decide, by decide⟩, (amM9 123 rfl (by decide +kernel)), (amM1 14 rfl (by decide +kernel))⟩, (amM9 122 rfl (by decide +kernel)), (amMemS (n := 26) 143 rfl), ⟨_, rfl, rfl⟩, by decide, amNp_of (by decide +kernel)⟩
abbrev m_X12_triesNone : MI := (yX12_triesNone, cX12_triesNone, 2, none, [])
set_option maxRecDepth 8000 in
theorem k_X12_triesNone : amInst m_X12_triesNone 12 0 := ⟨⟨⟨by decide +kernel, by decide, by decide⟩, ⟨by decide, by decide⟩, (amM9 127 rfl (by decide +kernel)), (amM1 14 rfl (by decide +kernel))⟩, (amM9 126 rfl (by decide +kernel)), (amMemS (n := 26) 144 rfl), ⟨_, rfl, rfl⟩, by decide, amNp_of (by decide +kernel)⟩
abbrev m_X12_letBy : MI := (yX12_letBy, cX12_letBy, 6, (some .int), [])
set_option maxRecDepth 8000 in
theorem k_X12_letBy : amInst m_X12_letBy 12 3 := ⟨⟨⟨by decide +kernel, by decide, by decide⟩, ⟨by decide, by decide⟩, (amM9 131 rfl (by decide +kernel)), (amM1 14 rfl (by decide +kernel))⟩, (amM9 130 rfl (by decide +kernel)), (amMemS (n := 26) 145 rfl), ⟨_, rfl, rfl⟩, by decide, amNp_of (by decide +kernel)⟩
abbrev m_X12_handIn : MI := (yX12_handIn, cX12_handIn, 10, (some .int), [])
set_option maxRecDepth 8000 in
theorem k_X12_handIn : amInst m_X12_handIn 12 6 := ⟨⟨⟨by decide +kernel, by decide, by decide⟩, ⟨by decide, by decide⟩, (amM9 135 rfl (by decide +kernel)), (amM1 14 rfl (by decide +kernel))⟩, (amM9 134 rfl (by decide +kernel)), (amMemS (n := 26) 146 rfl), ⟨_, rfl, rfl⟩, by decide, amNp_of (by decide +kernel)⟩
abbrev m_X12_meets : MI := (yX12_meets, cX12_meets, 5, (some .boolean), [])
set_option maxRecDepth 8000 in
theorem k_X12_meets : amInst m_X12_meets 12 4 := ⟨⟨⟨by decide +kernel, by decide, by decide⟩, ⟨by decide, by decide⟩, (amM9 139 rfl (by decide +kernel)), (amM1 14 rfl (by decide +kernel))⟩, (amM9 138 rfl (by decide +kernel)), (amMemS (n := 26) 147 rfl), ⟨_, rfl, rfl⟩, by decide, amNp_of (by decide +kernel)⟩
abbrev m_X12_isMachineIn : MI := (yX12_isMachineIn, cX12_isMachineIn, 7, (some .boolean), [])
set_option maxRecDepth 8000 in
theorem k_X12_isMachineIn : amInst m_X12_isMachineIn 12 4 := ⟨⟨⟨by decide +kernel, by decide, by decide⟩, ⟨by decide, by decide⟩, (amM9 143 rfl (by decide +kernel)), (amM1 14 rfl (by decide +kernel))⟩, (amM9 142 rfl (by decide +kernel)), (amMemS (n := 26) 148 rfl), ⟨_, rfl, rfl⟩, by decide, amNp_of (by decide +kernel)⟩
abbrev m_X12_nextTime : MI := (yX12_nextTime, cX12_nextTime, 6, (some .int), [])
set_option maxRecDepth 8000 in
theorem k_X12_nextTime : amInst m_X12_nextTime 12 2 := ⟨⟨⟨by decide +kernel, by decide, by decide⟩, ⟨by decide, by decide⟩, (amM9 147 rfl (by decide +kernel)), (amM1 14 rfl (by decide +kernel))⟩, (amM9 146 rfl (by decide +kernel)), (amMemS (n := 26) 149 rfl), ⟨_, rfl, rfl⟩, by decide, amNp_of (by decide +kernel)⟩
abbrev m_X12_oneByOne : MI := (yX12_oneByOne, cX12_oneByOne, 7, (some .int), [])
set_option maxRecDepth 8000 in
theorem k_X12_oneByOne : amInst m_X12_oneByOne 12 2 := ⟨⟨⟨by decide +kernel, by decide, by decide⟩, ⟨by decide, by decide⟩, (amM9 152 rfl (by decide +kernel)), (amM1 14 rfl (by decide +kernel))⟩, (amM9 151 rfl (by decide +kernel)), (amMemS (n := 26) 150 rfl), ⟨_, rfl, rfl⟩, by decide, amNp_of (by decide +kernel)⟩
abbrev m_X12_nextOf : MI := (yX12_nextOf, cX12_nextOf, 4, (some .int), [])
set_option maxRecDepth 8000 in
theorem k_X12_nextOf : amInst m_X12_nextOf 12 2 := ⟨⟨⟨by decide +kernel, by decide, by decide⟩, ⟨by decide, by decide⟩, (amM9 156 rfl (by decide +kernel)), (amM1 14 rfl (by decide +kernel))⟩, (amM9 155 rfl (by decide +kernel)), (amMemS (n := 26) 151 rfl), ⟨_, rfl, rfl⟩, by decide, amNp_of (by decide +kernel)⟩
abbrev m_X12_planBegin : MI := (yX12_planBegin, cX12_planBegin, 2, (some .int), [])
set_option maxRecDepth 8000 in
theorem k_X12_planBegin : amInst m_X12_planBegin 12 1 := ⟨⟨⟨by decide +kernel, by decide, by decide⟩, ⟨by decide, by decide⟩, (amM9 160 rfl (by decide +kernel)), (amM1 14 rfl (by decide +kernel))⟩, (amM9 158 rfl (by decide +kernel)), (amM9 159 rfl (by decide +kernel)), ⟨_, rfl, rfl⟩, by decide, amNp_of (by decide +kernel)⟩
abbrev m_X12_planHand : MI := (yX12_planHand, cX12_planHand, 2, (some .int), [])
set_option maxRecDepth 8000 in
theorem k_X12_planHand : amInst m_X12_planHand 12 1 := ⟨⟨⟨by decide +kernel, by decide, by decide⟩, ⟨by decide, by decide⟩, (amM9 164 rfl (by decide +kernel)), (amM1 14 rfl (by decide +kernel))⟩, (amM9 162 rfl (by decide +kernel)), (amM9 163 rfl (by decide +kernel)), ⟨_, rfl, rfl⟩, by decide, amNp_of (by decide +kernel)⟩
abbrev m_X12_planEnd : MI := (yX12_planEnd, cX12_planEnd, 1, (some .int), [])
set_option maxRecDepth 8000 in
theorem k_X12_planEnd : amInst m_X12_planEnd 12 0 := ⟨⟨⟨by decide +kernel, by decide, by decide⟩, ⟨by decide, by decide⟩, (amM9 168 rfl (by decide +kernel)), (amM1 14 rfl (by decide +kernel))⟩, (amM9 166 rfl (by decide +kernel)), (amM9 167 rfl (by decide +kernel)), ⟨_, rfl, rfl⟩, by decide, amNp_of (by decide +kernel)⟩
abbrev m_X12_busy : MI := (yX12_busy, cX12_busy, 3, (some .int), [])
set_option maxRecDepth 8000 in
theorem k_X12_busy : amInst m_X12_busy 12 2 := ⟨⟨⟨by decide +kernel, by decide, by decide⟩, ⟨by decide, by decide⟩, (amM9 172 rfl (by decide +kernel)), (amM1 14 rfl (by decide +kernel))⟩, (amM9 170 rfl (by decide +kernel)), (amM9 171 rfl (by decide +kernel)), ⟨_, rfl, rfl⟩, by decide, amNp_of (by decide +kernel)⟩
abbrev m_X12_busyIn : MI := (yX12_busyIn, cX12_busyIn, 5, (some .int), [])
set_option maxRecDepth 8000 in
theorem k_X12_busyIn : amInst m_X12_busyIn 12 2 := ⟨⟨⟨by decide +kernel, by decide, by decide⟩, ⟨by decide, by decide⟩, (amM9 176 rfl (by decide +kernel)), (amM1 14 rfl (by decide +kernel))⟩, (amM9 175 rfl (by decide +kernel)), (amMemS (n := 26) 152 rfl), ⟨_, rfl, rfl⟩, by decide, amNp_of (by decide +kernel)⟩
abbrev m_X12_proofLength : MI := (yX12_proofLength, cX12_proofLength, 1, (some .int), [])
set_option maxRecDepth 8000 in
theorem k_X12_proofLength : amInst m_X12_proofLength 12 0 := ⟨⟨⟨by decide +kernel, by decide, by decide⟩, ⟨by decide, by decide⟩, (amM9 180 rfl (by decide +kernel)), (amM1 14 rfl (by decide +kernel))⟩, (amM9 178 rfl (by decide +kernel)), (amM9 179 rfl (by decide +kernel)), ⟨_, rfl, rfl⟩, by decide, amNp_of (by decide +kernel)⟩
abbrev m_X12_proof : MI := (yX12_proof, cX12_proof, 5, (some (.array .int)), [])
set_option maxRecDepth 8000 in
theorem k_X12_proof : amInst m_X12_proof 12 0 := ⟨⟨⟨by decide +kernel, by decide, by decide⟩, ⟨by decide, by decide⟩, (amM9 184 rfl (by decide +kernel)), (amM1 14 rfl (by decide +kernel))⟩, (amM9 183 rfl (by decide +kernel)), (amMemS (n := 26) 153 rfl), ⟨_, rfl, rfl⟩, by decide, amNp_of (by decide +kernel)⟩
abbrev m_X12_planned : MI := (yX12_planned, cX12_planned, 3, (some .int), [])
set_option maxRecDepth 8000 in
theorem k_X12_planned : amInst m_X12_planned 12 2 := ⟨⟨⟨by decide +kernel, by decide, by decide⟩, ⟨by decide, by decide⟩, (amM9 188 rfl (by decide +kernel)), (amM1 14 rfl (by decide +kernel))⟩, (amM9 187 rfl (by decide +kernel)), (amMemS (n := 26) 154 rfl), ⟨_, rfl, rfl⟩, by decide, amNp_of (by decide +kernel)⟩
abbrev m_X12_lastNeed : MI := (yX12_lastNeed, cX12_lastNeed, 5, (some .int), [])
set_option maxRecDepth 8000 in
theorem k_X12_lastNeed : amInst m_X12_lastNeed 12 1 := ⟨⟨⟨by decide +kernel, by decide, by decide⟩, ⟨by decide, by decide⟩, (amM9 192 rfl (by decide +kernel)), (amM1 14 rfl (by decide +kernel))⟩, (amM9 191 rfl (by decide +kernel)), (amMemS (n := 26) 155 rfl), ⟨_, rfl, rfl⟩, by decide, amNp_of (by decide +kernel)⟩
abbrev m_J6_compare_7cf53 : MI := (yJ6_compare_7cf53, cJ6_compare_7cf53, 2, (some .int), [])
set_option maxRecDepth 8000 in
theorem k_J6_compare_7cf53 : amStat m_J6_compare_7cf53 2 := ⟨⟨⟨by decide +kernel, by decide, by decide⟩, ⟨by decide, by decide⟩, (amM9 195 rfl (by decide +kernel)), (amM1 31 rfl (by decide +kernel))⟩, (amM9 194 rfl (by decide +kernel)), amNp_of (by decide +kernel)⟩
abbrev m_X12_proofAt : MI := (yX12_proofAt, cX12_proofAt, 3, (some .int), [])
set_option maxRecDepth 8000 in
theorem k_X12_proofAt : amInst m_X12_proofAt 12 1 := ⟨⟨⟨by decide +kernel, by decide, by decide⟩, ⟨by decide, by decide⟩, (amM9 199 rfl (by decide +kernel)), (amM1 14 rfl (by decide +kernel))⟩, (amM9 197 rfl (by decide +kernel)), (amM9 198 rfl (by decide +kernel)), ⟨_, rfl, rfl⟩, by decide, amNp_of (by decide +kernel)⟩
abbrev m_X12_isProved : MI := (yX12_isProved, cX12_isProved, 4, (some .boolean), [])
set_option maxRecDepth 8000 in
theorem k_X12_isProved : amInst m_X12_isProved 12 0 := ⟨⟨⟨by decide +kernel, by decide, by decide⟩, ⟨by decide, by decide⟩, (amM9 203 rfl (by decide +kernel)), (amM1 14 rfl (by decide +kernel))⟩, (amM9 201 rfl (by decide +kernel)), (amM9 202 rfl (by decide +kernel)), ⟨_, rfl, rfl⟩, by decide, amNp_of (by decide +kernel)⟩
abbrev m_X12_isChained : MI := (yX12_isChained, cX12_isChained, 7, (some .boolean), [])
set_option maxRecDepth 8000 in
theorem k_X12_isChained : amInst m_X12_isChained 12 2 := ⟨⟨⟨by decide +kernel, by decide, by decide⟩, ⟨by decide, by decide⟩, (amM9 207 rfl (by decide +kernel)), (amM1 14 rfl (by decide +kernel))⟩, (amM9 206 rfl (by decide +kernel)), (amMemS (n := 26) 156 rfl), ⟨_, rfl, rfl⟩, by decide, amNp_of (by decide +kernel)⟩
abbrev m_X12_best : MI := (yX12_best, cX12_best, 5, (some .int), [])
set_option maxRecDepth 8000 in
theorem k_X12_best : amInst m_X12_best 12 1 := ⟨⟨⟨by decide +kernel, by decide, by decide⟩, ⟨by decide, by decide⟩, (amM9 211 rfl (by decide +kernel)), (amM1 14 rfl (by decide +kernel))⟩, (amM9 209 rfl (by decide +kernel)), (amM9 210 rfl (by decide +kernel)), ⟨_, rfl, rfl⟩, by decide, amNp_of (by decide +kernel)⟩
abbrev m_X12_numbers : MI := (yX12_numbers, cX12_numbers, 3, (some (.array .int)), [])
set_option maxRecDepth 8000 in
theorem k_X12_numbers : amStat m_X12_numbers 1 := ⟨⟨⟨by decide +kernel, by decide, by decide⟩, ⟨by decide, by decide⟩, (amM9 214 rfl (by decide +kernel)), (amM1 14 rfl (by decide +kernel))⟩, (amM9 213 rfl (by decide +kernel)), amNp_of (by decide +kernel)⟩
abbrev m_X12_roomy : MI := (yX12_roomy, cX12_roomy, 10, (some .int), [])
set_option maxRecDepth 8000 in
theorem k_X12_roomy : amInst m_X12_roomy 12 3 := ⟨⟨⟨by decide +kernel, by decide, by decide⟩, ⟨by decide, by decide⟩, (amM9 218 rfl (by decide +kernel)), (amM1 14 rfl (by decide +kernel))⟩, (amM9 217 rfl (by decide +kernel)), (amMemS (n := 26) 157 rfl), ⟨_, rfl, rfl⟩, by decide, amNp_of (by decide +kernel)⟩
abbrev m_X12_isRoom : MI := (yX12_isRoom, cX12_isRoom, 7, (some .boolean), [])
set_option maxRecDepth 8000 in
theorem k_X12_isRoom : amInst m_X12_isRoom 12 4 := ⟨⟨⟨by decide +kernel, by decide, by decide⟩, ⟨by decide, by decide⟩, (amM9 222 rfl (by decide +kernel)), (amM1 14 rfl (by decide +kernel))⟩, (amM9 221 rfl (by decide +kernel)), (amMemS (n := 26) 158 rfl), ⟨_, rfl, rfl⟩, by decide, amNp_of (by decide +kernel)⟩
abbrev m_X12_worksAt : MI := (yX12_worksAt, cX12_worksAt, 5, (some .int), [])
set_option maxRecDepth 8000 in
theorem k_X12_worksAt : amInst m_X12_worksAt 12 2 := ⟨⟨⟨by decide +kernel, by decide, by decide⟩, ⟨by decide, by decide⟩, (amM9 226 rfl (by decide +kernel)), (amM1 14 rfl (by decide +kernel))⟩, (amM9 225 rfl (by decide +kernel)), (amMemS (n := 26) 159 rfl), ⟨_, rfl, rfl⟩, by decide, amNp_of (by decide +kernel)⟩
abbrev m_X12_hasNext : MI := (yX12_hasNext, cX12_hasNext, 5, (some .boolean), [])
set_option maxRecDepth 8000 in
theorem k_X12_hasNext : amStat m_X12_hasNext 1 := ⟨⟨⟨by decide +kernel, by decide, by decide⟩, ⟨by decide, by decide⟩, (amM9 229 rfl (by decide +kernel)), (amM1 14 rfl (by decide +kernel))⟩, (amM9 228 rfl (by decide +kernel)), amNp_of (by decide +kernel)⟩
abbrev m_X12_swap : MI := (yX12_swap, cX12_swap, 4, none, [])
set_option maxRecDepth 8000 in
theorem k_X12_swap : amStat m_X12_swap 3 := ⟨⟨⟨by decide +kernel, by decide, by decide⟩, ⟨by decide, by decide⟩, (amM9 232 rfl (by decide +kernel)), (amM1 14 rfl (by decide +kernel))⟩, (amM9 231 rfl (by decide +kernel)), amNp_of (by decide +kernel)⟩
abbrev m_X12_bestByLists : MI := (yX12_bestByLists, cX12_bestByLists, 6, (some .int), [])
set_option maxRecDepth 8000 in
theorem k_X12_bestByLists : amInst m_X12_bestByLists 12 1 := ⟨⟨⟨by decide +kernel, by decide, by decide⟩, ⟨by decide, by decide⟩, (amM9 236 rfl (by decide +kernel)), (amM1 14 rfl (by decide +kernel))⟩, (amM9 234 rfl (by decide +kernel)), (amM9 235 rfl (by decide +kernel)), ⟨_, rfl, rfl⟩, by decide, amNp_of (by decide +kernel)⟩
abbrev m_X12_anomaly : MI := (yX12_anomaly, cX12_anomaly, 9, (some .int), [])
set_option maxRecDepth 8000 in
theorem k_X12_anomaly : amInst m_X12_anomaly 12 2 := ⟨⟨⟨by decide +kernel, by decide, by decide⟩, ⟨by decide, by decide⟩, (amM10 0 rfl (by decide +kernel)), (amM1 14 rfl (by decide +kernel))⟩, (amM9 238 rfl (by decide +kernel)), (amM9 239 rfl (by decide +kernel)), ⟨_, rfl, rfl⟩, by decide, amNp_of (by decide +kernel)⟩
abbrev m_X12_leastPeak : MI := (yX12_leastPeak, cX12_leastPeak, 6, (some .int), [])
set_option maxRecDepth 8000 in
theorem k_X12_leastPeak : amInst m_X12_leastPeak 12 0 := ⟨⟨⟨by decide +kernel, by decide, by decide⟩, ⟨by decide, by decide⟩, (amM10 5 rfl (by decide +kernel)), (amM1 14 rfl (by decide +kernel))⟩, (amM10 3 rfl (by decide +kernel)), (amM10 4 rfl (by decide +kernel)), ⟨_, rfl, rfl⟩, by decide, amNp_of (by decide +kernel)⟩
abbrev m_X12_areTooMany : MI := (yX12_areTooMany, cX12_areTooMany, 6, (some .boolean), [])
set_option maxRecDepth 8000 in
theorem k_X12_areTooMany : amInst m_X12_areTooMany 12 2 := ⟨⟨⟨by decide +kernel, by decide, by decide⟩, ⟨by decide, by decide⟩, (amM10 9 rfl (by decide +kernel)), (amM1 14 rfl (by decide +kernel))⟩, (amM10 8 rfl (by decide +kernel)), (amMemS (n := 26) 160 rfl), ⟨_, rfl, rfl⟩, by decide, amNp_of (by decide +kernel)⟩
abbrev m_X12_peakOf : MI := (yX12_peakOf, cX12_peakOf, 7, (some .int), [])
set_option maxRecDepth 8000 in
theorem k_X12_peakOf : amInst m_X12_peakOf 12 2 := ⟨⟨⟨by decide +kernel, by decide, by decide⟩, ⟨by decide, by decide⟩, (amM10 14 rfl (by decide +kernel)), (amM1 14 rfl (by decide +kernel))⟩, (amM10 13 rfl (by decide +kernel)), (amMemS (n := 26) 161 rfl), ⟨_, rfl, rfl⟩, by decide, amNp_of (by decide +kernel)⟩
abbrev m_X12_goesOn : MI := (yX12_goesOn, cX12_goesOn, 5, (some .boolean), [])
set_option maxRecDepth 8000 in
theorem k_X12_goesOn : amInst m_X12_goesOn 12 3 := ⟨⟨⟨by decide +kernel, by decide, by decide⟩, ⟨by decide, by decide⟩, (amM10 18 rfl (by decide +kernel)), (amM1 14 rfl (by decide +kernel))⟩, (amM10 17 rfl (by decide +kernel)), (amMemS (n := 26) 162 rfl), ⟨_, rfl, rfl⟩, by decide, amNp_of (by decide +kernel)⟩
abbrev m_X12_areLet : MI := (yX12_areLet, cX12_areLet, 5, (some .boolean), [])
set_option maxRecDepth 8000 in
theorem k_X12_areLet : amInst m_X12_areLet 12 2 := ⟨⟨⟨by decide +kernel, by decide, by decide⟩, ⟨by decide, by decide⟩, (amM10 22 rfl (by decide +kernel)), (amM1 14 rfl (by decide +kernel))⟩, (amM10 21 rfl (by decide +kernel)), (amMemS (n := 26) 163 rfl), ⟨_, rfl, rfl⟩, by decide, amNp_of (by decide +kernel)⟩
abbrev m_X12_shorten : MI := (yX12_shorten, cX12_shorten, 7, (some .int), [])
set_option maxRecDepth 8000 in
theorem k_X12_shorten : amInst m_X12_shorten 12 3 := ⟨⟨⟨by decide +kernel, by decide, by decide⟩, ⟨by decide, by decide⟩, (amM10 26 rfl (by decide +kernel)), (amM1 14 rfl (by decide +kernel))⟩, (amM10 24 rfl (by decide +kernel)), (amM10 25 rfl (by decide +kernel)), ⟨_, rfl, rfl⟩, by decide, amNp_of (by decide +kernel)⟩
abbrev m_X12_leastEnd : MI := (yX12_leastEnd, cX12_leastEnd, 1, (some .int), [])
set_option maxRecDepth 8000 in
theorem k_X12_leastEnd : amInst m_X12_leastEnd 12 0 := ⟨⟨⟨by decide +kernel, by decide, by decide⟩, ⟨by decide, by decide⟩, (amM10 30 rfl (by decide +kernel)), (amM1 14 rfl (by decide +kernel))⟩, (amM10 28 rfl (by decide +kernel)), (amM10 29 rfl (by decide +kernel)), ⟨_, rfl, rfl⟩, by decide, amNp_of (by decide +kernel)⟩
abbrev m_X12_cuts : MI := (yX12_cuts, cX12_cuts, 3, (some (.array .int)), [])
set_option maxRecDepth 8000 in
theorem k_X12_cuts : amInst m_X12_cuts 12 0 := ⟨⟨⟨by decide +kernel, by decide, by decide⟩, ⟨by decide, by decide⟩, (amM10 34 rfl (by decide +kernel)), (amM1 14 rfl (by decide +kernel))⟩, (amM10 33 rfl (by decide +kernel)), (amMemS (n := 26) 164 rfl), ⟨_, rfl, rfl⟩, by decide, amNp_of (by decide +kernel)⟩
abbrev m_X12_endCut : MI := (yX12_endCut, cX12_endCut, 4, (some .int), [])
set_option maxRecDepth 8000 in
theorem k_X12_endCut : amInst m_X12_endCut 12 1 := ⟨⟨⟨by decide +kernel, by decide, by decide⟩, ⟨by decide, by decide⟩, (amM10 38 rfl (by decide +kernel)), (amM1 14 rfl (by decide +kernel))⟩, (amM10 37 rfl (by decide +kernel)), (amMemS (n := 26) 165 rfl), ⟨_, rfl, rfl⟩, by decide, amNp_of (by decide +kernel)⟩
abbrev m_X12_leastCost : MI := (yX12_leastCost, cX12_leastCost, 9, (some .int), [])
set_option maxRecDepth 8000 in
theorem k_X12_leastCost : amInst m_X12_leastCost 12 1 := ⟨⟨⟨by decide +kernel, by decide, by decide⟩, ⟨by decide, by decide⟩, (amM10 42 rfl (by decide +kernel)), (amM1 14 rfl (by decide +kernel))⟩, (amM10 40 rfl (by decide +kernel)), (amM10 41 rfl (by decide +kernel)), ⟨_, rfl, rfl⟩, by decide, amNp_of (by decide +kernel)⟩
abbrev m_X12_guess : MI := (yX12_guess, cX12_guess, 6, (some .int), [])
set_option maxRecDepth 8000 in
theorem k_X12_guess : amInst m_X12_guess 12 3 := ⟨⟨⟨by decide +kernel, by decide, by decide⟩, ⟨by decide, by decide⟩, (amM10 46 rfl (by decide +kernel)), (amM1 14 rfl (by decide +kernel))⟩, (amM10 44 rfl (by decide +kernel)), (amM10 45 rfl (by decide +kernel)), ⟨_, rfl, rfl⟩, by decide, amNp_of (by decide +kernel)⟩
abbrev m_X12_guessed : MI := (yX12_guessed, cX12_guessed, 3, (some .int), [])
set_option maxRecDepth 8000 in
theorem k_X12_guessed : amInst m_X12_guessed 12 0 := ⟨⟨⟨by decide +kernel, by decide, by decide⟩, ⟨by decide, by decide⟩, (amM10 50 rfl (by decide +kernel)), (amM1 14 rfl (by decide +kernel))⟩, (amM10 49 rfl (by decide +kernel)), (amMemS (n := 26) 166 rfl), ⟨_, rfl, rfl⟩, by decide, amNp_of (by decide +kernel)⟩
abbrev m_X12_allOdds : MI := (yX12_allOdds, cX12_allOdds, 4, (some .long), [])
set_option maxRecDepth 8000 in
theorem k_X12_allOdds : amInst m_X12_allOdds 12 0 := ⟨⟨⟨by decide +kernel, by decide, by decide⟩, ⟨by decide, by decide⟩, (amM10 54 rfl (by decide +kernel)), (amM1 14 rfl (by decide +kernel))⟩, (amM10 52 rfl (by decide +kernel)), (amM10 53 rfl (by decide +kernel)), ⟨_, rfl, rfl⟩, by decide, amNp_of (by decide +kernel)⟩
abbrev m_X12_oddsBy : MI := (yX12_oddsBy, cX12_oddsBy, 2, (some .long), [])
set_option maxRecDepth 8000 in
theorem k_X12_oddsBy : amInst m_X12_oddsBy 12 1 := ⟨⟨⟨by decide +kernel, by decide, by decide⟩, ⟨by decide, by decide⟩, (amM10 59 rfl (by decide +kernel)), (amM1 14 rfl (by decide +kernel))⟩, (amM10 57 rfl (by decide +kernel)), (amM10 58 rfl (by decide +kernel)), ⟨_, rfl, rfl⟩, by decide, amNp_of (by decide +kernel)⟩
abbrev m_X12_odds : MI := (yX12_odds, cX12_odds, 13, (some .long), [])
set_option maxRecDepth 8000 in
theorem k_X12_odds : amInst m_X12_odds 12 2 := ⟨⟨⟨by decide +kernel, by decide, by decide⟩, ⟨by decide, by decide⟩, (amM10 63 rfl (by decide +kernel)), (amM1 14 rfl (by decide +kernel))⟩, (amM10 62 rfl (by decide +kernel)), (amMemS (n := 26) 167 rfl), ⟨_, rfl, rfl⟩, by decide, amNp_of (by decide +kernel)⟩
abbrev m_X12_oddsCritical : MI := (yX12_oddsCritical, cX12_oddsCritical, 2, (some .long), [])
set_option maxRecDepth 8000 in
theorem k_X12_oddsCritical : amInst m_X12_oddsCritical 12 1 := ⟨⟨⟨by decide +kernel, by decide, by decide⟩, ⟨by decide, by decide⟩, (amM10 68 rfl (by decide +kernel)), (amM1 14 rfl (by decide +kernel))⟩, (amM10 66 rfl (by decide +kernel)), (amM10 67 rfl (by decide +kernel)), ⟨_, rfl, rfl⟩, by decide, amNp_of (by decide +kernel)⟩
abbrev m_X12_planned_ : MI := (yX12_planned_, cX12_planned_, 2, (some .int), [])
set_option maxRecDepth 8000 in
theorem k_X12_planned_ : amInst m_X12_planned_ 12 1 := ⟨⟨⟨by decide +kernel, by decide, by decide⟩, ⟨by decide, by decide⟩, (amM10 72 rfl (by decide +kernel)), (amM1 14 rfl (by decide +kernel))⟩, (amM10 70 rfl (by decide +kernel)), (amM10 71 rfl (by decide +kernel)), ⟨_, rfl, rfl⟩, by decide, amNp_of (by decide +kernel)⟩
abbrev m_X12_plannedBy : MI := (yX12_plannedBy, cX12_plannedBy, 6, (some .int), [])
set_option maxRecDepth 8000 in
theorem k_X12_plannedBy : amInst m_X12_plannedBy 12 1 := ⟨⟨⟨by decide +kernel, by decide, by decide⟩, ⟨by decide, by decide⟩, (amM10 76 rfl (by decide +kernel)), (amM1 14 rfl (by decide +kernel))⟩, (amM10 75 rfl (by decide +kernel)), (amMemS (n := 26) 168 rfl), ⟨_, rfl, rfl⟩, by decide, amNp_of (by decide +kernel)⟩
abbrev m_X12_earned : MI := (yX12_earned, cX12_earned, 1, (some .int), [])
set_option maxRecDepth 8000 in
theorem k_X12_earned : amInst m_X12_earned 12 0 := ⟨⟨⟨by decide +kernel, by decide, by decide⟩, ⟨by decide, by decide⟩, (amM10 80 rfl (by decide +kernel)), (amM1 14 rfl (by decide +kernel))⟩, (amM10 78 rfl (by decide +kernel)), (amM10 79 rfl (by decide +kernel)), ⟨_, rfl, rfl⟩, by decide, amNp_of (by decide +kernel)⟩
abbrev m_X12_earnedNow : MI := (yX12_earnedNow, cX12_earnedNow, 3, (some .int), [])
set_option maxRecDepth 8000 in
theorem k_X12_earnedNow : amInst m_X12_earnedNow 12 0 := ⟨⟨⟨by decide +kernel, by decide, by decide⟩, ⟨by decide, by decide⟩, (amM10 84 rfl (by decide +kernel)), (amM1 14 rfl (by decide +kernel))⟩, (amM10 83 rfl (by decide +kernel)), (amMemS (n := 26) 169 rfl), ⟨_, rfl, rfl⟩, by decide, amNp_of (by decide +kernel)⟩
abbrev m_X12_index : MI := (yX12_index, cX12_index, 3, (some .float), [])
set_option maxRecDepth 8000 in
theorem k_X12_index : amInst m_X12_index 12 1 := ⟨⟨⟨by decide +kernel, by decide, by decide⟩, ⟨by decide, by decide⟩, (amM10 88 rfl (by decide +kernel)), (amM1 14 rfl (by decide +kernel))⟩, (amM10 86 rfl (by decide +kernel)), (amM10 87 rfl (by decide +kernel)), ⟨_, rfl, rfl⟩, by decide, amNp_of (by decide +kernel)⟩
abbrev m_X12_keep : MI := (yX12_keep, cX12_keep, 3, (some .int), [])
set_option maxRecDepth 8000 in
theorem k_X12_keep : amInst m_X12_keep 12 0 := ⟨⟨⟨by decide +kernel, by decide, by decide⟩, ⟨by decide, by decide⟩, (amM10 92 rfl (by decide +kernel)), (amM1 14 rfl (by decide +kernel))⟩, (amM10 90 rfl (by decide +kernel)), (amM10 91 rfl (by decide +kernel)), ⟨_, rfl, rfl⟩, by decide, amNp_of (by decide +kernel)⟩
abbrev m_X12_moved : MI := (yX12_moved, cX12_moved, 4, (some .int), [])
set_option maxRecDepth 8000 in
theorem k_X12_moved : amInst m_X12_moved 12 0 := ⟨⟨⟨by decide +kernel, by decide, by decide⟩, ⟨by decide, by decide⟩, (amM10 96 rfl (by decide +kernel)), (amM1 14 rfl (by decide +kernel))⟩, (amM10 94 rfl (by decide +kernel)), (amM10 95 rfl (by decide +kernel)), ⟨_, rfl, rfl⟩, by decide, amNp_of (by decide +kernel)⟩
abbrev m_X12_movedBy : MI := (yX12_movedBy, cX12_movedBy, 2, (some .int), [])
set_option maxRecDepth 8000 in
theorem k_X12_movedBy : amInst m_X12_movedBy 12 1 := ⟨⟨⟨by decide +kernel, by decide, by decide⟩, ⟨by decide, by decide⟩, (amM10 100 rfl (by decide +kernel)), (amM1 14 rfl (by decide +kernel))⟩, (amM10 98 rfl (by decide +kernel)), (amM10 99 rfl (by decide +kernel)), ⟨_, rfl, rfl⟩, by decide, amNp_of (by decide +kernel)⟩
abbrev m_X12_crane : MI := (yX12_crane, cX12_crane, 8, (some .int), [])
set_option maxRecDepth 8000 in
theorem k_X12_crane : amInst m_X12_crane 12 0 := ⟨⟨⟨by decide +kernel, by decide, by decide⟩, ⟨by decide, by decide⟩, (amM10 104 rfl (by decide +kernel)), (amM1 14 rfl (by decide +kernel))⟩, (amM10 102 rfl (by decide +kernel)), (amM10 103 rfl (by decide +kernel)), ⟨_, rfl, rfl⟩, by decide, amNp_of (by decide +kernel)⟩
abbrev m_X12_ordered : MI := (yX12_ordered, cX12_ordered, 11, (some .int), [])
set_option maxRecDepth 8000 in
theorem k_X12_ordered : amInst m_X12_ordered 12 2 := ⟨⟨⟨by decide +kernel, by decide, by decide⟩, ⟨by decide, by decide⟩, (amM10 108 rfl (by decide +kernel)), (amM1 14 rfl (by decide +kernel))⟩, (amM10 107 rfl (by decide +kernel)), (amMemS (n := 26) 170 rfl), ⟨_, rfl, rfl⟩, by decide, amNp_of (by decide +kernel)⟩
abbrev m_X12_criticalShare : MI := (yX12_criticalShare, cX12_criticalShare, 3, (some .float), [])
set_option maxRecDepth 8000 in
theorem k_X12_criticalShare : amInst m_X12_criticalShare 12 0 := ⟨⟨⟨by decide +kernel, by decide, by decide⟩, ⟨by decide, by decide⟩, (amM10 112 rfl (by decide +kernel)), (amM1 14 rfl (by decide +kernel))⟩, (amM10 110 rfl (by decide +kernel)), (amM10 111 rfl (by decide +kernel)), ⟨_, rfl, rfl⟩, by decide, amNp_of (by decide +kernel)⟩
abbrev m_X12_totalSlack : MI := (yX12_totalSlack, cX12_totalSlack, 3, (some .int), [])
set_option maxRecDepth 8000 in
theorem k_X12_totalSlack : amInst m_X12_totalSlack 12 1 := ⟨⟨⟨by decide +kernel, by decide, by decide⟩, ⟨by decide, by decide⟩, (amM10 116 rfl (by decide +kernel)), (amM1 14 rfl (by decide +kernel))⟩, (amM10 115 rfl (by decide +kernel)), (amMemS (n := 26) 171 rfl), ⟨_, rfl, rfl⟩, by decide, amNp_of (by decide +kernel)⟩
abbrev m_X12_meanLength : MI := (yX12_meanLength, cX12_meanLength, 3, (some .double), [])
set_option maxRecDepth 8000 in
theorem k_X12_meanLength : amInst m_X12_meanLength 12 0 := ⟨⟨⟨by decide +kernel, by decide, by decide⟩, ⟨by decide, by decide⟩, (amM10 120 rfl (by decide +kernel)), (amM1 14 rfl (by decide +kernel))⟩, (amM10 118 rfl (by decide +kernel)), (amM10 119 rfl (by decide +kernel)), ⟨_, rfl, rfl⟩, by decide, amNp_of (by decide +kernel)⟩
abbrev m_X12_checksum : MI := (yX12_checksum, cX12_checksum, 5, (some .long), [])
set_option maxRecDepth 8000 in
theorem k_X12_checksum : amInst m_X12_checksum 12 0 := ⟨⟨⟨by decide +kernel, by decide, by decide⟩, ⟨by decide, by decide⟩, (amM10 124 rfl (by decide +kernel)), (amM1 14 rfl (by decide +kernel))⟩, (amM10 122 rfl (by decide +kernel)), (amM10 123 rfl (by decide +kernel)), ⟨_, rfl, rfl⟩, by decide, amNp_of (by decide +kernel)⟩
abbrev m_X12_isTrue : MI := (yX12_isTrue, cX12_isTrue, 1, (some .boolean), [])
set_option maxRecDepth 8000 in
theorem k_X12_isTrue : amInst m_X12_isTrue 12 0 := ⟨⟨⟨by decide +kernel, by decide, by decide⟩, ⟨by decide, by decide⟩, (amM10 131 rfl (by decide +kernel)), (amM1 14 rfl (by decide +kernel))⟩, (amM10 129 rfl (by decide +kernel)), (amM10 130 rfl (by decide +kernel)), ⟨_, rfl, rfl⟩, by decide, amNp_of (by decide +kernel)⟩
set_option maxRecDepth 8000 in
theorem l_RL_180 : amLk "CriticalweekPlansLaw" 180 m_X11_init.1 := Or.inl (amM1 35 rfl (by decide +kernel))
set_option maxRecDepth 8000 in
theorem l_RX11_9 : amLk "CriticalweekPlans" 9 m_X0_init.1 := Or.inr ⟨"CriticalweekPlans", (amM1 43 rfl (by decide +kernel))⟩
set_option maxRecDepth 8000 in
theorem l_RX11_21 : amLk "CriticalweekPlans" 21 m_X3_init.1 := Or.inr ⟨"CriticalweekPlans", (amM1 91 rfl (by decide +kernel))⟩
set_option maxRecDepth 8000 in
theorem l_RX3_17 : amLk "CriticalweekPlans$History" 17 m_X0_init.1 := Or.inr ⟨"CriticalweekPlans", (amM1 97 rfl (by decide +kernel))⟩
set_option maxRecDepth 8000 in
theorem l_RX11_28 : amLk "CriticalweekPlans" 28 m_X10_init.1 := Or.inr ⟨"CriticalweekPlans", (amM1 111 rfl (by decide +kernel))⟩
set_option maxRecDepth 8000 in
theorem l_RX11_35 : amLk "CriticalweekPlans" 35 m_X7_init.1 := Or.inr ⟨"CriticalweekPlans", (amM1 130 rfl (by decide +kernel))⟩
set_option maxRecDepth 8000 in
theorem l_RX11_42 : amLk "CriticalweekPlans" 42 m_X1_init.1 := Or.inr ⟨"CriticalweekPlans", (amM1 207 rfl (by decide +kernel))⟩
set_option maxRecDepth 8000 in
theorem l_RX1_23 : amLk "CriticalweekPlans$Clock" 23 m_J7_fill_53178.1 := Or.inl (amM1 212 rfl (by decide +kernel))
set_option maxRecDepth 8000 in
theorem l_RX11_62 : amLk "CriticalweekPlans" 62 m_X9_init.1 := Or.inr ⟨"CriticalweekPlans", (amM1 230 rfl (by decide +kernel))⟩
set_option maxRecDepth 8000 in
theorem l_RX11_75 : amLk "CriticalweekPlans" 75 m_X5_init.1 := Or.inr ⟨"CriticalweekPlans", (amM2 50 rfl (by decide +kernel))⟩
set_option maxRecDepth 8000 in
theorem l_RX11_84 : amLk "CriticalweekPlans" 84 m_X4_init.1 := Or.inr ⟨"CriticalweekPlans", (amM2 78 rfl (by decide +kernel))⟩
set_option maxRecDepth 8000 in
theorem l_RX11_91 : amLk "CriticalweekPlans" 91 m_X6_init.1 := Or.inr ⟨"CriticalweekPlans", (amM2 97 rfl (by decide +kernel))⟩
set_option maxRecDepth 8000 in
theorem l_RX11_98 : amLk "CriticalweekPlans" 98 m_X8_init.1 := Or.inr ⟨"CriticalweekPlans", (amM2 125 rfl (by decide +kernel))⟩
set_option maxRecDepth 8000 in
theorem l_RX11_105 : amLk "CriticalweekPlans" 105 m_X2_init.1 := Or.inr ⟨"CriticalweekPlans", (amM2 150 rfl (by decide +kernel))⟩
set_option maxRecDepth 8000 in
theorem l_RL_201 : amLk "CriticalweekPlansLaw" 201 m_X11_tasks.1 := Or.inl (amM2 238 rfl (by decide +kernel))
set_option maxRecDepth 8000 in
theorem l_RL_212 : amLk "CriticalweekPlansLaw" 212 m_X11_needs.1 := Or.inl (amM3 2 rfl (by decide +kernel))
set_option maxRecDepth 8000 in
theorem l_RL_231 : amLk "CriticalweekPlansLaw" 231 m_X11_erase.1 := Or.inl (amM3 6 rfl (by decide +kernel))
set_option maxRecDepth 8000 in
theorem l_RL_238 : amLk "CriticalweekPlansLaw" 238 m_X11_read.1 := Or.inl (amM3 10 rfl (by decide +kernel))
set_option maxRecDepth 8000 in
theorem l_RX11_231 : amLk "CriticalweekPlans" 231 m_X10_readInto.1 := Or.inr ⟨"CriticalweekPlans", (amM3 14 rfl (by decide +kernel))⟩
set_option maxRecDepth 8000 in
theorem l_RX10_15 : amLk "CriticalweekPlans$Text" 15 m_X0_makeEmpty.1 := Or.inr ⟨"CriticalweekPlans", (amM3 18 rfl (by decide +kernel))⟩
set_option maxRecDepth 8000 in
theorem l_RX10_24 : amLk "CriticalweekPlans$Text" 24 m_X10_readTask.1 := Or.inl (amM3 22 rfl (by decide +kernel))
set_option maxRecDepth 8000 in
theorem l_RX10_31 : amLk "CriticalweekPlans$Text" 31 m_X10_readNumber.1 := Or.inl (amM3 26 rfl (by decide +kernel))
set_option maxRecDepth 8000 in
theorem l_RX10_57 : amLk "CriticalweekPlans$Text" 57 m_X10_isDigit.1 := Or.inl (amM3 30 rfl (by decide +kernel))
set_option maxRecDepth 8000 in
theorem l_RX10_38 : amLk "CriticalweekPlans$Text" 38 m_X0_addTask.1 := Or.inr ⟨"CriticalweekPlans", (amM3 37 rfl (by decide +kernel))⟩
set_option maxRecDepth 8000 in
theorem l_RX10_42 : amLk "CriticalweekPlans$Text" 42 m_X10_isAt.1 := Or.inl (amM3 41 rfl (by decide +kernel))
set_option maxRecDepth 8000 in
theorem l_RX10_46 : amLk "CriticalweekPlans$Text" 46 m_X10_readNeed.1 := Or.inl (amM3 45 rfl (by decide +kernel))
set_option maxRecDepth 8000 in
theorem l_RX10_49 : amLk "CriticalweekPlans$Text" 49 m_X0_hasNeed.1 := Or.inr ⟨"CriticalweekPlans", (amM3 49 rfl (by decide +kernel))⟩
set_option maxRecDepth 8000 in
theorem l_RX10_53 : amLk "CriticalweekPlans$Text" 53 m_X0_addNeed.1 := Or.inr ⟨"CriticalweekPlans", (amM3 53 rfl (by decide +kernel))⟩
set_option maxRecDepth 8000 in
theorem l_RX11_126 : amLk "CriticalweekPlans" 126 m_X11_keepBook.1 := Or.inl (amM3 57 rfl (by decide +kernel))
set_option maxRecDepth 8000 in
theorem l_RX11_516 : amLk "CriticalweekPlans" 516 m_X3_put.1 := Or.inr ⟨"CriticalweekPlans", (amM3 61 rfl (by decide +kernel))⟩
set_option maxRecDepth 8000 in
theorem l_RX3_22 : amLk "CriticalweekPlans$History" 22 m_X0_becomeLike.1 := Or.inr ⟨"CriticalweekPlans", (amM3 65 rfl (by decide +kernel))⟩
set_option maxRecDepth 8000 in
theorem l_RX11_211 : amLk "CriticalweekPlans" 211 m_X11_leaveOldBook.1 := Or.inl (amM3 73 rfl (by decide +kernel))
set_option maxRecDepth 8000 in
theorem l_RX11_235 : amLk "CriticalweekPlans" 235 m_X0_becomeLike.1 := Or.inr ⟨"CriticalweekPlans", (amM3 77 rfl (by decide +kernel))⟩
set_option maxRecDepth 8000 in
theorem l_RL_248 : amLk "CriticalweekPlansLaw" 248 m_X11_end.1 := Or.inl (amM3 78 rfl (by decide +kernel))
set_option maxRecDepth 8000 in
theorem l_RX11_238 : amLk "CriticalweekPlans" 238 m_X11_freshNet.1 := Or.inl (amM3 82 rfl (by decide +kernel))
set_option maxRecDepth 8000 in
theorem l_RX11_522 : amLk "CriticalweekPlans" 522 m_X7_lay.1 := Or.inr ⟨"CriticalweekPlans", (amM3 86 rfl (by decide +kernel))⟩
set_option maxRecDepth 8000 in
theorem l_RX7_54 : amLk "CriticalweekPlans$Net" 54 m_X7_orderTasks.1 := Or.inl (amM3 90 rfl (by decide +kernel))
set_option maxRecDepth 8000 in
theorem l_RX7_61 : amLk "CriticalweekPlans$Net" 61 m_J7_fill_53178.1 := Or.inl (amM3 94 rfl (by decide +kernel))
set_option maxRecDepth 8000 in
theorem l_RX7_58 : amLk "CriticalweekPlans$Net" 58 m_X7_orderNeeds.1 := Or.inl (amM3 95 rfl (by decide +kernel))
set_option maxRecDepth 8000 in
theorem l_RX7_71 : amLk "CriticalweekPlans$Net" 71 m_X7_pushBegins.1 := Or.inl (amM3 99 rfl (by decide +kernel))
set_option maxRecDepth 8000 in
theorem l_RX7_75 : amLk "CriticalweekPlans$Net" 75 m_X7_lastEnd.1 := Or.inl (amM3 103 rfl (by decide +kernel))
set_option maxRecDepth 8000 in
theorem l_RX7_82 : amLk "CriticalweekPlans$Net" 82 m_X7_pullLatests.1 := Or.inl (amM3 110 rfl (by decide +kernel))
set_option maxRecDepth 8000 in
theorem l_RL_258 : amLk "CriticalweekPlansLaw" 258 m_X11_chains.1 := Or.inl (amM3 114 rfl (by decide +kernel))
set_option maxRecDepth 8000 in
theorem l_RX11_273 : amLk "CriticalweekPlans" 273 m_X7_countChains.1 := Or.inr ⟨"CriticalweekPlans", (amM3 118 rfl (by decide +kernel))⟩
set_option maxRecDepth 8000 in
theorem l_RX7_102 : amLk "CriticalweekPlans$Net" 102 m_X7_restOf.1 := Or.inl (amM3 122 rfl (by decide +kernel))
set_option maxRecDepth 8000 in
theorem l_RX7_106 : amLk "CriticalweekPlans$Net" 106 m_X7_isLongest.1 := Or.inl (amM3 126 rfl (by decide +kernel))
set_option maxRecDepth 8000 in
theorem l_RL_262 : amLk "CriticalweekPlansLaw" 262 m_X11_chainLength.1 := Or.inl (amM3 130 rfl (by decide +kernel))
set_option maxRecDepth 8000 in
theorem l_RX11_277 : amLk "CriticalweekPlans" 277 m_X7_tellChain.1 := Or.inr ⟨"CriticalweekPlans", (amM3 134 rfl (by decide +kernel))⟩
set_option maxRecDepth 8000 in
theorem l_RX7_110 : amLk "CriticalweekPlans$Net" 110 m_X7_nextOnChain.1 := Or.inl (amM3 138 rfl (by decide +kernel))
set_option maxRecDepth 8000 in
theorem l_RL_291 : amLk "CriticalweekPlansLaw" 291 m_X11_wipe.1 := Or.inl (amM3 142 rfl (by decide +kernel))
set_option maxRecDepth 8000 in
theorem l_RL_339 : amLk "CriticalweekPlansLaw" 339 m_X11_leastEnd.1 := Or.inl (amM3 146 rfl (by decide +kernel))
set_option maxRecDepth 8000 in
theorem l_RX11_405 : amLk "CriticalweekPlans" 405 m_X6_shortestEnd.1 := Or.inr ⟨"CriticalweekPlans", (amM3 150 rfl (by decide +kernel))⟩
set_option maxRecDepth 8000 in
theorem l_RX6_39 : amLk "CriticalweekPlans$Money" 39 m_X6_endWith.1 := Or.inl (amM3 154 rfl (by decide +kernel))
set_option maxRecDepth 8000 in
theorem l_RX6_45 : amLk "CriticalweekPlans$Money" 45 m_J7_fill_53178.1 := Or.inl (amM3 158 rfl (by decide +kernel))
set_option maxRecDepth 8000 in
theorem l_RX6_51 : amLk "CriticalweekPlans$Money" 51 m_X7_pushBegins.1 := Or.inr ⟨"CriticalweekPlans", (amM3 159 rfl (by decide +kernel))⟩
set_option maxRecDepth 8000 in
theorem l_RX6_57 : amLk "CriticalweekPlans$Money" 57 m_X7_lastEnd.1 := Or.inr ⟨"CriticalweekPlans", (amM3 160 rfl (by decide +kernel))⟩
set_option maxRecDepth 8000 in
theorem l_RL_361 : amLk "CriticalweekPlansLaw" 361 m_X11_earned.1 := Or.inl (amM3 161 rfl (by decide +kernel))
set_option maxRecDepth 8000 in
theorem l_RX11_436 : amLk "CriticalweekPlans" 436 m_X11_worthDone.1 := Or.inl (amM3 165 rfl (by decide +kernel))
set_option maxRecDepth 8000 in
theorem l_RL_369 : amLk "CriticalweekPlansLaw" 369 m_X11_keep.1 := Or.inl (amM3 169 rfl (by decide +kernel))
set_option maxRecDepth 8000 in
theorem l_RL_373 : amLk "CriticalweekPlansLaw" 373 m_X11_moved.1 := Or.inl (amM3 174 rfl (by decide +kernel))
set_option maxRecDepth 8000 in
theorem l_RX11_453 : amLk "CriticalweekPlans" 453 m_X0_hasTask.1 := Or.inr ⟨"CriticalweekPlans", (amM3 178 rfl (by decide +kernel))⟩
set_option maxRecDepth 8000 in
theorem l_RL_390 : amLk "CriticalweekPlansLaw" 390 m_X11_checksum.1 := Or.inl (amM3 182 rfl (by decide +kernel))
set_option maxRecDepth 8000 in
theorem l_RL_394 : amLk "CriticalweekPlansLaw" 394 m_X11_isTrue.1 := Or.inl (amM3 188 rfl (by decide +kernel))
set_option maxRecDepth 8000 in
theorem l_RX11_477 : amLk "CriticalweekPlans" 477 m_X7_lengthOfChain.1 := Or.inr ⟨"CriticalweekPlans", (amM3 192 rfl (by decide +kernel))⟩
set_option maxRecDepth 8000 in
theorem l_RX7_114 : amLk "CriticalweekPlans$Net" 114 m_X7_tellChain.1 := Or.inl (amM3 196 rfl (by decide +kernel))
set_option maxRecDepth 8000 in
theorem l_RX11_255 : amLk "CriticalweekPlans" 255 m_X7_slackOf.1 := Or.inr ⟨"CriticalweekPlans", (amM3 197 rfl (by decide +kernel))⟩
set_option maxRecDepth 8000 in
theorem l_RX11_480 : amLk "CriticalweekPlans" 480 m_X9_keepsNeeds.1 := Or.inr ⟨"CriticalweekPlans", (amM3 201 rfl (by decide +kernel))⟩
set_option maxRecDepth 8000 in
theorem l_RX11_483 : amLk "CriticalweekPlans" 483 m_X9_keepsHandsApart.1 := Or.inr ⟨"CriticalweekPlans", (amM3 205 rfl (by decide +kernel))⟩
set_option maxRecDepth 8000 in
theorem l_RX9_113 : amLk "CriticalweekPlans$Plan" 113 m_X9_isShared.1 := Or.inl (amM3 209 rfl (by decide +kernel))
set_option maxRecDepth 8000 in
theorem l_RX11_486 : amLk "CriticalweekPlans" 486 m_X11_isOfTheTheorem.1 := Or.inl (amM3 213 rfl (by decide +kernel))
set_option maxRecDepth 8000 in
theorem l_RX11_459 : amLk "CriticalweekPlans" 459 m_X0_countWith.1 := Or.inr ⟨"CriticalweekPlans", (amM3 217 rfl (by decide +kernel))⟩
set_option maxRecDepth 8000 in
theorem l_RX11_538 : amLk "CriticalweekPlans" 538 m_X0_hasNoLags.1 := Or.inr ⟨"CriticalweekPlans", (amM3 221 rfl (by decide +kernel))⟩
set_option maxRecDepth 8000 in
theorem l_RX11_371 : amLk "CriticalweekPlans" 371 m_X9_doesProofHold.1 := Or.inr ⟨"CriticalweekPlans", (amM3 225 rfl (by decide +kernel))⟩
set_option maxRecDepth 8000 in
theorem l_RX9_110 : amLk "CriticalweekPlans$Plan" 110 m_X9_countWorking.1 := Or.inl (amM3 229 rfl (by decide +kernel))
set_option maxRecDepth 8000 in
theorem l_RX11_489 : amLk "CriticalweekPlans" 489 m_X11_isEndBounded.1 := Or.inl (amM3 233 rfl (by decide +kernel))
set_option maxRecDepth 8000 in
theorem l_RX11_470 : amLk "CriticalweekPlans" 470 m_X0_sumOfLengths.1 := Or.inr ⟨"CriticalweekPlans", (amM3 237 rfl (by decide +kernel))⟩
set_option maxRecDepth 8000 in
theorem l_RL_184 : amLk "CriticalweekPlansLaw" 184 m_L_task.1 := Or.inl (amM4 1 rfl (by decide +kernel))
set_option maxRecDepth 8000 in
theorem l_RL_7 : amLk "CriticalweekPlansLaw" 7 m_X11_task.1 := Or.inl (amM4 6 rfl (by decide +kernel))
set_option maxRecDepth 8000 in
theorem l_RX11_129 : amLk "CriticalweekPlans" 129 m_X0_addTask.1 := Or.inr ⟨"CriticalweekPlans", (amM4 98 rfl (by decide +kernel))⟩
set_option maxRecDepth 8000 in
theorem l_RL_193 : amLk "CriticalweekPlansLaw" 193 m_L_set.1 := Or.inl (amM4 99 rfl (by decide +kernel))
set_option maxRecDepth 8000 in
theorem l_RL_17 : amLk "CriticalweekPlansLaw" 17 m_X11_set.1 := Or.inl (amM4 103 rfl (by decide +kernel))
set_option maxRecDepth 8000 in
theorem l_RX11_133 : amLk "CriticalweekPlans" 133 m_X11_checkTask.1 := Or.inl (amM4 107 rfl (by decide +kernel))
set_option maxRecDepth 8000 in
theorem l_RX11_137 : amLk "CriticalweekPlans" 137 m_X11_rowOf.1 := Or.inl (amM4 127 rfl (by decide +kernel))
set_option maxRecDepth 8000 in
theorem l_RX11_189 : amLk "CriticalweekPlans" 189 m_J0_indexOf_0f7a4.1 := Or.inl (amM4 132 rfl (by decide +kernel))
set_option maxRecDepth 8000 in
theorem l_RJ0_633 : amLk "java/lang/String" 633 m_J0_indexOf_7cf53.1 := Or.inl (amM4 136 rfl (by decide +kernel))
set_option maxRecDepth 8000 in
theorem l_RJ0_492 : amLk "java/lang/String" 492 m_J0_isLatin1_aae02.1 := Or.inl (amM4 140 rfl (by decide +kernel))
set_option maxRecDepth 8000 in
theorem l_RJ0_505 : amLk "java/lang/String" 505 m_J0_length_8abf5.1 := Or.inl (amM4 146 rfl (by decide +kernel))
set_option maxRecDepth 8000 in
theorem l_RJ0_335 : amLk "java/lang/String" 335 m_J0_coder_7d493.1 := Or.inl (amM4 150 rfl (by decide +kernel))
set_option maxRecDepth 8000 in
theorem l_RJ0_637 : amLk "java/lang/String" 637 m_J1_indexOf_4cfef.1 := Or.inl (amM4 154 rfl (by decide +kernel))
set_option maxRecDepth 8000 in
theorem l_RJ1_88 : amLk "java/lang/StringLatin1" 88 m_J1_canEncode_9a6ad.1 := Or.inl (amM4 157 rfl (by decide +kernel))
set_option maxRecDepth 8000 in
theorem l_RJ1_95 : amLk "java/lang/StringLatin1" 95 m_J1_indexOfChar_4cfef.1 := Or.inl (amM4 162 rfl (by decide +kernel))
set_option maxRecDepth 8000 in
theorem l_RX11_149 : amLk "CriticalweekPlans" 149 m_X0_canBeLong.1 := Or.inr ⟨"CriticalweekPlans", (amM4 220 rfl (by decide +kernel))⟩
set_option maxRecDepth 8000 in
theorem l_RX0_42 : amLk "CriticalweekPlans$Book" 42 m_X0_isGuessed.1 := Or.inl (amM4 224 rfl (by decide +kernel))
set_option maxRecDepth 8000 in
theorem l_RL_197 : amLk "CriticalweekPlansLaw" 197 m_L_of.1 := Or.inl (amM4 229 rfl (by decide +kernel))
set_option maxRecDepth 8000 in
theorem l_RL_23 : amLk "CriticalweekPlansLaw" 23 m_X11_of.1 := Or.inl (amM4 232 rfl (by decide +kernel))
set_option maxRecDepth 8000 in
theorem l_RL_205 : amLk "CriticalweekPlansLaw" 205 m_L_need.1 := Or.inl (amM4 236 rfl (by decide +kernel))
set_option maxRecDepth 8000 in
theorem l_RL_27 : amLk "CriticalweekPlansLaw" 27 m_X11_need.1 := Or.inl (amM4 239 rfl (by decide +kernel))
set_option maxRecDepth 8000 in
theorem l_RX11_161 : amLk "CriticalweekPlans" 161 m_X0_hasNeed.1 := Or.inr ⟨"CriticalweekPlans", (amM5 4 rfl (by decide +kernel))⟩
set_option maxRecDepth 8000 in
theorem l_RX11_166 : amLk "CriticalweekPlans" 166 m_X0_ringSize.1 := Or.inr ⟨"CriticalweekPlans", (amM5 6 rfl (by decide +kernel))⟩
set_option maxRecDepth 8000 in
theorem l_RX0_36 : amLk "CriticalweekPlans$Book" 36 m_J7_fill_53178.1 := Or.inl (amM5 10 rfl (by decide +kernel))
set_option maxRecDepth 8000 in
theorem l_RX11_177 : amLk "CriticalweekPlans" 177 m_X0_addNeed.1 := Or.inr ⟨"CriticalweekPlans", (amM5 13 rfl (by decide +kernel))⟩
set_option maxRecDepth 8000 in
theorem l_RL_209 : amLk "CriticalweekPlansLaw" 209 m_L_dropNeed.1 := Or.inl (amM5 14 rfl (by decide +kernel))
set_option maxRecDepth 8000 in
theorem l_RL_31 : amLk "CriticalweekPlansLaw" 31 m_X11_dropNeed.1 := Or.inl (amM5 17 rfl (by decide +kernel))
set_option maxRecDepth 8000 in
theorem l_RX11_181 : amLk "CriticalweekPlans" 181 m_X11_checkNeed.1 := Or.inl (amM5 21 rfl (by decide +kernel))
set_option maxRecDepth 8000 in
theorem l_RX11_184 : amLk "CriticalweekPlans" 184 m_X0_removeNeed.1 := Or.inr ⟨"CriticalweekPlans", (amM5 26 rfl (by decide +kernel))⟩
set_option maxRecDepth 8000 in
theorem l_RL_216 : amLk "CriticalweekPlansLaw" 216 m_L_needAt.1 := Or.inl (amM5 30 rfl (by decide +kernel))
set_option maxRecDepth 8000 in
theorem l_RL_34 : amLk "CriticalweekPlansLaw" 34 m_X11_needAt.1 := Or.inl (amM5 33 rfl (by decide +kernel))
set_option maxRecDepth 8000 in
theorem l_RL_219 : amLk "CriticalweekPlansLaw" 219 m_L_ring.1 := Or.inl (amM5 38 rfl (by decide +kernel))
set_option maxRecDepth 8000 in
theorem l_RL_37 : amLk "CriticalweekPlansLaw" 37 m_X11_ring.1 := Or.inl (amM5 41 rfl (by decide +kernel))
set_option maxRecDepth 8000 in
theorem l_RL_223 : amLk "CriticalweekPlansLaw" 223 m_L_undo.1 := Or.inl (amM5 45 rfl (by decide +kernel))
set_option maxRecDepth 8000 in
theorem l_RL_41 : amLk "CriticalweekPlansLaw" 41 m_X11_undo.1 := Or.inl (amM5 48 rfl (by decide +kernel))
set_option maxRecDepth 8000 in
theorem l_RX11_207 : amLk "CriticalweekPlans" 207 m_X3_takeBack.1 := Or.inr ⟨"CriticalweekPlans", (amM5 53 rfl (by decide +kernel))⟩
set_option maxRecDepth 8000 in
theorem l_RL_227 : amLk "CriticalweekPlansLaw" 227 m_L_type.1 := Or.inl (amM5 57 rfl (by decide +kernel))
set_option maxRecDepth 8000 in
theorem l_RL_45 : amLk "CriticalweekPlansLaw" 45 m_X11_type.1 := Or.inl (amM5 60 rfl (by decide +kernel))
set_option maxRecDepth 8000 in
theorem l_RL_235 : amLk "CriticalweekPlansLaw" 235 m_L_signAt.1 := Or.inl (amM5 66 rfl (by decide +kernel))
set_option maxRecDepth 8000 in
theorem l_RL_49 : amLk "CriticalweekPlansLaw" 49 m_X11_signAt.1 := Or.inl (amM5 93 rfl (by decide +kernel))
set_option maxRecDepth 8000 in
theorem l_RL_242 : amLk "CriticalweekPlansLaw" 242 m_L_earliest.1 := Or.inl (amM5 110 rfl (by decide +kernel))
set_option maxRecDepth 8000 in
theorem l_RL_55 : amLk "CriticalweekPlansLaw" 55 m_X11_earliest.1 := Or.inl (amM5 113 rfl (by decide +kernel))
set_option maxRecDepth 8000 in
theorem l_RL_245 : amLk "CriticalweekPlansLaw" 245 m_L_latest.1 := Or.inl (amM5 117 rfl (by decide +kernel))
set_option maxRecDepth 8000 in
theorem l_RL_58 : amLk "CriticalweekPlansLaw" 58 m_X11_latest.1 := Or.inl (amM5 120 rfl (by decide +kernel))
set_option maxRecDepth 8000 in
theorem l_RL_252 : amLk "CriticalweekPlansLaw" 252 m_L_slack.1 := Or.inl (amM5 124 rfl (by decide +kernel))
set_option maxRecDepth 8000 in
theorem l_RL_61 : amLk "CriticalweekPlansLaw" 61 m_X11_slack.1 := Or.inl (amM5 127 rfl (by decide +kernel))
set_option maxRecDepth 8000 in
theorem l_RX11_258 : amLk "CriticalweekPlans" 258 m_X7_leastAfter.1 := Or.inr ⟨"CriticalweekPlans", (amM5 133 rfl (by decide +kernel))⟩
set_option maxRecDepth 8000 in
theorem l_RX11_261 : amLk "CriticalweekPlans" 261 m_X7_greatestAhead.1 := Or.inr ⟨"CriticalweekPlans", (amM5 138 rfl (by decide +kernel))⟩
set_option maxRecDepth 8000 in
theorem l_RL_255 : amLk "CriticalweekPlansLaw" 255 m_L_rest.1 := Or.inl (amM5 143 rfl (by decide +kernel))
set_option maxRecDepth 8000 in
theorem l_RL_64 : amLk "CriticalweekPlansLaw" 64 m_X11_rest.1 := Or.inl (amM5 146 rfl (by decide +kernel))
set_option maxRecDepth 8000 in
theorem l_RX11_270 : amLk "CriticalweekPlans" 270 m_X7_restOf.1 := Or.inr ⟨"CriticalweekPlans", (amM5 150 rfl (by decide +kernel))⟩
set_option maxRecDepth 8000 in
theorem l_RL_266 : amLk "CriticalweekPlansLaw" 266 m_L_chainAt.1 := Or.inl (amM5 151 rfl (by decide +kernel))
set_option maxRecDepth 8000 in
theorem l_RL_67 : amLk "CriticalweekPlansLaw" 67 m_X11_chainAt.1 := Or.inl (amM5 154 rfl (by decide +kernel))
set_option maxRecDepth 8000 in
theorem l_RL_269 : amLk "CriticalweekPlansLaw" 269 m_L_hours.1 := Or.inl (amM5 158 rfl (by decide +kernel))
set_option maxRecDepth 8000 in
theorem l_RL_70 : amLk "CriticalweekPlansLaw" 70 m_X11_hours.1 := Or.inl (amM5 162 rfl (by decide +kernel))
set_option maxRecDepth 8000 in
theorem l_RX11_288 : amLk "CriticalweekPlans" 288 m_X1_countOutside.1 := Or.inr ⟨"CriticalweekPlans", (amM5 168 rfl (by decide +kernel))⟩
set_option maxRecDepth 8000 in
theorem l_RX1_29 : amLk "CriticalweekPlans$Clock" 29 m_X1_countWork.1 := Or.inl (amM5 172 rfl (by decide +kernel))
set_option maxRecDepth 8000 in
theorem l_RX11_296 : amLk "CriticalweekPlans" 296 m_X1_tellHours.1 := Or.inr ⟨"CriticalweekPlans", (amM5 192 rfl (by decide +kernel))⟩
set_option maxRecDepth 8000 in
theorem l_RL_273 : amLk "CriticalweekPlansLaw" 273 m_L_isWork.1 := Or.inl (amM5 196 rfl (by decide +kernel))
set_option maxRecDepth 8000 in
theorem l_RL_76 : amLk "CriticalweekPlansLaw" 76 m_X11_isWork.1 := Or.inl (amM5 199 rfl (by decide +kernel))
set_option maxRecDepth 8000 in
theorem l_RL_276 : amLk "CriticalweekPlansLaw" 276 m_L_clockBegin.1 := Or.inl (amM5 204 rfl (by decide +kernel))
set_option maxRecDepth 8000 in
theorem l_RL_80 : amLk "CriticalweekPlansLaw" 80 m_X11_clockBegin.1 := Or.inl (amM5 207 rfl (by decide +kernel))
set_option maxRecDepth 8000 in
theorem l_RX11_305 : amLk "CriticalweekPlans" 305 m_X1_putAll.1 := Or.inr ⟨"CriticalweekPlans", (amM5 211 rfl (by decide +kernel))⟩
set_option maxRecDepth 8000 in
theorem l_RX1_42 : amLk "CriticalweekPlans$Clock" 42 m_X1_letOf.1 := Or.inl (amM5 215 rfl (by decide +kernel))
set_option maxRecDepth 8000 in
theorem l_RX1_46 : amLk "CriticalweekPlans$Clock" 46 m_X1_putTask.1 := Or.inl (amM5 220 rfl (by decide +kernel))
set_option maxRecDepth 8000 in
theorem l_RX1_73 : amLk "CriticalweekPlans$Clock" 73 m_X1_firstOfRow.1 := Or.inl (amM5 224 rfl (by decide +kernel))
set_option maxRecDepth 8000 in
theorem l_RX1_77 : amLk "CriticalweekPlans$Clock" 77 m_X1_endOfPausing.1 := Or.inl (amM5 228 rfl (by decide +kernel))
set_option maxRecDepth 8000 in
theorem l_RX11_309 : amLk "CriticalweekPlans" 309 m_X11_checkBegun.1 := Or.inl (amM5 232 rfl (by decide +kernel))
set_option maxRecDepth 8000 in
theorem l_RL_279 : amLk "CriticalweekPlansLaw" 279 m_L_clockEnd.1 := Or.inl (amM5 237 rfl (by decide +kernel))
set_option maxRecDepth 8000 in
theorem l_RL_83 : amLk "CriticalweekPlansLaw" 83 m_X11_clockEnd.1 := Or.inl (amM6 0 rfl (by decide +kernel))
set_option maxRecDepth 8000 in
theorem l_RL_282 : amLk "CriticalweekPlansLaw" 282 m_L_clockAll.1 := Or.inl (amM6 4 rfl (by decide +kernel))
set_option maxRecDepth 8000 in
theorem l_RL_86 : amLk "CriticalweekPlansLaw" 86 m_X11_clockAll.1 := Or.inl (amM6 7 rfl (by decide +kernel))
set_option maxRecDepth 8000 in
theorem l_RL_285 : amLk "CriticalweekPlansLaw" 285 m_L_hands.1 := Or.inl (amM6 11 rfl (by decide +kernel))
set_option maxRecDepth 8000 in
theorem l_RL_89 : amLk "CriticalweekPlansLaw" 89 m_X11_hands.1 := Or.inl (amM6 14 rfl (by decide +kernel))
set_option maxRecDepth 8000 in
theorem l_RL_288 : amLk "CriticalweekPlansLaw" 288 m_L_list.1 := Or.inl (amM6 19 rfl (by decide +kernel))
set_option maxRecDepth 8000 in
theorem l_RL_92 : amLk "CriticalweekPlansLaw" 92 m_X11_list.1 := Or.inl (amM6 22 rfl (by decide +kernel))
set_option maxRecDepth 8000 in
theorem l_RX11_317 : amLk "CriticalweekPlans" 317 m_X11_typedPlace.1 := Or.inl (amM6 26 rfl (by decide +kernel))
set_option maxRecDepth 8000 in
theorem l_RL_295 : amLk "CriticalweekPlansLaw" 295 m_L_listed.1 := Or.inl (amM6 31 rfl (by decide +kernel))
set_option maxRecDepth 8000 in
theorem l_RL_95 : amLk "CriticalweekPlansLaw" 95 m_X11_listed.1 := Or.inl (amM6 34 rfl (by decide +kernel))
set_option maxRecDepth 8000 in
theorem l_RX11_322 : amLk "CriticalweekPlans" 322 m_X11_checkRule.1 := Or.inl (amM6 38 rfl (by decide +kernel))
set_option maxRecDepth 8000 in
theorem l_RX11_326 : amLk "CriticalweekPlans" 326 m_X11_makeList.1 := Or.inl (amM6 44 rfl (by decide +kernel))
set_option maxRecDepth 8000 in
theorem l_RX11_525 : amLk "CriticalweekPlans" 525 m_X11_listKey.1 := Or.inl (amM6 48 rfl (by decide +kernel))
set_option maxRecDepth 8000 in
theorem l_RL_299 : amLk "CriticalweekPlansLaw" 299 m_L_plan.1 := Or.inl (amM6 52 rfl (by decide +kernel))
set_option maxRecDepth 8000 in
theorem l_RL_99 : amLk "CriticalweekPlansLaw" 99 m_X11_plan.1 := Or.inl (amM6 55 rfl (by decide +kernel))
set_option maxRecDepth 8000 in
theorem l_RX11_331 : amLk "CriticalweekPlans" 331 m_X9_takeOver.1 := Or.inr ⟨"CriticalweekPlans", (amM6 60 rfl (by decide +kernel))⟩
set_option maxRecDepth 8000 in
theorem l_RX11_335 : amLk "CriticalweekPlans" 335 m_X9_makeByFreeHands.1 := Or.inr ⟨"CriticalweekPlans", (amM6 65 rfl (by decide +kernel))⟩
set_option maxRecDepth 8000 in
theorem l_RX9_74 : amLk "CriticalweekPlans$Plan" 74 m_X9_beginAnew.1 := Or.inl (amM6 69 rfl (by decide +kernel))
set_option maxRecDepth 8000 in
theorem l_RX9_62 : amLk "CriticalweekPlans$Plan" 62 m_J7_fill_53178.1 := Or.inl (amM6 73 rfl (by decide +kernel))
set_option maxRecDepth 8000 in
theorem l_RX9_78 : amLk "CriticalweekPlans$Plan" 78 m_X9_putIfFree.1 := Or.inl (amM6 74 rfl (by decide +kernel))
set_option maxRecDepth 8000 in
theorem l_RX9_93 : amLk "CriticalweekPlans$Plan" 93 m_X9_freeHand.1 := Or.inl (amM6 78 rfl (by decide +kernel))
set_option maxRecDepth 8000 in
theorem l_RX9_82 : amLk "CriticalweekPlans$Plan" 82 m_X9_nextTime.1 := Or.inl (amM6 83 rfl (by decide +kernel))
set_option maxRecDepth 8000 in
theorem l_RX11_338 : amLk "CriticalweekPlans" 338 m_X9_makeOneByOne.1 := Or.inr ⟨"CriticalweekPlans", (amM6 87 rfl (by decide +kernel))⟩
set_option maxRecDepth 8000 in
theorem l_RX9_86 : amLk "CriticalweekPlans$Plan" 86 m_X9_firstUnput.1 := Or.inl (amM6 91 rfl (by decide +kernel))
set_option maxRecDepth 8000 in
theorem l_RX9_90 : amLk "CriticalweekPlans$Plan" 90 m_X9_nextEnd.1 := Or.inl (amM6 95 rfl (by decide +kernel))
set_option maxRecDepth 8000 in
theorem l_RX11_341 : amLk "CriticalweekPlans" 341 m_X9_makeProof.1 := Or.inr ⟨"CriticalweekPlans", (amM6 99 rfl (by decide +kernel))⟩
set_option maxRecDepth 8000 in
theorem l_RX9_103 : amLk "CriticalweekPlans$Plan" 103 m_X9_lastNeed.1 := Or.inl (amM6 103 rfl (by decide +kernel))
set_option maxRecDepth 8000 in
theorem l_RL_303 : amLk "CriticalweekPlansLaw" 303 m_L_planBegin.1 := Or.inl (amM6 107 rfl (by decide +kernel))
set_option maxRecDepth 8000 in
theorem l_RL_103 : amLk "CriticalweekPlansLaw" 103 m_X11_planBegin.1 := Or.inl (amM6 110 rfl (by decide +kernel))
set_option maxRecDepth 8000 in
theorem l_RX11_352 : amLk "CriticalweekPlans" 352 m_X11_checkPlan.1 := Or.inl (amM6 114 rfl (by decide +kernel))
set_option maxRecDepth 8000 in
theorem l_RL_306 : amLk "CriticalweekPlansLaw" 306 m_L_planHand.1 := Or.inl (amM6 119 rfl (by decide +kernel))
set_option maxRecDepth 8000 in
theorem l_RL_106 : amLk "CriticalweekPlansLaw" 106 m_X11_planHand.1 := Or.inl (amM6 122 rfl (by decide +kernel))
set_option maxRecDepth 8000 in
theorem l_RL_309 : amLk "CriticalweekPlansLaw" 309 m_L_planEnd.1 := Or.inl (amM6 126 rfl (by decide +kernel))
set_option maxRecDepth 8000 in
theorem l_RL_109 : amLk "CriticalweekPlansLaw" 109 m_X11_planEnd.1 := Or.inl (amM6 129 rfl (by decide +kernel))
set_option maxRecDepth 8000 in
theorem l_RL_312 : amLk "CriticalweekPlansLaw" 312 m_L_busy.1 := Or.inl (amM6 133 rfl (by decide +kernel))
set_option maxRecDepth 8000 in
theorem l_RL_112 : amLk "CriticalweekPlansLaw" 112 m_X11_busy.1 := Or.inl (amM6 136 rfl (by decide +kernel))
set_option maxRecDepth 8000 in
theorem l_RX11_361 : amLk "CriticalweekPlans" 361 m_X9_countWorking.1 := Or.inr ⟨"CriticalweekPlans", (amM6 141 rfl (by decide +kernel))⟩
set_option maxRecDepth 8000 in
theorem l_RL_315 : amLk "CriticalweekPlansLaw" 315 m_L_proofLength.1 := Or.inl (amM6 142 rfl (by decide +kernel))
set_option maxRecDepth 8000 in
theorem l_RL_115 : amLk "CriticalweekPlansLaw" 115 m_X11_proofLength.1 := Or.inl (amM6 145 rfl (by decide +kernel))
set_option maxRecDepth 8000 in
theorem l_RL_318 : amLk "CriticalweekPlansLaw" 318 m_L_proofAt.1 := Or.inl (amM6 149 rfl (by decide +kernel))
set_option maxRecDepth 8000 in
theorem l_RL_118 : amLk "CriticalweekPlansLaw" 118 m_X11_proofAt.1 := Or.inl (amM6 152 rfl (by decide +kernel))
set_option maxRecDepth 8000 in
theorem l_RL_321 : amLk "CriticalweekPlansLaw" 321 m_L_isProved.1 := Or.inl (amM6 156 rfl (by decide +kernel))
set_option maxRecDepth 8000 in
theorem l_RL_121 : amLk "CriticalweekPlansLaw" 121 m_X11_isProved.1 := Or.inl (amM6 159 rfl (by decide +kernel))
set_option maxRecDepth 8000 in
theorem l_RL_324 : amLk "CriticalweekPlansLaw" 324 m_L_best.1 := Or.inl (amM6 163 rfl (by decide +kernel))
set_option maxRecDepth 8000 in
theorem l_RL_125 : amLk "CriticalweekPlansLaw" 125 m_X11_best.1 := Or.inl (amM6 166 rfl (by decide +kernel))
set_option maxRecDepth 8000 in
theorem l_RX11_375 : amLk "CriticalweekPlans" 375 m_X11_checkLikeHands.1 := Or.inl (amM6 170 rfl (by decide +kernel))
set_option maxRecDepth 8000 in
theorem l_RX11_378 : amLk "CriticalweekPlans" 378 m_X5_leastEndOf.1 := Or.inr ⟨"CriticalweekPlans", (amM6 176 rfl (by decide +kernel))⟩
set_option maxRecDepth 8000 in
theorem l_RX5_37 : amLk "CriticalweekPlans$LikeHands" 37 m_J7_fill_53178.1 := Or.inl (amM6 181 rfl (by decide +kernel))
set_option maxRecDepth 8000 in
theorem l_RX5_43 : amLk "CriticalweekPlans$LikeHands" 43 m_X0_sumOfLengths.1 := Or.inr ⟨"CriticalweekPlans", (amM6 182 rfl (by decide +kernel))⟩
set_option maxRecDepth 8000 in
theorem l_RX5_63 : amLk "CriticalweekPlans$LikeHands" 63 m_X5_putNext.1 := Or.inl (amM6 183 rfl (by decide +kernel))
set_option maxRecDepth 8000 in
theorem l_RX5_68 : amLk "CriticalweekPlans$LikeHands" 68 m_X5_lastOfEnds.1 := Or.inl (amM6 186 rfl (by decide +kernel))
set_option maxRecDepth 8000 in
theorem l_RX5_74 : amLk "CriticalweekPlans$LikeHands" 74 m_X5_firstBegin.1 := Or.inl (amM6 191 rfl (by decide +kernel))
set_option maxRecDepth 8000 in
theorem l_RX5_81 : amLk "CriticalweekPlans$LikeHands" 81 m_X5_beginOf.1 := Or.inl (amM6 196 rfl (by decide +kernel))
set_option maxRecDepth 8000 in
theorem l_RX5_103 : amLk "CriticalweekPlans$LikeHands" 103 m_X5_countAt.1 := Or.inl (amM6 200 rfl (by decide +kernel))
set_option maxRecDepth 8000 in
theorem l_RX5_106 : amLk "CriticalweekPlans$LikeHands" 106 m_X5_nextEnd.1 := Or.inl (amM6 204 rfl (by decide +kernel))
set_option maxRecDepth 8000 in
theorem l_RX5_84 : amLk "CriticalweekPlans$LikeHands" 84 m_X7_restOf.1 := Or.inr ⟨"CriticalweekPlans", (amM6 208 rfl (by decide +kernel))⟩
set_option maxRecDepth 8000 in
theorem l_RL_327 : amLk "CriticalweekPlansLaw" 327 m_L_bestByLists.1 := Or.inl (amM6 209 rfl (by decide +kernel))
set_option maxRecDepth 8000 in
theorem l_RL_128 : amLk "CriticalweekPlansLaw" 128 m_X11_bestByLists.1 := Or.inl (amM6 212 rfl (by decide +kernel))
set_option maxRecDepth 8000 in
theorem l_RL_330 : amLk "CriticalweekPlansLaw" 330 m_L_anomaly.1 := Or.inl (amM6 216 rfl (by decide +kernel))
set_option maxRecDepth 8000 in
theorem l_RL_131 : amLk "CriticalweekPlansLaw" 131 m_X11_anomaly.1 := Or.inl (amM6 219 rfl (by decide +kernel))
set_option maxRecDepth 8000 in
theorem l_RX11_384 : amLk "CriticalweekPlans" 384 m_X11_changesOf.1 := Or.inl (amM6 224 rfl (by decide +kernel))
set_option maxRecDepth 8000 in
theorem l_RX11_387 : amLk "CriticalweekPlans" 387 m_X11_endAfterChange.1 := Or.inl (amM6 228 rfl (by decide +kernel))
set_option maxRecDepth 8000 in
theorem l_RL_333 : amLk "CriticalweekPlansLaw" 333 m_L_leastPeak.1 := Or.inl (amM6 232 rfl (by decide +kernel))
set_option maxRecDepth 8000 in
theorem l_RL_134 : amLk "CriticalweekPlansLaw" 134 m_X11_leastPeak.1 := Or.inl (amM6 235 rfl (by decide +kernel))
set_option maxRecDepth 8000 in
theorem l_RX11_391 : amLk "CriticalweekPlans" 391 m_X4_areFew.1 := Or.inr ⟨"CriticalweekPlans", (amM6 239 rfl (by decide +kernel))⟩
set_option maxRecDepth 8000 in
theorem l_RX4_36 : amLk "CriticalweekPlans$Levels" 36 m_X7_slackOf.1 := Or.inr ⟨"CriticalweekPlans", (amM7 4 rfl (by decide +kernel))⟩
set_option maxRecDepth 8000 in
theorem l_RX11_397 : amLk "CriticalweekPlans" 397 m_X4_leastOf.1 := Or.inr ⟨"CriticalweekPlans", (amM7 6 rfl (by decide +kernel))⟩
set_option maxRecDepth 8000 in
theorem l_RX4_43 : amLk "CriticalweekPlans$Levels" 43 m_J7_fill_53178.1 := Or.inl (amM7 10 rfl (by decide +kernel))
set_option maxRecDepth 8000 in
theorem l_RX4_49 : amLk "CriticalweekPlans$Levels" 49 m_X4_putNext.1 := Or.inl (amM7 11 rfl (by decide +kernel))
set_option maxRecDepth 8000 in
theorem l_RX4_59 : amLk "CriticalweekPlans$Levels" 59 m_X4_letOf.1 := Or.inl (amM7 14 rfl (by decide +kernel))
set_option maxRecDepth 8000 in
theorem l_RX4_62 : amLk "CriticalweekPlans$Levels" 62 m_X4_peakWith.1 := Or.inl (amM7 19 rfl (by decide +kernel))
set_option maxRecDepth 8000 in
theorem l_RX4_83 : amLk "CriticalweekPlans$Levels" 83 m_X4_countAt.1 := Or.inl (amM7 23 rfl (by decide +kernel))
set_option maxRecDepth 8000 in
theorem l_RL_336 : amLk "CriticalweekPlansLaw" 336 m_L_shorten.1 := Or.inl (amM7 27 rfl (by decide +kernel))
set_option maxRecDepth 8000 in
theorem l_RL_137 : amLk "CriticalweekPlansLaw" 137 m_X11_shorten.1 := Or.inl (amM7 30 rfl (by decide +kernel))
set_option maxRecDepth 8000 in
theorem l_RL_343 : amLk "CriticalweekPlansLaw" 343 m_L_leastCost.1 := Or.inl (amM7 36 rfl (by decide +kernel))
set_option maxRecDepth 8000 in
theorem l_RL_140 : amLk "CriticalweekPlansLaw" 140 m_X11_leastCost.1 := Or.inl (amM7 39 rfl (by decide +kernel))
set_option maxRecDepth 8000 in
theorem l_RX11_410 : amLk "CriticalweekPlans" 410 m_X6_areFew.1 := Or.inr ⟨"CriticalweekPlans", (amM7 44 rfl (by decide +kernel))⟩
set_option maxRecDepth 8000 in
theorem l_RX11_413 : amLk "CriticalweekPlans" 413 m_X6_leastFor.1 := Or.inr ⟨"CriticalweekPlans", (amM7 50 rfl (by decide +kernel))⟩
set_option maxRecDepth 8000 in
theorem l_RX6_61 : amLk "CriticalweekPlans$Money" 61 m_X6_shortestEnd.1 := Or.inl (amM7 54 rfl (by decide +kernel))
set_option maxRecDepth 8000 in
theorem l_RX6_71 : amLk "CriticalweekPlans$Money" 71 m_X6_cutFrom.1 := Or.inl (amM7 55 rfl (by decide +kernel))
set_option maxRecDepth 8000 in
theorem l_RX6_75 : amLk "CriticalweekPlans$Money" 75 m_X6_nextToCut.1 := Or.inl (amM7 58 rfl (by decide +kernel))
set_option maxRecDepth 8000 in
theorem l_RL_346 : amLk "CriticalweekPlansLaw" 346 m_L_guess.1 := Or.inl (amM7 62 rfl (by decide +kernel))
set_option maxRecDepth 8000 in
theorem l_RL_143 : amLk "CriticalweekPlansLaw" 143 m_X11_guess.1 := Or.inl (amM7 65 rfl (by decide +kernel))
set_option maxRecDepth 8000 in
theorem l_RX11_418 : amLk "CriticalweekPlans" 418 m_X0_countGuessed.1 := Or.inr ⟨"CriticalweekPlans", (amM7 70 rfl (by decide +kernel))⟩
set_option maxRecDepth 8000 in
theorem l_RL_349 : amLk "CriticalweekPlansLaw" 349 m_L_allOdds.1 := Or.inl (amM7 74 rfl (by decide +kernel))
set_option maxRecDepth 8000 in
theorem l_RL_146 : amLk "CriticalweekPlansLaw" 146 m_X11_allOdds.1 := Or.inl (amM7 77 rfl (by decide +kernel))
set_option maxRecDepth 8000 in
theorem l_RX11_421 : amLk "CriticalweekPlans" 421 m_X11_checkGuesses.1 := Or.inl (amM7 81 rfl (by decide +kernel))
set_option maxRecDepth 8000 in
theorem l_RL_352 : amLk "CriticalweekPlansLaw" 352 m_L_oddsBy.1 := Or.inl (amM7 87 rfl (by decide +kernel))
set_option maxRecDepth 8000 in
theorem l_RL_150 : amLk "CriticalweekPlansLaw" 150 m_X11_oddsBy.1 := Or.inl (amM7 90 rfl (by decide +kernel))
set_option maxRecDepth 8000 in
theorem l_RX11_426 : amLk "CriticalweekPlans" 426 m_X8_countParts.1 := Or.inr ⟨"CriticalweekPlans", (amM7 94 rfl (by decide +kernel))⟩
set_option maxRecDepth 8000 in
theorem l_RX8_44 : amLk "CriticalweekPlans$Odds" 44 m_X8_findGuessed.1 := Or.inl (amM7 99 rfl (by decide +kernel))
set_option maxRecDepth 8000 in
theorem l_RX8_76 : amLk "CriticalweekPlans$Odds" 76 m_X0_isGuessed.1 := Or.inr ⟨"CriticalweekPlans", (amM7 103 rfl (by decide +kernel))⟩
set_option maxRecDepth 8000 in
theorem l_RX8_48 : amLk "CriticalweekPlans$Odds" 48 m_X8_takeLengths.1 := Or.inl (amM7 104 rfl (by decide +kernel))
set_option maxRecDepth 8000 in
theorem l_RX8_52 : amLk "CriticalweekPlans$Odds" 52 m_J7_fill_53178.1 := Or.inl (amM7 108 rfl (by decide +kernel))
set_option maxRecDepth 8000 in
theorem l_RX8_58 : amLk "CriticalweekPlans$Odds" 58 m_X7_pushBegins.1 := Or.inr ⟨"CriticalweekPlans", (amM7 109 rfl (by decide +kernel))⟩
set_option maxRecDepth 8000 in
theorem l_RX8_64 : amLk "CriticalweekPlans$Odds" 64 m_X7_lastEnd.1 := Or.inr ⟨"CriticalweekPlans", (amM7 110 rfl (by decide +kernel))⟩
set_option maxRecDepth 8000 in
theorem l_RX8_68 : amLk "CriticalweekPlans$Odds" 68 m_X8_isCritical.1 := Or.inl (amM7 111 rfl (by decide +kernel))
set_option maxRecDepth 8000 in
theorem l_RX8_80 : amLk "CriticalweekPlans$Odds" 80 m_X7_pullLatests.1 := Or.inr ⟨"CriticalweekPlans", (amM7 115 rfl (by decide +kernel))⟩
set_option maxRecDepth 8000 in
theorem l_RL_355 : amLk "CriticalweekPlansLaw" 355 m_L_oddsCritical.1 := Or.inl (amM7 116 rfl (by decide +kernel))
set_option maxRecDepth 8000 in
theorem l_RL_154 : amLk "CriticalweekPlansLaw" 154 m_X11_oddsCritical.1 := Or.inl (amM7 119 rfl (by decide +kernel))
set_option maxRecDepth 8000 in
theorem l_RL_358 : amLk "CriticalweekPlansLaw" 358 m_L_planned.1 := Or.inl (amM7 123 rfl (by decide +kernel))
set_option maxRecDepth 8000 in
theorem l_RL_157 : amLk "CriticalweekPlansLaw" 157 m_X11_planned.1 := Or.inl (amM7 126 rfl (by decide +kernel))
set_option maxRecDepth 8000 in
theorem l_RX11_430 : amLk "CriticalweekPlans" 430 m_X11_checkTime.1 := Or.inl (amM7 130 rfl (by decide +kernel))
set_option maxRecDepth 8000 in
theorem l_RX11_433 : amLk "CriticalweekPlans" 433 m_X11_worthBy.1 := Or.inl (amM7 135 rfl (by decide +kernel))
set_option maxRecDepth 8000 in
theorem l_RL_365 : amLk "CriticalweekPlansLaw" 365 m_L_index.1 := Or.inl (amM7 140 rfl (by decide +kernel))
set_option maxRecDepth 8000 in
theorem l_RL_160 : amLk "CriticalweekPlansLaw" 160 m_X11_index.1 := Or.inl (amM7 157 rfl (by decide +kernel))
set_option maxRecDepth 8000 in
theorem l_RL_377 : amLk "CriticalweekPlansLaw" 377 m_L_movedBy.1 := Or.inl (amM7 164 rfl (by decide +kernel))
set_option maxRecDepth 8000 in
theorem l_RL_166 : amLk "CriticalweekPlansLaw" 166 m_X11_movedBy.1 := Or.inl (amM7 167 rfl (by decide +kernel))
set_option maxRecDepth 8000 in
theorem l_RL_380 : amLk "CriticalweekPlansLaw" 380 m_L_crane.1 := Or.inl (amM7 172 rfl (by decide +kernel))
set_option maxRecDepth 8000 in
theorem l_RL_169 : amLk "CriticalweekPlansLaw" 169 m_X11_crane.1 := Or.inl (amM7 175 rfl (by decide +kernel))
set_option maxRecDepth 8000 in
theorem l_RX11_464 : amLk "CriticalweekPlans" 464 m_X2_leastSum.1 := Or.inr ⟨"CriticalweekPlans", (amM7 180 rfl (by decide +kernel))⟩
set_option maxRecDepth 8000 in
theorem l_RX2_38 : amLk "CriticalweekPlans$CraneOrders" 38 m_J7_fill_53178.1 := Or.inl (amM7 185 rfl (by decide +kernel))
set_option maxRecDepth 8000 in
theorem l_RX2_44 : amLk "CriticalweekPlans$CraneOrders" 44 m_X2_findNeeded.1 := Or.inl (amM7 186 rfl (by decide +kernel))
set_option maxRecDepth 8000 in
theorem l_RX2_47 : amLk "CriticalweekPlans$CraneOrders" 47 m_X2_findCraned.1 := Or.inl (amM7 190 rfl (by decide +kernel))
set_option maxRecDepth 8000 in
theorem l_RX2_50 : amLk "CriticalweekPlans$CraneOrders" 50 m_X2_takeNext.1 := Or.inl (amM7 194 rfl (by decide +kernel))
set_option maxRecDepth 8000 in
theorem l_RX2_82 : amLk "CriticalweekPlans$CraneOrders" 82 m_X7_pushBegins.1 := Or.inr ⟨"CriticalweekPlans", (amM7 198 rfl (by decide +kernel))⟩
set_option maxRecDepth 8000 in
theorem l_RX2_86 : amLk "CriticalweekPlans$CraneOrders" 86 m_X2_endOf.1 := Or.inl (amM7 199 rfl (by decide +kernel))
set_option maxRecDepth 8000 in
theorem l_RL_383 : amLk "CriticalweekPlansLaw" 383 m_L_criticalShare.1 := Or.inl (amM7 204 rfl (by decide +kernel))
set_option maxRecDepth 8000 in
theorem l_RL_172 : amLk "CriticalweekPlansLaw" 172 m_X11_criticalShare.1 := Or.inl (amM7 207 rfl (by decide +kernel))
set_option maxRecDepth 8000 in
theorem l_RX11_467 : amLk "CriticalweekPlans" 467 m_X11_checkAnyTask.1 := Or.inl (amM7 211 rfl (by decide +kernel))
set_option maxRecDepth 8000 in
theorem l_RL_387 : amLk "CriticalweekPlansLaw" 387 m_L_meanLength.1 := Or.inl (amM7 216 rfl (by decide +kernel))
set_option maxRecDepth 8000 in
theorem l_RL_176 : amLk "CriticalweekPlansLaw" 176 m_X11_meanLength.1 := Or.inl (amM7 219 rfl (by decide +kernel))
set_option maxRecDepth 8000 in
theorem l_RL_183 : amLk "CriticalweekPlansLaw" 183 m_X12_init.1 := Or.inl (amM7 225 rfl (by decide +kernel))
set_option maxRecDepth 8000 in
theorem l_RL_190 : amLk "CriticalweekPlansLaw" 190 m_X12_thrown.1 := Or.inl (amM8 72 rfl (by decide +kernel))
set_option maxRecDepth 8000 in
theorem l_RL_189 : amLk "CriticalweekPlansLaw" 189 m_X12_task.1 := Or.inl (amM8 76 rfl (by decide +kernel))
set_option maxRecDepth 8000 in
theorem l_RX12_68 : amLk "CriticalweekPlansModel" 68 m_X12_in.1 := Or.inl (amM8 80 rfl (by decide +kernel))
set_option maxRecDepth 8000 in
theorem l_RX12_64 : amLk "CriticalweekPlansModel" 64 m_X12_many.1 := Or.inl (amM8 83 rfl (by decide +kernel))
set_option maxRecDepth 8000 in
theorem l_RX12_133 : amLk "CriticalweekPlansModel" 133 m_X12_fails.1 := Or.inl (amM8 87 rfl (by decide +kernel))
set_option maxRecDepth 8000 in
theorem l_RX12_137 : amLk "CriticalweekPlansModel" 137 m_X12_keeps.1 := Or.inl (amM8 91 rfl (by decide +kernel))
set_option maxRecDepth 8000 in
theorem l_RX12_75 : amLk "CriticalweekPlansModel" 75 m_X12_copied.1 := Or.inl (amM8 95 rfl (by decide +kernel))
set_option maxRecDepth 8000 in
theorem l_RX12_140 : amLk "CriticalweekPlansModel" 140 m_X12_put.1 := Or.inl (amM8 98 rfl (by decide +kernel))
set_option maxRecDepth 8000 in
theorem l_RL_196 : amLk "CriticalweekPlansLaw" 196 m_X12_set.1 := Or.inl (amM8 102 rfl (by decide +kernel))
set_option maxRecDepth 8000 in
theorem l_RX12_146 : amLk "CriticalweekPlansModel" 146 m_J0_indexOf_0f7a4.1 := Or.inl (amM8 107 rfl (by decide +kernel))
set_option maxRecDepth 8000 in
theorem l_RX12_151 : amLk "CriticalweekPlansModel" 151 m_X12_isTask.1 := Or.inl (amM8 108 rfl (by decide +kernel))
set_option maxRecDepth 8000 in
theorem l_RX12_155 : amLk "CriticalweekPlansModel" 155 m_X12_isGood.1 := Or.inl (amM8 112 rfl (by decide +kernel))
set_option maxRecDepth 8000 in
theorem l_RX12_83 : amLk "CriticalweekPlansModel" 83 m_X12_get.1 := Or.inl (amM8 116 rfl (by decide +kernel))
set_option maxRecDepth 8000 in
theorem l_RL_200 : amLk "CriticalweekPlansLaw" 200 m_X12_of.1 := Or.inl (amM8 120 rfl (by decide +kernel))
set_option maxRecDepth 8000 in
theorem l_RL_204 : amLk "CriticalweekPlansLaw" 204 m_X12_tasks.1 := Or.inl (amM8 124 rfl (by decide +kernel))
set_option maxRecDepth 8000 in
theorem l_RL_208 : amLk "CriticalweekPlansLaw" 208 m_X12_need.1 := Or.inl (amM8 128 rfl (by decide +kernel))
set_option maxRecDepth 8000 in
theorem l_RX12_158 : amLk "CriticalweekPlansModel" 158 m_X12_isNeeded.1 := Or.inl (amM8 132 rfl (by decide +kernel))
set_option maxRecDepth 8000 in
theorem l_RX12_94 : amLk "CriticalweekPlansModel" 94 m_X12_needsMany.1 := Or.inl (amM8 136 rfl (by decide +kernel))
set_option maxRecDepth 8000 in
theorem l_RX12_97 : amLk "CriticalweekPlansModel" 97 m_X12_earlier.1 := Or.inl (amM8 140 rfl (by decide +kernel))
set_option maxRecDepth 8000 in
theorem l_RX12_104 : amLk "CriticalweekPlansModel" 104 m_X12_later.1 := Or.inl (amM8 144 rfl (by decide +kernel))
set_option maxRecDepth 8000 in
theorem l_RX12_162 : amLk "CriticalweekPlansModel" 162 m_X12_ringOf.1 := Or.inl (amM8 148 rfl (by decide +kernel))
set_option maxRecDepth 8000 in
theorem l_RL_211 : amLk "CriticalweekPlansLaw" 211 m_X12_dropNeed.1 := Or.inl (amM8 152 rfl (by decide +kernel))
set_option maxRecDepth 8000 in
theorem l_RX12_165 : amLk "CriticalweekPlansModel" 165 m_X12_drops.1 := Or.inl (amM8 156 rfl (by decide +kernel))
set_option maxRecDepth 8000 in
theorem l_RL_215 : amLk "CriticalweekPlansLaw" 215 m_X12_needs.1 := Or.inl (amM8 160 rfl (by decide +kernel))
set_option maxRecDepth 8000 in
theorem l_RL_218 : amLk "CriticalweekPlansLaw" 218 m_X12_needAt.1 := Or.inl (amM8 164 rfl (by decide +kernel))
set_option maxRecDepth 8000 in
theorem l_RL_222 : amLk "CriticalweekPlansLaw" 222 m_X12_ring.1 := Or.inl (amM8 169 rfl (by decide +kernel))
set_option maxRecDepth 8000 in
theorem l_RL_226 : amLk "CriticalweekPlansLaw" 226 m_X12_undo.1 := Or.inl (amM8 173 rfl (by decide +kernel))
set_option maxRecDepth 8000 in
theorem l_RL_230 : amLk "CriticalweekPlansLaw" 230 m_X12_type.1 := Or.inl (amM8 177 rfl (by decide +kernel))
set_option maxRecDepth 8000 in
theorem l_RL_234 : amLk "CriticalweekPlansLaw" 234 m_X12_erase.1 := Or.inl (amM8 181 rfl (by decide +kernel))
set_option maxRecDepth 8000 in
theorem l_RL_237 : amLk "CriticalweekPlansLaw" 237 m_X12_signAt.1 := Or.inl (amM8 185 rfl (by decide +kernel))
set_option maxRecDepth 8000 in
theorem l_RL_241 : amLk "CriticalweekPlansLaw" 241 m_X12_read.1 := Or.inl (amM8 189 rfl (by decide +kernel))
set_option maxRecDepth 8000 in
theorem l_RX12_202 : amLk "CriticalweekPlansModel" 202 m_X12_isRead.1 := Or.inl (amM8 193 rfl (by decide +kernel))
set_option maxRecDepth 8000 in
theorem l_RX12_198 : amLk "CriticalweekPlansModel" 198 m_X12_isTaskRead.1 := Or.inl (amM8 197 rfl (by decide +kernel))
set_option maxRecDepth 8000 in
theorem l_RX12_189 : amLk "CriticalweekPlansModel" 189 m_X12_fault.1 := Or.inl (amM8 201 rfl (by decide +kernel))
set_option maxRecDepth 8000 in
theorem l_RX12_191 : amLk "CriticalweekPlansModel" 191 m_X12_isNumber.1 := Or.inl (amM8 205 rfl (by decide +kernel))
set_option maxRecDepth 8000 in
theorem l_RX12_194 : amLk "CriticalweekPlansModel" 194 m_X12_isSign.1 := Or.inl (amM8 210 rfl (by decide +kernel))
set_option maxRecDepth 8000 in
theorem l_RL_244 : amLk "CriticalweekPlansLaw" 244 m_X12_earliest.1 := Or.inl (amM8 214 rfl (by decide +kernel))
set_option maxRecDepth 8000 in
theorem l_RX12_123 : amLk "CriticalweekPlansModel" 123 m_X12_lengths.1 := Or.inl (amM8 218 rfl (by decide +kernel))
set_option maxRecDepth 8000 in
theorem l_RX12_87 : amLk "CriticalweekPlansModel" 87 m_X12_lengthsInto.1 := Or.inl (amM8 222 rfl (by decide +kernel))
set_option maxRecDepth 8000 in
theorem l_RX12_130 : amLk "CriticalweekPlansModel" 130 m_X12_earliestBegins.1 := Or.inl (amM8 226 rfl (by decide +kernel))
set_option maxRecDepth 8000 in
theorem l_RX12_90 : amLk "CriticalweekPlansModel" 90 m_X12_earliestInto.1 := Or.inl (amM8 230 rfl (by decide +kernel))
set_option maxRecDepth 8000 in
theorem l_RX12_101 : amLk "CriticalweekPlansModel" 101 m_X12_lag.1 := Or.inl (amM8 234 rfl (by decide +kernel))
set_option maxRecDepth 8000 in
theorem l_RL_247 : amLk "CriticalweekPlansLaw" 247 m_X12_latest.1 := Or.inl (amM8 238 rfl (by decide +kernel))
set_option maxRecDepth 8000 in
theorem l_RX12_127 : amLk "CriticalweekPlansModel" 127 m_X12_latestBegins.1 := Or.inl (amM9 2 rfl (by decide +kernel))
set_option maxRecDepth 8000 in
theorem l_RX12_116 : amLk "CriticalweekPlansModel" 116 m_X12_latestInto.1 := Or.inl (amM9 6 rfl (by decide +kernel))
set_option maxRecDepth 8000 in
theorem l_RX12_119 : amLk "CriticalweekPlansModel" 119 m_X12_endOf.1 := Or.inl (amM9 10 rfl (by decide +kernel))
set_option maxRecDepth 8000 in
theorem l_RX12_112 : amLk "CriticalweekPlansModel" 112 m_X12_endBy.1 := Or.inl (amM9 14 rfl (by decide +kernel))
set_option maxRecDepth 8000 in
theorem l_RL_251 : amLk "CriticalweekPlansLaw" 251 m_X12_end.1 := Or.inl (amM9 19 rfl (by decide +kernel))
set_option maxRecDepth 8000 in
theorem l_RL_254 : amLk "CriticalweekPlansLaw" 254 m_X12_slack.1 := Or.inl (amM9 23 rfl (by decide +kernel))
set_option maxRecDepth 8000 in
theorem l_RL_257 : amLk "CriticalweekPlansLaw" 257 m_X12_rest.1 := Or.inl (amM9 28 rfl (by decide +kernel))
set_option maxRecDepth 8000 in
theorem l_RX12_207 : amLk "CriticalweekPlansModel" 207 m_X12_rests.1 := Or.inl (amM9 32 rfl (by decide +kernel))
set_option maxRecDepth 8000 in
theorem l_RL_261 : amLk "CriticalweekPlansLaw" 261 m_X12_chains.1 := Or.inl (amM9 36 rfl (by decide +kernel))
set_option maxRecDepth 8000 in
theorem l_RX12_210 : amLk "CriticalweekPlansModel" 210 m_X12_rowsFrom.1 := Or.inl (amM9 40 rfl (by decide +kernel))
set_option maxRecDepth 8000 in
theorem l_RL_265 : amLk "CriticalweekPlansLaw" 265 m_X12_chainLength.1 := Or.inl (amM9 44 rfl (by decide +kernel))
set_option maxRecDepth 8000 in
theorem l_RX12_214 : amLk "CriticalweekPlansModel" 214 m_X12_chain.1 := Or.inl (amM9 48 rfl (by decide +kernel))
set_option maxRecDepth 8000 in
theorem l_RX12_217 : amLk "CriticalweekPlansModel" 217 m_X12_sizeOf.1 := Or.inl (amM9 52 rfl (by decide +kernel))
set_option maxRecDepth 8000 in
theorem l_RL_268 : amLk "CriticalweekPlansLaw" 268 m_X12_chainAt.1 := Or.inl (amM9 55 rfl (by decide +kernel))
set_option maxRecDepth 8000 in
theorem l_RL_272 : amLk "CriticalweekPlansLaw" 272 m_X12_hours.1 := Or.inl (amM9 59 rfl (by decide +kernel))
set_option maxRecDepth 8000 in
theorem l_RL_275 : amLk "CriticalweekPlansLaw" 275 m_X12_isWork.1 := Or.inl (amM9 63 rfl (by decide +kernel))
set_option maxRecDepth 8000 in
theorem l_RL_278 : amLk "CriticalweekPlansLaw" 278 m_X12_clockBegin.1 := Or.inl (amM9 67 rfl (by decide +kernel))
set_option maxRecDepth 8000 in
theorem l_RX12_227 : amLk "CriticalweekPlansModel" 227 m_X12_clock.1 := Or.inl (amM9 71 rfl (by decide +kernel))
set_option maxRecDepth 8000 in
theorem l_RX12_220 : amLk "CriticalweekPlansModel" 220 m_X12_lets.1 := Or.inl (amM9 75 rfl (by decide +kernel))
set_option maxRecDepth 8000 in
theorem l_RX12_224 : amLk "CriticalweekPlansModel" 224 m_X12_isRow.1 := Or.inl (amM9 79 rfl (by decide +kernel))
set_option maxRecDepth 8000 in
theorem l_RL_281 : amLk "CriticalweekPlansLaw" 281 m_X12_clockEnd.1 := Or.inl (amM9 83 rfl (by decide +kernel))
set_option maxRecDepth 8000 in
theorem l_RL_284 : amLk "CriticalweekPlansLaw" 284 m_X12_clockAll.1 := Or.inl (amM9 87 rfl (by decide +kernel))
set_option maxRecDepth 8000 in
theorem l_RL_287 : amLk "CriticalweekPlansLaw" 287 m_X12_hands.1 := Or.inl (amM9 91 rfl (by decide +kernel))
set_option maxRecDepth 8000 in
theorem l_RL_290 : amLk "CriticalweekPlansLaw" 290 m_X12_list.1 := Or.inl (amM9 95 rfl (by decide +kernel))
set_option maxRecDepth 8000 in
theorem l_RX12_230 : amLk "CriticalweekPlansModel" 230 m_X12_typedPlace.1 := Or.inl (amM9 99 rfl (by decide +kernel))
set_option maxRecDepth 8000 in
theorem l_RL_294 : amLk "CriticalweekPlansLaw" 294 m_X12_wipe.1 := Or.inl (amM9 103 rfl (by decide +kernel))
set_option maxRecDepth 8000 in
theorem l_RL_298 : amLk "CriticalweekPlansLaw" 298 m_X12_listed.1 := Or.inl (amM9 107 rfl (by decide +kernel))
set_option maxRecDepth 8000 in
theorem l_RX12_235 : amLk "CriticalweekPlansModel" 235 m_X12_listBy.1 := Or.inl (amM9 112 rfl (by decide +kernel))
set_option maxRecDepth 8000 in
theorem l_RL_302 : amLk "CriticalweekPlansLaw" 302 m_X12_plan.1 := Or.inl (amM9 116 rfl (by decide +kernel))
set_option maxRecDepth 8000 in
theorem l_RX12_268 : amLk "CriticalweekPlansModel" 268 m_X12_free.1 := Or.inl (amM9 120 rfl (by decide +kernel))
set_option maxRecDepth 8000 in
theorem l_RX12_243 : amLk "CriticalweekPlansModel" 243 m_X12_triesNone.1 := Or.inl (amM9 124 rfl (by decide +kernel))
set_option maxRecDepth 8000 in
theorem l_RX12_246 : amLk "CriticalweekPlansModel" 246 m_X12_letBy.1 := Or.inl (amM9 128 rfl (by decide +kernel))
set_option maxRecDepth 8000 in
theorem l_RX12_250 : amLk "CriticalweekPlansModel" 250 m_X12_handIn.1 := Or.inl (amM9 132 rfl (by decide +kernel))
set_option maxRecDepth 8000 in
theorem l_RX12_239 : amLk "CriticalweekPlansModel" 239 m_X12_meets.1 := Or.inl (amM9 136 rfl (by decide +kernel))
set_option maxRecDepth 8000 in
theorem l_RX12_254 : amLk "CriticalweekPlansModel" 254 m_X12_isMachineIn.1 := Or.inl (amM9 140 rfl (by decide +kernel))
set_option maxRecDepth 8000 in
theorem l_RX12_257 : amLk "CriticalweekPlansModel" 257 m_X12_nextTime.1 := Or.inl (amM9 144 rfl (by decide +kernel))
set_option maxRecDepth 8000 in
theorem l_RX12_272 : amLk "CriticalweekPlansModel" 272 m_X12_oneByOne.1 := Or.inl (amM9 149 rfl (by decide +kernel))
set_option maxRecDepth 8000 in
theorem l_RX12_262 : amLk "CriticalweekPlansModel" 262 m_X12_nextOf.1 := Or.inl (amM9 153 rfl (by decide +kernel))
set_option maxRecDepth 8000 in
theorem l_RL_305 : amLk "CriticalweekPlansLaw" 305 m_X12_planBegin.1 := Or.inl (amM9 157 rfl (by decide +kernel))
set_option maxRecDepth 8000 in
theorem l_RL_308 : amLk "CriticalweekPlansLaw" 308 m_X12_planHand.1 := Or.inl (amM9 161 rfl (by decide +kernel))
set_option maxRecDepth 8000 in
theorem l_RL_311 : amLk "CriticalweekPlansLaw" 311 m_X12_planEnd.1 := Or.inl (amM9 165 rfl (by decide +kernel))
set_option maxRecDepth 8000 in
theorem l_RL_314 : amLk "CriticalweekPlansLaw" 314 m_X12_busy.1 := Or.inl (amM9 169 rfl (by decide +kernel))
set_option maxRecDepth 8000 in
theorem l_RX12_278 : amLk "CriticalweekPlansModel" 278 m_X12_busyIn.1 := Or.inl (amM9 173 rfl (by decide +kernel))
set_option maxRecDepth 8000 in
theorem l_RL_317 : amLk "CriticalweekPlansLaw" 317 m_X12_proofLength.1 := Or.inl (amM9 177 rfl (by decide +kernel))
set_option maxRecDepth 8000 in
theorem l_RX12_292 : amLk "CriticalweekPlansModel" 292 m_X12_proof.1 := Or.inl (amM9 181 rfl (by decide +kernel))
set_option maxRecDepth 8000 in
theorem l_RX12_281 : amLk "CriticalweekPlansModel" 281 m_X12_planned.1 := Or.inl (amM9 185 rfl (by decide +kernel))
set_option maxRecDepth 8000 in
theorem l_RX12_289 : amLk "CriticalweekPlansModel" 289 m_X12_lastNeed.1 := Or.inl (amM9 189 rfl (by decide +kernel))
set_option maxRecDepth 8000 in
theorem l_RX12_284 : amLk "CriticalweekPlansModel" 284 m_J6_compare_7cf53.1 := Or.inl (amM9 193 rfl (by decide +kernel))
set_option maxRecDepth 8000 in
theorem l_RL_320 : amLk "CriticalweekPlansLaw" 320 m_X12_proofAt.1 := Or.inl (amM9 196 rfl (by decide +kernel))
set_option maxRecDepth 8000 in
theorem l_RL_323 : amLk "CriticalweekPlansLaw" 323 m_X12_isProved.1 := Or.inl (amM9 200 rfl (by decide +kernel))
set_option maxRecDepth 8000 in
theorem l_RX12_295 : amLk "CriticalweekPlansModel" 295 m_X12_isChained.1 := Or.inl (amM9 204 rfl (by decide +kernel))
set_option maxRecDepth 8000 in
theorem l_RL_326 : amLk "CriticalweekPlansLaw" 326 m_X12_best.1 := Or.inl (amM9 208 rfl (by decide +kernel))
set_option maxRecDepth 8000 in
theorem l_RX12_309 : amLk "CriticalweekPlansModel" 309 m_X12_numbers.1 := Or.inl (amM9 212 rfl (by decide +kernel))
set_option maxRecDepth 8000 in
theorem l_RX12_313 : amLk "CriticalweekPlansModel" 313 m_X12_roomy.1 := Or.inl (amM9 215 rfl (by decide +kernel))
set_option maxRecDepth 8000 in
theorem l_RX12_305 : amLk "CriticalweekPlansModel" 305 m_X12_isRoom.1 := Or.inl (amM9 219 rfl (by decide +kernel))
set_option maxRecDepth 8000 in
theorem l_RX12_302 : amLk "CriticalweekPlansModel" 302 m_X12_worksAt.1 := Or.inl (amM9 223 rfl (by decide +kernel))
set_option maxRecDepth 8000 in
theorem l_RX12_317 : amLk "CriticalweekPlansModel" 317 m_X12_hasNext.1 := Or.inl (amM9 227 rfl (by decide +kernel))
set_option maxRecDepth 8000 in
theorem l_RX12_299 : amLk "CriticalweekPlansModel" 299 m_X12_swap.1 := Or.inl (amM9 230 rfl (by decide +kernel))
set_option maxRecDepth 8000 in
theorem l_RL_329 : amLk "CriticalweekPlansLaw" 329 m_X12_bestByLists.1 := Or.inl (amM9 233 rfl (by decide +kernel))
set_option maxRecDepth 8000 in
theorem l_RL_332 : amLk "CriticalweekPlansLaw" 332 m_X12_anomaly.1 := Or.inl (amM9 237 rfl (by decide +kernel))
set_option maxRecDepth 8000 in
theorem l_RL_335 : amLk "CriticalweekPlansLaw" 335 m_X12_leastPeak.1 := Or.inl (amM10 2 rfl (by decide +kernel))
set_option maxRecDepth 8000 in
theorem l_RX12_324 : amLk "CriticalweekPlansModel" 324 m_X12_areTooMany.1 := Or.inl (amM10 6 rfl (by decide +kernel))
set_option maxRecDepth 8000 in
theorem l_RX12_328 : amLk "CriticalweekPlansModel" 328 m_X12_peakOf.1 := Or.inl (amM10 11 rfl (by decide +kernel))
set_option maxRecDepth 8000 in
theorem l_RX12_331 : amLk "CriticalweekPlansModel" 331 m_X12_goesOn.1 := Or.inl (amM10 15 rfl (by decide +kernel))
set_option maxRecDepth 8000 in
theorem l_RX12_335 : amLk "CriticalweekPlansModel" 335 m_X12_areLet.1 := Or.inl (amM10 19 rfl (by decide +kernel))
set_option maxRecDepth 8000 in
theorem l_RL_338 : amLk "CriticalweekPlansLaw" 338 m_X12_shorten.1 := Or.inl (amM10 23 rfl (by decide +kernel))
set_option maxRecDepth 8000 in
theorem l_RL_342 : amLk "CriticalweekPlansLaw" 342 m_X12_leastEnd.1 := Or.inl (amM10 27 rfl (by decide +kernel))
set_option maxRecDepth 8000 in
theorem l_RX12_338 : amLk "CriticalweekPlansModel" 338 m_X12_cuts.1 := Or.inl (amM10 31 rfl (by decide +kernel))
set_option maxRecDepth 8000 in
theorem l_RX12_341 : amLk "CriticalweekPlansModel" 341 m_X12_endCut.1 := Or.inl (amM10 35 rfl (by decide +kernel))
set_option maxRecDepth 8000 in
theorem l_RL_345 : amLk "CriticalweekPlansLaw" 345 m_X12_leastCost.1 := Or.inl (amM10 39 rfl (by decide +kernel))
set_option maxRecDepth 8000 in
theorem l_RL_348 : amLk "CriticalweekPlansLaw" 348 m_X12_guess.1 := Or.inl (amM10 43 rfl (by decide +kernel))
set_option maxRecDepth 8000 in
theorem l_RX12_344 : amLk "CriticalweekPlansModel" 344 m_X12_guessed.1 := Or.inl (amM10 47 rfl (by decide +kernel))
set_option maxRecDepth 8000 in
theorem l_RL_351 : amLk "CriticalweekPlansLaw" 351 m_X12_allOdds.1 := Or.inl (amM10 51 rfl (by decide +kernel))
set_option maxRecDepth 8000 in
theorem l_RL_354 : amLk "CriticalweekPlansLaw" 354 m_X12_oddsBy.1 := Or.inl (amM10 56 rfl (by decide +kernel))
set_option maxRecDepth 8000 in
theorem l_RX12_351 : amLk "CriticalweekPlansModel" 351 m_X12_odds.1 := Or.inl (amM10 60 rfl (by decide +kernel))
set_option maxRecDepth 8000 in
theorem l_RL_357 : amLk "CriticalweekPlansLaw" 357 m_X12_oddsCritical.1 := Or.inl (amM10 65 rfl (by decide +kernel))
set_option maxRecDepth 8000 in
theorem l_RL_360 : amLk "CriticalweekPlansLaw" 360 m_X12_planned_.1 := Or.inl (amM10 69 rfl (by decide +kernel))
set_option maxRecDepth 8000 in
theorem l_RX12_355 : amLk "CriticalweekPlansModel" 355 m_X12_plannedBy.1 := Or.inl (amM10 73 rfl (by decide +kernel))
set_option maxRecDepth 8000 in
theorem l_RL_364 : amLk "CriticalweekPlansLaw" 364 m_X12_earned.1 := Or.inl (amM10 77 rfl (by decide +kernel))
set_option maxRecDepth 8000 in
theorem l_RX12_358 : amLk "CriticalweekPlansModel" 358 m_X12_earnedNow.1 := Or.inl (amM10 81 rfl (by decide +kernel))
set_option maxRecDepth 8000 in
theorem l_RL_368 : amLk "CriticalweekPlansLaw" 368 m_X12_index.1 := Or.inl (amM10 85 rfl (by decide +kernel))
set_option maxRecDepth 8000 in
theorem l_RL_372 : amLk "CriticalweekPlansLaw" 372 m_X12_keep.1 := Or.inl (amM10 89 rfl (by decide +kernel))
set_option maxRecDepth 8000 in
theorem l_RL_376 : amLk "CriticalweekPlansLaw" 376 m_X12_moved.1 := Or.inl (amM10 93 rfl (by decide +kernel))
set_option maxRecDepth 8000 in
theorem l_RL_379 : amLk "CriticalweekPlansLaw" 379 m_X12_movedBy.1 := Or.inl (amM10 97 rfl (by decide +kernel))
set_option maxRecDepth 8000 in
theorem l_RL_382 : amLk "CriticalweekPlansLaw" 382 m_X12_crane.1 := Or.inl (amM10 101 rfl (by decide +kernel))
set_option maxRecDepth 8000 in
theorem l_RX12_364 : amLk "CriticalweekPlansModel" 364 m_X12_ordered.1 := Or.inl (amM10 105 rfl (by decide +kernel))
set_option maxRecDepth 8000 in
theorem l_RL_386 : amLk "CriticalweekPlansLaw" 386 m_X12_criticalShare.1 := Or.inl (amM10 109 rfl (by decide +kernel))
set_option maxRecDepth 8000 in
theorem l_RX12_367 : amLk "CriticalweekPlansModel" 367 m_X12_totalSlack.1 := Or.inl (amM10 113 rfl (by decide +kernel))
set_option maxRecDepth 8000 in
theorem l_RL_389 : amLk "CriticalweekPlansLaw" 389 m_X12_meanLength.1 := Or.inl (amM10 117 rfl (by decide +kernel))
set_option maxRecDepth 8000 in
theorem l_RL_393 : amLk "CriticalweekPlansLaw" 393 m_X12_checksum.1 := Or.inl (amM10 121 rfl (by decide +kernel))
set_option maxRecDepth 8000 in
theorem l_RX12_372 : amLk "CriticalweekPlansModel" 372 m_J0_length_8abf5.1 := Or.inl (amM10 126 rfl (by decide +kernel))
set_option maxRecDepth 8000 in
theorem l_RL_397 : amLk "CriticalweekPlansLaw" 397 m_X12_isTrue.1 := Or.inl (amM10 128 rfl (by decide +kernel))
set_option maxRecDepth 8000 in
theorem f_RX0_11 : amFL "CriticalweekPlans$Book" 11 0 0 := ⟨_, rfl, by decide, by decide, Or.inl (amM1 49 rfl (by decide +kernel))⟩
set_option maxRecDepth 8000 in
theorem f_RX4_19 : amFL "CriticalweekPlans$Levels" 19 0 0 := ⟨_, rfl, by decide, by decide, Or.inr ⟨"CriticalweekPlans", (amM1 50 rfl (by decide +kernel))⟩⟩
set_option maxRecDepth 8000 in
theorem f_RX8_32 : amFL "CriticalweekPlans$Odds" 32 0 0 := ⟨_, rfl, by decide, by decide, Or.inr ⟨"CriticalweekPlans", (amM1 51 rfl (by decide +kernel))⟩⟩
set_option maxRecDepth 8000 in
theorem f_RX9_49 : amFL "CriticalweekPlans$Plan" 49 0 0 := ⟨_, rfl, by decide, by decide, Or.inr ⟨"CriticalweekPlans", (amM1 52 rfl (by decide +kernel))⟩⟩
set_option maxRecDepth 8000 in
theorem f_RX6_35 : amFL "CriticalweekPlans$Money" 35 0 0 := ⟨_, rfl, by decide, by decide, Or.inr ⟨"CriticalweekPlans", (amM1 53 rfl (by decide +kernel))⟩⟩
set_option maxRecDepth 8000 in
theorem f_RX7_67 : amFL "CriticalweekPlans$Net" 67 0 0 := ⟨_, rfl, by decide, by decide, Or.inr ⟨"CriticalweekPlans", (amM1 54 rfl (by decide +kernel))⟩⟩
set_option maxRecDepth 8000 in
theorem f_RX11_155 : amFL "CriticalweekPlans" 155 0 0 := ⟨_, rfl, by decide, by decide, Or.inr ⟨"CriticalweekPlans", (amM1 55 rfl (by decide +kernel))⟩⟩
set_option maxRecDepth 8000 in
theorem f_RX5_87 : amFL "CriticalweekPlans$LikeHands" 87 0 0 := ⟨_, rfl, by decide, by decide, Or.inr ⟨"CriticalweekPlans", (amM1 56 rfl (by decide +kernel))⟩⟩
set_option maxRecDepth 8000 in
theorem f_RX2_73 : amFL "CriticalweekPlans$CraneOrders" 73 0 0 := ⟨_, rfl, by decide, by decide, Or.inr ⟨"CriticalweekPlans", (amM1 57 rfl (by decide +kernel))⟩⟩
set_option maxRecDepth 8000 in
theorem f_RX1_68 : amFL "CriticalweekPlans$Clock" 68 0 0 := ⟨_, rfl, by decide, by decide, Or.inr ⟨"CriticalweekPlans", (amM1 58 rfl (by decide +kernel))⟩⟩
set_option maxRecDepth 8000 in
theorem f_RX0_16 : amFL "CriticalweekPlans$Book" 16 0 1 := ⟨_, rfl, by decide, by decide, Or.inl (amM1 59 rfl (by decide +kernel))⟩
set_option maxRecDepth 8000 in
theorem f_RX7_90 : amFL "CriticalweekPlans$Net" 90 0 1 := ⟨_, rfl, by decide, by decide, Or.inr ⟨"CriticalweekPlans", (amM1 60 rfl (by decide +kernel))⟩⟩
set_option maxRecDepth 8000 in
theorem f_RX9_71 : amFL "CriticalweekPlans$Plan" 71 0 1 := ⟨_, rfl, by decide, by decide, Or.inr ⟨"CriticalweekPlans", (amM1 61 rfl (by decide +kernel))⟩⟩
set_option maxRecDepth 8000 in
theorem f_RX11_196 : amFL "CriticalweekPlans" 196 0 1 := ⟨_, rfl, by decide, by decide, Or.inr ⟨"CriticalweekPlans", (amM1 62 rfl (by decide +kernel))⟩⟩
set_option maxRecDepth 8000 in
theorem f_RX0_19 : amFL "CriticalweekPlans$Book" 19 0 2 := ⟨_, rfl, by decide, by decide, Or.inl (amM1 63 rfl (by decide +kernel))⟩
set_option maxRecDepth 8000 in
theorem f_RX7_43 : amFL "CriticalweekPlans$Net" 43 0 3 := ⟨_, rfl, by decide, by decide, Or.inr ⟨"CriticalweekPlans", (amM1 64 rfl (by decide +kernel))⟩⟩
set_option maxRecDepth 8000 in
theorem f_RX9_43 : amFL "CriticalweekPlans$Plan" 43 0 3 := ⟨_, rfl, by decide, by decide, Or.inr ⟨"CriticalweekPlans", (amM1 65 rfl (by decide +kernel))⟩⟩
set_option maxRecDepth 8000 in
theorem f_RX6_29 : amFL "CriticalweekPlans$Money" 29 0 3 := ⟨_, rfl, by decide, by decide, Or.inr ⟨"CriticalweekPlans", (amM1 66 rfl (by decide +kernel))⟩⟩
set_option maxRecDepth 8000 in
theorem f_RX11_117 : amFL "CriticalweekPlans" 117 0 3 := ⟨_, rfl, by decide, by decide, Or.inr ⟨"CriticalweekPlans", (amM1 67 rfl (by decide +kernel))⟩⟩
set_option maxRecDepth 8000 in
theorem f_RX5_57 : amFL "CriticalweekPlans$LikeHands" 57 0 3 := ⟨_, rfl, by decide, by decide, Or.inr ⟨"CriticalweekPlans", (amM1 68 rfl (by decide +kernel))⟩⟩
set_option maxRecDepth 8000 in
theorem f_RX0_29 : amFL "CriticalweekPlans$Book" 29 0 3 := ⟨_, rfl, by decide, by decide, Or.inl (amM1 69 rfl (by decide +kernel))⟩
set_option maxRecDepth 8000 in
theorem f_RX8_72 : amFL "CriticalweekPlans$Odds" 72 0 3 := ⟨_, rfl, by decide, by decide, Or.inr ⟨"CriticalweekPlans", (amM1 70 rfl (by decide +kernel))⟩⟩
set_option maxRecDepth 8000 in
theorem f_RX10_35 : amFL "CriticalweekPlans$Text" 35 0 3 := ⟨_, rfl, by decide, by decide, Or.inr ⟨"CriticalweekPlans", (amM1 71 rfl (by decide +kernel))⟩⟩
set_option maxRecDepth 8000 in
theorem f_RX2_68 : amFL "CriticalweekPlans$CraneOrders" 68 0 3 := ⟨_, rfl, by decide, by decide, Or.inr ⟨"CriticalweekPlans", (amM1 72 rfl (by decide +kernel))⟩⟩
set_option maxRecDepth 8000 in
theorem f_RX7_50 : amFL "CriticalweekPlans$Net" 50 0 4 := ⟨_, rfl, by decide, by decide, Or.inr ⟨"CriticalweekPlans", (amM1 73 rfl (by decide +kernel))⟩⟩
set_option maxRecDepth 8000 in
theorem f_RX0_33 : amFL "CriticalweekPlans$Book" 33 0 4 := ⟨_, rfl, by decide, by decide, Or.inl (amM1 74 rfl (by decide +kernel))⟩
set_option maxRecDepth 8000 in
theorem f_RX9_68 : amFL "CriticalweekPlans$Plan" 68 0 4 := ⟨_, rfl, by decide, by decide, Or.inr ⟨"CriticalweekPlans", (amM1 75 rfl (by decide +kernel))⟩⟩
set_option maxRecDepth 8000 in
theorem f_RX11_172 : amFL "CriticalweekPlans" 172 0 4 := ⟨_, rfl, by decide, by decide, Or.inr ⟨"CriticalweekPlans", (amM1 76 rfl (by decide +kernel))⟩⟩
set_option maxRecDepth 8000 in
theorem f_RX3_11 : amFL "CriticalweekPlans$History" 11 3 0 := ⟨_, rfl, by decide, by decide, Or.inl (amM1 98 rfl (by decide +kernel))⟩
set_option maxRecDepth 8000 in
theorem f_RX3_26 : amFL "CriticalweekPlans$History" 26 3 1 := ⟨_, rfl, by decide, by decide, Or.inl (amM1 99 rfl (by decide +kernel))⟩
set_option maxRecDepth 8000 in
theorem f_RX11_199 : amFL "CriticalweekPlans" 199 3 1 := ⟨_, rfl, by decide, by decide, Or.inr ⟨"CriticalweekPlans", (amM1 100 rfl (by decide +kernel))⟩⟩
set_option maxRecDepth 8000 in
theorem f_RX3_18 : amFL "CriticalweekPlans$History" 18 3 2 := ⟨_, rfl, by decide, by decide, Or.inl (amM1 101 rfl (by decide +kernel))⟩
set_option maxRecDepth 8000 in
theorem f_RX10_9 : amFL "CriticalweekPlans$Text" 9 10 0 := ⟨_, rfl, by decide, by decide, Or.inl (amM1 115 rfl (by decide +kernel))⟩
set_option maxRecDepth 8000 in
theorem f_RX11_222 : amFL "CriticalweekPlans" 222 10 0 := ⟨_, rfl, by decide, by decide, Or.inr ⟨"CriticalweekPlans", (amM1 116 rfl (by decide +kernel))⟩⟩
set_option maxRecDepth 8000 in
theorem f_RX10_28 : amFL "CriticalweekPlans$Text" 28 10 1 := ⟨_, rfl, by decide, by decide, Or.inl (amM1 117 rfl (by decide +kernel))⟩
set_option maxRecDepth 8000 in
theorem f_RX11_219 : amFL "CriticalweekPlans" 219 10 1 := ⟨_, rfl, by decide, by decide, Or.inr ⟨"CriticalweekPlans", (amM1 118 rfl (by decide +kernel))⟩⟩
set_option maxRecDepth 8000 in
theorem f_RX10_20 : amFL "CriticalweekPlans$Text" 20 10 2 := ⟨_, rfl, by decide, by decide, Or.inl (amM1 119 rfl (by decide +kernel))⟩
set_option maxRecDepth 8000 in
theorem f_RX7_86 : amFL "CriticalweekPlans$Net" 86 7 0 := ⟨_, rfl, by decide, by decide, Or.inl (amM1 134 rfl (by decide +kernel))⟩
set_option maxRecDepth 8000 in
theorem f_RX11_519 : amFL "CriticalweekPlans" 519 7 0 := ⟨_, rfl, by decide, by decide, Or.inr ⟨"CriticalweekPlans", (amM1 135 rfl (by decide +kernel))⟩⟩
set_option maxRecDepth 8000 in
theorem f_RX7_49 : amFL "CriticalweekPlans$Net" 49 7 1 := ⟨_, rfl, by decide, by decide, Or.inl (amM1 136 rfl (by decide +kernel))⟩
set_option maxRecDepth 8000 in
theorem f_RX4_28 : amFL "CriticalweekPlans$Levels" 28 7 1 := ⟨_, rfl, by decide, by decide, Or.inr ⟨"CriticalweekPlans", (amM1 137 rfl (by decide +kernel))⟩⟩
set_option maxRecDepth 8000 in
theorem f_RX5_67 : amFL "CriticalweekPlans$LikeHands" 67 7 1 := ⟨_, rfl, by decide, by decide, Or.inr ⟨"CriticalweekPlans", (amM1 138 rfl (by decide +kernel))⟩⟩
set_option maxRecDepth 8000 in
theorem f_RX1_33 : amFL "CriticalweekPlans$Clock" 33 7 1 := ⟨_, rfl, by decide, by decide, Or.inr ⟨"CriticalweekPlans", (amM1 139 rfl (by decide +kernel))⟩⟩
set_option maxRecDepth 8000 in
theorem f_RX7_53 : amFL "CriticalweekPlans$Net" 53 7 2 := ⟨_, rfl, by decide, by decide, Or.inl (amM1 140 rfl (by decide +kernel))⟩
set_option maxRecDepth 8000 in
theorem f_RX2_54 : amFL "CriticalweekPlans$CraneOrders" 54 7 2 := ⟨_, rfl, by decide, by decide, Or.inr ⟨"CriticalweekPlans", (amM1 141 rfl (by decide +kernel))⟩⟩
set_option maxRecDepth 8000 in
theorem f_RX4_71 : amFL "CriticalweekPlans$Levels" 71 7 2 := ⟨_, rfl, by decide, by decide, Or.inr ⟨"CriticalweekPlans", (amM1 142 rfl (by decide +kernel))⟩⟩
set_option maxRecDepth 8000 in
theorem f_RX1_50 : amFL "CriticalweekPlans$Clock" 50 7 2 := ⟨_, rfl, by decide, by decide, Or.inr ⟨"CriticalweekPlans", (amM1 143 rfl (by decide +kernel))⟩⟩
set_option maxRecDepth 8000 in
theorem f_RX5_91 : amFL "CriticalweekPlans$LikeHands" 91 7 2 := ⟨_, rfl, by decide, by decide, Or.inr ⟨"CriticalweekPlans", (amM1 144 rfl (by decide +kernel))⟩⟩
set_option maxRecDepth 8000 in
theorem f_RX5_49 : amFL "CriticalweekPlans$LikeHands" 49 7 3 := ⟨_, rfl, by decide, by decide, Or.inr ⟨"CriticalweekPlans", (amM1 145 rfl (by decide +kernel))⟩⟩
set_option maxRecDepth 8000 in
theorem f_RX7_79 : amFL "CriticalweekPlans$Net" 79 7 3 := ⟨_, rfl, by decide, by decide, Or.inl (amM1 146 rfl (by decide +kernel))⟩
set_option maxRecDepth 8000 in
theorem f_RX11_248 : amFL "CriticalweekPlans" 248 7 3 := ⟨_, rfl, by decide, by decide, Or.inr ⟨"CriticalweekPlans", (amM1 147 rfl (by decide +kernel))⟩⟩
set_option maxRecDepth 8000 in
theorem f_RX7_9 : amFL "CriticalweekPlans$Net" 9 7 4 := ⟨_, rfl, by decide, by decide, Or.inl (amM1 148 rfl (by decide +kernel))⟩
set_option maxRecDepth 8000 in
theorem f_RX4_53 : amFL "CriticalweekPlans$Levels" 53 7 4 := ⟨_, rfl, by decide, by decide, Or.inr ⟨"CriticalweekPlans", (amM1 149 rfl (by decide +kernel))⟩⟩
set_option maxRecDepth 8000 in
theorem f_RX1_39 : amFL "CriticalweekPlans$Clock" 39 7 4 := ⟨_, rfl, by decide, by decide, Or.inr ⟨"CriticalweekPlans", (amM1 150 rfl (by decide +kernel))⟩⟩
set_option maxRecDepth 8000 in
theorem f_RX7_15 : amFL "CriticalweekPlans$Net" 15 7 5 := ⟨_, rfl, by decide, by decide, Or.inl (amM1 151 rfl (by decide +kernel))⟩
set_option maxRecDepth 8000 in
theorem f_RX7_18 : amFL "CriticalweekPlans$Net" 18 7 6 := ⟨_, rfl, by decide, by decide, Or.inl (amM1 152 rfl (by decide +kernel))⟩
set_option maxRecDepth 8000 in
theorem f_RX2_59 : amFL "CriticalweekPlans$CraneOrders" 59 7 6 := ⟨_, rfl, by decide, by decide, Or.inr ⟨"CriticalweekPlans", (amM1 153 rfl (by decide +kernel))⟩⟩
set_option maxRecDepth 8000 in
theorem f_RX4_77 : amFL "CriticalweekPlans$Levels" 77 7 6 := ⟨_, rfl, by decide, by decide, Or.inr ⟨"CriticalweekPlans", (amM1 154 rfl (by decide +kernel))⟩⟩
set_option maxRecDepth 8000 in
theorem f_RX1_56 : amFL "CriticalweekPlans$Clock" 56 7 6 := ⟨_, rfl, by decide, by decide, Or.inr ⟨"CriticalweekPlans", (amM1 155 rfl (by decide +kernel))⟩⟩
set_option maxRecDepth 8000 in
theorem f_RX5_97 : amFL "CriticalweekPlans$LikeHands" 97 7 6 := ⟨_, rfl, by decide, by decide, Or.inr ⟨"CriticalweekPlans", (amM1 156 rfl (by decide +kernel))⟩⟩
set_option maxRecDepth 8000 in
theorem f_RX7_21 : amFL "CriticalweekPlans$Net" 21 7 7 := ⟨_, rfl, by decide, by decide, Or.inl (amM1 157 rfl (by decide +kernel))⟩
set_option maxRecDepth 8000 in
theorem f_RX2_62 : amFL "CriticalweekPlans$CraneOrders" 62 7 7 := ⟨_, rfl, by decide, by decide, Or.inr ⟨"CriticalweekPlans", (amM1 158 rfl (by decide +kernel))⟩⟩
set_option maxRecDepth 8000 in
theorem f_RX4_74 : amFL "CriticalweekPlans$Levels" 74 7 7 := ⟨_, rfl, by decide, by decide, Or.inr ⟨"CriticalweekPlans", (amM1 159 rfl (by decide +kernel))⟩⟩
set_option maxRecDepth 8000 in
theorem f_RX1_53 : amFL "CriticalweekPlans$Clock" 53 7 7 := ⟨_, rfl, by decide, by decide, Or.inr ⟨"CriticalweekPlans", (amM1 160 rfl (by decide +kernel))⟩⟩
set_option maxRecDepth 8000 in
theorem f_RX5_94 : amFL "CriticalweekPlans$LikeHands" 94 7 7 := ⟨_, rfl, by decide, by decide, Or.inr ⟨"CriticalweekPlans", (amM1 161 rfl (by decide +kernel))⟩⟩
set_option maxRecDepth 8000 in
theorem f_RX7_24 : amFL "CriticalweekPlans$Net" 24 7 8 := ⟨_, rfl, by decide, by decide, Or.inl (amM1 162 rfl (by decide +kernel))⟩
set_option maxRecDepth 8000 in
theorem f_RX4_80 : amFL "CriticalweekPlans$Levels" 80 7 8 := ⟨_, rfl, by decide, by decide, Or.inr ⟨"CriticalweekPlans", (amM1 163 rfl (by decide +kernel))⟩⟩
set_option maxRecDepth 8000 in
theorem f_RX1_59 : amFL "CriticalweekPlans$Clock" 59 7 8 := ⟨_, rfl, by decide, by decide, Or.inr ⟨"CriticalweekPlans", (amM1 164 rfl (by decide +kernel))⟩⟩
set_option maxRecDepth 8000 in
theorem f_RX5_100 : amFL "CriticalweekPlans$LikeHands" 100 7 8 := ⟨_, rfl, by decide, by decide, Or.inr ⟨"CriticalweekPlans", (amM1 165 rfl (by decide +kernel))⟩⟩
set_option maxRecDepth 8000 in
theorem f_RX7_27 : amFL "CriticalweekPlans$Net" 27 7 9 := ⟨_, rfl, by decide, by decide, Or.inl (amM1 166 rfl (by decide +kernel))⟩
set_option maxRecDepth 8000 in
theorem f_RX11_242 : amFL "CriticalweekPlans" 242 7 9 := ⟨_, rfl, by decide, by decide, Or.inr ⟨"CriticalweekPlans", (amM1 167 rfl (by decide +kernel))⟩⟩
set_option maxRecDepth 8000 in
theorem f_RX7_30 : amFL "CriticalweekPlans$Net" 30 7 10 := ⟨_, rfl, by decide, by decide, Or.inl (amM1 168 rfl (by decide +kernel))⟩
set_option maxRecDepth 8000 in
theorem f_RX4_56 : amFL "CriticalweekPlans$Levels" 56 7 10 := ⟨_, rfl, by decide, by decide, Or.inr ⟨"CriticalweekPlans", (amM1 169 rfl (by decide +kernel))⟩⟩
set_option maxRecDepth 8000 in
theorem f_RX11_245 : amFL "CriticalweekPlans" 245 7 10 := ⟨_, rfl, by decide, by decide, Or.inr ⟨"CriticalweekPlans", (amM1 170 rfl (by decide +kernel))⟩⟩
set_option maxRecDepth 8000 in
theorem f_RX7_33 : amFL "CriticalweekPlans$Net" 33 7 11 := ⟨_, rfl, by decide, by decide, Or.inl (amM1 171 rfl (by decide +kernel))⟩
set_option maxRecDepth 8000 in
theorem f_RX11_281 : amFL "CriticalweekPlans" 281 7 11 := ⟨_, rfl, by decide, by decide, Or.inr ⟨"CriticalweekPlans", (amM1 172 rfl (by decide +kernel))⟩⟩
set_option maxRecDepth 8000 in
theorem f_RX7_36 : amFL "CriticalweekPlans$Net" 36 7 12 := ⟨_, rfl, by decide, by decide, Or.inl (amM1 173 rfl (by decide +kernel))⟩
set_option maxRecDepth 8000 in
theorem f_RX7_39 : amFL "CriticalweekPlans$Net" 39 7 13 := ⟨_, rfl, by decide, by decide, Or.inl (amM1 174 rfl (by decide +kernel))⟩
set_option maxRecDepth 8000 in
theorem f_RX1_11 : amFL "CriticalweekPlans$Clock" 11 1 0 := ⟨_, rfl, by decide, by decide, Or.inl (amM1 215 rfl (by decide +kernel))⟩
set_option maxRecDepth 8000 in
theorem f_RX11_302 : amFL "CriticalweekPlans" 302 1 0 := ⟨_, rfl, by decide, by decide, Or.inr ⟨"CriticalweekPlans", (amM1 216 rfl (by decide +kernel))⟩⟩
set_option maxRecDepth 8000 in
theorem f_RX1_16 : amFL "CriticalweekPlans$Clock" 16 1 1 := ⟨_, rfl, by decide, by decide, Or.inl (amM1 217 rfl (by decide +kernel))⟩
set_option maxRecDepth 8000 in
theorem f_RX11_308 : amFL "CriticalweekPlans" 308 1 1 := ⟨_, rfl, by decide, by decide, Or.inr ⟨"CriticalweekPlans", (amM1 218 rfl (by decide +kernel))⟩⟩
set_option maxRecDepth 8000 in
theorem f_RX1_20 : amFL "CriticalweekPlans$Clock" 20 1 2 := ⟨_, rfl, by decide, by decide, Or.inl (amM1 219 rfl (by decide +kernel))⟩
set_option maxRecDepth 8000 in
theorem f_RX11_312 : amFL "CriticalweekPlans" 312 1 2 := ⟨_, rfl, by decide, by decide, Or.inr ⟨"CriticalweekPlans", (amM1 220 rfl (by decide +kernel))⟩⟩
set_option maxRecDepth 8000 in
theorem f_RX11_348 : amFL "CriticalweekPlans" 348 9 0 := ⟨_, rfl, by decide, by decide, Or.inr ⟨"CriticalweekPlans", (amM1 234 rfl (by decide +kernel))⟩⟩
set_option maxRecDepth 8000 in
theorem f_RX11_344 : amFL "CriticalweekPlans" 344 9 1 := ⟨_, rfl, by decide, by decide, Or.inr ⟨"CriticalweekPlans", (amM1 235 rfl (by decide +kernel))⟩⟩
set_option maxRecDepth 8000 in
theorem f_RX9_48 : amFL "CriticalweekPlans$Plan" 48 9 2 := ⟨_, rfl, by decide, by decide, Or.inl (amM1 236 rfl (by decide +kernel))⟩
set_option maxRecDepth 8000 in
theorem f_RX9_11 : amFL "CriticalweekPlans$Plan" 11 9 3 := ⟨_, rfl, by decide, by decide, Or.inl (amM1 237 rfl (by decide +kernel))⟩
set_option maxRecDepth 8000 in
theorem f_RX11_529 : amFL "CriticalweekPlans" 529 9 3 := ⟨_, rfl, by decide, by decide, Or.inr ⟨"CriticalweekPlans", (amM1 238 rfl (by decide +kernel))⟩⟩
set_option maxRecDepth 8000 in
theorem f_RX9_59 : amFL "CriticalweekPlans$Plan" 59 9 4 := ⟨_, rfl, by decide, by decide, Or.inl (amM1 239 rfl (by decide +kernel))⟩
set_option maxRecDepth 8000 in
theorem f_RX11_351 : amFL "CriticalweekPlans" 351 9 4 := ⟨_, rfl, by decide, by decide, Or.inr ⟨"CriticalweekPlans", (amM2 0 rfl (by decide +kernel))⟩⟩
set_option maxRecDepth 8000 in
theorem f_RX9_107 : amFL "CriticalweekPlans$Plan" 107 9 5 := ⟨_, rfl, by decide, by decide, Or.inl (amM2 1 rfl (by decide +kernel))⟩
set_option maxRecDepth 8000 in
theorem f_RX11_365 : amFL "CriticalweekPlans" 365 9 5 := ⟨_, rfl, by decide, by decide, Or.inr ⟨"CriticalweekPlans", (amM2 2 rfl (by decide +kernel))⟩⟩
set_option maxRecDepth 8000 in
theorem f_RX9_15 : amFL "CriticalweekPlans$Plan" 15 9 6 := ⟨_, rfl, by decide, by decide, Or.inl (amM2 3 rfl (by decide +kernel))⟩
set_option maxRecDepth 8000 in
theorem f_RX11_528 : amFL "CriticalweekPlans" 528 9 6 := ⟨_, rfl, by decide, by decide, Or.inr ⟨"CriticalweekPlans", (amM2 4 rfl (by decide +kernel))⟩⟩
set_option maxRecDepth 8000 in
theorem f_RX9_19 : amFL "CriticalweekPlans$Plan" 19 9 7 := ⟨_, rfl, by decide, by decide, Or.inl (amM2 5 rfl (by decide +kernel))⟩
set_option maxRecDepth 8000 in
theorem f_RX11_532 : amFL "CriticalweekPlans" 532 9 7 := ⟨_, rfl, by decide, by decide, Or.inr ⟨"CriticalweekPlans", (amM2 6 rfl (by decide +kernel))⟩⟩
set_option maxRecDepth 8000 in
theorem f_RX9_22 : amFL "CriticalweekPlans$Plan" 22 9 8 := ⟨_, rfl, by decide, by decide, Or.inl (amM2 7 rfl (by decide +kernel))⟩
set_option maxRecDepth 8000 in
theorem f_RX11_355 : amFL "CriticalweekPlans" 355 9 8 := ⟨_, rfl, by decide, by decide, Or.inr ⟨"CriticalweekPlans", (amM2 8 rfl (by decide +kernel))⟩⟩
set_option maxRecDepth 8000 in
theorem f_RX9_25 : amFL "CriticalweekPlans$Plan" 25 9 9 := ⟨_, rfl, by decide, by decide, Or.inl (amM2 9 rfl (by decide +kernel))⟩
set_option maxRecDepth 8000 in
theorem f_RX9_28 : amFL "CriticalweekPlans$Plan" 28 9 10 := ⟨_, rfl, by decide, by decide, Or.inl (amM2 10 rfl (by decide +kernel))⟩
set_option maxRecDepth 8000 in
theorem f_RX11_356 : amFL "CriticalweekPlans" 356 9 10 := ⟨_, rfl, by decide, by decide, Or.inr ⟨"CriticalweekPlans", (amM2 11 rfl (by decide +kernel))⟩⟩
set_option maxRecDepth 8000 in
theorem f_RX9_31 : amFL "CriticalweekPlans$Plan" 31 9 11 := ⟨_, rfl, by decide, by decide, Or.inl (amM2 12 rfl (by decide +kernel))⟩
set_option maxRecDepth 8000 in
theorem f_RX9_34 : amFL "CriticalweekPlans$Plan" 34 9 12 := ⟨_, rfl, by decide, by decide, Or.inl (amM2 13 rfl (by decide +kernel))⟩
set_option maxRecDepth 8000 in
theorem f_RX9_37 : amFL "CriticalweekPlans$Plan" 37 9 13 := ⟨_, rfl, by decide, by decide, Or.inl (amM2 14 rfl (by decide +kernel))⟩
set_option maxRecDepth 8000 in
theorem f_RX11_368 : amFL "CriticalweekPlans" 368 9 13 := ⟨_, rfl, by decide, by decide, Or.inr ⟨"CriticalweekPlans", (amM2 15 rfl (by decide +kernel))⟩⟩
set_option maxRecDepth 8000 in
theorem f_RX9_40 : amFL "CriticalweekPlans$Plan" 40 9 14 := ⟨_, rfl, by decide, by decide, Or.inl (amM2 16 rfl (by decide +kernel))⟩
set_option maxRecDepth 8000 in
theorem f_RX5_15 : amFL "CriticalweekPlans$LikeHands" 15 5 0 := ⟨_, rfl, by decide, by decide, Or.inl (amM2 54 rfl (by decide +kernel))⟩
set_option maxRecDepth 8000 in
theorem f_RX5_19 : amFL "CriticalweekPlans$LikeHands" 19 5 1 := ⟨_, rfl, by decide, by decide, Or.inl (amM2 55 rfl (by decide +kernel))⟩
set_option maxRecDepth 8000 in
theorem f_RX5_9 : amFL "CriticalweekPlans$LikeHands" 9 5 2 := ⟨_, rfl, by decide, by decide, Or.inl (amM2 56 rfl (by decide +kernel))⟩
set_option maxRecDepth 8000 in
theorem f_RX5_29 : amFL "CriticalweekPlans$LikeHands" 29 5 3 := ⟨_, rfl, by decide, by decide, Or.inl (amM2 57 rfl (by decide +kernel))⟩
set_option maxRecDepth 8000 in
theorem f_RX5_33 : amFL "CriticalweekPlans$LikeHands" 33 5 4 := ⟨_, rfl, by decide, by decide, Or.inl (amM2 58 rfl (by decide +kernel))⟩
set_option maxRecDepth 8000 in
theorem f_RX5_60 : amFL "CriticalweekPlans$LikeHands" 60 5 5 := ⟨_, rfl, by decide, by decide, Or.inl (amM2 59 rfl (by decide +kernel))⟩
set_option maxRecDepth 8000 in
theorem f_RX5_54 : amFL "CriticalweekPlans$LikeHands" 54 5 6 := ⟨_, rfl, by decide, by decide, Or.inl (amM2 60 rfl (by decide +kernel))⟩
set_option maxRecDepth 8000 in
theorem f_RX4_15 : amFL "CriticalweekPlans$Levels" 15 4 0 := ⟨_, rfl, by decide, by decide, Or.inl (amM2 82 rfl (by decide +kernel))⟩
set_option maxRecDepth 8000 in
theorem f_RX4_25 : amFL "CriticalweekPlans$Levels" 25 4 1 := ⟨_, rfl, by decide, by decide, Or.inl (amM2 83 rfl (by decide +kernel))⟩
set_option maxRecDepth 8000 in
theorem f_RX4_9 : amFL "CriticalweekPlans$Levels" 9 4 2 := ⟨_, rfl, by decide, by decide, Or.inl (amM2 84 rfl (by decide +kernel))⟩
set_option maxRecDepth 8000 in
theorem f_RX4_40 : amFL "CriticalweekPlans$Levels" 40 4 3 := ⟨_, rfl, by decide, by decide, Or.inl (amM2 85 rfl (by decide +kernel))⟩
set_option maxRecDepth 8000 in
theorem f_RX6_21 : amFL "CriticalweekPlans$Money" 21 6 0 := ⟨_, rfl, by decide, by decide, Or.inl (amM2 101 rfl (by decide +kernel))⟩
set_option maxRecDepth 8000 in
theorem f_RX6_25 : amFL "CriticalweekPlans$Money" 25 6 1 := ⟨_, rfl, by decide, by decide, Or.inl (amM2 102 rfl (by decide +kernel))⟩
set_option maxRecDepth 8000 in
theorem f_RX6_9 : amFL "CriticalweekPlans$Money" 9 6 2 := ⟨_, rfl, by decide, by decide, Or.inl (amM2 103 rfl (by decide +kernel))⟩
set_option maxRecDepth 8000 in
theorem f_RX6_15 : amFL "CriticalweekPlans$Money" 15 6 3 := ⟨_, rfl, by decide, by decide, Or.inl (amM2 104 rfl (by decide +kernel))⟩
set_option maxRecDepth 8000 in
theorem f_RX6_18 : amFL "CriticalweekPlans$Money" 18 6 4 := ⟨_, rfl, by decide, by decide, Or.inl (amM2 105 rfl (by decide +kernel))⟩
set_option maxRecDepth 8000 in
theorem f_RX6_65 : amFL "CriticalweekPlans$Money" 65 6 5 := ⟨_, rfl, by decide, by decide, Or.inl (amM2 106 rfl (by decide +kernel))⟩
set_option maxRecDepth 8000 in
theorem f_RX6_68 : amFL "CriticalweekPlans$Money" 68 6 6 := ⟨_, rfl, by decide, by decide, Or.inl (amM2 107 rfl (by decide +kernel))⟩
set_option maxRecDepth 8000 in
theorem f_RX8_24 : amFL "CriticalweekPlans$Odds" 24 8 0 := ⟨_, rfl, by decide, by decide, Or.inl (amM2 129 rfl (by decide +kernel))⟩
set_option maxRecDepth 8000 in
theorem f_RX8_28 : amFL "CriticalweekPlans$Odds" 28 8 1 := ⟨_, rfl, by decide, by decide, Or.inl (amM2 130 rfl (by decide +kernel))⟩
set_option maxRecDepth 8000 in
theorem f_RX8_9 : amFL "CriticalweekPlans$Odds" 9 8 2 := ⟨_, rfl, by decide, by decide, Or.inl (amM2 131 rfl (by decide +kernel))⟩
set_option maxRecDepth 8000 in
theorem f_RX8_15 : amFL "CriticalweekPlans$Odds" 15 8 3 := ⟨_, rfl, by decide, by decide, Or.inl (amM2 132 rfl (by decide +kernel))⟩
set_option maxRecDepth 8000 in
theorem f_RX8_18 : amFL "CriticalweekPlans$Odds" 18 8 4 := ⟨_, rfl, by decide, by decide, Or.inl (amM2 133 rfl (by decide +kernel))⟩
set_option maxRecDepth 8000 in
theorem f_RX8_21 : amFL "CriticalweekPlans$Odds" 21 8 5 := ⟨_, rfl, by decide, by decide, Or.inl (amM2 134 rfl (by decide +kernel))⟩
set_option maxRecDepth 8000 in
theorem f_RX2_23 : amFL "CriticalweekPlans$CraneOrders" 23 2 0 := ⟨_, rfl, by decide, by decide, Or.inl (amM2 155 rfl (by decide +kernel))⟩
set_option maxRecDepth 8000 in
theorem f_RX2_27 : amFL "CriticalweekPlans$CraneOrders" 27 2 1 := ⟨_, rfl, by decide, by decide, Or.inl (amM2 156 rfl (by decide +kernel))⟩
set_option maxRecDepth 8000 in
theorem f_RX2_9 : amFL "CriticalweekPlans$CraneOrders" 9 2 2 := ⟨_, rfl, by decide, by decide, Or.inl (amM2 157 rfl (by decide +kernel))⟩
set_option maxRecDepth 8000 in
theorem f_RX2_15 : amFL "CriticalweekPlans$CraneOrders" 15 2 3 := ⟨_, rfl, by decide, by decide, Or.inl (amM2 158 rfl (by decide +kernel))⟩
set_option maxRecDepth 8000 in
theorem f_RX2_20 : amFL "CriticalweekPlans$CraneOrders" 20 2 4 := ⟨_, rfl, by decide, by decide, Or.inl (amM2 159 rfl (by decide +kernel))⟩
set_option maxRecDepth 8000 in
theorem f_RX2_34 : amFL "CriticalweekPlans$CraneOrders" 34 2 5 := ⟨_, rfl, by decide, by decide, Or.inl (amM2 160 rfl (by decide +kernel))⟩
set_option maxRecDepth 8000 in
theorem f_RX2_65 : amFL "CriticalweekPlans$CraneOrders" 65 2 6 := ⟨_, rfl, by decide, by decide, Or.inl (amM2 161 rfl (by decide +kernel))⟩
set_option maxRecDepth 8000 in
theorem f_RX11_10 : amFL "CriticalweekPlans" 10 11 0 := ⟨_, rfl, by decide, by decide, Or.inl (amM2 177 rfl (by decide +kernel))⟩
set_option maxRecDepth 8000 in
theorem f_RX11_16 : amFL "CriticalweekPlans" 16 11 1 := ⟨_, rfl, by decide, by decide, Or.inl (amM2 178 rfl (by decide +kernel))⟩
set_option maxRecDepth 8000 in
theorem f_RX11_22 : amFL "CriticalweekPlans" 22 11 2 := ⟨_, rfl, by decide, by decide, Or.inl (amM2 179 rfl (by decide +kernel))⟩
set_option maxRecDepth 8000 in
theorem f_RX11_29 : amFL "CriticalweekPlans" 29 11 3 := ⟨_, rfl, by decide, by decide, Or.inl (amM2 180 rfl (by decide +kernel))⟩
set_option maxRecDepth 8000 in
theorem f_RX11_36 : amFL "CriticalweekPlans" 36 11 4 := ⟨_, rfl, by decide, by decide, Or.inl (amM2 181 rfl (by decide +kernel))⟩
set_option maxRecDepth 8000 in
theorem f_RX11_43 : amFL "CriticalweekPlans" 43 11 5 := ⟨_, rfl, by decide, by decide, Or.inl (amM2 182 rfl (by decide +kernel))⟩
set_option maxRecDepth 8000 in
theorem f_RX11_47 : amFL "CriticalweekPlans" 47 11 6 := ⟨_, rfl, by decide, by decide, Or.inl (amM2 183 rfl (by decide +kernel))⟩
set_option maxRecDepth 8000 in
theorem f_RX11_51 : amFL "CriticalweekPlans" 51 11 7 := ⟨_, rfl, by decide, by decide, Or.inl (amM2 184 rfl (by decide +kernel))⟩
set_option maxRecDepth 8000 in
theorem f_RX11_214 : amFL "CriticalweekPlans" 214 11 8 := ⟨_, rfl, by decide, by decide, Or.inl (amM2 185 rfl (by decide +kernel))⟩
set_option maxRecDepth 8000 in
theorem f_RX11_54 : amFL "CriticalweekPlans" 54 11 9 := ⟨_, rfl, by decide, by decide, Or.inl (amM2 186 rfl (by decide +kernel))⟩
set_option maxRecDepth 8000 in
theorem f_RX11_57 : amFL "CriticalweekPlans" 57 11 10 := ⟨_, rfl, by decide, by decide, Or.inl (amM2 187 rfl (by decide +kernel))⟩
set_option maxRecDepth 8000 in
theorem f_RX11_63 : amFL "CriticalweekPlans" 63 11 11 := ⟨_, rfl, by decide, by decide, Or.inl (amM2 188 rfl (by decide +kernel))⟩
set_option maxRecDepth 8000 in
theorem f_RX11_67 : amFL "CriticalweekPlans" 67 11 12 := ⟨_, rfl, by decide, by decide, Or.inl (amM2 189 rfl (by decide +kernel))⟩
set_option maxRecDepth 8000 in
theorem f_RX11_70 : amFL "CriticalweekPlans" 70 11 13 := ⟨_, rfl, by decide, by decide, Or.inl (amM2 190 rfl (by decide +kernel))⟩
set_option maxRecDepth 8000 in
theorem f_RX11_450 : amFL "CriticalweekPlans" 450 11 14 := ⟨_, rfl, by decide, by decide, Or.inl (amM2 191 rfl (by decide +kernel))⟩
set_option maxRecDepth 8000 in
theorem f_RX11_78 : amFL "CriticalweekPlans" 78 11 15 := ⟨_, rfl, by decide, by decide, Or.inl (amM2 192 rfl (by decide +kernel))⟩
set_option maxRecDepth 8000 in
theorem f_RX11_85 : amFL "CriticalweekPlans" 85 11 16 := ⟨_, rfl, by decide, by decide, Or.inl (amM2 193 rfl (by decide +kernel))⟩
set_option maxRecDepth 8000 in
theorem f_RX11_92 : amFL "CriticalweekPlans" 92 11 17 := ⟨_, rfl, by decide, by decide, Or.inl (amM2 194 rfl (by decide +kernel))⟩
set_option maxRecDepth 8000 in
theorem f_RX11_99 : amFL "CriticalweekPlans" 99 11 18 := ⟨_, rfl, by decide, by decide, Or.inl (amM2 195 rfl (by decide +kernel))⟩
set_option maxRecDepth 8000 in
theorem f_RX11_106 : amFL "CriticalweekPlans" 106 11 19 := ⟨_, rfl, by decide, by decide, Or.inl (amM2 196 rfl (by decide +kernel))⟩
set_option maxRecDepth 8000 in
theorem f_RX12_9 : amFL "CriticalweekPlansModel" 9 12 0 := ⟨_, rfl, by decide, by decide, Or.inl (amM7 232 rfl (by decide +kernel))⟩
set_option maxRecDepth 8000 in
theorem f_RX12_14 : amFL "CriticalweekPlansModel" 14 12 1 := ⟨_, rfl, by decide, by decide, Or.inl (amM7 233 rfl (by decide +kernel))⟩
set_option maxRecDepth 8000 in
theorem f_RX12_72 : amFL "CriticalweekPlansModel" 72 12 2 := ⟨_, rfl, by decide, by decide, Or.inl (amM7 234 rfl (by decide +kernel))⟩
set_option maxRecDepth 8000 in
theorem f_RX12_18 : amFL "CriticalweekPlansModel" 18 12 3 := ⟨_, rfl, by decide, by decide, Or.inl (amM7 235 rfl (by decide +kernel))⟩
set_option maxRecDepth 8000 in
theorem f_RX12_174 : amFL "CriticalweekPlansModel" 174 12 4 := ⟨_, rfl, by decide, by decide, Or.inl (amM7 236 rfl (by decide +kernel))⟩
set_option maxRecDepth 8000 in
theorem f_RX12_24 : amFL "CriticalweekPlansModel" 24 12 5 := ⟨_, rfl, by decide, by decide, Or.inl (amM7 237 rfl (by decide +kernel))⟩
set_option maxRecDepth 8000 in
theorem f_RX12_27 : amFL "CriticalweekPlansModel" 27 12 6 := ⟨_, rfl, by decide, by decide, Or.inl (amM7 238 rfl (by decide +kernel))⟩
set_option maxRecDepth 8000 in
theorem f_RX12_30 : amFL "CriticalweekPlansModel" 30 12 7 := ⟨_, rfl, by decide, by decide, Or.inl (amM7 239 rfl (by decide +kernel))⟩
set_option maxRecDepth 8000 in
theorem f_RX12_171 : amFL "CriticalweekPlansModel" 171 12 8 := ⟨_, rfl, by decide, by decide, Or.inl (amM8 0 rfl (by decide +kernel))⟩
set_option maxRecDepth 8000 in
theorem f_RX12_79 : amFL "CriticalweekPlansModel" 79 12 9 := ⟨_, rfl, by decide, by decide, Or.inl (amM8 1 rfl (by decide +kernel))⟩
set_option maxRecDepth 8000 in
theorem f_RX12_265 : amFL "CriticalweekPlansModel" 265 12 10 := ⟨_, rfl, by decide, by decide, Or.inl (amM8 2 rfl (by decide +kernel))⟩
set_option maxRecDepth 8000 in
theorem f_RX12_33 : amFL "CriticalweekPlansModel" 33 12 11 := ⟨_, rfl, by decide, by decide, Or.inl (amM8 3 rfl (by decide +kernel))⟩
set_option maxRecDepth 8000 in
theorem f_RX12_36 : amFL "CriticalweekPlansModel" 36 12 12 := ⟨_, rfl, by decide, by decide, Or.inl (amM8 4 rfl (by decide +kernel))⟩
set_option maxRecDepth 8000 in
theorem f_RX12_39 : amFL "CriticalweekPlansModel" 39 12 13 := ⟨_, rfl, by decide, by decide, Or.inl (amM8 5 rfl (by decide +kernel))⟩
set_option maxRecDepth 8000 in
theorem f_RX12_275 : amFL "CriticalweekPlansModel" 275 12 14 := ⟨_, rfl, by decide, by decide, Or.inl (amM8 6 rfl (by decide +kernel))⟩
set_option maxRecDepth 8000 in
theorem f_RX12_42 : amFL "CriticalweekPlansModel" 42 12 15 := ⟨_, rfl, by decide, by decide, Or.inl (amM8 7 rfl (by decide +kernel))⟩
set_option maxRecDepth 8000 in
theorem f_RX12_361 : amFL "CriticalweekPlansModel" 361 12 16 := ⟨_, rfl, by decide, by decide, Or.inl (amM8 8 rfl (by decide +kernel))⟩
set_option maxRecDepth 8000 in
theorem f_RX12_45 : amFL "CriticalweekPlansModel" 45 12 17 := ⟨_, rfl, by decide, by decide, Or.inl (amM8 9 rfl (by decide +kernel))⟩
set_option maxRecDepth 8000 in
theorem f_RX12_48 : amFL "CriticalweekPlansModel" 48 12 18 := ⟨_, rfl, by decide, by decide, Or.inl (amM8 10 rfl (by decide +kernel))⟩
set_option maxRecDepth 8000 in
theorem f_RX12_60 : amFL "CriticalweekPlansModel" 60 12 19 := ⟨_, rfl, by decide, by decide, Or.inl (amM8 11 rfl (by decide +kernel))⟩
set_option maxRecDepth 8000 in
theorem f_RX12_51 : amFL "CriticalweekPlansModel" 51 12 20 := ⟨_, rfl, by decide, by decide, Or.inl (amM8 12 rfl (by decide +kernel))⟩
set_option maxRecDepth 8000 in
theorem f_RX12_54 : amFL "CriticalweekPlansModel" 54 12 21 := ⟨_, rfl, by decide, by decide, Or.inl (amM8 13 rfl (by decide +kernel))⟩
set_option maxRecDepth 8000 in
theorem f_RX12_57 : amFL "CriticalweekPlansModel" 57 12 22 := ⟨_, rfl, by decide, by decide, Or.inl (amM8 14 rfl (by decide +kernel))⟩
set_option maxRecDepth 8000 in
theorem f_RX12_177 : amFL "CriticalweekPlansModel" 177 12 23 := ⟨_, rfl, by decide, by decide, Or.inl (amM8 15 rfl (by decide +kernel))⟩
set_option maxRecDepth 8000 in
theorem f_RX12_183 : amFL "CriticalweekPlansModel" 183 12 24 := ⟨_, rfl, by decide, by decide, Or.inl (amM8 16 rfl (by decide +kernel))⟩
set_option maxRecDepth 8000 in
theorem f_RX12_180 : amFL "CriticalweekPlansModel" 180 12 25 := ⟨_, rfl, by decide, by decide, Or.inl (amM8 17 rfl (by decide +kernel))⟩
