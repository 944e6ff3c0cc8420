abbrev m_L_law : zM := (yL_law, cL_law, 7, (some .boolean))
theorem ls_write : ∀ x ∈ [Cond.methodLink m_L_law.1.cls 66 m_L_write.1, Cond.static m_L_write.1, Cond.initialized m_L_write.1.cls], x ∈ zGW := zall3 (zmem (i := 1317) (by decide +kernel) rfl) (zmem (i := 1318) (by decide +kernel) rfl) (zmem (i := 126) (by decide +kernel) rfl)
theorem cl_write : m_L_write.1.cls ≠ "java/lang/invoke/MethodHandle" ∧ m_L_write.1.cls ≠ "java/lang/invoke/VarHandle" ∧ (parseMethodDescriptor m_L_write.1.desc).map (fun d => d.parameters.length) = some 3 := by decide +kernel
theorem ls_code : ∀ x ∈ [Cond.methodLink m_L_law.1.cls 76 m_L_code.1, Cond.static m_L_code.1, Cond.initialized m_L_code.1.cls], x ∈ zGW := zall3 (zmem (i := 1357) (by decide +kernel) rfl) (zmem (i := 1358) (by decide +kernel) rfl) (zmem (i := 126) (by decide +kernel) rfl)
theorem cl_code : m_L_code.1.cls ≠ "java/lang/invoke/MethodHandle" ∧ m_L_code.1.cls ≠ "java/lang/invoke/VarHandle" ∧ (parseMethodDescriptor m_L_code.1.desc).map (fun d => d.parameters.length) = some 6 := by decide +kernel
theorem ls_type : ∀ x ∈ [Cond.methodLink m_L_law.1.cls 80 m_L_type.1, Cond.static m_L_type.1, Cond.initialized m_L_type.1.cls], x ∈ zGW := zall3 (zmem (i := 1373) (by decide +kernel) rfl) (zmem (i := 1374) (by decide +kernel) rfl) (zmem (i := 126) (by decide +kernel) rfl)
theorem cl_type : m_L_type.1.cls ≠ "java/lang/invoke/MethodHandle" ∧ m_L_type.1.cls ≠ "java/lang/invoke/VarHandle" ∧ (parseMethodDescriptor m_L_type.1.desc).map (fun d => d.parameters.length) = some 3 := by decide +kernel
theorem ls_key : ∀ x ∈ [Cond.methodLink m_L_law.1.cls 83 m_L_key.1, Cond.static m_L_key.1, Cond.initialized m_L_key.1.cls], x ∈ zGW := zall3 (zmem (i := 1380) (by decide +kernel) rfl) (zmem (i := 1381) (by decide +kernel) rfl) (zmem (i := 126) (by decide +kernel) rfl)
theorem cl_key : m_L_key.1.cls ≠ "java/lang/invoke/MethodHandle" ∧ m_L_key.1.cls ≠ "java/lang/invoke/VarHandle" ∧ (parseMethodDescriptor m_L_key.1.desc).map (fun d => d.parameters.length) = some 4 := by decide +kernel
theorem ls_draft : ∀ x ∈ [Cond.methodLink m_L_law.1.cls 87 m_L_draft.1, Cond.static m_L_draft.1, Cond.initialized m_L_draft.1.cls], x ∈ zGW := zall3 (zmem (i := 1392) (by decide +kernel) rfl) (zmem (i := 1393) (by decide +kernel) rfl) (zmem (i := 126) (by decide +kernel) rfl)
theorem cl_draft : m_L_draft.1.cls ≠ "java/lang/invoke/MethodHandle" ∧ m_L_draft.1.cls ≠ "java/lang/invoke/VarHandle" ∧ (parseMethodDescriptor m_L_draft.1.desc).map (fun d => d.parameters.length) = some 3 := by decide +kernel
theorem ls_mouse : ∀ x ∈ [Cond.methodLink m_L_law.1.cls 94 m_L_mouse.1, Cond.static m_L_mouse.1, Cond.initialized m_L_mouse.1.cls], x ∈ zGW := zall3 (zmem (i := 1401) (by decide +kernel) rfl) (zmem (i := 1402) (by decide +kernel) rfl) (zmem (i := 126) (by decide +kernel) rfl)
theorem cl_mouse : m_L_mouse.1.cls ≠ "java/lang/invoke/MethodHandle" ∧ m_L_mouse.1.cls ≠ "java/lang/invoke/VarHandle" ∧ (parseMethodDescriptor m_L_mouse.1.desc).map (fun d => d.parameters.length) = some 5 := by decide +kernel
theorem ls_size : ∀ x ∈ [Cond.methodLink m_L_law.1.cls 107 m_L_size.1, Cond.static m_L_size.1, Cond.initialized m_L_size.1.cls], x ∈ zGW := zall3 (zmem (i := 1427) (by decide +kernel) rfl) (zmem (i := 1428) (by decide +kernel) rfl) (zmem (i := 126) (by decide +kernel) rfl)
theorem cl_size : m_L_size.1.cls ≠ "java/lang/invoke/MethodHandle" ∧ m_L_size.1.cls ≠ "java/lang/invoke/VarHandle" ∧ (parseMethodDescriptor m_L_size.1.desc).map (fun d => d.parameters.length) = some 4 := by decide +kernel
theorem ls_cell : ∀ x ∈ [Cond.methodLink m_L_law.1.cls 114 m_L_cell.1, Cond.static m_L_cell.1, Cond.initialized m_L_cell.1.cls], x ∈ zGW := zall3 (zmem (i := 1528) (by decide +kernel) rfl) (zmem (i := 1529) (by decide +kernel) rfl) (zmem (i := 126) (by decide +kernel) rfl)
theorem cl_cell : m_L_cell.1.cls ≠ "java/lang/invoke/MethodHandle" ∧ m_L_cell.1.cls ≠ "java/lang/invoke/VarHandle" ∧ (parseMethodDescriptor m_L_cell.1.desc).map (fun d => d.parameters.length) = some 4 := by decide +kernel
theorem ls_cellAnew : ∀ x ∈ [Cond.methodLink m_L_law.1.cls 117 m_L_cellAnew.1, Cond.static m_L_cellAnew.1, Cond.initialized m_L_cellAnew.1.cls], x ∈ zGW := zall3 (zmem (i := 1536) (by decide +kernel) rfl) (zmem (i := 1537) (by decide +kernel) rfl) (zmem (i := 126) (by decide +kernel) rfl)
theorem cl_cellAnew : m_L_cellAnew.1.cls ≠ "java/lang/invoke/MethodHandle" ∧ m_L_cellAnew.1.cls ≠ "java/lang/invoke/VarHandle" ∧ (parseMethodDescriptor m_L_cellAnew.1.desc).map (fun d => d.parameters.length) = some 4 := by decide +kernel
theorem ls_past : ∀ x ∈ [Cond.methodLink m_L_law.1.cls 120 m_L_past.1, Cond.static m_L_past.1, Cond.initialized m_L_past.1.cls], x ∈ zGW := zall3 (zmem (i := 1550) (by decide +kernel) rfl) (zmem (i := 1551) (by decide +kernel) rfl) (zmem (i := 126) (by decide +kernel) rfl)
theorem cl_past : m_L_past.1.cls ≠ "java/lang/invoke/MethodHandle" ∧ m_L_past.1.cls ≠ "java/lang/invoke/VarHandle" ∧ (parseMethodDescriptor m_L_past.1.desc).map (fun d => d.parameters.length) = some 4 := by decide +kernel
theorem ls_goesOn : ∀ x ∈ [Cond.methodLink m_L_law.1.cls 123 m_L_goesOn.1, Cond.static m_L_goesOn.1, Cond.initialized m_L_goesOn.1.cls], x ∈ zGW := zall3 (zmem (i := 1558) (by decide +kernel) rfl) (zmem (i := 1559) (by decide +kernel) rfl) (zmem (i := 126) (by decide +kernel) rfl)
theorem cl_goesOn : m_L_goesOn.1.cls ≠ "java/lang/invoke/MethodHandle" ∧ m_L_goesOn.1.cls ≠ "java/lang/invoke/VarHandle" ∧ (parseMethodDescriptor m_L_goesOn.1.desc).map (fun d => d.parameters.length) = some 3 := by decide +kernel
theorem ls_title : ∀ x ∈ [Cond.methodLink m_L_law.1.cls 126 m_L_title.1, Cond.static m_L_title.1, Cond.initialized m_L_title.1.cls], x ∈ zGW := zall3 (zmem (i := 1568) (by decide +kernel) rfl) (zmem (i := 1569) (by decide +kernel) rfl) (zmem (i := 126) (by decide +kernel) rfl)
theorem cl_title : m_L_title.1.cls ≠ "java/lang/invoke/MethodHandle" ∧ m_L_title.1.cls ≠ "java/lang/invoke/VarHandle" ∧ (parseMethodDescriptor m_L_title.1.desc).map (fun d => d.parameters.length) = some 3 := by decide +kernel
theorem ls_least : ∀ x ∈ [Cond.methodLink m_L_law.1.cls 129 m_L_least.1, Cond.static m_L_least.1, Cond.initialized m_L_least.1.cls], x ∈ zGW := zall3 (zmem (i := 1577) (by decide +kernel) rfl) (zmem (i := 1578) (by decide +kernel) rfl) (zmem (i := 126) (by decide +kernel) rfl)
theorem cl_least : m_L_least.1.cls ≠ "java/lang/invoke/MethodHandle" ∧ m_L_least.1.cls ≠ "java/lang/invoke/VarHandle" ∧ (parseMethodDescriptor m_L_least.1.desc).map (fun d => d.parameters.length) = some 3 := by decide +kernel
theorem ls_told : ∀ x ∈ [Cond.methodLink m_L_law.1.cls 132 m_L_told.1, Cond.static m_L_told.1, Cond.initialized m_L_told.1.cls], x ∈ zGW := zall3 (zmem (i := 1584) (by decide +kernel) rfl) (zmem (i := 1585) (by decide +kernel) rfl) (zmem (i := 126) (by decide +kernel) rfl)
theorem cl_told : m_L_told.1.cls ≠ "java/lang/invoke/MethodHandle" ∧ m_L_told.1.cls ≠ "java/lang/invoke/VarHandle" ∧ (parseMethodDescriptor m_L_told.1.desc).map (fun d => d.parameters.length) = some 3 := by decide +kernel
theorem q_X12_write : Cond.instanceMethod m_X12_write.1 ∈ zGW ∧ Cond.selects RX12 m_X12_write.1 m_X12_write.1 ∈ zGW ∧ Cond.initialized RX12 ∈ zGW ∧ Cond.code m_X12_write.1 m_X12_write.2.1 m_X12_write.2.2.1 m_X12_write.2.2.2 ∈ zGW := ⟨zmem (i := 1791) (by decide +kernel) rfl, zmem (i := 1792) (by decide +kernel) rfl, zmem (i := 140) (by decide +kernel) rfl, zmem (i := 1793) (by decide +kernel) rfl⟩
theorem ml_L_71 : zLV RL 71 12 1 m_X12_write := ⟨RX12, TX12, 59, rfl, zall4 (zmem (i := 1790) (by decide +kernel) rfl) q_X12_write.1 q_X12_write.2.1 q_X12_write.2.2.1, q_X12_write.2.2.2, by decide +kernel⟩
theorem q_X12_thrown : Cond.instanceMethod m_X12_thrown.1 ∈ zGW ∧ Cond.selects RX12 m_X12_thrown.1 m_X12_thrown.1 ∈ zGW ∧ Cond.initialized RX12 ∈ zGW ∧ Cond.code m_X12_thrown.1 m_X12_thrown.2.1 m_X12_thrown.2.2.1 m_X12_thrown.2.2.2 ∈ zGW := ⟨zmem (i := 1787) (by decide +kernel) rfl, zmem (i := 1788) (by decide +kernel) rfl, zmem (i := 140) (by decide +kernel) rfl, zmem (i := 1789) (by decide +kernel) rfl⟩
theorem ml_L_72 : zLV RL 72 12 0 m_X12_thrown := ⟨RX12, TX12, 59, rfl, zall4 (zmem (i := 1786) (by decide +kernel) rfl) q_X12_thrown.1 q_X12_thrown.2.1 q_X12_thrown.2.2.1, q_X12_thrown.2.2.2, by decide +kernel⟩
theorem q_X12_code : Cond.instanceMethod m_X12_code.1 ∈ zGW ∧ Cond.selects RX12 m_X12_code.1 m_X12_code.1 ∈ zGW ∧ Cond.initialized RX12 ∈ zGW ∧ Cond.code m_X12_code.1 m_X12_code.2.1 m_X12_code.2.2.1 m_X12_code.2.2.2 ∈ zGW := ⟨zmem (i := 1958) (by decide +kernel) rfl, zmem (i := 1959) (by decide +kernel) rfl, zmem (i := 140) (by decide +kernel) rfl, zmem (i := 1960) (by decide +kernel) rfl⟩
theorem ml_L_79 : zLV RL 79 12 4 m_X12_code := ⟨RX12, TX12, 59, rfl, zall4 (zmem (i := 1957) (by decide +kernel) rfl) q_X12_code.1 q_X12_code.2.1 q_X12_code.2.2.1, q_X12_code.2.2.2, by decide +kernel⟩
theorem q_X12_type : Cond.instanceMethod m_X12_type.1 ∈ zGW ∧ Cond.selects RX12 m_X12_type.1 m_X12_type.1 ∈ zGW ∧ Cond.initialized RX12 ∈ zGW ∧ Cond.code m_X12_type.1 m_X12_type.2.1 m_X12_type.2.2.1 m_X12_type.2.2.2 ∈ zGW := ⟨zmem (i := 1969) (by decide +kernel) rfl, zmem (i := 1970) (by decide +kernel) rfl, zmem (i := 140) (by decide +kernel) rfl, zmem (i := 1971) (by decide +kernel) rfl⟩
theorem ml_L_82 : zLV RL 82 12 1 m_X12_type := ⟨RX12, TX12, 59, rfl, zall4 (zmem (i := 1968) (by decide +kernel) rfl) q_X12_type.1 q_X12_type.2.1 q_X12_type.2.2.1, q_X12_type.2.2.2, by decide +kernel⟩
theorem q_X12_key : Cond.instanceMethod m_X12_key.1 ∈ zGW ∧ Cond.selects RX12 m_X12_key.1 m_X12_key.1 ∈ zGW ∧ Cond.initialized RX12 ∈ zGW ∧ Cond.code m_X12_key.1 m_X12_key.2.1 m_X12_key.2.2.1 m_X12_key.2.2.2 ∈ zGW := ⟨zmem (i := 2001) (by decide +kernel) rfl, zmem (i := 2002) (by decide +kernel) rfl, zmem (i := 140) (by decide +kernel) rfl, zmem (i := 2003) (by decide +kernel) rfl⟩
theorem ml_L_86 : zLV RL 86 12 2 m_X12_key := ⟨RX12, TX12, 59, rfl, zall4 (zmem (i := 2000) (by decide +kernel) rfl) q_X12_key.1 q_X12_key.2.1 q_X12_key.2.2.1, q_X12_key.2.2.2, by decide +kernel⟩
theorem q_X12_draft : Cond.instanceMethod m_X12_draft.1 ∈ zGW ∧ Cond.selects RX12 m_X12_draft.1 m_X12_draft.1 ∈ zGW ∧ Cond.initialized RX12 ∈ zGW ∧ Cond.code m_X12_draft.1 m_X12_draft.2.1 m_X12_draft.2.2.1 m_X12_draft.2.2.2 ∈ zGW := ⟨zmem (i := 2008) (by decide +kernel) rfl, zmem (i := 2009) (by decide +kernel) rfl, zmem (i := 140) (by decide +kernel) rfl, zmem (i := 2010) (by decide +kernel) rfl⟩
theorem ml_L_89 : zLV RL 89 12 1 m_X12_draft := ⟨RX12, TX12, 59, rfl, zall4 (zmem (i := 2007) (by decide +kernel) rfl) q_X12_draft.1 q_X12_draft.2.1 q_X12_draft.2.2.1, q_X12_draft.2.2.2, by decide +kernel⟩
theorem q_X11_paste : Cond.instanceMethod m_X11_paste.1 ∈ zGW ∧ Cond.selects RX11 m_X11_paste.1 m_X11_paste.1 ∈ zGW ∧ Cond.initialized RX11 ∈ zGW ∧ Cond.code m_X11_paste.1 m_X11_paste.2.1 m_X11_paste.2.2.1 m_X11_paste.2.2.2 ∈ zGW := ⟨zmem (i := 537) (by decide +kernel) rfl, zmem (i := 538) (by decide +kernel) rfl, zmem (i := 127) (by decide +kernel) rfl, zmem (i := 539) (by decide +kernel) rfl⟩
theorem ml_L_90 : zLV RL 90 11 0 m_X11_paste := ⟨RX11, TX11, 7, rfl, zall4 (zmem (i := 536) (by decide +kernel) rfl) q_X11_paste.1 q_X11_paste.2.1 q_X11_paste.2.2.1, q_X11_paste.2.2.2, by decide +kernel⟩
theorem q_X12_paste : Cond.instanceMethod m_X12_paste.1 ∈ zGW ∧ Cond.selects RX12 m_X12_paste.1 m_X12_paste.1 ∈ zGW ∧ Cond.initialized RX12 ∈ zGW ∧ Cond.code m_X12_paste.1 m_X12_paste.2.1 m_X12_paste.2.2.1 m_X12_paste.2.2.2 ∈ zGW := ⟨zmem (i := 2012) (by decide +kernel) rfl, zmem (i := 2013) (by decide +kernel) rfl, zmem (i := 140) (by decide +kernel) rfl, zmem (i := 2014) (by decide +kernel) rfl⟩
theorem ml_L_93 : zLV RL 93 12 0 m_X12_paste := ⟨RX12, TX12, 59, rfl, zall4 (zmem (i := 2011) (by decide +kernel) rfl) q_X12_paste.1 q_X12_paste.2.1 q_X12_paste.2.2.1, q_X12_paste.2.2.2, by decide +kernel⟩
theorem q_X12_mouse : Cond.instanceMethod m_X12_mouse.1 ∈ zGW ∧ Cond.selects RX12 m_X12_mouse.1 m_X12_mouse.1 ∈ zGW ∧ Cond.initialized RX12 ∈ zGW ∧ Cond.code m_X12_mouse.1 m_X12_mouse.2.1 m_X12_mouse.2.2.1 m_X12_mouse.2.2.2 ∈ zGW := ⟨zmem (i := 2020) (by decide +kernel) rfl, zmem (i := 2021) (by decide +kernel) rfl, zmem (i := 140) (by decide +kernel) rfl, zmem (i := 2022) (by decide +kernel) rfl⟩
theorem ml_L_97 : zLV RL 97 12 3 m_X12_mouse := ⟨RX12, TX12, 59, rfl, zall4 (zmem (i := 2019) (by decide +kernel) rfl) q_X12_mouse.1 q_X12_mouse.2.1 q_X12_mouse.2.2.1, q_X12_mouse.2.2.2, by decide +kernel⟩
theorem q_X11_rule : Cond.instanceMethod m_X11_rule.1 ∈ zGW ∧ Cond.selects RX11 m_X11_rule.1 m_X11_rule.1 ∈ zGW ∧ Cond.initialized RX11 ∈ zGW ∧ Cond.code m_X11_rule.1 m_X11_rule.2.1 m_X11_rule.2.2.1 m_X11_rule.2.2.2 ∈ zGW := ⟨zmem (i := 1245) (by decide +kernel) rfl, zmem (i := 1246) (by decide +kernel) rfl, zmem (i := 127) (by decide +kernel) rfl, zmem (i := 1247) (by decide +kernel) rfl⟩
theorem ml_L_98 : zLV RL 98 11 2 m_X11_rule := ⟨RX11, TX11, 7, rfl, zall4 (zmem (i := 1244) (by decide +kernel) rfl) q_X11_rule.1 q_X11_rule.2.1 q_X11_rule.2.2.1, q_X11_rule.2.2.2, by decide +kernel⟩
theorem q_X12_rule : Cond.instanceMethod m_X12_rule.1 ∈ zGW ∧ Cond.selects RX12 m_X12_rule.1 m_X12_rule.1 ∈ zGW ∧ Cond.initialized RX12 ∈ zGW ∧ Cond.code m_X12_rule.1 m_X12_rule.2.1 m_X12_rule.2.2.1 m_X12_rule.2.2.2 ∈ zGW := ⟨zmem (i := 2032) (by decide +kernel) rfl, zmem (i := 2033) (by decide +kernel) rfl, zmem (i := 140) (by decide +kernel) rfl, zmem (i := 2034) (by decide +kernel) rfl⟩
theorem ml_L_102 : zLV RL 102 12 2 m_X12_rule := ⟨RX12, TX12, 59, rfl, zall4 (zmem (i := 2031) (by decide +kernel) rfl) q_X12_rule.1 q_X12_rule.2.1 q_X12_rule.2.2.1, q_X12_rule.2.2.2, by decide +kernel⟩
theorem q_X11_take : Cond.instanceMethod m_X11_take.1 ∈ zGW ∧ Cond.selects RX11 m_X11_take.1 m_X11_take.1 ∈ zGW ∧ Cond.initialized RX11 ∈ zGW ∧ Cond.code m_X11_take.1 m_X11_take.2.1 m_X11_take.2.2.1 m_X11_take.2.2.2 ∈ zGW := ⟨zmem (i := 1253) (by decide +kernel) rfl, zmem (i := 1254) (by decide +kernel) rfl, zmem (i := 127) (by decide +kernel) rfl, zmem (i := 1255) (by decide +kernel) rfl⟩
theorem ml_L_103 : zLV RL 103 11 0 m_X11_take := ⟨RX11, TX11, 7, rfl, zall4 (zmem (i := 1252) (by decide +kernel) rfl) q_X11_take.1 q_X11_take.2.1 q_X11_take.2.2.1, q_X11_take.2.2.2, by decide +kernel⟩
theorem q_X12_take : Cond.instanceMethod m_X12_take.1 ∈ zGW ∧ Cond.selects RX12 m_X12_take.1 m_X12_take.1 ∈ zGW ∧ Cond.initialized RX12 ∈ zGW ∧ Cond.code m_X12_take.1 m_X12_take.2.1 m_X12_take.2.2.1 m_X12_take.2.2.2 ∈ zGW := ⟨zmem (i := 2036) (by decide +kernel) rfl, zmem (i := 2037) (by decide +kernel) rfl, zmem (i := 140) (by decide +kernel) rfl, zmem (i := 2038) (by decide +kernel) rfl⟩
theorem ml_L_106 : zLV RL 106 12 0 m_X12_take := ⟨RX12, TX12, 59, rfl, zall4 (zmem (i := 2035) (by decide +kernel) rfl) q_X12_take.1 q_X12_take.2.1 q_X12_take.2.2.1, q_X12_take.2.2.2, by decide +kernel⟩
theorem q_X12_size : Cond.instanceMethod m_X12_size.1 ∈ zGW ∧ Cond.selects RX12 m_X12_size.1 m_X12_size.1 ∈ zGW ∧ Cond.initialized RX12 ∈ zGW ∧ Cond.code m_X12_size.1 m_X12_size.2.1 m_X12_size.2.2.1 m_X12_size.2.2.2 ∈ zGW := ⟨zmem (i := 2040) (by decide +kernel) rfl, zmem (i := 2041) (by decide +kernel) rfl, zmem (i := 140) (by decide +kernel) rfl, zmem (i := 2042) (by decide +kernel) rfl⟩
theorem ml_L_109 : zLV RL 109 12 2 m_X12_size := ⟨RX12, TX12, 59, rfl, zall4 (zmem (i := 2039) (by decide +kernel) rfl) q_X12_size.1 q_X12_size.2.1 q_X12_size.2.2.1, q_X12_size.2.2.2, by decide +kernel⟩
theorem q_X11_draw : Cond.instanceMethod m_X11_draw.1 ∈ zGW ∧ Cond.selects RX11 m_X11_draw.1 m_X11_draw.1 ∈ zGW ∧ Cond.initialized RX11 ∈ zGW ∧ Cond.code m_X11_draw.1 m_X11_draw.2.1 m_X11_draw.2.2.1 m_X11_draw.2.2.2 ∈ zGW := ⟨zmem (i := 1257) (by decide +kernel) rfl, zmem (i := 1258) (by decide +kernel) rfl, zmem (i := 127) (by decide +kernel) rfl, zmem (i := 1259) (by decide +kernel) rfl⟩
theorem ml_L_110 : zLV RL 110 11 0 m_X11_draw := ⟨RX11, TX11, 7, rfl, zall4 (zmem (i := 1256) (by decide +kernel) rfl) q_X11_draw.1 q_X11_draw.2.1 q_X11_draw.2.2.1, q_X11_draw.2.2.2, by decide +kernel⟩
theorem q_X12_draw : Cond.instanceMethod m_X12_draw.1 ∈ zGW ∧ Cond.selects RX12 m_X12_draw.1 m_X12_draw.1 ∈ zGW ∧ Cond.initialized RX12 ∈ zGW ∧ Cond.code m_X12_draw.1 m_X12_draw.2.1 m_X12_draw.2.2.1 m_X12_draw.2.2.2 ∈ zGW := ⟨zmem (i := 2071) (by decide +kernel) rfl, zmem (i := 2072) (by decide +kernel) rfl, zmem (i := 140) (by decide +kernel) rfl, zmem (i := 2073) (by decide +kernel) rfl⟩
theorem ml_L_113 : zLV RL 113 12 0 m_X12_draw := ⟨RX12, TX12, 59, rfl, zall4 (zmem (i := 2070) (by decide +kernel) rfl) q_X12_draw.1 q_X12_draw.2.1 q_X12_draw.2.2.1, q_X12_draw.2.2.2, by decide +kernel⟩
theorem ml_L_116 : zLV RL 116 12 2 m_X12_cell := ⟨RX12, TX12, 59, rfl, zall4 (zmem (i := 2087) (by decide +kernel) rfl) q_X12_cell.1 q_X12_cell.2.1 q_X12_cell.2.2.1, q_X12_cell.2.2.2, by decide +kernel⟩
theorem q_X12_cellAnew : Cond.instanceMethod m_X12_cellAnew.1 ∈ zGW ∧ Cond.selects RX12 m_X12_cellAnew.1 m_X12_cellAnew.1 ∈ zGW ∧ Cond.initialized RX12 ∈ zGW ∧ Cond.code m_X12_cellAnew.1 m_X12_cellAnew.2.1 m_X12_cellAnew.2.2.1 m_X12_cellAnew.2.2.2 ∈ zGW := ⟨zmem (i := 2092) (by decide +kernel) rfl, zmem (i := 2093) (by decide +kernel) rfl, zmem (i := 140) (by decide +kernel) rfl, zmem (i := 2094) (by decide +kernel) rfl⟩
theorem ml_L_119 : zLV RL 119 12 2 m_X12_cellAnew := ⟨RX12, TX12, 59, rfl, zall4 (zmem (i := 2091) (by decide +kernel) rfl) q_X12_cellAnew.1 q_X12_cellAnew.2.1 q_X12_cellAnew.2.2.1, q_X12_cellAnew.2.2.2, by decide +kernel⟩
theorem q_X12_past : Cond.instanceMethod m_X12_past.1 ∈ zGW ∧ Cond.selects RX12 m_X12_past.1 m_X12_past.1 ∈ zGW ∧ Cond.initialized RX12 ∈ zGW ∧ Cond.code m_X12_past.1 m_X12_past.2.1 m_X12_past.2.2.1 m_X12_past.2.2.2 ∈ zGW := ⟨zmem (i := 2097) (by decide +kernel) rfl, zmem (i := 2098) (by decide +kernel) rfl, zmem (i := 140) (by decide +kernel) rfl, zmem (i := 2099) (by decide +kernel) rfl⟩
theorem ml_L_122 : zLV RL 122 12 2 m_X12_past := ⟨RX12, TX12, 59, rfl, zall4 (zmem (i := 2096) (by decide +kernel) rfl) q_X12_past.1 q_X12_past.2.1 q_X12_past.2.2.1, q_X12_past.2.2.2, by decide +kernel⟩
theorem q_X12_goesOn : Cond.instanceMethod m_X12_goesOn.1 ∈ zGW ∧ Cond.selects RX12 m_X12_goesOn.1 m_X12_goesOn.1 ∈ zGW ∧ Cond.initialized RX12 ∈ zGW ∧ Cond.code m_X12_goesOn.1 m_X12_goesOn.2.1 m_X12_goesOn.2.2.1 m_X12_goesOn.2.2.2 ∈ zGW := ⟨zmem (i := 2101) (by decide +kernel) rfl, zmem (i := 2102) (by decide +kernel) rfl, zmem (i := 140) (by decide +kernel) rfl, zmem (i := 2103) (by decide +kernel) rfl⟩
theorem ml_L_125 : zLV RL 125 12 1 m_X12_goesOn := ⟨RX12, TX12, 59, rfl, zall4 (zmem (i := 2100) (by decide +kernel) rfl) q_X12_goesOn.1 q_X12_goesOn.2.1 q_X12_goesOn.2.2.1, q_X12_goesOn.2.2.2, by decide +kernel⟩
theorem q_X12_title : Cond.instanceMethod m_X12_title.1 ∈ zGW ∧ Cond.selects RX12 m_X12_title.1 m_X12_title.1 ∈ zGW ∧ Cond.initialized RX12 ∈ zGW ∧ Cond.code m_X12_title.1 m_X12_title.2.1 m_X12_title.2.2.1 m_X12_title.2.2.2 ∈ zGW := ⟨zmem (i := 2105) (by decide +kernel) rfl, zmem (i := 2106) (by decide +kernel) rfl, zmem (i := 140) (by decide +kernel) rfl, zmem (i := 2107) (by decide +kernel) rfl⟩
theorem ml_L_128 : zLV RL 128 12 1 m_X12_title := ⟨RX12, TX12, 59, rfl, zall4 (zmem (i := 2104) (by decide +kernel) rfl) q_X12_title.1 q_X12_title.2.1 q_X12_title.2.2.1, q_X12_title.2.2.2, by decide +kernel⟩
theorem q_X12_least : Cond.instanceMethod m_X12_least.1 ∈ zGW ∧ Cond.selects RX12 m_X12_least.1 m_X12_least.1 ∈ zGW ∧ Cond.initialized RX12 ∈ zGW ∧ Cond.code m_X12_least.1 m_X12_least.2.1 m_X12_least.2.2.1 m_X12_least.2.2.2 ∈ zGW := ⟨zmem (i := 2109) (by decide +kernel) rfl, zmem (i := 2110) (by decide +kernel) rfl, zmem (i := 140) (by decide +kernel) rfl, zmem (i := 2111) (by decide +kernel) rfl⟩
theorem ml_L_131 : zLV RL 131 12 1 m_X12_least := ⟨RX12, TX12, 59, rfl, zall4 (zmem (i := 2108) (by decide +kernel) rfl) q_X12_least.1 q_X12_least.2.1 q_X12_least.2.2.1, q_X12_least.2.2.2, by decide +kernel⟩
theorem q_X12_told : Cond.instanceMethod m_X12_told.1 ∈ zGW ∧ Cond.selects RX12 m_X12_told.1 m_X12_told.1 ∈ zGW ∧ Cond.initialized RX12 ∈ zGW ∧ Cond.code m_X12_told.1 m_X12_told.2.1 m_X12_told.2.2.1 m_X12_told.2.2.2 ∈ zGW := ⟨zmem (i := 2113) (by decide +kernel) rfl, zmem (i := 2114) (by decide +kernel) rfl, zmem (i := 140) (by decide +kernel) rfl, zmem (i := 2115) (by decide +kernel) rfl⟩
theorem ml_L_134 : zLV RL 134 12 1 m_X12_told := ⟨RX12, TX12, 59, rfl, zall4 (zmem (i := 2112) (by decide +kernel) rfl) q_X12_told.1 q_X12_told.2.1 q_X12_told.2.2.1, q_X12_told.2.2.2, by decide +kernel⟩
/-! ===== the law's world ===== -/
def zLwld (C r : zSt) (g : Int → Int) : List zAC := ziT C 0 TCo ++ ((ziT r 0 TRf).map (zrC (zsh 76)) ++ [.inr (2, 1, g)])
theorem zup_same {f : Int → Int} {x v : Int} : zup f x v x = v := if_pos rfl
theorem zFr_Cl {C C' r : zSt} {g : Int → Int} : zFrm (zLwld C r g) (ziT C 0 TCo) (ziT C' 0 TCo) (zLwld C' r g) zid 42 :=
  zFr_pre (by rw [ziT_len, ziT_len]) (by rw [ziT_len]; decide) (fun c hc => by
    rcases List.mem_append.mp hc with h | h
    · obtain ⟨c0, -, rfl⟩ := List.mem_map.mp h
      exact zfC_sh (by decide) c0
    · rw [List.mem_singleton] at h; rw [h]; rfl)
theorem zFr_Rl {C r r' : zSt} {g : Int → Int} : zFrm (zLwld C r g) (ziT r 0 TRf) (ziT r' 0 TRf) (zLwld C r' g) (zsh 76) 500 :=
  zFr_mid (by rw [ziT_len]; rfl) (by rw [ziT_len, ziT_len]) (by rw [ziT_len]; decide) (fun c hc => zfC_lt (n := 76) (by decide) (zlC_ziT TCo_lt c hc)) (fun c hc => by rw [List.mem_singleton] at hc; rw [hc]; rfl)
theorem zFr_Ll {C C' r : zSt} {g g' : Int → Int} : zFrm (zLwld C r g) (zCow C g) (zCow C' g') (zLwld C' r g') zf91 42 :=
  zFr_ends (by rw [ziT_len]; rfl) (by rw [ziT_len]; rfl) (by rw [List.length_map, ziT_len]; rfl) (zlC_ziT TCo_lt) (zlC_ziT TCo_lt) rfl rfl (fun c hc => by
    obtain ⟨c0, -, rfl⟩ := List.mem_map.mp hc
    exact zfC_sh (by decide) c0)
theorem zLw_0 {C r : zSt} {g : Int → Int} : (zLwld C r g)[zid 0]? = some (.inl (11, ziF C 0 0 [some 1, some 3, some 5, some 14, some 41, some 43, some 70])) := rfl
theorem zLw_76 {C r : zSt} {g : Int → Int} : (zLwld C r g)[zsh 76 0]? = some (.inl (12, (ziF r 0 0 [none, none, none, some 1, some 2, some 3, some 4, none, none, none, none, none, none, none, none, none, none, none, none, none, none, none, none, none, none, none, none, none, none, none, some 5, none, none, none, none, some 6, none, some 7, none, none, none, none, none, some 8, none, some 9, none, some 10, none, none, none, some 11, none, none, some 12, some 13, some 14, some 15, none]).map (zrn (zsh 76)))) :=
  (zFr_Rl (C := C) (r := r) (r' := r) (g := g)).1 0 (.inl (12, ziF r 0 0 [none, none, none, some 1, some 2, some 3, some 4, none, none, none, none, none, none, none, none, none, none, none, none, none, none, none, none, none, none, none, none, none, none, none, some 5, none, none, none, none, some 6, none, some 7, none, none, none, none, none, some 8, none, some 9, none, some 10, none, none, none, some 11, none, none, some 12, some 13, some 14, some 15, none])) (by rw [ziT_get]; rfl)
theorem zLw_91 {C r : zSt} {g : Int → Int} : (zLwld C r g)[91]? = some (.inr (2, 1, g)) := by
  unfold zLwld
  rw [List.getElem?_append_right (by rw [ziT_len]; decide), ziT_len, List.getElem?_append_right (by rw [List.length_map, ziT_len]; decide), List.length_map, ziT_len]
  rfl
/-! the script; the law's facts -/
def zxs (xs : Nat → Int32) (x : Int) : Int := (xs x.toNat).toInt
def zLaw (b L : Nat) (xs : Nat → Int32) : zFc := fun l A s => zLw l A s ∧ va_X b L xs s s.heap ∧ b < s.heap.size ∧ ∀ q, A q → s.heap.size ≤ q
theorem zMv_law {b L : Nat} {xs : Nat → Int32} : zMv (zLaw b L xs) zLw := fun _ _ _ _ _ _ _ h hS hW hU hA => zLw_go h.1 hS hW hU hA
def zFA (b : Nat) : zF := fun _ _ _ ad0 below args s t => ad0 999 = b → lw_Z below args s t
abbrev RLw : Room := zR 2000 601024 7293034
abbrev FLw (b L : Nat) (xs : Nat → Int32) : zF := zFE (zLaw b L xs) (zFA b)
abbrev PLw : Nat → Prop := fun k => k = 999
abbrev zLL (i : Int) (k b : Option zAV) : List (Option zAV) := [some (.inr (.inl (some 999))), some (.inr (.inl (some 0))), some (.inr (.inl (some 76))), some (.inr (.inl (some 91))), some (.inl i), k, b]
theorem zofN (n : Nat) : Int32.ofNat n = Int32.ofInt (n : Int) := rfl
section ZLWR
variable {M : zM} {R : Room} {P : Nat → Prop} {pc uc us b L : Nat} {xs : Nat → Int32} {LL : List (Option zAV)} {st : List zAV} {w : List zAC}
theorem zr_slen (hdg : decode M.2.1 pc = .ok (.arraylength, 1)) (hL : L ≤ 2560) (hP9 : P 999) (kk : zB M R (FLw b L xs) P (pc + 1) LL (.inl (L : Int) :: st) w uc us) : zB M R (FLw b L xs) P pc LL (.inr (.inl (some 999)) :: st) w uc us := by
  refine zr_with fun G p l e s m args below meth c A ad0 ad H locs ls hf hh => ?_
  by_cases hb9 : ad0 999 = b
  · have had : ad 999 = b := (hh.2.1 999 hP9).trans hb9
    obtain ⟨h1, h2, h3, h4⟩ := hf
    have k1 := kk G p l e s m args below meth c A ad0 ad H locs ls ⟨hh.1, hh.2.1, hh.2.2.1, hh.2.2.2.1.tl.cons (v := .inl (L : Int)) (show zin (L : Int) from ⟨by omega, by omega⟩), hh.2.2.2.2⟩
    obtain ⟨⟨hx, hb, -, -, -, hown, hts, -, hK, hA⟩, -, -, -, -, -, hP, hD, hS⟩ := hh
    have e : st.map (zeV ad) = st.map (zeV ad) := rfl
    show W p l e R s m args below meth c H locs uc us _ (F0 m pc ls (.ref (ad 999) :: st.map (zeV ad)))
    rw [had]
    refine va_slen hx hb h2 h3 (fun q => absurd (h4 b q) (by omega)) hS hdg ?_
    rw [zofN]
    exact k1
  · exact zW_none fun t _ q => absurd q hb9
theorem zr_sld {x : Int} (hdg : decode M.2.1 pc = .ok (.iaload, 1)) (h0 : 0 ≤ x ∧ x < L) (hP9 : P 999) (kk : zB M R (FLw b L xs) P (pc + 1) LL (.inl (zxs xs x) :: st) w uc us) : zB M R (FLw b L xs) P pc LL (.inl x :: .inr (.inl (some 999)) :: st) w uc us := by
  refine zr_with fun G p l e s m args below meth c A ad0 ad H locs ls hf hh => ?_
  by_cases hb9 : ad0 999 = b
  · have had : ad 999 = b := (hh.2.1 999 hP9).trans hb9
    have hx1 : zin x := hh.2.2.2.1.hd
    obtain ⟨h1, h2, h3, h4⟩ := hf
    have k1 := kk G p l e s m args below meth c A ad0 ad H locs ls ⟨hh.1, hh.2.1, hh.2.2.1, hh.2.2.2.1.tl.tl.cons (v := .inl (zxs xs x)) (zin_toInt _), hh.2.2.2.2⟩
    obtain ⟨⟨hx, hb, -, -, -, hown, hts, -, hK, hA⟩, -, -, -, -, -, hP, hD, hS⟩ := hh
    show W p l e R s m args below meth c H locs uc us _ (F0 m pc ls (.int (Int32.ofInt x) :: .ref (ad 999) :: st.map (zeV ad)))
    rw [had]
    refine va_sld hx hb h2 h3 (fun q => absurd (h4 b q) (by omega)) hS (zvp_in hx1 h0.1 h0.2) hdg ?_
    rw [zclamp hx1]
    have e : Value.int (xs x.toNat) = zeV ad (.inl (zxs xs x)) := by
      show _ = Value.int (Int32.ofInt (xs x.toNat).toInt)
      rw [Int32.ofInt_toInt]
    rw [e]
    exact k1
  · exact zW_none fun t _ q => absurd q hb9
theorem zlw_ret {p : Program} {l : Launch} {e : Env} {s : State} {m : MethodId} {args : Array Value} {below : List Frame} {meth : Method} {c : Code} (hx : p.tables.exec = Jvm.exec) (hb : c.code = code) (hr : meth.sig.returnType = ret) (hlocks : meth.locks = false) {H : Heap} {ls : Array Slot} (hdg : decode code pc = .ok (.ireturn, 1)) : W p l e R s m args below meth c H [] 601024 7293034 (lw_Z below args s) (F0 m pc ls [.int 1]) := by
  intro T hT X
  obtain ⟨fs, hret, hrun, hended, hW, hframe⟩ := X.leave (v := some (.int 1)) (hlocks := hlocks) (fun h => by rw [hr] at h; cases h)
  have hmeth' : T.vm.method? m = some meth := X.method'
  refine ⟨T.setFrames fs, ?_, .returned (some (.int 1)), hrun, hended, rfl, ⟨_, rfl⟩, hW, hframe⟩
  jvm_step X.here [X.here.top, hx, hb, hdg, hmeth', hr, ret, narrow_b1]
  (try refine ⟨rfl, ?_⟩); (try refine ⟨rfl, ?_⟩)
  first | (intro acts; rw [hret _ acts rfl rfl rfl]) | rw [hret _ _ rfl rfl rfl]
  exact Steps.refl _
theorem zr_lawret (hdg : decode m_L_law.2.1 pc = .ok (.ireturn, 1)) (huc : uc ≤ 601024) (hus : us ≤ 7293034) : zB m_L_law R (FLw b L xs) P pc LL [.inl 1] w uc us := by
  refine zr_with fun G p l e s m args below meth c A ad0 ad H locs ls hf hh => ?_
  obtain ⟨⟨hx, hb, hml, hr, hlk, hown, hts, -, hK, hA⟩, -, -, -, -, -, hP, hD, hS⟩ := hh
  refine zW_imp (Q := lw_Z below args s) (fun t y _ _ => y) ?_
  refine va_forget (fun q hq => hf.2.2.2 _ (hS.2.2 q hq)) ?_
  refine W.widen huc hus ?_
  exact zlw_ret hx hb hr hlk hdg
end ZLWR
theorem zW_sub {p : Program} {l : Launch} {e : Env} {R R' : Room} {s : State} {m : MethodId} {args : Array Value} {below : List Frame} {meth : Method} {c : Code} {H : Heap} {locs : List Loc} {uc us : Nat} {Q : State → Prop} {g : JFrame} (hf : R'.frames ≤ R.frames) (hl : R'.locals ≤ R.locals) (hc : R'.cells ≤ R.cells) (hs : R'.slots ≤ R.slots) (k : W p l e R' s m args below meth c H locs uc us Q g) : W p l e R s m args below meth c H locs uc us Q g := by
  intro T hT X
  refine k T hT { X with room := ?_ }
  have h := X.room
  simp only [State.hasRoom, Bool.and_eq_true, decide_eq_true_eq] at h ⊢
  obtain ⟨⟨⟨⟨h1, h2, h3, h4, h5, h6⟩, h7⟩, h8⟩, h9⟩ := h
  exact ⟨⟨⟨⟨by omega, by omega, by omega, by omega, by omega, h6⟩, by omega⟩, by omega⟩, h9⟩
