/-! ===== the law's own methods: each makes a call of the class and catches what it throws ===== -/
def zCow (C : zSt) (g : Int → Int) : List zAC := ziT C 0 TCo ++ [.inr (2, 1, g)]
theorem TCo_len : TCo.length = 76 := rfl
theorem TRf_len : TRf.length = 15 := rfl
theorem TCo_lt : TCo.all (zlTb 76) = true := by decide +kernel
theorem TRf_lt : TRf.all (zlTb 15) = true := by decide +kernel
theorem zCow_0 {C : zSt} {g : Int → Int} : (zCow C g)[zid 0]? = some (.inl (11, ziF C 0 0 [some 1, some 3, some 5, some 14, some 41, some 43, some 70])) := rfl
theorem zCow_76 {C : zSt} {g : Int → Int} : (zCow C g)[76]? = some (.inr (2, 1, g)) := by
  unfold zCow
  rw [List.getElem?_append_right (by rw [ziT_len]; exact Nat.le_refl _), ziT_len]
  rfl
theorem zCow_set {C : zSt} {g g' : Int → Int} : (zCow C g).set 76 (.inr (2, 1, g')) = zCow C g' := by
  unfold zCow
  rw [List.set_append_right _ _ (by rw [ziT_len]; exact Nat.le_refl _), ziT_len]
  rfl
theorem zFr_Co {C C' : zSt} {g : Int → Int} : zFrm (zCow C g) (ziT C 0 TCo) (ziT C' 0 TCo) (zCow C' g) zid 42 :=
  zFr_pre (by rw [ziT_len, ziT_len]) (by rw [ziT_len]; decide) (fun c hc => by rw [List.mem_singleton] at hc; rw [hc]; rfl)
theorem lk_L_13 : Cond.classLink RL 13 "java/lang/IllegalArgumentException" ∈ zGW := zmem (i := 1320) (by decide +kernel) rfl
theorem ca_1 : Cond.castable "java/lang/IllegalArgumentException" "java/lang/IllegalArgumentException" ∈ zXW := zmemX (i := 693) (by decide +kernel) rfl
theorem lk_L_15 : Cond.classLink RL 15 "java/lang/IllegalStateException" ∈ zGW := zmem (i := 1321) (by decide +kernel) rfl
theorem ca_2 : Cond.castable "java/lang/IllegalStateException" "java/lang/IllegalStateException" ∈ zXW := zmemX (i := 1339) (by decide +kernel) rfl
theorem lk_L_35 : Cond.classLink RL 35 "java/lang/IndexOutOfBoundsException" ∈ zGW := zmem (i := 1404) (by decide +kernel) rfl
theorem ca_3 : Cond.castable "java/lang/IndexOutOfBoundsException" "java/lang/IndexOutOfBoundsException" ∈ zXW := zmemX (i := 1415) (by decide +kernel) rfl
def hh_write : List (Nat × Nat × Nat × Nat) := [(0, 9, 12, 13), (0, 9, 15, 15)]
abbrev m_L_write : zM := (yL_write, cL_write, 4, (some .int))
theorem cw_write : Cond.codeWith m_L_write.1 m_L_write.2.1 m_L_write.2.2.1 m_L_write.2.2.2 hh_write ∈ zGW := zmem (i := 1319) (by decide +kernel) rfl
def hh_code : List (Nat × Nat × Nat × Nat) := [(0, 14, 17, 13), (0, 14, 21, 15)]
abbrev m_L_code : zM := (yL_code, cL_code, 7, (some .int))
theorem cw_code : Cond.codeWith m_L_code.1 m_L_code.2.1 m_L_code.2.2.1 m_L_code.2.2.2 hh_code ∈ zGW := zmem (i := 1359) (by decide +kernel) rfl
def hh_type : List (Nat × Nat × Nat × Nat) := [(0, 9, 12, 13)]
abbrev m_L_type : zM := (yL_type, cL_type, 4, (some .int))
theorem cw_type : Cond.codeWith m_L_type.1 m_L_type.2.1 m_L_type.2.2.1 m_L_type.2.2.2 hh_type ∈ zGW := zmem (i := 1375) (by decide +kernel) rfl
def hh_key : List (Nat × Nat × Nat × Nat) := [(0, 10, 13, 13)]
abbrev m_L_key : zM := (yL_key, cL_key, 5, (some .int))
theorem cw_key : Cond.codeWith m_L_key.1 m_L_key.2.1 m_L_key.2.2.1 m_L_key.2.2.2 hh_key ∈ zGW := zmem (i := 1382) (by decide +kernel) rfl
def hh_draft : List (Nat × Nat × Nat × Nat) := [(0, 9, 12, 13), (0, 9, 15, 15)]
abbrev m_L_draft : zM := (yL_draft, cL_draft, 4, (some .int))
theorem cw_draft : Cond.codeWith m_L_draft.1 m_L_draft.2.1 m_L_draft.2.2.1 m_L_draft.2.2.2 hh_draft ∈ zGW := zmem (i := 1394) (by decide +kernel) rfl
def hh_mouse : List (Nat × Nat × Nat × Nat) := [(0, 12, 15, 35), (0, 12, 19, 13)]
abbrev m_L_mouse : zM := (yL_mouse, cL_mouse, 6, (some .int))
theorem cw_mouse : Cond.codeWith m_L_mouse.1 m_L_mouse.2.1 m_L_mouse.2.2.1 m_L_mouse.2.2.2 hh_mouse ∈ zGW := zmem (i := 1403) (by decide +kernel) rfl
def hh_size : List (Nat × Nat × Nat × Nat) := [(0, 10, 13, 13)]
abbrev m_L_size : zM := (yL_size, cL_size, 5, (some .int))
theorem cw_size : Cond.codeWith m_L_size.1 m_L_size.2.1 m_L_size.2.2.1 m_L_size.2.2.2 hh_size ∈ zGW := zmem (i := 1429) (by decide +kernel) rfl
def hh_cell : List (Nat × Nat × Nat × Nat) := [(0, 10, 13, 35)]
abbrev m_L_cell : zM := (yL_cell, cL_cell, 5, (some .int))
theorem cw_cell : Cond.codeWith m_L_cell.1 m_L_cell.2.1 m_L_cell.2.2.1 m_L_cell.2.2.2 hh_cell ∈ zGW := zmem (i := 1530) (by decide +kernel) rfl
def hh_cellAnew : List (Nat × Nat × Nat × Nat) := [(0, 10, 13, 35)]
abbrev m_L_cellAnew : zM := (yL_cellAnew, cL_cellAnew, 5, (some .int))
theorem cw_cellAnew : Cond.codeWith m_L_cellAnew.1 m_L_cellAnew.2.1 m_L_cellAnew.2.2.1 m_L_cellAnew.2.2.2 hh_cellAnew ∈ zGW := zmem (i := 1538) (by decide +kernel) rfl
def hh_past : List (Nat × Nat × Nat × Nat) := [(0, 10, 13, 35)]
abbrev m_L_past : zM := (yL_past, cL_past, 5, (some .int))
theorem cw_past : Cond.codeWith m_L_past.1 m_L_past.2.1 m_L_past.2.2.1 m_L_past.2.2.2 hh_past ∈ zGW := zmem (i := 1552) (by decide +kernel) rfl
def hh_goesOn : List (Nat × Nat × Nat × Nat) := [(0, 16, 19, 35)]
abbrev m_L_goesOn : zM := (yL_goesOn, cL_goesOn, 4, (some .int))
theorem cw_goesOn : Cond.codeWith m_L_goesOn.1 m_L_goesOn.2.1 m_L_goesOn.2.2.1 m_L_goesOn.2.2.2 hh_goesOn ∈ zGW := zmem (i := 1560) (by decide +kernel) rfl
def hh_title : List (Nat × Nat × Nat × Nat) := [(0, 9, 12, 35)]
abbrev m_L_title : zM := (yL_title, cL_title, 4, (some .int))
theorem cw_title : Cond.codeWith m_L_title.1 m_L_title.2.1 m_L_title.2.2.1 m_L_title.2.2.2 hh_title ∈ zGW := zmem (i := 1570) (by decide +kernel) rfl
def hh_least : List (Nat × Nat × Nat × Nat) := [(0, 9, 12, 35)]
abbrev m_L_least : zM := (yL_least, cL_least, 4, (some .int))
theorem cw_least : Cond.codeWith m_L_least.1 m_L_least.2.1 m_L_least.2.2.1 m_L_least.2.2.2 hh_least ∈ zGW := zmem (i := 1579) (by decide +kernel) rfl
def hh_told : List (Nat × Nat × Nat × Nat) := [(0, 9, 12, 13)]
abbrev m_L_told : zM := (yL_told, cL_told, 4, (some .int))
theorem cw_told : Cond.codeWith m_L_told.1 m_L_told.2.1 m_L_told.2.2.1 m_L_told.2.2.2 hh_told ∈ zGW := zmem (i := 1586) (by decide +kernel) rfl
theorem q_X11_write : Cond.instanceMethod m_X11_write.1 ∈ zGW ∧ Cond.selects RX11 m_X11_write.1 m_X11_write.1 ∈ zGW ∧ Cond.initialized RX11 ∈ zGW ∧ Cond.code m_X11_write.1 m_X11_write.2.1 m_X11_write.2.2.1 m_X11_write.2.2.2 ∈ zGW := ⟨zmem (i := 1323) (by decide +kernel) rfl, zmem (i := 1324) (by decide +kernel) rfl, zmem (i := 127) (by decide +kernel) rfl, zmem (i := 1325) (by decide +kernel) rfl⟩
theorem ml_L_7 : zLV RL 7 11 1 m_X11_write := ⟨RX11, TX11, 7, rfl, zall4 (zmem (i := 1322) (by decide +kernel) rfl) q_X11_write.1 q_X11_write.2.1 q_X11_write.2.2.1, q_X11_write.2.2.2, by decide +kernel⟩
theorem q_X11_code : Cond.instanceMethod m_X11_code.1 ∈ zGW ∧ Cond.selects RX11 m_X11_code.1 m_X11_code.1 ∈ zGW ∧ Cond.initialized RX11 ∈ zGW ∧ Cond.code m_X11_code.1 m_X11_code.2.1 m_X11_code.2.2.1 m_X11_code.2.2.2 ∈ zGW := ⟨zmem (i := 1361) (by decide +kernel) rfl, zmem (i := 1362) (by decide +kernel) rfl, zmem (i := 127) (by decide +kernel) rfl, zmem (i := 1363) (by decide +kernel) rfl⟩
theorem ml_L_17 : zLV RL 17 11 4 m_X11_code := ⟨RX11, TX11, 7, rfl, zall4 (zmem (i := 1360) (by decide +kernel) rfl) q_X11_code.1 q_X11_code.2.1 q_X11_code.2.2.1, q_X11_code.2.2.2, by decide +kernel⟩
theorem q_X11_type : Cond.instanceMethod m_X11_type.1 ∈ zGW ∧ Cond.selects RX11 m_X11_type.1 m_X11_type.1 ∈ zGW ∧ Cond.initialized RX11 ∈ zGW ∧ Cond.code m_X11_type.1 m_X11_type.2.1 m_X11_type.2.2.1 m_X11_type.2.2.2 ∈ zGW := ⟨zmem (i := 1377) (by decide +kernel) rfl, zmem (i := 1378) (by decide +kernel) rfl, zmem (i := 127) (by decide +kernel) rfl, zmem (i := 1379) (by decide +kernel) rfl⟩
theorem ml_L_21 : zLV RL 21 11 1 m_X11_type := ⟨RX11, TX11, 7, rfl, zall4 (zmem (i := 1376) (by decide +kernel) rfl) q_X11_type.1 q_X11_type.2.1 q_X11_type.2.2.1, q_X11_type.2.2.2, by decide +kernel⟩
theorem q_X11_key : Cond.instanceMethod m_X11_key.1 ∈ zGW ∧ Cond.selects RX11 m_X11_key.1 m_X11_key.1 ∈ zGW ∧ Cond.initialized RX11 ∈ zGW ∧ Cond.code m_X11_key.1 m_X11_key.2.1 m_X11_key.2.2.1 m_X11_key.2.2.2 ∈ zGW := ⟨zmem (i := 1384) (by decide +kernel) rfl, zmem (i := 1385) (by decide +kernel) rfl, zmem (i := 127) (by decide +kernel) rfl, zmem (i := 1386) (by decide +kernel) rfl⟩
theorem ml_L_24 : zLV RL 24 11 2 m_X11_key := ⟨RX11, TX11, 7, rfl, zall4 (zmem (i := 1383) (by decide +kernel) rfl) q_X11_key.1 q_X11_key.2.1 q_X11_key.2.2.1, q_X11_key.2.2.2, by decide +kernel⟩
theorem q_X11_draft : Cond.instanceMethod m_X11_draft.1 ∈ zGW ∧ Cond.selects RX11 m_X11_draft.1 m_X11_draft.1 ∈ zGW ∧ Cond.initialized RX11 ∈ zGW ∧ Cond.code m_X11_draft.1 m_X11_draft.2.1 m_X11_draft.2.2.1 m_X11_draft.2.2.2 ∈ zGW := ⟨zmem (i := 1396) (by decide +kernel) rfl, zmem (i := 1397) (by decide +kernel) rfl, zmem (i := 127) (by decide +kernel) rfl, zmem (i := 1398) (by decide +kernel) rfl⟩
theorem ml_L_28 : zLV RL 28 11 1 m_X11_draft := ⟨RX11, TX11, 7, rfl, zall4 (zmem (i := 1395) (by decide +kernel) rfl) q_X11_draft.1 q_X11_draft.2.1 q_X11_draft.2.2.1, q_X11_draft.2.2.2, by decide +kernel⟩
theorem q_X11_mouse : Cond.instanceMethod m_X11_mouse.1 ∈ zGW ∧ Cond.selects RX11 m_X11_mouse.1 m_X11_mouse.1 ∈ zGW ∧ Cond.initialized RX11 ∈ zGW ∧ Cond.code m_X11_mouse.1 m_X11_mouse.2.1 m_X11_mouse.2.2.1 m_X11_mouse.2.2.2 ∈ zGW := ⟨zmem (i := 1406) (by decide +kernel) rfl, zmem (i := 1407) (by decide +kernel) rfl, zmem (i := 127) (by decide +kernel) rfl, zmem (i := 1408) (by decide +kernel) rfl⟩
theorem ml_L_31 : zLV RL 31 11 3 m_X11_mouse := ⟨RX11, TX11, 7, rfl, zall4 (zmem (i := 1405) (by decide +kernel) rfl) q_X11_mouse.1 q_X11_mouse.2.1 q_X11_mouse.2.2.1, q_X11_mouse.2.2.2, by decide +kernel⟩
theorem q_X11_size : Cond.instanceMethod m_X11_size.1 ∈ zGW ∧ Cond.selects RX11 m_X11_size.1 m_X11_size.1 ∈ zGW ∧ Cond.initialized RX11 ∈ zGW ∧ Cond.code m_X11_size.1 m_X11_size.2.1 m_X11_size.2.2.1 m_X11_size.2.2.2 ∈ zGW := ⟨zmem (i := 1431) (by decide +kernel) rfl, zmem (i := 1432) (by decide +kernel) rfl, zmem (i := 127) (by decide +kernel) rfl, zmem (i := 1433) (by decide +kernel) rfl⟩
theorem ml_L_37 : zLV RL 37 11 2 m_X11_size := ⟨RX11, TX11, 7, rfl, zall4 (zmem (i := 1430) (by decide +kernel) rfl) q_X11_size.1 q_X11_size.2.1 q_X11_size.2.2.1, q_X11_size.2.2.2, by decide +kernel⟩
theorem q_X11_cell : Cond.instanceMethod m_X11_cell.1 ∈ zGW ∧ Cond.selects RX11 m_X11_cell.1 m_X11_cell.1 ∈ zGW ∧ Cond.initialized RX11 ∈ zGW ∧ Cond.code m_X11_cell.1 m_X11_cell.2.1 m_X11_cell.2.2.1 m_X11_cell.2.2.2 ∈ zGW := ⟨zmem (i := 1532) (by decide +kernel) rfl, zmem (i := 1533) (by decide +kernel) rfl, zmem (i := 127) (by decide +kernel) rfl, zmem (i := 1534) (by decide +kernel) rfl⟩
theorem ml_L_40 : zLV RL 40 11 2 m_X11_cell := ⟨RX11, TX11, 7, rfl, zall4 (zmem (i := 1531) (by decide +kernel) rfl) q_X11_cell.1 q_X11_cell.2.1 q_X11_cell.2.2.1, q_X11_cell.2.2.2, by decide +kernel⟩
theorem q_X11_cellAnew : Cond.instanceMethod m_X11_cellAnew.1 ∈ zGW ∧ Cond.selects RX11 m_X11_cellAnew.1 m_X11_cellAnew.1 ∈ zGW ∧ Cond.initialized RX11 ∈ zGW ∧ Cond.code m_X11_cellAnew.1 m_X11_cellAnew.2.1 m_X11_cellAnew.2.2.1 m_X11_cellAnew.2.2.2 ∈ zGW := ⟨zmem (i := 1540) (by decide +kernel) rfl, zmem (i := 1541) (by decide +kernel) rfl, zmem (i := 127) (by decide +kernel) rfl, zmem (i := 1542) (by decide +kernel) rfl⟩
theorem ml_L_43 : zLV RL 43 11 2 m_X11_cellAnew := ⟨RX11, TX11, 7, rfl, zall4 (zmem (i := 1539) (by decide +kernel) rfl) q_X11_cellAnew.1 q_X11_cellAnew.2.1 q_X11_cellAnew.2.2.1, q_X11_cellAnew.2.2.2, by decide +kernel⟩
theorem q_X11_past : Cond.instanceMethod m_X11_past.1 ∈ zGW ∧ Cond.selects RX11 m_X11_past.1 m_X11_past.1 ∈ zGW ∧ Cond.initialized RX11 ∈ zGW ∧ Cond.code m_X11_past.1 m_X11_past.2.1 m_X11_past.2.2.1 m_X11_past.2.2.2 ∈ zGW := ⟨zmem (i := 1554) (by decide +kernel) rfl, zmem (i := 1555) (by decide +kernel) rfl, zmem (i := 127) (by decide +kernel) rfl, zmem (i := 1556) (by decide +kernel) rfl⟩
theorem ml_L_46 : zLV RL 46 11 2 m_X11_past := ⟨RX11, TX11, 7, rfl, zall4 (zmem (i := 1553) (by decide +kernel) rfl) q_X11_past.1 q_X11_past.2.1 q_X11_past.2.2.1, q_X11_past.2.2.2, by decide +kernel⟩
theorem q_X11_goesOn : Cond.instanceMethod m_X11_goesOn.1 ∈ zGW ∧ Cond.selects RX11 m_X11_goesOn.1 m_X11_goesOn.1 ∈ zGW ∧ Cond.initialized RX11 ∈ zGW ∧ Cond.code m_X11_goesOn.1 m_X11_goesOn.2.1 m_X11_goesOn.2.2.1 m_X11_goesOn.2.2.2 ∈ zGW := ⟨zmem (i := 1562) (by decide +kernel) rfl, zmem (i := 1563) (by decide +kernel) rfl, zmem (i := 127) (by decide +kernel) rfl, zmem (i := 1564) (by decide +kernel) rfl⟩
theorem ml_L_49 : zLV RL 49 11 1 m_X11_goesOn := ⟨RX11, TX11, 7, rfl, zall4 (zmem (i := 1561) (by decide +kernel) rfl) q_X11_goesOn.1 q_X11_goesOn.2.1 q_X11_goesOn.2.2.1, q_X11_goesOn.2.2.2, by decide +kernel⟩
theorem q_X11_title : Cond.instanceMethod m_X11_title.1 ∈ zGW ∧ Cond.selects RX11 m_X11_title.1 m_X11_title.1 ∈ zGW ∧ Cond.initialized RX11 ∈ zGW ∧ Cond.code m_X11_title.1 m_X11_title.2.1 m_X11_title.2.2.1 m_X11_title.2.2.2 ∈ zGW := ⟨zmem (i := 1572) (by decide +kernel) rfl, zmem (i := 1573) (by decide +kernel) rfl, zmem (i := 127) (by decide +kernel) rfl, zmem (i := 1574) (by decide +kernel) rfl⟩
theorem ml_L_53 : zLV RL 53 11 1 m_X11_title := ⟨RX11, TX11, 7, rfl, zall4 (zmem (i := 1571) (by decide +kernel) rfl) q_X11_title.1 q_X11_title.2.1 q_X11_title.2.2.1, q_X11_title.2.2.2, by decide +kernel⟩
theorem q_X11_least : Cond.instanceMethod m_X11_least.1 ∈ zGW ∧ Cond.selects RX11 m_X11_least.1 m_X11_least.1 ∈ zGW ∧ Cond.initialized RX11 ∈ zGW ∧ Cond.code m_X11_least.1 m_X11_least.2.1 m_X11_least.2.2.1 m_X11_least.2.2.2 ∈ zGW := ⟨zmem (i := 1581) (by decide +kernel) rfl, zmem (i := 1582) (by decide +kernel) rfl, zmem (i := 127) (by decide +kernel) rfl, zmem (i := 1583) (by decide +kernel) rfl⟩
theorem ml_L_56 : zLV RL 56 11 1 m_X11_least := ⟨RX11, TX11, 7, rfl, zall4 (zmem (i := 1580) (by decide +kernel) rfl) q_X11_least.1 q_X11_least.2.1 q_X11_least.2.2.1, q_X11_least.2.2.2, by decide +kernel⟩
theorem q_X11_told : Cond.instanceMethod m_X11_told.1 ∈ zGW ∧ Cond.selects RX11 m_X11_told.1 m_X11_told.1 ∈ zGW ∧ Cond.initialized RX11 ∈ zGW ∧ Cond.code m_X11_told.1 m_X11_told.2.1 m_X11_told.2.2.1 m_X11_told.2.2.2 ∈ zGW := ⟨zmem (i := 1588) (by decide +kernel) rfl, zmem (i := 1589) (by decide +kernel) rfl, zmem (i := 127) (by decide +kernel) rfl, zmem (i := 1590) (by decide +kernel) rfl⟩
theorem ml_L_59 : zLV RL 59 11 1 m_X11_told := ⟨RX11, TX11, 7, rfl, zall4 (zmem (i := 1587) (by decide +kernel) rfl) q_X11_told.1 q_X11_told.2.1 q_X11_told.2.2.1, q_X11_told.2.2.2, by decide +kernel⟩
set_option maxRecDepth 100000 in
set_option maxHeartbeats 4000000 in
theorem la_write {C C' : zSt} {g : Int → Int} {a1 v : Int} (h : f_Co_write a1 C = some (v, C')) (hm : zpot 42 C' ≤ zpot 42 C) : zSpecH zLw hh_write 11 (fun k => k ≠ 42) (zpot 42 C - zpot 42 C') (zpot 42 C - zpot 42 C') m_L_write [.inr (.inl (some 0)), .inl a1, .inr (.inl (some 76))] (zCow C g) (fun r1 w1 => r1 = some (.inl 0) ∧ w1 = zCow C' (zup g 0 v)) := by
  obtain ⟨k, hk⟩ : ∃ k, k = zpot 42 C - zpot 42 C' := ⟨_, rfl⟩
  rw [← hk]
  have hc : zSpecF zTrv 10 (fun k => k ≠ 42) k k m_X11_write [.inr (.inl (some 0)), .inl a1] (ziT C 0 TCo) (fun r1 w1 => r1 = some (.inl v) ∧ w1 = ziT C' 0 TCo) := by
    rw [hk]
    exact zSpec.F (t_Co_write h hm)
  refine zSpecH_of (by decide +kernel) rfl (Nat.le_of_ble_eq_true rfl) ?_
  show zB m_L_write (zR 11 k k) (zFE (fun l A s => zLw l A s ∧ zNm m_L_write.1 s) (zFq k k (fun k => k ≠ 42) (fun r1 w1 => r1 = some (.inl 0) ∧ w1 = zCow C' (zup g 0 v)))) (fun k => k ≠ 42) 0 [some (.inr (.inl (some 0))), some (.inl a1), some (.inr (.inl (some 76))), none] [] (zCow C g) 0 0
  refine zr_aload ⟨_, dL_write_0, rfl⟩ rfl ?_
  refine zr_iconst dL_write_1 (by decide) ?_
  refine zr_aload ⟨_, dL_write_2, rfl⟩ rfl ?_
  refine zr_load ⟨_, dL_write_3, rfl⟩ rfl ?_
  refine zg_callW (r := some (.inl v)) (v := 42) (zRunQ_of (zrun_VW (f := zid) (rest := [.inl 0, .inr (.inl (some 76))]) dL_write_4 ml_L_7 zCow_0 rfl (by decide) (by decide) rfl (Nat.le_of_ble_eq_true rfl)) hc zMv_tr zMv_tr (zFr_Co (C' := C')).1 (zFr_Co (C' := C')).2.1 rfl rfl) zFr_Co (fun k h => h) (by simp) (fun k h => h) rfl rfl (by show 0 + k ≤ k; omega) (by show 0 + k ≤ k; omega) ?_
  show zB m_L_write (zR 11 k k) _ _ 7 [some (.inr (.inl (some 0))), some (.inl a1), some (.inr (.inl (some 76))), none] [.inl v, .inl 0, .inr (.inl (some 76))] (zCow C' g) (0 + k) (0 + k)
  refine zr_i2l dL_write_7 ?_
  refine zr_lastore dL_write_8 zCow_76 ⟨by decide, by decide⟩ zCow_set ?_
  refine zr_goto (tgt := 18) dL_write_9 (by decide) ?_
  refine zr_iconst dL_write_18 (by decide) ?_
  exact zB_fe (zr_iret dL_write_19 rfl (by omega) (by omega) ⟨rfl, rfl⟩)
set_option maxRecDepth 100000 in
set_option maxHeartbeats 4000000 in
theorem lx_write_1 {C : zSt} {g : Int → Int} {a1 : Int} (h : e_Co_write_ a1 C = some 1) : zSpecH zLw hh_write 11 (fun k => k ≠ 42) 1 6 m_L_write [.inr (.inl (some 0)), .inl a1, .inr (.inl (some 76))] (zCow C g) (fun r1 w1 => r1 = some (.inl 1) ∧ w1 = zCow C g) := by
  have hx := x_Co_write h
  rw [zEx_1] at hx
  refine zSpecH_of (by decide +kernel) rfl (Nat.le_of_ble_eq_true rfl) ?_
  show zB m_L_write (zR 11 1 6) (zFE (fun l A s => zLw l A s ∧ zNm m_L_write.1 s) (zFq 1 6 (fun k => k ≠ 42) (fun r1 w1 => r1 = some (.inl 1) ∧ w1 = zCow C g))) (fun k => k ≠ 42) 0 [some (.inr (.inl (some 0))), some (.inl a1), some (.inr (.inl (some 76))), none] [] (ziT C 0 TCo ++ [.inr (2, 1, g)]) 0 0
  refine zr_aload ⟨_, dL_write_0, rfl⟩ rfl ?_
  refine zr_iconst dL_write_1 (by decide) ?_
  refine zr_aload ⟨_, dL_write_2, rfl⟩ rfl ?_
  refine zr_load ⟨_, dL_write_3, rfl⟩ rfl ?_
  refine zr_thrown (wr := [.inr (2, 1, g)]) (rest := [.inl 0, .inr (.inl (some 76))]) (pre := []) (x := ⟨0, 9, 12, 13⟩) (suf := [⟨0, 9, 15, 15⟩]) (hh := hh_write) (name := "java/lang/IllegalArgumentException") (i := 3) (len := 1) hx (fun _ _ _ _ _ _ _ h => zLw_go h.1) (fun _ _ _ h => h) dL_write_4 ml_L_7 rfl rfl (by decide) (by decide) rfl rfl (Nat.le_of_ble_eq_true rfl) cw_write rfl (fun z hz => absurd hz List.not_mem_nil) (by decide) (by decide) lk_L_13 ca_1 (Or.inl ⟨_, dL_write_12, rfl, rfl⟩) (by decide) rfl (Nat.le_refl _) (Nat.le_refl _) ?_
  refine zr_iconst dL_write_13 (by decide) ?_
  exact zB_fe (zr_iret dL_write_14 rfl (Nat.le_refl _) (Nat.le_refl _) ⟨rfl, rfl⟩)
set_option maxRecDepth 100000 in
set_option maxHeartbeats 4000000 in
theorem lx_write_2 {C : zSt} {g : Int → Int} {a1 : Int} (h : e_Co_write_ a1 C = some 2) : zSpecH zLw hh_write 11 (fun k => k ≠ 42) 1 6 m_L_write [.inr (.inl (some 0)), .inl a1, .inr (.inl (some 76))] (zCow C g) (fun r1 w1 => r1 = some (.inl 2) ∧ w1 = zCow C g) := by
  have hx := x_Co_write h
  rw [zEx_2] at hx
  refine zSpecH_of (by decide +kernel) rfl (Nat.le_of_ble_eq_true rfl) ?_
  show zB m_L_write (zR 11 1 6) (zFE (fun l A s => zLw l A s ∧ zNm m_L_write.1 s) (zFq 1 6 (fun k => k ≠ 42) (fun r1 w1 => r1 = some (.inl 2) ∧ w1 = zCow C g))) (fun k => k ≠ 42) 0 [some (.inr (.inl (some 0))), some (.inl a1), some (.inr (.inl (some 76))), none] [] (ziT C 0 TCo ++ [.inr (2, 1, g)]) 0 0
  refine zr_aload ⟨_, dL_write_0, rfl⟩ rfl ?_
  refine zr_iconst dL_write_1 (by decide) ?_
  refine zr_aload ⟨_, dL_write_2, rfl⟩ rfl ?_
  refine zr_load ⟨_, dL_write_3, rfl⟩ rfl ?_
  refine zr_thrown (wr := [.inr (2, 1, g)]) (rest := [.inl 0, .inr (.inl (some 76))]) (pre := [⟨0, 9, 12, 13⟩]) (x := ⟨0, 9, 15, 15⟩) (suf := []) (hh := hh_write) (name := "java/lang/IllegalStateException") (i := 3) (len := 1) hx (fun _ _ _ _ _ _ _ h => zLw_go h.1) (fun _ _ _ h => h) dL_write_4 ml_L_7 rfl rfl (by decide) (by decide) rfl rfl (Nat.le_of_ble_eq_true rfl) cw_write rfl (fun z hz => by
    rw [List.mem_singleton] at hz
    subst hz
    exact ⟨by decide, _, lk_L_13, by simp [zNp]⟩) (by decide) (by decide) lk_L_15 ca_2 (Or.inl ⟨_, dL_write_15, rfl, rfl⟩) (by decide) rfl (Nat.le_refl _) (Nat.le_refl _) ?_
  refine zr_iconst dL_write_16 (by decide) ?_
  exact zB_fe (zr_iret dL_write_17 rfl (Nat.le_refl _) (Nat.le_refl _) ⟨rfl, rfl⟩)
set_option maxRecDepth 100000 in
set_option maxHeartbeats 4000000 in
theorem la_code {C C' : zSt} {g : Int → Int} {a1 a2 a3 a4 v : Int} (h : f_Co_code a1 a2 a3 a4 C = some (v, C')) (hm : zpot 42 C' ≤ zpot 42 C) : zSpecH zLw hh_code 11 (fun k => k ≠ 42) (zpot 42 C - zpot 42 C') (zpot 42 C - zpot 42 C') m_L_code [.inr (.inl (some 0)), .inl a1, .inl a2, .inl a3, .inl a4, .inr (.inl (some 76))] (zCow C g) (fun r1 w1 => r1 = some (.inl 0) ∧ w1 = zCow C' (zup g 0 v)) := by
  obtain ⟨k, hk⟩ : ∃ k, k = zpot 42 C - zpot 42 C' := ⟨_, rfl⟩
  rw [← hk]
  have hc : zSpecF zTrv 10 (fun k => k ≠ 42) k k m_X11_code [.inr (.inl (some 0)), .inl a1, .inl a2, .inl a3, .inl a4] (ziT C 0 TCo) (fun r1 w1 => r1 = some (.inl v) ∧ w1 = ziT C' 0 TCo) := by
    rw [hk]
    exact zSpec.F (t_Co_code h hm)
  refine zSpecH_of (by decide +kernel) rfl (Nat.le_of_ble_eq_true rfl) ?_
  show zB m_L_code (zR 11 k k) (zFE (fun l A s => zLw l A s ∧ zNm m_L_code.1 s) (zFq k k (fun k => k ≠ 42) (fun r1 w1 => r1 = some (.inl 0) ∧ w1 = zCow C' (zup g 0 v)))) (fun k => k ≠ 42) 0 [some (.inr (.inl (some 0))), some (.inl a1), some (.inl a2), some (.inl a3), some (.inl a4), some (.inr (.inl (some 76))), none] [] (zCow C g) 0 0
  refine zr_aloadw dL_code_0 rfl ?_
  refine zr_iconst dL_code_2 (by decide) ?_
  refine zr_aload ⟨_, dL_code_3, rfl⟩ rfl ?_
  refine zr_load ⟨_, dL_code_4, rfl⟩ rfl ?_
  refine zr_load ⟨_, dL_code_5, rfl⟩ rfl ?_
  refine zr_load ⟨_, dL_code_6, rfl⟩ rfl ?_
  refine zr_loadw dL_code_7 rfl ?_
  refine zg_callW (r := some (.inl v)) (v := 42) (zRunQ_of (zrun_VW (f := zid) (rest := [.inl 0, .inr (.inl (some 76))]) dL_code_9 ml_L_17 zCow_0 rfl (by decide) (by decide) rfl (Nat.le_of_ble_eq_true rfl)) hc zMv_tr zMv_tr (zFr_Co (C' := C')).1 (zFr_Co (C' := C')).2.1 rfl rfl) zFr_Co (fun k h => h) (by simp) (fun k h => h) rfl rfl (by show 0 + k ≤ k; omega) (by show 0 + k ≤ k; omega) ?_
  show zB m_L_code (zR 11 k k) _ _ 12 [some (.inr (.inl (some 0))), some (.inl a1), some (.inl a2), some (.inl a3), some (.inl a4), some (.inr (.inl (some 76))), none] [.inl v, .inl 0, .inr (.inl (some 76))] (zCow C' g) (0 + k) (0 + k)
  refine zr_i2l dL_code_12 ?_
  refine zr_lastore dL_code_13 zCow_76 ⟨by decide, by decide⟩ zCow_set ?_
  refine zr_goto (tgt := 25) dL_code_14 (by decide) ?_
  refine zr_iconst dL_code_25 (by decide) ?_
  exact zB_fe (zr_iret dL_code_26 rfl (by omega) (by omega) ⟨rfl, rfl⟩)
set_option maxRecDepth 100000 in
set_option maxHeartbeats 4000000 in
theorem lx_code_1 {C : zSt} {g : Int → Int} {a1 a2 a3 a4 : Int} (h : e_Co_code_ a1 a2 a3 a4 C = some 1) : zSpecH zLw hh_code 11 (fun k => k ≠ 42) 1 6 m_L_code [.inr (.inl (some 0)), .inl a1, .inl a2, .inl a3, .inl a4, .inr (.inl (some 76))] (zCow C g) (fun r1 w1 => r1 = some (.inl 1) ∧ w1 = zCow C g) := by
  have hx := x_Co_code h
  rw [zEx_1] at hx
  refine zSpecH_of (by decide +kernel) rfl (Nat.le_of_ble_eq_true rfl) ?_
  show zB m_L_code (zR 11 1 6) (zFE (fun l A s => zLw l A s ∧ zNm m_L_code.1 s) (zFq 1 6 (fun k => k ≠ 42) (fun r1 w1 => r1 = some (.inl 1) ∧ w1 = zCow C g))) (fun k => k ≠ 42) 0 [some (.inr (.inl (some 0))), some (.inl a1), some (.inl a2), some (.inl a3), some (.inl a4), some (.inr (.inl (some 76))), none] [] (ziT C 0 TCo ++ [.inr (2, 1, g)]) 0 0
  refine zr_aloadw dL_code_0 rfl ?_
  refine zr_iconst dL_code_2 (by decide) ?_
  refine zr_aload ⟨_, dL_code_3, rfl⟩ rfl ?_
  refine zr_load ⟨_, dL_code_4, rfl⟩ rfl ?_
  refine zr_load ⟨_, dL_code_5, rfl⟩ rfl ?_
  refine zr_load ⟨_, dL_code_6, rfl⟩ rfl ?_
  refine zr_loadw dL_code_7 rfl ?_
  refine zr_thrown (wr := [.inr (2, 1, g)]) (rest := [.inl 0, .inr (.inl (some 76))]) (pre := []) (x := ⟨0, 14, 17, 13⟩) (suf := [⟨0, 14, 21, 15⟩]) (hh := hh_code) (name := "java/lang/IllegalArgumentException") (i := 6) (len := 2) hx (fun _ _ _ _ _ _ _ h => zLw_go h.1) (fun _ _ _ h => h) dL_code_9 ml_L_17 rfl rfl (by decide) (by decide) rfl rfl (Nat.le_of_ble_eq_true rfl) cw_code rfl (fun z hz => absurd hz List.not_mem_nil) (by decide) (by decide) lk_L_13 ca_1 (Or.inr ⟨dL_code_17, rfl⟩) (by decide) rfl (Nat.le_refl _) (Nat.le_refl _) ?_
  refine zr_iconst dL_code_19 (by decide) ?_
  exact zB_fe (zr_iret dL_code_20 rfl (Nat.le_refl _) (Nat.le_refl _) ⟨rfl, rfl⟩)
set_option maxRecDepth 100000 in
set_option maxHeartbeats 4000000 in
theorem lx_code_2 {C : zSt} {g : Int → Int} {a1 a2 a3 a4 : Int} (h : e_Co_code_ a1 a2 a3 a4 C = some 2) : zSpecH zLw hh_code 11 (fun k => k ≠ 42) 1 6 m_L_code [.inr (.inl (some 0)), .inl a1, .inl a2, .inl a3, .inl a4, .inr (.inl (some 76))] (zCow C g) (fun r1 w1 => r1 = some (.inl 2) ∧ w1 = zCow C g) := by
  have hx := x_Co_code h
  rw [zEx_2] at hx
  refine zSpecH_of (by decide +kernel) rfl (Nat.le_of_ble_eq_true rfl) ?_
  show zB m_L_code (zR 11 1 6) (zFE (fun l A s => zLw l A s ∧ zNm m_L_code.1 s) (zFq 1 6 (fun k => k ≠ 42) (fun r1 w1 => r1 = some (.inl 2) ∧ w1 = zCow C g))) (fun k => k ≠ 42) 0 [some (.inr (.inl (some 0))), some (.inl a1), some (.inl a2), some (.inl a3), some (.inl a4), some (.inr (.inl (some 76))), none] [] (ziT C 0 TCo ++ [.inr (2, 1, g)]) 0 0
  refine zr_aloadw dL_code_0 rfl ?_
  refine zr_iconst dL_code_2 (by decide) ?_
  refine zr_aload ⟨_, dL_code_3, rfl⟩ rfl ?_
  refine zr_load ⟨_, dL_code_4, rfl⟩ rfl ?_
  refine zr_load ⟨_, dL_code_5, rfl⟩ rfl ?_
  refine zr_load ⟨_, dL_code_6, rfl⟩ rfl ?_
  refine zr_loadw dL_code_7 rfl ?_
  refine zr_thrown (wr := [.inr (2, 1, g)]) (rest := [.inl 0, .inr (.inl (some 76))]) (pre := [⟨0, 14, 17, 13⟩]) (x := ⟨0, 14, 21, 15⟩) (suf := []) (hh := hh_code) (name := "java/lang/IllegalStateException") (i := 6) (len := 2) hx (fun _ _ _ _ _ _ _ h => zLw_go h.1) (fun _ _ _ h => h) dL_code_9 ml_L_17 rfl rfl (by decide) (by decide) rfl rfl (Nat.le_of_ble_eq_true rfl) cw_code rfl (fun z hz => by
    rw [List.mem_singleton] at hz
    subst hz
    exact ⟨by decide, _, lk_L_13, by simp [zNp]⟩) (by decide) (by decide) lk_L_15 ca_2 (Or.inr ⟨dL_code_21, rfl⟩) (by decide) rfl (Nat.le_refl _) (Nat.le_refl _) ?_
  refine zr_iconst dL_code_23 (by decide) ?_
  exact zB_fe (zr_iret dL_code_24 rfl (Nat.le_refl _) (Nat.le_refl _) ⟨rfl, rfl⟩)
set_option maxRecDepth 100000 in
set_option maxHeartbeats 4000000 in
theorem la_type {C C' : zSt} {g : Int → Int} {a1 v : Int} (h : f_Co_type a1 C = some (v, C')) (hm : zpot 42 C' ≤ zpot 42 C) : zSpecH zLw hh_type 11 (fun k => k ≠ 42) (zpot 42 C - zpot 42 C') (zpot 42 C - zpot 42 C') m_L_type [.inr (.inl (some 0)), .inl a1, .inr (.inl (some 76))] (zCow C g) (fun r1 w1 => r1 = some (.inl 0) ∧ w1 = zCow C' (zup g 0 v)) := by
  obtain ⟨k, hk⟩ : ∃ k, k = zpot 42 C - zpot 42 C' := ⟨_, rfl⟩
  rw [← hk]
  have hc : zSpecF zTrv 10 (fun k => k ≠ 42) k k m_X11_type [.inr (.inl (some 0)), .inl a1] (ziT C 0 TCo) (fun r1 w1 => r1 = some (.inl v) ∧ w1 = ziT C' 0 TCo) := by
    rw [hk]
    exact zSpec.F (t_Co_type h hm)
  refine zSpecH_of (by decide +kernel) rfl (Nat.le_of_ble_eq_true rfl) ?_
  show zB m_L_type (zR 11 k k) (zFE (fun l A s => zLw l A s ∧ zNm m_L_type.1 s) (zFq k k (fun k => k ≠ 42) (fun r1 w1 => r1 = some (.inl 0) ∧ w1 = zCow C' (zup g 0 v)))) (fun k => k ≠ 42) 0 [some (.inr (.inl (some 0))), some (.inl a1), some (.inr (.inl (some 76))), none] [] (zCow C g) 0 0
  refine zr_aload ⟨_, dL_type_0, rfl⟩ rfl ?_
  refine zr_iconst dL_type_1 (by decide) ?_
  refine zr_aload ⟨_, dL_type_2, rfl⟩ rfl ?_
  refine zr_load ⟨_, dL_type_3, rfl⟩ rfl ?_
  refine zg_callW (r := some (.inl v)) (v := 42) (zRunQ_of (zrun_VW (f := zid) (rest := [.inl 0, .inr (.inl (some 76))]) dL_type_4 ml_L_21 zCow_0 rfl (by decide) (by decide) rfl (Nat.le_of_ble_eq_true rfl)) hc zMv_tr zMv_tr (zFr_Co (C' := C')).1 (zFr_Co (C' := C')).2.1 rfl rfl) zFr_Co (fun k h => h) (by simp) (fun k h => h) rfl rfl (by show 0 + k ≤ k; omega) (by show 0 + k ≤ k; omega) ?_
  show zB m_L_type (zR 11 k k) _ _ 7 [some (.inr (.inl (some 0))), some (.inl a1), some (.inr (.inl (some 76))), none] [.inl v, .inl 0, .inr (.inl (some 76))] (zCow C' g) (0 + k) (0 + k)
  refine zr_i2l dL_type_7 ?_
  refine zr_lastore dL_type_8 zCow_76 ⟨by decide, by decide⟩ zCow_set ?_
  refine zr_goto (tgt := 15) dL_type_9 (by decide) ?_
  refine zr_iconst dL_type_15 (by decide) ?_
  exact zB_fe (zr_iret dL_type_16 rfl (by omega) (by omega) ⟨rfl, rfl⟩)
set_option maxRecDepth 100000 in
set_option maxHeartbeats 4000000 in
theorem lx_type_1 {C : zSt} {g : Int → Int} {a1 : Int} (h : e_Co_type_ a1 C = some 1) : zSpecH zLw hh_type 11 (fun k => k ≠ 42) 1 6 m_L_type [.inr (.inl (some 0)), .inl a1, .inr (.inl (some 76))] (zCow C g) (fun r1 w1 => r1 = some (.inl 1) ∧ w1 = zCow C g) := by
  have hx := x_Co_type h
  rw [zEx_1] at hx
  refine zSpecH_of (by decide +kernel) rfl (Nat.le_of_ble_eq_true rfl) ?_
  show zB m_L_type (zR 11 1 6) (zFE (fun l A s => zLw l A s ∧ zNm m_L_type.1 s) (zFq 1 6 (fun k => k ≠ 42) (fun r1 w1 => r1 = some (.inl 1) ∧ w1 = zCow C g))) (fun k => k ≠ 42) 0 [some (.inr (.inl (some 0))), some (.inl a1), some (.inr (.inl (some 76))), none] [] (ziT C 0 TCo ++ [.inr (2, 1, g)]) 0 0
  refine zr_aload ⟨_, dL_type_0, rfl⟩ rfl ?_
  refine zr_iconst dL_type_1 (by decide) ?_
  refine zr_aload ⟨_, dL_type_2, rfl⟩ rfl ?_
  refine zr_load ⟨_, dL_type_3, rfl⟩ rfl ?_
  refine zr_thrown (wr := [.inr (2, 1, g)]) (rest := [.inl 0, .inr (.inl (some 76))]) (pre := []) (x := ⟨0, 9, 12, 13⟩) (suf := []) (hh := hh_type) (name := "java/lang/IllegalArgumentException") (i := 3) (len := 1) hx (fun _ _ _ _ _ _ _ h => zLw_go h.1) (fun _ _ _ h => h) dL_type_4 ml_L_21 rfl rfl (by decide) (by decide) rfl rfl (Nat.le_of_ble_eq_true rfl) cw_type rfl (fun z hz => absurd hz List.not_mem_nil) (by decide) (by decide) lk_L_13 ca_1 (Or.inl ⟨_, dL_type_12, rfl, rfl⟩) (by decide) rfl (Nat.le_refl _) (Nat.le_refl _) ?_
  refine zr_iconst dL_type_13 (by decide) ?_
  exact zB_fe (zr_iret dL_type_14 rfl (Nat.le_refl _) (Nat.le_refl _) ⟨rfl, rfl⟩)
set_option maxRecDepth 100000 in
set_option maxHeartbeats 4000000 in
theorem la_key {C C' : zSt} {g : Int → Int} {a1 a2 v : Int} (h : f_Co_key a1 a2 C = some (v, C')) (hm : zpot 42 C' ≤ zpot 42 C) : zSpecH zLw hh_key 11 (fun k => k ≠ 42) (zpot 42 C - zpot 42 C') (zpot 42 C - zpot 42 C') m_L_key [.inr (.inl (some 0)), .inl a1, .inl a2, .inr (.inl (some 76))] (zCow C g) (fun r1 w1 => r1 = some (.inl 0) ∧ w1 = zCow C' (zup g 0 v)) := by
  obtain ⟨k, hk⟩ : ∃ k, k = zpot 42 C - zpot 42 C' := ⟨_, rfl⟩
  rw [← hk]
  have hc : zSpecF zLw 10 (fun k => k ≠ 42) k k m_X11_key [.inr (.inl (some 0)), .inl a1, .inl a2] (ziT C 0 TCo) (fun r1 w1 => r1 = some (.inl v) ∧ w1 = ziT C' 0 TCo) := by
    rw [hk]
    exact t_Co_keyP (φ := zLw) (fun _ _ _ h => h.2.1) ((keyP_same a1 a2 C).trans h) hm
  refine zSpecH_of (by decide +kernel) rfl (Nat.le_of_ble_eq_true rfl) ?_
  show zB m_L_key (zR 11 k k) (zFE (fun l A s => zLw l A s ∧ zNm m_L_key.1 s) (zFq k k (fun k => k ≠ 42) (fun r1 w1 => r1 = some (.inl 0) ∧ w1 = zCow C' (zup g 0 v)))) (fun k => k ≠ 42) 0 [some (.inr (.inl (some 0))), some (.inl a1), some (.inl a2), some (.inr (.inl (some 76))), none] [] (zCow C g) 0 0
  refine zr_aload ⟨_, dL_key_0, rfl⟩ rfl ?_
  refine zr_iconst dL_key_1 (by decide) ?_
  refine zr_aload ⟨_, dL_key_2, rfl⟩ rfl ?_
  refine zr_load ⟨_, dL_key_3, rfl⟩ rfl ?_
  refine zr_load ⟨_, dL_key_4, rfl⟩ rfl ?_
  refine zg_callW (r := some (.inl v)) (v := 42) (zRunQ_of (zrun_VW (f := zid) (rest := [.inl 0, .inr (.inl (some 76))]) dL_key_5 ml_L_24 zCow_0 rfl (by decide) (by decide) rfl (Nat.le_of_ble_eq_true rfl)) hc (fun _ _ _ _ _ _ _ h => zLw_go h.1) zMv_lw (zFr_Co (C' := C')).1 (zFr_Co (C' := C')).2.1 rfl rfl) zFr_Co (fun k h => h) (by simp) (fun k h => h) rfl rfl (by show 0 + k ≤ k; omega) (by show 0 + k ≤ k; omega) ?_
  show zB m_L_key (zR 11 k k) _ _ 8 [some (.inr (.inl (some 0))), some (.inl a1), some (.inl a2), some (.inr (.inl (some 76))), none] [.inl v, .inl 0, .inr (.inl (some 76))] (zCow C' g) (0 + k) (0 + k)
  refine zr_i2l dL_key_8 ?_
  refine zr_lastore dL_key_9 zCow_76 ⟨by decide, by decide⟩ zCow_set ?_
  refine zr_goto (tgt := 17) dL_key_10 (by decide) ?_
  refine zr_iconst dL_key_17 (by decide) ?_
  exact zB_fe (zr_iret dL_key_18 rfl (by omega) (by omega) ⟨rfl, rfl⟩)
set_option maxRecDepth 100000 in
set_option maxHeartbeats 4000000 in
theorem lx_key_1 {C : zSt} {g : Int → Int} {a1 a2 : Int} (h : e_Co_key_ a1 a2 C = some 1) : zSpecH zLw hh_key 11 (fun k => k ≠ 42) 1 6 m_L_key [.inr (.inl (some 0)), .inl a1, .inl a2, .inr (.inl (some 76))] (zCow C g) (fun r1 w1 => r1 = some (.inl 1) ∧ w1 = zCow C g) := by
  have hx := x_Co_key h
  rw [zEx_1] at hx
  refine zSpecH_of (by decide +kernel) rfl (Nat.le_of_ble_eq_true rfl) ?_
  show zB m_L_key (zR 11 1 6) (zFE (fun l A s => zLw l A s ∧ zNm m_L_key.1 s) (zFq 1 6 (fun k => k ≠ 42) (fun r1 w1 => r1 = some (.inl 1) ∧ w1 = zCow C g))) (fun k => k ≠ 42) 0 [some (.inr (.inl (some 0))), some (.inl a1), some (.inl a2), some (.inr (.inl (some 76))), none] [] (ziT C 0 TCo ++ [.inr (2, 1, g)]) 0 0
  refine zr_aload ⟨_, dL_key_0, rfl⟩ rfl ?_
  refine zr_iconst dL_key_1 (by decide) ?_
  refine zr_aload ⟨_, dL_key_2, rfl⟩ rfl ?_
  refine zr_load ⟨_, dL_key_3, rfl⟩ rfl ?_
  refine zr_load ⟨_, dL_key_4, rfl⟩ rfl ?_
  refine zr_thrown (wr := [.inr (2, 1, g)]) (rest := [.inl 0, .inr (.inl (some 76))]) (pre := []) (x := ⟨0, 10, 13, 13⟩) (suf := []) (hh := hh_key) (name := "java/lang/IllegalArgumentException") (i := 4) (len := 2) hx (fun _ _ _ _ _ _ _ h => zLw_go h.1) (fun _ _ _ h => h) dL_key_5 ml_L_24 rfl rfl (by decide) (by decide) rfl rfl (Nat.le_of_ble_eq_true rfl) cw_key rfl (fun z hz => absurd hz List.not_mem_nil) (by decide) (by decide) lk_L_13 ca_1 (Or.inr ⟨dL_key_13, rfl⟩) (by decide) rfl (Nat.le_refl _) (Nat.le_refl _) ?_
  refine zr_iconst dL_key_15 (by decide) ?_
  exact zB_fe (zr_iret dL_key_16 rfl (Nat.le_refl _) (Nat.le_refl _) ⟨rfl, rfl⟩)
set_option maxRecDepth 100000 in
set_option maxHeartbeats 4000000 in
theorem la_draft {C C' : zSt} {g : Int → Int} {a1 v : Int} (h : f_Co_draft a1 C = some (v, C')) : zSpecH zLw hh_draft 8 (fun k => k ≠ 42) 0 0 m_L_draft [.inr (.inl (some 0)), .inl a1, .inr (.inl (some 76))] (zCow C g) (fun r1 w1 => r1 = some (.inl 0) ∧ w1 = zCow C' (zup g 0 v)) := by
  have hc : zSpecF zTrv 3 zall 0 0 m_X11_draft [.inr (.inl (some 0)), .inl a1] (ziT C 0 TCo) (fun r1 w1 => r1 = some (.inl v) ∧ w1 = ziT C' 0 TCo) := by
    exact zSpec.F (t_Co_draft h)
  refine zSpecH_of (by decide +kernel) rfl (Nat.le_of_ble_eq_true rfl) ?_
  show zB m_L_draft (zR 8 0 0) (zFE (fun l A s => zLw l A s ∧ zNm m_L_draft.1 s) (zFq 0 0 (fun k => k ≠ 42) (fun r1 w1 => r1 = some (.inl 0) ∧ w1 = zCow C' (zup g 0 v)))) (fun k => k ≠ 42) 0 [some (.inr (.inl (some 0))), some (.inl a1), some (.inr (.inl (some 76))), none] [] (zCow C g) 0 0
  refine zr_aload ⟨_, dL_draft_0, rfl⟩ rfl ?_
  refine zr_iconst dL_draft_1 (by decide) ?_
  refine zr_aload ⟨_, dL_draft_2, rfl⟩ rfl ?_
  refine zr_load ⟨_, dL_draft_3, rfl⟩ rfl ?_
  refine zg_callW (r := some (.inl v)) (v := 42) (zRunQ_of (zrun_VW (f := zid) (rest := [.inl 0, .inr (.inl (some 76))]) dL_draft_4 ml_L_28 zCow_0 rfl (by decide) (by decide) rfl (Nat.le_of_ble_eq_true rfl)) hc zMv_tr zMv_tr (zFr_Co (C' := C')).1 (zFr_Co (C' := C')).2.1 rfl rfl) zFr_Co (fun _ _ => True.intro) (by simp) (fun k h => h) rfl rfl (by show 0 + 0 ≤ 0; omega) (by show 0 + 0 ≤ 0; omega) ?_
  show zB m_L_draft (zR 8 0 0) _ _ 7 [some (.inr (.inl (some 0))), some (.inl a1), some (.inr (.inl (some 76))), none] [.inl v, .inl 0, .inr (.inl (some 76))] (zCow C' g) (0 + 0) (0 + 0)
  refine zr_i2l dL_draft_7 ?_
  refine zr_lastore dL_draft_8 zCow_76 ⟨by decide, by decide⟩ zCow_set ?_
  refine zr_goto (tgt := 18) dL_draft_9 (by decide) ?_
  refine zr_iconst dL_draft_18 (by decide) ?_
  exact zB_fe (zr_iret dL_draft_19 rfl (by omega) (by omega) ⟨rfl, rfl⟩)
set_option maxRecDepth 100000 in
set_option maxHeartbeats 4000000 in
theorem lx_draft_1 {C : zSt} {g : Int → Int} {a1 : Int} (h : e_Co_draft_ a1 C = some 1) : zSpecH zLw hh_draft 8 (fun k => k ≠ 42) 1 6 m_L_draft [.inr (.inl (some 0)), .inl a1, .inr (.inl (some 76))] (zCow C g) (fun r1 w1 => r1 = some (.inl 1) ∧ w1 = zCow C g) := by
  have hx := x_Co_draft h
  rw [zEx_1] at hx
  refine zSpecH_of (by decide +kernel) rfl (Nat.le_of_ble_eq_true rfl) ?_
  show zB m_L_draft (zR 8 1 6) (zFE (fun l A s => zLw l A s ∧ zNm m_L_draft.1 s) (zFq 1 6 (fun k => k ≠ 42) (fun r1 w1 => r1 = some (.inl 1) ∧ w1 = zCow C g))) (fun k => k ≠ 42) 0 [some (.inr (.inl (some 0))), some (.inl a1), some (.inr (.inl (some 76))), none] [] (ziT C 0 TCo ++ [.inr (2, 1, g)]) 0 0
  refine zr_aload ⟨_, dL_draft_0, rfl⟩ rfl ?_
  refine zr_iconst dL_draft_1 (by decide) ?_
  refine zr_aload ⟨_, dL_draft_2, rfl⟩ rfl ?_
  refine zr_load ⟨_, dL_draft_3, rfl⟩ rfl ?_
  refine zr_thrown (wr := [.inr (2, 1, g)]) (rest := [.inl 0, .inr (.inl (some 76))]) (pre := []) (x := ⟨0, 9, 12, 13⟩) (suf := [⟨0, 9, 15, 15⟩]) (hh := hh_draft) (name := "java/lang/IllegalArgumentException") (i := 3) (len := 1) hx (fun _ _ _ _ _ _ _ h => zLw_go h.1) (fun _ _ _ h => h) dL_draft_4 ml_L_28 rfl rfl (by decide) (by decide) rfl rfl (Nat.le_of_ble_eq_true rfl) cw_draft rfl (fun z hz => absurd hz List.not_mem_nil) (by decide) (by decide) lk_L_13 ca_1 (Or.inl ⟨_, dL_draft_12, rfl, rfl⟩) (by decide) rfl (Nat.le_refl _) (Nat.le_refl _) ?_
  refine zr_iconst dL_draft_13 (by decide) ?_
  exact zB_fe (zr_iret dL_draft_14 rfl (Nat.le_refl _) (Nat.le_refl _) ⟨rfl, rfl⟩)
set_option maxRecDepth 100000 in
set_option maxHeartbeats 4000000 in
theorem lx_draft_2 {C : zSt} {g : Int → Int} {a1 : Int} (h : e_Co_draft_ a1 C = some 2) : zSpecH zLw hh_draft 8 (fun k => k ≠ 42) 1 6 m_L_draft [.inr (.inl (some 0)), .inl a1, .inr (.inl (some 76))] (zCow C g) (fun r1 w1 => r1 = some (.inl 2) ∧ w1 = zCow C g) := by
  have hx := x_Co_draft h
  rw [zEx_2] at hx
  refine zSpecH_of (by decide +kernel) rfl (Nat.le_of_ble_eq_true rfl) ?_
  show zB m_L_draft (zR 8 1 6) (zFE (fun l A s => zLw l A s ∧ zNm m_L_draft.1 s) (zFq 1 6 (fun k => k ≠ 42) (fun r1 w1 => r1 = some (.inl 2) ∧ w1 = zCow C g))) (fun k => k ≠ 42) 0 [some (.inr (.inl (some 0))), some (.inl a1), some (.inr (.inl (some 76))), none] [] (ziT C 0 TCo ++ [.inr (2, 1, g)]) 0 0
  refine zr_aload ⟨_, dL_draft_0, rfl⟩ rfl ?_
  refine zr_iconst dL_draft_1 (by decide) ?_
  refine zr_aload ⟨_, dL_draft_2, rfl⟩ rfl ?_
  refine zr_load ⟨_, dL_draft_3, rfl⟩ rfl ?_
  refine zr_thrown (wr := [.inr (2, 1, g)]) (rest := [.inl 0, .inr (.inl (some 76))]) (pre := [⟨0, 9, 12, 13⟩]) (x := ⟨0, 9, 15, 15⟩) (suf := []) (hh := hh_draft) (name := "java/lang/IllegalStateException") (i := 3) (len := 1) hx (fun _ _ _ _ _ _ _ h => zLw_go h.1) (fun _ _ _ h => h) dL_draft_4 ml_L_28 rfl rfl (by decide) (by decide) rfl rfl (Nat.le_of_ble_eq_true rfl) cw_draft rfl (fun z hz => by
    rw [List.mem_singleton] at hz
    subst hz
    exact ⟨by decide, _, lk_L_13, by simp [zNp]⟩) (by decide) (by decide) lk_L_15 ca_2 (Or.inl ⟨_, dL_draft_15, rfl, rfl⟩) (by decide) rfl (Nat.le_refl _) (Nat.le_refl _) ?_
  refine zr_iconst dL_draft_16 (by decide) ?_
  exact zB_fe (zr_iret dL_draft_17 rfl (Nat.le_refl _) (Nat.le_refl _) ⟨rfl, rfl⟩)
set_option maxRecDepth 100000 in
set_option maxHeartbeats 4000000 in
theorem la_mouse {C C' : zSt} {g : Int → Int} {a1 a2 a3 v : Int} (h : f_Co_mouse a1 a2 a3 C = some (v, C')) (hm : zpot 42 C' ≤ zpot 42 C) : zSpecH zLw hh_mouse 11 (fun k => k ≠ 42) (zpot 42 C - zpot 42 C') (zpot 42 C - zpot 42 C') m_L_mouse [.inr (.inl (some 0)), .inl a1, .inl a2, .inl a3, .inr (.inl (some 76))] (zCow C g) (fun r1 w1 => r1 = some (.inl 0) ∧ w1 = zCow C' (zup g 0 v)) := by
  obtain ⟨k, hk⟩ : ∃ k, k = zpot 42 C - zpot 42 C' := ⟨_, rfl⟩
  rw [← hk]
  have hc : zSpecF zTrv 10 (fun k => k ≠ 42) k k m_X11_mouse [.inr (.inl (some 0)), .inl a1, .inl a2, .inl a3] (ziT C 0 TCo) (fun r1 w1 => r1 = some (.inl v) ∧ w1 = ziT C' 0 TCo) := by
    rw [hk]
    exact zSpec.F (t_Co_mouse h hm)
  refine zSpecH_of (by decide +kernel) rfl (Nat.le_of_ble_eq_true rfl) ?_
  show zB m_L_mouse (zR 11 k k) (zFE (fun l A s => zLw l A s ∧ zNm m_L_mouse.1 s) (zFq k k (fun k => k ≠ 42) (fun r1 w1 => r1 = some (.inl 0) ∧ w1 = zCow C' (zup g 0 v)))) (fun k => k ≠ 42) 0 [some (.inr (.inl (some 0))), some (.inl a1), some (.inl a2), some (.inl a3), some (.inr (.inl (some 76))), none] [] (zCow C g) 0 0
  refine zr_aloadw dL_mouse_0 rfl ?_
  refine zr_iconst dL_mouse_2 (by decide) ?_
  refine zr_aload ⟨_, dL_mouse_3, rfl⟩ rfl ?_
  refine zr_load ⟨_, dL_mouse_4, rfl⟩ rfl ?_
  refine zr_load ⟨_, dL_mouse_5, rfl⟩ rfl ?_
  refine zr_load ⟨_, dL_mouse_6, rfl⟩ rfl ?_
  refine zg_callW (r := some (.inl v)) (v := 42) (zRunQ_of (zrun_VW (f := zid) (rest := [.inl 0, .inr (.inl (some 76))]) dL_mouse_7 ml_L_31 zCow_0 rfl (by decide) (by decide) rfl (Nat.le_of_ble_eq_true rfl)) hc zMv_tr zMv_tr (zFr_Co (C' := C')).1 (zFr_Co (C' := C')).2.1 rfl rfl) zFr_Co (fun k h => h) (by simp) (fun k h => h) rfl rfl (by show 0 + k ≤ k; omega) (by show 0 + k ≤ k; omega) ?_
  show zB m_L_mouse (zR 11 k k) _ _ 10 [some (.inr (.inl (some 0))), some (.inl a1), some (.inl a2), some (.inl a3), some (.inr (.inl (some 76))), none] [.inl v, .inl 0, .inr (.inl (some 76))] (zCow C' g) (0 + k) (0 + k)
  refine zr_i2l dL_mouse_10 ?_
  refine zr_lastore dL_mouse_11 zCow_76 ⟨by decide, by decide⟩ zCow_set ?_
  refine zr_goto (tgt := 23) dL_mouse_12 (by decide) ?_
  refine zr_iconst dL_mouse_23 (by decide) ?_
  exact zB_fe (zr_iret dL_mouse_24 rfl (by omega) (by omega) ⟨rfl, rfl⟩)
set_option maxRecDepth 100000 in
set_option maxHeartbeats 4000000 in
theorem lx_mouse_3 {C : zSt} {g : Int → Int} {a1 a2 a3 : Int} (h : e_Co_mouse_ a1 a2 a3 C = some 3) : zSpecH zLw hh_mouse 11 (fun k => k ≠ 42) 1 6 m_L_mouse [.inr (.inl (some 0)), .inl a1, .inl a2, .inl a3, .inr (.inl (some 76))] (zCow C g) (fun r1 w1 => r1 = some (.inl 1) ∧ w1 = zCow C g) := by
  have hx := x_Co_mouse h
  rw [zEx_3] at hx
  refine zSpecH_of (by decide +kernel) rfl (Nat.le_of_ble_eq_true rfl) ?_
  show zB m_L_mouse (zR 11 1 6) (zFE (fun l A s => zLw l A s ∧ zNm m_L_mouse.1 s) (zFq 1 6 (fun k => k ≠ 42) (fun r1 w1 => r1 = some (.inl 1) ∧ w1 = zCow C g))) (fun k => k ≠ 42) 0 [some (.inr (.inl (some 0))), some (.inl a1), some (.inl a2), some (.inl a3), some (.inr (.inl (some 76))), none] [] (ziT C 0 TCo ++ [.inr (2, 1, g)]) 0 0
  refine zr_aloadw dL_mouse_0 rfl ?_
  refine zr_iconst dL_mouse_2 (by decide) ?_
  refine zr_aload ⟨_, dL_mouse_3, rfl⟩ rfl ?_
  refine zr_load ⟨_, dL_mouse_4, rfl⟩ rfl ?_
  refine zr_load ⟨_, dL_mouse_5, rfl⟩ rfl ?_
  refine zr_load ⟨_, dL_mouse_6, rfl⟩ rfl ?_
  refine zr_thrown (wr := [.inr (2, 1, g)]) (rest := [.inl 0, .inr (.inl (some 76))]) (pre := []) (x := ⟨0, 12, 15, 35⟩) (suf := [⟨0, 12, 19, 13⟩]) (hh := hh_mouse) (name := "java/lang/IndexOutOfBoundsException") (i := 5) (len := 2) hx (fun _ _ _ _ _ _ _ h => zLw_go h.1) (fun _ _ _ h => h) dL_mouse_7 ml_L_31 rfl rfl (by decide) (by decide) rfl rfl (Nat.le_of_ble_eq_true rfl) cw_mouse rfl (fun z hz => absurd hz List.not_mem_nil) (by decide) (by decide) lk_L_35 ca_3 (Or.inr ⟨dL_mouse_15, rfl⟩) (by decide) rfl (Nat.le_refl _) (Nat.le_refl _) ?_
  refine zr_iconst dL_mouse_17 (by decide) ?_
  exact zB_fe (zr_iret dL_mouse_18 rfl (Nat.le_refl _) (Nat.le_refl _) ⟨rfl, rfl⟩)
set_option maxRecDepth 100000 in
set_option maxHeartbeats 4000000 in
theorem lx_mouse_1 {C : zSt} {g : Int → Int} {a1 a2 a3 : Int} (h : e_Co_mouse_ a1 a2 a3 C = some 1) : zSpecH zLw hh_mouse 11 (fun k => k ≠ 42) 1 6 m_L_mouse [.inr (.inl (some 0)), .inl a1, .inl a2, .inl a3, .inr (.inl (some 76))] (zCow C g) (fun r1 w1 => r1 = some (.inl 2) ∧ w1 = zCow C g) := by
  have hx := x_Co_mouse h
  rw [zEx_1] at hx
  refine zSpecH_of (by decide +kernel) rfl (Nat.le_of_ble_eq_true rfl) ?_
  show zB m_L_mouse (zR 11 1 6) (zFE (fun l A s => zLw l A s ∧ zNm m_L_mouse.1 s) (zFq 1 6 (fun k => k ≠ 42) (fun r1 w1 => r1 = some (.inl 2) ∧ w1 = zCow C g))) (fun k => k ≠ 42) 0 [some (.inr (.inl (some 0))), some (.inl a1), some (.inl a2), some (.inl a3), some (.inr (.inl (some 76))), none] [] (ziT C 0 TCo ++ [.inr (2, 1, g)]) 0 0
  refine zr_aloadw dL_mouse_0 rfl ?_
  refine zr_iconst dL_mouse_2 (by decide) ?_
  refine zr_aload ⟨_, dL_mouse_3, rfl⟩ rfl ?_
  refine zr_load ⟨_, dL_mouse_4, rfl⟩ rfl ?_
  refine zr_load ⟨_, dL_mouse_5, rfl⟩ rfl ?_
  refine zr_load ⟨_, dL_mouse_6, rfl⟩ rfl ?_
  refine zr_thrown (wr := [.inr (2, 1, g)]) (rest := [.inl 0, .inr (.inl (some 76))]) (pre := [⟨0, 12, 15, 35⟩]) (x := ⟨0, 12, 19, 13⟩) (suf := []) (hh := hh_mouse) (name := "java/lang/IllegalArgumentException") (i := 5) (len := 2) hx (fun _ _ _ _ _ _ _ h => zLw_go h.1) (fun _ _ _ h => h) dL_mouse_7 ml_L_31 rfl rfl (by decide) (by decide) rfl rfl (Nat.le_of_ble_eq_true rfl) cw_mouse rfl (fun z hz => by
    rw [List.mem_singleton] at hz
    subst hz
    exact ⟨by decide, _, lk_L_35, by simp [zNp]⟩) (by decide) (by decide) lk_L_13 ca_1 (Or.inr ⟨dL_mouse_19, rfl⟩) (by decide) rfl (Nat.le_refl _) (Nat.le_refl _) ?_
  refine zr_iconst dL_mouse_21 (by decide) ?_
  exact zB_fe (zr_iret dL_mouse_22 rfl (Nat.le_refl _) (Nat.le_refl _) ⟨rfl, rfl⟩)
set_option maxRecDepth 100000 in
set_option maxHeartbeats 4000000 in
theorem la_size {C C' : zSt} {g : Int → Int} {a1 a2 v : Int} (h : f_Co_size a1 a2 C = some (v, C')) (hm : zpot 42 C' ≤ zpot 42 C) : zSpecH zLw hh_size 10 (fun k => k ≠ 42) (zpot 42 C - zpot 42 C') (zpot 42 C - zpot 42 C') m_L_size [.inr (.inl (some 0)), .inl a1, .inl a2, .inr (.inl (some 76))] (zCow C g) (fun r1 w1 => r1 = some (.inl 0) ∧ w1 = zCow C' (zup g 0 v)) := by
  obtain ⟨k, hk⟩ : ∃ k, k = zpot 42 C - zpot 42 C' := ⟨_, rfl⟩
  rw [← hk]
  have hc : zSpecF zTrv 9 (fun k => k ≠ 42) k k m_X11_size [.inr (.inl (some 0)), .inl a1, .inl a2] (ziT C 0 TCo) (fun r1 w1 => r1 = some (.inl v) ∧ w1 = ziT C' 0 TCo) := by
    rw [hk]
    exact zSpec.F (t_Co_size h hm)
  refine zSpecH_of (by decide +kernel) rfl (Nat.le_of_ble_eq_true rfl) ?_
  show zB m_L_size (zR 10 k k) (zFE (fun l A s => zLw l A s ∧ zNm m_L_size.1 s) (zFq k k (fun k => k ≠ 42) (fun r1 w1 => r1 = some (.inl 0) ∧ w1 = zCow C' (zup g 0 v)))) (fun k => k ≠ 42) 0 [some (.inr (.inl (some 0))), some (.inl a1), some (.inl a2), some (.inr (.inl (some 76))), none] [] (zCow C g) 0 0
  refine zr_aload ⟨_, dL_size_0, rfl⟩ rfl ?_
  refine zr_iconst dL_size_1 (by decide) ?_
  refine zr_aload ⟨_, dL_size_2, rfl⟩ rfl ?_
  refine zr_load ⟨_, dL_size_3, rfl⟩ rfl ?_
  refine zr_load ⟨_, dL_size_4, rfl⟩ rfl ?_
  refine zg_callW (r := some (.inl v)) (v := 42) (zRunQ_of (zrun_VW (f := zid) (rest := [.inl 0, .inr (.inl (some 76))]) dL_size_5 ml_L_37 zCow_0 rfl (by decide) (by decide) rfl (Nat.le_of_ble_eq_true rfl)) hc zMv_tr zMv_tr (zFr_Co (C' := C')).1 (zFr_Co (C' := C')).2.1 rfl rfl) zFr_Co (fun k h => h) (by simp) (fun k h => h) rfl rfl (by show 0 + k ≤ k; omega) (by show 0 + k ≤ k; omega) ?_
  show zB m_L_size (zR 10 k k) _ _ 8 [some (.inr (.inl (some 0))), some (.inl a1), some (.inl a2), some (.inr (.inl (some 76))), none] [.inl v, .inl 0, .inr (.inl (some 76))] (zCow C' g) (0 + k) (0 + k)
  refine zr_i2l dL_size_8 ?_
  refine zr_lastore dL_size_9 zCow_76 ⟨by decide, by decide⟩ zCow_set ?_
  refine zr_goto (tgt := 17) dL_size_10 (by decide) ?_
  refine zr_iconst dL_size_17 (by decide) ?_
  exact zB_fe (zr_iret dL_size_18 rfl (by omega) (by omega) ⟨rfl, rfl⟩)
set_option maxRecDepth 100000 in
set_option maxHeartbeats 4000000 in
theorem lx_size_1 {C : zSt} {g : Int → Int} {a1 a2 : Int} (h : e_Co_size_ a1 a2 C = some 1) : zSpecH zLw hh_size 10 (fun k => k ≠ 42) 1 6 m_L_size [.inr (.inl (some 0)), .inl a1, .inl a2, .inr (.inl (some 76))] (zCow C g) (fun r1 w1 => r1 = some (.inl 1) ∧ w1 = zCow C g) := by
  have hx := x_Co_size h
  rw [zEx_1] at hx
  refine zSpecH_of (by decide +kernel) rfl (Nat.le_of_ble_eq_true rfl) ?_
  show zB m_L_size (zR 10 1 6) (zFE (fun l A s => zLw l A s ∧ zNm m_L_size.1 s) (zFq 1 6 (fun k => k ≠ 42) (fun r1 w1 => r1 = some (.inl 1) ∧ w1 = zCow C g))) (fun k => k ≠ 42) 0 [some (.inr (.inl (some 0))), some (.inl a1), some (.inl a2), some (.inr (.inl (some 76))), none] [] (ziT C 0 TCo ++ [.inr (2, 1, g)]) 0 0
  refine zr_aload ⟨_, dL_size_0, rfl⟩ rfl ?_
  refine zr_iconst dL_size_1 (by decide) ?_
  refine zr_aload ⟨_, dL_size_2, rfl⟩ rfl ?_
  refine zr_load ⟨_, dL_size_3, rfl⟩ rfl ?_
  refine zr_load ⟨_, dL_size_4, rfl⟩ rfl ?_
  refine zr_thrown (wr := [.inr (2, 1, g)]) (rest := [.inl 0, .inr (.inl (some 76))]) (pre := []) (x := ⟨0, 10, 13, 13⟩) (suf := []) (hh := hh_size) (name := "java/lang/IllegalArgumentException") (i := 4) (len := 2) hx (fun _ _ _ _ _ _ _ h => zLw_go h.1) (fun _ _ _ h => h) dL_size_5 ml_L_37 rfl rfl (by decide) (by decide) rfl rfl (Nat.le_of_ble_eq_true rfl) cw_size rfl (fun z hz => absurd hz List.not_mem_nil) (by decide) (by decide) lk_L_13 ca_1 (Or.inr ⟨dL_size_13, rfl⟩) (by decide) rfl (Nat.le_refl _) (Nat.le_refl _) ?_
  refine zr_iconst dL_size_15 (by decide) ?_
  exact zB_fe (zr_iret dL_size_16 rfl (Nat.le_refl _) (Nat.le_refl _) ⟨rfl, rfl⟩)
set_option maxRecDepth 100000 in
set_option maxHeartbeats 4000000 in
theorem la_cell {C : zSt} {g : Int → Int} {a1 a2 v : Int} (h : f_Co_cell a1 a2 C = some v) : zSpecH zLw hh_cell 8 (fun k => k ≠ 42) 0 0 m_L_cell [.inr (.inl (some 0)), .inl a1, .inl a2, .inr (.inl (some 76))] (zCow C g) (fun r1 w1 => r1 = some (.inl 0) ∧ w1 = zCow C (zup g 0 v)) := by
  have hc : zSpecF zTrv 2 zall 0 0 m_X11_cell [.inr (.inl (some 0)), .inl a1, .inl a2] (ziT C 0 TCo) (fun r1 w1 => r1 = some (.inl v) ∧ w1 = ziT C 0 TCo) := by
    exact zSpec.F (t_Co_cell h)
  refine zSpecH_of (by decide +kernel) rfl (Nat.le_of_ble_eq_true rfl) ?_
  show zB m_L_cell (zR 8 0 0) (zFE (fun l A s => zLw l A s ∧ zNm m_L_cell.1 s) (zFq 0 0 (fun k => k ≠ 42) (fun r1 w1 => r1 = some (.inl 0) ∧ w1 = zCow C (zup g 0 v)))) (fun k => k ≠ 42) 0 [some (.inr (.inl (some 0))), some (.inl a1), some (.inl a2), some (.inr (.inl (some 76))), none] [] (zCow C g) 0 0
  refine zr_aload ⟨_, dL_cell_0, rfl⟩ rfl ?_
  refine zr_iconst dL_cell_1 (by decide) ?_
  refine zr_aload ⟨_, dL_cell_2, rfl⟩ rfl ?_
  refine zr_load ⟨_, dL_cell_3, rfl⟩ rfl ?_
  refine zr_load ⟨_, dL_cell_4, rfl⟩ rfl ?_
  refine zg_callW (r := some (.inl v)) (v := 42) (zRunQ_of (zrun_VW (f := zid) (rest := [.inl 0, .inr (.inl (some 76))]) dL_cell_5 ml_L_40 zCow_0 rfl (by decide) (by decide) rfl (Nat.le_of_ble_eq_true rfl)) hc zMv_tr zMv_tr (zFr_Co (C' := C)).1 (zFr_Co (C' := C)).2.1 rfl rfl) zFr_Co (fun _ _ => True.intro) (by simp) (fun k h => h) rfl rfl (by show 0 + 0 ≤ 0; omega) (by show 0 + 0 ≤ 0; omega) ?_
  show zB m_L_cell (zR 8 0 0) _ _ 8 [some (.inr (.inl (some 0))), some (.inl a1), some (.inl a2), some (.inr (.inl (some 76))), none] [.inl v, .inl 0, .inr (.inl (some 76))] (zCow C g) (0 + 0) (0 + 0)
  refine zr_i2l dL_cell_8 ?_
  refine zr_lastore dL_cell_9 zCow_76 ⟨by decide, by decide⟩ zCow_set ?_
  refine zr_goto (tgt := 17) dL_cell_10 (by decide) ?_
  refine zr_iconst dL_cell_17 (by decide) ?_
  exact zB_fe (zr_iret dL_cell_18 rfl (by omega) (by omega) ⟨rfl, rfl⟩)
set_option maxRecDepth 100000 in
set_option maxHeartbeats 4000000 in
theorem lx_cell_3 {C : zSt} {g : Int → Int} {a1 a2 : Int} (h : e_Co_cell_ a1 a2 C = some 3) : zSpecH zLw hh_cell 8 (fun k => k ≠ 42) 1 6 m_L_cell [.inr (.inl (some 0)), .inl a1, .inl a2, .inr (.inl (some 76))] (zCow C g) (fun r1 w1 => r1 = some (.inl 1) ∧ w1 = zCow C g) := by
  have hx := x_Co_cell h
  rw [zEx_3] at hx
  refine zSpecH_of (by decide +kernel) rfl (Nat.le_of_ble_eq_true rfl) ?_
  show zB m_L_cell (zR 8 1 6) (zFE (fun l A s => zLw l A s ∧ zNm m_L_cell.1 s) (zFq 1 6 (fun k => k ≠ 42) (fun r1 w1 => r1 = some (.inl 1) ∧ w1 = zCow C g))) (fun k => k ≠ 42) 0 [some (.inr (.inl (some 0))), some (.inl a1), some (.inl a2), some (.inr (.inl (some 76))), none] [] (ziT C 0 TCo ++ [.inr (2, 1, g)]) 0 0
  refine zr_aload ⟨_, dL_cell_0, rfl⟩ rfl ?_
  refine zr_iconst dL_cell_1 (by decide) ?_
  refine zr_aload ⟨_, dL_cell_2, rfl⟩ rfl ?_
  refine zr_load ⟨_, dL_cell_3, rfl⟩ rfl ?_
  refine zr_load ⟨_, dL_cell_4, rfl⟩ rfl ?_
  refine zr_thrown (wr := [.inr (2, 1, g)]) (rest := [.inl 0, .inr (.inl (some 76))]) (pre := []) (x := ⟨0, 10, 13, 35⟩) (suf := []) (hh := hh_cell) (name := "java/lang/IndexOutOfBoundsException") (i := 4) (len := 2) hx (fun _ _ _ _ _ _ _ h => zLw_go h.1) (fun _ _ _ h => h) dL_cell_5 ml_L_40 rfl rfl (by decide) (by decide) rfl rfl (Nat.le_of_ble_eq_true rfl) cw_cell rfl (fun z hz => absurd hz List.not_mem_nil) (by decide) (by decide) lk_L_35 ca_3 (Or.inr ⟨dL_cell_13, rfl⟩) (by decide) rfl (Nat.le_refl _) (Nat.le_refl _) ?_
  refine zr_iconst dL_cell_15 (by decide) ?_
  exact zB_fe (zr_iret dL_cell_16 rfl (Nat.le_refl _) (Nat.le_refl _) ⟨rfl, rfl⟩)
set_option maxRecDepth 100000 in
set_option maxHeartbeats 4000000 in
theorem la_cellAnew {C C' : zSt} {g : Int → Int} {a1 a2 v : Int} (h : f_Co_cellAnew a1 a2 C = some (v, C')) : zSpecH zLw hh_cellAnew 11 (fun k => k ≠ 42) 0 0 m_L_cellAnew [.inr (.inl (some 0)), .inl a1, .inl a2, .inr (.inl (some 76))] (zCow C g) (fun r1 w1 => r1 = some (.inl 0) ∧ w1 = zCow C' (zup g 0 v)) := by
  have hc : zSpecF zTrv 10 zall 0 0 m_X11_cellAnew [.inr (.inl (some 0)), .inl a1, .inl a2] (ziT C 0 TCo) (fun r1 w1 => r1 = some (.inl v) ∧ w1 = ziT C' 0 TCo) := by
    exact zSpec.F (t_Co_cellAnew h)
  refine zSpecH_of (by decide +kernel) rfl (Nat.le_of_ble_eq_true rfl) ?_
  show zB m_L_cellAnew (zR 11 0 0) (zFE (fun l A s => zLw l A s ∧ zNm m_L_cellAnew.1 s) (zFq 0 0 (fun k => k ≠ 42) (fun r1 w1 => r1 = some (.inl 0) ∧ w1 = zCow C' (zup g 0 v)))) (fun k => k ≠ 42) 0 [some (.inr (.inl (some 0))), some (.inl a1), some (.inl a2), some (.inr (.inl (some 76))), none] [] (zCow C g) 0 0
  refine zr_aload ⟨_, dL_cellAnew_0, rfl⟩ rfl ?_
  refine zr_iconst dL_cellAnew_1 (by decide) ?_
  refine zr_aload ⟨_, dL_cellAnew_2, rfl⟩ rfl ?_
  refine zr_load ⟨_, dL_cellAnew_3, rfl⟩ rfl ?_
  refine zr_load ⟨_, dL_cellAnew_4, rfl⟩ rfl ?_
  refine zg_callW (r := some (.inl v)) (v := 42) (zRunQ_of (zrun_VW (f := zid) (rest := [.inl 0, .inr (.inl (some 76))]) dL_cellAnew_5 ml_L_43 zCow_0 rfl (by decide) (by decide) rfl (Nat.le_of_ble_eq_true rfl)) hc zMv_tr zMv_tr (zFr_Co (C' := C')).1 (zFr_Co (C' := C')).2.1 rfl rfl) zFr_Co (fun _ _ => True.intro) (by simp) (fun k h => h) rfl rfl (by show 0 + 0 ≤ 0; omega) (by show 0 + 0 ≤ 0; omega) ?_
  show zB m_L_cellAnew (zR 11 0 0) _ _ 8 [some (.inr (.inl (some 0))), some (.inl a1), some (.inl a2), some (.inr (.inl (some 76))), none] [.inl v, .inl 0, .inr (.inl (some 76))] (zCow C' g) (0 + 0) (0 + 0)
  refine zr_i2l dL_cellAnew_8 ?_
  refine zr_lastore dL_cellAnew_9 zCow_76 ⟨by decide, by decide⟩ zCow_set ?_
  refine zr_goto (tgt := 17) dL_cellAnew_10 (by decide) ?_
  refine zr_iconst dL_cellAnew_17 (by decide) ?_
  exact zB_fe (zr_iret dL_cellAnew_18 rfl (by omega) (by omega) ⟨rfl, rfl⟩)
set_option maxRecDepth 100000 in
set_option maxHeartbeats 4000000 in
theorem lx_cellAnew_3 {C : zSt} {g : Int → Int} {a1 a2 : Int} (h : e_Co_cellAnew_ a1 a2 C = some 3) : zSpecH zLw hh_cellAnew 11 (fun k => k ≠ 42) 1 6 m_L_cellAnew [.inr (.inl (some 0)), .inl a1, .inl a2, .inr (.inl (some 76))] (zCow C g) (fun r1 w1 => r1 = some (.inl 1) ∧ w1 = zCow C g) := by
  have hx := x_Co_cellAnew h
  rw [zEx_3] at hx
  refine zSpecH_of (by decide +kernel) rfl (Nat.le_of_ble_eq_true rfl) ?_
  show zB m_L_cellAnew (zR 11 1 6) (zFE (fun l A s => zLw l A s ∧ zNm m_L_cellAnew.1 s) (zFq 1 6 (fun k => k ≠ 42) (fun r1 w1 => r1 = some (.inl 1) ∧ w1 = zCow C g))) (fun k => k ≠ 42) 0 [some (.inr (.inl (some 0))), some (.inl a1), some (.inl a2), some (.inr (.inl (some 76))), none] [] (ziT C 0 TCo ++ [.inr (2, 1, g)]) 0 0
  refine zr_aload ⟨_, dL_cellAnew_0, rfl⟩ rfl ?_
  refine zr_iconst dL_cellAnew_1 (by decide) ?_
  refine zr_aload ⟨_, dL_cellAnew_2, rfl⟩ rfl ?_
  refine zr_load ⟨_, dL_cellAnew_3, rfl⟩ rfl ?_
  refine zr_load ⟨_, dL_cellAnew_4, rfl⟩ rfl ?_
  refine zr_thrown (wr := [.inr (2, 1, g)]) (rest := [.inl 0, .inr (.inl (some 76))]) (pre := []) (x := ⟨0, 10, 13, 35⟩) (suf := []) (hh := hh_cellAnew) (name := "java/lang/IndexOutOfBoundsException") (i := 4) (len := 2) hx (fun _ _ _ _ _ _ _ h => zLw_go h.1) (fun _ _ _ h => h) dL_cellAnew_5 ml_L_43 rfl rfl (by decide) (by decide) rfl rfl (Nat.le_of_ble_eq_true rfl) cw_cellAnew rfl (fun z hz => absurd hz List.not_mem_nil) (by decide) (by decide) lk_L_35 ca_3 (Or.inr ⟨dL_cellAnew_13, rfl⟩) (by decide) rfl (Nat.le_refl _) (Nat.le_refl _) ?_
  refine zr_iconst dL_cellAnew_15 (by decide) ?_
  exact zB_fe (zr_iret dL_cellAnew_16 rfl (Nat.le_refl _) (Nat.le_refl _) ⟨rfl, rfl⟩)
set_option maxRecDepth 100000 in
set_option maxHeartbeats 4000000 in
theorem la_past {C : zSt} {g : Int → Int} {a1 a2 v : Int} (h : f_Co_past a1 a2 C = some v) : zSpecH zLw hh_past 8 (fun k => k ≠ 42) 0 0 m_L_past [.inr (.inl (some 0)), .inl a1, .inl a2, .inr (.inl (some 76))] (zCow C g) (fun r1 w1 => r1 = some (.inl 0) ∧ w1 = zCow C (zup g 0 v)) := by
  have hc : zSpecF zTrv 2 zall 0 0 m_X11_past [.inr (.inl (some 0)), .inl a1, .inl a2] (ziT C 0 TCo) (fun r1 w1 => r1 = some (.inl v) ∧ w1 = ziT C 0 TCo) := by
    exact zSpec.F (t_Co_past h)
  refine zSpecH_of (by decide +kernel) rfl (Nat.le_of_ble_eq_true rfl) ?_
  show zB m_L_past (zR 8 0 0) (zFE (fun l A s => zLw l A s ∧ zNm m_L_past.1 s) (zFq 0 0 (fun k => k ≠ 42) (fun r1 w1 => r1 = some (.inl 0) ∧ w1 = zCow C (zup g 0 v)))) (fun k => k ≠ 42) 0 [some (.inr (.inl (some 0))), some (.inl a1), some (.inl a2), some (.inr (.inl (some 76))), none] [] (zCow C g) 0 0
  refine zr_aload ⟨_, dL_past_0, rfl⟩ rfl ?_
  refine zr_iconst dL_past_1 (by decide) ?_
  refine zr_aload ⟨_, dL_past_2, rfl⟩ rfl ?_
  refine zr_load ⟨_, dL_past_3, rfl⟩ rfl ?_
  refine zr_load ⟨_, dL_past_4, rfl⟩ rfl ?_
  refine zg_callW (r := some (.inl v)) (v := 42) (zRunQ_of (zrun_VW (f := zid) (rest := [.inl 0, .inr (.inl (some 76))]) dL_past_5 ml_L_46 zCow_0 rfl (by decide) (by decide) rfl (Nat.le_of_ble_eq_true rfl)) hc zMv_tr zMv_tr (zFr_Co (C' := C)).1 (zFr_Co (C' := C)).2.1 rfl rfl) zFr_Co (fun _ _ => True.intro) (by simp) (fun k h => h) rfl rfl (by show 0 + 0 ≤ 0; omega) (by show 0 + 0 ≤ 0; omega) ?_
  show zB m_L_past (zR 8 0 0) _ _ 8 [some (.inr (.inl (some 0))), some (.inl a1), some (.inl a2), some (.inr (.inl (some 76))), none] [.inl v, .inl 0, .inr (.inl (some 76))] (zCow C g) (0 + 0) (0 + 0)
  refine zr_i2l dL_past_8 ?_
  refine zr_lastore dL_past_9 zCow_76 ⟨by decide, by decide⟩ zCow_set ?_
  refine zr_goto (tgt := 17) dL_past_10 (by decide) ?_
  refine zr_iconst dL_past_17 (by decide) ?_
  exact zB_fe (zr_iret dL_past_18 rfl (by omega) (by omega) ⟨rfl, rfl⟩)
set_option maxRecDepth 100000 in
set_option maxHeartbeats 4000000 in
theorem lx_past_3 {C : zSt} {g : Int → Int} {a1 a2 : Int} (h : e_Co_past_ a1 a2 C = some 3) : zSpecH zLw hh_past 8 (fun k => k ≠ 42) 1 6 m_L_past [.inr (.inl (some 0)), .inl a1, .inl a2, .inr (.inl (some 76))] (zCow C g) (fun r1 w1 => r1 = some (.inl 1) ∧ w1 = zCow C g) := by
  have hx := x_Co_past h
  rw [zEx_3] at hx
  refine zSpecH_of (by decide +kernel) rfl (Nat.le_of_ble_eq_true rfl) ?_
  show zB m_L_past (zR 8 1 6) (zFE (fun l A s => zLw l A s ∧ zNm m_L_past.1 s) (zFq 1 6 (fun k => k ≠ 42) (fun r1 w1 => r1 = some (.inl 1) ∧ w1 = zCow C g))) (fun k => k ≠ 42) 0 [some (.inr (.inl (some 0))), some (.inl a1), some (.inl a2), some (.inr (.inl (some 76))), none] [] (ziT C 0 TCo ++ [.inr (2, 1, g)]) 0 0
  refine zr_aload ⟨_, dL_past_0, rfl⟩ rfl ?_
  refine zr_iconst dL_past_1 (by decide) ?_
  refine zr_aload ⟨_, dL_past_2, rfl⟩ rfl ?_
  refine zr_load ⟨_, dL_past_3, rfl⟩ rfl ?_
  refine zr_load ⟨_, dL_past_4, rfl⟩ rfl ?_
  refine zr_thrown (wr := [.inr (2, 1, g)]) (rest := [.inl 0, .inr (.inl (some 76))]) (pre := []) (x := ⟨0, 10, 13, 35⟩) (suf := []) (hh := hh_past) (name := "java/lang/IndexOutOfBoundsException") (i := 4) (len := 2) hx (fun _ _ _ _ _ _ _ h => zLw_go h.1) (fun _ _ _ h => h) dL_past_5 ml_L_46 rfl rfl (by decide) (by decide) rfl rfl (Nat.le_of_ble_eq_true rfl) cw_past rfl (fun z hz => absurd hz List.not_mem_nil) (by decide) (by decide) lk_L_35 ca_3 (Or.inr ⟨dL_past_13, rfl⟩) (by decide) rfl (Nat.le_refl _) (Nat.le_refl _) ?_
  refine zr_iconst dL_past_15 (by decide) ?_
  exact zB_fe (zr_iret dL_past_16 rfl (Nat.le_refl _) (Nat.le_refl _) ⟨rfl, rfl⟩)
set_option maxRecDepth 100000 in
set_option maxHeartbeats 4000000 in
theorem la_goesOn {C : zSt} {g : Int → Int} {a1 v : Int} (h : f_Co_goesOn a1 C = some v) : zSpecH zLw hh_goesOn 8 (fun k => k ≠ 42) 0 0 m_L_goesOn [.inr (.inl (some 0)), .inl a1, .inr (.inl (some 76))] (zCow C g) (fun r1 w1 => r1 = some (.inl 0) ∧ w1 = zCow C (zup g 0 (if v = 0 then 0 else 1))) := by
  have hc : zSpecF zTrv 2 zall 0 0 m_X11_goesOn [.inr (.inl (some 0)), .inl a1] (ziT C 0 TCo) (fun r1 w1 => r1 = some (.inl v) ∧ w1 = ziT C 0 TCo) := by
    exact zSpec.F (t_Co_goesOn h)
  refine zSpecH_of (by decide +kernel) rfl (Nat.le_of_ble_eq_true rfl) ?_
  show zB m_L_goesOn (zR 8 0 0) (zFE (fun l A s => zLw l A s ∧ zNm m_L_goesOn.1 s) (zFq 0 0 (fun k => k ≠ 42) (fun r1 w1 => r1 = some (.inl 0) ∧ w1 = zCow C (zup g 0 (if v = 0 then 0 else 1))))) (fun k => k ≠ 42) 0 [some (.inr (.inl (some 0))), some (.inl a1), some (.inr (.inl (some 76))), none] [] (zCow C g) 0 0
  refine zr_aload ⟨_, dL_goesOn_0, rfl⟩ rfl ?_
  refine zr_iconst dL_goesOn_1 (by decide) ?_
  refine zr_aload ⟨_, dL_goesOn_2, rfl⟩ rfl ?_
  refine zr_load ⟨_, dL_goesOn_3, rfl⟩ rfl ?_
  refine zg_callW (r := some (.inl v)) (v := 42) (zRunQ_of (zrun_VW (f := zid) (rest := [.inl 0, .inr (.inl (some 76))]) dL_goesOn_4 ml_L_49 zCow_0 rfl (by decide) (by decide) rfl (Nat.le_of_ble_eq_true rfl)) hc zMv_tr zMv_tr (zFr_Co (C' := C)).1 (zFr_Co (C' := C)).2.1 rfl rfl) zFr_Co (fun _ _ => True.intro) (by simp) (fun k h => h) rfl rfl (by show 0 + 0 ≤ 0; omega) (by show 0 + 0 ≤ 0; omega) ?_
  show zB m_L_goesOn (zR 8 0 0) _ _ 7 [some (.inr (.inl (some 0))), some (.inl a1), some (.inr (.inl (some 76))), none] [.inl v, .inl 0, .inr (.inl (some 76))] (zCow C g) (0 + 0) (0 + 0)
  refine zr_if_eq (tgt := 14) dL_goesOn_7 (by decide) (fun hv => ?_) (fun hv => ?_)
  · rw [if_pos hv]
    refine zr_lconst (x := 0) dL_goesOn_14 rfl (by decide) ?_
    refine zr_lastore dL_goesOn_15 zCow_76 ⟨by decide, by decide⟩ zCow_set ?_
    refine zr_goto (tgt := 22) dL_goesOn_16 (by decide) ?_
    refine zr_iconst dL_goesOn_22 (by decide) ?_
    exact zB_fe (zr_iret dL_goesOn_23 rfl (by omega) (by omega) ⟨rfl, rfl⟩)
  · rw [if_neg hv]
    refine zr_lconst (x := 1) dL_goesOn_10 rfl (by decide) ?_
    refine zr_goto (tgt := 15) dL_goesOn_11 (by decide) ?_
    refine zr_lastore dL_goesOn_15 zCow_76 ⟨by decide, by decide⟩ zCow_set ?_
    refine zr_goto (tgt := 22) dL_goesOn_16 (by decide) ?_
    refine zr_iconst dL_goesOn_22 (by decide) ?_
    exact zB_fe (zr_iret dL_goesOn_23 rfl (by omega) (by omega) ⟨rfl, rfl⟩)
set_option maxRecDepth 100000 in
set_option maxHeartbeats 4000000 in
theorem lx_goesOn_3 {C : zSt} {g : Int → Int} {a1 : Int} (h : e_Co_goesOn_ a1 C = some 3) : zSpecH zLw hh_goesOn 8 (fun k => k ≠ 42) 1 6 m_L_goesOn [.inr (.inl (some 0)), .inl a1, .inr (.inl (some 76))] (zCow C g) (fun r1 w1 => r1 = some (.inl 1) ∧ w1 = zCow C g) := by
  have hx := x_Co_goesOn h
  rw [zEx_3] at hx
  refine zSpecH_of (by decide +kernel) rfl (Nat.le_of_ble_eq_true rfl) ?_
  show zB m_L_goesOn (zR 8 1 6) (zFE (fun l A s => zLw l A s ∧ zNm m_L_goesOn.1 s) (zFq 1 6 (fun k => k ≠ 42) (fun r1 w1 => r1 = some (.inl 1) ∧ w1 = zCow C g))) (fun k => k ≠ 42) 0 [some (.inr (.inl (some 0))), some (.inl a1), some (.inr (.inl (some 76))), none] [] (ziT C 0 TCo ++ [.inr (2, 1, g)]) 0 0
  refine zr_aload ⟨_, dL_goesOn_0, rfl⟩ rfl ?_
  refine zr_iconst dL_goesOn_1 (by decide) ?_
  refine zr_aload ⟨_, dL_goesOn_2, rfl⟩ rfl ?_
  refine zr_load ⟨_, dL_goesOn_3, rfl⟩ rfl ?_
  refine zr_thrown (wr := [.inr (2, 1, g)]) (rest := [.inl 0, .inr (.inl (some 76))]) (pre := []) (x := ⟨0, 16, 19, 35⟩) (suf := []) (hh := hh_goesOn) (name := "java/lang/IndexOutOfBoundsException") (i := 3) (len := 1) hx (fun _ _ _ _ _ _ _ h => zLw_go h.1) (fun _ _ _ h => h) dL_goesOn_4 ml_L_49 rfl rfl (by decide) (by decide) rfl rfl (Nat.le_of_ble_eq_true rfl) cw_goesOn rfl (fun z hz => absurd hz List.not_mem_nil) (by decide) (by decide) lk_L_35 ca_3 (Or.inl ⟨_, dL_goesOn_19, rfl, rfl⟩) (by decide) rfl (Nat.le_refl _) (Nat.le_refl _) ?_
  refine zr_iconst dL_goesOn_20 (by decide) ?_
  exact zB_fe (zr_iret dL_goesOn_21 rfl (Nat.le_refl _) (Nat.le_refl _) ⟨rfl, rfl⟩)
set_option maxRecDepth 100000 in
set_option maxHeartbeats 4000000 in
theorem la_title {C : zSt} {g : Int → Int} {a1 v : Int} (h : f_Co_title a1 C = some v) : zSpecH zLw hh_title 8 (fun k => k ≠ 42) 0 0 m_L_title [.inr (.inl (some 0)), .inl a1, .inr (.inl (some 76))] (zCow C g) (fun r1 w1 => r1 = some (.inl 0) ∧ w1 = zCow C (zup g 0 v)) := by
  have hc : zSpecF zTrv 3 zall 0 0 m_X11_title [.inr (.inl (some 0)), .inl a1] (ziT C 0 TCo) (fun r1 w1 => r1 = some (.inl v) ∧ w1 = ziT C 0 TCo) := by
    exact zSpec.F (t_Co_title h)
  refine zSpecH_of (by decide +kernel) rfl (Nat.le_of_ble_eq_true rfl) ?_
  show zB m_L_title (zR 8 0 0) (zFE (fun l A s => zLw l A s ∧ zNm m_L_title.1 s) (zFq 0 0 (fun k => k ≠ 42) (fun r1 w1 => r1 = some (.inl 0) ∧ w1 = zCow C (zup g 0 v)))) (fun k => k ≠ 42) 0 [some (.inr (.inl (some 0))), some (.inl a1), some (.inr (.inl (some 76))), none] [] (zCow C g) 0 0
  refine zr_aload ⟨_, dL_title_0, rfl⟩ rfl ?_
  refine zr_iconst dL_title_1 (by decide) ?_
  refine zr_aload ⟨_, dL_title_2, rfl⟩ rfl ?_
  refine zr_load ⟨_, dL_title_3, rfl⟩ rfl ?_
  refine zg_callW (r := some (.inl v)) (v := 42) (zRunQ_of (zrun_VW (f := zid) (rest := [.inl 0, .inr (.inl (some 76))]) dL_title_4 ml_L_53 zCow_0 rfl (by decide) (by decide) rfl (Nat.le_of_ble_eq_true rfl)) hc zMv_tr zMv_tr (zFr_Co (C' := C)).1 (zFr_Co (C' := C)).2.1 rfl rfl) zFr_Co (fun _ _ => True.intro) (by simp) (fun k h => h) rfl rfl (by show 0 + 0 ≤ 0; omega) (by show 0 + 0 ≤ 0; omega) ?_
  show zB m_L_title (zR 8 0 0) _ _ 7 [some (.inr (.inl (some 0))), some (.inl a1), some (.inr (.inl (some 76))), none] [.inl v, .inl 0, .inr (.inl (some 76))] (zCow C g) (0 + 0) (0 + 0)
  refine zr_i2l dL_title_7 ?_
  refine zr_lastore dL_title_8 zCow_76 ⟨by decide, by decide⟩ zCow_set ?_
  refine zr_goto (tgt := 15) dL_title_9 (by decide) ?_
  refine zr_iconst dL_title_15 (by decide) ?_
  exact zB_fe (zr_iret dL_title_16 rfl (by omega) (by omega) ⟨rfl, rfl⟩)
set_option maxRecDepth 100000 in
set_option maxHeartbeats 4000000 in
theorem lx_title_3 {C : zSt} {g : Int → Int} {a1 : Int} (h : e_Co_title_ a1 C = some 3) : zSpecH zLw hh_title 8 (fun k => k ≠ 42) 1 6 m_L_title [.inr (.inl (some 0)), .inl a1, .inr (.inl (some 76))] (zCow C g) (fun r1 w1 => r1 = some (.inl 1) ∧ w1 = zCow C g) := by
  have hx := x_Co_title h
  rw [zEx_3] at hx
  refine zSpecH_of (by decide +kernel) rfl (Nat.le_of_ble_eq_true rfl) ?_
  show zB m_L_title (zR 8 1 6) (zFE (fun l A s => zLw l A s ∧ zNm m_L_title.1 s) (zFq 1 6 (fun k => k ≠ 42) (fun r1 w1 => r1 = some (.inl 1) ∧ w1 = zCow C g))) (fun k => k ≠ 42) 0 [some (.inr (.inl (some 0))), some (.inl a1), some (.inr (.inl (some 76))), none] [] (ziT C 0 TCo ++ [.inr (2, 1, g)]) 0 0
  refine zr_aload ⟨_, dL_title_0, rfl⟩ rfl ?_
  refine zr_iconst dL_title_1 (by decide) ?_
  refine zr_aload ⟨_, dL_title_2, rfl⟩ rfl ?_
  refine zr_load ⟨_, dL_title_3, rfl⟩ rfl ?_
  refine zr_thrown (wr := [.inr (2, 1, g)]) (rest := [.inl 0, .inr (.inl (some 76))]) (pre := []) (x := ⟨0, 9, 12, 35⟩) (suf := []) (hh := hh_title) (name := "java/lang/IndexOutOfBoundsException") (i := 3) (len := 1) hx (fun _ _ _ _ _ _ _ h => zLw_go h.1) (fun _ _ _ h => h) dL_title_4 ml_L_53 rfl rfl (by decide) (by decide) rfl rfl (Nat.le_of_ble_eq_true rfl) cw_title rfl (fun z hz => absurd hz List.not_mem_nil) (by decide) (by decide) lk_L_35 ca_3 (Or.inl ⟨_, dL_title_12, rfl, rfl⟩) (by decide) rfl (Nat.le_refl _) (Nat.le_refl _) ?_
  refine zr_iconst dL_title_13 (by decide) ?_
  exact zB_fe (zr_iret dL_title_14 rfl (Nat.le_refl _) (Nat.le_refl _) ⟨rfl, rfl⟩)
set_option maxRecDepth 100000 in
set_option maxHeartbeats 4000000 in
theorem la_least {C C' : zSt} {g : Int → Int} {a1 v : Int} (h : f_Co_least a1 C = some (v, C')) : zSpecH zLw hh_least 8 (fun k => k ≠ 42) 0 0 m_L_least [.inr (.inl (some 0)), .inl a1, .inr (.inl (some 76))] (zCow C g) (fun r1 w1 => r1 = some (.inl 0) ∧ w1 = zCow C' (zup g 0 v)) := by
  have hc : zSpecF zTrv 4 zall 0 0 m_X11_least [.inr (.inl (some 0)), .inl a1] (ziT C 0 TCo) (fun r1 w1 => r1 = some (.inl v) ∧ w1 = ziT C' 0 TCo) := by
    exact zSpec.F (t_Co_least h)
  refine zSpecH_of (by decide +kernel) rfl (Nat.le_of_ble_eq_true rfl) ?_
  show zB m_L_least (zR 8 0 0) (zFE (fun l A s => zLw l A s ∧ zNm m_L_least.1 s) (zFq 0 0 (fun k => k ≠ 42) (fun r1 w1 => r1 = some (.inl 0) ∧ w1 = zCow C' (zup g 0 v)))) (fun k => k ≠ 42) 0 [some (.inr (.inl (some 0))), some (.inl a1), some (.inr (.inl (some 76))), none] [] (zCow C g) 0 0
  refine zr_aload ⟨_, dL_least_0, rfl⟩ rfl ?_
  refine zr_iconst dL_least_1 (by decide) ?_
  refine zr_aload ⟨_, dL_least_2, rfl⟩ rfl ?_
  refine zr_load ⟨_, dL_least_3, rfl⟩ rfl ?_
  refine zg_callW (r := some (.inl v)) (v := 42) (zRunQ_of (zrun_VW (f := zid) (rest := [.inl 0, .inr (.inl (some 76))]) dL_least_4 ml_L_56 zCow_0 rfl (by decide) (by decide) rfl (Nat.le_of_ble_eq_true rfl)) hc zMv_tr zMv_tr (zFr_Co (C' := C')).1 (zFr_Co (C' := C')).2.1 rfl rfl) zFr_Co (fun _ _ => True.intro) (by simp) (fun k h => h) rfl rfl (by show 0 + 0 ≤ 0; omega) (by show 0 + 0 ≤ 0; omega) ?_
  show zB m_L_least (zR 8 0 0) _ _ 7 [some (.inr (.inl (some 0))), some (.inl a1), some (.inr (.inl (some 76))), none] [.inl v, .inl 0, .inr (.inl (some 76))] (zCow C' g) (0 + 0) (0 + 0)
  refine zr_i2l dL_least_7 ?_
  refine zr_lastore dL_least_8 zCow_76 ⟨by decide, by decide⟩ zCow_set ?_
  refine zr_goto (tgt := 15) dL_least_9 (by decide) ?_
  refine zr_iconst dL_least_15 (by decide) ?_
  exact zB_fe (zr_iret dL_least_16 rfl (by omega) (by omega) ⟨rfl, rfl⟩)
set_option maxRecDepth 100000 in
set_option maxHeartbeats 4000000 in
theorem lx_least_3 {C : zSt} {g : Int → Int} {a1 : Int} (h : e_Co_least_ a1 C = some 3) : zSpecH zLw hh_least 8 (fun k => k ≠ 42) 1 6 m_L_least [.inr (.inl (some 0)), .inl a1, .inr (.inl (some 76))] (zCow C g) (fun r1 w1 => r1 = some (.inl 1) ∧ w1 = zCow C g) := by
  have hx := x_Co_least h
  rw [zEx_3] at hx
  refine zSpecH_of (by decide +kernel) rfl (Nat.le_of_ble_eq_true rfl) ?_
  show zB m_L_least (zR 8 1 6) (zFE (fun l A s => zLw l A s ∧ zNm m_L_least.1 s) (zFq 1 6 (fun k => k ≠ 42) (fun r1 w1 => r1 = some (.inl 1) ∧ w1 = zCow C g))) (fun k => k ≠ 42) 0 [some (.inr (.inl (some 0))), some (.inl a1), some (.inr (.inl (some 76))), none] [] (ziT C 0 TCo ++ [.inr (2, 1, g)]) 0 0
  refine zr_aload ⟨_, dL_least_0, rfl⟩ rfl ?_
  refine zr_iconst dL_least_1 (by decide) ?_
  refine zr_aload ⟨_, dL_least_2, rfl⟩ rfl ?_
  refine zr_load ⟨_, dL_least_3, rfl⟩ rfl ?_
  refine zr_thrown (wr := [.inr (2, 1, g)]) (rest := [.inl 0, .inr (.inl (some 76))]) (pre := []) (x := ⟨0, 9, 12, 35⟩) (suf := []) (hh := hh_least) (name := "java/lang/IndexOutOfBoundsException") (i := 3) (len := 1) hx (fun _ _ _ _ _ _ _ h => zLw_go h.1) (fun _ _ _ h => h) dL_least_4 ml_L_56 rfl rfl (by decide) (by decide) rfl rfl (Nat.le_of_ble_eq_true rfl) cw_least rfl (fun z hz => absurd hz List.not_mem_nil) (by decide) (by decide) lk_L_35 ca_3 (Or.inl ⟨_, dL_least_12, rfl, rfl⟩) (by decide) rfl (Nat.le_refl _) (Nat.le_refl _) ?_
  refine zr_iconst dL_least_13 (by decide) ?_
  exact zB_fe (zr_iret dL_least_14 rfl (Nat.le_refl _) (Nat.le_refl _) ⟨rfl, rfl⟩)
set_option maxRecDepth 100000 in
set_option maxHeartbeats 4000000 in
theorem la_told {C : zSt} {g : Int → Int} {a1 v : Int} (h : f_Co_told a1 C = some v) : zSpecH zLw hh_told 8 (fun k => k ≠ 42) 0 0 m_L_told [.inr (.inl (some 0)), .inl a1, .inr (.inl (some 76))] (zCow C g) (fun r1 w1 => r1 = some (.inl 0) ∧ w1 = zCow C (zup g 0 v)) := by
  have hc : zSpecF zTrv 3 zall 0 0 m_X11_told [.inr (.inl (some 0)), .inl a1] (ziT C 0 TCo) (fun r1 w1 => r1 = some (.inl v) ∧ w1 = ziT C 0 TCo) := by
    exact zSpec.F (t_Co_told h)
  refine zSpecH_of (by decide +kernel) rfl (Nat.le_of_ble_eq_true rfl) ?_
  show zB m_L_told (zR 8 0 0) (zFE (fun l A s => zLw l A s ∧ zNm m_L_told.1 s) (zFq 0 0 (fun k => k ≠ 42) (fun r1 w1 => r1 = some (.inl 0) ∧ w1 = zCow C (zup g 0 v)))) (fun k => k ≠ 42) 0 [some (.inr (.inl (some 0))), some (.inl a1), some (.inr (.inl (some 76))), none] [] (zCow C g) 0 0
  refine zr_aload ⟨_, dL_told_0, rfl⟩ rfl ?_
  refine zr_iconst dL_told_1 (by decide) ?_
  refine zr_aload ⟨_, dL_told_2, rfl⟩ rfl ?_
  refine zr_load ⟨_, dL_told_3, rfl⟩ rfl ?_
  refine zg_callW (r := some (.inl v)) (v := 42) (zRunQ_of (zrun_VW (f := zid) (rest := [.inl 0, .inr (.inl (some 76))]) dL_told_4 ml_L_59 zCow_0 rfl (by decide) (by decide) rfl (Nat.le_of_ble_eq_true rfl)) hc zMv_tr zMv_tr (zFr_Co (C' := C)).1 (zFr_Co (C' := C)).2.1 rfl rfl) zFr_Co (fun _ _ => True.intro) (by simp) (fun k h => h) rfl rfl (by show 0 + 0 ≤ 0; omega) (by show 0 + 0 ≤ 0; omega) ?_
  show zB m_L_told (zR 8 0 0) _ _ 7 [some (.inr (.inl (some 0))), some (.inl a1), some (.inr (.inl (some 76))), none] [.inl v, .inl 0, .inr (.inl (some 76))] (zCow C g) (0 + 0) (0 + 0)
  refine zr_i2l dL_told_7 ?_
  refine zr_lastore dL_told_8 zCow_76 ⟨by decide, by decide⟩ zCow_set ?_
  refine zr_goto (tgt := 15) dL_told_9 (by decide) ?_
  refine zr_iconst dL_told_15 (by decide) ?_
  exact zB_fe (zr_iret dL_told_16 rfl (by omega) (by omega) ⟨rfl, rfl⟩)
set_option maxRecDepth 100000 in
set_option maxHeartbeats 4000000 in
theorem lx_told_1 {C : zSt} {g : Int → Int} {a1 : Int} (h : e_Co_told_ a1 C = some 1) : zSpecH zLw hh_told 8 (fun k => k ≠ 42) 1 6 m_L_told [.inr (.inl (some 0)), .inl a1, .inr (.inl (some 76))] (zCow C g) (fun r1 w1 => r1 = some (.inl 1) ∧ w1 = zCow C g) := by
  have hx := x_Co_told h
  rw [zEx_1] at hx
  refine zSpecH_of (by decide +kernel) rfl (Nat.le_of_ble_eq_true rfl) ?_
  show zB m_L_told (zR 8 1 6) (zFE (fun l A s => zLw l A s ∧ zNm m_L_told.1 s) (zFq 1 6 (fun k => k ≠ 42) (fun r1 w1 => r1 = some (.inl 1) ∧ w1 = zCow C g))) (fun k => k ≠ 42) 0 [some (.inr (.inl (some 0))), some (.inl a1), some (.inr (.inl (some 76))), none] [] (ziT C 0 TCo ++ [.inr (2, 1, g)]) 0 0
  refine zr_aload ⟨_, dL_told_0, rfl⟩ rfl ?_
  refine zr_iconst dL_told_1 (by decide) ?_
  refine zr_aload ⟨_, dL_told_2, rfl⟩ rfl ?_
  refine zr_load ⟨_, dL_told_3, rfl⟩ rfl ?_
  refine zr_thrown (wr := [.inr (2, 1, g)]) (rest := [.inl 0, .inr (.inl (some 76))]) (pre := []) (x := ⟨0, 9, 12, 13⟩) (suf := []) (hh := hh_told) (name := "java/lang/IllegalArgumentException") (i := 3) (len := 1) hx (fun _ _ _ _ _ _ _ h => zLw_go h.1) (fun _ _ _ h => h) dL_told_4 ml_L_59 rfl rfl (by decide) (by decide) rfl rfl (Nat.le_of_ble_eq_true rfl) cw_told rfl (fun z hz => absurd hz List.not_mem_nil) (by decide) (by decide) lk_L_13 ca_1 (Or.inl ⟨_, dL_told_12, rfl, rfl⟩) (by decide) rfl (Nat.le_refl _) (Nat.le_refl _) ?_
  refine zr_iconst dL_told_13 (by decide) ?_
  exact zB_fe (zr_iret dL_told_14 rfl (Nat.le_refl _) (Nat.le_refl _) ⟨rfl, rfl⟩)
