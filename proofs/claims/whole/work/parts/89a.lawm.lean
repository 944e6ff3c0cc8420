/-! ===== the law's own methods: each makes a call of the class and catches what it throws ===== -/
theorem zSpecG.F {d v : Nat} {M : zM} {av : List zAV} {T : List zTC} {s : zSt} {r : Option zAV} {s' : zSt} (h : zSpecG d v M av T s r s') : zSpecF zTrv d (fun k => k ≠ v) (zpot v s - zpot v s') (zpot v s - zpot v s') M av (ziT s 0 T) (fun r1 w1 => r1 = r ∧ w1 = ziT s' 0 T) := zSpec.F h
theorem zSpecT.F {d : Nat} {M : zM} {av : List zAV} {T : List zTC} {s : zSt} {r : Option zAV} {s' : zSt} (h : zSpecT d M av T s r s') : zSpecF zTrv d zall 0 0 M av (ziT s 0 T) (fun r1 w1 => r1 = r ∧ w1 = ziT s' 0 T) := zSpec.F h
def zCow (C : zSt) (g : Int → Int) : List zAC := ziT C 0 TCo ++ [.inr (2, 1, g)]
theorem TCo_len : TCo.length = 76 := rfl
theorem TRf_len : TRf.length = 16 := rfl
theorem TCo_lt : TCo.all (zlTb 76) = true := by decide +kernel
theorem TRf_lt : TRf.all (zlTb 16) = true := by decide +kernel
theorem zCow_0 {C : zSt} {g : Int → Int} : (zCow C g)[zid 0]? = some (.inl (11, ziF C 0 0 [some 1, some 3, some 5, some 14, some 41, some 43, some 70])) := rfl
theorem zCow_76 {C : zSt} {g : Int → Int} : (zCow C g)[76]? = some (.inr (2, 1, g)) := by
  unfold zCow
  rw [List.getElem?_append_right (by rw [ziT_len]; exact Nat.le_refl _), ziT_len]
  rfl
theorem zCow_set {C : zSt} {g g' : Int → Int} : (zCow C g).set 76 (.inr (2, 1, g')) = zCow C g' := by
  unfold zCow
  rw [List.set_append_right _ _ (by rw [ziT_len]; exact Nat.le_refl _), ziT_len]
  rfl
theorem zFr_Co {C C' : zSt} {g : Int → Int} : zFrm (zCow C g) (ziT C 0 TCo) (ziT C' 0 TCo) (zCow C' g) zid 42 :=
  zFr_pre (by rw [ziT_len, ziT_len]) (by rw [ziT_len]; decide) (fun c hc => by rw [List.mem_singleton] at hc; rw [hc]; rfl)
theorem lk_L_13 : Cond.classLink RL 13 "java/lang/IllegalArgumentException" ∈ zGW := zmem (i := 1320) (by decide +kernel) rfl
theorem ca_1 : Cond.castable "java/lang/IllegalArgumentException" "java/lang/IllegalArgumentException" ∈ zXW := zmemX (i := 693) (by decide +kernel) rfl
theorem lk_L_15 : Cond.classLink RL 15 "java/lang/IllegalStateException" ∈ zGW := zmem (i := 1321) (by decide +kernel) rfl
theorem ca_2 : Cond.castable "java/lang/IllegalStateException" "java/lang/IllegalStateException" ∈ zXW := zmemX (i := 1339) (by decide +kernel) rfl
theorem lk_L_35 : Cond.classLink RL 35 "java/lang/IndexOutOfBoundsException" ∈ zGW := zmem (i := 1404) (by decide +kernel) rfl
theorem ca_3 : Cond.castable "java/lang/IndexOutOfBoundsException" "java/lang/IndexOutOfBoundsException" ∈ zXW := zmemX (i := 1415) (by decide +kernel) rfl
def hh_write : List (Nat × Nat × Nat × Nat) := [(0, 9, 12, 13), (0, 9, 15, 15)]
abbrev m_L_write : zM := (yL_write, cL_write, 4, (some .int))
theorem cw_write : Cond.codeWith m_L_write.1 m_L_write.2.1 m_L_write.2.2.1 m_L_write.2.2.2 hh_write ∈ zGW := zmem (i := 1319) (by decide +kernel) rfl
def hh_code : List (Nat × Nat × Nat × Nat) := [(0, 14, 17, 13), (0, 14, 21, 15)]
abbrev m_L_code : zM := (yL_code, cL_code, 7, (some .int))
theorem cw_code : Cond.codeWith m_L_code.1 m_L_code.2.1 m_L_code.2.2.1 m_L_code.2.2.2 hh_code ∈ zGW := zmem (i := 1359) (by decide +kernel) rfl
def hh_type : List (Nat × Nat × Nat × Nat) := [(0, 9, 12, 13)]
abbrev m_L_type : zM := (yL_type, cL_type, 4, (some .int))
theorem cw_type : Cond.codeWith m_L_type.1 m_L_type.2.1 m_L_type.2.2.1 m_L_type.2.2.2 hh_type ∈ zGW := zmem (i := 1375) (by decide +kernel) rfl
def hh_key : List (Nat × Nat × Nat × Nat) := [(0, 10, 13, 13)]
abbrev m_L_key : zM := (yL_key, cL_key, 5, (some .int))
theorem cw_key : Cond.codeWith m_L_key.1 m_L_key.2.1 m_L_key.2.2.1 m_L_key.2.2.2 hh_key ∈ zGW := zmem (i := 1382) (by decide +kernel) rfl
def hh_draft : List (Nat × Nat × Nat × Nat) := [(0, 9, 12, 13), (0, 9, 15, 15)]
abbrev m_L_draft : zM := (yL_draft, cL_draft, 4, (some .int))
theorem cw_draft : Cond.codeWith m_L_draft.1 m_L_draft.2.1 m_L_draft.2.2.1 m_L_draft.2.2.2 hh_draft ∈ zGW := zmem (i := 1394) (by decide +kernel) rfl
def hh_mouse : List (Nat × Nat × Nat × Nat) := [(0, 12, 15, 35), (0, 12, 19, 13)]
abbrev m_L_mouse : zM := (yL_mouse, cL_mouse, 6, (some .int))
theorem cw_mouse : Cond.codeWith m_L_mouse.1 m_L_mouse.2.1 m_L_mouse.2.2.1 m_L_mouse.2.2.2 hh_mouse ∈ zGW := zmem (i := 1403) (by decide +kernel) rfl
def hh_size : List (Nat × Nat × Nat × Nat) := [(0, 10, 13, 13)]
abbrev m_L_size : zM := (yL_size, cL_size, 5, (some .int))
theorem cw_size : Cond.codeWith m_L_size.1 m_L_size.2.1 m_L_size.2.2.1 m_L_size.2.2.2 hh_size ∈ zGW := zmem (i := 1429) (by decide +kernel) rfl
def hh_cell : List (Nat × Nat × Nat × Nat) := [(0, 10, 13, 35)]
abbrev m_L_cell : zM := (yL_cell, cL_cell, 5, (some .int))
theorem cw_cell : Cond.codeWith m_L_cell.1 m_L_cell.2.1 m_L_cell.2.2.1 m_L_cell.2.2.2 hh_cell ∈ zGW := zmem (i := 1530) (by decide +kernel) rfl
def hh_cellAnew : List (Nat × Nat × Nat × Nat) := [(0, 10, 13, 35)]
abbrev m_L_cellAnew : zM := (yL_cellAnew, cL_cellAnew, 5, (some .int))
theorem cw_cellAnew : Cond.codeWith m_L_cellAnew.1 m_L_cellAnew.2.1 m_L_cellAnew.2.2.1 m_L_cellAnew.2.2.2 hh_cellAnew ∈ zGW := zmem (i := 1538) (by decide +kernel) rfl
def hh_past : List (Nat × Nat × Nat × Nat) := [(0, 10, 13, 35)]
abbrev m_L_past : zM := (yL_past, cL_past, 5, (some .int))
theorem cw_past : Cond.codeWith m_L_past.1 m_L_past.2.1 m_L_past.2.2.1 m_L_past.2.2.2 hh_past ∈ zGW := zmem (i := 1552) (by decide +kernel) rfl
def hh_goesOn : List (Nat × Nat × Nat × Nat) := [(0, 16, 19, 35)]
abbrev m_L_goesOn : zM := (yL_goesOn, cL_goesOn, 4, (some .int))
theorem cw_goesOn : Cond.codeWith m_L_goesOn.1 m_L_goesOn.2.1 m_L_goesOn.2.2.1 m_L_goesOn.2.2.2 hh_goesOn ∈ zGW := zmem (i := 1560) (by decide +kernel) rfl
def hh_title : List (Nat × Nat × Nat × Nat) := [(0, 9, 12, 35)]
abbrev m_L_title : zM := (yL_title, cL_title, 4, (some .int))
theorem cw_title : Cond.codeWith m_L_title.1 m_L_title.2.1 m_L_title.2.2.1 m_L_title.2.2.2 hh_title ∈ zGW := zmem (i := 1570) (by decide +kernel) rfl
def hh_least : List (Nat × Nat × Nat × Nat) := [(0, 9, 12, 35)]
abbrev m_L_least : zM := (yL_least, cL_least, 4, (some .int))
theorem cw_least : Cond.codeWith m_L_least.1 m_L_least.2.1 m_L_least.2.2.1 m_L_least.2.2.2 hh_least ∈ zGW := zmem (i := 1579) (by decide +kernel) rfl
def hh_told : List (Nat × Nat × Nat × Nat) := [(0, 9, 12, 13)]
abbrev m_L_told : zM := (yL_told, cL_told, 4, (some .int))
theorem cw_told : Cond.codeWith m_L_told.1 m_L_told.2.1 m_L_told.2.2.1 m_L_told.2.2.2 hh_told ∈ zGW := zmem (i := 1586) (by decide +kernel) rfl
theorem q_X11_write : Cond.instanceMethod m_X11_write.1 ∈ zGW ∧ Cond.selects RX11 m_X11_write.1 m_X11_write.1 ∈ zGW ∧ Cond.initialized RX11 ∈ zGW ∧ Cond.code m_X11_write.1 m_X11_write.2.1 m_X11_write.2.2.1 m_X11_write.2.2.2 ∈ zGW := ⟨zmem (i := 1323) (by decide +kernel) rfl, zmem (i := 1324) (by decide +kernel) rfl, zmem (i := 127) (by decide +kernel) rfl, zmem (i := 1325) (by decide +kernel) rfl⟩
theorem ml_L_7 : zLV RL 7 11 1 m_X11_write := ⟨RX11, TX11, 7, rfl, zall4 (zmem (i := 1322) (by decide +kernel) rfl) q_X11_write.1 q_X11_write.2.1 q_X11_write.2.2.1, q_X11_write.2.2.2, by decide +kernel⟩
theorem q_X11_code : Cond.instanceMethod m_X11_code.1 ∈ zGW ∧ Cond.selects RX11 m_X11_code.1 m_X11_code.1 ∈ zGW ∧ Cond.initialized RX11 ∈ zGW ∧ Cond.code m_X11_code.1 m_X11_code.2.1 m_X11_code.2.2.1 m_X11_code.2.2.2 ∈ zGW := ⟨zmem (i := 1361) (by decide +kernel) rfl, zmem (i := 1362) (by decide +kernel) rfl, zmem (i := 127) (by decide +kernel) rfl, zmem (i := 1363) (by decide +kernel) rfl⟩
theorem ml_L_17 : zLV RL 17 11 4 m_X11_code := ⟨RX11, TX11, 7, rfl, zall4 (zmem (i := 1360) (by decide +kernel) rfl) q_X11_code.1 q_X11_code.2.1 q_X11_code.2.2.1, q_X11_code.2.2.2, by decide +kernel⟩
theorem q_X11_type : Cond.instanceMethod m_X11_type.1 ∈ zGW ∧ Cond.selects RX11 m_X11_type.1 m_X11_type.1 ∈ zGW ∧ Cond.initialized RX11 ∈ zGW ∧ Cond.code m_X11_type.1 m_X11_type.2.1 m_X11_type.2.2.1 m_X11_type.2.2.2 ∈ zGW := ⟨zmem (i := 1377) (by decide +kernel) rfl, zmem (i := 1378) (by decide +kernel) rfl, zmem (i := 127) (by decide +kernel) rfl, zmem (i := 1379) (by decide +kernel) rfl⟩
theorem ml_L_21 : zLV RL 21 11 1 m_X11_type := ⟨RX11, TX11, 7, rfl, zall4 (zmem (i := 1376) (by decide +kernel) rfl) q_X11_type.1 q_X11_type.2.1 q_X11_type.2.2.1, q_X11_type.2.2.2, by decide +kernel⟩
theorem q_X11_key : Cond.instanceMethod m_X11_key.1 ∈ zGW ∧ Cond.selects RX11 m_X11_key.1 m_X11_key.1 ∈ zGW ∧ Cond.initialized RX11 ∈ zGW ∧ Cond.code m_X11_key.1 m_X11_key.2.1 m_X11_key.2.2.1 m_X11_key.2.2.2 ∈ zGW := ⟨zmem (i := 1384) (by decide +kernel) rfl, zmem (i := 1385) (by decide +kernel) rfl, zmem (i := 127) (by decide +kernel) rfl, zmem (i := 1386) (by decide +kernel) rfl⟩
theorem ml_L_24 : zLV RL 24 11 2 m_X11_key := ⟨RX11, TX11, 7, rfl, zall4 (zmem (i := 1383) (by decide +kernel) rfl) q_X11_key.1 q_X11_key.2.1 q_X11_key.2.2.1, q_X11_key.2.2.2, by decide +kernel⟩
theorem q_X11_draft : Cond.instanceMethod m_X11_draft.1 ∈ zGW ∧ Cond.selects RX11 m_X11_draft.1 m_X11_draft.1 ∈ zGW ∧ Cond.initialized RX11 ∈ zGW ∧ Cond.code m_X11_draft.1 m_X11_draft.2.1 m_X11_draft.2.2.1 m_X11_draft.2.2.2 ∈ zGW := ⟨zmem (i := 1396) (by decide +kernel) rfl, zmem (i := 1397) (by decide +kernel) rfl, zmem (i := 127) (by decide +kernel) rfl, zmem (i := 1398) (by decide +kernel) rfl⟩
theorem ml_L_28 : zLV RL 28 11 1 m_X11_draft := ⟨RX11, TX11, 7, rfl, zall4 (zmem (i := 1395) (by decide +kernel) rfl) q_X11_draft.1 q_X11_draft.2.1 q_X11_draft.2.2.1, q_X11_draft.2.2.2, by decide +kernel⟩
theorem q_X11_mouse : Cond.instanceMethod m_X11_mouse.1 ∈ zGW ∧ Cond.selects RX11 m_X11_mouse.1 m_X11_mouse.1 ∈ zGW ∧ Cond.initialized RX11 ∈ zGW ∧ Cond.code m_X11_mouse.1 m_X11_mouse.2.1 m_X11_mouse.2.2.1 m_X11_mouse.2.2.2 ∈ zGW := ⟨zmem (i := 1406) (by decide +kernel) rfl, zmem (i := 1407) (by decide +kernel) rfl, zmem (i := 127) (by decide +kernel) rfl, zmem (i := 1408) (by decide +kernel) rfl⟩
theorem ml_L_31 : zLV RL 31 11 3 m_X11_mouse := ⟨RX11, TX11, 7, rfl, zall4 (zmem (i := 1405) (by decide +kernel) rfl) q_X11_mouse.1 q_X11_mouse.2.1 q_X11_mouse.2.2.1, q_X11_mouse.2.2.2, by decide +kernel⟩
theorem q_X11_size : Cond.instanceMethod m_X11_size.1 ∈ zGW ∧ Cond.selects RX11 m_X11_size.1 m_X11_size.1 ∈ zGW ∧ Cond.initialized RX11 ∈ zGW ∧ Cond.code m_X11_size.1 m_X11_size.2.1 m_X11_size.2.2.1 m_X11_size.2.2.2 ∈ zGW := ⟨zmem (i := 1431) (by decide +kernel) rfl, zmem (i := 1432) (by decide +kernel) rfl, zmem (i := 127) (by decide +kernel) rfl, zmem (i := 1433) (by decide +kernel) rfl⟩
theorem ml_L_37 : zLV RL 37 11 2 m_X11_size := ⟨RX11, TX11, 7, rfl, zall4 (zmem (i := 1430) (by decide +kernel) rfl) q_X11_size.1 q_X11_size.2.1 q_X11_size.2.2.1, q_X11_size.2.2.2, by decide +kernel⟩
theorem q_X11_cell : Cond.instanceMethod m_X11_cell.1 ∈ zGW ∧ Cond.selects RX11 m_X11_cell.1 m_X11_cell.1 ∈ zGW ∧ Cond.initialized RX11 ∈ zGW ∧ Cond.code m_X11_cell.1 m_X11_cell.2.1 m_X11_cell.2.2.1 m_X11_cell.2.2.2 ∈ zGW := ⟨zmem (i := 1532) (by decide +kernel) rfl, zmem (i := 1533) (by decide +kernel) rfl, zmem (i := 127) (by decide +kernel) rfl, zmem (i := 1534) (by decide +kernel) rfl⟩
theorem ml_L_40 : zLV RL 40 11 2 m_X11_cell := ⟨RX11, TX11, 7, rfl, zall4 (zmem (i := 1531) (by decide +kernel) rfl) q_X11_cell.1 q_X11_cell.2.1 q_X11_cell.2.2.1, q_X11_cell.2.2.2, by decide +kernel⟩
theorem q_X11_cellAnew : Cond.instanceMethod m_X11_cellAnew.1 ∈ zGW ∧ Cond.selects RX11 m_X11_cellAnew.1 m_X11_cellAnew.1 ∈ zGW ∧ Cond.initialized RX11 ∈ zGW ∧ Cond.code m_X11_cellAnew.1 m_X11_cellAnew.2.1 m_X11_cellAnew.2.2.1 m_X11_cellAnew.2.2.2 ∈ zGW := ⟨zmem (i := 1540) (by decide +kernel) rfl, zmem (i := 1541) (by decide +kernel) rfl, zmem (i := 127) (by decide +kernel) rfl, zmem (i := 1542) (by decide +kernel) rfl⟩
theorem ml_L_43 : zLV RL 43 11 2 m_X11_cellAnew := ⟨RX11, TX11, 7, rfl, zall4 (zmem (i := 1539) (by decide +kernel) rfl) q_X11_cellAnew.1 q_X11_cellAnew.2.1 q_X11_cellAnew.2.2.1, q_X11_cellAnew.2.2.2, by decide +kernel⟩
theorem q_X11_past : Cond.instanceMethod m_X11_past.1 ∈ zGW ∧ Cond.selects RX11 m_X11_past.1 m_X11_past.1 ∈ zGW ∧ Cond.initialized RX11 ∈ zGW ∧ Cond.code m_X11_past.1 m_X11_past.2.1 m_X11_past.2.2.1 m_X11_past.2.2.2 ∈ zGW := ⟨zmem (i := 1554) (by decide +kernel) rfl, zmem (i := 1555) (by decide +kernel) rfl, zmem (i := 127) (by decide +kernel) rfl, zmem (i := 1556) (by decide +kernel) rfl⟩
theorem ml_L_46 : zLV RL 46 11 2 m_X11_past := ⟨RX11, TX11, 7, rfl, zall4 (zmem (i := 1553) (by decide +kernel) rfl) q_X11_past.1 q_X11_past.2.1 q_X11_past.2.2.1, q_X11_past.2.2.2, by decide +kernel⟩
theorem q_X11_goesOn : Cond.instanceMethod m_X11_goesOn.1 ∈ zGW ∧ Cond.selects RX11 m_X11_goesOn.1 m_X11_goesOn.1 ∈ zGW ∧ Cond.initialized RX11 ∈ zGW ∧ Cond.code m_X11_goesOn.1 m_X11_goesOn.2.1 m_X11_goesOn.2.2.1 m_X11_goesOn.2.2.2 ∈ zGW := ⟨zmem (i := 1562) (by decide +kernel) rfl, zmem (i := 1563) (by decide +kernel) rfl, zmem (i := 127) (by decide +kernel) rfl, zmem (i := 1564) (by decide +kernel) rfl⟩
theorem ml_L_49 : zLV RL 49 11 1 m_X11_goesOn := ⟨RX11, TX11, 7, rfl, zall4 (zmem (i := 1561) (by decide +kernel) rfl) q_X11_goesOn.1 q_X11_goesOn.2.1 q_X11_goesOn.2.2.1, q_X11_goesOn.2.2.2, by decide +kernel⟩
theorem q_X11_title : Cond.instanceMethod m_X11_title.1 ∈ zGW ∧ Cond.selects RX11 m_X11_title.1 m_X11_title.1 ∈ zGW ∧ Cond.initialized RX11 ∈ zGW ∧ Cond.code m_X11_title.1 m_X11_title.2.1 m_X11_title.2.2.1 m_X11_title.2.2.2 ∈ zGW := ⟨zmem (i := 1572) (by decide +kernel) rfl, zmem (i := 1573) (by decide +kernel) rfl, zmem (i := 127) (by decide +kernel) rfl, zmem (i := 1574) (by decide +kernel) rfl⟩
theorem ml_L_53 : zLV RL 53 11 1 m_X11_title := ⟨RX11, TX11, 7, rfl, zall4 (zmem (i := 1571) (by decide +kernel) rfl) q_X11_title.1 q_X11_title.2.1 q_X11_title.2.2.1, q_X11_title.2.2.2, by decide +kernel⟩
theorem q_X11_least : Cond.instanceMethod m_X11_least.1 ∈ zGW ∧ Cond.selects RX11 m_X11_least.1 m_X11_least.1 ∈ zGW ∧ Cond.initialized RX11 ∈ zGW ∧ Cond.code m_X11_least.1 m_X11_least.2.1 m_X11_least.2.2.1 m_X11_least.2.2.2 ∈ zGW := ⟨zmem (i := 1581) (by decide +kernel) rfl, zmem (i := 1582) (by decide +kernel) rfl, zmem (i := 127) (by decide +kernel) rfl, zmem (i := 1583) (by decide +kernel) rfl⟩
theorem ml_L_56 : zLV RL 56 11 1 m_X11_least := ⟨RX11, TX11, 7, rfl, zall4 (zmem (i := 1580) (by decide +kernel) rfl) q_X11_least.1 q_X11_least.2.1 q_X11_least.2.2.1, q_X11_least.2.2.2, by decide +kernel⟩
theorem q_X11_told : Cond.instanceMethod m_X11_told.1 ∈ zGW ∧ Cond.selects RX11 m_X11_told.1 m_X11_told.1 ∈ zGW ∧ Cond.initialized RX11 ∈ zGW ∧ Cond.code m_X11_told.1 m_X11_told.2.1 m_X11_told.2.2.1 m_X11_told.2.2.2 ∈ zGW := ⟨zmem (i := 1588) (by decide +kernel) rfl, zmem (i := 1589) (by decide +kernel) rfl, zmem (i := 127) (by decide +kernel) rfl, zmem (i := 1590) (by decide +kernel) rfl⟩
theorem ml_L_59 : zLV RL 59 11 1 m_X11_told := ⟨RX11, TX11, 7, rfl, zall4 (zmem (i := 1587) (by decide +kernel) rfl) q_X11_told.1 q_X11_told.2.1 q_X11_told.2.2.1, q_X11_told.2.2.2, by decide +kernel⟩
