set_option maxRecDepth 100000 in
set_option maxHeartbeats 1000000 in
theorem la_size {C C' : zSt} {g : Int → Int} {a1 a2 v : Int} (h : f_Co_size a1 a2 C = some (v, C')) (hm : zpot 42 C' ≤ zpot 42 C) : zSpecH zLw hh_size 10 (fun k => k ≠ 42) (zpot 42 C - zpot 42 C') (zpot 42 C - zpot 42 C') m_L_size [.inr (.inl (some 0)), .inl a1, .inl a2, .inr (.inl (some 76))] (zCow C g) (fun r1 w1 => r1 = some (.inl 0) ∧ w1 = zCow C' (zup g 0 v)) := by
  obtain ⟨k, hk⟩ : ∃ k, k = zpot 42 C - zpot 42 C' := ⟨_, rfl⟩
  rw [← hk]
  have h0 := t_Co_size h hm
  have hc : zSpecF zTrv 9 (fun k => k ≠ 42) k k m_X11_size [.inr (.inl (some 0)), .inl a1, .inl a2] (ziT C 0 TCo) (fun r1 w1 => r1 = some (.inl v) ∧ w1 = ziT C' 0 TCo) := by
    rw [hk]
    exact zSpecG.F h0
  refine zSpecH_of (by decide +kernel) rfl (Nat.le_of_ble_eq_true rfl) ?_
  show zB m_L_size (zR 10 k k) (zFE (fun l A s => zLw l A s ∧ zNm m_L_size.1 s) (zFq k k (fun k => k ≠ 42) (fun r1 w1 => r1 = some (.inl 0) ∧ w1 = zCow C' (zup g 0 v)))) (fun k => k ≠ 42) 0 [some (.inr (.inl (some 0))), some (.inl a1), some (.inl a2), some (.inr (.inl (some 76))), none] [] (zCow C g) 0 0
  refine zr_aload ⟨_, dL_size_0, rfl⟩ rfl ?_
  refine zr_iconst dL_size_1 (by decide) ?_
  refine zr_aload ⟨_, dL_size_2, rfl⟩ rfl ?_
  refine zr_load ⟨_, dL_size_3, rfl⟩ rfl ?_
  refine zr_load ⟨_, dL_size_4, rfl⟩ rfl ?_
  refine zg_callW (r := some (.inl v)) (v := 42) (zRunQ_of (zrun_VW (f := zid) (rest := [.inl 0, .inr (.inl (some 76))]) dL_size_5 ml_L_37 zCow_0 rfl (by decide) (by decide) rfl (Nat.le_of_ble_eq_true rfl)) hc zMv_tr zMv_tr (zFr_Co (C := C) (C' := C') (g := g)).1 (zFr_Co (C := C) (C' := C') (g := g)).2.1 rfl rfl) (zFr_Co (C := C) (C' := C') (g := g)) (fun k h => h) (by simp) (fun k h => h) rfl rfl (by show 0 + k ≤ k; omega) (by show 0 + k ≤ k; omega) ?_
  show zB m_L_size (zR 10 k k) _ _ 8 [some (.inr (.inl (some 0))), some (.inl a1), some (.inl a2), some (.inr (.inl (some 76))), none] [.inl v, .inl 0, .inr (.inl (some 76))] (zCow C' g) (0 + k) (0 + k)
  refine zr_i2l dL_size_8 ?_
  refine zr_lastore dL_size_9 zCow_76 ⟨by decide, by decide⟩ zCow_set ?_
  refine zr_goto (tgt := 17) dL_size_10 (by decide) ?_
  refine zr_iconst dL_size_17 (by decide) ?_
  exact zB_fe (zr_iret dL_size_18 rfl (by omega) (by omega) ⟨rfl, rfl⟩)
set_option maxRecDepth 100000 in
set_option maxHeartbeats 1000000 in
theorem lx_size_1 {C : zSt} {g : Int → Int} {a1 a2 : Int} (h : e_Co_size_ a1 a2 C = some 1) : zSpecH zLw hh_size 10 (fun k => k ≠ 42) 1 6 m_L_size [.inr (.inl (some 0)), .inl a1, .inl a2, .inr (.inl (some 76))] (zCow C g) (fun r1 w1 => r1 = some (.inl 1) ∧ w1 = zCow C g) := by
  have hx := x_Co_size h
  rw [zEx_1] at hx
  refine zSpecH_of (by decide +kernel) rfl (Nat.le_of_ble_eq_true rfl) ?_
  show zB m_L_size (zR 10 1 6) (zFE (fun l A s => zLw l A s ∧ zNm m_L_size.1 s) (zFq 1 6 (fun k => k ≠ 42) (fun r1 w1 => r1 = some (.inl 1) ∧ w1 = zCow C g))) (fun k => k ≠ 42) 0 [some (.inr (.inl (some 0))), some (.inl a1), some (.inl a2), some (.inr (.inl (some 76))), none] [] (ziT C 0 TCo ++ [.inr (2, 1, g)]) 0 0
  refine zr_aload ⟨_, dL_size_0, rfl⟩ rfl ?_
  refine zr_iconst dL_size_1 (by decide) ?_
  refine zr_aload ⟨_, dL_size_2, rfl⟩ rfl ?_
  refine zr_load ⟨_, dL_size_3, rfl⟩ rfl ?_
  refine zr_load ⟨_, dL_size_4, rfl⟩ rfl ?_
  refine zr_thrown (wr := [.inr (2, 1, g)]) (rest := [.inl 0, .inr (.inl (some 76))]) (pre := []) (x := ⟨0, 10, 13, 13⟩) (suf := []) (hh := hh_size) (name := "java/lang/IllegalArgumentException") (i := 4) (len := 2) hx (fun _ _ _ _ _ _ _ h => zLw_go h.1) (fun _ _ _ h => h) dL_size_5 ml_L_37 rfl rfl (by decide) (by decide) rfl rfl (Nat.le_of_ble_eq_true rfl) cw_size rfl (fun z hz => absurd hz List.not_mem_nil) (by decide) (by decide) lk_L_13 ca_1 (Or.inr ⟨dL_size_13, rfl⟩) (by decide) rfl (Nat.le_refl _) (Nat.le_refl _) ?_
  refine zr_iconst dL_size_15 (by decide) ?_
  exact zB_fe (zr_iret dL_size_16 rfl (Nat.le_refl _) (Nat.le_refl _) ⟨rfl, rfl⟩)
set_option maxRecDepth 100000 in
set_option maxHeartbeats 1000000 in
theorem la_cell {C : zSt} {g : Int → Int} {a1 a2 v : Int} (h : f_Co_cell a1 a2 C = some v) : zSpecH zLw hh_cell 8 (fun k => k ≠ 42) 0 0 m_L_cell [.inr (.inl (some 0)), .inl a1, .inl a2, .inr (.inl (some 76))] (zCow C g) (fun r1 w1 => r1 = some (.inl 0) ∧ w1 = zCow C (zup g 0 v)) := by
  have h0 := t_Co_cell h
  have hc : zSpecF zTrv 2 zall 0 0 m_X11_cell [.inr (.inl (some 0)), .inl a1, .inl a2] (ziT C 0 TCo) (fun r1 w1 => r1 = some (.inl v) ∧ w1 = ziT C 0 TCo) := by
    exact zSpecT.F h0
  refine zSpecH_of (by decide +kernel) rfl (Nat.le_of_ble_eq_true rfl) ?_
  show zB m_L_cell (zR 8 0 0) (zFE (fun l A s => zLw l A s ∧ zNm m_L_cell.1 s) (zFq 0 0 (fun k => k ≠ 42) (fun r1 w1 => r1 = some (.inl 0) ∧ w1 = zCow C (zup g 0 v)))) (fun k => k ≠ 42) 0 [some (.inr (.inl (some 0))), some (.inl a1), some (.inl a2), some (.inr (.inl (some 76))), none] [] (zCow C g) 0 0
  refine zr_aload ⟨_, dL_cell_0, rfl⟩ rfl ?_
  refine zr_iconst dL_cell_1 (by decide) ?_
  refine zr_aload ⟨_, dL_cell_2, rfl⟩ rfl ?_
  refine zr_load ⟨_, dL_cell_3, rfl⟩ rfl ?_
  refine zr_load ⟨_, dL_cell_4, rfl⟩ rfl ?_
  refine zg_callW (r := some (.inl v)) (v := 42) (zRunQ_of (zrun_VW (f := zid) (rest := [.inl 0, .inr (.inl (some 76))]) dL_cell_5 ml_L_40 zCow_0 rfl (by decide) (by decide) rfl (Nat.le_of_ble_eq_true rfl)) hc zMv_tr zMv_tr (zFr_Co (C := C) (C' := C) (g := g)).1 (zFr_Co (C := C) (C' := C) (g := g)).2.1 rfl rfl) (zFr_Co (C := C) (C' := C) (g := g)) (fun _ _ => True.intro) (by simp) (fun k h => h) rfl rfl (by show 0 + 0 ≤ 0; omega) (by show 0 + 0 ≤ 0; omega) ?_
  show zB m_L_cell (zR 8 0 0) _ _ 8 [some (.inr (.inl (some 0))), some (.inl a1), some (.inl a2), some (.inr (.inl (some 76))), none] [.inl v, .inl 0, .inr (.inl (some 76))] (zCow C g) (0 + 0) (0 + 0)
  refine zr_i2l dL_cell_8 ?_
  refine zr_lastore dL_cell_9 zCow_76 ⟨by decide, by decide⟩ zCow_set ?_
  refine zr_goto (tgt := 17) dL_cell_10 (by decide) ?_
  refine zr_iconst dL_cell_17 (by decide) ?_
  exact zB_fe (zr_iret dL_cell_18 rfl (by omega) (by omega) ⟨rfl, rfl⟩)
set_option maxRecDepth 100000 in
set_option maxHeartbeats 1000000 in
theorem lx_cell_3 {C : zSt} {g : Int → Int} {a1 a2 : Int} (h : e_Co_cell_ a1 a2 C = some 3) : zSpecH zLw hh_cell 8 (fun k => k ≠ 42) 1 6 m_L_cell [.inr (.inl (some 0)), .inl a1, .inl a2, .inr (.inl (some 76))] (zCow C g) (fun r1 w1 => r1 = some (.inl 1) ∧ w1 = zCow C g) := by
  have hx := x_Co_cell h
  rw [zEx_3] at hx
  refine zSpecH_of (by decide +kernel) rfl (Nat.le_of_ble_eq_true rfl) ?_
  show zB m_L_cell (zR 8 1 6) (zFE (fun l A s => zLw l A s ∧ zNm m_L_cell.1 s) (zFq 1 6 (fun k => k ≠ 42) (fun r1 w1 => r1 = some (.inl 1) ∧ w1 = zCow C g))) (fun k => k ≠ 42) 0 [some (.inr (.inl (some 0))), some (.inl a1), some (.inl a2), some (.inr (.inl (some 76))), none] [] (ziT C 0 TCo ++ [.inr (2, 1, g)]) 0 0
  refine zr_aload ⟨_, dL_cell_0, rfl⟩ rfl ?_
  refine zr_iconst dL_cell_1 (by decide) ?_
  refine zr_aload ⟨_, dL_cell_2, rfl⟩ rfl ?_
  refine zr_load ⟨_, dL_cell_3, rfl⟩ rfl ?_
  refine zr_load ⟨_, dL_cell_4, rfl⟩ rfl ?_
  refine zr_thrown (wr := [.inr (2, 1, g)]) (rest := [.inl 0, .inr (.inl (some 76))]) (pre := []) (x := ⟨0, 10, 13, 35⟩) (suf := []) (hh := hh_cell) (name := "java/lang/IndexOutOfBoundsException") (i := 4) (len := 2) hx (fun _ _ _ _ _ _ _ h => zLw_go h.1) (fun _ _ _ h => h) dL_cell_5 ml_L_40 rfl rfl (by decide) (by decide) rfl rfl (Nat.le_of_ble_eq_true rfl) cw_cell rfl (fun z hz => absurd hz List.not_mem_nil) (by decide) (by decide) lk_L_35 ca_3 (Or.inr ⟨dL_cell_13, rfl⟩) (by decide) rfl (Nat.le_refl _) (Nat.le_refl _) ?_
  refine zr_iconst dL_cell_15 (by decide) ?_
  exact zB_fe (zr_iret dL_cell_16 rfl (Nat.le_refl _) (Nat.le_refl _) ⟨rfl, rfl⟩)
set_option maxRecDepth 100000 in
set_option maxHeartbeats 1000000 in
theorem la_cellAnew {C C' : zSt} {g : Int → Int} {a1 a2 v : Int} (h : f_Co_cellAnew a1 a2 C = some (v, C')) : zSpecH zLw hh_cellAnew 11 (fun k => k ≠ 42) 0 0 m_L_cellAnew [.inr (.inl (some 0)), .inl a1, .inl a2, .inr (.inl (some 76))] (zCow C g) (fun r1 w1 => r1 = some (.inl 0) ∧ w1 = zCow C' (zup g 0 v)) := by
  have h0 := t_Co_cellAnew h
  have hc : zSpecF zTrv 10 zall 0 0 m_X11_cellAnew [.inr (.inl (some 0)), .inl a1, .inl a2] (ziT C 0 TCo) (fun r1 w1 => r1 = some (.inl v) ∧ w1 = ziT C' 0 TCo) := by
    exact zSpecT.F h0
  refine zSpecH_of (by decide +kernel) rfl (Nat.le_of_ble_eq_true rfl) ?_
  show zB m_L_cellAnew (zR 11 0 0) (zFE (fun l A s => zLw l A s ∧ zNm m_L_cellAnew.1 s) (zFq 0 0 (fun k => k ≠ 42) (fun r1 w1 => r1 = some (.inl 0) ∧ w1 = zCow C' (zup g 0 v)))) (fun k => k ≠ 42) 0 [some (.inr (.inl (some 0))), some (.inl a1), some (.inl a2), some (.inr (.inl (some 76))), none] [] (zCow C g) 0 0
  refine zr_aload ⟨_, dL_cellAnew_0, rfl⟩ rfl ?_
  refine zr_iconst dL_cellAnew_1 (by decide) ?_
  refine zr_aload ⟨_, dL_cellAnew_2, rfl⟩ rfl ?_
  refine zr_load ⟨_, dL_cellAnew_3, rfl⟩ rfl ?_
  refine zr_load ⟨_, dL_cellAnew_4, rfl⟩ rfl ?_
  refine zg_callW (r := some (.inl v)) (v := 42) (zRunQ_of (zrun_VW (f := zid) (rest := [.inl 0, .inr (.inl (some 76))]) dL_cellAnew_5 ml_L_43 zCow_0 rfl (by decide) (by decide) rfl (Nat.le_of_ble_eq_true rfl)) hc zMv_tr zMv_tr (zFr_Co (C := C) (C' := C') (g := g)).1 (zFr_Co (C := C) (C' := C') (g := g)).2.1 rfl rfl) (zFr_Co (C := C) (C' := C') (g := g)) (fun _ _ => True.intro) (by simp) (fun k h => h) rfl rfl (by show 0 + 0 ≤ 0; omega) (by show 0 + 0 ≤ 0; omega) ?_
  show zB m_L_cellAnew (zR 11 0 0) _ _ 8 [some (.inr (.inl (some 0))), some (.inl a1), some (.inl a2), some (.inr (.inl (some 76))), none] [.inl v, .inl 0, .inr (.inl (some 76))] (zCow C' g) (0 + 0) (0 + 0)
  refine zr_i2l dL_cellAnew_8 ?_
  refine zr_lastore dL_cellAnew_9 zCow_76 ⟨by decide, by decide⟩ zCow_set ?_
  refine zr_goto (tgt := 17) dL_cellAnew_10 (by decide) ?_
  refine zr_iconst dL_cellAnew_17 (by decide) ?_
  exact zB_fe (zr_iret dL_cellAnew_18 rfl (by omega) (by omega) ⟨rfl, rfl⟩)
set_option maxRecDepth 100000 in
set_option maxHeartbeats 1000000 in
theorem lx_cellAnew_3 {C : zSt} {g : Int → Int} {a1 a2 : Int} (h : e_Co_cellAnew_ a1 a2 C = some 3) : zSpecH zLw hh_cellAnew 11 (fun k => k ≠ 42) 1 6 m_L_cellAnew [.inr (.inl (some 0)), .inl a1, .inl a2, .inr (.inl (some 76))] (zCow C g) (fun r1 w1 => r1 = some (.inl 1) ∧ w1 = zCow C g) := by
  have hx := x_Co_cellAnew h
  rw [zEx_3] at hx
  refine zSpecH_of (by decide +kernel) rfl (Nat.le_of_ble_eq_true rfl) ?_
  show zB m_L_cellAnew (zR 11 1 6) (zFE (fun l A s => zLw l A s ∧ zNm m_L_cellAnew.1 s) (zFq 1 6 (fun k => k ≠ 42) (fun r1 w1 => r1 = some (.inl 1) ∧ w1 = zCow C g))) (fun k => k ≠ 42) 0 [some (.inr (.inl (some 0))), some (.inl a1), some (.inl a2), some (.inr (.inl (some 76))), none] [] (ziT C 0 TCo ++ [.inr (2, 1, g)]) 0 0
  refine zr_aload ⟨_, dL_cellAnew_0, rfl⟩ rfl ?_
  refine zr_iconst dL_cellAnew_1 (by decide) ?_
  refine zr_aload ⟨_, dL_cellAnew_2, rfl⟩ rfl ?_
  refine zr_load ⟨_, dL_cellAnew_3, rfl⟩ rfl ?_
  refine zr_load ⟨_, dL_cellAnew_4, rfl⟩ rfl ?_
  refine zr_thrown (wr := [.inr (2, 1, g)]) (rest := [.inl 0, .inr (.inl (some 76))]) (pre := []) (x := ⟨0, 10, 13, 35⟩) (suf := []) (hh := hh_cellAnew) (name := "java/lang/IndexOutOfBoundsException") (i := 4) (len := 2) hx (fun _ _ _ _ _ _ _ h => zLw_go h.1) (fun _ _ _ h => h) dL_cellAnew_5 ml_L_43 rfl rfl (by decide) (by decide) rfl rfl (Nat.le_of_ble_eq_true rfl) cw_cellAnew rfl (fun z hz => absurd hz List.not_mem_nil) (by decide) (by decide) lk_L_35 ca_3 (Or.inr ⟨dL_cellAnew_13, rfl⟩) (by decide) rfl (Nat.le_refl _) (Nat.le_refl _) ?_
  refine zr_iconst dL_cellAnew_15 (by decide) ?_
  exact zB_fe (zr_iret dL_cellAnew_16 rfl (Nat.le_refl _) (Nat.le_refl _) ⟨rfl, rfl⟩)
set_option maxRecDepth 100000 in
set_option maxHeartbeats 1000000 in
theorem la_past {C : zSt} {g : Int → Int} {a1 a2 v : Int} (h : f_Co_past a1 a2 C = some v) : zSpecH zLw hh_past 8 (fun k => k ≠ 42) 0 0 m_L_past [.inr (.inl (some 0)), .inl a1, .inl a2, .inr (.inl (some 76))] (zCow C g) (fun r1 w1 => r1 = some (.inl 0) ∧ w1 = zCow C (zup g 0 v)) := by
  have h0 := t_Co_past h
  have hc : zSpecF zTrv 2 zall 0 0 m_X11_past [.inr (.inl (some 0)), .inl a1, .inl a2] (ziT C 0 TCo) (fun r1 w1 => r1 = some (.inl v) ∧ w1 = ziT C 0 TCo) := by
    exact zSpecT.F h0
  refine zSpecH_of (by decide +kernel) rfl (Nat.le_of_ble_eq_true rfl) ?_
  show zB m_L_past (zR 8 0 0) (zFE (fun l A s => zLw l A s ∧ zNm m_L_past.1 s) (zFq 0 0 (fun k => k ≠ 42) (fun r1 w1 => r1 = some (.inl 0) ∧ w1 = zCow C (zup g 0 v)))) (fun k => k ≠ 42) 0 [some (.inr (.inl (some 0))), some (.inl a1), some (.inl a2), some (.inr (.inl (some 76))), none] [] (zCow C g) 0 0
  refine zr_aload ⟨_, dL_past_0, rfl⟩ rfl ?_
  refine zr_iconst dL_past_1 (by decide) ?_
  refine zr_aload ⟨_, dL_past_2, rfl⟩ rfl ?_
  refine zr_load ⟨_, dL_past_3, rfl⟩ rfl ?_
  refine zr_load ⟨_, dL_past_4, rfl⟩ rfl ?_
  refine zg_callW (r := some (.inl v)) (v := 42) (zRunQ_of (zrun_VW (f := zid) (rest := [.inl 0, .inr (.inl (some 76))]) dL_past_5 ml_L_46 zCow_0 rfl (by decide) (by decide) rfl (Nat.le_of_ble_eq_true rfl)) hc zMv_tr zMv_tr (zFr_Co (C := C) (C' := C) (g := g)).1 (zFr_Co (C := C) (C' := C) (g := g)).2.1 rfl rfl) (zFr_Co (C := C) (C' := C) (g := g)) (fun _ _ => True.intro) (by simp) (fun k h => h) rfl rfl (by show 0 + 0 ≤ 0; omega) (by show 0 + 0 ≤ 0; omega) ?_
  show zB m_L_past (zR 8 0 0) _ _ 8 [some (.inr (.inl (some 0))), some (.inl a1), some (.inl a2), some (.inr (.inl (some 76))), none] [.inl v, .inl 0, .inr (.inl (some 76))] (zCow C g) (0 + 0) (0 + 0)
  refine zr_i2l dL_past_8 ?_
  refine zr_lastore dL_past_9 zCow_76 ⟨by decide, by decide⟩ zCow_set ?_
  refine zr_goto (tgt := 17) dL_past_10 (by decide) ?_
  refine zr_iconst dL_past_17 (by decide) ?_
  exact zB_fe (zr_iret dL_past_18 rfl (by omega) (by omega) ⟨rfl, rfl⟩)
set_option maxRecDepth 100000 in
set_option maxHeartbeats 1000000 in
theorem lx_past_3 {C : zSt} {g : Int → Int} {a1 a2 : Int} (h : e_Co_past_ a1 a2 C = some 3) : zSpecH zLw hh_past 8 (fun k => k ≠ 42) 1 6 m_L_past [.inr (.inl (some 0)), .inl a1, .inl a2, .inr (.inl (some 76))] (zCow C g) (fun r1 w1 => r1 = some (.inl 1) ∧ w1 = zCow C g) := by
  have hx := x_Co_past h
  rw [zEx_3] at hx
  refine zSpecH_of (by decide +kernel) rfl (Nat.le_of_ble_eq_true rfl) ?_
  show zB m_L_past (zR 8 1 6) (zFE (fun l A s => zLw l A s ∧ zNm m_L_past.1 s) (zFq 1 6 (fun k => k ≠ 42) (fun r1 w1 => r1 = some (.inl 1) ∧ w1 = zCow C g))) (fun k => k ≠ 42) 0 [some (.inr (.inl (some 0))), some (.inl a1), some (.inl a2), some (.inr (.inl (some 76))), none] [] (ziT C 0 TCo ++ [.inr (2, 1, g)]) 0 0
  refine zr_aload ⟨_, dL_past_0, rfl⟩ rfl ?_
  refine zr_iconst dL_past_1 (by decide) ?_
  refine zr_aload ⟨_, dL_past_2, rfl⟩ rfl ?_
  refine zr_load ⟨_, dL_past_3, rfl⟩ rfl ?_
  refine zr_load ⟨_, dL_past_4, rfl⟩ rfl ?_
  refine zr_thrown (wr := [.inr (2, 1, g)]) (rest := [.inl 0, .inr (.inl (some 76))]) (pre := []) (x := ⟨0, 10, 13, 35⟩) (suf := []) (hh := hh_past) (name := "java/lang/IndexOutOfBoundsException") (i := 4) (len := 2) hx (fun _ _ _ _ _ _ _ h => zLw_go h.1) (fun _ _ _ h => h) dL_past_5 ml_L_46 rfl rfl (by decide) (by decide) rfl rfl (Nat.le_of_ble_eq_true rfl) cw_past rfl (fun z hz => absurd hz List.not_mem_nil) (by decide) (by decide) lk_L_35 ca_3 (Or.inr ⟨dL_past_13, rfl⟩) (by decide) rfl (Nat.le_refl _) (Nat.le_refl _) ?_
  refine zr_iconst dL_past_15 (by decide) ?_
  exact zB_fe (zr_iret dL_past_16 rfl (Nat.le_refl _) (Nat.le_refl _) ⟨rfl, rfl⟩)
