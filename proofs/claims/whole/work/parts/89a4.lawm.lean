set_option maxRecDepth 100000 in
set_option maxHeartbeats 1000000 in
theorem la_goesOn {C : zSt} {g : Int → Int} {a1 v : Int} (h : f_Co_goesOn a1 C = some v) : zSpecH zLw hh_goesOn 8 (fun k => k ≠ 42) 0 0 m_L_goesOn [.inr (.inl (some 0)), .inl a1, .inr (.inl (some 76))] (zCow C g) (fun r1 w1 => r1 = some (.inl 0) ∧ w1 = zCow C (zup g 0 (if v = 0 then 0 else 1))) := by
  have h0 := t_Co_goesOn h
  have hc : zSpecF zTrv 2 zall 0 0 m_X11_goesOn [.inr (.inl (some 0)), .inl a1] (ziT C 0 TCo) (fun r1 w1 => r1 = some (.inl v) ∧ w1 = ziT C 0 TCo) := by
    exact zSpecT.F h0
  refine zSpecH_of (by decide +kernel) rfl (Nat.le_of_ble_eq_true rfl) ?_
  show zB m_L_goesOn (zR 8 0 0) (zFE (fun l A s => zLw l A s ∧ zNm m_L_goesOn.1 s) (zFq 0 0 (fun k => k ≠ 42) (fun r1 w1 => r1 = some (.inl 0) ∧ w1 = zCow C (zup g 0 (if v = 0 then 0 else 1))))) (fun k => k ≠ 42) 0 [some (.inr (.inl (some 0))), some (.inl a1), some (.inr (.inl (some 76))), none] [] (zCow C g) 0 0
  refine zr_aload ⟨_, dL_goesOn_0, rfl⟩ rfl ?_
  refine zr_iconst dL_goesOn_1 (by decide) ?_
  refine zr_aload ⟨_, dL_goesOn_2, rfl⟩ rfl ?_
  refine zr_load ⟨_, dL_goesOn_3, rfl⟩ rfl ?_
  refine zg_callW (r := some (.inl v)) (v := 42) (zRunQ_of (zrun_VW (f := zid) (rest := [.inl 0, .inr (.inl (some 76))]) dL_goesOn_4 ml_L_49 zCow_0 rfl (by decide) (by decide) rfl (Nat.le_of_ble_eq_true rfl)) hc zMv_tr zMv_tr (zFr_Co (C := C) (C' := C) (g := g)).1 (zFr_Co (C := C) (C' := C) (g := g)).2.1 rfl rfl) (zFr_Co (C := C) (C' := C) (g := g)) (fun _ _ => True.intro) (by simp) (fun k h => h) rfl rfl (by show 0 + 0 ≤ 0; omega) (by show 0 + 0 ≤ 0; omega) ?_
  show zB m_L_goesOn (zR 8 0 0) _ _ 7 [some (.inr (.inl (some 0))), some (.inl a1), some (.inr (.inl (some 76))), none] [.inl v, .inl 0, .inr (.inl (some 76))] (zCow C g) (0 + 0) (0 + 0)
  refine zr_if_eq (tgt := 14) dL_goesOn_7 (by decide) (fun hv => ?_) (fun hv => ?_)
  · rw [if_pos hv]
    refine zr_lconst (x := 0) dL_goesOn_14 rfl (by decide) ?_
    refine zr_lastore dL_goesOn_15 zCow_76 ⟨by decide, by decide⟩ zCow_set ?_
    refine zr_goto (tgt := 22) dL_goesOn_16 (by decide) ?_
    refine zr_iconst dL_goesOn_22 (by decide) ?_
    exact zB_fe (zr_iret dL_goesOn_23 rfl (by omega) (by omega) ⟨rfl, rfl⟩)
  · rw [if_neg hv]
    refine zr_lconst (x := 1) dL_goesOn_10 rfl (by decide) ?_
    refine zr_goto (tgt := 15) dL_goesOn_11 (by decide) ?_
    refine zr_lastore dL_goesOn_15 zCow_76 ⟨by decide, by decide⟩ zCow_set ?_
    refine zr_goto (tgt := 22) dL_goesOn_16 (by decide) ?_
    refine zr_iconst dL_goesOn_22 (by decide) ?_
    exact zB_fe (zr_iret dL_goesOn_23 rfl (by omega) (by omega) ⟨rfl, rfl⟩)
set_option maxRecDepth 100000 in
set_option maxHeartbeats 1000000 in
theorem lx_goesOn_3 {C : zSt} {g : Int → Int} {a1 : Int} (h : e_Co_goesOn_ a1 C = some 3) : zSpecH zLw hh_goesOn 8 (fun k => k ≠ 42) 1 6 m_L_goesOn [.inr (.inl (some 0)), .inl a1, .inr (.inl (some 76))] (zCow C g) (fun r1 w1 => r1 = some (.inl 1) ∧ w1 = zCow C g) := by
  have hx := x_Co_goesOn h
  rw [zEx_3] at hx
  refine zSpecH_of (by decide +kernel) rfl (Nat.le_of_ble_eq_true rfl) ?_
  show zB m_L_goesOn (zR 8 1 6) (zFE (fun l A s => zLw l A s ∧ zNm m_L_goesOn.1 s) (zFq 1 6 (fun k => k ≠ 42) (fun r1 w1 => r1 = some (.inl 1) ∧ w1 = zCow C g))) (fun k => k ≠ 42) 0 [some (.inr (.inl (some 0))), some (.inl a1), some (.inr (.inl (some 76))), none] [] (ziT C 0 TCo ++ [.inr (2, 1, g)]) 0 0
  refine zr_aload ⟨_, dL_goesOn_0, rfl⟩ rfl ?_
  refine zr_iconst dL_goesOn_1 (by decide) ?_
  refine zr_aload ⟨_, dL_goesOn_2, rfl⟩ rfl ?_
  refine zr_load ⟨_, dL_goesOn_3, rfl⟩ rfl ?_
  refine zr_thrown (wr := [.inr (2, 1, g)]) (rest := [.inl 0, .inr (.inl (some 76))]) (pre := []) (x := ⟨0, 16, 19, 35⟩) (suf := []) (hh := hh_goesOn) (name := "java/lang/IndexOutOfBoundsException") (i := 3) (len := 1) hx (fun _ _ _ _ _ _ _ h => zLw_go h.1) (fun _ _ _ h => h) dL_goesOn_4 ml_L_49 rfl rfl (by decide) (by decide) rfl rfl (Nat.le_of_ble_eq_true rfl) cw_goesOn rfl (fun z hz => absurd hz List.not_mem_nil) (by decide) (by decide) lk_L_35 ca_3 (Or.inl ⟨_, dL_goesOn_19, rfl, rfl⟩) (by decide) rfl (Nat.le_refl _) (Nat.le_refl _) ?_
  refine zr_iconst dL_goesOn_20 (by decide) ?_
  exact zB_fe (zr_iret dL_goesOn_21 rfl (Nat.le_refl _) (Nat.le_refl _) ⟨rfl, rfl⟩)
set_option maxRecDepth 100000 in
set_option maxHeartbeats 1000000 in
theorem la_title {C : zSt} {g : Int → Int} {a1 v : Int} (h : f_Co_title a1 C = some v) : zSpecH zLw hh_title 8 (fun k => k ≠ 42) 0 0 m_L_title [.inr (.inl (some 0)), .inl a1, .inr (.inl (some 76))] (zCow C g) (fun r1 w1 => r1 = some (.inl 0) ∧ w1 = zCow C (zup g 0 v)) := by
  have h0 := t_Co_title h
  have hc : zSpecF zTrv 3 zall 0 0 m_X11_title [.inr (.inl (some 0)), .inl a1] (ziT C 0 TCo) (fun r1 w1 => r1 = some (.inl v) ∧ w1 = ziT C 0 TCo) := by
    exact zSpecT.F h0
  refine zSpecH_of (by decide +kernel) rfl (Nat.le_of_ble_eq_true rfl) ?_
  show zB m_L_title (zR 8 0 0) (zFE (fun l A s => zLw l A s ∧ zNm m_L_title.1 s) (zFq 0 0 (fun k => k ≠ 42) (fun r1 w1 => r1 = some (.inl 0) ∧ w1 = zCow C (zup g 0 v)))) (fun k => k ≠ 42) 0 [some (.inr (.inl (some 0))), some (.inl a1), some (.inr (.inl (some 76))), none] [] (zCow C g) 0 0
  refine zr_aload ⟨_, dL_title_0, rfl⟩ rfl ?_
  refine zr_iconst dL_title_1 (by decide) ?_
  refine zr_aload ⟨_, dL_title_2, rfl⟩ rfl ?_
  refine zr_load ⟨_, dL_title_3, rfl⟩ rfl ?_
  refine zg_callW (r := some (.inl v)) (v := 42) (zRunQ_of (zrun_VW (f := zid) (rest := [.inl 0, .inr (.inl (some 76))]) dL_title_4 ml_L_53 zCow_0 rfl (by decide) (by decide) rfl (Nat.le_of_ble_eq_true rfl)) hc zMv_tr zMv_tr (zFr_Co (C := C) (C' := C) (g := g)).1 (zFr_Co (C := C) (C' := C) (g := g)).2.1 rfl rfl) (zFr_Co (C := C) (C' := C) (g := g)) (fun _ _ => True.intro) (by simp) (fun k h => h) rfl rfl (by show 0 + 0 ≤ 0; omega) (by show 0 + 0 ≤ 0; omega) ?_
  show zB m_L_title (zR 8 0 0) _ _ 7 [some (.inr (.inl (some 0))), some (.inl a1), some (.inr (.inl (some 76))), none] [.inl v, .inl 0, .inr (.inl (some 76))] (zCow C g) (0 + 0) (0 + 0)
  refine zr_i2l dL_title_7 ?_
  refine zr_lastore dL_title_8 zCow_76 ⟨by decide, by decide⟩ zCow_set ?_
  refine zr_goto (tgt := 15) dL_title_9 (by decide) ?_
  refine zr_iconst dL_title_15 (by decide) ?_
  exact zB_fe (zr_iret dL_title_16 rfl (by omega) (by omega) ⟨rfl, rfl⟩)
set_option maxRecDepth 100000 in
set_option maxHeartbeats 1000000 in
theorem lx_title_3 {C : zSt} {g : Int → Int} {a1 : Int} (h : e_Co_title_ a1 C = some 3) : zSpecH zLw hh_title 8 (fun k => k ≠ 42) 1 6 m_L_title [.inr (.inl (some 0)), .inl a1, .inr (.inl (some 76))] (zCow C g) (fun r1 w1 => r1 = some (.inl 1) ∧ w1 = zCow C g) := by
  have hx := x_Co_title h
  rw [zEx_3] at hx
  refine zSpecH_of (by decide +kernel) rfl (Nat.le_of_ble_eq_true rfl) ?_
  show zB m_L_title (zR 8 1 6) (zFE (fun l A s => zLw l A s ∧ zNm m_L_title.1 s) (zFq 1 6 (fun k => k ≠ 42) (fun r1 w1 => r1 = some (.inl 1) ∧ w1 = zCow C g))) (fun k => k ≠ 42) 0 [some (.inr (.inl (some 0))), some (.inl a1), some (.inr (.inl (some 76))), none] [] (ziT C 0 TCo ++ [.inr (2, 1, g)]) 0 0
  refine zr_aload ⟨_, dL_title_0, rfl⟩ rfl ?_
  refine zr_iconst dL_title_1 (by decide) ?_
  refine zr_aload ⟨_, dL_title_2, rfl⟩ rfl ?_
  refine zr_load ⟨_, dL_title_3, rfl⟩ rfl ?_
  refine zr_thrown (wr := [.inr (2, 1, g)]) (rest := [.inl 0, .inr (.inl (some 76))]) (pre := []) (x := ⟨0, 9, 12, 35⟩) (suf := []) (hh := hh_title) (name := "java/lang/IndexOutOfBoundsException") (i := 3) (len := 1) hx (fun _ _ _ _ _ _ _ h => zLw_go h.1) (fun _ _ _ h => h) dL_title_4 ml_L_53 rfl rfl (by decide) (by decide) rfl rfl (Nat.le_of_ble_eq_true rfl) cw_title rfl (fun z hz => absurd hz List.not_mem_nil) (by decide) (by decide) lk_L_35 ca_3 (Or.inl ⟨_, dL_title_12, rfl, rfl⟩) (by decide) rfl (Nat.le_refl _) (Nat.le_refl _) ?_
  refine zr_iconst dL_title_13 (by decide) ?_
  exact zB_fe (zr_iret dL_title_14 rfl (Nat.le_refl _) (Nat.le_refl _) ⟨rfl, rfl⟩)
set_option maxRecDepth 100000 in
set_option maxHeartbeats 1000000 in
theorem la_least {C C' : zSt} {g : Int → Int} {a1 v : Int} (h : f_Co_least a1 C = some (v, C')) : zSpecH zLw hh_least 8 (fun k => k ≠ 42) 0 0 m_L_least [.inr (.inl (some 0)), .inl a1, .inr (.inl (some 76))] (zCow C g) (fun r1 w1 => r1 = some (.inl 0) ∧ w1 = zCow C' (zup g 0 v)) := by
  have h0 := t_Co_least h
  have hc : zSpecF zTrv 4 zall 0 0 m_X11_least [.inr (.inl (some 0)), .inl a1] (ziT C 0 TCo) (fun r1 w1 => r1 = some (.inl v) ∧ w1 = ziT C' 0 TCo) := by
    exact zSpecT.F h0
  refine zSpecH_of (by decide +kernel) rfl (Nat.le_of_ble_eq_true rfl) ?_
  show zB m_L_least (zR 8 0 0) (zFE (fun l A s => zLw l A s ∧ zNm m_L_least.1 s) (zFq 0 0 (fun k => k ≠ 42) (fun r1 w1 => r1 = some (.inl 0) ∧ w1 = zCow C' (zup g 0 v)))) (fun k => k ≠ 42) 0 [some (.inr (.inl (some 0))), some (.inl a1), some (.inr (.inl (some 76))), none] [] (zCow C g) 0 0
  refine zr_aload ⟨_, dL_least_0, rfl⟩ rfl ?_
  refine zr_iconst dL_least_1 (by decide) ?_
  refine zr_aload ⟨_, dL_least_2, rfl⟩ rfl ?_
  refine zr_load ⟨_, dL_least_3, rfl⟩ rfl ?_
  refine zg_callW (r := some (.inl v)) (v := 42) (zRunQ_of (zrun_VW (f := zid) (rest := [.inl 0, .inr (.inl (some 76))]) dL_least_4 ml_L_56 zCow_0 rfl (by decide) (by decide) rfl (Nat.le_of_ble_eq_true rfl)) hc zMv_tr zMv_tr (zFr_Co (C := C) (C' := C') (g := g)).1 (zFr_Co (C := C) (C' := C') (g := g)).2.1 rfl rfl) (zFr_Co (C := C) (C' := C') (g := g)) (fun _ _ => True.intro) (by simp) (fun k h => h) rfl rfl (by show 0 + 0 ≤ 0; omega) (by show 0 + 0 ≤ 0; omega) ?_
  show zB m_L_least (zR 8 0 0) _ _ 7 [some (.inr (.inl (some 0))), some (.inl a1), some (.inr (.inl (some 76))), none] [.inl v, .inl 0, .inr (.inl (some 76))] (zCow C' g) (0 + 0) (0 + 0)
  refine zr_i2l dL_least_7 ?_
  refine zr_lastore dL_least_8 zCow_76 ⟨by decide, by decide⟩ zCow_set ?_
  refine zr_goto (tgt := 15) dL_least_9 (by decide) ?_
  refine zr_iconst dL_least_15 (by decide) ?_
  exact zB_fe (zr_iret dL_least_16 rfl (by omega) (by omega) ⟨rfl, rfl⟩)
set_option maxRecDepth 100000 in
set_option maxHeartbeats 1000000 in
theorem lx_least_3 {C : zSt} {g : Int → Int} {a1 : Int} (h : e_Co_least_ a1 C = some 3) : zSpecH zLw hh_least 8 (fun k => k ≠ 42) 1 6 m_L_least [.inr (.inl (some 0)), .inl a1, .inr (.inl (some 76))] (zCow C g) (fun r1 w1 => r1 = some (.inl 1) ∧ w1 = zCow C g) := by
  have hx := x_Co_least h
  rw [zEx_3] at hx
  refine zSpecH_of (by decide +kernel) rfl (Nat.le_of_ble_eq_true rfl) ?_
  show zB m_L_least (zR 8 1 6) (zFE (fun l A s => zLw l A s ∧ zNm m_L_least.1 s) (zFq 1 6 (fun k => k ≠ 42) (fun r1 w1 => r1 = some (.inl 1) ∧ w1 = zCow C g))) (fun k => k ≠ 42) 0 [some (.inr (.inl (some 0))), some (.inl a1), some (.inr (.inl (some 76))), none] [] (ziT C 0 TCo ++ [.inr (2, 1, g)]) 0 0
  refine zr_aload ⟨_, dL_least_0, rfl⟩ rfl ?_
  refine zr_iconst dL_least_1 (by decide) ?_
  refine zr_aload ⟨_, dL_least_2, rfl⟩ rfl ?_
  refine zr_load ⟨_, dL_least_3, rfl⟩ rfl ?_
  refine zr_thrown (wr := [.inr (2, 1, g)]) (rest := [.inl 0, .inr (.inl (some 76))]) (pre := []) (x := ⟨0, 9, 12, 35⟩) (suf := []) (hh := hh_least) (name := "java/lang/IndexOutOfBoundsException") (i := 3) (len := 1) hx (fun _ _ _ _ _ _ _ h => zLw_go h.1) (fun _ _ _ h => h) dL_least_4 ml_L_56 rfl rfl (by decide) (by decide) rfl rfl (Nat.le_of_ble_eq_true rfl) cw_least rfl (fun z hz => absurd hz List.not_mem_nil) (by decide) (by decide) lk_L_35 ca_3 (Or.inl ⟨_, dL_least_12, rfl, rfl⟩) (by decide) rfl (Nat.le_refl _) (Nat.le_refl _) ?_
  refine zr_iconst dL_least_13 (by decide) ?_
  exact zB_fe (zr_iret dL_least_14 rfl (Nat.le_refl _) (Nat.le_refl _) ⟨rfl, rfl⟩)
set_option maxRecDepth 100000 in
set_option maxHeartbeats 1000000 in
theorem la_told {C : zSt} {g : Int → Int} {a1 v : Int} (h : f_Co_told a1 C = some v) : zSpecH zLw hh_told 8 (fun k => k ≠ 42) 0 0 m_L_told [.inr (.inl (some 0)), .inl a1, .inr (.inl (some 76))] (zCow C g) (fun r1 w1 => r1 = some (.inl 0) ∧ w1 = zCow C (zup g 0 v)) := by
  have h0 := t_Co_told h
  have hc : zSpecF zTrv 3 zall 0 0 m_X11_told [.inr (.inl (some 0)), .inl a1] (ziT C 0 TCo) (fun r1 w1 => r1 = some (.inl v) ∧ w1 = ziT C 0 TCo) := by
    exact zSpecT.F h0
  refine zSpecH_of (by decide +kernel) rfl (Nat.le_of_ble_eq_true rfl) ?_
  show zB m_L_told (zR 8 0 0) (zFE (fun l A s => zLw l A s ∧ zNm m_L_told.1 s) (zFq 0 0 (fun k => k ≠ 42) (fun r1 w1 => r1 = some (.inl 0) ∧ w1 = zCow C (zup g 0 v)))) (fun k => k ≠ 42) 0 [some (.inr (.inl (some 0))), some (.inl a1), some (.inr (.inl (some 76))), none] [] (zCow C g) 0 0
  refine zr_aload ⟨_, dL_told_0, rfl⟩ rfl ?_
  refine zr_iconst dL_told_1 (by decide) ?_
  refine zr_aload ⟨_, dL_told_2, rfl⟩ rfl ?_
  refine zr_load ⟨_, dL_told_3, rfl⟩ rfl ?_
  refine zg_callW (r := some (.inl v)) (v := 42) (zRunQ_of (zrun_VW (f := zid) (rest := [.inl 0, .inr (.inl (some 76))]) dL_told_4 ml_L_59 zCow_0 rfl (by decide) (by decide) rfl (Nat.le_of_ble_eq_true rfl)) hc zMv_tr zMv_tr (zFr_Co (C := C) (C' := C) (g := g)).1 (zFr_Co (C := C) (C' := C) (g := g)).2.1 rfl rfl) (zFr_Co (C := C) (C' := C) (g := g)) (fun _ _ => True.intro) (by simp) (fun k h => h) rfl rfl (by show 0 + 0 ≤ 0; omega) (by show 0 + 0 ≤ 0; omega) ?_
  show zB m_L_told (zR 8 0 0) _ _ 7 [some (.inr (.inl (some 0))), some (.inl a1), some (.inr (.inl (some 76))), none] [.inl v, .inl 0, .inr (.inl (some 76))] (zCow C g) (0 + 0) (0 + 0)
  refine zr_i2l dL_told_7 ?_
  refine zr_lastore dL_told_8 zCow_76 ⟨by decide, by decide⟩ zCow_set ?_
  refine zr_goto (tgt := 15) dL_told_9 (by decide) ?_
  refine zr_iconst dL_told_15 (by decide) ?_
  exact zB_fe (zr_iret dL_told_16 rfl (by omega) (by omega) ⟨rfl, rfl⟩)
set_option maxRecDepth 100000 in
set_option maxHeartbeats 1000000 in
theorem lx_told_1 {C : zSt} {g : Int → Int} {a1 : Int} (h : e_Co_told_ a1 C = some 1) : zSpecH zLw hh_told 8 (fun k => k ≠ 42) 1 6 m_L_told [.inr (.inl (some 0)), .inl a1, .inr (.inl (some 76))] (zCow C g) (fun r1 w1 => r1 = some (.inl 1) ∧ w1 = zCow C g) := by
  have hx := x_Co_told h
  rw [zEx_1] at hx
  refine zSpecH_of (by decide +kernel) rfl (Nat.le_of_ble_eq_true rfl) ?_
  show zB m_L_told (zR 8 1 6) (zFE (fun l A s => zLw l A s ∧ zNm m_L_told.1 s) (zFq 1 6 (fun k => k ≠ 42) (fun r1 w1 => r1 = some (.inl 1) ∧ w1 = zCow C g))) (fun k => k ≠ 42) 0 [some (.inr (.inl (some 0))), some (.inl a1), some (.inr (.inl (some 76))), none] [] (ziT C 0 TCo ++ [.inr (2, 1, g)]) 0 0
  refine zr_aload ⟨_, dL_told_0, rfl⟩ rfl ?_
  refine zr_iconst dL_told_1 (by decide) ?_
  refine zr_aload ⟨_, dL_told_2, rfl⟩ rfl ?_
  refine zr_load ⟨_, dL_told_3, rfl⟩ rfl ?_
  refine zr_thrown (wr := [.inr (2, 1, g)]) (rest := [.inl 0, .inr (.inl (some 76))]) (pre := []) (x := ⟨0, 9, 12, 13⟩) (suf := []) (hh := hh_told) (name := "java/lang/IllegalArgumentException") (i := 3) (len := 1) hx (fun _ _ _ _ _ _ _ h => zLw_go h.1) (fun _ _ _ h => h) dL_told_4 ml_L_59 rfl rfl (by decide) (by decide) rfl rfl (Nat.le_of_ble_eq_true rfl) cw_told rfl (fun z hz => absurd hz List.not_mem_nil) (by decide) (by decide) lk_L_13 ca_1 (Or.inl ⟨_, dL_told_12, rfl, rfl⟩) (by decide) rfl (Nat.le_refl _) (Nat.le_refl _) ?_
  refine zr_iconst dL_told_13 (by decide) ?_
  exact zB_fe (zr_iret dL_told_14 rfl (Nat.le_refl _) (Nat.le_refl _) ⟨rfl, rfl⟩)
