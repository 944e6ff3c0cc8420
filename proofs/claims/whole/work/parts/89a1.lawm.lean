set_option maxRecDepth 100000 in
set_option maxHeartbeats 1000000 in
theorem la_write {C C' : zSt} {g : Int → Int} {a1 v : Int} (h : f_Co_write a1 C = some (v, C')) (hm : zpot 42 C' ≤ zpot 42 C) : zSpecH zLw hh_write 11 (fun k => k ≠ 42) (zpot 42 C - zpot 42 C') (zpot 42 C - zpot 42 C') m_L_write [.inr (.inl (some 0)), .inl a1, .inr (.inl (some 76))] (zCow C g) (fun r1 w1 => r1 = some (.inl 0) ∧ w1 = zCow C' (zup g 0 v)) := by
  obtain ⟨k, hk⟩ : ∃ k, k = zpot 42 C - zpot 42 C' := ⟨_, rfl⟩
  rw [← hk]
  have h0 := t_Co_write h hm
  have hc : zSpecF zTrv 10 (fun k => k ≠ 42) k k m_X11_write [.inr (.inl (some 0)), .inl a1] (ziT C 0 TCo) (fun r1 w1 => r1 = some (.inl v) ∧ w1 = ziT C' 0 TCo) := by
    rw [hk]
    exact zSpecG.F h0
  refine zSpecH_of (by decide +kernel) rfl (Nat.le_of_ble_eq_true rfl) ?_
  show zB m_L_write (zR 11 k k) (zFE (fun l A s => zLw l A s ∧ zNm m_L_write.1 s) (zFq k k (fun k => k ≠ 42) (fun r1 w1 => r1 = some (.inl 0) ∧ w1 = zCow C' (zup g 0 v)))) (fun k => k ≠ 42) 0 [some (.inr (.inl (some 0))), some (.inl a1), some (.inr (.inl (some 76))), none] [] (zCow C g) 0 0
  refine zr_aload ⟨_, dL_write_0, rfl⟩ rfl ?_
  refine zr_iconst dL_write_1 (by decide) ?_
  refine zr_aload ⟨_, dL_write_2, rfl⟩ rfl ?_
  refine zr_load ⟨_, dL_write_3, rfl⟩ rfl ?_
  refine zg_callW (r := some (.inl v)) (v := 42) (zRunQ_of (zrun_VW (f := zid) (rest := [.inl 0, .inr (.inl (some 76))]) dL_write_4 ml_L_7 zCow_0 rfl (by decide) (by decide) rfl (Nat.le_of_ble_eq_true rfl)) hc zMv_tr zMv_tr (zFr_Co (C := C) (C' := C') (g := g)).1 (zFr_Co (C := C) (C' := C') (g := g)).2.1 rfl rfl) (zFr_Co (C := C) (C' := C') (g := g)) (fun k h => h) (by simp) (fun k h => h) rfl rfl (by show 0 + k ≤ k; omega) (by show 0 + k ≤ k; omega) ?_
  show zB m_L_write (zR 11 k k) _ _ 7 [some (.inr (.inl (some 0))), some (.inl a1), some (.inr (.inl (some 76))), none] [.inl v, .inl 0, .inr (.inl (some 76))] (zCow C' g) (0 + k) (0 + k)
  refine zr_i2l dL_write_7 ?_
  refine zr_lastore dL_write_8 zCow_76 ⟨by decide, by decide⟩ zCow_set ?_
  refine zr_goto (tgt := 18) dL_write_9 (by decide) ?_
  refine zr_iconst dL_write_18 (by decide) ?_
  exact zB_fe (zr_iret dL_write_19 rfl (by omega) (by omega) ⟨rfl, rfl⟩)
set_option maxRecDepth 100000 in
set_option maxHeartbeats 1000000 in
theorem lx_write_1 {C : zSt} {g : Int → Int} {a1 : Int} (h : e_Co_write_ a1 C = some 1) : zSpecH zLw hh_write 11 (fun k => k ≠ 42) 1 6 m_L_write [.inr (.inl (some 0)), .inl a1, .inr (.inl (some 76))] (zCow C g) (fun r1 w1 => r1 = some (.inl 1) ∧ w1 = zCow C g) := by
  have hx := x_Co_write h
  rw [zEx_1] at hx
  refine zSpecH_of (by decide +kernel) rfl (Nat.le_of_ble_eq_true rfl) ?_
  show zB m_L_write (zR 11 1 6) (zFE (fun l A s => zLw l A s ∧ zNm m_L_write.1 s) (zFq 1 6 (fun k => k ≠ 42) (fun r1 w1 => r1 = some (.inl 1) ∧ w1 = zCow C g))) (fun k => k ≠ 42) 0 [some (.inr (.inl (some 0))), some (.inl a1), some (.inr (.inl (some 76))), none] [] (ziT C 0 TCo ++ [.inr (2, 1, g)]) 0 0
  refine zr_aload ⟨_, dL_write_0, rfl⟩ rfl ?_
  refine zr_iconst dL_write_1 (by decide) ?_
  refine zr_aload ⟨_, dL_write_2, rfl⟩ rfl ?_
  refine zr_load ⟨_, dL_write_3, rfl⟩ rfl ?_
  refine zr_thrown (wr := [.inr (2, 1, g)]) (rest := [.inl 0, .inr (.inl (some 76))]) (pre := []) (x := ⟨0, 9, 12, 13⟩) (suf := [⟨0, 9, 15, 15⟩]) (hh := hh_write) (name := "java/lang/IllegalArgumentException") (i := 3) (len := 1) hx (fun _ _ _ _ _ _ _ h => zLw_go h.1) (fun _ _ _ h => h) dL_write_4 ml_L_7 rfl rfl (by decide) (by decide) rfl rfl (Nat.le_of_ble_eq_true rfl) cw_write rfl (fun z hz => absurd hz List.not_mem_nil) (by decide) (by decide) lk_L_13 ca_1 (Or.inl ⟨_, dL_write_12, rfl, rfl⟩) (by decide) rfl (Nat.le_refl _) (Nat.le_refl _) ?_
  refine zr_iconst dL_write_13 (by decide) ?_
  exact zB_fe (zr_iret dL_write_14 rfl (Nat.le_refl _) (Nat.le_refl _) ⟨rfl, rfl⟩)
set_option maxRecDepth 100000 in
set_option maxHeartbeats 1000000 in
theorem lx_write_2 {C : zSt} {g : Int → Int} {a1 : Int} (h : e_Co_write_ a1 C = some 2) : zSpecH zLw hh_write 11 (fun k => k ≠ 42) 1 6 m_L_write [.inr (.inl (some 0)), .inl a1, .inr (.inl (some 76))] (zCow C g) (fun r1 w1 => r1 = some (.inl 2) ∧ w1 = zCow C g) := by
  have hx := x_Co_write h
  rw [zEx_2] at hx
  refine zSpecH_of (by decide +kernel) rfl (Nat.le_of_ble_eq_true rfl) ?_
  show zB m_L_write (zR 11 1 6) (zFE (fun l A s => zLw l A s ∧ zNm m_L_write.1 s) (zFq 1 6 (fun k => k ≠ 42) (fun r1 w1 => r1 = some (.inl 2) ∧ w1 = zCow C g))) (fun k => k ≠ 42) 0 [some (.inr (.inl (some 0))), some (.inl a1), some (.inr (.inl (some 76))), none] [] (ziT C 0 TCo ++ [.inr (2, 1, g)]) 0 0
  refine zr_aload ⟨_, dL_write_0, rfl⟩ rfl ?_
  refine zr_iconst dL_write_1 (by decide) ?_
  refine zr_aload ⟨_, dL_write_2, rfl⟩ rfl ?_
  refine zr_load ⟨_, dL_write_3, rfl⟩ rfl ?_
  refine zr_thrown (wr := [.inr (2, 1, g)]) (rest := [.inl 0, .inr (.inl (some 76))]) (pre := [⟨0, 9, 12, 13⟩]) (x := ⟨0, 9, 15, 15⟩) (suf := []) (hh := hh_write) (name := "java/lang/IllegalStateException") (i := 3) (len := 1) hx (fun _ _ _ _ _ _ _ h => zLw_go h.1) (fun _ _ _ h => h) dL_write_4 ml_L_7 rfl rfl (by decide) (by decide) rfl rfl (Nat.le_of_ble_eq_true rfl) cw_write rfl (fun z hz => by
    rw [List.mem_singleton] at hz
    subst hz
    exact ⟨by decide, _, lk_L_13, by simp [zNp]⟩) (by decide) (by decide) lk_L_15 ca_2 (Or.inl ⟨_, dL_write_15, rfl, rfl⟩) (by decide) rfl (Nat.le_refl _) (Nat.le_refl _) ?_
  refine zr_iconst dL_write_16 (by decide) ?_
  exact zB_fe (zr_iret dL_write_17 rfl (Nat.le_refl _) (Nat.le_refl _) ⟨rfl, rfl⟩)
set_option maxRecDepth 100000 in
set_option maxHeartbeats 1000000 in
theorem la_code {C C' : zSt} {g : Int → Int} {a1 a2 a3 a4 v : Int} (h : f_Co_code a1 a2 a3 a4 C = some (v, C')) (hm : zpot 42 C' ≤ zpot 42 C) : zSpecH zLw hh_code 11 (fun k => k ≠ 42) (zpot 42 C - zpot 42 C') (zpot 42 C - zpot 42 C') m_L_code [.inr (.inl (some 0)), .inl a1, .inl a2, .inl a3, .inl a4, .inr (.inl (some 76))] (zCow C g) (fun r1 w1 => r1 = some (.inl 0) ∧ w1 = zCow C' (zup g 0 v)) := by
  obtain ⟨k, hk⟩ : ∃ k, k = zpot 42 C - zpot 42 C' := ⟨_, rfl⟩
  rw [← hk]
  have h0 := t_Co_code h hm
  have hc : zSpecF zTrv 10 (fun k => k ≠ 42) k k m_X11_code [.inr (.inl (some 0)), .inl a1, .inl a2, .inl a3, .inl a4] (ziT C 0 TCo) (fun r1 w1 => r1 = some (.inl v) ∧ w1 = ziT C' 0 TCo) := by
    rw [hk]
    exact zSpecG.F h0
  refine zSpecH_of (by decide +kernel) rfl (Nat.le_of_ble_eq_true rfl) ?_
  show zB m_L_code (zR 11 k k) (zFE (fun l A s => zLw l A s ∧ zNm m_L_code.1 s) (zFq k k (fun k => k ≠ 42) (fun r1 w1 => r1 = some (.inl 0) ∧ w1 = zCow C' (zup g 0 v)))) (fun k => k ≠ 42) 0 [some (.inr (.inl (some 0))), some (.inl a1), some (.inl a2), some (.inl a3), some (.inl a4), some (.inr (.inl (some 76))), none] [] (zCow C g) 0 0
  refine zr_aloadw dL_code_0 rfl ?_
  refine zr_iconst dL_code_2 (by decide) ?_
  refine zr_aload ⟨_, dL_code_3, rfl⟩ rfl ?_
  refine zr_load ⟨_, dL_code_4, rfl⟩ rfl ?_
  refine zr_load ⟨_, dL_code_5, rfl⟩ rfl ?_
  refine zr_load ⟨_, dL_code_6, rfl⟩ rfl ?_
  refine zr_loadw dL_code_7 rfl ?_
  refine zg_callW (r := some (.inl v)) (v := 42) (zRunQ_of (zrun_VW (f := zid) (rest := [.inl 0, .inr (.inl (some 76))]) dL_code_9 ml_L_17 zCow_0 rfl (by decide) (by decide) rfl (Nat.le_of_ble_eq_true rfl)) hc zMv_tr zMv_tr (zFr_Co (C := C) (C' := C') (g := g)).1 (zFr_Co (C := C) (C' := C') (g := g)).2.1 rfl rfl) (zFr_Co (C := C) (C' := C') (g := g)) (fun k h => h) (by simp) (fun k h => h) rfl rfl (by show 0 + k ≤ k; omega) (by show 0 + k ≤ k; omega) ?_
  show zB m_L_code (zR 11 k k) _ _ 12 [some (.inr (.inl (some 0))), some (.inl a1), some (.inl a2), some (.inl a3), some (.inl a4), some (.inr (.inl (some 76))), none] [.inl v, .inl 0, .inr (.inl (some 76))] (zCow C' g) (0 + k) (0 + k)
  refine zr_i2l dL_code_12 ?_
  refine zr_lastore dL_code_13 zCow_76 ⟨by decide, by decide⟩ zCow_set ?_
  refine zr_goto (tgt := 25) dL_code_14 (by decide) ?_
  refine zr_iconst dL_code_25 (by decide) ?_
  exact zB_fe (zr_iret dL_code_26 rfl (by omega) (by omega) ⟨rfl, rfl⟩)
set_option maxRecDepth 100000 in
set_option maxHeartbeats 1000000 in
theorem lx_code_1 {C : zSt} {g : Int → Int} {a1 a2 a3 a4 : Int} (h : e_Co_code_ a1 a2 a3 a4 C = some 1) : zSpecH zLw hh_code 11 (fun k => k ≠ 42) 1 6 m_L_code [.inr (.inl (some 0)), .inl a1, .inl a2, .inl a3, .inl a4, .inr (.inl (some 76))] (zCow C g) (fun r1 w1 => r1 = some (.inl 1) ∧ w1 = zCow C g) := by
  have hx := x_Co_code h
  rw [zEx_1] at hx
  refine zSpecH_of (by decide +kernel) rfl (Nat.le_of_ble_eq_true rfl) ?_
  show zB m_L_code (zR 11 1 6) (zFE (fun l A s => zLw l A s ∧ zNm m_L_code.1 s) (zFq 1 6 (fun k => k ≠ 42) (fun r1 w1 => r1 = some (.inl 1) ∧ w1 = zCow C g))) (fun k => k ≠ 42) 0 [some (.inr (.inl (some 0))), some (.inl a1), some (.inl a2), some (.inl a3), some (.inl a4), some (.inr (.inl (some 76))), none] [] (ziT C 0 TCo ++ [.inr (2, 1, g)]) 0 0
  refine zr_aloadw dL_code_0 rfl ?_
  refine zr_iconst dL_code_2 (by decide) ?_
  refine zr_aload ⟨_, dL_code_3, rfl⟩ rfl ?_
  refine zr_load ⟨_, dL_code_4, rfl⟩ rfl ?_
  refine zr_load ⟨_, dL_code_5, rfl⟩ rfl ?_
  refine zr_load ⟨_, dL_code_6, rfl⟩ rfl ?_
  refine zr_loadw dL_code_7 rfl ?_
  refine zr_thrown (wr := [.inr (2, 1, g)]) (rest := [.inl 0, .inr (.inl (some 76))]) (pre := []) (x := ⟨0, 14, 17, 13⟩) (suf := [⟨0, 14, 21, 15⟩]) (hh := hh_code) (name := "java/lang/IllegalArgumentException") (i := 6) (len := 2) hx (fun _ _ _ _ _ _ _ h => zLw_go h.1) (fun _ _ _ h => h) dL_code_9 ml_L_17 rfl rfl (by decide) (by decide) rfl rfl (Nat.le_of_ble_eq_true rfl) cw_code rfl (fun z hz => absurd hz List.not_mem_nil) (by decide) (by decide) lk_L_13 ca_1 (Or.inr ⟨dL_code_17, rfl⟩) (by decide) rfl (Nat.le_refl _) (Nat.le_refl _) ?_
  refine zr_iconst dL_code_19 (by decide) ?_
  exact zB_fe (zr_iret dL_code_20 rfl (Nat.le_refl _) (Nat.le_refl _) ⟨rfl, rfl⟩)
set_option maxRecDepth 100000 in
set_option maxHeartbeats 1000000 in
theorem lx_code_2 {C : zSt} {g : Int → Int} {a1 a2 a3 a4 : Int} (h : e_Co_code_ a1 a2 a3 a4 C = some 2) : zSpecH zLw hh_code 11 (fun k => k ≠ 42) 1 6 m_L_code [.inr (.inl (some 0)), .inl a1, .inl a2, .inl a3, .inl a4, .inr (.inl (some 76))] (zCow C g) (fun r1 w1 => r1 = some (.inl 2) ∧ w1 = zCow C g) := by
  have hx := x_Co_code h
  rw [zEx_2] at hx
  refine zSpecH_of (by decide +kernel) rfl (Nat.le_of_ble_eq_true rfl) ?_
  show zB m_L_code (zR 11 1 6) (zFE (fun l A s => zLw l A s ∧ zNm m_L_code.1 s) (zFq 1 6 (fun k => k ≠ 42) (fun r1 w1 => r1 = some (.inl 2) ∧ w1 = zCow C g))) (fun k => k ≠ 42) 0 [some (.inr (.inl (some 0))), some (.inl a1), some (.inl a2), some (.inl a3), some (.inl a4), some (.inr (.inl (some 76))), none] [] (ziT C 0 TCo ++ [.inr (2, 1, g)]) 0 0
  refine zr_aloadw dL_code_0 rfl ?_
  refine zr_iconst dL_code_2 (by decide) ?_
  refine zr_aload ⟨_, dL_code_3, rfl⟩ rfl ?_
  refine zr_load ⟨_, dL_code_4, rfl⟩ rfl ?_
  refine zr_load ⟨_, dL_code_5, rfl⟩ rfl ?_
  refine zr_load ⟨_, dL_code_6, rfl⟩ rfl ?_
  refine zr_loadw dL_code_7 rfl ?_
  refine zr_thrown (wr := [.inr (2, 1, g)]) (rest := [.inl 0, .inr (.inl (some 76))]) (pre := [⟨0, 14, 17, 13⟩]) (x := ⟨0, 14, 21, 15⟩) (suf := []) (hh := hh_code) (name := "java/lang/IllegalStateException") (i := 6) (len := 2) hx (fun _ _ _ _ _ _ _ h => zLw_go h.1) (fun _ _ _ h => h) dL_code_9 ml_L_17 rfl rfl (by decide) (by decide) rfl rfl (Nat.le_of_ble_eq_true rfl) cw_code rfl (fun z hz => by
    rw [List.mem_singleton] at hz
    subst hz
    exact ⟨by decide, _, lk_L_13, by simp [zNp]⟩) (by decide) (by decide) lk_L_15 ca_2 (Or.inr ⟨dL_code_21, rfl⟩) (by decide) rfl (Nat.le_refl _) (Nat.le_refl _) ?_
  refine zr_iconst dL_code_23 (by decide) ?_
  exact zB_fe (zr_iret dL_code_24 rfl (Nat.le_refl _) (Nat.le_refl _) ⟨rfl, rfl⟩)
set_option maxRecDepth 100000 in
set_option maxHeartbeats 1000000 in
theorem la_type {C C' : zSt} {g : Int → Int} {a1 v : Int} (h : f_Co_type a1 C = some (v, C')) (hm : zpot 42 C' ≤ zpot 42 C) : zSpecH zLw hh_type 11 (fun k => k ≠ 42) (zpot 42 C - zpot 42 C') (zpot 42 C - zpot 42 C') m_L_type [.inr (.inl (some 0)), .inl a1, .inr (.inl (some 76))] (zCow C g) (fun r1 w1 => r1 = some (.inl 0) ∧ w1 = zCow C' (zup g 0 v)) := by
  obtain ⟨k, hk⟩ : ∃ k, k = zpot 42 C - zpot 42 C' := ⟨_, rfl⟩
  rw [← hk]
  have h0 := t_Co_type h hm
  have hc : zSpecF zTrv 10 (fun k => k ≠ 42) k k m_X11_type [.inr (.inl (some 0)), .inl a1] (ziT C 0 TCo) (fun r1 w1 => r1 = some (.inl v) ∧ w1 = ziT C' 0 TCo) := by
    rw [hk]
    exact zSpecG.F h0
  refine zSpecH_of (by decide +kernel) rfl (Nat.le_of_ble_eq_true rfl) ?_
  show zB m_L_type (zR 11 k k) (zFE (fun l A s => zLw l A s ∧ zNm m_L_type.1 s) (zFq k k (fun k => k ≠ 42) (fun r1 w1 => r1 = some (.inl 0) ∧ w1 = zCow C' (zup g 0 v)))) (fun k => k ≠ 42) 0 [some (.inr (.inl (some 0))), some (.inl a1), some (.inr (.inl (some 76))), none] [] (zCow C g) 0 0
  refine zr_aload ⟨_, dL_type_0, rfl⟩ rfl ?_
  refine zr_iconst dL_type_1 (by decide) ?_
  refine zr_aload ⟨_, dL_type_2, rfl⟩ rfl ?_
  refine zr_load ⟨_, dL_type_3, rfl⟩ rfl ?_
  refine zg_callW (r := some (.inl v)) (v := 42) (zRunQ_of (zrun_VW (f := zid) (rest := [.inl 0, .inr (.inl (some 76))]) dL_type_4 ml_L_21 zCow_0 rfl (by decide) (by decide) rfl (Nat.le_of_ble_eq_true rfl)) hc zMv_tr zMv_tr (zFr_Co (C := C) (C' := C') (g := g)).1 (zFr_Co (C := C) (C' := C') (g := g)).2.1 rfl rfl) (zFr_Co (C := C) (C' := C') (g := g)) (fun k h => h) (by simp) (fun k h => h) rfl rfl (by show 0 + k ≤ k; omega) (by show 0 + k ≤ k; omega) ?_
  show zB m_L_type (zR 11 k k) _ _ 7 [some (.inr (.inl (some 0))), some (.inl a1), some (.inr (.inl (some 76))), none] [.inl v, .inl 0, .inr (.inl (some 76))] (zCow C' g) (0 + k) (0 + k)
  refine zr_i2l dL_type_7 ?_
  refine zr_lastore dL_type_8 zCow_76 ⟨by decide, by decide⟩ zCow_set ?_
  refine zr_goto (tgt := 15) dL_type_9 (by decide) ?_
  refine zr_iconst dL_type_15 (by decide) ?_
  exact zB_fe (zr_iret dL_type_16 rfl (by omega) (by omega) ⟨rfl, rfl⟩)
set_option maxRecDepth 100000 in
set_option maxHeartbeats 1000000 in
theorem lx_type_1 {C : zSt} {g : Int → Int} {a1 : Int} (h : e_Co_type_ a1 C = some 1) : zSpecH zLw hh_type 11 (fun k => k ≠ 42) 1 6 m_L_type [.inr (.inl (some 0)), .inl a1, .inr (.inl (some 76))] (zCow C g) (fun r1 w1 => r1 = some (.inl 1) ∧ w1 = zCow C g) := by
  have hx := x_Co_type h
  rw [zEx_1] at hx
  refine zSpecH_of (by decide +kernel) rfl (Nat.le_of_ble_eq_true rfl) ?_
  show zB m_L_type (zR 11 1 6) (zFE (fun l A s => zLw l A s ∧ zNm m_L_type.1 s) (zFq 1 6 (fun k => k ≠ 42) (fun r1 w1 => r1 = some (.inl 1) ∧ w1 = zCow C g))) (fun k => k ≠ 42) 0 [some (.inr (.inl (some 0))), some (.inl a1), some (.inr (.inl (some 76))), none] [] (ziT C 0 TCo ++ [.inr (2, 1, g)]) 0 0
  refine zr_aload ⟨_, dL_type_0, rfl⟩ rfl ?_
  refine zr_iconst dL_type_1 (by decide) ?_
  refine zr_aload ⟨_, dL_type_2, rfl⟩ rfl ?_
  refine zr_load ⟨_, dL_type_3, rfl⟩ rfl ?_
  refine zr_thrown (wr := [.inr (2, 1, g)]) (rest := [.inl 0, .inr (.inl (some 76))]) (pre := []) (x := ⟨0, 9, 12, 13⟩) (suf := []) (hh := hh_type) (name := "java/lang/IllegalArgumentException") (i := 3) (len := 1) hx (fun _ _ _ _ _ _ _ h => zLw_go h.1) (fun _ _ _ h => h) dL_type_4 ml_L_21 rfl rfl (by decide) (by decide) rfl rfl (Nat.le_of_ble_eq_true rfl) cw_type rfl (fun z hz => absurd hz List.not_mem_nil) (by decide) (by decide) lk_L_13 ca_1 (Or.inl ⟨_, dL_type_12, rfl, rfl⟩) (by decide) rfl (Nat.le_refl _) (Nat.le_refl _) ?_
  refine zr_iconst dL_type_13 (by decide) ?_
  exact zB_fe (zr_iret dL_type_14 rfl (Nat.le_refl _) (Nat.le_refl _) ⟨rfl, rfl⟩)
