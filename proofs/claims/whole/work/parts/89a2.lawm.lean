set_option maxRecDepth 100000 in
set_option maxHeartbeats 1000000 in
theorem la_key {C C' : zSt} {g : Int → Int} {a1 a2 v : Int} (h : f_Co_key a1 a2 C = some (v, C')) (hm : zpot 42 C' ≤ zpot 42 C) : zSpecH zLw hh_key 11 (fun k => k ≠ 42) (zpot 42 C - zpot 42 C') (zpot 42 C - zpot 42 C') m_L_key [.inr (.inl (some 0)), .inl a1, .inl a2, .inr (.inl (some 76))] (zCow C g) (fun r1 w1 => r1 = some (.inl 0) ∧ w1 = zCow C' (zup g 0 v)) := by
  obtain ⟨k, hk⟩ : ∃ k, k = zpot 42 C - zpot 42 C' := ⟨_, rfl⟩
  rw [← hk]
  have h0 := t_Co_keyP (φ := zLw) (fun _ _ _ h => h.2.1) ((keyP_same a1 a2 C).trans h) hm
  have hc : zSpecF zLw 10 (fun k => k ≠ 42) k k m_X11_key [.inr (.inl (some 0)), .inl a1, .inl a2] (ziT C 0 TCo) (fun r1 w1 => r1 = some (.inl v) ∧ w1 = ziT C' 0 TCo) := by
    rw [hk]
    exact h0
  refine zSpecH_of (by decide +kernel) rfl (Nat.le_of_ble_eq_true rfl) ?_
  show zB m_L_key (zR 11 k k) (zFE (fun l A s => zLw l A s ∧ zNm m_L_key.1 s) (zFq k k (fun k => k ≠ 42) (fun r1 w1 => r1 = some (.inl 0) ∧ w1 = zCow C' (zup g 0 v)))) (fun k => k ≠ 42) 0 [some (.inr (.inl (some 0))), some (.inl a1), some (.inl a2), some (.inr (.inl (some 76))), none] [] (zCow C g) 0 0
  refine zr_aload ⟨_, dL_key_0, rfl⟩ rfl ?_
  refine zr_iconst dL_key_1 (by decide) ?_
  refine zr_aload ⟨_, dL_key_2, rfl⟩ rfl ?_
  refine zr_load ⟨_, dL_key_3, rfl⟩ rfl ?_
  refine zr_load ⟨_, dL_key_4, rfl⟩ rfl ?_
  refine zg_callW (r := some (.inl v)) (v := 42) (zRunQ_of (zrun_VW (f := zid) (rest := [.inl 0, .inr (.inl (some 76))]) dL_key_5 ml_L_24 zCow_0 rfl (by decide) (by decide) rfl (Nat.le_of_ble_eq_true rfl)) hc (fun _ _ _ _ _ _ _ h => zLw_go h.1) zMv_lw (zFr_Co (C := C) (C' := C') (g := g)).1 (zFr_Co (C := C) (C' := C') (g := g)).2.1 rfl rfl) (zFr_Co (C := C) (C' := C') (g := g)) (fun k h => h) (by simp) (fun k h => h) rfl rfl (by show 0 + k ≤ k; omega) (by show 0 + k ≤ k; omega) ?_
  show zB m_L_key (zR 11 k k) _ _ 8 [some (.inr (.inl (some 0))), some (.inl a1), some (.inl a2), some (.inr (.inl (some 76))), none] [.inl v, .inl 0, .inr (.inl (some 76))] (zCow C' g) (0 + k) (0 + k)
  refine zr_i2l dL_key_8 ?_
  refine zr_lastore dL_key_9 zCow_76 ⟨by decide, by decide⟩ zCow_set ?_
  refine zr_goto (tgt := 17) dL_key_10 (by decide) ?_
  refine zr_iconst dL_key_17 (by decide) ?_
  exact zB_fe (zr_iret dL_key_18 rfl (by omega) (by omega) ⟨rfl, rfl⟩)
set_option maxRecDepth 100000 in
set_option maxHeartbeats 1000000 in
theorem lx_key_1 {C : zSt} {g : Int → Int} {a1 a2 : Int} (h : e_Co_key_ a1 a2 C = some 1) : zSpecH zLw hh_key 11 (fun k => k ≠ 42) 1 6 m_L_key [.inr (.inl (some 0)), .inl a1, .inl a2, .inr (.inl (some 76))] (zCow C g) (fun r1 w1 => r1 = some (.inl 1) ∧ w1 = zCow C g) := by
  have hx := x_Co_key h
  rw [zEx_1] at hx
  refine zSpecH_of (by decide +kernel) rfl (Nat.le_of_ble_eq_true rfl) ?_
  show zB m_L_key (zR 11 1 6) (zFE (fun l A s => zLw l A s ∧ zNm m_L_key.1 s) (zFq 1 6 (fun k => k ≠ 42) (fun r1 w1 => r1 = some (.inl 1) ∧ w1 = zCow C g))) (fun k => k ≠ 42) 0 [some (.inr (.inl (some 0))), some (.inl a1), some (.inl a2), some (.inr (.inl (some 76))), none] [] (ziT C 0 TCo ++ [.inr (2, 1, g)]) 0 0
  refine zr_aload ⟨_, dL_key_0, rfl⟩ rfl ?_
  refine zr_iconst dL_key_1 (by decide) ?_
  refine zr_aload ⟨_, dL_key_2, rfl⟩ rfl ?_
  refine zr_load ⟨_, dL_key_3, rfl⟩ rfl ?_
  refine zr_load ⟨_, dL_key_4, rfl⟩ rfl ?_
  refine zr_thrown (wr := [.inr (2, 1, g)]) (rest := [.inl 0, .inr (.inl (some 76))]) (pre := []) (x := ⟨0, 10, 13, 13⟩) (suf := []) (hh := hh_key) (name := "java/lang/IllegalArgumentException") (i := 4) (len := 2) hx (fun _ _ _ _ _ _ _ h => zLw_go h.1) (fun _ _ _ h => h) dL_key_5 ml_L_24 rfl rfl (by decide) (by decide) rfl rfl (Nat.le_of_ble_eq_true rfl) cw_key rfl (fun z hz => absurd hz List.not_mem_nil) (by decide) (by decide) lk_L_13 ca_1 (Or.inr ⟨dL_key_13, rfl⟩) (by decide) rfl (Nat.le_refl _) (Nat.le_refl _) ?_
  refine zr_iconst dL_key_15 (by decide) ?_
  exact zB_fe (zr_iret dL_key_16 rfl (Nat.le_refl _) (Nat.le_refl _) ⟨rfl, rfl⟩)
set_option maxRecDepth 100000 in
set_option maxHeartbeats 1000000 in
theorem la_draft {C C' : zSt} {g : Int → Int} {a1 v : Int} (h : f_Co_draft a1 C = some (v, C')) : zSpecH zLw hh_draft 8 (fun k => k ≠ 42) 0 0 m_L_draft [.inr (.inl (some 0)), .inl a1, .inr (.inl (some 76))] (zCow C g) (fun r1 w1 => r1 = some (.inl 0) ∧ w1 = zCow C' (zup g 0 v)) := by
  have h0 := t_Co_draft h
  have hc : zSpecF zTrv 3 zall 0 0 m_X11_draft [.inr (.inl (some 0)), .inl a1] (ziT C 0 TCo) (fun r1 w1 => r1 = some (.inl v) ∧ w1 = ziT C' 0 TCo) := by
    exact zSpecT.F h0
  refine zSpecH_of (by decide +kernel) rfl (Nat.le_of_ble_eq_true rfl) ?_
  show zB m_L_draft (zR 8 0 0) (zFE (fun l A s => zLw l A s ∧ zNm m_L_draft.1 s) (zFq 0 0 (fun k => k ≠ 42) (fun r1 w1 => r1 = some (.inl 0) ∧ w1 = zCow C' (zup g 0 v)))) (fun k => k ≠ 42) 0 [some (.inr (.inl (some 0))), some (.inl a1), some (.inr (.inl (some 76))), none] [] (zCow C g) 0 0
  refine zr_aload ⟨_, dL_draft_0, rfl⟩ rfl ?_
  refine zr_iconst dL_draft_1 (by decide) ?_
  refine zr_aload ⟨_, dL_draft_2, rfl⟩ rfl ?_
  refine zr_load ⟨_, dL_draft_3, rfl⟩ rfl ?_
  refine zg_callW (r := some (.inl v)) (v := 42) (zRunQ_of (zrun_VW (f := zid) (rest := [.inl 0, .inr (.inl (some 76))]) dL_draft_4 ml_L_28 zCow_0 rfl (by decide) (by decide) rfl (Nat.le_of_ble_eq_true rfl)) hc zMv_tr zMv_tr (zFr_Co (C := C) (C' := C') (g := g)).1 (zFr_Co (C := C) (C' := C') (g := g)).2.1 rfl rfl) (zFr_Co (C := C) (C' := C') (g := g)) (fun _ _ => True.intro) (by simp) (fun k h => h) rfl rfl (by show 0 + 0 ≤ 0; omega) (by show 0 + 0 ≤ 0; omega) ?_
  show zB m_L_draft (zR 8 0 0) _ _ 7 [some (.inr (.inl (some 0))), some (.inl a1), some (.inr (.inl (some 76))), none] [.inl v, .inl 0, .inr (.inl (some 76))] (zCow C' g) (0 + 0) (0 + 0)
  refine zr_i2l dL_draft_7 ?_
  refine zr_lastore dL_draft_8 zCow_76 ⟨by decide, by decide⟩ zCow_set ?_
  refine zr_goto (tgt := 18) dL_draft_9 (by decide) ?_
  refine zr_iconst dL_draft_18 (by decide) ?_
  exact zB_fe (zr_iret dL_draft_19 rfl (by omega) (by omega) ⟨rfl, rfl⟩)
set_option maxRecDepth 100000 in
set_option maxHeartbeats 1000000 in
theorem lx_draft_1 {C : zSt} {g : Int → Int} {a1 : Int} (h : e_Co_draft_ a1 C = some 1) : zSpecH zLw hh_draft 8 (fun k => k ≠ 42) 1 6 m_L_draft [.inr (.inl (some 0)), .inl a1, .inr (.inl (some 76))] (zCow C g) (fun r1 w1 => r1 = some (.inl 1) ∧ w1 = zCow C g) := by
  have hx := x_Co_draft h
  rw [zEx_1] at hx
  refine zSpecH_of (by decide +kernel) rfl (Nat.le_of_ble_eq_true rfl) ?_
  show zB m_L_draft (zR 8 1 6) (zFE (fun l A s => zLw l A s ∧ zNm m_L_draft.1 s) (zFq 1 6 (fun k => k ≠ 42) (fun r1 w1 => r1 = some (.inl 1) ∧ w1 = zCow C g))) (fun k => k ≠ 42) 0 [some (.inr (.inl (some 0))), some (.inl a1), some (.inr (.inl (some 76))), none] [] (ziT C 0 TCo ++ [.inr (2, 1, g)]) 0 0
  refine zr_aload ⟨_, dL_draft_0, rfl⟩ rfl ?_
  refine zr_iconst dL_draft_1 (by decide) ?_
  refine zr_aload ⟨_, dL_draft_2, rfl⟩ rfl ?_
  refine zr_load ⟨_, dL_draft_3, rfl⟩ rfl ?_
  refine zr_thrown (wr := [.inr (2, 1, g)]) (rest := [.inl 0, .inr (.inl (some 76))]) (pre := []) (x := ⟨0, 9, 12, 13⟩) (suf := [⟨0, 9, 15, 15⟩]) (hh := hh_draft) (name := "java/lang/IllegalArgumentException") (i := 3) (len := 1) hx (fun _ _ _ _ _ _ _ h => zLw_go h.1) (fun _ _ _ h => h) dL_draft_4 ml_L_28 rfl rfl (by decide) (by decide) rfl rfl (Nat.le_of_ble_eq_true rfl) cw_draft rfl (fun z hz => absurd hz List.not_mem_nil) (by decide) (by decide) lk_L_13 ca_1 (Or.inl ⟨_, dL_draft_12, rfl, rfl⟩) (by decide) rfl (Nat.le_refl _) (Nat.le_refl _) ?_
  refine zr_iconst dL_draft_13 (by decide) ?_
  exact zB_fe (zr_iret dL_draft_14 rfl (Nat.le_refl _) (Nat.le_refl _) ⟨rfl, rfl⟩)
set_option maxRecDepth 100000 in
set_option maxHeartbeats 1000000 in
theorem lx_draft_2 {C : zSt} {g : Int → Int} {a1 : Int} (h : e_Co_draft_ a1 C = some 2) : zSpecH zLw hh_draft 8 (fun k => k ≠ 42) 1 6 m_L_draft [.inr (.inl (some 0)), .inl a1, .inr (.inl (some 76))] (zCow C g) (fun r1 w1 => r1 = some (.inl 2) ∧ w1 = zCow C g) := by
  have hx := x_Co_draft h
  rw [zEx_2] at hx
  refine zSpecH_of (by decide +kernel) rfl (Nat.le_of_ble_eq_true rfl) ?_
  show zB m_L_draft (zR 8 1 6) (zFE (fun l A s => zLw l A s ∧ zNm m_L_draft.1 s) (zFq 1 6 (fun k => k ≠ 42) (fun r1 w1 => r1 = some (.inl 2) ∧ w1 = zCow C g))) (fun k => k ≠ 42) 0 [some (.inr (.inl (some 0))), some (.inl a1), some (.inr (.inl (some 76))), none] [] (ziT C 0 TCo ++ [.inr (2, 1, g)]) 0 0
  refine zr_aload ⟨_, dL_draft_0, rfl⟩ rfl ?_
  refine zr_iconst dL_draft_1 (by decide) ?_
  refine zr_aload ⟨_, dL_draft_2, rfl⟩ rfl ?_
  refine zr_load ⟨_, dL_draft_3, rfl⟩ rfl ?_
  refine zr_thrown (wr := [.inr (2, 1, g)]) (rest := [.inl 0, .inr (.inl (some 76))]) (pre := [⟨0, 9, 12, 13⟩]) (x := ⟨0, 9, 15, 15⟩) (suf := []) (hh := hh_draft) (name := "java/lang/IllegalStateException") (i := 3) (len := 1) hx (fun _ _ _ _ _ _ _ h => zLw_go h.1) (fun _ _ _ h => h) dL_draft_4 ml_L_28 rfl rfl (by decide) (by decide) rfl rfl (Nat.le_of_ble_eq_true rfl) cw_draft rfl (fun z hz => by
    rw [List.mem_singleton] at hz
    subst hz
    exact ⟨by decide, _, lk_L_13, by simp [zNp]⟩) (by decide) (by decide) lk_L_15 ca_2 (Or.inl ⟨_, dL_draft_15, rfl, rfl⟩) (by decide) rfl (Nat.le_refl _) (Nat.le_refl _) ?_
  refine zr_iconst dL_draft_16 (by decide) ?_
  exact zB_fe (zr_iret dL_draft_17 rfl (Nat.le_refl _) (Nat.le_refl _) ⟨rfl, rfl⟩)
set_option maxRecDepth 100000 in
set_option maxHeartbeats 1000000 in
theorem la_mouse {C C' : zSt} {g : Int → Int} {a1 a2 a3 v : Int} (h : f_Co_mouse a1 a2 a3 C = some (v, C')) (hm : zpot 42 C' ≤ zpot 42 C) : zSpecH zLw hh_mouse 11 (fun k => k ≠ 42) (zpot 42 C - zpot 42 C') (zpot 42 C - zpot 42 C') m_L_mouse [.inr (.inl (some 0)), .inl a1, .inl a2, .inl a3, .inr (.inl (some 76))] (zCow C g) (fun r1 w1 => r1 = some (.inl 0) ∧ w1 = zCow C' (zup g 0 v)) := by
  obtain ⟨k, hk⟩ : ∃ k, k = zpot 42 C - zpot 42 C' := ⟨_, rfl⟩
  rw [← hk]
  have h0 := t_Co_mouse h hm
  have hc : zSpecF zTrv 10 (fun k => k ≠ 42) k k m_X11_mouse [.inr (.inl (some 0)), .inl a1, .inl a2, .inl a3] (ziT C 0 TCo) (fun r1 w1 => r1 = some (.inl v) ∧ w1 = ziT C' 0 TCo) := by
    rw [hk]
    exact zSpecG.F h0
  refine zSpecH_of (by decide +kernel) rfl (Nat.le_of_ble_eq_true rfl) ?_
  show zB m_L_mouse (zR 11 k k) (zFE (fun l A s => zLw l A s ∧ zNm m_L_mouse.1 s) (zFq k k (fun k => k ≠ 42) (fun r1 w1 => r1 = some (.inl 0) ∧ w1 = zCow C' (zup g 0 v)))) (fun k => k ≠ 42) 0 [some (.inr (.inl (some 0))), some (.inl a1), some (.inl a2), some (.inl a3), some (.inr (.inl (some 76))), none] [] (zCow C g) 0 0
  refine zr_aloadw dL_mouse_0 rfl ?_
  refine zr_iconst dL_mouse_2 (by decide) ?_
  refine zr_aload ⟨_, dL_mouse_3, rfl⟩ rfl ?_
  refine zr_load ⟨_, dL_mouse_4, rfl⟩ rfl ?_
  refine zr_load ⟨_, dL_mouse_5, rfl⟩ rfl ?_
  refine zr_load ⟨_, dL_mouse_6, rfl⟩ rfl ?_
  refine zg_callW (r := some (.inl v)) (v := 42) (zRunQ_of (zrun_VW (f := zid) (rest := [.inl 0, .inr (.inl (some 76))]) dL_mouse_7 ml_L_31 zCow_0 rfl (by decide) (by decide) rfl (Nat.le_of_ble_eq_true rfl)) hc zMv_tr zMv_tr (zFr_Co (C := C) (C' := C') (g := g)).1 (zFr_Co (C := C) (C' := C') (g := g)).2.1 rfl rfl) (zFr_Co (C := C) (C' := C') (g := g)) (fun k h => h) (by simp) (fun k h => h) rfl rfl (by show 0 + k ≤ k; omega) (by show 0 + k ≤ k; omega) ?_
  show zB m_L_mouse (zR 11 k k) _ _ 10 [some (.inr (.inl (some 0))), some (.inl a1), some (.inl a2), some (.inl a3), some (.inr (.inl (some 76))), none] [.inl v, .inl 0, .inr (.inl (some 76))] (zCow C' g) (0 + k) (0 + k)
  refine zr_i2l dL_mouse_10 ?_
  refine zr_lastore dL_mouse_11 zCow_76 ⟨by decide, by decide⟩ zCow_set ?_
  refine zr_goto (tgt := 23) dL_mouse_12 (by decide) ?_
  refine zr_iconst dL_mouse_23 (by decide) ?_
  exact zB_fe (zr_iret dL_mouse_24 rfl (by omega) (by omega) ⟨rfl, rfl⟩)
set_option maxRecDepth 100000 in
set_option maxHeartbeats 1000000 in
theorem lx_mouse_3 {C : zSt} {g : Int → Int} {a1 a2 a3 : Int} (h : e_Co_mouse_ a1 a2 a3 C = some 3) : zSpecH zLw hh_mouse 11 (fun k => k ≠ 42) 1 6 m_L_mouse [.inr (.inl (some 0)), .inl a1, .inl a2, .inl a3, .inr (.inl (some 76))] (zCow C g) (fun r1 w1 => r1 = some (.inl 1) ∧ w1 = zCow C g) := by
  have hx := x_Co_mouse h
  rw [zEx_3] at hx
  refine zSpecH_of (by decide +kernel) rfl (Nat.le_of_ble_eq_true rfl) ?_
  show zB m_L_mouse (zR 11 1 6) (zFE (fun l A s => zLw l A s ∧ zNm m_L_mouse.1 s) (zFq 1 6 (fun k => k ≠ 42) (fun r1 w1 => r1 = some (.inl 1) ∧ w1 = zCow C g))) (fun k => k ≠ 42) 0 [some (.inr (.inl (some 0))), some (.inl a1), some (.inl a2), some (.inl a3), some (.inr (.inl (some 76))), none] [] (ziT C 0 TCo ++ [.inr (2, 1, g)]) 0 0
  refine zr_aloadw dL_mouse_0 rfl ?_
  refine zr_iconst dL_mouse_2 (by decide) ?_
  refine zr_aload ⟨_, dL_mouse_3, rfl⟩ rfl ?_
  refine zr_load ⟨_, dL_mouse_4, rfl⟩ rfl ?_
  refine zr_load ⟨_, dL_mouse_5, rfl⟩ rfl ?_
  refine zr_load ⟨_, dL_mouse_6, rfl⟩ rfl ?_
  refine zr_thrown (wr := [.inr (2, 1, g)]) (rest := [.inl 0, .inr (.inl (some 76))]) (pre := []) (x := ⟨0, 12, 15, 35⟩) (suf := [⟨0, 12, 19, 13⟩]) (hh := hh_mouse) (name := "java/lang/IndexOutOfBoundsException") (i := 5) (len := 2) hx (fun _ _ _ _ _ _ _ h => zLw_go h.1) (fun _ _ _ h => h) dL_mouse_7 ml_L_31 rfl rfl (by decide) (by decide) rfl rfl (Nat.le_of_ble_eq_true rfl) cw_mouse rfl (fun z hz => absurd hz List.not_mem_nil) (by decide) (by decide) lk_L_35 ca_3 (Or.inr ⟨dL_mouse_15, rfl⟩) (by decide) rfl (Nat.le_refl _) (Nat.le_refl _) ?_
  refine zr_iconst dL_mouse_17 (by decide) ?_
  exact zB_fe (zr_iret dL_mouse_18 rfl (Nat.le_refl _) (Nat.le_refl _) ⟨rfl, rfl⟩)
set_option maxRecDepth 100000 in
set_option maxHeartbeats 1000000 in
theorem lx_mouse_1 {C : zSt} {g : Int → Int} {a1 a2 a3 : Int} (h : e_Co_mouse_ a1 a2 a3 C = some 1) : zSpecH zLw hh_mouse 11 (fun k => k ≠ 42) 1 6 m_L_mouse [.inr (.inl (some 0)), .inl a1, .inl a2, .inl a3, .inr (.inl (some 76))] (zCow C g) (fun r1 w1 => r1 = some (.inl 2) ∧ w1 = zCow C g) := by
  have hx := x_Co_mouse h
  rw [zEx_1] at hx
  refine zSpecH_of (by decide +kernel) rfl (Nat.le_of_ble_eq_true rfl) ?_
  show zB m_L_mouse (zR 11 1 6) (zFE (fun l A s => zLw l A s ∧ zNm m_L_mouse.1 s) (zFq 1 6 (fun k => k ≠ 42) (fun r1 w1 => r1 = some (.inl 2) ∧ w1 = zCow C g))) (fun k => k ≠ 42) 0 [some (.inr (.inl (some 0))), some (.inl a1), some (.inl a2), some (.inl a3), some (.inr (.inl (some 76))), none] [] (ziT C 0 TCo ++ [.inr (2, 1, g)]) 0 0
  refine zr_aloadw dL_mouse_0 rfl ?_
  refine zr_iconst dL_mouse_2 (by decide) ?_
  refine zr_aload ⟨_, dL_mouse_3, rfl⟩ rfl ?_
  refine zr_load ⟨_, dL_mouse_4, rfl⟩ rfl ?_
  refine zr_load ⟨_, dL_mouse_5, rfl⟩ rfl ?_
  refine zr_load ⟨_, dL_mouse_6, rfl⟩ rfl ?_
  refine zr_thrown (wr := [.inr (2, 1, g)]) (rest := [.inl 0, .inr (.inl (some 76))]) (pre := [⟨0, 12, 15, 35⟩]) (x := ⟨0, 12, 19, 13⟩) (suf := []) (hh := hh_mouse) (name := "java/lang/IllegalArgumentException") (i := 5) (len := 2) hx (fun _ _ _ _ _ _ _ h => zLw_go h.1) (fun _ _ _ h => h) dL_mouse_7 ml_L_31 rfl rfl (by decide) (by decide) rfl rfl (Nat.le_of_ble_eq_true rfl) cw_mouse rfl (fun z hz => by
    rw [List.mem_singleton] at hz
    subst hz
    exact ⟨by decide, _, lk_L_35, by simp [zNp]⟩) (by decide) (by decide) lk_L_13 ca_1 (Or.inr ⟨dL_mouse_19, rfl⟩) (by decide) rfl (Nat.le_refl _) (Nat.le_refl _) ?_
  refine zr_iconst dL_mouse_21 (by decide) ?_
  exact zB_fe (zr_iret dL_mouse_22 rfl (Nat.le_refl _) (Nat.le_refl _) ⟨rfl, rfl⟩)
