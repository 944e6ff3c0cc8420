set_option maxRecDepth 100000 in
set_option maxHeartbeats 1000000 in
theorem la_write {C C' : zSt} {g : Int → Int} {a1 v : Int} (h : f_Co_write a1 C = some (v, C')) (hm : zpot 42 C' ≤ zpot 42 C) : zSpecH zLw hh_write 11 (fun k => k ≠ 42) (zpot 42 C - zpot 42 C') (zpot 42 C - zpot 42 C') m_L_write [.inr (.inl (some 0)), .inl a1, .inr (.inl (some 76))] (zCow C g) (fun r1 w1 => r1 = some (.inl 0) ∧ w1 = zCow C' (zup g 0 v)) := by
  obtain ⟨k, hk⟩ : ∃ k, k = zpot 42 C - zpot 42 C' := ⟨_, rfl⟩
  rw [← hk]
  have h0 := t_Co_write h hm
  have hc : zSpecF zTrv 10 (fun k => k ≠ 42) k k m_X11_write [.inr (.inl (some 0)), .inl a1] (ziT C 0 TCo) (fun r1 w1 => r1 = some (.inl v) ∧ w1 = ziT C' 0 TCo) := by
    rw [hk]
    exact zSpecG.F h0
  refine zSpecH_of (by decide +kernel) rfl (Nat.le_of_ble_eq_true rfl) ?_
  show zB m_L_write (zR 11 k k) (zFE (fun l A s => zLw l A s ∧ zNm m_L_write.1 s) (zFq k k (fun k => k ≠ 42) (fun r1 w1 => r1 = some (.inl 0) ∧ w1 = zCow C' (zup g 0 v)))) (fun k => k ≠ 42) 0 [some (.inr (.inl (some 0))), some (.inl a1), some (.inr (.inl (some 76))), none] [] (zCow C g) 0 0
  refine zr_aload ⟨_, dL_write_0, rfl⟩ rfl ?_
  refine zr_iconst dL_write_1 (by decide) ?_
  refine zr_aload ⟨_, dL_write_2, rfl⟩ rfl ?_
  refine zr_load ⟨_, dL_write_3, rfl⟩ rfl ?_
  refine zg_callW (r := some (.inl v)) (v := 42) (zRunQ_of (zrun_VW (f := zid) (rest := [.inl 0, .inr (.inl (some 76))]) dL_write_4 ml_L_7 zCow_0 rfl (by decide) (by decide) rfl (Nat.le_of_ble_eq_true rfl)) hc zMv_tr zMv_tr (zFr_Co (C := C) (C' := C') (g := g)).1 (zFr_Co (C := C) (C' := C') (g := g)).2.1 rfl rfl) (zFr_Co (C := C) (C' := C') (g := g)) (fun k h => h) (by simp) (fun k h => h) rfl rfl (by show 0 + k ≤ k; omega) (by show 0 + k ≤ k; omega) ?_
  show zB m_L_write (zR 11 k k) _ _ 7 [some (.inr (.inl (some 0))), some (.inl a1), some (.inr (.inl (some 76))), none] [.inl v, .inl 0, .inr (.inl (some 76))] (zCow C' g) (0 + k) (0 + k)
  refine zr_i2l dL_write_7 ?_
  refine zr_lastore dL_write_8 zCow_76 ⟨by decide, by decide⟩ zCow_set ?_
  refine zr_goto (tgt := 18) dL_write_9 (by decide) ?_
  refine zr_iconst dL_write_18 (by decide) ?_
  exact zB_fe (zr_iret dL_write_19 rfl (by omega) (by omega) ⟨rfl, rfl⟩)
set_option maxRecDepth 100000 in
set_option maxHeartbeats 1000000 in
theorem lx_write_1 {C : zSt} {g : Int → Int} {a1 : Int} (h : e_Co_write_ a1 C = some 1) : zSpecH zLw hh_write 11 (fun k => k ≠ 42) 1 6 m_L_write [.inr (.inl (some 0)), .inl a1, .inr (.inl (some 76))] (zCow C g) (fun r1 w1 => r1 = some (.inl 1) ∧ w1 = zCow C g) := by
  have hx := x_Co_write h
  rw [zEx_1] at hx
  refine zSpecH_of (by decide +kernel) rfl (Nat.le_of_ble_eq_true rfl) ?_
  show zB m_L_write (zR 11 1 6) (zFE (fun l A s => zLw l A s ∧ zNm m_L_write.1 s) (zFq 1 6 (fun k => k ≠ 42) (fun r1 w1 => r1 = some (.inl 1) ∧ w1 = zCow C g))) (fun k => k ≠ 42) 0 [some (.inr (.inl (some 0))), some (.inl a1), some (.inr (.inl (some 76))), none] [] (ziT C 0 TCo ++ [.inr (2, 1, g)]) 0 0
  refine zr_aload ⟨_, dL_write_0, rfl⟩ rfl ?_
  refine zr_iconst dL_write_1 (by decide) ?_
  refine zr_aload ⟨_, dL_write_2, rfl⟩ rfl ?_
  refine zr_load ⟨_, dL_write_3, rfl⟩ rfl ?_
  refine zr_thrown (wr := [.inr (2, 1, g)]) (rest := [.inl 0, .inr (.inl (some 76))]) (pre := []) (x := ⟨0, 9, 12, 13⟩) (suf := [⟨0, 9, 15, 15⟩]) (hh := hh_write) (name := "java/lang/IllegalArgumentException") (i := 3) (len := 1) hx (fun _ _ _ _ _ _ _ h => zLw_go h.1) (fun _ _ _ h => h) dL_write_4 ml_L_7 rfl rfl (by decide) (by decide) rfl rfl (Nat.le_of_ble_eq_true rfl) cw_write rfl (fun z hz => absurd hz List.not_mem_nil) (by decide) (by decide) lk_L_13 ca_1 (Or.inl ⟨_, dL_write_12, rfl, rfl⟩) (by decide) rfl (Nat.le_refl _) (Nat.le_refl _) ?_
  refine zr_iconst dL_write_13 (by decide) ?_
  exact zB_fe (zr_iret dL_write_14 rfl (Nat.le_refl _) (Nat.le_refl _) ⟨rfl, rfl⟩)
