set_option maxRecDepth 100000 in
set_option maxHeartbeats 4000000 in
theorem t_Md_reset  {s : zSt} {res : Int × zSt} (h : f_Md_reset s = some res) : zSpecT 1 m_X5_reset [.inr (.inl (some 0))] TMd s none res.2 := by
  refine zSpec_of (by decide +kernel) (Nat.le_of_ble_eq_true rfl) ?_
  show zBT 1 m_X5_reset TMd none res.2 0 [some (.inr (.inl (some 0)))] [] s
  unfold f_Md_reset at h
  refine zr_aload ⟨_, dX5_reset_0, rfl⟩ rfl ?_
  refine zr_iconst dX5_reset_1 (by decide) ?_
  refine zt_putz dX5_reset_2 fl_X5_16 rfl rfl (Or.inl rfl) ?_
  refine zr_aload ⟨_, dX5_reset_5, rfl⟩ rfl ?_
  refine zr_iconst dX5_reset_6 (by decide) ?_
  refine zt_putz dX5_reset_7 fl_X5_7 rfl rfl (Or.inr rfl) ?_
  refine zr_aload ⟨_, dX5_reset_10, rfl⟩ rfl ?_
  refine zr_iconst dX5_reset_11 (by decide) ?_
  refine zt_putz dX5_reset_12 fl_X5_13 rfl rfl (Or.inr rfl) ?_
  refine zr_aload ⟨_, dX5_reset_15, rfl⟩ rfl ?_
  refine zr_iconst dX5_reset_16 (by decide) ?_
  refine zt_putz dX5_reset_17 fl_X5_19 rfl rfl (Or.inl rfl) ?_
  refine zr_aload ⟨_, dX5_reset_20, rfl⟩ rfl ?_
  refine zr_iconst dX5_reset_21 (by decide) ?_
  refine zt_putz dX5_reset_22 fl_X5_22 rfl rfl (Or.inl rfl) ?_
  refine zr_aload ⟨_, dX5_reset_25, rfl⟩ rfl ?_
  refine zr_iconst dX5_reset_26 (by decide) ?_
  refine zt_putz dX5_reset_27 fl_X5_25 rfl rfl (Or.inl rfl) ?_
  obtain rfl := Option.some.inj h
  exact zt_vret dX5_reset_30 rfl
