set_option maxRecDepth 100000 in
set_option maxHeartbeats 4000000 in
theorem t_Cu_copy  {s : zSt} {res : Int × zSt} (h : f_Cu_copy s = some res) : zSpecT 1 m_X1_copy [.inr (.inl (some 0)), .inr (.inl (some 1))] TCuCu s none res.2 := by
  refine zSpec_of (by decide +kernel) (Nat.le_of_ble_eq_true rfl) ?_
  show zBT 1 m_X1_copy TCuCu none res.2 0 [some (.inr (.inl (some 0))), some (.inr (.inl (some 1)))] [] s
  unfold f_Cu_copy at h
  refine zr_aload ⟨_, dX1_copy_0, rfl⟩ rfl ?_
  refine zr_aload ⟨_, dX1_copy_1, rfl⟩ rfl ?_
  refine zt_get dX1_copy_2 fl_X1_7 rfl rfl ?_
  refine zt_put dX1_copy_5 fl_X1_7 rfl rfl ?_
  refine zr_aload ⟨_, dX1_copy_8, rfl⟩ rfl ?_
  refine zr_aload ⟨_, dX1_copy_9, rfl⟩ rfl ?_
  refine zt_get dX1_copy_10 fl_X1_13 rfl rfl ?_
  refine zt_put dX1_copy_13 fl_X1_13 rfl rfl ?_
  refine zr_aload ⟨_, dX1_copy_16, rfl⟩ rfl ?_
  refine zr_aload ⟨_, dX1_copy_17, rfl⟩ rfl ?_
  refine zt_get dX1_copy_18 fl_X1_16 rfl rfl ?_
  obtain ⟨hb1, h⟩ := zchk h
  refine zt_putz dX1_copy_21 fl_X1_16 rfl rfl hb1 ?_
  refine zr_aload ⟨_, dX1_copy_24, rfl⟩ rfl ?_
  refine zr_aload ⟨_, dX1_copy_25, rfl⟩ rfl ?_
  refine zt_get dX1_copy_26 fl_X1_20 rfl rfl ?_
  refine zt_put dX1_copy_29 fl_X1_20 rfl rfl ?_
  refine zr_aload ⟨_, dX1_copy_32, rfl⟩ rfl ?_
  refine zr_aload ⟨_, dX1_copy_33, rfl⟩ rfl ?_
  refine zt_get dX1_copy_34 fl_X1_23 rfl rfl ?_
  obtain ⟨hb2, h⟩ := zchk h
  refine zt_putz dX1_copy_37 fl_X1_23 rfl rfl hb2 ?_
  obtain rfl := Option.some.inj h
  exact zt_vret dX1_copy_40 rfl
set_option maxRecDepth 100000 in
set_option maxHeartbeats 4000000 in
theorem t_Cu_goTo {a1 a2 : Int} {s : zSt} {res : Int × zSt} (h : f_Cu_goTo a1 a2 s = some res) : zSpecT 1 m_X1_goTo [.inr (.inl (some 0)), .inl a1, .inl a2] TCu s none res.2 := by
  refine zSpec_of (by decide +kernel) (Nat.le_of_ble_eq_true rfl) ?_
  show zBT 1 m_X1_goTo TCu none res.2 0 [some (.inr (.inl (some 0))), some (.inl a1), some (.inl a2)] [] s
  unfold f_Cu_goTo at h
  refine zr_aload ⟨_, dX1_goTo_0, rfl⟩ rfl ?_
  refine zr_load ⟨_, dX1_goTo_1, rfl⟩ rfl ?_
  refine zt_put dX1_goTo_2 fl_X1_7 rfl rfl ?_
  refine zr_aload ⟨_, dX1_goTo_5, rfl⟩ rfl ?_
  refine zr_load ⟨_, dX1_goTo_6, rfl⟩ rfl ?_
  refine zt_put dX1_goTo_7 fl_X1_13 rfl rfl ?_
  refine zr_aload ⟨_, dX1_goTo_10, rfl⟩ rfl ?_
  refine zr_iconst dX1_goTo_11 (by decide) ?_
  refine zt_putz dX1_goTo_12 fl_X1_16 rfl rfl (Or.inl rfl) ?_
  obtain rfl := Option.some.inj h
  exact zt_vret dX1_goTo_15 rfl
set_option maxRecDepth 100000 in
set_option maxHeartbeats 4000000 in
theorem t_Cu_reset  {s : zSt} {res : Int × zSt} (h : f_Cu_reset s = some res) : zSpecT 2 m_X1_reset [.inr (.inl (some 0))] TCu s none res.2 := by
  refine zSpec_of (by decide +kernel) (Nat.le_of_ble_eq_true rfl) ?_
  show zBT 2 m_X1_reset TCu none res.2 0 [some (.inr (.inl (some 0)))] [] s
  unfold f_Cu_reset at h
  refine zr_aload ⟨_, dX1_reset_0, rfl⟩ rfl ?_
  refine zr_iconst dX1_reset_1 (by decide) ?_
  refine zr_iconst dX1_reset_2 (by decide) ?_
  obtain ⟨x1, hx1, h⟩ := zbind h
  refine zt_calliv (t_Cu_goTo hx1) (zrun_V (rest := []) dX1_reset_3 ml_X1_26 rfl rfl (by decide) (by decide) rfl (Nat.le_of_ble_eq_true rfl)) rfl rfl (Nat.le_refl _) (Nat.le_refl _) ?_
  refine zr_aload ⟨_, dX1_reset_6, rfl⟩ rfl ?_
  refine zr_iconst dX1_reset_7 (by decide) ?_
  refine zt_put dX1_reset_8 fl_X1_20 rfl rfl ?_
  refine zr_aload ⟨_, dX1_reset_11, rfl⟩ rfl ?_
  refine zr_iconst dX1_reset_12 (by decide) ?_
  refine zt_putz dX1_reset_13 fl_X1_23 rfl rfl (Or.inl rfl) ?_
  obtain rfl := Option.some.inj h
  exact zt_vret dX1_reset_16 rfl
