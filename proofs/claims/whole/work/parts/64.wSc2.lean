set_option maxRecDepth 100000 in
set_option maxHeartbeats 4000000 in
theorem t_Sc_resize_j27 {v1 v2 v3 : Int} {s : zSt} {res : Int × zSt} (h : f_Sc_resize_j27 v1 v2 v3 s = some res) : zBT 8 m_X8_resize TSc none res.2 27 [some (.inr (.inl (some 0))), some (.inl v1), some (.inl v2), some (.inl v3)] [.inr (.inl (some 12)), .inr (.inl (some 1))] s := by
  unfold f_Sc_resize_j27 at h
  refine zr_load ⟨_, dX8_resize_27, rfl⟩ rfl ?_
  refine zr_load ⟨_, dX8_resize_28, rfl⟩ rfl ?_
  obtain ⟨x1, hx1, h⟩ := zbind h
  refine zt_callv (t_Ma_wrap hx1) (zrun_V (rest := []) dX8_resize_29 ml_X8_308 rfl rfl (by decide) (by decide) rfl (Nat.le_of_ble_eq_true rfl)) rfl rfl sb_TSc_TMaCu_1 (Nat.le_refl _) (Nat.le_refl _) ?_
  refine zr_aload ⟨_, dX8_resize_32, rfl⟩ rfl ?_
  refine zt_getr dX8_resize_33 fl_X8_51 rfl rfl ?_
  refine zr_load ⟨_, dX8_resize_36, rfl⟩ rfl ?_
  refine zr_load ⟨_, dX8_resize_37, rfl⟩ rfl ?_
  obtain ⟨x2, hx2, h⟩ := zbind h
  refine zt_callv (t_Pi_cut hx2) (zrun_V (rest := []) dX8_resize_38 ml_X8_312 rfl rfl (by decide) (by decide) rfl (Nat.le_of_ble_eq_true rfl)) rfl rfl sb_TSc_TPi_22 (Nat.le_refl _) (Nat.le_refl _) ?_
  refine zr_aload ⟨_, dX8_resize_41, rfl⟩ rfl ?_
  refine zr_load ⟨_, dX8_resize_42, rfl⟩ rfl ?_
  refine zt_put dX8_resize_43 fl_X8_62 rfl rfl ?_
  refine zr_aload ⟨_, dX8_resize_46, rfl⟩ rfl ?_
  refine zr_load ⟨_, dX8_resize_47, rfl⟩ rfl ?_
  refine zt_put dX8_resize_48 fl_X8_66 rfl rfl ?_
  refine zr_aload ⟨_, dX8_resize_51, rfl⟩ rfl ?_
  refine zr_iconst dX8_resize_52 (by decide) ?_
  refine zt_put dX8_resize_53 fl_X8_97 rfl rfl ?_
  refine zr_aload ⟨_, dX8_resize_56, rfl⟩ rfl ?_
  refine zr_aload ⟨_, dX8_resize_57, rfl⟩ rfl ?_
  refine zt_get dX8_resize_58 fl_X8_62 rfl rfl ?_
  refine zr_iconst dX8_resize_61 (by decide) ?_
  refine zr_isub dX8_resize_62 ?_
  refine zt_put dX8_resize_63 fl_X8_69 rfl rfl ?_
  refine zr_aload ⟨_, dX8_resize_66, rfl⟩ rfl ?_
  refine zr_load ⟨_, dX8_resize_67, rfl⟩ rfl ?_
  refine zr_aload ⟨_, dX8_resize_68, rfl⟩ rfl ?_
  refine zt_get dX8_resize_69 fl_X8_66 rfl rfl ?_
  refine zr_min dX8_resize_72 ml_X8_169 (by decide) (Nat.le_refl _) (Nat.le_refl _) (Nat.le_of_ble_eq_true rfl) ?_
  obtain ⟨x3, hx3, h⟩ := zbind h
  refine zt_calliv (t_Sc_setFirstTabs hx3) (zrun_V (rest := []) dX8_resize_75 ml_X8_72 rfl rfl (by decide) (by decide) rfl (Nat.le_of_ble_eq_true rfl)) rfl rfl (Nat.le_refl _) (Nat.le_refl _) ?_
  refine zr_aload ⟨_, dX8_resize_78, rfl⟩ rfl ?_
  refine zt_get dX8_resize_79 fl_X8_75 rfl rfl ?_
  refine zr_if_eq (tgt := 124) dX8_resize_82 (by decide) (fun hc4 => ?_) (fun hc4 => ?_)
  · replace h := zpos h hc4
    obtain rfl := Option.some.inj h
    exact zt_vret dX8_resize_124 rfl
  · replace h := zneg h hc4
    refine zr_aload ⟨_, dX8_resize_85, rfl⟩ rfl ?_
    refine zt_getr dX8_resize_86 fl_X8_21 rfl rfl ?_
    refine zr_aload ⟨_, dX8_resize_89, rfl⟩ rfl ?_
    refine zt_getr dX8_resize_90 fl_X8_21 rfl rfl ?_
    refine zt_get dX8_resize_93 fl_X8_82 rfl rfl ?_
    refine zr_aload ⟨_, dX8_resize_96, rfl⟩ rfl ?_
    refine zt_get dX8_resize_97 fl_X8_62 rfl rfl ?_
    refine zr_iconst dX8_resize_100 (by decide) ?_
    refine zr_isub dX8_resize_101 ?_
    refine zr_min dX8_resize_102 ml_X8_169 (by decide) (Nat.le_refl _) (Nat.le_refl _) (Nat.le_of_ble_eq_true rfl) ?_
    refine zr_aload ⟨_, dX8_resize_105, rfl⟩ rfl ?_
    refine zt_getr dX8_resize_106 fl_X8_21 rfl rfl ?_
    refine zt_get dX8_resize_109 fl_X8_85 rfl rfl ?_
    refine zr_aload ⟨_, dX8_resize_112, rfl⟩ rfl ?_
    refine zt_get dX8_resize_113 fl_X8_66 rfl rfl ?_
    refine zr_iconst dX8_resize_116 (by decide) ?_
    refine zr_isub dX8_resize_117 ?_
    refine zr_min dX8_resize_118 ml_X8_169 (by decide) (Nat.le_refl _) (Nat.le_refl _) (Nat.le_of_ble_eq_true rfl) ?_
    obtain ⟨x5, hx5, h⟩ := zbind h
    refine zt_callv (t_Cu_goTo hx5) (zrun_V (rest := []) dX8_resize_121 ml_X8_278 rfl rfl (by decide) (by decide) rfl (Nat.le_of_ble_eq_true rfl)) rfl rfl sb_TSc_TCu_12 (Nat.le_refl _) (Nat.le_refl _) ?_
    obtain rfl := Option.some.inj h
    exact zt_vret dX8_resize_124 rfl
set_option maxRecDepth 100000 in
set_option maxHeartbeats 4000000 in
theorem t_Sc_resize_j27_1 {v1 v2 v3 : Int} {s : zSt} {res : Int × zSt} (h : f_Sc_resize_j27_1 v1 v2 v3 s = some res) : zBT 8 m_X8_resize TSc none res.2 27 [some (.inr (.inl (some 0))), some (.inl v1), some (.inl v2), some (.inl v3)] [.inr (.inl (some 25)), .inr (.inl (some 1))] s := by
  unfold f_Sc_resize_j27_1 at h
  refine zr_load ⟨_, dX8_resize_27, rfl⟩ rfl ?_
  refine zr_load ⟨_, dX8_resize_28, rfl⟩ rfl ?_
  obtain ⟨x1, hx1, h⟩ := zbind h
  refine zt_callv (t_Ma_wrap hx1) (zrun_V (rest := []) dX8_resize_29 ml_X8_308 rfl rfl (by decide) (by decide) rfl (Nat.le_of_ble_eq_true rfl)) rfl rfl sb_TSc_TMaCu_1_25 (Nat.le_refl _) (Nat.le_refl _) ?_
  refine zr_aload ⟨_, dX8_resize_32, rfl⟩ rfl ?_
  refine zt_getr dX8_resize_33 fl_X8_51 rfl rfl ?_
  refine zr_load ⟨_, dX8_resize_36, rfl⟩ rfl ?_
  refine zr_load ⟨_, dX8_resize_37, rfl⟩ rfl ?_
  obtain ⟨x2, hx2, h⟩ := zbind h
  refine zt_callv (t_Pi_cut hx2) (zrun_V (rest := []) dX8_resize_38 ml_X8_312 rfl rfl (by decide) (by decide) rfl (Nat.le_of_ble_eq_true rfl)) rfl rfl sb_TSc_TPi_22 (Nat.le_refl _) (Nat.le_refl _) ?_
  refine zr_aload ⟨_, dX8_resize_41, rfl⟩ rfl ?_
  refine zr_load ⟨_, dX8_resize_42, rfl⟩ rfl ?_
  refine zt_put dX8_resize_43 fl_X8_62 rfl rfl ?_
  refine zr_aload ⟨_, dX8_resize_46, rfl⟩ rfl ?_
  refine zr_load ⟨_, dX8_resize_47, rfl⟩ rfl ?_
  refine zt_put dX8_resize_48 fl_X8_66 rfl rfl ?_
  refine zr_aload ⟨_, dX8_resize_51, rfl⟩ rfl ?_
  refine zr_iconst dX8_resize_52 (by decide) ?_
  refine zt_put dX8_resize_53 fl_X8_97 rfl rfl ?_
  refine zr_aload ⟨_, dX8_resize_56, rfl⟩ rfl ?_
  refine zr_aload ⟨_, dX8_resize_57, rfl⟩ rfl ?_
  refine zt_get dX8_resize_58 fl_X8_62 rfl rfl ?_
  refine zr_iconst dX8_resize_61 (by decide) ?_
  refine zr_isub dX8_resize_62 ?_
  refine zt_put dX8_resize_63 fl_X8_69 rfl rfl ?_
  refine zr_aload ⟨_, dX8_resize_66, rfl⟩ rfl ?_
  refine zr_load ⟨_, dX8_resize_67, rfl⟩ rfl ?_
  refine zr_aload ⟨_, dX8_resize_68, rfl⟩ rfl ?_
  refine zt_get dX8_resize_69 fl_X8_66 rfl rfl ?_
  refine zr_min dX8_resize_72 ml_X8_169 (by decide) (Nat.le_refl _) (Nat.le_refl _) (Nat.le_of_ble_eq_true rfl) ?_
  obtain ⟨x3, hx3, h⟩ := zbind h
  refine zt_calliv (t_Sc_setFirstTabs hx3) (zrun_V (rest := []) dX8_resize_75 ml_X8_72 rfl rfl (by decide) (by decide) rfl (Nat.le_of_ble_eq_true rfl)) rfl rfl (Nat.le_refl _) (Nat.le_refl _) ?_
  refine zr_aload ⟨_, dX8_resize_78, rfl⟩ rfl ?_
  refine zt_get dX8_resize_79 fl_X8_75 rfl rfl ?_
  refine zr_if_eq (tgt := 124) dX8_resize_82 (by decide) (fun hc4 => ?_) (fun hc4 => ?_)
  · replace h := zpos h hc4
    obtain rfl := Option.some.inj h
    exact zt_vret dX8_resize_124 rfl
  · replace h := zneg h hc4
    refine zr_aload ⟨_, dX8_resize_85, rfl⟩ rfl ?_
    refine zt_getr dX8_resize_86 fl_X8_21 rfl rfl ?_
    refine zr_aload ⟨_, dX8_resize_89, rfl⟩ rfl ?_
    refine zt_getr dX8_resize_90 fl_X8_21 rfl rfl ?_
    refine zt_get dX8_resize_93 fl_X8_82 rfl rfl ?_
    refine zr_aload ⟨_, dX8_resize_96, rfl⟩ rfl ?_
    refine zt_get dX8_resize_97 fl_X8_62 rfl rfl ?_
    refine zr_iconst dX8_resize_100 (by decide) ?_
    refine zr_isub dX8_resize_101 ?_
    refine zr_min dX8_resize_102 ml_X8_169 (by decide) (Nat.le_refl _) (Nat.le_refl _) (Nat.le_of_ble_eq_true rfl) ?_
    refine zr_aload ⟨_, dX8_resize_105, rfl⟩ rfl ?_
    refine zt_getr dX8_resize_106 fl_X8_21 rfl rfl ?_
    refine zt_get dX8_resize_109 fl_X8_85 rfl rfl ?_
    refine zr_aload ⟨_, dX8_resize_112, rfl⟩ rfl ?_
    refine zt_get dX8_resize_113 fl_X8_66 rfl rfl ?_
    refine zr_iconst dX8_resize_116 (by decide) ?_
    refine zr_isub dX8_resize_117 ?_
    refine zr_min dX8_resize_118 ml_X8_169 (by decide) (Nat.le_refl _) (Nat.le_refl _) (Nat.le_of_ble_eq_true rfl) ?_
    obtain ⟨x5, hx5, h⟩ := zbind h
    refine zt_callv (t_Cu_goTo hx5) (zrun_V (rest := []) dX8_resize_121 ml_X8_278 rfl rfl (by decide) (by decide) rfl (Nat.le_of_ble_eq_true rfl)) rfl rfl sb_TSc_TCu_12 (Nat.le_refl _) (Nat.le_refl _) ?_
    obtain rfl := Option.some.inj h
    exact zt_vret dX8_resize_124 rfl
set_option maxRecDepth 100000 in
set_option maxHeartbeats 4000000 in
theorem t_Sc_resize {a1 a2 : Int} {s : zSt} {res : Int × zSt} (h : f_Sc_resize a1 a2 s = some res) : zSpecT 8 m_X8_resize [.inr (.inl (some 0)), .inl a1, .inl a2] TSc s none res.2 := by
  refine zSpec_of (by decide +kernel) (Nat.le_of_ble_eq_true rfl) ?_
  show zBT 8 m_X8_resize TSc none res.2 0 [some (.inr (.inl (some 0))), some (.inl a1), some (.inl a2), none] [] s
  unfold f_Sc_resize at h
  refine zr_aload ⟨_, dX8_resize_0, rfl⟩ rfl ?_
  refine zt_get dX8_resize_1 fl_X8_66 rfl rfl ?_
  refine zr_store ⟨_, dX8_resize_4, rfl⟩ (by decide) rfl ?_
  refine zr_aload ⟨_, dX8_resize_5, rfl⟩ rfl ?_
  refine zt_getr dX8_resize_6 fl_X8_12 rfl rfl ?_
  refine zr_aload ⟨_, dX8_resize_9, rfl⟩ rfl ?_
  refine zt_get dX8_resize_10 fl_X8_75 rfl rfl ?_
  refine zr_if_eq (tgt := 23) dX8_resize_13 (by decide) (fun hc1 => ?_) (fun hc1 => ?_)
  · replace h := zpos h hc1
    refine zr_aload ⟨_, dX8_resize_23, rfl⟩ rfl ?_
    refine zt_getr dX8_resize_24 fl_X8_21 rfl rfl ?_
    exact t_Sc_resize_j27 h
  · replace h := zneg h hc1
    refine zr_aload ⟨_, dX8_resize_16, rfl⟩ rfl ?_
    refine zt_getr dX8_resize_17 fl_X8_55 rfl rfl ?_
    refine zr_goto (tgt := 27) dX8_resize_20 (by decide) ?_
    exact t_Sc_resize_j27_1 h
