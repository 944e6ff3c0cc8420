set_option maxRecDepth 100000 in
set_option maxHeartbeats 4000000 in
theorem t_Sc_scrollDown {a1 a2 : Int} {s : zSt} {res : Int × zSt} (h : f_Sc_scrollDown a1 a2 s = some res) : zSpecT 5 m_X8_scrollDown [.inr (.inl (some 0)), .inl a1, .inl a2] TSc s none res.2 := by
  refine zSpec_of (by decide +kernel) (Nat.le_of_ble_eq_true rfl) ?_
  show zBT 5 m_X8_scrollDown TSc none res.2 0 [some (.inr (.inl (some 0))), some (.inl a1), some (.inl a2)] [] s
  unfold f_Sc_scrollDown at h
  refine zr_aload ⟨_, dX8_scrollDown_0, rfl⟩ rfl ?_
  by_cases hc1 : s.1 0 8 = 0
  · replace h := zpos h hc1
    refine zt_callirs (t_Sc_shown0 hc1) (zrun_V (rest := []) dX8_scrollDown_1 ml_X8_138 rfl rfl (by decide) (by decide) rfl (Nat.le_of_ble_eq_true rfl)) rfl rfl (Nat.le_refl _) (Nat.le_refl _) ?_
    refine zr_load ⟨_, dX8_scrollDown_4, rfl⟩ rfl ?_
    refine zr_load ⟨_, dX8_scrollDown_5, rfl⟩ rfl ?_
    obtain ⟨x2, hx2, h⟩ := zbind h
    refine zt_callv (t_Pi_moveDown hx2) (zrun_V (rest := []) dX8_scrollDown_6 ml_X8_206 rfl rfl (by decide) (by decide) rfl (Nat.le_of_ble_eq_true rfl)) rfl rfl sb_TSc_TPi_2 (Nat.le_refl _) (Nat.le_refl _) ?_
    refine zr_aload ⟨_, dX8_scrollDown_9, rfl⟩ rfl ?_
    refine zr_load ⟨_, dX8_scrollDown_10, rfl⟩ rfl ?_
    obtain ⟨x3, hx3, h⟩ := zbind h
    refine zt_calliv (t_Sc_endAbove hx3) (zrun_V (rest := []) dX8_scrollDown_11 ml_X8_203 rfl rfl (by decide) (by decide) rfl (Nat.le_of_ble_eq_true rfl)) rfl rfl (Nat.le_refl _) (Nat.le_refl _) ?_
    obtain rfl := Option.some.inj h
    exact zt_vret dX8_scrollDown_14 rfl
  · replace h := zneg h hc1
    refine zt_callirs (t_Sc_shown1 hc1) (zrun_V (rest := []) dX8_scrollDown_1 ml_X8_138 rfl rfl (by decide) (by decide) rfl (Nat.le_of_ble_eq_true rfl)) rfl rfl (Nat.le_refl _) (Nat.le_refl _) ?_
    refine zr_load ⟨_, dX8_scrollDown_4, rfl⟩ rfl ?_
    refine zr_load ⟨_, dX8_scrollDown_5, rfl⟩ rfl ?_
    obtain ⟨x4, hx4, h⟩ := zbind h
    refine zt_callv (t_Pi_moveDown hx4) (zrun_V (rest := []) dX8_scrollDown_6 ml_X8_206 rfl rfl (by decide) (by decide) rfl (Nat.le_of_ble_eq_true rfl)) rfl rfl sb_TSc_TPi_22 (Nat.le_refl _) (Nat.le_refl _) ?_
    refine zr_aload ⟨_, dX8_scrollDown_9, rfl⟩ rfl ?_
    refine zr_load ⟨_, dX8_scrollDown_10, rfl⟩ rfl ?_
    obtain ⟨x5, hx5, h⟩ := zbind h
    refine zt_calliv (t_Sc_endAbove hx5) (zrun_V (rest := []) dX8_scrollDown_11 ml_X8_203 rfl rfl (by decide) (by decide) rfl (Nat.le_of_ble_eq_true rfl)) rfl rfl (Nat.le_refl _) (Nat.le_refl _) ?_
    obtain rfl := Option.some.inj h
    exact zt_vret dX8_scrollDown_14 rfl
set_option maxRecDepth 100000 in
set_option maxHeartbeats 4000000 in
theorem t_Sc_reset  {s : zSt} {res : Int × zSt} (h : f_Sc_reset s = some res) : zSpecT 5 m_X8_reset [.inr (.inl (some 0))] TSc s none res.2 := by
  refine zSpec_of (by decide +kernel) (Nat.le_of_ble_eq_true rfl) ?_
  show zBT 5 m_X8_reset TSc none res.2 0 [some (.inr (.inl (some 0)))] [] s
  unfold f_Sc_reset at h
  refine zr_aload ⟨_, dX8_reset_0, rfl⟩ rfl ?_
  refine zr_iconst dX8_reset_1 (by decide) ?_
  refine zt_putz dX8_reset_2 fl_X8_75 rfl rfl (Or.inl rfl) ?_
  refine zr_aload ⟨_, dX8_reset_5, rfl⟩ rfl ?_
  refine zt_getr dX8_reset_6 fl_X8_12 rfl rfl ?_
  refine zt_getr dX8_reset_9 fl_X8_79 rfl rfl ?_
  obtain ⟨x1, hx1, h⟩ := zbind h
  refine zt_callv (t_Pi_clear hx1) (zrun_V (rest := []) dX8_reset_12 ml_X8_231 rfl rfl (by decide) (by decide) rfl (Nat.le_of_ble_eq_true rfl)) rfl rfl sb_TSc_TPi_2 (Nat.le_refl _) (Nat.le_refl _) ?_
  refine zr_aload ⟨_, dX8_reset_15, rfl⟩ rfl ?_
  refine zt_getr dX8_reset_16 fl_X8_51 rfl rfl ?_
  obtain ⟨x2, hx2, h⟩ := zbind h
  refine zt_callv (t_Pi_clear hx2) (zrun_V (rest := []) dX8_reset_19 ml_X8_231 rfl rfl (by decide) (by decide) rfl (Nat.le_of_ble_eq_true rfl)) rfl rfl sb_TSc_TPi_22 (Nat.le_refl _) (Nat.le_refl _) ?_
  refine zr_aload ⟨_, dX8_reset_22, rfl⟩ rfl ?_
  refine zt_getr dX8_reset_23 fl_X8_21 rfl rfl ?_
  obtain ⟨x3, hx3, h⟩ := zbind h
  refine zt_callv (t_Cu_reset hx3) (zrun_V (rest := []) dX8_reset_26 ml_X8_234 rfl rfl (by decide) (by decide) rfl (Nat.le_of_ble_eq_true rfl)) rfl rfl sb_TSc_TCu_12 (Nat.le_refl _) (Nat.le_refl _) ?_
  refine zr_aload ⟨_, dX8_reset_29, rfl⟩ rfl ?_
  refine zt_getr dX8_reset_30 fl_X8_55 rfl rfl ?_
  obtain ⟨x4, hx4, h⟩ := zbind h
  refine zt_callv (t_Cu_reset hx4) (zrun_V (rest := []) dX8_reset_33 ml_X8_234 rfl rfl (by decide) (by decide) rfl (Nat.le_of_ble_eq_true rfl)) rfl rfl sb_TSc_TCu_25 (Nat.le_refl _) (Nat.le_refl _) ?_
  refine zr_aload ⟨_, dX8_reset_36, rfl⟩ rfl ?_
  refine zt_getr dX8_reset_37 fl_X8_28 rfl rfl ?_
  obtain ⟨x5, hx5, h⟩ := zbind h
  refine zt_callv (t_Md_reset hx5) (zrun_V (rest := []) dX8_reset_40 ml_X8_235 rfl rfl (by decide) (by decide) rfl (Nat.le_of_ble_eq_true rfl)) rfl rfl sb_TSc_TMd_13 (Nat.le_refl _) (Nat.le_refl _) ?_
  refine zr_aload ⟨_, dX8_reset_43, rfl⟩ rfl ?_
  refine zr_iconst dX8_reset_44 (by decide) ?_
  refine zt_put dX8_reset_45 fl_X8_97 rfl rfl ?_
  refine zr_aload ⟨_, dX8_reset_48, rfl⟩ rfl ?_
  refine zr_aload ⟨_, dX8_reset_49, rfl⟩ rfl ?_
  refine zt_get dX8_reset_50 fl_X8_62 rfl rfl ?_
  refine zr_iconst dX8_reset_53 (by decide) ?_
  refine zr_isub dX8_reset_54 ?_
  refine zt_put dX8_reset_55 fl_X8_69 rfl rfl ?_
  refine zr_aload ⟨_, dX8_reset_58, rfl⟩ rfl ?_
  refine zr_iconst dX8_reset_59 (by decide) ?_
  obtain ⟨x6, hx6, h⟩ := zbind h
  refine zt_calliv (t_Sc_setFirstTabs hx6) (zrun_V (rest := []) dX8_reset_60 ml_X8_72 rfl rfl (by decide) (by decide) rfl (Nat.le_of_ble_eq_true rfl)) rfl rfl (Nat.le_refl _) (Nat.le_refl _) ?_
  refine zr_aload ⟨_, dX8_reset_63, rfl⟩ rfl ?_
  refine zt_getr dX8_reset_64 fl_X8_12 rfl rfl ?_
  refine zt_getr dX8_reset_67 fl_X8_100 rfl rfl ?_
  obtain ⟨x7, hx7, h⟩ := zbind h
  refine zt_callv (t_Hi_endLatest hx7) (zrun_V (rest := []) dX8_reset_70 ml_X8_209 rfl rfl (by decide) (by decide) rfl (Nat.le_of_ble_eq_true rfl)) rfl rfl sb_TSc_THi_5 (Nat.le_refl _) (Nat.le_refl _) ?_
  obtain rfl := Option.some.inj h
  exact zt_vret dX8_reset_73 rfl
set_option maxRecDepth 100000 in
set_option maxHeartbeats 4000000 in
theorem t_Sc_showOther {a1 : Int} {s : zSt} {res : Int × zSt} (h : f_Sc_showOther a1 s = some res) : zSpecT 5 m_X8_showOther [.inr (.inl (some 0)), .inl a1] TSc s none res.2 := by
  refine zSpec_of (by decide +kernel) (Nat.le_of_ble_eq_true rfl) ?_
  show zBT 5 m_X8_showOther TSc none res.2 0 [some (.inr (.inl (some 0))), some (.inl a1)] [] s
  unfold f_Sc_showOther at h
  refine zr_load ⟨_, dX8_showOther_0, rfl⟩ rfl ?_
  refine zr_aload ⟨_, dX8_showOther_1, rfl⟩ rfl ?_
  refine zt_get dX8_showOther_2 fl_X8_75 rfl rfl ?_
  refine zr_ic_ne (tgt := 9) dX8_showOther_5 (by decide) (fun hc1 => ?_) (fun hc1 => ?_)
  · replace h := zpos h hc1
    refine zr_aload ⟨_, dX8_showOther_9, rfl⟩ rfl ?_
    refine zr_load ⟨_, dX8_showOther_10, rfl⟩ rfl ?_
    obtain ⟨hb2, h⟩ := zchk h
    refine zt_putz dX8_showOther_11 fl_X8_75 rfl rfl hb2 ?_
    refine zr_load ⟨_, dX8_showOther_14, rfl⟩ rfl ?_
    refine zr_if_eq (tgt := 39) dX8_showOther_15 (by decide) (fun hc3 => ?_) (fun hc3 => ?_)
    · replace h := zpos h hc3
      refine zr_aload ⟨_, dX8_showOther_39, rfl⟩ rfl ?_
      obtain ⟨x4, hx4, h⟩ := zbind h
      refine zt_calliv (t_Sc_bringBack hx4) (zrun_V (rest := []) dX8_showOther_40 ml_X8_216 rfl rfl (by decide) (by decide) rfl (Nat.le_of_ble_eq_true rfl)) rfl rfl (Nat.le_refl _) (Nat.le_refl _) ?_
      obtain rfl := Option.some.inj h
      exact zt_vret dX8_showOther_43 rfl
    · replace h := zneg h hc3
      refine zr_aload ⟨_, dX8_showOther_18, rfl⟩ rfl ?_
      refine zt_getr dX8_showOther_19 fl_X8_55 rfl rfl ?_
      refine zr_aload ⟨_, dX8_showOther_22, rfl⟩ rfl ?_
      refine zt_getr dX8_showOther_23 fl_X8_21 rfl rfl ?_
      obtain ⟨x5, hx5, h⟩ := zbind h
      refine zt_callv (t_Cu_copy hx5) (zrun_V (rest := []) dX8_showOther_26 ml_X8_212 rfl rfl (by decide) (by decide) rfl (Nat.le_of_ble_eq_true rfl)) rfl rfl sb_TSc_TCuCu_25_12 (Nat.le_refl _) (Nat.le_refl _) ?_
      refine zr_aload ⟨_, dX8_showOther_29, rfl⟩ rfl ?_
      refine zt_getr dX8_showOther_30 fl_X8_51 rfl rfl ?_
      obtain ⟨x6, hx6, h⟩ := zbind h
      refine zt_callv (t_Pi_clear hx6) (zrun_V (rest := []) dX8_showOther_33 ml_X8_231 rfl rfl (by decide) (by decide) rfl (Nat.le_of_ble_eq_true rfl)) rfl rfl sb_TSc_TPi_22 (Nat.le_refl _) (Nat.le_refl _) ?_
      refine zr_goto (tgt := 43) dX8_showOther_36 (by decide) ?_
      obtain rfl := Option.some.inj h
      exact zt_vret dX8_showOther_43 rfl
  · replace h := zneg h hc1
    obtain rfl := Option.some.inj h
    exact zt_vret dX8_showOther_8 rfl
set_option maxRecDepth 100000 in
set_option maxHeartbeats 4000000 in
theorem t_Sc_feed  {s : zSt} {res : Int × zSt} (h : f_Sc_feed s = some res) : zSpecT 6 m_X8_feed [.inr (.inl (some 0))] TSc s none res.2 := by
  refine zSpec_of (by decide +kernel) (Nat.le_of_ble_eq_true rfl) ?_
  show zBT 6 m_X8_feed TSc none res.2 0 [some (.inr (.inl (some 0)))] [] s
  unfold f_Sc_feed at h
  refine zr_aload ⟨_, dX8_feed_0, rfl⟩ rfl ?_
  refine zt_getr dX8_feed_1 fl_X8_21 rfl rfl ?_
  refine zt_get dX8_feed_4 fl_X8_82 rfl rfl ?_
  refine zr_aload ⟨_, dX8_feed_7, rfl⟩ rfl ?_
  refine zt_get dX8_feed_8 fl_X8_69 rfl rfl ?_
  refine zr_ic_ne (tgt := 30) dX8_feed_11 (by decide) (fun hc1 => ?_) (fun hc1 => ?_)
  · replace h := zpos h hc1
    refine zr_aload ⟨_, dX8_feed_30, rfl⟩ rfl ?_
    refine zt_getr dX8_feed_31 fl_X8_21 rfl rfl ?_
    refine zt_get dX8_feed_34 fl_X8_82 rfl rfl ?_
    refine zr_aload ⟨_, dX8_feed_37, rfl⟩ rfl ?_
    refine zt_get dX8_feed_38 fl_X8_62 rfl rfl ?_
    refine zr_iconst dX8_feed_41 (by decide) ?_
    refine zr_isub dX8_feed_42 ?_
    refine zr_ic_ge (tgt := 59) dX8_feed_43 (by decide) (fun hc2 => ?_) (fun hc2 => ?_)
    · replace h := zpos h hc2
      obtain rfl := Option.some.inj h
      exact zt_vret dX8_feed_59 rfl
    · replace h := zneg h hc2
      refine zr_aload ⟨_, dX8_feed_46, rfl⟩ rfl ?_
      refine zt_getr dX8_feed_47 fl_X8_21 rfl rfl ?_
      refine zr_dup dX8_feed_50 (Or.inl True.intro) ?_
      refine zt_get dX8_feed_51 fl_X8_82 rfl rfl ?_
      refine zr_iconst dX8_feed_54 (by decide) ?_
      refine zr_iadd dX8_feed_55 ?_
      refine zt_put dX8_feed_56 fl_X8_82 rfl rfl ?_
      obtain rfl := Option.some.inj h
      exact zt_vret dX8_feed_59 rfl
  · replace h := zneg h hc1
    refine zr_aload ⟨_, dX8_feed_14, rfl⟩ rfl ?_
    refine zr_aload ⟨_, dX8_feed_15, rfl⟩ rfl ?_
    refine zt_get dX8_feed_16 fl_X8_97 rfl rfl ?_
    refine zr_aload ⟨_, dX8_feed_19, rfl⟩ rfl ?_
    refine zt_get dX8_feed_20 fl_X8_69 rfl rfl ?_
    refine zr_iconst dX8_feed_23 (by decide) ?_
    obtain ⟨x3, hx3, h⟩ := zbind h
    refine zt_calliv (t_Sc_scrollUp hx3) (zrun_V (rest := []) dX8_feed_24 ml_X8_185 rfl rfl (by decide) (by decide) rfl (Nat.le_of_ble_eq_true rfl)) rfl rfl (Nat.le_refl _) (Nat.le_refl _) ?_
    refine zr_goto (tgt := 59) dX8_feed_27 (by decide) ?_
    obtain rfl := Option.some.inj h
    exact zt_vret dX8_feed_59 rfl
set_option maxRecDepth 100000 in
set_option maxHeartbeats 4000000 in
theorem t_Sc_feedBack  {s : zSt} {res : Int × zSt} (h : f_Sc_feedBack s = some res) : zSpecT 6 m_X8_feedBack [.inr (.inl (some 0))] TSc s none res.2 := by
  refine zSpec_of (by decide +kernel) (Nat.le_of_ble_eq_true rfl) ?_
  show zBT 6 m_X8_feedBack TSc none res.2 0 [some (.inr (.inl (some 0)))] [] s
  unfold f_Sc_feedBack at h
  refine zr_aload ⟨_, dX8_feedBack_0, rfl⟩ rfl ?_
  refine zt_getr dX8_feedBack_1 fl_X8_21 rfl rfl ?_
  refine zt_get dX8_feedBack_4 fl_X8_82 rfl rfl ?_
  refine zr_aload ⟨_, dX8_feedBack_7, rfl⟩ rfl ?_
  refine zt_get dX8_feedBack_8 fl_X8_97 rfl rfl ?_
  refine zr_ic_ne (tgt := 29) dX8_feedBack_11 (by decide) (fun hc1 => ?_) (fun hc1 => ?_)
  · replace h := zpos h hc1
    refine zr_aload ⟨_, dX8_feedBack_29, rfl⟩ rfl ?_
    refine zt_getr dX8_feedBack_30 fl_X8_21 rfl rfl ?_
    refine zt_get dX8_feedBack_33 fl_X8_82 rfl rfl ?_
    refine zr_if_le (tgt := 52) dX8_feedBack_36 (by decide) (fun hc2 => ?_) (fun hc2 => ?_)
    · replace h := zpos h hc2
      obtain rfl := Option.some.inj h
      exact zt_vret dX8_feedBack_52 rfl
    · replace h := zneg h hc2
      refine zr_aload ⟨_, dX8_feedBack_39, rfl⟩ rfl ?_
      refine zt_getr dX8_feedBack_40 fl_X8_21 rfl rfl ?_
      refine zr_dup dX8_feedBack_43 (Or.inl True.intro) ?_
      refine zt_get dX8_feedBack_44 fl_X8_82 rfl rfl ?_
      refine zr_iconst dX8_feedBack_47 (by decide) ?_
      refine zr_isub dX8_feedBack_48 ?_
      refine zt_put dX8_feedBack_49 fl_X8_82 rfl rfl ?_
      obtain rfl := Option.some.inj h
      exact zt_vret dX8_feedBack_52 rfl
  · replace h := zneg h hc1
    refine zr_aload ⟨_, dX8_feedBack_14, rfl⟩ rfl ?_
    refine zr_aload ⟨_, dX8_feedBack_15, rfl⟩ rfl ?_
    refine zt_get dX8_feedBack_16 fl_X8_97 rfl rfl ?_
    refine zr_aload ⟨_, dX8_feedBack_19, rfl⟩ rfl ?_
    refine zt_get dX8_feedBack_20 fl_X8_69 rfl rfl ?_
    obtain ⟨x3, hx3, h⟩ := zbind h
    refine zt_calliv (t_Sc_scrollDown hx3) (zrun_V (rest := []) dX8_feedBack_23 ml_X8_228 rfl rfl (by decide) (by decide) rfl (Nat.le_of_ble_eq_true rfl)) rfl rfl (Nat.le_refl _) (Nat.le_refl _) ?_
    refine zr_goto (tgt := 52) dX8_feedBack_26 (by decide) ?_
    obtain rfl := Option.some.inj h
    exact zt_vret dX8_feedBack_52 rfl
set_option maxRecDepth 100000 in
set_option maxHeartbeats 4000000 in
theorem t_Sc_moveLines_l39 {c2 c3 : Int} {r : Option zAV} {s0 : zSt}  : ∀ (n : Nat) (x : Int × zSt) (out : zSt), zloop (f_Sc_moveLines_l39 c2 c3) n x = some out → (zBT 6 m_X8_moveLines TSc r s0 89 [some (.inr (.inl (some 0))), none, none, none, none] [] out) → zBT 6 m_X8_moveLines TSc r s0 39 [some (.inr (.inl (some 0))), none, some (.inl c2), some (.inl c3), some (.inl x.1)] [] x.2 := by
  refine zloop_B (B := fun (x : Int × zSt) (out : zSt) => zBT 6 m_X8_moveLines TSc r s0 89 [some (.inr (.inl (some 0))), none, none, none, none] [] out → zBT 6 m_X8_moveLines TSc r s0 39 [some (.inr (.inl (some 0))), none, some (.inl c2), some (.inl c3), some (.inl x.1)] [] x.2) ?_
  intro x o out h hk hx
  unfold f_Sc_moveLines_l39 at h
  refine zr_loadw dX8_moveLines_39 rfl ?_
  refine zr_load ⟨_, dX8_moveLines_41, rfl⟩ rfl ?_
  refine zr_ic_ge (tgt := 89) dX8_moveLines_42 (by decide) (fun hc1 => ?_) (fun hc1 => ?_)
  · replace h := zpos h hc1
    refine zr_mask [true, false, false, false, false] rfl ?_
    obtain rfl := Option.some.inj h
    obtain rfl := hk
    exact hx
  · replace h := zneg h hc1
    refine zr_load ⟨_, dX8_moveLines_45, rfl⟩ rfl ?_
    refine zr_if_eq (tgt := 68) dX8_moveLines_46 (by decide) (fun hc2 => ?_) (fun hc2 => ?_)
    · replace h := zpos h hc2
      refine zr_aload ⟨_, dX8_moveLines_68, rfl⟩ rfl ?_
      refine zr_aload ⟨_, dX8_moveLines_69, rfl⟩ rfl ?_
      refine zt_getr dX8_moveLines_70 fl_X8_21 rfl rfl ?_
      refine zt_get dX8_moveLines_73 fl_X8_82 rfl rfl ?_
      refine zr_aload ⟨_, dX8_moveLines_76, rfl⟩ rfl ?_
      refine zt_get dX8_moveLines_77 fl_X8_69 rfl rfl ?_
      obtain ⟨x3, hx3, h⟩ := zbind h
      refine zt_calliv (t_Sc_scrollDown hx3) (zrun_V (rest := []) dX8_moveLines_80 ml_X8_228 rfl rfl (by decide) (by decide) rfl (Nat.le_of_ble_eq_true rfl)) rfl rfl (Nat.le_refl _) (Nat.le_refl _) ?_
      refine zr_iinc dX8_moveLines_83 rfl (by decide) rfl ?_
      refine zr_goto (tgt := 39) dX8_moveLines_86 (by decide) ?_
      obtain rfl := Option.some.inj h
      exact hk hx
    · replace h := zneg h hc2
      refine zr_aload ⟨_, dX8_moveLines_49, rfl⟩ rfl ?_
      refine zr_aload ⟨_, dX8_moveLines_50, rfl⟩ rfl ?_
      refine zt_getr dX8_moveLines_51 fl_X8_21 rfl rfl ?_
      refine zt_get dX8_moveLines_54 fl_X8_82 rfl rfl ?_
      refine zr_aload ⟨_, dX8_moveLines_57, rfl⟩ rfl ?_
      refine zt_get dX8_moveLines_58 fl_X8_69 rfl rfl ?_
      refine zr_iconst dX8_moveLines_61 (by decide) ?_
      obtain ⟨x4, hx4, h⟩ := zbind h
      refine zt_calliv (t_Sc_scrollUp hx4) (zrun_V (rest := []) dX8_moveLines_62 ml_X8_185 rfl rfl (by decide) (by decide) rfl (Nat.le_of_ble_eq_true rfl)) rfl rfl (Nat.le_refl _) (Nat.le_refl _) ?_
      refine zr_goto (tgt := 83) dX8_moveLines_65 (by decide) ?_
      refine zr_iinc dX8_moveLines_83 rfl (by decide) rfl ?_
      refine zr_goto (tgt := 39) dX8_moveLines_86 (by decide) ?_
      obtain rfl := Option.some.inj h
      exact hk hx
set_option maxRecDepth 100000 in
set_option maxHeartbeats 4000000 in
theorem t_Sc_moveLines {a1 a2 : Int} {s : zSt} {res : Int × zSt} (h : f_Sc_moveLines a1 a2 s = some res) : zSpecT 6 m_X8_moveLines [.inr (.inl (some 0)), .inl a1, .inl a2] TSc s none res.2 := by
  refine zSpec_of (by decide +kernel) (Nat.le_of_ble_eq_true rfl) ?_
  show zBT 6 m_X8_moveLines TSc none res.2 0 [some (.inr (.inl (some 0))), some (.inl a1), some (.inl a2), none, none] [] s
  unfold f_Sc_moveLines at h
  refine zr_aload ⟨_, dX8_moveLines_0, rfl⟩ rfl ?_
  refine zt_getr dX8_moveLines_1 fl_X8_21 rfl rfl ?_
  refine zt_get dX8_moveLines_4 fl_X8_82 rfl rfl ?_
  refine zr_aload ⟨_, dX8_moveLines_7, rfl⟩ rfl ?_
  refine zt_get dX8_moveLines_8 fl_X8_97 rfl rfl ?_
  refine zr_ic_lt (tgt := 28) dX8_moveLines_11 (by decide) (fun hc1 => ?_) (fun hc1 => ?_)
  · replace h := zpos h hc1
    obtain rfl := Option.some.inj h
    exact zt_vret dX8_moveLines_28 rfl
  · replace h := zneg h hc1
    refine zr_aload ⟨_, dX8_moveLines_14, rfl⟩ rfl ?_
    refine zt_getr dX8_moveLines_15 fl_X8_21 rfl rfl ?_
    refine zt_get dX8_moveLines_18 fl_X8_82 rfl rfl ?_
    refine zr_aload ⟨_, dX8_moveLines_21, rfl⟩ rfl ?_
    refine zt_get dX8_moveLines_22 fl_X8_69 rfl rfl ?_
    refine zr_ic_le (tgt := 29) dX8_moveLines_25 (by decide) (fun hc2 => ?_) (fun hc2 => ?_)
    · replace h := zpos h hc2
      refine zr_load ⟨_, dX8_moveLines_29, rfl⟩ rfl ?_
      refine zr_bipush dX8_moveLines_30 (by decide) (by decide) ?_
      refine zr_min dX8_moveLines_32 ml_X8_169 (by decide) (Nat.le_refl _) (Nat.le_refl _) (Nat.le_of_ble_eq_true rfl) ?_
      refine zr_store ⟨_, dX8_moveLines_35, rfl⟩ (by decide) rfl ?_
      refine zr_iconst dX8_moveLines_36 (by decide) ?_
      refine zr_storew dX8_moveLines_37 (by decide) rfl ?_
      refine zr_mask [true, false, true, true, true] rfl ?_
      obtain ⟨y3, hy3, h⟩ := zbind h
      refine t_Sc_moveLines_l39 _ _ _ hy3 ?_
      refine zr_aload ⟨_, dX8_moveLines_89, rfl⟩ rfl ?_
      refine zt_getr dX8_moveLines_90 fl_X8_21 rfl rfl ?_
      refine zr_iconst dX8_moveLines_93 (by decide) ?_
      refine zt_put dX8_moveLines_94 fl_X8_85 rfl rfl ?_
      obtain rfl := Option.some.inj h
      exact zt_vret dX8_moveLines_97 rfl
    · replace h := zneg h hc2
      obtain rfl := Option.some.inj h
      exact zt_vret dX8_moveLines_28 rfl
set_option maxRecDepth 100000 in
set_option maxHeartbeats 4000000 in
theorem t_Sc_scroll_l10 {c2 c3 : Int} {r : Option zAV} {s0 : zSt}  : ∀ (n : Nat) (x : Int × zSt) (out : zSt), zloop (f_Sc_scroll_l10 c2 c3) n x = some out → (zBT 6 m_X8_scroll TSc r s0 54 [none, none, none, none, none] [] out) → zBT 6 m_X8_scroll TSc r s0 10 [some (.inr (.inl (some 0))), none, some (.inl c2), some (.inl c3), some (.inl x.1)] [] x.2 := by
  refine zloop_B (B := fun (x : Int × zSt) (out : zSt) => zBT 6 m_X8_scroll TSc r s0 54 [none, none, none, none, none] [] out → zBT 6 m_X8_scroll TSc r s0 10 [some (.inr (.inl (some 0))), none, some (.inl c2), some (.inl c3), some (.inl x.1)] [] x.2) ?_
  intro x o out h hk hx
  unfold f_Sc_scroll_l10 at h
  refine zr_loadw dX8_scroll_10 rfl ?_
  refine zr_load ⟨_, dX8_scroll_12, rfl⟩ rfl ?_
  refine zr_ic_ge (tgt := 54) dX8_scroll_13 (by decide) (fun hc1 => ?_) (fun hc1 => ?_)
  · replace h := zpos h hc1
    refine zr_mask [false, false, false, false, false] rfl ?_
    obtain rfl := Option.some.inj h
    obtain rfl := hk
    exact hx
  · replace h := zneg h hc1
    refine zr_load ⟨_, dX8_scroll_16, rfl⟩ rfl ?_
    refine zr_if_eq (tgt := 36) dX8_scroll_17 (by decide) (fun hc2 => ?_) (fun hc2 => ?_)
    · replace h := zpos h hc2
      refine zr_aload ⟨_, dX8_scroll_36, rfl⟩ rfl ?_
      refine zr_aload ⟨_, dX8_scroll_37, rfl⟩ rfl ?_
      refine zt_get dX8_scroll_38 fl_X8_97 rfl rfl ?_
      refine zr_aload ⟨_, dX8_scroll_41, rfl⟩ rfl ?_
      refine zt_get dX8_scroll_42 fl_X8_69 rfl rfl ?_
      obtain ⟨x3, hx3, h⟩ := zbind h
      refine zt_calliv (t_Sc_scrollDown hx3) (zrun_V (rest := []) dX8_scroll_45 ml_X8_228 rfl rfl (by decide) (by decide) rfl (Nat.le_of_ble_eq_true rfl)) rfl rfl (Nat.le_refl _) (Nat.le_refl _) ?_
      refine zr_iinc dX8_scroll_48 rfl (by decide) rfl ?_
      refine zr_goto (tgt := 10) dX8_scroll_51 (by decide) ?_
      obtain rfl := Option.some.inj h
      exact hk hx
    · replace h := zneg h hc2
      refine zr_aload ⟨_, dX8_scroll_20, rfl⟩ rfl ?_
      refine zr_aload ⟨_, dX8_scroll_21, rfl⟩ rfl ?_
      refine zt_get dX8_scroll_22 fl_X8_97 rfl rfl ?_
      refine zr_aload ⟨_, dX8_scroll_25, rfl⟩ rfl ?_
      refine zt_get dX8_scroll_26 fl_X8_69 rfl rfl ?_
      refine zr_iconst dX8_scroll_29 (by decide) ?_
      obtain ⟨x4, hx4, h⟩ := zbind h
      refine zt_calliv (t_Sc_scrollUp hx4) (zrun_V (rest := []) dX8_scroll_30 ml_X8_185 rfl rfl (by decide) (by decide) rfl (Nat.le_of_ble_eq_true rfl)) rfl rfl (Nat.le_refl _) (Nat.le_refl _) ?_
      refine zr_goto (tgt := 48) dX8_scroll_33 (by decide) ?_
      refine zr_iinc dX8_scroll_48 rfl (by decide) rfl ?_
      refine zr_goto (tgt := 10) dX8_scroll_51 (by decide) ?_
      obtain rfl := Option.some.inj h
      exact hk hx
set_option maxRecDepth 100000 in
set_option maxHeartbeats 4000000 in
theorem t_Sc_scroll {a1 a2 : Int} {s : zSt} {res : Int × zSt} (h : f_Sc_scroll a1 a2 s = some res) : zSpecT 6 m_X8_scroll [.inr (.inl (some 0)), .inl a1, .inl a2] TSc s none res.2 := by
  refine zSpec_of (by decide +kernel) (Nat.le_of_ble_eq_true rfl) ?_
  show zBT 6 m_X8_scroll TSc none res.2 0 [some (.inr (.inl (some 0))), some (.inl a1), some (.inl a2), none, none] [] s
  unfold f_Sc_scroll at h
  refine zr_load ⟨_, dX8_scroll_0, rfl⟩ rfl ?_
  refine zr_bipush dX8_scroll_1 (by decide) (by decide) ?_
  refine zr_min dX8_scroll_3 ml_X8_169 (by decide) (Nat.le_refl _) (Nat.le_refl _) (Nat.le_of_ble_eq_true rfl) ?_
  refine zr_store ⟨_, dX8_scroll_6, rfl⟩ (by decide) rfl ?_
  refine zr_iconst dX8_scroll_7 (by decide) ?_
  refine zr_storew dX8_scroll_8 (by decide) rfl ?_
  refine zr_mask [true, false, true, true, true] rfl ?_
  obtain ⟨y1, hy1, h⟩ := zbind h
  refine t_Sc_scroll_l10 _ _ _ hy1 ?_
  obtain rfl := Option.some.inj h
  exact zt_vret dX8_scroll_54 rfl
set_option maxRecDepth 100000 in
set_option maxHeartbeats 4000000 in
theorem t_Sc_setMarkedMode {a1 a2 : Int} {s : zSt} {res : Int × zSt} (h : f_Sc_setMarkedMode a1 a2 s = some res) : zSpecT 6 m_X8_setMarkedMode [.inr (.inl (some 0)), .inl a1, .inl a2] TSc s none res.2 := by
  refine zSpec_of (by decide +kernel) (Nat.le_of_ble_eq_true rfl) ?_
  show zBT 6 m_X8_setMarkedMode TSc none res.2 0 [some (.inr (.inl (some 0))), some (.inl a1), some (.inl a2)] [] s
  unfold f_Sc_setMarkedMode at h
  refine zr_load ⟨_, dX8_setMarkedMode_0, rfl⟩ rfl ?_
  refine zr_lsw (l := [(1, 67), (6, 78), (7, 95), (25, 132), (47, 143), (100, 151), (204, 162)]) dX8_setMarkedMode_1 (by decide) rfl ?_
  refine zr_swc (tgt := 68) (by decide) (fun hc1 => ?_) (fun hc1 => ?_)
  · replace h := zpos h hc1
    refine zr_aload ⟨_, dX8_setMarkedMode_68, rfl⟩ rfl ?_
    refine zt_getr dX8_setMarkedMode_69 fl_X8_28 rfl rfl ?_
    refine zr_load ⟨_, dX8_setMarkedMode_72, rfl⟩ rfl ?_
    obtain ⟨hb2, h⟩ := zchk h
    refine zt_putz dX8_setMarkedMode_73 fl_X8_293 rfl rfl hb2 ?_
    refine zr_goto (tgt := 174) dX8_setMarkedMode_76 (by decide) ?_
    obtain rfl := Option.some.inj h
    exact zt_vret dX8_setMarkedMode_174 rfl
  replace h := zneg h hc1
  refine zr_swc (tgt := 79) (by decide) (fun hc3 => ?_) (fun hc3 => ?_)
  · replace h := zpos h hc3
    refine zr_aload ⟨_, dX8_setMarkedMode_79, rfl⟩ rfl ?_
    refine zt_getr dX8_setMarkedMode_80 fl_X8_21 rfl rfl ?_
    refine zr_load ⟨_, dX8_setMarkedMode_83, rfl⟩ rfl ?_
    obtain ⟨hb4, h⟩ := zchk h
    refine zt_putz dX8_setMarkedMode_84 fl_X8_275 rfl rfl hb4 ?_
    refine zr_aload ⟨_, dX8_setMarkedMode_87, rfl⟩ rfl ?_
    refine zr_iconst dX8_setMarkedMode_88 (by decide) ?_
    refine zr_iconst dX8_setMarkedMode_89 (by decide) ?_
    obtain ⟨x5, hx5, h⟩ := zbind h
    refine zt_calliv (t_Sc_goTo hx5) (zrun_V (rest := []) dX8_setMarkedMode_90 ml_X8_242 rfl rfl (by decide) (by decide) rfl (Nat.le_of_ble_eq_true rfl)) rfl rfl (Nat.le_refl _) (Nat.le_refl _) ?_
    refine zr_goto (tgt := 174) dX8_setMarkedMode_93 (by decide) ?_
    obtain rfl := Option.some.inj h
    exact zt_vret dX8_setMarkedMode_174 rfl
  replace h := zneg h hc3
  refine zr_swc (tgt := 96) (by decide) (fun hc6 => ?_) (fun hc6 => ?_)
  · replace h := zpos h hc6
    refine zr_aload ⟨_, dX8_setMarkedMode_96, rfl⟩ rfl ?_
    refine zt_getr dX8_setMarkedMode_97 fl_X8_28 rfl rfl ?_
    refine zr_load ⟨_, dX8_setMarkedMode_100, rfl⟩ rfl ?_
    obtain ⟨hb7, h⟩ := zchk h
    refine zt_putz dX8_setMarkedMode_101 fl_X8_146 rfl rfl hb7 ?_
    refine zr_aload ⟨_, dX8_setMarkedMode_104, rfl⟩ rfl ?_
    refine zt_getr dX8_setMarkedMode_105 fl_X8_21 rfl rfl ?_
    refine zr_aload ⟨_, dX8_setMarkedMode_108, rfl⟩ rfl ?_
    refine zt_getr dX8_setMarkedMode_109 fl_X8_21 rfl rfl ?_
    refine zt_get dX8_setMarkedMode_112 fl_X8_88 rfl rfl ?_
    have hj8 : zBT 6 m_X8_setMarkedMode TSc none res.2 127 [some (.inr (.inl (some 0))), some (.inl a1), some (.inl a2)] [.inl (if (s.1 12 2) = 0 then 0 else (if a2 = 0 then 0 else 1)), .inr (.inl (some 12))] (uS s 13 1 a2) := by
      refine zt_putz dX8_setMarkedMode_127 fl_X8_88 rfl rfl (z01i (Or.inl rfl) (z01i (Or.inl rfl) (Or.inr rfl))) ?_
      refine zr_goto (tgt := 174) dX8_setMarkedMode_130 (by decide) ?_
      obtain rfl := Option.some.inj h
      exact zt_vret dX8_setMarkedMode_174 rfl
    refine zr_if_eq (tgt := 126) dX8_setMarkedMode_115 (by decide) (fun hc9 => ?_) (fun hc9 => ?_)
    · have hp10 := zif_t hj8 hc9
      refine zr_iconst dX8_setMarkedMode_126 (by decide) ?_
      exact hp10
    · have hp11 := zif_f hj8 hc9
      refine zr_load ⟨_, dX8_setMarkedMode_118, rfl⟩ rfl ?_
      refine zr_if_eq (tgt := 126) dX8_setMarkedMode_119 (by decide) (fun hc12 => ?_) (fun hc12 => ?_)
      · have hp13 := zif_t hp11 hc12
        refine zr_iconst dX8_setMarkedMode_126 (by decide) ?_
        exact hp13
      · have hp14 := zif_f hp11 hc12
        refine zr_iconst dX8_setMarkedMode_122 (by decide) ?_
        refine zr_goto (tgt := 127) dX8_setMarkedMode_123 (by decide) ?_
        exact hp14
  replace h := zneg h hc6
  refine zr_swc (tgt := 133) (by decide) (fun hc15 => ?_) (fun hc15 => ?_)
  · replace h := zpos h hc15
    refine zr_aload ⟨_, dX8_setMarkedMode_133, rfl⟩ rfl ?_
    refine zt_getr dX8_setMarkedMode_134 fl_X8_28 rfl rfl ?_
    refine zr_load ⟨_, dX8_setMarkedMode_137, rfl⟩ rfl ?_
    obtain ⟨hb16, h⟩ := zchk h
    refine zt_putz dX8_setMarkedMode_138 fl_X8_296 rfl rfl hb16 ?_
    refine zr_goto (tgt := 174) dX8_setMarkedMode_141 (by decide) ?_
    obtain rfl := Option.some.inj h
    exact zt_vret dX8_setMarkedMode_174 rfl
  replace h := zneg h hc15
  refine zr_swc (tgt := 144) (by decide) (fun hc17 => ?_) (fun hc17 => ?_)
  · replace h := zpos h hc17
    refine zr_aload ⟨_, dX8_setMarkedMode_144, rfl⟩ rfl ?_
    refine zr_load ⟨_, dX8_setMarkedMode_145, rfl⟩ rfl ?_
    obtain ⟨x18, hx18, h⟩ := zbind h
    refine zt_calliv (t_Sc_showOther hx18) (zrun_V (rest := []) dX8_setMarkedMode_146 ml_X8_299 rfl rfl (by decide) (by decide) rfl (Nat.le_of_ble_eq_true rfl)) rfl rfl (Nat.le_refl _) (Nat.le_refl _) ?_
    refine zr_goto (tgt := 174) dX8_setMarkedMode_149 (by decide) ?_
    obtain rfl := Option.some.inj h
    exact zt_vret dX8_setMarkedMode_174 rfl
  replace h := zneg h hc17
  refine zr_swc (tgt := 152) (by decide) (fun hc19 => ?_) (fun hc19 => ?_)
  · replace h := zpos h hc19
    refine zr_aload ⟨_, dX8_setMarkedMode_152, rfl⟩ rfl ?_
    refine zt_getr dX8_setMarkedMode_153 fl_X8_28 rfl rfl ?_
    refine zr_load ⟨_, dX8_setMarkedMode_156, rfl⟩ rfl ?_
    obtain ⟨hb20, h⟩ := zchk h
    refine zt_putz dX8_setMarkedMode_157 fl_X8_302 rfl rfl hb20 ?_
    refine zr_goto (tgt := 174) dX8_setMarkedMode_160 (by decide) ?_
    obtain rfl := Option.some.inj h
    exact zt_vret dX8_setMarkedMode_174 rfl
  replace h := zneg h hc19
  refine zr_swc (tgt := 163) (by decide) (fun hc21 => ?_) (fun hc21 => ?_)
  · replace h := zpos h hc21
    refine zr_aload ⟨_, dX8_setMarkedMode_163, rfl⟩ rfl ?_
    refine zt_getr dX8_setMarkedMode_164 fl_X8_28 rfl rfl ?_
    refine zr_load ⟨_, dX8_setMarkedMode_167, rfl⟩ rfl ?_
    obtain ⟨hb22, h⟩ := zchk h
    refine zt_putz dX8_setMarkedMode_168 fl_X8_305 rfl rfl hb22 ?_
    refine zr_goto (tgt := 174) dX8_setMarkedMode_171 (by decide) ?_
    obtain rfl := Option.some.inj h
    exact zt_vret dX8_setMarkedMode_174 rfl
  replace h := zneg h hc21
  refine zr_swd (tgt := 174) (by decide) ?_
  obtain rfl := Option.some.inj h
  exact zt_vret dX8_setMarkedMode_174 rfl
set_option maxRecDepth 100000 in
set_option maxHeartbeats 4000000 in
theorem t_Sc_drawSign_j259 {v3 v4 : Int} {s : zSt} {res : Int × zSt} (h : f_Sc_drawSign_j259 v3 v4 s = some res) : zBT 7 m_X8_drawSign TSc none res.2 259 [some (.inr (.inl (some 0))), none, none, some (.inl v3), some (.inl v4), none] [] s := by
  unfold f_Sc_drawSign_j259 at h
  refine zr_aload ⟨_, dX8_drawSign_259, rfl⟩ rfl ?_
  refine zt_getr dX8_drawSign_260 fl_X8_21 rfl rfl ?_
  refine zr_dup dX8_drawSign_263 (Or.inl True.intro) ?_
  refine zt_get dX8_drawSign_264 fl_X8_85 rfl rfl ?_
  refine zr_load ⟨_, dX8_drawSign_267, rfl⟩ rfl ?_
  refine zr_iadd dX8_drawSign_268 ?_
  refine zt_put dX8_drawSign_269 fl_X8_85 rfl rfl ?_
  refine zr_aload ⟨_, dX8_drawSign_272, rfl⟩ rfl ?_
  refine zt_getr dX8_drawSign_273 fl_X8_21 rfl rfl ?_
  refine zr_aload ⟨_, dX8_drawSign_276, rfl⟩ rfl ?_
  refine zt_getr dX8_drawSign_277 fl_X8_21 rfl rfl ?_
  refine zt_get dX8_drawSign_280 fl_X8_85 rfl rfl ?_
  refine zr_loadw dX8_drawSign_283 rfl ?_
  have hj1 : zBT 7 m_X8_drawSign TSc none res.2 303 [some (.inr (.inl (some 0))), none, none, some (.inl v3), some (.inl v4), none] [.inl (if (w32 ((s.1 12 1) + v3)) ≤ v4 then 0 else (if (s.1 13 1) = 0 then 0 else 1)), .inr (.inl (some 12))] (uS s 12 1 (w32 ((s.1 12 1) + v3))) := by
    refine zt_putz dX8_drawSign_303 fl_X8_88 rfl rfl (z01i (Or.inl rfl) (z01i (Or.inl rfl) (Or.inr rfl))) ?_
    refine zr_aload ⟨_, dX8_drawSign_306, rfl⟩ rfl ?_
    refine zt_getr dX8_drawSign_307 fl_X8_21 rfl rfl ?_
    refine zr_aload ⟨_, dX8_drawSign_310, rfl⟩ rfl ?_
    refine zt_getr dX8_drawSign_311 fl_X8_21 rfl rfl ?_
    refine zt_get dX8_drawSign_314 fl_X8_85 rfl rfl ?_
    refine zr_loadw dX8_drawSign_317 rfl ?_
    refine zr_min dX8_drawSign_319 ml_X8_169 (by decide) (Nat.le_refl _) (Nat.le_refl _) (Nat.le_of_ble_eq_true rfl) ?_
    refine zt_put dX8_drawSign_322 fl_X8_85 rfl rfl ?_
    obtain rfl := Option.some.inj h
    exact zt_vret dX8_drawSign_325 rfl
  refine zr_ic_le (tgt := 302) dX8_drawSign_285 (by decide) (fun hc2 => ?_) (fun hc2 => ?_)
  · have hp3 := zif_t hj1 hc2
    refine zr_iconst dX8_drawSign_302 (by decide) ?_
    exact hp3
  · have hp4 := zif_f hj1 hc2
    refine zr_aload ⟨_, dX8_drawSign_288, rfl⟩ rfl ?_
    refine zt_getr dX8_drawSign_289 fl_X8_28 rfl rfl ?_
    refine zt_get dX8_drawSign_292 fl_X8_146 rfl rfl ?_
    refine zr_if_eq (tgt := 302) dX8_drawSign_295 (by decide) (fun hc5 => ?_) (fun hc5 => ?_)
    · have hp6 := zif_t hp4 hc5
      refine zr_iconst dX8_drawSign_302 (by decide) ?_
      exact hp6
    · have hp7 := zif_f hp4 hc5
      refine zr_iconst dX8_drawSign_298 (by decide) ?_
      refine zr_goto (tgt := 303) dX8_drawSign_299 (by decide) ?_
      exact hp7
set_option maxRecDepth 100000 in
set_option maxHeartbeats 4000000 in
theorem t_Sc_drawSign_j174 {v1 v3 v4 : Int} {s : zSt} {res : Int × zSt} (h : f_Sc_drawSign_j174 v1 v3 v4 s = some res) : zBT 7 m_X8_drawSign TSc none res.2 174 [some (.inr (.inl (some 0))), some (.inl v1), some (.inr (.inl (some 2))), some (.inl v3), some (.inl v4), none] [] s := by
  unfold f_Sc_drawSign_j174 at h
  refine zr_aload ⟨_, dX8_drawSign_174, rfl⟩ rfl ?_
  refine zr_aload ⟨_, dX8_drawSign_175, rfl⟩ rfl ?_
  refine zt_getr dX8_drawSign_176 fl_X8_21 rfl rfl ?_
  refine zt_get dX8_drawSign_179 fl_X8_82 rfl rfl ?_
  refine zr_aload ⟨_, dX8_drawSign_182, rfl⟩ rfl ?_
  refine zt_getr dX8_drawSign_183 fl_X8_21 rfl rfl ?_
  refine zt_get dX8_drawSign_186 fl_X8_85 rfl rfl ?_
  refine zr_aload ⟨_, dX8_drawSign_189, rfl⟩ rfl ?_
  refine zt_getr dX8_drawSign_190 fl_X8_21 rfl rfl ?_
  refine zt_get dX8_drawSign_193 fl_X8_85 rfl rfl ?_
  refine zr_load ⟨_, dX8_drawSign_196, rfl⟩ rfl ?_
  refine zr_iadd dX8_drawSign_197 ?_
  obtain ⟨x1, hx1, h⟩ := zbind h
  refine zt_callv (t_Pi_erase hx1) (zrun_V (rest := []) dX8_drawSign_198 ml_X8_149 rfl rfl (by decide) (by decide) rfl (Nat.le_of_ble_eq_true rfl)) rfl rfl sb_TSc_TPi_2 (Nat.le_refl _) (Nat.le_refl _) ?_
  refine zr_aload ⟨_, dX8_drawSign_201, rfl⟩ rfl ?_
  refine zr_aload ⟨_, dX8_drawSign_202, rfl⟩ rfl ?_
  refine zt_getr dX8_drawSign_203 fl_X8_21 rfl rfl ?_
  refine zt_get dX8_drawSign_206 fl_X8_82 rfl rfl ?_
  refine zr_aload ⟨_, dX8_drawSign_209, rfl⟩ rfl ?_
  refine zt_getr dX8_drawSign_210 fl_X8_21 rfl rfl ?_
  refine zt_get dX8_drawSign_213 fl_X8_85 rfl rfl ?_
  refine zr_load ⟨_, dX8_drawSign_216, rfl⟩ rfl ?_
  refine zr_sipush dX8_drawSign_217 (by decide) (by decide) ?_
  refine zr_aload ⟨_, dX8_drawSign_220, rfl⟩ rfl ?_
  refine zt_getr dX8_drawSign_221 fl_X8_21 rfl rfl ?_
  refine zt_get dX8_drawSign_224 fl_X8_94 rfl rfl ?_
  refine zr_imul dX8_drawSign_227 ?_
  refine zr_iadd dX8_drawSign_228 ?_
  obtain ⟨x2, hx2, h⟩ := zbind h
  refine zt_callv (t_Pi_put hx2) (zrun_V (rest := []) dX8_drawSign_229 ml_X8_166 rfl rfl (by decide) (by decide) rfl (Nat.le_of_ble_eq_true rfl)) rfl rfl sb_TSc_TPi_2 (Nat.le_refl _) (Nat.le_refl _) ?_
  refine zr_load ⟨_, dX8_drawSign_232, rfl⟩ rfl ?_
  refine zr_iconst dX8_drawSign_233 (by decide) ?_
  refine zr_ic_ne (tgt := 259) dX8_drawSign_234 (by decide) (fun hc3 => ?_) (fun hc3 => ?_)
  · replace h := zpos h hc3
    refine zr_mask [true, false, false, true, true, false] rfl ?_
    exact t_Sc_drawSign_j259 h
  · replace h := zneg h hc3
    refine zr_aload ⟨_, dX8_drawSign_237, rfl⟩ rfl ?_
    refine zr_aload ⟨_, dX8_drawSign_238, rfl⟩ rfl ?_
    refine zt_getr dX8_drawSign_239 fl_X8_21 rfl rfl ?_
    refine zt_get dX8_drawSign_242 fl_X8_82 rfl rfl ?_
    refine zr_aload ⟨_, dX8_drawSign_245, rfl⟩ rfl ?_
    refine zt_getr dX8_drawSign_246 fl_X8_21 rfl rfl ?_
    refine zt_get dX8_drawSign_249 fl_X8_85 rfl rfl ?_
    refine zr_iconst dX8_drawSign_252 (by decide) ?_
    refine zr_iadd dX8_drawSign_253 ?_
    refine zr_bipush dX8_drawSign_254 (by decide) (by decide) ?_
    obtain ⟨x4, hx4, h⟩ := zbind h
    refine zt_callv (t_Pi_put hx4) (zrun_V (rest := []) dX8_drawSign_256 ml_X8_166 rfl rfl (by decide) (by decide) rfl (Nat.le_of_ble_eq_true rfl)) rfl rfl sb_TSc_TPi_2 (Nat.le_refl _) (Nat.le_refl _) ?_
    refine zr_mask [true, false, false, true, true, false] rfl ?_
    exact t_Sc_drawSign_j259 h
set_option maxRecDepth 100000 in
set_option maxHeartbeats 4000000 in
theorem t_Sc_drawSign_j145 {v1 v3 v4 : Int} {s : zSt} {res : Int × zSt} (h : f_Sc_drawSign_j145 v1 v3 v4 s = some res) : zBT 7 m_X8_drawSign TSc none res.2 145 [some (.inr (.inl (some 0))), some (.inl v1), some (.inr (.inl (some 2))), some (.inl v3), some (.inl v4), none] [] s := by
  unfold f_Sc_drawSign_j145 at h
  refine zr_aload ⟨_, dX8_drawSign_145, rfl⟩ rfl ?_
  refine zt_getr dX8_drawSign_146 fl_X8_28 rfl rfl ?_
  refine zt_get dX8_drawSign_149 fl_X8_160 rfl rfl ?_
  refine zr_if_eq (tgt := 174) dX8_drawSign_152 (by decide) (fun hc1 => ?_) (fun hc1 => ?_)
  · replace h := zpos h hc1
    exact t_Sc_drawSign_j174 h
  · replace h := zneg h hc1
    refine zr_aload ⟨_, dX8_drawSign_155, rfl⟩ rfl ?_
    refine zr_aload ⟨_, dX8_drawSign_156, rfl⟩ rfl ?_
    refine zt_getr dX8_drawSign_157 fl_X8_21 rfl rfl ?_
    refine zt_get dX8_drawSign_160 fl_X8_82 rfl rfl ?_
    refine zr_aload ⟨_, dX8_drawSign_163, rfl⟩ rfl ?_
    refine zt_getr dX8_drawSign_164 fl_X8_21 rfl rfl ?_
    refine zt_get dX8_drawSign_167 fl_X8_85 rfl rfl ?_
    refine zr_load ⟨_, dX8_drawSign_170, rfl⟩ rfl ?_
    obtain ⟨x2, hx2, h⟩ := zbind h
    refine zt_callv (t_Pi_insert hx2) (zrun_V (rest := []) dX8_drawSign_171 ml_X8_163 rfl rfl (by decide) (by decide) rfl (Nat.le_of_ble_eq_true rfl)) rfl rfl sb_TSc_TPi_2 (Nat.le_refl _) (Nat.le_refl _) ?_
    exact t_Sc_drawSign_j174 h
set_option maxRecDepth 100000 in
set_option maxHeartbeats 4000000 in
theorem t_Sc_drawSign_j129 {v1 v3 v4 v5 : Int} {s : zSt} {res : Int × zSt} (h : f_Sc_drawSign_j129 v1 v3 v4 v5 s = some res) : zBT 7 m_X8_drawSign TSc none res.2 129 [some (.inr (.inl (some 0))), some (.inl v1), some (.inr (.inl (some 2))), some (.inl v3), some (.inl v4), some (.inl v5)] [] s := by
  unfold f_Sc_drawSign_j129 at h
  refine zr_loadw dX8_drawSign_129 rfl ?_
  refine zr_if_eq (tgt := 145) dX8_drawSign_131 (by decide) (fun hc1 => ?_) (fun hc1 => ?_)
  · replace h := zpos h hc1
    refine zr_mask [true, true, true, true, true, false] rfl ?_
    exact t_Sc_drawSign_j145 h
  · replace h := zneg h hc1
    refine zr_aload ⟨_, dX8_drawSign_134, rfl⟩ rfl ?_
    refine zt_getr dX8_drawSign_135 fl_X8_21 rfl rfl ?_
    refine zr_loadw dX8_drawSign_138 rfl ?_
    refine zr_iconst dX8_drawSign_140 (by decide) ?_
    refine zr_isub dX8_drawSign_141 ?_
    refine zt_put dX8_drawSign_142 fl_X8_85 rfl rfl ?_
    refine zr_mask [true, true, true, true, true, false] rfl ?_
    exact t_Sc_drawSign_j145 h
set_option maxRecDepth 100000 in
set_option maxHeartbeats 4000000 in
theorem t_Sc_drawSign_j102 {v1 v3 v4 : Int} {s : zSt} {res : Int × zSt} (h : f_Sc_drawSign_j102 v1 v3 v4 s = some res) : zBT 7 m_X8_drawSign TSc none res.2 102 [some (.inr (.inl (some 0))), some (.inl v1), some (.inr (.inl (some 2))), some (.inl v3), some (.inl v4), none] [] s := by
  unfold f_Sc_drawSign_j102 at h
  refine zr_aload ⟨_, dX8_drawSign_102, rfl⟩ rfl ?_
  refine zr_aload ⟨_, dX8_drawSign_103, rfl⟩ rfl ?_
  refine zt_getr dX8_drawSign_104 fl_X8_21 rfl rfl ?_
  refine zt_get dX8_drawSign_107 fl_X8_82 rfl rfl ?_
  refine zr_iconst dX8_drawSign_110 (by decide) ?_
  obtain ⟨x1, hx1, h⟩ := zbind h
  refine zt_callv (t_Pi_setGoing hx1) (zrun_V (rest := []) dX8_drawSign_111 ml_X8_153 rfl rfl (by decide) (by decide) rfl (Nat.le_of_ble_eq_true rfl)) rfl rfl sb_TSc_TPi_2 (Nat.le_refl _) (Nat.le_refl _) ?_
  refine zr_aload ⟨_, dX8_drawSign_114, rfl⟩ rfl ?_
  obtain ⟨x2, hx2, h⟩ := zbind h
  refine zt_calliv (t_Sc_feed hx2) (zrun_V (rest := []) dX8_drawSign_115 ml_X8_157 rfl rfl (by decide) (by decide) rfl (Nat.le_of_ble_eq_true rfl)) rfl rfl (Nat.le_refl _) (Nat.le_refl _) ?_
  refine zr_aload ⟨_, dX8_drawSign_118, rfl⟩ rfl ?_
  refine zt_getr dX8_drawSign_119 fl_X8_21 rfl rfl ?_
  refine zr_iconst dX8_drawSign_122 (by decide) ?_
  refine zt_put dX8_drawSign_123 fl_X8_85 rfl rfl ?_
  refine zr_goto (tgt := 145) dX8_drawSign_126 (by decide) ?_
  exact t_Sc_drawSign_j145 h
set_option maxRecDepth 100000 in
set_option maxHeartbeats 4000000 in
theorem t_Sc_drawSign_j75 {v1 v3 v4 : Int} {s : zSt} {res : Int × zSt} (h : f_Sc_drawSign_j75 v1 v3 v4 s = some res) : zBT 7 m_X8_drawSign TSc none res.2 75 [some (.inr (.inl (some 0))), some (.inl v1), some (.inr (.inl (some 2))), some (.inl v3), some (.inl v4), none] [] s := by
  unfold f_Sc_drawSign_j75 at h
  refine zr_aload ⟨_, dX8_drawSign_75, rfl⟩ rfl ?_
  refine zt_getr dX8_drawSign_76 fl_X8_21 rfl rfl ?_
  refine zt_get dX8_drawSign_79 fl_X8_88 rfl rfl ?_
  refine zr_if_ne (tgt := 102) dX8_drawSign_82 (by decide) (fun hc1 => ?_) (fun hc1 => ?_)
  · replace h := zpos h hc1
    exact t_Sc_drawSign_j102 h
  · replace h := zneg h hc1
    refine zr_aload ⟨_, dX8_drawSign_85, rfl⟩ rfl ?_
    refine zr_aload ⟨_, dX8_drawSign_86, rfl⟩ rfl ?_
    refine zt_getr dX8_drawSign_87 fl_X8_21 rfl rfl ?_
    refine zt_get dX8_drawSign_90 fl_X8_82 rfl rfl ?_
    refine zr_loadw dX8_drawSign_93 rfl ?_
    refine zr_aload ⟨_, dX8_drawSign_95, rfl⟩ rfl ?_
    refine zt_get dX8_drawSign_96 fl_X8_66 rfl rfl ?_
    obtain ⟨x2, hx2, h⟩ := zbind h
    refine zt_callv (t_Pi_erase hx2) (zrun_V (rest := []) dX8_drawSign_99 ml_X8_149 rfl rfl (by decide) (by decide) rfl (Nat.le_of_ble_eq_true rfl)) rfl rfl sb_TSc_TPi_2 (Nat.le_refl _) (Nat.le_refl _) ?_
    exact t_Sc_drawSign_j102 h
set_option maxRecDepth 100000 in
set_option maxHeartbeats 4000000 in
theorem t_Sc_drawSign_j174_8 {v1 v3 v4 : Int} {s : zSt} {res : Int × zSt} (h : f_Sc_drawSign_j174_8 v1 v3 v4 s = some res) : zBT 7 m_X8_drawSign TSc none res.2 174 [some (.inr (.inl (some 0))), some (.inl v1), some (.inr (.inl (some 22))), some (.inl v3), some (.inl v4), none] [] s := by
  unfold f_Sc_drawSign_j174_8 at h
  refine zr_aload ⟨_, dX8_drawSign_174, rfl⟩ rfl ?_
  refine zr_aload ⟨_, dX8_drawSign_175, rfl⟩ rfl ?_
  refine zt_getr dX8_drawSign_176 fl_X8_21 rfl rfl ?_
  refine zt_get dX8_drawSign_179 fl_X8_82 rfl rfl ?_
  refine zr_aload ⟨_, dX8_drawSign_182, rfl⟩ rfl ?_
  refine zt_getr dX8_drawSign_183 fl_X8_21 rfl rfl ?_
  refine zt_get dX8_drawSign_186 fl_X8_85 rfl rfl ?_
  refine zr_aload ⟨_, dX8_drawSign_189, rfl⟩ rfl ?_
  refine zt_getr dX8_drawSign_190 fl_X8_21 rfl rfl ?_
  refine zt_get dX8_drawSign_193 fl_X8_85 rfl rfl ?_
  refine zr_load ⟨_, dX8_drawSign_196, rfl⟩ rfl ?_
  refine zr_iadd dX8_drawSign_197 ?_
  obtain ⟨x1, hx1, h⟩ := zbind h
  refine zt_callv (t_Pi_erase hx1) (zrun_V (rest := []) dX8_drawSign_198 ml_X8_149 rfl rfl (by decide) (by decide) rfl (Nat.le_of_ble_eq_true rfl)) rfl rfl sb_TSc_TPi_22 (Nat.le_refl _) (Nat.le_refl _) ?_
  refine zr_aload ⟨_, dX8_drawSign_201, rfl⟩ rfl ?_
  refine zr_aload ⟨_, dX8_drawSign_202, rfl⟩ rfl ?_
  refine zt_getr dX8_drawSign_203 fl_X8_21 rfl rfl ?_
  refine zt_get dX8_drawSign_206 fl_X8_82 rfl rfl ?_
  refine zr_aload ⟨_, dX8_drawSign_209, rfl⟩ rfl ?_
  refine zt_getr dX8_drawSign_210 fl_X8_21 rfl rfl ?_
  refine zt_get dX8_drawSign_213 fl_X8_85 rfl rfl ?_
  refine zr_load ⟨_, dX8_drawSign_216, rfl⟩ rfl ?_
  refine zr_sipush dX8_drawSign_217 (by decide) (by decide) ?_
  refine zr_aload ⟨_, dX8_drawSign_220, rfl⟩ rfl ?_
  refine zt_getr dX8_drawSign_221 fl_X8_21 rfl rfl ?_
  refine zt_get dX8_drawSign_224 fl_X8_94 rfl rfl ?_
  refine zr_imul dX8_drawSign_227 ?_
  refine zr_iadd dX8_drawSign_228 ?_
  obtain ⟨x2, hx2, h⟩ := zbind h
  refine zt_callv (t_Pi_put hx2) (zrun_V (rest := []) dX8_drawSign_229 ml_X8_166 rfl rfl (by decide) (by decide) rfl (Nat.le_of_ble_eq_true rfl)) rfl rfl sb_TSc_TPi_22 (Nat.le_refl _) (Nat.le_refl _) ?_
  refine zr_load ⟨_, dX8_drawSign_232, rfl⟩ rfl ?_
  refine zr_iconst dX8_drawSign_233 (by decide) ?_
  refine zr_ic_ne (tgt := 259) dX8_drawSign_234 (by decide) (fun hc3 => ?_) (fun hc3 => ?_)
  · replace h := zpos h hc3
    refine zr_mask [true, false, false, true, true, false] rfl ?_
    exact t_Sc_drawSign_j259 h
  · replace h := zneg h hc3
    refine zr_aload ⟨_, dX8_drawSign_237, rfl⟩ rfl ?_
    refine zr_aload ⟨_, dX8_drawSign_238, rfl⟩ rfl ?_
    refine zt_getr dX8_drawSign_239 fl_X8_21 rfl rfl ?_
    refine zt_get dX8_drawSign_242 fl_X8_82 rfl rfl ?_
    refine zr_aload ⟨_, dX8_drawSign_245, rfl⟩ rfl ?_
    refine zt_getr dX8_drawSign_246 fl_X8_21 rfl rfl ?_
    refine zt_get dX8_drawSign_249 fl_X8_85 rfl rfl ?_
    refine zr_iconst dX8_drawSign_252 (by decide) ?_
    refine zr_iadd dX8_drawSign_253 ?_
    refine zr_bipush dX8_drawSign_254 (by decide) (by decide) ?_
    obtain ⟨x4, hx4, h⟩ := zbind h
    refine zt_callv (t_Pi_put hx4) (zrun_V (rest := []) dX8_drawSign_256 ml_X8_166 rfl rfl (by decide) (by decide) rfl (Nat.le_of_ble_eq_true rfl)) rfl rfl sb_TSc_TPi_22 (Nat.le_refl _) (Nat.le_refl _) ?_
    refine zr_mask [true, false, false, true, true, false] rfl ?_
    exact t_Sc_drawSign_j259 h
set_option maxRecDepth 100000 in
set_option maxHeartbeats 4000000 in
theorem t_Sc_drawSign_j145_7 {v1 v3 v4 : Int} {s : zSt} {res : Int × zSt} (h : f_Sc_drawSign_j145_7 v1 v3 v4 s = some res) : zBT 7 m_X8_drawSign TSc none res.2 145 [some (.inr (.inl (some 0))), some (.inl v1), some (.inr (.inl (some 22))), some (.inl v3), some (.inl v4), none] [] s := by
  unfold f_Sc_drawSign_j145_7 at h
  refine zr_aload ⟨_, dX8_drawSign_145, rfl⟩ rfl ?_
  refine zt_getr dX8_drawSign_146 fl_X8_28 rfl rfl ?_
  refine zt_get dX8_drawSign_149 fl_X8_160 rfl rfl ?_
  refine zr_if_eq (tgt := 174) dX8_drawSign_152 (by decide) (fun hc1 => ?_) (fun hc1 => ?_)
  · replace h := zpos h hc1
    exact t_Sc_drawSign_j174_8 h
  · replace h := zneg h hc1
    refine zr_aload ⟨_, dX8_drawSign_155, rfl⟩ rfl ?_
    refine zr_aload ⟨_, dX8_drawSign_156, rfl⟩ rfl ?_
    refine zt_getr dX8_drawSign_157 fl_X8_21 rfl rfl ?_
    refine zt_get dX8_drawSign_160 fl_X8_82 rfl rfl ?_
    refine zr_aload ⟨_, dX8_drawSign_163, rfl⟩ rfl ?_
    refine zt_getr dX8_drawSign_164 fl_X8_21 rfl rfl ?_
    refine zt_get dX8_drawSign_167 fl_X8_85 rfl rfl ?_
    refine zr_load ⟨_, dX8_drawSign_170, rfl⟩ rfl ?_
    obtain ⟨x2, hx2, h⟩ := zbind h
    refine zt_callv (t_Pi_insert hx2) (zrun_V (rest := []) dX8_drawSign_171 ml_X8_163 rfl rfl (by decide) (by decide) rfl (Nat.le_of_ble_eq_true rfl)) rfl rfl sb_TSc_TPi_22 (Nat.le_refl _) (Nat.le_refl _) ?_
    exact t_Sc_drawSign_j174_8 h
set_option maxRecDepth 100000 in
set_option maxHeartbeats 4000000 in
theorem t_Sc_drawSign_j129_6 {v1 v3 v4 v5 : Int} {s : zSt} {res : Int × zSt} (h : f_Sc_drawSign_j129_6 v1 v3 v4 v5 s = some res) : zBT 7 m_X8_drawSign TSc none res.2 129 [some (.inr (.inl (some 0))), some (.inl v1), some (.inr (.inl (some 22))), some (.inl v3), some (.inl v4), some (.inl v5)] [] s := by
  unfold f_Sc_drawSign_j129_6 at h
  refine zr_loadw dX8_drawSign_129 rfl ?_
  refine zr_if_eq (tgt := 145) dX8_drawSign_131 (by decide) (fun hc1 => ?_) (fun hc1 => ?_)
  · replace h := zpos h hc1
    refine zr_mask [true, true, true, true, true, false] rfl ?_
    exact t_Sc_drawSign_j145_7 h
  · replace h := zneg h hc1
    refine zr_aload ⟨_, dX8_drawSign_134, rfl⟩ rfl ?_
    refine zt_getr dX8_drawSign_135 fl_X8_21 rfl rfl ?_
    refine zr_loadw dX8_drawSign_138 rfl ?_
    refine zr_iconst dX8_drawSign_140 (by decide) ?_
    refine zr_isub dX8_drawSign_141 ?_
    refine zt_put dX8_drawSign_142 fl_X8_85 rfl rfl ?_
    refine zr_mask [true, true, true, true, true, false] rfl ?_
    exact t_Sc_drawSign_j145_7 h
set_option maxRecDepth 100000 in
set_option maxHeartbeats 4000000 in
theorem t_Sc_drawSign_j102_10 {v1 v3 v4 : Int} {s : zSt} {res : Int × zSt} (h : f_Sc_drawSign_j102_10 v1 v3 v4 s = some res) : zBT 7 m_X8_drawSign TSc none res.2 102 [some (.inr (.inl (some 0))), some (.inl v1), some (.inr (.inl (some 22))), some (.inl v3), some (.inl v4), none] [] s := by
  unfold f_Sc_drawSign_j102_10 at h
  refine zr_aload ⟨_, dX8_drawSign_102, rfl⟩ rfl ?_
  refine zr_aload ⟨_, dX8_drawSign_103, rfl⟩ rfl ?_
  refine zt_getr dX8_drawSign_104 fl_X8_21 rfl rfl ?_
  refine zt_get dX8_drawSign_107 fl_X8_82 rfl rfl ?_
  refine zr_iconst dX8_drawSign_110 (by decide) ?_
  obtain ⟨x1, hx1, h⟩ := zbind h
  refine zt_callv (t_Pi_setGoing hx1) (zrun_V (rest := []) dX8_drawSign_111 ml_X8_153 rfl rfl (by decide) (by decide) rfl (Nat.le_of_ble_eq_true rfl)) rfl rfl sb_TSc_TPi_22 (Nat.le_refl _) (Nat.le_refl _) ?_
  refine zr_aload ⟨_, dX8_drawSign_114, rfl⟩ rfl ?_
  obtain ⟨x2, hx2, h⟩ := zbind h
  refine zt_calliv (t_Sc_feed hx2) (zrun_V (rest := []) dX8_drawSign_115 ml_X8_157 rfl rfl (by decide) (by decide) rfl (Nat.le_of_ble_eq_true rfl)) rfl rfl (Nat.le_refl _) (Nat.le_refl _) ?_
  refine zr_aload ⟨_, dX8_drawSign_118, rfl⟩ rfl ?_
  refine zt_getr dX8_drawSign_119 fl_X8_21 rfl rfl ?_
  refine zr_iconst dX8_drawSign_122 (by decide) ?_
  refine zt_put dX8_drawSign_123 fl_X8_85 rfl rfl ?_
  refine zr_goto (tgt := 145) dX8_drawSign_126 (by decide) ?_
  exact t_Sc_drawSign_j145_7 h
set_option maxRecDepth 100000 in
set_option maxHeartbeats 4000000 in
theorem t_Sc_drawSign_j75_9 {v1 v3 v4 : Int} {s : zSt} {res : Int × zSt} (h : f_Sc_drawSign_j75_9 v1 v3 v4 s = some res) : zBT 7 m_X8_drawSign TSc none res.2 75 [some (.inr (.inl (some 0))), some (.inl v1), some (.inr (.inl (some 22))), some (.inl v3), some (.inl v4), none] [] s := by
  unfold f_Sc_drawSign_j75_9 at h
  refine zr_aload ⟨_, dX8_drawSign_75, rfl⟩ rfl ?_
  refine zt_getr dX8_drawSign_76 fl_X8_21 rfl rfl ?_
  refine zt_get dX8_drawSign_79 fl_X8_88 rfl rfl ?_
  refine zr_if_ne (tgt := 102) dX8_drawSign_82 (by decide) (fun hc1 => ?_) (fun hc1 => ?_)
  · replace h := zpos h hc1
    exact t_Sc_drawSign_j102_10 h
  · replace h := zneg h hc1
    refine zr_aload ⟨_, dX8_drawSign_85, rfl⟩ rfl ?_
    refine zr_aload ⟨_, dX8_drawSign_86, rfl⟩ rfl ?_
    refine zt_getr dX8_drawSign_87 fl_X8_21 rfl rfl ?_
    refine zt_get dX8_drawSign_90 fl_X8_82 rfl rfl ?_
    refine zr_loadw dX8_drawSign_93 rfl ?_
    refine zr_aload ⟨_, dX8_drawSign_95, rfl⟩ rfl ?_
    refine zt_get dX8_drawSign_96 fl_X8_66 rfl rfl ?_
    obtain ⟨x2, hx2, h⟩ := zbind h
    refine zt_callv (t_Pi_erase hx2) (zrun_V (rest := []) dX8_drawSign_99 ml_X8_149 rfl rfl (by decide) (by decide) rfl (Nat.le_of_ble_eq_true rfl)) rfl rfl sb_TSc_TPi_22 (Nat.le_refl _) (Nat.le_refl _) ?_
    exact t_Sc_drawSign_j102_10 h
set_option maxRecDepth 100000 in
set_option maxHeartbeats 4000000 in
theorem t_Sc_drawSign {a1 : Int} {s : zSt} {res : Int × zSt} (h : f_Sc_drawSign a1 s = some res) : zSpecT 7 m_X8_drawSign [.inr (.inl (some 0)), .inl a1] TSc s none res.2 := by
  refine zSpec_of (by decide +kernel) (Nat.le_of_ble_eq_true rfl) ?_
  show zBT 7 m_X8_drawSign TSc none res.2 0 [some (.inr (.inl (some 0))), some (.inl a1), none, none, none, none] [] s
  unfold f_Sc_drawSign at h
  refine zr_aload ⟨_, dX8_drawSign_0, rfl⟩ rfl ?_
  by_cases hc1 : s.1 0 8 = 0
  · replace h := zpos h hc1
    refine zt_callirs (t_Sc_shown0 hc1) (zrun_V (rest := []) dX8_drawSign_1 ml_X8_138 rfl rfl (by decide) (by decide) rfl (Nat.le_of_ble_eq_true rfl)) rfl rfl (Nat.le_refl _) (Nat.le_refl _) ?_
    refine zr_astore ⟨_, dX8_drawSign_4, rfl⟩ (by decide) rfl ?_
    refine zr_load ⟨_, dX8_drawSign_5, rfl⟩ rfl ?_
    obtain ⟨x2, hx2, h⟩ := zbind h
    refine zt_call0 (t_Co_isWide hx2) (zrun_SN (rest := []) dX8_drawSign_6 ml_X8_142 rfl (by decide) (by decide) rfl (Nat.le_of_ble_eq_true rfl)) rfl rfl (Nat.le_refl _) (Nat.le_refl _) ?_
    have hj3 : zBT 7 m_X8_drawSign TSc none res.2 17 [some (.inr (.inl (some 0))), some (.inl a1), some (.inr (.inl (some 2))), none, none, none] [.inl (if x2 = 0 then 1 else 2)] s := by
      refine zr_store ⟨_, dX8_drawSign_17, rfl⟩ (by decide) rfl ?_
      refine zr_aload ⟨_, dX8_drawSign_18, rfl⟩ rfl ?_
      refine zt_get dX8_drawSign_19 fl_X8_66 rfl rfl ?_
      refine zr_iconst dX8_drawSign_22 (by decide) ?_
      refine zr_isub dX8_drawSign_23 ?_
      refine zr_storew dX8_drawSign_24 (by decide) rfl ?_
      refine zr_load ⟨_, dX8_drawSign_26, rfl⟩ rfl ?_
      refine zr_iconst dX8_drawSign_27 (by decide) ?_
      have hj5 : zBT 7 m_X8_drawSign TSc none res.2 48 [some (.inr (.inl (some 0))), some (.inl a1), some (.inr (.inl (some 2))), some (.inl (if x2 = 0 then 1 else 2)), some (.inl (w32 ((s.1 0 10) - 1))), none] [.inl (if ¬ ((if x2 = 0 then 1 else 2) : Int) = 2 then 0 else (if ¬ (s.1 12 1) = (w32 ((s.1 0 10) - 1)) then 0 else 1))] s := by
        refine zr_storew dX8_drawSign_48 (by decide) rfl ?_
        refine zr_aload ⟨_, dX8_drawSign_50, rfl⟩ rfl ?_
        refine zt_getr dX8_drawSign_51 fl_X8_28 rfl rfl ?_
        refine zt_get dX8_drawSign_54 fl_X8_146 rfl rfl ?_
        refine zr_if_eq (tgt := 129) dX8_drawSign_57 (by decide) (fun hc7 => ?_) (fun hc7 => ?_)
        · replace h := zpos h hc7
          exact t_Sc_drawSign_j129 h
        · replace h := zneg h hc7
          refine zr_aload ⟨_, dX8_drawSign_60, rfl⟩ rfl ?_
          refine zt_getr dX8_drawSign_61 fl_X8_21 rfl rfl ?_
          refine zt_get dX8_drawSign_64 fl_X8_88 rfl rfl ?_
          refine zr_if_ne (tgt := 75) dX8_drawSign_67 (by decide) (fun hc8 => ?_) (fun hc8 => ?_)
          · replace h := zpos h hc8
            refine zr_mask [true, true, true, true, true, false] rfl ?_
            exact t_Sc_drawSign_j75 h
          · replace h := zneg h hc8
            refine zr_loadw dX8_drawSign_70 rfl ?_
            refine zr_if_eq (tgt := 129) dX8_drawSign_72 (by decide) (fun hc9 => ?_) (fun hc9 => ?_)
            · replace h := zpos h hc9
              exact t_Sc_drawSign_j129 h
            · replace h := zneg h hc9
              refine zr_mask [true, true, true, true, true, false] rfl ?_
              exact t_Sc_drawSign_j75 h
      refine zr_ic_ne (tgt := 47) dX8_drawSign_28 (by decide) (fun hc6 => ?_) (fun hc6 => ?_)
      · have hp10 := zif_t hj5 hc6
        refine zr_iconst dX8_drawSign_47 (by decide) ?_
        exact hp10
      · have hp11 := zif_f hj5 hc6
        refine zr_aload ⟨_, dX8_drawSign_31, rfl⟩ rfl ?_
        refine zt_getr dX8_drawSign_32 fl_X8_21 rfl rfl ?_
        refine zt_get dX8_drawSign_35 fl_X8_85 rfl rfl ?_
        refine zr_loadw dX8_drawSign_38 rfl ?_
        refine zr_ic_ne (tgt := 47) dX8_drawSign_40 (by decide) (fun hc12 => ?_) (fun hc12 => ?_)
        · have hp13 := zif_t hp11 hc12
          refine zr_iconst dX8_drawSign_47 (by decide) ?_
          exact hp13
        · have hp14 := zif_f hp11 hc12
          refine zr_iconst dX8_drawSign_43 (by decide) ?_
          refine zr_goto (tgt := 48) dX8_drawSign_44 (by decide) ?_
          exact hp14
    refine zr_if_eq (tgt := 16) dX8_drawSign_9 (by decide) (fun hc4 => ?_) (fun hc4 => ?_)
    · have hp15 := zif_t hj3 hc4
      refine zr_iconst dX8_drawSign_16 (by decide) ?_
      exact hp15
    · have hp16 := zif_f hj3 hc4
      refine zr_iconst dX8_drawSign_12 (by decide) ?_
      refine zr_goto (tgt := 17) dX8_drawSign_13 (by decide) ?_
      exact hp16
  · replace h := zneg h hc1
    refine zt_callirs (t_Sc_shown1 hc1) (zrun_V (rest := []) dX8_drawSign_1 ml_X8_138 rfl rfl (by decide) (by decide) rfl (Nat.le_of_ble_eq_true rfl)) rfl rfl (Nat.le_refl _) (Nat.le_refl _) ?_
    refine zr_astore ⟨_, dX8_drawSign_4, rfl⟩ (by decide) rfl ?_
    refine zr_load ⟨_, dX8_drawSign_5, rfl⟩ rfl ?_
    obtain ⟨x17, hx17, h⟩ := zbind h
    refine zt_call0 (t_Co_isWide hx17) (zrun_SN (rest := []) dX8_drawSign_6 ml_X8_142 rfl (by decide) (by decide) rfl (Nat.le_of_ble_eq_true rfl)) rfl rfl (Nat.le_refl _) (Nat.le_refl _) ?_
    have hj18 : zBT 7 m_X8_drawSign TSc none res.2 17 [some (.inr (.inl (some 0))), some (.inl a1), some (.inr (.inl (some 22))), none, none, none] [.inl (if x17 = 0 then 1 else 2)] s := by
      refine zr_store ⟨_, dX8_drawSign_17, rfl⟩ (by decide) rfl ?_
      refine zr_aload ⟨_, dX8_drawSign_18, rfl⟩ rfl ?_
      refine zt_get dX8_drawSign_19 fl_X8_66 rfl rfl ?_
      refine zr_iconst dX8_drawSign_22 (by decide) ?_
      refine zr_isub dX8_drawSign_23 ?_
      refine zr_storew dX8_drawSign_24 (by decide) rfl ?_
      refine zr_load ⟨_, dX8_drawSign_26, rfl⟩ rfl ?_
      refine zr_iconst dX8_drawSign_27 (by decide) ?_
      have hj20 : zBT 7 m_X8_drawSign TSc none res.2 48 [some (.inr (.inl (some 0))), some (.inl a1), some (.inr (.inl (some 22))), some (.inl (if x17 = 0 then 1 else 2)), some (.inl (w32 ((s.1 0 10) - 1))), none] [.inl (if ¬ ((if x17 = 0 then 1 else 2) : Int) = 2 then 0 else (if ¬ (s.1 12 1) = (w32 ((s.1 0 10) - 1)) then 0 else 1))] s := by
        refine zr_storew dX8_drawSign_48 (by decide) rfl ?_
        refine zr_aload ⟨_, dX8_drawSign_50, rfl⟩ rfl ?_
        refine zt_getr dX8_drawSign_51 fl_X8_28 rfl rfl ?_
        refine zt_get dX8_drawSign_54 fl_X8_146 rfl rfl ?_
        refine zr_if_eq (tgt := 129) dX8_drawSign_57 (by decide) (fun hc22 => ?_) (fun hc22 => ?_)
        · replace h := zpos h hc22
          exact t_Sc_drawSign_j129_6 h
        · replace h := zneg h hc22
          refine zr_aload ⟨_, dX8_drawSign_60, rfl⟩ rfl ?_
          refine zt_getr dX8_drawSign_61 fl_X8_21 rfl rfl ?_
          refine zt_get dX8_drawSign_64 fl_X8_88 rfl rfl ?_
          refine zr_if_ne (tgt := 75) dX8_drawSign_67 (by decide) (fun hc23 => ?_) (fun hc23 => ?_)
          · replace h := zpos h hc23
            refine zr_mask [true, true, true, true, true, false] rfl ?_
            exact t_Sc_drawSign_j75_9 h
          · replace h := zneg h hc23
            refine zr_loadw dX8_drawSign_70 rfl ?_
            refine zr_if_eq (tgt := 129) dX8_drawSign_72 (by decide) (fun hc24 => ?_) (fun hc24 => ?_)
            · replace h := zpos h hc24
              exact t_Sc_drawSign_j129_6 h
            · replace h := zneg h hc24
              refine zr_mask [true, true, true, true, true, false] rfl ?_
              exact t_Sc_drawSign_j75_9 h
      refine zr_ic_ne (tgt := 47) dX8_drawSign_28 (by decide) (fun hc21 => ?_) (fun hc21 => ?_)
      · have hp25 := zif_t hj20 hc21
        refine zr_iconst dX8_drawSign_47 (by decide) ?_
        exact hp25
      · have hp26 := zif_f hj20 hc21
        refine zr_aload ⟨_, dX8_drawSign_31, rfl⟩ rfl ?_
        refine zt_getr dX8_drawSign_32 fl_X8_21 rfl rfl ?_
        refine zt_get dX8_drawSign_35 fl_X8_85 rfl rfl ?_
        refine zr_loadw dX8_drawSign_38 rfl ?_
        refine zr_ic_ne (tgt := 47) dX8_drawSign_40 (by decide) (fun hc27 => ?_) (fun hc27 => ?_)
        · have hp28 := zif_t hp26 hc27
          refine zr_iconst dX8_drawSign_47 (by decide) ?_
          exact hp28
        · have hp29 := zif_f hp26 hc27
          refine zr_iconst dX8_drawSign_43 (by decide) ?_
          refine zr_goto (tgt := 48) dX8_drawSign_44 (by decide) ?_
          exact hp29
    refine zr_if_eq (tgt := 16) dX8_drawSign_9 (by decide) (fun hc19 => ?_) (fun hc19 => ?_)
    · have hp30 := zif_t hj18 hc19
      refine zr_iconst dX8_drawSign_16 (by decide) ?_
      exact hp30
    · have hp31 := zif_f hj18 hc19
      refine zr_iconst dX8_drawSign_12 (by decide) ?_
      refine zr_goto (tgt := 17) dX8_drawSign_13 (by decide) ?_
      exact hp31
set_option maxRecDepth 100000 in
set_option maxHeartbeats 4000000 in
theorem t_Sc_control_j42 {v1 : Int} {s : zSt} {res : Int × zSt} (h : f_Sc_control_j42 v1 s = some res) : zBT 7 m_X8_control TSc none res.2 42 [some (.inr (.inl (some 0))), some (.inl v1), none] [] s := by
  unfold f_Sc_control_j42 at h
  refine zr_aload ⟨_, dX8_control_42, rfl⟩ rfl ?_
  refine zt_getr dX8_control_43 fl_X8_21 rfl rfl ?_
  refine zr_iconst dX8_control_46 (by decide) ?_
  refine zt_putz dX8_control_47 fl_X8_88 rfl rfl (Or.inl rfl) ?_
  refine zr_load ⟨_, dX8_control_50, rfl⟩ rfl ?_
  refine zr_bipush dX8_control_51 (by decide) (by decide) ?_
  refine zr_ic_ne (tgt := 79) dX8_control_53 (by decide) (fun hc1 => ?_) (fun hc1 => ?_)
  · replace h := zpos h hc1
    refine zr_load ⟨_, dX8_control_79, rfl⟩ rfl ?_
    refine zr_bipush dX8_control_80 (by decide) (by decide) ?_
    refine zr_ic_ne (tgt := 115) dX8_control_82 (by decide) (fun hc2 => ?_) (fun hc2 => ?_)
    · replace h := zpos h hc2
      refine zr_load ⟨_, dX8_control_115, rfl⟩ rfl ?_
      refine zr_bipush dX8_control_116 (by decide) (by decide) ?_
      refine zr_ic_ne (tgt := 128) dX8_control_118 (by decide) (fun hc3 => ?_) (fun hc3 => ?_)
      · replace h := zpos h hc3
        refine zr_aload ⟨_, dX8_control_128, rfl⟩ rfl ?_
        refine zt_getr dX8_control_129 fl_X8_21 rfl rfl ?_
        refine zr_iconst dX8_control_132 (by decide) ?_
        refine zt_put dX8_control_133 fl_X8_85 rfl rfl ?_
        obtain rfl := Option.some.inj h
        exact zt_vret dX8_control_136 rfl
      · replace h := zneg h hc3
        refine zr_aload ⟨_, dX8_control_121, rfl⟩ rfl ?_
        obtain ⟨x4, hx4, h⟩ := zbind h
        refine zt_calliv (t_Sc_feed hx4) (zrun_V (rest := []) dX8_control_122 ml_X8_157 rfl rfl (by decide) (by decide) rfl (Nat.le_of_ble_eq_true rfl)) rfl rfl (Nat.le_refl _) (Nat.le_refl _) ?_
        refine zr_goto (tgt := 136) dX8_control_125 (by decide) ?_
        obtain rfl := Option.some.inj h
        exact zt_vret dX8_control_136 rfl
    · replace h := zneg h hc2
      refine zr_aload ⟨_, dX8_control_85, rfl⟩ rfl ?_
      obtain ⟨x5, hx5, h⟩ := zbind h
      refine zt_callisi (t_Sc_nextTab hx5) (zrun_V (rest := []) dX8_control_86 ml_X8_182 rfl rfl (by decide) (by decide) rfl (Nat.le_of_ble_eq_true rfl)) rfl rfl (Nat.le_refl _) (Nat.le_refl _) ?_
      refine zr_store ⟨_, dX8_control_89, rfl⟩ (by decide) rfl ?_
      refine zr_aload ⟨_, dX8_control_90, rfl⟩ rfl ?_
      refine zt_getr dX8_control_91 fl_X8_21 rfl rfl ?_
      refine zr_load ⟨_, dX8_control_94, rfl⟩ rfl ?_
      refine zr_iconst dX8_control_95 (by decide) ?_
      have hj6 : zBT 7 m_X8_control TSc none res.2 109 [some (.inr (.inl (some 0))), some (.inl v1), some (.inl x5)] [.inl (if ¬ x5 = (-1) then x5 else (w32 ((s.1 0 10) - 1))), .inr (.inl (some 12))] (uS s 12 2 0) := by
        refine zt_put dX8_control_109 fl_X8_85 rfl rfl ?_
        refine zr_goto (tgt := 136) dX8_control_112 (by decide) ?_
        obtain rfl := Option.some.inj h
        exact zt_vret dX8_control_136 rfl
      refine zr_ic_ne (tgt := 108) dX8_control_96 (by decide) (fun hc7 => ?_) (fun hc7 => ?_)
      · have hp8 := zif_t hj6 hc7
        refine zr_load ⟨_, dX8_control_108, rfl⟩ rfl ?_
        exact hp8
      · have hp9 := zif_f hj6 hc7
        refine zr_aload ⟨_, dX8_control_99, rfl⟩ rfl ?_
        refine zt_get dX8_control_100 fl_X8_66 rfl rfl ?_
        refine zr_iconst dX8_control_103 (by decide) ?_
        refine zr_isub dX8_control_104 ?_
        refine zr_goto (tgt := 109) dX8_control_105 (by decide) ?_
        exact hp9
  · replace h := zneg h hc1
    refine zr_aload ⟨_, dX8_control_56, rfl⟩ rfl ?_
    refine zt_getr dX8_control_57 fl_X8_21 rfl rfl ?_
    refine zr_aload ⟨_, dX8_control_60, rfl⟩ rfl ?_
    refine zt_getr dX8_control_61 fl_X8_21 rfl rfl ?_
    refine zt_get dX8_control_64 fl_X8_85 rfl rfl ?_
    refine zr_iconst dX8_control_67 (by decide) ?_
    refine zr_isub dX8_control_68 ?_
    refine zr_iconst dX8_control_69 (by decide) ?_
    refine zr_max dX8_control_70 ml_X8_110 (by decide) (Nat.le_refl _) (Nat.le_refl _) (Nat.le_of_ble_eq_true rfl) ?_
    refine zt_put dX8_control_73 fl_X8_85 rfl rfl ?_
    refine zr_goto (tgt := 136) dX8_control_76 (by decide) ?_
    obtain rfl := Option.some.inj h
    exact zt_vret dX8_control_136 rfl
set_option maxRecDepth 100000 in
set_option maxHeartbeats 4000000 in
theorem t_Sc_control {a1 : Int} {s : zSt} {res : Int × zSt} (h : f_Sc_control a1 s = some res) : zSpecT 7 m_X8_control [.inr (.inl (some 0)), .inl a1] TSc s none res.2 := by
  refine zSpec_of (by decide +kernel) (Nat.le_of_ble_eq_true rfl) ?_
  show zBT 7 m_X8_control TSc none res.2 0 [some (.inr (.inl (some 0))), some (.inl a1), none] [] s
  unfold f_Sc_control at h
  refine zr_load ⟨_, dX8_control_0, rfl⟩ rfl ?_
  refine zr_bipush dX8_control_1 (by decide) (by decide) ?_
  refine zr_ic_ne (tgt := 17) dX8_control_3 (by decide) (fun hc1 => ?_) (fun hc1 => ?_)
  · replace h := zpos h hc1
    refine zr_load ⟨_, dX8_control_17, rfl⟩ rfl ?_
    refine zr_bipush dX8_control_18 (by decide) (by decide) ?_
    refine zr_ic_eq (tgt := 42) dX8_control_20 (by decide) (fun hc2 => ?_) (fun hc2 => ?_)
    · replace h := zpos h hc2
      exact t_Sc_control_j42 h
    · replace h := zneg h hc2
      refine zr_load ⟨_, dX8_control_23, rfl⟩ rfl ?_
      refine zr_bipush dX8_control_24 (by decide) (by decide) ?_
      refine zr_ic_eq (tgt := 42) dX8_control_26 (by decide) (fun hc3 => ?_) (fun hc3 => ?_)
      · replace h := zpos h hc3
        exact t_Sc_control_j42 h
      · replace h := zneg h hc3
        refine zr_load ⟨_, dX8_control_29, rfl⟩ rfl ?_
        refine zr_bipush dX8_control_30 (by decide) (by decide) ?_
        refine zr_ic_eq (tgt := 42) dX8_control_32 (by decide) (fun hc4 => ?_) (fun hc4 => ?_)
        · replace h := zpos h hc4
          exact t_Sc_control_j42 h
        · replace h := zneg h hc4
          refine zr_load ⟨_, dX8_control_35, rfl⟩ rfl ?_
          refine zr_bipush dX8_control_36 (by decide) (by decide) ?_
          refine zr_ic_eq (tgt := 42) dX8_control_38 (by decide) (fun hc5 => ?_) (fun hc5 => ?_)
          · replace h := zpos h hc5
            exact t_Sc_control_j42 h
          · replace h := zneg h hc5
            obtain rfl := Option.some.inj h
            exact zt_vret dX8_control_41 rfl
  · replace h := zneg h hc1
    refine zr_aload ⟨_, dX8_control_6, rfl⟩ rfl ?_
    refine zr_dup dX8_control_7 (Or.inl True.intro) ?_
    refine zt_get dX8_control_8 fl_X8_179 rfl rfl ?_
    refine zr_iconst dX8_control_11 (by decide) ?_
    refine zr_iadd dX8_control_12 ?_
    refine zt_put dX8_control_13 fl_X8_179 rfl rfl ?_
    obtain rfl := Option.some.inj h
    exact zt_vret dX8_control_16 rfl
set_option maxRecDepth 100000 in
set_option maxHeartbeats 4000000 in
theorem t_Sc_escaped {a1 : Int} {s : zSt} {res : Int × zSt} (h : f_Sc_escaped a1 s = some res) : zSpecT 7 m_X8_escaped [.inr (.inl (some 0)), .inl a1] TSc s none res.2 := by
  refine zSpec_of (by decide +kernel) (Nat.le_of_ble_eq_true rfl) ?_
  show zBT 7 m_X8_escaped TSc none res.2 0 [some (.inr (.inl (some 0))), some (.inl a1)] [] s
  unfold f_Sc_escaped at h
  refine zr_load ⟨_, dX8_escaped_0, rfl⟩ rfl ?_
  refine zr_lsw (l := [(55, 67), (56, 81), (68, 88), (69, 103), (72, 141), (77, 126), (99, 156)]) dX8_escaped_1 (by decide) rfl ?_
  refine zr_swc (tgt := 68) (by decide) (fun hc1 => ?_) (fun hc1 => ?_)
  · replace h := zpos h hc1
    refine zr_aload ⟨_, dX8_escaped_68, rfl⟩ rfl ?_
    refine zt_getr dX8_escaped_69 fl_X8_55 rfl rfl ?_
    refine zr_aload ⟨_, dX8_escaped_72, rfl⟩ rfl ?_
    refine zt_getr dX8_escaped_73 fl_X8_21 rfl rfl ?_
    obtain ⟨x2, hx2, h⟩ := zbind h
    refine zt_callv (t_Cu_copy hx2) (zrun_V (rest := []) dX8_escaped_76 ml_X8_212 rfl rfl (by decide) (by decide) rfl (Nat.le_of_ble_eq_true rfl)) rfl rfl sb_TSc_TCuCu_25_12 (Nat.le_refl _) (Nat.le_refl _) ?_
    refine zr_goto (tgt := 164) dX8_escaped_79 (by decide) ?_
    obtain rfl := Option.some.inj h
    exact zt_vret dX8_escaped_164 rfl
  replace h := zneg h hc1
  refine zr_swc (tgt := 82) (by decide) (fun hc3 => ?_) (fun hc3 => ?_)
  · replace h := zpos h hc3
    refine zr_aload ⟨_, dX8_escaped_82, rfl⟩ rfl ?_
    obtain ⟨x4, hx4, h⟩ := zbind h
    refine zt_calliv (t_Sc_bringBack hx4) (zrun_V (rest := []) dX8_escaped_83 ml_X8_216 rfl rfl (by decide) (by decide) rfl (Nat.le_of_ble_eq_true rfl)) rfl rfl (Nat.le_refl _) (Nat.le_refl _) ?_
    refine zr_goto (tgt := 164) dX8_escaped_86 (by decide) ?_
    obtain rfl := Option.some.inj h
    exact zt_vret dX8_escaped_164 rfl
  replace h := zneg h hc3
  refine zr_swc (tgt := 89) (by decide) (fun hc5 => ?_) (fun hc5 => ?_)
  · replace h := zpos h hc5
    refine zr_aload ⟨_, dX8_escaped_89, rfl⟩ rfl ?_
    refine zt_getr dX8_escaped_90 fl_X8_21 rfl rfl ?_
    refine zr_iconst dX8_escaped_93 (by decide) ?_
    refine zt_putz dX8_escaped_94 fl_X8_88 rfl rfl (Or.inl rfl) ?_
    refine zr_aload ⟨_, dX8_escaped_97, rfl⟩ rfl ?_
    obtain ⟨x6, hx6, h⟩ := zbind h
    refine zt_calliv (t_Sc_feed hx6) (zrun_V (rest := []) dX8_escaped_98 ml_X8_157 rfl rfl (by decide) (by decide) rfl (Nat.le_of_ble_eq_true rfl)) rfl rfl (Nat.le_refl _) (Nat.le_refl _) ?_
    refine zr_goto (tgt := 164) dX8_escaped_101 (by decide) ?_
    obtain rfl := Option.some.inj h
    exact zt_vret dX8_escaped_164 rfl
  replace h := zneg h hc5
  refine zr_swc (tgt := 104) (by decide) (fun hc7 => ?_) (fun hc7 => ?_)
  · replace h := zpos h hc7
    refine zr_aload ⟨_, dX8_escaped_104, rfl⟩ rfl ?_
    refine zt_getr dX8_escaped_105 fl_X8_21 rfl rfl ?_
    refine zr_iconst dX8_escaped_108 (by decide) ?_
    refine zt_putz dX8_escaped_109 fl_X8_88 rfl rfl (Or.inl rfl) ?_
    refine zr_aload ⟨_, dX8_escaped_112, rfl⟩ rfl ?_
    obtain ⟨x8, hx8, h⟩ := zbind h
    refine zt_calliv (t_Sc_feed hx8) (zrun_V (rest := []) dX8_escaped_113 ml_X8_157 rfl rfl (by decide) (by decide) rfl (Nat.le_of_ble_eq_true rfl)) rfl rfl (Nat.le_refl _) (Nat.le_refl _) ?_
    refine zr_aload ⟨_, dX8_escaped_116, rfl⟩ rfl ?_
    refine zt_getr dX8_escaped_117 fl_X8_21 rfl rfl ?_
    refine zr_iconst dX8_escaped_120 (by decide) ?_
    refine zt_put dX8_escaped_121 fl_X8_85 rfl rfl ?_
    refine zr_goto (tgt := 164) dX8_escaped_124 (by decide) ?_
    obtain rfl := Option.some.inj h
    exact zt_vret dX8_escaped_164 rfl
  replace h := zneg h hc7
  refine zr_swc (tgt := 142) (by decide) (fun hc9 => ?_) (fun hc9 => ?_)
  · replace h := zpos h hc9
    refine zr_aload ⟨_, dX8_escaped_142, rfl⟩ rfl ?_
    refine zr_aload ⟨_, dX8_escaped_143, rfl⟩ rfl ?_
    refine zt_getr dX8_escaped_144 fl_X8_21 rfl rfl ?_
    refine zt_get dX8_escaped_147 fl_X8_85 rfl rfl ?_
    refine zr_iconst dX8_escaped_150 (by decide) ?_
    obtain ⟨x10, hx10, h⟩ := zbind h
    refine zt_calliv (t_Sc_setTab hx10) (zrun_V (rest := []) dX8_escaped_151 ml_X8_222 rfl rfl (by decide) (by decide) rfl (Nat.le_of_ble_eq_true rfl)) rfl rfl (Nat.le_refl _) (Nat.le_refl _) ?_
    refine zr_goto (tgt := 164) dX8_escaped_154 (by decide) ?_
    obtain rfl := Option.some.inj h
    exact zt_vret dX8_escaped_164 rfl
  replace h := zneg h hc9
  refine zr_swc (tgt := 127) (by decide) (fun hc11 => ?_) (fun hc11 => ?_)
  · replace h := zpos h hc11
    refine zr_aload ⟨_, dX8_escaped_127, rfl⟩ rfl ?_
    refine zt_getr dX8_escaped_128 fl_X8_21 rfl rfl ?_
    refine zr_iconst dX8_escaped_131 (by decide) ?_
    refine zt_putz dX8_escaped_132 fl_X8_88 rfl rfl (Or.inl rfl) ?_
    refine zr_aload ⟨_, dX8_escaped_135, rfl⟩ rfl ?_
    obtain ⟨x12, hx12, h⟩ := zbind h
    refine zt_calliv (t_Sc_feedBack hx12) (zrun_V (rest := []) dX8_escaped_136 ml_X8_219 rfl rfl (by decide) (by decide) rfl (Nat.le_of_ble_eq_true rfl)) rfl rfl (Nat.le_refl _) (Nat.le_refl _) ?_
    refine zr_goto (tgt := 164) dX8_escaped_139 (by decide) ?_
    obtain rfl := Option.some.inj h
    exact zt_vret dX8_escaped_164 rfl
  replace h := zneg h hc11
  refine zr_swc (tgt := 157) (by decide) (fun hc13 => ?_) (fun hc13 => ?_)
  · replace h := zpos h hc13
    refine zr_aload ⟨_, dX8_escaped_157, rfl⟩ rfl ?_
    obtain ⟨x14, hx14, h⟩ := zbind h
    refine zt_calliv (t_Sc_reset hx14) (zrun_V (rest := []) dX8_escaped_158 ml_X8_225 rfl rfl (by decide) (by decide) rfl (Nat.le_of_ble_eq_true rfl)) rfl rfl (Nat.le_refl _) (Nat.le_refl _) ?_
    refine zr_goto (tgt := 164) dX8_escaped_161 (by decide) ?_
    obtain rfl := Option.some.inj h
    exact zt_vret dX8_escaped_164 rfl
  replace h := zneg h hc13
  refine zr_swd (tgt := 164) (by decide) ?_
  obtain rfl := Option.some.inj h
  exact zt_vret dX8_escaped_164 rfl
set_option maxRecDepth 100000 in
set_option maxHeartbeats 4000000 in
theorem t_Sc_coded_j15 {v1 : Int} {s : zSt} {res : Int × zSt} (h : f_Sc_coded_j15 v1 s = some res) : zBT 7 m_X8_coded TSc none res.2 15 [some (.inr (.inl (some 0))), some (.inl v1), none] [] s := by
  unfold f_Sc_coded_j15 at h
  refine zr_aload ⟨_, dX8_coded_15, rfl⟩ rfl ?_
  refine zt_getr dX8_coded_16 fl_X8_35 rfl rfl ?_
  refine zr_iconst dX8_coded_19 (by decide) ?_
  obtain ⟨x1, hx1, h⟩ := zbind h
  refine zt_callis (t_Re_number hx1) (zrun_V (rest := []) dX8_coded_20 ml_X8_239 rfl rfl (by decide) (by decide) rfl (Nat.le_of_ble_eq_true rfl)) rfl rfl sb_TSc_TRe_14 (Nat.le_refl _) (Nat.le_refl _) ?_
  refine zr_iconst dX8_coded_23 (by decide) ?_
  refine zr_max dX8_coded_24 ml_X8_110 (by decide) (Nat.le_refl _) (Nat.le_refl _) (Nat.le_of_ble_eq_true rfl) ?_
  refine zr_store ⟨_, dX8_coded_27, rfl⟩ (by decide) rfl ?_
  refine zr_load ⟨_, dX8_coded_28, rfl⟩ rfl ?_
  refine zr_tsw (l := [(64, 421), (65, 219), (66, 242), (67, 270), (68, 298), (72, 321), (74, 341), (75, 368), (76, 383), (77, 383), (80, 446), (83, 402), (84, 402), (88, 471), (103, 518), (104, 548), (108, 548), (109, 511), (110, 533), (114, 504)]) dX8_coded_29 (by decide +kernel) ?_
  refine zr_swc (tgt := 450) (by decide) (fun hc2 => ?_) (fun hc2 => ?_)
  · replace h := zpos h hc2
    refine zr_aload ⟨_, dX8_coded_450, rfl⟩ rfl ?_
    by_cases hc3 : s.1 0 8 = 0
    · replace h := zpos h hc3
      refine zt_callirs (t_Sc_shown0 hc3) (zrun_V (rest := []) dX8_coded_451 ml_X8_138 rfl rfl (by decide) (by decide) rfl (Nat.le_of_ble_eq_true rfl)) rfl rfl (Nat.le_refl _) (Nat.le_refl _) ?_
      refine zr_aload ⟨_, dX8_coded_454, rfl⟩ rfl ?_
      refine zt_getr dX8_coded_455 fl_X8_21 rfl rfl ?_
      refine zt_get dX8_coded_458 fl_X8_82 rfl rfl ?_
      refine zr_aload ⟨_, dX8_coded_461, rfl⟩ rfl ?_
      refine zt_getr dX8_coded_462 fl_X8_21 rfl rfl ?_
      refine zt_get dX8_coded_465 fl_X8_85 rfl rfl ?_
      refine zr_load ⟨_, dX8_coded_468, rfl⟩ rfl ?_
      obtain ⟨x4, hx4, h⟩ := zbind h
      refine zt_callv (t_Pi_insert hx4) (zrun_V (rest := []) dX8_coded_469 ml_X8_163 rfl rfl (by decide) (by decide) rfl (Nat.le_of_ble_eq_true rfl)) rfl rfl sb_TSc_TPi_2 (Nat.le_refl _) (Nat.le_refl _) ?_
      refine zr_goto (tgt := 595) dX8_coded_472 (by decide) ?_
      obtain rfl := Option.some.inj h
      exact zt_vret dX8_coded_595 rfl
    · replace h := zneg h hc3
      refine zt_callirs (t_Sc_shown1 hc3) (zrun_V (rest := []) dX8_coded_451 ml_X8_138 rfl rfl (by decide) (by decide) rfl (Nat.le_of_ble_eq_true rfl)) rfl rfl (Nat.le_refl _) (Nat.le_refl _) ?_
      refine zr_aload ⟨_, dX8_coded_454, rfl⟩ rfl ?_
      refine zt_getr dX8_coded_455 fl_X8_21 rfl rfl ?_
      refine zt_get dX8_coded_458 fl_X8_82 rfl rfl ?_
      refine zr_aload ⟨_, dX8_coded_461, rfl⟩ rfl ?_
      refine zt_getr dX8_coded_462 fl_X8_21 rfl rfl ?_
      refine zt_get dX8_coded_465 fl_X8_85 rfl rfl ?_
      refine zr_load ⟨_, dX8_coded_468, rfl⟩ rfl ?_
      obtain ⟨x5, hx5, h⟩ := zbind h
      refine zt_callv (t_Pi_insert hx5) (zrun_V (rest := []) dX8_coded_469 ml_X8_163 rfl rfl (by decide) (by decide) rfl (Nat.le_of_ble_eq_true rfl)) rfl rfl sb_TSc_TPi_22 (Nat.le_refl _) (Nat.le_refl _) ?_
      refine zr_goto (tgt := 595) dX8_coded_472 (by decide) ?_
      obtain rfl := Option.some.inj h
      exact zt_vret dX8_coded_595 rfl
  replace h := zneg h hc2
  refine zr_swc (tgt := 248) (by decide) (fun hc6 => ?_) (fun hc6 => ?_)
  · replace h := zpos h hc6
    refine zr_aload ⟨_, dX8_coded_248, rfl⟩ rfl ?_
    refine zt_getr dX8_coded_249 fl_X8_21 rfl rfl ?_
    refine zr_aload ⟨_, dX8_coded_252, rfl⟩ rfl ?_
    refine zt_getr dX8_coded_253 fl_X8_21 rfl rfl ?_
    refine zt_get dX8_coded_256 fl_X8_82 rfl rfl ?_
    refine zr_load ⟨_, dX8_coded_259, rfl⟩ rfl ?_
    refine zr_isub dX8_coded_260 ?_
    refine zr_iconst dX8_coded_261 (by decide) ?_
    refine zr_max dX8_coded_262 ml_X8_110 (by decide) (Nat.le_refl _) (Nat.le_refl _) (Nat.le_of_ble_eq_true rfl) ?_
    refine zt_put dX8_coded_265 fl_X8_82 rfl rfl ?_
    refine zr_goto (tgt := 595) dX8_coded_268 (by decide) ?_
    obtain rfl := Option.some.inj h
    exact zt_vret dX8_coded_595 rfl
  replace h := zneg h hc6
  refine zr_swc (tgt := 271) (by decide) (fun hc7 => ?_) (fun hc7 => ?_)
  · replace h := zpos h hc7
    refine zr_aload ⟨_, dX8_coded_271, rfl⟩ rfl ?_
    refine zt_getr dX8_coded_272 fl_X8_21 rfl rfl ?_
    refine zr_aload ⟨_, dX8_coded_275, rfl⟩ rfl ?_
    refine zt_getr dX8_coded_276 fl_X8_21 rfl rfl ?_
    refine zt_get dX8_coded_279 fl_X8_82 rfl rfl ?_
    refine zr_load ⟨_, dX8_coded_282, rfl⟩ rfl ?_
    refine zr_iadd dX8_coded_283 ?_
    refine zr_aload ⟨_, dX8_coded_284, rfl⟩ rfl ?_
    refine zt_get dX8_coded_285 fl_X8_62 rfl rfl ?_
    refine zr_iconst dX8_coded_288 (by decide) ?_
    refine zr_isub dX8_coded_289 ?_
    refine zr_min dX8_coded_290 ml_X8_169 (by decide) (Nat.le_refl _) (Nat.le_refl _) (Nat.le_of_ble_eq_true rfl) ?_
    refine zt_put dX8_coded_293 fl_X8_82 rfl rfl ?_
    refine zr_goto (tgt := 595) dX8_coded_296 (by decide) ?_
    obtain rfl := Option.some.inj h
    exact zt_vret dX8_coded_595 rfl
  replace h := zneg h hc7
  refine zr_swc (tgt := 299) (by decide) (fun hc8 => ?_) (fun hc8 => ?_)
  · replace h := zpos h hc8
    refine zr_aload ⟨_, dX8_coded_299, rfl⟩ rfl ?_
    refine zt_getr dX8_coded_300 fl_X8_21 rfl rfl ?_
    refine zr_aload ⟨_, dX8_coded_303, rfl⟩ rfl ?_
    refine zt_getr dX8_coded_304 fl_X8_21 rfl rfl ?_
    refine zt_get dX8_coded_307 fl_X8_85 rfl rfl ?_
    refine zr_load ⟨_, dX8_coded_310, rfl⟩ rfl ?_
    refine zr_iadd dX8_coded_311 ?_
    refine zr_aload ⟨_, dX8_coded_312, rfl⟩ rfl ?_
    refine zt_get dX8_coded_313 fl_X8_66 rfl rfl ?_
    refine zr_iconst dX8_coded_316 (by decide) ?_
    refine zr_isub dX8_coded_317 ?_
    refine zr_min dX8_coded_318 ml_X8_169 (by decide) (Nat.le_refl _) (Nat.le_refl _) (Nat.le_of_ble_eq_true rfl) ?_
    refine zt_put dX8_coded_321 fl_X8_85 rfl rfl ?_
    refine zr_goto (tgt := 595) dX8_coded_324 (by decide) ?_
    obtain rfl := Option.some.inj h
    exact zt_vret dX8_coded_595 rfl
  replace h := zneg h hc8
  refine zr_swc (tgt := 327) (by decide) (fun hc9 => ?_) (fun hc9 => ?_)
  · replace h := zpos h hc9
    refine zr_aload ⟨_, dX8_coded_327, rfl⟩ rfl ?_
    refine zt_getr dX8_coded_328 fl_X8_21 rfl rfl ?_
    refine zr_aload ⟨_, dX8_coded_331, rfl⟩ rfl ?_
    refine zt_getr dX8_coded_332 fl_X8_21 rfl rfl ?_
    refine zt_get dX8_coded_335 fl_X8_85 rfl rfl ?_
    refine zr_load ⟨_, dX8_coded_338, rfl⟩ rfl ?_
    refine zr_isub dX8_coded_339 ?_
    refine zr_iconst dX8_coded_340 (by decide) ?_
    refine zr_max dX8_coded_341 ml_X8_110 (by decide) (Nat.le_refl _) (Nat.le_refl _) (Nat.le_of_ble_eq_true rfl) ?_
    refine zt_put dX8_coded_344 fl_X8_85 rfl rfl ?_
    refine zr_goto (tgt := 595) dX8_coded_347 (by decide) ?_
    obtain rfl := Option.some.inj h
    exact zt_vret dX8_coded_595 rfl
  replace h := zneg h hc9
  refine zr_swc (tgt := 350) (by decide) (fun hc10 => ?_) (fun hc10 => ?_)
  · replace h := zpos h hc10
    refine zr_aload ⟨_, dX8_coded_350, rfl⟩ rfl ?_
    refine zr_load ⟨_, dX8_coded_351, rfl⟩ rfl ?_
    refine zr_aload ⟨_, dX8_coded_352, rfl⟩ rfl ?_
    refine zt_getr dX8_coded_353 fl_X8_35 rfl rfl ?_
    refine zr_iconst dX8_coded_356 (by decide) ?_
    obtain ⟨x11, hx11, h⟩ := zbind h
    refine zt_callis (t_Re_number hx11) (zrun_V (rest := [.inl (if x1 < 1 then 1 else x1), .inr (.inl (some 0))]) dX8_coded_357 ml_X8_239 rfl rfl (by decide) (by decide) rfl (Nat.le_of_ble_eq_true rfl)) rfl rfl sb_TSc_TRe_14 (Nat.le_refl _) (Nat.le_refl _) ?_
    refine zr_iconst dX8_coded_360 (by decide) ?_
    refine zr_max dX8_coded_361 ml_X8_110 (by decide) (Nat.le_refl _) (Nat.le_refl _) (Nat.le_of_ble_eq_true rfl) ?_
    obtain ⟨x12, hx12, h⟩ := zbind h
    refine zt_calliv (t_Sc_goTo hx12) (zrun_V (rest := []) dX8_coded_364 ml_X8_242 rfl rfl (by decide) (by decide) rfl (Nat.le_of_ble_eq_true rfl)) rfl rfl (Nat.le_refl _) (Nat.le_refl _) ?_
    refine zr_goto (tgt := 595) dX8_coded_367 (by decide) ?_
    obtain rfl := Option.some.inj h
    exact zt_vret dX8_coded_595 rfl
  replace h := zneg h hc10
  refine zr_swc (tgt := 370) (by decide) (fun hc13 => ?_) (fun hc13 => ?_)
  · replace h := zpos h hc13
    refine zr_aload ⟨_, dX8_coded_370, rfl⟩ rfl ?_
    refine zr_aload ⟨_, dX8_coded_371, rfl⟩ rfl ?_
    refine zt_getr dX8_coded_372 fl_X8_35 rfl rfl ?_
    refine zr_iconst dX8_coded_375 (by decide) ?_
    obtain ⟨x14, hx14, h⟩ := zbind h
    refine zt_callis (t_Re_number hx14) (zrun_V (rest := [.inr (.inl (some 0))]) dX8_coded_376 ml_X8_239 rfl rfl (by decide) (by decide) rfl (Nat.le_of_ble_eq_true rfl)) rfl rfl sb_TSc_TRe_14 (Nat.le_refl _) (Nat.le_refl _) ?_
    obtain ⟨x15, hx15, h⟩ := zbind h
    refine zt_calliv (t_Sc_eraseOtherRows hx15) (zrun_V (rest := []) dX8_coded_379 ml_X8_245 rfl rfl (by decide) (by decide) rfl (Nat.le_of_ble_eq_true rfl)) rfl rfl (Nat.le_refl _) (Nat.le_refl _) ?_
    refine zr_aload ⟨_, dX8_coded_382, rfl⟩ rfl ?_
    refine zr_aload ⟨_, dX8_coded_383, rfl⟩ rfl ?_
    refine zt_getr dX8_coded_384 fl_X8_35 rfl rfl ?_
    refine zr_iconst dX8_coded_387 (by decide) ?_
    obtain ⟨x16, hx16, h⟩ := zbind h
    refine zt_callis (t_Re_number hx16) (zrun_V (rest := [.inr (.inl (some 0))]) dX8_coded_388 ml_X8_239 rfl rfl (by decide) (by decide) rfl (Nat.le_of_ble_eq_true rfl)) rfl rfl sb_TSc_TRe_14 (Nat.le_refl _) (Nat.le_refl _) ?_
    obtain ⟨x17, hx17, h⟩ := zbind h
    refine zt_calliv (t_Sc_eraseRow hx17) (zrun_V (rest := []) dX8_coded_391 ml_X8_248 rfl rfl (by decide) (by decide) rfl (Nat.le_of_ble_eq_true rfl)) rfl rfl (Nat.le_refl _) (Nat.le_refl _) ?_
    refine zr_goto (tgt := 595) dX8_coded_394 (by decide) ?_
    obtain rfl := Option.some.inj h
    exact zt_vret dX8_coded_595 rfl
  replace h := zneg h hc13
  refine zr_swc (tgt := 397) (by decide) (fun hc18 => ?_) (fun hc18 => ?_)
  · replace h := zpos h hc18
    refine zr_aload ⟨_, dX8_coded_397, rfl⟩ rfl ?_
    refine zr_aload ⟨_, dX8_coded_398, rfl⟩ rfl ?_
    refine zt_getr dX8_coded_399 fl_X8_35 rfl rfl ?_
    refine zr_iconst dX8_coded_402 (by decide) ?_
    obtain ⟨x19, hx19, h⟩ := zbind h
    refine zt_callis (t_Re_number hx19) (zrun_V (rest := [.inr (.inl (some 0))]) dX8_coded_403 ml_X8_239 rfl rfl (by decide) (by decide) rfl (Nat.le_of_ble_eq_true rfl)) rfl rfl sb_TSc_TRe_14 (Nat.le_refl _) (Nat.le_refl _) ?_
    obtain ⟨x20, hx20, h⟩ := zbind h
    refine zt_calliv (t_Sc_eraseRow hx20) (zrun_V (rest := []) dX8_coded_406 ml_X8_248 rfl rfl (by decide) (by decide) rfl (Nat.le_of_ble_eq_true rfl)) rfl rfl (Nat.le_refl _) (Nat.le_refl _) ?_
    refine zr_goto (tgt := 595) dX8_coded_409 (by decide) ?_
    obtain rfl := Option.some.inj h
    exact zt_vret dX8_coded_595 rfl
  replace h := zneg h hc18
  refine zr_swc (tgt := 412) (by decide) (fun hc21 => ?_) (fun hc21 => ?_)
  · replace h := zpos h hc21
    refine zr_aload ⟨_, dX8_coded_412, rfl⟩ rfl ?_
    refine zr_load ⟨_, dX8_coded_413, rfl⟩ rfl ?_
    refine zr_load ⟨_, dX8_coded_414, rfl⟩ rfl ?_
    refine zr_bipush dX8_coded_415 (by decide) (by decide) ?_
    have hj22 : zBT 7 m_X8_coded TSc none res.2 425 [some (.inr (.inl (some 0))), some (.inl v1), some (.inl (if x1 < 1 then 1 else x1))] [.inl (if ¬ v1 = 77 then 0 else 1), .inl (if x1 < 1 then 1 else x1), .inr (.inl (some 0))] s := by
      obtain ⟨x24, hx24, h⟩ := zbind h
      refine zt_calliv (t_Sc_moveLines hx24) (zrun_V (rest := []) dX8_coded_425 ml_X8_251 rfl rfl (by decide) (by decide) rfl (Nat.le_of_ble_eq_true rfl)) rfl rfl (Nat.le_refl _) (Nat.le_refl _) ?_
      refine zr_goto (tgt := 595) dX8_coded_428 (by decide) ?_
      obtain rfl := Option.some.inj h
      exact zt_vret dX8_coded_595 rfl
    refine zr_ic_ne (tgt := 424) dX8_coded_417 (by decide) (fun hc23 => ?_) (fun hc23 => ?_)
    · have hp25 := zif_t hj22 hc23
      refine zr_iconst dX8_coded_424 (by decide) ?_
      exact hp25
    · have hp26 := zif_f hj22 hc23
      refine zr_iconst dX8_coded_420 (by decide) ?_
      refine zr_goto (tgt := 425) dX8_coded_421 (by decide) ?_
      exact hp26
  replace h := zneg h hc21
  refine zr_swc (tgt := 412) (by decide) (fun hc27 => ?_) (fun hc27 => ?_)
  · replace h := zpos h hc27
    refine zr_aload ⟨_, dX8_coded_412, rfl⟩ rfl ?_
    refine zr_load ⟨_, dX8_coded_413, rfl⟩ rfl ?_
    refine zr_load ⟨_, dX8_coded_414, rfl⟩ rfl ?_
    refine zr_bipush dX8_coded_415 (by decide) (by decide) ?_
    have hj28 : zBT 7 m_X8_coded TSc none res.2 425 [some (.inr (.inl (some 0))), some (.inl v1), some (.inl (if x1 < 1 then 1 else x1))] [.inl (if ¬ v1 = 77 then 0 else 1), .inl (if x1 < 1 then 1 else x1), .inr (.inl (some 0))] s := by
      obtain ⟨x30, hx30, h⟩ := zbind h
      refine zt_calliv (t_Sc_moveLines hx30) (zrun_V (rest := []) dX8_coded_425 ml_X8_251 rfl rfl (by decide) (by decide) rfl (Nat.le_of_ble_eq_true rfl)) rfl rfl (Nat.le_refl _) (Nat.le_refl _) ?_
      refine zr_goto (tgt := 595) dX8_coded_428 (by decide) ?_
      obtain rfl := Option.some.inj h
      exact zt_vret dX8_coded_595 rfl
    refine zr_ic_ne (tgt := 424) dX8_coded_417 (by decide) (fun hc29 => ?_) (fun hc29 => ?_)
    · have hp31 := zif_t hj28 hc29
      refine zr_iconst dX8_coded_424 (by decide) ?_
      exact hp31
    · have hp32 := zif_f hj28 hc29
      refine zr_iconst dX8_coded_420 (by decide) ?_
      refine zr_goto (tgt := 425) dX8_coded_421 (by decide) ?_
      exact hp32
  replace h := zneg h hc27
  refine zr_swc (tgt := 475) (by decide) (fun hc33 => ?_) (fun hc33 => ?_)
  · replace h := zpos h hc33
    refine zr_aload ⟨_, dX8_coded_475, rfl⟩ rfl ?_
    by_cases hc34 : s.1 0 8 = 0
    · replace h := zpos h hc34
      refine zt_callirs (t_Sc_shown0 hc34) (zrun_V (rest := []) dX8_coded_476 ml_X8_138 rfl rfl (by decide) (by decide) rfl (Nat.le_of_ble_eq_true rfl)) rfl rfl (Nat.le_refl _) (Nat.le_refl _) ?_
      refine zr_aload ⟨_, dX8_coded_479, rfl⟩ rfl ?_
      refine zt_getr dX8_coded_480 fl_X8_21 rfl rfl ?_
      refine zt_get dX8_coded_483 fl_X8_82 rfl rfl ?_
      refine zr_aload ⟨_, dX8_coded_486, rfl⟩ rfl ?_
      refine zt_getr dX8_coded_487 fl_X8_21 rfl rfl ?_
      refine zt_get dX8_coded_490 fl_X8_85 rfl rfl ?_
      refine zr_load ⟨_, dX8_coded_493, rfl⟩ rfl ?_
      obtain ⟨x35, hx35, h⟩ := zbind h
      refine zt_callv (t_Pi_delete hx35) (zrun_V (rest := []) dX8_coded_494 ml_X8_257 rfl rfl (by decide) (by decide) rfl (Nat.le_of_ble_eq_true rfl)) rfl rfl sb_TSc_TPi_2 (Nat.le_refl _) (Nat.le_refl _) ?_
      refine zr_goto (tgt := 595) dX8_coded_497 (by decide) ?_
      obtain rfl := Option.some.inj h
      exact zt_vret dX8_coded_595 rfl
    · replace h := zneg h hc34
      refine zt_callirs (t_Sc_shown1 hc34) (zrun_V (rest := []) dX8_coded_476 ml_X8_138 rfl rfl (by decide) (by decide) rfl (Nat.le_of_ble_eq_true rfl)) rfl rfl (Nat.le_refl _) (Nat.le_refl _) ?_
      refine zr_aload ⟨_, dX8_coded_479, rfl⟩ rfl ?_
      refine zt_getr dX8_coded_480 fl_X8_21 rfl rfl ?_
      refine zt_get dX8_coded_483 fl_X8_82 rfl rfl ?_
      refine zr_aload ⟨_, dX8_coded_486, rfl⟩ rfl ?_
      refine zt_getr dX8_coded_487 fl_X8_21 rfl rfl ?_
      refine zt_get dX8_coded_490 fl_X8_85 rfl rfl ?_
      refine zr_load ⟨_, dX8_coded_493, rfl⟩ rfl ?_
      obtain ⟨x36, hx36, h⟩ := zbind h
      refine zt_callv (t_Pi_delete hx36) (zrun_V (rest := []) dX8_coded_494 ml_X8_257 rfl rfl (by decide) (by decide) rfl (Nat.le_of_ble_eq_true rfl)) rfl rfl sb_TSc_TPi_22 (Nat.le_refl _) (Nat.le_refl _) ?_
      refine zr_goto (tgt := 595) dX8_coded_497 (by decide) ?_
      obtain rfl := Option.some.inj h
      exact zt_vret dX8_coded_595 rfl
  replace h := zneg h hc33
  refine zr_swc (tgt := 431) (by decide) (fun hc37 => ?_) (fun hc37 => ?_)
  · replace h := zpos h hc37
    refine zr_aload ⟨_, dX8_coded_431, rfl⟩ rfl ?_
    refine zr_load ⟨_, dX8_coded_432, rfl⟩ rfl ?_
    refine zr_load ⟨_, dX8_coded_433, rfl⟩ rfl ?_
    refine zr_bipush dX8_coded_434 (by decide) (by decide) ?_
    have hj38 : zBT 7 m_X8_coded TSc none res.2 444 [some (.inr (.inl (some 0))), some (.inl v1), some (.inl (if x1 < 1 then 1 else x1))] [.inl (if ¬ v1 = 83 then 0 else 1), .inl (if x1 < 1 then 1 else x1), .inr (.inl (some 0))] s := by
      obtain ⟨x40, hx40, h⟩ := zbind h
      refine zt_calliv (t_Sc_scroll hx40) (zrun_V (rest := []) dX8_coded_444 ml_X8_254 rfl rfl (by decide) (by decide) rfl (Nat.le_of_ble_eq_true rfl)) rfl rfl (Nat.le_refl _) (Nat.le_refl _) ?_
      refine zr_goto (tgt := 595) dX8_coded_447 (by decide) ?_
      obtain rfl := Option.some.inj h
      exact zt_vret dX8_coded_595 rfl
    refine zr_ic_ne (tgt := 443) dX8_coded_436 (by decide) (fun hc39 => ?_) (fun hc39 => ?_)
    · have hp41 := zif_t hj38 hc39
      refine zr_iconst dX8_coded_443 (by decide) ?_
      exact hp41
    · have hp42 := zif_f hj38 hc39
      refine zr_iconst dX8_coded_439 (by decide) ?_
      refine zr_goto (tgt := 444) dX8_coded_440 (by decide) ?_
      exact hp42
  replace h := zneg h hc37
  refine zr_swc (tgt := 431) (by decide) (fun hc43 => ?_) (fun hc43 => ?_)
  · replace h := zpos h hc43
    refine zr_aload ⟨_, dX8_coded_431, rfl⟩ rfl ?_
    refine zr_load ⟨_, dX8_coded_432, rfl⟩ rfl ?_
    refine zr_load ⟨_, dX8_coded_433, rfl⟩ rfl ?_
    refine zr_bipush dX8_coded_434 (by decide) (by decide) ?_
    have hj44 : zBT 7 m_X8_coded TSc none res.2 444 [some (.inr (.inl (some 0))), some (.inl v1), some (.inl (if x1 < 1 then 1 else x1))] [.inl (if ¬ v1 = 83 then 0 else 1), .inl (if x1 < 1 then 1 else x1), .inr (.inl (some 0))] s := by
      obtain ⟨x46, hx46, h⟩ := zbind h
      refine zt_calliv (t_Sc_scroll hx46) (zrun_V (rest := []) dX8_coded_444 ml_X8_254 rfl rfl (by decide) (by decide) rfl (Nat.le_of_ble_eq_true rfl)) rfl rfl (Nat.le_refl _) (Nat.le_refl _) ?_
      refine zr_goto (tgt := 595) dX8_coded_447 (by decide) ?_
      obtain rfl := Option.some.inj h
      exact zt_vret dX8_coded_595 rfl
    refine zr_ic_ne (tgt := 443) dX8_coded_436 (by decide) (fun hc45 => ?_) (fun hc45 => ?_)
    · have hp47 := zif_t hj44 hc45
      refine zr_iconst dX8_coded_443 (by decide) ?_
      exact hp47
    · have hp48 := zif_f hj44 hc45
      refine zr_iconst dX8_coded_439 (by decide) ?_
      refine zr_goto (tgt := 444) dX8_coded_440 (by decide) ?_
      exact hp48
  replace h := zneg h hc43
  refine zr_swc (tgt := 500) (by decide) (fun hc49 => ?_) (fun hc49 => ?_)
  · replace h := zpos h hc49
    refine zr_aload ⟨_, dX8_coded_500, rfl⟩ rfl ?_
    by_cases hc50 : s.1 0 8 = 0
    · replace h := zpos h hc50
      refine zt_callirs (t_Sc_shown0 hc50) (zrun_V (rest := []) dX8_coded_501 ml_X8_138 rfl rfl (by decide) (by decide) rfl (Nat.le_of_ble_eq_true rfl)) rfl rfl (Nat.le_refl _) (Nat.le_refl _) ?_
      refine zr_aload ⟨_, dX8_coded_504, rfl⟩ rfl ?_
      refine zt_getr dX8_coded_505 fl_X8_21 rfl rfl ?_
      refine zt_get dX8_coded_508 fl_X8_82 rfl rfl ?_
      refine zr_aload ⟨_, dX8_coded_511, rfl⟩ rfl ?_
      refine zt_getr dX8_coded_512 fl_X8_21 rfl rfl ?_
      refine zt_get dX8_coded_515 fl_X8_85 rfl rfl ?_
      refine zr_aload ⟨_, dX8_coded_518, rfl⟩ rfl ?_
      refine zt_getr dX8_coded_519 fl_X8_21 rfl rfl ?_
      refine zt_get dX8_coded_522 fl_X8_85 rfl rfl ?_
      refine zr_load ⟨_, dX8_coded_525, rfl⟩ rfl ?_
      refine zr_iadd dX8_coded_526 ?_
      obtain ⟨x51, hx51, h⟩ := zbind h
      refine zt_callv (t_Pi_erase hx51) (zrun_V (rest := []) dX8_coded_527 ml_X8_149 rfl rfl (by decide) (by decide) rfl (Nat.le_of_ble_eq_true rfl)) rfl rfl sb_TSc_TPi_2 (Nat.le_refl _) (Nat.le_refl _) ?_
      refine zr_goto (tgt := 595) dX8_coded_530 (by decide) ?_
      obtain rfl := Option.some.inj h
      exact zt_vret dX8_coded_595 rfl
    · replace h := zneg h hc50
      refine zt_callirs (t_Sc_shown1 hc50) (zrun_V (rest := []) dX8_coded_501 ml_X8_138 rfl rfl (by decide) (by decide) rfl (Nat.le_of_ble_eq_true rfl)) rfl rfl (Nat.le_refl _) (Nat.le_refl _) ?_
      refine zr_aload ⟨_, dX8_coded_504, rfl⟩ rfl ?_
      refine zt_getr dX8_coded_505 fl_X8_21 rfl rfl ?_
      refine zt_get dX8_coded_508 fl_X8_82 rfl rfl ?_
      refine zr_aload ⟨_, dX8_coded_511, rfl⟩ rfl ?_
      refine zt_getr dX8_coded_512 fl_X8_21 rfl rfl ?_
      refine zt_get dX8_coded_515 fl_X8_85 rfl rfl ?_
      refine zr_aload ⟨_, dX8_coded_518, rfl⟩ rfl ?_
      refine zt_getr dX8_coded_519 fl_X8_21 rfl rfl ?_
      refine zt_get dX8_coded_522 fl_X8_85 rfl rfl ?_
      refine zr_load ⟨_, dX8_coded_525, rfl⟩ rfl ?_
      refine zr_iadd dX8_coded_526 ?_
      obtain ⟨x52, hx52, h⟩ := zbind h
      refine zt_callv (t_Pi_erase hx52) (zrun_V (rest := []) dX8_coded_527 ml_X8_149 rfl rfl (by decide) (by decide) rfl (Nat.le_of_ble_eq_true rfl)) rfl rfl sb_TSc_TPi_22 (Nat.le_refl _) (Nat.le_refl _) ?_
      refine zr_goto (tgt := 595) dX8_coded_530 (by decide) ?_
      obtain rfl := Option.some.inj h
      exact zt_vret dX8_coded_595 rfl
  replace h := zneg h hc49
  refine zr_swc (tgt := 547) (by decide) (fun hc53 => ?_) (fun hc53 => ?_)
  · replace h := zpos h hc53
    refine zr_aload ⟨_, dX8_coded_547, rfl⟩ rfl ?_
    refine zr_aload ⟨_, dX8_coded_548, rfl⟩ rfl ?_
    refine zt_getr dX8_coded_549 fl_X8_35 rfl rfl ?_
    refine zr_iconst dX8_coded_552 (by decide) ?_
    obtain ⟨x54, hx54, h⟩ := zbind h
    refine zt_callis (t_Re_number hx54) (zrun_V (rest := [.inr (.inl (some 0))]) dX8_coded_553 ml_X8_239 rfl rfl (by decide) (by decide) rfl (Nat.le_of_ble_eq_true rfl)) rfl rfl sb_TSc_TRe_14 (Nat.le_refl _) (Nat.le_refl _) ?_
    obtain ⟨x55, hx55, h⟩ := zbind h
    refine zt_calliv (t_Sc_clearTabs hx55) (zrun_V (rest := []) dX8_coded_556 ml_X8_266 rfl rfl (by decide) (by decide) rfl (Nat.le_of_ble_eq_true rfl)) rfl rfl (Nat.le_refl _) (Nat.le_refl _) ?_
    refine zr_goto (tgt := 595) dX8_coded_559 (by decide) ?_
    obtain rfl := Option.some.inj h
    exact zt_vret dX8_coded_595 rfl
  replace h := zneg h hc53
  refine zr_swc (tgt := 577) (by decide) (fun hc56 => ?_) (fun hc56 => ?_)
  · replace h := zpos h hc56
    refine zr_aload ⟨_, dX8_coded_577, rfl⟩ rfl ?_
    refine zr_load ⟨_, dX8_coded_578, rfl⟩ rfl ?_
    refine zr_bipush dX8_coded_579 (by decide) (by decide) ?_
    have hj57 : zBT 7 m_X8_coded TSc none res.2 589 [some (.inr (.inl (some 0))), some (.inl v1), some (.inl (if x1 < 1 then 1 else x1))] [.inl (if ¬ v1 = 104 then 0 else 1), .inr (.inl (some 0))] s := by
      obtain ⟨x59, hx59, h⟩ := zbind h
      refine zt_calliv (t_Sc_setInsert hx59) (zrun_V (rest := []) dX8_coded_589 ml_X8_272 rfl rfl (by decide) (by decide) rfl (Nat.le_of_ble_eq_true rfl)) rfl rfl (Nat.le_refl _) (Nat.le_refl _) ?_
      refine zr_goto (tgt := 595) dX8_coded_592 (by decide) ?_
      obtain rfl := Option.some.inj h
      exact zt_vret dX8_coded_595 rfl
    refine zr_ic_ne (tgt := 588) dX8_coded_581 (by decide) (fun hc58 => ?_) (fun hc58 => ?_)
    · have hp60 := zif_t hj57 hc58
      refine zr_iconst dX8_coded_588 (by decide) ?_
      exact hp60
    · have hp61 := zif_f hj57 hc58
      refine zr_iconst dX8_coded_584 (by decide) ?_
      refine zr_goto (tgt := 589) dX8_coded_585 (by decide) ?_
      exact hp61
  replace h := zneg h hc56
  refine zr_swc (tgt := 577) (by decide) (fun hc62 => ?_) (fun hc62 => ?_)
  · replace h := zpos h hc62
    refine zr_aload ⟨_, dX8_coded_577, rfl⟩ rfl ?_
    refine zr_load ⟨_, dX8_coded_578, rfl⟩ rfl ?_
    refine zr_bipush dX8_coded_579 (by decide) (by decide) ?_
    have hj63 : zBT 7 m_X8_coded TSc none res.2 589 [some (.inr (.inl (some 0))), some (.inl v1), some (.inl (if x1 < 1 then 1 else x1))] [.inl (if ¬ v1 = 104 then 0 else 1), .inr (.inl (some 0))] s := by
      obtain ⟨x65, hx65, h⟩ := zbind h
      refine zt_calliv (t_Sc_setInsert hx65) (zrun_V (rest := []) dX8_coded_589 ml_X8_272 rfl rfl (by decide) (by decide) rfl (Nat.le_of_ble_eq_true rfl)) rfl rfl (Nat.le_refl _) (Nat.le_refl _) ?_
      refine zr_goto (tgt := 595) dX8_coded_592 (by decide) ?_
      obtain rfl := Option.some.inj h
      exact zt_vret dX8_coded_595 rfl
    refine zr_ic_ne (tgt := 588) dX8_coded_581 (by decide) (fun hc64 => ?_) (fun hc64 => ?_)
    · have hp66 := zif_t hj63 hc64
      refine zr_iconst dX8_coded_588 (by decide) ?_
      exact hp66
    · have hp67 := zif_f hj63 hc64
      refine zr_iconst dX8_coded_584 (by decide) ?_
      refine zr_goto (tgt := 589) dX8_coded_585 (by decide) ?_
      exact hp67
  replace h := zneg h hc62
  refine zr_swc (tgt := 540) (by decide) (fun hc68 => ?_) (fun hc68 => ?_)
  · replace h := zpos h hc68
    refine zr_aload ⟨_, dX8_coded_540, rfl⟩ rfl ?_
    obtain ⟨x69, hx69, h⟩ := zbind h
    refine zt_calliv (t_Sc_setAttribute hx69) (zrun_V (rest := []) dX8_coded_541 ml_X8_263 rfl rfl (by decide) (by decide) rfl (Nat.le_of_ble_eq_true rfl)) rfl rfl (Nat.le_refl _) (Nat.le_refl _) ?_
    refine zr_goto (tgt := 595) dX8_coded_544 (by decide) ?_
    obtain rfl := Option.some.inj h
    exact zt_vret dX8_coded_595 rfl
  replace h := zneg h hc68
  refine zr_swc (tgt := 562) (by decide) (fun hc70 => ?_) (fun hc70 => ?_)
  · replace h := zpos h hc70
    refine zr_aload ⟨_, dX8_coded_562, rfl⟩ rfl ?_
    refine zr_aload ⟨_, dX8_coded_563, rfl⟩ rfl ?_
    refine zt_getr dX8_coded_564 fl_X8_35 rfl rfl ?_
    refine zr_iconst dX8_coded_567 (by decide) ?_
    obtain ⟨x71, hx71, h⟩ := zbind h
    refine zt_callis (t_Re_number hx71) (zrun_V (rest := [.inr (.inl (some 0))]) dX8_coded_568 ml_X8_239 rfl rfl (by decide) (by decide) rfl (Nat.le_of_ble_eq_true rfl)) rfl rfl sb_TSc_TRe_14 (Nat.le_refl _) (Nat.le_refl _) ?_
    obtain ⟨x72, hx72, h⟩ := zbind h
    refine zt_calliv (t_Sc_answer hx72) (zrun_V (rest := []) dX8_coded_571 ml_X8_269 rfl rfl (by decide) (by decide) rfl (Nat.le_of_ble_eq_true rfl)) rfl rfl (Nat.le_refl _) (Nat.le_refl _) ?_
    refine zr_goto (tgt := 595) dX8_coded_574 (by decide) ?_
    obtain rfl := Option.some.inj h
    exact zt_vret dX8_coded_595 rfl
  replace h := zneg h hc70
  refine zr_swc (tgt := 533) (by decide) (fun hc73 => ?_) (fun hc73 => ?_)
  · replace h := zpos h hc73
    refine zr_aload ⟨_, dX8_coded_533, rfl⟩ rfl ?_
    obtain ⟨x74, hx74, h⟩ := zbind h
    refine zt_calliv (t_Sc_setRegion hx74) (zrun_V (rest := []) dX8_coded_534 ml_X8_260 rfl rfl (by decide) (by decide) rfl (Nat.le_of_ble_eq_true rfl)) rfl rfl (Nat.le_refl _) (Nat.le_refl _) ?_
    refine zr_goto (tgt := 595) dX8_coded_537 (by decide) ?_
    obtain rfl := Option.some.inj h
    exact zt_vret dX8_coded_595 rfl
  replace h := zneg h hc73
  refine zr_swd (tgt := 595) (by decide) ?_
  obtain rfl := Option.some.inj h
  exact zt_vret dX8_coded_595 rfl
set_option maxRecDepth 100000 in
set_option maxHeartbeats 4000000 in
theorem t_Sc_coded {a1 : Int} {s : zSt} {res : Int × zSt} (h : f_Sc_coded a1 s = some res) : zSpecT 7 m_X8_coded [.inr (.inl (some 0)), .inl a1] TSc s none res.2 := by
  refine zSpec_of (by decide +kernel) (Nat.le_of_ble_eq_true rfl) ?_
  show zBT 7 m_X8_coded TSc none res.2 0 [some (.inr (.inl (some 0))), some (.inl a1), none] [] s
  unfold f_Sc_coded at h
  refine zr_load ⟨_, dX8_coded_0, rfl⟩ rfl ?_
  obtain ⟨x1, hx1, h⟩ := zbind h
  refine zt_call0 (t_Sc_endsLate hx1) (zrun_S (rest := []) dX8_coded_1 ml_X8_236 rfl (by decide) (by decide) rfl (Nat.le_of_ble_eq_true rfl)) rfl rfl (Nat.le_refl _) (Nat.le_refl _) ?_
  refine zr_if_eq (tgt := 15) dX8_coded_4 (by decide) (fun hc2 => ?_) (fun hc2 => ?_)
  · replace h := zpos h hc2
    exact t_Sc_coded_j15 h
  · replace h := zneg h hc2
    refine zr_aload ⟨_, dX8_coded_7, rfl⟩ rfl ?_
    refine zt_getr dX8_coded_8 fl_X8_21 rfl rfl ?_
    refine zr_iconst dX8_coded_11 (by decide) ?_
    refine zt_putz dX8_coded_12 fl_X8_88 rfl rfl (Or.inl rfl) ?_
    exact t_Sc_coded_j15 h
set_option maxRecDepth 100000 in
set_option maxHeartbeats 4000000 in
theorem t_Sc_codedWithMark_l15 {c1 : Int} {r : Option zAV} {s0 : zSt}  : ∀ (n : Nat) (x : Int × zSt) (out : zSt), zloop (f_Sc_codedWithMark_l15 c1) n x = some out → (zBT 7 m_X8_codedWithMark TSc r s0 55 [none, none, none] [] out) → zBT 7 m_X8_codedWithMark TSc r s0 15 [some (.inr (.inl (some 0))), some (.inl c1), some (.inl x.1)] [] x.2 := by
  refine zloop_B (B := fun (x : Int × zSt) (out : zSt) => zBT 7 m_X8_codedWithMark TSc r s0 55 [none, none, none] [] out → zBT 7 m_X8_codedWithMark TSc r s0 15 [some (.inr (.inl (some 0))), some (.inl c1), some (.inl x.1)] [] x.2) ?_
  intro x o out h hk hx
  unfold f_Sc_codedWithMark_l15 at h
  refine zr_load ⟨_, dX8_codedWithMark_15, rfl⟩ rfl ?_
  refine zr_aload ⟨_, dX8_codedWithMark_16, rfl⟩ rfl ?_
  refine zt_getr dX8_codedWithMark_17 fl_X8_35 rfl rfl ?_
  refine zt_get dX8_codedWithMark_20 fl_X8_283 rfl rfl ?_
  refine zr_ic_ge (tgt := 55) dX8_codedWithMark_23 (by decide) (fun hc1 => ?_) (fun hc1 => ?_)
  · replace h := zpos h hc1
    refine zr_mask [false, false, false] rfl ?_
    obtain rfl := Option.some.inj h
    obtain rfl := hk
    exact hx
  · replace h := zneg h hc1
    refine zr_aload ⟨_, dX8_codedWithMark_26, rfl⟩ rfl ?_
    refine zr_aload ⟨_, dX8_codedWithMark_27, rfl⟩ rfl ?_
    refine zt_getr dX8_codedWithMark_28 fl_X8_35 rfl rfl ?_
    refine zr_load ⟨_, dX8_codedWithMark_31, rfl⟩ rfl ?_
    obtain ⟨x2, hx2, h⟩ := zbind h
    refine zt_callis (t_Re_number hx2) (zrun_V (rest := [.inr (.inl (some 0))]) dX8_codedWithMark_32 ml_X8_239 rfl rfl (by decide) (by decide) rfl (Nat.le_of_ble_eq_true rfl)) rfl rfl sb_TSc_TRe_14 (Nat.le_refl _) (Nat.le_refl _) ?_
    refine zr_load ⟨_, dX8_codedWithMark_35, rfl⟩ rfl ?_
    refine zr_bipush dX8_codedWithMark_36 (by decide) (by decide) ?_
    have hj3 : zBT 7 m_X8_codedWithMark TSc r s0 46 [some (.inr (.inl (some 0))), some (.inl c1), some (.inl x.1)] [.inl (if ¬ c1 = 104 then 0 else 1), .inl x2, .inr (.inl (some 0))] x.2 := by
      obtain ⟨x5, hx5, h⟩ := zbind h
      refine zt_calliv (t_Sc_setMarkedMode hx5) (zrun_V (rest := []) dX8_codedWithMark_46 ml_X8_290 rfl rfl (by decide) (by decide) rfl (Nat.le_of_ble_eq_true rfl)) rfl rfl (Nat.le_refl _) (Nat.le_refl _) ?_
      refine zr_iinc dX8_codedWithMark_49 rfl (by decide) rfl ?_
      refine zr_goto (tgt := 15) dX8_codedWithMark_52 (by decide) ?_
      obtain rfl := Option.some.inj h
      exact hk hx
    refine zr_ic_ne (tgt := 45) dX8_codedWithMark_38 (by decide) (fun hc4 => ?_) (fun hc4 => ?_)
    · have hp6 := zif_t hj3 hc4
      refine zr_iconst dX8_codedWithMark_45 (by decide) ?_
      exact hp6
    · have hp7 := zif_f hj3 hc4
      refine zr_iconst dX8_codedWithMark_41 (by decide) ?_
      refine zr_goto (tgt := 46) dX8_codedWithMark_42 (by decide) ?_
      exact hp7
set_option maxRecDepth 100000 in
set_option maxHeartbeats 4000000 in
theorem t_Sc_codedWithMark_j13 {v1 : Int} {s : zSt} {res : Int × zSt} (h : f_Sc_codedWithMark_j13 v1 s = some res) : zBT 7 m_X8_codedWithMark TSc none res.2 13 [some (.inr (.inl (some 0))), some (.inl v1), none] [] s := by
  unfold f_Sc_codedWithMark_j13 at h
  refine zr_iconst dX8_codedWithMark_13 (by decide) ?_
  refine zr_store ⟨_, dX8_codedWithMark_14, rfl⟩ (by decide) rfl ?_
  obtain ⟨y1, hy1, h⟩ := zbind h
  refine t_Sc_codedWithMark_l15 _ _ _ hy1 ?_
  obtain rfl := Option.some.inj h
  exact zt_vret dX8_codedWithMark_55 rfl
set_option maxRecDepth 100000 in
set_option maxHeartbeats 4000000 in
theorem t_Sc_codedWithMark {a1 : Int} {s : zSt} {res : Int × zSt} (h : f_Sc_codedWithMark a1 s = some res) : zSpecT 7 m_X8_codedWithMark [.inr (.inl (some 0)), .inl a1] TSc s none res.2 := by
  refine zSpec_of (by decide +kernel) (Nat.le_of_ble_eq_true rfl) ?_
  show zBT 7 m_X8_codedWithMark TSc none res.2 0 [some (.inr (.inl (some 0))), some (.inl a1), none] [] s
  unfold f_Sc_codedWithMark at h
  refine zr_load ⟨_, dX8_codedWithMark_0, rfl⟩ rfl ?_
  refine zr_bipush dX8_codedWithMark_1 (by decide) (by decide) ?_
  refine zr_ic_eq (tgt := 13) dX8_codedWithMark_3 (by decide) (fun hc1 => ?_) (fun hc1 => ?_)
  · replace h := zpos h hc1
    exact t_Sc_codedWithMark_j13 h
  · replace h := zneg h hc1
    refine zr_load ⟨_, dX8_codedWithMark_6, rfl⟩ rfl ?_
    refine zr_bipush dX8_codedWithMark_7 (by decide) (by decide) ?_
    refine zr_ic_eq (tgt := 13) dX8_codedWithMark_9 (by decide) (fun hc2 => ?_) (fun hc2 => ?_)
    · replace h := zpos h hc2
      exact t_Sc_codedWithMark_j13 h
    · replace h := zneg h hc2
      obtain rfl := Option.some.inj h
      exact zt_vret dX8_codedWithMark_12 rfl
set_option maxRecDepth 100000 in
set_option maxHeartbeats 4000000 in
theorem t_Sc_receive {a1 : Int} {s : zSt} {res : Int × zSt} (h : f_Sc_receive a1 s = some res) : zSpecT 8 m_X8_receive [.inr (.inl (some 0)), .inl a1] TSc s none res.2 := by
  refine zSpec_of (by decide +kernel) (Nat.le_of_ble_eq_true rfl) ?_
  show zBT 8 m_X8_receive TSc none res.2 0 [some (.inr (.inl (some 0))), some (.inl a1)] [] s
  unfold f_Sc_receive at h
  refine zr_aload ⟨_, dX8_receive_0, rfl⟩ rfl ?_
  refine zt_getr dX8_receive_1 fl_X8_35 rfl rfl ?_
  refine zr_load ⟨_, dX8_receive_4, rfl⟩ rfl ?_
  obtain ⟨x1, hx1, h⟩ := zbind h
  refine zt_calli (t_Re_read hx1) (zrun_V (rest := []) dX8_receive_5 ml_X8_116 rfl rfl (by decide) (by decide) rfl (Nat.le_of_ble_eq_true rfl)) rfl rfl sb_TSc_TRe_14 (Nat.le_refl _) (Nat.le_refl _) ?_
  refine zr_tsw (l := [(1, 40), (2, 48), (3, 55), (4, 63), (5, 71), (6, 79)]) dX8_receive_8 (by decide +kernel) ?_
  refine zr_swc (tgt := 48) (by decide) (fun hc2 => ?_) (fun hc2 => ?_)
  · replace h := zpos h hc2
    refine zr_aload ⟨_, dX8_receive_48, rfl⟩ rfl ?_
    refine zr_load ⟨_, dX8_receive_49, rfl⟩ rfl ?_
    obtain ⟨x3, hx3, h⟩ := zbind h
    refine zt_calliv (t_Sc_drawSign hx3) (zrun_V (rest := []) dX8_receive_50 ml_X8_120 rfl rfl (by decide) (by decide) rfl (Nat.le_of_ble_eq_true rfl)) rfl rfl (Nat.le_refl _) (Nat.le_refl _) ?_
    refine zr_goto (tgt := 95) dX8_receive_53 (by decide) ?_
    obtain rfl := Option.some.inj h
    exact zt_vret dX8_receive_95 rfl
  replace h := zneg h hc2
  refine zr_swc (tgt := 56) (by decide) (fun hc4 => ?_) (fun hc4 => ?_)
  · replace h := zpos h hc4
    refine zr_aload ⟨_, dX8_receive_56, rfl⟩ rfl ?_
    obtain ⟨x5, hx5, h⟩ := zbind h
    refine zt_calliv (t_Sc_addMark hx5) (zrun_V (rest := []) dX8_receive_57 ml_X8_123 rfl rfl (by decide) (by decide) rfl (Nat.le_of_ble_eq_true rfl)) rfl rfl (Nat.le_refl _) (Nat.le_refl _) ?_
    refine zr_goto (tgt := 95) dX8_receive_60 (by decide) ?_
    obtain rfl := Option.some.inj h
    exact zt_vret dX8_receive_95 rfl
  replace h := zneg h hc4
  refine zr_swc (tgt := 63) (by decide) (fun hc6 => ?_) (fun hc6 => ?_)
  · replace h := zpos h hc6
    refine zr_aload ⟨_, dX8_receive_63, rfl⟩ rfl ?_
    refine zr_load ⟨_, dX8_receive_64, rfl⟩ rfl ?_
    obtain ⟨x7, hx7, h⟩ := zbind h
    refine zt_calliv (t_Sc_control hx7) (zrun_V (rest := []) dX8_receive_65 ml_X8_126 rfl rfl (by decide) (by decide) rfl (Nat.le_of_ble_eq_true rfl)) rfl rfl (Nat.le_refl _) (Nat.le_refl _) ?_
    refine zr_goto (tgt := 95) dX8_receive_68 (by decide) ?_
    obtain rfl := Option.some.inj h
    exact zt_vret dX8_receive_95 rfl
  replace h := zneg h hc6
  refine zr_swc (tgt := 71) (by decide) (fun hc8 => ?_) (fun hc8 => ?_)
  · replace h := zpos h hc8
    refine zr_aload ⟨_, dX8_receive_71, rfl⟩ rfl ?_
    refine zr_load ⟨_, dX8_receive_72, rfl⟩ rfl ?_
    obtain ⟨x9, hx9, h⟩ := zbind h
    refine zt_calliv (t_Sc_escaped hx9) (zrun_V (rest := []) dX8_receive_73 ml_X8_129 rfl rfl (by decide) (by decide) rfl (Nat.le_of_ble_eq_true rfl)) rfl rfl (Nat.le_refl _) (Nat.le_refl _) ?_
    refine zr_goto (tgt := 95) dX8_receive_76 (by decide) ?_
    obtain rfl := Option.some.inj h
    exact zt_vret dX8_receive_95 rfl
  replace h := zneg h hc8
  refine zr_swc (tgt := 79) (by decide) (fun hc10 => ?_) (fun hc10 => ?_)
  · replace h := zpos h hc10
    refine zr_aload ⟨_, dX8_receive_79, rfl⟩ rfl ?_
    refine zr_load ⟨_, dX8_receive_80, rfl⟩ rfl ?_
    obtain ⟨x11, hx11, h⟩ := zbind h
    refine zt_calliv (t_Sc_coded hx11) (zrun_V (rest := []) dX8_receive_81 ml_X8_132 rfl rfl (by decide) (by decide) rfl (Nat.le_of_ble_eq_true rfl)) rfl rfl (Nat.le_refl _) (Nat.le_refl _) ?_
    refine zr_goto (tgt := 95) dX8_receive_84 (by decide) ?_
    obtain rfl := Option.some.inj h
    exact zt_vret dX8_receive_95 rfl
  replace h := zneg h hc10
  refine zr_swc (tgt := 87) (by decide) (fun hc12 => ?_) (fun hc12 => ?_)
  · replace h := zpos h hc12
    refine zr_aload ⟨_, dX8_receive_87, rfl⟩ rfl ?_
    refine zr_load ⟨_, dX8_receive_88, rfl⟩ rfl ?_
    obtain ⟨x13, hx13, h⟩ := zbind h
    refine zt_calliv (t_Sc_codedWithMark hx13) (zrun_V (rest := []) dX8_receive_89 ml_X8_135 rfl rfl (by decide) (by decide) rfl (Nat.le_of_ble_eq_true rfl)) rfl rfl (Nat.le_refl _) (Nat.le_refl _) ?_
    refine zr_goto (tgt := 95) dX8_receive_92 (by decide) ?_
    obtain rfl := Option.some.inj h
    exact zt_vret dX8_receive_95 rfl
  replace h := zneg h hc12
  refine zr_swd (tgt := 95) (by decide) ?_
  obtain rfl := Option.some.inj h
  exact zt_vret dX8_receive_95 rfl
