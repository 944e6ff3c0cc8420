set_option maxRecDepth 100000 in
set_option maxHeartbeats 4000000 in
theorem t_Rf_past_j34 {v1 v2 k0 : Int} {s : zSt} {res : Int × zSt} (h : f_Rf_past_j34 v1 v2 k0 s = some res) : zBT 2 m_X12_past TRf (some (.inl res.1)) res.2 34 [some (.inr (.inl (some 0))), some (.inl v1), some (.inl v2)] [.inl k0, .inr (.inl (some 0))] s := by
  unfold f_Rf_past_j34 at h
  refine zt_put dX12_past_34 fl_X12_80 rfl rfl ?_
  refine zr_aload ⟨_, dX12_past_37, rfl⟩ rfl ?_
  refine zt_get dX12_past_38 fl_X12_80 rfl rfl ?_
  refine zr_if_le (tgt := 48) dX12_past_41 (by decide) (fun hc1 => ?_) (fun hc1 => ?_)
  · replace h := zpos h hc1
    refine zr_aload ⟨_, dX12_past_48, rfl⟩ rfl ?_
    refine zt_getr dX12_past_49 fl_X12_24 rfl rfl ?_
    refine zr_bipush dX12_past_52 (by decide) (by decide) ?_
    refine zr_load ⟨_, dX12_past_54, rfl⟩ rfl ?_
    refine zr_imul dX12_past_55 ?_
    refine zr_load ⟨_, dX12_past_56, rfl⟩ rfl ?_
    refine zr_iadd dX12_past_57 ?_
    obtain ⟨hb2, h⟩ := zchk h
    refine zt_iaload dX12_past_58 rfl hb2 ?_
    obtain rfl := Option.some.inj h
    exact zt_iret dX12_past_59 rfl
  · replace h := zneg h hc1
    refine zr_iconst dX12_past_44 (by decide) ?_
    refine zr_goto (tgt := 59) dX12_past_45 (by decide) ?_
    obtain rfl := Option.some.inj h
    exact zt_iret dX12_past_59 rfl
set_option maxRecDepth 100000 in
set_option maxHeartbeats 4000000 in
theorem t_Rf_past_j33 {v1 v2 : Int} {s : zSt} {res : Int × zSt} (h : f_Rf_past_j33 v1 v2 s = some res) : zBT 2 m_X12_past TRf (some (.inl res.1)) res.2 33 [some (.inr (.inl (some 0))), some (.inl v1), some (.inl v2)] [.inr (.inl (some 0))] s := by
  unfold f_Rf_past_j33 at h
  refine zr_iconst dX12_past_33 (by decide) ?_
  exact t_Rf_past_j34 h
set_option maxRecDepth 100000 in
set_option maxHeartbeats 4000000 in
theorem t_Rf_past {a1 a2 : Int} {s : zSt} {res : Int × zSt} (h : f_Rf_past a1 a2 s = some res) : zSpecT 2 m_X12_past [.inr (.inl (some 0)), .inl a1, .inl a2] TRf s (some (.inl res.1)) res.2 := by
  refine zSpec_of (by decide +kernel) (Nat.le_of_ble_eq_true rfl) ?_
  show zBT 2 m_X12_past TRf (some (.inl res.1)) res.2 0 [some (.inr (.inl (some 0))), some (.inl a1), some (.inl a2)] [] s
  unfold f_Rf_past at h
  refine zr_aload ⟨_, dX12_past_0, rfl⟩ rfl ?_
  refine zr_load ⟨_, dX12_past_1, rfl⟩ rfl ?_
  refine zr_iconst dX12_past_2 (by decide) ?_
  refine zr_aload ⟨_, dX12_past_3, rfl⟩ rfl ?_
  refine zt_get dX12_past_4 fl_X12_98 rfl rfl ?_
  refine zr_iconst dX12_past_7 (by decide) ?_
  refine zr_isub dX12_past_8 ?_
  obtain ⟨x1, hx1, h⟩ := zbind h
  refine zt_call0 (t_Rf_in hx1) (zrun_S (rest := [.inr (.inl (some 0))]) dX12_past_9 ml_X12_83 rfl (by decide) (by decide) rfl (Nat.le_of_ble_eq_true rfl)) rfl rfl (Nat.le_refl _) (Nat.le_refl _) ?_
  refine zr_if_eq (tgt := 33) dX12_past_12 (by decide) (fun hc2 => ?_) (fun hc2 => ?_)
  · replace h := zpos h hc2
    exact t_Rf_past_j33 h
  · replace h := zneg h hc2
    refine zr_load ⟨_, dX12_past_15, rfl⟩ rfl ?_
    refine zr_iconst dX12_past_16 (by decide) ?_
    refine zr_aload ⟨_, dX12_past_17, rfl⟩ rfl ?_
    refine zt_get dX12_past_18 fl_X12_13 rfl rfl ?_
    refine zr_iconst dX12_past_21 (by decide) ?_
    refine zr_isub dX12_past_22 ?_
    obtain ⟨x3, hx3, h⟩ := zbind h
    refine zt_call0 (t_Rf_in hx3) (zrun_S (rest := [.inr (.inl (some 0))]) dX12_past_23 ml_X12_83 rfl (by decide) (by decide) rfl (Nat.le_of_ble_eq_true rfl)) rfl rfl (Nat.le_refl _) (Nat.le_refl _) ?_
    have hj4 : zBT 2 m_X12_past TRf (some (.inl res.1)) res.2 34 [some (.inr (.inl (some 0))), some (.inl a1), some (.inl a2)] [.inl (if x3 = 0 then 1 else 0), .inr (.inl (some 0))] s := by
      refine zt_put dX12_past_34 fl_X12_80 rfl rfl ?_
      refine zr_aload ⟨_, dX12_past_37, rfl⟩ rfl ?_
      refine zt_get dX12_past_38 fl_X12_80 rfl rfl ?_
      refine zr_if_le (tgt := 48) dX12_past_41 (by decide) (fun hc6 => ?_) (fun hc6 => ?_)
      · replace h := zpos h hc6
        refine zr_aload ⟨_, dX12_past_48, rfl⟩ rfl ?_
        refine zt_getr dX12_past_49 fl_X12_24 rfl rfl ?_
        refine zr_bipush dX12_past_52 (by decide) (by decide) ?_
        refine zr_load ⟨_, dX12_past_54, rfl⟩ rfl ?_
        refine zr_imul dX12_past_55 ?_
        refine zr_load ⟨_, dX12_past_56, rfl⟩ rfl ?_
        refine zr_iadd dX12_past_57 ?_
        obtain ⟨hb7, h⟩ := zchk h
        refine zt_iaload dX12_past_58 rfl hb7 ?_
        obtain rfl := Option.some.inj h
        exact zt_iret dX12_past_59 rfl
      · replace h := zneg h hc6
        refine zr_iconst dX12_past_44 (by decide) ?_
        refine zr_goto (tgt := 59) dX12_past_45 (by decide) ?_
        obtain rfl := Option.some.inj h
        exact zt_iret dX12_past_59 rfl
    refine zr_if_eq (tgt := 33) dX12_past_26 (by decide) (fun hc5 => ?_) (fun hc5 => ?_)
    · have hp8 := zif_t hj4 hc5
      refine zr_iconst dX12_past_33 (by decide) ?_
      exact hp8
    · have hp9 := zif_f hj4 hc5
      refine zr_iconst dX12_past_29 (by decide) ?_
      refine zr_goto (tgt := 34) dX12_past_30 (by decide) ?_
      exact hp9
set_option maxRecDepth 100000 in
set_option maxHeartbeats 4000000 in
theorem t_Rf_goesOn {a1 : Int} {s : zSt} {res : Int × zSt} (h : f_Rf_goesOn a1 s = some res) : zSpecT 2 m_X12_goesOn [.inr (.inl (some 0)), .inl a1] TRf s (some (.inl res.1)) res.2 := by
  refine zSpec_of (by decide +kernel) (Nat.le_of_ble_eq_true rfl) ?_
  show zBT 2 m_X12_goesOn TRf (some (.inl res.1)) res.2 0 [some (.inr (.inl (some 0))), some (.inl a1)] [] s
  unfold f_Rf_goesOn at h
  refine zr_aload ⟨_, dX12_goesOn_0, rfl⟩ rfl ?_
  refine zr_load ⟨_, dX12_goesOn_1, rfl⟩ rfl ?_
  refine zr_aload ⟨_, dX12_goesOn_2, rfl⟩ rfl ?_
  refine zt_get dX12_goesOn_3 fl_X12_98 rfl rfl ?_
  refine zr_ineg dX12_goesOn_6 ?_
  refine zr_aload ⟨_, dX12_goesOn_7, rfl⟩ rfl ?_
  refine zt_get dX12_goesOn_8 fl_X12_7 rfl rfl ?_
  refine zr_iconst dX12_goesOn_11 (by decide) ?_
  refine zr_isub dX12_goesOn_12 ?_
  obtain ⟨x1, hx1, h⟩ := zbind h
  refine zt_call0 (t_Rf_in hx1) (zrun_S (rest := [.inr (.inl (some 0))]) dX12_goesOn_13 ml_X12_83 rfl (by decide) (by decide) rfl (Nat.le_of_ble_eq_true rfl)) rfl rfl (Nat.le_refl _) (Nat.le_refl _) ?_
  have hj2 : zBT 2 m_X12_goesOn TRf (some (.inl res.1)) res.2 24 [some (.inr (.inl (some 0))), some (.inl a1)] [.inl (if x1 = 0 then 1 else 0), .inr (.inl (some 0))] s := by
    refine zt_put dX12_goesOn_24 fl_X12_80 rfl rfl ?_
    refine zr_aload ⟨_, dX12_goesOn_27, rfl⟩ rfl ?_
    refine zt_get dX12_goesOn_28 fl_X12_80 rfl rfl ?_
    refine zr_if_ne (tgt := 76) dX12_goesOn_31 (by decide) (fun hc4 => ?_) (fun hc4 => ?_)
    · replace h := zpos h hc4
      refine zr_iconst dX12_goesOn_76 (by decide) ?_
      obtain rfl := Option.some.inj h
      exact zt_zret dX12_goesOn_77 rfl (Or.inl rfl)
    · replace h := zneg h hc4
      refine zr_load ⟨_, dX12_goesOn_34, rfl⟩ rfl ?_
      refine zr_if_ge (tgt := 55) dX12_goesOn_35 (by decide) (fun hc5 => ?_) (fun hc5 => ?_)
      · replace h := zpos h hc5
        refine zr_aload ⟨_, dX12_goesOn_55, rfl⟩ rfl ?_
        refine zt_getr dX12_goesOn_56 fl_X12_20 rfl rfl ?_
        refine zr_bipush dX12_goesOn_59 (by decide) (by decide) ?_
        refine zr_aload ⟨_, dX12_goesOn_61, rfl⟩ rfl ?_
        refine zt_get dX12_goesOn_62 fl_X12_87 rfl rfl ?_
        refine zr_imul dX12_goesOn_65 ?_
        refine zr_load ⟨_, dX12_goesOn_66, rfl⟩ rfl ?_
        refine zr_iadd dX12_goesOn_67 ?_
        obtain ⟨hb6, h⟩ := zchk h
        refine zt_baload dX12_goesOn_68 rfl hb6 ?_
        have hj7 : zBT 2 m_X12_goesOn TRf (some (.inl res.1)) res.2 77 [some (.inr (.inl (some 0))), some (.inl a1)] [.inl (if ((s.2 2) (w32 ((w32 (12 * (s.1 0 8))) + a1))) = 0 then 0 else 1)] (uS s 0 0 (if x1 = 0 then 1 else 0)) := by
          obtain rfl := Option.some.inj h
          exact zt_zret dX12_goesOn_77 rfl (z01i (Or.inl rfl) (Or.inr rfl))
        refine zr_if_eq (tgt := 76) dX12_goesOn_69 (by decide) (fun hc8 => ?_) (fun hc8 => ?_)
        · have hp9 := zif_t hj7 hc8
          refine zr_iconst dX12_goesOn_76 (by decide) ?_
          exact hp9
        · have hp10 := zif_f hj7 hc8
          refine zr_iconst dX12_goesOn_72 (by decide) ?_
          refine zr_goto (tgt := 77) dX12_goesOn_73 (by decide) ?_
          exact hp10
      · replace h := zneg h hc5
        refine zr_aload ⟨_, dX12_goesOn_38, rfl⟩ rfl ?_
        refine zt_getr dX12_goesOn_39 fl_X12_27 rfl rfl ?_
        refine zr_aload ⟨_, dX12_goesOn_42, rfl⟩ rfl ?_
        refine zt_get dX12_goesOn_43 fl_X12_98 rfl rfl ?_
        refine zr_load ⟨_, dX12_goesOn_46, rfl⟩ rfl ?_
        refine zr_iadd dX12_goesOn_47 ?_
        obtain ⟨hb11, h⟩ := zchk h
        refine zt_baload dX12_goesOn_48 rfl hb11 ?_
        have hj12 : zBT 2 m_X12_goesOn TRf (some (.inl res.1)) res.2 77 [some (.inr (.inl (some 0))), some (.inl a1)] [.inl (if ((s.2 4) (w32 ((s.1 0 7) + a1))) = 0 then 0 else 1)] (uS s 0 0 (if x1 = 0 then 1 else 0)) := by
          obtain rfl := Option.some.inj h
          exact zt_zret dX12_goesOn_77 rfl (z01i (Or.inl rfl) (Or.inr rfl))
        refine zr_if_eq (tgt := 76) dX12_goesOn_49 (by decide) (fun hc13 => ?_) (fun hc13 => ?_)
        · have hp14 := zif_t hj12 hc13
          refine zr_iconst dX12_goesOn_76 (by decide) ?_
          exact hp14
        · have hp15 := zif_f hj12 hc13
          refine zr_goto (tgt := 72) dX12_goesOn_52 (by decide) ?_
          refine zr_iconst dX12_goesOn_72 (by decide) ?_
          refine zr_goto (tgt := 77) dX12_goesOn_73 (by decide) ?_
          exact hp15
  refine zr_if_eq (tgt := 23) dX12_goesOn_16 (by decide) (fun hc3 => ?_) (fun hc3 => ?_)
  · have hp16 := zif_t hj2 hc3
    refine zr_iconst dX12_goesOn_23 (by decide) ?_
    exact hp16
  · have hp17 := zif_f hj2 hc3
    refine zr_iconst dX12_goesOn_19 (by decide) ?_
    refine zr_goto (tgt := 24) dX12_goesOn_20 (by decide) ?_
    exact hp17
set_option maxRecDepth 100000 in
set_option maxHeartbeats 4000000 in
theorem t_Rf_title {a1 : Int} {s : zSt} {res : Int × zSt} (h : f_Rf_title a1 s = some res) : zSpecT 2 m_X12_title [.inr (.inl (some 0)), .inl a1] TRf s (some (.inl res.1)) res.2 := by
  refine zSpec_of (by decide +kernel) (Nat.le_of_ble_eq_true rfl) ?_
  show zBT 2 m_X12_title TRf (some (.inl res.1)) res.2 0 [some (.inr (.inl (some 0))), some (.inl a1)] [] s
  unfold f_Rf_title at h
  refine zr_aload ⟨_, dX12_title_0, rfl⟩ rfl ?_
  refine zr_load ⟨_, dX12_title_1, rfl⟩ rfl ?_
  refine zr_iconst dX12_title_2 (by decide) ?_
  refine zr_aload ⟨_, dX12_title_3, rfl⟩ rfl ?_
  refine zt_get dX12_title_4 fl_X12_229 rfl rfl ?_
  refine zr_iconst dX12_title_7 (by decide) ?_
  refine zr_isub dX12_title_8 ?_
  obtain ⟨x1, hx1, h⟩ := zbind h
  refine zt_call0 (t_Rf_in hx1) (zrun_S (rest := [.inr (.inl (some 0))]) dX12_title_9 ml_X12_83 rfl (by decide) (by decide) rfl (Nat.le_of_ble_eq_true rfl)) rfl rfl (Nat.le_refl _) (Nat.le_refl _) ?_
  have hj2 : zBT 2 m_X12_title TRf (some (.inl res.1)) res.2 20 [some (.inr (.inl (some 0))), some (.inl a1)] [.inl (if x1 = 0 then 1 else 0), .inr (.inl (some 0))] s := by
    refine zt_put dX12_title_20 fl_X12_80 rfl rfl ?_
    refine zr_aload ⟨_, dX12_title_23, rfl⟩ rfl ?_
    refine zt_get dX12_title_24 fl_X12_80 rfl rfl ?_
    refine zr_if_le (tgt := 34) dX12_title_27 (by decide) (fun hc4 => ?_) (fun hc4 => ?_)
    · replace h := zpos h hc4
      refine zr_aload ⟨_, dX12_title_34, rfl⟩ rfl ?_
      refine zt_getr dX12_title_35 fl_X12_46 rfl rfl ?_
      refine zr_load ⟨_, dX12_title_38, rfl⟩ rfl ?_
      obtain ⟨hb5, h⟩ := zchk h
      refine zt_iaload dX12_title_39 rfl hb5 ?_
      obtain rfl := Option.some.inj h
      exact zt_iret dX12_title_40 rfl
    · replace h := zneg h hc4
      refine zr_iconst dX12_title_30 (by decide) ?_
      refine zr_goto (tgt := 40) dX12_title_31 (by decide) ?_
      obtain rfl := Option.some.inj h
      exact zt_iret dX12_title_40 rfl
  refine zr_if_eq (tgt := 19) dX12_title_12 (by decide) (fun hc3 => ?_) (fun hc3 => ?_)
  · have hp6 := zif_t hj2 hc3
    refine zr_iconst dX12_title_19 (by decide) ?_
    exact hp6
  · have hp7 := zif_f hj2 hc3
    refine zr_iconst dX12_title_15 (by decide) ?_
    refine zr_goto (tgt := 20) dX12_title_16 (by decide) ?_
    exact hp7
set_option maxRecDepth 100000 in
set_option maxHeartbeats 4000000 in
theorem t_Rf_toldMore {a1 : Int} {s : zSt} {res : Int × zSt} (h : f_Rf_toldMore a1 s = some res) : zSpecT 2 m_X12_toldMore [.inr (.inl (some 0)), .inl a1] TRf s (some (.inl res.1)) res.2 := by
  refine zSpec_of (by decide +kernel) (Nat.le_of_ble_eq_true rfl) ?_
  show zBT 2 m_X12_toldMore TRf (some (.inl res.1)) res.2 0 [some (.inr (.inl (some 0))), some (.inl a1)] [] s
  unfold f_Rf_toldMore at h
  refine zr_load ⟨_, dX12_toldMore_0, rfl⟩ rfl ?_
  refine zr_tsw (l := [(10, 59), (11, 64), (12, 69), (13, 82), (14, 87), (15, 92), (16, 97), (17, 102), (18, 107), (19, 120), (20, 125)]) dX12_toldMore_1 (by decide +kernel) ?_
  refine zr_swc (tgt := 60) (by decide) (fun hc1 => ?_) (fun hc1 => ?_)
  · replace h := zpos h hc1
    refine zr_aload ⟨_, dX12_toldMore_60, rfl⟩ rfl ?_
    refine zt_get dX12_toldMore_61 fl_X12_185 rfl rfl ?_
    obtain rfl := Option.some.inj h
    exact zt_iret dX12_toldMore_64 rfl
  replace h := zneg h hc1
  refine zr_swc (tgt := 65) (by decide) (fun hc2 => ?_) (fun hc2 => ?_)
  · replace h := zpos h hc2
    refine zr_aload ⟨_, dX12_toldMore_65, rfl⟩ rfl ?_
    refine zt_get dX12_toldMore_66 fl_X12_87 rfl rfl ?_
    obtain rfl := Option.some.inj h
    exact zt_iret dX12_toldMore_69 rfl
  replace h := zneg h hc2
  refine zr_swc (tgt := 70) (by decide) (fun hc3 => ?_) (fun hc3 => ?_)
  · replace h := zpos h hc3
    refine zr_aload ⟨_, dX12_toldMore_70, rfl⟩ rfl ?_
    refine zt_get dX12_toldMore_71 fl_X12_293 rfl rfl ?_
    have hj4 : zBT 2 m_X12_toldMore TRf (some (.inl res.1)) res.2 82 [some (.inr (.inl (some 0))), some (.inl a1)] [.inl (if (s.1 0 42) = 0 then 0 else 1)] s := by
      obtain rfl := Option.some.inj h
      exact zt_iret dX12_toldMore_82 rfl
    refine zr_if_eq (tgt := 81) dX12_toldMore_74 (by decide) (fun hc5 => ?_) (fun hc5 => ?_)
    · have hp6 := zif_t hj4 hc5
      refine zr_iconst dX12_toldMore_81 (by decide) ?_
      exact hp6
    · have hp7 := zif_f hj4 hc5
      refine zr_iconst dX12_toldMore_77 (by decide) ?_
      refine zr_goto (tgt := 82) dX12_toldMore_78 (by decide) ?_
      exact hp7
  replace h := zneg h hc3
  refine zr_swc (tgt := 83) (by decide) (fun hc8 => ?_) (fun hc8 => ?_)
  · replace h := zpos h hc8
    refine zr_aload ⟨_, dX12_toldMore_83, rfl⟩ rfl ?_
    refine zt_get dX12_toldMore_84 fl_X12_299 rfl rfl ?_
    obtain rfl := Option.some.inj h
    exact zt_iret dX12_toldMore_87 rfl
  replace h := zneg h hc8
  refine zr_swc (tgt := 88) (by decide) (fun hc9 => ?_) (fun hc9 => ?_)
  · replace h := zpos h hc9
    refine zr_aload ⟨_, dX12_toldMore_88, rfl⟩ rfl ?_
    refine zt_get dX12_toldMore_89 fl_X12_312 rfl rfl ?_
    obtain rfl := Option.some.inj h
    exact zt_iret dX12_toldMore_92 rfl
  replace h := zneg h hc9
  refine zr_swc (tgt := 93) (by decide) (fun hc10 => ?_) (fun hc10 => ?_)
  · replace h := zpos h hc10
    refine zr_aload ⟨_, dX12_toldMore_93, rfl⟩ rfl ?_
    refine zt_get dX12_toldMore_94 fl_X12_262 rfl rfl ?_
    obtain rfl := Option.some.inj h
    exact zt_iret dX12_toldMore_97 rfl
  replace h := zneg h hc10
  refine zr_swc (tgt := 98) (by decide) (fun hc11 => ?_) (fun hc11 => ?_)
  · replace h := zpos h hc11
    refine zr_aload ⟨_, dX12_toldMore_98, rfl⟩ rfl ?_
    refine zt_get dX12_toldMore_99 fl_X12_324 rfl rfl ?_
    obtain rfl := Option.some.inj h
    exact zt_iret dX12_toldMore_102 rfl
  replace h := zneg h hc11
  refine zr_swc (tgt := 103) (by decide) (fun hc12 => ?_) (fun hc12 => ?_)
  · replace h := zpos h hc12
    refine zr_aload ⟨_, dX12_toldMore_103, rfl⟩ rfl ?_
    refine zt_get dX12_toldMore_104 fl_X12_327 rfl rfl ?_
    obtain rfl := Option.some.inj h
    exact zt_iret dX12_toldMore_107 rfl
  replace h := zneg h hc12
  refine zr_swc (tgt := 108) (by decide) (fun hc13 => ?_) (fun hc13 => ?_)
  · replace h := zpos h hc13
    refine zr_aload ⟨_, dX12_toldMore_108, rfl⟩ rfl ?_
    refine zt_get dX12_toldMore_109 fl_X12_37 rfl rfl ?_
    have hj14 : zBT 2 m_X12_toldMore TRf (some (.inl res.1)) res.2 120 [some (.inr (.inl (some 0))), some (.inl a1)] [.inl (if (s.1 0 19) = 0 then 0 else 1)] s := by
      obtain rfl := Option.some.inj h
      exact zt_iret dX12_toldMore_120 rfl
    refine zr_if_eq (tgt := 119) dX12_toldMore_112 (by decide) (fun hc15 => ?_) (fun hc15 => ?_)
    · have hp16 := zif_t hj14 hc15
      refine zr_iconst dX12_toldMore_119 (by decide) ?_
      exact hp16
    · have hp17 := zif_f hj14 hc15
      refine zr_iconst dX12_toldMore_115 (by decide) ?_
      refine zr_goto (tgt := 120) dX12_toldMore_116 (by decide) ?_
      exact hp17
  replace h := zneg h hc13
  refine zr_swc (tgt := 121) (by decide) (fun hc18 => ?_) (fun hc18 => ?_)
  · replace h := zpos h hc18
    refine zr_aload ⟨_, dX12_toldMore_121, rfl⟩ rfl ?_
    refine zt_get dX12_toldMore_122 fl_X12_229 rfl rfl ?_
    obtain rfl := Option.some.inj h
    exact zt_iret dX12_toldMore_125 rfl
  replace h := zneg h hc18
  refine zr_swc (tgt := 126) (by decide) (fun hc19 => ?_) (fun hc19 => ?_)
  · replace h := zpos h hc19
    refine zr_aload ⟨_, dX12_toldMore_126, rfl⟩ rfl ?_
    obtain ⟨x20, hx20, h⟩ := zbind h
    refine zt_callisi (t_Rf_nextTab hx20) (zrun_V (rest := []) dX12_toldMore_127 ml_X12_188 rfl rfl (by decide) (by decide) rfl (Nat.le_of_ble_eq_true rfl)) rfl rfl (Nat.le_refl _) (Nat.le_refl _) ?_
    obtain rfl := Option.some.inj h
    exact zt_iret dX12_toldMore_130 rfl
  replace h := zneg h hc19
  refine zr_swd (tgt := 131) (by decide) ?_
  refine zr_aload ⟨_, dX12_toldMore_131, rfl⟩ rfl ?_
  refine zr_iconst dX12_toldMore_132 (by decide) ?_
  refine zt_put dX12_toldMore_133 fl_X12_80 rfl rfl ?_
  refine zr_iconst dX12_toldMore_136 (by decide) ?_
  obtain rfl := Option.some.inj h
  exact zt_iret dX12_toldMore_137 rfl
set_option maxRecDepth 100000 in
set_option maxHeartbeats 4000000 in
theorem t_Rf_erases_l15 {c1 c3 : Int} {r : Option zAV} {s0 : zSt}  : ∀ (n : Nat) (x : Int × zSt) (out : zSt), zloop (f_Rf_erases_l15 c1 c3) n x = some out → (zBT 3 m_X12_erases TRf r s0 40 [none, none, none, none, none] [] out) → zBT 3 m_X12_erases TRf r s0 15 [some (.inr (.inl (some 0))), some (.inl c1), none, some (.inl c3), some (.inl x.1)] [] x.2 := by
  refine zloop_B (B := fun (x : Int × zSt) (out : zSt) => zBT 3 m_X12_erases TRf r s0 40 [none, none, none, none, none] [] out → zBT 3 m_X12_erases TRf r s0 15 [some (.inr (.inl (some 0))), some (.inl c1), none, some (.inl c3), some (.inl x.1)] [] x.2) ?_
  intro x o out h hk hx
  unfold f_Rf_erases_l15 at h
  refine zr_loadw dX12_erases_15 rfl ?_
  refine zr_load ⟨_, dX12_erases_17, rfl⟩ rfl ?_
  refine zr_ic_ge (tgt := 40) dX12_erases_18 (by decide) (fun hc1 => ?_) (fun hc1 => ?_)
  · replace h := zpos h hc1
    refine zr_mask [false, false, false, false, false] rfl ?_
    obtain rfl := Option.some.inj h
    obtain rfl := hk
    exact hx
  · replace h := zneg h hc1
    refine zr_aload ⟨_, dX12_erases_21, rfl⟩ rfl ?_
    refine zt_getr dX12_erases_22 fl_X12_16 rfl rfl ?_
    refine zr_aload ⟨_, dX12_erases_25, rfl⟩ rfl ?_
    refine zr_load ⟨_, dX12_erases_26, rfl⟩ rfl ?_
    refine zr_loadw dX12_erases_27 rfl ?_
    obtain ⟨x2, hx2, h⟩ := zbind h
    refine zt_callisi (t_Rf_at hx2) (zrun_V (rest := [.inr (.inl (some 1))]) dX12_erases_29 ml_X12_90 rfl rfl (by decide) (by decide) rfl (Nat.le_of_ble_eq_true rfl)) rfl rfl (Nat.le_refl _) (Nat.le_refl _) ?_
    refine zr_iconst dX12_erases_32 (by decide) ?_
    obtain ⟨hb3, h⟩ := zchk h
    refine zt_iastore dX12_erases_33 rfl hb3 ?_
    refine zr_iinc dX12_erases_34 rfl (by decide) rfl ?_
    refine zr_goto (tgt := 15) dX12_erases_37 (by decide) ?_
    obtain rfl := Option.some.inj h
    exact hk hx
set_option maxRecDepth 100000 in
set_option maxHeartbeats 4000000 in
theorem t_Rf_erases {a1 a2 a3 : Int} {s : zSt} {res : Int × zSt} (h : f_Rf_erases a1 a2 a3 s = some res) : zSpecT 3 m_X12_erases [.inr (.inl (some 0)), .inl a1, .inl a2, .inl a3] TRf s none res.2 := by
  refine zSpec_of (by decide +kernel) (Nat.le_of_ble_eq_true rfl) ?_
  show zBT 3 m_X12_erases TRf none res.2 0 [some (.inr (.inl (some 0))), some (.inl a1), some (.inl a2), some (.inl a3), none] [] s
  unfold f_Rf_erases at h
  refine zr_aload ⟨_, dX12_erases_0, rfl⟩ rfl ?_
  refine zr_load ⟨_, dX12_erases_1, rfl⟩ rfl ?_
  refine zr_load ⟨_, dX12_erases_2, rfl⟩ rfl ?_
  obtain ⟨x1, hx1, h⟩ := zbind h
  refine zt_calliv (t_Rf_parts hx1) (zrun_V (rest := []) dX12_erases_3 ml_X12_94 rfl rfl (by decide) (by decide) rfl (Nat.le_of_ble_eq_true rfl)) rfl rfl (Nat.le_refl _) (Nat.le_refl _) ?_
  refine zr_aload ⟨_, dX12_erases_6, rfl⟩ rfl ?_
  refine zr_load ⟨_, dX12_erases_7, rfl⟩ rfl ?_
  refine zr_load ⟨_, dX12_erases_8, rfl⟩ rfl ?_
  obtain ⟨x2, hx2, h⟩ := zbind h
  refine zt_calliv (t_Rf_parts hx2) (zrun_V (rest := []) dX12_erases_9 ml_X12_94 rfl rfl (by decide) (by decide) rfl (Nat.le_of_ble_eq_true rfl)) rfl rfl (Nat.le_refl _) (Nat.le_refl _) ?_
  refine zr_load ⟨_, dX12_erases_12, rfl⟩ rfl ?_
  refine zr_storew dX12_erases_13 (by decide) rfl ?_
  refine zr_mask [true, true, false, true, true] rfl ?_
  obtain ⟨y3, hy3, h⟩ := zbind h
  refine t_Rf_erases_l15 _ _ _ hy3 ?_
  obtain rfl := Option.some.inj h
  exact zt_vret dX12_erases_40 rfl
set_option maxRecDepth 100000 in
set_option maxHeartbeats 4000000 in
theorem t_Rf_movesRight_l59 {c1 c2 c4 : Int} {r : Option zAV} {s0 : zSt}  : ∀ (n : Nat) (x : Int × zSt) (out : zSt), zloop (f_Rf_movesRight_l59 c1 c2 c4) n x = some out → (zBT 3 m_X12_movesRight TRf r s0 111 [none, none, none, none, none, none] [] out) → zBT 3 m_X12_movesRight TRf r s0 59 [some (.inr (.inl (some 0))), some (.inl c1), some (.inl c2), none, some (.inl c4), some (.inl x.1)] [] x.2 := by
  refine zloop_B (B := fun (x : Int × zSt) (out : zSt) => zBT 3 m_X12_movesRight TRf r s0 111 [none, none, none, none, none, none] [] out → zBT 3 m_X12_movesRight TRf r s0 59 [some (.inr (.inl (some 0))), some (.inl c1), some (.inl c2), none, some (.inl c4), some (.inl x.1)] [] x.2) ?_
  intro x o out h hk hx
  unfold f_Rf_movesRight_l59 at h
  refine zr_loadw dX12_movesRight_59 rfl ?_
  refine zr_load ⟨_, dX12_movesRight_61, rfl⟩ rfl ?_
  refine zr_ic_lt (tgt := 111) dX12_movesRight_62 (by decide) (fun hc1 => ?_) (fun hc1 => ?_)
  · replace h := zpos h hc1
    refine zr_mask [false, false, false, false, false, false] rfl ?_
    obtain rfl := Option.some.inj h
    obtain rfl := hk
    exact hx
  · replace h := zneg h hc1
    refine zr_aload ⟨_, dX12_movesRight_65, rfl⟩ rfl ?_
    refine zt_getr dX12_movesRight_66 fl_X12_16 rfl rfl ?_
    refine zr_aload ⟨_, dX12_movesRight_69, rfl⟩ rfl ?_
    refine zr_load ⟨_, dX12_movesRight_70, rfl⟩ rfl ?_
    refine zr_loadw dX12_movesRight_71 rfl ?_
    obtain ⟨x2, hx2, h⟩ := zbind h
    refine zt_callisi (t_Rf_at hx2) (zrun_V (rest := [.inr (.inl (some 1))]) dX12_movesRight_73 ml_X12_90 rfl rfl (by decide) (by decide) rfl (Nat.le_of_ble_eq_true rfl)) rfl rfl (Nat.le_refl _) (Nat.le_refl _) ?_
    refine zr_loadw dX12_movesRight_76 rfl ?_
    refine zr_loadw dX12_movesRight_78 rfl ?_
    refine zr_isub dX12_movesRight_80 ?_
    refine zr_load ⟨_, dX12_movesRight_81, rfl⟩ rfl ?_
    refine zr_ic_lt (tgt := 103) dX12_movesRight_82 (by decide) (fun hc3 => ?_) (fun hc3 => ?_)
    · replace h := zpos h hc3
      refine zr_iconst dX12_movesRight_103 (by decide) ?_
      obtain ⟨hb4, h⟩ := zchk h
      refine zt_iastore dX12_movesRight_104 rfl hb4 ?_
      refine zr_iinc dX12_movesRight_105 rfl (by decide) rfl ?_
      refine zr_goto (tgt := 59) dX12_movesRight_108 (by decide) ?_
      obtain rfl := Option.some.inj h
      exact hk hx
    · replace h := zneg h hc3
      refine zr_aload ⟨_, dX12_movesRight_85, rfl⟩ rfl ?_
      refine zt_getr dX12_movesRight_86 fl_X12_16 rfl rfl ?_
      refine zr_aload ⟨_, dX12_movesRight_89, rfl⟩ rfl ?_
      refine zr_load ⟨_, dX12_movesRight_90, rfl⟩ rfl ?_
      refine zr_loadw dX12_movesRight_91 rfl ?_
      refine zr_loadw dX12_movesRight_93 rfl ?_
      refine zr_isub dX12_movesRight_95 ?_
      obtain ⟨x5, hx5, h⟩ := zbind h
      refine zt_callisi (t_Rf_at hx5) (zrun_V (rest := [.inr (.inl (some 1)), .inl x2, .inr (.inl (some 1))]) dX12_movesRight_96 ml_X12_90 rfl rfl (by decide) (by decide) rfl (Nat.le_of_ble_eq_true rfl)) rfl rfl (Nat.le_refl _) (Nat.le_refl _) ?_
      obtain ⟨hb6, h⟩ := zchk h
      refine zt_iaload dX12_movesRight_99 rfl hb6 ?_
      refine zr_goto (tgt := 104) dX12_movesRight_100 (by decide) ?_
      obtain ⟨hb7, h⟩ := zchk h
      refine zt_iastore dX12_movesRight_104 rfl hb7 ?_
      refine zr_iinc dX12_movesRight_105 rfl (by decide) rfl ?_
      refine zr_goto (tgt := 59) dX12_movesRight_108 (by decide) ?_
      obtain rfl := Option.some.inj h
      exact hk hx
set_option maxRecDepth 100000 in
set_option maxHeartbeats 4000000 in
theorem t_Rf_movesRight_j51 {v1 v2 v4 : Int} {s : zSt} {res : Int × zSt} (h : f_Rf_movesRight_j51 v1 v2 v4 s = some res) : zBT 3 m_X12_movesRight TRf none res.2 51 [some (.inr (.inl (some 0))), some (.inl v1), some (.inl v2), none, some (.inl v4), none] [] s := by
  unfold f_Rf_movesRight_j51 at h
  refine zr_aload ⟨_, dX12_movesRight_51, rfl⟩ rfl ?_
  refine zt_get dX12_movesRight_52 fl_X12_13 rfl rfl ?_
  refine zr_iconst dX12_movesRight_55 (by decide) ?_
  refine zr_isub dX12_movesRight_56 ?_
  refine zr_storew dX12_movesRight_57 (by decide) rfl ?_
  obtain ⟨y1, hy1, h⟩ := zbind h
  refine t_Rf_movesRight_l59 _ _ _ hy1 ?_
  obtain rfl := Option.some.inj h
  exact zt_vret dX12_movesRight_111 rfl
set_option maxRecDepth 100000 in
set_option maxHeartbeats 4000000 in
theorem t_Rf_movesRight {a1 a2 a3 : Int} {s : zSt} {res : Int × zSt} (h : f_Rf_movesRight a1 a2 a3 s = some res) : zSpecT 3 m_X12_movesRight [.inr (.inl (some 0)), .inl a1, .inl a2, .inl a3] TRf s none res.2 := by
  refine zSpec_of (by decide +kernel) (Nat.le_of_ble_eq_true rfl) ?_
  show zBT 3 m_X12_movesRight TRf none res.2 0 [some (.inr (.inl (some 0))), some (.inl a1), some (.inl a2), some (.inl a3), none, none] [] s
  unfold f_Rf_movesRight at h
  refine zr_load ⟨_, dX12_movesRight_0, rfl⟩ rfl ?_
  refine zr_aload ⟨_, dX12_movesRight_1, rfl⟩ rfl ?_
  refine zt_get dX12_movesRight_2 fl_X12_13 rfl rfl ?_
  refine zr_load ⟨_, dX12_movesRight_5, rfl⟩ rfl ?_
  refine zr_isub dX12_movesRight_6 ?_
  have hj1 : zBT 3 m_X12_movesRight TRf none res.2 20 [some (.inr (.inl (some 0))), some (.inl a1), some (.inl a2), some (.inl a3), none, none] [.inl (if (w32 ((s.1 0 2) - a2)) ≤ a3 then (w32 ((s.1 0 2) - a2)) else a3)] s := by
    refine zr_storew dX12_movesRight_20 (by decide) rfl ?_
    refine zr_aload ⟨_, dX12_movesRight_22, rfl⟩ rfl ?_
    refine zr_load ⟨_, dX12_movesRight_23, rfl⟩ rfl ?_
    refine zr_load ⟨_, dX12_movesRight_24, rfl⟩ rfl ?_
    obtain ⟨x3, hx3, h⟩ := zbind h
    refine zt_calliv (t_Rf_parts hx3) (zrun_V (rest := []) dX12_movesRight_25 ml_X12_94 rfl rfl (by decide) (by decide) rfl (Nat.le_of_ble_eq_true rfl)) rfl rfl (Nat.le_refl _) (Nat.le_refl _) ?_
    refine zr_aload ⟨_, dX12_movesRight_28, rfl⟩ rfl ?_
    refine zt_get dX12_movesRight_29 fl_X12_13 rfl rfl ?_
    refine zr_loadw dX12_movesRight_32 rfl ?_
    refine zr_isub dX12_movesRight_34 ?_
    refine zr_load ⟨_, dX12_movesRight_35, rfl⟩ rfl ?_
    refine zr_ic_le (tgt := 51) dX12_movesRight_36 (by decide) (fun hc4 => ?_) (fun hc4 => ?_)
    · replace h := zpos h hc4
      refine zr_mask [true, true, true, false, true, false] rfl ?_
      exact t_Rf_movesRight_j51 h
    · replace h := zneg h hc4
      refine zr_aload ⟨_, dX12_movesRight_39, rfl⟩ rfl ?_
      refine zr_load ⟨_, dX12_movesRight_40, rfl⟩ rfl ?_
      refine zr_aload ⟨_, dX12_movesRight_41, rfl⟩ rfl ?_
      refine zt_get dX12_movesRight_42 fl_X12_13 rfl rfl ?_
      refine zr_loadw dX12_movesRight_45 rfl ?_
      refine zr_isub dX12_movesRight_47 ?_
      obtain ⟨x5, hx5, h⟩ := zbind h
      refine zt_calliv (t_Rf_parts hx5) (zrun_V (rest := []) dX12_movesRight_48 ml_X12_94 rfl rfl (by decide) (by decide) rfl (Nat.le_of_ble_eq_true rfl)) rfl rfl (Nat.le_refl _) (Nat.le_refl _) ?_
      refine zr_mask [true, true, true, false, true, false] rfl ?_
      exact t_Rf_movesRight_j51 h
  refine zr_ic_ge (tgt := 14) dX12_movesRight_7 (by decide) (fun hc2 => ?_) (fun hc2 => ?_)
  · have hp6 := zif_t hj1 hc2
    refine zr_aload ⟨_, dX12_movesRight_14, rfl⟩ rfl ?_
    refine zt_get dX12_movesRight_15 fl_X12_13 rfl rfl ?_
    refine zr_load ⟨_, dX12_movesRight_18, rfl⟩ rfl ?_
    refine zr_isub dX12_movesRight_19 ?_
    exact hp6
  · have hp7 := zif_f hj1 hc2
    refine zr_load ⟨_, dX12_movesRight_10, rfl⟩ rfl ?_
    refine zr_goto (tgt := 20) dX12_movesRight_11 (by decide) ?_
    exact hp7
set_option maxRecDepth 100000 in
set_option maxHeartbeats 4000000 in
theorem t_Rf_movesLeft_l40 {c1 c4 : Int} {r : Option zAV} {s0 : zSt}  : ∀ (n : Nat) (x : Int × zSt) (out : zSt), zloop (f_Rf_movesLeft_l40 c1 c4) n x = some out → (zBT 3 m_X12_movesLeft TRf r s0 98 [none, none, none, none, none, none] [] out) → zBT 3 m_X12_movesLeft TRf r s0 40 [some (.inr (.inl (some 0))), some (.inl c1), none, none, some (.inl c4), some (.inl x.1)] [] x.2 := by
  refine zloop_B (B := fun (x : Int × zSt) (out : zSt) => zBT 3 m_X12_movesLeft TRf r s0 98 [none, none, none, none, none, none] [] out → zBT 3 m_X12_movesLeft TRf r s0 40 [some (.inr (.inl (some 0))), some (.inl c1), none, none, some (.inl c4), some (.inl x.1)] [] x.2) ?_
  intro x o out h hk hx
  unfold f_Rf_movesLeft_l40 at h
  refine zr_loadw dX12_movesLeft_40 rfl ?_
  refine zr_aload ⟨_, dX12_movesLeft_42, rfl⟩ rfl ?_
  refine zt_get dX12_movesLeft_43 fl_X12_13 rfl rfl ?_
  refine zr_ic_ge (tgt := 98) dX12_movesLeft_46 (by decide) (fun hc1 => ?_) (fun hc1 => ?_)
  · replace h := zpos h hc1
    refine zr_mask [false, false, false, false, false, false] rfl ?_
    obtain rfl := Option.some.inj h
    obtain rfl := hk
    exact hx
  · replace h := zneg h hc1
    refine zr_aload ⟨_, dX12_movesLeft_49, rfl⟩ rfl ?_
    refine zt_getr dX12_movesLeft_50 fl_X12_16 rfl rfl ?_
    refine zr_aload ⟨_, dX12_movesLeft_53, rfl⟩ rfl ?_
    refine zr_load ⟨_, dX12_movesLeft_54, rfl⟩ rfl ?_
    refine zr_loadw dX12_movesLeft_55 rfl ?_
    obtain ⟨x2, hx2, h⟩ := zbind h
    refine zt_callisi (t_Rf_at hx2) (zrun_V (rest := [.inr (.inl (some 1))]) dX12_movesLeft_57 ml_X12_90 rfl rfl (by decide) (by decide) rfl (Nat.le_of_ble_eq_true rfl)) rfl rfl (Nat.le_refl _) (Nat.le_refl _) ?_
    refine zr_loadw dX12_movesLeft_60 rfl ?_
    refine zr_loadw dX12_movesLeft_62 rfl ?_
    refine zr_iadd dX12_movesLeft_64 ?_
    refine zr_aload ⟨_, dX12_movesLeft_65, rfl⟩ rfl ?_
    refine zt_get dX12_movesLeft_66 fl_X12_13 rfl rfl ?_
    refine zr_ic_ge (tgt := 90) dX12_movesLeft_69 (by decide) (fun hc3 => ?_) (fun hc3 => ?_)
    · replace h := zpos h hc3
      refine zr_iconst dX12_movesLeft_90 (by decide) ?_
      obtain ⟨hb4, h⟩ := zchk h
      refine zt_iastore dX12_movesLeft_91 rfl hb4 ?_
      refine zr_iinc dX12_movesLeft_92 rfl (by decide) rfl ?_
      refine zr_goto (tgt := 40) dX12_movesLeft_95 (by decide) ?_
      obtain rfl := Option.some.inj h
      exact hk hx
    · replace h := zneg h hc3
      refine zr_aload ⟨_, dX12_movesLeft_72, rfl⟩ rfl ?_
      refine zt_getr dX12_movesLeft_73 fl_X12_16 rfl rfl ?_
      refine zr_aload ⟨_, dX12_movesLeft_76, rfl⟩ rfl ?_
      refine zr_load ⟨_, dX12_movesLeft_77, rfl⟩ rfl ?_
      refine zr_loadw dX12_movesLeft_78 rfl ?_
      refine zr_loadw dX12_movesLeft_80 rfl ?_
      refine zr_iadd dX12_movesLeft_82 ?_
      obtain ⟨x5, hx5, h⟩ := zbind h
      refine zt_callisi (t_Rf_at hx5) (zrun_V (rest := [.inr (.inl (some 1)), .inl x2, .inr (.inl (some 1))]) dX12_movesLeft_83 ml_X12_90 rfl rfl (by decide) (by decide) rfl (Nat.le_of_ble_eq_true rfl)) rfl rfl (Nat.le_refl _) (Nat.le_refl _) ?_
      obtain ⟨hb6, h⟩ := zchk h
      refine zt_iaload dX12_movesLeft_86 rfl hb6 ?_
      refine zr_goto (tgt := 91) dX12_movesLeft_87 (by decide) ?_
      obtain ⟨hb7, h⟩ := zchk h
      refine zt_iastore dX12_movesLeft_91 rfl hb7 ?_
      refine zr_iinc dX12_movesLeft_92 rfl (by decide) rfl ?_
      refine zr_goto (tgt := 40) dX12_movesLeft_95 (by decide) ?_
      obtain rfl := Option.some.inj h
      exact hk hx
set_option maxRecDepth 100000 in
set_option maxHeartbeats 4000000 in
theorem t_Rf_movesLeft {a1 a2 a3 : Int} {s : zSt} {res : Int × zSt} (h : f_Rf_movesLeft a1 a2 a3 s = some res) : zSpecT 3 m_X12_movesLeft [.inr (.inl (some 0)), .inl a1, .inl a2, .inl a3] TRf s none res.2 := by
  refine zSpec_of (by decide +kernel) (Nat.le_of_ble_eq_true rfl) ?_
  show zBT 3 m_X12_movesLeft TRf none res.2 0 [some (.inr (.inl (some 0))), some (.inl a1), some (.inl a2), some (.inl a3), none, none] [] s
  unfold f_Rf_movesLeft at h
  refine zr_load ⟨_, dX12_movesLeft_0, rfl⟩ rfl ?_
  refine zr_aload ⟨_, dX12_movesLeft_1, rfl⟩ rfl ?_
  refine zt_get dX12_movesLeft_2 fl_X12_13 rfl rfl ?_
  refine zr_load ⟨_, dX12_movesLeft_5, rfl⟩ rfl ?_
  refine zr_isub dX12_movesLeft_6 ?_
  have hj1 : zBT 3 m_X12_movesLeft TRf none res.2 20 [some (.inr (.inl (some 0))), some (.inl a1), some (.inl a2), some (.inl a3), none, none] [.inl (if (w32 ((s.1 0 2) - a2)) ≤ a3 then (w32 ((s.1 0 2) - a2)) else a3)] s := by
    refine zr_storew dX12_movesLeft_20 (by decide) rfl ?_
    refine zr_aload ⟨_, dX12_movesLeft_22, rfl⟩ rfl ?_
    refine zr_load ⟨_, dX12_movesLeft_23, rfl⟩ rfl ?_
    refine zr_load ⟨_, dX12_movesLeft_24, rfl⟩ rfl ?_
    obtain ⟨x3, hx3, h⟩ := zbind h
    refine zt_calliv (t_Rf_parts hx3) (zrun_V (rest := []) dX12_movesLeft_25 ml_X12_94 rfl rfl (by decide) (by decide) rfl (Nat.le_of_ble_eq_true rfl)) rfl rfl (Nat.le_refl _) (Nat.le_refl _) ?_
    refine zr_aload ⟨_, dX12_movesLeft_28, rfl⟩ rfl ?_
    refine zr_load ⟨_, dX12_movesLeft_29, rfl⟩ rfl ?_
    refine zr_load ⟨_, dX12_movesLeft_30, rfl⟩ rfl ?_
    refine zr_loadw dX12_movesLeft_31 rfl ?_
    refine zr_iadd dX12_movesLeft_33 ?_
    obtain ⟨x4, hx4, h⟩ := zbind h
    refine zt_calliv (t_Rf_parts hx4) (zrun_V (rest := []) dX12_movesLeft_34 ml_X12_94 rfl rfl (by decide) (by decide) rfl (Nat.le_of_ble_eq_true rfl)) rfl rfl (Nat.le_refl _) (Nat.le_refl _) ?_
    refine zr_load ⟨_, dX12_movesLeft_37, rfl⟩ rfl ?_
    refine zr_storew dX12_movesLeft_38 (by decide) rfl ?_
    refine zr_mask [true, true, false, false, true, true] rfl ?_
    obtain ⟨y5, hy5, h⟩ := zbind h
    refine t_Rf_movesLeft_l40 _ _ _ hy5 ?_
    obtain rfl := Option.some.inj h
    exact zt_vret dX12_movesLeft_98 rfl
  refine zr_ic_ge (tgt := 14) dX12_movesLeft_7 (by decide) (fun hc2 => ?_) (fun hc2 => ?_)
  · have hp6 := zif_t hj1 hc2
    refine zr_aload ⟨_, dX12_movesLeft_14, rfl⟩ rfl ?_
    refine zt_get dX12_movesLeft_15 fl_X12_13 rfl rfl ?_
    refine zr_load ⟨_, dX12_movesLeft_18, rfl⟩ rfl ?_
    refine zr_isub dX12_movesLeft_19 ?_
    exact hp6
  · have hp7 := zif_f hj1 hc2
    refine zr_load ⟨_, dX12_movesLeft_10, rfl⟩ rfl ?_
    refine zr_goto (tgt := 20) dX12_movesLeft_11 (by decide) ?_
    exact hp7
set_option maxRecDepth 100000 in
set_option maxHeartbeats 4000000 in
theorem t_Rf_scrollsUp_l34 {c1 c2 c4 : Int} {r : Option zAV} {s0 : zSt}  : ∀ (n : Nat) (x : Int × zSt) (out : zSt), zloop (f_Rf_scrollsUp_l34 c1 c2 c4) n x = some out → (zBT 3 m_X12_scrollsUp TRf r s0 56 [some (.inr (.inl (some 0))), some (.inl c1), some (.inl c2), none, some (.inl c4), none] [] out) → zBT 3 m_X12_scrollsUp TRf r s0 34 [some (.inr (.inl (some 0))), some (.inl c1), some (.inl c2), none, some (.inl c4), some (.inl x.1)] [] x.2 := by
  refine zloop_B (B := fun (x : Int × zSt) (out : zSt) => zBT 3 m_X12_scrollsUp TRf r s0 56 [some (.inr (.inl (some 0))), some (.inl c1), some (.inl c2), none, some (.inl c4), none] [] out → zBT 3 m_X12_scrollsUp TRf r s0 34 [some (.inr (.inl (some 0))), some (.inl c1), some (.inl c2), none, some (.inl c4), some (.inl x.1)] [] x.2) ?_
  intro x o out h hk hx
  unfold f_Rf_scrollsUp_l34 at h
  refine zr_loadw dX12_scrollsUp_34 rfl ?_
  refine zr_load ⟨_, dX12_scrollsUp_36, rfl⟩ rfl ?_
  refine zr_ic_ge (tgt := 56) dX12_scrollsUp_37 (by decide) (fun hc1 => ?_) (fun hc1 => ?_)
  · replace h := zpos h hc1
    refine zr_mask [true, true, true, false, true, false] rfl ?_
    obtain rfl := Option.some.inj h
    obtain rfl := hk
    exact hx
  · replace h := zneg h hc1
    refine zr_aload ⟨_, dX12_scrollsUp_40, rfl⟩ rfl ?_
    refine zr_loadw dX12_scrollsUp_41 rfl ?_
    refine zr_iconst dX12_scrollsUp_43 (by decide) ?_
    refine zr_iadd dX12_scrollsUp_44 ?_
    refine zr_loadw dX12_scrollsUp_45 rfl ?_
    obtain ⟨x2, hx2, h⟩ := zbind h
    refine zt_calliv (t_Rf_copiesRow hx2) (zrun_V (rest := []) dX12_scrollsUp_47 ml_X12_104 rfl rfl (by decide) (by decide) rfl (Nat.le_of_ble_eq_true rfl)) rfl rfl (Nat.le_refl _) (Nat.le_refl _) ?_
    refine zr_iinc dX12_scrollsUp_50 rfl (by decide) rfl ?_
    refine zr_goto (tgt := 34) dX12_scrollsUp_53 (by decide) ?_
    obtain rfl := Option.some.inj h
    exact hk hx
set_option maxRecDepth 100000 in
set_option maxHeartbeats 4000000 in
theorem t_Rf_scrollsUp_j31 {v1 v2 v4 : Int} {s : zSt} {res : Int × zSt} (h : f_Rf_scrollsUp_j31 v1 v2 v4 s = some res) : zBT 3 m_X12_scrollsUp TRf none res.2 31 [some (.inr (.inl (some 0))), some (.inl v1), some (.inl v2), none, some (.inl v4), none] [] s := by
  unfold f_Rf_scrollsUp_j31 at h
  refine zr_load ⟨_, dX12_scrollsUp_31, rfl⟩ rfl ?_
  refine zr_storew dX12_scrollsUp_32 (by decide) rfl ?_
  obtain ⟨y1, hy1, h⟩ := zbind h
  refine t_Rf_scrollsUp_l34 _ _ _ hy1 ?_
  refine zr_aload ⟨_, dX12_scrollsUp_56, rfl⟩ rfl ?_
  refine zr_load ⟨_, dX12_scrollsUp_57, rfl⟩ rfl ?_
  obtain ⟨x2, hx2, h⟩ := zbind h
  refine zt_calliv (t_Rf_emptiesRow hx2) (zrun_V (rest := []) dX12_scrollsUp_58 ml_X12_107 rfl rfl (by decide) (by decide) rfl (Nat.le_of_ble_eq_true rfl)) rfl rfl (Nat.le_refl _) (Nat.le_refl _) ?_
  refine zr_loadw dX12_scrollsUp_61 rfl ?_
  refine zr_if_ne (tgt := 71) dX12_scrollsUp_63 (by decide) (fun hc3 => ?_) (fun hc3 => ?_)
  · replace h := zpos h hc3
    obtain rfl := Option.some.inj h
    exact zt_vret dX12_scrollsUp_71 rfl
  · replace h := zneg h hc3
    refine zr_aload ⟨_, dX12_scrollsUp_66, rfl⟩ rfl ?_
    refine zr_load ⟨_, dX12_scrollsUp_67, rfl⟩ rfl ?_
    obtain ⟨x4, hx4, h⟩ := zbind h
    refine zt_calliv (t_Rf_stopsAbove hx4) (zrun_V (rest := []) dX12_scrollsUp_68 ml_X12_110 rfl rfl (by decide) (by decide) rfl (Nat.le_of_ble_eq_true rfl)) rfl rfl (Nat.le_refl _) (Nat.le_refl _) ?_
    obtain rfl := Option.some.inj h
    exact zt_vret dX12_scrollsUp_71 rfl
set_option maxRecDepth 100000 in
set_option maxHeartbeats 4000000 in
theorem t_Rf_scrollsUp {a1 a2 a3 : Int} {s : zSt} {res : Int × zSt} (h : f_Rf_scrollsUp a1 a2 a3 s = some res) : zSpecT 3 m_X12_scrollsUp [.inr (.inl (some 0)), .inl a1, .inl a2, .inl a3] TRf s none res.2 := by
  refine zSpec_of (by decide +kernel) (Nat.le_of_ble_eq_true rfl) ?_
  show zBT 3 m_X12_scrollsUp TRf none res.2 0 [some (.inr (.inl (some 0))), some (.inl a1), some (.inl a2), some (.inl a3), none, none] [] s
  unfold f_Rf_scrollsUp at h
  refine zr_load ⟨_, dX12_scrollsUp_0, rfl⟩ rfl ?_
  have hj1 : zBT 3 m_X12_scrollsUp TRf none res.2 20 [some (.inr (.inl (some 0))), some (.inl a1), some (.inl a2), some (.inl a3), none, none] [.inl (if a3 = 0 then 0 else (if ¬ a1 = 0 then 0 else (if ¬ (s.1 0 8) = 0 then 0 else 1)))] s := by
    refine zr_storew dX12_scrollsUp_20 (by decide) rfl ?_
    refine zr_loadw dX12_scrollsUp_22 rfl ?_
    refine zr_if_eq (tgt := 31) dX12_scrollsUp_24 (by decide) (fun hc3 => ?_) (fun hc3 => ?_)
    · replace h := zpos h hc3
      refine zr_mask [true, true, true, false, true, false] rfl ?_
      exact t_Rf_scrollsUp_j31 h
    · replace h := zneg h hc3
      refine zr_aload ⟨_, dX12_scrollsUp_27, rfl⟩ rfl ?_
      obtain ⟨x4, hx4, h⟩ := zbind h
      refine zt_calliv (t_Rf_keepsRow hx4) (zrun_V (rest := []) dX12_scrollsUp_28 ml_X12_101 rfl rfl (by decide) (by decide) rfl (Nat.le_of_ble_eq_true rfl)) rfl rfl (Nat.le_refl _) (Nat.le_refl _) ?_
      refine zr_mask [true, true, true, false, true, false] rfl ?_
      exact t_Rf_scrollsUp_j31 h
  refine zr_if_eq (tgt := 19) dX12_scrollsUp_1 (by decide) (fun hc2 => ?_) (fun hc2 => ?_)
  · have hp5 := zif_t hj1 hc2
    refine zr_iconst dX12_scrollsUp_19 (by decide) ?_
    exact hp5
  · have hp6 := zif_f hj1 hc2
    refine zr_load ⟨_, dX12_scrollsUp_4, rfl⟩ rfl ?_
    refine zr_if_ne (tgt := 19) dX12_scrollsUp_5 (by decide) (fun hc7 => ?_) (fun hc7 => ?_)
    · have hp8 := zif_t hp6 hc7
      refine zr_iconst dX12_scrollsUp_19 (by decide) ?_
      exact hp8
    · have hp9 := zif_f hp6 hc7
      refine zr_aload ⟨_, dX12_scrollsUp_8, rfl⟩ rfl ?_
      refine zt_get dX12_scrollsUp_9 fl_X12_87 rfl rfl ?_
      refine zr_if_ne (tgt := 19) dX12_scrollsUp_12 (by decide) (fun hc10 => ?_) (fun hc10 => ?_)
      · have hp11 := zif_t hp9 hc10
        refine zr_iconst dX12_scrollsUp_19 (by decide) ?_
        exact hp11
      · have hp12 := zif_f hp9 hc10
        refine zr_iconst dX12_scrollsUp_15 (by decide) ?_
        refine zr_goto (tgt := 20) dX12_scrollsUp_16 (by decide) ?_
        exact hp12
set_option maxRecDepth 100000 in
set_option maxHeartbeats 4000000 in
theorem t_Rf_scrollsDown_l2 {c1 c2 : Int} {r : Option zAV} {s0 : zSt}  : ∀ (n : Nat) (x : Int × zSt) (out : zSt), zloop (f_Rf_scrollsDown_l2 c1 c2) n x = some out → (zBT 3 m_X12_scrollsDown TRf r s0 21 [some (.inr (.inl (some 0))), some (.inl c1), some (.inl c2), none] [] out) → zBT 3 m_X12_scrollsDown TRf r s0 2 [some (.inr (.inl (some 0))), some (.inl c1), some (.inl c2), some (.inl x.1)] [] x.2 := by
  refine zloop_B (B := fun (x : Int × zSt) (out : zSt) => zBT 3 m_X12_scrollsDown TRf r s0 21 [some (.inr (.inl (some 0))), some (.inl c1), some (.inl c2), none] [] out → zBT 3 m_X12_scrollsDown TRf r s0 2 [some (.inr (.inl (some 0))), some (.inl c1), some (.inl c2), some (.inl x.1)] [] x.2) ?_
  intro x o out h hk hx
  unfold f_Rf_scrollsDown_l2 at h
  refine zr_load ⟨_, dX12_scrollsDown_2, rfl⟩ rfl ?_
  refine zr_load ⟨_, dX12_scrollsDown_3, rfl⟩ rfl ?_
  refine zr_ic_le (tgt := 21) dX12_scrollsDown_4 (by decide) (fun hc1 => ?_) (fun hc1 => ?_)
  · replace h := zpos h hc1
    refine zr_mask [true, true, true, false] rfl ?_
    obtain rfl := Option.some.inj h
    obtain rfl := hk
    exact hx
  · replace h := zneg h hc1
    refine zr_aload ⟨_, dX12_scrollsDown_7, rfl⟩ rfl ?_
    refine zr_load ⟨_, dX12_scrollsDown_8, rfl⟩ rfl ?_
    refine zr_iconst dX12_scrollsDown_9 (by decide) ?_
    refine zr_isub dX12_scrollsDown_10 ?_
    refine zr_load ⟨_, dX12_scrollsDown_11, rfl⟩ rfl ?_
    obtain ⟨x2, hx2, h⟩ := zbind h
    refine zt_calliv (t_Rf_copiesRow hx2) (zrun_V (rest := []) dX12_scrollsDown_12 ml_X12_104 rfl rfl (by decide) (by decide) rfl (Nat.le_of_ble_eq_true rfl)) rfl rfl (Nat.le_refl _) (Nat.le_refl _) ?_
    refine zr_iinc dX12_scrollsDown_15 rfl (by decide) rfl ?_
    refine zr_goto (tgt := 2) dX12_scrollsDown_18 (by decide) ?_
    obtain rfl := Option.some.inj h
    exact hk hx
set_option maxRecDepth 100000 in
set_option maxHeartbeats 4000000 in
theorem t_Rf_scrollsDown {a1 a2 : Int} {s : zSt} {res : Int × zSt} (h : f_Rf_scrollsDown a1 a2 s = some res) : zSpecT 3 m_X12_scrollsDown [.inr (.inl (some 0)), .inl a1, .inl a2] TRf s none res.2 := by
  refine zSpec_of (by decide +kernel) (Nat.le_of_ble_eq_true rfl) ?_
  show zBT 3 m_X12_scrollsDown TRf none res.2 0 [some (.inr (.inl (some 0))), some (.inl a1), some (.inl a2), none] [] s
  unfold f_Rf_scrollsDown at h
  refine zr_load ⟨_, dX12_scrollsDown_0, rfl⟩ rfl ?_
  refine zr_store ⟨_, dX12_scrollsDown_1, rfl⟩ (by decide) rfl ?_
  obtain ⟨y1, hy1, h⟩ := zbind h
  refine t_Rf_scrollsDown_l2 _ _ _ hy1 ?_
  refine zr_aload ⟨_, dX12_scrollsDown_21, rfl⟩ rfl ?_
  refine zr_load ⟨_, dX12_scrollsDown_22, rfl⟩ rfl ?_
  obtain ⟨x2, hx2, h⟩ := zbind h
  refine zt_calliv (t_Rf_emptiesRow hx2) (zrun_V (rest := []) dX12_scrollsDown_23 ml_X12_107 rfl rfl (by decide) (by decide) rfl (Nat.le_of_ble_eq_true rfl)) rfl rfl (Nat.le_refl _) (Nat.le_refl _) ?_
  refine zr_aload ⟨_, dX12_scrollsDown_26, rfl⟩ rfl ?_
  refine zt_getr dX12_scrollsDown_27 fl_X12_20 rfl rfl ?_
  refine zr_bipush dX12_scrollsDown_30 (by decide) (by decide) ?_
  refine zr_aload ⟨_, dX12_scrollsDown_32, rfl⟩ rfl ?_
  refine zt_get dX12_scrollsDown_33 fl_X12_87 rfl rfl ?_
  refine zr_imul dX12_scrollsDown_36 ?_
  refine zr_load ⟨_, dX12_scrollsDown_37, rfl⟩ rfl ?_
  refine zr_iadd dX12_scrollsDown_38 ?_
  refine zr_iconst dX12_scrollsDown_39 (by decide) ?_
  obtain ⟨hb3, h⟩ := zchk h
  refine zt_bastore dX12_scrollsDown_40 rfl hb3 (Or.inl rfl) ?_
  refine zr_aload ⟨_, dX12_scrollsDown_41, rfl⟩ rfl ?_
  refine zr_load ⟨_, dX12_scrollsDown_42, rfl⟩ rfl ?_
  obtain ⟨x4, hx4, h⟩ := zbind h
  refine zt_calliv (t_Rf_stopsAbove hx4) (zrun_V (rest := []) dX12_scrollsDown_43 ml_X12_110 rfl rfl (by decide) (by decide) rfl (Nat.le_of_ble_eq_true rfl)) rfl rfl (Nat.le_refl _) (Nat.le_refl _) ?_
  obtain rfl := Option.some.inj h
  exact zt_vret dX12_scrollsDown_46 rfl
set_option maxRecDepth 100000 in
set_option maxHeartbeats 4000000 in
theorem t_Rf_setsMode_j190 {v2 : Int} {s : zSt} {res : Int × zSt} (h : f_Rf_setsMode_j190 v2 s = some res) : zBT 3 m_X12_setsMode TRf none res.2 190 [some (.inr (.inl (some 0))), none, some (.inl v2)] [] s := by
  unfold f_Rf_setsMode_j190 at h
  refine zr_load ⟨_, dX12_setsMode_190, rfl⟩ rfl ?_
  refine zr_if_ne (tgt := 230) dX12_setsMode_191 (by decide) (fun hc1 => ?_) (fun hc1 => ?_)
  · replace h := zpos h hc1
    obtain rfl := Option.some.inj h
    exact zt_vret dX12_setsMode_230 rfl
  · replace h := zneg h hc1
    refine zr_aload ⟨_, dX12_setsMode_194, rfl⟩ rfl ?_
    refine zt_get dX12_setsMode_195 fl_X12_87 rfl rfl ?_
    refine zr_iconst dX12_setsMode_198 (by decide) ?_
    refine zr_ic_ne (tgt := 230) dX12_setsMode_199 (by decide) (fun hc2 => ?_) (fun hc2 => ?_)
    · replace h := zpos h hc2
      obtain rfl := Option.some.inj h
      exact zt_vret dX12_setsMode_230 rfl
    · replace h := zneg h hc2
      refine zr_aload ⟨_, dX12_setsMode_202, rfl⟩ rfl ?_
      refine zr_iconst dX12_setsMode_203 (by decide) ?_
      refine zt_put dX12_setsMode_204 fl_X12_87 rfl rfl ?_
      refine zr_aload ⟨_, dX12_setsMode_207, rfl⟩ rfl ?_
      obtain ⟨x3, hx3, h⟩ := zbind h
      refine zt_calliv (t_Rf_bringsBack hx3) (zrun_V (rest := []) dX12_setsMode_208 ml_X12_213 rfl rfl (by decide) (by decide) rfl (Nat.le_of_ble_eq_true rfl)) rfl rfl (Nat.le_refl _) (Nat.le_refl _) ?_
      refine zr_goto (tgt := 230) dX12_setsMode_211 (by decide) ?_
      obtain rfl := Option.some.inj h
      exact zt_vret dX12_setsMode_230 rfl
set_option maxRecDepth 100000 in
set_option maxHeartbeats 4000000 in
theorem t_Rf_setsMode {a1 a2 : Int} {s : zSt} {res : Int × zSt} (h : f_Rf_setsMode a1 a2 s = some res) : zSpecT 3 m_X12_setsMode [.inr (.inl (some 0)), .inl a1, .inl a2] TRf s none res.2 := by
  refine zSpec_of (by decide +kernel) (Nat.le_of_ble_eq_true rfl) ?_
  show zBT 3 m_X12_setsMode TRf none res.2 0 [some (.inr (.inl (some 0))), some (.inl a1), some (.inl a2)] [] s
  unfold f_Rf_setsMode at h
  refine zr_load ⟨_, dX12_setsMode_0, rfl⟩ rfl ?_
  refine zr_lsw (l := [((-4), 75), (1, 83), (6, 91), (7, 125), (25, 153), (47, 161), (100, 213), (204, 221)]) dX12_setsMode_1 (by decide) rfl ?_
  refine zr_swc (tgt := 76) (by decide) (fun hc1 => ?_) (fun hc1 => ?_)
  · replace h := zpos h hc1
    refine zr_aload ⟨_, dX12_setsMode_76, rfl⟩ rfl ?_
    refine zr_load ⟨_, dX12_setsMode_77, rfl⟩ rfl ?_
    obtain ⟨hb2, h⟩ := zchk h
    refine zt_putz dX12_setsMode_78 fl_X12_136 rfl rfl hb2 ?_
    refine zr_goto (tgt := 230) dX12_setsMode_81 (by decide) ?_
    obtain rfl := Option.some.inj h
    exact zt_vret dX12_setsMode_230 rfl
  replace h := zneg h hc1
  refine zr_swc (tgt := 84) (by decide) (fun hc3 => ?_) (fun hc3 => ?_)
  · replace h := zpos h hc3
    refine zr_aload ⟨_, dX12_setsMode_84, rfl⟩ rfl ?_
    refine zr_load ⟨_, dX12_setsMode_85, rfl⟩ rfl ?_
    obtain ⟨hb4, h⟩ := zchk h
    refine zt_putz dX12_setsMode_86 fl_X12_176 rfl rfl hb4 ?_
    refine zr_goto (tgt := 230) dX12_setsMode_89 (by decide) ?_
    obtain rfl := Option.some.inj h
    exact zt_vret dX12_setsMode_230 rfl
  replace h := zneg h hc3
  refine zr_swc (tgt := 92) (by decide) (fun hc5 => ?_) (fun hc5 => ?_)
  · replace h := zpos h hc5
    refine zr_aload ⟨_, dX12_setsMode_92, rfl⟩ rfl ?_
    refine zr_load ⟨_, dX12_setsMode_93, rfl⟩ rfl ?_
    obtain ⟨hb6, h⟩ := zchk h
    refine zt_putz dX12_setsMode_94 fl_X12_164 rfl rfl hb6 ?_
    refine zr_aload ⟨_, dX12_setsMode_97, rfl⟩ rfl ?_
    refine zr_load ⟨_, dX12_setsMode_98, rfl⟩ rfl ?_
    have hj7 : zBT 3 m_X12_setsMode TRf none res.2 110 [some (.inr (.inl (some 0))), some (.inl a1), some (.inl a2)] [.inl (if a2 = 0 then 0 else (s.1 0 13)), .inr (.inl (some 0))] (uS s 0 17 a2) := by
      refine zt_put dX12_setsMode_110 fl_X12_113 rfl rfl ?_
      refine zr_aload ⟨_, dX12_setsMode_113, rfl⟩ rfl ?_
      refine zr_iconst dX12_setsMode_114 (by decide) ?_
      refine zt_put dX12_setsMode_115 fl_X12_123 rfl rfl ?_
      refine zr_aload ⟨_, dX12_setsMode_118, rfl⟩ rfl ?_
      refine zr_iconst dX12_setsMode_119 (by decide) ?_
      refine zt_putz dX12_setsMode_120 fl_X12_126 rfl rfl (Or.inl rfl) ?_
      refine zr_goto (tgt := 230) dX12_setsMode_123 (by decide) ?_
      obtain rfl := Option.some.inj h
      exact zt_vret dX12_setsMode_230 rfl
    refine zr_if_eq (tgt := 109) dX12_setsMode_99 (by decide) (fun hc8 => ?_) (fun hc8 => ?_)
    · have hp9 := zif_t hj7 hc8
      refine zr_iconst dX12_setsMode_109 (by decide) ?_
      exact hp9
    · have hp10 := zif_f hj7 hc8
      refine zr_aload ⟨_, dX12_setsMode_102, rfl⟩ rfl ?_
      refine zt_get dX12_setsMode_103 fl_X12_116 rfl rfl ?_
      refine zr_goto (tgt := 110) dX12_setsMode_106 (by decide) ?_
      exact hp10
  replace h := zneg h hc5
  refine zr_swc (tgt := 126) (by decide) (fun hc11 => ?_) (fun hc11 => ?_)
  · replace h := zpos h hc11
    refine zr_aload ⟨_, dX12_setsMode_126, rfl⟩ rfl ?_
    refine zr_load ⟨_, dX12_setsMode_127, rfl⟩ rfl ?_
    obtain ⟨hb12, h⟩ := zchk h
    refine zt_putz dX12_setsMode_128 fl_X12_33 rfl rfl hb12 ?_
    refine zr_aload ⟨_, dX12_setsMode_131, rfl⟩ rfl ?_
    refine zr_aload ⟨_, dX12_setsMode_132, rfl⟩ rfl ?_
    refine zt_get dX12_setsMode_133 fl_X12_126 rfl rfl ?_
    have hj13 : zBT 3 m_X12_setsMode TRf none res.2 148 [some (.inr (.inl (some 0))), some (.inl a1), some (.inl a2)] [.inl (if (s.1 0 11) = 0 then 0 else (if a2 = 0 then 0 else 1)), .inr (.inl (some 0))] (uS s 0 18 a2) := by
      refine zt_putz dX12_setsMode_148 fl_X12_126 rfl rfl (z01i (Or.inl rfl) (z01i (Or.inl rfl) (Or.inr rfl))) ?_
      refine zr_goto (tgt := 230) dX12_setsMode_151 (by decide) ?_
      obtain rfl := Option.some.inj h
      exact zt_vret dX12_setsMode_230 rfl
    refine zr_if_eq (tgt := 147) dX12_setsMode_136 (by decide) (fun hc14 => ?_) (fun hc14 => ?_)
    · have hp15 := zif_t hj13 hc14
      refine zr_iconst dX12_setsMode_147 (by decide) ?_
      exact hp15
    · have hp16 := zif_f hj13 hc14
      refine zr_load ⟨_, dX12_setsMode_139, rfl⟩ rfl ?_
      refine zr_if_eq (tgt := 147) dX12_setsMode_140 (by decide) (fun hc17 => ?_) (fun hc17 => ?_)
      · have hp18 := zif_t hp16 hc17
        refine zr_iconst dX12_setsMode_147 (by decide) ?_
        exact hp18
      · have hp19 := zif_f hp16 hc17
        refine zr_iconst dX12_setsMode_143 (by decide) ?_
        refine zr_goto (tgt := 148) dX12_setsMode_144 (by decide) ?_
        exact hp19
  replace h := zneg h hc11
  refine zr_swc (tgt := 154) (by decide) (fun hc20 => ?_) (fun hc20 => ?_)
  · replace h := zpos h hc20
    refine zr_aload ⟨_, dX12_setsMode_154, rfl⟩ rfl ?_
    refine zr_load ⟨_, dX12_setsMode_155, rfl⟩ rfl ?_
    obtain ⟨hb21, h⟩ := zchk h
    refine zt_putz dX12_setsMode_156 fl_X12_37 rfl rfl hb21 ?_
    refine zr_goto (tgt := 230) dX12_setsMode_159 (by decide) ?_
    obtain rfl := Option.some.inj h
    exact zt_vret dX12_setsMode_230 rfl
  replace h := zneg h hc20
  refine zr_swc (tgt := 162) (by decide) (fun hc22 => ?_) (fun hc22 => ?_)
  · replace h := zpos h hc22
    refine zr_load ⟨_, dX12_setsMode_162, rfl⟩ rfl ?_
    refine zr_if_eq (tgt := 190) dX12_setsMode_163 (by decide) (fun hc23 => ?_) (fun hc23 => ?_)
    · replace h := zpos h hc23
      refine zr_mask [true, false, true] rfl ?_
      exact t_Rf_setsMode_j190 h
    · replace h := zneg h hc23
      refine zr_aload ⟨_, dX12_setsMode_166, rfl⟩ rfl ?_
      refine zt_get dX12_setsMode_167 fl_X12_87 rfl rfl ?_
      refine zr_if_ne (tgt := 190) dX12_setsMode_170 (by decide) (fun hc24 => ?_) (fun hc24 => ?_)
      · replace h := zpos h hc24
        refine zr_mask [true, false, true] rfl ?_
        exact t_Rf_setsMode_j190 h
      · replace h := zneg h hc24
        refine zr_aload ⟨_, dX12_setsMode_173, rfl⟩ rfl ?_
        obtain ⟨x25, hx25, h⟩ := zbind h
        refine zt_calliv (t_Rf_saves hx25) (zrun_V (rest := []) dX12_setsMode_174 ml_X12_210 rfl rfl (by decide) (by decide) rfl (Nat.le_of_ble_eq_true rfl)) rfl rfl (Nat.le_refl _) (Nat.le_refl _) ?_
        refine zr_aload ⟨_, dX12_setsMode_177, rfl⟩ rfl ?_
        refine zr_iconst dX12_setsMode_178 (by decide) ?_
        refine zt_put dX12_setsMode_179 fl_X12_87 rfl rfl ?_
        refine zr_aload ⟨_, dX12_setsMode_182, rfl⟩ rfl ?_
        refine zr_iconst dX12_setsMode_183 (by decide) ?_
        obtain ⟨x26, hx26, h⟩ := zbind h
        refine zt_calliv (t_Rf_empties hx26) (zrun_V (rest := []) dX12_setsMode_184 ml_X12_173 rfl rfl (by decide) (by decide) rfl (Nat.le_of_ble_eq_true rfl)) rfl rfl (Nat.le_refl _) (Nat.le_refl _) ?_
        refine zr_goto (tgt := 230) dX12_setsMode_187 (by decide) ?_
        obtain rfl := Option.some.inj h
        exact zt_vret dX12_setsMode_230 rfl
  replace h := zneg h hc22
  refine zr_swc (tgt := 214) (by decide) (fun hc27 => ?_) (fun hc27 => ?_)
  · replace h := zpos h hc27
    refine zr_aload ⟨_, dX12_setsMode_214, rfl⟩ rfl ?_
    refine zr_load ⟨_, dX12_setsMode_215, rfl⟩ rfl ?_
    obtain ⟨hb28, h⟩ := zchk h
    refine zt_putz dX12_setsMode_216 fl_X12_179 rfl rfl hb28 ?_
    refine zr_goto (tgt := 230) dX12_setsMode_219 (by decide) ?_
    obtain rfl := Option.some.inj h
    exact zt_vret dX12_setsMode_230 rfl
  replace h := zneg h hc27
  refine zr_swc (tgt := 222) (by decide) (fun hc29 => ?_) (fun hc29 => ?_)
  · replace h := zpos h hc29
    refine zr_aload ⟨_, dX12_setsMode_222, rfl⟩ rfl ?_
    refine zr_load ⟨_, dX12_setsMode_223, rfl⟩ rfl ?_
    obtain ⟨hb30, h⟩ := zchk h
    refine zt_putz dX12_setsMode_224 fl_X12_182 rfl rfl hb30 ?_
    refine zr_goto (tgt := 230) dX12_setsMode_227 (by decide) ?_
    obtain rfl := Option.some.inj h
    exact zt_vret dX12_setsMode_230 rfl
  replace h := zneg h hc29
  refine zr_swd (tgt := 230) (by decide) ?_
  obtain rfl := Option.some.inj h
  exact zt_vret dX12_setsMode_230 rfl
set_option maxRecDepth 100000 in
set_option maxHeartbeats 4000000 in
theorem t_Rf_tells  {s : zSt} {res : Int × zSt} (h : f_Rf_tells s = some res) : zSpecT 3 m_X12_tells [.inr (.inl (some 0))] TRf s none res.2 := by
  refine zSpec_of (by decide +kernel) (Nat.le_of_ble_eq_true rfl) ?_
  show zBT 3 m_X12_tells TRf none res.2 0 [some (.inr (.inl (some 0))), none] [] s
  unfold f_Rf_tells at h
  refine zr_aload ⟨_, dX12_tells_0, rfl⟩ rfl ?_
  refine zt_getr dX12_tells_1 fl_X12_40 rfl rfl ?_
  refine zr_iconst dX12_tells_4 (by decide) ?_
  obtain ⟨hb1, h⟩ := zchk h
  refine zt_iaload dX12_tells_5 rfl hb1 ?_
  refine zr_iconst dX12_tells_6 (by decide) ?_
  refine zr_ic_ne (tgt := 37) dX12_tells_7 (by decide) (fun hc2 => ?_) (fun hc2 => ?_)
  · replace h := zpos h hc2
    refine zr_aload ⟨_, dX12_tells_37, rfl⟩ rfl ?_
    refine zt_getr dX12_tells_38 fl_X12_40 rfl rfl ?_
    refine zr_iconst dX12_tells_41 (by decide) ?_
    obtain ⟨hb3, h⟩ := zchk h
    refine zt_iaload dX12_tells_42 rfl hb3 ?_
    refine zr_bipush dX12_tells_43 (by decide) (by decide) ?_
    refine zr_ic_ne (tgt := 124) dX12_tells_45 (by decide) (fun hc4 => ?_) (fun hc4 => ?_)
    · replace h := zpos h hc4
      obtain rfl := Option.some.inj h
      exact zt_vret dX12_tells_124 rfl
    · replace h := zneg h hc4
      refine zr_aload ⟨_, dX12_tells_48, rfl⟩ rfl ?_
      refine zt_get dX12_tells_49 fl_X12_164 rfl rfl ?_
      have hj5 : zBT 3 m_X12_tells TRf none res.2 75 [some (.inr (.inl (some 0))), none] [.inl (if (s.1 0 17) = 0 then (w32 ((s.1 0 9) + 1)) else (w32 ((w32 ((s.1 0 9) - (s.1 0 13))) + 1)))] s := by
        refine zr_store ⟨_, dX12_tells_75, rfl⟩ (by decide) rfl ?_
        refine zr_aload ⟨_, dX12_tells_76, rfl⟩ rfl ?_
        refine zr_bipush dX12_tells_77 (by decide) (by decide) ?_
        obtain ⟨x7, hx7, h⟩ := zbind h
        refine zt_calliv (t_Rf_sends hx7) (zrun_V (rest := []) dX12_tells_79 ml_X12_265 rfl rfl (by decide) (by decide) rfl (Nat.le_of_ble_eq_true rfl)) rfl rfl (Nat.le_refl _) (Nat.le_refl _) ?_
        refine zr_aload ⟨_, dX12_tells_82, rfl⟩ rfl ?_
        refine zr_bipush dX12_tells_83 (by decide) (by decide) ?_
        obtain ⟨x8, hx8, h⟩ := zbind h
        refine zt_calliv (t_Rf_sends hx8) (zrun_V (rest := []) dX12_tells_85 ml_X12_265 rfl rfl (by decide) (by decide) rfl (Nat.le_of_ble_eq_true rfl)) rfl rfl (Nat.le_refl _) (Nat.le_refl _) ?_
        refine zr_aload ⟨_, dX12_tells_88, rfl⟩ rfl ?_
        refine zr_load ⟨_, dX12_tells_89, rfl⟩ rfl ?_
        refine zr_iconst dX12_tells_90 (by decide) ?_
        have hj9 : zBT 3 m_X12_tells TRf none res.2 99 [some (.inr (.inl (some 0))), some (.inl (if (s.1 0 17) = 0 then (w32 ((s.1 0 9) + 1)) else (w32 ((w32 ((s.1 0 9) - (s.1 0 13))) + 1))))] [.inl (if 1 ≤ ((if (s.1 0 17) = 0 then (w32 ((s.1 0 9) + 1)) else (w32 ((w32 ((s.1 0 9) - (s.1 0 13))) + 1))) : Int) then (if (s.1 0 17) = 0 then (w32 ((s.1 0 9) + 1)) else (w32 ((w32 ((s.1 0 9) - (s.1 0 13))) + 1))) else 1), .inr (.inl (some 0))] x8.2 := by
          obtain ⟨x11, hx11, h⟩ := zbind h
          refine zt_calliv (t_Rf_sendsNumber hx11) (zrun_V (rest := []) dX12_tells_99 ml_X12_268 rfl rfl (by decide) (by decide) rfl (Nat.le_of_ble_eq_true rfl)) rfl rfl (Nat.le_refl _) (Nat.le_refl _) ?_
          refine zr_aload ⟨_, dX12_tells_102, rfl⟩ rfl ?_
          refine zr_bipush dX12_tells_103 (by decide) (by decide) ?_
          obtain ⟨x12, hx12, h⟩ := zbind h
          refine zt_calliv (t_Rf_sends hx12) (zrun_V (rest := []) dX12_tells_105 ml_X12_265 rfl rfl (by decide) (by decide) rfl (Nat.le_of_ble_eq_true rfl)) rfl rfl (Nat.le_refl _) (Nat.le_refl _) ?_
          refine zr_aload ⟨_, dX12_tells_108, rfl⟩ rfl ?_
          refine zr_aload ⟨_, dX12_tells_109, rfl⟩ rfl ?_
          refine zt_get dX12_tells_110 fl_X12_123 rfl rfl ?_
          refine zr_iconst dX12_tells_113 (by decide) ?_
          refine zr_iadd dX12_tells_114 ?_
          obtain ⟨x13, hx13, h⟩ := zbind h
          refine zt_calliv (t_Rf_sendsNumber hx13) (zrun_V (rest := []) dX12_tells_115 ml_X12_268 rfl rfl (by decide) (by decide) rfl (Nat.le_of_ble_eq_true rfl)) rfl rfl (Nat.le_refl _) (Nat.le_refl _) ?_
          refine zr_aload ⟨_, dX12_tells_118, rfl⟩ rfl ?_
          refine zr_bipush dX12_tells_119 (by decide) (by decide) ?_
          obtain ⟨x14, hx14, h⟩ := zbind h
          refine zt_calliv (t_Rf_sends hx14) (zrun_V (rest := []) dX12_tells_121 ml_X12_265 rfl rfl (by decide) (by decide) rfl (Nat.le_of_ble_eq_true rfl)) rfl rfl (Nat.le_refl _) (Nat.le_refl _) ?_
          obtain rfl := Option.some.inj h
          exact zt_vret dX12_tells_124 rfl
        refine zr_ic_ge (tgt := 98) dX12_tells_91 (by decide) (fun hc10 => ?_) (fun hc10 => ?_)
        · have hp15 := zif_t hj9 hc10
          refine zr_load ⟨_, dX12_tells_98, rfl⟩ rfl ?_
          exact hp15
        · have hp16 := zif_f hj9 hc10
          refine zr_iconst dX12_tells_94 (by decide) ?_
          refine zr_goto (tgt := 99) dX12_tells_95 (by decide) ?_
          exact hp16
      refine zr_if_eq (tgt := 69) dX12_tells_52 (by decide) (fun hc6 => ?_) (fun hc6 => ?_)
      · have hp17 := zif_t hj5 hc6
        refine zr_aload ⟨_, dX12_tells_69, rfl⟩ rfl ?_
        refine zt_get dX12_tells_70 fl_X12_113 rfl rfl ?_
        refine zr_iconst dX12_tells_73 (by decide) ?_
        refine zr_iadd dX12_tells_74 ?_
        exact hp17
      · have hp18 := zif_f hj5 hc6
        refine zr_aload ⟨_, dX12_tells_55, rfl⟩ rfl ?_
        refine zt_get dX12_tells_56 fl_X12_113 rfl rfl ?_
        refine zr_aload ⟨_, dX12_tells_59, rfl⟩ rfl ?_
        refine zt_get dX12_tells_60 fl_X12_116 rfl rfl ?_
        refine zr_isub dX12_tells_63 ?_
        refine zr_iconst dX12_tells_64 (by decide) ?_
        refine zr_iadd dX12_tells_65 ?_
        refine zr_goto (tgt := 75) dX12_tells_66 (by decide) ?_
        exact hp18
  · replace h := zneg h hc2
    refine zr_aload ⟨_, dX12_tells_10, rfl⟩ rfl ?_
    refine zr_bipush dX12_tells_11 (by decide) (by decide) ?_
    obtain ⟨x19, hx19, h⟩ := zbind h
    refine zt_calliv (t_Rf_sends hx19) (zrun_V (rest := []) dX12_tells_13 ml_X12_265 rfl rfl (by decide) (by decide) rfl (Nat.le_of_ble_eq_true rfl)) rfl rfl (Nat.le_refl _) (Nat.le_refl _) ?_
    refine zr_aload ⟨_, dX12_tells_16, rfl⟩ rfl ?_
    refine zr_bipush dX12_tells_17 (by decide) (by decide) ?_
    obtain ⟨x20, hx20, h⟩ := zbind h
    refine zt_calliv (t_Rf_sends hx20) (zrun_V (rest := []) dX12_tells_19 ml_X12_265 rfl rfl (by decide) (by decide) rfl (Nat.le_of_ble_eq_true rfl)) rfl rfl (Nat.le_refl _) (Nat.le_refl _) ?_
    refine zr_aload ⟨_, dX12_tells_22, rfl⟩ rfl ?_
    refine zr_bipush dX12_tells_23 (by decide) (by decide) ?_
    obtain ⟨x21, hx21, h⟩ := zbind h
    refine zt_calliv (t_Rf_sends hx21) (zrun_V (rest := []) dX12_tells_25 ml_X12_265 rfl rfl (by decide) (by decide) rfl (Nat.le_of_ble_eq_true rfl)) rfl rfl (Nat.le_refl _) (Nat.le_refl _) ?_
    refine zr_aload ⟨_, dX12_tells_28, rfl⟩ rfl ?_
    refine zr_bipush dX12_tells_29 (by decide) (by decide) ?_
    obtain ⟨x22, hx22, h⟩ := zbind h
    refine zt_calliv (t_Rf_sends hx22) (zrun_V (rest := []) dX12_tells_31 ml_X12_265 rfl rfl (by decide) (by decide) rfl (Nat.le_of_ble_eq_true rfl)) rfl rfl (Nat.le_refl _) (Nat.le_refl _) ?_
    refine zr_goto (tgt := 124) dX12_tells_34 (by decide) ?_
    obtain rfl := Option.some.inj h
    exact zt_vret dX12_tells_124 rfl
set_option maxRecDepth 100000 in
set_option maxHeartbeats 4000000 in
theorem t_Rf_rule {a1 a2 : Int} {s : zSt} {res : Int × zSt} (h : f_Rf_rule a1 a2 s = some res) : zSpecT 3 m_X12_rule [.inr (.inl (some 0)), .inl a1, .inl a2] TRf s (some (.inl res.1)) res.2 := by
  refine zSpec_of (by decide +kernel) (Nat.le_of_ble_eq_true rfl) ?_
  show zBT 3 m_X12_rule TRf (some (.inl res.1)) res.2 0 [some (.inr (.inl (some 0))), some (.inl a1), some (.inl a2), none] [] s
  unfold f_Rf_rule at h
  refine zr_aload ⟨_, dX12_rule_0, rfl⟩ rfl ?_
  refine zr_iconst dX12_rule_1 (by decide) ?_
  refine zt_put dX12_rule_2 fl_X12_80 rfl rfl ?_
  refine zr_aload ⟨_, dX12_rule_5, rfl⟩ rfl ?_
  refine zt_get dX12_rule_6 fl_X12_339 rfl rfl ?_
  refine zr_store ⟨_, dX12_rule_9, rfl⟩ (by decide) rfl ?_
  refine zr_load ⟨_, dX12_rule_10, rfl⟩ rfl ?_
  refine zr_if_eq (tgt := 22) dX12_rule_11 (by decide) (fun hc1 => ?_) (fun hc1 => ?_)
  · replace h := zpos h hc1
    refine zr_aload ⟨_, dX12_rule_22, rfl⟩ rfl ?_
    refine zr_load ⟨_, dX12_rule_23, rfl⟩ rfl ?_
    obtain ⟨hb2, h⟩ := zchk h
    refine zt_putz dX12_rule_24 fl_X12_339 rfl rfl hb2 ?_
    refine zr_aload ⟨_, dX12_rule_27, rfl⟩ rfl ?_
    refine zr_load ⟨_, dX12_rule_28, rfl⟩ rfl ?_
    obtain ⟨hb3, h⟩ := zchk h
    refine zt_putz dX12_rule_29 fl_X12_49 rfl rfl hb3 ?_
    refine zr_load ⟨_, dX12_rule_32, rfl⟩ rfl ?_
    obtain ⟨hb4, h⟩ := zchk h
    obtain rfl := Option.some.inj h
    exact zt_zret dX12_rule_33 rfl hb4
  · replace h := zneg h hc1
    refine zr_load ⟨_, dX12_rule_14, rfl⟩ rfl ?_
    refine zr_if_ne (tgt := 22) dX12_rule_15 (by decide) (fun hc5 => ?_) (fun hc5 => ?_)
    · replace h := zpos h hc5
      refine zr_aload ⟨_, dX12_rule_22, rfl⟩ rfl ?_
      refine zr_load ⟨_, dX12_rule_23, rfl⟩ rfl ?_
      obtain ⟨hb6, h⟩ := zchk h
      refine zt_putz dX12_rule_24 fl_X12_339 rfl rfl hb6 ?_
      refine zr_aload ⟨_, dX12_rule_27, rfl⟩ rfl ?_
      refine zr_load ⟨_, dX12_rule_28, rfl⟩ rfl ?_
      obtain ⟨hb7, h⟩ := zchk h
      refine zt_putz dX12_rule_29 fl_X12_49 rfl rfl hb7 ?_
      refine zr_load ⟨_, dX12_rule_32, rfl⟩ rfl ?_
      obtain ⟨hb8, h⟩ := zchk h
      obtain rfl := Option.some.inj h
      exact zt_zret dX12_rule_33 rfl hb8
    · replace h := zneg h hc5
      refine zr_aload ⟨_, dX12_rule_18, rfl⟩ rfl ?_
      obtain ⟨x9, hx9, h⟩ := zbind h
      refine zt_calliv (t_Rf_givesLine hx9) (zrun_V (rest := []) dX12_rule_19 ml_X12_321 rfl rfl (by decide) (by decide) rfl (Nat.le_of_ble_eq_true rfl)) rfl rfl (Nat.le_refl _) (Nat.le_refl _) ?_
      refine zr_aload ⟨_, dX12_rule_22, rfl⟩ rfl ?_
      refine zr_load ⟨_, dX12_rule_23, rfl⟩ rfl ?_
      obtain ⟨hb10, h⟩ := zchk h
      refine zt_putz dX12_rule_24 fl_X12_339 rfl rfl hb10 ?_
      refine zr_aload ⟨_, dX12_rule_27, rfl⟩ rfl ?_
      refine zr_load ⟨_, dX12_rule_28, rfl⟩ rfl ?_
      obtain ⟨hb11, h⟩ := zchk h
      refine zt_putz dX12_rule_29 fl_X12_49 rfl rfl hb11 ?_
      refine zr_load ⟨_, dX12_rule_32, rfl⟩ rfl ?_
      obtain ⟨hb12, h⟩ := zchk h
      obtain rfl := Option.some.inj h
      exact zt_zret dX12_rule_33 rfl hb12
