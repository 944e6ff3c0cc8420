set_option maxRecDepth 100000 in
set_option maxHeartbeats 4000000 in
theorem t_Ma_lengthOfLast  {s : zSt} {res : Int} (h : f_Ma_lengthOfLast s = some res) : zSpecT 1 m_X4_lengthOfLast [.inr (.inl (some 0))] TMa s (some (.inl res)) s := by
  refine zSpec_of (by decide +kernel) (Nat.le_of_ble_eq_true rfl) ?_
  show zBT 1 m_X4_lengthOfLast TMa (some (.inl res)) s 0 [some (.inr (.inl (some 0))), none] [] s
  unfold f_Ma_lengthOfLast at h
  refine zr_aload ⟨_, dX4_lengthOfLast_0, rfl⟩ rfl ?_
  refine zt_get dX4_lengthOfLast_1 fl_X4_46 rfl rfl ?_
  refine zr_iconst dX4_lengthOfLast_4 (by decide) ?_
  refine zr_isub dX4_lengthOfLast_5 ?_
  refine zr_store ⟨_, dX4_lengthOfLast_6, rfl⟩ (by decide) rfl ?_
  refine zr_load ⟨_, dX4_lengthOfLast_7, rfl⟩ rfl ?_
  refine zr_if_lt (tgt := 27) dX4_lengthOfLast_8 (by decide) (fun hc1 => ?_) (fun hc1 => ?_)
  · replace h := zpos h hc1
    refine zr_iconst dX4_lengthOfLast_27 (by decide) ?_
    obtain rfl := Option.some.inj h
    exact zt_iret dX4_lengthOfLast_28 rfl
  · replace h := zneg h hc1
    refine zr_load ⟨_, dX4_lengthOfLast_11, rfl⟩ rfl ?_
    refine zr_sipush dX4_lengthOfLast_12 (by decide) (by decide) ?_
    refine zr_ic_ge (tgt := 27) dX4_lengthOfLast_15 (by decide) (fun hc2 => ?_) (fun hc2 => ?_)
    · replace h := zpos h hc2
      refine zr_iconst dX4_lengthOfLast_27 (by decide) ?_
      obtain rfl := Option.some.inj h
      exact zt_iret dX4_lengthOfLast_28 rfl
    · replace h := zneg h hc2
      refine zr_aload ⟨_, dX4_lengthOfLast_18, rfl⟩ rfl ?_
      refine zt_getr dX4_lengthOfLast_19 fl_X4_32 rfl rfl ?_
      refine zr_load ⟨_, dX4_lengthOfLast_22, rfl⟩ rfl ?_
      obtain ⟨hb3, h⟩ := zchk h
      refine zt_iaload dX4_lengthOfLast_23 rfl hb3 ?_
      refine zr_goto (tgt := 28) dX4_lengthOfLast_24 (by decide) ?_
      obtain rfl := Option.some.inj h
      exact zt_iret dX4_lengthOfLast_28 rfl
set_option maxRecDepth 100000 in
set_option maxHeartbeats 4000000 in
theorem t_Ma_beginRow  {s : zSt} {res : Int × zSt} (h : f_Ma_beginRow s = some res) : zSpecT 1 m_X4_beginRow [.inr (.inl (some 0))] TMa s none res.2 := by
  refine zSpec_of (by decide +kernel) (Nat.le_of_ble_eq_true rfl) ?_
  show zBT 1 m_X4_beginRow TMa none res.2 0 [some (.inr (.inl (some 0)))] [] s
  unfold f_Ma_beginRow at h
  refine zr_aload ⟨_, dX4_beginRow_0, rfl⟩ rfl ?_
  refine zt_get dX4_beginRow_1 fl_X4_46 rfl rfl ?_
  refine zr_if_lt (tgt := 17) dX4_beginRow_4 (by decide) (fun hc1 => ?_) (fun hc1 => ?_)
  · replace h := zpos h hc1
    obtain rfl := Option.some.inj h
    exact zt_vret dX4_beginRow_17 rfl
  · replace h := zneg h hc1
    refine zr_aload ⟨_, dX4_beginRow_7, rfl⟩ rfl ?_
    refine zt_get dX4_beginRow_8 fl_X4_46 rfl rfl ?_
    refine zr_sipush dX4_beginRow_11 (by decide) (by decide) ?_
    refine zr_ic_lt (tgt := 18) dX4_beginRow_14 (by decide) (fun hc2 => ?_) (fun hc2 => ?_)
    · replace h := zpos h hc2
      refine zr_aload ⟨_, dX4_beginRow_18, rfl⟩ rfl ?_
      refine zt_getr dX4_beginRow_19 fl_X4_29 rfl rfl ?_
      refine zr_aload ⟨_, dX4_beginRow_22, rfl⟩ rfl ?_
      refine zt_get dX4_beginRow_23 fl_X4_46 rfl rfl ?_
      refine zr_aload ⟨_, dX4_beginRow_26, rfl⟩ rfl ?_
      refine zt_get dX4_beginRow_27 fl_X4_43 rfl rfl ?_
      obtain ⟨hb3, h⟩ := zchk h
      refine zt_iastore dX4_beginRow_30 rfl hb3 ?_
      refine zr_aload ⟨_, dX4_beginRow_31, rfl⟩ rfl ?_
      refine zt_getr dX4_beginRow_32 fl_X4_32 rfl rfl ?_
      refine zr_aload ⟨_, dX4_beginRow_35, rfl⟩ rfl ?_
      refine zt_get dX4_beginRow_36 fl_X4_46 rfl rfl ?_
      refine zr_iconst dX4_beginRow_39 (by decide) ?_
      obtain ⟨hb4, h⟩ := zchk h
      refine zt_iastore dX4_beginRow_40 rfl hb4 ?_
      refine zr_aload ⟨_, dX4_beginRow_41, rfl⟩ rfl ?_
      refine zt_getr dX4_beginRow_42 fl_X4_35 rfl rfl ?_
      refine zr_aload ⟨_, dX4_beginRow_45, rfl⟩ rfl ?_
      refine zt_get dX4_beginRow_46 fl_X4_46 rfl rfl ?_
      refine zr_iconst dX4_beginRow_49 (by decide) ?_
      obtain ⟨hb5, h⟩ := zchk h
      refine zt_bastore dX4_beginRow_50 rfl hb5 (Or.inl rfl) ?_
      refine zr_aload ⟨_, dX4_beginRow_51, rfl⟩ rfl ?_
      refine zr_dup dX4_beginRow_52 (Or.inl True.intro) ?_
      refine zt_get dX4_beginRow_53 fl_X4_46 rfl rfl ?_
      refine zr_iconst dX4_beginRow_56 (by decide) ?_
      refine zr_iadd dX4_beginRow_57 ?_
      refine zt_put dX4_beginRow_58 fl_X4_46 rfl rfl ?_
      obtain rfl := Option.some.inj h
      exact zt_vret dX4_beginRow_61 rfl
    · replace h := zneg h hc2
      obtain rfl := Option.some.inj h
      exact zt_vret dX4_beginRow_17 rfl
set_option maxRecDepth 100000 in
set_option maxHeartbeats 4000000 in
theorem t_Ma_lay {a1 : Int} {s : zSt} {res : Int × zSt} (h : f_Ma_lay a1 s = some res) : zSpecT 1 m_X4_lay [.inr (.inl (some 0)), .inl a1] TMa s none res.2 := by
  refine zSpec_of (by decide +kernel) (Nat.le_of_ble_eq_true rfl) ?_
  show zBT 1 m_X4_lay TMa none res.2 0 [some (.inr (.inl (some 0))), some (.inl a1), none] [] s
  unfold f_Ma_lay at h
  refine zr_aload ⟨_, dX4_lay_0, rfl⟩ rfl ?_
  refine zt_get dX4_lay_1 fl_X4_46 rfl rfl ?_
  refine zr_iconst dX4_lay_4 (by decide) ?_
  refine zr_isub dX4_lay_5 ?_
  refine zr_store ⟨_, dX4_lay_6, rfl⟩ (by decide) rfl ?_
  refine zr_aload ⟨_, dX4_lay_7, rfl⟩ rfl ?_
  refine zt_get dX4_lay_8 fl_X4_43 rfl rfl ?_
  refine zr_if_lt (tgt := 35) dX4_lay_11 (by decide) (fun hc1 => ?_) (fun hc1 => ?_)
  · replace h := zpos h hc1
    obtain rfl := Option.some.inj h
    exact zt_vret dX4_lay_35 rfl
  · replace h := zneg h hc1
    refine zr_aload ⟨_, dX4_lay_14, rfl⟩ rfl ?_
    refine zt_get dX4_lay_15 fl_X4_43 rfl rfl ?_
    refine zr_sipush dX4_lay_18 (by decide) (by decide) ?_
    refine zr_ic_ge (tgt := 35) dX4_lay_21 (by decide) (fun hc2 => ?_) (fun hc2 => ?_)
    · replace h := zpos h hc2
      obtain rfl := Option.some.inj h
      exact zt_vret dX4_lay_35 rfl
    · replace h := zneg h hc2
      refine zr_load ⟨_, dX4_lay_24, rfl⟩ rfl ?_
      refine zr_if_lt (tgt := 35) dX4_lay_25 (by decide) (fun hc3 => ?_) (fun hc3 => ?_)
      · replace h := zpos h hc3
        obtain rfl := Option.some.inj h
        exact zt_vret dX4_lay_35 rfl
      · replace h := zneg h hc3
        refine zr_load ⟨_, dX4_lay_28, rfl⟩ rfl ?_
        refine zr_sipush dX4_lay_29 (by decide) (by decide) ?_
        refine zr_ic_lt (tgt := 36) dX4_lay_32 (by decide) (fun hc4 => ?_) (fun hc4 => ?_)
        · replace h := zpos h hc4
          refine zr_aload ⟨_, dX4_lay_36, rfl⟩ rfl ?_
          refine zt_getr dX4_lay_37 fl_X4_25 rfl rfl ?_
          refine zr_aload ⟨_, dX4_lay_40, rfl⟩ rfl ?_
          refine zt_get dX4_lay_41 fl_X4_43 rfl rfl ?_
          refine zr_load ⟨_, dX4_lay_44, rfl⟩ rfl ?_
          obtain ⟨hb5, h⟩ := zchk h
          refine zt_iastore dX4_lay_45 rfl hb5 ?_
          refine zr_aload ⟨_, dX4_lay_46, rfl⟩ rfl ?_
          refine zr_dup dX4_lay_47 (Or.inl True.intro) ?_
          refine zt_get dX4_lay_48 fl_X4_43 rfl rfl ?_
          refine zr_iconst dX4_lay_51 (by decide) ?_
          refine zr_iadd dX4_lay_52 ?_
          refine zt_put dX4_lay_53 fl_X4_43 rfl rfl ?_
          refine zr_aload ⟨_, dX4_lay_56, rfl⟩ rfl ?_
          refine zt_getr dX4_lay_57 fl_X4_32 rfl rfl ?_
          refine zr_load ⟨_, dX4_lay_60, rfl⟩ rfl ?_
          refine zr_dup2 dX4_lay_61 ⟨_, rfl⟩ True.intro ?_
          obtain ⟨hb6, h⟩ := zchk h
          refine zt_iaload dX4_lay_62 rfl hb6 ?_
          refine zr_iconst dX4_lay_63 (by decide) ?_
          refine zr_iadd dX4_lay_64 ?_
          obtain ⟨hb7, h⟩ := zchk h
          refine zt_iastore dX4_lay_65 rfl hb7 ?_
          obtain rfl := Option.some.inj h
          exact zt_vret dX4_lay_66 rfl
        · replace h := zneg h hc4
          obtain rfl := Option.some.inj h
          exact zt_vret dX4_lay_35 rfl
set_option maxRecDepth 100000 in
set_option maxHeartbeats 4000000 in
theorem t_Ma_isGoing {a1 : Int} {s : zSt} {res : Int} (h : f_Ma_isGoing a1 s = some res) : zSpecT 2 m_X4_isGoing [.inr (.inl (some 0)), .inl a1] TMa s (some (.inl res)) s := by
  refine zSpec_of (by decide +kernel) (Nat.le_of_ble_eq_true rfl) ?_
  show zBT 2 m_X4_isGoing TMa (some (.inl res)) s 0 [some (.inr (.inl (some 0))), some (.inl a1), none] [] s
  unfold f_Ma_isGoing at h
  refine zr_aload ⟨_, dX4_isGoing_0, rfl⟩ rfl ?_
  refine zt_getr dX4_isGoing_1 fl_X4_21 rfl rfl ?_
  obtain ⟨x1, hx1, h⟩ := zbind h
  refine zt_callis (t_Hi_count hx1) (zrun_V (rest := []) dX4_isGoing_4 ml_X4_53 rfl rfl (by decide) (by decide) rfl (Nat.le_of_ble_eq_true rfl)) rfl rfl sb_TMa_THi_4 (Nat.le_refl _) (Nat.le_refl _) ?_
  refine zr_store ⟨_, dX4_isGoing_7, rfl⟩ (by decide) rfl ?_
  refine zr_load ⟨_, dX4_isGoing_8, rfl⟩ rfl ?_
  refine zr_load ⟨_, dX4_isGoing_9, rfl⟩ rfl ?_
  refine zr_ic_ge (tgt := 24) dX4_isGoing_10 (by decide) (fun hc2 => ?_) (fun hc2 => ?_)
  · replace h := zpos h hc2
    refine zr_aload ⟨_, dX4_isGoing_24, rfl⟩ rfl ?_
    refine zt_getr dX4_isGoing_25 fl_X4_12 rfl rfl ?_
    refine zr_load ⟨_, dX4_isGoing_28, rfl⟩ rfl ?_
    refine zr_load ⟨_, dX4_isGoing_29, rfl⟩ rfl ?_
    refine zr_isub dX4_isGoing_30 ?_
    obtain ⟨x3, hx3, h⟩ := zbind h
    refine zt_callis (t_Pi_isGoing hx3) (zrun_V (rest := []) dX4_isGoing_31 ml_X4_109 rfl rfl (by decide) (by decide) rfl (Nat.le_of_ble_eq_true rfl)) rfl rfl sb_TMa_TPi_1 (Nat.le_refl _) (Nat.le_refl _) ?_
    obtain ⟨hb4, h⟩ := zchk h
    obtain rfl := Option.some.inj h
    exact zt_zret dX4_isGoing_34 rfl hb4
  · replace h := zneg h hc2
    refine zr_aload ⟨_, dX4_isGoing_13, rfl⟩ rfl ?_
    refine zt_getr dX4_isGoing_14 fl_X4_21 rfl rfl ?_
    refine zr_load ⟨_, dX4_isGoing_17, rfl⟩ rfl ?_
    obtain ⟨x5, hx5, h⟩ := zbind h
    refine zt_callis (t_Hi_isGoing hx5) (zrun_V (rest := []) dX4_isGoing_18 ml_X4_108 rfl rfl (by decide) (by decide) rfl (Nat.le_of_ble_eq_true rfl)) rfl rfl sb_TMa_THi_4 (Nat.le_refl _) (Nat.le_refl _) ?_
    refine zr_goto (tgt := 34) dX4_isGoing_21 (by decide) ?_
    obtain ⟨hb6, h⟩ := zchk h
    obtain rfl := Option.some.inj h
    exact zt_zret dX4_isGoing_34 rfl hb6
set_option maxRecDepth 100000 in
set_option maxHeartbeats 4000000 in
theorem t_Ma_at {a1 a2 : Int} {s : zSt} {res : Int} (h : f_Ma_at a1 a2 s = some res) : zSpecT 2 m_X4_at [.inr (.inl (some 0)), .inl a1, .inl a2] TMa s (some (.inl res)) s := by
  refine zSpec_of (by decide +kernel) (Nat.le_of_ble_eq_true rfl) ?_
  show zBT 2 m_X4_at TMa (some (.inl res)) s 0 [some (.inr (.inl (some 0))), some (.inl a1), some (.inl a2), none] [] s
  unfold f_Ma_at at h
  refine zr_aload ⟨_, dX4_at_0, rfl⟩ rfl ?_
  refine zt_getr dX4_at_1 fl_X4_21 rfl rfl ?_
  obtain ⟨x1, hx1, h⟩ := zbind h
  refine zt_callis (t_Hi_count hx1) (zrun_V (rest := []) dX4_at_4 ml_X4_53 rfl rfl (by decide) (by decide) rfl (Nat.le_of_ble_eq_true rfl)) rfl rfl sb_TMa_THi_4 (Nat.le_refl _) (Nat.le_refl _) ?_
  refine zr_store ⟨_, dX4_at_7, rfl⟩ (by decide) rfl ?_
  refine zr_load ⟨_, dX4_at_8, rfl⟩ rfl ?_
  refine zr_load ⟨_, dX4_at_9, rfl⟩ rfl ?_
  refine zr_ic_ge (tgt := 25) dX4_at_10 (by decide) (fun hc2 => ?_) (fun hc2 => ?_)
  · replace h := zpos h hc2
    refine zr_aload ⟨_, dX4_at_25, rfl⟩ rfl ?_
    refine zt_getr dX4_at_26 fl_X4_12 rfl rfl ?_
    refine zr_load ⟨_, dX4_at_29, rfl⟩ rfl ?_
    refine zr_load ⟨_, dX4_at_30, rfl⟩ rfl ?_
    refine zr_isub dX4_at_31 ?_
    refine zr_load ⟨_, dX4_at_32, rfl⟩ rfl ?_
    obtain ⟨x3, hx3, h⟩ := zbind h
    refine zt_callis (t_Pi_at hx3) (zrun_V (rest := []) dX4_at_33 ml_X4_113 rfl rfl (by decide) (by decide) rfl (Nat.le_of_ble_eq_true rfl)) rfl rfl sb_TMa_TPi_1 (Nat.le_refl _) (Nat.le_refl _) ?_
    obtain rfl := Option.some.inj h
    exact zt_iret dX4_at_36 rfl
  · replace h := zneg h hc2
    refine zr_aload ⟨_, dX4_at_13, rfl⟩ rfl ?_
    refine zt_getr dX4_at_14 fl_X4_21 rfl rfl ?_
    refine zr_load ⟨_, dX4_at_17, rfl⟩ rfl ?_
    refine zr_load ⟨_, dX4_at_18, rfl⟩ rfl ?_
    obtain ⟨x4, hx4, h⟩ := zbind h
    refine zt_callis (t_Hi_at hx4) (zrun_V (rest := []) dX4_at_19 ml_X4_110 rfl rfl (by decide) (by decide) rfl (Nat.le_of_ble_eq_true rfl)) rfl rfl sb_TMa_THi_4 (Nat.le_refl _) (Nat.le_refl _) ?_
    refine zr_goto (tgt := 36) dX4_at_22 (by decide) ?_
    obtain rfl := Option.some.inj h
    exact zt_iret dX4_at_36 rfl
set_option maxRecDepth 100000 in
set_option maxHeartbeats 4000000 in
theorem t_Ma_goOn  {s : zSt} {res : Int × zSt} (h : f_Ma_goOn s = some res) : zSpecT 2 m_X4_goOn [.inr (.inl (some 0))] TMa s none res.2 := by
  refine zSpec_of (by decide +kernel) (Nat.le_of_ble_eq_true rfl) ?_
  show zBT 2 m_X4_goOn TMa none res.2 0 [some (.inr (.inl (some 0))), none] [] s
  unfold f_Ma_goOn at h
  refine zr_aload ⟨_, dX4_goOn_0, rfl⟩ rfl ?_
  refine zt_get dX4_goOn_1 fl_X4_46 rfl rfl ?_
  refine zr_iconst dX4_goOn_4 (by decide) ?_
  refine zr_isub dX4_goOn_5 ?_
  refine zr_store ⟨_, dX4_goOn_6, rfl⟩ (by decide) rfl ?_
  refine zr_load ⟨_, dX4_goOn_7, rfl⟩ rfl ?_
  refine zr_if_lt (tgt := 25) dX4_goOn_8 (by decide) (fun hc1 => ?_) (fun hc1 => ?_)
  · replace h := zpos h hc1
    refine zr_aload ⟨_, dX4_goOn_25, rfl⟩ rfl ?_
    obtain ⟨x2, hx2, h⟩ := zbind h
    refine zt_calliv (t_Ma_beginRow hx2) (zrun_V (rest := []) dX4_goOn_26 ml_X4_66 rfl rfl (by decide) (by decide) rfl (Nat.le_of_ble_eq_true rfl)) rfl rfl (Nat.le_refl _) (Nat.le_refl _) ?_
    obtain rfl := Option.some.inj h
    exact zt_vret dX4_goOn_29 rfl
  · replace h := zneg h hc1
    refine zr_load ⟨_, dX4_goOn_11, rfl⟩ rfl ?_
    refine zr_sipush dX4_goOn_12 (by decide) (by decide) ?_
    refine zr_ic_ge (tgt := 25) dX4_goOn_15 (by decide) (fun hc3 => ?_) (fun hc3 => ?_)
    · replace h := zpos h hc3
      refine zr_aload ⟨_, dX4_goOn_25, rfl⟩ rfl ?_
      obtain ⟨x4, hx4, h⟩ := zbind h
      refine zt_calliv (t_Ma_beginRow hx4) (zrun_V (rest := []) dX4_goOn_26 ml_X4_66 rfl rfl (by decide) (by decide) rfl (Nat.le_of_ble_eq_true rfl)) rfl rfl (Nat.le_refl _) (Nat.le_refl _) ?_
      obtain rfl := Option.some.inj h
      exact zt_vret dX4_goOn_29 rfl
    · replace h := zneg h hc3
      refine zr_aload ⟨_, dX4_goOn_18, rfl⟩ rfl ?_
      refine zt_getr dX4_goOn_19 fl_X4_35 rfl rfl ?_
      refine zr_load ⟨_, dX4_goOn_22, rfl⟩ rfl ?_
      refine zr_iconst dX4_goOn_23 (by decide) ?_
      obtain ⟨hb5, h⟩ := zchk h
      refine zt_bastore dX4_goOn_24 rfl hb5 (Or.inr rfl) ?_
      refine zr_aload ⟨_, dX4_goOn_25, rfl⟩ rfl ?_
      obtain ⟨x6, hx6, h⟩ := zbind h
      refine zt_calliv (t_Ma_beginRow hx6) (zrun_V (rest := []) dX4_goOn_26 ml_X4_66 rfl rfl (by decide) (by decide) rfl (Nat.le_of_ble_eq_true rfl)) rfl rfl (Nat.le_refl _) (Nat.le_refl _) ?_
      obtain rfl := Option.some.inj h
      exact zt_vret dX4_goOn_29 rfl
set_option maxRecDepth 100000 in
set_option maxHeartbeats 4000000 in
theorem t_Ma_keptRows_l12 {c1 : Int} {r : Option zAV} {s0 : zSt} {s : zSt} : ∀ (n : Nat) (x : Int × Int) (out : Int), zloop (f_Ma_keptRows_l12 c1 s) n x = some out → (zBT 3 m_X4_keptRows TMa r s0 43 [none, none, some (.inl out), none] [] s) → zBT 3 m_X4_keptRows TMa r s0 12 [some (.inr (.inl (some 0))), some (.inl c1), some (.inl x.1), some (.inl x.2)] [] s := by
  refine zloop_B (B := fun (x : Int × Int) (out : Int) => zBT 3 m_X4_keptRows TMa r s0 43 [none, none, some (.inl out), none] [] s → zBT 3 m_X4_keptRows TMa r s0 12 [some (.inr (.inl (some 0))), some (.inl c1), some (.inl x.1), some (.inl x.2)] [] s) ?_
  intro x o out h hk hx
  unfold f_Ma_keptRows_l12 at h
  refine zr_load ⟨_, dX4_keptRows_12, rfl⟩ rfl ?_
  refine zr_bipush dX4_keptRows_13 (by decide) (by decide) ?_
  refine zr_ic_ge (tgt := 43) dX4_keptRows_15 (by decide) (fun hc1 => ?_) (fun hc1 => ?_)
  · replace h := zpos h hc1
    refine zr_mask [false, false, true, false] rfl ?_
    obtain rfl := Option.some.inj h
    obtain rfl := hk
    exact hx
  · replace h := zneg h hc1
    refine zr_load ⟨_, dX4_keptRows_18, rfl⟩ rfl ?_
    refine zr_load ⟨_, dX4_keptRows_19, rfl⟩ rfl ?_
    refine zr_ic_le (tgt := 43) dX4_keptRows_20 (by decide) (fun hc2 => ?_) (fun hc2 => ?_)
    · replace h := zpos h hc2
      refine zr_mask [false, false, true, false] rfl ?_
      obtain rfl := Option.some.inj h
      obtain rfl := hk
      exact hx
    · replace h := zneg h hc2
      refine zr_aload ⟨_, dX4_keptRows_23, rfl⟩ rfl ?_
      refine zt_getr dX4_keptRows_24 fl_X4_12 rfl rfl ?_
      refine zr_load ⟨_, dX4_keptRows_27, rfl⟩ rfl ?_
      obtain ⟨x3, hx3, h⟩ := zbind h
      refine zt_callis (t_Pi_filled hx3) (zrun_V (rest := []) dX4_keptRows_28 ml_X4_105 rfl rfl (by decide) (by decide) rfl (Nat.le_of_ble_eq_true rfl)) rfl rfl sb_TMa_TPi_1 (Nat.le_refl _) (Nat.le_refl _) ?_
      refine zr_if_ne (tgt := 43) dX4_keptRows_31 (by decide) (fun hc4 => ?_) (fun hc4 => ?_)
      · replace h := zpos h hc4
        refine zr_mask [false, false, true, false] rfl ?_
        obtain rfl := Option.some.inj h
        obtain rfl := hk
        exact hx
      · replace h := zneg h hc4
        refine zr_iinc dX4_keptRows_34 rfl (by decide) rfl ?_
        refine zr_iinc dX4_keptRows_37 rfl (by decide) rfl ?_
        refine zr_goto (tgt := 12) dX4_keptRows_40 (by decide) ?_
        obtain rfl := Option.some.inj h
        exact hk hx
set_option maxRecDepth 100000 in
set_option maxHeartbeats 4000000 in
theorem t_Ma_keptRows {a1 : Int} {s : zSt} {res : Int} (h : f_Ma_keptRows a1 s = some res) : zSpecT 3 m_X4_keptRows [.inr (.inl (some 0)), .inl a1] TMa s (some (.inl res)) s := by
  refine zSpec_of (by decide +kernel) (Nat.le_of_ble_eq_true rfl) ?_
  show zBT 3 m_X4_keptRows TMa (some (.inl res)) s 0 [some (.inr (.inl (some 0))), some (.inl a1), none, none] [] s
  unfold f_Ma_keptRows at h
  refine zr_aload ⟨_, dX4_keptRows_0, rfl⟩ rfl ?_
  refine zt_getr dX4_keptRows_1 fl_X4_12 rfl rfl ?_
  obtain ⟨x1, hx1, h⟩ := zbind h
  refine zt_callis (t_Pi_rows hx1) (zrun_V (rest := []) dX4_keptRows_4 ml_X4_102 rfl rfl (by decide) (by decide) rfl (Nat.le_of_ble_eq_true rfl)) rfl rfl sb_TMa_TPi_1 (Nat.le_refl _) (Nat.le_refl _) ?_
  refine zr_iconst dX4_keptRows_7 (by decide) ?_
  refine zr_isub dX4_keptRows_8 ?_
  refine zr_store ⟨_, dX4_keptRows_9, rfl⟩ (by decide) rfl ?_
  refine zr_iconst dX4_keptRows_10 (by decide) ?_
  refine zr_store ⟨_, dX4_keptRows_11, rfl⟩ (by decide) rfl ?_
  obtain ⟨y2, hy2, h⟩ := zbind h
  refine t_Ma_keptRows_l12 _ _ _ hy2 ?_
  refine zr_load ⟨_, dX4_keptRows_43, rfl⟩ rfl ?_
  refine zr_iconst dX4_keptRows_44 (by decide) ?_
  refine zr_iadd dX4_keptRows_45 ?_
  obtain rfl := Option.some.inj h
  exact zt_iret dX4_keptRows_46 rfl
set_option maxRecDepth 100000 in
set_option maxHeartbeats 4000000 in
theorem t_Ma_cellsOf_l60 {c1 : Int} {r : Option zAV} {s0 : zSt} {s : zSt} : ∀ (n : Nat) (x : Int × Int) (out : Int), zloop (f_Ma_cellsOf_l60 c1 s) n x = some out → (zBT 3 m_X4_cellsOf TMa r s0 91 [none, none, none, some (.inl out), none] [] s) → zBT 3 m_X4_cellsOf TMa r s0 60 [some (.inr (.inl (some 0))), some (.inl c1), none, some (.inl x.1), some (.inl x.2)] [] s := by
  refine zloop_B (B := fun (x : Int × Int) (out : Int) => zBT 3 m_X4_cellsOf TMa r s0 91 [none, none, none, some (.inl out), none] [] s → zBT 3 m_X4_cellsOf TMa r s0 60 [some (.inr (.inl (some 0))), some (.inl c1), none, some (.inl x.1), some (.inl x.2)] [] s) ?_
  intro x o out h hk hx
  unfold f_Ma_cellsOf_l60 at h
  refine zr_loadw dX4_cellsOf_60 rfl ?_
  refine zr_bipush dX4_cellsOf_62 (by decide) (by decide) ?_
  refine zr_ic_ge (tgt := 91) dX4_cellsOf_64 (by decide) (fun hc1 => ?_) (fun hc1 => ?_)
  · replace h := zpos h hc1
    refine zr_mask [false, false, false, true, false] rfl ?_
    obtain rfl := Option.some.inj h
    obtain rfl := hk
    exact hx
  · replace h := zneg h hc1
    refine zr_load ⟨_, dX4_cellsOf_67, rfl⟩ rfl ?_
    refine zr_if_le (tgt := 91) dX4_cellsOf_68 (by decide) (fun hc2 => ?_) (fun hc2 => ?_)
    · replace h := zpos h hc2
      refine zr_mask [false, false, false, true, false] rfl ?_
      obtain rfl := Option.some.inj h
      obtain rfl := hk
      exact hx
    · replace h := zneg h hc2
      refine zr_aload ⟨_, dX4_cellsOf_71, rfl⟩ rfl ?_
      refine zr_load ⟨_, dX4_cellsOf_72, rfl⟩ rfl ?_
      refine zr_load ⟨_, dX4_cellsOf_73, rfl⟩ rfl ?_
      refine zr_iconst dX4_cellsOf_74 (by decide) ?_
      refine zr_isub dX4_cellsOf_75 ?_
      obtain ⟨x3, hx3, h⟩ := zbind h
      refine zt_callisi (t_Ma_at hx3) (zrun_V (rest := []) dX4_cellsOf_76 ml_X4_117 rfl rfl (by decide) (by decide) rfl (Nat.le_of_ble_eq_true rfl)) rfl rfl (Nat.le_refl _) (Nat.le_refl _) ?_
      refine zr_if_ne (tgt := 91) dX4_cellsOf_79 (by decide) (fun hc4 => ?_) (fun hc4 => ?_)
      · replace h := zpos h hc4
        refine zr_mask [false, false, false, true, false] rfl ?_
        obtain rfl := Option.some.inj h
        obtain rfl := hk
        exact hx
      · replace h := zneg h hc4
        refine zr_iinc dX4_cellsOf_82 rfl (by decide) rfl ?_
        refine zr_iinc dX4_cellsOf_85 rfl (by decide) rfl ?_
        refine zr_goto (tgt := 60) dX4_cellsOf_88 (by decide) ?_
        obtain rfl := Option.some.inj h
        exact hk hx
set_option maxRecDepth 100000 in
set_option maxHeartbeats 4000000 in
theorem t_Ma_cellsOf {a1 a2 : Int} {s : zSt} {res : Int} (h : f_Ma_cellsOf a1 a2 s = some res) : zSpecT 3 m_X4_cellsOf [.inr (.inl (some 0)), .inl a1, .inl a2] TMa s (some (.inl res)) s := by
  refine zSpec_of (by decide +kernel) (Nat.le_of_ble_eq_true rfl) ?_
  show zBT 3 m_X4_cellsOf TMa (some (.inl res)) s 0 [some (.inr (.inl (some 0))), some (.inl a1), some (.inl a2), none, none] [] s
  unfold f_Ma_cellsOf at h
  refine zr_aload ⟨_, dX4_cellsOf_0, rfl⟩ rfl ?_
  refine zt_getr dX4_cellsOf_1 fl_X4_12 rfl rfl ?_
  obtain ⟨x1, hx1, h⟩ := zbind h
  refine zt_callis (t_Pi_columns hx1) (zrun_V (rest := []) dX4_cellsOf_4 ml_X4_114 rfl rfl (by decide) (by decide) rfl (Nat.le_of_ble_eq_true rfl)) rfl rfl sb_TMa_TPi_1 (Nat.le_refl _) (Nat.le_refl _) ?_
  refine zr_store ⟨_, dX4_cellsOf_7, rfl⟩ (by decide) rfl ?_
  refine zr_load ⟨_, dX4_cellsOf_8, rfl⟩ rfl ?_
  refine zr_if_eq (tgt := 57) dX4_cellsOf_9 (by decide) (fun hc2 => ?_) (fun hc2 => ?_)
  · replace h := zpos h hc2
    refine zr_iconst dX4_cellsOf_57 (by decide) ?_
    refine zr_storew dX4_cellsOf_58 (by decide) rfl ?_
    refine zr_mask [true, true, false, true, true] rfl ?_
    obtain ⟨y3, hy3, h⟩ := zbind h
    refine t_Ma_cellsOf_l60 _ _ _ hy3 ?_
    refine zr_load ⟨_, dX4_cellsOf_91, rfl⟩ rfl ?_
    obtain rfl := Option.some.inj h
    exact zt_iret dX4_cellsOf_92 rfl
  · replace h := zneg h hc2
    refine zr_aload ⟨_, dX4_cellsOf_12, rfl⟩ rfl ?_
    refine zr_load ⟨_, dX4_cellsOf_13, rfl⟩ rfl ?_
    refine zr_load ⟨_, dX4_cellsOf_14, rfl⟩ rfl ?_
    refine zr_iconst dX4_cellsOf_15 (by decide) ?_
    refine zr_isub dX4_cellsOf_16 ?_
    obtain ⟨x4, hx4, h⟩ := zbind h
    refine zt_callisi (t_Ma_at hx4) (zrun_V (rest := []) dX4_cellsOf_17 ml_X4_117 rfl rfl (by decide) (by decide) rfl (Nat.le_of_ble_eq_true rfl)) rfl rfl (Nat.le_refl _) (Nat.le_refl _) ?_
    refine zr_if_ne (tgt := 41) dX4_cellsOf_20 (by decide) (fun hc5 => ?_) (fun hc5 => ?_)
    · replace h := zpos h hc5
      refine zr_iconst dX4_cellsOf_41 (by decide) ?_
      refine zr_storew dX4_cellsOf_42 (by decide) rfl ?_
      refine zr_loadw dX4_cellsOf_44 rfl ?_
      have hj6 : zBT 3 m_X4_cellsOf TMa (some (.inl res)) s 56 [some (.inr (.inl (some 0))), some (.inl a1), some (.inl a2), some (.inl x1), some (.inl 0)] [.inl (if (0 : Int) = 0 then x1 else (w32 (x1 - 1)))] s := by
        obtain rfl := Option.some.inj h
        exact zt_iret dX4_cellsOf_56 rfl
      refine zr_if_eq (tgt := 55) dX4_cellsOf_46 (by decide) (fun hc7 => ?_) (fun hc7 => ?_)
      · have hp8 := zif_t hj6 hc7
        refine zr_load ⟨_, dX4_cellsOf_55, rfl⟩ rfl ?_
        exact hp8
      · have hp9 := zif_f hj6 hc7
        refine zr_load ⟨_, dX4_cellsOf_49, rfl⟩ rfl ?_
        refine zr_iconst dX4_cellsOf_50 (by decide) ?_
        refine zr_isub dX4_cellsOf_51 ?_
        refine zr_goto (tgt := 56) dX4_cellsOf_52 (by decide) ?_
        exact hp9
    · replace h := zneg h hc5
      refine zr_aload ⟨_, dX4_cellsOf_23, rfl⟩ rfl ?_
      refine zr_load ⟨_, dX4_cellsOf_24, rfl⟩ rfl ?_
      refine zr_iconst dX4_cellsOf_25 (by decide) ?_
      refine zr_iadd dX4_cellsOf_26 ?_
      refine zr_iconst dX4_cellsOf_27 (by decide) ?_
      obtain ⟨x10, hx10, h⟩ := zbind h
      refine zt_callisi (t_Ma_at hx10) (zrun_V (rest := []) dX4_cellsOf_28 ml_X4_117 rfl rfl (by decide) (by decide) rfl (Nat.le_of_ble_eq_true rfl)) rfl rfl (Nat.le_refl _) (Nat.le_refl _) ?_
      obtain ⟨x11, hx11, h⟩ := zbind h
      refine zt_call0 (t_Co_isWide hx11) (zrun_SN (rest := []) dX4_cellsOf_31 ml_X4_118 rfl (by decide) (by decide) rfl (Nat.le_of_ble_eq_true rfl)) rfl rfl (Nat.le_refl _) (Nat.le_refl _) ?_
      have hj12 : zBT 3 m_X4_cellsOf TMa (some (.inl res)) s 42 [some (.inr (.inl (some 0))), some (.inl a1), some (.inl a2), some (.inl x1), none] [.inl (if x11 = 0 then 0 else 1)] s := by
        refine zr_storew dX4_cellsOf_42 (by decide) rfl ?_
        refine zr_loadw dX4_cellsOf_44 rfl ?_
        have hj14 : zBT 3 m_X4_cellsOf TMa (some (.inl res)) s 56 [some (.inr (.inl (some 0))), some (.inl a1), some (.inl a2), some (.inl x1), some (.inl (if x11 = 0 then 0 else 1))] [.inl (if ((if x11 = 0 then 0 else 1) : Int) = 0 then x1 else (w32 (x1 - 1)))] s := by
          obtain rfl := Option.some.inj h
          exact zt_iret dX4_cellsOf_56 rfl
        refine zr_if_eq (tgt := 55) dX4_cellsOf_46 (by decide) (fun hc15 => ?_) (fun hc15 => ?_)
        · have hp16 := zif_t hj14 hc15
          refine zr_load ⟨_, dX4_cellsOf_55, rfl⟩ rfl ?_
          exact hp16
        · have hp17 := zif_f hj14 hc15
          refine zr_load ⟨_, dX4_cellsOf_49, rfl⟩ rfl ?_
          refine zr_iconst dX4_cellsOf_50 (by decide) ?_
          refine zr_isub dX4_cellsOf_51 ?_
          refine zr_goto (tgt := 56) dX4_cellsOf_52 (by decide) ?_
          exact hp17
      refine zr_if_eq (tgt := 41) dX4_cellsOf_34 (by decide) (fun hc13 => ?_) (fun hc13 => ?_)
      · have hp18 := zif_t hj12 hc13
        refine zr_iconst dX4_cellsOf_41 (by decide) ?_
        exact hp18
      · have hp19 := zif_f hj12 hc13
        refine zr_iconst dX4_cellsOf_37 (by decide) ?_
        refine zr_goto (tgt := 42) dX4_cellsOf_38 (by decide) ?_
        exact hp19
set_option maxRecDepth 100000 in
set_option maxHeartbeats 4000000 in
theorem t_Ma_layRow_l11 {c1 c2 c3 c4 : Int} {r : Option zAV} {s0 : zSt}  : ∀ (n : Nat) (x : Int × zSt) (out : zSt), zloop (f_Ma_layRow_l11 c1 c2 c3 c4) n x = some out → (zBT 4 m_X4_layRow TMa r s0 104 [some (.inr (.inl (some 0))), none, some (.inl c2), some (.inl c3), some (.inl c4), none, none] [] out) → zBT 4 m_X4_layRow TMa r s0 11 [some (.inr (.inl (some 0))), some (.inl c1), some (.inl c2), some (.inl c3), some (.inl c4), some (.inl x.1), none] [] x.2 := by
  refine zloop_B (B := fun (x : Int × zSt) (out : zSt) => zBT 4 m_X4_layRow TMa r s0 104 [some (.inr (.inl (some 0))), none, some (.inl c2), some (.inl c3), some (.inl c4), none, none] [] out → zBT 4 m_X4_layRow TMa r s0 11 [some (.inr (.inl (some 0))), some (.inl c1), some (.inl c2), some (.inl c3), some (.inl c4), some (.inl x.1), none] [] x.2) ?_
  intro x o out h hk hx
  unfold f_Ma_layRow_l11 at h
  refine zr_loadw dX4_layRow_11 rfl ?_
  refine zr_loadw dX4_layRow_13 rfl ?_
  refine zr_ic_ge (tgt := 104) dX4_layRow_15 (by decide) (fun hc1 => ?_) (fun hc1 => ?_)
  · replace h := zpos h hc1
    refine zr_mask [true, false, true, true, true, false, false] rfl ?_
    obtain rfl := Option.some.inj h
    obtain rfl := hk
    exact hx
  · replace h := zneg h hc1
    refine zr_aload ⟨_, dX4_layRow_18, rfl⟩ rfl ?_
    refine zr_load ⟨_, dX4_layRow_19, rfl⟩ rfl ?_
    refine zr_loadw dX4_layRow_20 rfl ?_
    obtain ⟨x2, hx2, h⟩ := zbind h
    refine zt_callisi (t_Ma_at hx2) (zrun_V (rest := []) dX4_layRow_22 ml_X4_117 rfl rfl (by decide) (by decide) rfl (Nat.le_of_ble_eq_true rfl)) rfl rfl (Nat.le_refl _) (Nat.le_refl _) ?_
    refine zr_storew dX4_layRow_25 (by decide) rfl ?_
    refine zr_aload ⟨_, dX4_layRow_27, rfl⟩ rfl ?_
    obtain ⟨x3, hx3, h⟩ := zbind h
    refine zt_callisi (t_Ma_lengthOfLast hx3) (zrun_V (rest := []) dX4_layRow_28 ml_X4_125 rfl rfl (by decide) (by decide) rfl (Nat.le_of_ble_eq_true rfl)) rfl rfl (Nat.le_refl _) (Nat.le_refl _) ?_
    refine zr_loadw dX4_layRow_31 rfl ?_
    obtain ⟨x4, hx4, h⟩ := zbind h
    refine zt_call0 (t_Co_isWide hx4) (zrun_SN (rest := [.inl x3]) dX4_layRow_33 ml_X4_118 rfl (by decide) (by decide) rfl (Nat.le_of_ble_eq_true rfl)) rfl rfl (Nat.le_refl _) (Nat.le_refl _) ?_
    have hj5 : zBT 4 m_X4_layRow TMa r s0 44 [some (.inr (.inl (some 0))), some (.inl c1), some (.inl c2), some (.inl c3), some (.inl c4), some (.inl x.1), some (.inl x2)] [.inl (if x4 = 0 then 1 else 2), .inl x3] x.2 := by
      refine zr_iadd dX4_layRow_44 ?_
      refine zr_aload ⟨_, dX4_layRow_45, rfl⟩ rfl ?_
      refine zt_get dX4_layRow_46 fl_X4_39 rfl rfl ?_
      refine zr_ic_le (tgt := 56) dX4_layRow_49 (by decide) (fun hc7 => ?_) (fun hc7 => ?_)
      · replace h := zpos h hc7
        refine zr_loadw dX4_layRow_56 rfl ?_
        refine zr_load ⟨_, dX4_layRow_58, rfl⟩ rfl ?_
        refine zr_ic_eq (tgt := 69) dX4_layRow_59 (by decide) (fun hc8 => ?_) (fun hc8 => ?_)
        · replace h := zpos h hc8
          refine zr_aload ⟨_, dX4_layRow_69, rfl⟩ rfl ?_
          refine zr_aload ⟨_, dX4_layRow_70, rfl⟩ rfl ?_
          refine zt_get dX4_layRow_71 fl_X4_46 rfl rfl ?_
          refine zr_iconst dX4_layRow_74 (by decide) ?_
          refine zr_isub dX4_layRow_75 ?_
          refine zt_put dX4_layRow_76 fl_X4_86 rfl rfl ?_
          refine zr_aload ⟨_, dX4_layRow_79, rfl⟩ rfl ?_
          refine zr_aload ⟨_, dX4_layRow_80, rfl⟩ rfl ?_
          obtain ⟨x9, hx9, h⟩ := zbind h
          refine zt_callisi (t_Ma_lengthOfLast hx9) (zrun_V (rest := [.inr (.inl (some 0))]) dX4_layRow_81 ml_X4_125 rfl rfl (by decide) (by decide) rfl (Nat.le_of_ble_eq_true rfl)) rfl rfl (Nat.le_refl _) (Nat.le_refl _) ?_
          refine zt_put dX4_layRow_84 fl_X4_96 rfl rfl ?_
          refine zr_aload ⟨_, dX4_layRow_87, rfl⟩ rfl ?_
          refine zr_iconst dX4_layRow_88 (by decide) ?_
          refine zt_putz dX4_layRow_89 fl_X4_49 rfl rfl (Or.inl rfl) ?_
          refine zr_aload ⟨_, dX4_layRow_92, rfl⟩ rfl ?_
          refine zr_loadw dX4_layRow_93 rfl ?_
          obtain ⟨x10, hx10, h⟩ := zbind h
          refine zt_calliv (t_Ma_lay hx10) (zrun_V (rest := []) dX4_layRow_95 ml_X4_131 rfl rfl (by decide) (by decide) rfl (Nat.le_of_ble_eq_true rfl)) rfl rfl (Nat.le_refl _) (Nat.le_refl _) ?_
          refine zr_iinc dX4_layRow_98 rfl (by decide) rfl ?_
          refine zr_goto (tgt := 11) dX4_layRow_101 (by decide) ?_
          refine zr_mask [true, true, true, true, true, true, false] rfl ?_
          obtain rfl := Option.some.inj h
          exact hk hx
        · replace h := zneg h hc8
          refine zr_aload ⟨_, dX4_layRow_62, rfl⟩ rfl ?_
          refine zt_get dX4_layRow_63 fl_X4_49 rfl rfl ?_
          refine zr_if_eq (tgt := 92) dX4_layRow_66 (by decide) (fun hc11 => ?_) (fun hc11 => ?_)
          · replace h := zpos h hc11
            refine zr_aload ⟨_, dX4_layRow_92, rfl⟩ rfl ?_
            refine zr_loadw dX4_layRow_93 rfl ?_
            obtain ⟨x12, hx12, h⟩ := zbind h
            refine zt_calliv (t_Ma_lay hx12) (zrun_V (rest := []) dX4_layRow_95 ml_X4_131 rfl rfl (by decide) (by decide) rfl (Nat.le_of_ble_eq_true rfl)) rfl rfl (Nat.le_refl _) (Nat.le_refl _) ?_
            refine zr_iinc dX4_layRow_98 rfl (by decide) rfl ?_
            refine zr_goto (tgt := 11) dX4_layRow_101 (by decide) ?_
            refine zr_mask [true, true, true, true, true, true, false] rfl ?_
            obtain rfl := Option.some.inj h
            exact hk hx
          · replace h := zneg h hc11
            refine zr_aload ⟨_, dX4_layRow_69, rfl⟩ rfl ?_
            refine zr_aload ⟨_, dX4_layRow_70, rfl⟩ rfl ?_
            refine zt_get dX4_layRow_71 fl_X4_46 rfl rfl ?_
            refine zr_iconst dX4_layRow_74 (by decide) ?_
            refine zr_isub dX4_layRow_75 ?_
            refine zt_put dX4_layRow_76 fl_X4_86 rfl rfl ?_
            refine zr_aload ⟨_, dX4_layRow_79, rfl⟩ rfl ?_
            refine zr_aload ⟨_, dX4_layRow_80, rfl⟩ rfl ?_
            obtain ⟨x13, hx13, h⟩ := zbind h
            refine zt_callisi (t_Ma_lengthOfLast hx13) (zrun_V (rest := [.inr (.inl (some 0))]) dX4_layRow_81 ml_X4_125 rfl rfl (by decide) (by decide) rfl (Nat.le_of_ble_eq_true rfl)) rfl rfl (Nat.le_refl _) (Nat.le_refl _) ?_
            refine zt_put dX4_layRow_84 fl_X4_96 rfl rfl ?_
            refine zr_aload ⟨_, dX4_layRow_87, rfl⟩ rfl ?_
            refine zr_iconst dX4_layRow_88 (by decide) ?_
            refine zt_putz dX4_layRow_89 fl_X4_49 rfl rfl (Or.inl rfl) ?_
            refine zr_aload ⟨_, dX4_layRow_92, rfl⟩ rfl ?_
            refine zr_loadw dX4_layRow_93 rfl ?_
            obtain ⟨x14, hx14, h⟩ := zbind h
            refine zt_calliv (t_Ma_lay hx14) (zrun_V (rest := []) dX4_layRow_95 ml_X4_131 rfl rfl (by decide) (by decide) rfl (Nat.le_of_ble_eq_true rfl)) rfl rfl (Nat.le_refl _) (Nat.le_refl _) ?_
            refine zr_iinc dX4_layRow_98 rfl (by decide) rfl ?_
            refine zr_goto (tgt := 11) dX4_layRow_101 (by decide) ?_
            refine zr_mask [true, true, true, true, true, true, false] rfl ?_
            obtain rfl := Option.some.inj h
            exact hk hx
      · replace h := zneg h hc7
        refine zr_aload ⟨_, dX4_layRow_52, rfl⟩ rfl ?_
        obtain ⟨x15, hx15, h⟩ := zbind h
        refine zt_calliv (t_Ma_goOn hx15) (zrun_V (rest := []) dX4_layRow_53 ml_X4_128 rfl rfl (by decide) (by decide) rfl (Nat.le_of_ble_eq_true rfl)) rfl rfl (Nat.le_refl _) (Nat.le_refl _) ?_
        refine zr_loadw dX4_layRow_56 rfl ?_
        refine zr_load ⟨_, dX4_layRow_58, rfl⟩ rfl ?_
        refine zr_ic_eq (tgt := 69) dX4_layRow_59 (by decide) (fun hc16 => ?_) (fun hc16 => ?_)
        · replace h := zpos h hc16
          refine zr_aload ⟨_, dX4_layRow_69, rfl⟩ rfl ?_
          refine zr_aload ⟨_, dX4_layRow_70, rfl⟩ rfl ?_
          refine zt_get dX4_layRow_71 fl_X4_46 rfl rfl ?_
          refine zr_iconst dX4_layRow_74 (by decide) ?_
          refine zr_isub dX4_layRow_75 ?_
          refine zt_put dX4_layRow_76 fl_X4_86 rfl rfl ?_
          refine zr_aload ⟨_, dX4_layRow_79, rfl⟩ rfl ?_
          refine zr_aload ⟨_, dX4_layRow_80, rfl⟩ rfl ?_
          obtain ⟨x17, hx17, h⟩ := zbind h
          refine zt_callisi (t_Ma_lengthOfLast hx17) (zrun_V (rest := [.inr (.inl (some 0))]) dX4_layRow_81 ml_X4_125 rfl rfl (by decide) (by decide) rfl (Nat.le_of_ble_eq_true rfl)) rfl rfl (Nat.le_refl _) (Nat.le_refl _) ?_
          refine zt_put dX4_layRow_84 fl_X4_96 rfl rfl ?_
          refine zr_aload ⟨_, dX4_layRow_87, rfl⟩ rfl ?_
          refine zr_iconst dX4_layRow_88 (by decide) ?_
          refine zt_putz dX4_layRow_89 fl_X4_49 rfl rfl (Or.inl rfl) ?_
          refine zr_aload ⟨_, dX4_layRow_92, rfl⟩ rfl ?_
          refine zr_loadw dX4_layRow_93 rfl ?_
          obtain ⟨x18, hx18, h⟩ := zbind h
          refine zt_calliv (t_Ma_lay hx18) (zrun_V (rest := []) dX4_layRow_95 ml_X4_131 rfl rfl (by decide) (by decide) rfl (Nat.le_of_ble_eq_true rfl)) rfl rfl (Nat.le_refl _) (Nat.le_refl _) ?_
          refine zr_iinc dX4_layRow_98 rfl (by decide) rfl ?_
          refine zr_goto (tgt := 11) dX4_layRow_101 (by decide) ?_
          refine zr_mask [true, true, true, true, true, true, false] rfl ?_
          obtain rfl := Option.some.inj h
          exact hk hx
        · replace h := zneg h hc16
          refine zr_aload ⟨_, dX4_layRow_62, rfl⟩ rfl ?_
          refine zt_get dX4_layRow_63 fl_X4_49 rfl rfl ?_
          refine zr_if_eq (tgt := 92) dX4_layRow_66 (by decide) (fun hc19 => ?_) (fun hc19 => ?_)
          · replace h := zpos h hc19
            refine zr_aload ⟨_, dX4_layRow_92, rfl⟩ rfl ?_
            refine zr_loadw dX4_layRow_93 rfl ?_
            obtain ⟨x20, hx20, h⟩ := zbind h
            refine zt_calliv (t_Ma_lay hx20) (zrun_V (rest := []) dX4_layRow_95 ml_X4_131 rfl rfl (by decide) (by decide) rfl (Nat.le_of_ble_eq_true rfl)) rfl rfl (Nat.le_refl _) (Nat.le_refl _) ?_
            refine zr_iinc dX4_layRow_98 rfl (by decide) rfl ?_
            refine zr_goto (tgt := 11) dX4_layRow_101 (by decide) ?_
            refine zr_mask [true, true, true, true, true, true, false] rfl ?_
            obtain rfl := Option.some.inj h
            exact hk hx
          · replace h := zneg h hc19
            refine zr_aload ⟨_, dX4_layRow_69, rfl⟩ rfl ?_
            refine zr_aload ⟨_, dX4_layRow_70, rfl⟩ rfl ?_
            refine zt_get dX4_layRow_71 fl_X4_46 rfl rfl ?_
            refine zr_iconst dX4_layRow_74 (by decide) ?_
            refine zr_isub dX4_layRow_75 ?_
            refine zt_put dX4_layRow_76 fl_X4_86 rfl rfl ?_
            refine zr_aload ⟨_, dX4_layRow_79, rfl⟩ rfl ?_
            refine zr_aload ⟨_, dX4_layRow_80, rfl⟩ rfl ?_
            obtain ⟨x21, hx21, h⟩ := zbind h
            refine zt_callisi (t_Ma_lengthOfLast hx21) (zrun_V (rest := [.inr (.inl (some 0))]) dX4_layRow_81 ml_X4_125 rfl rfl (by decide) (by decide) rfl (Nat.le_of_ble_eq_true rfl)) rfl rfl (Nat.le_refl _) (Nat.le_refl _) ?_
            refine zt_put dX4_layRow_84 fl_X4_96 rfl rfl ?_
            refine zr_aload ⟨_, dX4_layRow_87, rfl⟩ rfl ?_
            refine zr_iconst dX4_layRow_88 (by decide) ?_
            refine zt_putz dX4_layRow_89 fl_X4_49 rfl rfl (Or.inl rfl) ?_
            refine zr_aload ⟨_, dX4_layRow_92, rfl⟩ rfl ?_
            refine zr_loadw dX4_layRow_93 rfl ?_
            obtain ⟨x22, hx22, h⟩ := zbind h
            refine zt_calliv (t_Ma_lay hx22) (zrun_V (rest := []) dX4_layRow_95 ml_X4_131 rfl rfl (by decide) (by decide) rfl (Nat.le_of_ble_eq_true rfl)) rfl rfl (Nat.le_refl _) (Nat.le_refl _) ?_
            refine zr_iinc dX4_layRow_98 rfl (by decide) rfl ?_
            refine zr_goto (tgt := 11) dX4_layRow_101 (by decide) ?_
            refine zr_mask [true, true, true, true, true, true, false] rfl ?_
            obtain rfl := Option.some.inj h
            exact hk hx
    refine zr_if_eq (tgt := 43) dX4_layRow_36 (by decide) (fun hc6 => ?_) (fun hc6 => ?_)
    · have hp23 := zif_t hj5 hc6
      refine zr_iconst dX4_layRow_43 (by decide) ?_
      exact hp23
    · have hp24 := zif_f hj5 hc6
      refine zr_iconst dX4_layRow_39 (by decide) ?_
      refine zr_goto (tgt := 44) dX4_layRow_40 (by decide) ?_
      exact hp24
set_option maxRecDepth 100000 in
set_option maxHeartbeats 4000000 in
theorem t_Ma_layRow_j122 {v3 v4 : Int} {s : zSt} {res : Int × zSt} (h : f_Ma_layRow_j122 v3 v4 s = some res) : zBT 4 m_X4_layRow TMa none res.2 122 [some (.inr (.inl (some 0))), none, none, some (.inl v3), some (.inl v4), none, none] [] s := by
  unfold f_Ma_layRow_j122 at h
  refine zr_load ⟨_, dX4_layRow_122, rfl⟩ rfl ?_
  refine zr_loadw dX4_layRow_123 rfl ?_
  refine zr_ic_lt (tgt := 160) dX4_layRow_125 (by decide) (fun hc1 => ?_) (fun hc1 => ?_)
  · replace h := zpos h hc1
    obtain rfl := Option.some.inj h
    exact zt_vret dX4_layRow_160 rfl
  · replace h := zneg h hc1
    refine zr_aload ⟨_, dX4_layRow_128, rfl⟩ rfl ?_
    refine zr_aload ⟨_, dX4_layRow_129, rfl⟩ rfl ?_
    refine zt_get dX4_layRow_130 fl_X4_46 rfl rfl ?_
    refine zr_iconst dX4_layRow_133 (by decide) ?_
    refine zr_isub dX4_layRow_134 ?_
    refine zt_put dX4_layRow_135 fl_X4_86 rfl rfl ?_
    refine zr_aload ⟨_, dX4_layRow_138, rfl⟩ rfl ?_
    refine zr_aload ⟨_, dX4_layRow_139, rfl⟩ rfl ?_
    obtain ⟨x2, hx2, h⟩ := zbind h
    refine zt_callisi (t_Ma_lengthOfLast hx2) (zrun_V (rest := [.inr (.inl (some 0))]) dX4_layRow_140 ml_X4_125 rfl rfl (by decide) (by decide) rfl (Nat.le_of_ble_eq_true rfl)) rfl rfl (Nat.le_refl _) (Nat.le_refl _) ?_
    refine zr_load ⟨_, dX4_layRow_143, rfl⟩ rfl ?_
    refine zr_iadd dX4_layRow_144 ?_
    refine zr_loadw dX4_layRow_145 rfl ?_
    refine zr_isub dX4_layRow_147 ?_
    refine zr_aload ⟨_, dX4_layRow_148, rfl⟩ rfl ?_
    refine zt_get dX4_layRow_149 fl_X4_39 rfl rfl ?_
    refine zr_iconst dX4_layRow_152 (by decide) ?_
    refine zr_isub dX4_layRow_153 ?_
    refine zr_min dX4_layRow_154 ml_X4_89 (by decide) (Nat.le_refl _) (Nat.le_refl _) (Nat.le_of_ble_eq_true rfl) ?_
    refine zt_put dX4_layRow_157 fl_X4_96 rfl rfl ?_
    obtain rfl := Option.some.inj h
    exact zt_vret dX4_layRow_160 rfl
set_option maxRecDepth 100000 in
set_option maxHeartbeats 4000000 in
theorem t_Ma_layRow {a1 a2 a3 : Int} {s : zSt} {res : Int × zSt} (h : f_Ma_layRow a1 a2 a3 s = some res) : zSpecT 4 m_X4_layRow [.inr (.inl (some 0)), .inl a1, .inl a2, .inl a3] TMa s none res.2 := by
  refine zSpec_of (by decide +kernel) (Nat.le_of_ble_eq_true rfl) ?_
  show zBT 4 m_X4_layRow TMa none res.2 0 [some (.inr (.inl (some 0))), some (.inl a1), some (.inl a2), some (.inl a3), none, none, none] [] s
  unfold f_Ma_layRow at h
  refine zr_aload ⟨_, dX4_layRow_0, rfl⟩ rfl ?_
  refine zr_load ⟨_, dX4_layRow_1, rfl⟩ rfl ?_
  refine zr_load ⟨_, dX4_layRow_2, rfl⟩ rfl ?_
  obtain ⟨x1, hx1, h⟩ := zbind h
  refine zt_callisi (t_Ma_cellsOf hx1) (zrun_V (rest := []) dX4_layRow_3 ml_X4_121 rfl rfl (by decide) (by decide) rfl (Nat.le_of_ble_eq_true rfl)) rfl rfl (Nat.le_refl _) (Nat.le_refl _) ?_
  refine zr_storew dX4_layRow_6 (by decide) rfl ?_
  refine zr_iconst dX4_layRow_8 (by decide) ?_
  refine zr_storew dX4_layRow_9 (by decide) rfl ?_
  obtain ⟨y2, hy2, h⟩ := zbind h
  refine t_Ma_layRow_l11 _ _ _ hy2 ?_
  refine zr_load ⟨_, dX4_layRow_104, rfl⟩ rfl ?_
  refine zr_loadw dX4_layRow_105 rfl ?_
  refine zr_ic_lt (tgt := 122) dX4_layRow_107 (by decide) (fun hc3 => ?_) (fun hc3 => ?_)
  · replace h := zpos h hc3
    refine zr_mask [true, false, false, true, true, false, false] rfl ?_
    exact t_Ma_layRow_j122 h
  · replace h := zneg h hc3
    refine zr_load ⟨_, dX4_layRow_110, rfl⟩ rfl ?_
    refine zr_if_eq (tgt := 122) dX4_layRow_111 (by decide) (fun hc4 => ?_) (fun hc4 => ?_)
    · replace h := zpos h hc4
      refine zr_mask [true, false, false, true, true, false, false] rfl ?_
      exact t_Ma_layRow_j122 h
    · replace h := zneg h hc4
      refine zr_aload ⟨_, dX4_layRow_114, rfl⟩ rfl ?_
      refine zr_iconst dX4_layRow_115 (by decide) ?_
      refine zt_putz dX4_layRow_116 fl_X4_49 rfl rfl (Or.inr rfl) ?_
      refine zr_goto (tgt := 160) dX4_layRow_119 (by decide) ?_
      obtain rfl := Option.some.inj h
      exact zt_vret dX4_layRow_160 rfl
set_option maxRecDepth 100000 in
set_option maxHeartbeats 4000000 in
theorem t_Ma_putBack_l105 {c1 c3 c4 : Int} {r : Option zAV} {s0 : zSt}  : ∀ (n : Nat) (x : Int × zSt) (out : zSt), zloop (f_Ma_putBack_l105 c1 c3 c4) n x = some out → (zBT 6 m_X4_putBack TMa r s0 203 [some (.inr (.inl (some 0))), some (.inl c1), none, some (.inl c3), some (.inl c4), none, none, none] [] out) → zBT 6 m_X4_putBack TMa r s0 105 [some (.inr (.inl (some 0))), some (.inl c1), none, some (.inl c3), some (.inl c4), some (.inl x.1), none, none] [] x.2 := by
  refine zloop_B (B := fun (x : Int × zSt) (out : zSt) => zBT 6 m_X4_putBack TMa r s0 203 [some (.inr (.inl (some 0))), some (.inl c1), none, some (.inl c3), some (.inl c4), none, none, none] [] out → zBT 6 m_X4_putBack TMa r s0 105 [some (.inr (.inl (some 0))), some (.inl c1), none, some (.inl c3), some (.inl c4), some (.inl x.1), none, none] [] x.2) ?_
  intro x o out h hk hx
  unfold f_Ma_putBack_l105 at h
  refine zr_loadw dX4_putBack_105 rfl ?_
  refine zr_aload ⟨_, dX4_putBack_107, rfl⟩ rfl ?_
  refine zt_getr dX4_putBack_108 fl_X4_32 rfl rfl ?_
  refine zr_loadw dX4_putBack_111 rfl ?_
  obtain ⟨hb1, h⟩ := zchk h
  refine zt_iaload dX4_putBack_113 rfl hb1 ?_
  refine zr_ic_ge (tgt := 203) dX4_putBack_114 (by decide) (fun hc2 => ?_) (fun hc2 => ?_)
  · replace h := zpos h hc2
    refine zr_mask [true, true, false, true, true, false, false, false] rfl ?_
    obtain rfl := Option.some.inj h
    obtain rfl := hk
    exact hx
  · replace h := zneg h hc2
    refine zr_loadw dX4_putBack_117 rfl ?_
    refine zr_bipush dX4_putBack_119 (by decide) (by decide) ?_
    refine zr_ic_ge (tgt := 203) dX4_putBack_121 (by decide) (fun hc3 => ?_) (fun hc3 => ?_)
    · replace h := zpos h hc3
      refine zr_mask [true, true, false, true, true, false, false, false] rfl ?_
      obtain rfl := Option.some.inj h
      obtain rfl := hk
      exact hx
    · replace h := zneg h hc3
      refine zr_aload ⟨_, dX4_putBack_124, rfl⟩ rfl ?_
      refine zt_getr dX4_putBack_125 fl_X4_29 rfl rfl ?_
      refine zr_loadw dX4_putBack_128 rfl ?_
      obtain ⟨hb4, h⟩ := zchk h
      refine zt_iaload dX4_putBack_130 rfl hb4 ?_
      refine zr_loadw dX4_putBack_131 rfl ?_
      refine zr_iadd dX4_putBack_133 ?_
      refine zr_storew dX4_putBack_134 (by decide) rfl ?_
      refine zr_loadw dX4_putBack_136 rfl ?_
      refine zr_if_lt (tgt := 159) dX4_putBack_138 (by decide) (fun hc5 => ?_) (fun hc5 => ?_)
      · replace h := zpos h hc5
        refine zr_iconst dX4_putBack_159 (by decide) ?_
        refine zr_storew dX4_putBack_160 (by decide) rfl ?_
        refine zr_loadw dX4_putBack_162 rfl ?_
        refine zr_load ⟨_, dX4_putBack_164, rfl⟩ rfl ?_
        refine zr_ic_ge (tgt := 182) dX4_putBack_165 (by decide) (fun hc6 => ?_) (fun hc6 => ?_)
        · replace h := zpos h hc6
          refine zr_aload ⟨_, dX4_putBack_182, rfl⟩ rfl ?_
          refine zt_getr dX4_putBack_183 fl_X4_12 rfl rfl ?_
          refine zr_loadw dX4_putBack_186 rfl ?_
          refine zr_load ⟨_, dX4_putBack_188, rfl⟩ rfl ?_
          refine zr_isub dX4_putBack_189 ?_
          refine zr_loadw dX4_putBack_190 rfl ?_
          refine zr_loadw dX4_putBack_192 rfl ?_
          obtain ⟨x7, hx7, h⟩ := zbind h
          refine zt_callv (t_Pi_put hx7) (zrun_V (rest := []) dX4_putBack_194 ml_X4_153 rfl rfl (by decide) (by decide) rfl (Nat.le_of_ble_eq_true rfl)) rfl rfl sb_TMa_TPi_1 (Nat.le_refl _) (Nat.le_refl _) ?_
          refine zr_iinc dX4_putBack_197 rfl (by decide) rfl ?_
          refine zr_goto (tgt := 105) dX4_putBack_200 (by decide) ?_
          refine zr_mask [true, true, false, true, true, true, false, false] rfl ?_
          obtain rfl := Option.some.inj h
          exact hk hx
        · replace h := zneg h hc6
          refine zr_aload ⟨_, dX4_putBack_168, rfl⟩ rfl ?_
          refine zt_getr dX4_putBack_169 fl_X4_21 rfl rfl ?_
          refine zr_loadw dX4_putBack_172 rfl ?_
          refine zr_loadw dX4_putBack_174 rfl ?_
          obtain ⟨x8, hx8, h⟩ := zbind h
          refine zt_callv (t_Hi_putLatest hx8) (zrun_V (rest := []) dX4_putBack_176 ml_X4_150 rfl rfl (by decide) (by decide) rfl (Nat.le_of_ble_eq_true rfl)) rfl rfl sb_TMa_THi_4 (Nat.le_refl _) (Nat.le_refl _) ?_
          refine zr_goto (tgt := 197) dX4_putBack_179 (by decide) ?_
          refine zr_iinc dX4_putBack_197 rfl (by decide) rfl ?_
          refine zr_goto (tgt := 105) dX4_putBack_200 (by decide) ?_
          refine zr_mask [true, true, false, true, true, true, false, false] rfl ?_
          obtain rfl := Option.some.inj h
          exact hk hx
      · replace h := zneg h hc5
        refine zr_loadw dX4_putBack_141 rfl ?_
        refine zr_sipush dX4_putBack_143 (by decide) (by decide) ?_
        refine zr_ic_ge (tgt := 159) dX4_putBack_146 (by decide) (fun hc9 => ?_) (fun hc9 => ?_)
        · replace h := zpos h hc9
          refine zr_iconst dX4_putBack_159 (by decide) ?_
          refine zr_storew dX4_putBack_160 (by decide) rfl ?_
          refine zr_loadw dX4_putBack_162 rfl ?_
          refine zr_load ⟨_, dX4_putBack_164, rfl⟩ rfl ?_
          refine zr_ic_ge (tgt := 182) dX4_putBack_165 (by decide) (fun hc10 => ?_) (fun hc10 => ?_)
          · replace h := zpos h hc10
            refine zr_aload ⟨_, dX4_putBack_182, rfl⟩ rfl ?_
            refine zt_getr dX4_putBack_183 fl_X4_12 rfl rfl ?_
            refine zr_loadw dX4_putBack_186 rfl ?_
            refine zr_load ⟨_, dX4_putBack_188, rfl⟩ rfl ?_
            refine zr_isub dX4_putBack_189 ?_
            refine zr_loadw dX4_putBack_190 rfl ?_
            refine zr_loadw dX4_putBack_192 rfl ?_
            obtain ⟨x11, hx11, h⟩ := zbind h
            refine zt_callv (t_Pi_put hx11) (zrun_V (rest := []) dX4_putBack_194 ml_X4_153 rfl rfl (by decide) (by decide) rfl (Nat.le_of_ble_eq_true rfl)) rfl rfl sb_TMa_TPi_1 (Nat.le_refl _) (Nat.le_refl _) ?_
            refine zr_iinc dX4_putBack_197 rfl (by decide) rfl ?_
            refine zr_goto (tgt := 105) dX4_putBack_200 (by decide) ?_
            refine zr_mask [true, true, false, true, true, true, false, false] rfl ?_
            obtain rfl := Option.some.inj h
            exact hk hx
          · replace h := zneg h hc10
            refine zr_aload ⟨_, dX4_putBack_168, rfl⟩ rfl ?_
            refine zt_getr dX4_putBack_169 fl_X4_21 rfl rfl ?_
            refine zr_loadw dX4_putBack_172 rfl ?_
            refine zr_loadw dX4_putBack_174 rfl ?_
            obtain ⟨x12, hx12, h⟩ := zbind h
            refine zt_callv (t_Hi_putLatest hx12) (zrun_V (rest := []) dX4_putBack_176 ml_X4_150 rfl rfl (by decide) (by decide) rfl (Nat.le_of_ble_eq_true rfl)) rfl rfl sb_TMa_THi_4 (Nat.le_refl _) (Nat.le_refl _) ?_
            refine zr_goto (tgt := 197) dX4_putBack_179 (by decide) ?_
            refine zr_iinc dX4_putBack_197 rfl (by decide) rfl ?_
            refine zr_goto (tgt := 105) dX4_putBack_200 (by decide) ?_
            refine zr_mask [true, true, false, true, true, true, false, false] rfl ?_
            obtain rfl := Option.some.inj h
            exact hk hx
        · replace h := zneg h hc9
          refine zr_aload ⟨_, dX4_putBack_149, rfl⟩ rfl ?_
          refine zt_getr dX4_putBack_150 fl_X4_25 rfl rfl ?_
          refine zr_loadw dX4_putBack_153 rfl ?_
          obtain ⟨hb13, h⟩ := zchk h
          refine zt_iaload dX4_putBack_155 rfl hb13 ?_
          refine zr_goto (tgt := 160) dX4_putBack_156 (by decide) ?_
          refine zr_storew dX4_putBack_160 (by decide) rfl ?_
          refine zr_loadw dX4_putBack_162 rfl ?_
          refine zr_load ⟨_, dX4_putBack_164, rfl⟩ rfl ?_
          refine zr_ic_ge (tgt := 182) dX4_putBack_165 (by decide) (fun hc14 => ?_) (fun hc14 => ?_)
          · replace h := zpos h hc14
            refine zr_aload ⟨_, dX4_putBack_182, rfl⟩ rfl ?_
            refine zt_getr dX4_putBack_183 fl_X4_12 rfl rfl ?_
            refine zr_loadw dX4_putBack_186 rfl ?_
            refine zr_load ⟨_, dX4_putBack_188, rfl⟩ rfl ?_
            refine zr_isub dX4_putBack_189 ?_
            refine zr_loadw dX4_putBack_190 rfl ?_
            refine zr_loadw dX4_putBack_192 rfl ?_
            obtain ⟨x15, hx15, h⟩ := zbind h
            refine zt_callv (t_Pi_put hx15) (zrun_V (rest := []) dX4_putBack_194 ml_X4_153 rfl rfl (by decide) (by decide) rfl (Nat.le_of_ble_eq_true rfl)) rfl rfl sb_TMa_TPi_1 (Nat.le_refl _) (Nat.le_refl _) ?_
            refine zr_iinc dX4_putBack_197 rfl (by decide) rfl ?_
            refine zr_goto (tgt := 105) dX4_putBack_200 (by decide) ?_
            refine zr_mask [true, true, false, true, true, true, false, false] rfl ?_
            obtain rfl := Option.some.inj h
            exact hk hx
          · replace h := zneg h hc14
            refine zr_aload ⟨_, dX4_putBack_168, rfl⟩ rfl ?_
            refine zt_getr dX4_putBack_169 fl_X4_21 rfl rfl ?_
            refine zr_loadw dX4_putBack_172 rfl ?_
            refine zr_loadw dX4_putBack_174 rfl ?_
            obtain ⟨x16, hx16, h⟩ := zbind h
            refine zt_callv (t_Hi_putLatest hx16) (zrun_V (rest := []) dX4_putBack_176 ml_X4_150 rfl rfl (by decide) (by decide) rfl (Nat.le_of_ble_eq_true rfl)) rfl rfl sb_TMa_THi_4 (Nat.le_refl _) (Nat.le_refl _) ?_
            refine zr_goto (tgt := 197) dX4_putBack_179 (by decide) ?_
            refine zr_iinc dX4_putBack_197 rfl (by decide) rfl ?_
            refine zr_goto (tgt := 105) dX4_putBack_200 (by decide) ?_
            refine zr_mask [true, true, false, true, true, true, false, false] rfl ?_
            obtain rfl := Option.some.inj h
            exact hk hx
set_option maxRecDepth 100000 in
set_option maxHeartbeats 4000000 in
theorem t_Ma_putBack_l26 {c1 c3 : Int} {r : Option zAV} {s0 : zSt}  : ∀ (n : Nat) (x : Int × zSt) (out : zSt), zloop (f_Ma_putBack_l26 c1 c3) n x = some out → (zBT 6 m_X4_putBack TMa r s0 209 [none, none, none, none, none, none, none, none] [] out) → zBT 6 m_X4_putBack TMa r s0 26 [some (.inr (.inl (some 0))), some (.inl c1), none, some (.inl c3), some (.inl x.1), none, none, none] [] x.2 := by
  refine zloop_B (B := fun (x : Int × zSt) (out : zSt) => zBT 6 m_X4_putBack TMa r s0 209 [none, none, none, none, none, none, none, none] [] out → zBT 6 m_X4_putBack TMa r s0 26 [some (.inr (.inl (some 0))), some (.inl c1), none, some (.inl c3), some (.inl x.1), none, none, none] [] x.2) ?_
  intro x o out h hk hx
  unfold f_Ma_putBack_l26 at h
  refine zr_loadw dX4_putBack_26 rfl ?_
  refine zr_aload ⟨_, dX4_putBack_28, rfl⟩ rfl ?_
  refine zt_get dX4_putBack_29 fl_X4_46 rfl rfl ?_
  refine zr_ic_ge (tgt := 209) dX4_putBack_32 (by decide) (fun hc1 => ?_) (fun hc1 => ?_)
  · replace h := zpos h hc1
    refine zr_mask [false, false, false, false, false, false, false, false] rfl ?_
    obtain rfl := Option.some.inj h
    obtain rfl := hk
    exact hx
  · replace h := zneg h hc1
    refine zr_loadw dX4_putBack_35 rfl ?_
    refine zr_sipush dX4_putBack_37 (by decide) (by decide) ?_
    refine zr_ic_ge (tgt := 209) dX4_putBack_40 (by decide) (fun hc2 => ?_) (fun hc2 => ?_)
    · replace h := zpos h hc2
      refine zr_mask [false, false, false, false, false, false, false, false] rfl ?_
      obtain rfl := Option.some.inj h
      obtain rfl := hk
      exact hx
    · replace h := zneg h hc2
      refine zr_loadw dX4_putBack_43 rfl ?_
      refine zr_load ⟨_, dX4_putBack_45, rfl⟩ rfl ?_
      refine zr_ic_ge (tgt := 66) dX4_putBack_46 (by decide) (fun hc3 => ?_) (fun hc3 => ?_)
      · replace h := zpos h hc3
        refine zr_aload ⟨_, dX4_putBack_66, rfl⟩ rfl ?_
        refine zt_getr dX4_putBack_67 fl_X4_12 rfl rfl ?_
        refine zr_loadw dX4_putBack_70 rfl ?_
        refine zr_load ⟨_, dX4_putBack_72, rfl⟩ rfl ?_
        refine zr_isub dX4_putBack_73 ?_
        refine zr_aload ⟨_, dX4_putBack_74, rfl⟩ rfl ?_
        refine zt_getr dX4_putBack_75 fl_X4_35 rfl rfl ?_
        refine zr_loadw dX4_putBack_78 rfl ?_
        obtain ⟨hb4, h⟩ := zchk h
        refine zt_baload dX4_putBack_80 rfl hb4 ?_
        have hj5 : zBT 6 m_X4_putBack TMa r s0 99 [some (.inr (.inl (some 0))), some (.inl c1), none, some (.inl c3), some (.inl x.1), none, none, none] [.inl (if ((x.2.2 10) x.1) = 0 then 0 else (if (w32 (c1 - 1)) ≤ (w32 (x.1 - c3)) then 0 else 1)), .inl (w32 (x.1 - c3)), .inr (.inl (some 1))] x.2 := by
          obtain ⟨x7, hx7, h⟩ := zbind h
          refine zt_callv (t_Pi_setGoing hx7) (zrun_V (rest := []) dX4_putBack_99 ml_X4_146 rfl rfl (by decide) (by decide) rfl (Nat.le_of_ble_eq_true rfl)) rfl rfl sb_TMa_TPi_1 (Nat.le_refl _) (Nat.le_refl _) ?_
          refine zr_iconst dX4_putBack_102 (by decide) ?_
          refine zr_storew dX4_putBack_103 (by decide) rfl ?_
          obtain ⟨y8, hy8, h⟩ := zbind h
          refine t_Ma_putBack_l105 _ _ _ hy8 ?_
          refine zr_iinc dX4_putBack_203 rfl (by decide) rfl ?_
          refine zr_goto (tgt := 26) dX4_putBack_206 (by decide) ?_
          obtain rfl := Option.some.inj h
          exact hk hx
        refine zr_if_eq (tgt := 98) dX4_putBack_81 (by decide) (fun hc6 => ?_) (fun hc6 => ?_)
        · have hp9 := zif_t hj5 hc6
          refine zr_iconst dX4_putBack_98 (by decide) ?_
          exact hp9
        · have hp10 := zif_f hj5 hc6
          refine zr_loadw dX4_putBack_84 rfl ?_
          refine zr_load ⟨_, dX4_putBack_86, rfl⟩ rfl ?_
          refine zr_isub dX4_putBack_87 ?_
          refine zr_load ⟨_, dX4_putBack_88, rfl⟩ rfl ?_
          refine zr_iconst dX4_putBack_89 (by decide) ?_
          refine zr_isub dX4_putBack_90 ?_
          refine zr_ic_ge (tgt := 98) dX4_putBack_91 (by decide) (fun hc11 => ?_) (fun hc11 => ?_)
          · have hp12 := zif_t hp10 hc11
            refine zr_iconst dX4_putBack_98 (by decide) ?_
            exact hp12
          · have hp13 := zif_f hp10 hc11
            refine zr_iconst dX4_putBack_94 (by decide) ?_
            refine zr_goto (tgt := 99) dX4_putBack_95 (by decide) ?_
            exact hp13
      · replace h := zneg h hc3
        refine zr_aload ⟨_, dX4_putBack_49, rfl⟩ rfl ?_
        refine zt_getr dX4_putBack_50 fl_X4_21 rfl rfl ?_
        refine zr_aload ⟨_, dX4_putBack_53, rfl⟩ rfl ?_
        refine zt_getr dX4_putBack_54 fl_X4_35 rfl rfl ?_
        refine zr_loadw dX4_putBack_57 rfl ?_
        obtain ⟨hb14, h⟩ := zchk h
        refine zt_baload dX4_putBack_59 rfl hb14 ?_
        obtain ⟨x15, hx15, h⟩ := zbind h
        refine zt_callv (t_Hi_add hx15) (zrun_V (rest := []) dX4_putBack_60 ml_X4_142 rfl rfl (by decide) (by decide) rfl (Nat.le_of_ble_eq_true rfl)) rfl rfl sb_TMa_THi_4 (Nat.le_refl _) (Nat.le_refl _) ?_
        refine zr_goto (tgt := 102) dX4_putBack_63 (by decide) ?_
        refine zr_iconst dX4_putBack_102 (by decide) ?_
        refine zr_storew dX4_putBack_103 (by decide) rfl ?_
        obtain ⟨y16, hy16, h⟩ := zbind h
        refine t_Ma_putBack_l105 _ _ _ hy16 ?_
        refine zr_iinc dX4_putBack_203 rfl (by decide) rfl ?_
        refine zr_goto (tgt := 26) dX4_putBack_206 (by decide) ?_
        obtain rfl := Option.some.inj h
        exact hk hx
set_option maxRecDepth 100000 in
set_option maxHeartbeats 4000000 in
theorem t_Ma_putBack {a1 a2 a3 : Int} {s : zSt} {res : Int × zSt} (h : f_Ma_putBack a1 a2 a3 s = some res) : zSpecT 6 m_X4_putBack [.inr (.inl (some 0)), .inl a1, .inl a2, .inl a3] TMa s none res.2 := by
  refine zSpec_of (by decide +kernel) (Nat.le_of_ble_eq_true rfl) ?_
  show zBT 6 m_X4_putBack TMa none res.2 0 [some (.inr (.inl (some 0))), some (.inl a1), some (.inl a2), some (.inl a3), none, none, none, none] [] s
  unfold f_Ma_putBack at h
  refine zr_aload ⟨_, dX4_putBack_0, rfl⟩ rfl ?_
  refine zt_getr dX4_putBack_1 fl_X4_21 rfl rfl ?_
  obtain ⟨x1, hx1, h⟩ := zbind h
  refine zt_callv (t_Hi_clear hx1) (zrun_V (rest := []) dX4_putBack_4 ml_X4_135 rfl rfl (by decide) (by decide) rfl (Nat.le_of_ble_eq_true rfl)) rfl rfl sb_TMa_THi_4 (Nat.le_refl _) (Nat.le_refl _) ?_
  refine zr_aload ⟨_, dX4_putBack_7, rfl⟩ rfl ?_
  refine zt_getr dX4_putBack_8 fl_X4_12 rfl rfl ?_
  refine zr_load ⟨_, dX4_putBack_11, rfl⟩ rfl ?_
  refine zr_load ⟨_, dX4_putBack_12, rfl⟩ rfl ?_
  obtain ⟨x2, hx2, h⟩ := zbind h
  refine zt_callv (t_Pi_begin hx2) (zrun_V (rest := []) dX4_putBack_13 ml_X4_138 rfl rfl (by decide) (by decide) rfl (Nat.le_of_ble_eq_true rfl)) rfl rfl sb_TMa_TPi_1 (Nat.le_refl _) (Nat.le_refl _) ?_
  refine zr_load ⟨_, dX4_putBack_16, rfl⟩ rfl ?_
  refine zr_bipush dX4_putBack_17 (by decide) (by decide) ?_
  refine zr_isub dX4_putBack_19 ?_
  refine zr_iconst dX4_putBack_20 (by decide) ?_
  refine zr_max dX4_putBack_21 ml_X4_80 (by decide) (Nat.le_refl _) (Nat.le_refl _) (Nat.le_of_ble_eq_true rfl) ?_
  refine zr_storew dX4_putBack_24 (by decide) rfl ?_
  refine zr_mask [true, true, false, true, true, false, false, false] rfl ?_
  obtain ⟨y3, hy3, h⟩ := zbind h
  refine t_Ma_putBack_l26 _ _ _ hy3 ?_
  obtain rfl := Option.some.inj h
  exact zt_vret dX4_putBack_209 rfl
set_option maxRecDepth 100000 in
set_option maxHeartbeats 4000000 in
theorem t_Ma_wrap_l48 {c2 c3 c4 c5 : Int} {r : Option zAV} {s0 : zSt}  : ∀ (n : Nat) (x : Int × Int × zSt) (out : zSt), zloop (f_Ma_wrap_l48 c2 c3 c4 c5) n x = some out → (zBT 7 m_X4_wrap TMaCu r s0 123 [some (.inr (.inl (some 0))), some (.inr (.inl (some 11))), some (.inl c2), some (.inl c3), none, none, none, none] [] out) → zBT 7 m_X4_wrap TMaCu r s0 48 [some (.inr (.inl (some 0))), some (.inr (.inl (some 11))), some (.inl c2), some (.inl c3), some (.inl c4), some (.inl c5), some (.inl x.1), some (.inl x.2.1)] [] x.2.2 := by
  refine zloop_B (B := fun (x : Int × Int × zSt) (out : zSt) => zBT 7 m_X4_wrap TMaCu r s0 123 [some (.inr (.inl (some 0))), some (.inr (.inl (some 11))), some (.inl c2), some (.inl c3), none, none, none, none] [] out → zBT 7 m_X4_wrap TMaCu r s0 48 [some (.inr (.inl (some 0))), some (.inr (.inl (some 11))), some (.inl c2), some (.inl c3), some (.inl c4), some (.inl c5), some (.inl x.1), some (.inl x.2.1)] [] x.2.2) ?_
  intro x o out h hk hx
  unfold f_Ma_wrap_l48 at h
  refine zr_loadw dX4_wrap_48 rfl ?_
  refine zr_loadw dX4_wrap_50 rfl ?_
  refine zr_ic_ge (tgt := 123) dX4_wrap_52 (by decide) (fun hc1 => ?_) (fun hc1 => ?_)
  · replace h := zpos h hc1
    refine zr_mask [true, true, true, true, false, false, false, false] rfl ?_
    obtain rfl := Option.some.inj h
    obtain rfl := hk
    exact hx
  · replace h := zneg h hc1
    refine zr_loadw dX4_wrap_55 rfl ?_
    refine zr_if_ne (tgt := 64) dX4_wrap_57 (by decide) (fun hc2 => ?_) (fun hc2 => ?_)
    · replace h := zpos h hc2
      refine zr_loadw dX4_wrap_64 rfl ?_
      refine zr_iconst dX4_wrap_66 (by decide) ?_
      refine zr_iadd dX4_wrap_67 ?_
      refine zr_loadw dX4_wrap_68 rfl ?_
      refine zr_ic_ge (tgt := 86) dX4_wrap_70 (by decide) (fun hc3 => ?_) (fun hc3 => ?_)
      · replace h := zpos h hc3
        refine zr_iconst dX4_wrap_86 (by decide) ?_
        refine zr_storew dX4_wrap_87 (by decide) rfl ?_
        refine zr_aload ⟨_, dX4_wrap_89, rfl⟩ rfl ?_
        refine zr_loadw dX4_wrap_90 rfl ?_
        refine zr_loadw dX4_wrap_92 rfl ?_
        refine zr_loadw dX4_wrap_94 rfl ?_
        refine zr_loadw dX4_wrap_96 rfl ?_
        refine zr_aload ⟨_, dX4_wrap_98, rfl⟩ rfl ?_
        refine zt_get dX4_wrap_99 fl_X4_57 rfl rfl ?_
        refine zr_iadd dX4_wrap_102 ?_
        have hj4 : zBT 7 m_X4_wrap TMaCu r s0 114 [some (.inr (.inl (some 0))), some (.inr (.inl (some 11))), some (.inl c2), some (.inl c3), some (.inl c4), some (.inl c5), some (.inl 0), some (.inl x.2.1)] [.inl (if ¬ x.2.1 = (w32 (c4 + (x.2.2.1 11 0))) then (-1) else (x.2.2.1 11 1)), .inl 0, .inl x.2.1, .inr (.inl (some 0))] x.2.2 := by
          obtain ⟨x6, hx6, h⟩ := zbind h
          refine zt_callv (t_Ma_layRow hx6) (zrun_V (rest := []) dX4_wrap_114 ml_X4_76 rfl rfl (by decide) (by decide) rfl (Nat.le_of_ble_eq_true rfl)) rfl rfl sb_TMaCu_TMa_0 (Nat.le_refl _) (Nat.le_refl _) ?_
          refine zr_iinc dX4_wrap_117 rfl (by decide) rfl ?_
          refine zr_goto (tgt := 48) dX4_wrap_120 (by decide) ?_
          obtain rfl := Option.some.inj h
          exact hk hx
        refine zr_ic_ne (tgt := 113) dX4_wrap_103 (by decide) (fun hc5 => ?_) (fun hc5 => ?_)
        · have hp7 := zif_t hj4 hc5
          refine zr_iconst dX4_wrap_113 (by decide) ?_
          exact hp7
        · have hp8 := zif_f hj4 hc5
          refine zr_aload ⟨_, dX4_wrap_106, rfl⟩ rfl ?_
          refine zt_get dX4_wrap_107 fl_X4_73 rfl rfl ?_
          refine zr_goto (tgt := 114) dX4_wrap_110 (by decide) ?_
          exact hp8
      · replace h := zneg h hc3
        refine zr_aload ⟨_, dX4_wrap_73, rfl⟩ rfl ?_
        refine zr_loadw dX4_wrap_74 rfl ?_
        obtain ⟨x9, hx9, h⟩ := zbind h
        refine zt_callis (t_Ma_isGoing hx9) (zrun_V (rest := []) dX4_wrap_76 ml_X4_69 rfl rfl (by decide) (by decide) rfl (Nat.le_of_ble_eq_true rfl)) rfl rfl sb_TMaCu_TMa_0 (Nat.le_refl _) (Nat.le_refl _) ?_
        have hj10 : zBT 7 m_X4_wrap TMaCu r s0 87 [some (.inr (.inl (some 0))), some (.inr (.inl (some 11))), some (.inl c2), some (.inl c3), some (.inl c4), some (.inl c5), some (.inl x.1), some (.inl x.2.1)] [.inl (if x9 = 0 then 0 else 1)] x.2.2 := by
          refine zr_storew dX4_wrap_87 (by decide) rfl ?_
          refine zr_aload ⟨_, dX4_wrap_89, rfl⟩ rfl ?_
          refine zr_loadw dX4_wrap_90 rfl ?_
          refine zr_loadw dX4_wrap_92 rfl ?_
          refine zr_loadw dX4_wrap_94 rfl ?_
          refine zr_loadw dX4_wrap_96 rfl ?_
          refine zr_aload ⟨_, dX4_wrap_98, rfl⟩ rfl ?_
          refine zt_get dX4_wrap_99 fl_X4_57 rfl rfl ?_
          refine zr_iadd dX4_wrap_102 ?_
          have hj12 : zBT 7 m_X4_wrap TMaCu r s0 114 [some (.inr (.inl (some 0))), some (.inr (.inl (some 11))), some (.inl c2), some (.inl c3), some (.inl c4), some (.inl c5), some (.inl (if x9 = 0 then 0 else 1)), some (.inl x.2.1)] [.inl (if ¬ x.2.1 = (w32 (c4 + (x.2.2.1 11 0))) then (-1) else (x.2.2.1 11 1)), .inl (if x9 = 0 then 0 else 1), .inl x.2.1, .inr (.inl (some 0))] x.2.2 := by
            obtain ⟨x14, hx14, h⟩ := zbind h
            refine zt_callv (t_Ma_layRow hx14) (zrun_V (rest := []) dX4_wrap_114 ml_X4_76 rfl rfl (by decide) (by decide) rfl (Nat.le_of_ble_eq_true rfl)) rfl rfl sb_TMaCu_TMa_0 (Nat.le_refl _) (Nat.le_refl _) ?_
            refine zr_iinc dX4_wrap_117 rfl (by decide) rfl ?_
            refine zr_goto (tgt := 48) dX4_wrap_120 (by decide) ?_
            obtain rfl := Option.some.inj h
            exact hk hx
          refine zr_ic_ne (tgt := 113) dX4_wrap_103 (by decide) (fun hc13 => ?_) (fun hc13 => ?_)
          · have hp15 := zif_t hj12 hc13
            refine zr_iconst dX4_wrap_113 (by decide) ?_
            exact hp15
          · have hp16 := zif_f hj12 hc13
            refine zr_aload ⟨_, dX4_wrap_106, rfl⟩ rfl ?_
            refine zt_get dX4_wrap_107 fl_X4_73 rfl rfl ?_
            refine zr_goto (tgt := 114) dX4_wrap_110 (by decide) ?_
            exact hp16
        refine zr_if_eq (tgt := 86) dX4_wrap_79 (by decide) (fun hc11 => ?_) (fun hc11 => ?_)
        · have hp17 := zif_t hj10 hc11
          refine zr_iconst dX4_wrap_86 (by decide) ?_
          exact hp17
        · have hp18 := zif_f hj10 hc11
          refine zr_iconst dX4_wrap_82 (by decide) ?_
          refine zr_goto (tgt := 87) dX4_wrap_83 (by decide) ?_
          exact hp18
    · replace h := zneg h hc2
      refine zr_aload ⟨_, dX4_wrap_60, rfl⟩ rfl ?_
      obtain ⟨x19, hx19, h⟩ := zbind h
      refine zt_callv (t_Ma_beginRow hx19) (zrun_V (rest := []) dX4_wrap_61 ml_X4_66 rfl rfl (by decide) (by decide) rfl (Nat.le_of_ble_eq_true rfl)) rfl rfl sb_TMaCu_TMa_0 (Nat.le_refl _) (Nat.le_refl _) ?_
      refine zr_loadw dX4_wrap_64 rfl ?_
      refine zr_iconst dX4_wrap_66 (by decide) ?_
      refine zr_iadd dX4_wrap_67 ?_
      refine zr_loadw dX4_wrap_68 rfl ?_
      refine zr_ic_ge (tgt := 86) dX4_wrap_70 (by decide) (fun hc20 => ?_) (fun hc20 => ?_)
      · replace h := zpos h hc20
        refine zr_iconst dX4_wrap_86 (by decide) ?_
        refine zr_storew dX4_wrap_87 (by decide) rfl ?_
        refine zr_aload ⟨_, dX4_wrap_89, rfl⟩ rfl ?_
        refine zr_loadw dX4_wrap_90 rfl ?_
        refine zr_loadw dX4_wrap_92 rfl ?_
        refine zr_loadw dX4_wrap_94 rfl ?_
        refine zr_loadw dX4_wrap_96 rfl ?_
        refine zr_aload ⟨_, dX4_wrap_98, rfl⟩ rfl ?_
        refine zt_get dX4_wrap_99 fl_X4_57 rfl rfl ?_
        refine zr_iadd dX4_wrap_102 ?_
        have hj21 : zBT 7 m_X4_wrap TMaCu r s0 114 [some (.inr (.inl (some 0))), some (.inr (.inl (some 11))), some (.inl c2), some (.inl c3), some (.inl c4), some (.inl c5), some (.inl 0), some (.inl x.2.1)] [.inl (if ¬ x.2.1 = (w32 (c4 + (x.2.2.1 11 0))) then (-1) else (x.2.2.1 11 1)), .inl 0, .inl x.2.1, .inr (.inl (some 0))] (zpb (zsh 0) 11 x.2.2 x19.2) := by
          obtain ⟨x23, hx23, h⟩ := zbind h
          refine zt_callv (t_Ma_layRow hx23) (zrun_V (rest := []) dX4_wrap_114 ml_X4_76 rfl rfl (by decide) (by decide) rfl (Nat.le_of_ble_eq_true rfl)) rfl rfl sb_TMaCu_TMa_0 (Nat.le_refl _) (Nat.le_refl _) ?_
          refine zr_iinc dX4_wrap_117 rfl (by decide) rfl ?_
          refine zr_goto (tgt := 48) dX4_wrap_120 (by decide) ?_
          obtain rfl := Option.some.inj h
          exact hk hx
        refine zr_ic_ne (tgt := 113) dX4_wrap_103 (by decide) (fun hc22 => ?_) (fun hc22 => ?_)
        · have hp24 := zif_t hj21 hc22
          refine zr_iconst dX4_wrap_113 (by decide) ?_
          exact hp24
        · have hp25 := zif_f hj21 hc22
          refine zr_aload ⟨_, dX4_wrap_106, rfl⟩ rfl ?_
          refine zt_get dX4_wrap_107 fl_X4_73 rfl rfl ?_
          refine zr_goto (tgt := 114) dX4_wrap_110 (by decide) ?_
          exact hp25
      · replace h := zneg h hc20
        refine zr_aload ⟨_, dX4_wrap_73, rfl⟩ rfl ?_
        refine zr_loadw dX4_wrap_74 rfl ?_
        obtain ⟨x26, hx26, h⟩ := zbind h
        refine zt_callis (t_Ma_isGoing hx26) (zrun_V (rest := []) dX4_wrap_76 ml_X4_69 rfl rfl (by decide) (by decide) rfl (Nat.le_of_ble_eq_true rfl)) rfl rfl sb_TMaCu_TMa_0 (Nat.le_refl _) (Nat.le_refl _) ?_
        have hj27 : zBT 7 m_X4_wrap TMaCu r s0 87 [some (.inr (.inl (some 0))), some (.inr (.inl (some 11))), some (.inl c2), some (.inl c3), some (.inl c4), some (.inl c5), some (.inl x.1), some (.inl x.2.1)] [.inl (if x26 = 0 then 0 else 1)] (zpb (zsh 0) 11 x.2.2 x19.2) := by
          refine zr_storew dX4_wrap_87 (by decide) rfl ?_
          refine zr_aload ⟨_, dX4_wrap_89, rfl⟩ rfl ?_
          refine zr_loadw dX4_wrap_90 rfl ?_
          refine zr_loadw dX4_wrap_92 rfl ?_
          refine zr_loadw dX4_wrap_94 rfl ?_
          refine zr_loadw dX4_wrap_96 rfl ?_
          refine zr_aload ⟨_, dX4_wrap_98, rfl⟩ rfl ?_
          refine zt_get dX4_wrap_99 fl_X4_57 rfl rfl ?_
          refine zr_iadd dX4_wrap_102 ?_
          have hj29 : zBT 7 m_X4_wrap TMaCu r s0 114 [some (.inr (.inl (some 0))), some (.inr (.inl (some 11))), some (.inl c2), some (.inl c3), some (.inl c4), some (.inl c5), some (.inl (if x26 = 0 then 0 else 1)), some (.inl x.2.1)] [.inl (if ¬ x.2.1 = (w32 (c4 + (x.2.2.1 11 0))) then (-1) else (x.2.2.1 11 1)), .inl (if x26 = 0 then 0 else 1), .inl x.2.1, .inr (.inl (some 0))] (zpb (zsh 0) 11 x.2.2 x19.2) := by
            obtain ⟨x31, hx31, h⟩ := zbind h
            refine zt_callv (t_Ma_layRow hx31) (zrun_V (rest := []) dX4_wrap_114 ml_X4_76 rfl rfl (by decide) (by decide) rfl (Nat.le_of_ble_eq_true rfl)) rfl rfl sb_TMaCu_TMa_0 (Nat.le_refl _) (Nat.le_refl _) ?_
            refine zr_iinc dX4_wrap_117 rfl (by decide) rfl ?_
            refine zr_goto (tgt := 48) dX4_wrap_120 (by decide) ?_
            obtain rfl := Option.some.inj h
            exact hk hx
          refine zr_ic_ne (tgt := 113) dX4_wrap_103 (by decide) (fun hc30 => ?_) (fun hc30 => ?_)
          · have hp32 := zif_t hj29 hc30
            refine zr_iconst dX4_wrap_113 (by decide) ?_
            exact hp32
          · have hp33 := zif_f hj29 hc30
            refine zr_aload ⟨_, dX4_wrap_106, rfl⟩ rfl ?_
            refine zt_get dX4_wrap_107 fl_X4_73 rfl rfl ?_
            refine zr_goto (tgt := 114) dX4_wrap_110 (by decide) ?_
            exact hp33
        refine zr_if_eq (tgt := 86) dX4_wrap_79 (by decide) (fun hc28 => ?_) (fun hc28 => ?_)
        · have hp34 := zif_t hj27 hc28
          refine zr_iconst dX4_wrap_86 (by decide) ?_
          exact hp34
        · have hp35 := zif_f hj27 hc28
          refine zr_iconst dX4_wrap_82 (by decide) ?_
          refine zr_goto (tgt := 87) dX4_wrap_83 (by decide) ?_
          exact hp35
set_option maxRecDepth 100000 in
set_option maxHeartbeats 4000000 in
theorem t_Ma_wrap {a2 a3 : Int} {s : zSt} {res : Int × zSt} (h : f_Ma_wrap a2 a3 s = some res) : zSpecT 7 m_X4_wrap [.inr (.inl (some 0)), .inr (.inl (some 11)), .inl a2, .inl a3] TMaCu s none res.2 := by
  refine zSpec_of (by decide +kernel) (Nat.le_of_ble_eq_true rfl) ?_
  show zBT 7 m_X4_wrap TMaCu none res.2 0 [some (.inr (.inl (some 0))), some (.inr (.inl (some 11))), some (.inl a2), some (.inl a3), none, none, none, none] [] s
  unfold f_Ma_wrap at h
  refine zr_aload ⟨_, dX4_wrap_0, rfl⟩ rfl ?_
  refine zr_load ⟨_, dX4_wrap_1, rfl⟩ rfl ?_
  refine zt_put dX4_wrap_2 fl_X4_39 rfl rfl ?_
  refine zr_aload ⟨_, dX4_wrap_5, rfl⟩ rfl ?_
  refine zr_iconst dX4_wrap_6 (by decide) ?_
  refine zt_put dX4_wrap_7 fl_X4_43 rfl rfl ?_
  refine zr_aload ⟨_, dX4_wrap_10, rfl⟩ rfl ?_
  refine zr_iconst dX4_wrap_11 (by decide) ?_
  refine zt_put dX4_wrap_12 fl_X4_46 rfl rfl ?_
  refine zr_aload ⟨_, dX4_wrap_15, rfl⟩ rfl ?_
  refine zr_iconst dX4_wrap_16 (by decide) ?_
  refine zt_putz dX4_wrap_17 fl_X4_49 rfl rfl (Or.inl rfl) ?_
  refine zr_aload ⟨_, dX4_wrap_20, rfl⟩ rfl ?_
  refine zt_getr dX4_wrap_21 fl_X4_21 rfl rfl ?_
  obtain ⟨x1, hx1, h⟩ := zbind h
  refine zt_callis (t_Hi_count hx1) (zrun_V (rest := []) dX4_wrap_24 ml_X4_53 rfl rfl (by decide) (by decide) rfl (Nat.le_of_ble_eq_true rfl)) rfl rfl sb_TMaCu_THi_4 (Nat.le_refl _) (Nat.le_refl _) ?_
  refine zr_storew dX4_wrap_27 (by decide) rfl ?_
  refine zr_loadw dX4_wrap_29 rfl ?_
  refine zr_aload ⟨_, dX4_wrap_31, rfl⟩ rfl ?_
  refine zr_aload ⟨_, dX4_wrap_32, rfl⟩ rfl ?_
  refine zt_get dX4_wrap_33 fl_X4_57 rfl rfl ?_
  obtain ⟨x2, hx2, h⟩ := zbind h
  refine zt_callis (t_Ma_keptRows hx2) (zrun_V (rest := [.inl x1]) dX4_wrap_36 ml_X4_62 rfl rfl (by decide) (by decide) rfl (Nat.le_of_ble_eq_true rfl)) rfl rfl sb_TMaCu_TMa_0 (Nat.le_refl _) (Nat.le_refl _) ?_
  refine zr_iadd dX4_wrap_39 ?_
  refine zr_storew dX4_wrap_40 (by decide) rfl ?_
  refine zr_iconst dX4_wrap_42 (by decide) ?_
  refine zr_storew dX4_wrap_43 (by decide) rfl ?_
  refine zr_iconst dX4_wrap_45 (by decide) ?_
  refine zr_storew dX4_wrap_46 (by decide) rfl ?_
  obtain ⟨y3, hy3, h⟩ := zbind h
  refine t_Ma_wrap_l48 _ _ _ hy3 ?_
  refine zr_aload ⟨_, dX4_wrap_123, rfl⟩ rfl ?_
  refine zt_get dX4_wrap_124 fl_X4_46 rfl rfl ?_
  refine zr_load ⟨_, dX4_wrap_127, rfl⟩ rfl ?_
  refine zr_isub dX4_wrap_128 ?_
  refine zr_iconst dX4_wrap_129 (by decide) ?_
  refine zr_max dX4_wrap_130 ml_X4_80 (by decide) (Nat.le_refl _) (Nat.le_refl _) (Nat.le_of_ble_eq_true rfl) ?_
  refine zr_aload ⟨_, dX4_wrap_133, rfl⟩ rfl ?_
  refine zt_get dX4_wrap_134 fl_X4_86 rfl rfl ?_
  refine zr_min dX4_wrap_137 ml_X4_89 (by decide) (Nat.le_refl _) (Nat.le_refl _) (Nat.le_of_ble_eq_true rfl) ?_
  refine zr_storew dX4_wrap_140 (by decide) rfl ?_
  refine zr_aload ⟨_, dX4_wrap_142, rfl⟩ rfl ?_
  refine zr_load ⟨_, dX4_wrap_143, rfl⟩ rfl ?_
  refine zr_load ⟨_, dX4_wrap_144, rfl⟩ rfl ?_
  refine zr_loadw dX4_wrap_145 rfl ?_
  obtain ⟨x4, hx4, h⟩ := zbind h
  refine zt_callv (t_Ma_putBack hx4) (zrun_V (rest := []) dX4_wrap_147 ml_X4_92 rfl rfl (by decide) (by decide) rfl (Nat.le_of_ble_eq_true rfl)) rfl rfl sb_TMaCu_TMa_0 (Nat.le_refl _) (Nat.le_refl _) ?_
  refine zr_aload ⟨_, dX4_wrap_150, rfl⟩ rfl ?_
  refine zr_aload ⟨_, dX4_wrap_151, rfl⟩ rfl ?_
  refine zt_get dX4_wrap_152 fl_X4_86 rfl rfl ?_
  refine zr_loadw dX4_wrap_155 rfl ?_
  refine zr_isub dX4_wrap_157 ?_
  refine zt_put dX4_wrap_158 fl_X4_57 rfl rfl ?_
  refine zr_aload ⟨_, dX4_wrap_161, rfl⟩ rfl ?_
  refine zr_aload ⟨_, dX4_wrap_162, rfl⟩ rfl ?_
  refine zt_get dX4_wrap_163 fl_X4_96 rfl rfl ?_
  refine zt_put dX4_wrap_166 fl_X4_73 rfl rfl ?_
  refine zr_aload ⟨_, dX4_wrap_169, rfl⟩ rfl ?_
  refine zr_aload ⟨_, dX4_wrap_170, rfl⟩ rfl ?_
  refine zt_get dX4_wrap_171 fl_X4_99 rfl rfl ?_
  have hj5 : zBT 7 m_X4_wrap TMaCu none res.2 195 [some (.inr (.inl (some 0))), some (.inr (.inl (some 11))), some (.inl a2), some (.inl a3), none, none, none, some (.inl (if (y3.1 0 9) < (if (w32 ((y3.1 0 8) - a2)) < 0 then 0 else (w32 ((y3.1 0 8) - a2))) then (y3.1 0 9) else (if (w32 ((y3.1 0 8) - a2)) < 0 then 0 else (w32 ((y3.1 0 8) - a2)))))] [.inl (if (y3.1 11 2) = 0 then 0 else (if ¬ (x4.2.1 0 10) = (w32 ((x4.2.1 0 6) - 1)) then 0 else 1)), .inr (.inl (some 11))] (uS (uS (zpb (zsh 0) 11 y3 x4.2) 11 0 (w32 ((x4.2.1 0 9) - (if (y3.1 0 9) < (if (w32 ((y3.1 0 8) - a2)) < 0 then 0 else (w32 ((y3.1 0 8) - a2))) then (y3.1 0 9) else (if (w32 ((y3.1 0 8) - a2)) < 0 then 0 else (w32 ((y3.1 0 8) - a2))))))) 11 1 (x4.2.1 0 10)) := by
    refine zt_putz dX4_wrap_195 fl_X4_99 rfl rfl (z01i (Or.inl rfl) (z01i (Or.inl rfl) (Or.inr rfl))) ?_
    obtain rfl := Option.some.inj h
    exact zt_vret dX4_wrap_198 rfl
  refine zr_if_eq (tgt := 194) dX4_wrap_174 (by decide) (fun hc6 => ?_) (fun hc6 => ?_)
  · have hp7 := zif_t hj5 hc6
    refine zr_iconst dX4_wrap_194 (by decide) ?_
    exact hp7
  · have hp8 := zif_f hj5 hc6
    refine zr_aload ⟨_, dX4_wrap_177, rfl⟩ rfl ?_
    refine zt_get dX4_wrap_178 fl_X4_96 rfl rfl ?_
    refine zr_aload ⟨_, dX4_wrap_181, rfl⟩ rfl ?_
    refine zt_get dX4_wrap_182 fl_X4_39 rfl rfl ?_
    refine zr_iconst dX4_wrap_185 (by decide) ?_
    refine zr_isub dX4_wrap_186 ?_
    refine zr_ic_ne (tgt := 194) dX4_wrap_187 (by decide) (fun hc9 => ?_) (fun hc9 => ?_)
    · have hp10 := zif_t hp8 hc9
      refine zr_iconst dX4_wrap_194 (by decide) ?_
      exact hp10
    · have hp11 := zif_f hp8 hc9
      refine zr_iconst dX4_wrap_190 (by decide) ?_
      refine zr_goto (tgt := 195) dX4_wrap_191 (by decide) ?_
      exact hp11
