set_option maxRecDepth 100000 in
set_option maxHeartbeats 4000000 in
theorem t_By_count  {s : zSt} {res : Int} (h : f_By_count s = some res) : zSpecT 1 m_X0_count [.inr (.inl (some 0))] TBy s (some (.inl res)) s := by
  refine zSpec_of (by decide +kernel) (Nat.le_of_ble_eq_true rfl) ?_
  show zBT 1 m_X0_count TBy (some (.inl res)) s 0 [some (.inr (.inl (some 0)))] [] s
  unfold f_By_count at h
  refine zr_aload ⟨_, dX0_count_0, rfl⟩ rfl ?_
  refine zt_get dX0_count_1 fl_X0_21 rfl rfl ?_
  obtain rfl := Option.some.inj h
  exact zt_iret dX0_count_4 rfl
set_option maxRecDepth 100000 in
set_option maxHeartbeats 4000000 in
theorem t_By_room  {s : zSt} {res : Int} (h : f_By_room s = some res) : zSpecT 1 m_X0_room [.inr (.inl (some 0))] TBy s (some (.inl res)) s := by
  refine zSpec_of (by decide +kernel) (Nat.le_of_ble_eq_true rfl) ?_
  show zBT 1 m_X0_room TBy (some (.inl res)) s 0 [some (.inr (.inl (some 0)))] [] s
  unfold f_By_room at h
  refine zr_aload ⟨_, dX0_room_0, rfl⟩ rfl ?_
  refine zt_getr dX0_room_1 fl_X0_15 rfl rfl ?_
  obtain ⟨hb1, h⟩ := zchk h
  refine zt_alen dX0_room_4 rfl (by decide) hb1 ?_
  refine zr_aload ⟨_, dX0_room_5, rfl⟩ rfl ?_
  refine zt_get dX0_room_6 fl_X0_21 rfl rfl ?_
  refine zr_isub dX0_room_9 ?_
  obtain rfl := Option.some.inj h
  exact zt_iret dX0_room_10 rfl
set_option maxRecDepth 100000 in
set_option maxHeartbeats 4000000 in
theorem t_By_placeOf {a1 : Int} {s : zSt} {res : Int} (h : f_By_placeOf a1 s = some res) : zSpecT 1 m_X0_placeOf [.inr (.inl (some 0)), .inl a1] TBy s (some (.inl res)) s := by
  refine zSpec_of (by decide +kernel) (Nat.le_of_ble_eq_true rfl) ?_
  show zBT 1 m_X0_placeOf TBy (some (.inl res)) s 0 [some (.inr (.inl (some 0))), some (.inl a1), none] [] s
  unfold f_By_placeOf at h
  refine zr_aload ⟨_, dX0_placeOf_0, rfl⟩ rfl ?_
  refine zt_get dX0_placeOf_1 fl_X0_25 rfl rfl ?_
  refine zr_load ⟨_, dX0_placeOf_4, rfl⟩ rfl ?_
  refine zr_iadd dX0_placeOf_5 ?_
  refine zr_store ⟨_, dX0_placeOf_6, rfl⟩ (by decide) rfl ?_
  refine zr_load ⟨_, dX0_placeOf_7, rfl⟩ rfl ?_
  refine zr_aload ⟨_, dX0_placeOf_8, rfl⟩ rfl ?_
  refine zt_getr dX0_placeOf_9 fl_X0_15 rfl rfl ?_
  obtain ⟨hb1, h⟩ := zchk h
  refine zt_alen dX0_placeOf_12 rfl (by decide) hb1 ?_
  refine zr_ic_lt (tgt := 26) dX0_placeOf_13 (by decide) (fun hc2 => ?_) (fun hc2 => ?_)
  · replace h := zpos h hc2
    refine zr_load ⟨_, dX0_placeOf_26, rfl⟩ rfl ?_
    obtain rfl := Option.some.inj h
    exact zt_iret dX0_placeOf_27 rfl
  · replace h := zneg h hc2
    refine zr_load ⟨_, dX0_placeOf_16, rfl⟩ rfl ?_
    refine zr_aload ⟨_, dX0_placeOf_17, rfl⟩ rfl ?_
    refine zt_getr dX0_placeOf_18 fl_X0_15 rfl rfl ?_
    obtain ⟨hb3, h⟩ := zchk h
    refine zt_alen dX0_placeOf_21 rfl (by decide) hb3 ?_
    refine zr_isub dX0_placeOf_22 ?_
    refine zr_goto (tgt := 27) dX0_placeOf_23 (by decide) ?_
    obtain rfl := Option.some.inj h
    exact zt_iret dX0_placeOf_27 rfl
set_option maxRecDepth 100000 in
set_option maxHeartbeats 4000000 in
theorem t_By_clear  {s : zSt} {res : Int × zSt} (h : f_By_clear s = some res) : zSpecT 1 m_X0_clear [.inr (.inl (some 0))] TBy s none res.2 := by
  refine zSpec_of (by decide +kernel) (Nat.le_of_ble_eq_true rfl) ?_
  show zBT 1 m_X0_clear TBy none res.2 0 [some (.inr (.inl (some 0)))] [] s
  unfold f_By_clear at h
  refine zr_aload ⟨_, dX0_clear_0, rfl⟩ rfl ?_
  refine zr_iconst dX0_clear_1 (by decide) ?_
  refine zt_put dX0_clear_2 fl_X0_25 rfl rfl ?_
  refine zr_aload ⟨_, dX0_clear_5, rfl⟩ rfl ?_
  refine zr_iconst dX0_clear_6 (by decide) ?_
  refine zt_put dX0_clear_7 fl_X0_21 rfl rfl ?_
  obtain rfl := Option.some.inj h
  exact zt_vret dX0_clear_10 rfl
set_option maxRecDepth 100000 in
set_option maxHeartbeats 4000000 in
theorem t_By_add {a1 : Int} {s : zSt} {res : Int × zSt} (h : f_By_add a1 s = some res) : zSpecT 2 m_X0_add [.inr (.inl (some 0)), .inl a1] TBy s (some (.inl res.1)) res.2 := by
  refine zSpec_of (by decide +kernel) (Nat.le_of_ble_eq_true rfl) ?_
  show zBT 2 m_X0_add TBy (some (.inl res.1)) res.2 0 [some (.inr (.inl (some 0))), some (.inl a1), none] [] s
  unfold f_By_add at h
  refine zr_aload ⟨_, dX0_add_0, rfl⟩ rfl ?_
  refine zr_aload ⟨_, dX0_add_1, rfl⟩ rfl ?_
  refine zt_get dX0_add_2 fl_X0_21 rfl rfl ?_
  obtain ⟨x1, hx1, h⟩ := zbind h
  refine zt_callisi (t_By_placeOf hx1) (zrun_V (rest := []) dX0_add_5 ml_X0_28 rfl rfl (by decide) (by decide) rfl (Nat.le_of_ble_eq_true rfl)) rfl rfl (Nat.le_refl _) (Nat.le_refl _) ?_
  refine zr_store ⟨_, dX0_add_8, rfl⟩ (by decide) rfl ?_
  refine zr_aload ⟨_, dX0_add_9, rfl⟩ rfl ?_
  refine zt_get dX0_add_10 fl_X0_21 rfl rfl ?_
  refine zr_aload ⟨_, dX0_add_13, rfl⟩ rfl ?_
  refine zt_getr dX0_add_14 fl_X0_15 rfl rfl ?_
  obtain ⟨hb2, h⟩ := zchk h
  refine zt_alen dX0_add_17 rfl (by decide) hb2 ?_
  refine zr_ic_ge (tgt := 34) dX0_add_18 (by decide) (fun hc3 => ?_) (fun hc3 => ?_)
  · replace h := zpos h hc3
    refine zr_iconst dX0_add_34 (by decide) ?_
    obtain rfl := Option.some.inj h
    exact zt_zret dX0_add_35 rfl (Or.inl rfl)
  · replace h := zneg h hc3
    refine zr_load ⟨_, dX0_add_21, rfl⟩ rfl ?_
    refine zr_if_lt (tgt := 34) dX0_add_22 (by decide) (fun hc4 => ?_) (fun hc4 => ?_)
    · replace h := zpos h hc4
      refine zr_iconst dX0_add_34 (by decide) ?_
      obtain rfl := Option.some.inj h
      exact zt_zret dX0_add_35 rfl (Or.inl rfl)
    · replace h := zneg h hc4
      refine zr_load ⟨_, dX0_add_25, rfl⟩ rfl ?_
      refine zr_aload ⟨_, dX0_add_26, rfl⟩ rfl ?_
      refine zt_getr dX0_add_27 fl_X0_15 rfl rfl ?_
      obtain ⟨hb5, h⟩ := zchk h
      refine zt_alen dX0_add_30 rfl (by decide) hb5 ?_
      refine zr_ic_lt (tgt := 36) dX0_add_31 (by decide) (fun hc6 => ?_) (fun hc6 => ?_)
      · replace h := zpos h hc6
        refine zr_aload ⟨_, dX0_add_36, rfl⟩ rfl ?_
        refine zt_getr dX0_add_37 fl_X0_15 rfl rfl ?_
        refine zr_load ⟨_, dX0_add_40, rfl⟩ rfl ?_
        refine zr_load ⟨_, dX0_add_41, rfl⟩ rfl ?_
        obtain ⟨hb7, h⟩ := zchk h
        refine zt_iastore dX0_add_42 rfl hb7 ?_
        refine zr_aload ⟨_, dX0_add_43, rfl⟩ rfl ?_
        refine zr_dup dX0_add_44 (Or.inl True.intro) ?_
        refine zt_get dX0_add_45 fl_X0_21 rfl rfl ?_
        refine zr_iconst dX0_add_48 (by decide) ?_
        refine zr_iadd dX0_add_49 ?_
        refine zt_put dX0_add_50 fl_X0_21 rfl rfl ?_
        refine zr_iconst dX0_add_53 (by decide) ?_
        obtain rfl := Option.some.inj h
        exact zt_zret dX0_add_54 rfl (Or.inr rfl)
      · replace h := zneg h hc6
        refine zr_iconst dX0_add_34 (by decide) ?_
        obtain rfl := Option.some.inj h
        exact zt_zret dX0_add_35 rfl (Or.inl rfl)
set_option maxRecDepth 100000 in
set_option maxHeartbeats 4000000 in
theorem t_By_at {a1 : Int} {s : zSt} {res : Int} (h : f_By_at a1 s = some res) : zSpecT 2 m_X0_at [.inr (.inl (some 0)), .inl a1] TBy s (some (.inl res)) s := by
  refine zSpec_of (by decide +kernel) (Nat.le_of_ble_eq_true rfl) ?_
  show zBT 2 m_X0_at TBy (some (.inl res)) s 0 [some (.inr (.inl (some 0))), some (.inl a1), none] [] s
  unfold f_By_at at h
  refine zr_aload ⟨_, dX0_at_0, rfl⟩ rfl ?_
  refine zr_load ⟨_, dX0_at_1, rfl⟩ rfl ?_
  obtain ⟨x1, hx1, h⟩ := zbind h
  refine zt_callisi (t_By_placeOf hx1) (zrun_V (rest := []) dX0_at_2 ml_X0_28 rfl rfl (by decide) (by decide) rfl (Nat.le_of_ble_eq_true rfl)) rfl rfl (Nat.le_refl _) (Nat.le_refl _) ?_
  refine zr_store ⟨_, dX0_at_5, rfl⟩ (by decide) rfl ?_
  refine zr_load ⟨_, dX0_at_6, rfl⟩ rfl ?_
  refine zr_if_lt (tgt := 31) dX0_at_7 (by decide) (fun hc2 => ?_) (fun hc2 => ?_)
  · replace h := zpos h hc2
    refine zr_iconst dX0_at_31 (by decide) ?_
    obtain rfl := Option.some.inj h
    exact zt_iret dX0_at_32 rfl
  · replace h := zneg h hc2
    refine zr_load ⟨_, dX0_at_10, rfl⟩ rfl ?_
    refine zr_aload ⟨_, dX0_at_11, rfl⟩ rfl ?_
    refine zt_get dX0_at_12 fl_X0_21 rfl rfl ?_
    refine zr_ic_ge (tgt := 31) dX0_at_15 (by decide) (fun hc3 => ?_) (fun hc3 => ?_)
    · replace h := zpos h hc3
      refine zr_iconst dX0_at_31 (by decide) ?_
      obtain rfl := Option.some.inj h
      exact zt_iret dX0_at_32 rfl
    · replace h := zneg h hc3
      refine zr_load ⟨_, dX0_at_18, rfl⟩ rfl ?_
      refine zr_if_lt (tgt := 31) dX0_at_19 (by decide) (fun hc4 => ?_) (fun hc4 => ?_)
      · replace h := zpos h hc4
        refine zr_iconst dX0_at_31 (by decide) ?_
        obtain rfl := Option.some.inj h
        exact zt_iret dX0_at_32 rfl
      · replace h := zneg h hc4
        refine zr_load ⟨_, dX0_at_22, rfl⟩ rfl ?_
        refine zr_aload ⟨_, dX0_at_23, rfl⟩ rfl ?_
        refine zt_getr dX0_at_24 fl_X0_15 rfl rfl ?_
        obtain ⟨hb5, h⟩ := zchk h
        refine zt_alen dX0_at_27 rfl (by decide) hb5 ?_
        refine zr_ic_lt (tgt := 33) dX0_at_28 (by decide) (fun hc6 => ?_) (fun hc6 => ?_)
        · replace h := zpos h hc6
          refine zr_aload ⟨_, dX0_at_33, rfl⟩ rfl ?_
          refine zt_getr dX0_at_34 fl_X0_15 rfl rfl ?_
          refine zr_load ⟨_, dX0_at_37, rfl⟩ rfl ?_
          obtain ⟨hb7, h⟩ := zchk h
          refine zt_iaload dX0_at_38 rfl hb7 ?_
          obtain rfl := Option.some.inj h
          exact zt_iret dX0_at_39 rfl
        · replace h := zneg h hc6
          refine zr_iconst dX0_at_31 (by decide) ?_
          obtain rfl := Option.some.inj h
          exact zt_iret dX0_at_32 rfl
set_option maxRecDepth 100000 in
set_option maxHeartbeats 4000000 in
theorem t_By_removeFirst  {s : zSt} {res : Int × zSt} (h : f_By_removeFirst s = some res) : zSpecT 2 m_X0_removeFirst [.inr (.inl (some 0))] TBy s (some (.inl res.1)) res.2 := by
  refine zSpec_of (by decide +kernel) (Nat.le_of_ble_eq_true rfl) ?_
  show zBT 2 m_X0_removeFirst TBy (some (.inl res.1)) res.2 0 [some (.inr (.inl (some 0))), none] [] s
  unfold f_By_removeFirst at h
  refine zr_aload ⟨_, dX0_removeFirst_0, rfl⟩ rfl ?_
  refine zt_get dX0_removeFirst_1 fl_X0_21 rfl rfl ?_
  refine zr_if_le (tgt := 26) dX0_removeFirst_4 (by decide) (fun hc1 => ?_) (fun hc1 => ?_)
  · replace h := zpos h hc1
    refine zr_iconst dX0_removeFirst_26 (by decide) ?_
    obtain rfl := Option.some.inj h
    exact zt_iret dX0_removeFirst_27 rfl
  · replace h := zneg h hc1
    refine zr_aload ⟨_, dX0_removeFirst_7, rfl⟩ rfl ?_
    refine zt_get dX0_removeFirst_8 fl_X0_25 rfl rfl ?_
    refine zr_if_lt (tgt := 26) dX0_removeFirst_11 (by decide) (fun hc2 => ?_) (fun hc2 => ?_)
    · replace h := zpos h hc2
      refine zr_iconst dX0_removeFirst_26 (by decide) ?_
      obtain rfl := Option.some.inj h
      exact zt_iret dX0_removeFirst_27 rfl
    · replace h := zneg h hc2
      refine zr_aload ⟨_, dX0_removeFirst_14, rfl⟩ rfl ?_
      refine zt_get dX0_removeFirst_15 fl_X0_25 rfl rfl ?_
      refine zr_aload ⟨_, dX0_removeFirst_18, rfl⟩ rfl ?_
      refine zt_getr dX0_removeFirst_19 fl_X0_15 rfl rfl ?_
      obtain ⟨hb3, h⟩ := zchk h
      refine zt_alen dX0_removeFirst_22 rfl (by decide) hb3 ?_
      refine zr_ic_lt (tgt := 28) dX0_removeFirst_23 (by decide) (fun hc4 => ?_) (fun hc4 => ?_)
      · replace h := zpos h hc4
        refine zr_aload ⟨_, dX0_removeFirst_28, rfl⟩ rfl ?_
        refine zt_getr dX0_removeFirst_29 fl_X0_15 rfl rfl ?_
        refine zr_aload ⟨_, dX0_removeFirst_32, rfl⟩ rfl ?_
        refine zt_get dX0_removeFirst_33 fl_X0_25 rfl rfl ?_
        obtain ⟨hb5, h⟩ := zchk h
        refine zt_iaload dX0_removeFirst_36 rfl hb5 ?_
        refine zr_store ⟨_, dX0_removeFirst_37, rfl⟩ (by decide) rfl ?_
        refine zr_aload ⟨_, dX0_removeFirst_38, rfl⟩ rfl ?_
        refine zr_aload ⟨_, dX0_removeFirst_39, rfl⟩ rfl ?_
        refine zr_iconst dX0_removeFirst_40 (by decide) ?_
        obtain ⟨x6, hx6, h⟩ := zbind h
        refine zt_callisi (t_By_placeOf hx6) (zrun_V (rest := [.inr (.inl (some 0))]) dX0_removeFirst_41 ml_X0_28 rfl rfl (by decide) (by decide) rfl (Nat.le_of_ble_eq_true rfl)) rfl rfl (Nat.le_refl _) (Nat.le_refl _) ?_
        refine zt_put dX0_removeFirst_44 fl_X0_25 rfl rfl ?_
        refine zr_aload ⟨_, dX0_removeFirst_47, rfl⟩ rfl ?_
        refine zr_dup dX0_removeFirst_48 (Or.inl True.intro) ?_
        refine zt_get dX0_removeFirst_49 fl_X0_21 rfl rfl ?_
        refine zr_iconst dX0_removeFirst_52 (by decide) ?_
        refine zr_isub dX0_removeFirst_53 ?_
        refine zt_put dX0_removeFirst_54 fl_X0_21 rfl rfl ?_
        refine zr_load ⟨_, dX0_removeFirst_57, rfl⟩ rfl ?_
        obtain rfl := Option.some.inj h
        exact zt_iret dX0_removeFirst_58 rfl
      · replace h := zneg h hc4
        refine zr_iconst dX0_removeFirst_26 (by decide) ?_
        obtain rfl := Option.some.inj h
        exact zt_iret dX0_removeFirst_27 rfl
set_option maxRecDepth 100000 in
set_option maxHeartbeats 4000000 in
theorem t_By_addNumber_j18 {v1 : Int} {s : zSt} {res : Int × zSt} (h : f_By_addNumber_j18 v1 s = some res) : zBT 3 m_X0_addNumber TBy none res.2 18 [some (.inr (.inl (some 0))), some (.inl v1)] [] s := by
  unfold f_By_addNumber_j18 at h
  refine zr_load ⟨_, dX0_addNumber_18, rfl⟩ rfl ?_
  refine zr_bipush dX0_addNumber_19 (by decide) (by decide) ?_
  refine zr_ic_lt (tgt := 39) dX0_addNumber_21 (by decide) (fun hc1 => ?_) (fun hc1 => ?_)
  · replace h := zpos h hc1
    refine zr_aload ⟨_, dX0_addNumber_39, rfl⟩ rfl ?_
    refine zr_bipush dX0_addNumber_40 (by decide) (by decide) ?_
    refine zr_load ⟨_, dX0_addNumber_42, rfl⟩ rfl ?_
    refine zr_bipush dX0_addNumber_43 (by decide) (by decide) ?_
    refine zr_irem dX0_addNumber_45 (by decide) ?_
    refine zr_iadd dX0_addNumber_46 ?_
    obtain ⟨x2, hx2, h⟩ := zbind h
    refine zt_callii (t_By_add hx2) (zrun_V (rest := []) dX0_addNumber_47 ml_X0_32 rfl rfl (by decide) (by decide) rfl (Nat.le_of_ble_eq_true rfl)) rfl rfl (Nat.le_refl _) (Nat.le_refl _) ?_
    refine zr_pop dX0_addNumber_50 (Or.inr ⟨_, rfl⟩) ?_
    obtain rfl := Option.some.inj h
    exact zt_vret dX0_addNumber_51 rfl
  · replace h := zneg h hc1
    refine zr_aload ⟨_, dX0_addNumber_24, rfl⟩ rfl ?_
    refine zr_bipush dX0_addNumber_25 (by decide) (by decide) ?_
    refine zr_load ⟨_, dX0_addNumber_27, rfl⟩ rfl ?_
    refine zr_bipush dX0_addNumber_28 (by decide) (by decide) ?_
    refine zr_idiv dX0_addNumber_30 (by decide) ?_
    refine zr_bipush dX0_addNumber_31 (by decide) (by decide) ?_
    refine zr_irem dX0_addNumber_33 (by decide) ?_
    refine zr_iadd dX0_addNumber_34 ?_
    obtain ⟨x3, hx3, h⟩ := zbind h
    refine zt_callii (t_By_add hx3) (zrun_V (rest := []) dX0_addNumber_35 ml_X0_32 rfl rfl (by decide) (by decide) rfl (Nat.le_of_ble_eq_true rfl)) rfl rfl (Nat.le_refl _) (Nat.le_refl _) ?_
    refine zr_pop dX0_addNumber_38 (Or.inr ⟨_, rfl⟩) ?_
    refine zr_aload ⟨_, dX0_addNumber_39, rfl⟩ rfl ?_
    refine zr_bipush dX0_addNumber_40 (by decide) (by decide) ?_
    refine zr_load ⟨_, dX0_addNumber_42, rfl⟩ rfl ?_
    refine zr_bipush dX0_addNumber_43 (by decide) (by decide) ?_
    refine zr_irem dX0_addNumber_45 (by decide) ?_
    refine zr_iadd dX0_addNumber_46 ?_
    obtain ⟨x4, hx4, h⟩ := zbind h
    refine zt_callii (t_By_add hx4) (zrun_V (rest := []) dX0_addNumber_47 ml_X0_32 rfl rfl (by decide) (by decide) rfl (Nat.le_of_ble_eq_true rfl)) rfl rfl (Nat.le_refl _) (Nat.le_refl _) ?_
    refine zr_pop dX0_addNumber_50 (Or.inr ⟨_, rfl⟩) ?_
    obtain rfl := Option.some.inj h
    exact zt_vret dX0_addNumber_51 rfl
set_option maxRecDepth 100000 in
set_option maxHeartbeats 4000000 in
theorem t_By_addNumber {a1 : Int} {s : zSt} {res : Int × zSt} (h : f_By_addNumber a1 s = some res) : zSpecT 3 m_X0_addNumber [.inr (.inl (some 0)), .inl a1] TBy s none res.2 := by
  refine zSpec_of (by decide +kernel) (Nat.le_of_ble_eq_true rfl) ?_
  show zBT 3 m_X0_addNumber TBy none res.2 0 [some (.inr (.inl (some 0))), some (.inl a1)] [] s
  unfold f_By_addNumber at h
  refine zr_load ⟨_, dX0_addNumber_0, rfl⟩ rfl ?_
  refine zr_bipush dX0_addNumber_1 (by decide) (by decide) ?_
  refine zr_ic_lt (tgt := 18) dX0_addNumber_3 (by decide) (fun hc1 => ?_) (fun hc1 => ?_)
  · replace h := zpos h hc1
    exact t_By_addNumber_j18 h
  · replace h := zneg h hc1
    refine zr_aload ⟨_, dX0_addNumber_6, rfl⟩ rfl ?_
    refine zr_bipush dX0_addNumber_7 (by decide) (by decide) ?_
    refine zr_load ⟨_, dX0_addNumber_9, rfl⟩ rfl ?_
    refine zr_bipush dX0_addNumber_10 (by decide) (by decide) ?_
    refine zr_idiv dX0_addNumber_12 (by decide) ?_
    refine zr_iadd dX0_addNumber_13 ?_
    obtain ⟨x2, hx2, h⟩ := zbind h
    refine zt_callii (t_By_add hx2) (zrun_V (rest := []) dX0_addNumber_14 ml_X0_32 rfl rfl (by decide) (by decide) rfl (Nat.le_of_ble_eq_true rfl)) rfl rfl (Nat.le_refl _) (Nat.le_refl _) ?_
    refine zr_pop dX0_addNumber_17 (Or.inr ⟨_, rfl⟩) ?_
    exact t_By_addNumber_j18 h
set_option maxRecDepth 100000 in
set_option maxHeartbeats 4000000 in
theorem t_By_last  {s : zSt} {res : Int} (h : f_By_last s = some res) : zSpecT 3 m_X0_last [.inr (.inl (some 0))] TBy s (some (.inl res)) s := by
  refine zSpec_of (by decide +kernel) (Nat.le_of_ble_eq_true rfl) ?_
  show zBT 3 m_X0_last TBy (some (.inl res)) s 0 [some (.inr (.inl (some 0)))] [] s
  unfold f_By_last at h
  refine zr_aload ⟨_, dX0_last_0, rfl⟩ rfl ?_
  refine zr_aload ⟨_, dX0_last_1, rfl⟩ rfl ?_
  refine zt_get dX0_last_2 fl_X0_21 rfl rfl ?_
  refine zr_iconst dX0_last_5 (by decide) ?_
  refine zr_isub dX0_last_6 ?_
  obtain ⟨x1, hx1, h⟩ := zbind h
  refine zt_callisi (t_By_at hx1) (zrun_V (rest := []) dX0_last_7 ml_X0_36 rfl rfl (by decide) (by decide) rfl (Nat.le_of_ble_eq_true rfl)) rfl rfl (Nat.le_refl _) (Nat.le_refl _) ?_
  obtain rfl := Option.some.inj h
  exact zt_iret dX0_last_10 rfl
set_option maxRecDepth 100000 in
set_option maxHeartbeats 4000000 in
theorem t_By_removeLast  {s : zSt} {res : Int × zSt} (h : f_By_removeLast s = some res) : zSpecT 3 m_X0_removeLast [.inr (.inl (some 0))] TBy s (some (.inl res.1)) res.2 := by
  refine zSpec_of (by decide +kernel) (Nat.le_of_ble_eq_true rfl) ?_
  show zBT 3 m_X0_removeLast TBy (some (.inl res.1)) res.2 0 [some (.inr (.inl (some 0))), none] [] s
  unfold f_By_removeLast at h
  refine zr_aload ⟨_, dX0_removeLast_0, rfl⟩ rfl ?_
  refine zr_aload ⟨_, dX0_removeLast_1, rfl⟩ rfl ?_
  refine zt_get dX0_removeLast_2 fl_X0_21 rfl rfl ?_
  refine zr_iconst dX0_removeLast_5 (by decide) ?_
  refine zr_isub dX0_removeLast_6 ?_
  obtain ⟨x1, hx1, h⟩ := zbind h
  refine zt_callisi (t_By_at hx1) (zrun_V (rest := []) dX0_removeLast_7 ml_X0_36 rfl rfl (by decide) (by decide) rfl (Nat.le_of_ble_eq_true rfl)) rfl rfl (Nat.le_refl _) (Nat.le_refl _) ?_
  refine zr_store ⟨_, dX0_removeLast_10, rfl⟩ (by decide) rfl ?_
  refine zr_aload ⟨_, dX0_removeLast_11, rfl⟩ rfl ?_
  refine zt_get dX0_removeLast_12 fl_X0_21 rfl rfl ?_
  refine zr_if_le (tgt := 28) dX0_removeLast_15 (by decide) (fun hc2 => ?_) (fun hc2 => ?_)
  · replace h := zpos h hc2
    refine zr_load ⟨_, dX0_removeLast_28, rfl⟩ rfl ?_
    obtain rfl := Option.some.inj h
    exact zt_iret dX0_removeLast_29 rfl
  · replace h := zneg h hc2
    refine zr_aload ⟨_, dX0_removeLast_18, rfl⟩ rfl ?_
    refine zr_dup dX0_removeLast_19 (Or.inl True.intro) ?_
    refine zt_get dX0_removeLast_20 fl_X0_21 rfl rfl ?_
    refine zr_iconst dX0_removeLast_23 (by decide) ?_
    refine zr_isub dX0_removeLast_24 ?_
    refine zt_put dX0_removeLast_25 fl_X0_21 rfl rfl ?_
    refine zr_load ⟨_, dX0_removeLast_28, rfl⟩ rfl ?_
    obtain rfl := Option.some.inj h
    exact zt_iret dX0_removeLast_29 rfl
set_option maxRecDepth 100000 in
set_option maxHeartbeats 4000000 in
theorem t_By_addAll_l7 {c2 : Int} {r : Option zAV} {s0 : zSt}  : ∀ (n : Nat) (x : Int × zSt) (out : zSt), zloop (f_By_addAll_l7 c2) n x = some out → (zBT 3 m_X0_addAll TByBy r s0 27 [none, none, none, none] [] out) → zBT 3 m_X0_addAll TByBy r s0 7 [some (.inr (.inl (some 0))), some (.inr (.inl (some 2))), some (.inl c2), some (.inl x.1)] [] x.2 := by
  refine zloop_B (B := fun (x : Int × zSt) (out : zSt) => zBT 3 m_X0_addAll TByBy r s0 27 [none, none, none, none] [] out → zBT 3 m_X0_addAll TByBy r s0 7 [some (.inr (.inl (some 0))), some (.inr (.inl (some 2))), some (.inl c2), some (.inl x.1)] [] x.2) ?_
  intro x o out h hk hx
  unfold f_By_addAll_l7 at h
  refine zr_load ⟨_, dX0_addAll_7, rfl⟩ rfl ?_
  refine zr_load ⟨_, dX0_addAll_8, rfl⟩ rfl ?_
  refine zr_ic_ge (tgt := 27) dX0_addAll_9 (by decide) (fun hc1 => ?_) (fun hc1 => ?_)
  · replace h := zpos h hc1
    refine zr_mask [false, false, false, false] rfl ?_
    obtain rfl := Option.some.inj h
    obtain rfl := hk
    exact hx
  · replace h := zneg h hc1
    refine zr_aload ⟨_, dX0_addAll_12, rfl⟩ rfl ?_
    refine zr_aload ⟨_, dX0_addAll_13, rfl⟩ rfl ?_
    obtain ⟨x2, hx2, h⟩ := zbind h
    refine zt_calli (t_By_removeFirst hx2) (zrun_V (rest := [.inr (.inl (some 0))]) dX0_addAll_14 ml_X0_42 rfl rfl (by decide) (by decide) rfl (Nat.le_of_ble_eq_true rfl)) rfl rfl sb_TByBy_TBy_2 (Nat.le_refl _) (Nat.le_refl _) ?_
    obtain ⟨x3, hx3, h⟩ := zbind h
    refine zt_calli (t_By_add hx3) (zrun_V (rest := []) dX0_addAll_17 ml_X0_32 rfl rfl (by decide) (by decide) rfl (Nat.le_of_ble_eq_true rfl)) rfl rfl sb_TByBy_TBy_0 (Nat.le_refl _) (Nat.le_refl _) ?_
    refine zr_pop dX0_addAll_20 (Or.inr ⟨_, rfl⟩) ?_
    refine zr_iinc dX0_addAll_21 rfl (by decide) rfl ?_
    refine zr_goto (tgt := 7) dX0_addAll_24 (by decide) ?_
    obtain rfl := Option.some.inj h
    exact hk hx
set_option maxRecDepth 100000 in
set_option maxHeartbeats 4000000 in
theorem t_By_addAll  {s : zSt} {res : Int × zSt} (h : f_By_addAll s = some res) : zSpecT 3 m_X0_addAll [.inr (.inl (some 0)), .inr (.inl (some 2))] TByBy s none res.2 := by
  refine zSpec_of (by decide +kernel) (Nat.le_of_ble_eq_true rfl) ?_
  show zBT 3 m_X0_addAll TByBy none res.2 0 [some (.inr (.inl (some 0))), some (.inr (.inl (some 2))), none, none] [] s
  unfold f_By_addAll at h
  refine zr_aload ⟨_, dX0_addAll_0, rfl⟩ rfl ?_
  obtain ⟨x1, hx1, h⟩ := zbind h
  refine zt_callis (t_By_count hx1) (zrun_V (rest := []) dX0_addAll_1 ml_X0_39 rfl rfl (by decide) (by decide) rfl (Nat.le_of_ble_eq_true rfl)) rfl rfl sb_TByBy_TBy_2 (Nat.le_refl _) (Nat.le_refl _) ?_
  refine zr_store ⟨_, dX0_addAll_4, rfl⟩ (by decide) rfl ?_
  refine zr_iconst dX0_addAll_5 (by decide) ?_
  refine zr_store ⟨_, dX0_addAll_6, rfl⟩ (by decide) rfl ?_
  obtain ⟨y2, hy2, h⟩ := zbind h
  refine t_By_addAll_l7 _ _ _ hy2 ?_
  obtain rfl := Option.some.inj h
  exact zt_vret dX0_addAll_27 rfl
