set_option maxRecDepth 100000 in
set_option maxHeartbeats 4000000 in
theorem t_Hi_count  {s : zSt} {res : Int} (h : f_Hi_count s = some res) : zSpecT 1 m_X2_count [.inr (.inl (some 0))] THi s (some (.inl res)) s := by
  refine zSpec_of (by decide +kernel) (Nat.le_of_ble_eq_true rfl) ?_
  show zBT 1 m_X2_count THi (some (.inl res)) s 0 [some (.inr (.inl (some 0)))] [] s
  unfold f_Hi_count at h
  refine zr_aload ⟨_, dX2_count_0, rfl⟩ rfl ?_
  refine zt_get dX2_count_1 fl_X2_19 rfl rfl ?_
  obtain rfl := Option.some.inj h
  exact zt_iret dX2_count_4 rfl
set_option maxRecDepth 100000 in
set_option maxHeartbeats 4000000 in
theorem t_Hi_putLatest {a1 a2 : Int} {s : zSt} {res : Int × zSt} (h : f_Hi_putLatest a1 a2 s = some res) : zSpecT 1 m_X2_putLatest [.inr (.inl (some 0)), .inl a1, .inl a2] THi s none res.2 := by
  refine zSpec_of (by decide +kernel) (Nat.le_of_ble_eq_true rfl) ?_
  show zBT 1 m_X2_putLatest THi none res.2 0 [some (.inr (.inl (some 0))), some (.inl a1), some (.inl a2), none] [] s
  unfold f_Hi_putLatest at h
  refine zr_aload ⟨_, dX2_putLatest_0, rfl⟩ rfl ?_
  refine zt_get dX2_putLatest_1 fl_X2_19 rfl rfl ?_
  refine zr_iconst dX2_putLatest_4 (by decide) ?_
  refine zr_isub dX2_putLatest_5 ?_
  refine zr_store ⟨_, dX2_putLatest_6, rfl⟩ (by decide) rfl ?_
  refine zr_load ⟨_, dX2_putLatest_7, rfl⟩ rfl ?_
  refine zr_if_lt (tgt := 39) dX2_putLatest_8 (by decide) (fun hc1 => ?_) (fun hc1 => ?_)
  · replace h := zpos h hc1
    obtain rfl := Option.some.inj h
    exact zt_vret dX2_putLatest_39 rfl
  · replace h := zneg h hc1
    refine zr_load ⟨_, dX2_putLatest_11, rfl⟩ rfl ?_
    refine zr_bipush dX2_putLatest_12 (by decide) (by decide) ?_
    refine zr_ic_ge (tgt := 39) dX2_putLatest_14 (by decide) (fun hc2 => ?_) (fun hc2 => ?_)
    · replace h := zpos h hc2
      obtain rfl := Option.some.inj h
      exact zt_vret dX2_putLatest_39 rfl
    · replace h := zneg h hc2
      refine zr_load ⟨_, dX2_putLatest_17, rfl⟩ rfl ?_
      refine zr_if_lt (tgt := 39) dX2_putLatest_18 (by decide) (fun hc3 => ?_) (fun hc3 => ?_)
      · replace h := zpos h hc3
        obtain rfl := Option.some.inj h
        exact zt_vret dX2_putLatest_39 rfl
      · replace h := zneg h hc3
        refine zr_load ⟨_, dX2_putLatest_21, rfl⟩ rfl ?_
        refine zr_bipush dX2_putLatest_22 (by decide) (by decide) ?_
        refine zr_ic_ge (tgt := 39) dX2_putLatest_24 (by decide) (fun hc4 => ?_) (fun hc4 => ?_)
        · replace h := zpos h hc4
          obtain rfl := Option.some.inj h
          exact zt_vret dX2_putLatest_39 rfl
        · replace h := zneg h hc4
          refine zr_aload ⟨_, dX2_putLatest_27, rfl⟩ rfl ?_
          refine zt_getr dX2_putLatest_28 fl_X2_9 rfl rfl ?_
          refine zr_load ⟨_, dX2_putLatest_31, rfl⟩ rfl ?_
          refine zr_bipush dX2_putLatest_32 (by decide) (by decide) ?_
          refine zr_imul dX2_putLatest_34 ?_
          refine zr_load ⟨_, dX2_putLatest_35, rfl⟩ rfl ?_
          refine zr_iadd dX2_putLatest_36 ?_
          refine zr_load ⟨_, dX2_putLatest_37, rfl⟩ rfl ?_
          obtain ⟨hb5, h⟩ := zchk h
          refine zt_iastore dX2_putLatest_38 rfl hb5 ?_
          obtain rfl := Option.some.inj h
          exact zt_vret dX2_putLatest_39 rfl
set_option maxRecDepth 100000 in
set_option maxHeartbeats 4000000 in
theorem t_Hi_at {a1 a2 : Int} {s : zSt} {res : Int} (h : f_Hi_at a1 a2 s = some res) : zSpecT 1 m_X2_at [.inr (.inl (some 0)), .inl a1, .inl a2] THi s (some (.inl res)) s := by
  refine zSpec_of (by decide +kernel) (Nat.le_of_ble_eq_true rfl) ?_
  show zBT 1 m_X2_at THi (some (.inl res)) s 0 [some (.inr (.inl (some 0))), some (.inl a1), some (.inl a2)] [] s
  unfold f_Hi_at at h
  refine zr_load ⟨_, dX2_at_0, rfl⟩ rfl ?_
  refine zr_if_lt (tgt := 28) dX2_at_1 (by decide) (fun hc1 => ?_) (fun hc1 => ?_)
  · replace h := zpos h hc1
    refine zr_iconst dX2_at_28 (by decide) ?_
    obtain rfl := Option.some.inj h
    exact zt_iret dX2_at_29 rfl
  · replace h := zneg h hc1
    refine zr_load ⟨_, dX2_at_4, rfl⟩ rfl ?_
    refine zr_aload ⟨_, dX2_at_5, rfl⟩ rfl ?_
    refine zt_get dX2_at_6 fl_X2_19 rfl rfl ?_
    refine zr_ic_ge (tgt := 28) dX2_at_9 (by decide) (fun hc2 => ?_) (fun hc2 => ?_)
    · replace h := zpos h hc2
      refine zr_iconst dX2_at_28 (by decide) ?_
      obtain rfl := Option.some.inj h
      exact zt_iret dX2_at_29 rfl
    · replace h := zneg h hc2
      refine zr_load ⟨_, dX2_at_12, rfl⟩ rfl ?_
      refine zr_bipush dX2_at_13 (by decide) (by decide) ?_
      refine zr_ic_ge (tgt := 28) dX2_at_15 (by decide) (fun hc3 => ?_) (fun hc3 => ?_)
      · replace h := zpos h hc3
        refine zr_iconst dX2_at_28 (by decide) ?_
        obtain rfl := Option.some.inj h
        exact zt_iret dX2_at_29 rfl
      · replace h := zneg h hc3
        refine zr_load ⟨_, dX2_at_18, rfl⟩ rfl ?_
        refine zr_if_lt (tgt := 28) dX2_at_19 (by decide) (fun hc4 => ?_) (fun hc4 => ?_)
        · replace h := zpos h hc4
          refine zr_iconst dX2_at_28 (by decide) ?_
          obtain rfl := Option.some.inj h
          exact zt_iret dX2_at_29 rfl
        · replace h := zneg h hc4
          refine zr_load ⟨_, dX2_at_22, rfl⟩ rfl ?_
          refine zr_bipush dX2_at_23 (by decide) (by decide) ?_
          refine zr_ic_lt (tgt := 30) dX2_at_25 (by decide) (fun hc5 => ?_) (fun hc5 => ?_)
          · replace h := zpos h hc5
            refine zr_aload ⟨_, dX2_at_30, rfl⟩ rfl ?_
            refine zt_getr dX2_at_31 fl_X2_9 rfl rfl ?_
            refine zr_load ⟨_, dX2_at_34, rfl⟩ rfl ?_
            refine zr_bipush dX2_at_35 (by decide) (by decide) ?_
            refine zr_imul dX2_at_37 ?_
            refine zr_load ⟨_, dX2_at_38, rfl⟩ rfl ?_
            refine zr_iadd dX2_at_39 ?_
            obtain ⟨hb6, h⟩ := zchk h
            refine zt_iaload dX2_at_40 rfl hb6 ?_
            obtain rfl := Option.some.inj h
            exact zt_iret dX2_at_41 rfl
          · replace h := zneg h hc5
            refine zr_iconst dX2_at_28 (by decide) ?_
            obtain rfl := Option.some.inj h
            exact zt_iret dX2_at_29 rfl
set_option maxRecDepth 100000 in
set_option maxHeartbeats 4000000 in
theorem t_Hi_isGoing {a1 : Int} {s : zSt} {res : Int} (h : f_Hi_isGoing a1 s = some res) : zSpecT 1 m_X2_isGoing [.inr (.inl (some 0)), .inl a1] THi s (some (.inl res)) s := by
  refine zSpec_of (by decide +kernel) (Nat.le_of_ble_eq_true rfl) ?_
  show zBT 1 m_X2_isGoing THi (some (.inl res)) s 0 [some (.inr (.inl (some 0))), some (.inl a1)] [] s
  unfold f_Hi_isGoing at h
  refine zr_load ⟨_, dX2_isGoing_0, rfl⟩ rfl ?_
  refine zr_if_lt (tgt := 31) dX2_isGoing_1 (by decide) (fun hc1 => ?_) (fun hc1 => ?_)
  · replace h := zpos h hc1
    refine zr_iconst dX2_isGoing_31 (by decide) ?_
    obtain rfl := Option.some.inj h
    exact zt_zret dX2_isGoing_32 rfl (Or.inl rfl)
  · replace h := zneg h hc1
    refine zr_load ⟨_, dX2_isGoing_4, rfl⟩ rfl ?_
    refine zr_aload ⟨_, dX2_isGoing_5, rfl⟩ rfl ?_
    refine zt_get dX2_isGoing_6 fl_X2_19 rfl rfl ?_
    refine zr_ic_ge (tgt := 31) dX2_isGoing_9 (by decide) (fun hc2 => ?_) (fun hc2 => ?_)
    · replace h := zpos h hc2
      refine zr_iconst dX2_isGoing_31 (by decide) ?_
      obtain rfl := Option.some.inj h
      exact zt_zret dX2_isGoing_32 rfl (Or.inl rfl)
    · replace h := zneg h hc2
      refine zr_load ⟨_, dX2_isGoing_12, rfl⟩ rfl ?_
      refine zr_bipush dX2_isGoing_13 (by decide) (by decide) ?_
      refine zr_ic_ge (tgt := 31) dX2_isGoing_15 (by decide) (fun hc3 => ?_) (fun hc3 => ?_)
      · replace h := zpos h hc3
        refine zr_iconst dX2_isGoing_31 (by decide) ?_
        obtain rfl := Option.some.inj h
        exact zt_zret dX2_isGoing_32 rfl (Or.inl rfl)
      · replace h := zneg h hc3
        refine zr_aload ⟨_, dX2_isGoing_18, rfl⟩ rfl ?_
        refine zt_getr dX2_isGoing_19 fl_X2_15 rfl rfl ?_
        refine zr_load ⟨_, dX2_isGoing_22, rfl⟩ rfl ?_
        obtain ⟨hb4, h⟩ := zchk h
        refine zt_baload dX2_isGoing_23 rfl hb4 ?_
        have hj5 : zBT 1 m_X2_isGoing THi (some (.inl res)) s 32 [some (.inr (.inl (some 0))), some (.inl a1)] [.inl (if ((s.2 2) a1) = 0 then 0 else 1)] s := by
          obtain rfl := Option.some.inj h
          exact zt_zret dX2_isGoing_32 rfl (z01i (Or.inl rfl) (Or.inr rfl))
        refine zr_if_eq (tgt := 31) dX2_isGoing_24 (by decide) (fun hc6 => ?_) (fun hc6 => ?_)
        · have hp7 := zif_t hj5 hc6
          refine zr_iconst dX2_isGoing_31 (by decide) ?_
          exact hp7
        · have hp8 := zif_f hj5 hc6
          refine zr_iconst dX2_isGoing_27 (by decide) ?_
          refine zr_goto (tgt := 32) dX2_isGoing_28 (by decide) ?_
          exact hp8
set_option maxRecDepth 100000 in
set_option maxHeartbeats 4000000 in
theorem t_Hi_endLatest  {s : zSt} {res : Int × zSt} (h : f_Hi_endLatest s = some res) : zSpecT 1 m_X2_endLatest [.inr (.inl (some 0))] THi s none res.2 := by
  refine zSpec_of (by decide +kernel) (Nat.le_of_ble_eq_true rfl) ?_
  show zBT 1 m_X2_endLatest THi none res.2 0 [some (.inr (.inl (some 0)))] [] s
  unfold f_Hi_endLatest at h
  refine zr_aload ⟨_, dX2_endLatest_0, rfl⟩ rfl ?_
  refine zt_get dX2_endLatest_1 fl_X2_19 rfl rfl ?_
  refine zr_if_le (tgt := 28) dX2_endLatest_4 (by decide) (fun hc1 => ?_) (fun hc1 => ?_)
  · replace h := zpos h hc1
    obtain rfl := Option.some.inj h
    exact zt_vret dX2_endLatest_28 rfl
  · replace h := zneg h hc1
    refine zr_aload ⟨_, dX2_endLatest_7, rfl⟩ rfl ?_
    refine zt_get dX2_endLatest_8 fl_X2_19 rfl rfl ?_
    refine zr_bipush dX2_endLatest_11 (by decide) (by decide) ?_
    refine zr_ic_gt (tgt := 28) dX2_endLatest_13 (by decide) (fun hc2 => ?_) (fun hc2 => ?_)
    · replace h := zpos h hc2
      obtain rfl := Option.some.inj h
      exact zt_vret dX2_endLatest_28 rfl
    · replace h := zneg h hc2
      refine zr_aload ⟨_, dX2_endLatest_16, rfl⟩ rfl ?_
      refine zt_getr dX2_endLatest_17 fl_X2_15 rfl rfl ?_
      refine zr_aload ⟨_, dX2_endLatest_20, rfl⟩ rfl ?_
      refine zt_get dX2_endLatest_21 fl_X2_19 rfl rfl ?_
      refine zr_iconst dX2_endLatest_24 (by decide) ?_
      refine zr_isub dX2_endLatest_25 ?_
      refine zr_iconst dX2_endLatest_26 (by decide) ?_
      obtain ⟨hb3, h⟩ := zchk h
      refine zt_bastore dX2_endLatest_27 rfl hb3 (Or.inl rfl) ?_
      obtain rfl := Option.some.inj h
      exact zt_vret dX2_endLatest_28 rfl
set_option maxRecDepth 100000 in
set_option maxHeartbeats 4000000 in
theorem t_Hi_clear  {s : zSt} {res : Int × zSt} (h : f_Hi_clear s = some res) : zSpecT 1 m_X2_clear [.inr (.inl (some 0))] THi s none res.2 := by
  refine zSpec_of (by decide +kernel) (Nat.le_of_ble_eq_true rfl) ?_
  show zBT 1 m_X2_clear THi none res.2 0 [some (.inr (.inl (some 0)))] [] s
  unfold f_Hi_clear at h
  refine zr_aload ⟨_, dX2_clear_0, rfl⟩ rfl ?_
  refine zr_iconst dX2_clear_1 (by decide) ?_
  refine zt_put dX2_clear_2 fl_X2_19 rfl rfl ?_
  obtain rfl := Option.some.inj h
  exact zt_vret dX2_clear_5 rfl
set_option maxRecDepth 100000 in
set_option maxHeartbeats 4000000 in
theorem t_Hi_add_j60 {v1 : Int} {s : zSt} {res : Int × zSt} (h : f_Hi_add_j60 v1 s = some res) : zBT 3 m_X2_add THi none res.2 60 [some (.inr (.inl (some 0))), some (.inl v1), none] [] s := by
  unfold f_Hi_add_j60 at h
  refine zr_aload ⟨_, dX2_add_60, rfl⟩ rfl ?_
  refine zt_get dX2_add_61 fl_X2_19 rfl rfl ?_
  refine zr_if_ge (tgt := 68) dX2_add_64 (by decide) (fun hc1 => ?_) (fun hc1 => ?_)
  · replace h := zpos h hc1
    refine zr_aload ⟨_, dX2_add_68, rfl⟩ rfl ?_
    refine zt_getr dX2_add_69 fl_X2_9 rfl rfl ?_
    refine zr_aload ⟨_, dX2_add_72, rfl⟩ rfl ?_
    refine zt_get dX2_add_73 fl_X2_19 rfl rfl ?_
    refine zr_bipush dX2_add_76 (by decide) (by decide) ?_
    refine zr_imul dX2_add_78 ?_
    refine zr_aload ⟨_, dX2_add_79, rfl⟩ rfl ?_
    refine zt_get dX2_add_80 fl_X2_19 rfl rfl ?_
    refine zr_iconst dX2_add_83 (by decide) ?_
    refine zr_iadd dX2_add_84 ?_
    refine zr_bipush dX2_add_85 (by decide) (by decide) ?_
    refine zr_imul dX2_add_87 ?_
    refine zr_iconst dX2_add_88 (by decide) ?_
    obtain ⟨x2, hx2, h⟩ := zbind h
    refine zt_callv (t_Ja_fill_fda19 hx2) (zrun_S (rest := []) dX2_add_89 ml_X2_29 rfl (by decide) (by decide) rfl (Nat.le_of_ble_eq_true rfl)) rfl rfl sb_THi_TI_1 (Nat.le_refl _) (Nat.le_refl _) ?_
    refine zr_aload ⟨_, dX2_add_92, rfl⟩ rfl ?_
    refine zt_getr dX2_add_93 fl_X2_15 rfl rfl ?_
    refine zr_aload ⟨_, dX2_add_96, rfl⟩ rfl ?_
    refine zt_get dX2_add_97 fl_X2_19 rfl rfl ?_
    refine zr_load ⟨_, dX2_add_100, rfl⟩ rfl ?_
    obtain ⟨hb3, h⟩ := zchk h
    refine zt_bastore dX2_add_101 rfl hb3.1 hb3.2 ?_
    refine zr_aload ⟨_, dX2_add_102, rfl⟩ rfl ?_
    refine zr_dup dX2_add_103 (Or.inl True.intro) ?_
    refine zt_get dX2_add_104 fl_X2_19 rfl rfl ?_
    refine zr_iconst dX2_add_107 (by decide) ?_
    refine zr_iadd dX2_add_108 ?_
    refine zt_put dX2_add_109 fl_X2_19 rfl rfl ?_
    obtain rfl := Option.some.inj h
    exact zt_vret dX2_add_112 rfl
  · replace h := zneg h hc1
    obtain rfl := Option.some.inj h
    exact zt_vret dX2_add_67 rfl
set_option maxRecDepth 100000 in
set_option maxHeartbeats 4000000 in
theorem t_Hi_add_l28 {c1 : Int} {r : Option zAV} {s0 : zSt}  : ∀ (n : Nat) (x : Int × zSt) (out : zSt), zloop (f_Hi_add_l28 c1) n x = some out → (zBT 3 m_X2_add THi r s0 54 [some (.inr (.inl (some 0))), some (.inl c1), none] [] out) → zBT 3 m_X2_add THi r s0 28 [some (.inr (.inl (some 0))), some (.inl c1), some (.inl x.1)] [] x.2 := by
  refine zloop_B (B := fun (x : Int × zSt) (out : zSt) => zBT 3 m_X2_add THi r s0 54 [some (.inr (.inl (some 0))), some (.inl c1), none] [] out → zBT 3 m_X2_add THi r s0 28 [some (.inr (.inl (some 0))), some (.inl c1), some (.inl x.1)] [] x.2) ?_
  intro x o out h hk hx
  unfold f_Hi_add_l28 at h
  refine zr_load ⟨_, dX2_add_28, rfl⟩ rfl ?_
  refine zr_bipush dX2_add_29 (by decide) (by decide) ?_
  refine zr_ic_ge (tgt := 54) dX2_add_31 (by decide) (fun hc1 => ?_) (fun hc1 => ?_)
  · replace h := zpos h hc1
    refine zr_mask [true, true, false] rfl ?_
    obtain rfl := Option.some.inj h
    obtain rfl := hk
    exact hx
  · replace h := zneg h hc1
    refine zr_aload ⟨_, dX2_add_34, rfl⟩ rfl ?_
    refine zt_getr dX2_add_35 fl_X2_15 rfl rfl ?_
    refine zr_load ⟨_, dX2_add_38, rfl⟩ rfl ?_
    refine zr_iconst dX2_add_39 (by decide) ?_
    refine zr_isub dX2_add_40 ?_
    refine zr_aload ⟨_, dX2_add_41, rfl⟩ rfl ?_
    refine zt_getr dX2_add_42 fl_X2_15 rfl rfl ?_
    refine zr_load ⟨_, dX2_add_45, rfl⟩ rfl ?_
    obtain ⟨hb2, h⟩ := zchk h
    refine zt_baload dX2_add_46 rfl hb2 ?_
    obtain ⟨hb3, h⟩ := zchk h
    refine zt_bastore dX2_add_47 rfl hb3.1 hb3.2 ?_
    refine zr_iinc dX2_add_48 rfl (by decide) rfl ?_
    refine zr_goto (tgt := 28) dX2_add_51 (by decide) ?_
    obtain rfl := Option.some.inj h
    exact hk hx
set_option maxRecDepth 100000 in
set_option maxHeartbeats 4000000 in
theorem t_Hi_add {a1 : Int} {s : zSt} {res : Int × zSt} (h : f_Hi_add a1 s = some res) : zSpecT 3 m_X2_add [.inr (.inl (some 0)), .inl a1] THi s none res.2 := by
  refine zSpec_of (by decide +kernel) (Nat.le_of_ble_eq_true rfl) ?_
  show zBT 3 m_X2_add THi none res.2 0 [some (.inr (.inl (some 0))), some (.inl a1), none] [] s
  unfold f_Hi_add at h
  refine zr_aload ⟨_, dX2_add_0, rfl⟩ rfl ?_
  refine zt_get dX2_add_1 fl_X2_19 rfl rfl ?_
  refine zr_bipush dX2_add_4 (by decide) (by decide) ?_
  refine zr_ic_lt (tgt := 60) dX2_add_6 (by decide) (fun hc1 => ?_) (fun hc1 => ?_)
  · replace h := zpos h hc1
    exact t_Hi_add_j60 h
  · replace h := zneg h hc1
    refine zr_aload ⟨_, dX2_add_9, rfl⟩ rfl ?_
    refine zt_getr dX2_add_10 fl_X2_9 rfl rfl ?_
    refine zr_bipush dX2_add_13 (by decide) (by decide) ?_
    refine zr_aload ⟨_, dX2_add_15, rfl⟩ rfl ?_
    refine zt_getr dX2_add_16 fl_X2_9 rfl rfl ?_
    refine zr_iconst dX2_add_19 (by decide) ?_
    refine zr_sipush dX2_add_20 (by decide) (by decide) ?_
    obtain ⟨hb2, h⟩ := zchk h
    refine zt_copy dX2_add_23 ml_X2_23 rfl rfl hb2 (by decide) (Nat.le_refl _) (Nat.le_refl _) (Nat.le_of_ble_eq_true rfl) ?_
    refine zr_iconst dX2_add_26 (by decide) ?_
    refine zr_store ⟨_, dX2_add_27, rfl⟩ (by decide) rfl ?_
    obtain ⟨y3, hy3, h⟩ := zbind h
    refine t_Hi_add_l28 _ _ _ hy3 ?_
    refine zr_aload ⟨_, dX2_add_54, rfl⟩ rfl ?_
    refine zr_bipush dX2_add_55 (by decide) (by decide) ?_
    refine zt_put dX2_add_57 fl_X2_19 rfl rfl ?_
    exact t_Hi_add_j60 h
