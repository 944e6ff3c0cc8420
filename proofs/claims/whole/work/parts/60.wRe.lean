set_option maxRecDepth 100000 in
set_option maxHeartbeats 4000000 in
theorem t_Re_number {a1 : Int} {s : zSt} {res : Int} (h : f_Re_number a1 s = some res) : zSpecT 1 m_X7_number [.inr (.inl (some 0)), .inl a1] TRe s (some (.inl res)) s := by
  refine zSpec_of (by decide +kernel) (Nat.le_of_ble_eq_true rfl) ?_
  show zBT 1 m_X7_number TRe (some (.inl res)) s 0 [some (.inr (.inl (some 0))), some (.inl a1)] [] s
  unfold f_Re_number at h
  refine zr_load ⟨_, dX7_number_0, rfl⟩ rfl ?_
  refine zr_if_lt (tgt := 18) dX7_number_1 (by decide) (fun hc1 => ?_) (fun hc1 => ?_)
  · replace h := zpos h hc1
    refine zr_iconst dX7_number_18 (by decide) ?_
    obtain rfl := Option.some.inj h
    exact zt_iret dX7_number_19 rfl
  · replace h := zneg h hc1
    refine zr_load ⟨_, dX7_number_4, rfl⟩ rfl ?_
    refine zr_iconst dX7_number_5 (by decide) ?_
    refine zr_ic_ge (tgt := 18) dX7_number_6 (by decide) (fun hc2 => ?_) (fun hc2 => ?_)
    · replace h := zpos h hc2
      refine zr_iconst dX7_number_18 (by decide) ?_
      obtain rfl := Option.some.inj h
      exact zt_iret dX7_number_19 rfl
    · replace h := zneg h hc2
      refine zr_aload ⟨_, dX7_number_9, rfl⟩ rfl ?_
      refine zt_getr dX7_number_10 fl_X7_23 rfl rfl ?_
      refine zr_load ⟨_, dX7_number_13, rfl⟩ rfl ?_
      obtain ⟨hb3, h⟩ := zchk h
      refine zt_iaload dX7_number_14 rfl hb3 ?_
      refine zr_goto (tgt := 19) dX7_number_15 (by decide) ?_
      obtain rfl := Option.some.inj h
      exact zt_iret dX7_number_19 rfl
set_option maxRecDepth 100000 in
set_option maxHeartbeats 4000000 in
theorem t_Re_readControl {a1 : Int} {s : zSt} {res : Int × zSt} (h : f_Re_readControl a1 s = some res) : zSpecT 1 m_X7_readControl [.inr (.inl (some 0)), .inl a1] TRe s (some (.inl res.1)) res.2 := by
  refine zSpec_of (by decide +kernel) (Nat.le_of_ble_eq_true rfl) ?_
  show zBT 1 m_X7_readControl TRe (some (.inl res.1)) res.2 0 [some (.inr (.inl (some 0))), some (.inl a1)] [] s
  unfold f_Re_readControl at h
  refine zr_load ⟨_, dX7_readControl_0, rfl⟩ rfl ?_
  refine zr_bipush dX7_readControl_1 (by decide) (by decide) ?_
  refine zr_ic_ne (tgt := 13) dX7_readControl_3 (by decide) (fun hc1 => ?_) (fun hc1 => ?_)
  · replace h := zpos h hc1
    refine zr_load ⟨_, dX7_readControl_13, rfl⟩ rfl ?_
    refine zr_bipush dX7_readControl_14 (by decide) (by decide) ?_
    refine zr_ic_ne (tgt := 26) dX7_readControl_16 (by decide) (fun hc2 => ?_) (fun hc2 => ?_)
    · replace h := zpos h hc2
      refine zr_iconst dX7_readControl_26 (by decide) ?_
      obtain rfl := Option.some.inj h
      exact zt_iret dX7_readControl_27 rfl
    · replace h := zneg h hc2
      refine zr_aload ⟨_, dX7_readControl_19, rfl⟩ rfl ?_
      refine zr_iconst dX7_readControl_20 (by decide) ?_
      refine zt_put dX7_readControl_21 fl_X7_27 rfl rfl ?_
      refine zr_iconst dX7_readControl_24 (by decide) ?_
      obtain rfl := Option.some.inj h
      exact zt_iret dX7_readControl_25 rfl
  · replace h := zneg h hc1
    refine zr_aload ⟨_, dX7_readControl_6, rfl⟩ rfl ?_
    refine zr_iconst dX7_readControl_7 (by decide) ?_
    refine zt_put dX7_readControl_8 fl_X7_27 rfl rfl ?_
    refine zr_iconst dX7_readControl_11 (by decide) ?_
    obtain rfl := Option.some.inj h
    exact zt_iret dX7_readControl_12 rfl
set_option maxRecDepth 100000 in
set_option maxHeartbeats 4000000 in
theorem t_Re_beginCode_l27  {r : Option zAV} {s0 : zSt}  : ∀ (n : Nat) (x : Int × zSt) (out : zSt), zloop (f_Re_beginCode_l27) n x = some out → (zBT 1 m_X7_beginCode TRe r s0 45 [none, none] [] out) → zBT 1 m_X7_beginCode TRe r s0 27 [some (.inr (.inl (some 0))), some (.inl x.1)] [] x.2 := by
  refine zloop_B (B := fun (x : Int × zSt) (out : zSt) => zBT 1 m_X7_beginCode TRe r s0 45 [none, none] [] out → zBT 1 m_X7_beginCode TRe r s0 27 [some (.inr (.inl (some 0))), some (.inl x.1)] [] x.2) ?_
  intro x o out h hk hx
  unfold f_Re_beginCode_l27 at h
  refine zr_load ⟨_, dX7_beginCode_27, rfl⟩ rfl ?_
  refine zr_iconst dX7_beginCode_28 (by decide) ?_
  refine zr_ic_ge (tgt := 45) dX7_beginCode_29 (by decide) (fun hc1 => ?_) (fun hc1 => ?_)
  · replace h := zpos h hc1
    refine zr_mask [false, false] rfl ?_
    obtain rfl := Option.some.inj h
    obtain rfl := hk
    exact hx
  · replace h := zneg h hc1
    refine zr_aload ⟨_, dX7_beginCode_32, rfl⟩ rfl ?_
    refine zt_getr dX7_beginCode_33 fl_X7_23 rfl rfl ?_
    refine zr_load ⟨_, dX7_beginCode_36, rfl⟩ rfl ?_
    refine zr_iconst dX7_beginCode_37 (by decide) ?_
    obtain ⟨hb2, h⟩ := zchk h
    refine zt_iastore dX7_beginCode_38 rfl hb2 ?_
    refine zr_iinc dX7_beginCode_39 rfl (by decide) rfl ?_
    refine zr_goto (tgt := 27) dX7_beginCode_42 (by decide) ?_
    obtain rfl := Option.some.inj h
    exact hk hx
set_option maxRecDepth 100000 in
set_option maxHeartbeats 4000000 in
theorem t_Re_beginCode  {s : zSt} {res : Int × zSt} (h : f_Re_beginCode s = some res) : zSpecT 1 m_X7_beginCode [.inr (.inl (some 0))] TRe s none res.2 := by
  refine zSpec_of (by decide +kernel) (Nat.le_of_ble_eq_true rfl) ?_
  show zBT 1 m_X7_beginCode TRe none res.2 0 [some (.inr (.inl (some 0))), none] [] s
  unfold f_Re_beginCode at h
  refine zr_aload ⟨_, dX7_beginCode_0, rfl⟩ rfl ?_
  refine zr_iconst dX7_beginCode_1 (by decide) ?_
  refine zt_put dX7_beginCode_2 fl_X7_27 rfl rfl ?_
  refine zr_aload ⟨_, dX7_beginCode_5, rfl⟩ rfl ?_
  refine zr_iconst dX7_beginCode_6 (by decide) ?_
  refine zt_put dX7_beginCode_7 fl_X7_50 rfl rfl ?_
  refine zr_aload ⟨_, dX7_beginCode_10, rfl⟩ rfl ?_
  refine zr_iconst dX7_beginCode_11 (by decide) ?_
  refine zt_putz dX7_beginCode_12 fl_X7_53 rfl rfl (Or.inl rfl) ?_
  refine zr_aload ⟨_, dX7_beginCode_15, rfl⟩ rfl ?_
  refine zr_iconst dX7_beginCode_16 (by decide) ?_
  refine zt_putz dX7_beginCode_17 fl_X7_57 rfl rfl (Or.inl rfl) ?_
  refine zr_aload ⟨_, dX7_beginCode_20, rfl⟩ rfl ?_
  refine zr_iconst dX7_beginCode_21 (by decide) ?_
  refine zt_putz dX7_beginCode_22 fl_X7_60 rfl rfl (Or.inl rfl) ?_
  refine zr_iconst dX7_beginCode_25 (by decide) ?_
  refine zr_store ⟨_, dX7_beginCode_26, rfl⟩ (by decide) rfl ?_
  obtain ⟨y1, hy1, h⟩ := zbind h
  refine t_Re_beginCode_l27 _ _ _ hy1 ?_
  obtain rfl := Option.some.inj h
  exact zt_vret dX7_beginCode_45 rfl
set_option maxRecDepth 100000 in
set_option maxHeartbeats 4000000 in
theorem t_Re_readEscape {a1 : Int} {s : zSt} {res : Int × zSt} (h : f_Re_readEscape a1 s = some res) : zSpecT 2 m_X7_readEscape [.inr (.inl (some 0)), .inl a1] TRe s (some (.inl res.1)) res.2 := by
  refine zSpec_of (by decide +kernel) (Nat.le_of_ble_eq_true rfl) ?_
  show zBT 2 m_X7_readEscape TRe (some (.inl res.1)) res.2 0 [some (.inr (.inl (some 0))), some (.inl a1)] [] s
  unfold f_Re_readEscape at h
  refine zr_load ⟨_, dX7_readEscape_0, rfl⟩ rfl ?_
  refine zr_bipush dX7_readEscape_1 (by decide) (by decide) ?_
  refine zr_ic_ne (tgt := 12) dX7_readEscape_3 (by decide) (fun hc1 => ?_) (fun hc1 => ?_)
  · replace h := zpos h hc1
    refine zr_load ⟨_, dX7_readEscape_12, rfl⟩ rfl ?_
    refine zr_bipush dX7_readEscape_13 (by decide) (by decide) ?_
    refine zr_ic_ne (tgt := 32) dX7_readEscape_15 (by decide) (fun hc2 => ?_) (fun hc2 => ?_)
    · replace h := zpos h hc2
      refine zr_aload ⟨_, dX7_readEscape_32, rfl⟩ rfl ?_
      refine zr_iconst dX7_readEscape_33 (by decide) ?_
      refine zt_put dX7_readEscape_34 fl_X7_27 rfl rfl ?_
      refine zr_iconst dX7_readEscape_37 (by decide) ?_
      obtain rfl := Option.some.inj h
      exact zt_iret dX7_readEscape_38 rfl
    · replace h := zneg h hc2
      refine zr_aload ⟨_, dX7_readEscape_18, rfl⟩ rfl ?_
      refine zr_iconst dX7_readEscape_19 (by decide) ?_
      refine zt_put dX7_readEscape_20 fl_X7_27 rfl rfl ?_
      refine zr_aload ⟨_, dX7_readEscape_23, rfl⟩ rfl ?_
      refine zt_getr dX7_readEscape_24 fl_X7_20 rfl rfl ?_
      obtain ⟨x3, hx3, h⟩ := zbind h
      refine zt_callv (t_By_clear hx3) (zrun_V (rest := []) dX7_readEscape_27 ml_X7_47 rfl rfl (by decide) (by decide) rfl (Nat.le_of_ble_eq_true rfl)) rfl rfl sb_TRe_TBy_3 (Nat.le_refl _) (Nat.le_refl _) ?_
      refine zr_iconst dX7_readEscape_30 (by decide) ?_
      obtain rfl := Option.some.inj h
      exact zt_iret dX7_readEscape_31 rfl
  · replace h := zneg h hc1
    refine zr_aload ⟨_, dX7_readEscape_6, rfl⟩ rfl ?_
    obtain ⟨x4, hx4, h⟩ := zbind h
    refine zt_calliv (t_Re_beginCode hx4) (zrun_V (rest := []) dX7_readEscape_7 ml_X7_44 rfl rfl (by decide) (by decide) rfl (Nat.le_of_ble_eq_true rfl)) rfl rfl (Nat.le_refl _) (Nat.le_refl _) ?_
    refine zr_iconst dX7_readEscape_10 (by decide) ?_
    obtain rfl := Option.some.inj h
    exact zt_iret dX7_readEscape_11 rfl
set_option maxRecDepth 100000 in
set_option maxHeartbeats 4000000 in
theorem t_Re_addDigit {a1 : Int} {s : zSt} {res : Int × zSt} (h : f_Re_addDigit a1 s = some res) : zSpecT 2 m_X7_addDigit [.inr (.inl (some 0)), .inl a1] TRe s none res.2 := by
  refine zSpec_of (by decide +kernel) (Nat.le_of_ble_eq_true rfl) ?_
  show zBT 2 m_X7_addDigit TRe none res.2 0 [some (.inr (.inl (some 0))), some (.inl a1), none] [] s
  unfold f_Re_addDigit at h
  refine zr_aload ⟨_, dX7_addDigit_0, rfl⟩ rfl ?_
  refine zt_get dX7_addDigit_1 fl_X7_50 rfl rfl ?_
  refine zr_iconst dX7_addDigit_4 (by decide) ?_
  refine zr_isub dX7_addDigit_5 ?_
  refine zr_store ⟨_, dX7_addDigit_6, rfl⟩ (by decide) rfl ?_
  refine zr_load ⟨_, dX7_addDigit_7, rfl⟩ rfl ?_
  refine zr_if_lt (tgt := 39) dX7_addDigit_8 (by decide) (fun hc1 => ?_) (fun hc1 => ?_)
  · replace h := zpos h hc1
    obtain rfl := Option.some.inj h
    exact zt_vret dX7_addDigit_39 rfl
  · replace h := zneg h hc1
    refine zr_load ⟨_, dX7_addDigit_11, rfl⟩ rfl ?_
    refine zr_iconst dX7_addDigit_12 (by decide) ?_
    refine zr_ic_ge (tgt := 39) dX7_addDigit_13 (by decide) (fun hc2 => ?_) (fun hc2 => ?_)
    · replace h := zpos h hc2
      obtain rfl := Option.some.inj h
      exact zt_vret dX7_addDigit_39 rfl
    · replace h := zneg h hc2
      refine zr_aload ⟨_, dX7_addDigit_16, rfl⟩ rfl ?_
      refine zt_getr dX7_addDigit_17 fl_X7_23 rfl rfl ?_
      refine zr_load ⟨_, dX7_addDigit_20, rfl⟩ rfl ?_
      refine zr_aload ⟨_, dX7_addDigit_21, rfl⟩ rfl ?_
      refine zt_getr dX7_addDigit_22 fl_X7_23 rfl rfl ?_
      refine zr_load ⟨_, dX7_addDigit_25, rfl⟩ rfl ?_
      obtain ⟨hb3, h⟩ := zchk h
      refine zt_iaload dX7_addDigit_26 rfl hb3 ?_
      refine zr_bipush dX7_addDigit_27 (by decide) (by decide) ?_
      refine zr_imul dX7_addDigit_29 ?_
      refine zr_load ⟨_, dX7_addDigit_30, rfl⟩ rfl ?_
      refine zr_iadd dX7_addDigit_31 ?_
      refine zr_sipush dX7_addDigit_32 (by decide) (by decide) ?_
      refine zr_min dX7_addDigit_35 ml_X7_63 (by decide) (Nat.le_refl _) (Nat.le_refl _) (Nat.le_of_ble_eq_true rfl) ?_
      obtain ⟨hb4, h⟩ := zchk h
      refine zt_iastore dX7_addDigit_38 rfl hb4 ?_
      obtain rfl := Option.some.inj h
      exact zt_vret dX7_addDigit_39 rfl
set_option maxRecDepth 100000 in
set_option maxHeartbeats 4000000 in
theorem t_Re_readCode_j69 {v1 : Int} {s : zSt} {res : Int × zSt} (h : f_Re_readCode_j69 v1 s = some res) : zBT 3 m_X7_readCode TRe (some (.inl res.1)) res.2 69 [some (.inr (.inl (some 0))), some (.inl v1)] [] s := by
  unfold f_Re_readCode_j69 at h
  refine zr_load ⟨_, dX7_readCode_69, rfl⟩ rfl ?_
  refine zr_bipush dX7_readCode_70 (by decide) (by decide) ?_
  refine zr_ic_ne (tgt := 92) dX7_readCode_72 (by decide) (fun hc1 => ?_) (fun hc1 => ?_)
  · replace h := zpos h hc1
    refine zr_load ⟨_, dX7_readCode_92, rfl⟩ rfl ?_
    refine zr_bipush dX7_readCode_93 (by decide) (by decide) ?_
    refine zr_ic_ne (tgt := 113) dX7_readCode_95 (by decide) (fun hc2 => ?_) (fun hc2 => ?_)
    · replace h := zpos h hc2
      refine zr_aload ⟨_, dX7_readCode_113, rfl⟩ rfl ?_
      refine zr_iconst dX7_readCode_114 (by decide) ?_
      refine zt_putz dX7_readCode_115 fl_X7_57 rfl rfl (Or.inr rfl) ?_
      refine zr_aload ⟨_, dX7_readCode_118, rfl⟩ rfl ?_
      refine zr_iconst dX7_readCode_119 (by decide) ?_
      refine zt_putz dX7_readCode_120 fl_X7_60 rfl rfl (Or.inr rfl) ?_
      refine zr_iconst dX7_readCode_123 (by decide) ?_
      obtain rfl := Option.some.inj h
      exact zt_iret dX7_readCode_124 rfl
    · replace h := zneg h hc2
      refine zr_aload ⟨_, dX7_readCode_98, rfl⟩ rfl ?_
      refine zt_get dX7_readCode_99 fl_X7_60 rfl rfl ?_
      refine zr_if_ne (tgt := 113) dX7_readCode_102 (by decide) (fun hc3 => ?_) (fun hc3 => ?_)
      · replace h := zpos h hc3
        refine zr_aload ⟨_, dX7_readCode_113, rfl⟩ rfl ?_
        refine zr_iconst dX7_readCode_114 (by decide) ?_
        refine zt_putz dX7_readCode_115 fl_X7_57 rfl rfl (Or.inr rfl) ?_
        refine zr_aload ⟨_, dX7_readCode_118, rfl⟩ rfl ?_
        refine zr_iconst dX7_readCode_119 (by decide) ?_
        refine zt_putz dX7_readCode_120 fl_X7_60 rfl rfl (Or.inr rfl) ?_
        refine zr_iconst dX7_readCode_123 (by decide) ?_
        obtain rfl := Option.some.inj h
        exact zt_iret dX7_readCode_124 rfl
      · replace h := zneg h hc3
        refine zr_aload ⟨_, dX7_readCode_105, rfl⟩ rfl ?_
        refine zr_iconst dX7_readCode_106 (by decide) ?_
        refine zt_putz dX7_readCode_107 fl_X7_53 rfl rfl (Or.inr rfl) ?_
        refine zr_goto (tgt := 118) dX7_readCode_110 (by decide) ?_
        refine zr_aload ⟨_, dX7_readCode_118, rfl⟩ rfl ?_
        refine zr_iconst dX7_readCode_119 (by decide) ?_
        refine zt_putz dX7_readCode_120 fl_X7_60 rfl rfl (Or.inr rfl) ?_
        refine zr_iconst dX7_readCode_123 (by decide) ?_
        obtain rfl := Option.some.inj h
        exact zt_iret dX7_readCode_124 rfl
  · replace h := zneg h hc1
    refine zr_aload ⟨_, dX7_readCode_75, rfl⟩ rfl ?_
    refine zr_aload ⟨_, dX7_readCode_76, rfl⟩ rfl ?_
    refine zt_get dX7_readCode_77 fl_X7_50 rfl rfl ?_
    refine zr_iconst dX7_readCode_80 (by decide) ?_
    refine zr_min dX7_readCode_81 ml_X7_63 (by decide) (Nat.le_refl _) (Nat.le_refl _) (Nat.le_of_ble_eq_true rfl) ?_
    refine zr_iconst dX7_readCode_84 (by decide) ?_
    refine zr_iadd dX7_readCode_85 ?_
    refine zt_put dX7_readCode_86 fl_X7_50 rfl rfl ?_
    refine zr_goto (tgt := 118) dX7_readCode_89 (by decide) ?_
    refine zr_aload ⟨_, dX7_readCode_118, rfl⟩ rfl ?_
    refine zr_iconst dX7_readCode_119 (by decide) ?_
    refine zt_putz dX7_readCode_120 fl_X7_60 rfl rfl (Or.inr rfl) ?_
    refine zr_iconst dX7_readCode_123 (by decide) ?_
    obtain rfl := Option.some.inj h
    exact zt_iret dX7_readCode_124 rfl
set_option maxRecDepth 100000 in
set_option maxHeartbeats 4000000 in
theorem t_Re_readCode {a1 : Int} {s : zSt} {res : Int × zSt} (h : f_Re_readCode a1 s = some res) : zSpecT 3 m_X7_readCode [.inr (.inl (some 0)), .inl a1] TRe s (some (.inl res.1)) res.2 := by
  refine zSpec_of (by decide +kernel) (Nat.le_of_ble_eq_true rfl) ?_
  show zBT 3 m_X7_readCode TRe (some (.inl res.1)) res.2 0 [some (.inr (.inl (some 0))), some (.inl a1)] [] s
  unfold f_Re_readCode at h
  refine zr_load ⟨_, dX7_readCode_0, rfl⟩ rfl ?_
  refine zr_bipush dX7_readCode_1 (by decide) (by decide) ?_
  refine zr_ic_lt (tgt := 46) dX7_readCode_3 (by decide) (fun hc1 => ?_) (fun hc1 => ?_)
  · replace h := zpos h hc1
    refine zr_load ⟨_, dX7_readCode_46, rfl⟩ rfl ?_
    refine zr_bipush dX7_readCode_47 (by decide) (by decide) ?_
    refine zr_ic_lt (tgt := 69) dX7_readCode_49 (by decide) (fun hc2 => ?_) (fun hc2 => ?_)
    · replace h := zpos h hc2
      exact t_Re_readCode_j69 h
    · replace h := zneg h hc2
      refine zr_load ⟨_, dX7_readCode_52, rfl⟩ rfl ?_
      refine zr_bipush dX7_readCode_53 (by decide) (by decide) ?_
      refine zr_ic_gt (tgt := 69) dX7_readCode_55 (by decide) (fun hc3 => ?_) (fun hc3 => ?_)
      · replace h := zpos h hc3
        exact t_Re_readCode_j69 h
      · replace h := zneg h hc3
        refine zr_aload ⟨_, dX7_readCode_58, rfl⟩ rfl ?_
        refine zr_load ⟨_, dX7_readCode_59, rfl⟩ rfl ?_
        refine zr_bipush dX7_readCode_60 (by decide) (by decide) ?_
        refine zr_isub dX7_readCode_62 ?_
        obtain ⟨x4, hx4, h⟩ := zbind h
        refine zt_calliv (t_Re_addDigit hx4) (zrun_V (rest := []) dX7_readCode_63 ml_X7_69 rfl rfl (by decide) (by decide) rfl (Nat.le_of_ble_eq_true rfl)) rfl rfl (Nat.le_refl _) (Nat.le_refl _) ?_
        refine zr_goto (tgt := 118) dX7_readCode_66 (by decide) ?_
        refine zr_aload ⟨_, dX7_readCode_118, rfl⟩ rfl ?_
        refine zr_iconst dX7_readCode_119 (by decide) ?_
        refine zt_putz dX7_readCode_120 fl_X7_60 rfl rfl (Or.inr rfl) ?_
        refine zr_iconst dX7_readCode_123 (by decide) ?_
        obtain rfl := Option.some.inj h
        exact zt_iret dX7_readCode_124 rfl
  · replace h := zneg h hc1
    refine zr_aload ⟨_, dX7_readCode_6, rfl⟩ rfl ?_
    refine zr_iconst dX7_readCode_7 (by decide) ?_
    refine zt_put dX7_readCode_8 fl_X7_27 rfl rfl ?_
    refine zr_aload ⟨_, dX7_readCode_11, rfl⟩ rfl ?_
    refine zr_aload ⟨_, dX7_readCode_12, rfl⟩ rfl ?_
    refine zt_get dX7_readCode_13 fl_X7_50 rfl rfl ?_
    refine zr_iconst dX7_readCode_16 (by decide) ?_
    refine zr_min dX7_readCode_17 ml_X7_63 (by decide) (Nat.le_refl _) (Nat.le_refl _) (Nat.le_of_ble_eq_true rfl) ?_
    refine zt_put dX7_readCode_20 fl_X7_50 rfl rfl ?_
    refine zr_aload ⟨_, dX7_readCode_23, rfl⟩ rfl ?_
    refine zt_get dX7_readCode_24 fl_X7_57 rfl rfl ?_
    refine zr_if_eq (tgt := 32) dX7_readCode_27 (by decide) (fun hc5 => ?_) (fun hc5 => ?_)
    · replace h := zpos h hc5
      refine zr_aload ⟨_, dX7_readCode_32, rfl⟩ rfl ?_
      refine zt_get dX7_readCode_33 fl_X7_53 rfl rfl ?_
      have hj6 : zBT 3 m_X7_readCode TRe (some (.inl res.1)) res.2 45 [some (.inr (.inl (some 0))), some (.inl a1)] [.inl (if (s.1 0 5) = 0 then 5 else 6)] (uS (uS s 0 3 0) 0 4 (if 4 < (s.1 0 4) then 4 else (s.1 0 4))) := by
        obtain rfl := Option.some.inj h
        exact zt_iret dX7_readCode_45 rfl
      refine zr_if_eq (tgt := 44) dX7_readCode_36 (by decide) (fun hc7 => ?_) (fun hc7 => ?_)
      · have hp8 := zif_t hj6 hc7
        refine zr_iconst dX7_readCode_44 (by decide) ?_
        exact hp8
      · have hp9 := zif_f hj6 hc7
        refine zr_bipush dX7_readCode_39 (by decide) (by decide) ?_
        refine zr_goto (tgt := 45) dX7_readCode_41 (by decide) ?_
        exact hp9
    · replace h := zneg h hc5
      refine zr_iconst dX7_readCode_30 (by decide) ?_
      obtain rfl := Option.some.inj h
      exact zt_iret dX7_readCode_31 rfl
set_option maxRecDepth 100000 in
set_option maxHeartbeats 4000000 in
theorem t_Re_readTitle {a1 : Int} {s : zSt} {res : Int × zSt} (h : f_Re_readTitle a1 s = some res) : zSpecT 4 m_X7_readTitle [.inr (.inl (some 0)), .inl a1] TRe s none res.2 := by
  refine zSpec_of (by decide +kernel) (Nat.le_of_ble_eq_true rfl) ?_
  show zBT 4 m_X7_readTitle TRe none res.2 0 [some (.inr (.inl (some 0))), some (.inl a1)] [] s
  unfold f_Re_readTitle at h
  refine zr_load ⟨_, dX7_readTitle_0, rfl⟩ rfl ?_
  refine zr_bipush dX7_readTitle_1 (by decide) (by decide) ?_
  refine zr_ic_ne (tgt := 32) dX7_readTitle_3 (by decide) (fun hc1 => ?_) (fun hc1 => ?_)
  · replace h := zpos h hc1
    refine zr_load ⟨_, dX7_readTitle_32, rfl⟩ rfl ?_
    refine zr_bipush dX7_readTitle_33 (by decide) (by decide) ?_
    refine zr_ic_ne (tgt := 46) dX7_readTitle_35 (by decide) (fun hc2 => ?_) (fun hc2 => ?_)
    · replace h := zpos h hc2
      refine zr_load ⟨_, dX7_readTitle_46, rfl⟩ rfl ?_
      refine zr_bipush dX7_readTitle_47 (by decide) (by decide) ?_
      refine zr_ic_ne (tgt := 60) dX7_readTitle_49 (by decide) (fun hc3 => ?_) (fun hc3 => ?_)
      · replace h := zpos h hc3
        refine zr_load ⟨_, dX7_readTitle_60, rfl⟩ rfl ?_
        refine zr_bipush dX7_readTitle_61 (by decide) (by decide) ?_
        refine zr_ic_lt (tgt := 81) dX7_readTitle_63 (by decide) (fun hc4 => ?_) (fun hc4 => ?_)
        · replace h := zpos h hc4
          obtain rfl := Option.some.inj h
          exact zt_vret dX7_readTitle_81 rfl
        · replace h := zneg h hc4
          refine zr_load ⟨_, dX7_readTitle_66, rfl⟩ rfl ?_
          refine zr_bipush dX7_readTitle_67 (by decide) (by decide) ?_
          refine zr_ic_ge (tgt := 81) dX7_readTitle_69 (by decide) (fun hc5 => ?_) (fun hc5 => ?_)
          · replace h := zpos h hc5
            obtain rfl := Option.some.inj h
            exact zt_vret dX7_readTitle_81 rfl
          · replace h := zneg h hc5
            refine zr_aload ⟨_, dX7_readTitle_72, rfl⟩ rfl ?_
            refine zt_getr dX7_readTitle_73 fl_X7_20 rfl rfl ?_
            refine zr_load ⟨_, dX7_readTitle_76, rfl⟩ rfl ?_
            obtain ⟨x6, hx6, h⟩ := zbind h
            refine zt_calli (t_By_add hx6) (zrun_V (rest := []) dX7_readTitle_77 ml_X7_76 rfl rfl (by decide) (by decide) rfl (Nat.le_of_ble_eq_true rfl)) rfl rfl sb_TRe_TBy_3 (Nat.le_refl _) (Nat.le_refl _) ?_
            refine zr_pop dX7_readTitle_80 (Or.inr ⟨_, rfl⟩) ?_
            obtain rfl := Option.some.inj h
            exact zt_vret dX7_readTitle_81 rfl
      · replace h := zneg h hc3
        refine zr_aload ⟨_, dX7_readTitle_52, rfl⟩ rfl ?_
        refine zr_iconst dX7_readTitle_53 (by decide) ?_
        refine zt_put dX7_readTitle_54 fl_X7_27 rfl rfl ?_
        refine zr_goto (tgt := 81) dX7_readTitle_57 (by decide) ?_
        obtain rfl := Option.some.inj h
        exact zt_vret dX7_readTitle_81 rfl
    · replace h := zneg h hc2
      refine zr_aload ⟨_, dX7_readTitle_38, rfl⟩ rfl ?_
      refine zr_iconst dX7_readTitle_39 (by decide) ?_
      refine zt_put dX7_readTitle_40 fl_X7_27 rfl rfl ?_
      refine zr_goto (tgt := 81) dX7_readTitle_43 (by decide) ?_
      obtain rfl := Option.some.inj h
      exact zt_vret dX7_readTitle_81 rfl
  · replace h := zneg h hc1
    refine zr_aload ⟨_, dX7_readTitle_6, rfl⟩ rfl ?_
    refine zr_iconst dX7_readTitle_7 (by decide) ?_
    refine zt_put dX7_readTitle_8 fl_X7_27 rfl rfl ?_
    refine zr_aload ⟨_, dX7_readTitle_11, rfl⟩ rfl ?_
    refine zt_getr dX7_readTitle_12 fl_X7_14 rfl rfl ?_
    obtain ⟨x7, hx7, h⟩ := zbind h
    refine zt_callv (t_By_clear hx7) (zrun_V (rest := []) dX7_readTitle_15 ml_X7_47 rfl rfl (by decide) (by decide) rfl (Nat.le_of_ble_eq_true rfl)) rfl rfl sb_TRe_TBy_1 (Nat.le_refl _) (Nat.le_refl _) ?_
    refine zr_aload ⟨_, dX7_readTitle_18, rfl⟩ rfl ?_
    refine zt_getr dX7_readTitle_19 fl_X7_14 rfl rfl ?_
    refine zr_aload ⟨_, dX7_readTitle_22, rfl⟩ rfl ?_
    refine zt_getr dX7_readTitle_23 fl_X7_20 rfl rfl ?_
    obtain ⟨x8, hx8, h⟩ := zbind h
    refine zt_callv (t_By_addAll hx8) (zrun_V (rest := []) dX7_readTitle_26 ml_X7_72 rfl rfl (by decide) (by decide) rfl (Nat.le_of_ble_eq_true rfl)) rfl rfl sb_TRe_TByBy_1 (Nat.le_refl _) (Nat.le_refl _) ?_
    refine zr_goto (tgt := 81) dX7_readTitle_29 (by decide) ?_
    obtain rfl := Option.some.inj h
    exact zt_vret dX7_readTitle_81 rfl
set_option maxRecDepth 100000 in
set_option maxHeartbeats 4000000 in
theorem t_Re_read {a1 : Int} {s : zSt} {res : Int × zSt} (h : f_Re_read a1 s = some res) : zSpecT 5 m_X7_read [.inr (.inl (some 0)), .inl a1] TRe s (some (.inl res.1)) res.2 := by
  refine zSpec_of (by decide +kernel) (Nat.le_of_ble_eq_true rfl) ?_
  show zBT 5 m_X7_read TRe (some (.inl res.1)) res.2 0 [some (.inr (.inl (some 0))), some (.inl a1)] [] s
  unfold f_Re_read at h
  refine zr_aload ⟨_, dX7_read_0, rfl⟩ rfl ?_
  refine zt_get dX7_read_1 fl_X7_27 rfl rfl ?_
  refine zr_iconst dX7_read_4 (by decide) ?_
  refine zr_ic_ne (tgt := 15) dX7_read_5 (by decide) (fun hc1 => ?_) (fun hc1 => ?_)
  · replace h := zpos h hc1
    refine zr_load ⟨_, dX7_read_15, rfl⟩ rfl ?_
    refine zr_bipush dX7_read_16 (by decide) (by decide) ?_
    refine zr_ic_lt (tgt := 27) dX7_read_18 (by decide) (fun hc2 => ?_) (fun hc2 => ?_)
    · replace h := zpos h hc2
      refine zr_aload ⟨_, dX7_read_27, rfl⟩ rfl ?_
      refine zr_load ⟨_, dX7_read_28, rfl⟩ rfl ?_
      obtain ⟨x3, hx3, h⟩ := zbind h
      refine zt_callii (t_Re_readControl hx3) (zrun_V (rest := []) dX7_read_29 ml_X7_34 rfl rfl (by decide) (by decide) rfl (Nat.le_of_ble_eq_true rfl)) rfl rfl (Nat.le_refl _) (Nat.le_refl _) ?_
      obtain rfl := Option.some.inj h
      exact zt_iret dX7_read_32 rfl
    · replace h := zneg h hc2
      refine zr_load ⟨_, dX7_read_21, rfl⟩ rfl ?_
      refine zr_bipush dX7_read_22 (by decide) (by decide) ?_
      refine zr_ic_ne (tgt := 33) dX7_read_24 (by decide) (fun hc4 => ?_) (fun hc4 => ?_)
      · replace h := zpos h hc4
        refine zr_aload ⟨_, dX7_read_33, rfl⟩ rfl ?_
        refine zt_get dX7_read_34 fl_X7_27 rfl rfl ?_
        refine zr_iconst dX7_read_37 (by decide) ?_
        refine zr_ic_ne (tgt := 47) dX7_read_38 (by decide) (fun hc5 => ?_) (fun hc5 => ?_)
        · replace h := zpos h hc5
          refine zr_aload ⟨_, dX7_read_47, rfl⟩ rfl ?_
          refine zt_get dX7_read_48 fl_X7_27 rfl rfl ?_
          refine zr_iconst dX7_read_51 (by decide) ?_
          refine zr_ic_ne (tgt := 61) dX7_read_52 (by decide) (fun hc6 => ?_) (fun hc6 => ?_)
          · replace h := zpos h hc6
            refine zr_load ⟨_, dX7_read_61, rfl⟩ rfl ?_
            refine zr_bipush dX7_read_62 (by decide) (by decide) ?_
            have hj7 : zBT 5 m_X7_read TRe (some (.inl res.1)) res.2 72 [some (.inr (.inl (some 0))), some (.inl a1)] [.inl (if ¬ a1 = 96 then 1 else 2)] s := by
              obtain rfl := Option.some.inj h
              exact zt_iret dX7_read_72 rfl
            refine zr_ic_ne (tgt := 71) dX7_read_64 (by decide) (fun hc8 => ?_) (fun hc8 => ?_)
            · have hp9 := zif_t hj7 hc8
              refine zr_iconst dX7_read_71 (by decide) ?_
              exact hp9
            · have hp10 := zif_f hj7 hc8
              refine zr_iconst dX7_read_67 (by decide) ?_
              refine zr_goto (tgt := 72) dX7_read_68 (by decide) ?_
              exact hp10
          · replace h := zneg h hc6
            refine zr_aload ⟨_, dX7_read_55, rfl⟩ rfl ?_
            refine zr_load ⟨_, dX7_read_56, rfl⟩ rfl ?_
            obtain ⟨x11, hx11, h⟩ := zbind h
            refine zt_callii (t_Re_readCode hx11) (zrun_V (rest := []) dX7_read_57 ml_X7_41 rfl rfl (by decide) (by decide) rfl (Nat.le_of_ble_eq_true rfl)) rfl rfl (Nat.le_refl _) (Nat.le_refl _) ?_
            obtain rfl := Option.some.inj h
            exact zt_iret dX7_read_60 rfl
        · replace h := zneg h hc5
          refine zr_aload ⟨_, dX7_read_41, rfl⟩ rfl ?_
          refine zr_load ⟨_, dX7_read_42, rfl⟩ rfl ?_
          obtain ⟨x12, hx12, h⟩ := zbind h
          refine zt_callii (t_Re_readEscape hx12) (zrun_V (rest := []) dX7_read_43 ml_X7_38 rfl rfl (by decide) (by decide) rfl (Nat.le_of_ble_eq_true rfl)) rfl rfl (Nat.le_refl _) (Nat.le_refl _) ?_
          obtain rfl := Option.some.inj h
          exact zt_iret dX7_read_46 rfl
      · replace h := zneg h hc4
        refine zr_aload ⟨_, dX7_read_27, rfl⟩ rfl ?_
        refine zr_load ⟨_, dX7_read_28, rfl⟩ rfl ?_
        obtain ⟨x13, hx13, h⟩ := zbind h
        refine zt_callii (t_Re_readControl hx13) (zrun_V (rest := []) dX7_read_29 ml_X7_34 rfl rfl (by decide) (by decide) rfl (Nat.le_of_ble_eq_true rfl)) rfl rfl (Nat.le_refl _) (Nat.le_refl _) ?_
        obtain rfl := Option.some.inj h
        exact zt_iret dX7_read_32 rfl
  · replace h := zneg h hc1
    refine zr_aload ⟨_, dX7_read_8, rfl⟩ rfl ?_
    refine zr_load ⟨_, dX7_read_9, rfl⟩ rfl ?_
    obtain ⟨x14, hx14, h⟩ := zbind h
    refine zt_calliv (t_Re_readTitle hx14) (zrun_V (rest := []) dX7_read_10 ml_X7_31 rfl rfl (by decide) (by decide) rfl (Nat.le_of_ble_eq_true rfl)) rfl rfl (Nat.le_refl _) (Nat.le_refl _) ?_
    refine zr_iconst dX7_read_13 (by decide) ?_
    obtain rfl := Option.some.inj h
    exact zt_iret dX7_read_14 rfl
