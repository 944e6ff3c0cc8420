set_option maxRecDepth 100000 in
set_option maxHeartbeats 4000000 in
theorem t_Rf_modes_l2 {c1 c2 : Int} {r : Option zAV} {s0 : zSt}  : ∀ (n : Nat) (x : Int × zSt) (out : zSt), zloop (f_Rf_modes_l2 c1 c2) n x = some out → (zBT 4 m_X12_modes TRf r s0 72 [none, none, none, none] [] out) → zBT 4 m_X12_modes TRf r s0 2 [some (.inr (.inl (some 0))), some (.inl c1), some (.inl c2), some (.inl x.1)] [] x.2 := by
  refine zloop_B (B := fun (x : Int × zSt) (out : zSt) => zBT 4 m_X12_modes TRf r s0 72 [none, none, none, none] [] out → zBT 4 m_X12_modes TRf r s0 2 [some (.inr (.inl (some 0))), some (.inl c1), some (.inl c2), some (.inl x.1)] [] x.2) ?_
  intro x o out h hk hx
  unfold f_Rf_modes_l2 at h
  refine zr_load ⟨_, dX12_modes_2, rfl⟩ rfl ?_
  refine zr_aload ⟨_, dX12_modes_3, rfl⟩ rfl ?_
  refine zt_get dX12_modes_4 fl_X12_195 rfl rfl ?_
  refine zr_ic_ge (tgt := 72) dX12_modes_7 (by decide) (fun hc1 => ?_) (fun hc1 => ?_)
  · replace h := zpos h hc1
    refine zr_mask [false, false, false, false] rfl ?_
    obtain rfl := Option.some.inj h
    obtain rfl := hk
    exact hx
  · replace h := zneg h hc1
    refine zr_load ⟨_, dX12_modes_10, rfl⟩ rfl ?_
    refine zr_bipush dX12_modes_11 (by decide) (by decide) ?_
    refine zr_ic_eq (tgt := 22) dX12_modes_13 (by decide) (fun hc2 => ?_) (fun hc2 => ?_)
    · replace h := zpos h hc2
      refine zr_aload ⟨_, dX12_modes_22, rfl⟩ rfl ?_
      refine zr_load ⟨_, dX12_modes_23, rfl⟩ rfl ?_
      refine zr_if_eq (tgt := 36) dX12_modes_24 (by decide) (fun hc3 => ?_) (fun hc3 => ?_)
      · replace h := zpos h hc3
        refine zr_aload ⟨_, dX12_modes_36, rfl⟩ rfl ?_
        refine zt_getr dX12_modes_37 fl_X12_40 rfl rfl ?_
        refine zr_load ⟨_, dX12_modes_40, rfl⟩ rfl ?_
        obtain ⟨hb4, h⟩ := zchk h
        refine zt_iaload dX12_modes_41 rfl hb4 ?_
        refine zr_iconst dX12_modes_42 (by decide) ?_
        have hj5 : zBT 4 m_X12_modes TRf r s0 52 [some (.inr (.inl (some 0))), some (.inl c1), some (.inl c2), some (.inl x.1)] [.inl (if ¬ ((x.2.2 5) x.1) = 4 then (-1) else (-4)), .inr (.inl (some 0))] x.2 := by
          refine zr_load ⟨_, dX12_modes_52, rfl⟩ rfl ?_
          refine zr_bipush dX12_modes_53 (by decide) (by decide) ?_
          have hj7 : zBT 4 m_X12_modes TRf r s0 63 [some (.inr (.inl (some 0))), some (.inl c1), some (.inl c2), some (.inl x.1)] [.inl (if ¬ c1 = 104 then 0 else 1), .inl (if ¬ ((x.2.2 5) x.1) = 4 then (-1) else (-4)), .inr (.inl (some 0))] x.2 := by
            obtain ⟨x9, hx9, h⟩ := zbind h
            refine zt_calliv (t_Rf_setsMode hx9) (zrun_V (rest := []) dX12_modes_63 ml_X12_250 rfl rfl (by decide) (by decide) rfl (Nat.le_of_ble_eq_true rfl)) rfl rfl (Nat.le_refl _) (Nat.le_refl _) ?_
            refine zr_iinc dX12_modes_66 rfl (by decide) rfl ?_
            refine zr_goto (tgt := 2) dX12_modes_69 (by decide) ?_
            obtain rfl := Option.some.inj h
            exact hk hx
          refine zr_ic_ne (tgt := 62) dX12_modes_55 (by decide) (fun hc8 => ?_) (fun hc8 => ?_)
          · have hp10 := zif_t hj7 hc8
            refine zr_iconst dX12_modes_62 (by decide) ?_
            exact hp10
          · have hp11 := zif_f hj7 hc8
            refine zr_iconst dX12_modes_58 (by decide) ?_
            refine zr_goto (tgt := 63) dX12_modes_59 (by decide) ?_
            exact hp11
        refine zr_ic_ne (tgt := 51) dX12_modes_43 (by decide) (fun hc6 => ?_) (fun hc6 => ?_)
        · have hp12 := zif_t hj5 hc6
          refine zr_iconst dX12_modes_51 (by decide) ?_
          exact hp12
        · have hp13 := zif_f hj5 hc6
          refine zr_bipush dX12_modes_46 (by decide) (by decide) ?_
          refine zr_goto (tgt := 52) dX12_modes_48 (by decide) ?_
          exact hp13
      · replace h := zneg h hc3
        refine zr_aload ⟨_, dX12_modes_27, rfl⟩ rfl ?_
        refine zt_getr dX12_modes_28 fl_X12_40 rfl rfl ?_
        refine zr_load ⟨_, dX12_modes_31, rfl⟩ rfl ?_
        obtain ⟨hb14, h⟩ := zchk h
        refine zt_iaload dX12_modes_32 rfl hb14 ?_
        refine zr_goto (tgt := 52) dX12_modes_33 (by decide) ?_
        refine zr_load ⟨_, dX12_modes_52, rfl⟩ rfl ?_
        refine zr_bipush dX12_modes_53 (by decide) (by decide) ?_
        have hj15 : zBT 4 m_X12_modes TRf r s0 63 [some (.inr (.inl (some 0))), some (.inl c1), some (.inl c2), some (.inl x.1)] [.inl (if ¬ c1 = 104 then 0 else 1), .inl ((x.2.2 5) x.1), .inr (.inl (some 0))] x.2 := by
          obtain ⟨x17, hx17, h⟩ := zbind h
          refine zt_calliv (t_Rf_setsMode hx17) (zrun_V (rest := []) dX12_modes_63 ml_X12_250 rfl rfl (by decide) (by decide) rfl (Nat.le_of_ble_eq_true rfl)) rfl rfl (Nat.le_refl _) (Nat.le_refl _) ?_
          refine zr_iinc dX12_modes_66 rfl (by decide) rfl ?_
          refine zr_goto (tgt := 2) dX12_modes_69 (by decide) ?_
          obtain rfl := Option.some.inj h
          exact hk hx
        refine zr_ic_ne (tgt := 62) dX12_modes_55 (by decide) (fun hc16 => ?_) (fun hc16 => ?_)
        · have hp18 := zif_t hj15 hc16
          refine zr_iconst dX12_modes_62 (by decide) ?_
          exact hp18
        · have hp19 := zif_f hj15 hc16
          refine zr_iconst dX12_modes_58 (by decide) ?_
          refine zr_goto (tgt := 63) dX12_modes_59 (by decide) ?_
          exact hp19
    · replace h := zneg h hc2
      refine zr_load ⟨_, dX12_modes_16, rfl⟩ rfl ?_
      refine zr_bipush dX12_modes_17 (by decide) (by decide) ?_
      refine zr_ic_ne (tgt := 72) dX12_modes_19 (by decide) (fun hc20 => ?_) (fun hc20 => ?_)
      · replace h := zpos h hc20
        refine zr_mask [false, false, false, false] rfl ?_
        obtain rfl := Option.some.inj h
        obtain rfl := hk
        exact hx
      · replace h := zneg h hc20
        refine zr_aload ⟨_, dX12_modes_22, rfl⟩ rfl ?_
        refine zr_load ⟨_, dX12_modes_23, rfl⟩ rfl ?_
        refine zr_if_eq (tgt := 36) dX12_modes_24 (by decide) (fun hc21 => ?_) (fun hc21 => ?_)
        · replace h := zpos h hc21
          refine zr_aload ⟨_, dX12_modes_36, rfl⟩ rfl ?_
          refine zt_getr dX12_modes_37 fl_X12_40 rfl rfl ?_
          refine zr_load ⟨_, dX12_modes_40, rfl⟩ rfl ?_
          obtain ⟨hb22, h⟩ := zchk h
          refine zt_iaload dX12_modes_41 rfl hb22 ?_
          refine zr_iconst dX12_modes_42 (by decide) ?_
          have hj23 : zBT 4 m_X12_modes TRf r s0 52 [some (.inr (.inl (some 0))), some (.inl c1), some (.inl c2), some (.inl x.1)] [.inl (if ¬ ((x.2.2 5) x.1) = 4 then (-1) else (-4)), .inr (.inl (some 0))] x.2 := by
            refine zr_load ⟨_, dX12_modes_52, rfl⟩ rfl ?_
            refine zr_bipush dX12_modes_53 (by decide) (by decide) ?_
            have hj25 : zBT 4 m_X12_modes TRf r s0 63 [some (.inr (.inl (some 0))), some (.inl c1), some (.inl c2), some (.inl x.1)] [.inl (if ¬ c1 = 104 then 0 else 1), .inl (if ¬ ((x.2.2 5) x.1) = 4 then (-1) else (-4)), .inr (.inl (some 0))] x.2 := by
              obtain ⟨x27, hx27, h⟩ := zbind h
              refine zt_calliv (t_Rf_setsMode hx27) (zrun_V (rest := []) dX12_modes_63 ml_X12_250 rfl rfl (by decide) (by decide) rfl (Nat.le_of_ble_eq_true rfl)) rfl rfl (Nat.le_refl _) (Nat.le_refl _) ?_
              refine zr_iinc dX12_modes_66 rfl (by decide) rfl ?_
              refine zr_goto (tgt := 2) dX12_modes_69 (by decide) ?_
              obtain rfl := Option.some.inj h
              exact hk hx
            refine zr_ic_ne (tgt := 62) dX12_modes_55 (by decide) (fun hc26 => ?_) (fun hc26 => ?_)
            · have hp28 := zif_t hj25 hc26
              refine zr_iconst dX12_modes_62 (by decide) ?_
              exact hp28
            · have hp29 := zif_f hj25 hc26
              refine zr_iconst dX12_modes_58 (by decide) ?_
              refine zr_goto (tgt := 63) dX12_modes_59 (by decide) ?_
              exact hp29
          refine zr_ic_ne (tgt := 51) dX12_modes_43 (by decide) (fun hc24 => ?_) (fun hc24 => ?_)
          · have hp30 := zif_t hj23 hc24
            refine zr_iconst dX12_modes_51 (by decide) ?_
            exact hp30
          · have hp31 := zif_f hj23 hc24
            refine zr_bipush dX12_modes_46 (by decide) (by decide) ?_
            refine zr_goto (tgt := 52) dX12_modes_48 (by decide) ?_
            exact hp31
        · replace h := zneg h hc21
          refine zr_aload ⟨_, dX12_modes_27, rfl⟩ rfl ?_
          refine zt_getr dX12_modes_28 fl_X12_40 rfl rfl ?_
          refine zr_load ⟨_, dX12_modes_31, rfl⟩ rfl ?_
          obtain ⟨hb32, h⟩ := zchk h
          refine zt_iaload dX12_modes_32 rfl hb32 ?_
          refine zr_goto (tgt := 52) dX12_modes_33 (by decide) ?_
          refine zr_load ⟨_, dX12_modes_52, rfl⟩ rfl ?_
          refine zr_bipush dX12_modes_53 (by decide) (by decide) ?_
          have hj33 : zBT 4 m_X12_modes TRf r s0 63 [some (.inr (.inl (some 0))), some (.inl c1), some (.inl c2), some (.inl x.1)] [.inl (if ¬ c1 = 104 then 0 else 1), .inl ((x.2.2 5) x.1), .inr (.inl (some 0))] x.2 := by
            obtain ⟨x35, hx35, h⟩ := zbind h
            refine zt_calliv (t_Rf_setsMode hx35) (zrun_V (rest := []) dX12_modes_63 ml_X12_250 rfl rfl (by decide) (by decide) rfl (Nat.le_of_ble_eq_true rfl)) rfl rfl (Nat.le_refl _) (Nat.le_refl _) ?_
            refine zr_iinc dX12_modes_66 rfl (by decide) rfl ?_
            refine zr_goto (tgt := 2) dX12_modes_69 (by decide) ?_
            obtain rfl := Option.some.inj h
            exact hk hx
          refine zr_ic_ne (tgt := 62) dX12_modes_55 (by decide) (fun hc34 => ?_) (fun hc34 => ?_)
          · have hp36 := zif_t hj33 hc34
            refine zr_iconst dX12_modes_62 (by decide) ?_
            exact hp36
          · have hp37 := zif_f hj33 hc34
            refine zr_iconst dX12_modes_58 (by decide) ?_
            refine zr_goto (tgt := 63) dX12_modes_59 (by decide) ?_
            exact hp37
set_option maxRecDepth 100000 in
set_option maxHeartbeats 4000000 in
theorem t_Rf_modes {a1 a2 : Int} {s : zSt} {res : Int × zSt} (h : f_Rf_modes a1 a2 s = some res) : zSpecT 4 m_X12_modes [.inr (.inl (some 0)), .inl a1, .inl a2] TRf s none res.2 := by
  refine zSpec_of (by decide +kernel) (Nat.le_of_ble_eq_true rfl) ?_
  show zBT 4 m_X12_modes TRf none res.2 0 [some (.inr (.inl (some 0))), some (.inl a1), some (.inl a2), none] [] s
  unfold f_Rf_modes at h
  refine zr_iconst dX12_modes_0 (by decide) ?_
  refine zr_store ⟨_, dX12_modes_1, rfl⟩ (by decide) rfl ?_
  obtain ⟨y1, hy1, h⟩ := zbind h
  refine t_Rf_modes_l2 _ _ _ hy1 ?_
  obtain rfl := Option.some.inj h
  exact zt_vret dX12_modes_72 rfl
set_option maxRecDepth 100000 in
set_option maxHeartbeats 4000000 in
theorem t_Rf_erasesRow {a1 a2 : Int} {s : zSt} {res : Int × zSt} (h : f_Rf_erasesRow a1 a2 s = some res) : zSpecT 4 m_X12_erasesRow [.inr (.inl (some 0)), .inl a1, .inl a2] TRf s none res.2 := by
  refine zSpec_of (by decide +kernel) (Nat.le_of_ble_eq_true rfl) ?_
  show zBT 4 m_X12_erasesRow TRf none res.2 0 [some (.inr (.inl (some 0))), some (.inl a1), some (.inl a2)] [] s
  unfold f_Rf_erasesRow at h
  refine zr_aload ⟨_, dX12_erasesRow_0, rfl⟩ rfl ?_
  refine zr_load ⟨_, dX12_erasesRow_1, rfl⟩ rfl ?_
  refine zr_load ⟨_, dX12_erasesRow_2, rfl⟩ rfl ?_
  have hj1 : zBT 4 m_X12_erasesRow TRf none res.2 14 [some (.inr (.inl (some 0))), some (.inl a1), some (.inl a2)] [.inl (if ¬ a2 = 0 then 0 else (s.1 0 10)), .inl a1, .inr (.inl (some 0))] s := by
    refine zr_load ⟨_, dX12_erasesRow_14, rfl⟩ rfl ?_
    refine zr_iconst dX12_erasesRow_15 (by decide) ?_
    have hj3 : zBT 4 m_X12_erasesRow TRf none res.2 32 [some (.inr (.inl (some 0))), some (.inl a1), some (.inl a2)] [.inl (if ¬ a2 = 1 then (s.1 0 2) else (w32 ((s.1 0 10) + 1))), .inl (if ¬ a2 = 0 then 0 else (s.1 0 10)), .inl a1, .inr (.inl (some 0))] s := by
      obtain ⟨x5, hx5, h⟩ := zbind h
      refine zt_calliv (t_Rf_erases hx5) (zrun_V (rest := []) dX12_erasesRow_32 ml_X12_129 rfl rfl (by decide) (by decide) rfl (Nat.le_of_ble_eq_true rfl)) rfl rfl (Nat.le_refl _) (Nat.le_refl _) ?_
      refine zr_load ⟨_, dX12_erasesRow_35, rfl⟩ rfl ?_
      refine zr_iconst dX12_erasesRow_36 (by decide) ?_
      refine zr_ic_ne (tgt := 53) dX12_erasesRow_37 (by decide) (fun hc6 => ?_) (fun hc6 => ?_)
      · replace h := zpos h hc6
        refine zr_aload ⟨_, dX12_erasesRow_53, rfl⟩ rfl ?_
        refine zt_getr dX12_erasesRow_54 fl_X12_20 rfl rfl ?_
        refine zr_bipush dX12_erasesRow_57 (by decide) (by decide) ?_
        refine zr_aload ⟨_, dX12_erasesRow_59, rfl⟩ rfl ?_
        refine zt_get dX12_erasesRow_60 fl_X12_87 rfl rfl ?_
        refine zr_imul dX12_erasesRow_63 ?_
        refine zr_load ⟨_, dX12_erasesRow_64, rfl⟩ rfl ?_
        refine zr_iadd dX12_erasesRow_65 ?_
        refine zr_iconst dX12_erasesRow_66 (by decide) ?_
        obtain ⟨hb7, h⟩ := zchk h
        refine zt_bastore dX12_erasesRow_67 rfl hb7 (Or.inl rfl) ?_
        obtain rfl := Option.some.inj h
        exact zt_vret dX12_erasesRow_68 rfl
      · replace h := zneg h hc6
        refine zr_aload ⟨_, dX12_erasesRow_40, rfl⟩ rfl ?_
        refine zt_get dX12_erasesRow_41 fl_X12_123 rfl rfl ?_
        refine zr_aload ⟨_, dX12_erasesRow_44, rfl⟩ rfl ?_
        refine zt_get dX12_erasesRow_45 fl_X12_13 rfl rfl ?_
        refine zr_iconst dX12_erasesRow_48 (by decide) ?_
        refine zr_isub dX12_erasesRow_49 ?_
        refine zr_ic_ne (tgt := 68) dX12_erasesRow_50 (by decide) (fun hc8 => ?_) (fun hc8 => ?_)
        · replace h := zpos h hc8
          obtain rfl := Option.some.inj h
          exact zt_vret dX12_erasesRow_68 rfl
        · replace h := zneg h hc8
          refine zr_aload ⟨_, dX12_erasesRow_53, rfl⟩ rfl ?_
          refine zt_getr dX12_erasesRow_54 fl_X12_20 rfl rfl ?_
          refine zr_bipush dX12_erasesRow_57 (by decide) (by decide) ?_
          refine zr_aload ⟨_, dX12_erasesRow_59, rfl⟩ rfl ?_
          refine zt_get dX12_erasesRow_60 fl_X12_87 rfl rfl ?_
          refine zr_imul dX12_erasesRow_63 ?_
          refine zr_load ⟨_, dX12_erasesRow_64, rfl⟩ rfl ?_
          refine zr_iadd dX12_erasesRow_65 ?_
          refine zr_iconst dX12_erasesRow_66 (by decide) ?_
          obtain ⟨hb9, h⟩ := zchk h
          refine zt_bastore dX12_erasesRow_67 rfl hb9 (Or.inl rfl) ?_
          obtain rfl := Option.some.inj h
          exact zt_vret dX12_erasesRow_68 rfl
    refine zr_ic_ne (tgt := 28) dX12_erasesRow_16 (by decide) (fun hc4 => ?_) (fun hc4 => ?_)
    · have hp10 := zif_t hj3 hc4
      refine zr_aload ⟨_, dX12_erasesRow_28, rfl⟩ rfl ?_
      refine zt_get dX12_erasesRow_29 fl_X12_13 rfl rfl ?_
      exact hp10
    · have hp11 := zif_f hj3 hc4
      refine zr_aload ⟨_, dX12_erasesRow_19, rfl⟩ rfl ?_
      refine zt_get dX12_erasesRow_20 fl_X12_123 rfl rfl ?_
      refine zr_iconst dX12_erasesRow_23 (by decide) ?_
      refine zr_iadd dX12_erasesRow_24 ?_
      refine zr_goto (tgt := 32) dX12_erasesRow_25 (by decide) ?_
      exact hp11
  refine zr_if_ne (tgt := 13) dX12_erasesRow_3 (by decide) (fun hc2 => ?_) (fun hc2 => ?_)
  · have hp12 := zif_t hj1 hc2
    refine zr_iconst dX12_erasesRow_13 (by decide) ?_
    exact hp12
  · have hp13 := zif_f hj1 hc2
    refine zr_aload ⟨_, dX12_erasesRow_6, rfl⟩ rfl ?_
    refine zt_get dX12_erasesRow_7 fl_X12_123 rfl rfl ?_
    refine zr_goto (tgt := 14) dX12_erasesRow_10 (by decide) ?_
    exact hp13
set_option maxRecDepth 100000 in
set_option maxHeartbeats 4000000 in
theorem t_Rf_linesMove_l37 {c1 : Int} {r : Option zAV} {s0 : zSt}  : ∀ (n : Nat) (x : Int × zSt) (out : zSt), zloop (f_Rf_linesMove_l37 c1) n x = some out → (zBT 4 m_X12_linesMove TRf r s0 79 [some (.inr (.inl (some 0))), none, none] [] out) → zBT 4 m_X12_linesMove TRf r s0 37 [some (.inr (.inl (some 0))), some (.inl c1), some (.inl x.1)] [] x.2 := by
  refine zloop_B (B := fun (x : Int × zSt) (out : zSt) => zBT 4 m_X12_linesMove TRf r s0 79 [some (.inr (.inl (some 0))), none, none] [] out → zBT 4 m_X12_linesMove TRf r s0 37 [some (.inr (.inl (some 0))), some (.inl c1), some (.inl x.1)] [] x.2) ?_
  intro x o out h hk hx
  unfold f_Rf_linesMove_l37 at h
  refine zr_load ⟨_, dX12_linesMove_37, rfl⟩ rfl ?_
  refine zr_if_le (tgt := 79) dX12_linesMove_38 (by decide) (fun hc1 => ?_) (fun hc1 => ?_)
  · replace h := zpos h hc1
    refine zr_mask [true, false, false] rfl ?_
    obtain rfl := Option.some.inj h
    obtain rfl := hk
    exact hx
  · replace h := zneg h hc1
    refine zr_load ⟨_, dX12_linesMove_41, rfl⟩ rfl ?_
    refine zr_if_eq (tgt := 60) dX12_linesMove_42 (by decide) (fun hc2 => ?_) (fun hc2 => ?_)
    · replace h := zpos h hc2
      refine zr_aload ⟨_, dX12_linesMove_60, rfl⟩ rfl ?_
      refine zr_aload ⟨_, dX12_linesMove_61, rfl⟩ rfl ?_
      refine zt_get dX12_linesMove_62 fl_X12_113 rfl rfl ?_
      refine zr_aload ⟨_, dX12_linesMove_65, rfl⟩ rfl ?_
      refine zt_get dX12_linesMove_66 fl_X12_30 rfl rfl ?_
      refine zr_iconst dX12_linesMove_69 (by decide) ?_
      obtain ⟨x3, hx3, h⟩ := zbind h
      refine zt_calliv (t_Rf_scrollsUp hx3) (zrun_V (rest := []) dX12_linesMove_70 ml_X12_119 rfl rfl (by decide) (by decide) rfl (Nat.le_of_ble_eq_true rfl)) rfl rfl (Nat.le_refl _) (Nat.le_refl _) ?_
      refine zr_iinc dX12_linesMove_73 rfl (by decide) rfl ?_
      refine zr_goto (tgt := 37) dX12_linesMove_76 (by decide) ?_
      obtain rfl := Option.some.inj h
      exact hk hx
    · replace h := zneg h hc2
      refine zr_aload ⟨_, dX12_linesMove_45, rfl⟩ rfl ?_
      refine zr_aload ⟨_, dX12_linesMove_46, rfl⟩ rfl ?_
      refine zt_get dX12_linesMove_47 fl_X12_113 rfl rfl ?_
      refine zr_aload ⟨_, dX12_linesMove_50, rfl⟩ rfl ?_
      refine zt_get dX12_linesMove_51 fl_X12_30 rfl rfl ?_
      obtain ⟨x4, hx4, h⟩ := zbind h
      refine zt_calliv (t_Rf_scrollsDown hx4) (zrun_V (rest := []) dX12_linesMove_54 ml_X12_216 rfl rfl (by decide) (by decide) rfl (Nat.le_of_ble_eq_true rfl)) rfl rfl (Nat.le_refl _) (Nat.le_refl _) ?_
      refine zr_goto (tgt := 73) dX12_linesMove_57 (by decide) ?_
      refine zr_iinc dX12_linesMove_73 rfl (by decide) rfl ?_
      refine zr_goto (tgt := 37) dX12_linesMove_76 (by decide) ?_
      obtain rfl := Option.some.inj h
      exact hk hx
set_option maxRecDepth 100000 in
set_option maxHeartbeats 4000000 in
theorem t_Rf_linesMove {a1 : Int} {s : zSt} {res : Int × zSt} (h : f_Rf_linesMove a1 s = some res) : zSpecT 4 m_X12_linesMove [.inr (.inl (some 0)), .inl a1] TRf s none res.2 := by
  refine zSpec_of (by decide +kernel) (Nat.le_of_ble_eq_true rfl) ?_
  show zBT 4 m_X12_linesMove TRf none res.2 0 [some (.inr (.inl (some 0))), some (.inl a1), none] [] s
  unfold f_Rf_linesMove at h
  refine zr_aload ⟨_, dX12_linesMove_0, rfl⟩ rfl ?_
  refine zt_get dX12_linesMove_1 fl_X12_113 rfl rfl ?_
  refine zr_aload ⟨_, dX12_linesMove_4, rfl⟩ rfl ?_
  refine zt_get dX12_linesMove_5 fl_X12_116 rfl rfl ?_
  refine zr_aload ⟨_, dX12_linesMove_8, rfl⟩ rfl ?_
  refine zt_get dX12_linesMove_9 fl_X12_30 rfl rfl ?_
  obtain ⟨x1, hx1, h⟩ := zbind h
  refine zt_call0 (t_Rf_in hx1) (zrun_S (rest := []) dX12_linesMove_12 ml_X12_83 rfl (by decide) (by decide) rfl (Nat.le_of_ble_eq_true rfl)) rfl rfl (Nat.le_refl _) (Nat.le_refl _) ?_
  refine zr_if_eq (tgt := 84) dX12_linesMove_15 (by decide) (fun hc2 => ?_) (fun hc2 => ?_)
  · replace h := zpos h hc2
    refine zr_aload ⟨_, dX12_linesMove_84, rfl⟩ rfl ?_
    refine zr_iconst dX12_linesMove_85 (by decide) ?_
    refine zt_putz dX12_linesMove_86 fl_X12_126 rfl rfl (Or.inl rfl) ?_
    obtain rfl := Option.some.inj h
    exact zt_vret dX12_linesMove_89 rfl
  · replace h := zneg h hc2
    refine zr_aload ⟨_, dX12_linesMove_18, rfl⟩ rfl ?_
    obtain ⟨x3, hx3, h⟩ := zbind h
    refine zt_callisi (t_Rf_first hx3) (zrun_V (rest := []) dX12_linesMove_19 ml_X12_256 rfl rfl (by decide) (by decide) rfl (Nat.le_of_ble_eq_true rfl)) rfl rfl (Nat.le_refl _) (Nat.le_refl _) ?_
    refine zr_aload ⟨_, dX12_linesMove_22, rfl⟩ rfl ?_
    refine zt_get dX12_linesMove_23 fl_X12_30 rfl rfl ?_
    refine zr_aload ⟨_, dX12_linesMove_26, rfl⟩ rfl ?_
    refine zt_get dX12_linesMove_27 fl_X12_113 rfl rfl ?_
    refine zr_isub dX12_linesMove_30 ?_
    refine zr_iconst dX12_linesMove_31 (by decide) ?_
    refine zr_iadd dX12_linesMove_32 ?_
    obtain ⟨x4, hx4, h⟩ := zbind h
    refine zt_call0 (t_Rf_lesser hx4) (zrun_S (rest := []) dX12_linesMove_33 ml_X12_170 rfl (by decide) (by decide) rfl (Nat.le_of_ble_eq_true rfl)) rfl rfl (Nat.le_refl _) (Nat.le_refl _) ?_
    refine zr_store ⟨_, dX12_linesMove_36, rfl⟩ (by decide) rfl ?_
    obtain ⟨y5, hy5, h⟩ := zbind h
    refine t_Rf_linesMove_l37 _ _ _ hy5 ?_
    refine zr_aload ⟨_, dX12_linesMove_79, rfl⟩ rfl ?_
    refine zr_iconst dX12_linesMove_80 (by decide) ?_
    refine zt_put dX12_linesMove_81 fl_X12_123 rfl rfl ?_
    refine zr_aload ⟨_, dX12_linesMove_84, rfl⟩ rfl ?_
    refine zr_iconst dX12_linesMove_85 (by decide) ?_
    refine zt_putz dX12_linesMove_86 fl_X12_126 rfl rfl (Or.inl rfl) ?_
    obtain rfl := Option.some.inj h
    exact zt_vret dX12_linesMove_89 rfl
set_option maxRecDepth 100000 in
set_option maxHeartbeats 4000000 in
theorem t_Rf_size_l201 {c1 c2 c3 c6 c7 c8 : Int} {r : Option zAV} {s0 : zSt}  : ∀ (n : Nat) (x : Int × zSt) (out : zSt), zloop (f_Rf_size_l201 c1 c2 c3 c6 c7 c8) n x = some out → (zBT 4 m_X12_size TRf r s0 248 [some (.inr (.inl (some 0))), some (.inl c1), some (.inl c2), some (.inl c3), none, none, some (.inl c6), some (.inl c7), some (.inl c8), none, none] [] out) → zBT 4 m_X12_size TRf r s0 201 [some (.inr (.inl (some 0))), some (.inl c1), some (.inl c2), some (.inl c3), none, none, some (.inl c6), some (.inl c7), some (.inl c8), some (.inl x.1), none] [] x.2 := by
  refine zloop_B (B := fun (x : Int × zSt) (out : zSt) => zBT 4 m_X12_size TRf r s0 248 [some (.inr (.inl (some 0))), some (.inl c1), some (.inl c2), some (.inl c3), none, none, some (.inl c6), some (.inl c7), some (.inl c8), none, none] [] out → zBT 4 m_X12_size TRf r s0 201 [some (.inr (.inl (some 0))), some (.inl c1), some (.inl c2), some (.inl c3), none, none, some (.inl c6), some (.inl c7), some (.inl c8), some (.inl x.1), none] [] x.2) ?_
  intro x o out h hk hx
  unfold f_Rf_size_l201 at h
  refine zr_loadw dX12_size_201 rfl ?_
  refine zr_bipush dX12_size_203 (by decide) (by decide) ?_
  refine zr_ic_ge (tgt := 248) dX12_size_205 (by decide) (fun hc1 => ?_) (fun hc1 => ?_)
  · replace h := zpos h hc1
    refine zr_mask [true, true, true, true, false, false, true, true, true, false, false] rfl ?_
    obtain rfl := Option.some.inj h
    obtain rfl := hk
    exact hx
  · replace h := zneg h hc1
    refine zr_aload ⟨_, dX12_size_208, rfl⟩ rfl ?_
    refine zt_getr dX12_size_209 fl_X12_24 rfl rfl ?_
    refine zr_bipush dX12_size_212 (by decide) (by decide) ?_
    refine zr_loadw dX12_size_214 rfl ?_
    refine zr_imul dX12_size_216 ?_
    refine zr_loadw dX12_size_217 rfl ?_
    refine zr_iadd dX12_size_219 ?_
    refine zr_aload ⟨_, dX12_size_220, rfl⟩ rfl ?_
    refine zt_getr dX12_size_221 fl_X12_70 rfl rfl ?_
    refine zr_bipush dX12_size_224 (by decide) (by decide) ?_
    refine zr_loadw dX12_size_226 rfl ?_
    refine zr_aload ⟨_, dX12_size_228, rfl⟩ rfl ?_
    refine zt_get dX12_size_229 fl_X12_98 rfl rfl ?_
    refine zr_isub dX12_size_232 ?_
    refine zr_loadw dX12_size_233 rfl ?_
    refine zr_iadd dX12_size_235 ?_
    refine zr_imul dX12_size_236 ?_
    refine zr_loadw dX12_size_237 rfl ?_
    refine zr_iadd dX12_size_239 ?_
    obtain ⟨hb2, h⟩ := zchk h
    refine zt_iaload dX12_size_240 rfl hb2 ?_
    obtain ⟨hb3, h⟩ := zchk h
    refine zt_iastore dX12_size_241 rfl hb3 ?_
    refine zr_iinc dX12_size_242 rfl (by decide) rfl ?_
    refine zr_goto (tgt := 201) dX12_size_245 (by decide) ?_
    obtain rfl := Option.some.inj h
    exact hk hx
set_option maxRecDepth 100000 in
set_option maxHeartbeats 4000000 in
theorem t_Rf_size_l189 {c1 c2 c3 c6 c7 : Int} {r : Option zAV} {s0 : zSt}  : ∀ (n : Nat) (x : Int × zSt) (out : zSt), zloop (f_Rf_size_l189 c1 c2 c3 c6 c7) n x = some out → (zBT 4 m_X12_size TRf r s0 276 [some (.inr (.inl (some 0))), some (.inl c1), some (.inl c2), some (.inl c3), none, none, some (.inl c6), some (.inl c7), none, none, none] [] out) → zBT 4 m_X12_size TRf r s0 189 [some (.inr (.inl (some 0))), some (.inl c1), some (.inl c2), some (.inl c3), none, none, some (.inl c6), some (.inl c7), some (.inl x.1), none, none] [] x.2 := by
  refine zloop_B (B := fun (x : Int × zSt) (out : zSt) => zBT 4 m_X12_size TRf r s0 276 [some (.inr (.inl (some 0))), some (.inl c1), some (.inl c2), some (.inl c3), none, none, some (.inl c6), some (.inl c7), none, none, none] [] out → zBT 4 m_X12_size TRf r s0 189 [some (.inr (.inl (some 0))), some (.inl c1), some (.inl c2), some (.inl c3), none, none, some (.inl c6), some (.inl c7), some (.inl x.1), none, none] [] x.2) ?_
  intro x o out h hk hx
  unfold f_Rf_size_l189 at h
  refine zr_loadw dX12_size_189 rfl ?_
  refine zr_aload ⟨_, dX12_size_191, rfl⟩ rfl ?_
  refine zt_get dX12_size_192 fl_X12_98 rfl rfl ?_
  refine zr_ic_ge (tgt := 276) dX12_size_195 (by decide) (fun hc1 => ?_) (fun hc1 => ?_)
  · replace h := zpos h hc1
    refine zr_mask [true, true, true, true, false, false, true, true, false, false, false] rfl ?_
    obtain rfl := Option.some.inj h
    obtain rfl := hk
    exact hx
  · replace h := zneg h hc1
    refine zr_iconst dX12_size_198 (by decide) ?_
    refine zr_storew dX12_size_199 (by decide) rfl ?_
    obtain ⟨y2, hy2, h⟩ := zbind h
    refine t_Rf_size_l201 _ _ _ hy2 ?_
    refine zr_aload ⟨_, dX12_size_248, rfl⟩ rfl ?_
    refine zt_getr dX12_size_249 fl_X12_27 rfl rfl ?_
    refine zr_loadw dX12_size_252 rfl ?_
    refine zr_aload ⟨_, dX12_size_254, rfl⟩ rfl ?_
    refine zt_getr dX12_size_255 fl_X12_73 rfl rfl ?_
    refine zr_loadw dX12_size_258 rfl ?_
    refine zr_aload ⟨_, dX12_size_260, rfl⟩ rfl ?_
    refine zt_get dX12_size_261 fl_X12_98 rfl rfl ?_
    refine zr_isub dX12_size_264 ?_
    refine zr_loadw dX12_size_265 rfl ?_
    refine zr_iadd dX12_size_267 ?_
    obtain ⟨hb3, h⟩ := zchk h
    refine zt_baload dX12_size_268 rfl hb3 ?_
    obtain ⟨hb4, h⟩ := zchk h
    refine zt_bastore dX12_size_269 rfl hb4.1 hb4.2 ?_
    refine zr_iinc dX12_size_270 rfl (by decide) rfl ?_
    refine zr_goto (tgt := 189) dX12_size_273 (by decide) ?_
    obtain rfl := Option.some.inj h
    exact hk hx
set_option maxRecDepth 100000 in
set_option maxHeartbeats 4000000 in
theorem t_Rf_size_l314 {c1 c2 c3 c6 c7 c8 c9 : Int} {r : Option zAV} {s0 : zSt}  : ∀ (n : Nat) (x : Int × zSt) (out : zSt), zloop (f_Rf_size_l314 c1 c2 c3 c6 c7 c8 c9) n x = some out → (zBT 4 m_X12_size TRf r s0 365 [some (.inr (.inl (some 0))), some (.inl c1), some (.inl c2), some (.inl c3), none, none, some (.inl c6), some (.inl c7), some (.inl c8), some (.inl c9), none] [] out) → zBT 4 m_X12_size TRf r s0 314 [some (.inr (.inl (some 0))), some (.inl c1), some (.inl c2), some (.inl c3), none, none, some (.inl c6), some (.inl c7), some (.inl c8), some (.inl c9), some (.inl x.1)] [] x.2 := by
  refine zloop_B (B := fun (x : Int × zSt) (out : zSt) => zBT 4 m_X12_size TRf r s0 365 [some (.inr (.inl (some 0))), some (.inl c1), some (.inl c2), some (.inl c3), none, none, some (.inl c6), some (.inl c7), some (.inl c8), some (.inl c9), none] [] out → zBT 4 m_X12_size TRf r s0 314 [some (.inr (.inl (some 0))), some (.inl c1), some (.inl c2), some (.inl c3), none, none, some (.inl c6), some (.inl c7), some (.inl c8), some (.inl c9), some (.inl x.1)] [] x.2) ?_
  intro x o out h hk hx
  unfold f_Rf_size_l314 at h
  refine zr_loadw dX12_size_314 rfl ?_
  refine zr_bipush dX12_size_316 (by decide) (by decide) ?_
  refine zr_ic_ge (tgt := 365) dX12_size_318 (by decide) (fun hc1 => ?_) (fun hc1 => ?_)
  · replace h := zpos h hc1
    refine zr_mask [true, true, true, true, false, false, true, true, true, true, false] rfl ?_
    obtain rfl := Option.some.inj h
    obtain rfl := hk
    exact hx
  · replace h := zneg h hc1
    refine zr_aload ⟨_, dX12_size_321, rfl⟩ rfl ?_
    refine zt_getr dX12_size_322 fl_X12_16 rfl rfl ?_
    refine zr_bipush dX12_size_325 (by decide) (by decide) ?_
    refine zr_loadw dX12_size_327 rfl ?_
    refine zr_imul dX12_size_329 ?_
    refine zr_loadw dX12_size_330 rfl ?_
    refine zr_iadd dX12_size_332 ?_
    refine zr_loadw dX12_size_333 rfl ?_
    refine zr_if_eq (tgt := 357) dX12_size_335 (by decide) (fun hc2 => ?_) (fun hc2 => ?_)
    · replace h := zpos h hc2
      refine zr_iconst dX12_size_357 (by decide) ?_
      obtain ⟨hb3, h⟩ := zchk h
      refine zt_iastore dX12_size_358 rfl hb3 ?_
      refine zr_iinc dX12_size_359 rfl (by decide) rfl ?_
      refine zr_goto (tgt := 314) dX12_size_362 (by decide) ?_
      obtain rfl := Option.some.inj h
      exact hk hx
    · replace h := zneg h hc2
      refine zr_aload ⟨_, dX12_size_338, rfl⟩ rfl ?_
      refine zt_getr dX12_size_339 fl_X12_70 rfl rfl ?_
      refine zr_bipush dX12_size_342 (by decide) (by decide) ?_
      refine zr_loadw dX12_size_344 rfl ?_
      refine zr_loadw dX12_size_346 rfl ?_
      refine zr_iadd dX12_size_348 ?_
      refine zr_imul dX12_size_349 ?_
      refine zr_loadw dX12_size_350 rfl ?_
      refine zr_iadd dX12_size_352 ?_
      obtain ⟨hb4, h⟩ := zchk h
      refine zt_iaload dX12_size_353 rfl hb4 ?_
      refine zr_goto (tgt := 358) dX12_size_354 (by decide) ?_
      obtain ⟨hb5, h⟩ := zchk h
      refine zt_iastore dX12_size_358 rfl hb5 ?_
      refine zr_iinc dX12_size_359 rfl (by decide) rfl ?_
      refine zr_goto (tgt := 314) dX12_size_362 (by decide) ?_
      obtain rfl := Option.some.inj h
      exact hk hx
set_option maxRecDepth 100000 in
set_option maxHeartbeats 4000000 in
theorem t_Rf_size_l279 {c1 c2 c3 c6 c7 : Int} {r : Option zAV} {s0 : zSt}  : ∀ (n : Nat) (x : Int × zSt) (out : zSt), zloop (f_Rf_size_l279 c1 c2 c3 c6 c7) n x = some out → (zBT 4 m_X12_size TRf r s0 409 [some (.inr (.inl (some 0))), some (.inl c1), some (.inl c2), some (.inl c3), none, none, some (.inl c6), some (.inl c7), none, none, none] [] out) → zBT 4 m_X12_size TRf r s0 279 [some (.inr (.inl (some 0))), some (.inl c1), some (.inl c2), some (.inl c3), none, none, some (.inl c6), some (.inl c7), some (.inl x.1), none, none] [] x.2 := by
  refine zloop_B (B := fun (x : Int × zSt) (out : zSt) => zBT 4 m_X12_size TRf r s0 409 [some (.inr (.inl (some 0))), some (.inl c1), some (.inl c2), some (.inl c3), none, none, some (.inl c6), some (.inl c7), none, none, none] [] out → zBT 4 m_X12_size TRf r s0 279 [some (.inr (.inl (some 0))), some (.inl c1), some (.inl c2), some (.inl c3), none, none, some (.inl c6), some (.inl c7), some (.inl x.1), none, none] [] x.2) ?_
  intro x o out h hk hx
  unfold f_Rf_size_l279 at h
  refine zr_loadw dX12_size_279 rfl ?_
  refine zr_bipush dX12_size_281 (by decide) (by decide) ?_
  refine zr_ic_ge (tgt := 409) dX12_size_283 (by decide) (fun hc1 => ?_) (fun hc1 => ?_)
  · replace h := zpos h hc1
    refine zr_mask [true, true, true, true, false, false, true, true, false, false, false] rfl ?_
    obtain rfl := Option.some.inj h
    obtain rfl := hk
    exact hx
  · replace h := zneg h hc1
    refine zr_loadw dX12_size_286 rfl ?_
    refine zr_load ⟨_, dX12_size_288, rfl⟩ rfl ?_
    have hj2 : zBT 4 m_X12_size TRf r s0 309 [some (.inr (.inl (some 0))), some (.inl c1), some (.inl c2), some (.inl c3), none, none, some (.inl c6), some (.inl c7), some (.inl x.1), none, none] [.inl (if c1 ≤ x.1 then 0 else (if (x.2.1 0 58) ≤ (w32 (c7 + x.1)) then 0 else 1))] x.2 := by
      refine zr_storew dX12_size_309 (by decide) rfl ?_
      refine zr_iconst dX12_size_311 (by decide) ?_
      refine zr_storew dX12_size_312 (by decide) rfl ?_
      obtain ⟨y4, hy4, h⟩ := zbind h
      refine t_Rf_size_l314 _ _ _ hy4 ?_
      refine zr_aload ⟨_, dX12_size_365, rfl⟩ rfl ?_
      refine zt_getr dX12_size_366 fl_X12_20 rfl rfl ?_
      refine zr_loadw dX12_size_369 rfl ?_
      refine zr_loadw dX12_size_371 rfl ?_
      refine zr_if_eq (tgt := 401) dX12_size_373 (by decide) (fun hc5 => ?_) (fun hc5 => ?_)
      · replace h := zpos h hc5
        refine zr_iconst dX12_size_401 (by decide) ?_
        obtain ⟨hb6, h⟩ := zchk h
        refine zt_bastore dX12_size_402 rfl hb6 (Or.inl rfl) ?_
        refine zr_iinc dX12_size_403 rfl (by decide) rfl ?_
        refine zr_goto (tgt := 279) dX12_size_406 (by decide) ?_
        refine zr_mask [true, true, true, true, false, false, true, true, true, false, false] rfl ?_
        obtain rfl := Option.some.inj h
        exact hk hx
      · replace h := zneg h hc5
        refine zr_loadw dX12_size_376 rfl ?_
        refine zr_load ⟨_, dX12_size_378, rfl⟩ rfl ?_
        refine zr_iconst dX12_size_379 (by decide) ?_
        refine zr_isub dX12_size_380 ?_
        refine zr_ic_ge (tgt := 401) dX12_size_381 (by decide) (fun hc7 => ?_) (fun hc7 => ?_)
        · replace h := zpos h hc7
          refine zr_iconst dX12_size_401 (by decide) ?_
          obtain ⟨hb8, h⟩ := zchk h
          refine zt_bastore dX12_size_402 rfl hb8 (Or.inl rfl) ?_
          refine zr_iinc dX12_size_403 rfl (by decide) rfl ?_
          refine zr_goto (tgt := 279) dX12_size_406 (by decide) ?_
          refine zr_mask [true, true, true, true, false, false, true, true, true, false, false] rfl ?_
          obtain rfl := Option.some.inj h
          exact hk hx
        · replace h := zneg h hc7
          refine zr_aload ⟨_, dX12_size_384, rfl⟩ rfl ?_
          refine zt_getr dX12_size_385 fl_X12_73 rfl rfl ?_
          refine zr_loadw dX12_size_388 rfl ?_
          refine zr_loadw dX12_size_390 rfl ?_
          refine zr_iadd dX12_size_392 ?_
          obtain ⟨hb9, h⟩ := zchk h
          refine zt_baload dX12_size_393 rfl hb9 ?_
          have hj10 : zBT 4 m_X12_size TRf r s0 402 [some (.inr (.inl (some 0))), some (.inl c1), some (.inl c2), some (.inl c3), none, none, some (.inl c6), some (.inl c7), some (.inl x.1), some (.inl (if c1 ≤ x.1 then 0 else (if (x.2.1 0 58) ≤ (w32 (c7 + x.1)) then 0 else 1))), none] [.inl (if ((y4.2 15) (w32 (c7 + x.1))) = 0 then 0 else 1), .inl x.1, .inr (.inl (some 2))] y4 := by
            obtain ⟨hb12, h⟩ := zchk h
            refine zt_bastore dX12_size_402 rfl hb12 (z01i (Or.inl rfl) (Or.inr rfl)) ?_
            refine zr_iinc dX12_size_403 rfl (by decide) rfl ?_
            refine zr_goto (tgt := 279) dX12_size_406 (by decide) ?_
            refine zr_mask [true, true, true, true, false, false, true, true, true, false, false] rfl ?_
            obtain rfl := Option.some.inj h
            exact hk hx
          refine zr_if_eq (tgt := 401) dX12_size_394 (by decide) (fun hc11 => ?_) (fun hc11 => ?_)
          · have hp13 := zif_t hj10 hc11
            refine zr_iconst dX12_size_401 (by decide) ?_
            exact hp13
          · have hp14 := zif_f hj10 hc11
            refine zr_iconst dX12_size_397 (by decide) ?_
            refine zr_goto (tgt := 402) dX12_size_398 (by decide) ?_
            exact hp14
    refine zr_ic_ge (tgt := 308) dX12_size_289 (by decide) (fun hc3 => ?_) (fun hc3 => ?_)
    · have hp15 := zif_t hj2 hc3
      refine zr_iconst dX12_size_308 (by decide) ?_
      exact hp15
    · have hp16 := zif_f hj2 hc3
      refine zr_loadw dX12_size_292 rfl ?_
      refine zr_loadw dX12_size_294 rfl ?_
      refine zr_iadd dX12_size_296 ?_
      refine zr_aload ⟨_, dX12_size_297, rfl⟩ rfl ?_
      refine zt_get dX12_size_298 fl_X12_380 rfl rfl ?_
      refine zr_ic_ge (tgt := 308) dX12_size_301 (by decide) (fun hc17 => ?_) (fun hc17 => ?_)
      · have hp18 := zif_t hp16 hc17
        refine zr_iconst dX12_size_308 (by decide) ?_
        exact hp18
      · have hp19 := zif_f hp16 hc17
        refine zr_iconst dX12_size_304 (by decide) ?_
        refine zr_goto (tgt := 309) dX12_size_305 (by decide) ?_
        exact hp19
set_option maxRecDepth 100000 in
set_option maxHeartbeats 4000000 in
theorem t_Rf_size_l608  {r : Option zAV} {s0 : zSt}  : ∀ (n : Nat) (x : Int × zSt) (out : zSt), zloop (f_Rf_size_l608) n x = some out → (zBT 4 m_X12_size TRf r s0 630 [some (.inr (.inl (some 0))), none, none, none, none, none, none, none, none, none, none] [] out) → zBT 4 m_X12_size TRf r s0 608 [some (.inr (.inl (some 0))), none, none, none, none, none, none, none, none, some (.inl x.1), none] [] x.2 := by
  refine zloop_B (B := fun (x : Int × zSt) (out : zSt) => zBT 4 m_X12_size TRf r s0 630 [some (.inr (.inl (some 0))), none, none, none, none, none, none, none, none, none, none] [] out → zBT 4 m_X12_size TRf r s0 608 [some (.inr (.inl (some 0))), none, none, none, none, none, none, none, none, some (.inl x.1), none] [] x.2) ?_
  intro x o out h hk hx
  unfold f_Rf_size_l608 at h
  refine zr_loadw dX12_size_608 rfl ?_
  refine zr_sipush dX12_size_610 (by decide) (by decide) ?_
  refine zr_ic_ge (tgt := 630) dX12_size_613 (by decide) (fun hc1 => ?_) (fun hc1 => ?_)
  · replace h := zpos h hc1
    refine zr_mask [true, false, false, false, false, false, false, false, false, false, false] rfl ?_
    obtain rfl := Option.some.inj h
    obtain rfl := hk
    exact hx
  · replace h := zneg h hc1
    refine zr_aload ⟨_, dX12_size_616, rfl⟩ rfl ?_
    refine zt_getr dX12_size_617 fl_X12_64 rfl rfl ?_
    refine zr_loadw dX12_size_620 rfl ?_
    refine zr_iconst dX12_size_622 (by decide) ?_
    obtain ⟨hb2, h⟩ := zchk h
    refine zt_iastore dX12_size_623 rfl hb2 ?_
    refine zr_iinc dX12_size_624 rfl (by decide) rfl ?_
    refine zr_goto (tgt := 608) dX12_size_627 (by decide) ?_
    obtain rfl := Option.some.inj h
    exact hk hx
set_option maxRecDepth 100000 in
set_option maxHeartbeats 4000000 in
theorem t_Rf_size_j548 {v1 v2 k0 : Int} {s : zSt} {res : Int × zSt} (h : f_Rf_size_j548 v1 v2 k0 s = some res) : zBT 4 m_X12_size TRf (some (.inl res.1)) res.2 548 [some (.inr (.inl (some 0))), some (.inl v1), some (.inl v2), none, none, none, none, none, none, none, none] [.inl k0, .inr (.inl (some 0))] s := by
  unfold f_Rf_size_j548 at h
  refine zt_put dX12_size_548 fl_X12_123 rfl rfl ?_
  refine zr_aload ⟨_, dX12_size_551, rfl⟩ rfl ?_
  refine zt_get dX12_size_552 fl_X12_13 rfl rfl ?_
  refine zr_storew dX12_size_555 (by decide) rfl ?_
  refine zr_aload ⟨_, dX12_size_557, rfl⟩ rfl ?_
  refine zr_load ⟨_, dX12_size_558, rfl⟩ rfl ?_
  refine zt_put dX12_size_559 fl_X12_7 rfl rfl ?_
  refine zr_aload ⟨_, dX12_size_562, rfl⟩ rfl ?_
  refine zr_load ⟨_, dX12_size_563, rfl⟩ rfl ?_
  refine zt_put dX12_size_564 fl_X12_13 rfl rfl ?_
  refine zr_aload ⟨_, dX12_size_567, rfl⟩ rfl ?_
  refine zr_iconst dX12_size_568 (by decide) ?_
  refine zt_put dX12_size_569 fl_X12_116 rfl rfl ?_
  refine zr_aload ⟨_, dX12_size_572, rfl⟩ rfl ?_
  refine zr_aload ⟨_, dX12_size_573, rfl⟩ rfl ?_
  refine zt_get dX12_size_574 fl_X12_7 rfl rfl ?_
  refine zr_iconst dX12_size_577 (by decide) ?_
  refine zr_isub dX12_size_578 ?_
  refine zt_put dX12_size_579 fl_X12_30 rfl rfl ?_
  refine zr_aload ⟨_, dX12_size_582, rfl⟩ rfl ?_
  refine zr_dup dX12_size_583 (Or.inl True.intro) ?_
  refine zt_get dX12_size_584 fl_X12_146 rfl rfl ?_
  refine zr_iconst dX12_size_587 (by decide) ?_
  refine zr_aload ⟨_, dX12_size_588, rfl⟩ rfl ?_
  refine zt_get dX12_size_589 fl_X12_13 rfl rfl ?_
  refine zr_ishl dX12_size_592 ?_
  refine zr_iconst dX12_size_593 (by decide) ?_
  refine zr_isub dX12_size_594 ?_
  refine zr_iand dX12_size_595 ?_
  refine zt_put dX12_size_596 fl_X12_146 rfl rfl ?_
  refine zr_aload ⟨_, dX12_size_599, rfl⟩ rfl ?_
  refine zr_loadw dX12_size_600 rfl ?_
  obtain ⟨x1, hx1, h⟩ := zbind h
  refine zt_calliv (t_Rf_laysTabs hx1) (zrun_V (rest := []) dX12_size_602 ml_X12_76 rfl rfl (by decide) (by decide) rfl (Nat.le_of_ble_eq_true rfl)) rfl rfl (Nat.le_refl _) (Nat.le_refl _) ?_
  refine zr_iconst dX12_size_605 (by decide) ?_
  refine zr_storew dX12_size_606 (by decide) rfl ?_
  refine zr_mask [true, false, false, false, false, false, false, false, false, true, false] rfl ?_
  obtain ⟨y2, hy2, h⟩ := zbind h
  refine t_Rf_size_l608 _ _ _ hy2 ?_
  refine zr_aload ⟨_, dX12_size_630, rfl⟩ rfl ?_
  refine zt_get dX12_size_631 fl_X12_98 rfl rfl ?_
  obtain rfl := Option.some.inj h
  exact zt_iret dX12_size_634 rfl
set_option maxRecDepth 100000 in
set_option maxHeartbeats 4000000 in
theorem t_Rf_size_j522 {v1 v2 v3 v6 k0 : Int} {s : zSt} {res : Int × zSt} (h : f_Rf_size_j522 v1 v2 v3 v6 k0 s = some res) : zBT 4 m_X12_size TRf (some (.inl res.1)) res.2 522 [some (.inr (.inl (some 0))), some (.inl v1), some (.inl v2), some (.inl v3), none, none, some (.inl v6), none, none, none, none] [.inl k0, .inr (.inl (some 0))] s := by
  unfold f_Rf_size_j522 at h
  refine zt_put dX12_size_522 fl_X12_113 rfl rfl ?_
  refine zr_aload ⟨_, dX12_size_525, rfl⟩ rfl ?_
  refine zr_load ⟨_, dX12_size_526, rfl⟩ rfl ?_
  refine zr_if_eq (tgt := 538) dX12_size_527 (by decide) (fun hc1 => ?_) (fun hc1 => ?_)
  · replace h := zpos h hc1
    refine zr_aload ⟨_, dX12_size_538, rfl⟩ rfl ?_
    refine zt_get dX12_size_539 fl_X12_123 rfl rfl ?_
    refine zr_load ⟨_, dX12_size_542, rfl⟩ rfl ?_
    refine zr_iconst dX12_size_543 (by decide) ?_
    refine zr_isub dX12_size_544 ?_
    obtain ⟨x2, hx2, h⟩ := zbind h
    refine zt_call0 (t_Rf_lesser hx2) (zrun_S (rest := [.inr (.inl (some 0))]) dX12_size_545 ml_X12_170 rfl (by decide) (by decide) rfl (Nat.le_of_ble_eq_true rfl)) rfl rfl (Nat.le_refl _) (Nat.le_refl _) ?_
    refine zr_mask [true, true, true, false, false, false, false, false, false, false, false] rfl ?_
    exact t_Rf_size_j548 h
  · replace h := zneg h hc1
    refine zr_loadw dX12_size_530 rfl ?_
    refine zr_bipush dX12_size_532 (by decide) (by decide) ?_
    refine zr_irem dX12_size_534 (by decide) ?_
    refine zr_goto (tgt := 548) dX12_size_535 (by decide) ?_
    refine zr_mask [true, true, true, false, false, false, false, false, false, false, false] rfl ?_
    exact t_Rf_size_j548 h
set_option maxRecDepth 100000 in
set_option maxHeartbeats 4000000 in
theorem t_Rf_size_j496 {v1 v2 v3 v6 v7 : Int} {s : zSt} {res : Int × zSt} (h : f_Rf_size_j496 v1 v2 v3 v6 v7 s = some res) : zBT 4 m_X12_size TRf (some (.inl res.1)) res.2 496 [some (.inr (.inl (some 0))), some (.inl v1), some (.inl v2), some (.inl v3), none, none, some (.inl v6), some (.inl v7), none, none, none] [] s := by
  unfold f_Rf_size_j496 at h
  refine zr_aload ⟨_, dX12_size_496, rfl⟩ rfl ?_
  refine zr_load ⟨_, dX12_size_497, rfl⟩ rfl ?_
  refine zr_if_eq (tgt := 512) dX12_size_498 (by decide) (fun hc1 => ?_) (fun hc1 => ?_)
  · replace h := zpos h hc1
    refine zr_aload ⟨_, dX12_size_512, rfl⟩ rfl ?_
    refine zt_get dX12_size_513 fl_X12_113 rfl rfl ?_
    refine zr_load ⟨_, dX12_size_516, rfl⟩ rfl ?_
    refine zr_iconst dX12_size_517 (by decide) ?_
    refine zr_isub dX12_size_518 ?_
    obtain ⟨x2, hx2, h⟩ := zbind h
    refine zt_call0 (t_Rf_lesser hx2) (zrun_S (rest := [.inr (.inl (some 0))]) dX12_size_519 ml_X12_170 rfl (by decide) (by decide) rfl (Nat.le_of_ble_eq_true rfl)) rfl rfl (Nat.le_refl _) (Nat.le_refl _) ?_
    refine zr_mask [true, true, true, true, false, false, true, false, false, false, false] rfl ?_
    exact t_Rf_size_j522 h
  · replace h := zneg h hc1
    refine zr_loadw dX12_size_501 rfl ?_
    refine zr_bipush dX12_size_503 (by decide) (by decide) ?_
    refine zr_idiv dX12_size_505 (by decide) ?_
    refine zr_loadw dX12_size_506 rfl ?_
    refine zr_isub dX12_size_508 ?_
    refine zr_goto (tgt := 522) dX12_size_509 (by decide) ?_
    refine zr_mask [true, true, true, true, false, false, true, false, false, false, false] rfl ?_
    exact t_Rf_size_j522 h
set_option maxRecDepth 100000 in
set_option maxHeartbeats 4000000 in
theorem t_Rf_size_j123 {v1 v2 v3 v4 k0 : Int} {s : zSt} {res : Int × zSt} (h : f_Rf_size_j123 v1 v2 v3 v4 k0 s = some res) : zBT 4 m_X12_size TRf (some (.inl res.1)) res.2 123 [some (.inr (.inl (some 0))), some (.inl v1), some (.inl v2), some (.inl v3), some (.inl v4), none, none, none, none, none, none] [.inl k0] s := by
  unfold f_Rf_size_j123 at h
  refine zr_storew dX12_size_123 (by decide) rfl ?_
  refine zr_aload ⟨_, dX12_size_125, rfl⟩ rfl ?_
  refine zr_loadw dX12_size_126 rfl ?_
  refine zr_loadw dX12_size_128 rfl ?_
  refine zr_load ⟨_, dX12_size_130, rfl⟩ rfl ?_
  obtain ⟨x1, hx1, h⟩ := zbind h
  refine zt_callii (t_Rf_lays hx1) (zrun_V (rest := []) dX12_size_131 ml_X12_383 rfl rfl (by decide) (by decide) rfl (Nat.le_of_ble_eq_true rfl)) rfl rfl (Nat.le_refl _) (Nat.le_refl _) ?_
  refine zr_storew dX12_size_134 (by decide) rfl ?_
  refine zr_aload ⟨_, dX12_size_136, rfl⟩ rfl ?_
  refine zr_load ⟨_, dX12_size_137, rfl⟩ rfl ?_
  refine zr_load ⟨_, dX12_size_138, rfl⟩ rfl ?_
  obtain ⟨x2, hx2, h⟩ := zbind h
  refine zt_calliv (t_Rf_cutsOther hx2) (zrun_V (rest := []) dX12_size_139 ml_X12_387 rfl rfl (by decide) (by decide) rfl (Nat.le_of_ble_eq_true rfl)) rfl rfl (Nat.le_refl _) (Nat.le_refl _) ?_
  refine zr_aload ⟨_, dX12_size_142, rfl⟩ rfl ?_
  refine zt_get dX12_size_143 fl_X12_380 rfl rfl ?_
  refine zr_load ⟨_, dX12_size_146, rfl⟩ rfl ?_
  refine zr_isub dX12_size_147 ?_
  have hj3 : zBT 4 m_X12_size TRf (some (.inl res.1)) res.2 161 [some (.inr (.inl (some 0))), some (.inl v1), some (.inl v2), some (.inl v3), some (.inl v4), some (.inl k0), some (.inl x1.1), none, none, none, none] [.inl (if 0 ≤ (w32 ((x2.2.1 0 58) - v1)) then (w32 ((x2.2.1 0 58) - v1)) else 0)] x2.2 := by
    refine zr_storew dX12_size_161 (by decide) rfl ?_
    refine zr_loadw dX12_size_163 rfl ?_
    refine zr_loadw dX12_size_165 rfl ?_
    refine zr_bipush dX12_size_167 (by decide) (by decide) ?_
    refine zr_idiv dX12_size_169 (by decide) ?_
    obtain ⟨x5, hx5, h⟩ := zbind h
    refine zt_call0 (t_Rf_lesser hx5) (zrun_S (rest := []) dX12_size_170 ml_X12_170 rfl (by decide) (by decide) rfl (Nat.le_of_ble_eq_true rfl)) rfl rfl (Nat.le_refl _) (Nat.le_refl _) ?_
    refine zr_storew dX12_size_173 (by decide) rfl ?_
    refine zr_aload ⟨_, dX12_size_175, rfl⟩ rfl ?_
    refine zr_loadw dX12_size_176 rfl ?_
    refine zr_bipush dX12_size_178 (by decide) (by decide) ?_
    obtain ⟨x6, hx6, h⟩ := zbind h
    refine zt_call0 (t_Rf_lesser hx6) (zrun_S (rest := [.inr (.inl (some 0))]) dX12_size_180 ml_X12_170 rfl (by decide) (by decide) rfl (Nat.le_of_ble_eq_true rfl)) rfl rfl (Nat.le_refl _) (Nat.le_refl _) ?_
    refine zt_put dX12_size_183 fl_X12_98 rfl rfl ?_
    refine zr_iconst dX12_size_186 (by decide) ?_
    refine zr_storew dX12_size_187 (by decide) rfl ?_
    refine zr_mask [true, true, true, true, false, false, true, true, true, false, false] rfl ?_
    obtain ⟨y7, hy7, h⟩ := zbind h
    refine t_Rf_size_l189 _ _ _ hy7 ?_
    refine zr_iconst dX12_size_276 (by decide) ?_
    refine zr_storew dX12_size_277 (by decide) rfl ?_
    obtain ⟨y8, hy8, h⟩ := zbind h
    refine t_Rf_size_l279 _ _ _ hy8 ?_
    refine zr_aload ⟨_, dX12_size_409, rfl⟩ rfl ?_
    refine zr_load ⟨_, dX12_size_410, rfl⟩ rfl ?_
    have hj9 : zBT 4 m_X12_size TRf (some (.inl res.1)) res.2 437 [some (.inr (.inl (some 0))), some (.inl v1), some (.inl v2), some (.inl v3), none, none, some (.inl x1.1), some (.inl x5), none, none, none] [.inl (if v3 = 0 then 0 else (if (y8.1 0 11) = 0 then 0 else (if ¬ (wRem x1.1 24) = (w32 (v2 - 1)) then 0 else 1))), .inr (.inl (some 0))] y8 := by
      refine zt_putz dX12_size_437 fl_X12_126 rfl rfl (z01i (Or.inl rfl) (z01i (Or.inl rfl) (z01i (Or.inl rfl) (Or.inr rfl)))) ?_
      refine zr_load ⟨_, dX12_size_440, rfl⟩ rfl ?_
      refine zr_if_ne (tgt := 496) dX12_size_441 (by decide) (fun hc11 => ?_) (fun hc11 => ?_)
      · replace h := zpos h hc11
        exact t_Rf_size_j496 h
      · replace h := zneg h hc11
        refine zr_aload ⟨_, dX12_size_444, rfl⟩ rfl ?_
        refine zr_loadw dX12_size_445 rfl ?_
        refine zr_bipush dX12_size_447 (by decide) (by decide) ?_
        refine zr_idiv dX12_size_449 (by decide) ?_
        refine zr_loadw dX12_size_450 rfl ?_
        refine zr_isub dX12_size_452 ?_
        refine zt_put dX12_size_453 fl_X12_152 rfl rfl ?_
        refine zr_aload ⟨_, dX12_size_456, rfl⟩ rfl ?_
        refine zr_loadw dX12_size_457 rfl ?_
        refine zr_bipush dX12_size_459 (by decide) (by decide) ?_
        refine zr_irem dX12_size_461 (by decide) ?_
        refine zt_put dX12_size_462 fl_X12_155 rfl rfl ?_
        refine zr_aload ⟨_, dX12_size_465, rfl⟩ rfl ?_
        refine zr_aload ⟨_, dX12_size_466, rfl⟩ rfl ?_
        refine zt_get dX12_size_467 fl_X12_158 rfl rfl ?_
        have hj12 : zBT 4 m_X12_size TRf (some (.inl res.1)) res.2 488 [some (.inr (.inl (some 0))), some (.inl v1), some (.inl v2), some (.inl v3), none, none, some (.inl x1.1), some (.inl x5), none, none, none] [.inl (if (y8.1 0 26) = 0 then 0 else (if ¬ (wRem x1.1 24) = (w32 (v2 - 1)) then 0 else 1)), .inr (.inl (some 0))] (uS (uS (uS y8 0 11 (if v3 = 0 then 0 else (if (y8.1 0 11) = 0 then 0 else (if ¬ (wRem x1.1 24) = (w32 (v2 - 1)) then 0 else 1)))) 0 24 (w32 ((wDiv x1.1 24) - x5))) 0 25 (wRem x1.1 24)) := by
          refine zt_putz dX12_size_488 fl_X12_158 rfl rfl (z01i (Or.inl rfl) (z01i (Or.inl rfl) (Or.inr rfl))) ?_
          refine zr_aload ⟨_, dX12_size_491, rfl⟩ rfl ?_
          refine zr_iconst dX12_size_492 (by decide) ?_
          refine zt_putz dX12_size_493 fl_X12_149 rfl rfl (Or.inr rfl) ?_
          exact t_Rf_size_j496 h
        refine zr_if_eq (tgt := 487) dX12_size_470 (by decide) (fun hc13 => ?_) (fun hc13 => ?_)
        · have hp14 := zif_t hj12 hc13
          refine zr_iconst dX12_size_487 (by decide) ?_
          exact hp14
        · have hp15 := zif_f hj12 hc13
          refine zr_aload ⟨_, dX12_size_473, rfl⟩ rfl ?_
          refine zt_get dX12_size_474 fl_X12_155 rfl rfl ?_
          refine zr_load ⟨_, dX12_size_477, rfl⟩ rfl ?_
          refine zr_iconst dX12_size_478 (by decide) ?_
          refine zr_isub dX12_size_479 ?_
          refine zr_ic_ne (tgt := 487) dX12_size_480 (by decide) (fun hc16 => ?_) (fun hc16 => ?_)
          · have hp17 := zif_t hp15 hc16
            refine zr_iconst dX12_size_487 (by decide) ?_
            exact hp17
          · have hp18 := zif_f hp15 hc16
            refine zr_iconst dX12_size_483 (by decide) ?_
            refine zr_goto (tgt := 488) dX12_size_484 (by decide) ?_
            exact hp18
    refine zr_if_eq (tgt := 436) dX12_size_411 (by decide) (fun hc10 => ?_) (fun hc10 => ?_)
    · have hp19 := zif_t hj9 hc10
      refine zr_iconst dX12_size_436 (by decide) ?_
      exact hp19
    · have hp20 := zif_f hj9 hc10
      refine zr_aload ⟨_, dX12_size_414, rfl⟩ rfl ?_
      refine zt_get dX12_size_415 fl_X12_126 rfl rfl ?_
      refine zr_if_eq (tgt := 436) dX12_size_418 (by decide) (fun hc21 => ?_) (fun hc21 => ?_)
      · have hp22 := zif_t hp20 hc21
        refine zr_iconst dX12_size_436 (by decide) ?_
        exact hp22
      · have hp23 := zif_f hp20 hc21
        refine zr_loadw dX12_size_421 rfl ?_
        refine zr_bipush dX12_size_423 (by decide) (by decide) ?_
        refine zr_irem dX12_size_425 (by decide) ?_
        refine zr_load ⟨_, dX12_size_426, rfl⟩ rfl ?_
        refine zr_iconst dX12_size_427 (by decide) ?_
        refine zr_isub dX12_size_428 ?_
        refine zr_ic_ne (tgt := 436) dX12_size_429 (by decide) (fun hc24 => ?_) (fun hc24 => ?_)
        · have hp25 := zif_t hp23 hc24
          refine zr_iconst dX12_size_436 (by decide) ?_
          exact hp25
        · have hp26 := zif_f hp23 hc24
          refine zr_iconst dX12_size_432 (by decide) ?_
          refine zr_goto (tgt := 437) dX12_size_433 (by decide) ?_
          exact hp26
  refine zr_if_ge (tgt := 155) dX12_size_148 (by decide) (fun hc4 => ?_) (fun hc4 => ?_)
  · have hp27 := zif_t hj3 hc4
    refine zr_aload ⟨_, dX12_size_155, rfl⟩ rfl ?_
    refine zt_get dX12_size_156 fl_X12_380 rfl rfl ?_
    refine zr_load ⟨_, dX12_size_159, rfl⟩ rfl ?_
    refine zr_isub dX12_size_160 ?_
    exact hp27
  · have hp28 := zif_f hj3 hc4
    refine zr_iconst dX12_size_151 (by decide) ?_
    refine zr_goto (tgt := 161) dX12_size_152 (by decide) ?_
    exact hp28
set_option maxRecDepth 100000 in
set_option maxHeartbeats 4000000 in
theorem t_Rf_size_j86 {v1 v2 v3 k0 : Int} {s : zSt} {res : Int × zSt} (h : f_Rf_size_j86 v1 v2 v3 k0 s = some res) : zBT 4 m_X12_size TRf (some (.inl res.1)) res.2 86 [some (.inr (.inl (some 0))), some (.inl v1), some (.inl v2), some (.inl v3), none, none, none, none, none, none, none] [.inl k0] s := by
  unfold f_Rf_size_j86 at h
  refine zr_storew dX12_size_86 (by decide) rfl ?_
  refine zr_load ⟨_, dX12_size_88, rfl⟩ rfl ?_
  refine zr_if_eq (tgt := 99) dX12_size_89 (by decide) (fun hc1 => ?_) (fun hc1 => ?_)
  · replace h := zpos h hc1
    refine zr_aload ⟨_, dX12_size_99, rfl⟩ rfl ?_
    refine zt_get dX12_size_100 fl_X12_149 rfl rfl ?_
    refine zr_if_eq (tgt := 122) dX12_size_103 (by decide) (fun hc2 => ?_) (fun hc2 => ?_)
    · replace h := zpos h hc2
      refine zr_iconst dX12_size_122 (by decide) ?_
      exact t_Rf_size_j123 h
    · replace h := zneg h hc2
      refine zr_aload ⟨_, dX12_size_106, rfl⟩ rfl ?_
      refine zt_get dX12_size_107 fl_X12_155 rfl rfl ?_
      refine zr_aload ⟨_, dX12_size_110, rfl⟩ rfl ?_
      refine zt_get dX12_size_111 fl_X12_13 rfl rfl ?_
      refine zr_iconst dX12_size_114 (by decide) ?_
      refine zr_isub dX12_size_115 ?_
      obtain ⟨x3, hx3, h⟩ := zbind h
      refine zt_call0 (t_Rf_lesser hx3) (zrun_S (rest := []) dX12_size_116 ml_X12_170 rfl (by decide) (by decide) rfl (Nat.le_of_ble_eq_true rfl)) rfl rfl (Nat.le_refl _) (Nat.le_refl _) ?_
      refine zr_goto (tgt := 123) dX12_size_119 (by decide) ?_
      exact t_Rf_size_j123 h
  · replace h := zneg h hc1
    refine zr_aload ⟨_, dX12_size_92, rfl⟩ rfl ?_
    refine zt_get dX12_size_93 fl_X12_123 rfl rfl ?_
    refine zr_goto (tgt := 123) dX12_size_96 (by decide) ?_
    exact t_Rf_size_j123 h
set_option maxRecDepth 100000 in
set_option maxHeartbeats 4000000 in
theorem t_Rf_size_j26 {v1 v2 k0 : Int} {s : zSt} {res : Int × zSt} (h : f_Rf_size_j26 v1 v2 k0 s = some res) : zBT 4 m_X12_size TRf (some (.inl res.1)) res.2 26 [some (.inr (.inl (some 0))), some (.inl v1), some (.inl v2), none, none, none, none, none, none, none, none] [.inl k0, .inr (.inl (some 0))] s := by
  unfold f_Rf_size_j26 at h
  refine zt_put dX12_size_26 fl_X12_80 rfl rfl ?_
  refine zr_aload ⟨_, dX12_size_29, rfl⟩ rfl ?_
  refine zt_get dX12_size_30 fl_X12_80 rfl rfl ?_
  refine zr_if_le (tgt := 38) dX12_size_33 (by decide) (fun hc1 => ?_) (fun hc1 => ?_)
  · replace h := zpos h hc1
    refine zr_aload ⟨_, dX12_size_38, rfl⟩ rfl ?_
    refine zt_get dX12_size_39 fl_X12_87 rfl rfl ?_
    have hj2 : zBT 4 m_X12_size TRf (some (.inl res.1)) res.2 50 [some (.inr (.inl (some 0))), some (.inl v1), some (.inl v2), none, none, none, none, none, none, none, none] [.inl (if ¬ (s.1 0 8) = 0 then 0 else 1)] (uS s 0 0 k0) := by
      refine zr_store ⟨_, dX12_size_50, rfl⟩ (by decide) rfl ?_
      refine zr_load ⟨_, dX12_size_51, rfl⟩ rfl ?_
      refine zr_if_eq (tgt := 62) dX12_size_52 (by decide) (fun hc4 => ?_) (fun hc4 => ?_)
      · replace h := zpos h hc4
        refine zr_aload ⟨_, dX12_size_62, rfl⟩ rfl ?_
        refine zt_get dX12_size_63 fl_X12_149 rfl rfl ?_
        refine zr_if_eq (tgt := 85) dX12_size_66 (by decide) (fun hc5 => ?_) (fun hc5 => ?_)
        · replace h := zpos h hc5
          refine zr_iconst dX12_size_85 (by decide) ?_
          exact t_Rf_size_j86 h
        · replace h := zneg h hc5
          refine zr_aload ⟨_, dX12_size_69, rfl⟩ rfl ?_
          refine zt_get dX12_size_70 fl_X12_152 rfl rfl ?_
          refine zr_aload ⟨_, dX12_size_73, rfl⟩ rfl ?_
          refine zt_get dX12_size_74 fl_X12_7 rfl rfl ?_
          refine zr_iconst dX12_size_77 (by decide) ?_
          refine zr_isub dX12_size_78 ?_
          obtain ⟨x6, hx6, h⟩ := zbind h
          refine zt_call0 (t_Rf_lesser hx6) (zrun_S (rest := []) dX12_size_79 ml_X12_170 rfl (by decide) (by decide) rfl (Nat.le_of_ble_eq_true rfl)) rfl rfl (Nat.le_refl _) (Nat.le_refl _) ?_
          refine zr_goto (tgt := 86) dX12_size_82 (by decide) ?_
          exact t_Rf_size_j86 h
      · replace h := zneg h hc4
        refine zr_aload ⟨_, dX12_size_55, rfl⟩ rfl ?_
        refine zt_get dX12_size_56 fl_X12_113 rfl rfl ?_
        refine zr_goto (tgt := 86) dX12_size_59 (by decide) ?_
        exact t_Rf_size_j86 h
    refine zr_if_ne (tgt := 49) dX12_size_42 (by decide) (fun hc3 => ?_) (fun hc3 => ?_)
    · have hp7 := zif_t hj2 hc3
      refine zr_iconst dX12_size_49 (by decide) ?_
      exact hp7
    · have hp8 := zif_f hj2 hc3
      refine zr_iconst dX12_size_45 (by decide) ?_
      refine zr_goto (tgt := 50) dX12_size_46 (by decide) ?_
      exact hp8
  · replace h := zneg h hc1
    refine zr_iconst dX12_size_36 (by decide) ?_
    obtain rfl := Option.some.inj h
    exact zt_iret dX12_size_37 rfl
set_option maxRecDepth 100000 in
set_option maxHeartbeats 4000000 in
theorem t_Rf_size_j25 {v1 v2 : Int} {s : zSt} {res : Int × zSt} (h : f_Rf_size_j25 v1 v2 s = some res) : zBT 4 m_X12_size TRf (some (.inl res.1)) res.2 25 [some (.inr (.inl (some 0))), some (.inl v1), some (.inl v2), none, none, none, none, none, none, none, none] [.inr (.inl (some 0))] s := by
  unfold f_Rf_size_j25 at h
  refine zr_iconst dX12_size_25 (by decide) ?_
  exact t_Rf_size_j26 h
set_option maxRecDepth 100000 in
set_option maxHeartbeats 4000000 in
theorem t_Rf_size {a1 a2 : Int} {s : zSt} {res : Int × zSt} (h : f_Rf_size a1 a2 s = some res) : zSpecT 4 m_X12_size [.inr (.inl (some 0)), .inl a1, .inl a2] TRf s (some (.inl res.1)) res.2 := by
  refine zSpec_of (by decide +kernel) (Nat.le_of_ble_eq_true rfl) ?_
  show zBT 4 m_X12_size TRf (some (.inl res.1)) res.2 0 [some (.inr (.inl (some 0))), some (.inl a1), some (.inl a2), none, none, none, none, none, none, none, none] [] s
  unfold f_Rf_size at h
  refine zr_aload ⟨_, dX12_size_0, rfl⟩ rfl ?_
  refine zr_load ⟨_, dX12_size_1, rfl⟩ rfl ?_
  refine zr_iconst dX12_size_2 (by decide) ?_
  refine zr_bipush dX12_size_3 (by decide) (by decide) ?_
  obtain ⟨x1, hx1, h⟩ := zbind h
  refine zt_call0 (t_Rf_in hx1) (zrun_S (rest := [.inr (.inl (some 0))]) dX12_size_5 ml_X12_83 rfl (by decide) (by decide) rfl (Nat.le_of_ble_eq_true rfl)) rfl rfl (Nat.le_refl _) (Nat.le_refl _) ?_
  refine zr_if_eq (tgt := 25) dX12_size_8 (by decide) (fun hc2 => ?_) (fun hc2 => ?_)
  · replace h := zpos h hc2
    exact t_Rf_size_j25 h
  · replace h := zneg h hc2
    refine zr_load ⟨_, dX12_size_11, rfl⟩ rfl ?_
    refine zr_iconst dX12_size_12 (by decide) ?_
    refine zr_bipush dX12_size_13 (by decide) (by decide) ?_
    obtain ⟨x3, hx3, h⟩ := zbind h
    refine zt_call0 (t_Rf_in hx3) (zrun_S (rest := [.inr (.inl (some 0))]) dX12_size_15 ml_X12_83 rfl (by decide) (by decide) rfl (Nat.le_of_ble_eq_true rfl)) rfl rfl (Nat.le_refl _) (Nat.le_refl _) ?_
    have hj4 : zBT 4 m_X12_size TRf (some (.inl res.1)) res.2 26 [some (.inr (.inl (some 0))), some (.inl a1), some (.inl a2), none, none, none, none, none, none, none, none] [.inl (if x3 = 0 then 1 else 0), .inr (.inl (some 0))] s := by
      refine zt_put dX12_size_26 fl_X12_80 rfl rfl ?_
      refine zr_aload ⟨_, dX12_size_29, rfl⟩ rfl ?_
      refine zt_get dX12_size_30 fl_X12_80 rfl rfl ?_
      refine zr_if_le (tgt := 38) dX12_size_33 (by decide) (fun hc6 => ?_) (fun hc6 => ?_)
      · replace h := zpos h hc6
        refine zr_aload ⟨_, dX12_size_38, rfl⟩ rfl ?_
        refine zt_get dX12_size_39 fl_X12_87 rfl rfl ?_
        have hj7 : zBT 4 m_X12_size TRf (some (.inl res.1)) res.2 50 [some (.inr (.inl (some 0))), some (.inl a1), some (.inl a2), none, none, none, none, none, none, none, none] [.inl (if ¬ (s.1 0 8) = 0 then 0 else 1)] (uS s 0 0 (if x3 = 0 then 1 else 0)) := by
          refine zr_store ⟨_, dX12_size_50, rfl⟩ (by decide) rfl ?_
          refine zr_load ⟨_, dX12_size_51, rfl⟩ rfl ?_
          refine zr_if_eq (tgt := 62) dX12_size_52 (by decide) (fun hc9 => ?_) (fun hc9 => ?_)
          · replace h := zpos h hc9
            refine zr_aload ⟨_, dX12_size_62, rfl⟩ rfl ?_
            refine zt_get dX12_size_63 fl_X12_149 rfl rfl ?_
            refine zr_if_eq (tgt := 85) dX12_size_66 (by decide) (fun hc10 => ?_) (fun hc10 => ?_)
            · replace h := zpos h hc10
              refine zr_iconst dX12_size_85 (by decide) ?_
              exact t_Rf_size_j86 h
            · replace h := zneg h hc10
              refine zr_aload ⟨_, dX12_size_69, rfl⟩ rfl ?_
              refine zt_get dX12_size_70 fl_X12_152 rfl rfl ?_
              refine zr_aload ⟨_, dX12_size_73, rfl⟩ rfl ?_
              refine zt_get dX12_size_74 fl_X12_7 rfl rfl ?_
              refine zr_iconst dX12_size_77 (by decide) ?_
              refine zr_isub dX12_size_78 ?_
              obtain ⟨x11, hx11, h⟩ := zbind h
              refine zt_call0 (t_Rf_lesser hx11) (zrun_S (rest := []) dX12_size_79 ml_X12_170 rfl (by decide) (by decide) rfl (Nat.le_of_ble_eq_true rfl)) rfl rfl (Nat.le_refl _) (Nat.le_refl _) ?_
              refine zr_goto (tgt := 86) dX12_size_82 (by decide) ?_
              exact t_Rf_size_j86 h
          · replace h := zneg h hc9
            refine zr_aload ⟨_, dX12_size_55, rfl⟩ rfl ?_
            refine zt_get dX12_size_56 fl_X12_113 rfl rfl ?_
            refine zr_goto (tgt := 86) dX12_size_59 (by decide) ?_
            exact t_Rf_size_j86 h
        refine zr_if_ne (tgt := 49) dX12_size_42 (by decide) (fun hc8 => ?_) (fun hc8 => ?_)
        · have hp12 := zif_t hj7 hc8
          refine zr_iconst dX12_size_49 (by decide) ?_
          exact hp12
        · have hp13 := zif_f hj7 hc8
          refine zr_iconst dX12_size_45 (by decide) ?_
          refine zr_goto (tgt := 50) dX12_size_46 (by decide) ?_
          exact hp13
      · replace h := zneg h hc6
        refine zr_iconst dX12_size_36 (by decide) ?_
        obtain rfl := Option.some.inj h
        exact zt_iret dX12_size_37 rfl
    refine zr_if_eq (tgt := 25) dX12_size_18 (by decide) (fun hc5 => ?_) (fun hc5 => ?_)
    · have hp14 := zif_t hj4 hc5
      refine zr_iconst dX12_size_25 (by decide) ?_
      exact hp14
    · have hp15 := zif_f hj4 hc5
      refine zr_iconst dX12_size_21 (by decide) ?_
      refine zr_goto (tgt := 26) dX12_size_22 (by decide) ?_
      exact hp15
set_option maxRecDepth 100000 in
set_option maxHeartbeats 4000000 in
theorem t_Rf_costOf_l10 {c1 c2 c3 c4 : Int} {r : Option zAV} {s0 : zSt}  : ∀ (n : Nat) (x : Int × zSt) (out : zSt), zloop (f_Rf_costOf_l10 c1 c2 c3 c4) n x = some out → (zBT 4 m_X12_costOf TRf r s0 39 [some (.inr (.inl (some 0))), some (.inl c1), some (.inl c2), some (.inl c3), some (.inl c4), none, none, none, none, none, none] [] out) → zBT 4 m_X12_costOf TRf r s0 10 [some (.inr (.inl (some 0))), some (.inl c1), some (.inl c2), some (.inl c3), some (.inl c4), some (.inl x.1), none, none, none, none, none] [] x.2 := by
  refine zloop_B (B := fun (x : Int × zSt) (out : zSt) => zBT 4 m_X12_costOf TRf r s0 39 [some (.inr (.inl (some 0))), some (.inl c1), some (.inl c2), some (.inl c3), some (.inl c4), none, none, none, none, none, none] [] out → zBT 4 m_X12_costOf TRf r s0 10 [some (.inr (.inl (some 0))), some (.inl c1), some (.inl c2), some (.inl c3), some (.inl c4), some (.inl x.1), none, none, none, none, none] [] x.2) ?_
  intro x o out h hk hx
  unfold f_Rf_costOf_l10 at h
  refine zr_loadw dX12_costOf_10 rfl ?_
  refine zr_bipush dX12_costOf_12 (by decide) (by decide) ?_
  refine zr_ic_ge (tgt := 39) dX12_costOf_14 (by decide) (fun hc1 => ?_) (fun hc1 => ?_)
  · replace h := zpos h hc1
    refine zr_mask [true, true, true, true, true, false, false, false, false, false, false] rfl ?_
    obtain rfl := Option.some.inj h
    obtain rfl := hk
    exact hx
  · replace h := zneg h hc1
    refine zr_aload ⟨_, dX12_costOf_17, rfl⟩ rfl ?_
    refine zt_getr dX12_costOf_18 fl_X12_67 rfl rfl ?_
    refine zr_bipush dX12_costOf_21 (by decide) (by decide) ?_
    refine zr_aload ⟨_, dX12_costOf_23, rfl⟩ rfl ?_
    refine zt_get dX12_costOf_24 fl_X12_13 rfl rfl ?_
    refine zr_imul dX12_costOf_27 ?_
    refine zr_loadw dX12_costOf_28 rfl ?_
    refine zr_iadd dX12_costOf_30 ?_
    refine zr_iconst dX12_costOf_31 (by decide) ?_
    obtain ⟨hb2, h⟩ := zchk h
    refine zt_iastore dX12_costOf_32 rfl hb2 ?_
    refine zr_iinc dX12_costOf_33 rfl (by decide) rfl ?_
    refine zr_goto (tgt := 10) dX12_costOf_36 (by decide) ?_
    obtain rfl := Option.some.inj h
    exact hk hx
set_option maxRecDepth 100000 in
set_option maxHeartbeats 4000000 in
theorem t_Rf_costOf_l198 {c1 c2 c3 c4 c5 c6 c7 : Int} {r : Option zAV} {s0 : zSt}  : ∀ (n : Nat) (x : Int × Int × zSt) (out : Int × zSt), zloop (f_Rf_costOf_l198 c1 c2 c3 c4 c5 c6 c7) n x = some out → (zBT 4 m_X12_costOf TRf r s0 271 [some (.inr (.inl (some 0))), some (.inl c1), some (.inl c2), some (.inl c3), some (.inl c4), some (.inl c5), some (.inl c6), some (.inl c7), none, some (.inl out.1), none] [] out.2) → zBT 4 m_X12_costOf TRf r s0 198 [some (.inr (.inl (some 0))), some (.inl c1), some (.inl c2), some (.inl c3), some (.inl c4), some (.inl c5), some (.inl c6), some (.inl c7), none, some (.inl x.1), some (.inl x.2.1)] [] x.2.2 := by
  refine zloop_B (B := fun (x : Int × Int × zSt) (out : Int × zSt) => zBT 4 m_X12_costOf TRf r s0 271 [some (.inr (.inl (some 0))), some (.inl c1), some (.inl c2), some (.inl c3), some (.inl c4), some (.inl c5), some (.inl c6), some (.inl c7), none, some (.inl out.1), none] [] out.2 → zBT 4 m_X12_costOf TRf r s0 198 [some (.inr (.inl (some 0))), some (.inl c1), some (.inl c2), some (.inl c3), some (.inl c4), some (.inl c5), some (.inl c6), some (.inl c7), none, some (.inl x.1), some (.inl x.2.1)] [] x.2.2) ?_
  intro x o out h hk hx
  unfold f_Rf_costOf_l198 at h
  refine zr_loadw dX12_costOf_198 rfl ?_
  refine zr_aload ⟨_, dX12_costOf_200, rfl⟩ rfl ?_
  refine zt_get dX12_costOf_201 fl_X12_13 rfl rfl ?_
  refine zr_ic_ge (tgt := 271) dX12_costOf_204 (by decide) (fun hc1 => ?_) (fun hc1 => ?_)
  · replace h := zpos h hc1
    refine zr_mask [true, true, true, true, true, true, true, true, false, true, false] rfl ?_
    obtain rfl := Option.some.inj h
    obtain rfl := hk
    exact hx
  · replace h := zneg h hc1
    refine zr_aload ⟨_, dX12_costOf_207, rfl⟩ rfl ?_
    refine zr_load ⟨_, dX12_costOf_208, rfl⟩ rfl ?_
    refine zr_loadw dX12_costOf_209 rfl ?_
    obtain ⟨x2, hx2, h⟩ := zbind h
    refine zt_callisi (t_Rf_isLike hx2) (zrun_V (rest := []) dX12_costOf_211 ml_X12_390 rfl rfl (by decide) (by decide) rfl (Nat.le_of_ble_eq_true rfl)) rfl rfl (Nat.le_refl _) (Nat.le_refl _) ?_
    refine zr_if_eq (tgt := 271) dX12_costOf_214 (by decide) (fun hc3 => ?_) (fun hc3 => ?_)
    · replace h := zpos h hc3
      refine zr_mask [true, true, true, true, true, true, true, true, false, true, false] rfl ?_
      obtain rfl := Option.some.inj h
      obtain rfl := hk
      exact hx
    · replace h := zneg h hc3
      refine zr_iinc dX12_costOf_217 rfl (by decide) rfl ?_
      refine zr_loadw dX12_costOf_220 rfl ?_
      refine zr_aload ⟨_, dX12_costOf_222, rfl⟩ rfl ?_
      refine zt_get dX12_costOf_223 fl_X12_13 rfl rfl ?_
      refine zr_ic_ge (tgt := 198) dX12_costOf_226 (by decide) (fun hc4 => ?_) (fun hc4 => ?_)
      · replace h := zpos h hc4
        obtain rfl := Option.some.inj h
        exact hk hx
      · replace h := zneg h hc4
        refine zr_aload ⟨_, dX12_costOf_229, rfl⟩ rfl ?_
        refine zt_getr dX12_costOf_230 fl_X12_16 rfl rfl ?_
        refine zr_aload ⟨_, dX12_costOf_233, rfl⟩ rfl ?_
        refine zr_load ⟨_, dX12_costOf_234, rfl⟩ rfl ?_
        refine zr_loadw dX12_costOf_235 rfl ?_
        obtain ⟨x5, hx5, h⟩ := zbind h
        refine zt_callisi (t_Rf_at hx5) (zrun_V (rest := [.inr (.inl (some 1))]) dX12_costOf_237 ml_X12_90 rfl rfl (by decide) (by decide) rfl (Nat.le_of_ble_eq_true rfl)) rfl rfl (Nat.le_refl _) (Nat.le_refl _) ?_
        obtain ⟨hb6, h⟩ := zchk h
        refine zt_iaload dX12_costOf_240 rfl hb6 ?_
        refine zr_bipush dX12_costOf_241 (by decide) (by decide) ?_
        refine zr_ic_eq (tgt := 198) dX12_costOf_243 (by decide) (fun hc7 => ?_) (fun hc7 => ?_)
        · replace h := zpos h hc7
          obtain rfl := Option.some.inj h
          exact hk hx
        · replace h := zneg h hc7
          refine zr_loadw dX12_costOf_246 rfl ?_
          refine zr_iconst dX12_costOf_248 (by decide) ?_
          refine zr_aload ⟨_, dX12_costOf_249, rfl⟩ rfl ?_
          refine zt_getr dX12_costOf_250 fl_X12_67 rfl rfl ?_
          refine zr_bipush dX12_costOf_253 (by decide) (by decide) ?_
          refine zr_loadw dX12_costOf_255 rfl ?_
          refine zr_imul dX12_costOf_257 ?_
          refine zr_loadw dX12_costOf_258 rfl ?_
          refine zr_iadd dX12_costOf_260 ?_
          obtain ⟨hb8, h⟩ := zchk h
          refine zt_iaload dX12_costOf_261 rfl hb8 ?_
          refine zr_iadd dX12_costOf_262 ?_
          obtain ⟨x9, hx9, h⟩ := zbind h
          refine zt_call0 (t_Rf_lesser hx9) (zrun_S (rest := []) dX12_costOf_263 ml_X12_170 rfl (by decide) (by decide) rfl (Nat.le_of_ble_eq_true rfl)) rfl rfl (Nat.le_refl _) (Nat.le_refl _) ?_
          refine zr_storew dX12_costOf_266 (by decide) rfl ?_
          refine zr_goto (tgt := 198) dX12_costOf_268 (by decide) ?_
          obtain rfl := Option.some.inj h
          exact hk hx
set_option maxRecDepth 100000 in
set_option maxHeartbeats 4000000 in
theorem t_Rf_costOf_l106 {c1 c2 c3 c4 c5 c6 : Int} {r : Option zAV} {s0 : zSt}  : ∀ (n : Nat) (x : Int × zSt) (out : zSt), zloop (f_Rf_costOf_l106 c1 c2 c3 c4 c5 c6) n x = some out → (zBT 4 m_X12_costOf TRf r s0 300 [some (.inr (.inl (some 0))), some (.inl c1), some (.inl c2), some (.inl c3), some (.inl c4), some (.inl c5), none, none, none, none, none] [] out) → zBT 4 m_X12_costOf TRf r s0 106 [some (.inr (.inl (some 0))), some (.inl c1), some (.inl c2), some (.inl c3), some (.inl c4), some (.inl c5), some (.inl c6), some (.inl x.1), none, none, none] [] x.2 := by
  refine zloop_B (B := fun (x : Int × zSt) (out : zSt) => zBT 4 m_X12_costOf TRf r s0 300 [some (.inr (.inl (some 0))), some (.inl c1), some (.inl c2), some (.inl c3), some (.inl c4), some (.inl c5), none, none, none, none, none] [] out → zBT 4 m_X12_costOf TRf r s0 106 [some (.inr (.inl (some 0))), some (.inl c1), some (.inl c2), some (.inl c3), some (.inl c4), some (.inl c5), some (.inl c6), some (.inl x.1), none, none, none] [] x.2) ?_
  intro x o out h hk hx
  unfold f_Rf_costOf_l106 at h
  refine zr_loadw dX12_costOf_106 rfl ?_
  refine zr_bipush dX12_costOf_108 (by decide) (by decide) ?_
  refine zr_ic_ge (tgt := 300) dX12_costOf_110 (by decide) (fun hc1 => ?_) (fun hc1 => ?_)
  · replace h := zpos h hc1
    refine zr_mask [true, true, true, true, true, true, false, false, false, false, false] rfl ?_
    obtain rfl := Option.some.inj h
    obtain rfl := hk
    exact hx
  · replace h := zneg h hc1
    refine zr_loadw dX12_costOf_113 rfl ?_
    refine zr_bipush dX12_costOf_115 (by decide) (by decide) ?_
    refine zr_ic_eq (tgt := 300) dX12_costOf_117 (by decide) (fun hc2 => ?_) (fun hc2 => ?_)
    · replace h := zpos h hc2
      refine zr_mask [true, true, true, true, true, true, false, false, false, false, false] rfl ?_
      obtain rfl := Option.some.inj h
      obtain rfl := hk
      exact hx
    · replace h := zneg h hc2
      refine zr_loadw dX12_costOf_120 rfl ?_
      refine zr_ldc dX12_costOf_122 k_X12_145 (by decide) ?_
      refine zr_irem dX12_costOf_124 (by decide) ?_
      refine zr_sipush dX12_costOf_125 (by decide) (by decide) ?_
      refine zr_idiv dX12_costOf_128 (by decide) ?_
      refine zr_storew dX12_costOf_129 (by decide) rfl ?_
      refine zr_iconst dX12_costOf_131 (by decide) ?_
      refine zr_loadw dX12_costOf_132 rfl ?_
      refine zr_ldc dX12_costOf_134 k_X12_145 (by decide) ?_
      refine zr_idiv dX12_costOf_136 (by decide) ?_
      refine zr_iadd dX12_costOf_137 ?_
      refine zr_loadw dX12_costOf_138 rfl ?_
      refine zr_loadw dX12_costOf_140 rfl ?_
      have hj3 : zBT 4 m_X12_costOf TRf r s0 150 [some (.inr (.inl (some 0))), some (.inl c1), some (.inl c2), some (.inl c3), some (.inl c4), some (.inl c5), some (.inl c6), some (.inl x.1), some (.inl (wDiv (wRem c6 100000) 1000)), none, none] [.inl (if ¬ (wDiv (wRem c6 100000) 1000) = x.1 then 4 else 0), .inl (w32 (1 + (wDiv c6 100000)))] x.2 := by
        refine zr_iadd dX12_costOf_150 ?_
        refine zr_aload ⟨_, dX12_costOf_151, rfl⟩ rfl ?_
        refine zt_getr dX12_costOf_152 fl_X12_67 rfl rfl ?_
        refine zr_bipush dX12_costOf_155 (by decide) (by decide) ?_
        refine zr_loadw dX12_costOf_157 rfl ?_
        refine zr_aload ⟨_, dX12_costOf_159, rfl⟩ rfl ?_
        refine zr_load ⟨_, dX12_costOf_160, rfl⟩ rfl ?_
        refine zr_loadw dX12_costOf_161 rfl ?_
        obtain ⟨x5, hx5, h⟩ := zbind h
        refine zt_callisi (t_Rf_wide hx5) (zrun_V (rest := [.inl c5, .inl 16, .inr (.inl (some 13)), .inl (w32 ((w32 (1 + (wDiv c6 100000))) + (if ¬ (wDiv (wRem c6 100000) 1000) = x.1 then 4 else 0)))]) dX12_costOf_163 ml_X12_393 rfl rfl (by decide) (by decide) rfl (Nat.le_of_ble_eq_true rfl)) rfl rfl (Nat.le_refl _) (Nat.le_refl _) ?_
        refine zr_iadd dX12_costOf_166 ?_
        refine zr_imul dX12_costOf_167 ?_
        refine zr_loadw dX12_costOf_168 rfl ?_
        refine zr_iadd dX12_costOf_170 ?_
        obtain ⟨hb6, h⟩ := zchk h
        refine zt_iaload dX12_costOf_171 rfl hb6 ?_
        refine zr_iadd dX12_costOf_172 ?_
        refine zr_storew dX12_costOf_173 (by decide) rfl ?_
        refine zr_loadw dX12_costOf_175 rfl ?_
        have hj7 : zBT 4 m_X12_costOf TRf r s0 192 [some (.inr (.inl (some 0))), some (.inl c1), some (.inl c2), some (.inl c3), some (.inl c4), some (.inl c5), some (.inl c6), some (.inl x.1), some (.inl (wDiv (wRem c6 100000) 1000)), some (.inl (w32 ((w32 ((w32 (1 + (wDiv c6 100000))) + (if ¬ (wDiv (wRem c6 100000) 1000) = x.1 then 4 else 0))) + ((x.2.2 13) (w32 ((w32 (16 * (w32 (c5 + x5)))) + (wDiv (wRem c6 100000) 1000))))))), none] [.inl (if c4 = 0 then (w32 ((w32 ((w32 (1 + (wDiv c6 100000))) + (if ¬ (wDiv (wRem c6 100000) 1000) = x.1 then 4 else 0))) + ((x.2.2 13) (w32 ((w32 (16 * (w32 (c5 + x5)))) + (wDiv (wRem c6 100000) 1000)))))) else (if (w32 ((w32 ((w32 (1 + (wDiv c6 100000))) + (if ¬ (wDiv (wRem c6 100000) 1000) = x.1 then 4 else 0))) + ((x.2.2 13) (w32 ((w32 (16 * (w32 (c5 + x5)))) + (wDiv (wRem c6 100000) 1000)))))) ≤ 3 then (w32 ((w32 ((w32 (1 + (wDiv c6 100000))) + (if ¬ (wDiv (wRem c6 100000) 1000) = x.1 then 4 else 0))) + ((x.2.2 13) (w32 ((w32 (16 * (w32 (c5 + x5)))) + (wDiv (wRem c6 100000) 1000)))))) else 3))] x.2 := by
          refine zr_storew dX12_costOf_192 (by decide) rfl ?_
          refine zr_loadw dX12_costOf_194 rfl ?_
          refine zr_storew dX12_costOf_196 (by decide) rfl ?_
          refine zr_mask [true, true, true, true, true, true, true, true, false, true, true] rfl ?_
          obtain ⟨y9, hy9, h⟩ := zbind h
          refine t_Rf_costOf_l198 _ _ _ hy9 ?_
          refine zr_aload ⟨_, dX12_costOf_271, rfl⟩ rfl ?_
          refine zt_getr dX12_costOf_272 fl_X12_67 rfl rfl ?_
          refine zr_bipush dX12_costOf_275 (by decide) (by decide) ?_
          refine zr_loadw dX12_costOf_277 rfl ?_
          refine zr_imul dX12_costOf_279 ?_
          refine zr_loadw dX12_costOf_280 rfl ?_
          refine zr_iadd dX12_costOf_282 ?_
          refine zr_load ⟨_, dX12_costOf_283, rfl⟩ rfl ?_
          have hj10 : zBT 4 m_X12_costOf TRf r s0 293 [some (.inr (.inl (some 0))), some (.inl c1), some (.inl c2), some (.inl c3), some (.inl c4), some (.inl c5), some (.inl c6), some (.inl x.1), none, some (.inl y9.1), none] [.inl (if c3 = 0 then y9.1 else 0), .inl (w32 ((w32 (16 * c5)) + x.1)), .inr (.inl (some 13))] y9.2 := by
            obtain ⟨hb12, h⟩ := zchk h
            refine zt_iastore dX12_costOf_293 rfl hb12 ?_
            refine zr_iinc dX12_costOf_294 rfl (by decide) rfl ?_
            refine zr_goto (tgt := 106) dX12_costOf_297 (by decide) ?_
            refine zr_mask [true, true, true, true, true, true, true, true, false, false, false] rfl ?_
            obtain rfl := Option.some.inj h
            exact hk hx
          refine zr_if_eq (tgt := 291) dX12_costOf_284 (by decide) (fun hc11 => ?_) (fun hc11 => ?_)
          · have hp13 := zif_t hj10 hc11
            refine zr_loadw dX12_costOf_291 rfl ?_
            exact hp13
          · have hp14 := zif_f hj10 hc11
            refine zr_iconst dX12_costOf_287 (by decide) ?_
            refine zr_goto (tgt := 293) dX12_costOf_288 (by decide) ?_
            exact hp14
        refine zr_if_eq (tgt := 190) dX12_costOf_177 (by decide) (fun hc8 => ?_) (fun hc8 => ?_)
        · have hp15 := zif_t hj7 hc8
          refine zr_loadw dX12_costOf_190 rfl ?_
          exact hp15
        · have hp16 := zif_f hj7 hc8
          refine zr_loadw dX12_costOf_180 rfl ?_
          refine zr_iconst dX12_costOf_182 (by decide) ?_
          refine zr_ic_le (tgt := 190) dX12_costOf_183 (by decide) (fun hc17 => ?_) (fun hc17 => ?_)
          · have hp18 := zif_t hp16 hc17
            refine zr_loadw dX12_costOf_190 rfl ?_
            exact hp18
          · have hp19 := zif_f hp16 hc17
            refine zr_iconst dX12_costOf_186 (by decide) ?_
            refine zr_goto (tgt := 192) dX12_costOf_187 (by decide) ?_
            exact hp19
      refine zr_ic_ne (tgt := 149) dX12_costOf_142 (by decide) (fun hc4 => ?_) (fun hc4 => ?_)
      · have hp20 := zif_t hj3 hc4
        refine zr_iconst dX12_costOf_149 (by decide) ?_
        exact hp20
      · have hp21 := zif_f hj3 hc4
        refine zr_iconst dX12_costOf_145 (by decide) ?_
        refine zr_goto (tgt := 150) dX12_costOf_146 (by decide) ?_
        exact hp21
set_option maxRecDepth 100000 in
set_option maxHeartbeats 4000000 in
theorem t_Rf_costOf_l47 {c1 c2 : Int} {r : Option zAV} {s0 : zSt}  : ∀ (n : Nat) (x : Int × Int × Int × zSt) (out : Int × zSt), zloop (f_Rf_costOf_l47 c1 c2) n x = some out → (zBT 4 m_X12_costOf TRf r s0 306 [some (.inr (.inl (some 0))), some (.inl c1), some (.inl c2), some (.inl out.1), none, none, none, none, none, none, none] [] out.2) → zBT 4 m_X12_costOf TRf r s0 47 [some (.inr (.inl (some 0))), some (.inl c1), some (.inl c2), some (.inl x.1), some (.inl x.2.1), some (.inl x.2.2.1), none, none, none, none, none] [] x.2.2.2 := by
  refine zloop_B (B := fun (x : Int × Int × Int × zSt) (out : Int × zSt) => zBT 4 m_X12_costOf TRf r s0 306 [some (.inr (.inl (some 0))), some (.inl c1), some (.inl c2), some (.inl out.1), none, none, none, none, none, none, none] [] out.2 → zBT 4 m_X12_costOf TRf r s0 47 [some (.inr (.inl (some 0))), some (.inl c1), some (.inl c2), some (.inl x.1), some (.inl x.2.1), some (.inl x.2.2.1), none, none, none, none, none] [] x.2.2.2) ?_
  intro x o out h hk hx
  unfold f_Rf_costOf_l47 at h
  refine zr_loadw dX12_costOf_47 rfl ?_
  refine zr_if_lt (tgt := 306) dX12_costOf_49 (by decide) (fun hc1 => ?_) (fun hc1 => ?_)
  · replace h := zpos h hc1
    refine zr_mask [true, true, true, true, false, false, false, false, false, false, false] rfl ?_
    obtain rfl := Option.some.inj h
    obtain rfl := hk
    exact hx
  · replace h := zneg h hc1
    refine zr_aload ⟨_, dX12_costOf_52, rfl⟩ rfl ?_
    refine zt_getr dX12_costOf_53 fl_X12_16 rfl rfl ?_
    refine zr_aload ⟨_, dX12_costOf_56, rfl⟩ rfl ?_
    refine zr_load ⟨_, dX12_costOf_57, rfl⟩ rfl ?_
    refine zr_loadw dX12_costOf_58 rfl ?_
    obtain ⟨x2, hx2, h⟩ := zbind h
    refine zt_callisi (t_Rf_at hx2) (zrun_V (rest := [.inr (.inl (some 1))]) dX12_costOf_60 ml_X12_90 rfl rfl (by decide) (by decide) rfl (Nat.le_of_ble_eq_true rfl)) rfl rfl (Nat.le_refl _) (Nat.le_refl _) ?_
    obtain ⟨hb3, h⟩ := zchk h
    refine zt_iaload dX12_costOf_63 rfl hb3 ?_
    refine zr_storew dX12_costOf_64 (by decide) rfl ?_
    refine zr_load ⟨_, dX12_costOf_66, rfl⟩ rfl ?_
    refine zr_if_eq (tgt := 84) dX12_costOf_67 (by decide) (fun hc4 => ?_) (fun hc4 => ?_)
    · replace h := zpos h hc4
      refine zr_iconst dX12_costOf_84 (by decide) ?_
      refine zr_store ⟨_, dX12_costOf_85, rfl⟩ (by decide) rfl ?_
      refine zr_loadw dX12_costOf_86 rfl ?_
      have hj5 : zBT 4 m_X12_costOf TRf r s0 101 [some (.inr (.inl (some 0))), some (.inl c1), some (.inl c2), some (.inl 0), some (.inl x.2.1), some (.inl x.2.2.1), some (.inl ((x.2.2.2.2 1) x2)), none, none, none, none] [.inl (if x.2.1 = 0 then 0 else (if ¬ ((x.2.2.2.2 1) x2) = 0 then 0 else 1))] x.2.2.2 := by
        refine zr_storew dX12_costOf_101 (by decide) rfl ?_
        refine zr_iconst dX12_costOf_103 (by decide) ?_
        refine zr_storew dX12_costOf_104 (by decide) rfl ?_
        obtain ⟨y7, hy7, h⟩ := zbind h
        refine t_Rf_costOf_l106 _ _ _ hy7 ?_
        refine zr_iinc dX12_costOf_300 rfl (by decide) rfl ?_
        refine zr_goto (tgt := 47) dX12_costOf_303 (by decide) ?_
        obtain rfl := Option.some.inj h
        exact hk hx
      refine zr_if_eq (tgt := 100) dX12_costOf_88 (by decide) (fun hc6 => ?_) (fun hc6 => ?_)
      · have hp8 := zif_t hj5 hc6
        refine zr_iconst dX12_costOf_100 (by decide) ?_
        exact hp8
      · have hp9 := zif_f hj5 hc6
        refine zr_loadw dX12_costOf_91 rfl ?_
        refine zr_if_ne (tgt := 100) dX12_costOf_93 (by decide) (fun hc10 => ?_) (fun hc10 => ?_)
        · have hp11 := zif_t hp9 hc10
          refine zr_iconst dX12_costOf_100 (by decide) ?_
          exact hp11
        · have hp12 := zif_f hp9 hc10
          refine zr_iconst dX12_costOf_96 (by decide) ?_
          refine zr_goto (tgt := 101) dX12_costOf_97 (by decide) ?_
          exact hp12
    · replace h := zneg h hc4
      refine zr_aload ⟨_, dX12_costOf_70, rfl⟩ rfl ?_
      refine zr_load ⟨_, dX12_costOf_71, rfl⟩ rfl ?_
      refine zr_loadw dX12_costOf_72 rfl ?_
      obtain ⟨x13, hx13, h⟩ := zbind h
      refine zt_callisi (t_Rf_isLike hx13) (zrun_V (rest := []) dX12_costOf_74 ml_X12_390 rfl rfl (by decide) (by decide) rfl (Nat.le_of_ble_eq_true rfl)) rfl rfl (Nat.le_refl _) (Nat.le_refl _) ?_
      have hj14 : zBT 4 m_X12_costOf TRf r s0 85 [some (.inr (.inl (some 0))), some (.inl c1), some (.inl c2), some (.inl x.1), some (.inl x.2.1), some (.inl x.2.2.1), some (.inl ((x.2.2.2.2 1) x2)), none, none, none, none] [.inl (if x13 = 0 then 0 else 1)] x.2.2.2 := by
        refine zr_store ⟨_, dX12_costOf_85, rfl⟩ (by decide) rfl ?_
        refine zr_loadw dX12_costOf_86 rfl ?_
        have hj16 : zBT 4 m_X12_costOf TRf r s0 101 [some (.inr (.inl (some 0))), some (.inl c1), some (.inl c2), some (.inl (if x13 = 0 then 0 else 1)), some (.inl x.2.1), some (.inl x.2.2.1), some (.inl ((x.2.2.2.2 1) x2)), none, none, none, none] [.inl (if x.2.1 = 0 then 0 else (if ¬ ((x.2.2.2.2 1) x2) = 0 then 0 else 1))] x.2.2.2 := by
          refine zr_storew dX12_costOf_101 (by decide) rfl ?_
          refine zr_iconst dX12_costOf_103 (by decide) ?_
          refine zr_storew dX12_costOf_104 (by decide) rfl ?_
          obtain ⟨y18, hy18, h⟩ := zbind h
          refine t_Rf_costOf_l106 _ _ _ hy18 ?_
          refine zr_iinc dX12_costOf_300 rfl (by decide) rfl ?_
          refine zr_goto (tgt := 47) dX12_costOf_303 (by decide) ?_
          obtain rfl := Option.some.inj h
          exact hk hx
        refine zr_if_eq (tgt := 100) dX12_costOf_88 (by decide) (fun hc17 => ?_) (fun hc17 => ?_)
        · have hp19 := zif_t hj16 hc17
          refine zr_iconst dX12_costOf_100 (by decide) ?_
          exact hp19
        · have hp20 := zif_f hj16 hc17
          refine zr_loadw dX12_costOf_91 rfl ?_
          refine zr_if_ne (tgt := 100) dX12_costOf_93 (by decide) (fun hc21 => ?_) (fun hc21 => ?_)
          · have hp22 := zif_t hp20 hc21
            refine zr_iconst dX12_costOf_100 (by decide) ?_
            exact hp22
          · have hp23 := zif_f hp20 hc21
            refine zr_iconst dX12_costOf_96 (by decide) ?_
            refine zr_goto (tgt := 101) dX12_costOf_97 (by decide) ?_
            exact hp23
      refine zr_if_eq (tgt := 84) dX12_costOf_77 (by decide) (fun hc15 => ?_) (fun hc15 => ?_)
      · have hp24 := zif_t hj14 hc15
        refine zr_iconst dX12_costOf_84 (by decide) ?_
        exact hp24
      · have hp25 := zif_f hj14 hc15
        refine zr_iconst dX12_costOf_80 (by decide) ?_
        refine zr_goto (tgt := 85) dX12_costOf_81 (by decide) ?_
        exact hp25
set_option maxRecDepth 100000 in
set_option maxHeartbeats 4000000 in
theorem t_Rf_costOf_l320 {c1 : Int} {r : Option zAV} {s0 : zSt}  : ∀ (n : Nat) (x : Int × Int × Int × zSt) (out : Int × zSt), zloop (f_Rf_costOf_l320 c1) n x = some out → (zBT 4 m_X12_costOf TRf r s0 379 [none, none, some (.inl out.1), none, none, none, none, none, none, none, none] [] out.2) → zBT 4 m_X12_costOf TRf r s0 320 [some (.inr (.inl (some 0))), some (.inl c1), some (.inl x.1), none, none, some (.inl x.2.1), some (.inl x.2.2.1), none, none, none, none] [] x.2.2.2 := by
  refine zloop_B (B := fun (x : Int × Int × Int × zSt) (out : Int × zSt) => zBT 4 m_X12_costOf TRf r s0 379 [none, none, some (.inl out.1), none, none, none, none, none, none, none, none] [] out.2 → zBT 4 m_X12_costOf TRf r s0 320 [some (.inr (.inl (some 0))), some (.inl c1), some (.inl x.1), none, none, some (.inl x.2.1), some (.inl x.2.2.1), none, none, none, none] [] x.2.2.2) ?_
  intro x o out h hk hx
  unfold f_Rf_costOf_l320 at h
  refine zr_loadw dX12_costOf_320 rfl ?_
  refine zr_if_eq (tgt := 379) dX12_costOf_322 (by decide) (fun hc1 => ?_) (fun hc1 => ?_)
  · replace h := zpos h hc1
    refine zr_mask [false, false, true, false, false, false, false, false, false, false, false] rfl ?_
    obtain rfl := Option.some.inj h
    obtain rfl := hk
    exact hx
  · replace h := zneg h hc1
    refine zr_aload ⟨_, dX12_costOf_325, rfl⟩ rfl ?_
    refine zt_getr dX12_costOf_326 fl_X12_16 rfl rfl ?_
    refine zr_aload ⟨_, dX12_costOf_329, rfl⟩ rfl ?_
    refine zr_load ⟨_, dX12_costOf_330, rfl⟩ rfl ?_
    refine zr_loadw dX12_costOf_331 rfl ?_
    obtain ⟨x2, hx2, h⟩ := zbind h
    refine zt_callisi (t_Rf_at hx2) (zrun_V (rest := [.inr (.inl (some 1))]) dX12_costOf_333 ml_X12_90 rfl rfl (by decide) (by decide) rfl (Nat.le_of_ble_eq_true rfl)) rfl rfl (Nat.le_refl _) (Nat.le_refl _) ?_
    obtain ⟨hb3, h⟩ := zchk h
    refine zt_iaload dX12_costOf_336 rfl hb3 ?_
    refine zr_bipush dX12_costOf_337 (by decide) (by decide) ?_
    refine zr_ic_ne (tgt := 346) dX12_costOf_339 (by decide) (fun hc4 => ?_) (fun hc4 => ?_)
    · replace h := zpos h hc4
      refine zr_load ⟨_, dX12_costOf_346, rfl⟩ rfl ?_
      refine zr_bipush dX12_costOf_347 (by decide) (by decide) ?_
      refine zr_aload ⟨_, dX12_costOf_349, rfl⟩ rfl ?_
      refine zt_getr dX12_costOf_350 fl_X12_67 rfl rfl ?_
      refine zr_bipush dX12_costOf_353 (by decide) (by decide) ?_
      refine zr_loadw dX12_costOf_355 rfl ?_
      refine zr_imul dX12_costOf_357 ?_
      obtain ⟨hb5, h⟩ := zchk h
      refine zt_iaload dX12_costOf_358 rfl hb5 ?_
      refine zr_iadd dX12_costOf_359 ?_
      obtain ⟨x6, hx6, h⟩ := zbind h
      refine zt_call0 (t_Rf_lesser hx6) (zrun_S (rest := []) dX12_costOf_360 ml_X12_170 rfl (by decide) (by decide) rfl (Nat.le_of_ble_eq_true rfl)) rfl rfl (Nat.le_refl _) (Nat.le_refl _) ?_
      refine zr_store ⟨_, dX12_costOf_363, rfl⟩ (by decide) rfl ?_
      refine zr_aload ⟨_, dX12_costOf_364, rfl⟩ rfl ?_
      refine zr_load ⟨_, dX12_costOf_365, rfl⟩ rfl ?_
      refine zr_loadw dX12_costOf_366 rfl ?_
      obtain ⟨x7, hx7, h⟩ := zbind h
      refine zt_callisi (t_Rf_isLike hx7) (zrun_V (rest := []) dX12_costOf_368 ml_X12_390 rfl rfl (by decide) (by decide) rfl (Nat.le_of_ble_eq_true rfl)) rfl rfl (Nat.le_refl _) (Nat.le_refl _) ?_
      refine zr_storew dX12_costOf_371 (by decide) rfl ?_
      refine zr_iinc dX12_costOf_373 rfl (by decide) rfl ?_
      refine zr_goto (tgt := 320) dX12_costOf_376 (by decide) ?_
      obtain rfl := Option.some.inj h
      exact hk hx
    · replace h := zneg h hc4
      refine zr_load ⟨_, dX12_costOf_342, rfl⟩ rfl ?_
      refine zr_goto (tgt := 363) dX12_costOf_343 (by decide) ?_
      refine zr_store ⟨_, dX12_costOf_363, rfl⟩ (by decide) rfl ?_
      refine zr_aload ⟨_, dX12_costOf_364, rfl⟩ rfl ?_
      refine zr_load ⟨_, dX12_costOf_365, rfl⟩ rfl ?_
      refine zr_loadw dX12_costOf_366 rfl ?_
      obtain ⟨x8, hx8, h⟩ := zbind h
      refine zt_callisi (t_Rf_isLike hx8) (zrun_V (rest := []) dX12_costOf_368 ml_X12_390 rfl rfl (by decide) (by decide) rfl (Nat.le_of_ble_eq_true rfl)) rfl rfl (Nat.le_refl _) (Nat.le_refl _) ?_
      refine zr_storew dX12_costOf_371 (by decide) rfl ?_
      refine zr_iinc dX12_costOf_373 rfl (by decide) rfl ?_
      refine zr_goto (tgt := 320) dX12_costOf_376 (by decide) ?_
      obtain rfl := Option.some.inj h
      exact hk hx
set_option maxRecDepth 100000 in
set_option maxHeartbeats 4000000 in
theorem t_Rf_costOf {a1 : Int} {s : zSt} {res : Int × zSt} (h : f_Rf_costOf a1 s = some res) : zSpecT 4 m_X12_costOf [.inr (.inl (some 0)), .inl a1] TRf s (some (.inl res.1)) res.2 := by
  refine zSpec_of (by decide +kernel) (Nat.le_of_ble_eq_true rfl) ?_
  show zBT 4 m_X12_costOf TRf (some (.inl res.1)) res.2 0 [some (.inr (.inl (some 0))), some (.inl a1), none, none, none, none, none, none, none, none, none] [] s
  unfold f_Rf_costOf at h
  refine zr_iconst dX12_costOf_0 (by decide) ?_
  refine zr_store ⟨_, dX12_costOf_1, rfl⟩ (by decide) rfl ?_
  refine zr_iconst dX12_costOf_2 (by decide) ?_
  refine zr_store ⟨_, dX12_costOf_3, rfl⟩ (by decide) rfl ?_
  refine zr_iconst dX12_costOf_4 (by decide) ?_
  refine zr_storew dX12_costOf_5 (by decide) rfl ?_
  refine zr_iconst dX12_costOf_7 (by decide) ?_
  refine zr_storew dX12_costOf_8 (by decide) rfl ?_
  obtain ⟨y1, hy1, h⟩ := zbind h
  refine t_Rf_costOf_l10 _ _ _ hy1 ?_
  refine zr_aload ⟨_, dX12_costOf_39, rfl⟩ rfl ?_
  refine zt_get dX12_costOf_40 fl_X12_13 rfl rfl ?_
  refine zr_iconst dX12_costOf_43 (by decide) ?_
  refine zr_isub dX12_costOf_44 ?_
  refine zr_storew dX12_costOf_45 (by decide) rfl ?_
  obtain ⟨y2, hy2, h⟩ := zbind h
  refine t_Rf_costOf_l47 _ _ _ hy2 ?_
  refine zr_load ⟨_, dX12_costOf_306, rfl⟩ rfl ?_
  refine zr_if_ne (tgt := 379) dX12_costOf_307 (by decide) (fun hc3 => ?_) (fun hc3 => ?_)
  · replace h := zpos h hc3
    refine zr_load ⟨_, dX12_costOf_379, rfl⟩ rfl ?_
    obtain rfl := Option.some.inj h
    exact zt_iret dX12_costOf_380 rfl
  · replace h := zneg h hc3
    refine zr_ldcw dX12_costOf_310 k_X12_396 (by decide) ?_
    refine zr_store ⟨_, dX12_costOf_313, rfl⟩ (by decide) rfl ?_
    refine zr_iconst dX12_costOf_314 (by decide) ?_
    refine zr_storew dX12_costOf_315 (by decide) rfl ?_
    refine zr_iconst dX12_costOf_317 (by decide) ?_
    refine zr_storew dX12_costOf_318 (by decide) rfl ?_
    refine zr_mask [true, true, true, false, false, true, true, false, false, false, false] rfl ?_
    obtain ⟨y4, hy4, h⟩ := zbind h
    refine t_Rf_costOf_l320 _ _ _ hy4 ?_
    refine zr_load ⟨_, dX12_costOf_379, rfl⟩ rfl ?_
    obtain rfl := Option.some.inj h
    exact zt_iret dX12_costOf_380 rfl
set_option maxRecDepth 100000 in
set_option maxHeartbeats 4000000 in
theorem t_Rf_cellAnew {a1 a2 : Int} {s : zSt} {res : Int × zSt} (h : f_Rf_cellAnew a1 a2 s = some res) : zSpecT 4 m_X12_cellAnew [.inr (.inl (some 0)), .inl a1, .inl a2] TRf s (some (.inl res.1)) res.2 := by
  refine zSpec_of (by decide +kernel) (Nat.le_of_ble_eq_true rfl) ?_
  show zBT 4 m_X12_cellAnew TRf (some (.inl res.1)) res.2 0 [some (.inr (.inl (some 0))), some (.inl a1), some (.inl a2)] [] s
  unfold f_Rf_cellAnew at h
  refine zr_aload ⟨_, dX12_cellAnew_0, rfl⟩ rfl ?_
  refine zr_load ⟨_, dX12_cellAnew_1, rfl⟩ rfl ?_
  refine zr_load ⟨_, dX12_cellAnew_2, rfl⟩ rfl ?_
  obtain ⟨x1, hx1, h⟩ := zbind h
  refine zt_callii (t_Rf_cell hx1) (zrun_V (rest := []) dX12_cellAnew_3 ml_X12_400 rfl rfl (by decide) (by decide) rfl (Nat.le_of_ble_eq_true rfl)) rfl rfl (Nat.le_refl _) (Nat.le_refl _) ?_
  obtain rfl := Option.some.inj h
  exact zt_iret dX12_cellAnew_6 rfl
set_option maxRecDepth 100000 in
set_option maxHeartbeats 4000000 in
theorem t_Rf_draws_j232 {v2 : Int} {s : zSt} {res : Int × zSt} (h : f_Rf_draws_j232 v2 s = some res) : zBT 5 m_X12_draws TRf none res.2 232 [some (.inr (.inl (some 0))), none, some (.inl v2), none] [] s := by
  unfold f_Rf_draws_j232 at h
  refine zr_aload ⟨_, dX12_draws_232, rfl⟩ rfl ?_
  refine zr_dup dX12_draws_233 (Or.inl True.intro) ?_
  refine zt_get dX12_draws_234 fl_X12_123 rfl rfl ?_
  refine zr_load ⟨_, dX12_draws_237, rfl⟩ rfl ?_
  refine zr_iadd dX12_draws_238 ?_
  refine zt_put dX12_draws_239 fl_X12_123 rfl rfl ?_
  refine zr_aload ⟨_, dX12_draws_242, rfl⟩ rfl ?_
  refine zt_get dX12_draws_243 fl_X12_123 rfl rfl ?_
  refine zr_aload ⟨_, dX12_draws_246, rfl⟩ rfl ?_
  refine zt_get dX12_draws_247 fl_X12_13 rfl rfl ?_
  refine zr_iconst dX12_draws_250 (by decide) ?_
  refine zr_isub dX12_draws_251 ?_
  refine zr_ic_le (tgt := 273) dX12_draws_252 (by decide) (fun hc1 => ?_) (fun hc1 => ?_)
  · replace h := zpos h hc1
    obtain rfl := Option.some.inj h
    exact zt_vret dX12_draws_273 rfl
  · replace h := zneg h hc1
    refine zr_aload ⟨_, dX12_draws_255, rfl⟩ rfl ?_
    refine zr_aload ⟨_, dX12_draws_256, rfl⟩ rfl ?_
    refine zt_get dX12_draws_257 fl_X12_13 rfl rfl ?_
    refine zr_iconst dX12_draws_260 (by decide) ?_
    refine zr_isub dX12_draws_261 ?_
    refine zt_put dX12_draws_262 fl_X12_123 rfl rfl ?_
    refine zr_aload ⟨_, dX12_draws_265, rfl⟩ rfl ?_
    refine zr_aload ⟨_, dX12_draws_266, rfl⟩ rfl ?_
    refine zt_get dX12_draws_267 fl_X12_33 rfl rfl ?_
    obtain ⟨hb2, h⟩ := zchk h
    refine zt_putz dX12_draws_270 fl_X12_126 rfl rfl hb2 ?_
    obtain rfl := Option.some.inj h
    exact zt_vret dX12_draws_273 rfl
set_option maxRecDepth 100000 in
set_option maxHeartbeats 4000000 in
theorem t_Rf_draws_j153 {v1 v2 : Int} {s : zSt} {res : Int × zSt} (h : f_Rf_draws_j153 v1 v2 s = some res) : zBT 5 m_X12_draws TRf none res.2 153 [some (.inr (.inl (some 0))), some (.inl v1), some (.inl v2), none] [] s := by
  unfold f_Rf_draws_j153 at h
  refine zr_aload ⟨_, dX12_draws_153, rfl⟩ rfl ?_
  refine zr_aload ⟨_, dX12_draws_154, rfl⟩ rfl ?_
  refine zt_get dX12_draws_155 fl_X12_113 rfl rfl ?_
  refine zr_aload ⟨_, dX12_draws_158, rfl⟩ rfl ?_
  refine zt_get dX12_draws_159 fl_X12_123 rfl rfl ?_
  obtain ⟨x1, hx1, h⟩ := zbind h
  refine zt_calliv (t_Rf_parts hx1) (zrun_V (rest := []) dX12_draws_162 ml_X12_94 rfl rfl (by decide) (by decide) rfl (Nat.le_of_ble_eq_true rfl)) rfl rfl (Nat.le_refl _) (Nat.le_refl _) ?_
  refine zr_aload ⟨_, dX12_draws_165, rfl⟩ rfl ?_
  refine zr_aload ⟨_, dX12_draws_166, rfl⟩ rfl ?_
  refine zt_get dX12_draws_167 fl_X12_113 rfl rfl ?_
  refine zr_aload ⟨_, dX12_draws_170, rfl⟩ rfl ?_
  refine zt_get dX12_draws_171 fl_X12_123 rfl rfl ?_
  refine zr_load ⟨_, dX12_draws_174, rfl⟩ rfl ?_
  refine zr_iadd dX12_draws_175 ?_
  obtain ⟨x2, hx2, h⟩ := zbind h
  refine zt_calliv (t_Rf_parts hx2) (zrun_V (rest := []) dX12_draws_176 ml_X12_94 rfl rfl (by decide) (by decide) rfl (Nat.le_of_ble_eq_true rfl)) rfl rfl (Nat.le_refl _) (Nat.le_refl _) ?_
  refine zr_aload ⟨_, dX12_draws_179, rfl⟩ rfl ?_
  refine zt_getr dX12_draws_180 fl_X12_16 rfl rfl ?_
  refine zr_aload ⟨_, dX12_draws_183, rfl⟩ rfl ?_
  refine zr_aload ⟨_, dX12_draws_184, rfl⟩ rfl ?_
  refine zt_get dX12_draws_185 fl_X12_113 rfl rfl ?_
  refine zr_aload ⟨_, dX12_draws_188, rfl⟩ rfl ?_
  refine zt_get dX12_draws_189 fl_X12_123 rfl rfl ?_
  obtain ⟨x3, hx3, h⟩ := zbind h
  refine zt_callisi (t_Rf_at hx3) (zrun_V (rest := [.inr (.inl (some 1))]) dX12_draws_192 ml_X12_90 rfl rfl (by decide) (by decide) rfl (Nat.le_of_ble_eq_true rfl)) rfl rfl (Nat.le_refl _) (Nat.le_refl _) ?_
  refine zr_load ⟨_, dX12_draws_195, rfl⟩ rfl ?_
  refine zr_sipush dX12_draws_196 (by decide) (by decide) ?_
  refine zr_aload ⟨_, dX12_draws_199, rfl⟩ rfl ?_
  refine zt_get dX12_draws_200 fl_X12_142 rfl rfl ?_
  refine zr_imul dX12_draws_203 ?_
  refine zr_iadd dX12_draws_204 ?_
  obtain ⟨hb4, h⟩ := zchk h
  refine zt_iastore dX12_draws_205 rfl hb4 ?_
  refine zr_load ⟨_, dX12_draws_206, rfl⟩ rfl ?_
  refine zr_iconst dX12_draws_207 (by decide) ?_
  refine zr_ic_ne (tgt := 232) dX12_draws_208 (by decide) (fun hc5 => ?_) (fun hc5 => ?_)
  · replace h := zpos h hc5
    refine zr_mask [true, false, true, false] rfl ?_
    exact t_Rf_draws_j232 h
  · replace h := zneg h hc5
    refine zr_aload ⟨_, dX12_draws_211, rfl⟩ rfl ?_
    refine zt_getr dX12_draws_212 fl_X12_16 rfl rfl ?_
    refine zr_aload ⟨_, dX12_draws_215, rfl⟩ rfl ?_
    refine zr_aload ⟨_, dX12_draws_216, rfl⟩ rfl ?_
    refine zt_get dX12_draws_217 fl_X12_113 rfl rfl ?_
    refine zr_aload ⟨_, dX12_draws_220, rfl⟩ rfl ?_
    refine zt_get dX12_draws_221 fl_X12_123 rfl rfl ?_
    refine zr_iconst dX12_draws_224 (by decide) ?_
    refine zr_iadd dX12_draws_225 ?_
    obtain ⟨x6, hx6, h⟩ := zbind h
    refine zt_callisi (t_Rf_at hx6) (zrun_V (rest := [.inr (.inl (some 1))]) dX12_draws_226 ml_X12_90 rfl rfl (by decide) (by decide) rfl (Nat.le_of_ble_eq_true rfl)) rfl rfl (Nat.le_refl _) (Nat.le_refl _) ?_
    refine zr_bipush dX12_draws_229 (by decide) (by decide) ?_
    obtain ⟨hb7, h⟩ := zchk h
    refine zt_iastore dX12_draws_231 rfl hb7 ?_
    refine zr_mask [true, false, true, false] rfl ?_
    exact t_Rf_draws_j232 h
set_option maxRecDepth 100000 in
set_option maxHeartbeats 4000000 in
theorem t_Rf_draws_j128 {v1 v2 : Int} {s : zSt} {res : Int × zSt} (h : f_Rf_draws_j128 v1 v2 s = some res) : zBT 5 m_X12_draws TRf none res.2 128 [some (.inr (.inl (some 0))), some (.inl v1), some (.inl v2), none] [] s := by
  unfold f_Rf_draws_j128 at h
  refine zr_aload ⟨_, dX12_draws_128, rfl⟩ rfl ?_
  refine zr_iconst dX12_draws_129 (by decide) ?_
  refine zt_putz dX12_draws_130 fl_X12_126 rfl rfl (Or.inl rfl) ?_
  refine zr_aload ⟨_, dX12_draws_133, rfl⟩ rfl ?_
  refine zt_get dX12_draws_134 fl_X12_136 rfl rfl ?_
  refine zr_if_eq (tgt := 153) dX12_draws_137 (by decide) (fun hc1 => ?_) (fun hc1 => ?_)
  · replace h := zpos h hc1
    exact t_Rf_draws_j153 h
  · replace h := zneg h hc1
    refine zr_aload ⟨_, dX12_draws_140, rfl⟩ rfl ?_
    refine zr_aload ⟨_, dX12_draws_141, rfl⟩ rfl ?_
    refine zt_get dX12_draws_142 fl_X12_113 rfl rfl ?_
    refine zr_aload ⟨_, dX12_draws_145, rfl⟩ rfl ?_
    refine zt_get dX12_draws_146 fl_X12_123 rfl rfl ?_
    refine zr_load ⟨_, dX12_draws_149, rfl⟩ rfl ?_
    obtain ⟨x2, hx2, h⟩ := zbind h
    refine zt_calliv (t_Rf_movesRight hx2) (zrun_V (rest := []) dX12_draws_150 ml_X12_139 rfl rfl (by decide) (by decide) rfl (Nat.le_of_ble_eq_true rfl)) rfl rfl (Nat.le_refl _) (Nat.le_refl _) ?_
    exact t_Rf_draws_j153 h
set_option maxRecDepth 100000 in
set_option maxHeartbeats 4000000 in
theorem t_Rf_draws_j114 {v1 v2 v3 : Int} {s : zSt} {res : Int × zSt} (h : f_Rf_draws_j114 v1 v2 v3 s = some res) : zBT 5 m_X12_draws TRf none res.2 114 [some (.inr (.inl (some 0))), some (.inl v1), some (.inl v2), some (.inl v3)] [] s := by
  unfold f_Rf_draws_j114 at h
  refine zr_load ⟨_, dX12_draws_114, rfl⟩ rfl ?_
  refine zr_if_eq (tgt := 128) dX12_draws_115 (by decide) (fun hc1 => ?_) (fun hc1 => ?_)
  · replace h := zpos h hc1
    refine zr_mask [true, true, true, false] rfl ?_
    exact t_Rf_draws_j128 h
  · replace h := zneg h hc1
    refine zr_aload ⟨_, dX12_draws_118, rfl⟩ rfl ?_
    refine zr_aload ⟨_, dX12_draws_119, rfl⟩ rfl ?_
    refine zt_get dX12_draws_120 fl_X12_13 rfl rfl ?_
    refine zr_iconst dX12_draws_123 (by decide) ?_
    refine zr_isub dX12_draws_124 ?_
    refine zt_put dX12_draws_125 fl_X12_123 rfl rfl ?_
    refine zr_mask [true, true, true, false] rfl ?_
    exact t_Rf_draws_j128 h
set_option maxRecDepth 100000 in
set_option maxHeartbeats 4000000 in
theorem t_Rf_draws_j84 {v1 v2 : Int} {s : zSt} {res : Int × zSt} (h : f_Rf_draws_j84 v1 v2 s = some res) : zBT 5 m_X12_draws TRf none res.2 84 [some (.inr (.inl (some 0))), some (.inl v1), some (.inl v2), none] [] s := by
  unfold f_Rf_draws_j84 at h
  refine zr_aload ⟨_, dX12_draws_84, rfl⟩ rfl ?_
  refine zt_getr dX12_draws_85 fl_X12_20 rfl rfl ?_
  refine zr_bipush dX12_draws_88 (by decide) (by decide) ?_
  refine zr_aload ⟨_, dX12_draws_90, rfl⟩ rfl ?_
  refine zt_get dX12_draws_91 fl_X12_87 rfl rfl ?_
  refine zr_imul dX12_draws_94 ?_
  refine zr_aload ⟨_, dX12_draws_95, rfl⟩ rfl ?_
  refine zt_get dX12_draws_96 fl_X12_113 rfl rfl ?_
  refine zr_iadd dX12_draws_99 ?_
  refine zr_iconst dX12_draws_100 (by decide) ?_
  obtain ⟨hb1, h⟩ := zchk h
  refine zt_bastore dX12_draws_101 rfl hb1 (Or.inr rfl) ?_
  refine zr_aload ⟨_, dX12_draws_102, rfl⟩ rfl ?_
  obtain ⟨x2, hx2, h⟩ := zbind h
  refine zt_calliv (t_Rf_feeds hx2) (zrun_V (rest := []) dX12_draws_103 ml_X12_133 rfl rfl (by decide) (by decide) rfl (Nat.le_of_ble_eq_true rfl)) rfl rfl (Nat.le_refl _) (Nat.le_refl _) ?_
  refine zr_aload ⟨_, dX12_draws_106, rfl⟩ rfl ?_
  refine zr_iconst dX12_draws_107 (by decide) ?_
  refine zt_put dX12_draws_108 fl_X12_123 rfl rfl ?_
  refine zr_goto (tgt := 128) dX12_draws_111 (by decide) ?_
  exact t_Rf_draws_j128 h
set_option maxRecDepth 100000 in
set_option maxHeartbeats 4000000 in
theorem t_Rf_draws_j59 {v1 v2 : Int} {s : zSt} {res : Int × zSt} (h : f_Rf_draws_j59 v1 v2 s = some res) : zBT 5 m_X12_draws TRf none res.2 59 [some (.inr (.inl (some 0))), some (.inl v1), some (.inl v2), none] [] s := by
  unfold f_Rf_draws_j59 at h
  refine zr_aload ⟨_, dX12_draws_59, rfl⟩ rfl ?_
  refine zt_get dX12_draws_60 fl_X12_126 rfl rfl ?_
  refine zr_if_ne (tgt := 84) dX12_draws_63 (by decide) (fun hc1 => ?_) (fun hc1 => ?_)
  · replace h := zpos h hc1
    exact t_Rf_draws_j84 h
  · replace h := zneg h hc1
    refine zr_aload ⟨_, dX12_draws_66, rfl⟩ rfl ?_
    refine zr_aload ⟨_, dX12_draws_67, rfl⟩ rfl ?_
    refine zt_get dX12_draws_68 fl_X12_113 rfl rfl ?_
    refine zr_aload ⟨_, dX12_draws_71, rfl⟩ rfl ?_
    refine zt_get dX12_draws_72 fl_X12_13 rfl rfl ?_
    refine zr_iconst dX12_draws_75 (by decide) ?_
    refine zr_isub dX12_draws_76 ?_
    refine zr_aload ⟨_, dX12_draws_77, rfl⟩ rfl ?_
    refine zt_get dX12_draws_78 fl_X12_13 rfl rfl ?_
    obtain ⟨x2, hx2, h⟩ := zbind h
    refine zt_calliv (t_Rf_erases hx2) (zrun_V (rest := []) dX12_draws_81 ml_X12_129 rfl rfl (by decide) (by decide) rfl (Nat.le_of_ble_eq_true rfl)) rfl rfl (Nat.le_refl _) (Nat.le_refl _) ?_
    exact t_Rf_draws_j84 h
set_option maxRecDepth 100000 in
set_option maxHeartbeats 4000000 in
theorem t_Rf_draws {a1 : Int} {s : zSt} {res : Int × zSt} (h : f_Rf_draws a1 s = some res) : zSpecT 5 m_X12_draws [.inr (.inl (some 0)), .inl a1] TRf s none res.2 := by
  refine zSpec_of (by decide +kernel) (Nat.le_of_ble_eq_true rfl) ?_
  show zBT 5 m_X12_draws TRf none res.2 0 [some (.inr (.inl (some 0))), some (.inl a1), none, none] [] s
  unfold f_Rf_draws at h
  refine zr_load ⟨_, dX12_draws_0, rfl⟩ rfl ?_
  refine zr_bipush dX12_draws_1 (by decide) (by decide) ?_
  refine zr_bipush dX12_draws_3 (by decide) (by decide) ?_
  obtain ⟨x1, hx1, h⟩ := zbind h
  refine zt_call0 (t_Rf_in hx1) (zrun_S (rest := []) dX12_draws_5 ml_X12_83 rfl (by decide) (by decide) rfl (Nat.le_of_ble_eq_true rfl)) rfl rfl (Nat.le_refl _) (Nat.le_refl _) ?_
  have hj2 : zBT 5 m_X12_draws TRf none res.2 16 [some (.inr (.inl (some 0))), some (.inl a1), none, none] [.inl (if x1 = 0 then 1 else 2)] s := by
    refine zr_store ⟨_, dX12_draws_16, rfl⟩ (by decide) rfl ?_
    refine zr_load ⟨_, dX12_draws_17, rfl⟩ rfl ?_
    refine zr_iconst dX12_draws_18 (by decide) ?_
    have hj4 : zBT 5 m_X12_draws TRf none res.2 40 [some (.inr (.inl (some 0))), some (.inl a1), some (.inl (if x1 = 0 then 1 else 2)), none] [.inl (if ¬ ((if x1 = 0 then 1 else 2) : Int) = 2 then 0 else (if ¬ (s.1 0 10) = (w32 ((s.1 0 2) - 1)) then 0 else 1))] s := by
      refine zr_store ⟨_, dX12_draws_40, rfl⟩ (by decide) rfl ?_
      refine zr_aload ⟨_, dX12_draws_41, rfl⟩ rfl ?_
      refine zt_get dX12_draws_42 fl_X12_33 rfl rfl ?_
      refine zr_if_eq (tgt := 114) dX12_draws_45 (by decide) (fun hc6 => ?_) (fun hc6 => ?_)
      · replace h := zpos h hc6
        exact t_Rf_draws_j114 h
      · replace h := zneg h hc6
        refine zr_aload ⟨_, dX12_draws_48, rfl⟩ rfl ?_
        refine zt_get dX12_draws_49 fl_X12_126 rfl rfl ?_
        refine zr_if_ne (tgt := 59) dX12_draws_52 (by decide) (fun hc7 => ?_) (fun hc7 => ?_)
        · replace h := zpos h hc7
          refine zr_mask [true, true, true, false] rfl ?_
          exact t_Rf_draws_j59 h
        · replace h := zneg h hc7
          refine zr_load ⟨_, dX12_draws_55, rfl⟩ rfl ?_
          refine zr_if_eq (tgt := 114) dX12_draws_56 (by decide) (fun hc8 => ?_) (fun hc8 => ?_)
          · replace h := zpos h hc8
            exact t_Rf_draws_j114 h
          · replace h := zneg h hc8
            refine zr_mask [true, true, true, false] rfl ?_
            exact t_Rf_draws_j59 h
    refine zr_ic_ne (tgt := 39) dX12_draws_19 (by decide) (fun hc5 => ?_) (fun hc5 => ?_)
    · have hp9 := zif_t hj4 hc5
      refine zr_iconst dX12_draws_39 (by decide) ?_
      exact hp9
    · have hp10 := zif_f hj4 hc5
      refine zr_aload ⟨_, dX12_draws_22, rfl⟩ rfl ?_
      refine zt_get dX12_draws_23 fl_X12_123 rfl rfl ?_
      refine zr_aload ⟨_, dX12_draws_26, rfl⟩ rfl ?_
      refine zt_get dX12_draws_27 fl_X12_13 rfl rfl ?_
      refine zr_iconst dX12_draws_30 (by decide) ?_
      refine zr_isub dX12_draws_31 ?_
      refine zr_ic_ne (tgt := 39) dX12_draws_32 (by decide) (fun hc11 => ?_) (fun hc11 => ?_)
      · have hp12 := zif_t hp10 hc11
        refine zr_iconst dX12_draws_39 (by decide) ?_
        exact hp12
      · have hp13 := zif_f hp10 hc11
        refine zr_iconst dX12_draws_35 (by decide) ?_
        refine zr_goto (tgt := 40) dX12_draws_36 (by decide) ?_
        exact hp13
  refine zr_if_eq (tgt := 15) dX12_draws_8 (by decide) (fun hc3 => ?_) (fun hc3 => ?_)
  · have hp14 := zif_t hj2 hc3
    refine zr_iconst dX12_draws_15 (by decide) ?_
    exact hp14
  · have hp15 := zif_f hj2 hc3
    refine zr_iconst dX12_draws_11 (by decide) ?_
    refine zr_goto (tgt := 16) dX12_draws_12 (by decide) ?_
    exact hp15
