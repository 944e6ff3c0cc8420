set_option maxRecDepth 100000 in
set_option maxHeartbeats 4000000 in
theorem t_Sl_isLikeAt {a1 : Int} {s : zSt} {res : Int} (h : f_Sl_isLikeAt a1 s = some res) : zSpecT 1 m_X9_isLikeAt [.inr (.inl (some 0)), .inl a1] TSl s (some (.inl res)) s := by
  refine zSpec_of (by decide +kernel) (Nat.le_of_ble_eq_true rfl) ?_
  show zBT 1 m_X9_isLikeAt TSl (some (.inl res)) s 0 [some (.inr (.inl (some 0))), some (.inl a1)] [] s
  unfold f_Sl_isLikeAt at h
  refine zr_load ⟨_, dX9_isLikeAt_0, rfl⟩ rfl ?_
  refine zr_if_lt (tgt := 23) dX9_isLikeAt_1 (by decide) (fun hc1 => ?_) (fun hc1 => ?_)
  · replace h := zpos h hc1
    refine zr_iconst dX9_isLikeAt_23 (by decide) ?_
    obtain rfl := Option.some.inj h
    exact zt_zret dX9_isLikeAt_24 rfl (Or.inl rfl)
  · replace h := zneg h hc1
    refine zr_load ⟨_, dX9_isLikeAt_4, rfl⟩ rfl ?_
    refine zr_bipush dX9_isLikeAt_5 (by decide) (by decide) ?_
    refine zr_ic_ge (tgt := 23) dX9_isLikeAt_7 (by decide) (fun hc2 => ?_) (fun hc2 => ?_)
    · replace h := zpos h hc2
      refine zr_iconst dX9_isLikeAt_23 (by decide) ?_
      obtain rfl := Option.some.inj h
      exact zt_zret dX9_isLikeAt_24 rfl (Or.inl rfl)
    · replace h := zneg h hc2
      refine zr_aload ⟨_, dX9_isLikeAt_10, rfl⟩ rfl ?_
      refine zt_getr dX9_isLikeAt_11 fl_X9_22 rfl rfl ?_
      refine zr_load ⟨_, dX9_isLikeAt_14, rfl⟩ rfl ?_
      obtain ⟨hb3, h⟩ := zchk h
      refine zt_baload dX9_isLikeAt_15 rfl hb3 ?_
      have hj4 : zBT 1 m_X9_isLikeAt TSl (some (.inl res)) s 24 [some (.inr (.inl (some 0))), some (.inl a1)] [.inl (if ((s.2 5) a1) = 0 then 0 else 1)] s := by
        obtain rfl := Option.some.inj h
        exact zt_zret dX9_isLikeAt_24 rfl (z01i (Or.inl rfl) (Or.inr rfl))
      refine zr_if_eq (tgt := 23) dX9_isLikeAt_16 (by decide) (fun hc5 => ?_) (fun hc5 => ?_)
      · have hp6 := zif_t hj4 hc5
        refine zr_iconst dX9_isLikeAt_23 (by decide) ?_
        exact hp6
      · have hp7 := zif_f hj4 hc5
        refine zr_iconst dX9_isLikeAt_19 (by decide) ?_
        refine zr_goto (tgt := 24) dX9_isLikeAt_20 (by decide) ?_
        exact hp7
set_option maxRecDepth 100000 in
set_option maxHeartbeats 4000000 in
theorem t_Sl_keepCosts {a1 a2 a3 : Int} {s : zSt} {res : Int × zSt} (h : f_Sl_keepCosts a1 a2 a3 s = some res) : zSpecT 1 m_X9_keepCosts [.inr (.inl (some 0)), .inl a1, .inl a2, .inl a3] TSl s none res.2 := by
  refine zSpec_of (by decide +kernel) (Nat.le_of_ble_eq_true rfl) ?_
  show zBT 1 m_X9_keepCosts TSl none res.2 0 [some (.inr (.inl (some 0))), some (.inl a1), some (.inl a2), some (.inl a3), none] [] s
  unfold f_Sl_keepCosts at h
  refine zr_load ⟨_, dX9_keepCosts_0, rfl⟩ rfl ?_
  refine zr_bipush dX9_keepCosts_1 (by decide) (by decide) ?_
  refine zr_imul dX9_keepCosts_3 ?_
  refine zr_load ⟨_, dX9_keepCosts_4, rfl⟩ rfl ?_
  refine zr_iadd dX9_keepCosts_5 ?_
  refine zr_storew dX9_keepCosts_6 (by decide) rfl ?_
  refine zr_loadw dX9_keepCosts_8 rfl ?_
  refine zr_if_lt (tgt := 31) dX9_keepCosts_10 (by decide) (fun hc1 => ?_) (fun hc1 => ?_)
  · replace h := zpos h hc1
    obtain rfl := Option.some.inj h
    exact zt_vret dX9_keepCosts_31 rfl
  · replace h := zneg h hc1
    refine zr_loadw dX9_keepCosts_13 rfl ?_
    refine zr_aload ⟨_, dX9_keepCosts_15, rfl⟩ rfl ?_
    refine zt_getr dX9_keepCosts_16 fl_X9_18 rfl rfl ?_
    obtain ⟨hb2, h⟩ := zchk h
    refine zt_alen dX9_keepCosts_19 rfl (by decide) hb2 ?_
    refine zr_ic_ge (tgt := 31) dX9_keepCosts_20 (by decide) (fun hc3 => ?_) (fun hc3 => ?_)
    · replace h := zpos h hc3
      obtain rfl := Option.some.inj h
      exact zt_vret dX9_keepCosts_31 rfl
    · replace h := zneg h hc3
      refine zr_aload ⟨_, dX9_keepCosts_23, rfl⟩ rfl ?_
      refine zt_getr dX9_keepCosts_24 fl_X9_18 rfl rfl ?_
      refine zr_loadw dX9_keepCosts_27 rfl ?_
      refine zr_load ⟨_, dX9_keepCosts_29, rfl⟩ rfl ?_
      obtain ⟨hb4, h⟩ := zchk h
      refine zt_iastore dX9_keepCosts_30 rfl hb4 ?_
      obtain rfl := Option.some.inj h
      exact zt_vret dX9_keepCosts_31 rfl
set_option maxRecDepth 100000 in
set_option maxHeartbeats 4000000 in
theorem t_Sl_costsFrom {a1 a2 : Int} {s : zSt} {res : Int} (h : f_Sl_costsFrom a1 a2 s = some res) : zSpecT 1 m_X9_costsFrom [.inr (.inl (some 0)), .inl a1, .inl a2] TSl s (some (.inl res)) s := by
  refine zSpec_of (by decide +kernel) (Nat.le_of_ble_eq_true rfl) ?_
  show zBT 1 m_X9_costsFrom TSl (some (.inl res)) s 0 [some (.inr (.inl (some 0))), some (.inl a1), some (.inl a2), none] [] s
  unfold f_Sl_costsFrom at h
  refine zr_load ⟨_, dX9_costsFrom_0, rfl⟩ rfl ?_
  refine zr_bipush dX9_costsFrom_1 (by decide) (by decide) ?_
  refine zr_imul dX9_costsFrom_3 ?_
  refine zr_load ⟨_, dX9_costsFrom_4, rfl⟩ rfl ?_
  refine zr_iadd dX9_costsFrom_5 ?_
  refine zr_store ⟨_, dX9_costsFrom_6, rfl⟩ (by decide) rfl ?_
  refine zr_load ⟨_, dX9_costsFrom_7, rfl⟩ rfl ?_
  refine zr_if_lt (tgt := 29) dX9_costsFrom_8 (by decide) (fun hc1 => ?_) (fun hc1 => ?_)
  · replace h := zpos h hc1
    refine zr_ldc dX9_costsFrom_29 k_X9_42 (by decide) ?_
    obtain rfl := Option.some.inj h
    exact zt_iret dX9_costsFrom_31 rfl
  · replace h := zneg h hc1
    refine zr_load ⟨_, dX9_costsFrom_11, rfl⟩ rfl ?_
    refine zr_aload ⟨_, dX9_costsFrom_12, rfl⟩ rfl ?_
    refine zt_getr dX9_costsFrom_13 fl_X9_18 rfl rfl ?_
    obtain ⟨hb2, h⟩ := zchk h
    refine zt_alen dX9_costsFrom_16 rfl (by decide) hb2 ?_
    refine zr_ic_ge (tgt := 29) dX9_costsFrom_17 (by decide) (fun hc3 => ?_) (fun hc3 => ?_)
    · replace h := zpos h hc3
      refine zr_ldc dX9_costsFrom_29 k_X9_42 (by decide) ?_
      obtain rfl := Option.some.inj h
      exact zt_iret dX9_costsFrom_31 rfl
    · replace h := zneg h hc3
      refine zr_aload ⟨_, dX9_costsFrom_20, rfl⟩ rfl ?_
      refine zt_getr dX9_costsFrom_21 fl_X9_18 rfl rfl ?_
      refine zr_load ⟨_, dX9_costsFrom_24, rfl⟩ rfl ?_
      obtain ⟨hb4, h⟩ := zchk h
      refine zt_iaload dX9_costsFrom_25 rfl hb4 ?_
      refine zr_goto (tgt := 31) dX9_costsFrom_26 (by decide) ?_
      obtain rfl := Option.some.inj h
      exact zt_iret dX9_costsFrom_31 rfl
set_option maxRecDepth 100000 in
set_option maxHeartbeats 4000000 in
theorem t_Sl_compare_l5 {c2 : Int} {r : Option zAV} {s0 : zSt}  : ∀ (n : Nat) (x : Int × Int × zSt) (out : Int × zSt), zloop (f_Sl_compare_l5 c2) n x = some out → (zBT 2 m_X9_compare TSlPi r s0 78 [none, none, none, some (.inl out.1), none] [] out.2) → zBT 2 m_X9_compare TSlPi r s0 5 [some (.inr (.inl (some 0))), some (.inr (.inl (some 6))), some (.inl c2), some (.inl x.1), some (.inl x.2.1)] [] x.2.2 := by
  refine zloop_B (B := fun (x : Int × Int × zSt) (out : Int × zSt) => zBT 2 m_X9_compare TSlPi r s0 78 [none, none, none, some (.inl out.1), none] [] out.2 → zBT 2 m_X9_compare TSlPi r s0 5 [some (.inr (.inl (some 0))), some (.inr (.inl (some 6))), some (.inl c2), some (.inl x.1), some (.inl x.2.1)] [] x.2.2) ?_
  intro x o out h hk hx
  unfold f_Sl_compare_l5 at h
  refine zr_loadw dX9_compare_5 rfl ?_
  refine zr_aload ⟨_, dX9_compare_7, rfl⟩ rfl ?_
  obtain ⟨x1, hx1, h⟩ := zbind h
  refine zt_callis (t_Pi_columns hx1) (zrun_V (rest := [.inl x.2.1]) dX9_compare_8 ml_X9_30 rfl rfl (by decide) (by decide) rfl (Nat.le_of_ble_eq_true rfl)) rfl rfl sb_TSlPi_TPi_6 (Nat.le_refl _) (Nat.le_refl _) ?_
  refine zr_ic_ge (tgt := 78) dX9_compare_11 (by decide) (fun hc2 => ?_) (fun hc2 => ?_)
  · replace h := zpos h hc2
    refine zr_mask [false, false, false, true, false] rfl ?_
    obtain rfl := Option.some.inj h
    obtain rfl := hk
    exact hx
  · replace h := zneg h hc2
    refine zr_loadw dX9_compare_14 rfl ?_
    refine zr_bipush dX9_compare_16 (by decide) (by decide) ?_
    refine zr_ic_ge (tgt := 78) dX9_compare_18 (by decide) (fun hc3 => ?_) (fun hc3 => ?_)
    · replace h := zpos h hc3
      refine zr_mask [false, false, false, true, false] rfl ?_
      obtain rfl := Option.some.inj h
      obtain rfl := hk
      exact hx
    · replace h := zneg h hc3
      refine zr_aload ⟨_, dX9_compare_21, rfl⟩ rfl ?_
      refine zt_getr dX9_compare_22 fl_X9_22 rfl rfl ?_
      refine zr_loadw dX9_compare_25 rfl ?_
      refine zr_aload ⟨_, dX9_compare_27, rfl⟩ rfl ?_
      refine zr_load ⟨_, dX9_compare_28, rfl⟩ rfl ?_
      refine zr_loadw dX9_compare_29 rfl ?_
      obtain ⟨x4, hx4, h⟩ := zbind h
      refine zt_callis (t_Pi_at hx4) (zrun_V (rest := [.inl x.2.1, .inr (.inl (some 5))]) dX9_compare_31 ml_X9_43 rfl rfl (by decide) (by decide) rfl (Nat.le_of_ble_eq_true rfl)) rfl rfl sb_TSlPi_TPi_6 (Nat.le_refl _) (Nat.le_refl _) ?_
      refine zr_aload ⟨_, dX9_compare_34, rfl⟩ rfl ?_
      refine zt_getr dX9_compare_35 fl_X9_12 rfl rfl ?_
      refine zr_load ⟨_, dX9_compare_38, rfl⟩ rfl ?_
      refine zr_loadw dX9_compare_39 rfl ?_
      obtain ⟨x5, hx5, h⟩ := zbind h
      refine zt_callis (t_Pi_at hx5) (zrun_V (rest := [.inl x4, .inl x.2.1, .inr (.inl (some 5))]) dX9_compare_41 ml_X9_43 rfl rfl (by decide) (by decide) rfl (Nat.le_of_ble_eq_true rfl)) rfl rfl sb_TSlPi_TPi_1 (Nat.le_refl _) (Nat.le_refl _) ?_
      have hj6 : zBT 2 m_X9_compare TSlPi r s0 52 [some (.inr (.inl (some 0))), some (.inr (.inl (some 6))), some (.inl c2), some (.inl x.1), some (.inl x.2.1)] [.inl (if ¬ x4 = x5 then 0 else 1), .inl x.2.1, .inr (.inl (some 5))] x.2.2 := by
        obtain ⟨hb8, h⟩ := zchk h
        refine zt_bastore dX9_compare_52 rfl hb8 (z01i (Or.inl rfl) (Or.inr rfl)) ?_
        refine zr_aload ⟨_, dX9_compare_53, rfl⟩ rfl ?_
        refine zt_getr dX9_compare_54 fl_X9_22 rfl rfl ?_
        refine zr_loadw dX9_compare_57 rfl ?_
        obtain ⟨hb9, h⟩ := zchk h
        refine zt_baload dX9_compare_59 rfl hb9 ?_
        have hj10 : zBT 2 m_X9_compare TSlPi r s0 71 [some (.inr (.inl (some 0))), some (.inr (.inl (some 6))), some (.inl c2), some (.inl x.1), some (.inl x.2.1)] [.inl (if ((zup (x.2.2.2 5) x.2.1 (if ¬ x4 = x5 then 0 else 1)) x.2.1) = 0 then (w32 (x.2.1 + 1)) else x.1)] (uE x.2.2 5 x.2.1 (if ¬ x4 = x5 then 0 else 1)) := by
          refine zr_store ⟨_, dX9_compare_71, rfl⟩ (by decide) rfl ?_
          refine zr_iinc dX9_compare_72 rfl (by decide) rfl ?_
          refine zr_goto (tgt := 5) dX9_compare_75 (by decide) ?_
          obtain rfl := Option.some.inj h
          exact hk hx
        refine zr_if_eq (tgt := 67) dX9_compare_60 (by decide) (fun hc11 => ?_) (fun hc11 => ?_)
        · have hp12 := zif_t hj10 hc11
          refine zr_loadw dX9_compare_67 rfl ?_
          refine zr_iconst dX9_compare_69 (by decide) ?_
          refine zr_iadd dX9_compare_70 ?_
          exact hp12
        · have hp13 := zif_f hj10 hc11
          refine zr_load ⟨_, dX9_compare_63, rfl⟩ rfl ?_
          refine zr_goto (tgt := 71) dX9_compare_64 (by decide) ?_
          exact hp13
      refine zr_ic_ne (tgt := 51) dX9_compare_44 (by decide) (fun hc7 => ?_) (fun hc7 => ?_)
      · have hp14 := zif_t hj6 hc7
        refine zr_iconst dX9_compare_51 (by decide) ?_
        exact hp14
      · have hp15 := zif_f hj6 hc7
        refine zr_iconst dX9_compare_47 (by decide) ?_
        refine zr_goto (tgt := 52) dX9_compare_48 (by decide) ?_
        exact hp15
set_option maxRecDepth 100000 in
set_option maxHeartbeats 4000000 in
theorem t_Sl_compare {a2 : Int} {s : zSt} {res : Int × zSt} (h : f_Sl_compare a2 s = some res) : zSpecT 2 m_X9_compare [.inr (.inl (some 0)), .inr (.inl (some 6)), .inl a2] TSlPi s (some (.inl res.1)) res.2 := by
  refine zSpec_of (by decide +kernel) (Nat.le_of_ble_eq_true rfl) ?_
  show zBT 2 m_X9_compare TSlPi (some (.inl res.1)) res.2 0 [some (.inr (.inl (some 0))), some (.inr (.inl (some 6))), some (.inl a2), none, none] [] s
  unfold f_Sl_compare at h
  refine zr_iconst dX9_compare_0 (by decide) ?_
  refine zr_store ⟨_, dX9_compare_1, rfl⟩ (by decide) rfl ?_
  refine zr_iconst dX9_compare_2 (by decide) ?_
  refine zr_storew dX9_compare_3 (by decide) rfl ?_
  obtain ⟨y1, hy1, h⟩ := zbind h
  refine t_Sl_compare_l5 _ _ _ hy1 ?_
  refine zr_load ⟨_, dX9_compare_78, rfl⟩ rfl ?_
  obtain rfl := Option.some.inj h
  exact zt_iret dX9_compare_79 rfl
set_option maxRecDepth 100000 in
set_option maxHeartbeats 4000000 in
theorem t_Sl_writing {a1 a2 a3 : Int} {s : zSt} {res : Int} (h : f_Sl_writing a1 a2 a3 s = some res) : zSpecT 2 m_X9_writing [.inr (.inl (some 0)), .inl a1, .inl a2, .inl a3] TSl s (some (.inl res)) s := by
  refine zSpec_of (by decide +kernel) (Nat.le_of_ble_eq_true rfl) ?_
  show zBT 2 m_X9_writing TSl (some (.inl res)) s 0 [some (.inr (.inl (some 0))), some (.inl a1), some (.inl a2), some (.inl a3), none, none] [] s
  unfold f_Sl_writing at h
  refine zr_load ⟨_, dX9_writing_0, rfl⟩ rfl ?_
  refine zr_load ⟨_, dX9_writing_1, rfl⟩ rfl ?_
  obtain ⟨x1, hx1, h⟩ := zbind h
  refine zt_call0 (t_Co_isWide hx1) (zrun_SN (rest := [.inl a2]) dX9_writing_2 ml_X9_67 rfl (by decide) (by decide) rfl (Nat.le_of_ble_eq_true rfl)) rfl rfl (Nat.le_refl _) (Nat.le_refl _) ?_
  have hj2 : zBT 2 m_X9_writing TSl (some (.inl res)) s 13 [some (.inr (.inl (some 0))), some (.inl a1), some (.inl a2), some (.inl a3), none, none] [.inl (if x1 = 0 then 1 else 2), .inl a2] s := by
    refine zr_iadd dX9_writing_13 ?_
    refine zr_storew dX9_writing_14 (by decide) rfl ?_
    refine zr_load ⟨_, dX9_writing_16, rfl⟩ rfl ?_
    obtain ⟨x4, hx4, h⟩ := zbind h
    refine zt_call0 (t_Co_attributeOf hx4) (zrun_SN (rest := []) dX9_writing_17 ml_X9_71 rfl (by decide) (by decide) rfl (Nat.le_of_ble_eq_true rfl)) rfl rfl (Nat.le_refl _) (Nat.le_refl _) ?_
    refine zr_load ⟨_, dX9_writing_20, rfl⟩ rfl ?_
    have hj5 : zBT 2 m_X9_writing TSl (some (.inl res)) s 29 [some (.inr (.inl (some 0))), some (.inl a1), some (.inl a2), some (.inl a3), some (.inl (w32 (a2 + (if x1 = 0 then 1 else 2)))), none] [.inl (if ¬ x4 = a3 then 4 else 0)] s := by
      refine zr_storew dX9_writing_29 (by decide) rfl ?_
      refine zr_iconst dX9_writing_31 (by decide) ?_
      refine zr_load ⟨_, dX9_writing_32, rfl⟩ rfl ?_
      obtain ⟨x7, hx7, h⟩ := zbind h
      refine zt_call0 (t_Co_marksOf hx7) (zrun_SN (rest := [.inl 1]) dX9_writing_33 ml_X9_74 rfl (by decide) (by decide) rfl (Nat.le_of_ble_eq_true rfl)) rfl rfl (Nat.le_refl _) (Nat.le_refl _) ?_
      refine zr_iadd dX9_writing_36 ?_
      refine zr_loadw dX9_writing_37 rfl ?_
      refine zr_iadd dX9_writing_39 ?_
      refine zr_aload ⟨_, dX9_writing_40, rfl⟩ rfl ?_
      refine zr_loadw dX9_writing_41 rfl ?_
      refine zr_load ⟨_, dX9_writing_43, rfl⟩ rfl ?_
      obtain ⟨x8, hx8, h⟩ := zbind h
      refine zt_call0 (t_Co_attributeOf hx8) (zrun_SN (rest := [.inl (w32 (a2 + (if x1 = 0 then 1 else 2))), .inr (.inl (some 0)), .inl (w32 ((w32 (1 + x7)) + (if ¬ x4 = a3 then 4 else 0)))]) dX9_writing_44 ml_X9_71 rfl (by decide) (by decide) rfl (Nat.le_of_ble_eq_true rfl)) rfl rfl (Nat.le_refl _) (Nat.le_refl _) ?_
      obtain ⟨x9, hx9, h⟩ := zbind h
      refine zt_callisi (t_Sl_costsFrom hx9) (zrun_V (rest := [.inl (w32 ((w32 (1 + x7)) + (if ¬ x4 = a3 then 4 else 0)))]) dX9_writing_47 ml_X9_77 rfl rfl (by decide) (by decide) rfl (Nat.le_of_ble_eq_true rfl)) rfl rfl (Nat.le_refl _) (Nat.le_refl _) ?_
      refine zr_iadd dX9_writing_50 ?_
      obtain rfl := Option.some.inj h
      exact zt_iret dX9_writing_51 rfl
    refine zr_ic_ne (tgt := 28) dX9_writing_21 (by decide) (fun hc6 => ?_) (fun hc6 => ?_)
    · have hp10 := zif_t hj5 hc6
      refine zr_iconst dX9_writing_28 (by decide) ?_
      exact hp10
    · have hp11 := zif_f hj5 hc6
      refine zr_iconst dX9_writing_24 (by decide) ?_
      refine zr_goto (tgt := 29) dX9_writing_25 (by decide) ?_
      exact hp11
  refine zr_if_eq (tgt := 12) dX9_writing_5 (by decide) (fun hc3 => ?_) (fun hc3 => ?_)
  · have hp12 := zif_t hj2 hc3
    refine zr_iconst dX9_writing_12 (by decide) ?_
    exact hp12
  · have hp13 := zif_f hj2 hc3
    refine zr_iconst dX9_writing_8 (by decide) ?_
    refine zr_goto (tgt := 13) dX9_writing_9 (by decide) ?_
    exact hp13
set_option maxRecDepth 100000 in
set_option maxHeartbeats 4000000 in
theorem t_Sl_passing_l9 {c2 c4 : Int} {r : Option zAV} {s0 : zSt} {s : zSt} : ∀ (n : Nat) (x : Int × Int) (out : Int), zloop (f_Sl_passing_l9 c2 c4 s) n x = some out → (zBT 2 m_X9_passing TSlPi r s0 64 [none, none, none, none, none, some (.inl out), none] [] s) → zBT 2 m_X9_passing TSlPi r s0 9 [some (.inr (.inl (some 0))), some (.inr (.inl (some 6))), some (.inl c2), none, some (.inl c4), some (.inl x.1), some (.inl x.2)] [] s := by
  refine zloop_B (B := fun (x : Int × Int) (out : Int) => zBT 2 m_X9_passing TSlPi r s0 64 [none, none, none, none, none, some (.inl out), none] [] s → zBT 2 m_X9_passing TSlPi r s0 9 [some (.inr (.inl (some 0))), some (.inr (.inl (some 6))), some (.inl c2), none, some (.inl c4), some (.inl x.1), some (.inl x.2)] [] s) ?_
  intro x o out h hk hx
  unfold f_Sl_passing_l9 at h
  refine zr_loadw dX9_passing_9 rfl ?_
  refine zr_aload ⟨_, dX9_passing_11, rfl⟩ rfl ?_
  obtain ⟨x1, hx1, h⟩ := zbind h
  refine zt_callis (t_Pi_columns hx1) (zrun_V (rest := [.inl x.2]) dX9_passing_12 ml_X9_30 rfl rfl (by decide) (by decide) rfl (Nat.le_of_ble_eq_true rfl)) rfl rfl sb_TSlPi_TPi_6 (Nat.le_refl _) (Nat.le_refl _) ?_
  refine zr_ic_ge (tgt := 64) dX9_passing_15 (by decide) (fun hc2 => ?_) (fun hc2 => ?_)
  · replace h := zpos h hc2
    refine zr_mask [false, false, false, false, false, true, false] rfl ?_
    obtain rfl := Option.some.inj h
    obtain rfl := hk
    exact hx
  · replace h := zneg h hc2
    refine zr_aload ⟨_, dX9_passing_18, rfl⟩ rfl ?_
    refine zr_loadw dX9_passing_19 rfl ?_
    refine zr_iconst dX9_passing_21 (by decide) ?_
    refine zr_isub dX9_passing_22 ?_
    obtain ⟨x3, hx3, h⟩ := zbind h
    refine zt_callis (t_Sl_isLikeAt hx3) (zrun_V (rest := []) dX9_passing_23 ml_X9_80 rfl rfl (by decide) (by decide) rfl (Nat.le_of_ble_eq_true rfl)) rfl rfl sb_TSlPi_TSl_0 (Nat.le_refl _) (Nat.le_refl _) ?_
    refine zr_if_eq (tgt := 64) dX9_passing_26 (by decide) (fun hc4 => ?_) (fun hc4 => ?_)
    · replace h := zpos h hc4
      refine zr_mask [false, false, false, false, false, true, false] rfl ?_
      obtain rfl := Option.some.inj h
      obtain rfl := hk
      exact hx
    · replace h := zneg h hc4
      refine zr_aload ⟨_, dX9_passing_29, rfl⟩ rfl ?_
      refine zr_load ⟨_, dX9_passing_30, rfl⟩ rfl ?_
      refine zr_loadw dX9_passing_31 rfl ?_
      obtain ⟨x5, hx5, h⟩ := zbind h
      refine zt_callis (t_Pi_at hx5) (zrun_V (rest := []) dX9_passing_33 ml_X9_43 rfl rfl (by decide) (by decide) rfl (Nat.le_of_ble_eq_true rfl)) rfl rfl sb_TSlPi_TPi_6 (Nat.le_refl _) (Nat.le_refl _) ?_
      refine zr_bipush dX9_passing_36 (by decide) (by decide) ?_
      refine zr_ic_eq (tgt := 58) dX9_passing_38 (by decide) (fun hc6 => ?_) (fun hc6 => ?_)
      · replace h := zpos h hc6
        refine zr_iinc dX9_passing_58 rfl (by decide) rfl ?_
        refine zr_goto (tgt := 9) dX9_passing_61 (by decide) ?_
        obtain rfl := Option.some.inj h
        exact hk hx
      · replace h := zneg h hc6
        refine zr_loadw dX9_passing_41 rfl ?_
        refine zr_iconst dX9_passing_43 (by decide) ?_
        refine zr_aload ⟨_, dX9_passing_44, rfl⟩ rfl ?_
        refine zr_loadw dX9_passing_45 rfl ?_
        refine zr_loadw dX9_passing_47 rfl ?_
        obtain ⟨x7, hx7, h⟩ := zbind h
        refine zt_callis (t_Sl_costsFrom hx7) (zrun_V (rest := [.inl 4, .inl x.1]) dX9_passing_49 ml_X9_77 rfl rfl (by decide) (by decide) rfl (Nat.le_of_ble_eq_true rfl)) rfl rfl sb_TSlPi_TSl_0 (Nat.le_refl _) (Nat.le_refl _) ?_
        refine zr_iadd dX9_passing_52 ?_
        refine zr_min dX9_passing_53 ml_X9_55 (by decide) (Nat.le_refl _) (Nat.le_refl _) (Nat.le_of_ble_eq_true rfl) ?_
        refine zr_storew dX9_passing_56 (by decide) rfl ?_
        refine zr_iinc dX9_passing_58 rfl (by decide) rfl ?_
        refine zr_goto (tgt := 9) dX9_passing_61 (by decide) ?_
        obtain rfl := Option.some.inj h
        exact hk hx
set_option maxRecDepth 100000 in
set_option maxHeartbeats 4000000 in
theorem t_Sl_passing {a2 a3 a4 : Int} {s : zSt} {res : Int} (h : f_Sl_passing a2 a3 a4 s = some res) : zSpecT 2 m_X9_passing [.inr (.inl (some 0)), .inr (.inl (some 6)), .inl a2, .inl a3, .inl a4] TSlPi s (some (.inl res)) s := by
  refine zSpec_of (by decide +kernel) (Nat.le_of_ble_eq_true rfl) ?_
  show zBT 2 m_X9_passing TSlPi (some (.inl res)) s 0 [some (.inr (.inl (some 0))), some (.inr (.inl (some 6))), some (.inl a2), some (.inl a3), some (.inl a4), none, none] [] s
  unfold f_Sl_passing at h
  refine zr_ldc dX9_passing_0 k_X9_42 (by decide) ?_
  refine zr_storew dX9_passing_2 (by decide) rfl ?_
  refine zr_load ⟨_, dX9_passing_4, rfl⟩ rfl ?_
  refine zr_iconst dX9_passing_5 (by decide) ?_
  refine zr_iadd dX9_passing_6 ?_
  refine zr_storew dX9_passing_7 (by decide) rfl ?_
  refine zr_mask [true, true, true, false, true, true, true] rfl ?_
  obtain ⟨y1, hy1, h⟩ := zbind h
  refine t_Sl_passing_l9 _ _ _ hy1 ?_
  refine zr_loadw dX9_passing_64 rfl ?_
  obtain rfl := Option.some.inj h
  exact zt_iret dX9_passing_66 rfl
set_option maxRecDepth 100000 in
set_option maxHeartbeats 4000000 in
theorem t_Sl_beginning_l5 {c1 : Int}  {s : zSt} : ∀ (n : Nat) (x : Int × Int) (out : Int), zloop (f_Sl_beginning_l5 c1 s) n x = some out → zBT 2 m_X9_beginning TSl (some (.inl out)) s 5 [some (.inr (.inl (some 0))), some (.inl c1), some (.inl x.1), some (.inl x.2)] [] s := by
  refine zloop_B (B := fun (x : Int × Int) (out : Int) => zBT 2 m_X9_beginning TSl (some (.inl out)) s 5 [some (.inr (.inl (some 0))), some (.inl c1), some (.inl x.1), some (.inl x.2)] [] s) ?_
  intro x o out h hk
  unfold f_Sl_beginning_l5 at h
  refine zr_load ⟨_, dX9_beginning_5, rfl⟩ rfl ?_
  refine zr_load ⟨_, dX9_beginning_6, rfl⟩ rfl ?_
  refine zr_ic_ge (tgt := 37) dX9_beginning_7 (by decide) (fun hc1 => ?_) (fun hc1 => ?_)
  · replace h := zpos h hc1
    refine zr_load ⟨_, dX9_beginning_37, rfl⟩ rfl ?_
    obtain rfl := Option.some.inj h
    obtain rfl := hk
    exact zt_iret dX9_beginning_38 rfl
  · replace h := zneg h hc1
    refine zr_load ⟨_, dX9_beginning_10, rfl⟩ rfl ?_
    refine zr_aload ⟨_, dX9_beginning_11, rfl⟩ rfl ?_
    refine zr_load ⟨_, dX9_beginning_12, rfl⟩ rfl ?_
    refine zr_iconst dX9_beginning_13 (by decide) ?_
    obtain ⟨x2, hx2, h⟩ := zbind h
    refine zt_callisi (t_Sl_costsFrom hx2) (zrun_V (rest := [.inl x.1]) dX9_beginning_14 ml_X9_77 rfl rfl (by decide) (by decide) rfl (Nat.le_of_ble_eq_true rfl)) rfl rfl (Nat.le_refl _) (Nat.le_refl _) ?_
    refine zr_min dX9_beginning_17 ml_X9_55 (by decide) (Nat.le_refl _) (Nat.le_refl _) (Nat.le_of_ble_eq_true rfl) ?_
    refine zr_store ⟨_, dX9_beginning_20, rfl⟩ (by decide) rfl ?_
    refine zr_aload ⟨_, dX9_beginning_21, rfl⟩ rfl ?_
    refine zr_load ⟨_, dX9_beginning_22, rfl⟩ rfl ?_
    obtain ⟨x3, hx3, h⟩ := zbind h
    refine zt_callisi (t_Sl_isLikeAt hx3) (zrun_V (rest := []) dX9_beginning_23 ml_X9_80 rfl rfl (by decide) (by decide) rfl (Nat.le_of_ble_eq_true rfl)) rfl rfl (Nat.le_refl _) (Nat.le_refl _) ?_
    refine zr_if_ne (tgt := 31) dX9_beginning_26 (by decide) (fun hc4 => ?_) (fun hc4 => ?_)
    · replace h := zpos h hc4
      refine zr_iinc dX9_beginning_31 rfl (by decide) rfl ?_
      refine zr_goto (tgt := 5) dX9_beginning_34 (by decide) ?_
      obtain rfl := Option.some.inj h
      exact hk
    · replace h := zneg h hc4
      refine zr_load ⟨_, dX9_beginning_29, rfl⟩ rfl ?_
      obtain rfl := Option.some.inj h
      obtain rfl := hk
      exact zt_iret dX9_beginning_30 rfl
set_option maxRecDepth 100000 in
set_option maxHeartbeats 4000000 in
theorem t_Sl_beginning {a1 : Int} {s : zSt} {res : Int} (h : f_Sl_beginning a1 s = some res) : zSpecT 2 m_X9_beginning [.inr (.inl (some 0)), .inl a1] TSl s (some (.inl res)) s := by
  refine zSpec_of (by decide +kernel) (Nat.le_of_ble_eq_true rfl) ?_
  show zBT 2 m_X9_beginning TSl (some (.inl res)) s 0 [some (.inr (.inl (some 0))), some (.inl a1), none, none] [] s
  unfold f_Sl_beginning at h
  refine zr_ldc dX9_beginning_0 k_X9_42 (by decide) ?_
  refine zr_store ⟨_, dX9_beginning_2, rfl⟩ (by decide) rfl ?_
  refine zr_iconst dX9_beginning_3 (by decide) ?_
  refine zr_store ⟨_, dX9_beginning_4, rfl⟩ (by decide) rfl ?_
  exact t_Sl_beginning_l5 _ _ _ h
set_option maxRecDepth 100000 in
set_option maxHeartbeats 4000000 in
theorem t_Sl_costsOf_l38 {c2 c3 c4 c5 c6 : Int} {r : Option zAV} {s0 : zSt}  : ∀ (n : Nat) (x : Int × zSt) (out : zSt), zloop (f_Sl_costsOf_l38 c2 c3 c4 c5 c6) n x = some out → (zBT 3 m_X9_costsOf TSlPi r s0 140 [some (.inr (.inl (some 0))), some (.inr (.inl (some 6))), some (.inl c2), some (.inl c3), some (.inl c4), some (.inl c5), some (.inl c6), none, none] [] out) → zBT 3 m_X9_costsOf TSlPi r s0 38 [some (.inr (.inl (some 0))), some (.inr (.inl (some 6))), some (.inl c2), some (.inl c3), some (.inl c4), some (.inl c5), some (.inl c6), some (.inl x.1), none] [] x.2 := by
  refine zloop_B (B := fun (x : Int × zSt) (out : zSt) => zBT 3 m_X9_costsOf TSlPi r s0 140 [some (.inr (.inl (some 0))), some (.inr (.inl (some 6))), some (.inl c2), some (.inl c3), some (.inl c4), some (.inl c5), some (.inl c6), none, none] [] out → zBT 3 m_X9_costsOf TSlPi r s0 38 [some (.inr (.inl (some 0))), some (.inr (.inl (some 6))), some (.inl c2), some (.inl c3), some (.inl c4), some (.inl c5), some (.inl c6), some (.inl x.1), none] [] x.2) ?_
  intro x o out h hk hx
  unfold f_Sl_costsOf_l38 at h
  refine zr_loadw dX9_costsOf_38 rfl ?_
  refine zr_bipush dX9_costsOf_40 (by decide) (by decide) ?_
  refine zr_ic_ge (tgt := 140) dX9_costsOf_42 (by decide) (fun hc1 => ?_) (fun hc1 => ?_)
  · replace h := zpos h hc1
    refine zr_mask [true, true, true, true, true, true, true, false, false] rfl ?_
    obtain rfl := Option.some.inj h
    obtain rfl := hk
    exact hx
  · replace h := zneg h hc1
    refine zr_ldc dX9_costsOf_45 k_X9_42 (by decide) ?_
    refine zr_storew dX9_costsOf_47 (by decide) rfl ?_
    refine zr_loadw dX9_costsOf_49 rfl ?_
    refine zr_loadw dX9_costsOf_51 rfl ?_
    refine zr_ic_lt (tgt := 62) dX9_costsOf_53 (by decide) (fun hc2 => ?_) (fun hc2 => ?_)
    · replace h := zpos h hc2
      refine zr_aload ⟨_, dX9_costsOf_62, rfl⟩ rfl ?_
      refine zr_load ⟨_, dX9_costsOf_63, rfl⟩ rfl ?_
      refine zr_loadw dX9_costsOf_64 rfl ?_
      obtain ⟨x3, hx3, h⟩ := zbind h
      refine zt_callis (t_Pi_at hx3) (zrun_V (rest := []) dX9_costsOf_66 ml_X9_43 rfl rfl (by decide) (by decide) rfl (Nat.le_of_ble_eq_true rfl)) rfl rfl sb_TSlPi_TPi_6 (Nat.le_refl _) (Nat.le_refl _) ?_
      refine zr_bipush dX9_costsOf_69 (by decide) (by decide) ?_
      refine zr_ic_eq (tgt := 124) dX9_costsOf_71 (by decide) (fun hc4 => ?_) (fun hc4 => ?_)
      · replace h := zpos h hc4
        refine zr_aload ⟨_, dX9_costsOf_124, rfl⟩ rfl ?_
        refine zr_loadw dX9_costsOf_125 rfl ?_
        refine zr_loadw dX9_costsOf_127 rfl ?_
        refine zr_loadw dX9_costsOf_129 rfl ?_
        obtain ⟨x5, hx5, h⟩ := zbind h
        refine zt_callv (t_Sl_keepCosts hx5) (zrun_V (rest := []) dX9_costsOf_131 ml_X9_60 rfl rfl (by decide) (by decide) rfl (Nat.le_of_ble_eq_true rfl)) rfl rfl sb_TSlPi_TSl_0 (Nat.le_refl _) (Nat.le_refl _) ?_
        refine zr_iinc dX9_costsOf_134 rfl (by decide) rfl ?_
        refine zr_goto (tgt := 38) dX9_costsOf_137 (by decide) ?_
        refine zr_mask [true, true, true, true, true, true, true, true, false] rfl ?_
        obtain rfl := Option.some.inj h
        exact hk hx
      · replace h := zneg h hc4
        refine zr_aload ⟨_, dX9_costsOf_74, rfl⟩ rfl ?_
        refine zr_aload ⟨_, dX9_costsOf_75, rfl⟩ rfl ?_
        refine zr_load ⟨_, dX9_costsOf_76, rfl⟩ rfl ?_
        refine zr_loadw dX9_costsOf_77 rfl ?_
        obtain ⟨x6, hx6, h⟩ := zbind h
        refine zt_callis (t_Pi_at hx6) (zrun_V (rest := [.inr (.inl (some 0))]) dX9_costsOf_79 ml_X9_43 rfl rfl (by decide) (by decide) rfl (Nat.le_of_ble_eq_true rfl)) rfl rfl sb_TSlPi_TPi_6 (Nat.le_refl _) (Nat.le_refl _) ?_
        refine zr_loadw dX9_costsOf_82 rfl ?_
        refine zr_loadw dX9_costsOf_84 rfl ?_
        obtain ⟨x7, hx7, h⟩ := zbind h
        refine zt_callis (t_Sl_writing hx7) (zrun_V (rest := []) dX9_costsOf_86 ml_X9_47 rfl rfl (by decide) (by decide) rfl (Nat.le_of_ble_eq_true rfl)) rfl rfl sb_TSlPi_TSl_0 (Nat.le_refl _) (Nat.le_refl _) ?_
        refine zr_aload ⟨_, dX9_costsOf_89, rfl⟩ rfl ?_
        refine zr_aload ⟨_, dX9_costsOf_90, rfl⟩ rfl ?_
        refine zr_load ⟨_, dX9_costsOf_91, rfl⟩ rfl ?_
        refine zr_loadw dX9_costsOf_92 rfl ?_
        refine zr_loadw dX9_costsOf_94 rfl ?_
        obtain ⟨x8, hx8, h⟩ := zbind h
        refine zt_callisi (t_Sl_passing hx8) (zrun_V (rest := [.inl x7]) dX9_costsOf_96 ml_X9_51 rfl rfl (by decide) (by decide) rfl (Nat.le_of_ble_eq_true rfl)) rfl rfl (Nat.le_refl _) (Nat.le_refl _) ?_
        refine zr_min dX9_costsOf_99 ml_X9_55 (by decide) (Nat.le_refl _) (Nat.le_refl _) (Nat.le_of_ble_eq_true rfl) ?_
        refine zr_storew dX9_costsOf_102 (by decide) rfl ?_
        refine zr_loadw dX9_costsOf_104 rfl ?_
        refine zr_loadw dX9_costsOf_106 rfl ?_
        refine zr_ic_lt (tgt := 120) dX9_costsOf_108 (by decide) (fun hc9 => ?_) (fun hc9 => ?_)
        · replace h := zpos h hc9
          refine zr_loadw dX9_costsOf_120 rfl ?_
          refine zr_storew dX9_costsOf_122 (by decide) rfl ?_
          refine zr_aload ⟨_, dX9_costsOf_124, rfl⟩ rfl ?_
          refine zr_loadw dX9_costsOf_125 rfl ?_
          refine zr_loadw dX9_costsOf_127 rfl ?_
          refine zr_loadw dX9_costsOf_129 rfl ?_
          obtain ⟨x10, hx10, h⟩ := zbind h
          refine zt_callv (t_Sl_keepCosts hx10) (zrun_V (rest := []) dX9_costsOf_131 ml_X9_60 rfl rfl (by decide) (by decide) rfl (Nat.le_of_ble_eq_true rfl)) rfl rfl sb_TSlPi_TSl_0 (Nat.le_refl _) (Nat.le_refl _) ?_
          refine zr_iinc dX9_costsOf_134 rfl (by decide) rfl ?_
          refine zr_goto (tgt := 38) dX9_costsOf_137 (by decide) ?_
          refine zr_mask [true, true, true, true, true, true, true, true, false] rfl ?_
          obtain rfl := Option.some.inj h
          exact hk hx
        · replace h := zneg h hc9
          refine zr_loadw dX9_costsOf_111 rfl ?_
          refine zr_iconst dX9_costsOf_113 (by decide) ?_
          refine zr_min dX9_costsOf_114 ml_X9_55 (by decide) (Nat.le_refl _) (Nat.le_refl _) (Nat.le_of_ble_eq_true rfl) ?_
          refine zr_goto (tgt := 122) dX9_costsOf_117 (by decide) ?_
          refine zr_storew dX9_costsOf_122 (by decide) rfl ?_
          refine zr_aload ⟨_, dX9_costsOf_124, rfl⟩ rfl ?_
          refine zr_loadw dX9_costsOf_125 rfl ?_
          refine zr_loadw dX9_costsOf_127 rfl ?_
          refine zr_loadw dX9_costsOf_129 rfl ?_
          obtain ⟨x11, hx11, h⟩ := zbind h
          refine zt_callv (t_Sl_keepCosts hx11) (zrun_V (rest := []) dX9_costsOf_131 ml_X9_60 rfl rfl (by decide) (by decide) rfl (Nat.le_of_ble_eq_true rfl)) rfl rfl sb_TSlPi_TSl_0 (Nat.le_refl _) (Nat.le_refl _) ?_
          refine zr_iinc dX9_costsOf_134 rfl (by decide) rfl ?_
          refine zr_goto (tgt := 38) dX9_costsOf_137 (by decide) ?_
          refine zr_mask [true, true, true, true, true, true, true, true, false] rfl ?_
          obtain rfl := Option.some.inj h
          exact hk hx
    · replace h := zneg h hc2
      refine zr_iconst dX9_costsOf_56 (by decide) ?_
      refine zr_storew dX9_costsOf_57 (by decide) rfl ?_
      refine zr_goto (tgt := 124) dX9_costsOf_59 (by decide) ?_
      refine zr_aload ⟨_, dX9_costsOf_124, rfl⟩ rfl ?_
      refine zr_loadw dX9_costsOf_125 rfl ?_
      refine zr_loadw dX9_costsOf_127 rfl ?_
      refine zr_loadw dX9_costsOf_129 rfl ?_
      obtain ⟨x12, hx12, h⟩ := zbind h
      refine zt_callv (t_Sl_keepCosts hx12) (zrun_V (rest := []) dX9_costsOf_131 ml_X9_60 rfl rfl (by decide) (by decide) rfl (Nat.le_of_ble_eq_true rfl)) rfl rfl sb_TSlPi_TSl_0 (Nat.le_refl _) (Nat.le_refl _) ?_
      refine zr_iinc dX9_costsOf_134 rfl (by decide) rfl ?_
      refine zr_goto (tgt := 38) dX9_costsOf_137 (by decide) ?_
      refine zr_mask [true, true, true, true, true, true, true, true, false] rfl ?_
      obtain rfl := Option.some.inj h
      exact hk hx
set_option maxRecDepth 100000 in
set_option maxHeartbeats 4000000 in
theorem t_Sl_costsOf_l30 {c2 c3 c4 c5 : Int} {r : Option zAV} {s0 : zSt}  : ∀ (n : Nat) (x : Int × zSt) (out : zSt), zloop (f_Sl_costsOf_l30 c2 c3 c4 c5) n x = some out → (zBT 3 m_X9_costsOf TSlPi r s0 146 [some (.inr (.inl (some 0))), none, none, some (.inl c3), none, none, none, none, none] [] out) → zBT 3 m_X9_costsOf TSlPi r s0 30 [some (.inr (.inl (some 0))), some (.inr (.inl (some 6))), some (.inl c2), some (.inl c3), some (.inl c4), some (.inl c5), some (.inl x.1), none, none] [] x.2 := by
  refine zloop_B (B := fun (x : Int × zSt) (out : zSt) => zBT 3 m_X9_costsOf TSlPi r s0 146 [some (.inr (.inl (some 0))), none, none, some (.inl c3), none, none, none, none, none] [] out → zBT 3 m_X9_costsOf TSlPi r s0 30 [some (.inr (.inl (some 0))), some (.inr (.inl (some 6))), some (.inl c2), some (.inl c3), some (.inl c4), some (.inl c5), some (.inl x.1), none, none] [] x.2) ?_
  intro x o out h hk hx
  unfold f_Sl_costsOf_l30 at h
  refine zr_loadw dX9_costsOf_30 rfl ?_
  refine zr_if_lt (tgt := 146) dX9_costsOf_32 (by decide) (fun hc1 => ?_) (fun hc1 => ?_)
  · replace h := zpos h hc1
    refine zr_mask [true, false, false, true, false, false, false, false, false] rfl ?_
    obtain rfl := Option.some.inj h
    obtain rfl := hk
    exact hx
  · replace h := zneg h hc1
    refine zr_iconst dX9_costsOf_35 (by decide) ?_
    refine zr_storew dX9_costsOf_36 (by decide) rfl ?_
    obtain ⟨y2, hy2, h⟩ := zbind h
    refine t_Sl_costsOf_l38 _ _ _ hy2 ?_
    refine zr_iinc dX9_costsOf_140 rfl (by decide) rfl ?_
    refine zr_goto (tgt := 30) dX9_costsOf_143 (by decide) ?_
    obtain rfl := Option.some.inj h
    exact hk hx
set_option maxRecDepth 100000 in
set_option maxHeartbeats 4000000 in
theorem t_Sl_costsOf {a2 : Int} {s : zSt} {res : Int × zSt} (h : f_Sl_costsOf a2 s = some res) : zSpecT 3 m_X9_costsOf [.inr (.inl (some 0)), .inr (.inl (some 6)), .inl a2] TSlPi s (some (.inl res.1)) res.2 := by
  refine zSpec_of (by decide +kernel) (Nat.le_of_ble_eq_true rfl) ?_
  show zBT 3 m_X9_costsOf TSlPi (some (.inl res.1)) res.2 0 [some (.inr (.inl (some 0))), some (.inr (.inl (some 6))), some (.inl a2), none, none, none, none, none, none] [] s
  unfold f_Sl_costsOf at h
  refine zr_aload ⟨_, dX9_costsOf_0, rfl⟩ rfl ?_
  obtain ⟨x1, hx1, h⟩ := zbind h
  refine zt_callis (t_Pi_columns hx1) (zrun_V (rest := []) dX9_costsOf_1 ml_X9_30 rfl rfl (by decide) (by decide) rfl (Nat.le_of_ble_eq_true rfl)) rfl rfl sb_TSlPi_TPi_6 (Nat.le_refl _) (Nat.le_refl _) ?_
  refine zr_store ⟨_, dX9_costsOf_4, rfl⟩ (by decide) rfl ?_
  refine zr_aload ⟨_, dX9_costsOf_5, rfl⟩ rfl ?_
  refine zr_aload ⟨_, dX9_costsOf_6, rfl⟩ rfl ?_
  refine zr_load ⟨_, dX9_costsOf_7, rfl⟩ rfl ?_
  obtain ⟨x2, hx2, h⟩ := zbind h
  refine zt_callii (t_Sl_compare hx2) (zrun_V (rest := []) dX9_costsOf_8 ml_X9_34 rfl rfl (by decide) (by decide) rfl (Nat.le_of_ble_eq_true rfl)) rfl rfl (Nat.le_refl _) (Nat.le_refl _) ?_
  refine zr_storew dX9_costsOf_11 (by decide) rfl ?_
  refine zr_loadw dX9_costsOf_13 rfl ?_
  refine zr_if_ne (tgt := 20) dX9_costsOf_15 (by decide) (fun hc3 => ?_) (fun hc3 => ?_)
  · replace h := zpos h hc3
    refine zr_aload ⟨_, dX9_costsOf_20, rfl⟩ rfl ?_
    refine zr_load ⟨_, dX9_costsOf_21, rfl⟩ rfl ?_
    obtain ⟨x4, hx4, h⟩ := zbind h
    refine zt_callis (t_Pi_filled hx4) (zrun_V (rest := []) dX9_costsOf_22 ml_X9_38 rfl rfl (by decide) (by decide) rfl (Nat.le_of_ble_eq_true rfl)) rfl rfl sb_TSlPi_TPi_6 (Nat.le_refl _) (Nat.le_refl _) ?_
    refine zr_storew dX9_costsOf_25 (by decide) rfl ?_
    refine zr_load ⟨_, dX9_costsOf_27, rfl⟩ rfl ?_
    refine zr_storew dX9_costsOf_28 (by decide) rfl ?_
    obtain ⟨y5, hy5, h⟩ := zbind h
    refine t_Sl_costsOf_l30 _ _ _ hy5 ?_
    refine zr_bipush dX9_costsOf_146 (by decide) (by decide) ?_
    refine zr_aload ⟨_, dX9_costsOf_148, rfl⟩ rfl ?_
    refine zr_load ⟨_, dX9_costsOf_149, rfl⟩ rfl ?_
    obtain ⟨x6, hx6, h⟩ := zbind h
    refine zt_callis (t_Sl_beginning hx6) (zrun_V (rest := [.inl 6]) dX9_costsOf_150 ml_X9_64 rfl rfl (by decide) (by decide) rfl (Nat.le_of_ble_eq_true rfl)) rfl rfl sb_TSlPi_TSl_0 (Nat.le_refl _) (Nat.le_refl _) ?_
    refine zr_iadd dX9_costsOf_153 ?_
    obtain rfl := Option.some.inj h
    exact zt_iret dX9_costsOf_154 rfl
  · replace h := zneg h hc3
    refine zr_iconst dX9_costsOf_18 (by decide) ?_
    obtain rfl := Option.some.inj h
    exact zt_iret dX9_costsOf_19 rfl
set_option maxRecDepth 100000 in
set_option maxHeartbeats 4000000 in
theorem t_Sl_begin {a1 a2 : Int} {s : zSt} {res : Int × zSt} (h : f_Sl_begin a1 a2 s = some res) : zSpecT 6 m_X9_begin [.inr (.inl (some 0)), .inl a1, .inl a2] TSl s none res.2 := by
  refine zSpec_of (by decide +kernel) (Nat.le_of_ble_eq_true rfl) ?_
  show zBT 6 m_X9_begin TSl none res.2 0 [some (.inr (.inl (some 0))), some (.inl a1), some (.inl a2)] [] s
  unfold f_Sl_begin at h
  refine zr_aload ⟨_, dX9_begin_0, rfl⟩ rfl ?_
  refine zt_getr dX9_begin_1 fl_X9_12 rfl rfl ?_
  refine zr_load ⟨_, dX9_begin_4, rfl⟩ rfl ?_
  refine zr_load ⟨_, dX9_begin_5, rfl⟩ rfl ?_
  obtain ⟨x1, hx1, h⟩ := zbind h
  refine zt_callv (t_Pi_begin hx1) (zrun_V (rest := []) dX9_begin_6 ml_X9_26 rfl rfl (by decide) (by decide) rfl (Nat.le_of_ble_eq_true rfl)) rfl rfl sb_TSl_TPi_1 (Nat.le_refl _) (Nat.le_refl _) ?_
  obtain rfl := Option.some.inj h
  exact zt_vret dX9_begin_9 rfl
