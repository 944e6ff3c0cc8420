set_option maxRecDepth 100000 in
set_option maxHeartbeats 4000000 in
theorem t_Li_hasRoomFor {a1 : Int} {s : zSt} {res : Int} (h : f_Li_hasRoomFor a1 s = some res) : zSpecT 2 m_X3_hasRoomFor [.inr (.inl (some 0)), .inl a1] TLi s (some (.inl res)) s := by
  refine zSpec_of (by decide +kernel) (Nat.le_of_ble_eq_true rfl) ?_
  show zBT 2 m_X3_hasRoomFor TLi (some (.inl res)) s 0 [some (.inr (.inl (some 0))), some (.inl a1)] [] s
  unfold f_Li_hasRoomFor at h
  refine zr_aload ⟨_, dX3_hasRoomFor_0, rfl⟩ rfl ?_
  refine zt_get dX3_hasRoomFor_1 fl_X3_33 rfl rfl ?_
  refine zr_if_eq (tgt := 18) dX3_hasRoomFor_4 (by decide) (fun hc1 => ?_) (fun hc1 => ?_)
  · replace h := zpos h hc1
    refine zr_iconst dX3_hasRoomFor_18 (by decide) ?_
    refine zr_goto (tgt := 23) dX3_hasRoomFor_19 (by decide) ?_
    obtain rfl := Option.some.inj h
    exact zt_zret dX3_hasRoomFor_23 rfl (Or.inr rfl)
  · replace h := zneg h hc1
    refine zr_aload ⟨_, dX3_hasRoomFor_7, rfl⟩ rfl ?_
    refine zt_getr dX3_hasRoomFor_8 fl_X3_20 rfl rfl ?_
    obtain ⟨x2, hx2, h⟩ := zbind h
    refine zt_callis (t_By_room hx2) (zrun_V (rest := []) dX3_hasRoomFor_11 ml_X3_36 rfl rfl (by decide) (by decide) rfl (Nat.le_of_ble_eq_true rfl)) rfl rfl sb_TLi_TBy_3 (Nat.le_refl _) (Nat.le_refl _) ?_
    refine zr_load ⟨_, dX3_hasRoomFor_14, rfl⟩ rfl ?_
    have hj3 : zBT 2 m_X3_hasRoomFor TLi (some (.inl res)) s 23 [some (.inr (.inl (some 0))), some (.inl a1)] [.inl (if x2 < a1 then 0 else 1)] s := by
      obtain rfl := Option.some.inj h
      exact zt_zret dX3_hasRoomFor_23 rfl (z01i (Or.inl rfl) (Or.inr rfl))
    refine zr_ic_lt (tgt := 22) dX3_hasRoomFor_15 (by decide) (fun hc4 => ?_) (fun hc4 => ?_)
    · have hp5 := zif_t hj3 hc4
      refine zr_iconst dX3_hasRoomFor_22 (by decide) ?_
      exact hp5
    · have hp6 := zif_f hj3 hc4
      refine zr_iconst dX3_hasRoomFor_18 (by decide) ?_
      refine zr_goto (tgt := 23) dX3_hasRoomFor_19 (by decide) ?_
      exact hp6
set_option maxRecDepth 100000 in
set_option maxHeartbeats 4000000 in
theorem t_Li_bring {a1 : Int} {s : zSt} {res : Int × zSt} (h : f_Li_bring a1 s = some res) : zSpecT 3 m_X3_bring [.inr (.inl (some 0)), .inl a1] TLi s none res.2 := by
  refine zSpec_of (by decide +kernel) (Nat.le_of_ble_eq_true rfl) ?_
  show zBT 3 m_X3_bring TLi none res.2 0 [some (.inr (.inl (some 0))), some (.inl a1), none] [] s
  unfold f_Li_bring at h
  refine zr_aload ⟨_, dX3_bring_0, rfl⟩ rfl ?_
  refine zt_get dX3_bring_1 fl_X3_33 rfl rfl ?_
  refine zr_if_eq (tgt := 14) dX3_bring_4 (by decide) (fun hc1 => ?_) (fun hc1 => ?_)
  · replace h := zpos h hc1
    refine zr_aload ⟨_, dX3_bring_14, rfl⟩ rfl ?_
    refine zt_getr dX3_bring_15 fl_X3_26 rfl rfl ?_
    refine zr_astore ⟨_, dX3_bring_18, rfl⟩ (by decide) rfl ?_
    refine zr_aload ⟨_, dX3_bring_19, rfl⟩ rfl ?_
    refine zr_load ⟨_, dX3_bring_20, rfl⟩ rfl ?_
    obtain ⟨x2, hx2, h⟩ := zbind h
    refine zt_calli (t_By_add hx2) (zrun_V (rest := []) dX3_bring_21 ml_X3_40 rfl rfl (by decide) (by decide) rfl (Nat.le_of_ble_eq_true rfl)) rfl rfl sb_TLi_TBy_7 (Nat.le_refl _) (Nat.le_refl _) ?_
    refine zr_pop dX3_bring_24 (Or.inr ⟨_, rfl⟩) ?_
    obtain rfl := Option.some.inj h
    exact zt_vret dX3_bring_25 rfl
  · replace h := zneg h hc1
    refine zr_aload ⟨_, dX3_bring_7, rfl⟩ rfl ?_
    refine zt_getr dX3_bring_8 fl_X3_20 rfl rfl ?_
    refine zr_goto (tgt := 18) dX3_bring_11 (by decide) ?_
    refine zr_astore ⟨_, dX3_bring_18, rfl⟩ (by decide) rfl ?_
    refine zr_aload ⟨_, dX3_bring_19, rfl⟩ rfl ?_
    refine zr_load ⟨_, dX3_bring_20, rfl⟩ rfl ?_
    obtain ⟨x3, hx3, h⟩ := zbind h
    refine zt_calli (t_By_add hx3) (zrun_V (rest := []) dX3_bring_21 ml_X3_40 rfl rfl (by decide) (by decide) rfl (Nat.le_of_ble_eq_true rfl)) rfl rfl sb_TLi_TBy_3 (Nat.le_refl _) (Nat.le_refl _) ?_
    refine zr_pop dX3_bring_24 (Or.inr ⟨_, rfl⟩) ?_
    obtain rfl := Option.some.inj h
    exact zt_vret dX3_bring_25 rfl
set_option maxRecDepth 100000 in
set_option maxHeartbeats 4000000 in
theorem t_Li_echo_j18 {v1 : Int} {s : zSt} {res : Int × zSt} (h : f_Li_echo_j18 v1 s = some res) : zBT 3 m_X3_echo TLi none res.2 18 [some (.inr (.inl (some 0))), some (.inl v1), none] [.inr (.inl (some 7))] s := by
  unfold f_Li_echo_j18 at h
  refine zr_astore ⟨_, dX3_echo_18, rfl⟩ (by decide) rfl ?_
  refine zr_aload ⟨_, dX3_echo_19, rfl⟩ rfl ?_
  refine zt_get dX3_echo_20 fl_X3_29 rfl rfl ?_
  refine zr_if_eq (tgt := 32) dX3_echo_23 (by decide) (fun hc1 => ?_) (fun hc1 => ?_)
  · replace h := zpos h hc1
    obtain rfl := Option.some.inj h
    exact zt_vret dX3_echo_32 rfl
  · replace h := zneg h hc1
    refine zr_aload ⟨_, dX3_echo_26, rfl⟩ rfl ?_
    refine zr_load ⟨_, dX3_echo_27, rfl⟩ rfl ?_
    obtain ⟨x2, hx2, h⟩ := zbind h
    refine zt_calli (t_By_add hx2) (zrun_V (rest := []) dX3_echo_28 ml_X3_40 rfl rfl (by decide) (by decide) rfl (Nat.le_of_ble_eq_true rfl)) rfl rfl sb_TLi_TBy_7 (Nat.le_refl _) (Nat.le_refl _) ?_
    refine zr_pop dX3_echo_31 (Or.inr ⟨_, rfl⟩) ?_
    obtain rfl := Option.some.inj h
    exact zt_vret dX3_echo_32 rfl
set_option maxRecDepth 100000 in
set_option maxHeartbeats 4000000 in
theorem t_Li_echo_j18_1 {v1 : Int} {s : zSt} {res : Int × zSt} (h : f_Li_echo_j18_1 v1 s = some res) : zBT 3 m_X3_echo TLi none res.2 18 [some (.inr (.inl (some 0))), some (.inl v1), none] [.inr (.inl (some 3))] s := by
  unfold f_Li_echo_j18_1 at h
  refine zr_astore ⟨_, dX3_echo_18, rfl⟩ (by decide) rfl ?_
  refine zr_aload ⟨_, dX3_echo_19, rfl⟩ rfl ?_
  refine zt_get dX3_echo_20 fl_X3_29 rfl rfl ?_
  refine zr_if_eq (tgt := 32) dX3_echo_23 (by decide) (fun hc1 => ?_) (fun hc1 => ?_)
  · replace h := zpos h hc1
    obtain rfl := Option.some.inj h
    exact zt_vret dX3_echo_32 rfl
  · replace h := zneg h hc1
    refine zr_aload ⟨_, dX3_echo_26, rfl⟩ rfl ?_
    refine zr_load ⟨_, dX3_echo_27, rfl⟩ rfl ?_
    obtain ⟨x2, hx2, h⟩ := zbind h
    refine zt_calli (t_By_add hx2) (zrun_V (rest := []) dX3_echo_28 ml_X3_40 rfl rfl (by decide) (by decide) rfl (Nat.le_of_ble_eq_true rfl)) rfl rfl sb_TLi_TBy_3 (Nat.le_refl _) (Nat.le_refl _) ?_
    refine zr_pop dX3_echo_31 (Or.inr ⟨_, rfl⟩) ?_
    obtain rfl := Option.some.inj h
    exact zt_vret dX3_echo_32 rfl
set_option maxRecDepth 100000 in
set_option maxHeartbeats 4000000 in
theorem t_Li_echo {a1 : Int} {s : zSt} {res : Int × zSt} (h : f_Li_echo a1 s = some res) : zSpecT 3 m_X3_echo [.inr (.inl (some 0)), .inl a1] TLi s none res.2 := by
  refine zSpec_of (by decide +kernel) (Nat.le_of_ble_eq_true rfl) ?_
  show zBT 3 m_X3_echo TLi none res.2 0 [some (.inr (.inl (some 0))), some (.inl a1), none] [] s
  unfold f_Li_echo at h
  refine zr_aload ⟨_, dX3_echo_0, rfl⟩ rfl ?_
  refine zt_get dX3_echo_1 fl_X3_33 rfl rfl ?_
  refine zr_if_eq (tgt := 14) dX3_echo_4 (by decide) (fun hc1 => ?_) (fun hc1 => ?_)
  · replace h := zpos h hc1
    refine zr_aload ⟨_, dX3_echo_14, rfl⟩ rfl ?_
    refine zt_getr dX3_echo_15 fl_X3_26 rfl rfl ?_
    exact t_Li_echo_j18 h
  · replace h := zneg h hc1
    refine zr_aload ⟨_, dX3_echo_7, rfl⟩ rfl ?_
    refine zt_getr dX3_echo_8 fl_X3_20 rfl rfl ?_
    refine zr_goto (tgt := 18) dX3_echo_11 (by decide) ?_
    exact t_Li_echo_j18_1 h
set_option maxRecDepth 100000 in
set_option maxHeartbeats 4000000 in
theorem t_Li_bringNumber {a1 : Int} {s : zSt} {res : Int × zSt} (h : f_Li_bringNumber a1 s = some res) : zSpecT 4 m_X3_bringNumber [.inr (.inl (some 0)), .inl a1] TLi s none res.2 := by
  refine zSpec_of (by decide +kernel) (Nat.le_of_ble_eq_true rfl) ?_
  show zBT 4 m_X3_bringNumber TLi none res.2 0 [some (.inr (.inl (some 0))), some (.inl a1), none] [] s
  unfold f_Li_bringNumber at h
  refine zr_aload ⟨_, dX3_bringNumber_0, rfl⟩ rfl ?_
  refine zt_get dX3_bringNumber_1 fl_X3_33 rfl rfl ?_
  refine zr_if_eq (tgt := 14) dX3_bringNumber_4 (by decide) (fun hc1 => ?_) (fun hc1 => ?_)
  · replace h := zpos h hc1
    refine zr_aload ⟨_, dX3_bringNumber_14, rfl⟩ rfl ?_
    refine zt_getr dX3_bringNumber_15 fl_X3_26 rfl rfl ?_
    refine zr_astore ⟨_, dX3_bringNumber_18, rfl⟩ (by decide) rfl ?_
    refine zr_aload ⟨_, dX3_bringNumber_19, rfl⟩ rfl ?_
    refine zr_load ⟨_, dX3_bringNumber_20, rfl⟩ rfl ?_
    obtain ⟨x2, hx2, h⟩ := zbind h
    refine zt_callv (t_By_addNumber hx2) (zrun_V (rest := []) dX3_bringNumber_21 ml_X3_44 rfl rfl (by decide) (by decide) rfl (Nat.le_of_ble_eq_true rfl)) rfl rfl sb_TLi_TBy_7 (Nat.le_refl _) (Nat.le_refl _) ?_
    obtain rfl := Option.some.inj h
    exact zt_vret dX3_bringNumber_24 rfl
  · replace h := zneg h hc1
    refine zr_aload ⟨_, dX3_bringNumber_7, rfl⟩ rfl ?_
    refine zt_getr dX3_bringNumber_8 fl_X3_20 rfl rfl ?_
    refine zr_goto (tgt := 18) dX3_bringNumber_11 (by decide) ?_
    refine zr_astore ⟨_, dX3_bringNumber_18, rfl⟩ (by decide) rfl ?_
    refine zr_aload ⟨_, dX3_bringNumber_19, rfl⟩ rfl ?_
    refine zr_load ⟨_, dX3_bringNumber_20, rfl⟩ rfl ?_
    obtain ⟨x3, hx3, h⟩ := zbind h
    refine zt_callv (t_By_addNumber hx3) (zrun_V (rest := []) dX3_bringNumber_21 ml_X3_44 rfl rfl (by decide) (by decide) rfl (Nat.le_of_ble_eq_true rfl)) rfl rfl sb_TLi_TBy_3 (Nat.le_refl _) (Nat.le_refl _) ?_
    obtain rfl := Option.some.inj h
    exact zt_vret dX3_bringNumber_24 rfl
set_option maxRecDepth 100000 in
set_option maxHeartbeats 4000000 in
theorem t_Li_takeAway_l31 {c1 : Int} {r : Option zAV} {s0 : zSt}  : ∀ (n : Nat) (x : Int × zSt) (out : zSt), zloop (f_Li_takeAway_l31 c1) n x = some out → (zBT 4 m_X3_takeAway TLi r s0 60 [none, none, none] [] out) → zBT 4 m_X3_takeAway TLi r s0 31 [some (.inr (.inl (some 0))), some (.inl c1), some (.inl x.1)] [] x.2 := by
  refine zloop_B (B := fun (x : Int × zSt) (out : zSt) => zBT 4 m_X3_takeAway TLi r s0 60 [none, none, none] [] out → zBT 4 m_X3_takeAway TLi r s0 31 [some (.inr (.inl (some 0))), some (.inl c1), some (.inl x.1)] [] x.2) ?_
  intro x o out h hk hx
  unfold f_Li_takeAway_l31 at h
  refine zr_load ⟨_, dX3_takeAway_31, rfl⟩ rfl ?_
  refine zr_load ⟨_, dX3_takeAway_32, rfl⟩ rfl ?_
  refine zr_ic_ge (tgt := 60) dX3_takeAway_33 (by decide) (fun hc1 => ?_) (fun hc1 => ?_)
  · replace h := zpos h hc1
    refine zr_mask [false, false, false] rfl ?_
    obtain rfl := Option.some.inj h
    obtain rfl := hk
    exact hx
  · replace h := zneg h hc1
    refine zr_aload ⟨_, dX3_takeAway_36, rfl⟩ rfl ?_
    refine zr_bipush dX3_takeAway_37 (by decide) (by decide) ?_
    obtain ⟨x2, hx2, h⟩ := zbind h
    refine zt_calliv (t_Li_echo hx2) (zrun_V (rest := []) dX3_takeAway_39 ml_X3_53 rfl rfl (by decide) (by decide) rfl (Nat.le_of_ble_eq_true rfl)) rfl rfl (Nat.le_refl _) (Nat.le_refl _) ?_
    refine zr_aload ⟨_, dX3_takeAway_42, rfl⟩ rfl ?_
    refine zr_bipush dX3_takeAway_43 (by decide) (by decide) ?_
    obtain ⟨x3, hx3, h⟩ := zbind h
    refine zt_calliv (t_Li_echo hx3) (zrun_V (rest := []) dX3_takeAway_45 ml_X3_53 rfl rfl (by decide) (by decide) rfl (Nat.le_of_ble_eq_true rfl)) rfl rfl (Nat.le_refl _) (Nat.le_refl _) ?_
    refine zr_aload ⟨_, dX3_takeAway_48, rfl⟩ rfl ?_
    refine zr_bipush dX3_takeAway_49 (by decide) (by decide) ?_
    obtain ⟨x4, hx4, h⟩ := zbind h
    refine zt_calliv (t_Li_echo hx4) (zrun_V (rest := []) dX3_takeAway_51 ml_X3_53 rfl rfl (by decide) (by decide) rfl (Nat.le_of_ble_eq_true rfl)) rfl rfl (Nat.le_refl _) (Nat.le_refl _) ?_
    refine zr_iinc dX3_takeAway_54 rfl (by decide) rfl ?_
    refine zr_goto (tgt := 31) dX3_takeAway_57 (by decide) ?_
    obtain rfl := Option.some.inj h
    exact hk hx
set_option maxRecDepth 100000 in
set_option maxHeartbeats 4000000 in
theorem t_Li_takeAway  {s : zSt} {res : Int × zSt} (h : f_Li_takeAway s = some res) : zSpecT 4 m_X3_takeAway [.inr (.inl (some 0))] TLi s none res.2 := by
  refine zSpec_of (by decide +kernel) (Nat.le_of_ble_eq_true rfl) ?_
  show zBT 4 m_X3_takeAway TLi none res.2 0 [some (.inr (.inl (some 0))), none, none] [] s
  unfold f_Li_takeAway at h
  refine zr_aload ⟨_, dX3_takeAway_0, rfl⟩ rfl ?_
  refine zt_getr dX3_takeAway_1 fl_X3_14 rfl rfl ?_
  obtain ⟨x1, hx1, h⟩ := zbind h
  refine zt_callis (t_By_count hx1) (zrun_V (rest := []) dX3_takeAway_4 ml_X3_84 rfl rfl (by decide) (by decide) rfl (Nat.le_of_ble_eq_true rfl)) rfl rfl sb_TLi_TBy_1 (Nat.le_refl _) (Nat.le_refl _) ?_
  refine zr_if_ne (tgt := 11) dX3_takeAway_7 (by decide) (fun hc2 => ?_) (fun hc2 => ?_)
  · replace h := zpos h hc2
    refine zr_aload ⟨_, dX3_takeAway_11, rfl⟩ rfl ?_
    refine zt_getr dX3_takeAway_12 fl_X3_14 rfl rfl ?_
    obtain ⟨x3, hx3, h⟩ := zbind h
    refine zt_calli (t_By_removeLast hx3) (zrun_V (rest := []) dX3_takeAway_15 ml_X3_87 rfl rfl (by decide) (by decide) rfl (Nat.le_of_ble_eq_true rfl)) rfl rfl sb_TLi_TBy_1 (Nat.le_refl _) (Nat.le_refl _) ?_
    refine zr_bipush dX3_takeAway_18 (by decide) (by decide) ?_
    have hj4 : zBT 4 m_X3_takeAway TLi none res.2 28 [some (.inr (.inl (some 0))), none, none] [.inl (if 32 ≤ x3.1 then 1 else 2)] (zpb (zsh 1) 2 s x3.2) := by
      refine zr_store ⟨_, dX3_takeAway_28, rfl⟩ (by decide) rfl ?_
      refine zr_iconst dX3_takeAway_29 (by decide) ?_
      refine zr_store ⟨_, dX3_takeAway_30, rfl⟩ (by decide) rfl ?_
      obtain ⟨y6, hy6, h⟩ := zbind h
      refine t_Li_takeAway_l31 _ _ _ hy6 ?_
      obtain rfl := Option.some.inj h
      exact zt_vret dX3_takeAway_60 rfl
    refine zr_ic_ge (tgt := 27) dX3_takeAway_20 (by decide) (fun hc5 => ?_) (fun hc5 => ?_)
    · have hp7 := zif_t hj4 hc5
      refine zr_iconst dX3_takeAway_27 (by decide) ?_
      exact hp7
    · have hp8 := zif_f hj4 hc5
      refine zr_iconst dX3_takeAway_23 (by decide) ?_
      refine zr_goto (tgt := 28) dX3_takeAway_24 (by decide) ?_
      exact hp8
  · replace h := zneg h hc2
    obtain rfl := Option.some.inj h
    exact zt_vret dX3_takeAway_10 rfl
set_option maxRecDepth 100000 in
set_option maxHeartbeats 4000000 in
theorem t_Li_sendLine  {s : zSt} {res : Int × zSt} (h : f_Li_sendLine s = some res) : zSpecT 4 m_X3_sendLine [.inr (.inl (some 0))] TLi s none res.2 := by
  refine zSpec_of (by decide +kernel) (Nat.le_of_ble_eq_true rfl) ?_
  show zBT 4 m_X3_sendLine TLi none res.2 0 [some (.inr (.inl (some 0)))] [] s
  unfold f_Li_sendLine at h
  refine zr_aload ⟨_, dX3_sendLine_0, rfl⟩ rfl ?_
  refine zt_getr dX3_sendLine_1 fl_X3_23 rfl rfl ?_
  refine zr_aload ⟨_, dX3_sendLine_4, rfl⟩ rfl ?_
  refine zt_getr dX3_sendLine_5 fl_X3_14 rfl rfl ?_
  obtain ⟨x1, hx1, h⟩ := zbind h
  refine zt_callv (t_By_addAll hx1) (zrun_V (rest := []) dX3_sendLine_8 ml_X3_93 rfl rfl (by decide) (by decide) rfl (Nat.le_of_ble_eq_true rfl)) rfl rfl sb_TLi_TByBy_5_1 (Nat.le_refl _) (Nat.le_refl _) ?_
  obtain rfl := Option.some.inj h
  exact zt_vret dX3_sendLine_11 rfl
set_option maxRecDepth 100000 in
set_option maxHeartbeats 4000000 in
theorem t_Li_start  {s : zSt} {res : Int × zSt} (h : f_Li_start s = some res) : zSpecT 4 m_X3_start [.inr (.inl (some 0))] TLi s none res.2 := by
  refine zSpec_of (by decide +kernel) (Nat.le_of_ble_eq_true rfl) ?_
  show zBT 4 m_X3_start TLi none res.2 0 [some (.inr (.inl (some 0)))] [] s
  unfold f_Li_start at h
  refine zr_aload ⟨_, dX3_start_0, rfl⟩ rfl ?_
  refine zr_iconst dX3_start_1 (by decide) ?_
  refine zt_putz dX3_start_2 fl_X3_33 rfl rfl (Or.inl rfl) ?_
  refine zr_aload ⟨_, dX3_start_5, rfl⟩ rfl ?_
  refine zt_getr dX3_start_6 fl_X3_26 rfl rfl ?_
  refine zr_aload ⟨_, dX3_start_9, rfl⟩ rfl ?_
  refine zt_getr dX3_start_10 fl_X3_20 rfl rfl ?_
  obtain ⟨x1, hx1, h⟩ := zbind h
  refine zt_callv (t_By_addAll hx1) (zrun_V (rest := []) dX3_start_13 ml_X3_93 rfl rfl (by decide) (by decide) rfl (Nat.le_of_ble_eq_true rfl)) rfl rfl sb_TLi_TByBy_7_3 (Nat.le_refl _) (Nat.le_refl _) ?_
  obtain rfl := Option.some.inj h
  exact zt_vret dX3_start_16 rfl
set_option maxRecDepth 100000 in
set_option maxHeartbeats 4000000 in
theorem t_Li_addToLine {a1 : Int} {s : zSt} {res : Int × zSt} (h : f_Li_addToLine a1 s = some res) : zSpecT 4 m_X3_addToLine [.inr (.inl (some 0)), .inl a1] TLi s none res.2 := by
  refine zSpec_of (by decide +kernel) (Nat.le_of_ble_eq_true rfl) ?_
  show zBT 4 m_X3_addToLine TLi none res.2 0 [some (.inr (.inl (some 0))), some (.inl a1)] [] s
  unfold f_Li_addToLine at h
  refine zr_aload ⟨_, dX3_addToLine_0, rfl⟩ rfl ?_
  refine zt_getr dX3_addToLine_1 fl_X3_14 rfl rfl ?_
  refine zr_load ⟨_, dX3_addToLine_4, rfl⟩ rfl ?_
  obtain ⟨x1, hx1, h⟩ := zbind h
  refine zt_calli (t_By_add hx1) (zrun_V (rest := []) dX3_addToLine_5 ml_X3_40 rfl rfl (by decide) (by decide) rfl (Nat.le_of_ble_eq_true rfl)) rfl rfl sb_TLi_TBy_1 (Nat.le_refl _) (Nat.le_refl _) ?_
  refine zr_if_ne (tgt := 18) dX3_addToLine_8 (by decide) (fun hc2 => ?_) (fun hc2 => ?_)
  · replace h := zpos h hc2
    refine zr_load ⟨_, dX3_addToLine_18, rfl⟩ rfl ?_
    refine zr_bipush dX3_addToLine_19 (by decide) (by decide) ?_
    refine zr_ic_ge (tgt := 41) dX3_addToLine_21 (by decide) (fun hc3 => ?_) (fun hc3 => ?_)
    · replace h := zpos h hc3
      refine zr_aload ⟨_, dX3_addToLine_41, rfl⟩ rfl ?_
      refine zr_load ⟨_, dX3_addToLine_42, rfl⟩ rfl ?_
      obtain ⟨x4, hx4, h⟩ := zbind h
      refine zt_calliv (t_Li_echo hx4) (zrun_V (rest := []) dX3_addToLine_43 ml_X3_53 rfl rfl (by decide) (by decide) rfl (Nat.le_of_ble_eq_true rfl)) rfl rfl (Nat.le_refl _) (Nat.le_refl _) ?_
      obtain rfl := Option.some.inj h
      exact zt_vret dX3_addToLine_46 rfl
    · replace h := zneg h hc3
      refine zr_aload ⟨_, dX3_addToLine_24, rfl⟩ rfl ?_
      refine zr_bipush dX3_addToLine_25 (by decide) (by decide) ?_
      obtain ⟨x5, hx5, h⟩ := zbind h
      refine zt_calliv (t_Li_echo hx5) (zrun_V (rest := []) dX3_addToLine_27 ml_X3_53 rfl rfl (by decide) (by decide) rfl (Nat.le_of_ble_eq_true rfl)) rfl rfl (Nat.le_refl _) (Nat.le_refl _) ?_
      refine zr_aload ⟨_, dX3_addToLine_30, rfl⟩ rfl ?_
      refine zr_load ⟨_, dX3_addToLine_31, rfl⟩ rfl ?_
      refine zr_bipush dX3_addToLine_32 (by decide) (by decide) ?_
      refine zr_iadd dX3_addToLine_34 ?_
      obtain ⟨x6, hx6, h⟩ := zbind h
      refine zt_calliv (t_Li_echo hx6) (zrun_V (rest := []) dX3_addToLine_35 ml_X3_53 rfl rfl (by decide) (by decide) rfl (Nat.le_of_ble_eq_true rfl)) rfl rfl (Nat.le_refl _) (Nat.le_refl _) ?_
      refine zr_goto (tgt := 46) dX3_addToLine_38 (by decide) ?_
      obtain rfl := Option.some.inj h
      exact zt_vret dX3_addToLine_46 rfl
  · replace h := zneg h hc2
    refine zr_aload ⟨_, dX3_addToLine_11, rfl⟩ rfl ?_
    refine zr_bipush dX3_addToLine_12 (by decide) (by decide) ?_
    obtain ⟨x7, hx7, h⟩ := zbind h
    refine zt_calliv (t_Li_echo hx7) (zrun_V (rest := []) dX3_addToLine_14 ml_X3_53 rfl rfl (by decide) (by decide) rfl (Nat.le_of_ble_eq_true rfl)) rfl rfl (Nat.le_refl _) (Nat.le_refl _) ?_
    obtain rfl := Option.some.inj h
    exact zt_vret dX3_addToLine_17 rfl
set_option maxRecDepth 100000 in
set_option maxHeartbeats 4000000 in
theorem t_Li_change {a1 a2 : Int} {s : zSt} {res : Int × zSt} (h : f_Li_change a1 a2 s = some res) : zSpecT 5 m_X3_change [.inr (.inl (some 0)), .inl a1, .inl a2] TLi s (some (.inl res.1)) res.2 := by
  refine zSpec_of (by decide +kernel) (Nat.le_of_ble_eq_true rfl) ?_
  show zBT 5 m_X3_change TLi (some (.inl res.1)) res.2 0 [some (.inr (.inl (some 0))), some (.inl a1), some (.inl a2), none] [] s
  unfold f_Li_change at h
  refine zr_aload ⟨_, dX3_change_0, rfl⟩ rfl ?_
  refine zt_get dX3_change_1 fl_X3_47 rfl rfl ?_
  refine zr_store ⟨_, dX3_change_4, rfl⟩ (by decide) rfl ?_
  refine zr_load ⟨_, dX3_change_5, rfl⟩ rfl ?_
  refine zr_if_ne (tgt := 17) dX3_change_6 (by decide) (fun hc1 => ?_) (fun hc1 => ?_)
  · replace h := zpos h hc1
    refine zr_aload ⟨_, dX3_change_17, rfl⟩ rfl ?_
    refine zr_load ⟨_, dX3_change_18, rfl⟩ rfl ?_
    obtain ⟨hb2, h⟩ := zchk h
    refine zt_putz dX3_change_19 fl_X3_47 rfl rfl hb2 ?_
    refine zr_aload ⟨_, dX3_change_22, rfl⟩ rfl ?_
    refine zr_load ⟨_, dX3_change_23, rfl⟩ rfl ?_
    obtain ⟨hb3, h⟩ := zchk h
    refine zt_putz dX3_change_24 fl_X3_29 rfl rfl hb3 ?_
    refine zr_load ⟨_, dX3_change_27, rfl⟩ rfl ?_
    obtain ⟨hb4, h⟩ := zchk h
    obtain rfl := Option.some.inj h
    exact zt_zret dX3_change_28 rfl hb4
  · replace h := zneg h hc1
    refine zr_load ⟨_, dX3_change_9, rfl⟩ rfl ?_
    refine zr_if_eq (tgt := 17) dX3_change_10 (by decide) (fun hc5 => ?_) (fun hc5 => ?_)
    · replace h := zpos h hc5
      refine zr_aload ⟨_, dX3_change_17, rfl⟩ rfl ?_
      refine zr_load ⟨_, dX3_change_18, rfl⟩ rfl ?_
      obtain ⟨hb6, h⟩ := zchk h
      refine zt_putz dX3_change_19 fl_X3_47 rfl rfl hb6 ?_
      refine zr_aload ⟨_, dX3_change_22, rfl⟩ rfl ?_
      refine zr_load ⟨_, dX3_change_23, rfl⟩ rfl ?_
      obtain ⟨hb7, h⟩ := zchk h
      refine zt_putz dX3_change_24 fl_X3_29 rfl rfl hb7 ?_
      refine zr_load ⟨_, dX3_change_27, rfl⟩ rfl ?_
      obtain ⟨hb8, h⟩ := zchk h
      obtain rfl := Option.some.inj h
      exact zt_zret dX3_change_28 rfl hb8
    · replace h := zneg h hc5
      refine zr_aload ⟨_, dX3_change_13, rfl⟩ rfl ?_
      obtain ⟨x9, hx9, h⟩ := zbind h
      refine zt_calliv (t_Li_sendLine hx9) (zrun_V (rest := []) dX3_change_14 ml_X3_50 rfl rfl (by decide) (by decide) rfl (Nat.le_of_ble_eq_true rfl)) rfl rfl (Nat.le_refl _) (Nat.le_refl _) ?_
      refine zr_aload ⟨_, dX3_change_17, rfl⟩ rfl ?_
      refine zr_load ⟨_, dX3_change_18, rfl⟩ rfl ?_
      obtain ⟨hb10, h⟩ := zchk h
      refine zt_putz dX3_change_19 fl_X3_47 rfl rfl hb10 ?_
      refine zr_aload ⟨_, dX3_change_22, rfl⟩ rfl ?_
      refine zr_load ⟨_, dX3_change_23, rfl⟩ rfl ?_
      obtain ⟨hb11, h⟩ := zchk h
      refine zt_putz dX3_change_24 fl_X3_29 rfl rfl hb11 ?_
      refine zr_load ⟨_, dX3_change_27, rfl⟩ rfl ?_
      obtain ⟨hb12, h⟩ := zchk h
      obtain rfl := Option.some.inj h
      exact zt_zret dX3_change_28 rfl hb12
set_option maxRecDepth 100000 in
set_option maxHeartbeats 4000000 in
theorem t_Li_takeWordAway_l2  {r : Option zAV} {s0 : zSt}  : ∀ (n : Nat) (x : Int × zSt) (out : zSt), zloop (f_Li_takeWordAway_l2) n x = some out → (zBT 5 m_X3_takeWordAway TLi r s0 30 [some (.inr (.inl (some 0))), none] [] out) → zBT 5 m_X3_takeWordAway TLi r s0 2 [some (.inr (.inl (some 0))), some (.inl x.1)] [] x.2 := by
  refine zloop_B (B := fun (x : Int × zSt) (out : zSt) => zBT 5 m_X3_takeWordAway TLi r s0 30 [some (.inr (.inl (some 0))), none] [] out → zBT 5 m_X3_takeWordAway TLi r s0 2 [some (.inr (.inl (some 0))), some (.inl x.1)] [] x.2) ?_
  intro x o out h hk hx
  unfold f_Li_takeWordAway_l2 at h
  refine zr_load ⟨_, dX3_takeWordAway_2, rfl⟩ rfl ?_
  refine zr_bipush dX3_takeWordAway_3 (by decide) (by decide) ?_
  refine zr_ic_ge (tgt := 30) dX3_takeWordAway_5 (by decide) (fun hc1 => ?_) (fun hc1 => ?_)
  · replace h := zpos h hc1
    refine zr_mask [true, false] rfl ?_
    obtain rfl := Option.some.inj h
    obtain rfl := hk
    exact hx
  · replace h := zneg h hc1
    refine zr_aload ⟨_, dX3_takeWordAway_8, rfl⟩ rfl ?_
    refine zt_getr dX3_takeWordAway_9 fl_X3_14 rfl rfl ?_
    obtain ⟨x2, hx2, h⟩ := zbind h
    refine zt_callis (t_By_last hx2) (zrun_V (rest := []) dX3_takeWordAway_12 ml_X3_90 rfl rfl (by decide) (by decide) rfl (Nat.le_of_ble_eq_true rfl)) rfl rfl sb_TLi_TBy_1 (Nat.le_refl _) (Nat.le_refl _) ?_
    refine zr_bipush dX3_takeWordAway_15 (by decide) (by decide) ?_
    refine zr_ic_ne (tgt := 30) dX3_takeWordAway_17 (by decide) (fun hc3 => ?_) (fun hc3 => ?_)
    · replace h := zpos h hc3
      refine zr_mask [true, false] rfl ?_
      obtain rfl := Option.some.inj h
      obtain rfl := hk
      exact hx
    · replace h := zneg h hc3
      refine zr_aload ⟨_, dX3_takeWordAway_20, rfl⟩ rfl ?_
      obtain ⟨x4, hx4, h⟩ := zbind h
      refine zt_calliv (t_Li_takeAway hx4) (zrun_V (rest := []) dX3_takeWordAway_21 ml_X3_56 rfl rfl (by decide) (by decide) rfl (Nat.le_of_ble_eq_true rfl)) rfl rfl (Nat.le_refl _) (Nat.le_refl _) ?_
      refine zr_iinc dX3_takeWordAway_24 rfl (by decide) rfl ?_
      refine zr_goto (tgt := 2) dX3_takeWordAway_27 (by decide) ?_
      obtain rfl := Option.some.inj h
      exact hk hx
set_option maxRecDepth 100000 in
set_option maxHeartbeats 4000000 in
theorem t_Li_takeWordAway_l32  {r : Option zAV} {s0 : zSt}  : ∀ (n : Nat) (x : Int × zSt) (out : zSt), zloop (f_Li_takeWordAway_l32) n x = some out → (zBT 5 m_X3_takeWordAway TLi r s0 70 [none, none] [] out) → zBT 5 m_X3_takeWordAway TLi r s0 32 [some (.inr (.inl (some 0))), some (.inl x.1)] [] x.2 := by
  refine zloop_B (B := fun (x : Int × zSt) (out : zSt) => zBT 5 m_X3_takeWordAway TLi r s0 70 [none, none] [] out → zBT 5 m_X3_takeWordAway TLi r s0 32 [some (.inr (.inl (some 0))), some (.inl x.1)] [] x.2) ?_
  intro x o out h hk hx
  unfold f_Li_takeWordAway_l32 at h
  refine zr_load ⟨_, dX3_takeWordAway_32, rfl⟩ rfl ?_
  refine zr_bipush dX3_takeWordAway_33 (by decide) (by decide) ?_
  refine zr_ic_ge (tgt := 70) dX3_takeWordAway_35 (by decide) (fun hc1 => ?_) (fun hc1 => ?_)
  · replace h := zpos h hc1
    refine zr_mask [false, false] rfl ?_
    obtain rfl := Option.some.inj h
    obtain rfl := hk
    exact hx
  · replace h := zneg h hc1
    refine zr_aload ⟨_, dX3_takeWordAway_38, rfl⟩ rfl ?_
    refine zt_getr dX3_takeWordAway_39 fl_X3_14 rfl rfl ?_
    obtain ⟨x2, hx2, h⟩ := zbind h
    refine zt_callis (t_By_count hx2) (zrun_V (rest := []) dX3_takeWordAway_42 ml_X3_84 rfl rfl (by decide) (by decide) rfl (Nat.le_of_ble_eq_true rfl)) rfl rfl sb_TLi_TBy_1 (Nat.le_refl _) (Nat.le_refl _) ?_
    refine zr_if_le (tgt := 70) dX3_takeWordAway_45 (by decide) (fun hc3 => ?_) (fun hc3 => ?_)
    · replace h := zpos h hc3
      refine zr_mask [false, false] rfl ?_
      obtain rfl := Option.some.inj h
      obtain rfl := hk
      exact hx
    · replace h := zneg h hc3
      refine zr_aload ⟨_, dX3_takeWordAway_48, rfl⟩ rfl ?_
      refine zt_getr dX3_takeWordAway_49 fl_X3_14 rfl rfl ?_
      obtain ⟨x4, hx4, h⟩ := zbind h
      refine zt_callis (t_By_last hx4) (zrun_V (rest := []) dX3_takeWordAway_52 ml_X3_90 rfl rfl (by decide) (by decide) rfl (Nat.le_of_ble_eq_true rfl)) rfl rfl sb_TLi_TBy_1 (Nat.le_refl _) (Nat.le_refl _) ?_
      refine zr_bipush dX3_takeWordAway_55 (by decide) (by decide) ?_
      refine zr_ic_eq (tgt := 70) dX3_takeWordAway_57 (by decide) (fun hc5 => ?_) (fun hc5 => ?_)
      · replace h := zpos h hc5
        refine zr_mask [false, false] rfl ?_
        obtain rfl := Option.some.inj h
        obtain rfl := hk
        exact hx
      · replace h := zneg h hc5
        refine zr_aload ⟨_, dX3_takeWordAway_60, rfl⟩ rfl ?_
        obtain ⟨x6, hx6, h⟩ := zbind h
        refine zt_calliv (t_Li_takeAway hx6) (zrun_V (rest := []) dX3_takeWordAway_61 ml_X3_56 rfl rfl (by decide) (by decide) rfl (Nat.le_of_ble_eq_true rfl)) rfl rfl (Nat.le_refl _) (Nat.le_refl _) ?_
        refine zr_iinc dX3_takeWordAway_64 rfl (by decide) rfl ?_
        refine zr_goto (tgt := 32) dX3_takeWordAway_67 (by decide) ?_
        obtain rfl := Option.some.inj h
        exact hk hx
set_option maxRecDepth 100000 in
set_option maxHeartbeats 4000000 in
theorem t_Li_takeWordAway_j30  {s : zSt} {res : Int × zSt} (h : f_Li_takeWordAway_j30 s = some res) : zBT 5 m_X3_takeWordAway TLi none res.2 30 [some (.inr (.inl (some 0))), none] [] s := by
  unfold f_Li_takeWordAway_j30 at h
  refine zr_iconst dX3_takeWordAway_30 (by decide) ?_
  refine zr_store ⟨_, dX3_takeWordAway_31, rfl⟩ (by decide) rfl ?_
  obtain ⟨y1, hy1, h⟩ := zbind h
  refine t_Li_takeWordAway_l32 _ _ _ hy1 ?_
  obtain rfl := Option.some.inj h
  exact zt_vret dX3_takeWordAway_70 rfl
set_option maxRecDepth 100000 in
set_option maxHeartbeats 4000000 in
theorem t_Li_takeWordAway  {s : zSt} {res : Int × zSt} (h : f_Li_takeWordAway s = some res) : zSpecT 5 m_X3_takeWordAway [.inr (.inl (some 0))] TLi s none res.2 := by
  refine zSpec_of (by decide +kernel) (Nat.le_of_ble_eq_true rfl) ?_
  show zBT 5 m_X3_takeWordAway TLi none res.2 0 [some (.inr (.inl (some 0))), none] [] s
  unfold f_Li_takeWordAway at h
  refine zr_iconst dX3_takeWordAway_0 (by decide) ?_
  refine zr_store ⟨_, dX3_takeWordAway_1, rfl⟩ (by decide) rfl ?_
  obtain ⟨y1, hy1, h⟩ := zbind h
  refine t_Li_takeWordAway_l2 _ _ _ hy1 ?_
  exact t_Li_takeWordAway_j30 h
set_option maxRecDepth 100000 in
set_option maxHeartbeats 4000000 in
theorem t_Li_takeLineAway_l2  {r : Option zAV} {s0 : zSt}  : ∀ (n : Nat) (x : Int × zSt) (out : zSt), zloop (f_Li_takeLineAway_l2) n x = some out → (zBT 5 m_X3_takeLineAway TLi r s0 28 [none, none] [] out) → zBT 5 m_X3_takeLineAway TLi r s0 2 [some (.inr (.inl (some 0))), some (.inl x.1)] [] x.2 := by
  refine zloop_B (B := fun (x : Int × zSt) (out : zSt) => zBT 5 m_X3_takeLineAway TLi r s0 28 [none, none] [] out → zBT 5 m_X3_takeLineAway TLi r s0 2 [some (.inr (.inl (some 0))), some (.inl x.1)] [] x.2) ?_
  intro x o out h hk hx
  unfold f_Li_takeLineAway_l2 at h
  refine zr_load ⟨_, dX3_takeLineAway_2, rfl⟩ rfl ?_
  refine zr_bipush dX3_takeLineAway_3 (by decide) (by decide) ?_
  refine zr_ic_ge (tgt := 28) dX3_takeLineAway_5 (by decide) (fun hc1 => ?_) (fun hc1 => ?_)
  · replace h := zpos h hc1
    refine zr_mask [false, false] rfl ?_
    obtain rfl := Option.some.inj h
    obtain rfl := hk
    exact hx
  · replace h := zneg h hc1
    refine zr_aload ⟨_, dX3_takeLineAway_8, rfl⟩ rfl ?_
    refine zt_getr dX3_takeLineAway_9 fl_X3_14 rfl rfl ?_
    obtain ⟨x2, hx2, h⟩ := zbind h
    refine zt_callis (t_By_count hx2) (zrun_V (rest := []) dX3_takeLineAway_12 ml_X3_84 rfl rfl (by decide) (by decide) rfl (Nat.le_of_ble_eq_true rfl)) rfl rfl sb_TLi_TBy_1 (Nat.le_refl _) (Nat.le_refl _) ?_
    refine zr_if_le (tgt := 28) dX3_takeLineAway_15 (by decide) (fun hc3 => ?_) (fun hc3 => ?_)
    · replace h := zpos h hc3
      refine zr_mask [false, false] rfl ?_
      obtain rfl := Option.some.inj h
      obtain rfl := hk
      exact hx
    · replace h := zneg h hc3
      refine zr_aload ⟨_, dX3_takeLineAway_18, rfl⟩ rfl ?_
      obtain ⟨x4, hx4, h⟩ := zbind h
      refine zt_calliv (t_Li_takeAway hx4) (zrun_V (rest := []) dX3_takeLineAway_19 ml_X3_56 rfl rfl (by decide) (by decide) rfl (Nat.le_of_ble_eq_true rfl)) rfl rfl (Nat.le_refl _) (Nat.le_refl _) ?_
      refine zr_iinc dX3_takeLineAway_22 rfl (by decide) rfl ?_
      refine zr_goto (tgt := 2) dX3_takeLineAway_25 (by decide) ?_
      obtain rfl := Option.some.inj h
      exact hk hx
set_option maxRecDepth 100000 in
set_option maxHeartbeats 4000000 in
theorem t_Li_takeLineAway  {s : zSt} {res : Int × zSt} (h : f_Li_takeLineAway s = some res) : zSpecT 5 m_X3_takeLineAway [.inr (.inl (some 0))] TLi s none res.2 := by
  refine zSpec_of (by decide +kernel) (Nat.le_of_ble_eq_true rfl) ?_
  show zBT 5 m_X3_takeLineAway TLi none res.2 0 [some (.inr (.inl (some 0))), none] [] s
  unfold f_Li_takeLineAway at h
  refine zr_iconst dX3_takeLineAway_0 (by decide) ?_
  refine zr_store ⟨_, dX3_takeLineAway_1, rfl⟩ (by decide) rfl ?_
  obtain ⟨y1, hy1, h⟩ := zbind h
  refine t_Li_takeLineAway_l2 _ _ _ hy1 ?_
  obtain rfl := Option.some.inj h
  exact zt_vret dX3_takeLineAway_28 rfl
set_option maxRecDepth 100000 in
set_option maxHeartbeats 4000000 in
theorem t_Li_endLine  {s : zSt} {res : Int × zSt} (h : f_Li_endLine s = some res) : zSpecT 5 m_X3_endLine [.inr (.inl (some 0))] TLi s none res.2 := by
  refine zSpec_of (by decide +kernel) (Nat.le_of_ble_eq_true rfl) ?_
  show zBT 5 m_X3_endLine TLi none res.2 0 [some (.inr (.inl (some 0)))] [] s
  unfold f_Li_endLine at h
  refine zr_aload ⟨_, dX3_endLine_0, rfl⟩ rfl ?_
  obtain ⟨x1, hx1, h⟩ := zbind h
  refine zt_calliv (t_Li_sendLine hx1) (zrun_V (rest := []) dX3_endLine_1 ml_X3_50 rfl rfl (by decide) (by decide) rfl (Nat.le_of_ble_eq_true rfl)) rfl rfl (Nat.le_refl _) (Nat.le_refl _) ?_
  refine zr_aload ⟨_, dX3_endLine_4, rfl⟩ rfl ?_
  refine zt_getr dX3_endLine_5 fl_X3_23 rfl rfl ?_
  refine zr_bipush dX3_endLine_8 (by decide) (by decide) ?_
  obtain ⟨x2, hx2, h⟩ := zbind h
  refine zt_calli (t_By_add hx2) (zrun_V (rest := []) dX3_endLine_10 ml_X3_40 rfl rfl (by decide) (by decide) rfl (Nat.le_of_ble_eq_true rfl)) rfl rfl sb_TLi_TBy_5 (Nat.le_refl _) (Nat.le_refl _) ?_
  refine zr_pop dX3_endLine_13 (Or.inr ⟨_, rfl⟩) ?_
  refine zr_aload ⟨_, dX3_endLine_14, rfl⟩ rfl ?_
  refine zr_bipush dX3_endLine_15 (by decide) (by decide) ?_
  obtain ⟨x3, hx3, h⟩ := zbind h
  refine zt_calliv (t_Li_echo hx3) (zrun_V (rest := []) dX3_endLine_17 ml_X3_53 rfl rfl (by decide) (by decide) rfl (Nat.le_of_ble_eq_true rfl)) rfl rfl (Nat.le_refl _) (Nat.le_refl _) ?_
  refine zr_aload ⟨_, dX3_endLine_20, rfl⟩ rfl ?_
  refine zr_bipush dX3_endLine_21 (by decide) (by decide) ?_
  obtain ⟨x4, hx4, h⟩ := zbind h
  refine zt_calliv (t_Li_echo hx4) (zrun_V (rest := []) dX3_endLine_23 ml_X3_53 rfl rfl (by decide) (by decide) rfl (Nat.le_of_ble_eq_true rfl)) rfl rfl (Nat.le_refl _) (Nat.le_refl _) ?_
  obtain rfl := Option.some.inj h
  exact zt_vret dX3_endLine_26 rfl
set_option maxRecDepth 100000 in
set_option maxHeartbeats 4000000 in
theorem t_Li_endInput  {s : zSt} {res : Int × zSt} (h : f_Li_endInput s = some res) : zSpecT 5 m_X3_endInput [.inr (.inl (some 0))] TLi s none res.2 := by
  refine zSpec_of (by decide +kernel) (Nat.le_of_ble_eq_true rfl) ?_
  show zBT 5 m_X3_endInput TLi none res.2 0 [some (.inr (.inl (some 0)))] [] s
  unfold f_Li_endInput at h
  refine zr_aload ⟨_, dX3_endInput_0, rfl⟩ rfl ?_
  refine zt_getr dX3_endInput_1 fl_X3_14 rfl rfl ?_
  obtain ⟨x1, hx1, h⟩ := zbind h
  refine zt_callis (t_By_count hx1) (zrun_V (rest := []) dX3_endInput_4 ml_X3_84 rfl rfl (by decide) (by decide) rfl (Nat.le_of_ble_eq_true rfl)) rfl rfl sb_TLi_TBy_1 (Nat.le_refl _) (Nat.le_refl _) ?_
  refine zr_if_ne (tgt := 20) dX3_endInput_7 (by decide) (fun hc2 => ?_) (fun hc2 => ?_)
  · replace h := zpos h hc2
    refine zr_aload ⟨_, dX3_endInput_20, rfl⟩ rfl ?_
    obtain ⟨x3, hx3, h⟩ := zbind h
    refine zt_calliv (t_Li_sendLine hx3) (zrun_V (rest := []) dX3_endInput_21 ml_X3_50 rfl rfl (by decide) (by decide) rfl (Nat.le_of_ble_eq_true rfl)) rfl rfl (Nat.le_refl _) (Nat.le_refl _) ?_
    obtain rfl := Option.some.inj h
    exact zt_vret dX3_endInput_24 rfl
  · replace h := zneg h hc2
    refine zr_aload ⟨_, dX3_endInput_10, rfl⟩ rfl ?_
    refine zr_dup dX3_endInput_11 (Or.inl True.intro) ?_
    refine zt_get dX3_endInput_12 fl_X3_97 rfl rfl ?_
    refine zr_iconst dX3_endInput_15 (by decide) ?_
    refine zr_iadd dX3_endInput_16 ?_
    refine zt_put dX3_endInput_17 fl_X3_97 rfl rfl ?_
    refine zr_aload ⟨_, dX3_endInput_20, rfl⟩ rfl ?_
    obtain ⟨x4, hx4, h⟩ := zbind h
    refine zt_calliv (t_Li_sendLine hx4) (zrun_V (rest := []) dX3_endInput_21 ml_X3_50 rfl rfl (by decide) (by decide) rfl (Nat.le_of_ble_eq_true rfl)) rfl rfl (Nat.le_refl _) (Nat.le_refl _) ?_
    obtain rfl := Option.some.inj h
    exact zt_vret dX3_endInput_24 rfl
set_option maxRecDepth 100000 in
set_option maxHeartbeats 4000000 in
theorem t_Li_accept {a1 : Int} {s : zSt} {res : Int × zSt} (h : f_Li_accept a1 s = some res) : zSpecT 6 m_X3_accept [.inr (.inl (some 0)), .inl a1] TLi s none res.2 := by
  refine zSpec_of (by decide +kernel) (Nat.le_of_ble_eq_true rfl) ?_
  show zBT 6 m_X3_accept TLi none res.2 0 [some (.inr (.inl (some 0))), some (.inl a1)] [] s
  unfold f_Li_accept at h
  refine zr_aload ⟨_, dX3_accept_0, rfl⟩ rfl ?_
  refine zt_get dX3_accept_1 fl_X3_47 rfl rfl ?_
  refine zr_if_eq (tgt := 22) dX3_accept_4 (by decide) (fun hc1 => ?_) (fun hc1 => ?_)
  · replace h := zpos h hc1
    refine zr_load ⟨_, dX3_accept_22, rfl⟩ rfl ?_
    refine zr_lsw (l := [(3, 116), (4, 109), (10, 102), (13, 102), (17, 144), (19, 136), (21, 95), (23, 88), (127, 81)]) dX3_accept_23 (by decide) rfl ?_
    refine zr_swc (tgt := 139) (by decide) (fun hc2 => ?_) (fun hc2 => ?_)
    · replace h := zpos h hc2
      refine zr_aload ⟨_, dX3_accept_139, rfl⟩ rfl ?_
      refine zt_getr dX3_accept_140 fl_X3_14 rfl rfl ?_
      obtain ⟨x3, hx3, h⟩ := zbind h
      refine zt_callv (t_By_clear hx3) (zrun_V (rest := []) dX3_accept_143 ml_X3_71 rfl rfl (by decide) (by decide) rfl (Nat.le_of_ble_eq_true rfl)) rfl rfl sb_TLi_TBy_1 (Nat.le_refl _) (Nat.le_refl _) ?_
      refine zr_aload ⟨_, dX3_accept_146, rfl⟩ rfl ?_
      refine zr_dup dX3_accept_147 (Or.inl True.intro) ?_
      refine zt_get dX3_accept_148 fl_X3_74 rfl rfl ?_
      refine zr_iconst dX3_accept_151 (by decide) ?_
      refine zr_iadd dX3_accept_152 ?_
      refine zt_put dX3_accept_153 fl_X3_74 rfl rfl ?_
      refine zr_goto (tgt := 179) dX3_accept_156 (by decide) ?_
      obtain rfl := Option.some.inj h
      exact zt_vret dX3_accept_179 rfl
    replace h := zneg h hc2
    refine zr_swc (tgt := 132) (by decide) (fun hc4 => ?_) (fun hc4 => ?_)
    · replace h := zpos h hc4
      refine zr_aload ⟨_, dX3_accept_132, rfl⟩ rfl ?_
      obtain ⟨x5, hx5, h⟩ := zbind h
      refine zt_calliv (t_Li_endInput hx5) (zrun_V (rest := []) dX3_accept_133 ml_X3_68 rfl rfl (by decide) (by decide) rfl (Nat.le_of_ble_eq_true rfl)) rfl rfl (Nat.le_refl _) (Nat.le_refl _) ?_
      refine zr_goto (tgt := 179) dX3_accept_136 (by decide) ?_
      obtain rfl := Option.some.inj h
      exact zt_vret dX3_accept_179 rfl
    replace h := zneg h hc4
    refine zr_swc (tgt := 125) (by decide) (fun hc6 => ?_) (fun hc6 => ?_)
    · replace h := zpos h hc6
      refine zr_aload ⟨_, dX3_accept_125, rfl⟩ rfl ?_
      obtain ⟨x7, hx7, h⟩ := zbind h
      refine zt_calliv (t_Li_endLine hx7) (zrun_V (rest := []) dX3_accept_126 ml_X3_65 rfl rfl (by decide) (by decide) rfl (Nat.le_of_ble_eq_true rfl)) rfl rfl (Nat.le_refl _) (Nat.le_refl _) ?_
      refine zr_goto (tgt := 179) dX3_accept_129 (by decide) ?_
      obtain rfl := Option.some.inj h
      exact zt_vret dX3_accept_179 rfl
    replace h := zneg h hc6
    refine zr_swc (tgt := 125) (by decide) (fun hc8 => ?_) (fun hc8 => ?_)
    · replace h := zpos h hc8
      refine zr_aload ⟨_, dX3_accept_125, rfl⟩ rfl ?_
      obtain ⟨x9, hx9, h⟩ := zbind h
      refine zt_calliv (t_Li_endLine hx9) (zrun_V (rest := []) dX3_accept_126 ml_X3_65 rfl rfl (by decide) (by decide) rfl (Nat.le_of_ble_eq_true rfl)) rfl rfl (Nat.le_refl _) (Nat.le_refl _) ?_
      refine zr_goto (tgt := 179) dX3_accept_129 (by decide) ?_
      obtain rfl := Option.some.inj h
      exact zt_vret dX3_accept_179 rfl
    replace h := zneg h hc8
    refine zr_swc (tgt := 167) (by decide) (fun hc10 => ?_) (fun hc10 => ?_)
    · replace h := zpos h hc10
      refine zr_aload ⟨_, dX3_accept_167, rfl⟩ rfl ?_
      obtain ⟨x11, hx11, h⟩ := zbind h
      refine zt_calliv (t_Li_start hx11) (zrun_V (rest := []) dX3_accept_168 ml_X3_78 rfl rfl (by decide) (by decide) rfl (Nat.le_of_ble_eq_true rfl)) rfl rfl (Nat.le_refl _) (Nat.le_refl _) ?_
      refine zr_goto (tgt := 179) dX3_accept_171 (by decide) ?_
      obtain rfl := Option.some.inj h
      exact zt_vret dX3_accept_179 rfl
    replace h := zneg h hc10
    refine zr_swc (tgt := 159) (by decide) (fun hc12 => ?_) (fun hc12 => ?_)
    · replace h := zpos h hc12
      refine zr_aload ⟨_, dX3_accept_159, rfl⟩ rfl ?_
      refine zr_iconst dX3_accept_160 (by decide) ?_
      refine zt_putz dX3_accept_161 fl_X3_33 rfl rfl (Or.inr rfl) ?_
      refine zr_goto (tgt := 179) dX3_accept_164 (by decide) ?_
      obtain rfl := Option.some.inj h
      exact zt_vret dX3_accept_179 rfl
    replace h := zneg h hc12
    refine zr_swc (tgt := 118) (by decide) (fun hc13 => ?_) (fun hc13 => ?_)
    · replace h := zpos h hc13
      refine zr_aload ⟨_, dX3_accept_118, rfl⟩ rfl ?_
      obtain ⟨x14, hx14, h⟩ := zbind h
      refine zt_calliv (t_Li_takeLineAway hx14) (zrun_V (rest := []) dX3_accept_119 ml_X3_62 rfl rfl (by decide) (by decide) rfl (Nat.le_of_ble_eq_true rfl)) rfl rfl (Nat.le_refl _) (Nat.le_refl _) ?_
      refine zr_goto (tgt := 179) dX3_accept_122 (by decide) ?_
      obtain rfl := Option.some.inj h
      exact zt_vret dX3_accept_179 rfl
    replace h := zneg h hc13
    refine zr_swc (tgt := 111) (by decide) (fun hc15 => ?_) (fun hc15 => ?_)
    · replace h := zpos h hc15
      refine zr_aload ⟨_, dX3_accept_111, rfl⟩ rfl ?_
      obtain ⟨x16, hx16, h⟩ := zbind h
      refine zt_calliv (t_Li_takeWordAway hx16) (zrun_V (rest := []) dX3_accept_112 ml_X3_59 rfl rfl (by decide) (by decide) rfl (Nat.le_of_ble_eq_true rfl)) rfl rfl (Nat.le_refl _) (Nat.le_refl _) ?_
      refine zr_goto (tgt := 179) dX3_accept_115 (by decide) ?_
      obtain rfl := Option.some.inj h
      exact zt_vret dX3_accept_179 rfl
    replace h := zneg h hc15
    refine zr_swc (tgt := 104) (by decide) (fun hc17 => ?_) (fun hc17 => ?_)
    · replace h := zpos h hc17
      refine zr_aload ⟨_, dX3_accept_104, rfl⟩ rfl ?_
      obtain ⟨x18, hx18, h⟩ := zbind h
      refine zt_calliv (t_Li_takeAway hx18) (zrun_V (rest := []) dX3_accept_105 ml_X3_56 rfl rfl (by decide) (by decide) rfl (Nat.le_of_ble_eq_true rfl)) rfl rfl (Nat.le_refl _) (Nat.le_refl _) ?_
      refine zr_goto (tgt := 179) dX3_accept_108 (by decide) ?_
      obtain rfl := Option.some.inj h
      exact zt_vret dX3_accept_179 rfl
    replace h := zneg h hc17
    refine zr_swd (tgt := 174) (by decide) ?_
    refine zr_aload ⟨_, dX3_accept_174, rfl⟩ rfl ?_
    refine zr_load ⟨_, dX3_accept_175, rfl⟩ rfl ?_
    obtain ⟨x19, hx19, h⟩ := zbind h
    refine zt_calliv (t_Li_addToLine hx19) (zrun_V (rest := []) dX3_accept_176 ml_X3_81 rfl rfl (by decide) (by decide) rfl (Nat.le_of_ble_eq_true rfl)) rfl rfl (Nat.le_refl _) (Nat.le_refl _) ?_
    obtain rfl := Option.some.inj h
    exact zt_vret dX3_accept_179 rfl
  · replace h := zneg h hc1
    refine zr_aload ⟨_, dX3_accept_7, rfl⟩ rfl ?_
    refine zt_getr dX3_accept_8 fl_X3_23 rfl rfl ?_
    refine zr_load ⟨_, dX3_accept_11, rfl⟩ rfl ?_
    obtain ⟨x20, hx20, h⟩ := zbind h
    refine zt_calli (t_By_add hx20) (zrun_V (rest := []) dX3_accept_12 ml_X3_40 rfl rfl (by decide) (by decide) rfl (Nat.le_of_ble_eq_true rfl)) rfl rfl sb_TLi_TBy_5 (Nat.le_refl _) (Nat.le_refl _) ?_
    refine zr_pop dX3_accept_15 (Or.inr ⟨_, rfl⟩) ?_
    refine zr_aload ⟨_, dX3_accept_16, rfl⟩ rfl ?_
    refine zr_load ⟨_, dX3_accept_17, rfl⟩ rfl ?_
    obtain ⟨x21, hx21, h⟩ := zbind h
    refine zt_calliv (t_Li_echo hx21) (zrun_V (rest := []) dX3_accept_18 ml_X3_53 rfl rfl (by decide) (by decide) rfl (Nat.le_of_ble_eq_true rfl)) rfl rfl (Nat.le_refl _) (Nat.le_refl _) ?_
    obtain rfl := Option.some.inj h
    exact zt_vret dX3_accept_21 rfl
