set_option maxRecDepth 100000 in
set_option maxHeartbeats 4000000 in
theorem t_Pi_rows  {s : zSt} {res : Int} (h : f_Pi_rows s = some res) : zSpecT 1 m_X6_rows [.inr (.inl (some 0))] TPi s (some (.inl res)) s := by
  refine zSpec_of (by decide +kernel) (Nat.le_of_ble_eq_true rfl) ?_
  show zBT 1 m_X6_rows TPi (some (.inl res)) s 0 [some (.inr (.inl (some 0)))] [] s
  unfold f_Pi_rows at h
  refine zr_aload ⟨_, dX6_rows_0, rfl⟩ rfl ?_
  refine zt_get dX6_rows_1 fl_X6_19 rfl rfl ?_
  obtain rfl := Option.some.inj h
  exact zt_iret dX6_rows_4 rfl
set_option maxRecDepth 100000 in
set_option maxHeartbeats 4000000 in
theorem t_Pi_columns  {s : zSt} {res : Int} (h : f_Pi_columns s = some res) : zSpecT 1 m_X6_columns [.inr (.inl (some 0))] TPi s (some (.inl res)) s := by
  refine zSpec_of (by decide +kernel) (Nat.le_of_ble_eq_true rfl) ?_
  show zBT 1 m_X6_columns TPi (some (.inl res)) s 0 [some (.inr (.inl (some 0)))] [] s
  unfold f_Pi_columns at h
  refine zr_aload ⟨_, dX6_columns_0, rfl⟩ rfl ?_
  refine zt_get dX6_columns_1 fl_X6_23 rfl rfl ?_
  obtain rfl := Option.some.inj h
  exact zt_iret dX6_columns_4 rfl
set_option maxRecDepth 100000 in
set_option maxHeartbeats 4000000 in
theorem t_Pi_at {a1 a2 : Int} {s : zSt} {res : Int} (h : f_Pi_at a1 a2 s = some res) : zSpecT 1 m_X6_at [.inr (.inl (some 0)), .inl a1, .inl a2] TPi s (some (.inl res)) s := by
  refine zSpec_of (by decide +kernel) (Nat.le_of_ble_eq_true rfl) ?_
  show zBT 1 m_X6_at TPi (some (.inl res)) s 0 [some (.inr (.inl (some 0))), some (.inl a1), some (.inl a2)] [] s
  unfold f_Pi_at at h
  refine zr_load ⟨_, dX6_at_0, rfl⟩ rfl ?_
  refine zr_if_lt (tgt := 20) dX6_at_1 (by decide) (fun hc1 => ?_) (fun hc1 => ?_)
  · replace h := zpos h hc1
    refine zr_iconst dX6_at_20 (by decide) ?_
    obtain rfl := Option.some.inj h
    exact zt_iret dX6_at_21 rfl
  · replace h := zneg h hc1
    refine zr_load ⟨_, dX6_at_4, rfl⟩ rfl ?_
    refine zr_bipush dX6_at_5 (by decide) (by decide) ?_
    refine zr_ic_ge (tgt := 20) dX6_at_7 (by decide) (fun hc2 => ?_) (fun hc2 => ?_)
    · replace h := zpos h hc2
      refine zr_iconst dX6_at_20 (by decide) ?_
      obtain rfl := Option.some.inj h
      exact zt_iret dX6_at_21 rfl
    · replace h := zneg h hc2
      refine zr_load ⟨_, dX6_at_10, rfl⟩ rfl ?_
      refine zr_if_lt (tgt := 20) dX6_at_11 (by decide) (fun hc3 => ?_) (fun hc3 => ?_)
      · replace h := zpos h hc3
        refine zr_iconst dX6_at_20 (by decide) ?_
        obtain rfl := Option.some.inj h
        exact zt_iret dX6_at_21 rfl
      · replace h := zneg h hc3
        refine zr_load ⟨_, dX6_at_14, rfl⟩ rfl ?_
        refine zr_bipush dX6_at_15 (by decide) (by decide) ?_
        refine zr_ic_lt (tgt := 22) dX6_at_17 (by decide) (fun hc4 => ?_) (fun hc4 => ?_)
        · replace h := zpos h hc4
          refine zr_aload ⟨_, dX6_at_22, rfl⟩ rfl ?_
          refine zt_getr dX6_at_23 fl_X6_9 rfl rfl ?_
          refine zr_load ⟨_, dX6_at_26, rfl⟩ rfl ?_
          refine zr_bipush dX6_at_27 (by decide) (by decide) ?_
          refine zr_imul dX6_at_29 ?_
          refine zr_load ⟨_, dX6_at_30, rfl⟩ rfl ?_
          refine zr_iadd dX6_at_31 ?_
          obtain ⟨hb5, h⟩ := zchk h
          refine zt_iaload dX6_at_32 rfl hb5 ?_
          obtain rfl := Option.some.inj h
          exact zt_iret dX6_at_33 rfl
        · replace h := zneg h hc4
          refine zr_iconst dX6_at_20 (by decide) ?_
          obtain rfl := Option.some.inj h
          exact zt_iret dX6_at_21 rfl
set_option maxRecDepth 100000 in
set_option maxHeartbeats 4000000 in
theorem t_Pi_put {a1 a2 a3 : Int} {s : zSt} {res : Int × zSt} (h : f_Pi_put a1 a2 a3 s = some res) : zSpecT 1 m_X6_put [.inr (.inl (some 0)), .inl a1, .inl a2, .inl a3] TPi s none res.2 := by
  refine zSpec_of (by decide +kernel) (Nat.le_of_ble_eq_true rfl) ?_
  show zBT 1 m_X6_put TPi none res.2 0 [some (.inr (.inl (some 0))), some (.inl a1), some (.inl a2), some (.inl a3)] [] s
  unfold f_Pi_put at h
  refine zr_load ⟨_, dX6_put_0, rfl⟩ rfl ?_
  refine zr_if_lt (tgt := 24) dX6_put_1 (by decide) (fun hc1 => ?_) (fun hc1 => ?_)
  · replace h := zpos h hc1
    obtain rfl := Option.some.inj h
    exact zt_vret dX6_put_24 rfl
  · replace h := zneg h hc1
    refine zr_load ⟨_, dX6_put_4, rfl⟩ rfl ?_
    refine zr_aload ⟨_, dX6_put_5, rfl⟩ rfl ?_
    refine zt_get dX6_put_6 fl_X6_19 rfl rfl ?_
    refine zr_ic_ge (tgt := 24) dX6_put_9 (by decide) (fun hc2 => ?_) (fun hc2 => ?_)
    · replace h := zpos h hc2
      obtain rfl := Option.some.inj h
      exact zt_vret dX6_put_24 rfl
    · replace h := zneg h hc2
      refine zr_load ⟨_, dX6_put_12, rfl⟩ rfl ?_
      refine zr_if_lt (tgt := 24) dX6_put_13 (by decide) (fun hc3 => ?_) (fun hc3 => ?_)
      · replace h := zpos h hc3
        obtain rfl := Option.some.inj h
        exact zt_vret dX6_put_24 rfl
      · replace h := zneg h hc3
        refine zr_load ⟨_, dX6_put_16, rfl⟩ rfl ?_
        refine zr_aload ⟨_, dX6_put_17, rfl⟩ rfl ?_
        refine zt_get dX6_put_18 fl_X6_23 rfl rfl ?_
        refine zr_ic_lt (tgt := 25) dX6_put_21 (by decide) (fun hc4 => ?_) (fun hc4 => ?_)
        · replace h := zpos h hc4
          refine zr_load ⟨_, dX6_put_25, rfl⟩ rfl ?_
          refine zr_bipush dX6_put_26 (by decide) (by decide) ?_
          refine zr_ic_ge (tgt := 49) dX6_put_28 (by decide) (fun hc5 => ?_) (fun hc5 => ?_)
          · replace h := zpos h hc5
            obtain rfl := Option.some.inj h
            exact zt_vret dX6_put_49 rfl
          · replace h := zneg h hc5
            refine zr_load ⟨_, dX6_put_31, rfl⟩ rfl ?_
            refine zr_bipush dX6_put_32 (by decide) (by decide) ?_
            refine zr_ic_ge (tgt := 49) dX6_put_34 (by decide) (fun hc6 => ?_) (fun hc6 => ?_)
            · replace h := zpos h hc6
              obtain rfl := Option.some.inj h
              exact zt_vret dX6_put_49 rfl
            · replace h := zneg h hc6
              refine zr_aload ⟨_, dX6_put_37, rfl⟩ rfl ?_
              refine zt_getr dX6_put_38 fl_X6_9 rfl rfl ?_
              refine zr_load ⟨_, dX6_put_41, rfl⟩ rfl ?_
              refine zr_bipush dX6_put_42 (by decide) (by decide) ?_
              refine zr_imul dX6_put_44 ?_
              refine zr_load ⟨_, dX6_put_45, rfl⟩ rfl ?_
              refine zr_iadd dX6_put_46 ?_
              refine zr_load ⟨_, dX6_put_47, rfl⟩ rfl ?_
              obtain ⟨hb7, h⟩ := zchk h
              refine zt_iastore dX6_put_48 rfl hb7 ?_
              obtain rfl := Option.some.inj h
              exact zt_vret dX6_put_49 rfl
        · replace h := zneg h hc4
          obtain rfl := Option.some.inj h
          exact zt_vret dX6_put_24 rfl
set_option maxRecDepth 100000 in
set_option maxHeartbeats 4000000 in
theorem t_Pi_isGoing {a1 : Int} {s : zSt} {res : Int} (h : f_Pi_isGoing a1 s = some res) : zSpecT 1 m_X6_isGoing [.inr (.inl (some 0)), .inl a1] TPi s (some (.inl res)) s := by
  refine zSpec_of (by decide +kernel) (Nat.le_of_ble_eq_true rfl) ?_
  show zBT 1 m_X6_isGoing TPi (some (.inl res)) s 0 [some (.inr (.inl (some 0))), some (.inl a1)] [] s
  unfold f_Pi_isGoing at h
  refine zr_load ⟨_, dX6_isGoing_0, rfl⟩ rfl ?_
  refine zr_if_lt (tgt := 23) dX6_isGoing_1 (by decide) (fun hc1 => ?_) (fun hc1 => ?_)
  · replace h := zpos h hc1
    refine zr_iconst dX6_isGoing_23 (by decide) ?_
    obtain rfl := Option.some.inj h
    exact zt_zret dX6_isGoing_24 rfl (Or.inl rfl)
  · replace h := zneg h hc1
    refine zr_load ⟨_, dX6_isGoing_4, rfl⟩ rfl ?_
    refine zr_bipush dX6_isGoing_5 (by decide) (by decide) ?_
    refine zr_ic_ge (tgt := 23) dX6_isGoing_7 (by decide) (fun hc2 => ?_) (fun hc2 => ?_)
    · replace h := zpos h hc2
      refine zr_iconst dX6_isGoing_23 (by decide) ?_
      obtain rfl := Option.some.inj h
      exact zt_zret dX6_isGoing_24 rfl (Or.inl rfl)
    · replace h := zneg h hc2
      refine zr_aload ⟨_, dX6_isGoing_10, rfl⟩ rfl ?_
      refine zt_getr dX6_isGoing_11 fl_X6_15 rfl rfl ?_
      refine zr_load ⟨_, dX6_isGoing_14, rfl⟩ rfl ?_
      obtain ⟨hb3, h⟩ := zchk h
      refine zt_baload dX6_isGoing_15 rfl hb3 ?_
      have hj4 : zBT 1 m_X6_isGoing TPi (some (.inl res)) s 24 [some (.inr (.inl (some 0))), some (.inl a1)] [.inl (if ((s.2 2) a1) = 0 then 0 else 1)] s := by
        obtain rfl := Option.some.inj h
        exact zt_zret dX6_isGoing_24 rfl (z01i (Or.inl rfl) (Or.inr rfl))
      refine zr_if_eq (tgt := 23) dX6_isGoing_16 (by decide) (fun hc5 => ?_) (fun hc5 => ?_)
      · have hp6 := zif_t hj4 hc5
        refine zr_iconst dX6_isGoing_23 (by decide) ?_
        exact hp6
      · have hp7 := zif_f hj4 hc5
        refine zr_iconst dX6_isGoing_19 (by decide) ?_
        refine zr_goto (tgt := 24) dX6_isGoing_20 (by decide) ?_
        exact hp7
set_option maxRecDepth 100000 in
set_option maxHeartbeats 4000000 in
theorem t_Pi_setGoing {a1 a2 : Int} {s : zSt} {res : Int × zSt} (h : f_Pi_setGoing a1 a2 s = some res) : zSpecT 1 m_X6_setGoing [.inr (.inl (some 0)), .inl a1, .inl a2] TPi s none res.2 := by
  refine zSpec_of (by decide +kernel) (Nat.le_of_ble_eq_true rfl) ?_
  show zBT 1 m_X6_setGoing TPi none res.2 0 [some (.inr (.inl (some 0))), some (.inl a1), some (.inl a2)] [] s
  unfold f_Pi_setGoing at h
  refine zr_load ⟨_, dX6_setGoing_0, rfl⟩ rfl ?_
  refine zr_if_lt (tgt := 17) dX6_setGoing_1 (by decide) (fun hc1 => ?_) (fun hc1 => ?_)
  · replace h := zpos h hc1
    obtain rfl := Option.some.inj h
    exact zt_vret dX6_setGoing_17 rfl
  · replace h := zneg h hc1
    refine zr_load ⟨_, dX6_setGoing_4, rfl⟩ rfl ?_
    refine zr_bipush dX6_setGoing_5 (by decide) (by decide) ?_
    refine zr_ic_ge (tgt := 17) dX6_setGoing_7 (by decide) (fun hc2 => ?_) (fun hc2 => ?_)
    · replace h := zpos h hc2
      obtain rfl := Option.some.inj h
      exact zt_vret dX6_setGoing_17 rfl
    · replace h := zneg h hc2
      refine zr_aload ⟨_, dX6_setGoing_10, rfl⟩ rfl ?_
      refine zt_getr dX6_setGoing_11 fl_X6_15 rfl rfl ?_
      refine zr_load ⟨_, dX6_setGoing_14, rfl⟩ rfl ?_
      refine zr_load ⟨_, dX6_setGoing_15, rfl⟩ rfl ?_
      obtain ⟨hb3, h⟩ := zchk h
      refine zt_bastore dX6_setGoing_16 rfl hb3.1 hb3.2 ?_
      obtain rfl := Option.some.inj h
      exact zt_vret dX6_setGoing_17 rfl
set_option maxRecDepth 100000 in
set_option maxHeartbeats 4000000 in
theorem t_Pi_filled_l7 {c1 : Int}  {s : zSt} : ∀ (n : Nat) (x : Int) (out : Int), zloop (f_Pi_filled_l7 c1 s) n x = some out → zBT 2 m_X6_filled TPi (some (.inl out)) s 7 [some (.inr (.inl (some 0))), some (.inl c1), some (.inl x)] [] s := by
  refine zloop_B (B := fun (x : Int) (out : Int) => zBT 2 m_X6_filled TPi (some (.inl out)) s 7 [some (.inr (.inl (some 0))), some (.inl c1), some (.inl x)] [] s) ?_
  intro x o out h hk
  unfold f_Pi_filled_l7 at h
  refine zr_load ⟨_, dX6_filled_7, rfl⟩ rfl ?_
  refine zr_if_lt (tgt := 30) dX6_filled_8 (by decide) (fun hc1 => ?_) (fun hc1 => ?_)
  · replace h := zpos h hc1
    refine zr_iconst dX6_filled_30 (by decide) ?_
    obtain rfl := Option.some.inj h
    obtain rfl := hk
    exact zt_iret dX6_filled_31 rfl
  · replace h := zneg h hc1
    refine zr_aload ⟨_, dX6_filled_11, rfl⟩ rfl ?_
    refine zr_load ⟨_, dX6_filled_12, rfl⟩ rfl ?_
    refine zr_load ⟨_, dX6_filled_13, rfl⟩ rfl ?_
    obtain ⟨x2, hx2, h⟩ := zbind h
    refine zt_callisi (t_Pi_at hx2) (zrun_V (rest := []) dX6_filled_14 ml_X6_26 rfl rfl (by decide) (by decide) rfl (Nat.le_of_ble_eq_true rfl)) rfl rfl (Nat.le_refl _) (Nat.le_refl _) ?_
    refine zr_if_eq (tgt := 24) dX6_filled_17 (by decide) (fun hc3 => ?_) (fun hc3 => ?_)
    · replace h := zpos h hc3
      refine zr_iinc dX6_filled_24 rfl (by decide) rfl ?_
      refine zr_goto (tgt := 7) dX6_filled_27 (by decide) ?_
      obtain rfl := Option.some.inj h
      exact hk
    · replace h := zneg h hc3
      refine zr_load ⟨_, dX6_filled_20, rfl⟩ rfl ?_
      refine zr_iconst dX6_filled_21 (by decide) ?_
      refine zr_iadd dX6_filled_22 ?_
      obtain rfl := Option.some.inj h
      obtain rfl := hk
      exact zt_iret dX6_filled_23 rfl
set_option maxRecDepth 100000 in
set_option maxHeartbeats 4000000 in
theorem t_Pi_filled {a1 : Int} {s : zSt} {res : Int} (h : f_Pi_filled a1 s = some res) : zSpecT 2 m_X6_filled [.inr (.inl (some 0)), .inl a1] TPi s (some (.inl res)) s := by
  refine zSpec_of (by decide +kernel) (Nat.le_of_ble_eq_true rfl) ?_
  show zBT 2 m_X6_filled TPi (some (.inl res)) s 0 [some (.inr (.inl (some 0))), some (.inl a1), none] [] s
  unfold f_Pi_filled at h
  refine zr_aload ⟨_, dX6_filled_0, rfl⟩ rfl ?_
  refine zt_get dX6_filled_1 fl_X6_23 rfl rfl ?_
  refine zr_iconst dX6_filled_4 (by decide) ?_
  refine zr_isub dX6_filled_5 ?_
  refine zr_store ⟨_, dX6_filled_6, rfl⟩ (by decide) rfl ?_
  exact t_Pi_filled_l7 _ _ _ h
set_option maxRecDepth 100000 in
set_option maxHeartbeats 4000000 in
theorem t_Pi_part {a1 a2 : Int} {s : zSt} {res : Int × zSt} (h : f_Pi_part a1 a2 s = some res) : zSpecT 2 m_X6_part [.inr (.inl (some 0)), .inl a1, .inl a2] TPi s none res.2 := by
  refine zSpec_of (by decide +kernel) (Nat.le_of_ble_eq_true rfl) ?_
  show zBT 2 m_X6_part TPi none res.2 0 [some (.inr (.inl (some 0))), some (.inl a1), some (.inl a2)] [] s
  unfold f_Pi_part at h
  refine zr_aload ⟨_, dX6_part_0, rfl⟩ rfl ?_
  refine zr_load ⟨_, dX6_part_1, rfl⟩ rfl ?_
  refine zr_load ⟨_, dX6_part_2, rfl⟩ rfl ?_
  obtain ⟨x1, hx1, h⟩ := zbind h
  refine zt_callisi (t_Pi_at hx1) (zrun_V (rest := []) dX6_part_3 ml_X6_26 rfl rfl (by decide) (by decide) rfl (Nat.le_of_ble_eq_true rfl)) rfl rfl (Nat.le_refl _) (Nat.le_refl _) ?_
  refine zr_bipush dX6_part_6 (by decide) (by decide) ?_
  refine zr_ic_ne (tgt := 27) dX6_part_8 (by decide) (fun hc2 => ?_) (fun hc2 => ?_)
  · replace h := zpos h hc2
    obtain rfl := Option.some.inj h
    exact zt_vret dX6_part_27 rfl
  · replace h := zneg h hc2
    refine zr_aload ⟨_, dX6_part_11, rfl⟩ rfl ?_
    refine zr_load ⟨_, dX6_part_12, rfl⟩ rfl ?_
    refine zr_load ⟨_, dX6_part_13, rfl⟩ rfl ?_
    refine zr_iconst dX6_part_14 (by decide) ?_
    refine zr_isub dX6_part_15 ?_
    refine zr_iconst dX6_part_16 (by decide) ?_
    obtain ⟨x3, hx3, h⟩ := zbind h
    refine zt_calliv (t_Pi_put hx3) (zrun_V (rest := []) dX6_part_17 ml_X6_30 rfl rfl (by decide) (by decide) rfl (Nat.le_of_ble_eq_true rfl)) rfl rfl (Nat.le_refl _) (Nat.le_refl _) ?_
    refine zr_aload ⟨_, dX6_part_20, rfl⟩ rfl ?_
    refine zr_load ⟨_, dX6_part_21, rfl⟩ rfl ?_
    refine zr_load ⟨_, dX6_part_22, rfl⟩ rfl ?_
    refine zr_iconst dX6_part_23 (by decide) ?_
    obtain ⟨x4, hx4, h⟩ := zbind h
    refine zt_calliv (t_Pi_put hx4) (zrun_V (rest := []) dX6_part_24 ml_X6_30 rfl rfl (by decide) (by decide) rfl (Nat.le_of_ble_eq_true rfl)) rfl rfl (Nat.le_refl _) (Nat.le_refl _) ?_
    obtain rfl := Option.some.inj h
    exact zt_vret dX6_part_27 rfl
set_option maxRecDepth 100000 in
set_option maxHeartbeats 4000000 in
theorem t_Pi_copyCells_l12 {c2 : Int} {r : Option zAV} {s0 : zSt}  : ∀ (n : Nat) (x : Int × zSt) (out : zSt), zloop (f_Pi_copyCells_l12 c2) n x = some out → (zBT 2 m_X6_copyCells TPiPi r s0 38 [some (.inr (.inl (some 0))), some (.inr (.inl (some 3))), some (.inl c2), none] [] out) → zBT 2 m_X6_copyCells TPiPi r s0 12 [some (.inr (.inl (some 0))), some (.inr (.inl (some 3))), some (.inl c2), some (.inl x.1)] [] x.2 := by
  refine zloop_B (B := fun (x : Int × zSt) (out : zSt) => zBT 2 m_X6_copyCells TPiPi r s0 38 [some (.inr (.inl (some 0))), some (.inr (.inl (some 3))), some (.inl c2), none] [] out → zBT 2 m_X6_copyCells TPiPi r s0 12 [some (.inr (.inl (some 0))), some (.inr (.inl (some 3))), some (.inl c2), some (.inl x.1)] [] x.2) ?_
  intro x o out h hk hx
  unfold f_Pi_copyCells_l12 at h
  refine zr_load ⟨_, dX6_copyCells_12, rfl⟩ rfl ?_
  refine zr_aload ⟨_, dX6_copyCells_13, rfl⟩ rfl ?_
  refine zt_get dX6_copyCells_14 fl_X6_23 rfl rfl ?_
  refine zr_ic_ge (tgt := 38) dX6_copyCells_17 (by decide) (fun hc1 => ?_) (fun hc1 => ?_)
  · replace h := zpos h hc1
    refine zr_mask [true, true, true, false] rfl ?_
    obtain rfl := Option.some.inj h
    obtain rfl := hk
    exact hx
  · replace h := zneg h hc1
    refine zr_aload ⟨_, dX6_copyCells_20, rfl⟩ rfl ?_
    refine zr_load ⟨_, dX6_copyCells_21, rfl⟩ rfl ?_
    refine zr_load ⟨_, dX6_copyCells_22, rfl⟩ rfl ?_
    refine zr_aload ⟨_, dX6_copyCells_23, rfl⟩ rfl ?_
    refine zr_load ⟨_, dX6_copyCells_24, rfl⟩ rfl ?_
    refine zr_load ⟨_, dX6_copyCells_25, rfl⟩ rfl ?_
    obtain ⟨x2, hx2, h⟩ := zbind h
    refine zt_callis (t_Pi_at hx2) (zrun_V (rest := [.inl x.1, .inl c2, .inr (.inl (some 0))]) dX6_copyCells_26 ml_X6_26 rfl rfl (by decide) (by decide) rfl (Nat.le_of_ble_eq_true rfl)) rfl rfl sb_TPiPi_TPi_3 (Nat.le_refl _) (Nat.le_refl _) ?_
    obtain ⟨x3, hx3, h⟩ := zbind h
    refine zt_callv (t_Pi_put hx3) (zrun_V (rest := []) dX6_copyCells_29 ml_X6_30 rfl rfl (by decide) (by decide) rfl (Nat.le_of_ble_eq_true rfl)) rfl rfl sb_TPiPi_TPi_0 (Nat.le_refl _) (Nat.le_refl _) ?_
    refine zr_iinc dX6_copyCells_32 rfl (by decide) rfl ?_
    refine zr_goto (tgt := 12) dX6_copyCells_35 (by decide) ?_
    obtain rfl := Option.some.inj h
    exact hk hx
set_option maxRecDepth 100000 in
set_option maxHeartbeats 4000000 in
theorem t_Pi_copyCells_l2  {r : Option zAV} {s0 : zSt}  : ∀ (n : Nat) (x : Int × zSt) (out : zSt), zloop (f_Pi_copyCells_l2) n x = some out → (zBT 2 m_X6_copyCells TPiPi r s0 44 [none, none, none, none] [] out) → zBT 2 m_X6_copyCells TPiPi r s0 2 [some (.inr (.inl (some 0))), some (.inr (.inl (some 3))), some (.inl x.1), none] [] x.2 := by
  refine zloop_B (B := fun (x : Int × zSt) (out : zSt) => zBT 2 m_X6_copyCells TPiPi r s0 44 [none, none, none, none] [] out → zBT 2 m_X6_copyCells TPiPi r s0 2 [some (.inr (.inl (some 0))), some (.inr (.inl (some 3))), some (.inl x.1), none] [] x.2) ?_
  intro x o out h hk hx
  unfold f_Pi_copyCells_l2 at h
  refine zr_load ⟨_, dX6_copyCells_2, rfl⟩ rfl ?_
  refine zr_aload ⟨_, dX6_copyCells_3, rfl⟩ rfl ?_
  refine zt_get dX6_copyCells_4 fl_X6_19 rfl rfl ?_
  refine zr_ic_ge (tgt := 44) dX6_copyCells_7 (by decide) (fun hc1 => ?_) (fun hc1 => ?_)
  · replace h := zpos h hc1
    refine zr_mask [false, false, false, false] rfl ?_
    obtain rfl := Option.some.inj h
    obtain rfl := hk
    exact hx
  · replace h := zneg h hc1
    refine zr_iconst dX6_copyCells_10 (by decide) ?_
    refine zr_store ⟨_, dX6_copyCells_11, rfl⟩ (by decide) rfl ?_
    obtain ⟨y2, hy2, h⟩ := zbind h
    refine t_Pi_copyCells_l12 _ _ _ hy2 ?_
    refine zr_iinc dX6_copyCells_38 rfl (by decide) rfl ?_
    refine zr_goto (tgt := 2) dX6_copyCells_41 (by decide) ?_
    obtain rfl := Option.some.inj h
    exact hk hx
set_option maxRecDepth 100000 in
set_option maxHeartbeats 4000000 in
theorem t_Pi_copyCells  {s : zSt} {res : Int × zSt} (h : f_Pi_copyCells s = some res) : zSpecT 2 m_X6_copyCells [.inr (.inl (some 0)), .inr (.inl (some 3))] TPiPi s none res.2 := by
  refine zSpec_of (by decide +kernel) (Nat.le_of_ble_eq_true rfl) ?_
  show zBT 2 m_X6_copyCells TPiPi none res.2 0 [some (.inr (.inl (some 0))), some (.inr (.inl (some 3))), none, none] [] s
  unfold f_Pi_copyCells at h
  refine zr_iconst dX6_copyCells_0 (by decide) ?_
  refine zr_store ⟨_, dX6_copyCells_1, rfl⟩ (by decide) rfl ?_
  obtain ⟨y1, hy1, h⟩ := zbind h
  refine t_Pi_copyCells_l2 _ _ _ hy1 ?_
  obtain rfl := Option.some.inj h
  exact zt_vret dX6_copyCells_44 rfl
set_option maxRecDepth 100000 in
set_option maxHeartbeats 4000000 in
theorem t_Pi_erase_l29 {c1 c4 : Int} {r : Option zAV} {s0 : zSt}  : ∀ (n : Nat) (x : Int × zSt) (out : zSt), zloop (f_Pi_erase_l29 c1 c4) n x = some out → (zBT 3 m_X6_erase TPi r s0 50 [none, none, none, none, none, none] [] out) → zBT 3 m_X6_erase TPi r s0 29 [some (.inr (.inl (some 0))), some (.inl c1), none, none, some (.inl c4), some (.inl x.1)] [] x.2 := by
  refine zloop_B (B := fun (x : Int × zSt) (out : zSt) => zBT 3 m_X6_erase TPi r s0 50 [none, none, none, none, none, none] [] out → zBT 3 m_X6_erase TPi r s0 29 [some (.inr (.inl (some 0))), some (.inl c1), none, none, some (.inl c4), some (.inl x.1)] [] x.2) ?_
  intro x o out h hk hx
  unfold f_Pi_erase_l29 at h
  refine zr_loadw dX6_erase_29 rfl ?_
  refine zr_loadw dX6_erase_31 rfl ?_
  refine zr_ic_ge (tgt := 50) dX6_erase_33 (by decide) (fun hc1 => ?_) (fun hc1 => ?_)
  · replace h := zpos h hc1
    refine zr_mask [false, false, false, false, false, false] rfl ?_
    obtain rfl := Option.some.inj h
    obtain rfl := hk
    exact hx
  · replace h := zneg h hc1
    refine zr_aload ⟨_, dX6_erase_36, rfl⟩ rfl ?_
    refine zr_load ⟨_, dX6_erase_37, rfl⟩ rfl ?_
    refine zr_loadw dX6_erase_38 rfl ?_
    refine zr_iconst dX6_erase_40 (by decide) ?_
    obtain ⟨x2, hx2, h⟩ := zbind h
    refine zt_calliv (t_Pi_put hx2) (zrun_V (rest := []) dX6_erase_41 ml_X6_30 rfl rfl (by decide) (by decide) rfl (Nat.le_of_ble_eq_true rfl)) rfl rfl (Nat.le_refl _) (Nat.le_refl _) ?_
    refine zr_iinc dX6_erase_44 rfl (by decide) rfl ?_
    refine zr_goto (tgt := 29) dX6_erase_47 (by decide) ?_
    obtain rfl := Option.some.inj h
    exact hk hx
set_option maxRecDepth 100000 in
set_option maxHeartbeats 4000000 in
theorem t_Pi_erase {a1 a2 a3 : Int} {s : zSt} {res : Int × zSt} (h : f_Pi_erase a1 a2 a3 s = some res) : zSpecT 3 m_X6_erase [.inr (.inl (some 0)), .inl a1, .inl a2, .inl a3] TPi s none res.2 := by
  refine zSpec_of (by decide +kernel) (Nat.le_of_ble_eq_true rfl) ?_
  show zBT 3 m_X6_erase TPi none res.2 0 [some (.inr (.inl (some 0))), some (.inl a1), some (.inl a2), some (.inl a3), none, none] [] s
  unfold f_Pi_erase at h
  refine zr_aload ⟨_, dX6_erase_0, rfl⟩ rfl ?_
  refine zr_load ⟨_, dX6_erase_1, rfl⟩ rfl ?_
  refine zr_load ⟨_, dX6_erase_2, rfl⟩ rfl ?_
  obtain ⟨x1, hx1, h⟩ := zbind h
  refine zt_calliv (t_Pi_part hx1) (zrun_V (rest := []) dX6_erase_3 ml_X6_34 rfl rfl (by decide) (by decide) rfl (Nat.le_of_ble_eq_true rfl)) rfl rfl (Nat.le_refl _) (Nat.le_refl _) ?_
  refine zr_aload ⟨_, dX6_erase_6, rfl⟩ rfl ?_
  refine zr_load ⟨_, dX6_erase_7, rfl⟩ rfl ?_
  refine zr_load ⟨_, dX6_erase_8, rfl⟩ rfl ?_
  obtain ⟨x2, hx2, h⟩ := zbind h
  refine zt_calliv (t_Pi_part hx2) (zrun_V (rest := []) dX6_erase_9 ml_X6_34 rfl rfl (by decide) (by decide) rfl (Nat.le_of_ble_eq_true rfl)) rfl rfl (Nat.le_refl _) (Nat.le_refl _) ?_
  refine zr_load ⟨_, dX6_erase_12, rfl⟩ rfl ?_
  refine zr_aload ⟨_, dX6_erase_13, rfl⟩ rfl ?_
  refine zt_get dX6_erase_14 fl_X6_23 rfl rfl ?_
  refine zr_min dX6_erase_17 ml_X6_38 (by decide) (Nat.le_refl _) (Nat.le_refl _) (Nat.le_of_ble_eq_true rfl) ?_
  refine zr_storew dX6_erase_20 (by decide) rfl ?_
  refine zr_load ⟨_, dX6_erase_22, rfl⟩ rfl ?_
  refine zr_iconst dX6_erase_23 (by decide) ?_
  refine zr_max dX6_erase_24 ml_X6_43 (by decide) (Nat.le_refl _) (Nat.le_refl _) (Nat.le_of_ble_eq_true rfl) ?_
  refine zr_storew dX6_erase_27 (by decide) rfl ?_
  refine zr_mask [true, true, false, false, true, true] rfl ?_
  obtain ⟨y3, hy3, h⟩ := zbind h
  refine t_Pi_erase_l29 _ _ _ hy3 ?_
  obtain rfl := Option.some.inj h
  exact zt_vret dX6_erase_50 rfl
set_option maxRecDepth 100000 in
set_option maxHeartbeats 4000000 in
theorem t_Pi_insert_l29 {c1 c2 c3 : Int} {r : Option zAV} {s0 : zSt}  : ∀ (n : Nat) (x : Int × zSt) (out : zSt), zloop (f_Pi_insert_l29 c1 c2 c3) n x = some out → (zBT 3 m_X6_insert TPi r s0 69 [none, none, none, none, none] [] out) → zBT 3 m_X6_insert TPi r s0 29 [some (.inr (.inl (some 0))), some (.inl c1), some (.inl c2), some (.inl c3), some (.inl x.1)] [] x.2 := by
  refine zloop_B (B := fun (x : Int × zSt) (out : zSt) => zBT 3 m_X6_insert TPi r s0 69 [none, none, none, none, none] [] out → zBT 3 m_X6_insert TPi r s0 29 [some (.inr (.inl (some 0))), some (.inl c1), some (.inl c2), some (.inl c3), some (.inl x.1)] [] x.2) ?_
  intro x o out h hk hx
  unfold f_Pi_insert_l29 at h
  refine zr_loadw dX6_insert_29 rfl ?_
  refine zr_load ⟨_, dX6_insert_31, rfl⟩ rfl ?_
  refine zr_ic_lt (tgt := 69) dX6_insert_32 (by decide) (fun hc1 => ?_) (fun hc1 => ?_)
  · replace h := zpos h hc1
    refine zr_mask [false, false, false, false, false] rfl ?_
    obtain rfl := Option.some.inj h
    obtain rfl := hk
    exact hx
  · replace h := zneg h hc1
    refine zr_aload ⟨_, dX6_insert_35, rfl⟩ rfl ?_
    refine zr_load ⟨_, dX6_insert_36, rfl⟩ rfl ?_
    refine zr_loadw dX6_insert_37 rfl ?_
    refine zr_loadw dX6_insert_39 rfl ?_
    refine zr_load ⟨_, dX6_insert_41, rfl⟩ rfl ?_
    refine zr_isub dX6_insert_42 ?_
    refine zr_load ⟨_, dX6_insert_43, rfl⟩ rfl ?_
    refine zr_ic_lt (tgt := 59) dX6_insert_44 (by decide) (fun hc2 => ?_) (fun hc2 => ?_)
    · replace h := zpos h hc2
      refine zr_iconst dX6_insert_59 (by decide) ?_
      obtain ⟨x3, hx3, h⟩ := zbind h
      refine zt_calliv (t_Pi_put hx3) (zrun_V (rest := []) dX6_insert_60 ml_X6_30 rfl rfl (by decide) (by decide) rfl (Nat.le_of_ble_eq_true rfl)) rfl rfl (Nat.le_refl _) (Nat.le_refl _) ?_
      refine zr_iinc dX6_insert_63 rfl (by decide) rfl ?_
      refine zr_goto (tgt := 29) dX6_insert_66 (by decide) ?_
      obtain rfl := Option.some.inj h
      exact hk hx
    · replace h := zneg h hc2
      refine zr_aload ⟨_, dX6_insert_47, rfl⟩ rfl ?_
      refine zr_load ⟨_, dX6_insert_48, rfl⟩ rfl ?_
      refine zr_loadw dX6_insert_49 rfl ?_
      refine zr_load ⟨_, dX6_insert_51, rfl⟩ rfl ?_
      refine zr_isub dX6_insert_52 ?_
      obtain ⟨x4, hx4, h⟩ := zbind h
      refine zt_callisi (t_Pi_at hx4) (zrun_V (rest := [.inl x.1, .inl c1, .inr (.inl (some 0))]) dX6_insert_53 ml_X6_26 rfl rfl (by decide) (by decide) rfl (Nat.le_of_ble_eq_true rfl)) rfl rfl (Nat.le_refl _) (Nat.le_refl _) ?_
      refine zr_goto (tgt := 60) dX6_insert_56 (by decide) ?_
      obtain ⟨x5, hx5, h⟩ := zbind h
      refine zt_calliv (t_Pi_put hx5) (zrun_V (rest := []) dX6_insert_60 ml_X6_30 rfl rfl (by decide) (by decide) rfl (Nat.le_of_ble_eq_true rfl)) rfl rfl (Nat.le_refl _) (Nat.le_refl _) ?_
      refine zr_iinc dX6_insert_63 rfl (by decide) rfl ?_
      refine zr_goto (tgt := 29) dX6_insert_66 (by decide) ?_
      obtain rfl := Option.some.inj h
      exact hk hx
set_option maxRecDepth 100000 in
set_option maxHeartbeats 4000000 in
theorem t_Pi_insert {a1 a2 a3 : Int} {s : zSt} {res : Int × zSt} (h : f_Pi_insert a1 a2 a3 s = some res) : zSpecT 3 m_X6_insert [.inr (.inl (some 0)), .inl a1, .inl a2, .inl a3] TPi s none res.2 := by
  refine zSpec_of (by decide +kernel) (Nat.le_of_ble_eq_true rfl) ?_
  show zBT 3 m_X6_insert TPi none res.2 0 [some (.inr (.inl (some 0))), some (.inl a1), some (.inl a2), some (.inl a3), none] [] s
  unfold f_Pi_insert at h
  refine zr_aload ⟨_, dX6_insert_0, rfl⟩ rfl ?_
  refine zr_load ⟨_, dX6_insert_1, rfl⟩ rfl ?_
  refine zr_load ⟨_, dX6_insert_2, rfl⟩ rfl ?_
  obtain ⟨x1, hx1, h⟩ := zbind h
  refine zt_calliv (t_Pi_part hx1) (zrun_V (rest := []) dX6_insert_3 ml_X6_34 rfl rfl (by decide) (by decide) rfl (Nat.le_of_ble_eq_true rfl)) rfl rfl (Nat.le_refl _) (Nat.le_refl _) ?_
  refine zr_aload ⟨_, dX6_insert_6, rfl⟩ rfl ?_
  refine zr_load ⟨_, dX6_insert_7, rfl⟩ rfl ?_
  refine zr_aload ⟨_, dX6_insert_8, rfl⟩ rfl ?_
  refine zt_get dX6_insert_9 fl_X6_23 rfl rfl ?_
  refine zr_load ⟨_, dX6_insert_12, rfl⟩ rfl ?_
  refine zr_isub dX6_insert_13 ?_
  refine zr_load ⟨_, dX6_insert_14, rfl⟩ rfl ?_
  refine zr_max dX6_insert_15 ml_X6_43 (by decide) (Nat.le_refl _) (Nat.le_refl _) (Nat.le_of_ble_eq_true rfl) ?_
  obtain ⟨x2, hx2, h⟩ := zbind h
  refine zt_calliv (t_Pi_part hx2) (zrun_V (rest := []) dX6_insert_18 ml_X6_34 rfl rfl (by decide) (by decide) rfl (Nat.le_of_ble_eq_true rfl)) rfl rfl (Nat.le_refl _) (Nat.le_refl _) ?_
  refine zr_aload ⟨_, dX6_insert_21, rfl⟩ rfl ?_
  refine zt_get dX6_insert_22 fl_X6_23 rfl rfl ?_
  refine zr_iconst dX6_insert_25 (by decide) ?_
  refine zr_isub dX6_insert_26 ?_
  refine zr_storew dX6_insert_27 (by decide) rfl ?_
  obtain ⟨y3, hy3, h⟩ := zbind h
  refine t_Pi_insert_l29 _ _ _ hy3 ?_
  obtain rfl := Option.some.inj h
  exact zt_vret dX6_insert_69 rfl
set_option maxRecDepth 100000 in
set_option maxHeartbeats 4000000 in
theorem t_Pi_delete_l17 {c1 c3 : Int} {r : Option zAV} {s0 : zSt}  : ∀ (n : Nat) (x : Int × zSt) (out : zSt), zloop (f_Pi_delete_l17 c1 c3) n x = some out → (zBT 3 m_X6_delete TPi r s0 63 [none, none, none, none, none] [] out) → zBT 3 m_X6_delete TPi r s0 17 [some (.inr (.inl (some 0))), some (.inl c1), none, some (.inl c3), some (.inl x.1)] [] x.2 := by
  refine zloop_B (B := fun (x : Int × zSt) (out : zSt) => zBT 3 m_X6_delete TPi r s0 63 [none, none, none, none, none] [] out → zBT 3 m_X6_delete TPi r s0 17 [some (.inr (.inl (some 0))), some (.inl c1), none, some (.inl c3), some (.inl x.1)] [] x.2) ?_
  intro x o out h hk hx
  unfold f_Pi_delete_l17 at h
  refine zr_loadw dX6_delete_17 rfl ?_
  refine zr_aload ⟨_, dX6_delete_19, rfl⟩ rfl ?_
  refine zt_get dX6_delete_20 fl_X6_23 rfl rfl ?_
  refine zr_ic_ge (tgt := 63) dX6_delete_23 (by decide) (fun hc1 => ?_) (fun hc1 => ?_)
  · replace h := zpos h hc1
    refine zr_mask [false, false, false, false, false] rfl ?_
    obtain rfl := Option.some.inj h
    obtain rfl := hk
    exact hx
  · replace h := zneg h hc1
    refine zr_aload ⟨_, dX6_delete_26, rfl⟩ rfl ?_
    refine zr_load ⟨_, dX6_delete_27, rfl⟩ rfl ?_
    refine zr_loadw dX6_delete_28 rfl ?_
    refine zr_loadw dX6_delete_30 rfl ?_
    refine zr_load ⟨_, dX6_delete_32, rfl⟩ rfl ?_
    refine zr_iadd dX6_delete_33 ?_
    refine zr_aload ⟨_, dX6_delete_34, rfl⟩ rfl ?_
    refine zt_get dX6_delete_35 fl_X6_23 rfl rfl ?_
    refine zr_ic_ge (tgt := 53) dX6_delete_38 (by decide) (fun hc2 => ?_) (fun hc2 => ?_)
    · replace h := zpos h hc2
      refine zr_iconst dX6_delete_53 (by decide) ?_
      obtain ⟨x3, hx3, h⟩ := zbind h
      refine zt_calliv (t_Pi_put hx3) (zrun_V (rest := []) dX6_delete_54 ml_X6_30 rfl rfl (by decide) (by decide) rfl (Nat.le_of_ble_eq_true rfl)) rfl rfl (Nat.le_refl _) (Nat.le_refl _) ?_
      refine zr_iinc dX6_delete_57 rfl (by decide) rfl ?_
      refine zr_goto (tgt := 17) dX6_delete_60 (by decide) ?_
      obtain rfl := Option.some.inj h
      exact hk hx
    · replace h := zneg h hc2
      refine zr_aload ⟨_, dX6_delete_41, rfl⟩ rfl ?_
      refine zr_load ⟨_, dX6_delete_42, rfl⟩ rfl ?_
      refine zr_loadw dX6_delete_43 rfl ?_
      refine zr_load ⟨_, dX6_delete_45, rfl⟩ rfl ?_
      refine zr_iadd dX6_delete_46 ?_
      obtain ⟨x4, hx4, h⟩ := zbind h
      refine zt_callisi (t_Pi_at hx4) (zrun_V (rest := [.inl x.1, .inl c1, .inr (.inl (some 0))]) dX6_delete_47 ml_X6_26 rfl rfl (by decide) (by decide) rfl (Nat.le_of_ble_eq_true rfl)) rfl rfl (Nat.le_refl _) (Nat.le_refl _) ?_
      refine zr_goto (tgt := 54) dX6_delete_50 (by decide) ?_
      obtain ⟨x5, hx5, h⟩ := zbind h
      refine zt_calliv (t_Pi_put hx5) (zrun_V (rest := []) dX6_delete_54 ml_X6_30 rfl rfl (by decide) (by decide) rfl (Nat.le_of_ble_eq_true rfl)) rfl rfl (Nat.le_refl _) (Nat.le_refl _) ?_
      refine zr_iinc dX6_delete_57 rfl (by decide) rfl ?_
      refine zr_goto (tgt := 17) dX6_delete_60 (by decide) ?_
      obtain rfl := Option.some.inj h
      exact hk hx
set_option maxRecDepth 100000 in
set_option maxHeartbeats 4000000 in
theorem t_Pi_delete {a1 a2 a3 : Int} {s : zSt} {res : Int × zSt} (h : f_Pi_delete a1 a2 a3 s = some res) : zSpecT 3 m_X6_delete [.inr (.inl (some 0)), .inl a1, .inl a2, .inl a3] TPi s none res.2 := by
  refine zSpec_of (by decide +kernel) (Nat.le_of_ble_eq_true rfl) ?_
  show zBT 3 m_X6_delete TPi none res.2 0 [some (.inr (.inl (some 0))), some (.inl a1), some (.inl a2), some (.inl a3), none] [] s
  unfold f_Pi_delete at h
  refine zr_aload ⟨_, dX6_delete_0, rfl⟩ rfl ?_
  refine zr_load ⟨_, dX6_delete_1, rfl⟩ rfl ?_
  refine zr_load ⟨_, dX6_delete_2, rfl⟩ rfl ?_
  obtain ⟨x1, hx1, h⟩ := zbind h
  refine zt_calliv (t_Pi_part hx1) (zrun_V (rest := []) dX6_delete_3 ml_X6_34 rfl rfl (by decide) (by decide) rfl (Nat.le_of_ble_eq_true rfl)) rfl rfl (Nat.le_refl _) (Nat.le_refl _) ?_
  refine zr_aload ⟨_, dX6_delete_6, rfl⟩ rfl ?_
  refine zr_load ⟨_, dX6_delete_7, rfl⟩ rfl ?_
  refine zr_load ⟨_, dX6_delete_8, rfl⟩ rfl ?_
  refine zr_load ⟨_, dX6_delete_9, rfl⟩ rfl ?_
  refine zr_iadd dX6_delete_10 ?_
  obtain ⟨x2, hx2, h⟩ := zbind h
  refine zt_calliv (t_Pi_part hx2) (zrun_V (rest := []) dX6_delete_11 ml_X6_34 rfl rfl (by decide) (by decide) rfl (Nat.le_of_ble_eq_true rfl)) rfl rfl (Nat.le_refl _) (Nat.le_refl _) ?_
  refine zr_load ⟨_, dX6_delete_14, rfl⟩ rfl ?_
  refine zr_storew dX6_delete_15 (by decide) rfl ?_
  refine zr_mask [true, true, false, true, true] rfl ?_
  obtain ⟨y3, hy3, h⟩ := zbind h
  refine t_Pi_delete_l17 _ _ _ hy3 ?_
  obtain rfl := Option.some.inj h
  exact zt_vret dX6_delete_63 rfl
set_option maxRecDepth 100000 in
set_option maxHeartbeats 4000000 in
theorem t_Pi_clearRow {a1 : Int} {s : zSt} {res : Int × zSt} (h : f_Pi_clearRow a1 s = some res) : zSpecT 3 m_X6_clearRow [.inr (.inl (some 0)), .inl a1] TPi s none res.2 := by
  refine zSpec_of (by decide +kernel) (Nat.le_of_ble_eq_true rfl) ?_
  show zBT 3 m_X6_clearRow TPi none res.2 0 [some (.inr (.inl (some 0))), some (.inl a1)] [] s
  unfold f_Pi_clearRow at h
  refine zr_load ⟨_, dX6_clearRow_0, rfl⟩ rfl ?_
  refine zr_if_lt (tgt := 10) dX6_clearRow_1 (by decide) (fun hc1 => ?_) (fun hc1 => ?_)
  · replace h := zpos h hc1
    obtain rfl := Option.some.inj h
    exact zt_vret dX6_clearRow_10 rfl
  · replace h := zneg h hc1
    refine zr_load ⟨_, dX6_clearRow_4, rfl⟩ rfl ?_
    refine zr_bipush dX6_clearRow_5 (by decide) (by decide) ?_
    refine zr_ic_lt (tgt := 11) dX6_clearRow_7 (by decide) (fun hc2 => ?_) (fun hc2 => ?_)
    · replace h := zpos h hc2
      refine zr_aload ⟨_, dX6_clearRow_11, rfl⟩ rfl ?_
      refine zt_getr dX6_clearRow_12 fl_X6_9 rfl rfl ?_
      refine zr_load ⟨_, dX6_clearRow_15, rfl⟩ rfl ?_
      refine zr_bipush dX6_clearRow_16 (by decide) (by decide) ?_
      refine zr_imul dX6_clearRow_18 ?_
      refine zr_load ⟨_, dX6_clearRow_19, rfl⟩ rfl ?_
      refine zr_iconst dX6_clearRow_20 (by decide) ?_
      refine zr_iadd dX6_clearRow_21 ?_
      refine zr_bipush dX6_clearRow_22 (by decide) (by decide) ?_
      refine zr_imul dX6_clearRow_24 ?_
      refine zr_iconst dX6_clearRow_25 (by decide) ?_
      obtain ⟨x3, hx3, h⟩ := zbind h
      refine zt_callv (t_Ja_fill_fda19 hx3) (zrun_S (rest := []) dX6_clearRow_26 ml_X6_56 rfl (by decide) (by decide) rfl (Nat.le_of_ble_eq_true rfl)) rfl rfl sb_TPi_TI_1 (Nat.le_refl _) (Nat.le_refl _) ?_
      refine zr_aload ⟨_, dX6_clearRow_29, rfl⟩ rfl ?_
      refine zt_getr dX6_clearRow_30 fl_X6_15 rfl rfl ?_
      refine zr_load ⟨_, dX6_clearRow_33, rfl⟩ rfl ?_
      refine zr_iconst dX6_clearRow_34 (by decide) ?_
      obtain ⟨hb4, h⟩ := zchk h
      refine zt_bastore dX6_clearRow_35 rfl hb4 (Or.inl rfl) ?_
      obtain rfl := Option.some.inj h
      exact zt_vret dX6_clearRow_36 rfl
    · replace h := zneg h hc2
      obtain rfl := Option.some.inj h
      exact zt_vret dX6_clearRow_10 rfl
set_option maxRecDepth 100000 in
set_option maxHeartbeats 4000000 in
theorem t_Pi_moveUp_l48 {c2 : Int} {r : Option zAV} {s0 : zSt}  : ∀ (n : Nat) (x : Int × zSt) (out : zSt), zloop (f_Pi_moveUp_l48 c2) n x = some out → (zBT 4 m_X6_moveUp TPi r s0 76 [some (.inr (.inl (some 0))), none, some (.inl c2), none, none] [] out) → zBT 4 m_X6_moveUp TPi r s0 48 [some (.inr (.inl (some 0))), none, some (.inl c2), none, some (.inl x.1)] [] x.2 := by
  refine zloop_B (B := fun (x : Int × zSt) (out : zSt) => zBT 4 m_X6_moveUp TPi r s0 76 [some (.inr (.inl (some 0))), none, some (.inl c2), none, none] [] out → zBT 4 m_X6_moveUp TPi r s0 48 [some (.inr (.inl (some 0))), none, some (.inl c2), none, some (.inl x.1)] [] x.2) ?_
  intro x o out h hk hx
  unfold f_Pi_moveUp_l48 at h
  refine zr_loadw dX6_moveUp_48 rfl ?_
  refine zr_load ⟨_, dX6_moveUp_50, rfl⟩ rfl ?_
  refine zr_ic_ge (tgt := 76) dX6_moveUp_51 (by decide) (fun hc1 => ?_) (fun hc1 => ?_)
  · replace h := zpos h hc1
    refine zr_mask [true, false, true, false, false] rfl ?_
    obtain rfl := Option.some.inj h
    obtain rfl := hk
    exact hx
  · replace h := zneg h hc1
    refine zr_aload ⟨_, dX6_moveUp_54, rfl⟩ rfl ?_
    refine zt_getr dX6_moveUp_55 fl_X6_15 rfl rfl ?_
    refine zr_loadw dX6_moveUp_58 rfl ?_
    refine zr_aload ⟨_, dX6_moveUp_60, rfl⟩ rfl ?_
    refine zt_getr dX6_moveUp_61 fl_X6_15 rfl rfl ?_
    refine zr_loadw dX6_moveUp_64 rfl ?_
    refine zr_iconst dX6_moveUp_66 (by decide) ?_
    refine zr_iadd dX6_moveUp_67 ?_
    obtain ⟨hb2, h⟩ := zchk h
    refine zt_baload dX6_moveUp_68 rfl hb2 ?_
    obtain ⟨hb3, h⟩ := zchk h
    refine zt_bastore dX6_moveUp_69 rfl hb3.1 hb3.2 ?_
    refine zr_iinc dX6_moveUp_70 rfl (by decide) rfl ?_
    refine zr_goto (tgt := 48) dX6_moveUp_73 (by decide) ?_
    obtain rfl := Option.some.inj h
    exact hk hx
set_option maxRecDepth 100000 in
set_option maxHeartbeats 4000000 in
theorem t_Pi_moveUp {a1 a2 : Int} {s : zSt} {res : Int × zSt} (h : f_Pi_moveUp a1 a2 s = some res) : zSpecT 4 m_X6_moveUp [.inr (.inl (some 0)), .inl a1, .inl a2] TPi s none res.2 := by
  refine zSpec_of (by decide +kernel) (Nat.le_of_ble_eq_true rfl) ?_
  show zBT 4 m_X6_moveUp TPi none res.2 0 [some (.inr (.inl (some 0))), some (.inl a1), some (.inl a2), none, none] [] s
  unfold f_Pi_moveUp at h
  refine zr_load ⟨_, dX6_moveUp_0, rfl⟩ rfl ?_
  refine zr_if_lt (tgt := 15) dX6_moveUp_1 (by decide) (fun hc1 => ?_) (fun hc1 => ?_)
  · replace h := zpos h hc1
    obtain rfl := Option.some.inj h
    exact zt_vret dX6_moveUp_15 rfl
  · replace h := zneg h hc1
    refine zr_load ⟨_, dX6_moveUp_4, rfl⟩ rfl ?_
    refine zr_bipush dX6_moveUp_5 (by decide) (by decide) ?_
    refine zr_ic_ge (tgt := 15) dX6_moveUp_7 (by decide) (fun hc2 => ?_) (fun hc2 => ?_)
    · replace h := zpos h hc2
      obtain rfl := Option.some.inj h
      exact zt_vret dX6_moveUp_15 rfl
    · replace h := zneg h hc2
      refine zr_load ⟨_, dX6_moveUp_10, rfl⟩ rfl ?_
      refine zr_load ⟨_, dX6_moveUp_11, rfl⟩ rfl ?_
      refine zr_ic_le (tgt := 16) dX6_moveUp_12 (by decide) (fun hc3 => ?_) (fun hc3 => ?_)
      · replace h := zpos h hc3
        refine zr_load ⟨_, dX6_moveUp_16, rfl⟩ rfl ?_
        refine zr_iconst dX6_moveUp_17 (by decide) ?_
        refine zr_iadd dX6_moveUp_18 ?_
        refine zr_bipush dX6_moveUp_19 (by decide) (by decide) ?_
        refine zr_imul dX6_moveUp_21 ?_
        refine zr_store ⟨_, dX6_moveUp_22, rfl⟩ (by decide) rfl ?_
        refine zr_aload ⟨_, dX6_moveUp_23, rfl⟩ rfl ?_
        refine zt_getr dX6_moveUp_24 fl_X6_9 rfl rfl ?_
        refine zr_load ⟨_, dX6_moveUp_27, rfl⟩ rfl ?_
        refine zr_aload ⟨_, dX6_moveUp_28, rfl⟩ rfl ?_
        refine zt_getr dX6_moveUp_29 fl_X6_9 rfl rfl ?_
        refine zr_load ⟨_, dX6_moveUp_32, rfl⟩ rfl ?_
        refine zr_bipush dX6_moveUp_33 (by decide) (by decide) ?_
        refine zr_imul dX6_moveUp_35 ?_
        refine zr_load ⟨_, dX6_moveUp_36, rfl⟩ rfl ?_
        refine zr_load ⟨_, dX6_moveUp_37, rfl⟩ rfl ?_
        refine zr_isub dX6_moveUp_38 ?_
        refine zr_bipush dX6_moveUp_39 (by decide) (by decide) ?_
        refine zr_imul dX6_moveUp_41 ?_
        obtain ⟨hb4, h⟩ := zchk h
        refine zt_copy dX6_moveUp_42 ml_X6_46 rfl rfl hb4 (by decide) (Nat.le_refl _) (Nat.le_refl _) (Nat.le_of_ble_eq_true rfl) ?_
        refine zr_load ⟨_, dX6_moveUp_45, rfl⟩ rfl ?_
        refine zr_storew dX6_moveUp_46 (by decide) rfl ?_
        refine zr_mask [true, false, true, false, true] rfl ?_
        obtain ⟨y5, hy5, h⟩ := zbind h
        refine t_Pi_moveUp_l48 _ _ _ hy5 ?_
        refine zr_aload ⟨_, dX6_moveUp_76, rfl⟩ rfl ?_
        refine zr_load ⟨_, dX6_moveUp_77, rfl⟩ rfl ?_
        obtain ⟨x6, hx6, h⟩ := zbind h
        refine zt_calliv (t_Pi_clearRow hx6) (zrun_V (rest := []) dX6_moveUp_78 ml_X6_52 rfl rfl (by decide) (by decide) rfl (Nat.le_of_ble_eq_true rfl)) rfl rfl (Nat.le_refl _) (Nat.le_refl _) ?_
        obtain rfl := Option.some.inj h
        exact zt_vret dX6_moveUp_81 rfl
      · replace h := zneg h hc3
        obtain rfl := Option.some.inj h
        exact zt_vret dX6_moveUp_15 rfl
set_option maxRecDepth 100000 in
set_option maxHeartbeats 4000000 in
theorem t_Pi_moveDown_l46 {c1 c2 : Int} {r : Option zAV} {s0 : zSt}  : ∀ (n : Nat) (x : Int × zSt) (out : zSt), zloop (f_Pi_moveDown_l46 c1 c2) n x = some out → (zBT 4 m_X6_moveDown TPi r s0 74 [some (.inr (.inl (some 0))), some (.inl c1), some (.inl c2), none, none] [] out) → zBT 4 m_X6_moveDown TPi r s0 46 [some (.inr (.inl (some 0))), some (.inl c1), some (.inl c2), none, some (.inl x.1)] [] x.2 := by
  refine zloop_B (B := fun (x : Int × zSt) (out : zSt) => zBT 4 m_X6_moveDown TPi r s0 74 [some (.inr (.inl (some 0))), some (.inl c1), some (.inl c2), none, none] [] out → zBT 4 m_X6_moveDown TPi r s0 46 [some (.inr (.inl (some 0))), some (.inl c1), some (.inl c2), none, some (.inl x.1)] [] x.2) ?_
  intro x o out h hk hx
  unfold f_Pi_moveDown_l46 at h
  refine zr_loadw dX6_moveDown_46 rfl ?_
  refine zr_load ⟨_, dX6_moveDown_48, rfl⟩ rfl ?_
  refine zr_ic_le (tgt := 74) dX6_moveDown_49 (by decide) (fun hc1 => ?_) (fun hc1 => ?_)
  · replace h := zpos h hc1
    refine zr_mask [true, true, true, false, false] rfl ?_
    obtain rfl := Option.some.inj h
    obtain rfl := hk
    exact hx
  · replace h := zneg h hc1
    refine zr_aload ⟨_, dX6_moveDown_52, rfl⟩ rfl ?_
    refine zt_getr dX6_moveDown_53 fl_X6_15 rfl rfl ?_
    refine zr_loadw dX6_moveDown_56 rfl ?_
    refine zr_aload ⟨_, dX6_moveDown_58, rfl⟩ rfl ?_
    refine zt_getr dX6_moveDown_59 fl_X6_15 rfl rfl ?_
    refine zr_loadw dX6_moveDown_62 rfl ?_
    refine zr_iconst dX6_moveDown_64 (by decide) ?_
    refine zr_isub dX6_moveDown_65 ?_
    obtain ⟨hb2, h⟩ := zchk h
    refine zt_baload dX6_moveDown_66 rfl hb2 ?_
    obtain ⟨hb3, h⟩ := zchk h
    refine zt_bastore dX6_moveDown_67 rfl hb3.1 hb3.2 ?_
    refine zr_iinc dX6_moveDown_68 rfl (by decide) rfl ?_
    refine zr_goto (tgt := 46) dX6_moveDown_71 (by decide) ?_
    obtain rfl := Option.some.inj h
    exact hk hx
set_option maxRecDepth 100000 in
set_option maxHeartbeats 4000000 in
theorem t_Pi_moveDown {a1 a2 : Int} {s : zSt} {res : Int × zSt} (h : f_Pi_moveDown a1 a2 s = some res) : zSpecT 4 m_X6_moveDown [.inr (.inl (some 0)), .inl a1, .inl a2] TPi s none res.2 := by
  refine zSpec_of (by decide +kernel) (Nat.le_of_ble_eq_true rfl) ?_
  show zBT 4 m_X6_moveDown TPi none res.2 0 [some (.inr (.inl (some 0))), some (.inl a1), some (.inl a2), none, none] [] s
  unfold f_Pi_moveDown at h
  refine zr_load ⟨_, dX6_moveDown_0, rfl⟩ rfl ?_
  refine zr_if_lt (tgt := 15) dX6_moveDown_1 (by decide) (fun hc1 => ?_) (fun hc1 => ?_)
  · replace h := zpos h hc1
    obtain rfl := Option.some.inj h
    exact zt_vret dX6_moveDown_15 rfl
  · replace h := zneg h hc1
    refine zr_load ⟨_, dX6_moveDown_4, rfl⟩ rfl ?_
    refine zr_bipush dX6_moveDown_5 (by decide) (by decide) ?_
    refine zr_ic_ge (tgt := 15) dX6_moveDown_7 (by decide) (fun hc2 => ?_) (fun hc2 => ?_)
    · replace h := zpos h hc2
      obtain rfl := Option.some.inj h
      exact zt_vret dX6_moveDown_15 rfl
    · replace h := zneg h hc2
      refine zr_load ⟨_, dX6_moveDown_10, rfl⟩ rfl ?_
      refine zr_load ⟨_, dX6_moveDown_11, rfl⟩ rfl ?_
      refine zr_ic_le (tgt := 16) dX6_moveDown_12 (by decide) (fun hc3 => ?_) (fun hc3 => ?_)
      · replace h := zpos h hc3
        refine zr_load ⟨_, dX6_moveDown_16, rfl⟩ rfl ?_
        refine zr_bipush dX6_moveDown_17 (by decide) (by decide) ?_
        refine zr_imul dX6_moveDown_19 ?_
        refine zr_store ⟨_, dX6_moveDown_20, rfl⟩ (by decide) rfl ?_
        refine zr_aload ⟨_, dX6_moveDown_21, rfl⟩ rfl ?_
        refine zt_getr dX6_moveDown_22 fl_X6_9 rfl rfl ?_
        refine zr_load ⟨_, dX6_moveDown_25, rfl⟩ rfl ?_
        refine zr_aload ⟨_, dX6_moveDown_26, rfl⟩ rfl ?_
        refine zt_getr dX6_moveDown_27 fl_X6_9 rfl rfl ?_
        refine zr_load ⟨_, dX6_moveDown_30, rfl⟩ rfl ?_
        refine zr_bipush dX6_moveDown_31 (by decide) (by decide) ?_
        refine zr_iadd dX6_moveDown_33 ?_
        refine zr_load ⟨_, dX6_moveDown_34, rfl⟩ rfl ?_
        refine zr_load ⟨_, dX6_moveDown_35, rfl⟩ rfl ?_
        refine zr_isub dX6_moveDown_36 ?_
        refine zr_bipush dX6_moveDown_37 (by decide) (by decide) ?_
        refine zr_imul dX6_moveDown_39 ?_
        obtain ⟨hb4, h⟩ := zchk h
        refine zt_copy dX6_moveDown_40 ml_X6_46 rfl rfl hb4 (by decide) (Nat.le_refl _) (Nat.le_refl _) (Nat.le_of_ble_eq_true rfl) ?_
        refine zr_load ⟨_, dX6_moveDown_43, rfl⟩ rfl ?_
        refine zr_storew dX6_moveDown_44 (by decide) rfl ?_
        refine zr_mask [true, true, true, false, true] rfl ?_
        obtain ⟨y5, hy5, h⟩ := zbind h
        refine t_Pi_moveDown_l46 _ _ _ hy5 ?_
        refine zr_aload ⟨_, dX6_moveDown_74, rfl⟩ rfl ?_
        refine zr_load ⟨_, dX6_moveDown_75, rfl⟩ rfl ?_
        obtain ⟨x6, hx6, h⟩ := zbind h
        refine zt_calliv (t_Pi_clearRow hx6) (zrun_V (rest := []) dX6_moveDown_76 ml_X6_52 rfl rfl (by decide) (by decide) rfl (Nat.le_of_ble_eq_true rfl)) rfl rfl (Nat.le_refl _) (Nat.le_refl _) ?_
        refine zr_aload ⟨_, dX6_moveDown_79, rfl⟩ rfl ?_
        refine zt_getr dX6_moveDown_80 fl_X6_15 rfl rfl ?_
        refine zr_load ⟨_, dX6_moveDown_83, rfl⟩ rfl ?_
        refine zr_iconst dX6_moveDown_84 (by decide) ?_
        obtain ⟨hb7, h⟩ := zchk h
        refine zt_bastore dX6_moveDown_85 rfl hb7 (Or.inl rfl) ?_
        obtain rfl := Option.some.inj h
        exact zt_vret dX6_moveDown_86 rfl
      · replace h := zneg h hc3
        obtain rfl := Option.some.inj h
        exact zt_vret dX6_moveDown_15 rfl
set_option maxRecDepth 100000 in
set_option maxHeartbeats 4000000 in
theorem t_Pi_clear_l2  {r : Option zAV} {s0 : zSt}  : ∀ (n : Nat) (x : Int × zSt) (out : zSt), zloop (f_Pi_clear_l2) n x = some out → (zBT 4 m_X6_clear TPi r s0 19 [none, none] [] out) → zBT 4 m_X6_clear TPi r s0 2 [some (.inr (.inl (some 0))), some (.inl x.1)] [] x.2 := by
  refine zloop_B (B := fun (x : Int × zSt) (out : zSt) => zBT 4 m_X6_clear TPi r s0 19 [none, none] [] out → zBT 4 m_X6_clear TPi r s0 2 [some (.inr (.inl (some 0))), some (.inl x.1)] [] x.2) ?_
  intro x o out h hk hx
  unfold f_Pi_clear_l2 at h
  refine zr_load ⟨_, dX6_clear_2, rfl⟩ rfl ?_
  refine zr_bipush dX6_clear_3 (by decide) (by decide) ?_
  refine zr_ic_ge (tgt := 19) dX6_clear_5 (by decide) (fun hc1 => ?_) (fun hc1 => ?_)
  · replace h := zpos h hc1
    refine zr_mask [false, false] rfl ?_
    obtain rfl := Option.some.inj h
    obtain rfl := hk
    exact hx
  · replace h := zneg h hc1
    refine zr_aload ⟨_, dX6_clear_8, rfl⟩ rfl ?_
    refine zr_load ⟨_, dX6_clear_9, rfl⟩ rfl ?_
    obtain ⟨x2, hx2, h⟩ := zbind h
    refine zt_calliv (t_Pi_clearRow hx2) (zrun_V (rest := []) dX6_clear_10 ml_X6_52 rfl rfl (by decide) (by decide) rfl (Nat.le_of_ble_eq_true rfl)) rfl rfl (Nat.le_refl _) (Nat.le_refl _) ?_
    refine zr_iinc dX6_clear_13 rfl (by decide) rfl ?_
    refine zr_goto (tgt := 2) dX6_clear_16 (by decide) ?_
    obtain rfl := Option.some.inj h
    exact hk hx
set_option maxRecDepth 100000 in
set_option maxHeartbeats 4000000 in
theorem t_Pi_clear  {s : zSt} {res : Int × zSt} (h : f_Pi_clear s = some res) : zSpecT 4 m_X6_clear [.inr (.inl (some 0))] TPi s none res.2 := by
  refine zSpec_of (by decide +kernel) (Nat.le_of_ble_eq_true rfl) ?_
  show zBT 4 m_X6_clear TPi none res.2 0 [some (.inr (.inl (some 0))), none] [] s
  unfold f_Pi_clear at h
  refine zr_iconst dX6_clear_0 (by decide) ?_
  refine zr_store ⟨_, dX6_clear_1, rfl⟩ (by decide) rfl ?_
  obtain ⟨y1, hy1, h⟩ := zbind h
  refine t_Pi_clear_l2 _ _ _ hy1 ?_
  obtain rfl := Option.some.inj h
  exact zt_vret dX6_clear_19 rfl
set_option maxRecDepth 100000 in
set_option maxHeartbeats 4000000 in
theorem t_Pi_cut_l19 {c1 c2 c3 : Int} {r : Option zAV} {s0 : zSt}  : ∀ (n : Nat) (x : Int × zSt) (out : zSt), zloop (f_Pi_cut_l19 c1 c2 c3) n x = some out → (zBT 4 m_X6_cut TPi r s0 42 [some (.inr (.inl (some 0))), some (.inl c1), some (.inl c2), some (.inl c3), none] [] out) → zBT 4 m_X6_cut TPi r s0 19 [some (.inr (.inl (some 0))), some (.inl c1), some (.inl c2), some (.inl c3), some (.inl x.1)] [] x.2 := by
  refine zloop_B (B := fun (x : Int × zSt) (out : zSt) => zBT 4 m_X6_cut TPi r s0 42 [some (.inr (.inl (some 0))), some (.inl c1), some (.inl c2), some (.inl c3), none] [] out → zBT 4 m_X6_cut TPi r s0 19 [some (.inr (.inl (some 0))), some (.inl c1), some (.inl c2), some (.inl c3), some (.inl x.1)] [] x.2) ?_
  intro x o out h hk hx
  unfold f_Pi_cut_l19 at h
  refine zr_loadw dX6_cut_19 rfl ?_
  refine zr_aload ⟨_, dX6_cut_21, rfl⟩ rfl ?_
  refine zt_get dX6_cut_22 fl_X6_23 rfl rfl ?_
  refine zr_ic_ge (tgt := 42) dX6_cut_25 (by decide) (fun hc1 => ?_) (fun hc1 => ?_)
  · replace h := zpos h hc1
    refine zr_mask [true, true, true, true, false] rfl ?_
    obtain rfl := Option.some.inj h
    obtain rfl := hk
    exact hx
  · replace h := zneg h hc1
    refine zr_aload ⟨_, dX6_cut_28, rfl⟩ rfl ?_
    refine zr_load ⟨_, dX6_cut_29, rfl⟩ rfl ?_
    refine zr_loadw dX6_cut_30 rfl ?_
    refine zr_iconst dX6_cut_32 (by decide) ?_
    obtain ⟨x2, hx2, h⟩ := zbind h
    refine zt_calliv (t_Pi_put hx2) (zrun_V (rest := []) dX6_cut_33 ml_X6_30 rfl rfl (by decide) (by decide) rfl (Nat.le_of_ble_eq_true rfl)) rfl rfl (Nat.le_refl _) (Nat.le_refl _) ?_
    refine zr_iinc dX6_cut_36 rfl (by decide) rfl ?_
    refine zr_goto (tgt := 19) dX6_cut_39 (by decide) ?_
    obtain rfl := Option.some.inj h
    exact hk hx
set_option maxRecDepth 100000 in
set_option maxHeartbeats 4000000 in
theorem t_Pi_cut_l2 {c1 c2 : Int} {r : Option zAV} {s0 : zSt}  : ∀ (n : Nat) (x : Int × zSt) (out : zSt), zloop (f_Pi_cut_l2 c1 c2) n x = some out → (zBT 4 m_X6_cut TPi r s0 48 [some (.inr (.inl (some 0))), some (.inl c1), some (.inl c2), none, none] [] out) → zBT 4 m_X6_cut TPi r s0 2 [some (.inr (.inl (some 0))), some (.inl c1), some (.inl c2), some (.inl x.1), none] [] x.2 := by
  refine zloop_B (B := fun (x : Int × zSt) (out : zSt) => zBT 4 m_X6_cut TPi r s0 48 [some (.inr (.inl (some 0))), some (.inl c1), some (.inl c2), none, none] [] out → zBT 4 m_X6_cut TPi r s0 2 [some (.inr (.inl (some 0))), some (.inl c1), some (.inl c2), some (.inl x.1), none] [] x.2) ?_
  intro x o out h hk hx
  unfold f_Pi_cut_l2 at h
  refine zr_load ⟨_, dX6_cut_2, rfl⟩ rfl ?_
  refine zr_aload ⟨_, dX6_cut_3, rfl⟩ rfl ?_
  refine zt_get dX6_cut_4 fl_X6_19 rfl rfl ?_
  refine zr_ic_ge (tgt := 48) dX6_cut_7 (by decide) (fun hc1 => ?_) (fun hc1 => ?_)
  · replace h := zpos h hc1
    refine zr_mask [true, true, true, false, false] rfl ?_
    obtain rfl := Option.some.inj h
    obtain rfl := hk
    exact hx
  · replace h := zneg h hc1
    refine zr_aload ⟨_, dX6_cut_10, rfl⟩ rfl ?_
    refine zr_load ⟨_, dX6_cut_11, rfl⟩ rfl ?_
    refine zr_load ⟨_, dX6_cut_12, rfl⟩ rfl ?_
    obtain ⟨x2, hx2, h⟩ := zbind h
    refine zt_calliv (t_Pi_part hx2) (zrun_V (rest := []) dX6_cut_13 ml_X6_34 rfl rfl (by decide) (by decide) rfl (Nat.le_of_ble_eq_true rfl)) rfl rfl (Nat.le_refl _) (Nat.le_refl _) ?_
    refine zr_load ⟨_, dX6_cut_16, rfl⟩ rfl ?_
    refine zr_storew dX6_cut_17 (by decide) rfl ?_
    obtain ⟨y3, hy3, h⟩ := zbind h
    refine t_Pi_cut_l19 _ _ _ hy3 ?_
    refine zr_iinc dX6_cut_42 rfl (by decide) rfl ?_
    refine zr_goto (tgt := 2) dX6_cut_45 (by decide) ?_
    obtain rfl := Option.some.inj h
    exact hk hx
set_option maxRecDepth 100000 in
set_option maxHeartbeats 4000000 in
theorem t_Pi_cut_l50 {c1 c2 : Int} {r : Option zAV} {s0 : zSt}  : ∀ (n : Nat) (x : Int × zSt) (out : zSt), zloop (f_Pi_cut_l50 c1 c2) n x = some out → (zBT 4 m_X6_cut TPi r s0 69 [some (.inr (.inl (some 0))), some (.inl c1), some (.inl c2), none, none] [] out) → zBT 4 m_X6_cut TPi r s0 50 [some (.inr (.inl (some 0))), some (.inl c1), some (.inl c2), some (.inl x.1), none] [] x.2 := by
  refine zloop_B (B := fun (x : Int × zSt) (out : zSt) => zBT 4 m_X6_cut TPi r s0 69 [some (.inr (.inl (some 0))), some (.inl c1), some (.inl c2), none, none] [] out → zBT 4 m_X6_cut TPi r s0 50 [some (.inr (.inl (some 0))), some (.inl c1), some (.inl c2), some (.inl x.1), none] [] x.2) ?_
  intro x o out h hk hx
  unfold f_Pi_cut_l50 at h
  refine zr_load ⟨_, dX6_cut_50, rfl⟩ rfl ?_
  refine zr_aload ⟨_, dX6_cut_51, rfl⟩ rfl ?_
  refine zt_get dX6_cut_52 fl_X6_19 rfl rfl ?_
  refine zr_ic_ge (tgt := 69) dX6_cut_55 (by decide) (fun hc1 => ?_) (fun hc1 => ?_)
  · replace h := zpos h hc1
    refine zr_mask [true, true, true, false, false] rfl ?_
    obtain rfl := Option.some.inj h
    obtain rfl := hk
    exact hx
  · replace h := zneg h hc1
    refine zr_aload ⟨_, dX6_cut_58, rfl⟩ rfl ?_
    refine zr_load ⟨_, dX6_cut_59, rfl⟩ rfl ?_
    obtain ⟨x2, hx2, h⟩ := zbind h
    refine zt_calliv (t_Pi_clearRow hx2) (zrun_V (rest := []) dX6_cut_60 ml_X6_52 rfl rfl (by decide) (by decide) rfl (Nat.le_of_ble_eq_true rfl)) rfl rfl (Nat.le_refl _) (Nat.le_refl _) ?_
    refine zr_iinc dX6_cut_63 rfl (by decide) rfl ?_
    refine zr_goto (tgt := 50) dX6_cut_66 (by decide) ?_
    obtain rfl := Option.some.inj h
    exact hk hx
set_option maxRecDepth 100000 in
set_option maxHeartbeats 4000000 in
theorem t_Pi_cut {a1 a2 : Int} {s : zSt} {res : Int × zSt} (h : f_Pi_cut a1 a2 s = some res) : zSpecT 4 m_X6_cut [.inr (.inl (some 0)), .inl a1, .inl a2] TPi s none res.2 := by
  refine zSpec_of (by decide +kernel) (Nat.le_of_ble_eq_true rfl) ?_
  show zBT 4 m_X6_cut TPi none res.2 0 [some (.inr (.inl (some 0))), some (.inl a1), some (.inl a2), none, none] [] s
  unfold f_Pi_cut at h
  refine zr_iconst dX6_cut_0 (by decide) ?_
  refine zr_store ⟨_, dX6_cut_1, rfl⟩ (by decide) rfl ?_
  obtain ⟨y1, hy1, h⟩ := zbind h
  refine t_Pi_cut_l2 _ _ _ hy1 ?_
  refine zr_load ⟨_, dX6_cut_48, rfl⟩ rfl ?_
  refine zr_store ⟨_, dX6_cut_49, rfl⟩ (by decide) rfl ?_
  obtain ⟨y2, hy2, h⟩ := zbind h
  refine t_Pi_cut_l50 _ _ _ hy2 ?_
  refine zr_aload ⟨_, dX6_cut_69, rfl⟩ rfl ?_
  refine zr_load ⟨_, dX6_cut_70, rfl⟩ rfl ?_
  refine zt_put dX6_cut_71 fl_X6_19 rfl rfl ?_
  refine zr_aload ⟨_, dX6_cut_74, rfl⟩ rfl ?_
  refine zr_load ⟨_, dX6_cut_75, rfl⟩ rfl ?_
  refine zt_put dX6_cut_76 fl_X6_23 rfl rfl ?_
  refine zr_aload ⟨_, dX6_cut_79, rfl⟩ rfl ?_
  refine zr_aload ⟨_, dX6_cut_80, rfl⟩ rfl ?_
  refine zt_get dX6_cut_81 fl_X6_19 rfl rfl ?_
  refine zr_iconst dX6_cut_84 (by decide) ?_
  refine zr_isub dX6_cut_85 ?_
  refine zr_iconst dX6_cut_86 (by decide) ?_
  obtain ⟨x3, hx3, h⟩ := zbind h
  refine zt_calliv (t_Pi_setGoing hx3) (zrun_V (rest := []) dX6_cut_87 ml_X6_65 rfl rfl (by decide) (by decide) rfl (Nat.le_of_ble_eq_true rfl)) rfl rfl (Nat.le_refl _) (Nat.le_refl _) ?_
  obtain rfl := Option.some.inj h
  exact zt_vret dX6_cut_90 rfl
set_option maxRecDepth 100000 in
set_option maxHeartbeats 4000000 in
theorem t_Pi_begin {a1 a2 : Int} {s : zSt} {res : Int × zSt} (h : f_Pi_begin a1 a2 s = some res) : zSpecT 5 m_X6_begin [.inr (.inl (some 0)), .inl a1, .inl a2] TPi s none res.2 := by
  refine zSpec_of (by decide +kernel) (Nat.le_of_ble_eq_true rfl) ?_
  show zBT 5 m_X6_begin TPi none res.2 0 [some (.inr (.inl (some 0))), some (.inl a1), some (.inl a2)] [] s
  unfold f_Pi_begin at h
  refine zr_aload ⟨_, dX6_begin_0, rfl⟩ rfl ?_
  obtain ⟨x1, hx1, h⟩ := zbind h
  refine zt_calliv (t_Pi_clear hx1) (zrun_V (rest := []) dX6_begin_1 ml_X6_62 rfl rfl (by decide) (by decide) rfl (Nat.le_of_ble_eq_true rfl)) rfl rfl (Nat.le_refl _) (Nat.le_refl _) ?_
  refine zr_aload ⟨_, dX6_begin_4, rfl⟩ rfl ?_
  refine zr_load ⟨_, dX6_begin_5, rfl⟩ rfl ?_
  refine zt_put dX6_begin_6 fl_X6_19 rfl rfl ?_
  refine zr_aload ⟨_, dX6_begin_9, rfl⟩ rfl ?_
  refine zr_load ⟨_, dX6_begin_10, rfl⟩ rfl ?_
  refine zt_put dX6_begin_11 fl_X6_23 rfl rfl ?_
  obtain rfl := Option.some.inj h
  exact zt_vret dX6_begin_14 rfl
