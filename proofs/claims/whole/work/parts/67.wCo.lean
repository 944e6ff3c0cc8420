set_option maxRecDepth 100000 in
set_option maxHeartbeats 4000000 in
theorem t_Co_cell {a1 a2 : Int} {s : zSt} {res : Int} (h : f_Co_cell a1 a2 s = some res) : zSpecT 2 m_X11_cell [.inr (.inl (some 0)), .inl a1, .inl a2] TCo s (some (.inl res)) s := by
  refine zSpec_of (by decide +kernel) (Nat.le_of_ble_eq_true rfl) ?_
  show zBT 2 m_X11_cell TCo (some (.inl res)) s 0 [some (.inr (.inl (some 0))), some (.inl a1), some (.inl a2)] [] s
  unfold f_Co_cell at h
  refine zr_aload ⟨_, dX11_cell_0, rfl⟩ rfl ?_
  refine zt_getr dX11_cell_1 fl_X11_31 rfl rfl ?_
  refine zr_load ⟨_, dX11_cell_4, rfl⟩ rfl ?_
  refine zr_load ⟨_, dX11_cell_5, rfl⟩ rfl ?_
  obtain ⟨x1, hx1, h⟩ := zbind h
  refine zt_callis (t_Sc_has hx1) (zrun_V (rest := []) dX11_cell_6 ml_X11_131 rfl rfl (by decide) (by decide) rfl (Nat.le_of_ble_eq_true rfl)) rfl rfl sb_TCo_TSc_14 (Nat.le_refl _) (Nat.le_refl _) ?_
  refine zr_if_ne (tgt := 22) dX11_cell_9 (by decide) (fun hc2 => ?_) (fun hc2 => ?_)
  · replace h := zpos h hc2
    refine zr_aload ⟨_, dX11_cell_22, rfl⟩ rfl ?_
    refine zt_getr dX11_cell_23 fl_X11_31 rfl rfl ?_
    by_cases hc3 : s.1 14 8 = 0
    · replace h := zpos h hc3
      refine zt_callrs (f := (zsh 14)) (t_Sc_shown0 (s := zsb (zsh 14) s) hc3) (zrun_V (rest := []) dX11_cell_26 ml_X11_177 rfl rfl (by decide) (by decide) rfl (Nat.le_of_ble_eq_true rfl)) rfl rfl sb_TCo_TSc_14 (Nat.le_refl _) (Nat.le_refl _) ?_
      refine zr_load ⟨_, dX11_cell_29, rfl⟩ rfl ?_
      refine zr_load ⟨_, dX11_cell_30, rfl⟩ rfl ?_
      obtain ⟨x4, hx4, h⟩ := zbind h
      refine zt_callis (t_Pi_at hx4) (zrun_V (rest := []) dX11_cell_31 ml_X11_198 rfl rfl (by decide) (by decide) rfl (Nat.le_of_ble_eq_true rfl)) rfl rfl sb_TCo_TPi_16 (Nat.le_refl _) (Nat.le_refl _) ?_
      obtain rfl := Option.some.inj h
      exact zt_iret dX11_cell_34 rfl
    · replace h := zneg h hc3
      refine zt_callrs (f := (zsh 14)) (t_Sc_shown1 (s := zsb (zsh 14) s) hc3) (zrun_V (rest := []) dX11_cell_26 ml_X11_177 rfl rfl (by decide) (by decide) rfl (Nat.le_of_ble_eq_true rfl)) rfl rfl sb_TCo_TSc_14 (Nat.le_refl _) (Nat.le_refl _) ?_
      refine zr_load ⟨_, dX11_cell_29, rfl⟩ rfl ?_
      refine zr_load ⟨_, dX11_cell_30, rfl⟩ rfl ?_
      obtain ⟨x5, hx5, h⟩ := zbind h
      refine zt_callis (t_Pi_at hx5) (zrun_V (rest := []) dX11_cell_31 ml_X11_198 rfl rfl (by decide) (by decide) rfl (Nat.le_of_ble_eq_true rfl)) rfl rfl sb_TCo_TPi_36 (Nat.le_refl _) (Nat.le_refl _) ?_
      obtain rfl := Option.some.inj h
      exact zt_iret dX11_cell_34 rfl
  · replace h := zneg h hc2
    cases h
set_option maxRecDepth 100000 in
set_option maxHeartbeats 4000000 in
theorem t_Co_past {a1 a2 : Int} {s : zSt} {res : Int} (h : f_Co_past a1 a2 s = some res) : zSpecT 2 m_X11_past [.inr (.inl (some 0)), .inl a1, .inl a2] TCo s (some (.inl res)) s := by
  refine zSpec_of (by decide +kernel) (Nat.le_of_ble_eq_true rfl) ?_
  show zBT 2 m_X11_past TCo (some (.inl res)) s 0 [some (.inr (.inl (some 0))), some (.inl a1), some (.inl a2)] [] s
  unfold f_Co_past at h
  refine zr_load ⟨_, dX11_past_0, rfl⟩ rfl ?_
  refine zr_if_lt (tgt := 36) dX11_past_1 (by decide) (fun hc1 => ?_) (fun hc1 => ?_)
  · replace h := zpos h hc1
    cases h
  · replace h := zneg h hc1
    refine zr_load ⟨_, dX11_past_4, rfl⟩ rfl ?_
    refine zr_aload ⟨_, dX11_past_5, rfl⟩ rfl ?_
    refine zt_getr dX11_past_6 fl_X11_31 rfl rfl ?_
    refine zt_getr dX11_past_9 fl_X11_164 rfl rfl ?_
    refine zt_getr dX11_past_12 fl_X11_168 rfl rfl ?_
    obtain ⟨x2, hx2, h⟩ := zbind h
    refine zt_callis (t_Hi_count hx2) (zrun_V (rest := [.inl a1]) dX11_past_15 ml_X11_174 rfl rfl (by decide) (by decide) rfl (Nat.le_of_ble_eq_true rfl)) rfl rfl sb_TCo_THi_19 (Nat.le_refl _) (Nat.le_refl _) ?_
    refine zr_ic_ge (tgt := 36) dX11_past_18 (by decide) (fun hc3 => ?_) (fun hc3 => ?_)
    · replace h := zpos h hc3
      cases h
    · replace h := zneg h hc3
      refine zr_load ⟨_, dX11_past_21, rfl⟩ rfl ?_
      refine zr_if_lt (tgt := 36) dX11_past_22 (by decide) (fun hc4 => ?_) (fun hc4 => ?_)
      · replace h := zpos h hc4
        cases h
      · replace h := zneg h hc4
        refine zr_load ⟨_, dX11_past_25, rfl⟩ rfl ?_
        refine zr_aload ⟨_, dX11_past_26, rfl⟩ rfl ?_
        refine zt_getr dX11_past_27 fl_X11_31 rfl rfl ?_
        refine zt_get dX11_past_30 fl_X11_206 rfl rfl ?_
        refine zr_ic_lt (tgt := 46) dX11_past_33 (by decide) (fun hc5 => ?_) (fun hc5 => ?_)
        · replace h := zpos h hc5
          refine zr_aload ⟨_, dX11_past_46, rfl⟩ rfl ?_
          refine zt_getr dX11_past_47 fl_X11_31 rfl rfl ?_
          refine zt_getr dX11_past_50 fl_X11_164 rfl rfl ?_
          refine zt_getr dX11_past_53 fl_X11_168 rfl rfl ?_
          refine zr_load ⟨_, dX11_past_56, rfl⟩ rfl ?_
          refine zr_load ⟨_, dX11_past_57, rfl⟩ rfl ?_
          obtain ⟨x6, hx6, h⟩ := zbind h
          refine zt_callis (t_Hi_at hx6) (zrun_V (rest := []) dX11_past_58 ml_X11_210 rfl rfl (by decide) (by decide) rfl (Nat.le_of_ble_eq_true rfl)) rfl rfl sb_TCo_THi_19 (Nat.le_refl _) (Nat.le_refl _) ?_
          obtain rfl := Option.some.inj h
          exact zt_iret dX11_past_61 rfl
        · replace h := zneg h hc5
          cases h
set_option maxRecDepth 100000 in
set_option maxHeartbeats 4000000 in
theorem t_Co_goesOn {a1 : Int} {s : zSt} {res : Int} (h : f_Co_goesOn a1 s = some res) : zSpecT 2 m_X11_goesOn [.inr (.inl (some 0)), .inl a1] TCo s (some (.inl res)) s := by
  refine zSpec_of (by decide +kernel) (Nat.le_of_ble_eq_true rfl) ?_
  show zBT 2 m_X11_goesOn TCo (some (.inl res)) s 0 [some (.inr (.inl (some 0))), some (.inl a1), none] [] s
  unfold f_Co_goesOn at h
  refine zr_aload ⟨_, dX11_goesOn_0, rfl⟩ rfl ?_
  refine zt_getr dX11_goesOn_1 fl_X11_31 rfl rfl ?_
  refine zt_getr dX11_goesOn_4 fl_X11_164 rfl rfl ?_
  refine zt_getr dX11_goesOn_7 fl_X11_168 rfl rfl ?_
  obtain ⟨x1, hx1, h⟩ := zbind h
  refine zt_callis (t_Hi_count hx1) (zrun_V (rest := []) dX11_goesOn_10 ml_X11_174 rfl rfl (by decide) (by decide) rfl (Nat.le_of_ble_eq_true rfl)) rfl rfl sb_TCo_THi_19 (Nat.le_refl _) (Nat.le_refl _) ?_
  refine zr_store ⟨_, dX11_goesOn_13, rfl⟩ (by decide) rfl ?_
  refine zr_load ⟨_, dX11_goesOn_14, rfl⟩ rfl ?_
  refine zr_load ⟨_, dX11_goesOn_15, rfl⟩ rfl ?_
  refine zr_ineg dX11_goesOn_16 ?_
  refine zr_ic_lt (tgt := 31) dX11_goesOn_17 (by decide) (fun hc2 => ?_) (fun hc2 => ?_)
  · replace h := zpos h hc2
    cases h
  · replace h := zneg h hc2
    refine zr_load ⟨_, dX11_goesOn_20, rfl⟩ rfl ?_
    refine zr_aload ⟨_, dX11_goesOn_21, rfl⟩ rfl ?_
    refine zt_getr dX11_goesOn_22 fl_X11_31 rfl rfl ?_
    refine zt_get dX11_goesOn_25 fl_X11_211 rfl rfl ?_
    refine zr_ic_lt (tgt := 41) dX11_goesOn_28 (by decide) (fun hc3 => ?_) (fun hc3 => ?_)
    · replace h := zpos h hc3
      refine zr_load ⟨_, dX11_goesOn_41, rfl⟩ rfl ?_
      refine zr_if_ge (tgt := 64) dX11_goesOn_42 (by decide) (fun hc4 => ?_) (fun hc4 => ?_)
      · replace h := zpos h hc4
        refine zr_aload ⟨_, dX11_goesOn_64, rfl⟩ rfl ?_
        refine zt_getr dX11_goesOn_65 fl_X11_31 rfl rfl ?_
        by_cases hc5 : s.1 14 8 = 0
        · replace h := zpos h hc5
          refine zt_callrs (f := (zsh 14)) (t_Sc_shown0 (s := zsb (zsh 14) s) hc5) (zrun_V (rest := []) dX11_goesOn_68 ml_X11_177 rfl rfl (by decide) (by decide) rfl (Nat.le_of_ble_eq_true rfl)) rfl rfl sb_TCo_TSc_14 (Nat.le_refl _) (Nat.le_refl _) ?_
          refine zr_load ⟨_, dX11_goesOn_71, rfl⟩ rfl ?_
          obtain ⟨x6, hx6, h⟩ := zbind h
          refine zt_callis (t_Pi_isGoing hx6) (zrun_V (rest := []) dX11_goesOn_72 ml_X11_218 rfl rfl (by decide) (by decide) rfl (Nat.le_of_ble_eq_true rfl)) rfl rfl sb_TCo_TPi_16 (Nat.le_refl _) (Nat.le_refl _) ?_
          obtain ⟨hb7, h⟩ := zchk h
          obtain rfl := Option.some.inj h
          exact zt_zret dX11_goesOn_75 rfl hb7
        · replace h := zneg h hc5
          refine zt_callrs (f := (zsh 14)) (t_Sc_shown1 (s := zsb (zsh 14) s) hc5) (zrun_V (rest := []) dX11_goesOn_68 ml_X11_177 rfl rfl (by decide) (by decide) rfl (Nat.le_of_ble_eq_true rfl)) rfl rfl sb_TCo_TSc_14 (Nat.le_refl _) (Nat.le_refl _) ?_
          refine zr_load ⟨_, dX11_goesOn_71, rfl⟩ rfl ?_
          obtain ⟨x8, hx8, h⟩ := zbind h
          refine zt_callis (t_Pi_isGoing hx8) (zrun_V (rest := []) dX11_goesOn_72 ml_X11_218 rfl rfl (by decide) (by decide) rfl (Nat.le_of_ble_eq_true rfl)) rfl rfl sb_TCo_TPi_36 (Nat.le_refl _) (Nat.le_refl _) ?_
          obtain ⟨hb9, h⟩ := zchk h
          obtain rfl := Option.some.inj h
          exact zt_zret dX11_goesOn_75 rfl hb9
      · replace h := zneg h hc4
        refine zr_aload ⟨_, dX11_goesOn_45, rfl⟩ rfl ?_
        refine zt_getr dX11_goesOn_46 fl_X11_31 rfl rfl ?_
        refine zt_getr dX11_goesOn_49 fl_X11_164 rfl rfl ?_
        refine zt_getr dX11_goesOn_52 fl_X11_168 rfl rfl ?_
        refine zr_load ⟨_, dX11_goesOn_55, rfl⟩ rfl ?_
        refine zr_load ⟨_, dX11_goesOn_56, rfl⟩ rfl ?_
        refine zr_iadd dX11_goesOn_57 ?_
        obtain ⟨x10, hx10, h⟩ := zbind h
        refine zt_callis (t_Hi_isGoing hx10) (zrun_V (rest := []) dX11_goesOn_58 ml_X11_215 rfl rfl (by decide) (by decide) rfl (Nat.le_of_ble_eq_true rfl)) rfl rfl sb_TCo_THi_19 (Nat.le_refl _) (Nat.le_refl _) ?_
        refine zr_goto (tgt := 75) dX11_goesOn_61 (by decide) ?_
        obtain ⟨hb11, h⟩ := zchk h
        obtain rfl := Option.some.inj h
        exact zt_zret dX11_goesOn_75 rfl hb11
    · replace h := zneg h hc3
      cases h
set_option maxRecDepth 100000 in
set_option maxHeartbeats 4000000 in
theorem t_Co_draft {a1 : Int} {s : zSt} {res : Int × zSt} (h : f_Co_draft a1 s = some res) : zSpecT 3 m_X11_draft [.inr (.inl (some 0)), .inl a1] TCo s (some (.inl res.1)) res.2 := by
  refine zSpec_of (by decide +kernel) (Nat.le_of_ble_eq_true rfl) ?_
  show zBT 3 m_X11_draft TCo (some (.inl res.1)) res.2 0 [some (.inr (.inl (some 0))), some (.inl a1)] [] s
  unfold f_Co_draft at h
  refine zr_load ⟨_, dX11_draft_0, rfl⟩ rfl ?_
  refine zr_iconst dX11_draft_1 (by decide) ?_
  refine zr_ic_lt (tgt := 11) dX11_draft_2 (by decide) (fun hc1 => ?_) (fun hc1 => ?_)
  · replace h := zpos h hc1
    cases h
  · replace h := zneg h hc1
    refine zr_load ⟨_, dX11_draft_5, rfl⟩ rfl ?_
    refine zr_bipush dX11_draft_6 (by decide) (by decide) ?_
    refine zr_ic_lt (tgt := 21) dX11_draft_8 (by decide) (fun hc2 => ?_) (fun hc2 => ?_)
    · replace h := zpos h hc2
      refine zr_aload ⟨_, dX11_draft_21, rfl⟩ rfl ?_
      refine zt_getr dX11_draft_22 fl_X11_18 rfl rfl ?_
      obtain ⟨x3, hx3, h⟩ := zbind h
      refine zt_callis (t_By_room hx3) (zrun_V (rest := []) dX11_draft_25 ml_X11_117 rfl rfl (by decide) (by decide) rfl (Nat.le_of_ble_eq_true rfl)) rfl rfl sb_TCo_TBy_3 (Nat.le_refl _) (Nat.le_refl _) ?_
      refine zr_iconst dX11_draft_28 (by decide) ?_
      refine zr_ic_ge (tgt := 42) dX11_draft_29 (by decide) (fun hc4 => ?_) (fun hc4 => ?_)
      · replace h := zpos h hc4
        refine zr_aload ⟨_, dX11_draft_42, rfl⟩ rfl ?_
        refine zt_getr dX11_draft_43 fl_X11_18 rfl rfl ?_
        refine zr_load ⟨_, dX11_draft_46, rfl⟩ rfl ?_
        obtain ⟨x5, hx5, h⟩ := zbind h
        refine zt_calli (t_By_add hx5) (zrun_V (rest := []) dX11_draft_47 ml_X11_90 rfl rfl (by decide) (by decide) rfl (Nat.le_of_ble_eq_true rfl)) rfl rfl sb_TCo_TBy_3 (Nat.le_refl _) (Nat.le_refl _) ?_
        refine zr_pop dX11_draft_50 (Or.inr ⟨_, rfl⟩) ?_
        refine zr_aload ⟨_, dX11_draft_51, rfl⟩ rfl ?_
        refine zt_getr dX11_draft_52 fl_X11_18 rfl rfl ?_
        obtain ⟨x6, hx6, h⟩ := zbind h
        refine zt_callis (t_By_count hx6) (zrun_V (rest := []) dX11_draft_55 ml_X11_77 rfl rfl (by decide) (by decide) rfl (Nat.le_of_ble_eq_true rfl)) rfl rfl sb_TCo_TBy_3 (Nat.le_refl _) (Nat.le_refl _) ?_
        obtain rfl := Option.some.inj h
        exact zt_iret dX11_draft_58 rfl
      · replace h := zneg h hc4
        cases h
    · replace h := zneg h hc2
      cases h
set_option maxRecDepth 100000 in
set_option maxHeartbeats 4000000 in
theorem t_Co_take  {s : zSt} {res : Int × zSt} (h : f_Co_take s = some res) : zSpecT 3 m_X11_take [.inr (.inl (some 0))] TCo s (some (.inl res.1)) res.2 := by
  refine zSpec_of (by decide +kernel) (Nat.le_of_ble_eq_true rfl) ?_
  show zBT 3 m_X11_take TCo (some (.inl res.1)) res.2 0 [some (.inr (.inl (some 0)))] [] s
  unfold f_Co_take at h
  refine zr_aload ⟨_, dX11_take_0, rfl⟩ rfl ?_
  refine zt_getr dX11_take_1 fl_X11_24 rfl rfl ?_
  refine zt_getr dX11_take_4 fl_X11_149 rfl rfl ?_
  obtain ⟨x1, hx1, h⟩ := zbind h
  refine zt_calli (t_By_removeFirst hx1) (zrun_V (rest := []) dX11_take_7 ml_X11_128 rfl rfl (by decide) (by decide) rfl (Nat.le_of_ble_eq_true rfl)) rfl rfl sb_TCo_TBy_10 (Nat.le_refl _) (Nat.le_refl _) ?_
  obtain rfl := Option.some.inj h
  exact zt_iret dX11_take_10 rfl
set_option maxRecDepth 100000 in
set_option maxHeartbeats 4000000 in
theorem t_Co_title {a1 : Int} {s : zSt} {res : Int} (h : f_Co_title a1 s = some res) : zSpecT 3 m_X11_title [.inr (.inl (some 0)), .inl a1] TCo s (some (.inl res)) s := by
  refine zSpec_of (by decide +kernel) (Nat.le_of_ble_eq_true rfl) ?_
  show zBT 3 m_X11_title TCo (some (.inl res)) s 0 [some (.inr (.inl (some 0))), some (.inl a1)] [] s
  unfold f_Co_title at h
  refine zr_load ⟨_, dX11_title_0, rfl⟩ rfl ?_
  refine zr_if_lt (tgt := 21) dX11_title_1 (by decide) (fun hc1 => ?_) (fun hc1 => ?_)
  · replace h := zpos h hc1
    cases h
  · replace h := zneg h hc1
    refine zr_load ⟨_, dX11_title_4, rfl⟩ rfl ?_
    refine zr_aload ⟨_, dX11_title_5, rfl⟩ rfl ?_
    refine zt_getr dX11_title_6 fl_X11_31 rfl rfl ?_
    refine zt_getr dX11_title_9 fl_X11_219 rfl rfl ?_
    refine zt_getr dX11_title_12 fl_X11_223 rfl rfl ?_
    obtain ⟨x2, hx2, h⟩ := zbind h
    refine zt_callis (t_By_count hx2) (zrun_V (rest := [.inl a1]) dX11_title_15 ml_X11_77 rfl rfl (by decide) (by decide) rfl (Nat.le_of_ble_eq_true rfl)) rfl rfl sb_TCo_TBy_29 (Nat.le_refl _) (Nat.le_refl _) ?_
    refine zr_ic_lt (tgt := 31) dX11_title_18 (by decide) (fun hc3 => ?_) (fun hc3 => ?_)
    · replace h := zpos h hc3
      refine zr_aload ⟨_, dX11_title_31, rfl⟩ rfl ?_
      refine zt_getr dX11_title_32 fl_X11_31 rfl rfl ?_
      refine zt_getr dX11_title_35 fl_X11_219 rfl rfl ?_
      refine zt_getr dX11_title_38 fl_X11_223 rfl rfl ?_
      refine zr_load ⟨_, dX11_title_41, rfl⟩ rfl ?_
      obtain ⟨x4, hx4, h⟩ := zbind h
      refine zt_callis (t_By_at hx4) (zrun_V (rest := []) dX11_title_42 ml_X11_230 rfl rfl (by decide) (by decide) rfl (Nat.le_of_ble_eq_true rfl)) rfl rfl sb_TCo_TBy_29 (Nat.le_refl _) (Nat.le_refl _) ?_
      obtain rfl := Option.some.inj h
      exact zt_iret dX11_title_45 rfl
    · replace h := zneg h hc3
      cases h
set_option maxRecDepth 100000 in
set_option maxHeartbeats 4000000 in
theorem t_Co_told {a1 : Int} {s : zSt} {res : Int} (h : f_Co_told a1 s = some res) : zSpecT 3 m_X11_told [.inr (.inl (some 0)), .inl a1] TCo s (some (.inl res)) s := by
  refine zSpec_of (by decide +kernel) (Nat.le_of_ble_eq_true rfl) ?_
  show zBT 3 m_X11_told TCo (some (.inl res)) s 0 [some (.inr (.inl (some 0))), some (.inl a1)] [] s
  unfold f_Co_told at h
  refine zr_load ⟨_, dX11_told_0, rfl⟩ rfl ?_
  refine zr_if_lt (tgt := 10) dX11_told_1 (by decide) (fun hc1 => ?_) (fun hc1 => ?_)
  · replace h := zpos h hc1
    cases h
  · replace h := zneg h hc1
    refine zr_load ⟨_, dX11_told_4, rfl⟩ rfl ?_
    refine zr_bipush dX11_told_5 (by decide) (by decide) ?_
    refine zr_ic_le (tgt := 20) dX11_told_7 (by decide) (fun hc2 => ?_) (fun hc2 => ?_)
    · replace h := zpos h hc2
      refine zr_load ⟨_, dX11_told_20, rfl⟩ rfl ?_
      refine zr_tsw (l := [(10, 59), (11, 67), (12, 83), (13, 99), (14, 110), (15, 121), (16, 132), (17, 140), (18, 148), (19, 167), (20, 181)]) dX11_told_21 (by decide +kernel) ?_
      refine zr_swc (tgt := 80) (by decide) (fun hc3 => ?_) (fun hc3 => ?_)
      · replace h := zpos h hc3
        refine zr_aload ⟨_, dX11_told_80, rfl⟩ rfl ?_
        refine zt_getr dX11_told_81 fl_X11_31 rfl rfl ?_
        refine zt_get dX11_told_84 fl_X11_234 rfl rfl ?_
        obtain rfl := Option.some.inj h
        exact zt_iret dX11_told_87 rfl
      replace h := zneg h hc3
      refine zr_swc (tgt := 88) (by decide) (fun hc4 => ?_) (fun hc4 => ?_)
      · replace h := zpos h hc4
        refine zr_aload ⟨_, dX11_told_88, rfl⟩ rfl ?_
        refine zt_getr dX11_told_89 fl_X11_31 rfl rfl ?_
        refine zt_get dX11_told_92 fl_X11_237 rfl rfl ?_
        have hj5 : zBT 3 m_X11_told TCo (some (.inl res)) s 103 [some (.inr (.inl (some 0))), some (.inl a1)] [.inl (if (s.1 14 8) = 0 then 0 else 1)] s := by
          obtain rfl := Option.some.inj h
          exact zt_iret dX11_told_103 rfl
        refine zr_if_eq (tgt := 102) dX11_told_95 (by decide) (fun hc6 => ?_) (fun hc6 => ?_)
        · have hp7 := zif_t hj5 hc6
          refine zr_iconst dX11_told_102 (by decide) ?_
          exact hp7
        · have hp8 := zif_f hj5 hc6
          refine zr_iconst dX11_told_98 (by decide) ?_
          refine zr_goto (tgt := 103) dX11_told_99 (by decide) ?_
          exact hp8
      replace h := zneg h hc4
      refine zr_swc (tgt := 104) (by decide) (fun hc9 => ?_) (fun hc9 => ?_)
      · replace h := zpos h hc9
        refine zr_aload ⟨_, dX11_told_104, rfl⟩ rfl ?_
        refine zt_getr dX11_told_105 fl_X11_24 rfl rfl ?_
        refine zt_get dX11_told_108 fl_X11_240 rfl rfl ?_
        have hj10 : zBT 3 m_X11_told TCo (some (.inl res)) s 119 [some (.inr (.inl (some 0))), some (.inl a1)] [.inl (if (s.1 5 6) = 0 then 0 else 1)] s := by
          obtain rfl := Option.some.inj h
          exact zt_iret dX11_told_119 rfl
        refine zr_if_eq (tgt := 118) dX11_told_111 (by decide) (fun hc11 => ?_) (fun hc11 => ?_)
        · have hp12 := zif_t hj10 hc11
          refine zr_iconst dX11_told_118 (by decide) ?_
          exact hp12
        · have hp13 := zif_f hj10 hc11
          refine zr_iconst dX11_told_114 (by decide) ?_
          refine zr_goto (tgt := 119) dX11_told_115 (by decide) ?_
          exact hp13
      replace h := zneg h hc9
      refine zr_swc (tgt := 120) (by decide) (fun hc14 => ?_) (fun hc14 => ?_)
      · replace h := zpos h hc14
        refine zr_aload ⟨_, dX11_told_120, rfl⟩ rfl ?_
        refine zt_getr dX11_told_121 fl_X11_24 rfl rfl ?_
        refine zt_getr dX11_told_124 fl_X11_74 rfl rfl ?_
        obtain ⟨x15, hx15, h⟩ := zbind h
        refine zt_callis (t_By_count hx15) (zrun_V (rest := []) dX11_told_127 ml_X11_77 rfl rfl (by decide) (by decide) rfl (Nat.le_of_ble_eq_true rfl)) rfl rfl sb_TCo_TBy_8 (Nat.le_refl _) (Nat.le_refl _) ?_
        obtain rfl := Option.some.inj h
        exact zt_iret dX11_told_130 rfl
      replace h := zneg h hc14
      refine zr_swc (tgt := 131) (by decide) (fun hc16 => ?_) (fun hc16 => ?_)
      · replace h := zpos h hc16
        refine zr_aload ⟨_, dX11_told_131, rfl⟩ rfl ?_
        refine zt_getr dX11_told_132 fl_X11_24 rfl rfl ?_
        refine zt_getr dX11_told_135 fl_X11_93 rfl rfl ?_
        obtain ⟨x17, hx17, h⟩ := zbind h
        refine zt_callis (t_By_count hx17) (zrun_V (rest := []) dX11_told_138 ml_X11_77 rfl rfl (by decide) (by decide) rfl (Nat.le_of_ble_eq_true rfl)) rfl rfl sb_TCo_TBy_6 (Nat.le_refl _) (Nat.le_refl _) ?_
        obtain rfl := Option.some.inj h
        exact zt_iret dX11_told_141 rfl
      replace h := zneg h hc16
      refine zr_swc (tgt := 142) (by decide) (fun hc18 => ?_) (fun hc18 => ?_)
      · replace h := zpos h hc18
        refine zr_aload ⟨_, dX11_told_142, rfl⟩ rfl ?_
        refine zt_getr dX11_told_143 fl_X11_24 rfl rfl ?_
        refine zt_getr dX11_told_146 fl_X11_149 rfl rfl ?_
        obtain ⟨x19, hx19, h⟩ := zbind h
        refine zt_callis (t_By_count hx19) (zrun_V (rest := []) dX11_told_149 ml_X11_77 rfl rfl (by decide) (by decide) rfl (Nat.le_of_ble_eq_true rfl)) rfl rfl sb_TCo_TBy_10 (Nat.le_refl _) (Nat.le_refl _) ?_
        obtain rfl := Option.some.inj h
        exact zt_iret dX11_told_152 rfl
      replace h := zneg h hc18
      refine zr_swc (tgt := 153) (by decide) (fun hc20 => ?_) (fun hc20 => ?_)
      · replace h := zpos h hc20
        refine zr_aload ⟨_, dX11_told_153, rfl⟩ rfl ?_
        refine zt_getr dX11_told_154 fl_X11_24 rfl rfl ?_
        refine zt_get dX11_told_157 fl_X11_243 rfl rfl ?_
        obtain rfl := Option.some.inj h
        exact zt_iret dX11_told_160 rfl
      replace h := zneg h hc20
      refine zr_swc (tgt := 161) (by decide) (fun hc21 => ?_) (fun hc21 => ?_)
      · replace h := zpos h hc21
        refine zr_aload ⟨_, dX11_told_161, rfl⟩ rfl ?_
        refine zt_getr dX11_told_162 fl_X11_24 rfl rfl ?_
        refine zt_get dX11_told_165 fl_X11_246 rfl rfl ?_
        obtain rfl := Option.some.inj h
        exact zt_iret dX11_told_168 rfl
      replace h := zneg h hc21
      refine zr_swc (tgt := 169) (by decide) (fun hc22 => ?_) (fun hc22 => ?_)
      · replace h := zpos h hc22
        refine zr_aload ⟨_, dX11_told_169, rfl⟩ rfl ?_
        refine zt_getr dX11_told_170 fl_X11_31 rfl rfl ?_
        refine zt_getr dX11_told_173 fl_X11_104 rfl rfl ?_
        refine zt_get dX11_told_176 fl_X11_249 rfl rfl ?_
        have hj23 : zBT 3 m_X11_told TCo (some (.inl res)) s 187 [some (.inr (.inl (some 0))), some (.inl a1)] [.inl (if (s.1 27 2) = 0 then 0 else 1)] s := by
          obtain rfl := Option.some.inj h
          exact zt_iret dX11_told_187 rfl
        refine zr_if_eq (tgt := 186) dX11_told_179 (by decide) (fun hc24 => ?_) (fun hc24 => ?_)
        · have hp25 := zif_t hj23 hc24
          refine zr_iconst dX11_told_186 (by decide) ?_
          exact hp25
        · have hp26 := zif_f hj23 hc24
          refine zr_iconst dX11_told_182 (by decide) ?_
          refine zr_goto (tgt := 187) dX11_told_183 (by decide) ?_
          exact hp26
      replace h := zneg h hc22
      refine zr_swc (tgt := 188) (by decide) (fun hc27 => ?_) (fun hc27 => ?_)
      · replace h := zpos h hc27
        refine zr_aload ⟨_, dX11_told_188, rfl⟩ rfl ?_
        refine zt_getr dX11_told_189 fl_X11_31 rfl rfl ?_
        refine zt_getr dX11_told_192 fl_X11_219 rfl rfl ?_
        refine zt_getr dX11_told_195 fl_X11_223 rfl rfl ?_
        obtain ⟨x28, hx28, h⟩ := zbind h
        refine zt_callis (t_By_count hx28) (zrun_V (rest := []) dX11_told_198 ml_X11_77 rfl rfl (by decide) (by decide) rfl (Nat.le_of_ble_eq_true rfl)) rfl rfl sb_TCo_TBy_29 (Nat.le_refl _) (Nat.le_refl _) ?_
        obtain rfl := Option.some.inj h
        exact zt_iret dX11_told_201 rfl
      replace h := zneg h hc27
      refine zr_swc (tgt := 202) (by decide) (fun hc29 => ?_) (fun hc29 => ?_)
      · replace h := zpos h hc29
        refine zr_aload ⟨_, dX11_told_202, rfl⟩ rfl ?_
        refine zt_getr dX11_told_203 fl_X11_31 rfl rfl ?_
        obtain ⟨x30, hx30, h⟩ := zbind h
        refine zt_callis (t_Sc_nextTab hx30) (zrun_V (rest := []) dX11_told_206 ml_X11_252 rfl rfl (by decide) (by decide) rfl (Nat.le_of_ble_eq_true rfl)) rfl rfl sb_TCo_TSc_14 (Nat.le_refl _) (Nat.le_refl _) ?_
        obtain rfl := Option.some.inj h
        exact zt_iret dX11_told_209 rfl
      replace h := zneg h hc29
      refine zr_swd (tgt := 210) (by decide) ?_
      refine zr_aload ⟨_, dX11_told_210, rfl⟩ rfl ?_
      refine zt_getr dX11_told_211 fl_X11_31 rfl rfl ?_
      refine zr_load ⟨_, dX11_told_214, rfl⟩ rfl ?_
      obtain ⟨x31, hx31, h⟩ := zbind h
      refine zt_callis (t_Sc_tellPlaces hx31) (zrun_V (rest := []) dX11_told_215 ml_X11_255 rfl rfl (by decide) (by decide) rfl (Nat.le_of_ble_eq_true rfl)) rfl rfl sb_TCo_TSc_14 (Nat.le_refl _) (Nat.le_refl _) ?_
      obtain rfl := Option.some.inj h
      exact zt_iret dX11_told_218 rfl
    · replace h := zneg h hc2
      cases h
set_option maxRecDepth 100000 in
set_option maxHeartbeats 4000000 in
theorem t_Co_addBracket {a1 : Int} {s : zSt} {res : Int × zSt} (h : f_Co_addBracket a1 s = some res) : zSpecT 3 m_X11_addBracket [.inr (.inl (some 0)), .inl a1] TCo s none res.2 := by
  refine zSpec_of (by decide +kernel) (Nat.le_of_ble_eq_true rfl) ?_
  show zBT 3 m_X11_addBracket TCo none res.2 0 [some (.inr (.inl (some 0))), some (.inl a1)] [] s
  unfold f_Co_addBracket at h
  refine zr_aload ⟨_, dX11_addBracket_0, rfl⟩ rfl ?_
  refine zt_getr dX11_addBracket_1 fl_X11_14 rfl rfl ?_
  refine zr_bipush dX11_addBracket_4 (by decide) (by decide) ?_
  obtain ⟨x1, hx1, h⟩ := zbind h
  refine zt_calli (t_By_add hx1) (zrun_V (rest := []) dX11_addBracket_6 ml_X11_90 rfl rfl (by decide) (by decide) rfl (Nat.le_of_ble_eq_true rfl)) rfl rfl sb_TCo_TBy_1 (Nat.le_refl _) (Nat.le_refl _) ?_
  refine zr_pop dX11_addBracket_9 (Or.inr ⟨_, rfl⟩) ?_
  refine zr_aload ⟨_, dX11_addBracket_10, rfl⟩ rfl ?_
  refine zt_getr dX11_addBracket_11 fl_X11_14 rfl rfl ?_
  refine zr_bipush dX11_addBracket_14 (by decide) (by decide) ?_
  obtain ⟨x2, hx2, h⟩ := zbind h
  refine zt_calli (t_By_add hx2) (zrun_V (rest := []) dX11_addBracket_16 ml_X11_90 rfl rfl (by decide) (by decide) rfl (Nat.le_of_ble_eq_true rfl)) rfl rfl sb_TCo_TBy_1 (Nat.le_refl _) (Nat.le_refl _) ?_
  refine zr_pop dX11_addBracket_19 (Or.inr ⟨_, rfl⟩) ?_
  refine zr_aload ⟨_, dX11_addBracket_20, rfl⟩ rfl ?_
  refine zt_getr dX11_addBracket_21 fl_X11_14 rfl rfl ?_
  refine zr_bipush dX11_addBracket_24 (by decide) (by decide) ?_
  obtain ⟨x3, hx3, h⟩ := zbind h
  refine zt_calli (t_By_add hx3) (zrun_V (rest := []) dX11_addBracket_26 ml_X11_90 rfl rfl (by decide) (by decide) rfl (Nat.le_of_ble_eq_true rfl)) rfl rfl sb_TCo_TBy_1 (Nat.le_refl _) (Nat.le_refl _) ?_
  refine zr_pop dX11_addBracket_29 (Or.inr ⟨_, rfl⟩) ?_
  refine zr_aload ⟨_, dX11_addBracket_30, rfl⟩ rfl ?_
  refine zt_getr dX11_addBracket_31 fl_X11_14 rfl rfl ?_
  refine zr_bipush dX11_addBracket_34 (by decide) (by decide) ?_
  obtain ⟨x4, hx4, h⟩ := zbind h
  refine zt_calli (t_By_add hx4) (zrun_V (rest := []) dX11_addBracket_36 ml_X11_90 rfl rfl (by decide) (by decide) rfl (Nat.le_of_ble_eq_true rfl)) rfl rfl sb_TCo_TBy_1 (Nat.le_refl _) (Nat.le_refl _) ?_
  refine zr_pop dX11_addBracket_39 (Or.inr ⟨_, rfl⟩) ?_
  refine zr_aload ⟨_, dX11_addBracket_40, rfl⟩ rfl ?_
  refine zt_getr dX11_addBracket_41 fl_X11_14 rfl rfl ?_
  refine zr_load ⟨_, dX11_addBracket_44, rfl⟩ rfl ?_
  obtain ⟨x5, hx5, h⟩ := zbind h
  refine zt_calli (t_By_add hx5) (zrun_V (rest := []) dX11_addBracket_45 ml_X11_90 rfl rfl (by decide) (by decide) rfl (Nat.le_of_ble_eq_true rfl)) rfl rfl sb_TCo_TBy_1 (Nat.le_refl _) (Nat.le_refl _) ?_
  refine zr_pop dX11_addBracket_48 (Or.inr ⟨_, rfl⟩) ?_
  refine zr_aload ⟨_, dX11_addBracket_49, rfl⟩ rfl ?_
  refine zt_getr dX11_addBracket_50 fl_X11_14 rfl rfl ?_
  refine zr_bipush dX11_addBracket_53 (by decide) (by decide) ?_
  obtain ⟨x6, hx6, h⟩ := zbind h
  refine zt_calli (t_By_add hx6) (zrun_V (rest := []) dX11_addBracket_55 ml_X11_90 rfl rfl (by decide) (by decide) rfl (Nat.le_of_ble_eq_true rfl)) rfl rfl sb_TCo_TBy_1 (Nat.le_refl _) (Nat.le_refl _) ?_
  refine zr_pop dX11_addBracket_58 (Or.inr ⟨_, rfl⟩) ?_
  obtain rfl := Option.some.inj h
  exact zt_vret dX11_addBracket_59 rfl
set_option maxRecDepth 100000 in
set_option maxHeartbeats 4000000 in
theorem t_Co_draw_l12  {r : Option zAV} {s0 : zSt}  : ∀ (n : Nat) (x : Int × Int × zSt) (out : Int × zSt), zloop (f_Co_draw_l12) n x = some out → (zBT 4 m_X11_draw TCo r s0 38 [some (.inr (.inl (some 0))), some (.inl out.1), some (.inr (.inl (some 16))), none] [] out.2) → zBT 4 m_X11_draw TCo r s0 12 [some (.inr (.inl (some 0))), some (.inl x.1), some (.inr (.inl (some 16))), some (.inl x.2.1)] [] x.2.2 := by
  refine zloop_B (B := fun (x : Int × Int × zSt) (out : Int × zSt) => zBT 4 m_X11_draw TCo r s0 38 [some (.inr (.inl (some 0))), some (.inl out.1), some (.inr (.inl (some 16))), none] [] out.2 → zBT 4 m_X11_draw TCo r s0 12 [some (.inr (.inl (some 0))), some (.inl x.1), some (.inr (.inl (some 16))), some (.inl x.2.1)] [] x.2.2) ?_
  intro x o out h hk hx
  unfold f_Co_draw_l12 at h
  refine zr_load ⟨_, dX11_draw_12, rfl⟩ rfl ?_
  refine zr_aload ⟨_, dX11_draw_13, rfl⟩ rfl ?_
  obtain ⟨x1, hx1, h⟩ := zbind h
  refine zt_callis (t_Pi_rows hx1) (zrun_V (rest := [.inl x.2.1]) dX11_draw_14 ml_X11_181 rfl rfl (by decide) (by decide) rfl (Nat.le_of_ble_eq_true rfl)) rfl rfl sb_TCo_TPi_16 (Nat.le_refl _) (Nat.le_refl _) ?_
  refine zr_ic_ge (tgt := 38) dX11_draw_17 (by decide) (fun hc2 => ?_) (fun hc2 => ?_)
  · replace h := zpos h hc2
    refine zr_mask [true, true, true, false] rfl ?_
    obtain rfl := Option.some.inj h
    obtain rfl := hk
    exact hx
  · replace h := zneg h hc2
    refine zr_load ⟨_, dX11_draw_20, rfl⟩ rfl ?_
    refine zr_aload ⟨_, dX11_draw_21, rfl⟩ rfl ?_
    refine zt_getr dX11_draw_22 fl_X11_48 rfl rfl ?_
    refine zr_aload ⟨_, dX11_draw_25, rfl⟩ rfl ?_
    refine zr_load ⟨_, dX11_draw_26, rfl⟩ rfl ?_
    obtain ⟨x3, hx3, h⟩ := zbind h
    refine zt_calli (t_Sl_costsOf hx3) (zrun_V (rest := [.inl x.1]) dX11_draw_27 ml_X11_186 rfl rfl (by decide) (by decide) rfl (Nat.le_of_ble_eq_true rfl)) rfl rfl sb_TCo_TSlPi_70_16 (Nat.le_refl _) (Nat.le_refl _) ?_
    refine zr_iadd dX11_draw_30 ?_
    refine zr_store ⟨_, dX11_draw_31, rfl⟩ (by decide) rfl ?_
    refine zr_iinc dX11_draw_32 rfl (by decide) rfl ?_
    refine zr_goto (tgt := 12) dX11_draw_35 (by decide) ?_
    obtain rfl := Option.some.inj h
    exact hk hx
set_option maxRecDepth 100000 in
set_option maxHeartbeats 4000000 in
theorem t_Co_draw_l12_1  {r : Option zAV} {s0 : zSt}  : ∀ (n : Nat) (x : Int × Int × zSt) (out : Int × zSt), zloop (f_Co_draw_l12_1) n x = some out → (zBT 4 m_X11_draw TCo r s0 38 [some (.inr (.inl (some 0))), some (.inl out.1), some (.inr (.inl (some 36))), none] [] out.2) → zBT 4 m_X11_draw TCo r s0 12 [some (.inr (.inl (some 0))), some (.inl x.1), some (.inr (.inl (some 36))), some (.inl x.2.1)] [] x.2.2 := by
  refine zloop_B (B := fun (x : Int × Int × zSt) (out : Int × zSt) => zBT 4 m_X11_draw TCo r s0 38 [some (.inr (.inl (some 0))), some (.inl out.1), some (.inr (.inl (some 36))), none] [] out.2 → zBT 4 m_X11_draw TCo r s0 12 [some (.inr (.inl (some 0))), some (.inl x.1), some (.inr (.inl (some 36))), some (.inl x.2.1)] [] x.2.2) ?_
  intro x o out h hk hx
  unfold f_Co_draw_l12_1 at h
  refine zr_load ⟨_, dX11_draw_12, rfl⟩ rfl ?_
  refine zr_aload ⟨_, dX11_draw_13, rfl⟩ rfl ?_
  obtain ⟨x1, hx1, h⟩ := zbind h
  refine zt_callis (t_Pi_rows hx1) (zrun_V (rest := [.inl x.2.1]) dX11_draw_14 ml_X11_181 rfl rfl (by decide) (by decide) rfl (Nat.le_of_ble_eq_true rfl)) rfl rfl sb_TCo_TPi_36 (Nat.le_refl _) (Nat.le_refl _) ?_
  refine zr_ic_ge (tgt := 38) dX11_draw_17 (by decide) (fun hc2 => ?_) (fun hc2 => ?_)
  · replace h := zpos h hc2
    refine zr_mask [true, true, true, false] rfl ?_
    obtain rfl := Option.some.inj h
    obtain rfl := hk
    exact hx
  · replace h := zneg h hc2
    refine zr_load ⟨_, dX11_draw_20, rfl⟩ rfl ?_
    refine zr_aload ⟨_, dX11_draw_21, rfl⟩ rfl ?_
    refine zt_getr dX11_draw_22 fl_X11_48 rfl rfl ?_
    refine zr_aload ⟨_, dX11_draw_25, rfl⟩ rfl ?_
    refine zr_load ⟨_, dX11_draw_26, rfl⟩ rfl ?_
    obtain ⟨x3, hx3, h⟩ := zbind h
    refine zt_calli (t_Sl_costsOf hx3) (zrun_V (rest := [.inl x.1]) dX11_draw_27 ml_X11_186 rfl rfl (by decide) (by decide) rfl (Nat.le_of_ble_eq_true rfl)) rfl rfl sb_TCo_TSlPi_70_36 (Nat.le_refl _) (Nat.le_refl _) ?_
    refine zr_iadd dX11_draw_30 ?_
    refine zr_store ⟨_, dX11_draw_31, rfl⟩ (by decide) rfl ?_
    refine zr_iinc dX11_draw_32 rfl (by decide) rfl ?_
    refine zr_goto (tgt := 12) dX11_draw_35 (by decide) ?_
    obtain rfl := Option.some.inj h
    exact hk hx
set_option maxRecDepth 100000 in
set_option maxHeartbeats 4000000 in
theorem t_Co_draw  {s : zSt} {res : Int × zSt} (h : f_Co_draw s = some res) : zSpecT 4 m_X11_draw [.inr (.inl (some 0))] TCo s (some (.inl res.1)) res.2 := by
  refine zSpec_of (by decide +kernel) (Nat.le_of_ble_eq_true rfl) ?_
  show zBT 4 m_X11_draw TCo (some (.inl res.1)) res.2 0 [some (.inr (.inl (some 0))), none, none, none] [] s
  unfold f_Co_draw at h
  refine zr_iconst dX11_draw_0 (by decide) ?_
  refine zr_store ⟨_, dX11_draw_1, rfl⟩ (by decide) rfl ?_
  refine zr_aload ⟨_, dX11_draw_2, rfl⟩ rfl ?_
  refine zt_getr dX11_draw_3 fl_X11_31 rfl rfl ?_
  by_cases hc1 : s.1 14 8 = 0
  · replace h := zpos h hc1
    refine zt_callrs (f := (zsh 14)) (t_Sc_shown0 (s := zsb (zsh 14) s) hc1) (zrun_V (rest := []) dX11_draw_6 ml_X11_177 rfl rfl (by decide) (by decide) rfl (Nat.le_of_ble_eq_true rfl)) rfl rfl sb_TCo_TSc_14 (Nat.le_refl _) (Nat.le_refl _) ?_
    refine zr_astore ⟨_, dX11_draw_9, rfl⟩ (by decide) rfl ?_
    refine zr_iconst dX11_draw_10 (by decide) ?_
    refine zr_store ⟨_, dX11_draw_11, rfl⟩ (by decide) rfl ?_
    obtain ⟨y2, hy2, h⟩ := zbind h
    refine t_Co_draw_l12 _ _ _ hy2 ?_
    refine zr_aload ⟨_, dX11_draw_38, rfl⟩ rfl ?_
    refine zt_getr dX11_draw_39 fl_X11_48 rfl rfl ?_
    refine zt_getr dX11_draw_42 fl_X11_190 rfl rfl ?_
    refine zr_aload ⟨_, dX11_draw_45, rfl⟩ rfl ?_
    obtain ⟨x3, hx3, h⟩ := zbind h
    refine zt_callv (t_Pi_copyCells hx3) (zrun_V (rest := []) dX11_draw_46 ml_X11_194 rfl rfl (by decide) (by decide) rfl (Nat.le_of_ble_eq_true rfl)) rfl rfl sb_TCo_TPiPi_71_16 (Nat.le_refl _) (Nat.le_refl _) ?_
    refine zr_load ⟨_, dX11_draw_49, rfl⟩ rfl ?_
    obtain rfl := Option.some.inj h
    exact zt_iret dX11_draw_50 rfl
  · replace h := zneg h hc1
    refine zt_callrs (f := (zsh 14)) (t_Sc_shown1 (s := zsb (zsh 14) s) hc1) (zrun_V (rest := []) dX11_draw_6 ml_X11_177 rfl rfl (by decide) (by decide) rfl (Nat.le_of_ble_eq_true rfl)) rfl rfl sb_TCo_TSc_14 (Nat.le_refl _) (Nat.le_refl _) ?_
    refine zr_astore ⟨_, dX11_draw_9, rfl⟩ (by decide) rfl ?_
    refine zr_iconst dX11_draw_10 (by decide) ?_
    refine zr_store ⟨_, dX11_draw_11, rfl⟩ (by decide) rfl ?_
    obtain ⟨y4, hy4, h⟩ := zbind h
    refine t_Co_draw_l12_1 _ _ _ hy4 ?_
    refine zr_aload ⟨_, dX11_draw_38, rfl⟩ rfl ?_
    refine zt_getr dX11_draw_39 fl_X11_48 rfl rfl ?_
    refine zt_getr dX11_draw_42 fl_X11_190 rfl rfl ?_
    refine zr_aload ⟨_, dX11_draw_45, rfl⟩ rfl ?_
    obtain ⟨x5, hx5, h⟩ := zbind h
    refine zt_callv (t_Pi_copyCells hx5) (zrun_V (rest := []) dX11_draw_46 ml_X11_194 rfl rfl (by decide) (by decide) rfl (Nat.le_of_ble_eq_true rfl)) rfl rfl sb_TCo_TPiPi_71_36 (Nat.le_refl _) (Nat.le_refl _) ?_
    refine zr_load ⟨_, dX11_draw_49, rfl⟩ rfl ?_
    obtain rfl := Option.some.inj h
    exact zt_iret dX11_draw_50 rfl
set_option maxRecDepth 100000 in
set_option maxHeartbeats 4000000 in
theorem t_Co_least {a1 : Int} {s : zSt} {res : Int × zSt} (h : f_Co_least a1 s = some res) : zSpecT 4 m_X11_least [.inr (.inl (some 0)), .inl a1] TCo s (some (.inl res.1)) res.2 := by
  refine zSpec_of (by decide +kernel) (Nat.le_of_ble_eq_true rfl) ?_
  show zBT 4 m_X11_least TCo (some (.inl res.1)) res.2 0 [some (.inr (.inl (some 0))), some (.inl a1)] [] s
  unfold f_Co_least at h
  refine zr_load ⟨_, dX11_least_0, rfl⟩ rfl ?_
  refine zr_if_lt (tgt := 15) dX11_least_1 (by decide) (fun hc1 => ?_) (fun hc1 => ?_)
  · replace h := zpos h hc1
    cases h
  · replace h := zneg h hc1
    refine zr_load ⟨_, dX11_least_4, rfl⟩ rfl ?_
    refine zr_aload ⟨_, dX11_least_5, rfl⟩ rfl ?_
    refine zt_getr dX11_least_6 fl_X11_31 rfl rfl ?_
    refine zt_get dX11_least_9 fl_X11_211 rfl rfl ?_
    refine zr_ic_lt (tgt := 25) dX11_least_12 (by decide) (fun hc2 => ?_) (fun hc2 => ?_)
    · replace h := zpos h hc2
      refine zr_aload ⟨_, dX11_least_25, rfl⟩ rfl ?_
      refine zt_getr dX11_least_26 fl_X11_48 rfl rfl ?_
      refine zr_aload ⟨_, dX11_least_29, rfl⟩ rfl ?_
      refine zt_getr dX11_least_30 fl_X11_31 rfl rfl ?_
      by_cases hc3 : s.1 14 8 = 0
      · replace h := zpos h hc3
        refine zt_callrs (f := (zsh 14)) (t_Sc_shown0 (s := zsb (zsh 14) s) hc3) (zrun_V (rest := [.inr (.inl (some 70))]) dX11_least_33 ml_X11_177 rfl rfl (by decide) (by decide) rfl (Nat.le_of_ble_eq_true rfl)) rfl rfl sb_TCo_TSc_14 (Nat.le_refl _) (Nat.le_refl _) ?_
        refine zr_load ⟨_, dX11_least_36, rfl⟩ rfl ?_
        obtain ⟨x4, hx4, h⟩ := zbind h
        refine zt_calli (t_Sl_costsOf hx4) (zrun_V (rest := []) dX11_least_37 ml_X11_186 rfl rfl (by decide) (by decide) rfl (Nat.le_of_ble_eq_true rfl)) rfl rfl sb_TCo_TSlPi_70_16 (Nat.le_refl _) (Nat.le_refl _) ?_
        obtain rfl := Option.some.inj h
        exact zt_iret dX11_least_40 rfl
      · replace h := zneg h hc3
        refine zt_callrs (f := (zsh 14)) (t_Sc_shown1 (s := zsb (zsh 14) s) hc3) (zrun_V (rest := [.inr (.inl (some 70))]) dX11_least_33 ml_X11_177 rfl rfl (by decide) (by decide) rfl (Nat.le_of_ble_eq_true rfl)) rfl rfl sb_TCo_TSc_14 (Nat.le_refl _) (Nat.le_refl _) ?_
        refine zr_load ⟨_, dX11_least_36, rfl⟩ rfl ?_
        obtain ⟨x5, hx5, h⟩ := zbind h
        refine zt_calli (t_Sl_costsOf hx5) (zrun_V (rest := []) dX11_least_37 ml_X11_186 rfl rfl (by decide) (by decide) rfl (Nat.le_of_ble_eq_true rfl)) rfl rfl sb_TCo_TSlPi_70_36 (Nat.le_refl _) (Nat.le_refl _) ?_
        obtain rfl := Option.some.inj h
        exact zt_iret dX11_least_40 rfl
    · replace h := zneg h hc2
      cases h
set_option maxRecDepth 100000 in
set_option maxHeartbeats 4000000 in
theorem t_Co_rule {a1 a2 : Int} {s : zSt} {res : Int × zSt} (h : f_Co_rule a1 a2 s = some res) : zSpecT 6 m_X11_rule [.inr (.inl (some 0)), .inl a1, .inl a2] TCo s (some (.inl res.1)) res.2 := by
  refine zSpec_of (by decide +kernel) (Nat.le_of_ble_eq_true rfl) ?_
  show zBT 6 m_X11_rule TCo (some (.inl res.1)) res.2 0 [some (.inr (.inl (some 0))), some (.inl a1), some (.inl a2)] [] s
  unfold f_Co_rule at h
  refine zr_aload ⟨_, dX11_rule_0, rfl⟩ rfl ?_
  refine zt_getr dX11_rule_1 fl_X11_24 rfl rfl ?_
  refine zr_load ⟨_, dX11_rule_4, rfl⟩ rfl ?_
  refine zr_load ⟨_, dX11_rule_5, rfl⟩ rfl ?_
  obtain ⟨x1, hx1, h⟩ := zbind h
  refine zt_calli (t_Li_change hx1) (zrun_V (rest := []) dX11_rule_6 ml_X11_145 rfl rfl (by decide) (by decide) rfl (Nat.le_of_ble_eq_true rfl)) rfl rfl sb_TCo_TLi_5 (Nat.le_refl _) (Nat.le_refl _) ?_
  obtain ⟨hb2, h⟩ := zchk h
  obtain rfl := Option.some.inj h
  exact zt_zret dX11_rule_9 rfl hb2
set_option maxRecDepth 100000 in
set_option maxHeartbeats 4000000 in
theorem t_Co_cellAnew {a1 a2 : Int} {s : zSt} {res : Int × zSt} (h : f_Co_cellAnew a1 a2 s = some res) : zSpecT 10 m_X11_cellAnew [.inr (.inl (some 0)), .inl a1, .inl a2] TCo s (some (.inl res.1)) res.2 := by
  refine zSpec_of (by decide +kernel) (Nat.le_of_ble_eq_true rfl) ?_
  show zBT 10 m_X11_cellAnew TCo (some (.inl res.1)) res.2 0 [some (.inr (.inl (some 0))), some (.inl a1), some (.inl a2)] [] s
  unfold f_Co_cellAnew at h
  refine zr_aload ⟨_, dX11_cellAnew_0, rfl⟩ rfl ?_
  refine zt_getr dX11_cellAnew_1 fl_X11_31 rfl rfl ?_
  refine zr_load ⟨_, dX11_cellAnew_4, rfl⟩ rfl ?_
  refine zr_load ⟨_, dX11_cellAnew_5, rfl⟩ rfl ?_
  obtain ⟨x1, hx1, h⟩ := zbind h
  refine zt_callis (t_Sc_has hx1) (zrun_V (rest := []) dX11_cellAnew_6 ml_X11_131 rfl rfl (by decide) (by decide) rfl (Nat.le_of_ble_eq_true rfl)) rfl rfl sb_TCo_TSc_14 (Nat.le_refl _) (Nat.le_refl _) ?_
  refine zr_if_ne (tgt := 22) dX11_cellAnew_9 (by decide) (fun hc2 => ?_) (fun hc2 => ?_)
  · replace h := zpos h hc2
    refine zr_aload ⟨_, dX11_cellAnew_22, rfl⟩ rfl ?_
    refine zt_getr dX11_cellAnew_23 fl_X11_38 rfl rfl ?_
    refine zr_aload ⟨_, dX11_cellAnew_26, rfl⟩ rfl ?_
    refine zt_getr dX11_cellAnew_27 fl_X11_42 rfl rfl ?_
    obtain ⟨x3, hx3, h⟩ := zbind h
    refine zt_callv (t_Ta_playOn hx3) (zrun_V (rest := []) dX11_cellAnew_30 ml_X11_202 rfl rfl (by decide) (by decide) rfl (Nat.le_of_ble_eq_true rfl)) rfl rfl sb_TCo_TTaSc_41 (Nat.le_refl _) (Nat.le_refl _) ?_
    refine zr_aload ⟨_, dX11_cellAnew_33, rfl⟩ rfl ?_
    refine zt_getr dX11_cellAnew_34 fl_X11_42 rfl rfl ?_
    by_cases hc4 : x3.2.1 2 8 = 0
    · replace h := zpos h hc4
      refine zt_callrs (f := (zsh 43)) (t_Sc_shown0 (s := zsb (zsh 43) (zpb (zsh 41) 29 s x3.2)) hc4) (zrun_V (rest := []) dX11_cellAnew_37 ml_X11_177 rfl rfl (by decide) (by decide) rfl (Nat.le_of_ble_eq_true rfl)) rfl rfl sb_TCo_TSc_43 (Nat.le_refl _) (Nat.le_refl _) ?_
      refine zr_load ⟨_, dX11_cellAnew_40, rfl⟩ rfl ?_
      refine zr_load ⟨_, dX11_cellAnew_41, rfl⟩ rfl ?_
      obtain ⟨x5, hx5, h⟩ := zbind h
      refine zt_callis (t_Pi_at hx5) (zrun_V (rest := []) dX11_cellAnew_42 ml_X11_198 rfl rfl (by decide) (by decide) rfl (Nat.le_of_ble_eq_true rfl)) rfl rfl sb_TCo_TPi_45 (Nat.le_refl _) (Nat.le_refl _) ?_
      obtain rfl := Option.some.inj h
      exact zt_iret dX11_cellAnew_45 rfl
    · replace h := zneg h hc4
      refine zt_callrs (f := (zsh 43)) (t_Sc_shown1 (s := zsb (zsh 43) (zpb (zsh 41) 29 s x3.2)) hc4) (zrun_V (rest := []) dX11_cellAnew_37 ml_X11_177 rfl rfl (by decide) (by decide) rfl (Nat.le_of_ble_eq_true rfl)) rfl rfl sb_TCo_TSc_43 (Nat.le_refl _) (Nat.le_refl _) ?_
      refine zr_load ⟨_, dX11_cellAnew_40, rfl⟩ rfl ?_
      refine zr_load ⟨_, dX11_cellAnew_41, rfl⟩ rfl ?_
      obtain ⟨x6, hx6, h⟩ := zbind h
      refine zt_callis (t_Pi_at hx6) (zrun_V (rest := []) dX11_cellAnew_42 ml_X11_198 rfl rfl (by decide) (by decide) rfl (Nat.le_of_ble_eq_true rfl)) rfl rfl sb_TCo_TPi_65 (Nat.le_refl _) (Nat.le_refl _) ?_
      obtain rfl := Option.some.inj h
      exact zt_iret dX11_cellAnew_45 rfl
  · replace h := zneg h hc2
    cases h
