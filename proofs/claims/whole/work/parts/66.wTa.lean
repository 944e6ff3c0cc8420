set_option maxRecDepth 100000 in
set_option maxHeartbeats 4000000 in
theorem t_Ta_playOn_l9  {r : Option zAV} {s0 : zSt}  : ∀ (n : Nat) (x : Int × zSt) (out : zSt), zloop (f_Ta_playOn_l9) n x = some out → (zBT 9 m_X10_playOn TTaSc r s0 74 [some (.inr (.inl (some 0))), none, none, none] [] out) → zBT 9 m_X10_playOn TTaSc r s0 9 [some (.inr (.inl (some 0))), some (.inr (.inl (some 2))), some (.inl x.1), none] [] x.2 := by
  refine zloop_B (B := fun (x : Int × zSt) (out : zSt) => zBT 9 m_X10_playOn TTaSc r s0 74 [some (.inr (.inl (some 0))), none, none, none] [] out → zBT 9 m_X10_playOn TTaSc r s0 9 [some (.inr (.inl (some 0))), some (.inr (.inl (some 2))), some (.inl x.1), none] [] x.2) ?_
  intro x o out h hk hx
  unfold f_Ta_playOn_l9 at h
  refine zr_load ⟨_, dX10_playOn_9, rfl⟩ rfl ?_
  refine zr_aload ⟨_, dX10_playOn_10, rfl⟩ rfl ?_
  refine zt_get dX10_playOn_11 fl_X10_17 rfl rfl ?_
  refine zr_ic_ge (tgt := 74) dX10_playOn_14 (by decide) (fun hc1 => ?_) (fun hc1 => ?_)
  · replace h := zpos h hc1
    refine zr_mask [true, false, false, false] rfl ?_
    obtain rfl := Option.some.inj h
    obtain rfl := hk
    exact hx
  · replace h := zneg h hc1
    refine zr_load ⟨_, dX10_playOn_17, rfl⟩ rfl ?_
    refine zr_aload ⟨_, dX10_playOn_18, rfl⟩ rfl ?_
    refine zt_getr dX10_playOn_19 fl_X10_9 rfl rfl ?_
    obtain ⟨hb2, h⟩ := zchk h
    refine zt_alen dX10_playOn_22 rfl (by decide) hb2 ?_
    refine zr_ic_ge (tgt := 74) dX10_playOn_23 (by decide) (fun hc3 => ?_) (fun hc3 => ?_)
    · replace h := zpos h hc3
      refine zr_mask [true, false, false, false] rfl ?_
      obtain rfl := Option.some.inj h
      obtain rfl := hk
      exact hx
    · replace h := zneg h hc3
      refine zr_aload ⟨_, dX10_playOn_26, rfl⟩ rfl ?_
      refine zt_getr dX10_playOn_27 fl_X10_9 rfl rfl ?_
      refine zr_load ⟨_, dX10_playOn_30, rfl⟩ rfl ?_
      obtain ⟨hb4, h⟩ := zchk h
      refine zt_iaload dX10_playOn_31 rfl hb4 ?_
      refine zr_store ⟨_, dX10_playOn_32, rfl⟩ (by decide) rfl ?_
      refine zr_load ⟨_, dX10_playOn_33, rfl⟩ rfl ?_
      refine zr_sipush dX10_playOn_34 (by decide) (by decide) ?_
      refine zr_ic_ge (tgt := 48) dX10_playOn_37 (by decide) (fun hc5 => ?_) (fun hc5 => ?_)
      · replace h := zpos h hc5
        refine zr_aload ⟨_, dX10_playOn_48, rfl⟩ rfl ?_
        refine zr_load ⟨_, dX10_playOn_49, rfl⟩ rfl ?_
        refine zr_sipush dX10_playOn_50 (by decide) (by decide) ?_
        refine zr_isub dX10_playOn_53 ?_
        refine zr_bipush dX10_playOn_54 (by decide) (by decide) ?_
        refine zr_idiv dX10_playOn_56 (by decide) ?_
        refine zr_load ⟨_, dX10_playOn_57, rfl⟩ rfl ?_
        refine zr_sipush dX10_playOn_58 (by decide) (by decide) ?_
        refine zr_isub dX10_playOn_61 ?_
        refine zr_bipush dX10_playOn_62 (by decide) (by decide) ?_
        refine zr_irem dX10_playOn_64 (by decide) ?_
        obtain ⟨x6, hx6, h⟩ := zbind h
        refine zt_callv (t_Sc_resize hx6) (zrun_V (rest := []) dX10_playOn_65 ml_X10_42 rfl rfl (by decide) (by decide) rfl (Nat.le_of_ble_eq_true rfl)) rfl rfl sb_TTaSc_TSc_2 (Nat.le_refl _) (Nat.le_refl _) ?_
        refine zr_iinc dX10_playOn_68 rfl (by decide) rfl ?_
        refine zr_goto (tgt := 9) dX10_playOn_71 (by decide) ?_
        refine zr_mask [true, true, true, false] rfl ?_
        obtain rfl := Option.some.inj h
        exact hk hx
      · replace h := zneg h hc5
        refine zr_aload ⟨_, dX10_playOn_40, rfl⟩ rfl ?_
        refine zr_load ⟨_, dX10_playOn_41, rfl⟩ rfl ?_
        obtain ⟨x7, hx7, h⟩ := zbind h
        refine zt_callv (t_Sc_receive hx7) (zrun_V (rest := []) dX10_playOn_42 ml_X10_37 rfl rfl (by decide) (by decide) rfl (Nat.le_of_ble_eq_true rfl)) rfl rfl sb_TTaSc_TSc_2 (Nat.le_refl _) (Nat.le_refl _) ?_
        refine zr_goto (tgt := 68) dX10_playOn_45 (by decide) ?_
        refine zr_iinc dX10_playOn_68 rfl (by decide) rfl ?_
        refine zr_goto (tgt := 9) dX10_playOn_71 (by decide) ?_
        refine zr_mask [true, true, true, false] rfl ?_
        obtain rfl := Option.some.inj h
        exact hk hx
set_option maxRecDepth 100000 in
set_option maxHeartbeats 4000000 in
theorem t_Ta_playOn  {s : zSt} {res : Int × zSt} (h : f_Ta_playOn s = some res) : zSpecT 9 m_X10_playOn [.inr (.inl (some 0)), .inr (.inl (some 2))] TTaSc s none res.2 := by
  refine zSpec_of (by decide +kernel) (Nat.le_of_ble_eq_true rfl) ?_
  show zBT 9 m_X10_playOn TTaSc none res.2 0 [some (.inr (.inl (some 0))), some (.inr (.inl (some 2))), none, none] [] s
  unfold f_Ta_playOn at h
  refine zr_aload ⟨_, dX10_playOn_0, rfl⟩ rfl ?_
  refine zt_get dX10_playOn_1 fl_X10_28 rfl rfl ?_
  refine zr_iconst dX10_playOn_4 (by decide) ?_
  refine zr_max dX10_playOn_5 ml_X10_31 (by decide) (Nat.le_refl _) (Nat.le_refl _) (Nat.le_of_ble_eq_true rfl) ?_
  refine zr_store ⟨_, dX10_playOn_8, rfl⟩ (by decide) rfl ?_
  obtain ⟨y1, hy1, h⟩ := zbind h
  refine t_Ta_playOn_l9 _ _ _ hy1 ?_
  refine zr_aload ⟨_, dX10_playOn_74, rfl⟩ rfl ?_
  refine zr_aload ⟨_, dX10_playOn_75, rfl⟩ rfl ?_
  refine zt_get dX10_playOn_76 fl_X10_17 rfl rfl ?_
  refine zt_put dX10_playOn_79 fl_X10_28 rfl rfl ?_
  obtain rfl := Option.some.inj h
  exact zt_vret dX10_playOn_82 rfl
