set_option maxRecDepth 100000 in
set_option maxHeartbeats 4000000 in
theorem t_Rf_thrown  {s : zSt} {res : Int} (h : f_Rf_thrown s = some res) : zSpecT 1 m_X12_thrown [.inr (.inl (some 0))] TRf s (some (.inl res)) s := by
  refine zSpec_of (by decide +kernel) (Nat.le_of_ble_eq_true rfl) ?_
  show zBT 1 m_X12_thrown TRf (some (.inl res)) s 0 [some (.inr (.inl (some 0)))] [] s
  unfold f_Rf_thrown at h
  refine zr_aload ⟨_, dX12_thrown_0, rfl⟩ rfl ?_
  refine zt_get dX12_thrown_1 fl_X12_80 rfl rfl ?_
  obtain rfl := Option.some.inj h
  exact zt_iret dX12_thrown_4 rfl
set_option maxRecDepth 100000 in
set_option maxHeartbeats 4000000 in
theorem t_Rf_in {a0 a1 a2 : Int}  {res : Int} (h : f_Rf_in a0 a1 a2 = some res) : ∀ s : zSt, zSpecT 1 m_X12_in [.inl a0, .inl a1, .inl a2] T0 s (some (.inl res)) s := by
  intro s
  refine zSpec_of (by decide +kernel) (Nat.le_of_ble_eq_true rfl) ?_
  show zBT 1 m_X12_in T0 (some (.inl res)) s 0 [some (.inl a0), some (.inl a1), some (.inl a2)] [] s
  unfold f_Rf_in at h
  refine zr_load ⟨_, dX12_in_0, rfl⟩ rfl ?_
  refine zr_load ⟨_, dX12_in_1, rfl⟩ rfl ?_
  have hj1 : zBT 1 m_X12_in T0 (some (.inl res)) s 15 [some (.inl a0), some (.inl a1), some (.inl a2)] [.inl (if a0 < a1 then 0 else (if a2 < a0 then 0 else 1))] s := by
    obtain rfl := Option.some.inj h
    exact zt_zret dX12_in_15 rfl (z01i (Or.inl rfl) (z01i (Or.inl rfl) (Or.inr rfl)))
  refine zr_ic_lt (tgt := 14) dX12_in_2 (by decide) (fun hc2 => ?_) (fun hc2 => ?_)
  · have hp3 := zif_t hj1 hc2
    refine zr_iconst dX12_in_14 (by decide) ?_
    exact hp3
  · have hp4 := zif_f hj1 hc2
    refine zr_load ⟨_, dX12_in_5, rfl⟩ rfl ?_
    refine zr_load ⟨_, dX12_in_6, rfl⟩ rfl ?_
    refine zr_ic_gt (tgt := 14) dX12_in_7 (by decide) (fun hc5 => ?_) (fun hc5 => ?_)
    · have hp6 := zif_t hp4 hc5
      refine zr_iconst dX12_in_14 (by decide) ?_
      exact hp6
    · have hp7 := zif_f hp4 hc5
      refine zr_iconst dX12_in_10 (by decide) ?_
      refine zr_goto (tgt := 15) dX12_in_11 (by decide) ?_
      exact hp7
set_option maxRecDepth 100000 in
set_option maxHeartbeats 4000000 in
theorem t_Rf_at {a1 a2 : Int} {s : zSt} {res : Int} (h : f_Rf_at a1 a2 s = some res) : zSpecT 1 m_X12_at [.inr (.inl (some 0)), .inl a1, .inl a2] TRf s (some (.inl res)) s := by
  refine zSpec_of (by decide +kernel) (Nat.le_of_ble_eq_true rfl) ?_
  show zBT 1 m_X12_at TRf (some (.inl res)) s 0 [some (.inr (.inl (some 0))), some (.inl a1), some (.inl a2)] [] s
  unfold f_Rf_at at h
  refine zr_sipush dX12_at_0 (by decide) (by decide) ?_
  refine zr_aload ⟨_, dX12_at_3, rfl⟩ rfl ?_
  refine zt_get dX12_at_4 fl_X12_87 rfl rfl ?_
  refine zr_imul dX12_at_7 ?_
  refine zr_bipush dX12_at_8 (by decide) (by decide) ?_
  refine zr_load ⟨_, dX12_at_10, rfl⟩ rfl ?_
  refine zr_imul dX12_at_11 ?_
  refine zr_iadd dX12_at_12 ?_
  refine zr_load ⟨_, dX12_at_13, rfl⟩ rfl ?_
  refine zr_iadd dX12_at_14 ?_
  obtain rfl := Option.some.inj h
  exact zt_iret dX12_at_15 rfl
set_option maxRecDepth 100000 in
set_option maxHeartbeats 4000000 in
theorem t_Rf_stopsAbove {a1 : Int} {s : zSt} {res : Int × zSt} (h : f_Rf_stopsAbove a1 s = some res) : zSpecT 1 m_X12_stopsAbove [.inr (.inl (some 0)), .inl a1] TRf s none res.2 := by
  refine zSpec_of (by decide +kernel) (Nat.le_of_ble_eq_true rfl) ?_
  show zBT 1 m_X12_stopsAbove TRf none res.2 0 [some (.inr (.inl (some 0))), some (.inl a1)] [] s
  unfold f_Rf_stopsAbove at h
  refine zr_load ⟨_, dX12_stopsAbove_0, rfl⟩ rfl ?_
  refine zr_if_le (tgt := 24) dX12_stopsAbove_1 (by decide) (fun hc1 => ?_) (fun hc1 => ?_)
  · replace h := zpos h hc1
    refine zr_aload ⟨_, dX12_stopsAbove_24, rfl⟩ rfl ?_
    refine zt_get dX12_stopsAbove_25 fl_X12_87 rfl rfl ?_
    refine zr_if_ne (tgt := 50) dX12_stopsAbove_28 (by decide) (fun hc2 => ?_) (fun hc2 => ?_)
    · replace h := zpos h hc2
      obtain rfl := Option.some.inj h
      exact zt_vret dX12_stopsAbove_50 rfl
    · replace h := zneg h hc2
      refine zr_aload ⟨_, dX12_stopsAbove_31, rfl⟩ rfl ?_
      refine zt_get dX12_stopsAbove_32 fl_X12_98 rfl rfl ?_
      refine zr_if_le (tgt := 50) dX12_stopsAbove_35 (by decide) (fun hc3 => ?_) (fun hc3 => ?_)
      · replace h := zpos h hc3
        obtain rfl := Option.some.inj h
        exact zt_vret dX12_stopsAbove_50 rfl
      · replace h := zneg h hc3
        refine zr_aload ⟨_, dX12_stopsAbove_38, rfl⟩ rfl ?_
        refine zt_getr dX12_stopsAbove_39 fl_X12_27 rfl rfl ?_
        refine zr_aload ⟨_, dX12_stopsAbove_42, rfl⟩ rfl ?_
        refine zt_get dX12_stopsAbove_43 fl_X12_98 rfl rfl ?_
        refine zr_iconst dX12_stopsAbove_46 (by decide) ?_
        refine zr_isub dX12_stopsAbove_47 ?_
        refine zr_iconst dX12_stopsAbove_48 (by decide) ?_
        obtain ⟨hb4, h⟩ := zchk h
        refine zt_bastore dX12_stopsAbove_49 rfl hb4 (Or.inl rfl) ?_
        obtain rfl := Option.some.inj h
        exact zt_vret dX12_stopsAbove_50 rfl
  · replace h := zneg h hc1
    refine zr_aload ⟨_, dX12_stopsAbove_4, rfl⟩ rfl ?_
    refine zt_getr dX12_stopsAbove_5 fl_X12_20 rfl rfl ?_
    refine zr_bipush dX12_stopsAbove_8 (by decide) (by decide) ?_
    refine zr_aload ⟨_, dX12_stopsAbove_10, rfl⟩ rfl ?_
    refine zt_get dX12_stopsAbove_11 fl_X12_87 rfl rfl ?_
    refine zr_imul dX12_stopsAbove_14 ?_
    refine zr_load ⟨_, dX12_stopsAbove_15, rfl⟩ rfl ?_
    refine zr_iadd dX12_stopsAbove_16 ?_
    refine zr_iconst dX12_stopsAbove_17 (by decide) ?_
    refine zr_isub dX12_stopsAbove_18 ?_
    refine zr_iconst dX12_stopsAbove_19 (by decide) ?_
    obtain ⟨hb5, h⟩ := zchk h
    refine zt_bastore dX12_stopsAbove_20 rfl hb5 (Or.inl rfl) ?_
    refine zr_goto (tgt := 50) dX12_stopsAbove_21 (by decide) ?_
    obtain rfl := Option.some.inj h
    exact zt_vret dX12_stopsAbove_50 rfl
set_option maxRecDepth 100000 in
set_option maxHeartbeats 4000000 in
theorem t_Rf_keepsRow_l79  {r : Option zAV} {s0 : zSt}  : ∀ (n : Nat) (x : Int × zSt) (out : zSt), zloop (f_Rf_keepsRow_l79) n x = some out → (zBT 1 m_X12_keepsRow TRf r s0 111 [some (.inr (.inl (some 0))), none] [] out) → zBT 1 m_X12_keepsRow TRf r s0 79 [some (.inr (.inl (some 0))), some (.inl x.1)] [] x.2 := by
  refine zloop_B (B := fun (x : Int × zSt) (out : zSt) => zBT 1 m_X12_keepsRow TRf r s0 111 [some (.inr (.inl (some 0))), none] [] out → zBT 1 m_X12_keepsRow TRf r s0 79 [some (.inr (.inl (some 0))), some (.inl x.1)] [] x.2) ?_
  intro x o out h hk hx
  unfold f_Rf_keepsRow_l79 at h
  refine zr_load ⟨_, dX12_keepsRow_79, rfl⟩ rfl ?_
  refine zr_bipush dX12_keepsRow_80 (by decide) (by decide) ?_
  refine zr_ic_ge (tgt := 111) dX12_keepsRow_82 (by decide) (fun hc1 => ?_) (fun hc1 => ?_)
  · replace h := zpos h hc1
    refine zr_mask [true, false] rfl ?_
    obtain rfl := Option.some.inj h
    obtain rfl := hk
    exact hx
  · replace h := zneg h hc1
    refine zr_aload ⟨_, dX12_keepsRow_85, rfl⟩ rfl ?_
    refine zt_getr dX12_keepsRow_86 fl_X12_24 rfl rfl ?_
    refine zr_bipush dX12_keepsRow_89 (by decide) (by decide) ?_
    refine zr_aload ⟨_, dX12_keepsRow_91, rfl⟩ rfl ?_
    refine zt_get dX12_keepsRow_92 fl_X12_98 rfl rfl ?_
    refine zr_imul dX12_keepsRow_95 ?_
    refine zr_load ⟨_, dX12_keepsRow_96, rfl⟩ rfl ?_
    refine zr_iadd dX12_keepsRow_97 ?_
    refine zr_aload ⟨_, dX12_keepsRow_98, rfl⟩ rfl ?_
    refine zt_getr dX12_keepsRow_99 fl_X12_16 rfl rfl ?_
    refine zr_load ⟨_, dX12_keepsRow_102, rfl⟩ rfl ?_
    obtain ⟨hb2, h⟩ := zchk h
    refine zt_iaload dX12_keepsRow_103 rfl hb2 ?_
    obtain ⟨hb3, h⟩ := zchk h
    refine zt_iastore dX12_keepsRow_104 rfl hb3 ?_
    refine zr_iinc dX12_keepsRow_105 rfl (by decide) rfl ?_
    refine zr_goto (tgt := 79) dX12_keepsRow_108 (by decide) ?_
    obtain rfl := Option.some.inj h
    exact hk hx
set_option maxRecDepth 100000 in
set_option maxHeartbeats 4000000 in
theorem t_Rf_keepsRow_j77  {s : zSt} {res : Int × zSt} (h : f_Rf_keepsRow_j77 s = some res) : zBT 1 m_X12_keepsRow TRf none res.2 77 [some (.inr (.inl (some 0))), none] [] s := by
  unfold f_Rf_keepsRow_j77 at h
  refine zr_iconst dX12_keepsRow_77 (by decide) ?_
  refine zr_store ⟨_, dX12_keepsRow_78, rfl⟩ (by decide) rfl ?_
  obtain ⟨y1, hy1, h⟩ := zbind h
  refine t_Rf_keepsRow_l79 _ _ _ hy1 ?_
  refine zr_aload ⟨_, dX12_keepsRow_111, rfl⟩ rfl ?_
  refine zt_getr dX12_keepsRow_112 fl_X12_27 rfl rfl ?_
  refine zr_aload ⟨_, dX12_keepsRow_115, rfl⟩ rfl ?_
  refine zt_get dX12_keepsRow_116 fl_X12_98 rfl rfl ?_
  refine zr_aload ⟨_, dX12_keepsRow_119, rfl⟩ rfl ?_
  refine zt_getr dX12_keepsRow_120 fl_X12_20 rfl rfl ?_
  refine zr_iconst dX12_keepsRow_123 (by decide) ?_
  obtain ⟨hb2, h⟩ := zchk h
  refine zt_baload dX12_keepsRow_124 rfl hb2 ?_
  obtain ⟨hb3, h⟩ := zchk h
  refine zt_bastore dX12_keepsRow_125 rfl hb3.1 hb3.2 ?_
  refine zr_aload ⟨_, dX12_keepsRow_126, rfl⟩ rfl ?_
  refine zr_dup dX12_keepsRow_127 (Or.inl True.intro) ?_
  refine zt_get dX12_keepsRow_128 fl_X12_98 rfl rfl ?_
  refine zr_iconst dX12_keepsRow_131 (by decide) ?_
  refine zr_iadd dX12_keepsRow_132 ?_
  refine zt_put dX12_keepsRow_133 fl_X12_98 rfl rfl ?_
  obtain rfl := Option.some.inj h
  exact zt_vret dX12_keepsRow_136 rfl
set_option maxRecDepth 100000 in
set_option maxHeartbeats 4000000 in
theorem t_Rf_keepsRow_l11  {r : Option zAV} {s0 : zSt}  : ∀ (n : Nat) (x : Int × zSt) (out : zSt), zloop (f_Rf_keepsRow_l11) n x = some out → (zBT 1 m_X12_keepsRow TRf r s0 39 [some (.inr (.inl (some 0))), none] [] out) → zBT 1 m_X12_keepsRow TRf r s0 11 [some (.inr (.inl (some 0))), some (.inl x.1)] [] x.2 := by
  refine zloop_B (B := fun (x : Int × zSt) (out : zSt) => zBT 1 m_X12_keepsRow TRf r s0 39 [some (.inr (.inl (some 0))), none] [] out → zBT 1 m_X12_keepsRow TRf r s0 11 [some (.inr (.inl (some 0))), some (.inl x.1)] [] x.2) ?_
  intro x o out h hk hx
  unfold f_Rf_keepsRow_l11 at h
  refine zr_load ⟨_, dX12_keepsRow_11, rfl⟩ rfl ?_
  refine zr_sipush dX12_keepsRow_12 (by decide) (by decide) ?_
  refine zr_ic_ge (tgt := 39) dX12_keepsRow_15 (by decide) (fun hc1 => ?_) (fun hc1 => ?_)
  · replace h := zpos h hc1
    refine zr_mask [true, false] rfl ?_
    obtain rfl := Option.some.inj h
    obtain rfl := hk
    exact hx
  · replace h := zneg h hc1
    refine zr_aload ⟨_, dX12_keepsRow_18, rfl⟩ rfl ?_
    refine zt_getr dX12_keepsRow_19 fl_X12_24 rfl rfl ?_
    refine zr_load ⟨_, dX12_keepsRow_22, rfl⟩ rfl ?_
    refine zr_aload ⟨_, dX12_keepsRow_23, rfl⟩ rfl ?_
    refine zt_getr dX12_keepsRow_24 fl_X12_24 rfl rfl ?_
    refine zr_load ⟨_, dX12_keepsRow_27, rfl⟩ rfl ?_
    refine zr_bipush dX12_keepsRow_28 (by decide) (by decide) ?_
    refine zr_iadd dX12_keepsRow_30 ?_
    obtain ⟨hb2, h⟩ := zchk h
    refine zt_iaload dX12_keepsRow_31 rfl hb2 ?_
    obtain ⟨hb3, h⟩ := zchk h
    refine zt_iastore dX12_keepsRow_32 rfl hb3 ?_
    refine zr_iinc dX12_keepsRow_33 rfl (by decide) rfl ?_
    refine zr_goto (tgt := 11) dX12_keepsRow_36 (by decide) ?_
    obtain rfl := Option.some.inj h
    exact hk hx
set_option maxRecDepth 100000 in
set_option maxHeartbeats 4000000 in
theorem t_Rf_keepsRow_l41  {r : Option zAV} {s0 : zSt}  : ∀ (n : Nat) (x : Int × zSt) (out : zSt), zloop (f_Rf_keepsRow_l41) n x = some out → (zBT 1 m_X12_keepsRow TRf r s0 67 [some (.inr (.inl (some 0))), none] [] out) → zBT 1 m_X12_keepsRow TRf r s0 41 [some (.inr (.inl (some 0))), some (.inl x.1)] [] x.2 := by
  refine zloop_B (B := fun (x : Int × zSt) (out : zSt) => zBT 1 m_X12_keepsRow TRf r s0 67 [some (.inr (.inl (some 0))), none] [] out → zBT 1 m_X12_keepsRow TRf r s0 41 [some (.inr (.inl (some 0))), some (.inl x.1)] [] x.2) ?_
  intro x o out h hk hx
  unfold f_Rf_keepsRow_l41 at h
  refine zr_load ⟨_, dX12_keepsRow_41, rfl⟩ rfl ?_
  refine zr_bipush dX12_keepsRow_42 (by decide) (by decide) ?_
  refine zr_ic_ge (tgt := 67) dX12_keepsRow_44 (by decide) (fun hc1 => ?_) (fun hc1 => ?_)
  · replace h := zpos h hc1
    refine zr_mask [true, false] rfl ?_
    obtain rfl := Option.some.inj h
    obtain rfl := hk
    exact hx
  · replace h := zneg h hc1
    refine zr_aload ⟨_, dX12_keepsRow_47, rfl⟩ rfl ?_
    refine zt_getr dX12_keepsRow_48 fl_X12_27 rfl rfl ?_
    refine zr_load ⟨_, dX12_keepsRow_51, rfl⟩ rfl ?_
    refine zr_aload ⟨_, dX12_keepsRow_52, rfl⟩ rfl ?_
    refine zt_getr dX12_keepsRow_53 fl_X12_27 rfl rfl ?_
    refine zr_load ⟨_, dX12_keepsRow_56, rfl⟩ rfl ?_
    refine zr_iconst dX12_keepsRow_57 (by decide) ?_
    refine zr_iadd dX12_keepsRow_58 ?_
    obtain ⟨hb2, h⟩ := zchk h
    refine zt_baload dX12_keepsRow_59 rfl hb2 ?_
    obtain ⟨hb3, h⟩ := zchk h
    refine zt_bastore dX12_keepsRow_60 rfl hb3.1 hb3.2 ?_
    refine zr_iinc dX12_keepsRow_61 rfl (by decide) rfl ?_
    refine zr_goto (tgt := 41) dX12_keepsRow_64 (by decide) ?_
    obtain rfl := Option.some.inj h
    exact hk hx
set_option maxRecDepth 100000 in
set_option maxHeartbeats 4000000 in
theorem t_Rf_keepsRow  {s : zSt} {res : Int × zSt} (h : f_Rf_keepsRow s = some res) : zSpecT 1 m_X12_keepsRow [.inr (.inl (some 0))] TRf s none res.2 := by
  refine zSpec_of (by decide +kernel) (Nat.le_of_ble_eq_true rfl) ?_
  show zBT 1 m_X12_keepsRow TRf none res.2 0 [some (.inr (.inl (some 0))), none] [] s
  unfold f_Rf_keepsRow at h
  refine zr_aload ⟨_, dX12_keepsRow_0, rfl⟩ rfl ?_
  refine zt_get dX12_keepsRow_1 fl_X12_98 rfl rfl ?_
  refine zr_bipush dX12_keepsRow_4 (by decide) (by decide) ?_
  refine zr_ic_ne (tgt := 77) dX12_keepsRow_6 (by decide) (fun hc1 => ?_) (fun hc1 => ?_)
  · replace h := zpos h hc1
    exact t_Rf_keepsRow_j77 h
  · replace h := zneg h hc1
    refine zr_iconst dX12_keepsRow_9 (by decide) ?_
    refine zr_store ⟨_, dX12_keepsRow_10, rfl⟩ (by decide) rfl ?_
    obtain ⟨y2, hy2, h⟩ := zbind h
    refine t_Rf_keepsRow_l11 _ _ _ hy2 ?_
    refine zr_iconst dX12_keepsRow_39 (by decide) ?_
    refine zr_store ⟨_, dX12_keepsRow_40, rfl⟩ (by decide) rfl ?_
    obtain ⟨y3, hy3, h⟩ := zbind h
    refine t_Rf_keepsRow_l41 _ _ _ hy3 ?_
    refine zr_aload ⟨_, dX12_keepsRow_67, rfl⟩ rfl ?_
    refine zr_dup dX12_keepsRow_68 (Or.inl True.intro) ?_
    refine zt_get dX12_keepsRow_69 fl_X12_98 rfl rfl ?_
    refine zr_iconst dX12_keepsRow_72 (by decide) ?_
    refine zr_isub dX12_keepsRow_73 ?_
    refine zt_put dX12_keepsRow_74 fl_X12_98 rfl rfl ?_
    exact t_Rf_keepsRow_j77 h
set_option maxRecDepth 100000 in
set_option maxHeartbeats 4000000 in
theorem t_Rf_nextTab_l9  {r : Option zAV} {s0 : zSt} {s : zSt} : ∀ (n : Nat) (x : Int × Int) (out : Int), zloop (f_Rf_nextTab_l9 s) n x = some out → (zBT 1 m_X12_nextTab TRf r s0 41 [none, some (.inl out), none] [] s) → zBT 1 m_X12_nextTab TRf r s0 9 [some (.inr (.inl (some 0))), some (.inl x.1), some (.inl x.2)] [] s := by
  refine zloop_B (B := fun (x : Int × Int) (out : Int) => zBT 1 m_X12_nextTab TRf r s0 41 [none, some (.inl out), none] [] s → zBT 1 m_X12_nextTab TRf r s0 9 [some (.inr (.inl (some 0))), some (.inl x.1), some (.inl x.2)] [] s) ?_
  intro x o out h hk hx
  unfold f_Rf_nextTab_l9 at h
  refine zr_load ⟨_, dX12_nextTab_9, rfl⟩ rfl ?_
  refine zr_aload ⟨_, dX12_nextTab_10, rfl⟩ rfl ?_
  refine zt_get dX12_nextTab_11 fl_X12_123 rfl rfl ?_
  refine zr_ic_le (tgt := 41) dX12_nextTab_14 (by decide) (fun hc1 => ?_) (fun hc1 => ?_)
  · replace h := zpos h hc1
    refine zr_mask [false, true, false] rfl ?_
    obtain rfl := Option.some.inj h
    obtain rfl := hk
    exact hx
  · replace h := zneg h hc1
    refine zr_aload ⟨_, dX12_nextTab_17, rfl⟩ rfl ?_
    refine zt_get dX12_nextTab_18 fl_X12_146 rfl rfl ?_
    refine zr_load ⟨_, dX12_nextTab_21, rfl⟩ rfl ?_
    refine zr_ishr dX12_nextTab_22 ?_
    refine zr_iconst dX12_nextTab_23 (by decide) ?_
    refine zr_iand dX12_nextTab_24 ?_
    refine zr_iconst dX12_nextTab_25 (by decide) ?_
    have hj2 : zBT 1 m_X12_nextTab TRf r s0 34 [some (.inr (.inl (some 0))), some (.inl x.1), some (.inl x.2)] [.inl (if ¬ (wAnd (wShr (s.1 0 15) x.2) 1) = 1 then x.1 else x.2)] s := by
      refine zr_store ⟨_, dX12_nextTab_34, rfl⟩ (by decide) rfl ?_
      refine zr_iinc dX12_nextTab_35 rfl (by decide) rfl ?_
      refine zr_goto (tgt := 9) dX12_nextTab_38 (by decide) ?_
      obtain rfl := Option.some.inj h
      exact hk hx
    refine zr_ic_ne (tgt := 33) dX12_nextTab_26 (by decide) (fun hc3 => ?_) (fun hc3 => ?_)
    · have hp4 := zif_t hj2 hc3
      refine zr_load ⟨_, dX12_nextTab_33, rfl⟩ rfl ?_
      exact hp4
    · have hp5 := zif_f hj2 hc3
      refine zr_load ⟨_, dX12_nextTab_29, rfl⟩ rfl ?_
      refine zr_goto (tgt := 34) dX12_nextTab_30 (by decide) ?_
      exact hp5
set_option maxRecDepth 100000 in
set_option maxHeartbeats 4000000 in
theorem t_Rf_nextTab  {s : zSt} {res : Int} (h : f_Rf_nextTab s = some res) : zSpecT 1 m_X12_nextTab [.inr (.inl (some 0))] TRf s (some (.inl res)) s := by
  refine zSpec_of (by decide +kernel) (Nat.le_of_ble_eq_true rfl) ?_
  show zBT 1 m_X12_nextTab TRf (some (.inl res)) s 0 [some (.inr (.inl (some 0))), none, none] [] s
  unfold f_Rf_nextTab at h
  refine zr_iconst dX12_nextTab_0 (by decide) ?_
  refine zr_store ⟨_, dX12_nextTab_1, rfl⟩ (by decide) rfl ?_
  refine zr_aload ⟨_, dX12_nextTab_2, rfl⟩ rfl ?_
  refine zt_get dX12_nextTab_3 fl_X12_13 rfl rfl ?_
  refine zr_iconst dX12_nextTab_6 (by decide) ?_
  refine zr_isub dX12_nextTab_7 ?_
  refine zr_store ⟨_, dX12_nextTab_8, rfl⟩ (by decide) rfl ?_
  obtain ⟨y1, hy1, h⟩ := zbind h
  refine t_Rf_nextTab_l9 _ _ _ hy1 ?_
  refine zr_load ⟨_, dX12_nextTab_41, rfl⟩ rfl ?_
  obtain rfl := Option.some.inj h
  exact zt_iret dX12_nextTab_42 rfl
set_option maxRecDepth 100000 in
set_option maxHeartbeats 4000000 in
theorem t_Rf_laysTabs_l2  {r : Option zAV} {s0 : zSt}  : ∀ (n : Nat) (x : Int × zSt) (out : zSt), zloop (f_Rf_laysTabs_l2) n x = some out → (zBT 1 m_X12_laysTabs TRf r s0 38 [none, none, none] [] out) → zBT 1 m_X12_laysTabs TRf r s0 2 [some (.inr (.inl (some 0))), none, some (.inl x.1)] [] x.2 := by
  refine zloop_B (B := fun (x : Int × zSt) (out : zSt) => zBT 1 m_X12_laysTabs TRf r s0 38 [none, none, none] [] out → zBT 1 m_X12_laysTabs TRf r s0 2 [some (.inr (.inl (some 0))), none, some (.inl x.1)] [] x.2) ?_
  intro x o out h hk hx
  unfold f_Rf_laysTabs_l2 at h
  refine zr_load ⟨_, dX12_laysTabs_2, rfl⟩ rfl ?_
  refine zr_aload ⟨_, dX12_laysTabs_3, rfl⟩ rfl ?_
  refine zt_get dX12_laysTabs_4 fl_X12_13 rfl rfl ?_
  refine zr_ic_ge (tgt := 38) dX12_laysTabs_7 (by decide) (fun hc1 => ?_) (fun hc1 => ?_)
  · replace h := zpos h hc1
    refine zr_mask [false, false, false] rfl ?_
    obtain rfl := Option.some.inj h
    obtain rfl := hk
    exact hx
  · replace h := zneg h hc1
    refine zr_aload ⟨_, dX12_laysTabs_10, rfl⟩ rfl ?_
    refine zr_dup dX12_laysTabs_11 (Or.inl True.intro) ?_
    refine zt_get dX12_laysTabs_12 fl_X12_146 rfl rfl ?_
    refine zr_load ⟨_, dX12_laysTabs_15, rfl⟩ rfl ?_
    refine zr_iconst dX12_laysTabs_16 (by decide) ?_
    refine zr_irem dX12_laysTabs_17 (by decide) ?_
    have hj2 : zBT 1 m_X12_laysTabs TRf r s0 28 [some (.inr (.inl (some 0))), none, some (.inl x.1)] [.inl (if ¬ (wRem x.1 4) = 0 then 0 else (wShl 1 x.1)), .inl (x.2.1 0 15), .inr (.inl (some 0))] x.2 := by
      refine zr_ior dX12_laysTabs_28 ?_
      refine zt_put dX12_laysTabs_29 fl_X12_146 rfl rfl ?_
      refine zr_iinc dX12_laysTabs_32 rfl (by decide) rfl ?_
      refine zr_goto (tgt := 2) dX12_laysTabs_35 (by decide) ?_
      obtain rfl := Option.some.inj h
      exact hk hx
    refine zr_if_ne (tgt := 27) dX12_laysTabs_18 (by decide) (fun hc3 => ?_) (fun hc3 => ?_)
    · have hp4 := zif_t hj2 hc3
      refine zr_iconst dX12_laysTabs_27 (by decide) ?_
      exact hp4
    · have hp5 := zif_f hj2 hc3
      refine zr_iconst dX12_laysTabs_21 (by decide) ?_
      refine zr_load ⟨_, dX12_laysTabs_22, rfl⟩ rfl ?_
      refine zr_ishl dX12_laysTabs_23 ?_
      refine zr_goto (tgt := 28) dX12_laysTabs_24 (by decide) ?_
      exact hp5
set_option maxRecDepth 100000 in
set_option maxHeartbeats 4000000 in
theorem t_Rf_laysTabs {a1 : Int} {s : zSt} {res : Int × zSt} (h : f_Rf_laysTabs a1 s = some res) : zSpecT 1 m_X12_laysTabs [.inr (.inl (some 0)), .inl a1] TRf s none res.2 := by
  refine zSpec_of (by decide +kernel) (Nat.le_of_ble_eq_true rfl) ?_
  show zBT 1 m_X12_laysTabs TRf none res.2 0 [some (.inr (.inl (some 0))), some (.inl a1), none] [] s
  unfold f_Rf_laysTabs at h
  refine zr_load ⟨_, dX12_laysTabs_0, rfl⟩ rfl ?_
  refine zr_store ⟨_, dX12_laysTabs_1, rfl⟩ (by decide) rfl ?_
  refine zr_mask [true, false, true] rfl ?_
  obtain ⟨y1, hy1, h⟩ := zbind h
  refine t_Rf_laysTabs_l2 _ _ _ hy1 ?_
  obtain rfl := Option.some.inj h
  exact zt_vret dX12_laysTabs_38 rfl
set_option maxRecDepth 100000 in
set_option maxHeartbeats 4000000 in
theorem t_Rf_saves  {s : zSt} {res : Int × zSt} (h : f_Rf_saves s = some res) : zSpecT 1 m_X12_saves [.inr (.inl (some 0))] TRf s none res.2 := by
  refine zSpec_of (by decide +kernel) (Nat.le_of_ble_eq_true rfl) ?_
  show zBT 1 m_X12_saves TRf none res.2 0 [some (.inr (.inl (some 0)))] [] s
  unfold f_Rf_saves at h
  refine zr_aload ⟨_, dX12_saves_0, rfl⟩ rfl ?_
  refine zr_iconst dX12_saves_1 (by decide) ?_
  refine zt_putz dX12_saves_2 fl_X12_149 rfl rfl (Or.inr rfl) ?_
  refine zr_aload ⟨_, dX12_saves_5, rfl⟩ rfl ?_
  refine zr_aload ⟨_, dX12_saves_6, rfl⟩ rfl ?_
  refine zt_get dX12_saves_7 fl_X12_113 rfl rfl ?_
  refine zt_put dX12_saves_10 fl_X12_152 rfl rfl ?_
  refine zr_aload ⟨_, dX12_saves_13, rfl⟩ rfl ?_
  refine zr_aload ⟨_, dX12_saves_14, rfl⟩ rfl ?_
  refine zt_get dX12_saves_15 fl_X12_123 rfl rfl ?_
  refine zt_put dX12_saves_18 fl_X12_155 rfl rfl ?_
  refine zr_aload ⟨_, dX12_saves_21, rfl⟩ rfl ?_
  refine zr_aload ⟨_, dX12_saves_22, rfl⟩ rfl ?_
  refine zt_get dX12_saves_23 fl_X12_126 rfl rfl ?_
  obtain ⟨hb1, h⟩ := zchk h
  refine zt_putz dX12_saves_26 fl_X12_158 rfl rfl hb1 ?_
  refine zr_aload ⟨_, dX12_saves_29, rfl⟩ rfl ?_
  refine zr_aload ⟨_, dX12_saves_30, rfl⟩ rfl ?_
  refine zt_get dX12_saves_31 fl_X12_142 rfl rfl ?_
  refine zt_put dX12_saves_34 fl_X12_161 rfl rfl ?_
  refine zr_aload ⟨_, dX12_saves_37, rfl⟩ rfl ?_
  refine zr_aload ⟨_, dX12_saves_38, rfl⟩ rfl ?_
  refine zt_get dX12_saves_39 fl_X12_164 rfl rfl ?_
  obtain ⟨hb2, h⟩ := zchk h
  refine zt_putz dX12_saves_42 fl_X12_167 rfl rfl hb2 ?_
  obtain rfl := Option.some.inj h
  exact zt_vret dX12_saves_45 rfl
set_option maxRecDepth 100000 in
set_option maxHeartbeats 4000000 in
theorem t_Rf_lesser {a0 a1 : Int}  {res : Int} (h : f_Rf_lesser a0 a1 = some res) : ∀ s : zSt, zSpecT 1 m_X12_lesser [.inl a0, .inl a1] T0 s (some (.inl res)) s := by
  intro s
  refine zSpec_of (by decide +kernel) (Nat.le_of_ble_eq_true rfl) ?_
  show zBT 1 m_X12_lesser T0 (some (.inl res)) s 0 [some (.inl a0), some (.inl a1)] [] s
  unfold f_Rf_lesser at h
  refine zr_load ⟨_, dX12_lesser_0, rfl⟩ rfl ?_
  refine zr_load ⟨_, dX12_lesser_1, rfl⟩ rfl ?_
  have hj1 : zBT 1 m_X12_lesser T0 (some (.inl res)) s 10 [some (.inl a0), some (.inl a1)] [.inl (if a1 ≤ a0 then a1 else a0)] s := by
    obtain rfl := Option.some.inj h
    exact zt_iret dX12_lesser_10 rfl
  refine zr_ic_ge (tgt := 9) dX12_lesser_2 (by decide) (fun hc2 => ?_) (fun hc2 => ?_)
  · have hp3 := zif_t hj1 hc2
    refine zr_load ⟨_, dX12_lesser_9, rfl⟩ rfl ?_
    exact hp3
  · have hp4 := zif_f hj1 hc2
    refine zr_load ⟨_, dX12_lesser_5, rfl⟩ rfl ?_
    refine zr_goto (tgt := 10) dX12_lesser_6 (by decide) ?_
    exact hp4
set_option maxRecDepth 100000 in
set_option maxHeartbeats 4000000 in
theorem t_Rf_empties_l2 {c1 : Int} {r : Option zAV} {s0 : zSt}  : ∀ (n : Nat) (x : Int × zSt) (out : zSt), zloop (f_Rf_empties_l2 c1) n x = some out → (zBT 1 m_X12_empties TRf r s0 28 [some (.inr (.inl (some 0))), some (.inl c1), none] [] out) → zBT 1 m_X12_empties TRf r s0 2 [some (.inr (.inl (some 0))), some (.inl c1), some (.inl x.1)] [] x.2 := by
  refine zloop_B (B := fun (x : Int × zSt) (out : zSt) => zBT 1 m_X12_empties TRf r s0 28 [some (.inr (.inl (some 0))), some (.inl c1), none] [] out → zBT 1 m_X12_empties TRf r s0 2 [some (.inr (.inl (some 0))), some (.inl c1), some (.inl x.1)] [] x.2) ?_
  intro x o out h hk hx
  unfold f_Rf_empties_l2 at h
  refine zr_load ⟨_, dX12_empties_2, rfl⟩ rfl ?_
  refine zr_sipush dX12_empties_3 (by decide) (by decide) ?_
  refine zr_ic_ge (tgt := 28) dX12_empties_6 (by decide) (fun hc1 => ?_) (fun hc1 => ?_)
  · replace h := zpos h hc1
    refine zr_mask [true, true, false] rfl ?_
    obtain rfl := Option.some.inj h
    obtain rfl := hk
    exact hx
  · replace h := zneg h hc1
    refine zr_aload ⟨_, dX12_empties_9, rfl⟩ rfl ?_
    refine zt_getr dX12_empties_10 fl_X12_16 rfl rfl ?_
    refine zr_sipush dX12_empties_13 (by decide) (by decide) ?_
    refine zr_load ⟨_, dX12_empties_16, rfl⟩ rfl ?_
    refine zr_imul dX12_empties_17 ?_
    refine zr_load ⟨_, dX12_empties_18, rfl⟩ rfl ?_
    refine zr_iadd dX12_empties_19 ?_
    refine zr_iconst dX12_empties_20 (by decide) ?_
    obtain ⟨hb2, h⟩ := zchk h
    refine zt_iastore dX12_empties_21 rfl hb2 ?_
    refine zr_iinc dX12_empties_22 rfl (by decide) rfl ?_
    refine zr_goto (tgt := 2) dX12_empties_25 (by decide) ?_
    obtain rfl := Option.some.inj h
    exact hk hx
set_option maxRecDepth 100000 in
set_option maxHeartbeats 4000000 in
theorem t_Rf_empties_l30 {c1 : Int} {r : Option zAV} {s0 : zSt}  : ∀ (n : Nat) (x : Int × zSt) (out : zSt), zloop (f_Rf_empties_l30 c1) n x = some out → (zBT 1 m_X12_empties TRf r s0 54 [none, none, none] [] out) → zBT 1 m_X12_empties TRf r s0 30 [some (.inr (.inl (some 0))), some (.inl c1), some (.inl x.1)] [] x.2 := by
  refine zloop_B (B := fun (x : Int × zSt) (out : zSt) => zBT 1 m_X12_empties TRf r s0 54 [none, none, none] [] out → zBT 1 m_X12_empties TRf r s0 30 [some (.inr (.inl (some 0))), some (.inl c1), some (.inl x.1)] [] x.2) ?_
  intro x o out h hk hx
  unfold f_Rf_empties_l30 at h
  refine zr_load ⟨_, dX12_empties_30, rfl⟩ rfl ?_
  refine zr_bipush dX12_empties_31 (by decide) (by decide) ?_
  refine zr_ic_ge (tgt := 54) dX12_empties_33 (by decide) (fun hc1 => ?_) (fun hc1 => ?_)
  · replace h := zpos h hc1
    refine zr_mask [false, false, false] rfl ?_
    obtain rfl := Option.some.inj h
    obtain rfl := hk
    exact hx
  · replace h := zneg h hc1
    refine zr_aload ⟨_, dX12_empties_36, rfl⟩ rfl ?_
    refine zt_getr dX12_empties_37 fl_X12_20 rfl rfl ?_
    refine zr_bipush dX12_empties_40 (by decide) (by decide) ?_
    refine zr_load ⟨_, dX12_empties_42, rfl⟩ rfl ?_
    refine zr_imul dX12_empties_43 ?_
    refine zr_load ⟨_, dX12_empties_44, rfl⟩ rfl ?_
    refine zr_iadd dX12_empties_45 ?_
    refine zr_iconst dX12_empties_46 (by decide) ?_
    obtain ⟨hb2, h⟩ := zchk h
    refine zt_bastore dX12_empties_47 rfl hb2 (Or.inl rfl) ?_
    refine zr_iinc dX12_empties_48 rfl (by decide) rfl ?_
    refine zr_goto (tgt := 30) dX12_empties_51 (by decide) ?_
    obtain rfl := Option.some.inj h
    exact hk hx
set_option maxRecDepth 100000 in
set_option maxHeartbeats 4000000 in
theorem t_Rf_empties {a1 : Int} {s : zSt} {res : Int × zSt} (h : f_Rf_empties a1 s = some res) : zSpecT 1 m_X12_empties [.inr (.inl (some 0)), .inl a1] TRf s none res.2 := by
  refine zSpec_of (by decide +kernel) (Nat.le_of_ble_eq_true rfl) ?_
  show zBT 1 m_X12_empties TRf none res.2 0 [some (.inr (.inl (some 0))), some (.inl a1), none] [] s
  unfold f_Rf_empties at h
  refine zr_iconst dX12_empties_0 (by decide) ?_
  refine zr_store ⟨_, dX12_empties_1, rfl⟩ (by decide) rfl ?_
  obtain ⟨y1, hy1, h⟩ := zbind h
  refine t_Rf_empties_l2 _ _ _ hy1 ?_
  refine zr_iconst dX12_empties_28 (by decide) ?_
  refine zr_store ⟨_, dX12_empties_29, rfl⟩ (by decide) rfl ?_
  obtain ⟨y2, hy2, h⟩ := zbind h
  refine t_Rf_empties_l30 _ _ _ hy2 ?_
  obtain rfl := Option.some.inj h
  exact zt_vret dX12_empties_54 rfl
set_option maxRecDepth 100000 in
set_option maxHeartbeats 4000000 in
theorem t_Rf_first  {s : zSt} {res : Int} (h : f_Rf_first s = some res) : zSpecT 1 m_X12_first [.inr (.inl (some 0))] TRf s (some (.inl res)) s := by
  refine zSpec_of (by decide +kernel) (Nat.le_of_ble_eq_true rfl) ?_
  show zBT 1 m_X12_first TRf (some (.inl res)) s 0 [some (.inr (.inl (some 0)))] [] s
  unfold f_Rf_first at h
  refine zr_aload ⟨_, dX12_first_0, rfl⟩ rfl ?_
  refine zt_getr dX12_first_1 fl_X12_40 rfl rfl ?_
  refine zr_iconst dX12_first_4 (by decide) ?_
  obtain ⟨hb1, h⟩ := zchk h
  refine zt_iaload dX12_first_5 rfl hb1 ?_
  refine zr_if_ne (tgt := 13) dX12_first_6 (by decide) (fun hc2 => ?_) (fun hc2 => ?_)
  · replace h := zpos h hc2
    refine zr_aload ⟨_, dX12_first_13, rfl⟩ rfl ?_
    refine zt_getr dX12_first_14 fl_X12_40 rfl rfl ?_
    refine zr_iconst dX12_first_17 (by decide) ?_
    obtain ⟨hb3, h⟩ := zchk h
    refine zt_iaload dX12_first_18 rfl hb3 ?_
    obtain rfl := Option.some.inj h
    exact zt_iret dX12_first_19 rfl
  · replace h := zneg h hc2
    refine zr_iconst dX12_first_9 (by decide) ?_
    refine zr_goto (tgt := 19) dX12_first_10 (by decide) ?_
    obtain rfl := Option.some.inj h
    exact zt_iret dX12_first_19 rfl
set_option maxRecDepth 100000 in
set_option maxHeartbeats 4000000 in
theorem t_Rf_second  {s : zSt} {res : Int} (h : f_Rf_second s = some res) : zSpecT 1 m_X12_second [.inr (.inl (some 0))] TRf s (some (.inl res)) s := by
  refine zSpec_of (by decide +kernel) (Nat.le_of_ble_eq_true rfl) ?_
  show zBT 1 m_X12_second TRf (some (.inl res)) s 0 [some (.inr (.inl (some 0)))] [] s
  unfold f_Rf_second at h
  refine zr_aload ⟨_, dX12_second_0, rfl⟩ rfl ?_
  refine zt_get dX12_second_1 fl_X12_195 rfl rfl ?_
  refine zr_iconst dX12_second_4 (by decide) ?_
  refine zr_ic_le (tgt := 17) dX12_second_5 (by decide) (fun hc1 => ?_) (fun hc1 => ?_)
  · replace h := zpos h hc1
    refine zr_iconst dX12_second_17 (by decide) ?_
    obtain rfl := Option.some.inj h
    exact zt_iret dX12_second_18 rfl
  · replace h := zneg h hc1
    refine zr_aload ⟨_, dX12_second_8, rfl⟩ rfl ?_
    refine zt_getr dX12_second_9 fl_X12_40 rfl rfl ?_
    refine zr_iconst dX12_second_12 (by decide) ?_
    obtain ⟨hb2, h⟩ := zchk h
    refine zt_iaload dX12_second_13 rfl hb2 ?_
    refine zr_goto (tgt := 18) dX12_second_14 (by decide) ?_
    obtain rfl := Option.some.inj h
    exact zt_iret dX12_second_18 rfl
set_option maxRecDepth 100000 in
set_option maxHeartbeats 4000000 in
theorem t_Rf_sends {a1 : Int} {s : zSt} {res : Int × zSt} (h : f_Rf_sends a1 s = some res) : zSpecT 1 m_X12_sends [.inr (.inl (some 0)), .inl a1] TRf s none res.2 := by
  refine zSpec_of (by decide +kernel) (Nat.le_of_ble_eq_true rfl) ?_
  show zBT 1 m_X12_sends TRf none res.2 0 [some (.inr (.inl (some 0))), some (.inl a1)] [] s
  unfold f_Rf_sends at h
  refine zr_aload ⟨_, dX12_sends_0, rfl⟩ rfl ?_
  refine zt_get dX12_sends_1 fl_X12_262 rfl rfl ?_
  refine zr_sipush dX12_sends_4 (by decide) (by decide) ?_
  refine zr_ic_ge (tgt := 30) dX12_sends_7 (by decide) (fun hc1 => ?_) (fun hc1 => ?_)
  · replace h := zpos h hc1
    obtain rfl := Option.some.inj h
    exact zt_vret dX12_sends_30 rfl
  · replace h := zneg h hc1
    refine zr_aload ⟨_, dX12_sends_10, rfl⟩ rfl ?_
    refine zt_getr dX12_sends_11 fl_X12_58 rfl rfl ?_
    refine zr_aload ⟨_, dX12_sends_14, rfl⟩ rfl ?_
    refine zt_get dX12_sends_15 fl_X12_262 rfl rfl ?_
    refine zr_load ⟨_, dX12_sends_18, rfl⟩ rfl ?_
    obtain ⟨hb2, h⟩ := zchk h
    refine zt_iastore dX12_sends_19 rfl hb2 ?_
    refine zr_aload ⟨_, dX12_sends_20, rfl⟩ rfl ?_
    refine zr_dup dX12_sends_21 (Or.inl True.intro) ?_
    refine zt_get dX12_sends_22 fl_X12_262 rfl rfl ?_
    refine zr_iconst dX12_sends_25 (by decide) ?_
    refine zr_iadd dX12_sends_26 ?_
    refine zt_put dX12_sends_27 fl_X12_262 rfl rfl ?_
    obtain rfl := Option.some.inj h
    exact zt_vret dX12_sends_30 rfl
set_option maxRecDepth 100000 in
set_option maxHeartbeats 4000000 in
theorem t_Rf_digits {a0 : Int}  {res : Int} (h : f_Rf_digits a0 = some res) : ∀ s : zSt, zSpecT 1 m_X12_digits [.inl a0] T0 s (some (.inl res)) s := by
  intro s
  refine zSpec_of (by decide +kernel) (Nat.le_of_ble_eq_true rfl) ?_
  show zBT 1 m_X12_digits T0 (some (.inl res)) s 0 [some (.inl a0)] [] s
  unfold f_Rf_digits at h
  refine zr_load ⟨_, dX12_digits_0, rfl⟩ rfl ?_
  refine zr_bipush dX12_digits_1 (by decide) (by decide) ?_
  have hj1 : zBT 1 m_X12_digits T0 (some (.inl res)) s 21 [some (.inl a0)] [.inl (if a0 ≤ 99 then (if a0 ≤ 9 then 1 else 2) else 3)] s := by
    obtain rfl := Option.some.inj h
    exact zt_iret dX12_digits_21 rfl
  refine zr_ic_le (tgt := 10) dX12_digits_3 (by decide) (fun hc2 => ?_) (fun hc2 => ?_)
  · have hp3 := zif_t hj1 hc2
    refine zr_load ⟨_, dX12_digits_10, rfl⟩ rfl ?_
    refine zr_bipush dX12_digits_11 (by decide) (by decide) ?_
    refine zr_ic_le (tgt := 20) dX12_digits_13 (by decide) (fun hc5 => ?_) (fun hc5 => ?_)
    · have hp6 := zif_t hp3 hc5
      refine zr_iconst dX12_digits_20 (by decide) ?_
      exact hp6
    · have hp7 := zif_f hp3 hc5
      refine zr_iconst dX12_digits_16 (by decide) ?_
      refine zr_goto (tgt := 21) dX12_digits_17 (by decide) ?_
      exact hp7
  · have hp4 := zif_f hj1 hc2
    refine zr_iconst dX12_digits_6 (by decide) ?_
    refine zr_goto (tgt := 21) dX12_digits_7 (by decide) ?_
    exact hp4
set_option maxRecDepth 100000 in
set_option maxHeartbeats 4000000 in
theorem t_Rf_letter {a0 : Int}  {res : Int} (h : f_Rf_letter a0 = some res) : ∀ s : zSt, zSpecT 1 m_X12_letter [.inl a0] T0 s (some (.inl res)) s := by
  intro s
  refine zSpec_of (by decide +kernel) (Nat.le_of_ble_eq_true rfl) ?_
  show zBT 1 m_X12_letter T0 (some (.inl res)) s 0 [some (.inl a0)] [] s
  unfold f_Rf_letter at h
  refine zr_load ⟨_, dX12_letter_0, rfl⟩ rfl ?_
  refine zr_iconst dX12_letter_1 (by decide) ?_
  have hj1 : zBT 1 m_X12_letter T0 (some (.inl res)) s 24 [some (.inl a0)] [.inl (if 4 ≤ a0 then (if ¬ a0 = 4 then 70 else 72) else (w32 (65 + a0)))] s := by
    obtain rfl := Option.some.inj h
    exact zt_iret dX12_letter_24 rfl
  refine zr_ic_ge (tgt := 12) dX12_letter_2 (by decide) (fun hc2 => ?_) (fun hc2 => ?_)
  · have hp3 := zif_t hj1 hc2
    refine zr_load ⟨_, dX12_letter_12, rfl⟩ rfl ?_
    refine zr_iconst dX12_letter_13 (by decide) ?_
    refine zr_ic_ne (tgt := 22) dX12_letter_14 (by decide) (fun hc5 => ?_) (fun hc5 => ?_)
    · have hp6 := zif_t hp3 hc5
      refine zr_bipush dX12_letter_22 (by decide) (by decide) ?_
      exact hp6
    · have hp7 := zif_f hp3 hc5
      refine zr_bipush dX12_letter_17 (by decide) (by decide) ?_
      refine zr_goto (tgt := 24) dX12_letter_19 (by decide) ?_
      exact hp7
  · have hp4 := zif_f hj1 hc2
    refine zr_bipush dX12_letter_5 (by decide) (by decide) ?_
    refine zr_load ⟨_, dX12_letter_7, rfl⟩ rfl ?_
    refine zr_iadd dX12_letter_8 ?_
    refine zr_goto (tgt := 24) dX12_letter_9 (by decide) ?_
    exact hp4
set_option maxRecDepth 100000 in
set_option maxHeartbeats 4000000 in
theorem t_Rf_take_l33 {c1 : Int} {r : Option zAV} {s0 : zSt}  : ∀ (n : Nat) (x : Int × zSt) (out : zSt), zloop (f_Rf_take_l33 c1) n x = some out → (zBT 1 m_X12_take TRf r s0 61 [none, some (.inl c1), none] [] out) → zBT 1 m_X12_take TRf r s0 33 [some (.inr (.inl (some 0))), some (.inl c1), some (.inl x.1)] [] x.2 := by
  refine zloop_B (B := fun (x : Int × zSt) (out : zSt) => zBT 1 m_X12_take TRf r s0 61 [none, some (.inl c1), none] [] out → zBT 1 m_X12_take TRf r s0 33 [some (.inr (.inl (some 0))), some (.inl c1), some (.inl x.1)] [] x.2) ?_
  intro x o out h hk hx
  unfold f_Rf_take_l33 at h
  refine zr_load ⟨_, dX12_take_33, rfl⟩ rfl ?_
  refine zr_aload ⟨_, dX12_take_34, rfl⟩ rfl ?_
  refine zt_get dX12_take_35 fl_X12_262 rfl rfl ?_
  refine zr_ic_ge (tgt := 61) dX12_take_38 (by decide) (fun hc1 => ?_) (fun hc1 => ?_)
  · replace h := zpos h hc1
    refine zr_mask [false, true, false] rfl ?_
    obtain rfl := Option.some.inj h
    obtain rfl := hk
    exact hx
  · replace h := zneg h hc1
    refine zr_aload ⟨_, dX12_take_41, rfl⟩ rfl ?_
    refine zt_getr dX12_take_42 fl_X12_58 rfl rfl ?_
    refine zr_load ⟨_, dX12_take_45, rfl⟩ rfl ?_
    refine zr_aload ⟨_, dX12_take_46, rfl⟩ rfl ?_
    refine zt_getr dX12_take_47 fl_X12_58 rfl rfl ?_
    refine zr_load ⟨_, dX12_take_50, rfl⟩ rfl ?_
    refine zr_iconst dX12_take_51 (by decide) ?_
    refine zr_iadd dX12_take_52 ?_
    obtain ⟨hb2, h⟩ := zchk h
    refine zt_iaload dX12_take_53 rfl hb2 ?_
    obtain ⟨hb3, h⟩ := zchk h
    refine zt_iastore dX12_take_54 rfl hb3 ?_
    refine zr_iinc dX12_take_55 rfl (by decide) rfl ?_
    refine zr_goto (tgt := 33) dX12_take_58 (by decide) ?_
    obtain rfl := Option.some.inj h
    exact hk hx
set_option maxRecDepth 100000 in
set_option maxHeartbeats 4000000 in
theorem t_Rf_take  {s : zSt} {res : Int × zSt} (h : f_Rf_take s = some res) : zSpecT 1 m_X12_take [.inr (.inl (some 0))] TRf s (some (.inl res.1)) res.2 := by
  refine zSpec_of (by decide +kernel) (Nat.le_of_ble_eq_true rfl) ?_
  show zBT 1 m_X12_take TRf (some (.inl res.1)) res.2 0 [some (.inr (.inl (some 0))), none, none] [] s
  unfold f_Rf_take at h
  refine zr_aload ⟨_, dX12_take_0, rfl⟩ rfl ?_
  refine zr_iconst dX12_take_1 (by decide) ?_
  refine zt_put dX12_take_2 fl_X12_80 rfl rfl ?_
  refine zr_aload ⟨_, dX12_take_5, rfl⟩ rfl ?_
  refine zt_get dX12_take_6 fl_X12_262 rfl rfl ?_
  refine zr_if_ne (tgt := 14) dX12_take_9 (by decide) (fun hc1 => ?_) (fun hc1 => ?_)
  · replace h := zpos h hc1
    refine zr_aload ⟨_, dX12_take_14, rfl⟩ rfl ?_
    refine zt_getr dX12_take_15 fl_X12_58 rfl rfl ?_
    refine zr_iconst dX12_take_18 (by decide) ?_
    obtain ⟨hb2, h⟩ := zchk h
    refine zt_iaload dX12_take_19 rfl hb2 ?_
    refine zr_store ⟨_, dX12_take_20, rfl⟩ (by decide) rfl ?_
    refine zr_aload ⟨_, dX12_take_21, rfl⟩ rfl ?_
    refine zr_dup dX12_take_22 (Or.inl True.intro) ?_
    refine zt_get dX12_take_23 fl_X12_262 rfl rfl ?_
    refine zr_iconst dX12_take_26 (by decide) ?_
    refine zr_isub dX12_take_27 ?_
    refine zt_put dX12_take_28 fl_X12_262 rfl rfl ?_
    refine zr_iconst dX12_take_31 (by decide) ?_
    refine zr_store ⟨_, dX12_take_32, rfl⟩ (by decide) rfl ?_
    obtain ⟨y3, hy3, h⟩ := zbind h
    refine t_Rf_take_l33 _ _ _ hy3 ?_
    refine zr_load ⟨_, dX12_take_61, rfl⟩ rfl ?_
    obtain rfl := Option.some.inj h
    exact zt_iret dX12_take_62 rfl
  · replace h := zneg h hc1
    refine zr_iconst dX12_take_12 (by decide) ?_
    obtain rfl := Option.some.inj h
    exact zt_iret dX12_take_13 rfl
set_option maxRecDepth 100000 in
set_option maxHeartbeats 4000000 in
theorem t_Rf_old {a1 a2 : Int} {s : zSt} {res : Int} (h : f_Rf_old a1 a2 s = some res) : zSpecT 1 m_X12_old [.inr (.inl (some 0)), .inl a1, .inl a2] TRf s (some (.inl res)) s := by
  refine zSpec_of (by decide +kernel) (Nat.le_of_ble_eq_true rfl) ?_
  show zBT 1 m_X12_old TRf (some (.inl res)) s 0 [some (.inr (.inl (some 0))), some (.inl a1), some (.inl a2)] [] s
  unfold f_Rf_old at h
  refine zr_load ⟨_, dX12_old_0, rfl⟩ rfl ?_
  refine zr_aload ⟨_, dX12_old_1, rfl⟩ rfl ?_
  refine zt_get dX12_old_2 fl_X12_98 rfl rfl ?_
  refine zr_ic_ge (tgt := 22) dX12_old_5 (by decide) (fun hc1 => ?_) (fun hc1 => ?_)
  · replace h := zpos h hc1
    refine zr_aload ⟨_, dX12_old_22, rfl⟩ rfl ?_
    refine zt_getr dX12_old_23 fl_X12_16 rfl rfl ?_
    refine zr_bipush dX12_old_26 (by decide) (by decide) ?_
    refine zr_load ⟨_, dX12_old_28, rfl⟩ rfl ?_
    refine zr_aload ⟨_, dX12_old_29, rfl⟩ rfl ?_
    refine zt_get dX12_old_30 fl_X12_98 rfl rfl ?_
    refine zr_isub dX12_old_33 ?_
    refine zr_imul dX12_old_34 ?_
    refine zr_load ⟨_, dX12_old_35, rfl⟩ rfl ?_
    refine zr_iadd dX12_old_36 ?_
    obtain ⟨hb2, h⟩ := zchk h
    refine zt_iaload dX12_old_37 rfl hb2 ?_
    obtain rfl := Option.some.inj h
    exact zt_iret dX12_old_38 rfl
  · replace h := zneg h hc1
    refine zr_aload ⟨_, dX12_old_8, rfl⟩ rfl ?_
    refine zt_getr dX12_old_9 fl_X12_24 rfl rfl ?_
    refine zr_bipush dX12_old_12 (by decide) (by decide) ?_
    refine zr_load ⟨_, dX12_old_14, rfl⟩ rfl ?_
    refine zr_imul dX12_old_15 ?_
    refine zr_load ⟨_, dX12_old_16, rfl⟩ rfl ?_
    refine zr_iadd dX12_old_17 ?_
    obtain ⟨hb3, h⟩ := zchk h
    refine zt_iaload dX12_old_18 rfl hb3 ?_
    refine zr_goto (tgt := 38) dX12_old_19 (by decide) ?_
    obtain rfl := Option.some.inj h
    exact zt_iret dX12_old_38 rfl
set_option maxRecDepth 100000 in
set_option maxHeartbeats 4000000 in
theorem t_Rf_oldGoes {a1 : Int} {s : zSt} {res : Int} (h : f_Rf_oldGoes a1 s = some res) : zSpecT 1 m_X12_oldGoes [.inr (.inl (some 0)), .inl a1] TRf s (some (.inl res)) s := by
  refine zSpec_of (by decide +kernel) (Nat.le_of_ble_eq_true rfl) ?_
  show zBT 1 m_X12_oldGoes TRf (some (.inl res)) s 0 [some (.inr (.inl (some 0))), some (.inl a1)] [] s
  unfold f_Rf_oldGoes at h
  refine zr_load ⟨_, dX12_oldGoes_0, rfl⟩ rfl ?_
  refine zr_aload ⟨_, dX12_oldGoes_1, rfl⟩ rfl ?_
  refine zt_get dX12_oldGoes_2 fl_X12_98 rfl rfl ?_
  refine zr_ic_ge (tgt := 17) dX12_oldGoes_5 (by decide) (fun hc1 => ?_) (fun hc1 => ?_)
  · replace h := zpos h hc1
    refine zr_aload ⟨_, dX12_oldGoes_17, rfl⟩ rfl ?_
    refine zt_getr dX12_oldGoes_18 fl_X12_20 rfl rfl ?_
    refine zr_load ⟨_, dX12_oldGoes_21, rfl⟩ rfl ?_
    refine zr_aload ⟨_, dX12_oldGoes_22, rfl⟩ rfl ?_
    refine zt_get dX12_oldGoes_23 fl_X12_98 rfl rfl ?_
    refine zr_isub dX12_oldGoes_26 ?_
    obtain ⟨hb2, h⟩ := zchk h
    refine zt_baload dX12_oldGoes_27 rfl hb2 ?_
    obtain ⟨hb3, h⟩ := zchk h
    obtain rfl := Option.some.inj h
    exact zt_zret dX12_oldGoes_28 rfl hb3
  · replace h := zneg h hc1
    refine zr_aload ⟨_, dX12_oldGoes_8, rfl⟩ rfl ?_
    refine zt_getr dX12_oldGoes_9 fl_X12_27 rfl rfl ?_
    refine zr_load ⟨_, dX12_oldGoes_12, rfl⟩ rfl ?_
    obtain ⟨hb4, h⟩ := zchk h
    refine zt_baload dX12_oldGoes_13 rfl hb4 ?_
    refine zr_goto (tgt := 28) dX12_oldGoes_14 (by decide) ?_
    obtain ⟨hb5, h⟩ := zchk h
    obtain rfl := Option.some.inj h
    exact zt_zret dX12_oldGoes_28 rfl hb5
set_option maxRecDepth 100000 in
set_option maxHeartbeats 4000000 in
theorem t_Rf_emptiesLaid_l2 {c1 : Int} {r : Option zAV} {s0 : zSt}  : ∀ (n : Nat) (x : Int × zSt) (out : zSt), zloop (f_Rf_emptiesLaid_l2 c1) n x = some out → (zBT 1 m_X12_emptiesLaid TRf r s0 26 [some (.inr (.inl (some 0))), some (.inl c1), none] [] out) → zBT 1 m_X12_emptiesLaid TRf r s0 2 [some (.inr (.inl (some 0))), some (.inl c1), some (.inl x.1)] [] x.2 := by
  refine zloop_B (B := fun (x : Int × zSt) (out : zSt) => zBT 1 m_X12_emptiesLaid TRf r s0 26 [some (.inr (.inl (some 0))), some (.inl c1), none] [] out → zBT 1 m_X12_emptiesLaid TRf r s0 2 [some (.inr (.inl (some 0))), some (.inl c1), some (.inl x.1)] [] x.2) ?_
  intro x o out h hk hx
  unfold f_Rf_emptiesLaid_l2 at h
  refine zr_load ⟨_, dX12_emptiesLaid_2, rfl⟩ rfl ?_
  refine zr_bipush dX12_emptiesLaid_3 (by decide) (by decide) ?_
  refine zr_ic_ge (tgt := 26) dX12_emptiesLaid_5 (by decide) (fun hc1 => ?_) (fun hc1 => ?_)
  · replace h := zpos h hc1
    refine zr_mask [true, true, false] rfl ?_
    obtain rfl := Option.some.inj h
    obtain rfl := hk
    exact hx
  · replace h := zneg h hc1
    refine zr_aload ⟨_, dX12_emptiesLaid_8, rfl⟩ rfl ?_
    refine zt_getr dX12_emptiesLaid_9 fl_X12_70 rfl rfl ?_
    refine zr_bipush dX12_emptiesLaid_12 (by decide) (by decide) ?_
    refine zr_load ⟨_, dX12_emptiesLaid_14, rfl⟩ rfl ?_
    refine zr_imul dX12_emptiesLaid_15 ?_
    refine zr_load ⟨_, dX12_emptiesLaid_16, rfl⟩ rfl ?_
    refine zr_iadd dX12_emptiesLaid_17 ?_
    refine zr_iconst dX12_emptiesLaid_18 (by decide) ?_
    obtain ⟨hb2, h⟩ := zchk h
    refine zt_iastore dX12_emptiesLaid_19 rfl hb2 ?_
    refine zr_iinc dX12_emptiesLaid_20 rfl (by decide) rfl ?_
    refine zr_goto (tgt := 2) dX12_emptiesLaid_23 (by decide) ?_
    obtain rfl := Option.some.inj h
    exact hk hx
set_option maxRecDepth 100000 in
set_option maxHeartbeats 4000000 in
theorem t_Rf_emptiesLaid {a1 : Int} {s : zSt} {res : Int × zSt} (h : f_Rf_emptiesLaid a1 s = some res) : zSpecT 1 m_X12_emptiesLaid [.inr (.inl (some 0)), .inl a1] TRf s none res.2 := by
  refine zSpec_of (by decide +kernel) (Nat.le_of_ble_eq_true rfl) ?_
  show zBT 1 m_X12_emptiesLaid TRf none res.2 0 [some (.inr (.inl (some 0))), some (.inl a1), none] [] s
  unfold f_Rf_emptiesLaid at h
  refine zr_iconst dX12_emptiesLaid_0 (by decide) ?_
  refine zr_store ⟨_, dX12_emptiesLaid_1, rfl⟩ (by decide) rfl ?_
  obtain ⟨y1, hy1, h⟩ := zbind h
  refine t_Rf_emptiesLaid_l2 _ _ _ hy1 ?_
  refine zr_aload ⟨_, dX12_emptiesLaid_26, rfl⟩ rfl ?_
  refine zt_getr dX12_emptiesLaid_27 fl_X12_73 rfl rfl ?_
  refine zr_load ⟨_, dX12_emptiesLaid_30, rfl⟩ rfl ?_
  refine zr_iconst dX12_emptiesLaid_31 (by decide) ?_
  obtain ⟨hb2, h⟩ := zchk h
  refine zt_bastore dX12_emptiesLaid_32 rfl hb2 (Or.inl rfl) ?_
  obtain rfl := Option.some.inj h
  exact zt_vret dX12_emptiesLaid_33 rfl
set_option maxRecDepth 100000 in
set_option maxHeartbeats 4000000 in
theorem t_Rf_isWide {a0 : Int}  {res : Int} (h : f_Rf_isWide a0 = some res) : ∀ s : zSt, zSpecT 2 m_X12_isWide [.inl a0] T0 s (some (.inl res)) s := by
  intro s
  refine zSpec_of (by decide +kernel) (Nat.le_of_ble_eq_true rfl) ?_
  show zBT 2 m_X12_isWide T0 (some (.inl res)) s 0 [some (.inl a0)] [] s
  unfold f_Rf_isWide at h
  refine zr_load ⟨_, dX12_isWide_0, rfl⟩ rfl ?_
  refine zr_sipush dX12_isWide_1 (by decide) (by decide) ?_
  refine zr_irem dX12_isWide_4 (by decide) ?_
  refine zr_bipush dX12_isWide_5 (by decide) (by decide) ?_
  refine zr_bipush dX12_isWide_7 (by decide) (by decide) ?_
  obtain ⟨x1, hx1, h⟩ := zbind h
  refine zt_call0 (t_Rf_in hx1) (zrun_S (rest := []) dX12_isWide_9 ml_X12_83 rfl (by decide) (by decide) rfl (Nat.le_of_ble_eq_true rfl)) rfl rfl (Nat.le_refl _) (Nat.le_refl _) ?_
  have hj2 : zBT 2 m_X12_isWide T0 (some (.inl res)) s 24 [some (.inl a0)] [.inl (if x1 = 0 then 0 else (if a0 ≤ 0 then 0 else 1))] s := by
    obtain rfl := Option.some.inj h
    exact zt_zret dX12_isWide_24 rfl (z01i (Or.inl rfl) (z01i (Or.inl rfl) (Or.inr rfl)))
  refine zr_if_eq (tgt := 23) dX12_isWide_12 (by decide) (fun hc3 => ?_) (fun hc3 => ?_)
  · have hp4 := zif_t hj2 hc3
    refine zr_iconst dX12_isWide_23 (by decide) ?_
    exact hp4
  · have hp5 := zif_f hj2 hc3
    refine zr_load ⟨_, dX12_isWide_15, rfl⟩ rfl ?_
    refine zr_if_le (tgt := 23) dX12_isWide_16 (by decide) (fun hc6 => ?_) (fun hc6 => ?_)
    · have hp7 := zif_t hp5 hc6
      refine zr_iconst dX12_isWide_23 (by decide) ?_
      exact hp7
    · have hp8 := zif_f hp5 hc6
      refine zr_iconst dX12_isWide_19 (by decide) ?_
      refine zr_goto (tgt := 24) dX12_isWide_20 (by decide) ?_
      exact hp8
set_option maxRecDepth 100000 in
set_option maxHeartbeats 4000000 in
theorem t_Rf_parts {a1 a2 : Int} {s : zSt} {res : Int × zSt} (h : f_Rf_parts a1 a2 s = some res) : zSpecT 2 m_X12_parts [.inr (.inl (some 0)), .inl a1, .inl a2] TRf s none res.2 := by
  refine zSpec_of (by decide +kernel) (Nat.le_of_ble_eq_true rfl) ?_
  show zBT 2 m_X12_parts TRf none res.2 0 [some (.inr (.inl (some 0))), some (.inl a1), some (.inl a2)] [] s
  unfold f_Rf_parts at h
  refine zr_load ⟨_, dX12_parts_0, rfl⟩ rfl ?_
  refine zr_iconst dX12_parts_1 (by decide) ?_
  refine zr_aload ⟨_, dX12_parts_2, rfl⟩ rfl ?_
  refine zt_get dX12_parts_3 fl_X12_13 rfl rfl ?_
  refine zr_iconst dX12_parts_6 (by decide) ?_
  refine zr_isub dX12_parts_7 ?_
  obtain ⟨x1, hx1, h⟩ := zbind h
  refine zt_call0 (t_Rf_in hx1) (zrun_S (rest := []) dX12_parts_8 ml_X12_83 rfl (by decide) (by decide) rfl (Nat.le_of_ble_eq_true rfl)) rfl rfl (Nat.le_refl _) (Nat.le_refl _) ?_
  refine zr_if_eq (tgt := 56) dX12_parts_11 (by decide) (fun hc2 => ?_) (fun hc2 => ?_)
  · replace h := zpos h hc2
    obtain rfl := Option.some.inj h
    exact zt_vret dX12_parts_56 rfl
  · replace h := zneg h hc2
    refine zr_aload ⟨_, dX12_parts_14, rfl⟩ rfl ?_
    refine zt_getr dX12_parts_15 fl_X12_16 rfl rfl ?_
    refine zr_aload ⟨_, dX12_parts_18, rfl⟩ rfl ?_
    refine zr_load ⟨_, dX12_parts_19, rfl⟩ rfl ?_
    refine zr_load ⟨_, dX12_parts_20, rfl⟩ rfl ?_
    obtain ⟨x3, hx3, h⟩ := zbind h
    refine zt_callisi (t_Rf_at hx3) (zrun_V (rest := [.inr (.inl (some 1))]) dX12_parts_21 ml_X12_90 rfl rfl (by decide) (by decide) rfl (Nat.le_of_ble_eq_true rfl)) rfl rfl (Nat.le_refl _) (Nat.le_refl _) ?_
    obtain ⟨hb4, h⟩ := zchk h
    refine zt_iaload dX12_parts_24 rfl hb4 ?_
    refine zr_bipush dX12_parts_25 (by decide) (by decide) ?_
    refine zr_ic_ne (tgt := 56) dX12_parts_27 (by decide) (fun hc5 => ?_) (fun hc5 => ?_)
    · replace h := zpos h hc5
      obtain rfl := Option.some.inj h
      exact zt_vret dX12_parts_56 rfl
    · replace h := zneg h hc5
      refine zr_aload ⟨_, dX12_parts_30, rfl⟩ rfl ?_
      refine zt_getr dX12_parts_31 fl_X12_16 rfl rfl ?_
      refine zr_aload ⟨_, dX12_parts_34, rfl⟩ rfl ?_
      refine zr_load ⟨_, dX12_parts_35, rfl⟩ rfl ?_
      refine zr_load ⟨_, dX12_parts_36, rfl⟩ rfl ?_
      obtain ⟨x6, hx6, h⟩ := zbind h
      refine zt_callisi (t_Rf_at hx6) (zrun_V (rest := [.inr (.inl (some 1))]) dX12_parts_37 ml_X12_90 rfl rfl (by decide) (by decide) rfl (Nat.le_of_ble_eq_true rfl)) rfl rfl (Nat.le_refl _) (Nat.le_refl _) ?_
      refine zr_iconst dX12_parts_40 (by decide) ?_
      obtain ⟨hb7, h⟩ := zchk h
      refine zt_iastore dX12_parts_41 rfl hb7 ?_
      refine zr_aload ⟨_, dX12_parts_42, rfl⟩ rfl ?_
      refine zt_getr dX12_parts_43 fl_X12_16 rfl rfl ?_
      refine zr_aload ⟨_, dX12_parts_46, rfl⟩ rfl ?_
      refine zr_load ⟨_, dX12_parts_47, rfl⟩ rfl ?_
      refine zr_load ⟨_, dX12_parts_48, rfl⟩ rfl ?_
      refine zr_iconst dX12_parts_49 (by decide) ?_
      refine zr_isub dX12_parts_50 ?_
      obtain ⟨x8, hx8, h⟩ := zbind h
      refine zt_callisi (t_Rf_at hx8) (zrun_V (rest := [.inr (.inl (some 1))]) dX12_parts_51 ml_X12_90 rfl rfl (by decide) (by decide) rfl (Nat.le_of_ble_eq_true rfl)) rfl rfl (Nat.le_refl _) (Nat.le_refl _) ?_
      refine zr_iconst dX12_parts_54 (by decide) ?_
      obtain ⟨hb9, h⟩ := zchk h
      refine zt_iastore dX12_parts_55 rfl hb9 ?_
      obtain rfl := Option.some.inj h
      exact zt_vret dX12_parts_56 rfl
set_option maxRecDepth 100000 in
set_option maxHeartbeats 4000000 in
theorem t_Rf_copiesRow_l2 {c1 c2 : Int} {r : Option zAV} {s0 : zSt}  : ∀ (n : Nat) (x : Int × zSt) (out : zSt), zloop (f_Rf_copiesRow_l2 c1 c2) n x = some out → (zBT 2 m_X12_copiesRow TRf r s0 36 [some (.inr (.inl (some 0))), some (.inl c1), some (.inl c2), none] [] out) → zBT 2 m_X12_copiesRow TRf r s0 2 [some (.inr (.inl (some 0))), some (.inl c1), some (.inl c2), some (.inl x.1)] [] x.2 := by
  refine zloop_B (B := fun (x : Int × zSt) (out : zSt) => zBT 2 m_X12_copiesRow TRf r s0 36 [some (.inr (.inl (some 0))), some (.inl c1), some (.inl c2), none] [] out → zBT 2 m_X12_copiesRow TRf r s0 2 [some (.inr (.inl (some 0))), some (.inl c1), some (.inl c2), some (.inl x.1)] [] x.2) ?_
  intro x o out h hk hx
  unfold f_Rf_copiesRow_l2 at h
  refine zr_load ⟨_, dX12_copiesRow_2, rfl⟩ rfl ?_
  refine zr_bipush dX12_copiesRow_3 (by decide) (by decide) ?_
  refine zr_ic_ge (tgt := 36) dX12_copiesRow_5 (by decide) (fun hc1 => ?_) (fun hc1 => ?_)
  · replace h := zpos h hc1
    refine zr_mask [true, true, true, false] rfl ?_
    obtain rfl := Option.some.inj h
    obtain rfl := hk
    exact hx
  · replace h := zneg h hc1
    refine zr_aload ⟨_, dX12_copiesRow_8, rfl⟩ rfl ?_
    refine zt_getr dX12_copiesRow_9 fl_X12_16 rfl rfl ?_
    refine zr_aload ⟨_, dX12_copiesRow_12, rfl⟩ rfl ?_
    refine zr_load ⟨_, dX12_copiesRow_13, rfl⟩ rfl ?_
    refine zr_load ⟨_, dX12_copiesRow_14, rfl⟩ rfl ?_
    obtain ⟨x2, hx2, h⟩ := zbind h
    refine zt_callisi (t_Rf_at hx2) (zrun_V (rest := [.inr (.inl (some 1))]) dX12_copiesRow_15 ml_X12_90 rfl rfl (by decide) (by decide) rfl (Nat.le_of_ble_eq_true rfl)) rfl rfl (Nat.le_refl _) (Nat.le_refl _) ?_
    refine zr_aload ⟨_, dX12_copiesRow_18, rfl⟩ rfl ?_
    refine zt_getr dX12_copiesRow_19 fl_X12_16 rfl rfl ?_
    refine zr_aload ⟨_, dX12_copiesRow_22, rfl⟩ rfl ?_
    refine zr_load ⟨_, dX12_copiesRow_23, rfl⟩ rfl ?_
    refine zr_load ⟨_, dX12_copiesRow_24, rfl⟩ rfl ?_
    obtain ⟨x3, hx3, h⟩ := zbind h
    refine zt_callisi (t_Rf_at hx3) (zrun_V (rest := [.inr (.inl (some 1)), .inl x2, .inr (.inl (some 1))]) dX12_copiesRow_25 ml_X12_90 rfl rfl (by decide) (by decide) rfl (Nat.le_of_ble_eq_true rfl)) rfl rfl (Nat.le_refl _) (Nat.le_refl _) ?_
    obtain ⟨hb4, h⟩ := zchk h
    refine zt_iaload dX12_copiesRow_28 rfl hb4 ?_
    obtain ⟨hb5, h⟩ := zchk h
    refine zt_iastore dX12_copiesRow_29 rfl hb5 ?_
    refine zr_iinc dX12_copiesRow_30 rfl (by decide) rfl ?_
    refine zr_goto (tgt := 2) dX12_copiesRow_33 (by decide) ?_
    obtain rfl := Option.some.inj h
    exact hk hx
set_option maxRecDepth 100000 in
set_option maxHeartbeats 4000000 in
theorem t_Rf_copiesRow {a1 a2 : Int} {s : zSt} {res : Int × zSt} (h : f_Rf_copiesRow a1 a2 s = some res) : zSpecT 2 m_X12_copiesRow [.inr (.inl (some 0)), .inl a1, .inl a2] TRf s none res.2 := by
  refine zSpec_of (by decide +kernel) (Nat.le_of_ble_eq_true rfl) ?_
  show zBT 2 m_X12_copiesRow TRf none res.2 0 [some (.inr (.inl (some 0))), some (.inl a1), some (.inl a2), none] [] s
  unfold f_Rf_copiesRow at h
  refine zr_iconst dX12_copiesRow_0 (by decide) ?_
  refine zr_store ⟨_, dX12_copiesRow_1, rfl⟩ (by decide) rfl ?_
  obtain ⟨y1, hy1, h⟩ := zbind h
  refine t_Rf_copiesRow_l2 _ _ _ hy1 ?_
  refine zr_aload ⟨_, dX12_copiesRow_36, rfl⟩ rfl ?_
  refine zt_getr dX12_copiesRow_37 fl_X12_20 rfl rfl ?_
  refine zr_bipush dX12_copiesRow_40 (by decide) (by decide) ?_
  refine zr_aload ⟨_, dX12_copiesRow_42, rfl⟩ rfl ?_
  refine zt_get dX12_copiesRow_43 fl_X12_87 rfl rfl ?_
  refine zr_imul dX12_copiesRow_46 ?_
  refine zr_load ⟨_, dX12_copiesRow_47, rfl⟩ rfl ?_
  refine zr_iadd dX12_copiesRow_48 ?_
  refine zr_aload ⟨_, dX12_copiesRow_49, rfl⟩ rfl ?_
  refine zt_getr dX12_copiesRow_50 fl_X12_20 rfl rfl ?_
  refine zr_bipush dX12_copiesRow_53 (by decide) (by decide) ?_
  refine zr_aload ⟨_, dX12_copiesRow_55, rfl⟩ rfl ?_
  refine zt_get dX12_copiesRow_56 fl_X12_87 rfl rfl ?_
  refine zr_imul dX12_copiesRow_59 ?_
  refine zr_load ⟨_, dX12_copiesRow_60, rfl⟩ rfl ?_
  refine zr_iadd dX12_copiesRow_61 ?_
  obtain ⟨hb2, h⟩ := zchk h
  refine zt_baload dX12_copiesRow_62 rfl hb2 ?_
  obtain ⟨hb3, h⟩ := zchk h
  refine zt_bastore dX12_copiesRow_63 rfl hb3.1 hb3.2 ?_
  obtain rfl := Option.some.inj h
  exact zt_vret dX12_copiesRow_64 rfl
set_option maxRecDepth 100000 in
set_option maxHeartbeats 4000000 in
theorem t_Rf_emptiesRow_l2 {c1 : Int} {r : Option zAV} {s0 : zSt}  : ∀ (n : Nat) (x : Int × zSt) (out : zSt), zloop (f_Rf_emptiesRow_l2 c1) n x = some out → (zBT 2 m_X12_emptiesRow TRf r s0 26 [some (.inr (.inl (some 0))), some (.inl c1), none] [] out) → zBT 2 m_X12_emptiesRow TRf r s0 2 [some (.inr (.inl (some 0))), some (.inl c1), some (.inl x.1)] [] x.2 := by
  refine zloop_B (B := fun (x : Int × zSt) (out : zSt) => zBT 2 m_X12_emptiesRow TRf r s0 26 [some (.inr (.inl (some 0))), some (.inl c1), none] [] out → zBT 2 m_X12_emptiesRow TRf r s0 2 [some (.inr (.inl (some 0))), some (.inl c1), some (.inl x.1)] [] x.2) ?_
  intro x o out h hk hx
  unfold f_Rf_emptiesRow_l2 at h
  refine zr_load ⟨_, dX12_emptiesRow_2, rfl⟩ rfl ?_
  refine zr_bipush dX12_emptiesRow_3 (by decide) (by decide) ?_
  refine zr_ic_ge (tgt := 26) dX12_emptiesRow_5 (by decide) (fun hc1 => ?_) (fun hc1 => ?_)
  · replace h := zpos h hc1
    refine zr_mask [true, true, false] rfl ?_
    obtain rfl := Option.some.inj h
    obtain rfl := hk
    exact hx
  · replace h := zneg h hc1
    refine zr_aload ⟨_, dX12_emptiesRow_8, rfl⟩ rfl ?_
    refine zt_getr dX12_emptiesRow_9 fl_X12_16 rfl rfl ?_
    refine zr_aload ⟨_, dX12_emptiesRow_12, rfl⟩ rfl ?_
    refine zr_load ⟨_, dX12_emptiesRow_13, rfl⟩ rfl ?_
    refine zr_load ⟨_, dX12_emptiesRow_14, rfl⟩ rfl ?_
    obtain ⟨x2, hx2, h⟩ := zbind h
    refine zt_callisi (t_Rf_at hx2) (zrun_V (rest := [.inr (.inl (some 1))]) dX12_emptiesRow_15 ml_X12_90 rfl rfl (by decide) (by decide) rfl (Nat.le_of_ble_eq_true rfl)) rfl rfl (Nat.le_refl _) (Nat.le_refl _) ?_
    refine zr_iconst dX12_emptiesRow_18 (by decide) ?_
    obtain ⟨hb3, h⟩ := zchk h
    refine zt_iastore dX12_emptiesRow_19 rfl hb3 ?_
    refine zr_iinc dX12_emptiesRow_20 rfl (by decide) rfl ?_
    refine zr_goto (tgt := 2) dX12_emptiesRow_23 (by decide) ?_
    obtain rfl := Option.some.inj h
    exact hk hx
set_option maxRecDepth 100000 in
set_option maxHeartbeats 4000000 in
theorem t_Rf_emptiesRow {a1 : Int} {s : zSt} {res : Int × zSt} (h : f_Rf_emptiesRow a1 s = some res) : zSpecT 2 m_X12_emptiesRow [.inr (.inl (some 0)), .inl a1] TRf s none res.2 := by
  refine zSpec_of (by decide +kernel) (Nat.le_of_ble_eq_true rfl) ?_
  show zBT 2 m_X12_emptiesRow TRf none res.2 0 [some (.inr (.inl (some 0))), some (.inl a1), none] [] s
  unfold f_Rf_emptiesRow at h
  refine zr_iconst dX12_emptiesRow_0 (by decide) ?_
  refine zr_store ⟨_, dX12_emptiesRow_1, rfl⟩ (by decide) rfl ?_
  obtain ⟨y1, hy1, h⟩ := zbind h
  refine t_Rf_emptiesRow_l2 _ _ _ hy1 ?_
  refine zr_aload ⟨_, dX12_emptiesRow_26, rfl⟩ rfl ?_
  refine zt_getr dX12_emptiesRow_27 fl_X12_20 rfl rfl ?_
  refine zr_bipush dX12_emptiesRow_30 (by decide) (by decide) ?_
  refine zr_aload ⟨_, dX12_emptiesRow_32, rfl⟩ rfl ?_
  refine zt_get dX12_emptiesRow_33 fl_X12_87 rfl rfl ?_
  refine zr_imul dX12_emptiesRow_36 ?_
  refine zr_load ⟨_, dX12_emptiesRow_37, rfl⟩ rfl ?_
  refine zr_iadd dX12_emptiesRow_38 ?_
  refine zr_iconst dX12_emptiesRow_39 (by decide) ?_
  obtain ⟨hb2, h⟩ := zchk h
  refine zt_bastore dX12_emptiesRow_40 rfl hb2 (Or.inl rfl) ?_
  obtain rfl := Option.some.inj h
  exact zt_vret dX12_emptiesRow_41 rfl
set_option maxRecDepth 100000 in
set_option maxHeartbeats 4000000 in
theorem t_Rf_marks  {s : zSt} {res : Int × zSt} (h : f_Rf_marks s = some res) : zSpecT 2 m_X12_marks [.inr (.inl (some 0))] TRf s none res.2 := by
  refine zSpec_of (by decide +kernel) (Nat.le_of_ble_eq_true rfl) ?_
  show zBT 2 m_X12_marks TRf none res.2 0 [some (.inr (.inl (some 0))), none, none, none] [] s
  unfold f_Rf_marks at h
  refine zr_aload ⟨_, dX12_marks_0, rfl⟩ rfl ?_
  refine zt_get dX12_marks_1 fl_X12_126 rfl rfl ?_
  have hj1 : zBT 2 m_X12_marks TRf none res.2 20 [some (.inr (.inl (some 0))), none, none, none] [.inl (if (s.1 0 11) = 0 then (w32 ((s.1 0 10) - 1)) else (s.1 0 10))] s := by
    refine zr_store ⟨_, dX12_marks_20, rfl⟩ (by decide) rfl ?_
    refine zr_load ⟨_, dX12_marks_21, rfl⟩ rfl ?_
    refine zr_if_lt (tgt := 102) dX12_marks_22 (by decide) (fun hc3 => ?_) (fun hc3 => ?_)
    · replace h := zpos h hc3
      obtain rfl := Option.some.inj h
      exact zt_vret dX12_marks_102 rfl
    · replace h := zneg h hc3
      refine zr_aload ⟨_, dX12_marks_25, rfl⟩ rfl ?_
      refine zt_getr dX12_marks_26 fl_X12_16 rfl rfl ?_
      refine zr_aload ⟨_, dX12_marks_29, rfl⟩ rfl ?_
      refine zr_aload ⟨_, dX12_marks_30, rfl⟩ rfl ?_
      refine zt_get dX12_marks_31 fl_X12_113 rfl rfl ?_
      refine zr_load ⟨_, dX12_marks_34, rfl⟩ rfl ?_
      obtain ⟨x4, hx4, h⟩ := zbind h
      refine zt_callisi (t_Rf_at hx4) (zrun_V (rest := [.inr (.inl (some 1))]) dX12_marks_35 ml_X12_90 rfl rfl (by decide) (by decide) rfl (Nat.le_of_ble_eq_true rfl)) rfl rfl (Nat.le_refl _) (Nat.le_refl _) ?_
      obtain ⟨hb5, h⟩ := zchk h
      refine zt_iaload dX12_marks_38 rfl hb5 ?_
      refine zr_bipush dX12_marks_39 (by decide) (by decide) ?_
      have hj6 : zBT 2 m_X12_marks TRf none res.2 51 [some (.inr (.inl (some 0))), some (.inl (if (s.1 0 11) = 0 then (w32 ((s.1 0 10) - 1)) else (s.1 0 10))), none, none] [.inl (if ¬ ((s.2 1) x4) = (-2) then (if (s.1 0 11) = 0 then (w32 ((s.1 0 10) - 1)) else (s.1 0 10)) else (w32 ((if (s.1 0 11) = 0 then (w32 ((s.1 0 10) - 1)) else (s.1 0 10)) - 1)))] s := by
        refine zr_store ⟨_, dX12_marks_51, rfl⟩ (by decide) rfl ?_
        refine zr_aload ⟨_, dX12_marks_52, rfl⟩ rfl ?_
        refine zt_getr dX12_marks_53 fl_X12_16 rfl rfl ?_
        refine zr_aload ⟨_, dX12_marks_56, rfl⟩ rfl ?_
        refine zr_aload ⟨_, dX12_marks_57, rfl⟩ rfl ?_
        refine zt_get dX12_marks_58 fl_X12_113 rfl rfl ?_
        refine zr_load ⟨_, dX12_marks_61, rfl⟩ rfl ?_
        obtain ⟨x8, hx8, h⟩ := zbind h
        refine zt_callisi (t_Rf_at hx8) (zrun_V (rest := [.inr (.inl (some 1))]) dX12_marks_62 ml_X12_90 rfl rfl (by decide) (by decide) rfl (Nat.le_of_ble_eq_true rfl)) rfl rfl (Nat.le_refl _) (Nat.le_refl _) ?_
        obtain ⟨hb9, h⟩ := zchk h
        refine zt_iaload dX12_marks_65 rfl hb9 ?_
        refine zr_store ⟨_, dX12_marks_66, rfl⟩ (by decide) rfl ?_
        refine zr_aload ⟨_, dX12_marks_67, rfl⟩ rfl ?_
        refine zt_getr dX12_marks_68 fl_X12_16 rfl rfl ?_
        refine zr_aload ⟨_, dX12_marks_71, rfl⟩ rfl ?_
        refine zr_aload ⟨_, dX12_marks_72, rfl⟩ rfl ?_
        refine zt_get dX12_marks_73 fl_X12_113 rfl rfl ?_
        refine zr_load ⟨_, dX12_marks_76, rfl⟩ rfl ?_
        obtain ⟨x10, hx10, h⟩ := zbind h
        refine zt_callisi (t_Rf_at hx10) (zrun_V (rest := [.inr (.inl (some 1))]) dX12_marks_77 ml_X12_90 rfl rfl (by decide) (by decide) rfl (Nat.le_of_ble_eq_true rfl)) rfl rfl (Nat.le_refl _) (Nat.le_refl _) ?_
        refine zr_dup2 dX12_marks_80 ⟨_, rfl⟩ True.intro ?_
        obtain ⟨hb11, h⟩ := zchk h
        refine zt_iaload dX12_marks_81 rfl hb11 ?_
        refine zr_load ⟨_, dX12_marks_82, rfl⟩ rfl ?_
        have hj12 : zBT 2 m_X12_marks TRf none res.2 100 [some (.inr (.inl (some 0))), some (.inl (if (s.1 0 11) = 0 then (w32 ((s.1 0 10) - 1)) else (s.1 0 10))), some (.inl (if ¬ ((s.2 1) x4) = (-2) then (if (s.1 0 11) = 0 then (w32 ((s.1 0 10) - 1)) else (s.1 0 10)) else (w32 ((if (s.1 0 11) = 0 then (w32 ((s.1 0 10) - 1)) else (s.1 0 10)) - 1)))), some (.inl ((s.2 1) x8))] [.inl (if ((s.2 1) x8) ≤ 0 then 0 else (if 3 ≤ (wDiv ((s.2 1) x8) 100000) then 0 else 100000)), .inl ((s.2 1) x10), .inl x10, .inr (.inl (some 1))] s := by
          refine zr_iadd dX12_marks_100 ?_
          obtain ⟨hb14, h⟩ := zchk h
          refine zt_iastore dX12_marks_101 rfl hb14 ?_
          obtain rfl := Option.some.inj h
          exact zt_vret dX12_marks_102 rfl
        refine zr_if_le (tgt := 99) dX12_marks_83 (by decide) (fun hc13 => ?_) (fun hc13 => ?_)
        · have hp15 := zif_t hj12 hc13
          refine zr_iconst dX12_marks_99 (by decide) ?_
          exact hp15
        · have hp16 := zif_f hj12 hc13
          refine zr_load ⟨_, dX12_marks_86, rfl⟩ rfl ?_
          refine zr_ldc dX12_marks_87 k_X12_145 (by decide) ?_
          refine zr_idiv dX12_marks_89 (by decide) ?_
          refine zr_iconst dX12_marks_90 (by decide) ?_
          refine zr_ic_ge (tgt := 99) dX12_marks_91 (by decide) (fun hc17 => ?_) (fun hc17 => ?_)
          · have hp18 := zif_t hp16 hc17
            refine zr_iconst dX12_marks_99 (by decide) ?_
            exact hp18
          · have hp19 := zif_f hp16 hc17
            refine zr_ldc dX12_marks_94 k_X12_145 (by decide) ?_
            refine zr_goto (tgt := 100) dX12_marks_96 (by decide) ?_
            exact hp19
      refine zr_ic_ne (tgt := 50) dX12_marks_41 (by decide) (fun hc7 => ?_) (fun hc7 => ?_)
      · have hp20 := zif_t hj6 hc7
        refine zr_load ⟨_, dX12_marks_50, rfl⟩ rfl ?_
        exact hp20
      · have hp21 := zif_f hj6 hc7
        refine zr_load ⟨_, dX12_marks_44, rfl⟩ rfl ?_
        refine zr_iconst dX12_marks_45 (by decide) ?_
        refine zr_isub dX12_marks_46 ?_
        refine zr_goto (tgt := 51) dX12_marks_47 (by decide) ?_
        exact hp21
  refine zr_if_eq (tgt := 14) dX12_marks_4 (by decide) (fun hc2 => ?_) (fun hc2 => ?_)
  · have hp22 := zif_t hj1 hc2
    refine zr_aload ⟨_, dX12_marks_14, rfl⟩ rfl ?_
    refine zt_get dX12_marks_15 fl_X12_123 rfl rfl ?_
    refine zr_iconst dX12_marks_18 (by decide) ?_
    refine zr_isub dX12_marks_19 ?_
    exact hp22
  · have hp23 := zif_f hj1 hc2
    refine zr_aload ⟨_, dX12_marks_7, rfl⟩ rfl ?_
    refine zt_get dX12_marks_8 fl_X12_123 rfl rfl ?_
    refine zr_goto (tgt := 20) dX12_marks_11 (by decide) ?_
    exact hp23
set_option maxRecDepth 100000 in
set_option maxHeartbeats 4000000 in
theorem t_Rf_bringsBack_j53 {k0 : Int} {s : zSt} {res : Int × zSt} (h : f_Rf_bringsBack_j53 k0 s = some res) : zBT 2 m_X12_bringsBack TRf none res.2 53 [some (.inr (.inl (some 0)))] [.inl k0, .inr (.inl (some 0))] s := by
  unfold f_Rf_bringsBack_j53 at h
  refine zt_put dX12_bringsBack_53 fl_X12_123 rfl rfl ?_
  refine zr_aload ⟨_, dX12_bringsBack_56, rfl⟩ rfl ?_
  refine zr_aload ⟨_, dX12_bringsBack_57, rfl⟩ rfl ?_
  refine zt_get dX12_bringsBack_58 fl_X12_149 rfl rfl ?_
  have hj1 : zBT 2 m_X12_bringsBack TRf none res.2 96 [some (.inr (.inl (some 0)))] [.inl (if (s.1 0 23) = 0 then 0 else (if (s.1 0 26) = 0 then 0 else (if ¬ k0 = (w32 ((s.1 0 2) - 1)) then 0 else (if (s.1 0 18) = 0 then 0 else 1)))), .inr (.inl (some 0))] (uS s 0 10 k0) := by
    refine zt_putz dX12_bringsBack_96 fl_X12_126 rfl rfl (z01i (Or.inl rfl) (z01i (Or.inl rfl) (z01i (Or.inl rfl) (z01i (Or.inl rfl) (Or.inr rfl))))) ?_
    refine zr_aload ⟨_, dX12_bringsBack_99, rfl⟩ rfl ?_
    refine zr_aload ⟨_, dX12_bringsBack_100, rfl⟩ rfl ?_
    refine zt_get dX12_bringsBack_101 fl_X12_149 rfl rfl ?_
    have hj3 : zBT 2 m_X12_bringsBack TRf none res.2 115 [some (.inr (.inl (some 0)))] [.inl (if (s.1 0 23) = 0 then 0 else (s.1 0 27)), .inr (.inl (some 0))] (uS (uS s 0 10 k0) 0 11 (if (s.1 0 23) = 0 then 0 else (if (s.1 0 26) = 0 then 0 else (if ¬ k0 = (w32 ((s.1 0 2) - 1)) then 0 else (if (s.1 0 18) = 0 then 0 else 1))))) := by
      refine zt_put dX12_bringsBack_115 fl_X12_142 rfl rfl ?_
      refine zr_aload ⟨_, dX12_bringsBack_118, rfl⟩ rfl ?_
      refine zr_aload ⟨_, dX12_bringsBack_119, rfl⟩ rfl ?_
      refine zt_get dX12_bringsBack_120 fl_X12_149 rfl rfl ?_
      have hj5 : zBT 2 m_X12_bringsBack TRf none res.2 138 [some (.inr (.inl (some 0)))] [.inl (if (s.1 0 23) = 0 then 0 else (if (s.1 0 28) = 0 then 0 else 1)), .inr (.inl (some 0))] (uS (uS (uS s 0 10 k0) 0 11 (if (s.1 0 23) = 0 then 0 else (if (s.1 0 26) = 0 then 0 else (if ¬ k0 = (w32 ((s.1 0 2) - 1)) then 0 else (if (s.1 0 18) = 0 then 0 else 1))))) 0 12 (if (s.1 0 23) = 0 then 0 else (s.1 0 27))) := by
        refine zt_putz dX12_bringsBack_138 fl_X12_164 rfl rfl (z01i (Or.inl rfl) (z01i (Or.inl rfl) (Or.inr rfl))) ?_
        obtain rfl := Option.some.inj h
        exact zt_vret dX12_bringsBack_141 rfl
      refine zr_if_eq (tgt := 137) dX12_bringsBack_123 (by decide) (fun hc6 => ?_) (fun hc6 => ?_)
      · have hp7 := zif_t hj5 hc6
        refine zr_iconst dX12_bringsBack_137 (by decide) ?_
        exact hp7
      · have hp8 := zif_f hj5 hc6
        refine zr_aload ⟨_, dX12_bringsBack_126, rfl⟩ rfl ?_
        refine zt_get dX12_bringsBack_127 fl_X12_167 rfl rfl ?_
        refine zr_if_eq (tgt := 137) dX12_bringsBack_130 (by decide) (fun hc9 => ?_) (fun hc9 => ?_)
        · have hp10 := zif_t hp8 hc9
          refine zr_iconst dX12_bringsBack_137 (by decide) ?_
          exact hp10
        · have hp11 := zif_f hp8 hc9
          refine zr_iconst dX12_bringsBack_133 (by decide) ?_
          refine zr_goto (tgt := 138) dX12_bringsBack_134 (by decide) ?_
          exact hp11
    refine zr_if_eq (tgt := 114) dX12_bringsBack_104 (by decide) (fun hc4 => ?_) (fun hc4 => ?_)
    · have hp12 := zif_t hj3 hc4
      refine zr_iconst dX12_bringsBack_114 (by decide) ?_
      exact hp12
    · have hp13 := zif_f hj3 hc4
      refine zr_aload ⟨_, dX12_bringsBack_107, rfl⟩ rfl ?_
      refine zt_get dX12_bringsBack_108 fl_X12_161 rfl rfl ?_
      refine zr_goto (tgt := 115) dX12_bringsBack_111 (by decide) ?_
      exact hp13
  refine zr_if_eq (tgt := 95) dX12_bringsBack_61 (by decide) (fun hc2 => ?_) (fun hc2 => ?_)
  · have hp14 := zif_t hj1 hc2
    refine zr_iconst dX12_bringsBack_95 (by decide) ?_
    exact hp14
  · have hp15 := zif_f hj1 hc2
    refine zr_aload ⟨_, dX12_bringsBack_64, rfl⟩ rfl ?_
    refine zt_get dX12_bringsBack_65 fl_X12_158 rfl rfl ?_
    refine zr_if_eq (tgt := 95) dX12_bringsBack_68 (by decide) (fun hc16 => ?_) (fun hc16 => ?_)
    · have hp17 := zif_t hp15 hc16
      refine zr_iconst dX12_bringsBack_95 (by decide) ?_
      exact hp17
    · have hp18 := zif_f hp15 hc16
      refine zr_aload ⟨_, dX12_bringsBack_71, rfl⟩ rfl ?_
      refine zt_get dX12_bringsBack_72 fl_X12_123 rfl rfl ?_
      refine zr_aload ⟨_, dX12_bringsBack_75, rfl⟩ rfl ?_
      refine zt_get dX12_bringsBack_76 fl_X12_13 rfl rfl ?_
      refine zr_iconst dX12_bringsBack_79 (by decide) ?_
      refine zr_isub dX12_bringsBack_80 ?_
      refine zr_ic_ne (tgt := 95) dX12_bringsBack_81 (by decide) (fun hc19 => ?_) (fun hc19 => ?_)
      · have hp20 := zif_t hp18 hc19
        refine zr_iconst dX12_bringsBack_95 (by decide) ?_
        exact hp20
      · have hp21 := zif_f hp18 hc19
        refine zr_aload ⟨_, dX12_bringsBack_84, rfl⟩ rfl ?_
        refine zt_get dX12_bringsBack_85 fl_X12_33 rfl rfl ?_
        refine zr_if_eq (tgt := 95) dX12_bringsBack_88 (by decide) (fun hc22 => ?_) (fun hc22 => ?_)
        · have hp23 := zif_t hp21 hc22
          refine zr_iconst dX12_bringsBack_95 (by decide) ?_
          exact hp23
        · have hp24 := zif_f hp21 hc22
          refine zr_iconst dX12_bringsBack_91 (by decide) ?_
          refine zr_goto (tgt := 96) dX12_bringsBack_92 (by decide) ?_
          exact hp24
set_option maxRecDepth 100000 in
set_option maxHeartbeats 4000000 in
theorem t_Rf_bringsBack_j25 {k0 : Int} {s : zSt} {res : Int × zSt} (h : f_Rf_bringsBack_j25 k0 s = some res) : zBT 2 m_X12_bringsBack TRf none res.2 25 [some (.inr (.inl (some 0)))] [.inl k0, .inr (.inl (some 0))] s := by
  unfold f_Rf_bringsBack_j25 at h
  refine zt_put dX12_bringsBack_25 fl_X12_113 rfl rfl ?_
  refine zr_aload ⟨_, dX12_bringsBack_28, rfl⟩ rfl ?_
  refine zr_aload ⟨_, dX12_bringsBack_29, rfl⟩ rfl ?_
  refine zt_get dX12_bringsBack_30 fl_X12_149 rfl rfl ?_
  refine zr_if_eq (tgt := 52) dX12_bringsBack_33 (by decide) (fun hc1 => ?_) (fun hc1 => ?_)
  · replace h := zpos h hc1
    refine zr_iconst dX12_bringsBack_52 (by decide) ?_
    exact t_Rf_bringsBack_j53 h
  · replace h := zneg h hc1
    refine zr_aload ⟨_, dX12_bringsBack_36, rfl⟩ rfl ?_
    refine zt_get dX12_bringsBack_37 fl_X12_155 rfl rfl ?_
    refine zr_aload ⟨_, dX12_bringsBack_40, rfl⟩ rfl ?_
    refine zt_get dX12_bringsBack_41 fl_X12_13 rfl rfl ?_
    refine zr_iconst dX12_bringsBack_44 (by decide) ?_
    refine zr_isub dX12_bringsBack_45 ?_
    obtain ⟨x2, hx2, h⟩ := zbind h
    refine zt_call0 (t_Rf_lesser hx2) (zrun_S (rest := [.inr (.inl (some 0))]) dX12_bringsBack_46 ml_X12_170 rfl (by decide) (by decide) rfl (Nat.le_of_ble_eq_true rfl)) rfl rfl (Nat.le_refl _) (Nat.le_refl _) ?_
    refine zr_goto (tgt := 53) dX12_bringsBack_49 (by decide) ?_
    exact t_Rf_bringsBack_j53 h
set_option maxRecDepth 100000 in
set_option maxHeartbeats 4000000 in
theorem t_Rf_bringsBack  {s : zSt} {res : Int × zSt} (h : f_Rf_bringsBack s = some res) : zSpecT 2 m_X12_bringsBack [.inr (.inl (some 0))] TRf s none res.2 := by
  refine zSpec_of (by decide +kernel) (Nat.le_of_ble_eq_true rfl) ?_
  show zBT 2 m_X12_bringsBack TRf none res.2 0 [some (.inr (.inl (some 0)))] [] s
  unfold f_Rf_bringsBack at h
  refine zr_aload ⟨_, dX12_bringsBack_0, rfl⟩ rfl ?_
  refine zr_aload ⟨_, dX12_bringsBack_1, rfl⟩ rfl ?_
  refine zt_get dX12_bringsBack_2 fl_X12_149 rfl rfl ?_
  refine zr_if_eq (tgt := 24) dX12_bringsBack_5 (by decide) (fun hc1 => ?_) (fun hc1 => ?_)
  · replace h := zpos h hc1
    refine zr_iconst dX12_bringsBack_24 (by decide) ?_
    exact t_Rf_bringsBack_j25 h
  · replace h := zneg h hc1
    refine zr_aload ⟨_, dX12_bringsBack_8, rfl⟩ rfl ?_
    refine zt_get dX12_bringsBack_9 fl_X12_152 rfl rfl ?_
    refine zr_aload ⟨_, dX12_bringsBack_12, rfl⟩ rfl ?_
    refine zt_get dX12_bringsBack_13 fl_X12_7 rfl rfl ?_
    refine zr_iconst dX12_bringsBack_16 (by decide) ?_
    refine zr_isub dX12_bringsBack_17 ?_
    obtain ⟨x2, hx2, h⟩ := zbind h
    refine zt_call0 (t_Rf_lesser hx2) (zrun_S (rest := [.inr (.inl (some 0))]) dX12_bringsBack_18 ml_X12_170 rfl (by decide) (by decide) rfl (Nat.le_of_ble_eq_true rfl)) rfl rfl (Nat.le_refl _) (Nat.le_refl _) ?_
    refine zr_goto (tgt := 25) dX12_bringsBack_21 (by decide) ?_
    exact t_Rf_bringsBack_j25 h
set_option maxRecDepth 100000 in
set_option maxHeartbeats 4000000 in
theorem t_Rf_resets  {s : zSt} {res : Int × zSt} (h : f_Rf_resets s = some res) : zSpecT 2 m_X12_resets [.inr (.inl (some 0))] TRf s none res.2 := by
  refine zSpec_of (by decide +kernel) (Nat.le_of_ble_eq_true rfl) ?_
  show zBT 2 m_X12_resets TRf none res.2 0 [some (.inr (.inl (some 0)))] [] s
  unfold f_Rf_resets at h
  refine zr_aload ⟨_, dX12_resets_0, rfl⟩ rfl ?_
  refine zr_iconst dX12_resets_1 (by decide) ?_
  refine zt_put dX12_resets_2 fl_X12_87 rfl rfl ?_
  refine zr_aload ⟨_, dX12_resets_5, rfl⟩ rfl ?_
  refine zr_iconst dX12_resets_6 (by decide) ?_
  obtain ⟨x1, hx1, h⟩ := zbind h
  refine zt_calliv (t_Rf_empties hx1) (zrun_V (rest := []) dX12_resets_7 ml_X12_173 rfl rfl (by decide) (by decide) rfl (Nat.le_of_ble_eq_true rfl)) rfl rfl (Nat.le_refl _) (Nat.le_refl _) ?_
  refine zr_aload ⟨_, dX12_resets_10, rfl⟩ rfl ?_
  refine zr_iconst dX12_resets_11 (by decide) ?_
  obtain ⟨x2, hx2, h⟩ := zbind h
  refine zt_calliv (t_Rf_empties hx2) (zrun_V (rest := []) dX12_resets_12 ml_X12_173 rfl rfl (by decide) (by decide) rfl (Nat.le_of_ble_eq_true rfl)) rfl rfl (Nat.le_refl _) (Nat.le_refl _) ?_
  refine zr_aload ⟨_, dX12_resets_15, rfl⟩ rfl ?_
  refine zr_iconst dX12_resets_16 (by decide) ?_
  refine zt_put dX12_resets_17 fl_X12_113 rfl rfl ?_
  refine zr_aload ⟨_, dX12_resets_20, rfl⟩ rfl ?_
  refine zr_iconst dX12_resets_21 (by decide) ?_
  refine zt_put dX12_resets_22 fl_X12_123 rfl rfl ?_
  refine zr_aload ⟨_, dX12_resets_25, rfl⟩ rfl ?_
  refine zr_iconst dX12_resets_26 (by decide) ?_
  refine zt_putz dX12_resets_27 fl_X12_126 rfl rfl (Or.inl rfl) ?_
  refine zr_aload ⟨_, dX12_resets_30, rfl⟩ rfl ?_
  refine zr_iconst dX12_resets_31 (by decide) ?_
  refine zt_putz dX12_resets_32 fl_X12_149 rfl rfl (Or.inl rfl) ?_
  refine zr_aload ⟨_, dX12_resets_35, rfl⟩ rfl ?_
  refine zr_iconst dX12_resets_36 (by decide) ?_
  refine zt_put dX12_resets_37 fl_X12_142 rfl rfl ?_
  refine zr_aload ⟨_, dX12_resets_40, rfl⟩ rfl ?_
  refine zr_iconst dX12_resets_41 (by decide) ?_
  refine zt_put dX12_resets_42 fl_X12_116 rfl rfl ?_
  refine zr_aload ⟨_, dX12_resets_45, rfl⟩ rfl ?_
  refine zr_aload ⟨_, dX12_resets_46, rfl⟩ rfl ?_
  refine zt_get dX12_resets_47 fl_X12_7 rfl rfl ?_
  refine zr_iconst dX12_resets_50 (by decide) ?_
  refine zr_isub dX12_resets_51 ?_
  refine zt_put dX12_resets_52 fl_X12_30 rfl rfl ?_
  refine zr_aload ⟨_, dX12_resets_55, rfl⟩ rfl ?_
  refine zr_iconst dX12_resets_56 (by decide) ?_
  refine zt_putz dX12_resets_57 fl_X12_176 rfl rfl (Or.inl rfl) ?_
  refine zr_aload ⟨_, dX12_resets_60, rfl⟩ rfl ?_
  refine zr_iconst dX12_resets_61 (by decide) ?_
  refine zt_putz dX12_resets_62 fl_X12_164 rfl rfl (Or.inl rfl) ?_
  refine zr_aload ⟨_, dX12_resets_65, rfl⟩ rfl ?_
  refine zr_iconst dX12_resets_66 (by decide) ?_
  refine zt_putz dX12_resets_67 fl_X12_33 rfl rfl (Or.inr rfl) ?_
  refine zr_aload ⟨_, dX12_resets_70, rfl⟩ rfl ?_
  refine zr_iconst dX12_resets_71 (by decide) ?_
  refine zt_putz dX12_resets_72 fl_X12_37 rfl rfl (Or.inr rfl) ?_
  refine zr_aload ⟨_, dX12_resets_75, rfl⟩ rfl ?_
  refine zr_iconst dX12_resets_76 (by decide) ?_
  refine zt_putz dX12_resets_77 fl_X12_179 rfl rfl (Or.inl rfl) ?_
  refine zr_aload ⟨_, dX12_resets_80, rfl⟩ rfl ?_
  refine zr_iconst dX12_resets_81 (by decide) ?_
  refine zt_putz dX12_resets_82 fl_X12_182 rfl rfl (Or.inl rfl) ?_
  refine zr_aload ⟨_, dX12_resets_85, rfl⟩ rfl ?_
  refine zr_iconst dX12_resets_86 (by decide) ?_
  refine zt_putz dX12_resets_87 fl_X12_136 rfl rfl (Or.inl rfl) ?_
  refine zr_aload ⟨_, dX12_resets_90, rfl⟩ rfl ?_
  refine zr_iconst dX12_resets_91 (by decide) ?_
  refine zt_put dX12_resets_92 fl_X12_146 rfl rfl ?_
  refine zr_aload ⟨_, dX12_resets_95, rfl⟩ rfl ?_
  refine zr_iconst dX12_resets_96 (by decide) ?_
  obtain ⟨x3, hx3, h⟩ := zbind h
  refine zt_calliv (t_Rf_laysTabs hx3) (zrun_V (rest := []) dX12_resets_97 ml_X12_76 rfl rfl (by decide) (by decide) rfl (Nat.le_of_ble_eq_true rfl)) rfl rfl (Nat.le_refl _) (Nat.le_refl _) ?_
  refine zr_aload ⟨_, dX12_resets_100, rfl⟩ rfl ?_
  refine zt_get dX12_resets_101 fl_X12_98 rfl rfl ?_
  refine zr_if_le (tgt := 119) dX12_resets_104 (by decide) (fun hc4 => ?_) (fun hc4 => ?_)
  · replace h := zpos h hc4
    obtain rfl := Option.some.inj h
    exact zt_vret dX12_resets_119 rfl
  · replace h := zneg h hc4
    refine zr_aload ⟨_, dX12_resets_107, rfl⟩ rfl ?_
    refine zt_getr dX12_resets_108 fl_X12_27 rfl rfl ?_
    refine zr_aload ⟨_, dX12_resets_111, rfl⟩ rfl ?_
    refine zt_get dX12_resets_112 fl_X12_98 rfl rfl ?_
    refine zr_iconst dX12_resets_115 (by decide) ?_
    refine zr_isub dX12_resets_116 ?_
    refine zr_iconst dX12_resets_117 (by decide) ?_
    obtain ⟨hb5, h⟩ := zchk h
    refine zt_bastore dX12_resets_118 rfl hb5 (Or.inl rfl) ?_
    obtain rfl := Option.some.inj h
    exact zt_vret dX12_resets_119 rfl
set_option maxRecDepth 100000 in
set_option maxHeartbeats 4000000 in
theorem t_Rf_titles_l16  {r : Option zAV} {s0 : zSt}  : ∀ (n : Nat) (x : Int × zSt) (out : zSt), zloop (f_Rf_titles_l16) n x = some out → (zBT 2 m_X12_titles TRf r s0 42 [some (.inr (.inl (some 0))), none, none] [] out) → zBT 2 m_X12_titles TRf r s0 16 [some (.inr (.inl (some 0))), none, some (.inl x.1)] [] x.2 := by
  refine zloop_B (B := fun (x : Int × zSt) (out : zSt) => zBT 2 m_X12_titles TRf r s0 42 [some (.inr (.inl (some 0))), none, none] [] out → zBT 2 m_X12_titles TRf r s0 16 [some (.inr (.inl (some 0))), none, some (.inl x.1)] [] x.2) ?_
  intro x o out h hk hx
  unfold f_Rf_titles_l16 at h
  refine zr_load ⟨_, dX12_titles_16, rfl⟩ rfl ?_
  refine zr_aload ⟨_, dX12_titles_17, rfl⟩ rfl ?_
  refine zt_get dX12_titles_18 fl_X12_207 rfl rfl ?_
  refine zr_ic_ge (tgt := 42) dX12_titles_21 (by decide) (fun hc1 => ?_) (fun hc1 => ?_)
  · replace h := zpos h hc1
    refine zr_mask [true, false, false] rfl ?_
    obtain rfl := Option.some.inj h
    obtain rfl := hk
    exact hx
  · replace h := zneg h hc1
    refine zr_aload ⟨_, dX12_titles_24, rfl⟩ rfl ?_
    refine zt_getr dX12_titles_25 fl_X12_46 rfl rfl ?_
    refine zr_load ⟨_, dX12_titles_28, rfl⟩ rfl ?_
    refine zr_aload ⟨_, dX12_titles_29, rfl⟩ rfl ?_
    refine zt_getr dX12_titles_30 fl_X12_43 rfl rfl ?_
    refine zr_load ⟨_, dX12_titles_33, rfl⟩ rfl ?_
    obtain ⟨hb2, h⟩ := zchk h
    refine zt_iaload dX12_titles_34 rfl hb2 ?_
    obtain ⟨hb3, h⟩ := zchk h
    refine zt_iastore dX12_titles_35 rfl hb3 ?_
    refine zr_iinc dX12_titles_36 rfl (by decide) rfl ?_
    refine zr_goto (tgt := 16) dX12_titles_39 (by decide) ?_
    obtain rfl := Option.some.inj h
    exact hk hx
set_option maxRecDepth 100000 in
set_option maxHeartbeats 4000000 in
theorem t_Rf_titles {a1 : Int} {s : zSt} {res : Int × zSt} (h : f_Rf_titles a1 s = some res) : zSpecT 2 m_X12_titles [.inr (.inl (some 0)), .inl a1] TRf s none res.2 := by
  refine zSpec_of (by decide +kernel) (Nat.le_of_ble_eq_true rfl) ?_
  show zBT 2 m_X12_titles TRf none res.2 0 [some (.inr (.inl (some 0))), some (.inl a1), none] [] s
  unfold f_Rf_titles at h
  refine zr_load ⟨_, dX12_titles_0, rfl⟩ rfl ?_
  refine zr_bipush dX12_titles_1 (by decide) (by decide) ?_
  refine zr_ic_ne (tgt := 50) dX12_titles_3 (by decide) (fun hc1 => ?_) (fun hc1 => ?_)
  · replace h := zpos h hc1
    refine zr_load ⟨_, dX12_titles_50, rfl⟩ rfl ?_
    refine zr_bipush dX12_titles_51 (by decide) (by decide) ?_
    refine zr_ic_ne (tgt := 64) dX12_titles_53 (by decide) (fun hc2 => ?_) (fun hc2 => ?_)
    · replace h := zpos h hc2
      refine zr_load ⟨_, dX12_titles_64, rfl⟩ rfl ?_
      refine zr_bipush dX12_titles_65 (by decide) (by decide) ?_
      refine zr_ic_ne (tgt := 78) dX12_titles_67 (by decide) (fun hc3 => ?_) (fun hc3 => ?_)
      · replace h := zpos h hc3
        refine zr_load ⟨_, dX12_titles_78, rfl⟩ rfl ?_
        refine zr_bipush dX12_titles_79 (by decide) (by decide) ?_
        refine zr_bipush dX12_titles_81 (by decide) (by decide) ?_
        obtain ⟨x4, hx4, h⟩ := zbind h
        refine zt_call0 (t_Rf_in hx4) (zrun_S (rest := []) dX12_titles_83 ml_X12_83 rfl (by decide) (by decide) rfl (Nat.le_of_ble_eq_true rfl)) rfl rfl (Nat.le_refl _) (Nat.le_refl _) ?_
        refine zr_if_eq (tgt := 118) dX12_titles_86 (by decide) (fun hc5 => ?_) (fun hc5 => ?_)
        · replace h := zpos h hc5
          obtain rfl := Option.some.inj h
          exact zt_vret dX12_titles_118 rfl
        · replace h := zneg h hc5
          refine zr_aload ⟨_, dX12_titles_89, rfl⟩ rfl ?_
          refine zt_get dX12_titles_90 fl_X12_207 rfl rfl ?_
          refine zr_bipush dX12_titles_93 (by decide) (by decide) ?_
          refine zr_ic_ge (tgt := 118) dX12_titles_95 (by decide) (fun hc6 => ?_) (fun hc6 => ?_)
          · replace h := zpos h hc6
            obtain rfl := Option.some.inj h
            exact zt_vret dX12_titles_118 rfl
          · replace h := zneg h hc6
            refine zr_aload ⟨_, dX12_titles_98, rfl⟩ rfl ?_
            refine zt_getr dX12_titles_99 fl_X12_43 rfl rfl ?_
            refine zr_aload ⟨_, dX12_titles_102, rfl⟩ rfl ?_
            refine zt_get dX12_titles_103 fl_X12_207 rfl rfl ?_
            refine zr_load ⟨_, dX12_titles_106, rfl⟩ rfl ?_
            obtain ⟨hb7, h⟩ := zchk h
            refine zt_iastore dX12_titles_107 rfl hb7 ?_
            refine zr_aload ⟨_, dX12_titles_108, rfl⟩ rfl ?_
            refine zr_dup dX12_titles_109 (Or.inl True.intro) ?_
            refine zt_get dX12_titles_110 fl_X12_207 rfl rfl ?_
            refine zr_iconst dX12_titles_113 (by decide) ?_
            refine zr_iadd dX12_titles_114 ?_
            refine zt_put dX12_titles_115 fl_X12_207 rfl rfl ?_
            obtain rfl := Option.some.inj h
            exact zt_vret dX12_titles_118 rfl
      · replace h := zneg h hc3
        refine zr_aload ⟨_, dX12_titles_70, rfl⟩ rfl ?_
        refine zr_iconst dX12_titles_71 (by decide) ?_
        refine zt_put dX12_titles_72 fl_X12_192 rfl rfl ?_
        refine zr_goto (tgt := 118) dX12_titles_75 (by decide) ?_
        obtain rfl := Option.some.inj h
        exact zt_vret dX12_titles_118 rfl
    · replace h := zneg h hc2
      refine zr_aload ⟨_, dX12_titles_56, rfl⟩ rfl ?_
      refine zr_iconst dX12_titles_57 (by decide) ?_
      refine zt_put dX12_titles_58 fl_X12_192 rfl rfl ?_
      refine zr_goto (tgt := 118) dX12_titles_61 (by decide) ?_
      obtain rfl := Option.some.inj h
      exact zt_vret dX12_titles_118 rfl
  · replace h := zneg h hc1
    refine zr_aload ⟨_, dX12_titles_6, rfl⟩ rfl ?_
    refine zr_aload ⟨_, dX12_titles_7, rfl⟩ rfl ?_
    refine zt_get dX12_titles_8 fl_X12_207 rfl rfl ?_
    refine zt_put dX12_titles_11 fl_X12_229 rfl rfl ?_
    refine zr_iconst dX12_titles_14 (by decide) ?_
    refine zr_store ⟨_, dX12_titles_15, rfl⟩ (by decide) rfl ?_
    refine zr_mask [true, false, true] rfl ?_
    obtain ⟨y8, hy8, h⟩ := zbind h
    refine t_Rf_titles_l16 _ _ _ hy8 ?_
    refine zr_aload ⟨_, dX12_titles_42, rfl⟩ rfl ?_
    refine zr_iconst dX12_titles_43 (by decide) ?_
    refine zt_put dX12_titles_44 fl_X12_192 rfl rfl ?_
    refine zr_goto (tgt := 118) dX12_titles_47 (by decide) ?_
    obtain rfl := Option.some.inj h
    exact zt_vret dX12_titles_118 rfl
set_option maxRecDepth 100000 in
set_option maxHeartbeats 4000000 in
theorem t_Rf_setsRegion_j23 {v1 k0 : Int} {s : zSt} {res : Int × zSt} (h : f_Rf_setsRegion_j23 v1 k0 s = some res) : zBT 2 m_X12_setsRegion TRf none res.2 23 [some (.inr (.inl (some 0))), some (.inl v1), none] [.inl k0] s := by
  unfold f_Rf_setsRegion_j23 at h
  refine zr_store ⟨_, dX12_setsRegion_23, rfl⟩ (by decide) rfl ?_
  refine zr_load ⟨_, dX12_setsRegion_24, rfl⟩ rfl ?_
  refine zr_load ⟨_, dX12_setsRegion_25, rfl⟩ rfl ?_
  refine zr_ic_ge (tgt := 75) dX12_setsRegion_26 (by decide) (fun hc1 => ?_) (fun hc1 => ?_)
  · replace h := zpos h hc1
    refine zr_aload ⟨_, dX12_setsRegion_75, rfl⟩ rfl ?_
    refine zr_iconst dX12_setsRegion_76 (by decide) ?_
    refine zt_putz dX12_setsRegion_77 fl_X12_126 rfl rfl (Or.inl rfl) ?_
    obtain rfl := Option.some.inj h
    exact zt_vret dX12_setsRegion_80 rfl
  · replace h := zneg h hc1
    refine zr_load ⟨_, dX12_setsRegion_29, rfl⟩ rfl ?_
    refine zr_aload ⟨_, dX12_setsRegion_30, rfl⟩ rfl ?_
    refine zt_get dX12_setsRegion_31 fl_X12_7 rfl rfl ?_
    refine zr_ic_gt (tgt := 75) dX12_setsRegion_34 (by decide) (fun hc2 => ?_) (fun hc2 => ?_)
    · replace h := zpos h hc2
      refine zr_aload ⟨_, dX12_setsRegion_75, rfl⟩ rfl ?_
      refine zr_iconst dX12_setsRegion_76 (by decide) ?_
      refine zt_putz dX12_setsRegion_77 fl_X12_126 rfl rfl (Or.inl rfl) ?_
      obtain rfl := Option.some.inj h
      exact zt_vret dX12_setsRegion_80 rfl
    · replace h := zneg h hc2
      refine zr_aload ⟨_, dX12_setsRegion_37, rfl⟩ rfl ?_
      refine zr_load ⟨_, dX12_setsRegion_38, rfl⟩ rfl ?_
      refine zr_iconst dX12_setsRegion_39 (by decide) ?_
      refine zr_isub dX12_setsRegion_40 ?_
      refine zt_put dX12_setsRegion_41 fl_X12_116 rfl rfl ?_
      refine zr_aload ⟨_, dX12_setsRegion_44, rfl⟩ rfl ?_
      refine zr_load ⟨_, dX12_setsRegion_45, rfl⟩ rfl ?_
      refine zr_iconst dX12_setsRegion_46 (by decide) ?_
      refine zr_isub dX12_setsRegion_47 ?_
      refine zt_put dX12_setsRegion_48 fl_X12_30 rfl rfl ?_
      refine zr_aload ⟨_, dX12_setsRegion_51, rfl⟩ rfl ?_
      refine zr_aload ⟨_, dX12_setsRegion_52, rfl⟩ rfl ?_
      refine zt_get dX12_setsRegion_53 fl_X12_164 rfl rfl ?_
      have hj3 : zBT 2 m_X12_setsRegion TRf none res.2 67 [some (.inr (.inl (some 0))), some (.inl v1), some (.inl k0)] [.inl (if (s.1 0 17) = 0 then 0 else (w32 (v1 - 1))), .inr (.inl (some 0))] (uS (uS s 0 13 (w32 (v1 - 1))) 0 14 (w32 (k0 - 1))) := by
        refine zt_put dX12_setsRegion_67 fl_X12_113 rfl rfl ?_
        refine zr_aload ⟨_, dX12_setsRegion_70, rfl⟩ rfl ?_
        refine zr_iconst dX12_setsRegion_71 (by decide) ?_
        refine zt_put dX12_setsRegion_72 fl_X12_123 rfl rfl ?_
        refine zr_aload ⟨_, dX12_setsRegion_75, rfl⟩ rfl ?_
        refine zr_iconst dX12_setsRegion_76 (by decide) ?_
        refine zt_putz dX12_setsRegion_77 fl_X12_126 rfl rfl (Or.inl rfl) ?_
        obtain rfl := Option.some.inj h
        exact zt_vret dX12_setsRegion_80 rfl
      refine zr_if_eq (tgt := 66) dX12_setsRegion_56 (by decide) (fun hc4 => ?_) (fun hc4 => ?_)
      · have hp5 := zif_t hj3 hc4
        refine zr_iconst dX12_setsRegion_66 (by decide) ?_
        exact hp5
      · have hp6 := zif_f hj3 hc4
        refine zr_aload ⟨_, dX12_setsRegion_59, rfl⟩ rfl ?_
        refine zt_get dX12_setsRegion_60 fl_X12_116 rfl rfl ?_
        refine zr_goto (tgt := 67) dX12_setsRegion_63 (by decide) ?_
        exact hp6
set_option maxRecDepth 100000 in
set_option maxHeartbeats 4000000 in
theorem t_Rf_setsRegion  {s : zSt} {res : Int × zSt} (h : f_Rf_setsRegion s = some res) : zSpecT 2 m_X12_setsRegion [.inr (.inl (some 0))] TRf s none res.2 := by
  refine zSpec_of (by decide +kernel) (Nat.le_of_ble_eq_true rfl) ?_
  show zBT 2 m_X12_setsRegion TRf none res.2 0 [some (.inr (.inl (some 0))), none, none] [] s
  unfold f_Rf_setsRegion at h
  refine zr_aload ⟨_, dX12_setsRegion_0, rfl⟩ rfl ?_
  obtain ⟨x1, hx1, h⟩ := zbind h
  refine zt_callisi (t_Rf_first hx1) (zrun_V (rest := []) dX12_setsRegion_1 ml_X12_256 rfl rfl (by decide) (by decide) rfl (Nat.le_of_ble_eq_true rfl)) rfl rfl (Nat.le_refl _) (Nat.le_refl _) ?_
  refine zr_store ⟨_, dX12_setsRegion_4, rfl⟩ (by decide) rfl ?_
  refine zr_aload ⟨_, dX12_setsRegion_5, rfl⟩ rfl ?_
  obtain ⟨x2, hx2, h⟩ := zbind h
  refine zt_callisi (t_Rf_second hx2) (zrun_V (rest := []) dX12_setsRegion_6 ml_X12_259 rfl rfl (by decide) (by decide) rfl (Nat.le_of_ble_eq_true rfl)) rfl rfl (Nat.le_refl _) (Nat.le_refl _) ?_
  refine zr_if_ne (tgt := 19) dX12_setsRegion_9 (by decide) (fun hc3 => ?_) (fun hc3 => ?_)
  · replace h := zpos h hc3
    refine zr_aload ⟨_, dX12_setsRegion_19, rfl⟩ rfl ?_
    obtain ⟨x4, hx4, h⟩ := zbind h
    refine zt_callisi (t_Rf_second hx4) (zrun_V (rest := []) dX12_setsRegion_20 ml_X12_259 rfl rfl (by decide) (by decide) rfl (Nat.le_of_ble_eq_true rfl)) rfl rfl (Nat.le_refl _) (Nat.le_refl _) ?_
    exact t_Rf_setsRegion_j23 h
  · replace h := zneg h hc3
    refine zr_aload ⟨_, dX12_setsRegion_12, rfl⟩ rfl ?_
    refine zt_get dX12_setsRegion_13 fl_X12_7 rfl rfl ?_
    refine zr_goto (tgt := 23) dX12_setsRegion_16 (by decide) ?_
    exact t_Rf_setsRegion_j23 h
set_option maxRecDepth 100000 in
set_option maxHeartbeats 4000000 in
theorem t_Rf_colours_l2  {r : Option zAV} {s0 : zSt}  : ∀ (n : Nat) (x : Int × zSt) (out : zSt), zloop (f_Rf_colours_l2) n x = some out → (zBT 2 m_X12_colours TRf r s0 88 [none, none, none] [] out) → zBT 2 m_X12_colours TRf r s0 2 [some (.inr (.inl (some 0))), some (.inl x.1), none] [] x.2 := by
  refine zloop_B (B := fun (x : Int × zSt) (out : zSt) => zBT 2 m_X12_colours TRf r s0 88 [none, none, none] [] out → zBT 2 m_X12_colours TRf r s0 2 [some (.inr (.inl (some 0))), some (.inl x.1), none] [] x.2) ?_
  intro x o out h hk hx
  unfold f_Rf_colours_l2 at h
  refine zr_load ⟨_, dX12_colours_2, rfl⟩ rfl ?_
  refine zr_aload ⟨_, dX12_colours_3, rfl⟩ rfl ?_
  refine zt_get dX12_colours_4 fl_X12_195 rfl rfl ?_
  refine zr_ic_ge (tgt := 88) dX12_colours_7 (by decide) (fun hc1 => ?_) (fun hc1 => ?_)
  · replace h := zpos h hc1
    refine zr_mask [false, false, false] rfl ?_
    obtain rfl := Option.some.inj h
    obtain rfl := hk
    exact hx
  · replace h := zneg h hc1
    refine zr_aload ⟨_, dX12_colours_10, rfl⟩ rfl ?_
    refine zt_getr dX12_colours_11 fl_X12_40 rfl rfl ?_
    refine zr_load ⟨_, dX12_colours_14, rfl⟩ rfl ?_
    obtain ⟨hb2, h⟩ := zchk h
    refine zt_iaload dX12_colours_15 rfl hb2 ?_
    refine zr_store ⟨_, dX12_colours_16, rfl⟩ (by decide) rfl ?_
    refine zr_aload ⟨_, dX12_colours_17, rfl⟩ rfl ?_
    refine zr_load ⟨_, dX12_colours_18, rfl⟩ rfl ?_
    refine zr_if_ne (tgt := 26) dX12_colours_19 (by decide) (fun hc3 => ?_) (fun hc3 => ?_)
    · replace h := zpos h hc3
      refine zr_load ⟨_, dX12_colours_26, rfl⟩ rfl ?_
      refine zr_iconst dX12_colours_27 (by decide) ?_
      refine zr_iconst dX12_colours_28 (by decide) ?_
      obtain ⟨x4, hx4, h⟩ := zbind h
      refine zt_call0 (t_Rf_in hx4) (zrun_S (rest := [.inr (.inl (some 0))]) dX12_colours_29 ml_X12_83 rfl (by decide) (by decide) rfl (Nat.le_of_ble_eq_true rfl)) rfl rfl (Nat.le_refl _) (Nat.le_refl _) ?_
      refine zr_if_eq (tgt := 48) dX12_colours_32 (by decide) (fun hc5 => ?_) (fun hc5 => ?_)
      · replace h := zpos h hc5
        refine zr_load ⟨_, dX12_colours_48, rfl⟩ rfl ?_
        refine zr_bipush dX12_colours_49 (by decide) (by decide) ?_
        refine zr_bipush dX12_colours_51 (by decide) (by decide) ?_
        obtain ⟨x6, hx6, h⟩ := zbind h
        refine zt_call0 (t_Rf_in hx6) (zrun_S (rest := [.inr (.inl (some 0))]) dX12_colours_53 ml_X12_83 rfl (by decide) (by decide) rfl (Nat.le_of_ble_eq_true rfl)) rfl rfl (Nat.le_refl _) (Nat.le_refl _) ?_
        have hj7 : zBT 2 m_X12_colours TRf r s0 79 [some (.inr (.inl (some 0))), some (.inl x.1), some (.inl ((x.2.2 5) x.1))] [.inl (if x6 = 0 then (x.2.1 0 12) else (wAnd (x.2.1 0 12) (wXor (wShl 1 (w32 (((x.2.2 5) x.1) - 21))) (-1)))), .inr (.inl (some 0))] x.2 := by
          refine zt_put dX12_colours_79 fl_X12_142 rfl rfl ?_
          refine zr_iinc dX12_colours_82 rfl (by decide) rfl ?_
          refine zr_goto (tgt := 2) dX12_colours_85 (by decide) ?_
          refine zr_mask [true, true, false] rfl ?_
          obtain rfl := Option.some.inj h
          exact hk hx
        refine zr_if_eq (tgt := 75) dX12_colours_56 (by decide) (fun hc8 => ?_) (fun hc8 => ?_)
        · have hp9 := zif_t hj7 hc8
          refine zr_aload ⟨_, dX12_colours_75, rfl⟩ rfl ?_
          refine zt_get dX12_colours_76 fl_X12_142 rfl rfl ?_
          exact hp9
        · have hp10 := zif_f hj7 hc8
          refine zr_aload ⟨_, dX12_colours_59, rfl⟩ rfl ?_
          refine zt_get dX12_colours_60 fl_X12_142 rfl rfl ?_
          refine zr_iconst dX12_colours_63 (by decide) ?_
          refine zr_load ⟨_, dX12_colours_64, rfl⟩ rfl ?_
          refine zr_bipush dX12_colours_65 (by decide) (by decide) ?_
          refine zr_isub dX12_colours_67 ?_
          refine zr_ishl dX12_colours_68 ?_
          refine zr_iconst dX12_colours_69 (by decide) ?_
          refine zr_ixor dX12_colours_70 ?_
          refine zr_iand dX12_colours_71 ?_
          refine zr_goto (tgt := 79) dX12_colours_72 (by decide) ?_
          exact hp10
      · replace h := zneg h hc5
        refine zr_aload ⟨_, dX12_colours_35, rfl⟩ rfl ?_
        refine zt_get dX12_colours_36 fl_X12_142 rfl rfl ?_
        refine zr_iconst dX12_colours_39 (by decide) ?_
        refine zr_load ⟨_, dX12_colours_40, rfl⟩ rfl ?_
        refine zr_iconst dX12_colours_41 (by decide) ?_
        refine zr_isub dX12_colours_42 ?_
        refine zr_ishl dX12_colours_43 ?_
        refine zr_ior dX12_colours_44 ?_
        refine zr_goto (tgt := 79) dX12_colours_45 (by decide) ?_
        refine zt_put dX12_colours_79 fl_X12_142 rfl rfl ?_
        refine zr_iinc dX12_colours_82 rfl (by decide) rfl ?_
        refine zr_goto (tgt := 2) dX12_colours_85 (by decide) ?_
        refine zr_mask [true, true, false] rfl ?_
        obtain rfl := Option.some.inj h
        exact hk hx
    · replace h := zneg h hc3
      refine zr_iconst dX12_colours_22 (by decide) ?_
      refine zr_goto (tgt := 79) dX12_colours_23 (by decide) ?_
      refine zt_put dX12_colours_79 fl_X12_142 rfl rfl ?_
      refine zr_iinc dX12_colours_82 rfl (by decide) rfl ?_
      refine zr_goto (tgt := 2) dX12_colours_85 (by decide) ?_
      refine zr_mask [true, true, false] rfl ?_
      obtain rfl := Option.some.inj h
      exact hk hx
set_option maxRecDepth 100000 in
set_option maxHeartbeats 4000000 in
theorem t_Rf_colours  {s : zSt} {res : Int × zSt} (h : f_Rf_colours s = some res) : zSpecT 2 m_X12_colours [.inr (.inl (some 0))] TRf s none res.2 := by
  refine zSpec_of (by decide +kernel) (Nat.le_of_ble_eq_true rfl) ?_
  show zBT 2 m_X12_colours TRf none res.2 0 [some (.inr (.inl (some 0))), none, none] [] s
  unfold f_Rf_colours at h
  refine zr_iconst dX12_colours_0 (by decide) ?_
  refine zr_store ⟨_, dX12_colours_1, rfl⟩ (by decide) rfl ?_
  obtain ⟨y1, hy1, h⟩ := zbind h
  refine t_Rf_colours_l2 _ _ _ hy1 ?_
  obtain rfl := Option.some.inj h
  exact zt_vret dX12_colours_88 rfl
set_option maxRecDepth 100000 in
set_option maxHeartbeats 4000000 in
theorem t_Rf_sendsNumber {a1 : Int} {s : zSt} {res : Int × zSt} (h : f_Rf_sendsNumber a1 s = some res) : zSpecT 2 m_X12_sendsNumber [.inr (.inl (some 0)), .inl a1] TRf s none res.2 := by
  refine zSpec_of (by decide +kernel) (Nat.le_of_ble_eq_true rfl) ?_
  show zBT 2 m_X12_sendsNumber TRf none res.2 0 [some (.inr (.inl (some 0))), some (.inl a1)] [] s
  unfold f_Rf_sendsNumber at h
  refine zr_load ⟨_, dX12_sendsNumber_0, rfl⟩ rfl ?_
  refine zr_bipush dX12_sendsNumber_1 (by decide) (by decide) ?_
  refine zr_ic_le (tgt := 17) dX12_sendsNumber_3 (by decide) (fun hc1 => ?_) (fun hc1 => ?_)
  · replace h := zpos h hc1
    refine zr_aload ⟨_, dX12_sendsNumber_17, rfl⟩ rfl ?_
    refine zr_bipush dX12_sendsNumber_18 (by decide) (by decide) ?_
    refine zr_load ⟨_, dX12_sendsNumber_20, rfl⟩ rfl ?_
    refine zr_bipush dX12_sendsNumber_21 (by decide) (by decide) ?_
    refine zr_irem dX12_sendsNumber_23 (by decide) ?_
    refine zr_iadd dX12_sendsNumber_24 ?_
    obtain ⟨x2, hx2, h⟩ := zbind h
    refine zt_calliv (t_Rf_sends hx2) (zrun_V (rest := []) dX12_sendsNumber_25 ml_X12_265 rfl rfl (by decide) (by decide) rfl (Nat.le_of_ble_eq_true rfl)) rfl rfl (Nat.le_refl _) (Nat.le_refl _) ?_
    obtain rfl := Option.some.inj h
    exact zt_vret dX12_sendsNumber_28 rfl
  · replace h := zneg h hc1
    refine zr_aload ⟨_, dX12_sendsNumber_6, rfl⟩ rfl ?_
    refine zr_bipush dX12_sendsNumber_7 (by decide) (by decide) ?_
    refine zr_load ⟨_, dX12_sendsNumber_9, rfl⟩ rfl ?_
    refine zr_bipush dX12_sendsNumber_10 (by decide) (by decide) ?_
    refine zr_idiv dX12_sendsNumber_12 (by decide) ?_
    refine zr_iadd dX12_sendsNumber_13 ?_
    obtain ⟨x3, hx3, h⟩ := zbind h
    refine zt_calliv (t_Rf_sends hx3) (zrun_V (rest := []) dX12_sendsNumber_14 ml_X12_265 rfl rfl (by decide) (by decide) rfl (Nat.le_of_ble_eq_true rfl)) rfl rfl (Nat.le_refl _) (Nat.le_refl _) ?_
    refine zr_aload ⟨_, dX12_sendsNumber_17, rfl⟩ rfl ?_
    refine zr_bipush dX12_sendsNumber_18 (by decide) (by decide) ?_
    refine zr_load ⟨_, dX12_sendsNumber_20, rfl⟩ rfl ?_
    refine zr_bipush dX12_sendsNumber_21 (by decide) (by decide) ?_
    refine zr_irem dX12_sendsNumber_23 (by decide) ?_
    refine zr_iadd dX12_sendsNumber_24 ?_
    obtain ⟨x4, hx4, h⟩ := zbind h
    refine zt_calliv (t_Rf_sends hx4) (zrun_V (rest := []) dX12_sendsNumber_25 ml_X12_265 rfl rfl (by decide) (by decide) rfl (Nat.le_of_ble_eq_true rfl)) rfl rfl (Nat.le_refl _) (Nat.le_refl _) ?_
    obtain rfl := Option.some.inj h
    exact zt_vret dX12_sendsNumber_28 rfl
set_option maxRecDepth 100000 in
set_option maxHeartbeats 4000000 in
theorem t_Rf_givesLine_l2  {r : Option zAV} {s0 : zSt}  : ∀ (n : Nat) (x : Int × zSt) (out : zSt), zloop (f_Rf_givesLine_l2) n x = some out → (zBT 2 m_X12_givesLine TRf r s0 26 [some (.inr (.inl (some 0))), none] [] out) → zBT 2 m_X12_givesLine TRf r s0 2 [some (.inr (.inl (some 0))), some (.inl x.1)] [] x.2 := by
  refine zloop_B (B := fun (x : Int × zSt) (out : zSt) => zBT 2 m_X12_givesLine TRf r s0 26 [some (.inr (.inl (some 0))), none] [] out → zBT 2 m_X12_givesLine TRf r s0 2 [some (.inr (.inl (some 0))), some (.inl x.1)] [] x.2) ?_
  intro x o out h hk hx
  unfold f_Rf_givesLine_l2 at h
  refine zr_load ⟨_, dX12_givesLine_2, rfl⟩ rfl ?_
  refine zr_aload ⟨_, dX12_givesLine_3, rfl⟩ rfl ?_
  refine zt_get dX12_givesLine_4 fl_X12_312 rfl rfl ?_
  refine zr_ic_ge (tgt := 26) dX12_givesLine_7 (by decide) (fun hc1 => ?_) (fun hc1 => ?_)
  · replace h := zpos h hc1
    refine zr_mask [true, false] rfl ?_
    obtain rfl := Option.some.inj h
    obtain rfl := hk
    exact hx
  · replace h := zneg h hc1
    refine zr_aload ⟨_, dX12_givesLine_10, rfl⟩ rfl ?_
    refine zr_aload ⟨_, dX12_givesLine_11, rfl⟩ rfl ?_
    refine zt_getr dX12_givesLine_12 fl_X12_55 rfl rfl ?_
    refine zr_load ⟨_, dX12_givesLine_15, rfl⟩ rfl ?_
    obtain ⟨hb2, h⟩ := zchk h
    refine zt_iaload dX12_givesLine_16 rfl hb2 ?_
    obtain ⟨x3, hx3, h⟩ := zbind h
    refine zt_calliv (t_Rf_sends hx3) (zrun_V (rest := []) dX12_givesLine_17 ml_X12_265 rfl rfl (by decide) (by decide) rfl (Nat.le_of_ble_eq_true rfl)) rfl rfl (Nat.le_refl _) (Nat.le_refl _) ?_
    refine zr_iinc dX12_givesLine_20 rfl (by decide) rfl ?_
    refine zr_goto (tgt := 2) dX12_givesLine_23 (by decide) ?_
    obtain rfl := Option.some.inj h
    exact hk hx
set_option maxRecDepth 100000 in
set_option maxHeartbeats 4000000 in
theorem t_Rf_givesLine  {s : zSt} {res : Int × zSt} (h : f_Rf_givesLine s = some res) : zSpecT 2 m_X12_givesLine [.inr (.inl (some 0))] TRf s none res.2 := by
  refine zSpec_of (by decide +kernel) (Nat.le_of_ble_eq_true rfl) ?_
  show zBT 2 m_X12_givesLine TRf none res.2 0 [some (.inr (.inl (some 0))), none] [] s
  unfold f_Rf_givesLine at h
  refine zr_iconst dX12_givesLine_0 (by decide) ?_
  refine zr_store ⟨_, dX12_givesLine_1, rfl⟩ (by decide) rfl ?_
  obtain ⟨y1, hy1, h⟩ := zbind h
  refine t_Rf_givesLine_l2 _ _ _ hy1 ?_
  refine zr_aload ⟨_, dX12_givesLine_26, rfl⟩ rfl ?_
  refine zr_iconst dX12_givesLine_27 (by decide) ?_
  refine zt_put dX12_givesLine_28 fl_X12_312 rfl rfl ?_
  obtain rfl := Option.some.inj h
  exact zt_vret dX12_givesLine_31 rfl
set_option maxRecDepth 100000 in
set_option maxHeartbeats 4000000 in
theorem t_Rf_draft {a1 : Int} {s : zSt} {res : Int × zSt} (h : f_Rf_draft a1 s = some res) : zSpecT 2 m_X12_draft [.inr (.inl (some 0)), .inl a1] TRf s (some (.inl res.1)) res.2 := by
  refine zSpec_of (by decide +kernel) (Nat.le_of_ble_eq_true rfl) ?_
  show zBT 2 m_X12_draft TRf (some (.inl res.1)) res.2 0 [some (.inr (.inl (some 0))), some (.inl a1)] [] s
  unfold f_Rf_draft at h
  refine zr_aload ⟨_, dX12_draft_0, rfl⟩ rfl ?_
  refine zr_load ⟨_, dX12_draft_1, rfl⟩ rfl ?_
  refine zr_iconst dX12_draft_2 (by decide) ?_
  refine zr_bipush dX12_draft_3 (by decide) (by decide) ?_
  obtain ⟨x1, hx1, h⟩ := zbind h
  refine zt_call0 (t_Rf_in hx1) (zrun_S (rest := [.inr (.inl (some 0))]) dX12_draft_5 ml_X12_83 rfl (by decide) (by decide) rfl (Nat.le_of_ble_eq_true rfl)) rfl rfl (Nat.le_refl _) (Nat.le_refl _) ?_
  have hj2 : zBT 2 m_X12_draft TRf (some (.inl res.1)) res.2 29 [some (.inr (.inl (some 0))), some (.inl a1)] [.inl (if ¬ x1 = 0 then (if ¬ (s.1 0 52) = 40 then 0 else 2) else 1), .inr (.inl (some 0))] s := by
    refine zt_put dX12_draft_29 fl_X12_80 rfl rfl ?_
    refine zr_aload ⟨_, dX12_draft_32, rfl⟩ rfl ?_
    refine zt_get dX12_draft_33 fl_X12_80 rfl rfl ?_
    refine zr_if_le (tgt := 41) dX12_draft_36 (by decide) (fun hc4 => ?_) (fun hc4 => ?_)
    · replace h := zpos h hc4
      refine zr_aload ⟨_, dX12_draft_41, rfl⟩ rfl ?_
      refine zt_getr dX12_draft_42 fl_X12_61 rfl rfl ?_
      refine zr_aload ⟨_, dX12_draft_45, rfl⟩ rfl ?_
      refine zt_get dX12_draft_46 fl_X12_351 rfl rfl ?_
      refine zr_load ⟨_, dX12_draft_49, rfl⟩ rfl ?_
      obtain ⟨hb5, h⟩ := zchk h
      refine zt_iastore dX12_draft_50 rfl hb5 ?_
      refine zr_aload ⟨_, dX12_draft_51, rfl⟩ rfl ?_
      refine zr_dup dX12_draft_52 (Or.inl True.intro) ?_
      refine zt_get dX12_draft_53 fl_X12_351 rfl rfl ?_
      refine zr_iconst dX12_draft_56 (by decide) ?_
      refine zr_iadd dX12_draft_57 ?_
      refine zt_put dX12_draft_58 fl_X12_351 rfl rfl ?_
      refine zr_aload ⟨_, dX12_draft_61, rfl⟩ rfl ?_
      refine zt_get dX12_draft_62 fl_X12_351 rfl rfl ?_
      obtain rfl := Option.some.inj h
      exact zt_iret dX12_draft_65 rfl
    · replace h := zneg h hc4
      refine zr_iconst dX12_draft_39 (by decide) ?_
      obtain rfl := Option.some.inj h
      exact zt_iret dX12_draft_40 rfl
  refine zr_if_ne (tgt := 15) dX12_draft_8 (by decide) (fun hc3 => ?_) (fun hc3 => ?_)
  · have hp6 := zif_t hj2 hc3
    refine zr_aload ⟨_, dX12_draft_15, rfl⟩ rfl ?_
    refine zt_get dX12_draft_16 fl_X12_351 rfl rfl ?_
    refine zr_bipush dX12_draft_19 (by decide) (by decide) ?_
    refine zr_ic_ne (tgt := 28) dX12_draft_21 (by decide) (fun hc8 => ?_) (fun hc8 => ?_)
    · have hp9 := zif_t hp6 hc8
      refine zr_iconst dX12_draft_28 (by decide) ?_
      exact hp9
    · have hp10 := zif_f hp6 hc8
      refine zr_iconst dX12_draft_24 (by decide) ?_
      refine zr_goto (tgt := 29) dX12_draft_25 (by decide) ?_
      exact hp10
  · have hp7 := zif_f hj2 hc3
    refine zr_iconst dX12_draft_11 (by decide) ?_
    refine zr_goto (tgt := 29) dX12_draft_12 (by decide) ?_
    exact hp7
set_option maxRecDepth 100000 in
set_option maxHeartbeats 4000000 in
theorem t_Rf_fullOf_l5 {c1 : Int} {r : Option zAV} {s0 : zSt} {s : zSt} : ∀ (n : Nat) (x : Int) (out : Int), zloop (f_Rf_fullOf_l5 c1 s) n x = some out → (zBT 2 m_X12_fullOf TRf r s0 26 [none, none, some (.inl out)] [] s) → zBT 2 m_X12_fullOf TRf r s0 5 [some (.inr (.inl (some 0))), some (.inl c1), some (.inl x)] [] s := by
  refine zloop_B (B := fun (x : Int) (out : Int) => zBT 2 m_X12_fullOf TRf r s0 26 [none, none, some (.inl out)] [] s → zBT 2 m_X12_fullOf TRf r s0 5 [some (.inr (.inl (some 0))), some (.inl c1), some (.inl x)] [] s) ?_
  intro x o out h hk hx
  unfold f_Rf_fullOf_l5 at h
  refine zr_load ⟨_, dX12_fullOf_5, rfl⟩ rfl ?_
  refine zr_if_le (tgt := 26) dX12_fullOf_6 (by decide) (fun hc1 => ?_) (fun hc1 => ?_)
  · replace h := zpos h hc1
    refine zr_mask [false, false, true] rfl ?_
    obtain rfl := Option.some.inj h
    obtain rfl := hk
    exact hx
  · replace h := zneg h hc1
    refine zr_aload ⟨_, dX12_fullOf_9, rfl⟩ rfl ?_
    refine zr_load ⟨_, dX12_fullOf_10, rfl⟩ rfl ?_
    refine zr_load ⟨_, dX12_fullOf_11, rfl⟩ rfl ?_
    refine zr_iconst dX12_fullOf_12 (by decide) ?_
    refine zr_isub dX12_fullOf_13 ?_
    obtain ⟨x2, hx2, h⟩ := zbind h
    refine zt_callisi (t_Rf_old hx2) (zrun_V (rest := []) dX12_fullOf_14 ml_X12_364 rfl rfl (by decide) (by decide) rfl (Nat.le_of_ble_eq_true rfl)) rfl rfl (Nat.le_refl _) (Nat.le_refl _) ?_
    refine zr_if_ne (tgt := 26) dX12_fullOf_17 (by decide) (fun hc3 => ?_) (fun hc3 => ?_)
    · replace h := zpos h hc3
      refine zr_mask [false, false, true] rfl ?_
      obtain rfl := Option.some.inj h
      obtain rfl := hk
      exact hx
    · replace h := zneg h hc3
      refine zr_iinc dX12_fullOf_20 rfl (by decide) rfl ?_
      refine zr_goto (tgt := 5) dX12_fullOf_23 (by decide) ?_
      obtain rfl := Option.some.inj h
      exact hk hx
set_option maxRecDepth 100000 in
set_option maxHeartbeats 4000000 in
theorem t_Rf_fullOf {a1 : Int} {s : zSt} {res : Int} (h : f_Rf_fullOf a1 s = some res) : zSpecT 2 m_X12_fullOf [.inr (.inl (some 0)), .inl a1] TRf s (some (.inl res)) s := by
  refine zSpec_of (by decide +kernel) (Nat.le_of_ble_eq_true rfl) ?_
  show zBT 2 m_X12_fullOf TRf (some (.inl res)) s 0 [some (.inr (.inl (some 0))), some (.inl a1), none] [] s
  unfold f_Rf_fullOf at h
  refine zr_aload ⟨_, dX12_fullOf_0, rfl⟩ rfl ?_
  refine zt_get dX12_fullOf_1 fl_X12_13 rfl rfl ?_
  refine zr_store ⟨_, dX12_fullOf_4, rfl⟩ (by decide) rfl ?_
  obtain ⟨y1, hy1, h⟩ := zbind h
  refine t_Rf_fullOf_l5 _ _ _ hy1 ?_
  refine zr_load ⟨_, dX12_fullOf_26, rfl⟩ rfl ?_
  obtain rfl := Option.some.inj h
  exact zt_iret dX12_fullOf_27 rfl
set_option maxRecDepth 100000 in
set_option maxHeartbeats 4000000 in
theorem t_Rf_isLike {a1 a2 : Int} {s : zSt} {res : Int} (h : f_Rf_isLike a1 a2 s = some res) : zSpecT 2 m_X12_isLike [.inr (.inl (some 0)), .inl a1, .inl a2] TRf s (some (.inl res)) s := by
  refine zSpec_of (by decide +kernel) (Nat.le_of_ble_eq_true rfl) ?_
  show zBT 2 m_X12_isLike TRf (some (.inl res)) s 0 [some (.inr (.inl (some 0))), some (.inl a1), some (.inl a2)] [] s
  unfold f_Rf_isLike at h
  refine zr_aload ⟨_, dX12_isLike_0, rfl⟩ rfl ?_
  refine zt_getr dX12_isLike_1 fl_X12_16 rfl rfl ?_
  refine zr_aload ⟨_, dX12_isLike_4, rfl⟩ rfl ?_
  refine zr_load ⟨_, dX12_isLike_5, rfl⟩ rfl ?_
  refine zr_load ⟨_, dX12_isLike_6, rfl⟩ rfl ?_
  obtain ⟨x1, hx1, h⟩ := zbind h
  refine zt_callisi (t_Rf_at hx1) (zrun_V (rest := [.inr (.inl (some 1))]) dX12_isLike_7 ml_X12_90 rfl rfl (by decide) (by decide) rfl (Nat.le_of_ble_eq_true rfl)) rfl rfl (Nat.le_refl _) (Nat.le_refl _) ?_
  obtain ⟨hb2, h⟩ := zchk h
  refine zt_iaload dX12_isLike_10 rfl hb2 ?_
  refine zr_aload ⟨_, dX12_isLike_11, rfl⟩ rfl ?_
  refine zt_getr dX12_isLike_12 fl_X12_64 rfl rfl ?_
  refine zr_bipush dX12_isLike_15 (by decide) (by decide) ?_
  refine zr_load ⟨_, dX12_isLike_17, rfl⟩ rfl ?_
  refine zr_imul dX12_isLike_18 ?_
  refine zr_load ⟨_, dX12_isLike_19, rfl⟩ rfl ?_
  refine zr_iadd dX12_isLike_20 ?_
  obtain ⟨hb3, h⟩ := zchk h
  refine zt_iaload dX12_isLike_21 rfl hb3 ?_
  have hj4 : zBT 2 m_X12_isLike TRf (some (.inl res)) s 30 [some (.inr (.inl (some 0))), some (.inl a1), some (.inl a2)] [.inl (if ¬ ((s.2 1) x1) = ((s.2 12) (w32 ((w32 (24 * a1)) + a2))) then 0 else 1)] s := by
    obtain rfl := Option.some.inj h
    exact zt_zret dX12_isLike_30 rfl (z01i (Or.inl rfl) (Or.inr rfl))
  refine zr_ic_ne (tgt := 29) dX12_isLike_22 (by decide) (fun hc5 => ?_) (fun hc5 => ?_)
  · have hp6 := zif_t hj4 hc5
    refine zr_iconst dX12_isLike_29 (by decide) ?_
    exact hp6
  · have hp7 := zif_f hj4 hc5
    refine zr_iconst dX12_isLike_25 (by decide) ?_
    refine zr_goto (tgt := 30) dX12_isLike_26 (by decide) ?_
    exact hp7
set_option maxRecDepth 100000 in
set_option maxHeartbeats 4000000 in
theorem t_Rf_isCell {a1 a2 : Int} {s : zSt} {res : Int} (h : f_Rf_isCell a1 a2 s = some res) : zSpecT 2 m_X12_isCell [.inr (.inl (some 0)), .inl a1, .inl a2] TRf s (some (.inl res)) s := by
  refine zSpec_of (by decide +kernel) (Nat.le_of_ble_eq_true rfl) ?_
  show zBT 2 m_X12_isCell TRf (some (.inl res)) s 0 [some (.inr (.inl (some 0))), some (.inl a1), some (.inl a2)] [] s
  unfold f_Rf_isCell at h
  refine zr_load ⟨_, dX12_isCell_0, rfl⟩ rfl ?_
  refine zr_iconst dX12_isCell_1 (by decide) ?_
  refine zr_aload ⟨_, dX12_isCell_2, rfl⟩ rfl ?_
  refine zt_get dX12_isCell_3 fl_X12_7 rfl rfl ?_
  refine zr_iconst dX12_isCell_6 (by decide) ?_
  refine zr_isub dX12_isCell_7 ?_
  obtain ⟨x1, hx1, h⟩ := zbind h
  refine zt_call0 (t_Rf_in hx1) (zrun_S (rest := []) dX12_isCell_8 ml_X12_83 rfl (by decide) (by decide) rfl (Nat.le_of_ble_eq_true rfl)) rfl rfl (Nat.le_refl _) (Nat.le_refl _) ?_
  refine zr_if_eq (tgt := 32) dX12_isCell_11 (by decide) (fun hc2 => ?_) (fun hc2 => ?_)
  · replace h := zpos h hc2
    refine zr_iconst dX12_isCell_32 (by decide) ?_
    obtain rfl := Option.some.inj h
    exact zt_zret dX12_isCell_33 rfl (Or.inl rfl)
  · replace h := zneg h hc2
    refine zr_load ⟨_, dX12_isCell_14, rfl⟩ rfl ?_
    refine zr_iconst dX12_isCell_15 (by decide) ?_
    refine zr_aload ⟨_, dX12_isCell_16, rfl⟩ rfl ?_
    refine zt_get dX12_isCell_17 fl_X12_13 rfl rfl ?_
    refine zr_iconst dX12_isCell_20 (by decide) ?_
    refine zr_isub dX12_isCell_21 ?_
    obtain ⟨x3, hx3, h⟩ := zbind h
    refine zt_call0 (t_Rf_in hx3) (zrun_S (rest := []) dX12_isCell_22 ml_X12_83 rfl (by decide) (by decide) rfl (Nat.le_of_ble_eq_true rfl)) rfl rfl (Nat.le_refl _) (Nat.le_refl _) ?_
    have hj4 : zBT 2 m_X12_isCell TRf (some (.inl res)) s 33 [some (.inr (.inl (some 0))), some (.inl a1), some (.inl a2)] [.inl (if x3 = 0 then 0 else 1)] s := by
      obtain rfl := Option.some.inj h
      exact zt_zret dX12_isCell_33 rfl (z01i (Or.inl rfl) (Or.inr rfl))
    refine zr_if_eq (tgt := 32) dX12_isCell_25 (by decide) (fun hc5 => ?_) (fun hc5 => ?_)
    · have hp6 := zif_t hj4 hc5
      refine zr_iconst dX12_isCell_32 (by decide) ?_
      exact hp6
    · have hp7 := zif_f hj4 hc5
      refine zr_iconst dX12_isCell_28 (by decide) ?_
      refine zr_goto (tgt := 33) dX12_isCell_29 (by decide) ?_
      exact hp7
