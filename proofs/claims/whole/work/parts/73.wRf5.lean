set_option maxRecDepth 100000 in
set_option maxHeartbeats 4000000 in
theorem t_Rf_takesLast_l12  {r : Option zAV} {s0 : zSt}  : ∀ (n : Nat) (x : Int × zSt) (out : zSt), zloop (f_Rf_takesLast_l12) n x = some out → (zBT 11 m_X12_takesLast TRf r s0 59 [none, none] [] out) → zBT 11 m_X12_takesLast TRf r s0 12 [some (.inr (.inl (some 0))), some (.inl x.1)] [] x.2 := by
  refine zloop_B (B := fun (x : Int × zSt) (out : zSt) => zBT 11 m_X12_takesLast TRf r s0 59 [none, none] [] out → zBT 11 m_X12_takesLast TRf r s0 12 [some (.inr (.inl (some 0))), some (.inl x.1)] [] x.2) ?_
  intro x o out h hk hx
  unfold f_Rf_takesLast_l12 at h
  refine zr_load ⟨_, dX12_takesLast_12, rfl⟩ rfl ?_
  refine zr_aload ⟨_, dX12_takesLast_13, rfl⟩ rfl ?_
  refine zt_getr dX12_takesLast_14 fl_X12_55 rfl rfl ?_
  refine zr_aload ⟨_, dX12_takesLast_17, rfl⟩ rfl ?_
  refine zt_get dX12_takesLast_18 fl_X12_312 rfl rfl ?_
  obtain ⟨hb1, h⟩ := zchk h
  refine zt_iaload dX12_takesLast_21 rfl hb1 ?_
  refine zr_bipush dX12_takesLast_22 (by decide) (by decide) ?_
  have hj2 : zBT 11 m_X12_takesLast TRf r s0 32 [some (.inr (.inl (some 0))), some (.inl x.1)] [.inl (if 32 ≤ ((x.2.2 9) (x.2.1 0 46)) then 1 else 2), .inl x.1] x.2 := by
    refine zr_ic_ge (tgt := 59) dX12_takesLast_32 (by decide) (fun hc4 => ?_) (fun hc4 => ?_)
    · replace h := zpos h hc4
      refine zr_mask [false, false] rfl ?_
      obtain rfl := Option.some.inj h
      obtain rfl := hk
      exact hx
    · replace h := zneg h hc4
      refine zr_aload ⟨_, dX12_takesLast_35, rfl⟩ rfl ?_
      refine zr_bipush dX12_takesLast_36 (by decide) (by decide) ?_
      obtain ⟨x5, hx5, h⟩ := zbind h
      refine zt_calliv (t_Rf_echo hx5) (zrun_V (rest := []) dX12_takesLast_38 ml_X12_315 rfl rfl (by decide) (by decide) rfl (Nat.le_of_ble_eq_true rfl)) rfl rfl (Nat.le_refl _) (Nat.le_refl _) ?_
      refine zr_aload ⟨_, dX12_takesLast_41, rfl⟩ rfl ?_
      refine zr_bipush dX12_takesLast_42 (by decide) (by decide) ?_
      obtain ⟨x6, hx6, h⟩ := zbind h
      refine zt_calliv (t_Rf_echo hx6) (zrun_V (rest := []) dX12_takesLast_44 ml_X12_315 rfl rfl (by decide) (by decide) rfl (Nat.le_of_ble_eq_true rfl)) rfl rfl (Nat.le_refl _) (Nat.le_refl _) ?_
      refine zr_aload ⟨_, dX12_takesLast_47, rfl⟩ rfl ?_
      refine zr_bipush dX12_takesLast_48 (by decide) (by decide) ?_
      obtain ⟨x7, hx7, h⟩ := zbind h
      refine zt_calliv (t_Rf_echo hx7) (zrun_V (rest := []) dX12_takesLast_50 ml_X12_315 rfl rfl (by decide) (by decide) rfl (Nat.le_of_ble_eq_true rfl)) rfl rfl (Nat.le_refl _) (Nat.le_refl _) ?_
      refine zr_iinc dX12_takesLast_53 rfl (by decide) rfl ?_
      refine zr_goto (tgt := 12) dX12_takesLast_56 (by decide) ?_
      obtain rfl := Option.some.inj h
      exact hk hx
  refine zr_ic_ge (tgt := 31) dX12_takesLast_24 (by decide) (fun hc3 => ?_) (fun hc3 => ?_)
  · have hp8 := zif_t hj2 hc3
    refine zr_iconst dX12_takesLast_31 (by decide) ?_
    exact hp8
  · have hp9 := zif_f hj2 hc3
    refine zr_iconst dX12_takesLast_27 (by decide) ?_
    refine zr_goto (tgt := 32) dX12_takesLast_28 (by decide) ?_
    exact hp9
set_option maxRecDepth 100000 in
set_option maxHeartbeats 4000000 in
theorem t_Rf_takesLast  {s : zSt} {res : Int × zSt} (h : f_Rf_takesLast s = some res) : zSpecT 11 m_X12_takesLast [.inr (.inl (some 0))] TRf s none res.2 := by
  refine zSpec_of (by decide +kernel) (Nat.le_of_ble_eq_true rfl) ?_
  show zBT 11 m_X12_takesLast TRf none res.2 0 [some (.inr (.inl (some 0))), none] [] s
  unfold f_Rf_takesLast at h
  refine zr_aload ⟨_, dX12_takesLast_0, rfl⟩ rfl ?_
  refine zr_dup dX12_takesLast_1 (Or.inl True.intro) ?_
  refine zt_get dX12_takesLast_2 fl_X12_312 rfl rfl ?_
  refine zr_iconst dX12_takesLast_5 (by decide) ?_
  refine zr_isub dX12_takesLast_6 ?_
  refine zt_put dX12_takesLast_7 fl_X12_312 rfl rfl ?_
  refine zr_iconst dX12_takesLast_10 (by decide) ?_
  refine zr_store ⟨_, dX12_takesLast_11, rfl⟩ (by decide) rfl ?_
  obtain ⟨y1, hy1, h⟩ := zbind h
  refine t_Rf_takesLast_l12 _ _ _ hy1 ?_
  obtain rfl := Option.some.inj h
  exact zt_vret dX12_takesLast_59 rfl
set_option maxRecDepth 100000 in
set_option maxHeartbeats 4000000 in
theorem t_Rf_adds_j48 {v1 : Int} {s : zSt} {res : Int × zSt} (h : f_Rf_adds_j48 v1 s = some res) : zBT 11 m_X12_adds TRf none res.2 48 [some (.inr (.inl (some 0))), some (.inl v1)] [] s := by
  unfold f_Rf_adds_j48 at h
  refine zr_aload ⟨_, dX12_adds_48, rfl⟩ rfl ?_
  refine zr_load ⟨_, dX12_adds_49, rfl⟩ rfl ?_
  refine zr_bipush dX12_adds_50 (by decide) (by decide) ?_
  have hj1 : zBT 11 m_X12_adds TRf none res.2 63 [some (.inr (.inl (some 0))), some (.inl v1)] [.inl (if 32 ≤ v1 then v1 else (w32 (v1 + 64))), .inr (.inl (some 0))] s := by
    obtain ⟨x3, hx3, h⟩ := zbind h
    refine zt_calliv (t_Rf_echo hx3) (zrun_V (rest := []) dX12_adds_63 ml_X12_315 rfl rfl (by decide) (by decide) rfl (Nat.le_of_ble_eq_true rfl)) rfl rfl (Nat.le_refl _) (Nat.le_refl _) ?_
    obtain rfl := Option.some.inj h
    exact zt_vret dX12_adds_66 rfl
  refine zr_ic_ge (tgt := 62) dX12_adds_52 (by decide) (fun hc2 => ?_) (fun hc2 => ?_)
  · have hp4 := zif_t hj1 hc2
    refine zr_load ⟨_, dX12_adds_62, rfl⟩ rfl ?_
    exact hp4
  · have hp5 := zif_f hj1 hc2
    refine zr_load ⟨_, dX12_adds_55, rfl⟩ rfl ?_
    refine zr_bipush dX12_adds_56 (by decide) (by decide) ?_
    refine zr_iadd dX12_adds_58 ?_
    refine zr_goto (tgt := 63) dX12_adds_59 (by decide) ?_
    exact hp5
set_option maxRecDepth 100000 in
set_option maxHeartbeats 4000000 in
theorem t_Rf_adds {a1 : Int} {s : zSt} {res : Int × zSt} (h : f_Rf_adds a1 s = some res) : zSpecT 11 m_X12_adds [.inr (.inl (some 0)), .inl a1] TRf s none res.2 := by
  refine zSpec_of (by decide +kernel) (Nat.le_of_ble_eq_true rfl) ?_
  show zBT 11 m_X12_adds TRf none res.2 0 [some (.inr (.inl (some 0))), some (.inl a1)] [] s
  unfold f_Rf_adds at h
  refine zr_aload ⟨_, dX12_adds_0, rfl⟩ rfl ?_
  refine zt_get dX12_adds_1 fl_X12_312 rfl rfl ?_
  refine zr_bipush dX12_adds_4 (by decide) (by decide) ?_
  refine zr_ic_ne (tgt := 16) dX12_adds_6 (by decide) (fun hc1 => ?_) (fun hc1 => ?_)
  · replace h := zpos h hc1
    refine zr_aload ⟨_, dX12_adds_16, rfl⟩ rfl ?_
    refine zt_getr dX12_adds_17 fl_X12_55 rfl rfl ?_
    refine zr_aload ⟨_, dX12_adds_20, rfl⟩ rfl ?_
    refine zt_get dX12_adds_21 fl_X12_312 rfl rfl ?_
    refine zr_load ⟨_, dX12_adds_24, rfl⟩ rfl ?_
    obtain ⟨hb2, h⟩ := zchk h
    refine zt_iastore dX12_adds_25 rfl hb2 ?_
    refine zr_aload ⟨_, dX12_adds_26, rfl⟩ rfl ?_
    refine zr_dup dX12_adds_27 (Or.inl True.intro) ?_
    refine zt_get dX12_adds_28 fl_X12_312 rfl rfl ?_
    refine zr_iconst dX12_adds_31 (by decide) ?_
    refine zr_iadd dX12_adds_32 ?_
    refine zt_put dX12_adds_33 fl_X12_312 rfl rfl ?_
    refine zr_load ⟨_, dX12_adds_36, rfl⟩ rfl ?_
    refine zr_bipush dX12_adds_37 (by decide) (by decide) ?_
    refine zr_ic_ge (tgt := 48) dX12_adds_39 (by decide) (fun hc3 => ?_) (fun hc3 => ?_)
    · replace h := zpos h hc3
      exact t_Rf_adds_j48 h
    · replace h := zneg h hc3
      refine zr_aload ⟨_, dX12_adds_42, rfl⟩ rfl ?_
      refine zr_bipush dX12_adds_43 (by decide) (by decide) ?_
      obtain ⟨x4, hx4, h⟩ := zbind h
      refine zt_calliv (t_Rf_echo hx4) (zrun_V (rest := []) dX12_adds_45 ml_X12_315 rfl rfl (by decide) (by decide) rfl (Nat.le_of_ble_eq_true rfl)) rfl rfl (Nat.le_refl _) (Nat.le_refl _) ?_
      exact t_Rf_adds_j48 h
  · replace h := zneg h hc1
    refine zr_aload ⟨_, dX12_adds_9, rfl⟩ rfl ?_
    refine zr_bipush dX12_adds_10 (by decide) (by decide) ?_
    obtain ⟨x5, hx5, h⟩ := zbind h
    refine zt_calliv (t_Rf_echo hx5) (zrun_V (rest := []) dX12_adds_12 ml_X12_315 rfl rfl (by decide) (by decide) rfl (Nat.le_of_ble_eq_true rfl)) rfl rfl (Nat.le_refl _) (Nat.le_refl _) ?_
    obtain rfl := Option.some.inj h
    exact zt_vret dX12_adds_15 rfl
set_option maxRecDepth 100000 in
set_option maxHeartbeats 4000000 in
theorem t_Rf_edits_l158  {r : Option zAV} {s0 : zSt}  : ∀ (n : Nat) (x : zSt) (out : zSt), zloop (f_Rf_edits_l158) n x = some out → (zBT 12 m_X12_edits TRf r s0 263 [none, none] [] out) → zBT 12 m_X12_edits TRf r s0 158 [some (.inr (.inl (some 0))), none] [] x := by
  refine zloop_B (B := fun (x : zSt) (out : zSt) => zBT 12 m_X12_edits TRf r s0 263 [none, none] [] out → zBT 12 m_X12_edits TRf r s0 158 [some (.inr (.inl (some 0))), none] [] x) ?_
  intro x o out h hk hx
  unfold f_Rf_edits_l158 at h
  refine zr_aload ⟨_, dX12_edits_158, rfl⟩ rfl ?_
  refine zt_get dX12_edits_159 fl_X12_312 rfl rfl ?_
  refine zr_if_le (tgt := 263) dX12_edits_162 (by decide) (fun hc1 => ?_) (fun hc1 => ?_)
  · replace h := zpos h hc1
    refine zr_mask [false, false] rfl ?_
    obtain rfl := Option.some.inj h
    obtain rfl := hk
    exact hx
  · replace h := zneg h hc1
    refine zr_aload ⟨_, dX12_edits_165, rfl⟩ rfl ?_
    obtain ⟨x2, hx2, h⟩ := zbind h
    refine zt_calliv (t_Rf_takesLast hx2) (zrun_V (rest := []) dX12_edits_166 ml_X12_318 rfl rfl (by decide) (by decide) rfl (Nat.le_of_ble_eq_true rfl)) rfl rfl (Nat.le_refl _) (Nat.le_refl _) ?_
    refine zr_goto (tgt := 158) dX12_edits_169 (by decide) ?_
    obtain rfl := Option.some.inj h
    exact hk hx
set_option maxRecDepth 100000 in
set_option maxHeartbeats 4000000 in
theorem t_Rf_edits_l98  {r : Option zAV} {s0 : zSt}  : ∀ (n : Nat) (x : zSt) (out : zSt), zloop (f_Rf_edits_l98) n x = some out → (zBT 12 m_X12_edits TRf r s0 128 [some (.inr (.inl (some 0))), none] [] out) → zBT 12 m_X12_edits TRf r s0 98 [some (.inr (.inl (some 0))), none] [] x := by
  refine zloop_B (B := fun (x : zSt) (out : zSt) => zBT 12 m_X12_edits TRf r s0 128 [some (.inr (.inl (some 0))), none] [] out → zBT 12 m_X12_edits TRf r s0 98 [some (.inr (.inl (some 0))), none] [] x) ?_
  intro x o out h hk hx
  unfold f_Rf_edits_l98 at h
  refine zr_aload ⟨_, dX12_edits_98, rfl⟩ rfl ?_
  refine zt_get dX12_edits_99 fl_X12_312 rfl rfl ?_
  refine zr_if_le (tgt := 128) dX12_edits_102 (by decide) (fun hc1 => ?_) (fun hc1 => ?_)
  · replace h := zpos h hc1
    obtain rfl := Option.some.inj h
    obtain rfl := hk
    exact hx
  · replace h := zneg h hc1
    refine zr_aload ⟨_, dX12_edits_105, rfl⟩ rfl ?_
    refine zt_getr dX12_edits_106 fl_X12_55 rfl rfl ?_
    refine zr_aload ⟨_, dX12_edits_109, rfl⟩ rfl ?_
    refine zt_get dX12_edits_110 fl_X12_312 rfl rfl ?_
    refine zr_iconst dX12_edits_113 (by decide) ?_
    refine zr_isub dX12_edits_114 ?_
    obtain ⟨hb2, h⟩ := zchk h
    refine zt_iaload dX12_edits_115 rfl hb2 ?_
    refine zr_bipush dX12_edits_116 (by decide) (by decide) ?_
    refine zr_ic_ne (tgt := 128) dX12_edits_118 (by decide) (fun hc3 => ?_) (fun hc3 => ?_)
    · replace h := zpos h hc3
      obtain rfl := Option.some.inj h
      obtain rfl := hk
      exact hx
    · replace h := zneg h hc3
      refine zr_aload ⟨_, dX12_edits_121, rfl⟩ rfl ?_
      obtain ⟨x4, hx4, h⟩ := zbind h
      refine zt_calliv (t_Rf_takesLast hx4) (zrun_V (rest := []) dX12_edits_122 ml_X12_318 rfl rfl (by decide) (by decide) rfl (Nat.le_of_ble_eq_true rfl)) rfl rfl (Nat.le_refl _) (Nat.le_refl _) ?_
      refine zr_goto (tgt := 98) dX12_edits_125 (by decide) ?_
      obtain rfl := Option.some.inj h
      exact hk hx
set_option maxRecDepth 100000 in
set_option maxHeartbeats 4000000 in
theorem t_Rf_edits_l128  {r : Option zAV} {s0 : zSt}  : ∀ (n : Nat) (x : zSt) (out : zSt), zloop (f_Rf_edits_l128) n x = some out → (zBT 12 m_X12_edits TRf r s0 263 [none, none] [] out) → zBT 12 m_X12_edits TRf r s0 128 [some (.inr (.inl (some 0))), none] [] x := by
  refine zloop_B (B := fun (x : zSt) (out : zSt) => zBT 12 m_X12_edits TRf r s0 263 [none, none] [] out → zBT 12 m_X12_edits TRf r s0 128 [some (.inr (.inl (some 0))), none] [] x) ?_
  intro x o out h hk hx
  unfold f_Rf_edits_l128 at h
  refine zr_aload ⟨_, dX12_edits_128, rfl⟩ rfl ?_
  refine zt_get dX12_edits_129 fl_X12_312 rfl rfl ?_
  refine zr_if_le (tgt := 263) dX12_edits_132 (by decide) (fun hc1 => ?_) (fun hc1 => ?_)
  · replace h := zpos h hc1
    refine zr_mask [false, false] rfl ?_
    obtain rfl := Option.some.inj h
    obtain rfl := hk
    exact hx
  · replace h := zneg h hc1
    refine zr_aload ⟨_, dX12_edits_135, rfl⟩ rfl ?_
    refine zt_getr dX12_edits_136 fl_X12_55 rfl rfl ?_
    refine zr_aload ⟨_, dX12_edits_139, rfl⟩ rfl ?_
    refine zt_get dX12_edits_140 fl_X12_312 rfl rfl ?_
    refine zr_iconst dX12_edits_143 (by decide) ?_
    refine zr_isub dX12_edits_144 ?_
    obtain ⟨hb2, h⟩ := zchk h
    refine zt_iaload dX12_edits_145 rfl hb2 ?_
    refine zr_bipush dX12_edits_146 (by decide) (by decide) ?_
    refine zr_ic_eq (tgt := 263) dX12_edits_148 (by decide) (fun hc3 => ?_) (fun hc3 => ?_)
    · replace h := zpos h hc3
      refine zr_mask [false, false] rfl ?_
      obtain rfl := Option.some.inj h
      obtain rfl := hk
      exact hx
    · replace h := zneg h hc3
      refine zr_aload ⟨_, dX12_edits_151, rfl⟩ rfl ?_
      obtain ⟨x4, hx4, h⟩ := zbind h
      refine zt_calliv (t_Rf_takesLast hx4) (zrun_V (rest := []) dX12_edits_152 ml_X12_318 rfl rfl (by decide) (by decide) rfl (Nat.le_of_ble_eq_true rfl)) rfl rfl (Nat.le_refl _) (Nat.le_refl _) ?_
      refine zr_goto (tgt := 128) dX12_edits_155 (by decide) ?_
      obtain rfl := Option.some.inj h
      exact hk hx
set_option maxRecDepth 100000 in
set_option maxHeartbeats 4000000 in
theorem t_Rf_edits {a1 : Int} {s : zSt} {res : Int × zSt} (h : f_Rf_edits a1 s = some res) : zSpecT 12 m_X12_edits [.inr (.inl (some 0)), .inl a1] TRf s none res.2 := by
  refine zSpec_of (by decide +kernel) (Nat.le_of_ble_eq_true rfl) ?_
  show zBT 12 m_X12_edits TRf none res.2 0 [some (.inr (.inl (some 0))), some (.inl a1)] [] s
  unfold f_Rf_edits at h
  refine zr_load ⟨_, dX12_edits_0, rfl⟩ rfl ?_
  refine zr_lsw (l := [(3, 224), (4, 196), (10, 171), (13, 171), (17, 250), (19, 242), (21, 157), (23, 97), (127, 83)]) dX12_edits_1 (by decide) rfl ?_
  refine zr_swc (tgt := 225) (by decide) (fun hc1 => ?_) (fun hc1 => ?_)
  · replace h := zpos h hc1
    refine zr_aload ⟨_, dX12_edits_225, rfl⟩ rfl ?_
    refine zr_iconst dX12_edits_226 (by decide) ?_
    refine zt_put dX12_edits_227 fl_X12_312 rfl rfl ?_
    refine zr_aload ⟨_, dX12_edits_230, rfl⟩ rfl ?_
    refine zr_dup dX12_edits_231 (Or.inl True.intro) ?_
    refine zt_get dX12_edits_232 fl_X12_327 rfl rfl ?_
    refine zr_iconst dX12_edits_235 (by decide) ?_
    refine zr_iadd dX12_edits_236 ?_
    refine zt_put dX12_edits_237 fl_X12_327 rfl rfl ?_
    refine zr_goto (tgt := 263) dX12_edits_240 (by decide) ?_
    obtain rfl := Option.some.inj h
    exact zt_vret dX12_edits_263 rfl
  replace h := zneg h hc1
  refine zr_swc (tgt := 197) (by decide) (fun hc2 => ?_) (fun hc2 => ?_)
  · replace h := zpos h hc2
    refine zr_aload ⟨_, dX12_edits_197, rfl⟩ rfl ?_
    refine zr_dup dX12_edits_198 (Or.inl True.intro) ?_
    refine zt_get dX12_edits_199 fl_X12_324 rfl rfl ?_
    refine zr_aload ⟨_, dX12_edits_202, rfl⟩ rfl ?_
    refine zt_get dX12_edits_203 fl_X12_312 rfl rfl ?_
    have hj3 : zBT 12 m_X12_edits TRf none res.2 214 [some (.inr (.inl (some 0))), some (.inl a1)] [.inl (if ¬ (s.1 0 46) = 0 then 0 else 1), .inl (s.1 0 49), .inr (.inl (some 0))] s := by
      refine zr_iadd dX12_edits_214 ?_
      refine zt_put dX12_edits_215 fl_X12_324 rfl rfl ?_
      refine zr_aload ⟨_, dX12_edits_218, rfl⟩ rfl ?_
      obtain ⟨x5, hx5, h⟩ := zbind h
      refine zt_calliv (t_Rf_givesLine hx5) (zrun_V (rest := []) dX12_edits_219 ml_X12_321 rfl rfl (by decide) (by decide) rfl (Nat.le_of_ble_eq_true rfl)) rfl rfl (Nat.le_refl _) (Nat.le_refl _) ?_
      refine zr_goto (tgt := 263) dX12_edits_222 (by decide) ?_
      obtain rfl := Option.some.inj h
      exact zt_vret dX12_edits_263 rfl
    refine zr_if_ne (tgt := 213) dX12_edits_206 (by decide) (fun hc4 => ?_) (fun hc4 => ?_)
    · have hp6 := zif_t hj3 hc4
      refine zr_iconst dX12_edits_213 (by decide) ?_
      exact hp6
    · have hp7 := zif_f hj3 hc4
      refine zr_iconst dX12_edits_209 (by decide) ?_
      refine zr_goto (tgt := 214) dX12_edits_210 (by decide) ?_
      exact hp7
  replace h := zneg h hc2
  refine zr_swc (tgt := 172) (by decide) (fun hc8 => ?_) (fun hc8 => ?_)
  · replace h := zpos h hc8
    refine zr_aload ⟨_, dX12_edits_172, rfl⟩ rfl ?_
    obtain ⟨x9, hx9, h⟩ := zbind h
    refine zt_calliv (t_Rf_givesLine hx9) (zrun_V (rest := []) dX12_edits_173 ml_X12_321 rfl rfl (by decide) (by decide) rfl (Nat.le_of_ble_eq_true rfl)) rfl rfl (Nat.le_refl _) (Nat.le_refl _) ?_
    refine zr_aload ⟨_, dX12_edits_176, rfl⟩ rfl ?_
    refine zr_bipush dX12_edits_177 (by decide) (by decide) ?_
    obtain ⟨x10, hx10, h⟩ := zbind h
    refine zt_calliv (t_Rf_sends hx10) (zrun_V (rest := []) dX12_edits_179 ml_X12_265 rfl rfl (by decide) (by decide) rfl (Nat.le_of_ble_eq_true rfl)) rfl rfl (Nat.le_refl _) (Nat.le_refl _) ?_
    refine zr_aload ⟨_, dX12_edits_182, rfl⟩ rfl ?_
    refine zr_bipush dX12_edits_183 (by decide) (by decide) ?_
    obtain ⟨x11, hx11, h⟩ := zbind h
    refine zt_calliv (t_Rf_echo hx11) (zrun_V (rest := []) dX12_edits_185 ml_X12_315 rfl rfl (by decide) (by decide) rfl (Nat.le_of_ble_eq_true rfl)) rfl rfl (Nat.le_refl _) (Nat.le_refl _) ?_
    refine zr_aload ⟨_, dX12_edits_188, rfl⟩ rfl ?_
    refine zr_bipush dX12_edits_189 (by decide) (by decide) ?_
    obtain ⟨x12, hx12, h⟩ := zbind h
    refine zt_calliv (t_Rf_echo hx12) (zrun_V (rest := []) dX12_edits_191 ml_X12_315 rfl rfl (by decide) (by decide) rfl (Nat.le_of_ble_eq_true rfl)) rfl rfl (Nat.le_refl _) (Nat.le_refl _) ?_
    refine zr_goto (tgt := 263) dX12_edits_194 (by decide) ?_
    obtain rfl := Option.some.inj h
    exact zt_vret dX12_edits_263 rfl
  replace h := zneg h hc8
  refine zr_swc (tgt := 172) (by decide) (fun hc13 => ?_) (fun hc13 => ?_)
  · replace h := zpos h hc13
    refine zr_aload ⟨_, dX12_edits_172, rfl⟩ rfl ?_
    obtain ⟨x14, hx14, h⟩ := zbind h
    refine zt_calliv (t_Rf_givesLine hx14) (zrun_V (rest := []) dX12_edits_173 ml_X12_321 rfl rfl (by decide) (by decide) rfl (Nat.le_of_ble_eq_true rfl)) rfl rfl (Nat.le_refl _) (Nat.le_refl _) ?_
    refine zr_aload ⟨_, dX12_edits_176, rfl⟩ rfl ?_
    refine zr_bipush dX12_edits_177 (by decide) (by decide) ?_
    obtain ⟨x15, hx15, h⟩ := zbind h
    refine zt_calliv (t_Rf_sends hx15) (zrun_V (rest := []) dX12_edits_179 ml_X12_265 rfl rfl (by decide) (by decide) rfl (Nat.le_of_ble_eq_true rfl)) rfl rfl (Nat.le_refl _) (Nat.le_refl _) ?_
    refine zr_aload ⟨_, dX12_edits_182, rfl⟩ rfl ?_
    refine zr_bipush dX12_edits_183 (by decide) (by decide) ?_
    obtain ⟨x16, hx16, h⟩ := zbind h
    refine zt_calliv (t_Rf_echo hx16) (zrun_V (rest := []) dX12_edits_185 ml_X12_315 rfl rfl (by decide) (by decide) rfl (Nat.le_of_ble_eq_true rfl)) rfl rfl (Nat.le_refl _) (Nat.le_refl _) ?_
    refine zr_aload ⟨_, dX12_edits_188, rfl⟩ rfl ?_
    refine zr_bipush dX12_edits_189 (by decide) (by decide) ?_
    obtain ⟨x17, hx17, h⟩ := zbind h
    refine zt_calliv (t_Rf_echo hx17) (zrun_V (rest := []) dX12_edits_191 ml_X12_315 rfl rfl (by decide) (by decide) rfl (Nat.le_of_ble_eq_true rfl)) rfl rfl (Nat.le_refl _) (Nat.le_refl _) ?_
    refine zr_goto (tgt := 263) dX12_edits_194 (by decide) ?_
    obtain rfl := Option.some.inj h
    exact zt_vret dX12_edits_263 rfl
  replace h := zneg h hc13
  refine zr_swc (tgt := 251) (by decide) (fun hc18 => ?_) (fun hc18 => ?_)
  · replace h := zpos h hc18
    refine zr_aload ⟨_, dX12_edits_251, rfl⟩ rfl ?_
    obtain ⟨x19, hx19, h⟩ := zbind h
    refine zt_calliv (t_Rf_starts hx19) (zrun_V (rest := []) dX12_edits_252 ml_X12_330 rfl rfl (by decide) (by decide) rfl (Nat.le_of_ble_eq_true rfl)) rfl rfl (Nat.le_refl _) (Nat.le_refl _) ?_
    refine zr_goto (tgt := 263) dX12_edits_255 (by decide) ?_
    obtain rfl := Option.some.inj h
    exact zt_vret dX12_edits_263 rfl
  replace h := zneg h hc18
  refine zr_swc (tgt := 243) (by decide) (fun hc20 => ?_) (fun hc20 => ?_)
  · replace h := zpos h hc20
    refine zr_aload ⟨_, dX12_edits_243, rfl⟩ rfl ?_
    refine zr_iconst dX12_edits_244 (by decide) ?_
    refine zt_putz dX12_edits_245 fl_X12_293 rfl rfl (Or.inr rfl) ?_
    refine zr_goto (tgt := 263) dX12_edits_248 (by decide) ?_
    obtain rfl := Option.some.inj h
    exact zt_vret dX12_edits_263 rfl
  replace h := zneg h hc20
  refine zr_swc (tgt := 158) (by decide) (fun hc21 => ?_) (fun hc21 => ?_)
  · replace h := zpos h hc21
    refine zr_mask [true, false] rfl ?_
    obtain ⟨y22, hy22, h⟩ := zbind h
    refine t_Rf_edits_l158 _ _ _ hy22 ?_
    obtain rfl := Option.some.inj h
    exact zt_vret dX12_edits_263 rfl
  replace h := zneg h hc21
  refine zr_swc (tgt := 98) (by decide) (fun hc23 => ?_) (fun hc23 => ?_)
  · replace h := zpos h hc23
    refine zr_mask [true, false] rfl ?_
    obtain ⟨y24, hy24, h⟩ := zbind h
    refine t_Rf_edits_l98 _ _ _ hy24 ?_
    obtain ⟨y25, hy25, h⟩ := zbind h
    refine t_Rf_edits_l128 _ _ _ hy25 ?_
    obtain rfl := Option.some.inj h
    exact zt_vret dX12_edits_263 rfl
  replace h := zneg h hc23
  refine zr_swc (tgt := 84) (by decide) (fun hc26 => ?_) (fun hc26 => ?_)
  · replace h := zpos h hc26
    refine zr_aload ⟨_, dX12_edits_84, rfl⟩ rfl ?_
    refine zt_get dX12_edits_85 fl_X12_312 rfl rfl ?_
    refine zr_if_le (tgt := 263) dX12_edits_88 (by decide) (fun hc27 => ?_) (fun hc27 => ?_)
    · replace h := zpos h hc27
      obtain rfl := Option.some.inj h
      exact zt_vret dX12_edits_263 rfl
    · replace h := zneg h hc27
      refine zr_aload ⟨_, dX12_edits_91, rfl⟩ rfl ?_
      obtain ⟨x28, hx28, h⟩ := zbind h
      refine zt_calliv (t_Rf_takesLast hx28) (zrun_V (rest := []) dX12_edits_92 ml_X12_318 rfl rfl (by decide) (by decide) rfl (Nat.le_of_ble_eq_true rfl)) rfl rfl (Nat.le_refl _) (Nat.le_refl _) ?_
      refine zr_goto (tgt := 263) dX12_edits_95 (by decide) ?_
      obtain rfl := Option.some.inj h
      exact zt_vret dX12_edits_263 rfl
  replace h := zneg h hc26
  refine zr_swd (tgt := 258) (by decide) ?_
  refine zr_aload ⟨_, dX12_edits_258, rfl⟩ rfl ?_
  refine zr_load ⟨_, dX12_edits_259, rfl⟩ rfl ?_
  obtain ⟨x29, hx29, h⟩ := zbind h
  refine zt_calliv (t_Rf_adds hx29) (zrun_V (rest := []) dX12_edits_260 ml_X12_333 rfl rfl (by decide) (by decide) rfl (Nat.le_of_ble_eq_true rfl)) rfl rfl (Nat.le_refl _) (Nat.le_refl _) ?_
  obtain rfl := Option.some.inj h
  exact zt_vret dX12_edits_263 rfl
set_option maxRecDepth 100000 in
set_option maxHeartbeats 4000000 in
theorem t_Rf_types {a1 : Int} {s : zSt} {res : Int × zSt} (h : f_Rf_types a1 s = some res) : zSpecT 13 m_X12_types [.inr (.inl (some 0)), .inl a1] TRf s none res.2 := by
  refine zSpec_of (by decide +kernel) (Nat.le_of_ble_eq_true rfl) ?_
  show zBT 13 m_X12_types TRf none res.2 0 [some (.inr (.inl (some 0))), some (.inl a1)] [] s
  unfold f_Rf_types at h
  refine zr_aload ⟨_, dX12_types_0, rfl⟩ rfl ?_
  refine zr_dup dX12_types_1 (Or.inl True.intro) ?_
  refine zt_get dX12_types_2 fl_X12_336 rfl rfl ?_
  refine zr_iconst dX12_types_5 (by decide) ?_
  refine zr_iadd dX12_types_6 ?_
  refine zt_put dX12_types_7 fl_X12_336 rfl rfl ?_
  refine zr_aload ⟨_, dX12_types_10, rfl⟩ rfl ?_
  refine zt_get dX12_types_11 fl_X12_339 rfl rfl ?_
  refine zr_if_eq (tgt := 30) dX12_types_14 (by decide) (fun hc1 => ?_) (fun hc1 => ?_)
  · replace h := zpos h hc1
    refine zr_aload ⟨_, dX12_types_30, rfl⟩ rfl ?_
    refine zr_load ⟨_, dX12_types_31, rfl⟩ rfl ?_
    obtain ⟨x2, hx2, h⟩ := zbind h
    refine zt_calliv (t_Rf_edits hx2) (zrun_V (rest := []) dX12_types_32 ml_X12_342 rfl rfl (by decide) (by decide) rfl (Nat.le_of_ble_eq_true rfl)) rfl rfl (Nat.le_refl _) (Nat.le_refl _) ?_
    obtain rfl := Option.some.inj h
    exact zt_vret dX12_types_35 rfl
  · replace h := zneg h hc1
    refine zr_aload ⟨_, dX12_types_17, rfl⟩ rfl ?_
    refine zr_load ⟨_, dX12_types_18, rfl⟩ rfl ?_
    obtain ⟨x3, hx3, h⟩ := zbind h
    refine zt_calliv (t_Rf_sends hx3) (zrun_V (rest := []) dX12_types_19 ml_X12_265 rfl rfl (by decide) (by decide) rfl (Nat.le_of_ble_eq_true rfl)) rfl rfl (Nat.le_refl _) (Nat.le_refl _) ?_
    refine zr_aload ⟨_, dX12_types_22, rfl⟩ rfl ?_
    refine zr_load ⟨_, dX12_types_23, rfl⟩ rfl ?_
    obtain ⟨x4, hx4, h⟩ := zbind h
    refine zt_calliv (t_Rf_echo hx4) (zrun_V (rest := []) dX12_types_24 ml_X12_315 rfl rfl (by decide) (by decide) rfl (Nat.le_of_ble_eq_true rfl)) rfl rfl (Nat.le_refl _) (Nat.le_refl _) ?_
    refine zr_goto (tgt := 35) dX12_types_27 (by decide) ?_
    obtain rfl := Option.some.inj h
    exact zt_vret dX12_types_35 rfl
set_option maxRecDepth 100000 in
set_option maxHeartbeats 4000000 in
theorem t_Rf_type {a1 : Int} {s : zSt} {res : Int × zSt} (h : f_Rf_type a1 s = some res) : zSpecT 14 m_X12_type [.inr (.inl (some 0)), .inl a1] TRf s (some (.inl res.1)) res.2 := by
  refine zSpec_of (by decide +kernel) (Nat.le_of_ble_eq_true rfl) ?_
  show zBT 14 m_X12_type TRf (some (.inl res.1)) res.2 0 [some (.inr (.inl (some 0))), some (.inl a1)] [] s
  unfold f_Rf_type at h
  refine zr_aload ⟨_, dX12_type_0, rfl⟩ rfl ?_
  refine zr_load ⟨_, dX12_type_1, rfl⟩ rfl ?_
  refine zr_iconst dX12_type_2 (by decide) ?_
  refine zr_bipush dX12_type_3 (by decide) (by decide) ?_
  obtain ⟨x1, hx1, h⟩ := zbind h
  refine zt_call0 (t_Rf_in hx1) (zrun_S (rest := [.inr (.inl (some 0))]) dX12_type_5 ml_X12_83 rfl (by decide) (by decide) rfl (Nat.le_of_ble_eq_true rfl)) rfl rfl (Nat.le_refl _) (Nat.le_refl _) ?_
  have hj2 : zBT 14 m_X12_type TRf (some (.inl res.1)) res.2 16 [some (.inr (.inl (some 0))), some (.inl a1)] [.inl (if x1 = 0 then 1 else 0), .inr (.inl (some 0))] s := by
    refine zt_put dX12_type_16 fl_X12_80 rfl rfl ?_
    refine zr_aload ⟨_, dX12_type_19, rfl⟩ rfl ?_
    refine zt_get dX12_type_20 fl_X12_80 rfl rfl ?_
    refine zr_if_le (tgt := 28) dX12_type_23 (by decide) (fun hc4 => ?_) (fun hc4 => ?_)
    · replace h := zpos h hc4
      refine zr_aload ⟨_, dX12_type_28, rfl⟩ rfl ?_
      refine zr_load ⟨_, dX12_type_29, rfl⟩ rfl ?_
      obtain ⟨x5, hx5, h⟩ := zbind h
      refine zt_calliv (t_Rf_types hx5) (zrun_V (rest := []) dX12_type_30 ml_X12_345 rfl rfl (by decide) (by decide) rfl (Nat.le_of_ble_eq_true rfl)) rfl rfl (Nat.le_refl _) (Nat.le_refl _) ?_
      refine zr_aload ⟨_, dX12_type_33, rfl⟩ rfl ?_
      refine zt_get dX12_type_34 fl_X12_339 rfl rfl ?_
      have hj6 : zBT 14 m_X12_type TRf (some (.inl res.1)) res.2 48 [some (.inr (.inl (some 0))), some (.inl a1)] [.inl (if (x5.2.1 0 40) = 0 then (x5.2.1 0 46) else 0)] x5.2 := by
        obtain rfl := Option.some.inj h
        exact zt_iret dX12_type_48 rfl
      refine zr_if_eq (tgt := 44) dX12_type_37 (by decide) (fun hc7 => ?_) (fun hc7 => ?_)
      · have hp8 := zif_t hj6 hc7
        refine zr_aload ⟨_, dX12_type_44, rfl⟩ rfl ?_
        refine zt_get dX12_type_45 fl_X12_312 rfl rfl ?_
        exact hp8
      · have hp9 := zif_f hj6 hc7
        refine zr_iconst dX12_type_40 (by decide) ?_
        refine zr_goto (tgt := 48) dX12_type_41 (by decide) ?_
        exact hp9
    · replace h := zneg h hc4
      refine zr_iconst dX12_type_26 (by decide) ?_
      obtain rfl := Option.some.inj h
      exact zt_iret dX12_type_27 rfl
  refine zr_if_eq (tgt := 15) dX12_type_8 (by decide) (fun hc3 => ?_) (fun hc3 => ?_)
  · have hp10 := zif_t hj2 hc3
    refine zr_iconst dX12_type_15 (by decide) ?_
    exact hp10
  · have hp11 := zif_f hj2 hc3
    refine zr_iconst dX12_type_11 (by decide) ?_
    refine zr_goto (tgt := 16) dX12_type_12 (by decide) ?_
    exact hp11
set_option maxRecDepth 100000 in
set_option maxHeartbeats 4000000 in
theorem t_Rf_key_j130 {v1 : Int} {s : zSt} {res : Int × zSt} (h : f_Rf_key_j130 v1 s = some res) : zBT 14 m_X12_key TRf (some (.inl res.1)) res.2 130 [some (.inr (.inl (some 0))), some (.inl v1), none, none] [] s := by
  unfold f_Rf_key_j130 at h
  refine zr_aload ⟨_, dX12_key_130, rfl⟩ rfl ?_
  refine zr_load ⟨_, dX12_key_131, rfl⟩ rfl ?_
  refine zr_bipush dX12_key_132 (by decide) (by decide) ?_
  refine zr_ic_ne (tgt := 142) dX12_key_134 (by decide) (fun hc1 => ?_) (fun hc1 => ?_)
  · replace h := zpos h hc1
    refine zr_load ⟨_, dX12_key_142, rfl⟩ rfl ?_
    obtain ⟨x2, hx2, h⟩ := zbind h
    refine zt_call0 (t_Rf_letter hx2) (zrun_S (rest := [.inr (.inl (some 0))]) dX12_key_143 ml_X12_348 rfl (by decide) (by decide) rfl (Nat.le_of_ble_eq_true rfl)) rfl rfl (Nat.le_refl _) (Nat.le_refl _) ?_
    obtain ⟨x3, hx3, h⟩ := zbind h
    refine zt_calliv (t_Rf_types hx3) (zrun_V (rest := []) dX12_key_146 ml_X12_345 rfl rfl (by decide) (by decide) rfl (Nat.le_of_ble_eq_true rfl)) rfl rfl (Nat.le_refl _) (Nat.le_refl _) ?_
    refine zr_aload ⟨_, dX12_key_149, rfl⟩ rfl ?_
    refine zt_get dX12_key_150 fl_X12_336 rfl rfl ?_
    obtain rfl := Option.some.inj h
    exact zt_iret dX12_key_153 rfl
  · replace h := zneg h hc1
    refine zr_bipush dX12_key_137 (by decide) (by decide) ?_
    refine zr_goto (tgt := 146) dX12_key_139 (by decide) ?_
    obtain ⟨x4, hx4, h⟩ := zbind h
    refine zt_calliv (t_Rf_types hx4) (zrun_V (rest := []) dX12_key_146 ml_X12_345 rfl rfl (by decide) (by decide) rfl (Nat.le_of_ble_eq_true rfl)) rfl rfl (Nat.le_refl _) (Nat.le_refl _) ?_
    refine zr_aload ⟨_, dX12_key_149, rfl⟩ rfl ?_
    refine zt_get dX12_key_150 fl_X12_336 rfl rfl ?_
    obtain rfl := Option.some.inj h
    exact zt_iret dX12_key_153 rfl
set_option maxRecDepth 100000 in
set_option maxHeartbeats 4000000 in
theorem t_Rf_key_j112 {v1 v2 : Int} {s : zSt} {res : Int × zSt} (h : f_Rf_key_j112 v1 v2 s = some res) : zBT 14 m_X12_key TRf (some (.inl res.1)) res.2 112 [some (.inr (.inl (some 0))), some (.inl v1), some (.inl v2), none] [] s := by
  unfold f_Rf_key_j112 at h
  refine zr_load ⟨_, dX12_key_112, rfl⟩ rfl ?_
  refine zr_if_le (tgt := 130) dX12_key_113 (by decide) (fun hc1 => ?_) (fun hc1 => ?_)
  · replace h := zpos h hc1
    refine zr_mask [true, true, false, false] rfl ?_
    exact t_Rf_key_j130 h
  · replace h := zneg h hc1
    refine zr_aload ⟨_, dX12_key_116, rfl⟩ rfl ?_
    refine zr_bipush dX12_key_117 (by decide) (by decide) ?_
    obtain ⟨x2, hx2, h⟩ := zbind h
    refine zt_calliv (t_Rf_types hx2) (zrun_V (rest := []) dX12_key_119 ml_X12_345 rfl rfl (by decide) (by decide) rfl (Nat.le_of_ble_eq_true rfl)) rfl rfl (Nat.le_refl _) (Nat.le_refl _) ?_
    refine zr_aload ⟨_, dX12_key_122, rfl⟩ rfl ?_
    refine zr_bipush dX12_key_123 (by decide) (by decide) ?_
    refine zr_load ⟨_, dX12_key_125, rfl⟩ rfl ?_
    refine zr_iadd dX12_key_126 ?_
    obtain ⟨x3, hx3, h⟩ := zbind h
    refine zt_calliv (t_Rf_types hx3) (zrun_V (rest := []) dX12_key_127 ml_X12_345 rfl rfl (by decide) (by decide) rfl (Nat.le_of_ble_eq_true rfl)) rfl rfl (Nat.le_refl _) (Nat.le_refl _) ?_
    refine zr_mask [true, true, false, false] rfl ?_
    exact t_Rf_key_j130 h
set_option maxRecDepth 100000 in
set_option maxHeartbeats 4000000 in
theorem t_Rf_key_j26 {v1 v2 k0 : Int} {s : zSt} {res : Int × zSt} (h : f_Rf_key_j26 v1 v2 k0 s = some res) : zBT 14 m_X12_key TRf (some (.inl res.1)) res.2 26 [some (.inr (.inl (some 0))), some (.inl v1), some (.inl v2), none] [.inl k0, .inr (.inl (some 0))] s := by
  unfold f_Rf_key_j26 at h
  refine zt_put dX12_key_26 fl_X12_80 rfl rfl ?_
  refine zr_aload ⟨_, dX12_key_29, rfl⟩ rfl ?_
  refine zt_get dX12_key_30 fl_X12_80 rfl rfl ?_
  refine zr_if_le (tgt := 38) dX12_key_33 (by decide) (fun hc1 => ?_) (fun hc1 => ?_)
  · replace h := zpos h hc1
    refine zr_aload ⟨_, dX12_key_38, rfl⟩ rfl ?_
    refine zt_get dX12_key_39 fl_X12_176 rfl rfl ?_
    have hj2 : zBT 14 m_X12_key TRf (some (.inl res.1)) res.2 60 [some (.inr (.inl (some 0))), some (.inl v1), some (.inl v2), none] [.inl (if (s.1 0 16) = 0 then 0 else (if 6 ≤ v1 then 0 else (if ¬ v2 = 0 then 0 else 1)))] (uS s 0 0 k0) := by
      refine zr_store ⟨_, dX12_key_60, rfl⟩ (by decide) rfl ?_
      refine zr_aload ⟨_, dX12_key_61, rfl⟩ rfl ?_
      refine zr_iconst dX12_key_62 (by decide) ?_
      refine zt_put dX12_key_63 fl_X12_336 rfl rfl ?_
      refine zr_aload ⟨_, dX12_key_66, rfl⟩ rfl ?_
      refine zr_bipush dX12_key_67 (by decide) (by decide) ?_
      obtain ⟨x4, hx4, h⟩ := zbind h
      refine zt_calliv (t_Rf_types hx4) (zrun_V (rest := []) dX12_key_69 ml_X12_345 rfl rfl (by decide) (by decide) rfl (Nat.le_of_ble_eq_true rfl)) rfl rfl (Nat.le_refl _) (Nat.le_refl _) ?_
      refine zr_aload ⟨_, dX12_key_72, rfl⟩ rfl ?_
      refine zr_load ⟨_, dX12_key_73, rfl⟩ rfl ?_
      have hj5 : zBT 14 m_X12_key TRf (some (.inl res.1)) res.2 84 [some (.inr (.inl (some 0))), some (.inl v1), some (.inl v2), some (.inl (if (s.1 0 16) = 0 then 0 else (if 6 ≤ v1 then 0 else (if ¬ v2 = 0 then 0 else 1))))] [.inl (if ((if (s.1 0 16) = 0 then 0 else (if 6 ≤ v1 then 0 else (if ¬ v2 = 0 then 0 else 1))) : Int) = 0 then 91 else 79), .inr (.inl (some 0))] x4.2 := by
        obtain ⟨x7, hx7, h⟩ := zbind h
        refine zt_calliv (t_Rf_types hx7) (zrun_V (rest := []) dX12_key_84 ml_X12_345 rfl rfl (by decide) (by decide) rfl (Nat.le_of_ble_eq_true rfl)) rfl rfl (Nat.le_refl _) (Nat.le_refl _) ?_
        refine zr_load ⟨_, dX12_key_87, rfl⟩ rfl ?_
        refine zr_bipush dX12_key_88 (by decide) (by decide) ?_
        refine zr_ic_ne (tgt := 102) dX12_key_90 (by decide) (fun hc8 => ?_) (fun hc8 => ?_)
        · replace h := zpos h hc8
          refine zr_load ⟨_, dX12_key_102, rfl⟩ rfl ?_
          refine zr_if_le (tgt := 112) dX12_key_103 (by decide) (fun hc9 => ?_) (fun hc9 => ?_)
          · replace h := zpos h hc9
            refine zr_mask [true, true, true, false] rfl ?_
            exact t_Rf_key_j112 h
          · replace h := zneg h hc9
            refine zr_aload ⟨_, dX12_key_106, rfl⟩ rfl ?_
            refine zr_bipush dX12_key_107 (by decide) (by decide) ?_
            obtain ⟨x10, hx10, h⟩ := zbind h
            refine zt_calliv (t_Rf_types hx10) (zrun_V (rest := []) dX12_key_109 ml_X12_345 rfl rfl (by decide) (by decide) rfl (Nat.le_of_ble_eq_true rfl)) rfl rfl (Nat.le_refl _) (Nat.le_refl _) ?_
            refine zr_mask [true, true, true, false] rfl ?_
            exact t_Rf_key_j112 h
        · replace h := zneg h hc8
          refine zr_aload ⟨_, dX12_key_93, rfl⟩ rfl ?_
          refine zr_bipush dX12_key_94 (by decide) (by decide) ?_
          obtain ⟨x11, hx11, h⟩ := zbind h
          refine zt_calliv (t_Rf_types hx11) (zrun_V (rest := []) dX12_key_96 ml_X12_345 rfl rfl (by decide) (by decide) rfl (Nat.le_of_ble_eq_true rfl)) rfl rfl (Nat.le_refl _) (Nat.le_refl _) ?_
          refine zr_goto (tgt := 112) dX12_key_99 (by decide) ?_
          refine zr_mask [true, true, true, false] rfl ?_
          exact t_Rf_key_j112 h
      refine zr_if_eq (tgt := 82) dX12_key_74 (by decide) (fun hc6 => ?_) (fun hc6 => ?_)
      · have hp12 := zif_t hj5 hc6
        refine zr_bipush dX12_key_82 (by decide) (by decide) ?_
        exact hp12
      · have hp13 := zif_f hj5 hc6
        refine zr_bipush dX12_key_77 (by decide) (by decide) ?_
        refine zr_goto (tgt := 84) dX12_key_79 (by decide) ?_
        exact hp13
    refine zr_if_eq (tgt := 59) dX12_key_42 (by decide) (fun hc3 => ?_) (fun hc3 => ?_)
    · have hp14 := zif_t hj2 hc3
      refine zr_iconst dX12_key_59 (by decide) ?_
      exact hp14
    · have hp15 := zif_f hj2 hc3
      refine zr_load ⟨_, dX12_key_45, rfl⟩ rfl ?_
      refine zr_bipush dX12_key_46 (by decide) (by decide) ?_
      refine zr_ic_ge (tgt := 59) dX12_key_48 (by decide) (fun hc16 => ?_) (fun hc16 => ?_)
      · have hp17 := zif_t hp15 hc16
        refine zr_iconst dX12_key_59 (by decide) ?_
        exact hp17
      · have hp18 := zif_f hp15 hc16
        refine zr_load ⟨_, dX12_key_51, rfl⟩ rfl ?_
        refine zr_if_ne (tgt := 59) dX12_key_52 (by decide) (fun hc19 => ?_) (fun hc19 => ?_)
        · have hp20 := zif_t hp18 hc19
          refine zr_iconst dX12_key_59 (by decide) ?_
          exact hp20
        · have hp21 := zif_f hp18 hc19
          refine zr_iconst dX12_key_55 (by decide) ?_
          refine zr_goto (tgt := 60) dX12_key_56 (by decide) ?_
          exact hp21
  · replace h := zneg h hc1
    refine zr_iconst dX12_key_36 (by decide) ?_
    obtain rfl := Option.some.inj h
    exact zt_iret dX12_key_37 rfl
set_option maxRecDepth 100000 in
set_option maxHeartbeats 4000000 in
theorem t_Rf_key_j25 {v1 v2 : Int} {s : zSt} {res : Int × zSt} (h : f_Rf_key_j25 v1 v2 s = some res) : zBT 14 m_X12_key TRf (some (.inl res.1)) res.2 25 [some (.inr (.inl (some 0))), some (.inl v1), some (.inl v2), none] [.inr (.inl (some 0))] s := by
  unfold f_Rf_key_j25 at h
  refine zr_iconst dX12_key_25 (by decide) ?_
  exact t_Rf_key_j26 h
set_option maxRecDepth 100000 in
set_option maxHeartbeats 4000000 in
theorem t_Rf_key {a1 a2 : Int} {s : zSt} {res : Int × zSt} (h : f_Rf_key a1 a2 s = some res) : zSpecT 14 m_X12_key [.inr (.inl (some 0)), .inl a1, .inl a2] TRf s (some (.inl res.1)) res.2 := by
  refine zSpec_of (by decide +kernel) (Nat.le_of_ble_eq_true rfl) ?_
  show zBT 14 m_X12_key TRf (some (.inl res.1)) res.2 0 [some (.inr (.inl (some 0))), some (.inl a1), some (.inl a2), none] [] s
  unfold f_Rf_key at h
  refine zr_aload ⟨_, dX12_key_0, rfl⟩ rfl ?_
  refine zr_load ⟨_, dX12_key_1, rfl⟩ rfl ?_
  refine zr_iconst dX12_key_2 (by decide) ?_
  refine zr_bipush dX12_key_3 (by decide) (by decide) ?_
  obtain ⟨x1, hx1, h⟩ := zbind h
  refine zt_call0 (t_Rf_in hx1) (zrun_S (rest := [.inr (.inl (some 0))]) dX12_key_5 ml_X12_83 rfl (by decide) (by decide) rfl (Nat.le_of_ble_eq_true rfl)) rfl rfl (Nat.le_refl _) (Nat.le_refl _) ?_
  refine zr_if_eq (tgt := 25) dX12_key_8 (by decide) (fun hc2 => ?_) (fun hc2 => ?_)
  · replace h := zpos h hc2
    exact t_Rf_key_j25 h
  · replace h := zneg h hc2
    refine zr_load ⟨_, dX12_key_11, rfl⟩ rfl ?_
    refine zr_iconst dX12_key_12 (by decide) ?_
    refine zr_bipush dX12_key_13 (by decide) (by decide) ?_
    obtain ⟨x3, hx3, h⟩ := zbind h
    refine zt_call0 (t_Rf_in hx3) (zrun_S (rest := [.inr (.inl (some 0))]) dX12_key_15 ml_X12_83 rfl (by decide) (by decide) rfl (Nat.le_of_ble_eq_true rfl)) rfl rfl (Nat.le_refl _) (Nat.le_refl _) ?_
    have hj4 : zBT 14 m_X12_key TRf (some (.inl res.1)) res.2 26 [some (.inr (.inl (some 0))), some (.inl a1), some (.inl a2), none] [.inl (if x3 = 0 then 1 else 0), .inr (.inl (some 0))] s := by
      refine zt_put dX12_key_26 fl_X12_80 rfl rfl ?_
      refine zr_aload ⟨_, dX12_key_29, rfl⟩ rfl ?_
      refine zt_get dX12_key_30 fl_X12_80 rfl rfl ?_
      refine zr_if_le (tgt := 38) dX12_key_33 (by decide) (fun hc6 => ?_) (fun hc6 => ?_)
      · replace h := zpos h hc6
        refine zr_aload ⟨_, dX12_key_38, rfl⟩ rfl ?_
        refine zt_get dX12_key_39 fl_X12_176 rfl rfl ?_
        have hj7 : zBT 14 m_X12_key TRf (some (.inl res.1)) res.2 60 [some (.inr (.inl (some 0))), some (.inl a1), some (.inl a2), none] [.inl (if (s.1 0 16) = 0 then 0 else (if 6 ≤ a1 then 0 else (if ¬ a2 = 0 then 0 else 1)))] (uS s 0 0 (if x3 = 0 then 1 else 0)) := by
          refine zr_store ⟨_, dX12_key_60, rfl⟩ (by decide) rfl ?_
          refine zr_aload ⟨_, dX12_key_61, rfl⟩ rfl ?_
          refine zr_iconst dX12_key_62 (by decide) ?_
          refine zt_put dX12_key_63 fl_X12_336 rfl rfl ?_
          refine zr_aload ⟨_, dX12_key_66, rfl⟩ rfl ?_
          refine zr_bipush dX12_key_67 (by decide) (by decide) ?_
          obtain ⟨x9, hx9, h⟩ := zbind h
          refine zt_calliv (t_Rf_types hx9) (zrun_V (rest := []) dX12_key_69 ml_X12_345 rfl rfl (by decide) (by decide) rfl (Nat.le_of_ble_eq_true rfl)) rfl rfl (Nat.le_refl _) (Nat.le_refl _) ?_
          refine zr_aload ⟨_, dX12_key_72, rfl⟩ rfl ?_
          refine zr_load ⟨_, dX12_key_73, rfl⟩ rfl ?_
          have hj10 : zBT 14 m_X12_key TRf (some (.inl res.1)) res.2 84 [some (.inr (.inl (some 0))), some (.inl a1), some (.inl a2), some (.inl (if (s.1 0 16) = 0 then 0 else (if 6 ≤ a1 then 0 else (if ¬ a2 = 0 then 0 else 1))))] [.inl (if ((if (s.1 0 16) = 0 then 0 else (if 6 ≤ a1 then 0 else (if ¬ a2 = 0 then 0 else 1))) : Int) = 0 then 91 else 79), .inr (.inl (some 0))] x9.2 := by
            obtain ⟨x12, hx12, h⟩ := zbind h
            refine zt_calliv (t_Rf_types hx12) (zrun_V (rest := []) dX12_key_84 ml_X12_345 rfl rfl (by decide) (by decide) rfl (Nat.le_of_ble_eq_true rfl)) rfl rfl (Nat.le_refl _) (Nat.le_refl _) ?_
            refine zr_load ⟨_, dX12_key_87, rfl⟩ rfl ?_
            refine zr_bipush dX12_key_88 (by decide) (by decide) ?_
            refine zr_ic_ne (tgt := 102) dX12_key_90 (by decide) (fun hc13 => ?_) (fun hc13 => ?_)
            · replace h := zpos h hc13
              refine zr_load ⟨_, dX12_key_102, rfl⟩ rfl ?_
              refine zr_if_le (tgt := 112) dX12_key_103 (by decide) (fun hc14 => ?_) (fun hc14 => ?_)
              · replace h := zpos h hc14
                refine zr_mask [true, true, true, false] rfl ?_
                exact t_Rf_key_j112 h
              · replace h := zneg h hc14
                refine zr_aload ⟨_, dX12_key_106, rfl⟩ rfl ?_
                refine zr_bipush dX12_key_107 (by decide) (by decide) ?_
                obtain ⟨x15, hx15, h⟩ := zbind h
                refine zt_calliv (t_Rf_types hx15) (zrun_V (rest := []) dX12_key_109 ml_X12_345 rfl rfl (by decide) (by decide) rfl (Nat.le_of_ble_eq_true rfl)) rfl rfl (Nat.le_refl _) (Nat.le_refl _) ?_
                refine zr_mask [true, true, true, false] rfl ?_
                exact t_Rf_key_j112 h
            · replace h := zneg h hc13
              refine zr_aload ⟨_, dX12_key_93, rfl⟩ rfl ?_
              refine zr_bipush dX12_key_94 (by decide) (by decide) ?_
              obtain ⟨x16, hx16, h⟩ := zbind h
              refine zt_calliv (t_Rf_types hx16) (zrun_V (rest := []) dX12_key_96 ml_X12_345 rfl rfl (by decide) (by decide) rfl (Nat.le_of_ble_eq_true rfl)) rfl rfl (Nat.le_refl _) (Nat.le_refl _) ?_
              refine zr_goto (tgt := 112) dX12_key_99 (by decide) ?_
              refine zr_mask [true, true, true, false] rfl ?_
              exact t_Rf_key_j112 h
          refine zr_if_eq (tgt := 82) dX12_key_74 (by decide) (fun hc11 => ?_) (fun hc11 => ?_)
          · have hp17 := zif_t hj10 hc11
            refine zr_bipush dX12_key_82 (by decide) (by decide) ?_
            exact hp17
          · have hp18 := zif_f hj10 hc11
            refine zr_bipush dX12_key_77 (by decide) (by decide) ?_
            refine zr_goto (tgt := 84) dX12_key_79 (by decide) ?_
            exact hp18
        refine zr_if_eq (tgt := 59) dX12_key_42 (by decide) (fun hc8 => ?_) (fun hc8 => ?_)
        · have hp19 := zif_t hj7 hc8
          refine zr_iconst dX12_key_59 (by decide) ?_
          exact hp19
        · have hp20 := zif_f hj7 hc8
          refine zr_load ⟨_, dX12_key_45, rfl⟩ rfl ?_
          refine zr_bipush dX12_key_46 (by decide) (by decide) ?_
          refine zr_ic_ge (tgt := 59) dX12_key_48 (by decide) (fun hc21 => ?_) (fun hc21 => ?_)
          · have hp22 := zif_t hp20 hc21
            refine zr_iconst dX12_key_59 (by decide) ?_
            exact hp22
          · have hp23 := zif_f hp20 hc21
            refine zr_load ⟨_, dX12_key_51, rfl⟩ rfl ?_
            refine zr_if_ne (tgt := 59) dX12_key_52 (by decide) (fun hc24 => ?_) (fun hc24 => ?_)
            · have hp25 := zif_t hp23 hc24
              refine zr_iconst dX12_key_59 (by decide) ?_
              exact hp25
            · have hp26 := zif_f hp23 hc24
              refine zr_iconst dX12_key_55 (by decide) ?_
              refine zr_goto (tgt := 60) dX12_key_56 (by decide) ?_
              exact hp26
      · replace h := zneg h hc6
        refine zr_iconst dX12_key_36 (by decide) ?_
        obtain rfl := Option.some.inj h
        exact zt_iret dX12_key_37 rfl
    refine zr_if_eq (tgt := 25) dX12_key_18 (by decide) (fun hc5 => ?_) (fun hc5 => ?_)
    · have hp27 := zif_t hj4 hc5
      refine zr_iconst dX12_key_25 (by decide) ?_
      exact hp27
    · have hp28 := zif_f hj4 hc5
      refine zr_iconst dX12_key_21 (by decide) ?_
      refine zr_goto (tgt := 26) dX12_key_22 (by decide) ?_
      exact hp28
set_option maxRecDepth 100000 in
set_option maxHeartbeats 4000000 in
theorem t_Rf_typesAround {a1 : Int} {s : zSt} {res : Int × zSt} (h : f_Rf_typesAround a1 s = some res) : zSpecT 14 m_X12_typesAround [.inr (.inl (some 0)), .inl a1] TRf s none res.2 := by
  refine zSpec_of (by decide +kernel) (Nat.le_of_ble_eq_true rfl) ?_
  show zBT 14 m_X12_typesAround TRf none res.2 0 [some (.inr (.inl (some 0))), some (.inl a1)] [] s
  unfold f_Rf_typesAround at h
  refine zr_aload ⟨_, dX12_typesAround_0, rfl⟩ rfl ?_
  refine zr_bipush dX12_typesAround_1 (by decide) (by decide) ?_
  obtain ⟨x1, hx1, h⟩ := zbind h
  refine zt_calliv (t_Rf_types hx1) (zrun_V (rest := []) dX12_typesAround_3 ml_X12_345 rfl rfl (by decide) (by decide) rfl (Nat.le_of_ble_eq_true rfl)) rfl rfl (Nat.le_refl _) (Nat.le_refl _) ?_
  refine zr_aload ⟨_, dX12_typesAround_6, rfl⟩ rfl ?_
  refine zr_bipush dX12_typesAround_7 (by decide) (by decide) ?_
  obtain ⟨x2, hx2, h⟩ := zbind h
  refine zt_calliv (t_Rf_types hx2) (zrun_V (rest := []) dX12_typesAround_9 ml_X12_345 rfl rfl (by decide) (by decide) rfl (Nat.le_of_ble_eq_true rfl)) rfl rfl (Nat.le_refl _) (Nat.le_refl _) ?_
  refine zr_aload ⟨_, dX12_typesAround_12, rfl⟩ rfl ?_
  refine zr_bipush dX12_typesAround_13 (by decide) (by decide) ?_
  obtain ⟨x3, hx3, h⟩ := zbind h
  refine zt_calliv (t_Rf_types hx3) (zrun_V (rest := []) dX12_typesAround_15 ml_X12_345 rfl rfl (by decide) (by decide) rfl (Nat.le_of_ble_eq_true rfl)) rfl rfl (Nat.le_refl _) (Nat.le_refl _) ?_
  refine zr_aload ⟨_, dX12_typesAround_18, rfl⟩ rfl ?_
  refine zr_bipush dX12_typesAround_19 (by decide) (by decide) ?_
  obtain ⟨x4, hx4, h⟩ := zbind h
  refine zt_calliv (t_Rf_types hx4) (zrun_V (rest := []) dX12_typesAround_21 ml_X12_345 rfl rfl (by decide) (by decide) rfl (Nat.le_of_ble_eq_true rfl)) rfl rfl (Nat.le_refl _) (Nat.le_refl _) ?_
  refine zr_aload ⟨_, dX12_typesAround_24, rfl⟩ rfl ?_
  refine zr_load ⟨_, dX12_typesAround_25, rfl⟩ rfl ?_
  obtain ⟨x5, hx5, h⟩ := zbind h
  refine zt_calliv (t_Rf_types hx5) (zrun_V (rest := []) dX12_typesAround_26 ml_X12_345 rfl rfl (by decide) (by decide) rfl (Nat.le_of_ble_eq_true rfl)) rfl rfl (Nat.le_refl _) (Nat.le_refl _) ?_
  refine zr_aload ⟨_, dX12_typesAround_29, rfl⟩ rfl ?_
  refine zr_bipush dX12_typesAround_30 (by decide) (by decide) ?_
  obtain ⟨x6, hx6, h⟩ := zbind h
  refine zt_calliv (t_Rf_types hx6) (zrun_V (rest := []) dX12_typesAround_32 ml_X12_345 rfl rfl (by decide) (by decide) rfl (Nat.le_of_ble_eq_true rfl)) rfl rfl (Nat.le_refl _) (Nat.le_refl _) ?_
  obtain rfl := Option.some.inj h
  exact zt_vret dX12_typesAround_35 rfl
set_option maxRecDepth 100000 in
set_option maxHeartbeats 4000000 in
theorem t_Rf_typesNumber {a1 : Int} {s : zSt} {res : Int × zSt} (h : f_Rf_typesNumber a1 s = some res) : zSpecT 14 m_X12_typesNumber [.inr (.inl (some 0)), .inl a1] TRf s none res.2 := by
  refine zSpec_of (by decide +kernel) (Nat.le_of_ble_eq_true rfl) ?_
  show zBT 14 m_X12_typesNumber TRf none res.2 0 [some (.inr (.inl (some 0))), some (.inl a1)] [] s
  unfold f_Rf_typesNumber at h
  refine zr_load ⟨_, dX12_typesNumber_0, rfl⟩ rfl ?_
  refine zr_bipush dX12_typesNumber_1 (by decide) (by decide) ?_
  refine zr_ic_le (tgt := 17) dX12_typesNumber_3 (by decide) (fun hc1 => ?_) (fun hc1 => ?_)
  · replace h := zpos h hc1
    refine zr_aload ⟨_, dX12_typesNumber_17, rfl⟩ rfl ?_
    refine zr_bipush dX12_typesNumber_18 (by decide) (by decide) ?_
    refine zr_load ⟨_, dX12_typesNumber_20, rfl⟩ rfl ?_
    refine zr_bipush dX12_typesNumber_21 (by decide) (by decide) ?_
    refine zr_irem dX12_typesNumber_23 (by decide) ?_
    refine zr_iadd dX12_typesNumber_24 ?_
    obtain ⟨x2, hx2, h⟩ := zbind h
    refine zt_calliv (t_Rf_types hx2) (zrun_V (rest := []) dX12_typesNumber_25 ml_X12_345 rfl rfl (by decide) (by decide) rfl (Nat.le_of_ble_eq_true rfl)) rfl rfl (Nat.le_refl _) (Nat.le_refl _) ?_
    obtain rfl := Option.some.inj h
    exact zt_vret dX12_typesNumber_28 rfl
  · replace h := zneg h hc1
    refine zr_aload ⟨_, dX12_typesNumber_6, rfl⟩ rfl ?_
    refine zr_bipush dX12_typesNumber_7 (by decide) (by decide) ?_
    refine zr_load ⟨_, dX12_typesNumber_9, rfl⟩ rfl ?_
    refine zr_bipush dX12_typesNumber_10 (by decide) (by decide) ?_
    refine zr_idiv dX12_typesNumber_12 (by decide) ?_
    refine zr_iadd dX12_typesNumber_13 ?_
    obtain ⟨x3, hx3, h⟩ := zbind h
    refine zt_calliv (t_Rf_types hx3) (zrun_V (rest := []) dX12_typesNumber_14 ml_X12_345 rfl rfl (by decide) (by decide) rfl (Nat.le_of_ble_eq_true rfl)) rfl rfl (Nat.le_refl _) (Nat.le_refl _) ?_
    refine zr_aload ⟨_, dX12_typesNumber_17, rfl⟩ rfl ?_
    refine zr_bipush dX12_typesNumber_18 (by decide) (by decide) ?_
    refine zr_load ⟨_, dX12_typesNumber_20, rfl⟩ rfl ?_
    refine zr_bipush dX12_typesNumber_21 (by decide) (by decide) ?_
    refine zr_irem dX12_typesNumber_23 (by decide) ?_
    refine zr_iadd dX12_typesNumber_24 ?_
    obtain ⟨x4, hx4, h⟩ := zbind h
    refine zt_calliv (t_Rf_types hx4) (zrun_V (rest := []) dX12_typesNumber_25 ml_X12_345 rfl rfl (by decide) (by decide) rfl (Nat.le_of_ble_eq_true rfl)) rfl rfl (Nat.le_refl _) (Nat.le_refl _) ?_
    obtain rfl := Option.some.inj h
    exact zt_vret dX12_typesNumber_28 rfl
set_option maxRecDepth 100000 in
set_option maxHeartbeats 4000000 in
theorem t_Rf_paste_l27 {c1 : Int} {r : Option zAV} {s0 : zSt}  : ∀ (n : Nat) (x : Int × zSt) (out : zSt), zloop (f_Rf_paste_l27 c1) n x = some out → (zBT 15 m_X12_paste TRf r s0 62 [some (.inr (.inl (some 0))), some (.inl c1), none] [] out) → zBT 15 m_X12_paste TRf r s0 27 [some (.inr (.inl (some 0))), some (.inl c1), some (.inl x.1)] [] x.2 := by
  refine zloop_B (B := fun (x : Int × zSt) (out : zSt) => zBT 15 m_X12_paste TRf r s0 62 [some (.inr (.inl (some 0))), some (.inl c1), none] [] out → zBT 15 m_X12_paste TRf r s0 27 [some (.inr (.inl (some 0))), some (.inl c1), some (.inl x.1)] [] x.2) ?_
  intro x o out h hk hx
  unfold f_Rf_paste_l27 at h
  refine zr_load ⟨_, dX12_paste_27, rfl⟩ rfl ?_
  refine zr_aload ⟨_, dX12_paste_28, rfl⟩ rfl ?_
  refine zt_get dX12_paste_29 fl_X12_351 rfl rfl ?_
  refine zr_ic_ge (tgt := 62) dX12_paste_32 (by decide) (fun hc1 => ?_) (fun hc1 => ?_)
  · replace h := zpos h hc1
    refine zr_mask [true, true, false] rfl ?_
    obtain rfl := Option.some.inj h
    obtain rfl := hk
    exact hx
  · replace h := zneg h hc1
    refine zr_aload ⟨_, dX12_paste_35, rfl⟩ rfl ?_
    refine zt_getr dX12_paste_36 fl_X12_61 rfl rfl ?_
    refine zr_load ⟨_, dX12_paste_39, rfl⟩ rfl ?_
    obtain ⟨hb2, h⟩ := zchk h
    refine zt_iaload dX12_paste_40 rfl hb2 ?_
    refine zr_bipush dX12_paste_41 (by decide) (by decide) ?_
    refine zr_ic_eq (tgt := 56) dX12_paste_43 (by decide) (fun hc3 => ?_) (fun hc3 => ?_)
    · replace h := zpos h hc3
      refine zr_iinc dX12_paste_56 rfl (by decide) rfl ?_
      refine zr_goto (tgt := 27) dX12_paste_59 (by decide) ?_
      obtain rfl := Option.some.inj h
      exact hk hx
    · replace h := zneg h hc3
      refine zr_aload ⟨_, dX12_paste_46, rfl⟩ rfl ?_
      refine zr_aload ⟨_, dX12_paste_47, rfl⟩ rfl ?_
      refine zt_getr dX12_paste_48 fl_X12_61 rfl rfl ?_
      refine zr_load ⟨_, dX12_paste_51, rfl⟩ rfl ?_
      obtain ⟨hb4, h⟩ := zchk h
      refine zt_iaload dX12_paste_52 rfl hb4 ?_
      obtain ⟨x5, hx5, h⟩ := zbind h
      refine zt_calliv (t_Rf_types hx5) (zrun_V (rest := []) dX12_paste_53 ml_X12_345 rfl rfl (by decide) (by decide) rfl (Nat.le_of_ble_eq_true rfl)) rfl rfl (Nat.le_refl _) (Nat.le_refl _) ?_
      refine zr_iinc dX12_paste_56 rfl (by decide) rfl ?_
      refine zr_goto (tgt := 27) dX12_paste_59 (by decide) ?_
      obtain rfl := Option.some.inj h
      exact hk hx
set_option maxRecDepth 100000 in
set_option maxHeartbeats 4000000 in
theorem t_Rf_paste_j25 {v1 : Int} {s : zSt} {res : Int × zSt} (h : f_Rf_paste_j25 v1 s = some res) : zBT 15 m_X12_paste TRf (some (.inl res.1)) res.2 25 [some (.inr (.inl (some 0))), some (.inl v1), none] [] s := by
  unfold f_Rf_paste_j25 at h
  refine zr_iconst dX12_paste_25 (by decide) ?_
  refine zr_store ⟨_, dX12_paste_26, rfl⟩ (by decide) rfl ?_
  obtain ⟨y1, hy1, h⟩ := zbind h
  refine t_Rf_paste_l27 _ _ _ hy1 ?_
  refine zr_load ⟨_, dX12_paste_62, rfl⟩ rfl ?_
  refine zr_if_eq (tgt := 72) dX12_paste_63 (by decide) (fun hc2 => ?_) (fun hc2 => ?_)
  · replace h := zpos h hc2
    refine zr_aload ⟨_, dX12_paste_72, rfl⟩ rfl ?_
    refine zr_iconst dX12_paste_73 (by decide) ?_
    refine zt_put dX12_paste_74 fl_X12_351 rfl rfl ?_
    refine zr_aload ⟨_, dX12_paste_77, rfl⟩ rfl ?_
    refine zt_get dX12_paste_78 fl_X12_336 rfl rfl ?_
    obtain rfl := Option.some.inj h
    exact zt_iret dX12_paste_81 rfl
  · replace h := zneg h hc2
    refine zr_aload ⟨_, dX12_paste_66, rfl⟩ rfl ?_
    refine zr_bipush dX12_paste_67 (by decide) (by decide) ?_
    obtain ⟨x3, hx3, h⟩ := zbind h
    refine zt_calliv (t_Rf_typesAround hx3) (zrun_V (rest := []) dX12_paste_69 ml_X12_354 rfl rfl (by decide) (by decide) rfl (Nat.le_of_ble_eq_true rfl)) rfl rfl (Nat.le_refl _) (Nat.le_refl _) ?_
    refine zr_aload ⟨_, dX12_paste_72, rfl⟩ rfl ?_
    refine zr_iconst dX12_paste_73 (by decide) ?_
    refine zt_put dX12_paste_74 fl_X12_351 rfl rfl ?_
    refine zr_aload ⟨_, dX12_paste_77, rfl⟩ rfl ?_
    refine zt_get dX12_paste_78 fl_X12_336 rfl rfl ?_
    obtain rfl := Option.some.inj h
    exact zt_iret dX12_paste_81 rfl
set_option maxRecDepth 100000 in
set_option maxHeartbeats 4000000 in
theorem t_Rf_paste  {s : zSt} {res : Int × zSt} (h : f_Rf_paste s = some res) : zSpecT 15 m_X12_paste [.inr (.inl (some 0))] TRf s (some (.inl res.1)) res.2 := by
  refine zSpec_of (by decide +kernel) (Nat.le_of_ble_eq_true rfl) ?_
  show zBT 15 m_X12_paste TRf (some (.inl res.1)) res.2 0 [some (.inr (.inl (some 0))), none, none] [] s
  unfold f_Rf_paste at h
  refine zr_aload ⟨_, dX12_paste_0, rfl⟩ rfl ?_
  refine zr_iconst dX12_paste_1 (by decide) ?_
  refine zt_put dX12_paste_2 fl_X12_80 rfl rfl ?_
  refine zr_aload ⟨_, dX12_paste_5, rfl⟩ rfl ?_
  refine zr_iconst dX12_paste_6 (by decide) ?_
  refine zt_put dX12_paste_7 fl_X12_336 rfl rfl ?_
  refine zr_aload ⟨_, dX12_paste_10, rfl⟩ rfl ?_
  refine zt_get dX12_paste_11 fl_X12_182 rfl rfl ?_
  refine zr_store ⟨_, dX12_paste_14, rfl⟩ (by decide) rfl ?_
  refine zr_load ⟨_, dX12_paste_15, rfl⟩ rfl ?_
  refine zr_if_eq (tgt := 25) dX12_paste_16 (by decide) (fun hc1 => ?_) (fun hc1 => ?_)
  · replace h := zpos h hc1
    exact t_Rf_paste_j25 h
  · replace h := zneg h hc1
    refine zr_aload ⟨_, dX12_paste_19, rfl⟩ rfl ?_
    refine zr_bipush dX12_paste_20 (by decide) (by decide) ?_
    obtain ⟨x2, hx2, h⟩ := zbind h
    refine zt_calliv (t_Rf_typesAround hx2) (zrun_V (rest := []) dX12_paste_22 ml_X12_354 rfl rfl (by decide) (by decide) rfl (Nat.le_of_ble_eq_true rfl)) rfl rfl (Nat.le_refl _) (Nat.le_refl _) ?_
    exact t_Rf_paste_j25 h
set_option maxRecDepth 100000 in
set_option maxHeartbeats 4000000 in
theorem t_Rf_mouse_j28 {v1 v2 v3 k0 : Int} {s : zSt} {res : Int × zSt} (h : f_Rf_mouse_j28 v1 v2 v3 k0 s = some res) : zBT 15 m_X12_mouse TRf (some (.inl res.1)) res.2 28 [some (.inr (.inl (some 0))), some (.inl v1), some (.inl v2), some (.inl v3)] [.inl k0, .inr (.inl (some 0))] s := by
  unfold f_Rf_mouse_j28 at h
  refine zt_put dX12_mouse_28 fl_X12_80 rfl rfl ?_
  refine zr_aload ⟨_, dX12_mouse_31, rfl⟩ rfl ?_
  refine zt_get dX12_mouse_32 fl_X12_80 rfl rfl ?_
  refine zr_if_gt (tgt := 45) dX12_mouse_35 (by decide) (fun hc1 => ?_) (fun hc1 => ?_)
  · replace h := zpos h hc1
    refine zr_iconst dX12_mouse_45 (by decide) ?_
    obtain rfl := Option.some.inj h
    exact zt_iret dX12_mouse_46 rfl
  · replace h := zneg h hc1
    refine zr_aload ⟨_, dX12_mouse_38, rfl⟩ rfl ?_
    refine zt_get dX12_mouse_39 fl_X12_179 rfl rfl ?_
    refine zr_if_ne (tgt := 47) dX12_mouse_42 (by decide) (fun hc2 => ?_) (fun hc2 => ?_)
    · replace h := zpos h hc2
      refine zr_aload ⟨_, dX12_mouse_47, rfl⟩ rfl ?_
      refine zr_iconst dX12_mouse_48 (by decide) ?_
      refine zt_put dX12_mouse_49 fl_X12_336 rfl rfl ?_
      refine zr_aload ⟨_, dX12_mouse_52, rfl⟩ rfl ?_
      refine zr_bipush dX12_mouse_53 (by decide) (by decide) ?_
      obtain ⟨x3, hx3, h⟩ := zbind h
      refine zt_calliv (t_Rf_types hx3) (zrun_V (rest := []) dX12_mouse_55 ml_X12_345 rfl rfl (by decide) (by decide) rfl (Nat.le_of_ble_eq_true rfl)) rfl rfl (Nat.le_refl _) (Nat.le_refl _) ?_
      refine zr_aload ⟨_, dX12_mouse_58, rfl⟩ rfl ?_
      refine zr_bipush dX12_mouse_59 (by decide) (by decide) ?_
      obtain ⟨x4, hx4, h⟩ := zbind h
      refine zt_calliv (t_Rf_types hx4) (zrun_V (rest := []) dX12_mouse_61 ml_X12_345 rfl rfl (by decide) (by decide) rfl (Nat.le_of_ble_eq_true rfl)) rfl rfl (Nat.le_refl _) (Nat.le_refl _) ?_
      refine zr_aload ⟨_, dX12_mouse_64, rfl⟩ rfl ?_
      refine zr_bipush dX12_mouse_65 (by decide) (by decide) ?_
      obtain ⟨x5, hx5, h⟩ := zbind h
      refine zt_calliv (t_Rf_types hx5) (zrun_V (rest := []) dX12_mouse_67 ml_X12_345 rfl rfl (by decide) (by decide) rfl (Nat.le_of_ble_eq_true rfl)) rfl rfl (Nat.le_refl _) (Nat.le_refl _) ?_
      refine zr_aload ⟨_, dX12_mouse_70, rfl⟩ rfl ?_
      refine zr_bipush dX12_mouse_71 (by decide) (by decide) ?_
      refine zr_load ⟨_, dX12_mouse_73, rfl⟩ rfl ?_
      refine zr_iadd dX12_mouse_74 ?_
      obtain ⟨x6, hx6, h⟩ := zbind h
      refine zt_calliv (t_Rf_types hx6) (zrun_V (rest := []) dX12_mouse_75 ml_X12_345 rfl rfl (by decide) (by decide) rfl (Nat.le_of_ble_eq_true rfl)) rfl rfl (Nat.le_refl _) (Nat.le_refl _) ?_
      refine zr_aload ⟨_, dX12_mouse_78, rfl⟩ rfl ?_
      refine zr_bipush dX12_mouse_79 (by decide) (by decide) ?_
      obtain ⟨x7, hx7, h⟩ := zbind h
      refine zt_calliv (t_Rf_types hx7) (zrun_V (rest := []) dX12_mouse_81 ml_X12_345 rfl rfl (by decide) (by decide) rfl (Nat.le_of_ble_eq_true rfl)) rfl rfl (Nat.le_refl _) (Nat.le_refl _) ?_
      refine zr_aload ⟨_, dX12_mouse_84, rfl⟩ rfl ?_
      refine zr_load ⟨_, dX12_mouse_85, rfl⟩ rfl ?_
      refine zr_iconst dX12_mouse_86 (by decide) ?_
      refine zr_iadd dX12_mouse_87 ?_
      obtain ⟨x8, hx8, h⟩ := zbind h
      refine zt_calliv (t_Rf_typesNumber hx8) (zrun_V (rest := []) dX12_mouse_88 ml_X12_361 rfl rfl (by decide) (by decide) rfl (Nat.le_of_ble_eq_true rfl)) rfl rfl (Nat.le_refl _) (Nat.le_refl _) ?_
      refine zr_aload ⟨_, dX12_mouse_91, rfl⟩ rfl ?_
      refine zr_bipush dX12_mouse_92 (by decide) (by decide) ?_
      obtain ⟨x9, hx9, h⟩ := zbind h
      refine zt_calliv (t_Rf_types hx9) (zrun_V (rest := []) dX12_mouse_94 ml_X12_345 rfl rfl (by decide) (by decide) rfl (Nat.le_of_ble_eq_true rfl)) rfl rfl (Nat.le_refl _) (Nat.le_refl _) ?_
      refine zr_aload ⟨_, dX12_mouse_97, rfl⟩ rfl ?_
      refine zr_load ⟨_, dX12_mouse_98, rfl⟩ rfl ?_
      refine zr_iconst dX12_mouse_99 (by decide) ?_
      refine zr_iadd dX12_mouse_100 ?_
      obtain ⟨x10, hx10, h⟩ := zbind h
      refine zt_calliv (t_Rf_typesNumber hx10) (zrun_V (rest := []) dX12_mouse_101 ml_X12_361 rfl rfl (by decide) (by decide) rfl (Nat.le_of_ble_eq_true rfl)) rfl rfl (Nat.le_refl _) (Nat.le_refl _) ?_
      refine zr_aload ⟨_, dX12_mouse_104, rfl⟩ rfl ?_
      refine zr_bipush dX12_mouse_105 (by decide) (by decide) ?_
      obtain ⟨x11, hx11, h⟩ := zbind h
      refine zt_calliv (t_Rf_types hx11) (zrun_V (rest := []) dX12_mouse_107 ml_X12_345 rfl rfl (by decide) (by decide) rfl (Nat.le_of_ble_eq_true rfl)) rfl rfl (Nat.le_refl _) (Nat.le_refl _) ?_
      refine zr_aload ⟨_, dX12_mouse_110, rfl⟩ rfl ?_
      refine zt_get dX12_mouse_111 fl_X12_336 rfl rfl ?_
      obtain rfl := Option.some.inj h
      exact zt_iret dX12_mouse_114 rfl
    · replace h := zneg h hc2
      refine zr_iconst dX12_mouse_45 (by decide) ?_
      obtain rfl := Option.some.inj h
      exact zt_iret dX12_mouse_46 rfl
set_option maxRecDepth 100000 in
set_option maxHeartbeats 4000000 in
theorem t_Rf_mouse {a1 a2 a3 : Int} {s : zSt} {res : Int × zSt} (h : f_Rf_mouse a1 a2 a3 s = some res) : zSpecT 15 m_X12_mouse [.inr (.inl (some 0)), .inl a1, .inl a2, .inl a3] TRf s (some (.inl res.1)) res.2 := by
  refine zSpec_of (by decide +kernel) (Nat.le_of_ble_eq_true rfl) ?_
  show zBT 15 m_X12_mouse TRf (some (.inl res.1)) res.2 0 [some (.inr (.inl (some 0))), some (.inl a1), some (.inl a2), some (.inl a3)] [] s
  unfold f_Rf_mouse at h
  refine zr_aload ⟨_, dX12_mouse_0, rfl⟩ rfl ?_
  refine zr_aload ⟨_, dX12_mouse_1, rfl⟩ rfl ?_
  refine zr_load ⟨_, dX12_mouse_2, rfl⟩ rfl ?_
  refine zr_load ⟨_, dX12_mouse_3, rfl⟩ rfl ?_
  obtain ⟨x1, hx1, h⟩ := zbind h
  refine zt_callisi (t_Rf_isCell hx1) (zrun_V (rest := [.inr (.inl (some 0))]) dX12_mouse_4 ml_X12_357 rfl rfl (by decide) (by decide) rfl (Nat.le_of_ble_eq_true rfl)) rfl rfl (Nat.le_refl _) (Nat.le_refl _) ?_
  refine zr_if_ne (tgt := 14) dX12_mouse_7 (by decide) (fun hc2 => ?_) (fun hc2 => ?_)
  · replace h := zpos h hc2
    refine zr_load ⟨_, dX12_mouse_14, rfl⟩ rfl ?_
    refine zr_iconst dX12_mouse_15 (by decide) ?_
    refine zr_iconst dX12_mouse_16 (by decide) ?_
    obtain ⟨x3, hx3, h⟩ := zbind h
    refine zt_call0 (t_Rf_in hx3) (zrun_S (rest := [.inr (.inl (some 0))]) dX12_mouse_17 ml_X12_83 rfl (by decide) (by decide) rfl (Nat.le_of_ble_eq_true rfl)) rfl rfl (Nat.le_refl _) (Nat.le_refl _) ?_
    have hj4 : zBT 15 m_X12_mouse TRf (some (.inl res.1)) res.2 28 [some (.inr (.inl (some 0))), some (.inl a1), some (.inl a2), some (.inl a3)] [.inl (if ¬ x3 = 0 then 0 else 2), .inr (.inl (some 0))] s := by
      refine zt_put dX12_mouse_28 fl_X12_80 rfl rfl ?_
      refine zr_aload ⟨_, dX12_mouse_31, rfl⟩ rfl ?_
      refine zt_get dX12_mouse_32 fl_X12_80 rfl rfl ?_
      refine zr_if_gt (tgt := 45) dX12_mouse_35 (by decide) (fun hc6 => ?_) (fun hc6 => ?_)
      · replace h := zpos h hc6
        refine zr_iconst dX12_mouse_45 (by decide) ?_
        obtain rfl := Option.some.inj h
        exact zt_iret dX12_mouse_46 rfl
      · replace h := zneg h hc6
        refine zr_aload ⟨_, dX12_mouse_38, rfl⟩ rfl ?_
        refine zt_get dX12_mouse_39 fl_X12_179 rfl rfl ?_
        refine zr_if_ne (tgt := 47) dX12_mouse_42 (by decide) (fun hc7 => ?_) (fun hc7 => ?_)
        · replace h := zpos h hc7
          refine zr_aload ⟨_, dX12_mouse_47, rfl⟩ rfl ?_
          refine zr_iconst dX12_mouse_48 (by decide) ?_
          refine zt_put dX12_mouse_49 fl_X12_336 rfl rfl ?_
          refine zr_aload ⟨_, dX12_mouse_52, rfl⟩ rfl ?_
          refine zr_bipush dX12_mouse_53 (by decide) (by decide) ?_
          obtain ⟨x8, hx8, h⟩ := zbind h
          refine zt_calliv (t_Rf_types hx8) (zrun_V (rest := []) dX12_mouse_55 ml_X12_345 rfl rfl (by decide) (by decide) rfl (Nat.le_of_ble_eq_true rfl)) rfl rfl (Nat.le_refl _) (Nat.le_refl _) ?_
          refine zr_aload ⟨_, dX12_mouse_58, rfl⟩ rfl ?_
          refine zr_bipush dX12_mouse_59 (by decide) (by decide) ?_
          obtain ⟨x9, hx9, h⟩ := zbind h
          refine zt_calliv (t_Rf_types hx9) (zrun_V (rest := []) dX12_mouse_61 ml_X12_345 rfl rfl (by decide) (by decide) rfl (Nat.le_of_ble_eq_true rfl)) rfl rfl (Nat.le_refl _) (Nat.le_refl _) ?_
          refine zr_aload ⟨_, dX12_mouse_64, rfl⟩ rfl ?_
          refine zr_bipush dX12_mouse_65 (by decide) (by decide) ?_
          obtain ⟨x10, hx10, h⟩ := zbind h
          refine zt_calliv (t_Rf_types hx10) (zrun_V (rest := []) dX12_mouse_67 ml_X12_345 rfl rfl (by decide) (by decide) rfl (Nat.le_of_ble_eq_true rfl)) rfl rfl (Nat.le_refl _) (Nat.le_refl _) ?_
          refine zr_aload ⟨_, dX12_mouse_70, rfl⟩ rfl ?_
          refine zr_bipush dX12_mouse_71 (by decide) (by decide) ?_
          refine zr_load ⟨_, dX12_mouse_73, rfl⟩ rfl ?_
          refine zr_iadd dX12_mouse_74 ?_
          obtain ⟨x11, hx11, h⟩ := zbind h
          refine zt_calliv (t_Rf_types hx11) (zrun_V (rest := []) dX12_mouse_75 ml_X12_345 rfl rfl (by decide) (by decide) rfl (Nat.le_of_ble_eq_true rfl)) rfl rfl (Nat.le_refl _) (Nat.le_refl _) ?_
          refine zr_aload ⟨_, dX12_mouse_78, rfl⟩ rfl ?_
          refine zr_bipush dX12_mouse_79 (by decide) (by decide) ?_
          obtain ⟨x12, hx12, h⟩ := zbind h
          refine zt_calliv (t_Rf_types hx12) (zrun_V (rest := []) dX12_mouse_81 ml_X12_345 rfl rfl (by decide) (by decide) rfl (Nat.le_of_ble_eq_true rfl)) rfl rfl (Nat.le_refl _) (Nat.le_refl _) ?_
          refine zr_aload ⟨_, dX12_mouse_84, rfl⟩ rfl ?_
          refine zr_load ⟨_, dX12_mouse_85, rfl⟩ rfl ?_
          refine zr_iconst dX12_mouse_86 (by decide) ?_
          refine zr_iadd dX12_mouse_87 ?_
          obtain ⟨x13, hx13, h⟩ := zbind h
          refine zt_calliv (t_Rf_typesNumber hx13) (zrun_V (rest := []) dX12_mouse_88 ml_X12_361 rfl rfl (by decide) (by decide) rfl (Nat.le_of_ble_eq_true rfl)) rfl rfl (Nat.le_refl _) (Nat.le_refl _) ?_
          refine zr_aload ⟨_, dX12_mouse_91, rfl⟩ rfl ?_
          refine zr_bipush dX12_mouse_92 (by decide) (by decide) ?_
          obtain ⟨x14, hx14, h⟩ := zbind h
          refine zt_calliv (t_Rf_types hx14) (zrun_V (rest := []) dX12_mouse_94 ml_X12_345 rfl rfl (by decide) (by decide) rfl (Nat.le_of_ble_eq_true rfl)) rfl rfl (Nat.le_refl _) (Nat.le_refl _) ?_
          refine zr_aload ⟨_, dX12_mouse_97, rfl⟩ rfl ?_
          refine zr_load ⟨_, dX12_mouse_98, rfl⟩ rfl ?_
          refine zr_iconst dX12_mouse_99 (by decide) ?_
          refine zr_iadd dX12_mouse_100 ?_
          obtain ⟨x15, hx15, h⟩ := zbind h
          refine zt_calliv (t_Rf_typesNumber hx15) (zrun_V (rest := []) dX12_mouse_101 ml_X12_361 rfl rfl (by decide) (by decide) rfl (Nat.le_of_ble_eq_true rfl)) rfl rfl (Nat.le_refl _) (Nat.le_refl _) ?_
          refine zr_aload ⟨_, dX12_mouse_104, rfl⟩ rfl ?_
          refine zr_bipush dX12_mouse_105 (by decide) (by decide) ?_
          obtain ⟨x16, hx16, h⟩ := zbind h
          refine zt_calliv (t_Rf_types hx16) (zrun_V (rest := []) dX12_mouse_107 ml_X12_345 rfl rfl (by decide) (by decide) rfl (Nat.le_of_ble_eq_true rfl)) rfl rfl (Nat.le_refl _) (Nat.le_refl _) ?_
          refine zr_aload ⟨_, dX12_mouse_110, rfl⟩ rfl ?_
          refine zt_get dX12_mouse_111 fl_X12_336 rfl rfl ?_
          obtain rfl := Option.some.inj h
          exact zt_iret dX12_mouse_114 rfl
        · replace h := zneg h hc7
          refine zr_iconst dX12_mouse_45 (by decide) ?_
          obtain rfl := Option.some.inj h
          exact zt_iret dX12_mouse_46 rfl
    refine zr_if_ne (tgt := 27) dX12_mouse_20 (by decide) (fun hc5 => ?_) (fun hc5 => ?_)
    · have hp17 := zif_t hj4 hc5
      refine zr_iconst dX12_mouse_27 (by decide) ?_
      exact hp17
    · have hp18 := zif_f hj4 hc5
      refine zr_iconst dX12_mouse_23 (by decide) ?_
      refine zr_goto (tgt := 28) dX12_mouse_24 (by decide) ?_
      exact hp18
  · replace h := zneg h hc2
    refine zr_iconst dX12_mouse_10 (by decide) ?_
    refine zr_goto (tgt := 28) dX12_mouse_11 (by decide) ?_
    exact t_Rf_mouse_j28 h
