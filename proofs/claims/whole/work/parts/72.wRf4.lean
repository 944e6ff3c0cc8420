set_option maxRecDepth 100000 in
set_option maxHeartbeats 4000000 in
theorem t_Rf_controls {a1 : Int} {s : zSt} {res : Int × zSt} (h : f_Rf_controls a1 s = some res) : zSpecT 5 m_X12_controls [.inr (.inl (some 0)), .inl a1] TRf s none res.2 := by
  refine zSpec_of (by decide +kernel) (Nat.le_of_ble_eq_true rfl) ?_
  show zBT 5 m_X12_controls TRf none res.2 0 [some (.inr (.inl (some 0))), some (.inl a1)] [] s
  unfold f_Rf_controls at h
  refine zr_load ⟨_, dX12_controls_0, rfl⟩ rfl ?_
  refine zr_tsw (l := [(7, 99), (8, 112), (9, 141), (10, 174), (13, 186), (24, 199), (27, 207)]) dX12_controls_1 (by decide +kernel) ?_
  refine zr_swc (tgt := 100) (by decide) (fun hc1 => ?_) (fun hc1 => ?_)
  · replace h := zpos h hc1
    refine zr_aload ⟨_, dX12_controls_100, rfl⟩ rfl ?_
    refine zr_dup dX12_controls_101 (Or.inl True.intro) ?_
    refine zt_get dX12_controls_102 fl_X12_185 rfl rfl ?_
    refine zr_iconst dX12_controls_105 (by decide) ?_
    refine zr_iadd dX12_controls_106 ?_
    refine zt_put dX12_controls_107 fl_X12_185 rfl rfl ?_
    refine zr_goto (tgt := 216) dX12_controls_110 (by decide) ?_
    obtain rfl := Option.some.inj h
    exact zt_vret dX12_controls_216 rfl
  replace h := zneg h hc1
  refine zr_swc (tgt := 113) (by decide) (fun hc2 => ?_) (fun hc2 => ?_)
  · replace h := zpos h hc2
    refine zr_aload ⟨_, dX12_controls_113, rfl⟩ rfl ?_
    refine zr_dup dX12_controls_114 (Or.inl True.intro) ?_
    refine zt_get dX12_controls_115 fl_X12_123 rfl rfl ?_
    refine zr_aload ⟨_, dX12_controls_118, rfl⟩ rfl ?_
    refine zt_get dX12_controls_119 fl_X12_123 rfl rfl ?_
    have hj3 : zBT 5 m_X12_controls TRf none res.2 130 [some (.inr (.inl (some 0))), some (.inl a1)] [.inl (if (s.1 0 10) ≤ 0 then 0 else 1), .inl (s.1 0 10), .inr (.inl (some 0))] s := by
      refine zr_isub dX12_controls_130 ?_
      refine zt_put dX12_controls_131 fl_X12_123 rfl rfl ?_
      refine zr_aload ⟨_, dX12_controls_134, rfl⟩ rfl ?_
      refine zr_iconst dX12_controls_135 (by decide) ?_
      refine zt_putz dX12_controls_136 fl_X12_126 rfl rfl (Or.inl rfl) ?_
      refine zr_goto (tgt := 216) dX12_controls_139 (by decide) ?_
      obtain rfl := Option.some.inj h
      exact zt_vret dX12_controls_216 rfl
    refine zr_if_le (tgt := 129) dX12_controls_122 (by decide) (fun hc4 => ?_) (fun hc4 => ?_)
    · have hp5 := zif_t hj3 hc4
      refine zr_iconst dX12_controls_129 (by decide) ?_
      exact hp5
    · have hp6 := zif_f hj3 hc4
      refine zr_iconst dX12_controls_125 (by decide) ?_
      refine zr_goto (tgt := 130) dX12_controls_126 (by decide) ?_
      exact hp6
  replace h := zneg h hc2
  refine zr_swc (tgt := 142) (by decide) (fun hc7 => ?_) (fun hc7 => ?_)
  · replace h := zpos h hc7
    refine zr_aload ⟨_, dX12_controls_142, rfl⟩ rfl ?_
    refine zr_aload ⟨_, dX12_controls_143, rfl⟩ rfl ?_
    obtain ⟨x8, hx8, h⟩ := zbind h
    refine zt_callisi (t_Rf_nextTab hx8) (zrun_V (rest := [.inr (.inl (some 0))]) dX12_controls_144 ml_X12_188 rfl rfl (by decide) (by decide) rfl (Nat.le_of_ble_eq_true rfl)) rfl rfl (Nat.le_refl _) (Nat.le_refl _) ?_
    refine zr_iconst dX12_controls_147 (by decide) ?_
    refine zr_ic_ne (tgt := 160) dX12_controls_148 (by decide) (fun hc9 => ?_) (fun hc9 => ?_)
    · replace h := zpos h hc9
      refine zr_aload ⟨_, dX12_controls_160, rfl⟩ rfl ?_
      obtain ⟨x10, hx10, h⟩ := zbind h
      refine zt_callisi (t_Rf_nextTab hx10) (zrun_V (rest := [.inr (.inl (some 0))]) dX12_controls_161 ml_X12_188 rfl rfl (by decide) (by decide) rfl (Nat.le_of_ble_eq_true rfl)) rfl rfl (Nat.le_refl _) (Nat.le_refl _) ?_
      refine zt_put dX12_controls_164 fl_X12_123 rfl rfl ?_
      refine zr_aload ⟨_, dX12_controls_167, rfl⟩ rfl ?_
      refine zr_iconst dX12_controls_168 (by decide) ?_
      refine zt_putz dX12_controls_169 fl_X12_126 rfl rfl (Or.inl rfl) ?_
      refine zr_goto (tgt := 216) dX12_controls_172 (by decide) ?_
      obtain rfl := Option.some.inj h
      exact zt_vret dX12_controls_216 rfl
    · replace h := zneg h hc9
      refine zr_aload ⟨_, dX12_controls_151, rfl⟩ rfl ?_
      refine zt_get dX12_controls_152 fl_X12_13 rfl rfl ?_
      refine zr_iconst dX12_controls_155 (by decide) ?_
      refine zr_isub dX12_controls_156 ?_
      refine zr_goto (tgt := 164) dX12_controls_157 (by decide) ?_
      refine zt_put dX12_controls_164 fl_X12_123 rfl rfl ?_
      refine zr_aload ⟨_, dX12_controls_167, rfl⟩ rfl ?_
      refine zr_iconst dX12_controls_168 (by decide) ?_
      refine zt_putz dX12_controls_169 fl_X12_126 rfl rfl (Or.inl rfl) ?_
      refine zr_goto (tgt := 216) dX12_controls_172 (by decide) ?_
      obtain rfl := Option.some.inj h
      exact zt_vret dX12_controls_216 rfl
  replace h := zneg h hc7
  refine zr_swc (tgt := 175) (by decide) (fun hc11 => ?_) (fun hc11 => ?_)
  · replace h := zpos h hc11
    refine zr_aload ⟨_, dX12_controls_175, rfl⟩ rfl ?_
    obtain ⟨x12, hx12, h⟩ := zbind h
    refine zt_calliv (t_Rf_feeds hx12) (zrun_V (rest := []) dX12_controls_176 ml_X12_133 rfl rfl (by decide) (by decide) rfl (Nat.le_of_ble_eq_true rfl)) rfl rfl (Nat.le_refl _) (Nat.le_refl _) ?_
    refine zr_aload ⟨_, dX12_controls_179, rfl⟩ rfl ?_
    refine zr_iconst dX12_controls_180 (by decide) ?_
    refine zt_putz dX12_controls_181 fl_X12_126 rfl rfl (Or.inl rfl) ?_
    refine zr_goto (tgt := 216) dX12_controls_184 (by decide) ?_
    obtain rfl := Option.some.inj h
    exact zt_vret dX12_controls_216 rfl
  replace h := zneg h hc11
  refine zr_swc (tgt := 187) (by decide) (fun hc13 => ?_) (fun hc13 => ?_)
  · replace h := zpos h hc13
    refine zr_aload ⟨_, dX12_controls_187, rfl⟩ rfl ?_
    refine zr_iconst dX12_controls_188 (by decide) ?_
    refine zt_put dX12_controls_189 fl_X12_123 rfl rfl ?_
    refine zr_aload ⟨_, dX12_controls_192, rfl⟩ rfl ?_
    refine zr_iconst dX12_controls_193 (by decide) ?_
    refine zt_putz dX12_controls_194 fl_X12_126 rfl rfl (Or.inl rfl) ?_
    refine zr_goto (tgt := 216) dX12_controls_197 (by decide) ?_
    obtain rfl := Option.some.inj h
    exact zt_vret dX12_controls_216 rfl
  replace h := zneg h hc13
  refine zr_swc (tgt := 200) (by decide) (fun hc14 => ?_) (fun hc14 => ?_)
  · replace h := zpos h hc14
    refine zr_aload ⟨_, dX12_controls_200, rfl⟩ rfl ?_
    refine zr_iconst dX12_controls_201 (by decide) ?_
    refine zt_put dX12_controls_202 fl_X12_192 rfl rfl ?_
    refine zr_goto (tgt := 216) dX12_controls_205 (by decide) ?_
    obtain rfl := Option.some.inj h
    exact zt_vret dX12_controls_216 rfl
  replace h := zneg h hc14
  refine zr_swc (tgt := 208) (by decide) (fun hc15 => ?_) (fun hc15 => ?_)
  · replace h := zpos h hc15
    refine zr_aload ⟨_, dX12_controls_208, rfl⟩ rfl ?_
    refine zr_iconst dX12_controls_209 (by decide) ?_
    refine zt_put dX12_controls_210 fl_X12_192 rfl rfl ?_
    refine zr_goto (tgt := 216) dX12_controls_213 (by decide) ?_
    obtain rfl := Option.some.inj h
    exact zt_vret dX12_controls_216 rfl
  replace h := zneg h hc15
  refine zr_swd (tgt := 216) (by decide) ?_
  obtain rfl := Option.some.inj h
  exact zt_vret dX12_controls_216 rfl
set_option maxRecDepth 100000 in
set_option maxHeartbeats 4000000 in
theorem t_Rf_escapes {a1 : Int} {s : zSt} {res : Int × zSt} (h : f_Rf_escapes a1 s = some res) : zSpecT 5 m_X12_escapes [.inr (.inl (some 0)), .inl a1] TRf s none res.2 := by
  refine zSpec_of (by decide +kernel) (Nat.le_of_ble_eq_true rfl) ?_
  show zBT 5 m_X12_escapes TRf none res.2 0 [some (.inr (.inl (some 0))), some (.inl a1)] [] s
  unfold f_Rf_escapes at h
  refine zr_aload ⟨_, dX12_escapes_0, rfl⟩ rfl ?_
  refine zr_iconst dX12_escapes_1 (by decide) ?_
  refine zt_put dX12_escapes_2 fl_X12_192 rfl rfl ?_
  refine zr_load ⟨_, dX12_escapes_5, rfl⟩ rfl ?_
  refine zr_lsw (l := [(55, 130), (56, 137), (68, 144), (69, 156), (72, 228), (77, 173), (91, 82), (93, 117), (99, 246)]) dX12_escapes_6 (by decide) rfl ?_
  refine zr_swc (tgt := 136) (by decide) (fun hc1 => ?_) (fun hc1 => ?_)
  · replace h := zpos h hc1
    refine zr_aload ⟨_, dX12_escapes_136, rfl⟩ rfl ?_
    obtain ⟨x2, hx2, h⟩ := zbind h
    refine zt_calliv (t_Rf_saves hx2) (zrun_V (rest := []) dX12_escapes_137 ml_X12_210 rfl rfl (by decide) (by decide) rfl (Nat.le_of_ble_eq_true rfl)) rfl rfl (Nat.le_refl _) (Nat.le_refl _) ?_
    refine zr_goto (tgt := 259) dX12_escapes_140 (by decide) ?_
    obtain rfl := Option.some.inj h
    exact zt_vret dX12_escapes_259 rfl
  replace h := zneg h hc1
  refine zr_swc (tgt := 143) (by decide) (fun hc3 => ?_) (fun hc3 => ?_)
  · replace h := zpos h hc3
    refine zr_aload ⟨_, dX12_escapes_143, rfl⟩ rfl ?_
    obtain ⟨x4, hx4, h⟩ := zbind h
    refine zt_calliv (t_Rf_bringsBack hx4) (zrun_V (rest := []) dX12_escapes_144 ml_X12_213 rfl rfl (by decide) (by decide) rfl (Nat.le_of_ble_eq_true rfl)) rfl rfl (Nat.le_refl _) (Nat.le_refl _) ?_
    refine zr_goto (tgt := 259) dX12_escapes_147 (by decide) ?_
    obtain rfl := Option.some.inj h
    exact zt_vret dX12_escapes_259 rfl
  replace h := zneg h hc3
  refine zr_swc (tgt := 150) (by decide) (fun hc5 => ?_) (fun hc5 => ?_)
  · replace h := zpos h hc5
    refine zr_aload ⟨_, dX12_escapes_150, rfl⟩ rfl ?_
    obtain ⟨x6, hx6, h⟩ := zbind h
    refine zt_calliv (t_Rf_feeds hx6) (zrun_V (rest := []) dX12_escapes_151 ml_X12_133 rfl rfl (by decide) (by decide) rfl (Nat.le_of_ble_eq_true rfl)) rfl rfl (Nat.le_refl _) (Nat.le_refl _) ?_
    refine zr_aload ⟨_, dX12_escapes_154, rfl⟩ rfl ?_
    refine zr_iconst dX12_escapes_155 (by decide) ?_
    refine zt_putz dX12_escapes_156 fl_X12_126 rfl rfl (Or.inl rfl) ?_
    refine zr_goto (tgt := 259) dX12_escapes_159 (by decide) ?_
    obtain rfl := Option.some.inj h
    exact zt_vret dX12_escapes_259 rfl
  replace h := zneg h hc5
  refine zr_swc (tgt := 162) (by decide) (fun hc7 => ?_) (fun hc7 => ?_)
  · replace h := zpos h hc7
    refine zr_aload ⟨_, dX12_escapes_162, rfl⟩ rfl ?_
    obtain ⟨x8, hx8, h⟩ := zbind h
    refine zt_calliv (t_Rf_feeds hx8) (zrun_V (rest := []) dX12_escapes_163 ml_X12_133 rfl rfl (by decide) (by decide) rfl (Nat.le_of_ble_eq_true rfl)) rfl rfl (Nat.le_refl _) (Nat.le_refl _) ?_
    refine zr_aload ⟨_, dX12_escapes_166, rfl⟩ rfl ?_
    refine zr_iconst dX12_escapes_167 (by decide) ?_
    refine zt_put dX12_escapes_168 fl_X12_123 rfl rfl ?_
    refine zr_aload ⟨_, dX12_escapes_171, rfl⟩ rfl ?_
    refine zr_iconst dX12_escapes_172 (by decide) ?_
    refine zt_putz dX12_escapes_173 fl_X12_126 rfl rfl (Or.inl rfl) ?_
    refine zr_goto (tgt := 259) dX12_escapes_176 (by decide) ?_
    obtain rfl := Option.some.inj h
    exact zt_vret dX12_escapes_259 rfl
  replace h := zneg h hc7
  refine zr_swc (tgt := 234) (by decide) (fun hc9 => ?_) (fun hc9 => ?_)
  · replace h := zpos h hc9
    refine zr_aload ⟨_, dX12_escapes_234, rfl⟩ rfl ?_
    refine zr_dup dX12_escapes_235 (Or.inl True.intro) ?_
    refine zt_get dX12_escapes_236 fl_X12_146 rfl rfl ?_
    refine zr_iconst dX12_escapes_239 (by decide) ?_
    refine zr_aload ⟨_, dX12_escapes_240, rfl⟩ rfl ?_
    refine zt_get dX12_escapes_241 fl_X12_123 rfl rfl ?_
    refine zr_ishl dX12_escapes_244 ?_
    refine zr_ior dX12_escapes_245 ?_
    refine zt_put dX12_escapes_246 fl_X12_146 rfl rfl ?_
    refine zr_goto (tgt := 259) dX12_escapes_249 (by decide) ?_
    obtain rfl := Option.some.inj h
    exact zt_vret dX12_escapes_259 rfl
  replace h := zneg h hc9
  refine zr_swc (tgt := 179) (by decide) (fun hc10 => ?_) (fun hc10 => ?_)
  · replace h := zpos h hc10
    refine zr_aload ⟨_, dX12_escapes_179, rfl⟩ rfl ?_
    refine zt_get dX12_escapes_180 fl_X12_113 rfl rfl ?_
    refine zr_aload ⟨_, dX12_escapes_183, rfl⟩ rfl ?_
    refine zt_get dX12_escapes_184 fl_X12_116 rfl rfl ?_
    refine zr_ic_ne (tgt := 205) dX12_escapes_187 (by decide) (fun hc11 => ?_) (fun hc11 => ?_)
    · replace h := zpos h hc11
      refine zr_aload ⟨_, dX12_escapes_205, rfl⟩ rfl ?_
      refine zr_dup dX12_escapes_206 (Or.inl True.intro) ?_
      refine zt_get dX12_escapes_207 fl_X12_113 rfl rfl ?_
      refine zr_aload ⟨_, dX12_escapes_210, rfl⟩ rfl ?_
      refine zt_get dX12_escapes_211 fl_X12_113 rfl rfl ?_
      have hj12 : zBT 5 m_X12_escapes TRf none res.2 222 [some (.inr (.inl (some 0))), some (.inl a1)] [.inl (if (s.1 0 9) ≤ 0 then 0 else 1), .inl (s.1 0 9), .inr (.inl (some 0))] (uS s 0 29 0) := by
        refine zr_isub dX12_escapes_222 ?_
        refine zt_put dX12_escapes_223 fl_X12_113 rfl rfl ?_
        refine zr_aload ⟨_, dX12_escapes_226, rfl⟩ rfl ?_
        refine zr_iconst dX12_escapes_227 (by decide) ?_
        refine zt_putz dX12_escapes_228 fl_X12_126 rfl rfl (Or.inl rfl) ?_
        refine zr_goto (tgt := 259) dX12_escapes_231 (by decide) ?_
        obtain rfl := Option.some.inj h
        exact zt_vret dX12_escapes_259 rfl
      refine zr_if_le (tgt := 221) dX12_escapes_214 (by decide) (fun hc13 => ?_) (fun hc13 => ?_)
      · have hp14 := zif_t hj12 hc13
        refine zr_iconst dX12_escapes_221 (by decide) ?_
        exact hp14
      · have hp15 := zif_f hj12 hc13
        refine zr_iconst dX12_escapes_217 (by decide) ?_
        refine zr_goto (tgt := 222) dX12_escapes_218 (by decide) ?_
        exact hp15
    · replace h := zneg h hc11
      refine zr_aload ⟨_, dX12_escapes_190, rfl⟩ rfl ?_
      refine zr_aload ⟨_, dX12_escapes_191, rfl⟩ rfl ?_
      refine zt_get dX12_escapes_192 fl_X12_116 rfl rfl ?_
      refine zr_aload ⟨_, dX12_escapes_195, rfl⟩ rfl ?_
      refine zt_get dX12_escapes_196 fl_X12_30 rfl rfl ?_
      obtain ⟨x16, hx16, h⟩ := zbind h
      refine zt_calliv (t_Rf_scrollsDown hx16) (zrun_V (rest := []) dX12_escapes_199 ml_X12_216 rfl rfl (by decide) (by decide) rfl (Nat.le_of_ble_eq_true rfl)) rfl rfl (Nat.le_refl _) (Nat.le_refl _) ?_
      refine zr_goto (tgt := 226) dX12_escapes_202 (by decide) ?_
      refine zr_aload ⟨_, dX12_escapes_226, rfl⟩ rfl ?_
      refine zr_iconst dX12_escapes_227 (by decide) ?_
      refine zt_putz dX12_escapes_228 fl_X12_126 rfl rfl (Or.inl rfl) ?_
      refine zr_goto (tgt := 259) dX12_escapes_231 (by decide) ?_
      obtain rfl := Option.some.inj h
      exact zt_vret dX12_escapes_259 rfl
  replace h := zneg h hc10
  refine zr_swc (tgt := 88) (by decide) (fun hc17 => ?_) (fun hc17 => ?_)
  · replace h := zpos h hc17
    refine zr_aload ⟨_, dX12_escapes_88, rfl⟩ rfl ?_
    refine zr_iconst dX12_escapes_89 (by decide) ?_
    refine zt_put dX12_escapes_90 fl_X12_192 rfl rfl ?_
    refine zr_aload ⟨_, dX12_escapes_93, rfl⟩ rfl ?_
    refine zt_getr dX12_escapes_94 fl_X12_40 rfl rfl ?_
    refine zr_iconst dX12_escapes_97 (by decide) ?_
    refine zr_iconst dX12_escapes_98 (by decide) ?_
    obtain ⟨hb18, h⟩ := zchk h
    refine zt_iastore dX12_escapes_99 rfl hb18 ?_
    refine zr_aload ⟨_, dX12_escapes_100, rfl⟩ rfl ?_
    refine zr_iconst dX12_escapes_101 (by decide) ?_
    refine zt_put dX12_escapes_102 fl_X12_195 rfl rfl ?_
    refine zr_aload ⟨_, dX12_escapes_105, rfl⟩ rfl ?_
    refine zr_iconst dX12_escapes_106 (by decide) ?_
    refine zt_putz dX12_escapes_107 fl_X12_198 rfl rfl (Or.inr rfl) ?_
    refine zr_aload ⟨_, dX12_escapes_110, rfl⟩ rfl ?_
    refine zr_iconst dX12_escapes_111 (by decide) ?_
    refine zt_putz dX12_escapes_112 fl_X12_201 rfl rfl (Or.inl rfl) ?_
    refine zr_aload ⟨_, dX12_escapes_115, rfl⟩ rfl ?_
    refine zr_iconst dX12_escapes_116 (by decide) ?_
    refine zt_putz dX12_escapes_117 fl_X12_204 rfl rfl (Or.inl rfl) ?_
    refine zr_goto (tgt := 259) dX12_escapes_120 (by decide) ?_
    obtain rfl := Option.some.inj h
    exact zt_vret dX12_escapes_259 rfl
  replace h := zneg h hc17
  refine zr_swc (tgt := 123) (by decide) (fun hc19 => ?_) (fun hc19 => ?_)
  · replace h := zpos h hc19
    refine zr_aload ⟨_, dX12_escapes_123, rfl⟩ rfl ?_
    refine zr_iconst dX12_escapes_124 (by decide) ?_
    refine zt_put dX12_escapes_125 fl_X12_192 rfl rfl ?_
    refine zr_aload ⟨_, dX12_escapes_128, rfl⟩ rfl ?_
    refine zr_iconst dX12_escapes_129 (by decide) ?_
    refine zt_put dX12_escapes_130 fl_X12_207 rfl rfl ?_
    refine zr_goto (tgt := 259) dX12_escapes_133 (by decide) ?_
    obtain rfl := Option.some.inj h
    exact zt_vret dX12_escapes_259 rfl
  replace h := zneg h hc19
  refine zr_swc (tgt := 252) (by decide) (fun hc20 => ?_) (fun hc20 => ?_)
  · replace h := zpos h hc20
    refine zr_aload ⟨_, dX12_escapes_252, rfl⟩ rfl ?_
    obtain ⟨x21, hx21, h⟩ := zbind h
    refine zt_calliv (t_Rf_resets hx21) (zrun_V (rest := []) dX12_escapes_253 ml_X12_219 rfl rfl (by decide) (by decide) rfl (Nat.le_of_ble_eq_true rfl)) rfl rfl (Nat.le_refl _) (Nat.le_refl _) ?_
    refine zr_goto (tgt := 259) dX12_escapes_256 (by decide) ?_
    obtain rfl := Option.some.inj h
    exact zt_vret dX12_escapes_259 rfl
  replace h := zneg h hc20
  refine zr_swd (tgt := 259) (by decide) ?_
  obtain rfl := Option.some.inj h
  exact zt_vret dX12_escapes_259 rfl
set_option maxRecDepth 100000 in
set_option maxHeartbeats 4000000 in
theorem t_Rf_erasesAll_l12 {c1 : Int} {r : Option zAV} {s0 : zSt}  : ∀ (n : Nat) (x : Int × zSt) (out : zSt), zloop (f_Rf_erasesAll_l12 c1) n x = some out → (zBT 5 m_X12_erasesAll TRf r s0 83 [none, none, none] [] out) → zBT 5 m_X12_erasesAll TRf r s0 12 [some (.inr (.inl (some 0))), some (.inl c1), some (.inl x.1)] [] x.2 := by
  refine zloop_B (B := fun (x : Int × zSt) (out : zSt) => zBT 5 m_X12_erasesAll TRf r s0 83 [none, none, none] [] out → zBT 5 m_X12_erasesAll TRf r s0 12 [some (.inr (.inl (some 0))), some (.inl c1), some (.inl x.1)] [] x.2) ?_
  intro x o out h hk hx
  unfold f_Rf_erasesAll_l12 at h
  refine zr_load ⟨_, dX12_erasesAll_12, rfl⟩ rfl ?_
  refine zr_aload ⟨_, dX12_erasesAll_13, rfl⟩ rfl ?_
  refine zt_get dX12_erasesAll_14 fl_X12_7 rfl rfl ?_
  refine zr_ic_ge (tgt := 83) dX12_erasesAll_17 (by decide) (fun hc1 => ?_) (fun hc1 => ?_)
  · replace h := zpos h hc1
    refine zr_mask [false, false, false] rfl ?_
    obtain rfl := Option.some.inj h
    obtain rfl := hk
    exact hx
  · replace h := zneg h hc1
    refine zr_load ⟨_, dX12_erasesAll_20, rfl⟩ rfl ?_
    refine zr_iconst dX12_erasesAll_21 (by decide) ?_
    refine zr_ic_ge (tgt := 83) dX12_erasesAll_22 (by decide) (fun hc2 => ?_) (fun hc2 => ?_)
    · replace h := zpos h hc2
      refine zr_mask [false, false, false] rfl ?_
      obtain rfl := Option.some.inj h
      obtain rfl := hk
      exact hx
    · replace h := zneg h hc2
      refine zr_load ⟨_, dX12_erasesAll_25, rfl⟩ rfl ?_
      refine zr_aload ⟨_, dX12_erasesAll_26, rfl⟩ rfl ?_
      refine zt_get dX12_erasesAll_27 fl_X12_113 rfl rfl ?_
      refine zr_ic_ne (tgt := 42) dX12_erasesAll_30 (by decide) (fun hc3 => ?_) (fun hc3 => ?_)
      · replace h := zpos h hc3
        refine zr_load ⟨_, dX12_erasesAll_42, rfl⟩ rfl ?_
        refine zr_iconst dX12_erasesAll_43 (by decide) ?_
        refine zr_ic_eq (tgt := 72) dX12_erasesAll_44 (by decide) (fun hc4 => ?_) (fun hc4 => ?_)
        · replace h := zpos h hc4
          refine zr_aload ⟨_, dX12_erasesAll_72, rfl⟩ rfl ?_
          refine zr_load ⟨_, dX12_erasesAll_73, rfl⟩ rfl ?_
          obtain ⟨x5, hx5, h⟩ := zbind h
          refine zt_calliv (t_Rf_emptiesRow hx5) (zrun_V (rest := []) dX12_erasesAll_74 ml_X12_107 rfl rfl (by decide) (by decide) rfl (Nat.le_of_ble_eq_true rfl)) rfl rfl (Nat.le_refl _) (Nat.le_refl _) ?_
          refine zr_iinc dX12_erasesAll_77 rfl (by decide) rfl ?_
          refine zr_goto (tgt := 12) dX12_erasesAll_80 (by decide) ?_
          obtain rfl := Option.some.inj h
          exact hk hx
        · replace h := zneg h hc4
          refine zr_load ⟨_, dX12_erasesAll_47, rfl⟩ rfl ?_
          have hj6 : zBT 5 m_X12_erasesAll TRf r s0 56 [some (.inr (.inl (some 0))), some (.inl c1), some (.inl x.1)] [.inl (if ¬ c1 = 0 then 0 else 1)] x.2 := by
            refine zr_load ⟨_, dX12_erasesAll_56, rfl⟩ rfl ?_
            refine zr_aload ⟨_, dX12_erasesAll_57, rfl⟩ rfl ?_
            refine zt_get dX12_erasesAll_58 fl_X12_113 rfl rfl ?_
            have hj8 : zBT 5 m_X12_erasesAll TRf r s0 69 [some (.inr (.inl (some 0))), some (.inl c1), some (.inl x.1)] [.inl (if x.1 ≤ (x.2.1 0 9) then 0 else 1), .inl (if ¬ c1 = 0 then 0 else 1)] x.2 := by
              refine zr_ic_ne (tgt := 77) dX12_erasesAll_69 (by decide) (fun hc10 => ?_) (fun hc10 => ?_)
              · replace h := zpos h hc10
                refine zr_iinc dX12_erasesAll_77 rfl (by decide) rfl ?_
                refine zr_goto (tgt := 12) dX12_erasesAll_80 (by decide) ?_
                obtain rfl := Option.some.inj h
                exact hk hx
              · replace h := zneg h hc10
                refine zr_aload ⟨_, dX12_erasesAll_72, rfl⟩ rfl ?_
                refine zr_load ⟨_, dX12_erasesAll_73, rfl⟩ rfl ?_
                obtain ⟨x11, hx11, h⟩ := zbind h
                refine zt_calliv (t_Rf_emptiesRow hx11) (zrun_V (rest := []) dX12_erasesAll_74 ml_X12_107 rfl rfl (by decide) (by decide) rfl (Nat.le_of_ble_eq_true rfl)) rfl rfl (Nat.le_refl _) (Nat.le_refl _) ?_
                refine zr_iinc dX12_erasesAll_77 rfl (by decide) rfl ?_
                refine zr_goto (tgt := 12) dX12_erasesAll_80 (by decide) ?_
                obtain rfl := Option.some.inj h
                exact hk hx
            refine zr_ic_le (tgt := 68) dX12_erasesAll_61 (by decide) (fun hc9 => ?_) (fun hc9 => ?_)
            · have hp12 := zif_t hj8 hc9
              refine zr_iconst dX12_erasesAll_68 (by decide) ?_
              exact hp12
            · have hp13 := zif_f hj8 hc9
              refine zr_iconst dX12_erasesAll_64 (by decide) ?_
              refine zr_goto (tgt := 69) dX12_erasesAll_65 (by decide) ?_
              exact hp13
          refine zr_if_ne (tgt := 55) dX12_erasesAll_48 (by decide) (fun hc7 => ?_) (fun hc7 => ?_)
          · have hp14 := zif_t hj6 hc7
            refine zr_iconst dX12_erasesAll_55 (by decide) ?_
            exact hp14
          · have hp15 := zif_f hj6 hc7
            refine zr_iconst dX12_erasesAll_51 (by decide) ?_
            refine zr_goto (tgt := 56) dX12_erasesAll_52 (by decide) ?_
            exact hp15
      · replace h := zneg h hc3
        refine zr_aload ⟨_, dX12_erasesAll_33, rfl⟩ rfl ?_
        refine zr_load ⟨_, dX12_erasesAll_34, rfl⟩ rfl ?_
        refine zr_load ⟨_, dX12_erasesAll_35, rfl⟩ rfl ?_
        obtain ⟨x16, hx16, h⟩ := zbind h
        refine zt_calliv (t_Rf_erasesRow hx16) (zrun_V (rest := []) dX12_erasesAll_36 ml_X12_253 rfl rfl (by decide) (by decide) rfl (Nat.le_of_ble_eq_true rfl)) rfl rfl (Nat.le_refl _) (Nat.le_refl _) ?_
        refine zr_goto (tgt := 77) dX12_erasesAll_39 (by decide) ?_
        refine zr_iinc dX12_erasesAll_77 rfl (by decide) rfl ?_
        refine zr_goto (tgt := 12) dX12_erasesAll_80 (by decide) ?_
        obtain rfl := Option.some.inj h
        exact hk hx
set_option maxRecDepth 100000 in
set_option maxHeartbeats 4000000 in
theorem t_Rf_erasesAll_j10 {v1 : Int} {s : zSt} {res : Int × zSt} (h : f_Rf_erasesAll_j10 v1 s = some res) : zBT 5 m_X12_erasesAll TRf none res.2 10 [some (.inr (.inl (some 0))), some (.inl v1), none] [] s := by
  unfold f_Rf_erasesAll_j10 at h
  refine zr_iconst dX12_erasesAll_10 (by decide) ?_
  refine zr_store ⟨_, dX12_erasesAll_11, rfl⟩ (by decide) rfl ?_
  obtain ⟨y1, hy1, h⟩ := zbind h
  refine t_Rf_erasesAll_l12 _ _ _ hy1 ?_
  obtain rfl := Option.some.inj h
  exact zt_vret dX12_erasesAll_83 rfl
set_option maxRecDepth 100000 in
set_option maxHeartbeats 4000000 in
theorem t_Rf_erasesAll {a1 : Int} {s : zSt} {res : Int × zSt} (h : f_Rf_erasesAll a1 s = some res) : zSpecT 5 m_X12_erasesAll [.inr (.inl (some 0)), .inl a1] TRf s none res.2 := by
  refine zSpec_of (by decide +kernel) (Nat.le_of_ble_eq_true rfl) ?_
  show zBT 5 m_X12_erasesAll TRf none res.2 0 [some (.inr (.inl (some 0))), some (.inl a1), none] [] s
  unfold f_Rf_erasesAll at h
  refine zr_load ⟨_, dX12_erasesAll_0, rfl⟩ rfl ?_
  refine zr_iconst dX12_erasesAll_1 (by decide) ?_
  refine zr_ic_ne (tgt := 10) dX12_erasesAll_2 (by decide) (fun hc1 => ?_) (fun hc1 => ?_)
  · replace h := zpos h hc1
    exact t_Rf_erasesAll_j10 h
  · replace h := zneg h hc1
    refine zr_aload ⟨_, dX12_erasesAll_5, rfl⟩ rfl ?_
    refine zr_iconst dX12_erasesAll_6 (by decide) ?_
    refine zt_put dX12_erasesAll_7 fl_X12_98 rfl rfl ?_
    exact t_Rf_erasesAll_j10 h
set_option maxRecDepth 100000 in
set_option maxHeartbeats 4000000 in
theorem t_Rf_meansMore_l62 {c2 : Int} {r : Option zAV} {s0 : zSt}  : ∀ (n : Nat) (x : Int × zSt) (out : zSt), zloop (f_Rf_meansMore_l62 c2) n x = some out → (zBT 5 m_X12_meansMore TRf r s0 86 [none, none, none, none] [] out) → zBT 5 m_X12_meansMore TRf r s0 62 [some (.inr (.inl (some 0))), none, some (.inl c2), some (.inl x.1)] [] x.2 := by
  refine zloop_B (B := fun (x : Int × zSt) (out : zSt) => zBT 5 m_X12_meansMore TRf r s0 86 [none, none, none, none] [] out → zBT 5 m_X12_meansMore TRf r s0 62 [some (.inr (.inl (some 0))), none, some (.inl c2), some (.inl x.1)] [] x.2) ?_
  intro x o out h hk hx
  unfold f_Rf_meansMore_l62 at h
  refine zr_load ⟨_, dX12_meansMore_62, rfl⟩ rfl ?_
  refine zr_load ⟨_, dX12_meansMore_63, rfl⟩ rfl ?_
  refine zr_ic_ge (tgt := 86) dX12_meansMore_64 (by decide) (fun hc1 => ?_) (fun hc1 => ?_)
  · replace h := zpos h hc1
    refine zr_mask [false, false, false, false] rfl ?_
    obtain rfl := Option.some.inj h
    obtain rfl := hk
    exact hx
  · replace h := zneg h hc1
    refine zr_aload ⟨_, dX12_meansMore_67, rfl⟩ rfl ?_
    refine zr_aload ⟨_, dX12_meansMore_68, rfl⟩ rfl ?_
    refine zt_get dX12_meansMore_69 fl_X12_116 rfl rfl ?_
    refine zr_aload ⟨_, dX12_meansMore_72, rfl⟩ rfl ?_
    refine zt_get dX12_meansMore_73 fl_X12_30 rfl rfl ?_
    refine zr_iconst dX12_meansMore_76 (by decide) ?_
    obtain ⟨x2, hx2, h⟩ := zbind h
    refine zt_calliv (t_Rf_scrollsUp hx2) (zrun_V (rest := []) dX12_meansMore_77 ml_X12_119 rfl rfl (by decide) (by decide) rfl (Nat.le_of_ble_eq_true rfl)) rfl rfl (Nat.le_refl _) (Nat.le_refl _) ?_
    refine zr_iinc dX12_meansMore_80 rfl (by decide) rfl ?_
    refine zr_goto (tgt := 62) dX12_meansMore_83 (by decide) ?_
    obtain rfl := Option.some.inj h
    exact hk hx
set_option maxRecDepth 100000 in
set_option maxHeartbeats 4000000 in
theorem t_Rf_meansMore_l91 {c2 : Int} {r : Option zAV} {s0 : zSt}  : ∀ (n : Nat) (x : Int × zSt) (out : zSt), zloop (f_Rf_meansMore_l91 c2) n x = some out → (zBT 5 m_X12_meansMore TRf r s0 114 [none, none, none, none] [] out) → zBT 5 m_X12_meansMore TRf r s0 91 [some (.inr (.inl (some 0))), none, some (.inl c2), some (.inl x.1)] [] x.2 := by
  refine zloop_B (B := fun (x : Int × zSt) (out : zSt) => zBT 5 m_X12_meansMore TRf r s0 114 [none, none, none, none] [] out → zBT 5 m_X12_meansMore TRf r s0 91 [some (.inr (.inl (some 0))), none, some (.inl c2), some (.inl x.1)] [] x.2) ?_
  intro x o out h hk hx
  unfold f_Rf_meansMore_l91 at h
  refine zr_load ⟨_, dX12_meansMore_91, rfl⟩ rfl ?_
  refine zr_load ⟨_, dX12_meansMore_92, rfl⟩ rfl ?_
  refine zr_ic_ge (tgt := 114) dX12_meansMore_93 (by decide) (fun hc1 => ?_) (fun hc1 => ?_)
  · replace h := zpos h hc1
    refine zr_mask [false, false, false, false] rfl ?_
    obtain rfl := Option.some.inj h
    obtain rfl := hk
    exact hx
  · replace h := zneg h hc1
    refine zr_aload ⟨_, dX12_meansMore_96, rfl⟩ rfl ?_
    refine zr_aload ⟨_, dX12_meansMore_97, rfl⟩ rfl ?_
    refine zt_get dX12_meansMore_98 fl_X12_116 rfl rfl ?_
    refine zr_aload ⟨_, dX12_meansMore_101, rfl⟩ rfl ?_
    refine zt_get dX12_meansMore_102 fl_X12_30 rfl rfl ?_
    obtain ⟨x2, hx2, h⟩ := zbind h
    refine zt_calliv (t_Rf_scrollsDown hx2) (zrun_V (rest := []) dX12_meansMore_105 ml_X12_216 rfl rfl (by decide) (by decide) rfl (Nat.le_of_ble_eq_true rfl)) rfl rfl (Nat.le_refl _) (Nat.le_refl _) ?_
    refine zr_iinc dX12_meansMore_108 rfl (by decide) rfl ?_
    refine zr_goto (tgt := 91) dX12_meansMore_111 (by decide) ?_
    obtain rfl := Option.some.inj h
    exact hk hx
set_option maxRecDepth 100000 in
set_option maxHeartbeats 4000000 in
theorem t_Rf_meansMore {a1 a2 : Int} {s : zSt} {res : Int × zSt} (h : f_Rf_meansMore a1 a2 s = some res) : zSpecT 5 m_X12_meansMore [.inr (.inl (some 0)), .inl a1, .inl a2] TRf s none res.2 := by
  refine zSpec_of (by decide +kernel) (Nat.le_of_ble_eq_true rfl) ?_
  show zBT 5 m_X12_meansMore TRf none res.2 0 [some (.inr (.inl (some 0))), some (.inl a1), some (.inl a2), none] [] s
  unfold f_Rf_meansMore at h
  refine zr_load ⟨_, dX12_meansMore_0, rfl⟩ rfl ?_
  refine zr_lsw (l := [(83, 59), (84, 88), (103, 130), (109, 123), (110, 180), (114, 116)]) dX12_meansMore_1 (by decide) rfl ?_
  refine zr_swc (tgt := 60) (by decide) (fun hc1 => ?_) (fun hc1 => ?_)
  · replace h := zpos h hc1
    refine zr_iconst dX12_meansMore_60 (by decide) ?_
    refine zr_store ⟨_, dX12_meansMore_61, rfl⟩ (by decide) rfl ?_
    refine zr_mask [true, false, true, true] rfl ?_
    obtain ⟨y2, hy2, h⟩ := zbind h
    refine t_Rf_meansMore_l62 _ _ _ hy2 ?_
    refine zr_goto (tgt := 194) dX12_meansMore_86 (by decide) ?_
    obtain rfl := Option.some.inj h
    exact zt_vret dX12_meansMore_194 rfl
  replace h := zneg h hc1
  refine zr_swc (tgt := 89) (by decide) (fun hc3 => ?_) (fun hc3 => ?_)
  · replace h := zpos h hc3
    refine zr_iconst dX12_meansMore_89 (by decide) ?_
    refine zr_store ⟨_, dX12_meansMore_90, rfl⟩ (by decide) rfl ?_
    refine zr_mask [true, false, true, true] rfl ?_
    obtain ⟨y4, hy4, h⟩ := zbind h
    refine t_Rf_meansMore_l91 _ _ _ hy4 ?_
    refine zr_goto (tgt := 194) dX12_meansMore_114 (by decide) ?_
    obtain rfl := Option.some.inj h
    exact zt_vret dX12_meansMore_194 rfl
  replace h := zneg h hc3
  refine zr_swc (tgt := 131) (by decide) (fun hc5 => ?_) (fun hc5 => ?_)
  · replace h := zpos h hc5
    refine zr_aload ⟨_, dX12_meansMore_131, rfl⟩ rfl ?_
    refine zr_aload ⟨_, dX12_meansMore_132, rfl⟩ rfl ?_
    refine zt_getr dX12_meansMore_133 fl_X12_40 rfl rfl ?_
    refine zr_iconst dX12_meansMore_136 (by decide) ?_
    obtain ⟨hb6, h⟩ := zchk h
    refine zt_iaload dX12_meansMore_137 rfl hb6 ?_
    refine zr_iconst dX12_meansMore_138 (by decide) ?_
    refine zr_ic_ne (tgt := 146) dX12_meansMore_139 (by decide) (fun hc7 => ?_) (fun hc7 => ?_)
    · replace h := zpos h hc7
      refine zr_aload ⟨_, dX12_meansMore_146, rfl⟩ rfl ?_
      refine zt_getr dX12_meansMore_147 fl_X12_40 rfl rfl ?_
      refine zr_iconst dX12_meansMore_150 (by decide) ?_
      obtain ⟨hb8, h⟩ := zchk h
      refine zt_iaload dX12_meansMore_151 rfl hb8 ?_
      have hj9 : zBT 5 m_X12_meansMore TRf none res.2 175 [some (.inr (.inl (some 0))), some (.inl a1), some (.inl a2), none] [.inl (if ¬ ((s.2 5) 0) = 0 then (s.1 0 15) else (wAnd (s.1 0 15) (wXor (wShl 1 (s.1 0 10)) (-1)))), .inr (.inl (some 0))] s := by
        refine zt_put dX12_meansMore_175 fl_X12_146 rfl rfl ?_
        refine zr_goto (tgt := 194) dX12_meansMore_178 (by decide) ?_
        obtain rfl := Option.some.inj h
        exact zt_vret dX12_meansMore_194 rfl
      refine zr_if_ne (tgt := 171) dX12_meansMore_152 (by decide) (fun hc10 => ?_) (fun hc10 => ?_)
      · have hp11 := zif_t hj9 hc10
        refine zr_aload ⟨_, dX12_meansMore_171, rfl⟩ rfl ?_
        refine zt_get dX12_meansMore_172 fl_X12_146 rfl rfl ?_
        exact hp11
      · have hp12 := zif_f hj9 hc10
        refine zr_aload ⟨_, dX12_meansMore_155, rfl⟩ rfl ?_
        refine zt_get dX12_meansMore_156 fl_X12_146 rfl rfl ?_
        refine zr_iconst dX12_meansMore_159 (by decide) ?_
        refine zr_aload ⟨_, dX12_meansMore_160, rfl⟩ rfl ?_
        refine zt_get dX12_meansMore_161 fl_X12_123 rfl rfl ?_
        refine zr_ishl dX12_meansMore_164 ?_
        refine zr_iconst dX12_meansMore_165 (by decide) ?_
        refine zr_ixor dX12_meansMore_166 ?_
        refine zr_iand dX12_meansMore_167 ?_
        refine zr_goto (tgt := 175) dX12_meansMore_168 (by decide) ?_
        exact hp12
    · replace h := zneg h hc7
      refine zr_iconst dX12_meansMore_142 (by decide) ?_
      refine zr_goto (tgt := 175) dX12_meansMore_143 (by decide) ?_
      refine zt_put dX12_meansMore_175 fl_X12_146 rfl rfl ?_
      refine zr_goto (tgt := 194) dX12_meansMore_178 (by decide) ?_
      obtain rfl := Option.some.inj h
      exact zt_vret dX12_meansMore_194 rfl
  replace h := zneg h hc5
  refine zr_swc (tgt := 124) (by decide) (fun hc13 => ?_) (fun hc13 => ?_)
  · replace h := zpos h hc13
    refine zr_aload ⟨_, dX12_meansMore_124, rfl⟩ rfl ?_
    obtain ⟨x14, hx14, h⟩ := zbind h
    refine zt_calliv (t_Rf_colours hx14) (zrun_V (rest := []) dX12_meansMore_125 ml_X12_287 rfl rfl (by decide) (by decide) rfl (Nat.le_of_ble_eq_true rfl)) rfl rfl (Nat.le_refl _) (Nat.le_refl _) ?_
    refine zr_goto (tgt := 194) dX12_meansMore_128 (by decide) ?_
    obtain rfl := Option.some.inj h
    exact zt_vret dX12_meansMore_194 rfl
  replace h := zneg h hc13
  refine zr_swc (tgt := 181) (by decide) (fun hc15 => ?_) (fun hc15 => ?_)
  · replace h := zpos h hc15
    refine zr_aload ⟨_, dX12_meansMore_181, rfl⟩ rfl ?_
    obtain ⟨x16, hx16, h⟩ := zbind h
    refine zt_calliv (t_Rf_tells hx16) (zrun_V (rest := []) dX12_meansMore_182 ml_X12_290 rfl rfl (by decide) (by decide) rfl (Nat.le_of_ble_eq_true rfl)) rfl rfl (Nat.le_refl _) (Nat.le_refl _) ?_
    refine zr_goto (tgt := 194) dX12_meansMore_185 (by decide) ?_
    obtain rfl := Option.some.inj h
    exact zt_vret dX12_meansMore_194 rfl
  replace h := zneg h hc15
  refine zr_swc (tgt := 117) (by decide) (fun hc17 => ?_) (fun hc17 => ?_)
  · replace h := zpos h hc17
    refine zr_aload ⟨_, dX12_meansMore_117, rfl⟩ rfl ?_
    obtain ⟨x18, hx18, h⟩ := zbind h
    refine zt_calliv (t_Rf_setsRegion hx18) (zrun_V (rest := []) dX12_meansMore_118 ml_X12_284 rfl rfl (by decide) (by decide) rfl (Nat.le_of_ble_eq_true rfl)) rfl rfl (Nat.le_refl _) (Nat.le_refl _) ?_
    refine zr_goto (tgt := 194) dX12_meansMore_121 (by decide) ?_
    obtain rfl := Option.some.inj h
    exact zt_vret dX12_meansMore_194 rfl
  replace h := zneg h hc17
  refine zr_swd (tgt := 188) (by decide) ?_
  refine zr_aload ⟨_, dX12_meansMore_188, rfl⟩ rfl ?_
  refine zr_load ⟨_, dX12_meansMore_189, rfl⟩ rfl ?_
  refine zr_iconst dX12_meansMore_190 (by decide) ?_
  obtain ⟨x19, hx19, h⟩ := zbind h
  refine zt_calliv (t_Rf_modes hx19) (zrun_V (rest := []) dX12_meansMore_191 ml_X12_222 rfl rfl (by decide) (by decide) rfl (Nat.le_of_ble_eq_true rfl)) rfl rfl (Nat.le_refl _) (Nat.le_refl _) ?_
  obtain rfl := Option.some.inj h
  exact zt_vret dX12_meansMore_194 rfl
set_option maxRecDepth 100000 in
set_option maxHeartbeats 4000000 in
theorem t_Rf_draw_l9  {r : Option zAV} {s0 : zSt}  : ∀ (n : Nat) (x : Int × Int × zSt) (out : Int × zSt), zloop (f_Rf_draw_l9) n x = some out → (zBT 5 m_X12_draw TRf r s0 31 [some (.inr (.inl (some 0))), some (.inl out.1), none, none] [] out.2) → zBT 5 m_X12_draw TRf r s0 9 [some (.inr (.inl (some 0))), some (.inl x.1), some (.inl x.2.1), none] [] x.2.2 := by
  refine zloop_B (B := fun (x : Int × Int × zSt) (out : Int × zSt) => zBT 5 m_X12_draw TRf r s0 31 [some (.inr (.inl (some 0))), some (.inl out.1), none, none] [] out.2 → zBT 5 m_X12_draw TRf r s0 9 [some (.inr (.inl (some 0))), some (.inl x.1), some (.inl x.2.1), none] [] x.2.2) ?_
  intro x o out h hk hx
  unfold f_Rf_draw_l9 at h
  refine zr_load ⟨_, dX12_draw_9, rfl⟩ rfl ?_
  refine zr_aload ⟨_, dX12_draw_10, rfl⟩ rfl ?_
  refine zt_get dX12_draw_11 fl_X12_7 rfl rfl ?_
  refine zr_ic_ge (tgt := 31) dX12_draw_14 (by decide) (fun hc1 => ?_) (fun hc1 => ?_)
  · replace h := zpos h hc1
    refine zr_mask [true, true, false, false] rfl ?_
    obtain rfl := Option.some.inj h
    obtain rfl := hk
    exact hx
  · replace h := zneg h hc1
    refine zr_load ⟨_, dX12_draw_17, rfl⟩ rfl ?_
    refine zr_aload ⟨_, dX12_draw_18, rfl⟩ rfl ?_
    refine zr_load ⟨_, dX12_draw_19, rfl⟩ rfl ?_
    obtain ⟨x2, hx2, h⟩ := zbind h
    refine zt_callii (t_Rf_costOf hx2) (zrun_V (rest := [.inl x.1]) dX12_draw_20 ml_X12_397 rfl rfl (by decide) (by decide) rfl (Nat.le_of_ble_eq_true rfl)) rfl rfl (Nat.le_refl _) (Nat.le_refl _) ?_
    refine zr_iadd dX12_draw_23 ?_
    refine zr_store ⟨_, dX12_draw_24, rfl⟩ (by decide) rfl ?_
    refine zr_iinc dX12_draw_25 rfl (by decide) rfl ?_
    refine zr_goto (tgt := 9) dX12_draw_28 (by decide) ?_
    obtain rfl := Option.some.inj h
    exact hk hx
set_option maxRecDepth 100000 in
set_option maxHeartbeats 4000000 in
theorem t_Rf_draw_l43 {c1 c2 : Int} {r : Option zAV} {s0 : zSt}  : ∀ (n : Nat) (x : Int × zSt) (out : zSt), zloop (f_Rf_draw_l43 c1 c2) n x = some out → (zBT 5 m_X12_draw TRf r s0 79 [some (.inr (.inl (some 0))), some (.inl c1), some (.inl c2), none] [] out) → zBT 5 m_X12_draw TRf r s0 43 [some (.inr (.inl (some 0))), some (.inl c1), some (.inl c2), some (.inl x.1)] [] x.2 := by
  refine zloop_B (B := fun (x : Int × zSt) (out : zSt) => zBT 5 m_X12_draw TRf r s0 79 [some (.inr (.inl (some 0))), some (.inl c1), some (.inl c2), none] [] out → zBT 5 m_X12_draw TRf r s0 43 [some (.inr (.inl (some 0))), some (.inl c1), some (.inl c2), some (.inl x.1)] [] x.2) ?_
  intro x o out h hk hx
  unfold f_Rf_draw_l43 at h
  refine zr_load ⟨_, dX12_draw_43, rfl⟩ rfl ?_
  refine zr_aload ⟨_, dX12_draw_44, rfl⟩ rfl ?_
  refine zt_get dX12_draw_45 fl_X12_13 rfl rfl ?_
  refine zr_ic_ge (tgt := 79) dX12_draw_48 (by decide) (fun hc1 => ?_) (fun hc1 => ?_)
  · replace h := zpos h hc1
    refine zr_mask [true, true, true, false] rfl ?_
    obtain rfl := Option.some.inj h
    obtain rfl := hk
    exact hx
  · replace h := zneg h hc1
    refine zr_aload ⟨_, dX12_draw_51, rfl⟩ rfl ?_
    refine zt_getr dX12_draw_52 fl_X12_64 rfl rfl ?_
    refine zr_bipush dX12_draw_55 (by decide) (by decide) ?_
    refine zr_load ⟨_, dX12_draw_57, rfl⟩ rfl ?_
    refine zr_imul dX12_draw_58 ?_
    refine zr_load ⟨_, dX12_draw_59, rfl⟩ rfl ?_
    refine zr_iadd dX12_draw_60 ?_
    refine zr_aload ⟨_, dX12_draw_61, rfl⟩ rfl ?_
    refine zt_getr dX12_draw_62 fl_X12_16 rfl rfl ?_
    refine zr_aload ⟨_, dX12_draw_65, rfl⟩ rfl ?_
    refine zr_load ⟨_, dX12_draw_66, rfl⟩ rfl ?_
    refine zr_load ⟨_, dX12_draw_67, rfl⟩ rfl ?_
    obtain ⟨x2, hx2, h⟩ := zbind h
    refine zt_callisi (t_Rf_at hx2) (zrun_V (rest := [.inr (.inl (some 1)), .inl (w32 ((w32 (24 * c2)) + x.1)), .inr (.inl (some 12))]) dX12_draw_68 ml_X12_90 rfl rfl (by decide) (by decide) rfl (Nat.le_of_ble_eq_true rfl)) rfl rfl (Nat.le_refl _) (Nat.le_refl _) ?_
    obtain ⟨hb3, h⟩ := zchk h
    refine zt_iaload dX12_draw_71 rfl hb3 ?_
    obtain ⟨hb4, h⟩ := zchk h
    refine zt_iastore dX12_draw_72 rfl hb4 ?_
    refine zr_iinc dX12_draw_73 rfl (by decide) rfl ?_
    refine zr_goto (tgt := 43) dX12_draw_76 (by decide) ?_
    obtain rfl := Option.some.inj h
    exact hk hx
set_option maxRecDepth 100000 in
set_option maxHeartbeats 4000000 in
theorem t_Rf_draw_l33 {c1 : Int} {r : Option zAV} {s0 : zSt}  : ∀ (n : Nat) (x : Int × zSt) (out : zSt), zloop (f_Rf_draw_l33 c1) n x = some out → (zBT 5 m_X12_draw TRf r s0 85 [none, some (.inl c1), none, none] [] out) → zBT 5 m_X12_draw TRf r s0 33 [some (.inr (.inl (some 0))), some (.inl c1), some (.inl x.1), none] [] x.2 := by
  refine zloop_B (B := fun (x : Int × zSt) (out : zSt) => zBT 5 m_X12_draw TRf r s0 85 [none, some (.inl c1), none, none] [] out → zBT 5 m_X12_draw TRf r s0 33 [some (.inr (.inl (some 0))), some (.inl c1), some (.inl x.1), none] [] x.2) ?_
  intro x o out h hk hx
  unfold f_Rf_draw_l33 at h
  refine zr_load ⟨_, dX12_draw_33, rfl⟩ rfl ?_
  refine zr_aload ⟨_, dX12_draw_34, rfl⟩ rfl ?_
  refine zt_get dX12_draw_35 fl_X12_7 rfl rfl ?_
  refine zr_ic_ge (tgt := 85) dX12_draw_38 (by decide) (fun hc1 => ?_) (fun hc1 => ?_)
  · replace h := zpos h hc1
    refine zr_mask [false, true, false, false] rfl ?_
    obtain rfl := Option.some.inj h
    obtain rfl := hk
    exact hx
  · replace h := zneg h hc1
    refine zr_iconst dX12_draw_41 (by decide) ?_
    refine zr_store ⟨_, dX12_draw_42, rfl⟩ (by decide) rfl ?_
    obtain ⟨y2, hy2, h⟩ := zbind h
    refine t_Rf_draw_l43 _ _ _ hy2 ?_
    refine zr_iinc dX12_draw_79 rfl (by decide) rfl ?_
    refine zr_goto (tgt := 33) dX12_draw_82 (by decide) ?_
    obtain rfl := Option.some.inj h
    exact hk hx
set_option maxRecDepth 100000 in
set_option maxHeartbeats 4000000 in
theorem t_Rf_draw  {s : zSt} {res : Int × zSt} (h : f_Rf_draw s = some res) : zSpecT 5 m_X12_draw [.inr (.inl (some 0))] TRf s (some (.inl res.1)) res.2 := by
  refine zSpec_of (by decide +kernel) (Nat.le_of_ble_eq_true rfl) ?_
  show zBT 5 m_X12_draw TRf (some (.inl res.1)) res.2 0 [some (.inr (.inl (some 0))), none, none, none] [] s
  unfold f_Rf_draw at h
  refine zr_aload ⟨_, dX12_draw_0, rfl⟩ rfl ?_
  refine zr_iconst dX12_draw_1 (by decide) ?_
  refine zt_put dX12_draw_2 fl_X12_80 rfl rfl ?_
  refine zr_iconst dX12_draw_5 (by decide) ?_
  refine zr_store ⟨_, dX12_draw_6, rfl⟩ (by decide) rfl ?_
  refine zr_iconst dX12_draw_7 (by decide) ?_
  refine zr_store ⟨_, dX12_draw_8, rfl⟩ (by decide) rfl ?_
  obtain ⟨y1, hy1, h⟩ := zbind h
  refine t_Rf_draw_l9 _ _ _ hy1 ?_
  refine zr_iconst dX12_draw_31 (by decide) ?_
  refine zr_store ⟨_, dX12_draw_32, rfl⟩ (by decide) rfl ?_
  obtain ⟨y2, hy2, h⟩ := zbind h
  refine t_Rf_draw_l33 _ _ _ hy2 ?_
  refine zr_load ⟨_, dX12_draw_85, rfl⟩ rfl ?_
  obtain rfl := Option.some.inj h
  exact zt_iret dX12_draw_86 rfl
set_option maxRecDepth 100000 in
set_option maxHeartbeats 4000000 in
theorem t_Rf_least {a1 : Int} {s : zSt} {res : Int × zSt} (h : f_Rf_least a1 s = some res) : zSpecT 5 m_X12_least [.inr (.inl (some 0)), .inl a1] TRf s (some (.inl res.1)) res.2 := by
  refine zSpec_of (by decide +kernel) (Nat.le_of_ble_eq_true rfl) ?_
  show zBT 5 m_X12_least TRf (some (.inl res.1)) res.2 0 [some (.inr (.inl (some 0))), some (.inl a1)] [] s
  unfold f_Rf_least at h
  refine zr_aload ⟨_, dX12_least_0, rfl⟩ rfl ?_
  refine zr_load ⟨_, dX12_least_1, rfl⟩ rfl ?_
  refine zr_iconst dX12_least_2 (by decide) ?_
  refine zr_aload ⟨_, dX12_least_3, rfl⟩ rfl ?_
  refine zt_get dX12_least_4 fl_X12_7 rfl rfl ?_
  refine zr_iconst dX12_least_7 (by decide) ?_
  refine zr_isub dX12_least_8 ?_
  obtain ⟨x1, hx1, h⟩ := zbind h
  refine zt_call0 (t_Rf_in hx1) (zrun_S (rest := [.inr (.inl (some 0))]) dX12_least_9 ml_X12_83 rfl (by decide) (by decide) rfl (Nat.le_of_ble_eq_true rfl)) rfl rfl (Nat.le_refl _) (Nat.le_refl _) ?_
  have hj2 : zBT 5 m_X12_least TRf (some (.inl res.1)) res.2 20 [some (.inr (.inl (some 0))), some (.inl a1)] [.inl (if x1 = 0 then 1 else 0), .inr (.inl (some 0))] s := by
    refine zt_put dX12_least_20 fl_X12_80 rfl rfl ?_
    refine zr_aload ⟨_, dX12_least_23, rfl⟩ rfl ?_
    refine zt_get dX12_least_24 fl_X12_80 rfl rfl ?_
    refine zr_if_le (tgt := 34) dX12_least_27 (by decide) (fun hc4 => ?_) (fun hc4 => ?_)
    · replace h := zpos h hc4
      refine zr_aload ⟨_, dX12_least_34, rfl⟩ rfl ?_
      refine zr_load ⟨_, dX12_least_35, rfl⟩ rfl ?_
      obtain ⟨x5, hx5, h⟩ := zbind h
      refine zt_callii (t_Rf_costOf hx5) (zrun_V (rest := []) dX12_least_36 ml_X12_397 rfl rfl (by decide) (by decide) rfl (Nat.le_of_ble_eq_true rfl)) rfl rfl (Nat.le_refl _) (Nat.le_refl _) ?_
      obtain rfl := Option.some.inj h
      exact zt_iret dX12_least_39 rfl
    · replace h := zneg h hc4
      refine zr_iconst dX12_least_30 (by decide) ?_
      refine zr_goto (tgt := 39) dX12_least_31 (by decide) ?_
      obtain rfl := Option.some.inj h
      exact zt_iret dX12_least_39 rfl
  refine zr_if_eq (tgt := 19) dX12_least_12 (by decide) (fun hc3 => ?_) (fun hc3 => ?_)
  · have hp6 := zif_t hj2 hc3
    refine zr_iconst dX12_least_19 (by decide) ?_
    exact hp6
  · have hp7 := zif_f hj2 hc3
    refine zr_iconst dX12_least_15 (by decide) ?_
    refine zr_goto (tgt := 20) dX12_least_16 (by decide) ?_
    exact hp7
set_option maxRecDepth 100000 in
set_option maxHeartbeats 4000000 in
theorem t_Rf_means_j274 {k0 : Int} {s : zSt} {res : Int × zSt} (h : f_Rf_means_j274 k0 s = some res) : zBT 6 m_X12_means TRf none res.2 274 [some (.inr (.inl (some 0))), none, none] [.inl k0, .inr (.inl (some 0))] s := by
  unfold f_Rf_means_j274 at h
  refine zt_put dX12_means_274 fl_X12_113 rfl rfl ?_
  refine zr_aload ⟨_, dX12_means_277, rfl⟩ rfl ?_
  refine zr_aload ⟨_, dX12_means_278, rfl⟩ rfl ?_
  obtain ⟨x1, hx1, h⟩ := zbind h
  refine zt_callisi (t_Rf_second hx1) (zrun_V (rest := [.inr (.inl (some 0))]) dX12_means_279 ml_X12_259 rfl rfl (by decide) (by decide) rfl (Nat.le_of_ble_eq_true rfl)) rfl rfl (Nat.le_refl _) (Nat.le_refl _) ?_
  refine zr_if_ne (tgt := 289) dX12_means_282 (by decide) (fun hc2 => ?_) (fun hc2 => ?_)
  · replace h := zpos h hc2
    refine zr_aload ⟨_, dX12_means_289, rfl⟩ rfl ?_
    obtain ⟨x3, hx3, h⟩ := zbind h
    refine zt_callisi (t_Rf_second hx3) (zrun_V (rest := [.inr (.inl (some 0))]) dX12_means_290 ml_X12_259 rfl rfl (by decide) (by decide) rfl (Nat.le_of_ble_eq_true rfl)) rfl rfl (Nat.le_refl _) (Nat.le_refl _) ?_
    refine zr_iconst dX12_means_293 (by decide) ?_
    refine zr_isub dX12_means_294 ?_
    refine zr_aload ⟨_, dX12_means_295, rfl⟩ rfl ?_
    refine zt_get dX12_means_296 fl_X12_13 rfl rfl ?_
    refine zr_iconst dX12_means_299 (by decide) ?_
    refine zr_isub dX12_means_300 ?_
    obtain ⟨x4, hx4, h⟩ := zbind h
    refine zt_call0 (t_Rf_lesser hx4) (zrun_S (rest := [.inr (.inl (some 0))]) dX12_means_301 ml_X12_170 rfl (by decide) (by decide) rfl (Nat.le_of_ble_eq_true rfl)) rfl rfl (Nat.le_refl _) (Nat.le_refl _) ?_
    refine zt_put dX12_means_304 fl_X12_123 rfl rfl ?_
    refine zr_aload ⟨_, dX12_means_307, rfl⟩ rfl ?_
    refine zr_iconst dX12_means_308 (by decide) ?_
    refine zt_putz dX12_means_309 fl_X12_126 rfl rfl (Or.inl rfl) ?_
    refine zr_goto (tgt := 462) dX12_means_312 (by decide) ?_
    obtain rfl := Option.some.inj h
    exact zt_vret dX12_means_462 rfl
  · replace h := zneg h hc2
    refine zr_iconst dX12_means_285 (by decide) ?_
    refine zr_goto (tgt := 304) dX12_means_286 (by decide) ?_
    refine zt_put dX12_means_304 fl_X12_123 rfl rfl ?_
    refine zr_aload ⟨_, dX12_means_307, rfl⟩ rfl ?_
    refine zr_iconst dX12_means_308 (by decide) ?_
    refine zt_putz dX12_means_309 fl_X12_126 rfl rfl (Or.inl rfl) ?_
    refine zr_goto (tgt := 462) dX12_means_312 (by decide) ?_
    obtain rfl := Option.some.inj h
    exact zt_vret dX12_means_462 rfl
set_option maxRecDepth 100000 in
set_option maxHeartbeats 4000000 in
theorem t_Rf_means {a1 : Int} {s : zSt} {res : Int × zSt} (h : f_Rf_means a1 s = some res) : zSpecT 6 m_X12_means [.inr (.inl (some 0)), .inl a1] TRf s none res.2 := by
  refine zSpec_of (by decide +kernel) (Nat.le_of_ble_eq_true rfl) ?_
  show zBT 6 m_X12_means TRf none res.2 0 [some (.inr (.inl (some 0))), some (.inl a1), none] [] s
  unfold f_Rf_means at h
  refine zr_aload ⟨_, dX12_means_0, rfl⟩ rfl ?_
  obtain ⟨x1, hx1, h⟩ := zbind h
  refine zt_callisi (t_Rf_first hx1) (zrun_V (rest := []) dX12_means_1 ml_X12_256 rfl rfl (by decide) (by decide) rfl (Nat.le_of_ble_eq_true rfl)) rfl rfl (Nat.le_refl _) (Nat.le_refl _) ?_
  refine zr_store ⟨_, dX12_means_4, rfl⟩ (by decide) rfl ?_
  refine zr_load ⟨_, dX12_means_5, rfl⟩ rfl ?_
  refine zr_tsw (l := [(64, 375), (65, 114), (66, 145), (67, 172), (68, 199), (72, 230), (74, 309), (75, 327), (76, 359), (77, 367), (80, 396), (88, 417)]) dX12_means_6 (by decide +kernel) ?_
  refine zr_swc (tgt := 381) (by decide) (fun hc2 => ?_) (fun hc2 => ?_)
  · replace h := zpos h hc2
    refine zr_aload ⟨_, dX12_means_381, rfl⟩ rfl ?_
    refine zr_aload ⟨_, dX12_means_382, rfl⟩ rfl ?_
    refine zt_get dX12_means_383 fl_X12_113 rfl rfl ?_
    refine zr_aload ⟨_, dX12_means_386, rfl⟩ rfl ?_
    refine zt_get dX12_means_387 fl_X12_123 rfl rfl ?_
    refine zr_load ⟨_, dX12_means_390, rfl⟩ rfl ?_
    obtain ⟨x3, hx3, h⟩ := zbind h
    refine zt_calliv (t_Rf_movesRight hx3) (zrun_V (rest := []) dX12_means_391 ml_X12_139 rfl rfl (by decide) (by decide) rfl (Nat.le_of_ble_eq_true rfl)) rfl rfl (Nat.le_refl _) (Nat.le_refl _) ?_
    refine zr_aload ⟨_, dX12_means_394, rfl⟩ rfl ?_
    refine zr_iconst dX12_means_395 (by decide) ?_
    refine zt_putz dX12_means_396 fl_X12_126 rfl rfl (Or.inl rfl) ?_
    refine zr_goto (tgt := 462) dX12_means_399 (by decide) ?_
    obtain rfl := Option.some.inj h
    exact zt_vret dX12_means_462 rfl
  replace h := zneg h hc2
  refine zr_swc (tgt := 120) (by decide) (fun hc4 => ?_) (fun hc4 => ?_)
  · replace h := zpos h hc4
    refine zr_aload ⟨_, dX12_means_120, rfl⟩ rfl ?_
    refine zr_aload ⟨_, dX12_means_121, rfl⟩ rfl ?_
    refine zt_get dX12_means_122 fl_X12_113 rfl rfl ?_
    refine zr_load ⟨_, dX12_means_125, rfl⟩ rfl ?_
    refine zr_isub dX12_means_126 ?_
    have hj5 : zBT 6 m_X12_means TRf none res.2 140 [some (.inr (.inl (some 0))), some (.inl a1), some (.inl x1)] [.inl (if 0 ≤ (w32 ((s.1 0 9) - x1)) then (w32 ((s.1 0 9) - x1)) else 0), .inr (.inl (some 0))] s := by
      refine zt_put dX12_means_140 fl_X12_113 rfl rfl ?_
      refine zr_aload ⟨_, dX12_means_143, rfl⟩ rfl ?_
      refine zr_iconst dX12_means_144 (by decide) ?_
      refine zt_putz dX12_means_145 fl_X12_126 rfl rfl (Or.inl rfl) ?_
      refine zr_goto (tgt := 462) dX12_means_148 (by decide) ?_
      obtain rfl := Option.some.inj h
      exact zt_vret dX12_means_462 rfl
    refine zr_if_ge (tgt := 134) dX12_means_127 (by decide) (fun hc6 => ?_) (fun hc6 => ?_)
    · have hp7 := zif_t hj5 hc6
      refine zr_aload ⟨_, dX12_means_134, rfl⟩ rfl ?_
      refine zt_get dX12_means_135 fl_X12_113 rfl rfl ?_
      refine zr_load ⟨_, dX12_means_138, rfl⟩ rfl ?_
      refine zr_isub dX12_means_139 ?_
      exact hp7
    · have hp8 := zif_f hj5 hc6
      refine zr_iconst dX12_means_130 (by decide) ?_
      refine zr_goto (tgt := 140) dX12_means_131 (by decide) ?_
      exact hp8
  replace h := zneg h hc4
  refine zr_swc (tgt := 151) (by decide) (fun hc9 => ?_) (fun hc9 => ?_)
  · replace h := zpos h hc9
    refine zr_aload ⟨_, dX12_means_151, rfl⟩ rfl ?_
    refine zr_aload ⟨_, dX12_means_152, rfl⟩ rfl ?_
    refine zt_get dX12_means_153 fl_X12_113 rfl rfl ?_
    refine zr_load ⟨_, dX12_means_156, rfl⟩ rfl ?_
    refine zr_iadd dX12_means_157 ?_
    refine zr_aload ⟨_, dX12_means_158, rfl⟩ rfl ?_
    refine zt_get dX12_means_159 fl_X12_7 rfl rfl ?_
    refine zr_iconst dX12_means_162 (by decide) ?_
    refine zr_isub dX12_means_163 ?_
    obtain ⟨x10, hx10, h⟩ := zbind h
    refine zt_call0 (t_Rf_lesser hx10) (zrun_S (rest := [.inr (.inl (some 0))]) dX12_means_164 ml_X12_170 rfl (by decide) (by decide) rfl (Nat.le_of_ble_eq_true rfl)) rfl rfl (Nat.le_refl _) (Nat.le_refl _) ?_
    refine zt_put dX12_means_167 fl_X12_113 rfl rfl ?_
    refine zr_aload ⟨_, dX12_means_170, rfl⟩ rfl ?_
    refine zr_iconst dX12_means_171 (by decide) ?_
    refine zt_putz dX12_means_172 fl_X12_126 rfl rfl (Or.inl rfl) ?_
    refine zr_goto (tgt := 462) dX12_means_175 (by decide) ?_
    obtain rfl := Option.some.inj h
    exact zt_vret dX12_means_462 rfl
  replace h := zneg h hc9
  refine zr_swc (tgt := 178) (by decide) (fun hc11 => ?_) (fun hc11 => ?_)
  · replace h := zpos h hc11
    refine zr_aload ⟨_, dX12_means_178, rfl⟩ rfl ?_
    refine zr_aload ⟨_, dX12_means_179, rfl⟩ rfl ?_
    refine zt_get dX12_means_180 fl_X12_123 rfl rfl ?_
    refine zr_load ⟨_, dX12_means_183, rfl⟩ rfl ?_
    refine zr_iadd dX12_means_184 ?_
    refine zr_aload ⟨_, dX12_means_185, rfl⟩ rfl ?_
    refine zt_get dX12_means_186 fl_X12_13 rfl rfl ?_
    refine zr_iconst dX12_means_189 (by decide) ?_
    refine zr_isub dX12_means_190 ?_
    obtain ⟨x12, hx12, h⟩ := zbind h
    refine zt_call0 (t_Rf_lesser hx12) (zrun_S (rest := [.inr (.inl (some 0))]) dX12_means_191 ml_X12_170 rfl (by decide) (by decide) rfl (Nat.le_of_ble_eq_true rfl)) rfl rfl (Nat.le_refl _) (Nat.le_refl _) ?_
    refine zt_put dX12_means_194 fl_X12_123 rfl rfl ?_
    refine zr_aload ⟨_, dX12_means_197, rfl⟩ rfl ?_
    refine zr_iconst dX12_means_198 (by decide) ?_
    refine zt_putz dX12_means_199 fl_X12_126 rfl rfl (Or.inl rfl) ?_
    refine zr_goto (tgt := 462) dX12_means_202 (by decide) ?_
    obtain rfl := Option.some.inj h
    exact zt_vret dX12_means_462 rfl
  replace h := zneg h hc11
  refine zr_swc (tgt := 205) (by decide) (fun hc13 => ?_) (fun hc13 => ?_)
  · replace h := zpos h hc13
    refine zr_aload ⟨_, dX12_means_205, rfl⟩ rfl ?_
    refine zr_aload ⟨_, dX12_means_206, rfl⟩ rfl ?_
    refine zt_get dX12_means_207 fl_X12_123 rfl rfl ?_
    refine zr_load ⟨_, dX12_means_210, rfl⟩ rfl ?_
    refine zr_isub dX12_means_211 ?_
    have hj14 : zBT 6 m_X12_means TRf none res.2 225 [some (.inr (.inl (some 0))), some (.inl a1), some (.inl x1)] [.inl (if 0 ≤ (w32 ((s.1 0 10) - x1)) then (w32 ((s.1 0 10) - x1)) else 0), .inr (.inl (some 0))] s := by
      refine zt_put dX12_means_225 fl_X12_123 rfl rfl ?_
      refine zr_aload ⟨_, dX12_means_228, rfl⟩ rfl ?_
      refine zr_iconst dX12_means_229 (by decide) ?_
      refine zt_putz dX12_means_230 fl_X12_126 rfl rfl (Or.inl rfl) ?_
      refine zr_goto (tgt := 462) dX12_means_233 (by decide) ?_
      obtain rfl := Option.some.inj h
      exact zt_vret dX12_means_462 rfl
    refine zr_if_ge (tgt := 219) dX12_means_212 (by decide) (fun hc15 => ?_) (fun hc15 => ?_)
    · have hp16 := zif_t hj14 hc15
      refine zr_aload ⟨_, dX12_means_219, rfl⟩ rfl ?_
      refine zt_get dX12_means_220 fl_X12_123 rfl rfl ?_
      refine zr_load ⟨_, dX12_means_223, rfl⟩ rfl ?_
      refine zr_isub dX12_means_224 ?_
      exact hp16
    · have hp17 := zif_f hj14 hc15
      refine zr_iconst dX12_means_215 (by decide) ?_
      refine zr_goto (tgt := 225) dX12_means_216 (by decide) ?_
      exact hp17
  replace h := zneg h hc13
  refine zr_swc (tgt := 236) (by decide) (fun hc18 => ?_) (fun hc18 => ?_)
  · replace h := zpos h hc18
    refine zr_aload ⟨_, dX12_means_236, rfl⟩ rfl ?_
    refine zr_aload ⟨_, dX12_means_237, rfl⟩ rfl ?_
    refine zt_get dX12_means_238 fl_X12_164 rfl rfl ?_
    refine zr_if_eq (tgt := 262) dX12_means_241 (by decide) (fun hc19 => ?_) (fun hc19 => ?_)
    · replace h := zpos h hc19
      refine zr_load ⟨_, dX12_means_262, rfl⟩ rfl ?_
      refine zr_iconst dX12_means_263 (by decide) ?_
      refine zr_isub dX12_means_264 ?_
      refine zr_aload ⟨_, dX12_means_265, rfl⟩ rfl ?_
      refine zt_get dX12_means_266 fl_X12_7 rfl rfl ?_
      refine zr_iconst dX12_means_269 (by decide) ?_
      refine zr_isub dX12_means_270 ?_
      obtain ⟨x20, hx20, h⟩ := zbind h
      refine zt_call0 (t_Rf_lesser hx20) (zrun_S (rest := [.inr (.inl (some 0))]) dX12_means_271 ml_X12_170 rfl (by decide) (by decide) rfl (Nat.le_of_ble_eq_true rfl)) rfl rfl (Nat.le_refl _) (Nat.le_refl _) ?_
      refine zr_mask [true, false, false] rfl ?_
      exact t_Rf_means_j274 h
    · replace h := zneg h hc19
      refine zr_aload ⟨_, dX12_means_244, rfl⟩ rfl ?_
      refine zt_get dX12_means_245 fl_X12_116 rfl rfl ?_
      refine zr_load ⟨_, dX12_means_248, rfl⟩ rfl ?_
      refine zr_iadd dX12_means_249 ?_
      refine zr_iconst dX12_means_250 (by decide) ?_
      refine zr_isub dX12_means_251 ?_
      refine zr_aload ⟨_, dX12_means_252, rfl⟩ rfl ?_
      refine zt_get dX12_means_253 fl_X12_30 rfl rfl ?_
      obtain ⟨x21, hx21, h⟩ := zbind h
      refine zt_call0 (t_Rf_lesser hx21) (zrun_S (rest := [.inr (.inl (some 0))]) dX12_means_256 ml_X12_170 rfl (by decide) (by decide) rfl (Nat.le_of_ble_eq_true rfl)) rfl rfl (Nat.le_refl _) (Nat.le_refl _) ?_
      refine zr_goto (tgt := 274) dX12_means_259 (by decide) ?_
      refine zr_mask [true, false, false] rfl ?_
      exact t_Rf_means_j274 h
  replace h := zneg h hc18
  refine zr_swc (tgt := 315) (by decide) (fun hc22 => ?_) (fun hc22 => ?_)
  · replace h := zpos h hc22
    refine zr_aload ⟨_, dX12_means_315, rfl⟩ rfl ?_
    refine zr_aload ⟨_, dX12_means_316, rfl⟩ rfl ?_
    refine zt_getr dX12_means_317 fl_X12_40 rfl rfl ?_
    refine zr_iconst dX12_means_320 (by decide) ?_
    obtain ⟨hb23, h⟩ := zchk h
    refine zt_iaload dX12_means_321 rfl hb23 ?_
    obtain ⟨x24, hx24, h⟩ := zbind h
    refine zt_calliv (t_Rf_erasesAll hx24) (zrun_V (rest := []) dX12_means_322 ml_X12_271 rfl rfl (by decide) (by decide) rfl (Nat.le_of_ble_eq_true rfl)) rfl rfl (Nat.le_refl _) (Nat.le_refl _) ?_
    refine zr_aload ⟨_, dX12_means_325, rfl⟩ rfl ?_
    refine zr_iconst dX12_means_326 (by decide) ?_
    refine zt_putz dX12_means_327 fl_X12_126 rfl rfl (Or.inl rfl) ?_
    refine zr_goto (tgt := 462) dX12_means_330 (by decide) ?_
    obtain rfl := Option.some.inj h
    exact zt_vret dX12_means_462 rfl
  replace h := zneg h hc22
  refine zr_swc (tgt := 333) (by decide) (fun hc25 => ?_) (fun hc25 => ?_)
  · replace h := zpos h hc25
    refine zr_aload ⟨_, dX12_means_333, rfl⟩ rfl ?_
    refine zt_getr dX12_means_334 fl_X12_40 rfl rfl ?_
    refine zr_iconst dX12_means_337 (by decide) ?_
    obtain ⟨hb26, h⟩ := zchk h
    refine zt_iaload dX12_means_338 rfl hb26 ?_
    refine zr_iconst dX12_means_339 (by decide) ?_
    refine zr_ic_ge (tgt := 357) dX12_means_340 (by decide) (fun hc27 => ?_) (fun hc27 => ?_)
    · replace h := zpos h hc27
      refine zr_aload ⟨_, dX12_means_357, rfl⟩ rfl ?_
      refine zr_iconst dX12_means_358 (by decide) ?_
      refine zt_putz dX12_means_359 fl_X12_126 rfl rfl (Or.inl rfl) ?_
      refine zr_goto (tgt := 462) dX12_means_362 (by decide) ?_
      obtain rfl := Option.some.inj h
      exact zt_vret dX12_means_462 rfl
    · replace h := zneg h hc27
      refine zr_aload ⟨_, dX12_means_343, rfl⟩ rfl ?_
      refine zr_aload ⟨_, dX12_means_344, rfl⟩ rfl ?_
      refine zt_get dX12_means_345 fl_X12_113 rfl rfl ?_
      refine zr_aload ⟨_, dX12_means_348, rfl⟩ rfl ?_
      refine zt_getr dX12_means_349 fl_X12_40 rfl rfl ?_
      refine zr_iconst dX12_means_352 (by decide) ?_
      obtain ⟨hb28, h⟩ := zchk h
      refine zt_iaload dX12_means_353 rfl hb28 ?_
      obtain ⟨x29, hx29, h⟩ := zbind h
      refine zt_calliv (t_Rf_erasesRow hx29) (zrun_V (rest := []) dX12_means_354 ml_X12_253 rfl rfl (by decide) (by decide) rfl (Nat.le_of_ble_eq_true rfl)) rfl rfl (Nat.le_refl _) (Nat.le_refl _) ?_
      refine zr_aload ⟨_, dX12_means_357, rfl⟩ rfl ?_
      refine zr_iconst dX12_means_358 (by decide) ?_
      refine zt_putz dX12_means_359 fl_X12_126 rfl rfl (Or.inl rfl) ?_
      refine zr_goto (tgt := 462) dX12_means_362 (by decide) ?_
      obtain rfl := Option.some.inj h
      exact zt_vret dX12_means_462 rfl
  replace h := zneg h hc25
  refine zr_swc (tgt := 365) (by decide) (fun hc30 => ?_) (fun hc30 => ?_)
  · replace h := zpos h hc30
    refine zr_aload ⟨_, dX12_means_365, rfl⟩ rfl ?_
    refine zr_iconst dX12_means_366 (by decide) ?_
    obtain ⟨x31, hx31, h⟩ := zbind h
    refine zt_calliv (t_Rf_linesMove hx31) (zrun_V (rest := []) dX12_means_367 ml_X12_274 rfl rfl (by decide) (by decide) rfl (Nat.le_of_ble_eq_true rfl)) rfl rfl (Nat.le_refl _) (Nat.le_refl _) ?_
    refine zr_goto (tgt := 462) dX12_means_370 (by decide) ?_
    obtain rfl := Option.some.inj h
    exact zt_vret dX12_means_462 rfl
  replace h := zneg h hc30
  refine zr_swc (tgt := 373) (by decide) (fun hc32 => ?_) (fun hc32 => ?_)
  · replace h := zpos h hc32
    refine zr_aload ⟨_, dX12_means_373, rfl⟩ rfl ?_
    refine zr_iconst dX12_means_374 (by decide) ?_
    obtain ⟨x33, hx33, h⟩ := zbind h
    refine zt_calliv (t_Rf_linesMove hx33) (zrun_V (rest := []) dX12_means_375 ml_X12_274 rfl rfl (by decide) (by decide) rfl (Nat.le_of_ble_eq_true rfl)) rfl rfl (Nat.le_refl _) (Nat.le_refl _) ?_
    refine zr_goto (tgt := 462) dX12_means_378 (by decide) ?_
    obtain rfl := Option.some.inj h
    exact zt_vret dX12_means_462 rfl
  replace h := zneg h hc32
  refine zr_swc (tgt := 402) (by decide) (fun hc34 => ?_) (fun hc34 => ?_)
  · replace h := zpos h hc34
    refine zr_aload ⟨_, dX12_means_402, rfl⟩ rfl ?_
    refine zr_aload ⟨_, dX12_means_403, rfl⟩ rfl ?_
    refine zt_get dX12_means_404 fl_X12_113 rfl rfl ?_
    refine zr_aload ⟨_, dX12_means_407, rfl⟩ rfl ?_
    refine zt_get dX12_means_408 fl_X12_123 rfl rfl ?_
    refine zr_load ⟨_, dX12_means_411, rfl⟩ rfl ?_
    obtain ⟨x35, hx35, h⟩ := zbind h
    refine zt_calliv (t_Rf_movesLeft hx35) (zrun_V (rest := []) dX12_means_412 ml_X12_278 rfl rfl (by decide) (by decide) rfl (Nat.le_of_ble_eq_true rfl)) rfl rfl (Nat.le_refl _) (Nat.le_refl _) ?_
    refine zr_aload ⟨_, dX12_means_415, rfl⟩ rfl ?_
    refine zr_iconst dX12_means_416 (by decide) ?_
    refine zt_putz dX12_means_417 fl_X12_126 rfl rfl (Or.inl rfl) ?_
    refine zr_goto (tgt := 462) dX12_means_420 (by decide) ?_
    obtain rfl := Option.some.inj h
    exact zt_vret dX12_means_462 rfl
  replace h := zneg h hc34
  refine zr_swc (tgt := 423) (by decide) (fun hc36 => ?_) (fun hc36 => ?_)
  · replace h := zpos h hc36
    refine zr_aload ⟨_, dX12_means_423, rfl⟩ rfl ?_
    refine zr_aload ⟨_, dX12_means_424, rfl⟩ rfl ?_
    refine zt_get dX12_means_425 fl_X12_113 rfl rfl ?_
    refine zr_aload ⟨_, dX12_means_428, rfl⟩ rfl ?_
    refine zt_get dX12_means_429 fl_X12_123 rfl rfl ?_
    refine zr_aload ⟨_, dX12_means_432, rfl⟩ rfl ?_
    refine zt_get dX12_means_433 fl_X12_123 rfl rfl ?_
    refine zr_load ⟨_, dX12_means_436, rfl⟩ rfl ?_
    refine zr_iadd dX12_means_437 ?_
    refine zr_aload ⟨_, dX12_means_438, rfl⟩ rfl ?_
    refine zt_get dX12_means_439 fl_X12_13 rfl rfl ?_
    obtain ⟨x37, hx37, h⟩ := zbind h
    refine zt_call0 (t_Rf_lesser hx37) (zrun_S (rest := [.inl (s.1 0 10), .inl (s.1 0 9), .inr (.inl (some 0))]) dX12_means_442 ml_X12_170 rfl (by decide) (by decide) rfl (Nat.le_of_ble_eq_true rfl)) rfl rfl (Nat.le_refl _) (Nat.le_refl _) ?_
    obtain ⟨x38, hx38, h⟩ := zbind h
    refine zt_calliv (t_Rf_erases hx38) (zrun_V (rest := []) dX12_means_445 ml_X12_129 rfl rfl (by decide) (by decide) rfl (Nat.le_of_ble_eq_true rfl)) rfl rfl (Nat.le_refl _) (Nat.le_refl _) ?_
    refine zr_aload ⟨_, dX12_means_448, rfl⟩ rfl ?_
    refine zr_iconst dX12_means_449 (by decide) ?_
    refine zt_putz dX12_means_450 fl_X12_126 rfl rfl (Or.inl rfl) ?_
    refine zr_goto (tgt := 462) dX12_means_453 (by decide) ?_
    obtain rfl := Option.some.inj h
    exact zt_vret dX12_means_462 rfl
  replace h := zneg h hc36
  refine zr_swd (tgt := 456) (by decide) ?_
  refine zr_aload ⟨_, dX12_means_456, rfl⟩ rfl ?_
  refine zr_load ⟨_, dX12_means_457, rfl⟩ rfl ?_
  refine zr_load ⟨_, dX12_means_458, rfl⟩ rfl ?_
  obtain ⟨x39, hx39, h⟩ := zbind h
  refine zt_calliv (t_Rf_meansMore hx39) (zrun_V (rest := []) dX12_means_459 ml_X12_281 rfl rfl (by decide) (by decide) rfl (Nat.le_of_ble_eq_true rfl)) rfl rfl (Nat.le_refl _) (Nat.le_refl _) ?_
  obtain rfl := Option.some.inj h
  exact zt_vret dX12_means_462 rfl
set_option maxRecDepth 100000 in
set_option maxHeartbeats 4000000 in
theorem t_Rf_codes_j201 {v1 : Int} {s : zSt} {res : Int × zSt} (h : f_Rf_codes_j201 v1 s = some res) : zBT 7 m_X12_codes TRf none res.2 201 [some (.inr (.inl (some 0))), some (.inl v1), none] [] s := by
  unfold f_Rf_codes_j201 at h
  refine zr_aload ⟨_, dX12_codes_201, rfl⟩ rfl ?_
  refine zt_get dX12_codes_202 fl_X12_204 rfl rfl ?_
  refine zr_if_ne (tgt := 213) dX12_codes_205 (by decide) (fun hc1 => ?_) (fun hc1 => ?_)
  · replace h := zpos h hc1
    refine zr_aload ⟨_, dX12_codes_213, rfl⟩ rfl ?_
    refine zr_iconst dX12_codes_214 (by decide) ?_
    refine zt_putz dX12_codes_215 fl_X12_198 rfl rfl (Or.inl rfl) ?_
    obtain rfl := Option.some.inj h
    exact zt_vret dX12_codes_218 rfl
  · replace h := zneg h hc1
    refine zr_aload ⟨_, dX12_codes_208, rfl⟩ rfl ?_
    refine zr_load ⟨_, dX12_codes_209, rfl⟩ rfl ?_
    obtain ⟨x2, hx2, h⟩ := zbind h
    refine zt_calliv (t_Rf_means hx2) (zrun_V (rest := []) dX12_codes_210 ml_X12_226 rfl rfl (by decide) (by decide) rfl (Nat.le_of_ble_eq_true rfl)) rfl rfl (Nat.le_refl _) (Nat.le_refl _) ?_
    refine zr_aload ⟨_, dX12_codes_213, rfl⟩ rfl ?_
    refine zr_iconst dX12_codes_214 (by decide) ?_
    refine zt_putz dX12_codes_215 fl_X12_198 rfl rfl (Or.inl rfl) ?_
    obtain rfl := Option.some.inj h
    exact zt_vret dX12_codes_218 rfl
set_option maxRecDepth 100000 in
set_option maxHeartbeats 4000000 in
theorem t_Rf_codes_j139 {v1 : Int} {s : zSt} {res : Int × zSt} (h : f_Rf_codes_j139 v1 s = some res) : zBT 7 m_X12_codes TRf none res.2 139 [some (.inr (.inl (some 0))), some (.inl v1), none] [] s := by
  unfold f_Rf_codes_j139 at h
  refine zr_load ⟨_, dX12_codes_139, rfl⟩ rfl ?_
  refine zr_bipush dX12_codes_140 (by decide) (by decide) ?_
  refine zr_ic_ge (tgt := 153) dX12_codes_142 (by decide) (fun hc1 => ?_) (fun hc1 => ?_)
  · replace h := zpos h hc1
    refine zr_aload ⟨_, dX12_codes_153, rfl⟩ rfl ?_
    refine zr_iconst dX12_codes_154 (by decide) ?_
    refine zt_put dX12_codes_155 fl_X12_192 rfl rfl ?_
    refine zr_aload ⟨_, dX12_codes_158, rfl⟩ rfl ?_
    refine zr_aload ⟨_, dX12_codes_159, rfl⟩ rfl ?_
    refine zt_get dX12_codes_160 fl_X12_195 rfl rfl ?_
    refine zr_iconst dX12_codes_163 (by decide) ?_
    have hj2 : zBT 7 m_X12_codes TRf none res.2 175 [some (.inr (.inl (some 0))), some (.inl v1), none] [.inl (if (s.1 0 31) ≤ 4 then (s.1 0 31) else 4), .inr (.inl (some 0))] (uS s 0 29 0) := by
      refine zt_put dX12_codes_175 fl_X12_195 rfl rfl ?_
      refine zr_aload ⟨_, dX12_codes_178, rfl⟩ rfl ?_
      refine zt_get dX12_codes_179 fl_X12_204 rfl rfl ?_
      refine zr_if_ne (tgt := 201) dX12_codes_182 (by decide) (fun hc4 => ?_) (fun hc4 => ?_)
      · replace h := zpos h hc4
        exact t_Rf_codes_j201 h
      · replace h := zneg h hc4
        refine zr_aload ⟨_, dX12_codes_185, rfl⟩ rfl ?_
        refine zt_get dX12_codes_186 fl_X12_201 rfl rfl ?_
        refine zr_if_eq (tgt := 201) dX12_codes_189 (by decide) (fun hc5 => ?_) (fun hc5 => ?_)
        · replace h := zpos h hc5
          exact t_Rf_codes_j201 h
        · replace h := zneg h hc5
          refine zr_aload ⟨_, dX12_codes_192, rfl⟩ rfl ?_
          refine zr_load ⟨_, dX12_codes_193, rfl⟩ rfl ?_
          refine zr_iconst dX12_codes_194 (by decide) ?_
          obtain ⟨x6, hx6, h⟩ := zbind h
          refine zt_calliv (t_Rf_modes hx6) (zrun_V (rest := []) dX12_codes_195 ml_X12_222 rfl rfl (by decide) (by decide) rfl (Nat.le_of_ble_eq_true rfl)) rfl rfl (Nat.le_refl _) (Nat.le_refl _) ?_
          refine zr_goto (tgt := 213) dX12_codes_198 (by decide) ?_
          refine zr_aload ⟨_, dX12_codes_213, rfl⟩ rfl ?_
          refine zr_iconst dX12_codes_214 (by decide) ?_
          refine zt_putz dX12_codes_215 fl_X12_198 rfl rfl (Or.inl rfl) ?_
          obtain rfl := Option.some.inj h
          exact zt_vret dX12_codes_218 rfl
    refine zr_ic_le (tgt := 171) dX12_codes_164 (by decide) (fun hc3 => ?_) (fun hc3 => ?_)
    · have hp7 := zif_t hj2 hc3
      refine zr_aload ⟨_, dX12_codes_171, rfl⟩ rfl ?_
      refine zt_get dX12_codes_172 fl_X12_195 rfl rfl ?_
      exact hp7
    · have hp8 := zif_f hj2 hc3
      refine zr_iconst dX12_codes_167 (by decide) ?_
      refine zr_goto (tgt := 175) dX12_codes_168 (by decide) ?_
      exact hp8
  · replace h := zneg h hc1
    refine zr_aload ⟨_, dX12_codes_145, rfl⟩ rfl ?_
    refine zr_iconst dX12_codes_146 (by decide) ?_
    refine zt_putz dX12_codes_147 fl_X12_204 rfl rfl (Or.inr rfl) ?_
    refine zr_goto (tgt := 213) dX12_codes_150 (by decide) ?_
    refine zr_aload ⟨_, dX12_codes_213, rfl⟩ rfl ?_
    refine zr_iconst dX12_codes_214 (by decide) ?_
    refine zt_putz dX12_codes_215 fl_X12_198 rfl rfl (Or.inl rfl) ?_
    obtain rfl := Option.some.inj h
    exact zt_vret dX12_codes_218 rfl
set_option maxRecDepth 100000 in
set_option maxHeartbeats 4000000 in
theorem t_Rf_codes {a1 : Int} {s : zSt} {res : Int × zSt} (h : f_Rf_codes a1 s = some res) : zSpecT 7 m_X12_codes [.inr (.inl (some 0)), .inl a1] TRf s none res.2 := by
  refine zSpec_of (by decide +kernel) (Nat.le_of_ble_eq_true rfl) ?_
  show zBT 7 m_X12_codes TRf none res.2 0 [some (.inr (.inl (some 0))), some (.inl a1), none] [] s
  unfold f_Rf_codes at h
  refine zr_load ⟨_, dX12_codes_0, rfl⟩ rfl ?_
  refine zr_bipush dX12_codes_1 (by decide) (by decide) ?_
  refine zr_bipush dX12_codes_3 (by decide) (by decide) ?_
  obtain ⟨x1, hx1, h⟩ := zbind h
  refine zt_call0 (t_Rf_in hx1) (zrun_S (rest := []) dX12_codes_5 ml_X12_83 rfl (by decide) (by decide) rfl (Nat.le_of_ble_eq_true rfl)) rfl rfl (Nat.le_refl _) (Nat.le_refl _) ?_
  refine zr_if_eq (tgt := 67) dX12_codes_8 (by decide) (fun hc2 => ?_) (fun hc2 => ?_)
  · replace h := zpos h hc2
    refine zr_load ⟨_, dX12_codes_67, rfl⟩ rfl ?_
    refine zr_bipush dX12_codes_68 (by decide) (by decide) ?_
    refine zr_ic_ne (tgt := 118) dX12_codes_70 (by decide) (fun hc3 => ?_) (fun hc3 => ?_)
    · replace h := zpos h hc3
      refine zr_load ⟨_, dX12_codes_118, rfl⟩ rfl ?_
      refine zr_bipush dX12_codes_119 (by decide) (by decide) ?_
      refine zr_ic_ne (tgt := 139) dX12_codes_121 (by decide) (fun hc4 => ?_) (fun hc4 => ?_)
      · replace h := zpos h hc4
        exact t_Rf_codes_j139 h
      · replace h := zneg h hc4
        refine zr_aload ⟨_, dX12_codes_124, rfl⟩ rfl ?_
        refine zt_get dX12_codes_125 fl_X12_198 rfl rfl ?_
        refine zr_if_eq (tgt := 139) dX12_codes_128 (by decide) (fun hc5 => ?_) (fun hc5 => ?_)
        · replace h := zpos h hc5
          exact t_Rf_codes_j139 h
        · replace h := zneg h hc5
          refine zr_aload ⟨_, dX12_codes_131, rfl⟩ rfl ?_
          refine zr_iconst dX12_codes_132 (by decide) ?_
          refine zt_putz dX12_codes_133 fl_X12_201 rfl rfl (Or.inr rfl) ?_
          refine zr_goto (tgt := 213) dX12_codes_136 (by decide) ?_
          refine zr_aload ⟨_, dX12_codes_213, rfl⟩ rfl ?_
          refine zr_iconst dX12_codes_214 (by decide) ?_
          refine zt_putz dX12_codes_215 fl_X12_198 rfl rfl (Or.inl rfl) ?_
          obtain rfl := Option.some.inj h
          exact zt_vret dX12_codes_218 rfl
    · replace h := zneg h hc3
      refine zr_aload ⟨_, dX12_codes_73, rfl⟩ rfl ?_
      refine zr_dup dX12_codes_74 (Or.inl True.intro) ?_
      refine zt_get dX12_codes_75 fl_X12_195 rfl rfl ?_
      refine zr_aload ⟨_, dX12_codes_78, rfl⟩ rfl ?_
      refine zt_get dX12_codes_79 fl_X12_195 rfl rfl ?_
      refine zr_iconst dX12_codes_82 (by decide) ?_
      have hj6 : zBT 7 m_X12_codes TRf none res.2 91 [some (.inr (.inl (some 0))), some (.inl a1), none] [.inl (if 4 < (s.1 0 31) then 0 else 1), .inl (s.1 0 31), .inr (.inl (some 0))] s := by
        refine zr_iadd dX12_codes_91 ?_
        refine zt_put dX12_codes_92 fl_X12_195 rfl rfl ?_
        refine zr_aload ⟨_, dX12_codes_95, rfl⟩ rfl ?_
        refine zt_get dX12_codes_96 fl_X12_195 rfl rfl ?_
        refine zr_iconst dX12_codes_99 (by decide) ?_
        refine zr_ic_gt (tgt := 213) dX12_codes_100 (by decide) (fun hc8 => ?_) (fun hc8 => ?_)
        · replace h := zpos h hc8
          refine zr_aload ⟨_, dX12_codes_213, rfl⟩ rfl ?_
          refine zr_iconst dX12_codes_214 (by decide) ?_
          refine zt_putz dX12_codes_215 fl_X12_198 rfl rfl (Or.inl rfl) ?_
          obtain rfl := Option.some.inj h
          exact zt_vret dX12_codes_218 rfl
        · replace h := zneg h hc8
          refine zr_aload ⟨_, dX12_codes_103, rfl⟩ rfl ?_
          refine zt_getr dX12_codes_104 fl_X12_40 rfl rfl ?_
          refine zr_aload ⟨_, dX12_codes_107, rfl⟩ rfl ?_
          refine zt_get dX12_codes_108 fl_X12_195 rfl rfl ?_
          refine zr_iconst dX12_codes_111 (by decide) ?_
          refine zr_isub dX12_codes_112 ?_
          refine zr_iconst dX12_codes_113 (by decide) ?_
          obtain ⟨hb9, h⟩ := zchk h
          refine zt_iastore dX12_codes_114 rfl hb9 ?_
          refine zr_goto (tgt := 213) dX12_codes_115 (by decide) ?_
          refine zr_aload ⟨_, dX12_codes_213, rfl⟩ rfl ?_
          refine zr_iconst dX12_codes_214 (by decide) ?_
          refine zt_putz dX12_codes_215 fl_X12_198 rfl rfl (Or.inl rfl) ?_
          obtain rfl := Option.some.inj h
          exact zt_vret dX12_codes_218 rfl
      refine zr_ic_gt (tgt := 90) dX12_codes_83 (by decide) (fun hc7 => ?_) (fun hc7 => ?_)
      · have hp10 := zif_t hj6 hc7
        refine zr_iconst dX12_codes_90 (by decide) ?_
        exact hp10
      · have hp11 := zif_f hj6 hc7
        refine zr_iconst dX12_codes_86 (by decide) ?_
        refine zr_goto (tgt := 91) dX12_codes_87 (by decide) ?_
        exact hp11
  · replace h := zneg h hc2
    refine zr_aload ⟨_, dX12_codes_11, rfl⟩ rfl ?_
    refine zt_get dX12_codes_12 fl_X12_195 rfl rfl ?_
    refine zr_iconst dX12_codes_15 (by decide) ?_
    refine zr_ic_gt (tgt := 213) dX12_codes_16 (by decide) (fun hc12 => ?_) (fun hc12 => ?_)
    · replace h := zpos h hc12
      refine zr_aload ⟨_, dX12_codes_213, rfl⟩ rfl ?_
      refine zr_iconst dX12_codes_214 (by decide) ?_
      refine zt_putz dX12_codes_215 fl_X12_198 rfl rfl (Or.inl rfl) ?_
      obtain rfl := Option.some.inj h
      exact zt_vret dX12_codes_218 rfl
    · replace h := zneg h hc12
      refine zr_bipush dX12_codes_19 (by decide) (by decide) ?_
      refine zr_aload ⟨_, dX12_codes_21, rfl⟩ rfl ?_
      refine zt_getr dX12_codes_22 fl_X12_40 rfl rfl ?_
      refine zr_aload ⟨_, dX12_codes_25, rfl⟩ rfl ?_
      refine zt_get dX12_codes_26 fl_X12_195 rfl rfl ?_
      refine zr_iconst dX12_codes_29 (by decide) ?_
      refine zr_isub dX12_codes_30 ?_
      obtain ⟨hb13, h⟩ := zchk h
      refine zt_iaload dX12_codes_31 rfl hb13 ?_
      refine zr_imul dX12_codes_32 ?_
      refine zr_load ⟨_, dX12_codes_33, rfl⟩ rfl ?_
      refine zr_iadd dX12_codes_34 ?_
      refine zr_bipush dX12_codes_35 (by decide) (by decide) ?_
      refine zr_isub dX12_codes_37 ?_
      refine zr_store ⟨_, dX12_codes_38, rfl⟩ (by decide) rfl ?_
      refine zr_aload ⟨_, dX12_codes_39, rfl⟩ rfl ?_
      refine zt_getr dX12_codes_40 fl_X12_40 rfl rfl ?_
      refine zr_aload ⟨_, dX12_codes_43, rfl⟩ rfl ?_
      refine zt_get dX12_codes_44 fl_X12_195 rfl rfl ?_
      refine zr_iconst dX12_codes_47 (by decide) ?_
      refine zr_isub dX12_codes_48 ?_
      refine zr_load ⟨_, dX12_codes_49, rfl⟩ rfl ?_
      refine zr_sipush dX12_codes_50 (by decide) (by decide) ?_
      have hj14 : zBT 7 m_X12_codes TRf none res.2 63 [some (.inr (.inl (some 0))), some (.inl a1), some (.inl (w32 ((w32 ((w32 (10 * ((s.2 5) (w32 ((s.1 0 31) - 1))))) + a1)) - 48)))] [.inl (if (w32 ((w32 ((w32 (10 * ((s.2 5) (w32 ((s.1 0 31) - 1))))) + a1)) - 48)) ≤ 999 then (w32 ((w32 ((w32 (10 * ((s.2 5) (w32 ((s.1 0 31) - 1))))) + a1)) - 48)) else 999), .inl (w32 ((s.1 0 31) - 1)), .inr (.inl (some 5))] s := by
        obtain ⟨hb16, h⟩ := zchk h
        refine zt_iastore dX12_codes_63 rfl hb16 ?_
        refine zr_goto (tgt := 213) dX12_codes_64 (by decide) ?_
        refine zr_aload ⟨_, dX12_codes_213, rfl⟩ rfl ?_
        refine zr_iconst dX12_codes_214 (by decide) ?_
        refine zt_putz dX12_codes_215 fl_X12_198 rfl rfl (Or.inl rfl) ?_
        obtain rfl := Option.some.inj h
        exact zt_vret dX12_codes_218 rfl
      refine zr_ic_le (tgt := 62) dX12_codes_53 (by decide) (fun hc15 => ?_) (fun hc15 => ?_)
      · have hp17 := zif_t hj14 hc15
        refine zr_load ⟨_, dX12_codes_62, rfl⟩ rfl ?_
        exact hp17
      · have hp18 := zif_f hj14 hc15
        refine zr_sipush dX12_codes_56 (by decide) (by decide) ?_
        refine zr_goto (tgt := 63) dX12_codes_59 (by decide) ?_
        exact hp18
set_option maxRecDepth 100000 in
set_option maxHeartbeats 4000000 in
theorem t_Rf_comes {a1 : Int} {s : zSt} {res : Int × zSt} (h : f_Rf_comes a1 s = some res) : zSpecT 8 m_X12_comes [.inr (.inl (some 0)), .inl a1] TRf s none res.2 := by
  refine zSpec_of (by decide +kernel) (Nat.le_of_ble_eq_true rfl) ?_
  show zBT 8 m_X12_comes TRf none res.2 0 [some (.inr (.inl (some 0))), some (.inl a1)] [] s
  unfold f_Rf_comes at h
  refine zr_aload ⟨_, dX12_comes_0, rfl⟩ rfl ?_
  refine zt_get dX12_comes_1 fl_X12_192 rfl rfl ?_
  refine zr_iconst dX12_comes_4 (by decide) ?_
  refine zr_ic_ne (tgt := 16) dX12_comes_5 (by decide) (fun hc1 => ?_) (fun hc1 => ?_)
  · replace h := zpos h hc1
    refine zr_load ⟨_, dX12_comes_16, rfl⟩ rfl ?_
    refine zr_bipush dX12_comes_17 (by decide) (by decide) ?_
    refine zr_ic_lt (tgt := 28) dX12_comes_19 (by decide) (fun hc2 => ?_) (fun hc2 => ?_)
    · replace h := zpos h hc2
      refine zr_aload ⟨_, dX12_comes_28, rfl⟩ rfl ?_
      refine zr_load ⟨_, dX12_comes_29, rfl⟩ rfl ?_
      obtain ⟨x3, hx3, h⟩ := zbind h
      refine zt_calliv (t_Rf_controls hx3) (zrun_V (rest := []) dX12_comes_30 ml_X12_235 rfl rfl (by decide) (by decide) rfl (Nat.le_of_ble_eq_true rfl)) rfl rfl (Nat.le_refl _) (Nat.le_refl _) ?_
      refine zr_goto (tgt := 86) dX12_comes_33 (by decide) ?_
      obtain rfl := Option.some.inj h
      exact zt_vret dX12_comes_86 rfl
    · replace h := zneg h hc2
      refine zr_load ⟨_, dX12_comes_22, rfl⟩ rfl ?_
      refine zr_bipush dX12_comes_23 (by decide) (by decide) ?_
      refine zr_ic_ne (tgt := 36) dX12_comes_25 (by decide) (fun hc4 => ?_) (fun hc4 => ?_)
      · replace h := zpos h hc4
        refine zr_aload ⟨_, dX12_comes_36, rfl⟩ rfl ?_
        refine zt_get dX12_comes_37 fl_X12_192 rfl rfl ?_
        refine zr_iconst dX12_comes_40 (by decide) ?_
        refine zr_ic_ne (tgt := 52) dX12_comes_41 (by decide) (fun hc5 => ?_) (fun hc5 => ?_)
        · replace h := zpos h hc5
          refine zr_aload ⟨_, dX12_comes_52, rfl⟩ rfl ?_
          refine zt_get dX12_comes_53 fl_X12_192 rfl rfl ?_
          refine zr_iconst dX12_comes_56 (by decide) ?_
          refine zr_ic_ne (tgt := 68) dX12_comes_57 (by decide) (fun hc6 => ?_) (fun hc6 => ?_)
          · replace h := zpos h hc6
            refine zr_load ⟨_, dX12_comes_68, rfl⟩ rfl ?_
            refine zr_bipush dX12_comes_69 (by decide) (by decide) ?_
            refine zr_ic_ne (tgt := 81) dX12_comes_71 (by decide) (fun hc7 => ?_) (fun hc7 => ?_)
            · replace h := zpos h hc7
              refine zr_aload ⟨_, dX12_comes_81, rfl⟩ rfl ?_
              refine zr_load ⟨_, dX12_comes_82, rfl⟩ rfl ?_
              obtain ⟨x8, hx8, h⟩ := zbind h
              refine zt_calliv (t_Rf_draws hx8) (zrun_V (rest := []) dX12_comes_83 ml_X12_247 rfl rfl (by decide) (by decide) rfl (Nat.le_of_ble_eq_true rfl)) rfl rfl (Nat.le_refl _) (Nat.le_refl _) ?_
              obtain rfl := Option.some.inj h
              exact zt_vret dX12_comes_86 rfl
            · replace h := zneg h hc7
              refine zr_aload ⟨_, dX12_comes_74, rfl⟩ rfl ?_
              obtain ⟨x9, hx9, h⟩ := zbind h
              refine zt_calliv (t_Rf_marks hx9) (zrun_V (rest := []) dX12_comes_75 ml_X12_244 rfl rfl (by decide) (by decide) rfl (Nat.le_of_ble_eq_true rfl)) rfl rfl (Nat.le_refl _) (Nat.le_refl _) ?_
              refine zr_goto (tgt := 86) dX12_comes_78 (by decide) ?_
              obtain rfl := Option.some.inj h
              exact zt_vret dX12_comes_86 rfl
          · replace h := zneg h hc6
            refine zr_aload ⟨_, dX12_comes_60, rfl⟩ rfl ?_
            refine zr_load ⟨_, dX12_comes_61, rfl⟩ rfl ?_
            obtain ⟨x10, hx10, h⟩ := zbind h
            refine zt_calliv (t_Rf_codes hx10) (zrun_V (rest := []) dX12_comes_62 ml_X12_241 rfl rfl (by decide) (by decide) rfl (Nat.le_of_ble_eq_true rfl)) rfl rfl (Nat.le_refl _) (Nat.le_refl _) ?_
            refine zr_goto (tgt := 86) dX12_comes_65 (by decide) ?_
            obtain rfl := Option.some.inj h
            exact zt_vret dX12_comes_86 rfl
        · replace h := zneg h hc5
          refine zr_aload ⟨_, dX12_comes_44, rfl⟩ rfl ?_
          refine zr_load ⟨_, dX12_comes_45, rfl⟩ rfl ?_
          obtain ⟨x11, hx11, h⟩ := zbind h
          refine zt_calliv (t_Rf_escapes hx11) (zrun_V (rest := []) dX12_comes_46 ml_X12_238 rfl rfl (by decide) (by decide) rfl (Nat.le_of_ble_eq_true rfl)) rfl rfl (Nat.le_refl _) (Nat.le_refl _) ?_
          refine zr_goto (tgt := 86) dX12_comes_49 (by decide) ?_
          obtain rfl := Option.some.inj h
          exact zt_vret dX12_comes_86 rfl
      · replace h := zneg h hc4
        refine zr_aload ⟨_, dX12_comes_28, rfl⟩ rfl ?_
        refine zr_load ⟨_, dX12_comes_29, rfl⟩ rfl ?_
        obtain ⟨x12, hx12, h⟩ := zbind h
        refine zt_calliv (t_Rf_controls hx12) (zrun_V (rest := []) dX12_comes_30 ml_X12_235 rfl rfl (by decide) (by decide) rfl (Nat.le_of_ble_eq_true rfl)) rfl rfl (Nat.le_refl _) (Nat.le_refl _) ?_
        refine zr_goto (tgt := 86) dX12_comes_33 (by decide) ?_
        obtain rfl := Option.some.inj h
        exact zt_vret dX12_comes_86 rfl
  · replace h := zneg h hc1
    refine zr_aload ⟨_, dX12_comes_8, rfl⟩ rfl ?_
    refine zr_load ⟨_, dX12_comes_9, rfl⟩ rfl ?_
    obtain ⟨x13, hx13, h⟩ := zbind h
    refine zt_calliv (t_Rf_titles hx13) (zrun_V (rest := []) dX12_comes_10 ml_X12_232 rfl rfl (by decide) (by decide) rfl (Nat.le_of_ble_eq_true rfl)) rfl rfl (Nat.le_refl _) (Nat.le_refl _) ?_
    refine zr_goto (tgt := 86) dX12_comes_13 (by decide) ?_
    obtain rfl := Option.some.inj h
    exact zt_vret dX12_comes_86 rfl
set_option maxRecDepth 100000 in
set_option maxHeartbeats 4000000 in
theorem t_Rf_puts {a1 : Int} {s : zSt} {res : Int × zSt} (h : f_Rf_puts a1 s = some res) : zSpecT 9 m_X12_puts [.inr (.inl (some 0)), .inl a1] TRf s none res.2 := by
  refine zSpec_of (by decide +kernel) (Nat.le_of_ble_eq_true rfl) ?_
  show zBT 9 m_X12_puts TRf none res.2 0 [some (.inr (.inl (some 0))), some (.inl a1)] [] s
  unfold f_Rf_puts at h
  refine zr_aload ⟨_, dX12_puts_0, rfl⟩ rfl ?_
  refine zt_get dX12_puts_1 fl_X12_293 rfl rfl ?_
  refine zr_if_ne (tgt := 15) dX12_puts_4 (by decide) (fun hc1 => ?_) (fun hc1 => ?_)
  · replace h := zpos h hc1
    refine zr_aload ⟨_, dX12_puts_15, rfl⟩ rfl ?_
    refine zt_get dX12_puts_16 fl_X12_299 rfl rfl ?_
    refine zr_bipush dX12_puts_19 (by decide) (by decide) ?_
    refine zr_ic_ge (tgt := 44) dX12_puts_21 (by decide) (fun hc2 => ?_) (fun hc2 => ?_)
    · replace h := zpos h hc2
      obtain rfl := Option.some.inj h
      exact zt_vret dX12_puts_44 rfl
    · replace h := zneg h hc2
      refine zr_aload ⟨_, dX12_puts_24, rfl⟩ rfl ?_
      refine zt_getr dX12_puts_25 fl_X12_52 rfl rfl ?_
      refine zr_aload ⟨_, dX12_puts_28, rfl⟩ rfl ?_
      refine zt_get dX12_puts_29 fl_X12_299 rfl rfl ?_
      refine zr_load ⟨_, dX12_puts_32, rfl⟩ rfl ?_
      obtain ⟨hb3, h⟩ := zchk h
      refine zt_iastore dX12_puts_33 rfl hb3 ?_
      refine zr_aload ⟨_, dX12_puts_34, rfl⟩ rfl ?_
      refine zr_dup dX12_puts_35 (Or.inl True.intro) ?_
      refine zt_get dX12_puts_36 fl_X12_299 rfl rfl ?_
      refine zr_iconst dX12_puts_39 (by decide) ?_
      refine zr_iadd dX12_puts_40 ?_
      refine zt_put dX12_puts_41 fl_X12_299 rfl rfl ?_
      obtain rfl := Option.some.inj h
      exact zt_vret dX12_puts_44 rfl
  · replace h := zneg h hc1
    refine zr_aload ⟨_, dX12_puts_7, rfl⟩ rfl ?_
    refine zr_load ⟨_, dX12_puts_8, rfl⟩ rfl ?_
    obtain ⟨x4, hx4, h⟩ := zbind h
    refine zt_calliv (t_Rf_comes hx4) (zrun_V (rest := []) dX12_puts_9 ml_X12_296 rfl rfl (by decide) (by decide) rfl (Nat.le_of_ble_eq_true rfl)) rfl rfl (Nat.le_refl _) (Nat.le_refl _) ?_
    refine zr_goto (tgt := 44) dX12_puts_12 (by decide) ?_
    obtain rfl := Option.some.inj h
    exact zt_vret dX12_puts_44 rfl
set_option maxRecDepth 100000 in
set_option maxHeartbeats 4000000 in
theorem t_Rf_starts_l17 {c1 : Int} {r : Option zAV} {s0 : zSt}  : ∀ (n : Nat) (x : Int × zSt) (out : zSt), zloop (f_Rf_starts_l17 c1) n x = some out → (zBT 9 m_X12_starts TRf r s0 38 [none, none, none] [] out) → zBT 9 m_X12_starts TRf r s0 17 [some (.inr (.inl (some 0))), some (.inl c1), some (.inl x.1)] [] x.2 := by
  refine zloop_B (B := fun (x : Int × zSt) (out : zSt) => zBT 9 m_X12_starts TRf r s0 38 [none, none, none] [] out → zBT 9 m_X12_starts TRf r s0 17 [some (.inr (.inl (some 0))), some (.inl c1), some (.inl x.1)] [] x.2) ?_
  intro x o out h hk hx
  unfold f_Rf_starts_l17 at h
  refine zr_load ⟨_, dX12_starts_17, rfl⟩ rfl ?_
  refine zr_load ⟨_, dX12_starts_18, rfl⟩ rfl ?_
  refine zr_ic_ge (tgt := 38) dX12_starts_19 (by decide) (fun hc1 => ?_) (fun hc1 => ?_)
  · replace h := zpos h hc1
    refine zr_mask [false, false, false] rfl ?_
    obtain rfl := Option.some.inj h
    obtain rfl := hk
    exact hx
  · replace h := zneg h hc1
    refine zr_aload ⟨_, dX12_starts_22, rfl⟩ rfl ?_
    refine zr_aload ⟨_, dX12_starts_23, rfl⟩ rfl ?_
    refine zt_getr dX12_starts_24 fl_X12_52 rfl rfl ?_
    refine zr_load ⟨_, dX12_starts_27, rfl⟩ rfl ?_
    obtain ⟨hb2, h⟩ := zchk h
    refine zt_iaload dX12_starts_28 rfl hb2 ?_
    obtain ⟨x3, hx3, h⟩ := zbind h
    refine zt_calliv (t_Rf_comes hx3) (zrun_V (rest := []) dX12_starts_29 ml_X12_296 rfl rfl (by decide) (by decide) rfl (Nat.le_of_ble_eq_true rfl)) rfl rfl (Nat.le_refl _) (Nat.le_refl _) ?_
    refine zr_iinc dX12_starts_32 rfl (by decide) rfl ?_
    refine zr_goto (tgt := 17) dX12_starts_35 (by decide) ?_
    obtain rfl := Option.some.inj h
    exact hk hx
set_option maxRecDepth 100000 in
set_option maxHeartbeats 4000000 in
theorem t_Rf_starts  {s : zSt} {res : Int × zSt} (h : f_Rf_starts s = some res) : zSpecT 9 m_X12_starts [.inr (.inl (some 0))] TRf s none res.2 := by
  refine zSpec_of (by decide +kernel) (Nat.le_of_ble_eq_true rfl) ?_
  show zBT 9 m_X12_starts TRf none res.2 0 [some (.inr (.inl (some 0))), none, none] [] s
  unfold f_Rf_starts at h
  refine zr_aload ⟨_, dX12_starts_0, rfl⟩ rfl ?_
  refine zr_iconst dX12_starts_1 (by decide) ?_
  refine zt_putz dX12_starts_2 fl_X12_293 rfl rfl (Or.inl rfl) ?_
  refine zr_aload ⟨_, dX12_starts_5, rfl⟩ rfl ?_
  refine zt_get dX12_starts_6 fl_X12_299 rfl rfl ?_
  refine zr_store ⟨_, dX12_starts_9, rfl⟩ (by decide) rfl ?_
  refine zr_aload ⟨_, dX12_starts_10, rfl⟩ rfl ?_
  refine zr_iconst dX12_starts_11 (by decide) ?_
  refine zt_put dX12_starts_12 fl_X12_299 rfl rfl ?_
  refine zr_iconst dX12_starts_15 (by decide) ?_
  refine zr_store ⟨_, dX12_starts_16, rfl⟩ (by decide) rfl ?_
  obtain ⟨y1, hy1, h⟩ := zbind h
  refine t_Rf_starts_l17 _ _ _ hy1 ?_
  obtain rfl := Option.some.inj h
  exact zt_vret dX12_starts_38 rfl
set_option maxRecDepth 100000 in
set_option maxHeartbeats 4000000 in
theorem t_Rf_write {a1 : Int} {s : zSt} {res : Int × zSt} (h : f_Rf_write a1 s = some res) : zSpecT 10 m_X12_write [.inr (.inl (some 0)), .inl a1] TRf s (some (.inl res.1)) res.2 := by
  refine zSpec_of (by decide +kernel) (Nat.le_of_ble_eq_true rfl) ?_
  show zBT 10 m_X12_write TRf (some (.inl res.1)) res.2 0 [some (.inr (.inl (some 0))), some (.inl a1)] [] s
  unfold f_Rf_write at h
  refine zr_aload ⟨_, dX12_write_0, rfl⟩ rfl ?_
  refine zr_load ⟨_, dX12_write_1, rfl⟩ rfl ?_
  refine zr_iconst dX12_write_2 (by decide) ?_
  refine zr_bipush dX12_write_3 (by decide) (by decide) ?_
  obtain ⟨x1, hx1, h⟩ := zbind h
  refine zt_call0 (t_Rf_in hx1) (zrun_S (rest := [.inr (.inl (some 0))]) dX12_write_5 ml_X12_83 rfl (by decide) (by decide) rfl (Nat.le_of_ble_eq_true rfl)) rfl rfl (Nat.le_refl _) (Nat.le_refl _) ?_
  have hj2 : zBT 10 m_X12_write TRf (some (.inl res.1)) res.2 36 [some (.inr (.inl (some 0))), some (.inl a1)] [.inl (if ¬ x1 = 0 then (if (s.1 0 42) = 0 then 0 else (if ¬ (s.1 0 44) = 100 then 0 else 2)) else 1), .inr (.inl (some 0))] s := by
    refine zt_put dX12_write_36 fl_X12_80 rfl rfl ?_
    refine zr_aload ⟨_, dX12_write_39, rfl⟩ rfl ?_
    refine zt_get dX12_write_40 fl_X12_80 rfl rfl ?_
    refine zr_if_le (tgt := 48) dX12_write_43 (by decide) (fun hc4 => ?_) (fun hc4 => ?_)
    · replace h := zpos h hc4
      refine zr_aload ⟨_, dX12_write_48, rfl⟩ rfl ?_
      refine zr_load ⟨_, dX12_write_49, rfl⟩ rfl ?_
      obtain ⟨x5, hx5, h⟩ := zbind h
      refine zt_calliv (t_Rf_puts hx5) (zrun_V (rest := []) dX12_write_50 ml_X12_302 rfl rfl (by decide) (by decide) rfl (Nat.le_of_ble_eq_true rfl)) rfl rfl (Nat.le_refl _) (Nat.le_refl _) ?_
      refine zr_aload ⟨_, dX12_write_53, rfl⟩ rfl ?_
      refine zt_get dX12_write_54 fl_X12_299 rfl rfl ?_
      obtain rfl := Option.some.inj h
      exact zt_iret dX12_write_57 rfl
    · replace h := zneg h hc4
      refine zr_iconst dX12_write_46 (by decide) ?_
      obtain rfl := Option.some.inj h
      exact zt_iret dX12_write_47 rfl
  refine zr_if_ne (tgt := 15) dX12_write_8 (by decide) (fun hc3 => ?_) (fun hc3 => ?_)
  · have hp6 := zif_t hj2 hc3
    refine zr_aload ⟨_, dX12_write_15, rfl⟩ rfl ?_
    refine zt_get dX12_write_16 fl_X12_293 rfl rfl ?_
    refine zr_if_eq (tgt := 35) dX12_write_19 (by decide) (fun hc8 => ?_) (fun hc8 => ?_)
    · have hp9 := zif_t hp6 hc8
      refine zr_iconst dX12_write_35 (by decide) ?_
      exact hp9
    · have hp10 := zif_f hp6 hc8
      refine zr_aload ⟨_, dX12_write_22, rfl⟩ rfl ?_
      refine zt_get dX12_write_23 fl_X12_299 rfl rfl ?_
      refine zr_bipush dX12_write_26 (by decide) (by decide) ?_
      refine zr_ic_ne (tgt := 35) dX12_write_28 (by decide) (fun hc11 => ?_) (fun hc11 => ?_)
      · have hp12 := zif_t hp10 hc11
        refine zr_iconst dX12_write_35 (by decide) ?_
        exact hp12
      · have hp13 := zif_f hp10 hc11
        refine zr_iconst dX12_write_31 (by decide) ?_
        refine zr_goto (tgt := 36) dX12_write_32 (by decide) ?_
        exact hp13
  · have hp7 := zif_f hj2 hc3
    refine zr_iconst dX12_write_11 (by decide) ?_
    refine zr_goto (tgt := 36) dX12_write_12 (by decide) ?_
    exact hp7
set_option maxRecDepth 100000 in
set_option maxHeartbeats 4000000 in
theorem t_Rf_putsNumber_j17 {v1 : Int} {s : zSt} {res : Int × zSt} (h : f_Rf_putsNumber_j17 v1 s = some res) : zBT 10 m_X12_putsNumber TRf none res.2 17 [some (.inr (.inl (some 0))), some (.inl v1)] [] s := by
  unfold f_Rf_putsNumber_j17 at h
  refine zr_load ⟨_, dX12_putsNumber_17, rfl⟩ rfl ?_
  refine zr_bipush dX12_putsNumber_18 (by decide) (by decide) ?_
  refine zr_ic_le (tgt := 37) dX12_putsNumber_20 (by decide) (fun hc1 => ?_) (fun hc1 => ?_)
  · replace h := zpos h hc1
    refine zr_aload ⟨_, dX12_putsNumber_37, rfl⟩ rfl ?_
    refine zr_bipush dX12_putsNumber_38 (by decide) (by decide) ?_
    refine zr_load ⟨_, dX12_putsNumber_40, rfl⟩ rfl ?_
    refine zr_bipush dX12_putsNumber_41 (by decide) (by decide) ?_
    refine zr_irem dX12_putsNumber_43 (by decide) ?_
    refine zr_iadd dX12_putsNumber_44 ?_
    obtain ⟨x2, hx2, h⟩ := zbind h
    refine zt_calliv (t_Rf_puts hx2) (zrun_V (rest := []) dX12_putsNumber_45 ml_X12_302 rfl rfl (by decide) (by decide) rfl (Nat.le_of_ble_eq_true rfl)) rfl rfl (Nat.le_refl _) (Nat.le_refl _) ?_
    obtain rfl := Option.some.inj h
    exact zt_vret dX12_putsNumber_48 rfl
  · replace h := zneg h hc1
    refine zr_aload ⟨_, dX12_putsNumber_23, rfl⟩ rfl ?_
    refine zr_bipush dX12_putsNumber_24 (by decide) (by decide) ?_
    refine zr_load ⟨_, dX12_putsNumber_26, rfl⟩ rfl ?_
    refine zr_bipush dX12_putsNumber_27 (by decide) (by decide) ?_
    refine zr_idiv dX12_putsNumber_29 (by decide) ?_
    refine zr_bipush dX12_putsNumber_30 (by decide) (by decide) ?_
    refine zr_irem dX12_putsNumber_32 (by decide) ?_
    refine zr_iadd dX12_putsNumber_33 ?_
    obtain ⟨x3, hx3, h⟩ := zbind h
    refine zt_calliv (t_Rf_puts hx3) (zrun_V (rest := []) dX12_putsNumber_34 ml_X12_302 rfl rfl (by decide) (by decide) rfl (Nat.le_of_ble_eq_true rfl)) rfl rfl (Nat.le_refl _) (Nat.le_refl _) ?_
    refine zr_aload ⟨_, dX12_putsNumber_37, rfl⟩ rfl ?_
    refine zr_bipush dX12_putsNumber_38 (by decide) (by decide) ?_
    refine zr_load ⟨_, dX12_putsNumber_40, rfl⟩ rfl ?_
    refine zr_bipush dX12_putsNumber_41 (by decide) (by decide) ?_
    refine zr_irem dX12_putsNumber_43 (by decide) ?_
    refine zr_iadd dX12_putsNumber_44 ?_
    obtain ⟨x4, hx4, h⟩ := zbind h
    refine zt_calliv (t_Rf_puts hx4) (zrun_V (rest := []) dX12_putsNumber_45 ml_X12_302 rfl rfl (by decide) (by decide) rfl (Nat.le_of_ble_eq_true rfl)) rfl rfl (Nat.le_refl _) (Nat.le_refl _) ?_
    obtain rfl := Option.some.inj h
    exact zt_vret dX12_putsNumber_48 rfl
set_option maxRecDepth 100000 in
set_option maxHeartbeats 4000000 in
theorem t_Rf_putsNumber {a1 : Int} {s : zSt} {res : Int × zSt} (h : f_Rf_putsNumber a1 s = some res) : zSpecT 10 m_X12_putsNumber [.inr (.inl (some 0)), .inl a1] TRf s none res.2 := by
  refine zSpec_of (by decide +kernel) (Nat.le_of_ble_eq_true rfl) ?_
  show zBT 10 m_X12_putsNumber TRf none res.2 0 [some (.inr (.inl (some 0))), some (.inl a1)] [] s
  unfold f_Rf_putsNumber at h
  refine zr_load ⟨_, dX12_putsNumber_0, rfl⟩ rfl ?_
  refine zr_bipush dX12_putsNumber_1 (by decide) (by decide) ?_
  refine zr_ic_le (tgt := 17) dX12_putsNumber_3 (by decide) (fun hc1 => ?_) (fun hc1 => ?_)
  · replace h := zpos h hc1
    exact t_Rf_putsNumber_j17 h
  · replace h := zneg h hc1
    refine zr_aload ⟨_, dX12_putsNumber_6, rfl⟩ rfl ?_
    refine zr_bipush dX12_putsNumber_7 (by decide) (by decide) ?_
    refine zr_load ⟨_, dX12_putsNumber_9, rfl⟩ rfl ?_
    refine zr_bipush dX12_putsNumber_10 (by decide) (by decide) ?_
    refine zr_idiv dX12_putsNumber_12 (by decide) ?_
    refine zr_iadd dX12_putsNumber_13 ?_
    obtain ⟨x2, hx2, h⟩ := zbind h
    refine zt_calliv (t_Rf_puts hx2) (zrun_V (rest := []) dX12_putsNumber_14 ml_X12_302 rfl rfl (by decide) (by decide) rfl (Nat.le_of_ble_eq_true rfl)) rfl rfl (Nat.le_refl _) (Nat.le_refl _) ?_
    exact t_Rf_putsNumber_j17 h
set_option maxRecDepth 100000 in
set_option maxHeartbeats 4000000 in
theorem t_Rf_echo {a1 : Int} {s : zSt} {res : Int × zSt} (h : f_Rf_echo a1 s = some res) : zSpecT 10 m_X12_echo [.inr (.inl (some 0)), .inl a1] TRf s none res.2 := by
  refine zSpec_of (by decide +kernel) (Nat.le_of_ble_eq_true rfl) ?_
  show zBT 10 m_X12_echo TRf none res.2 0 [some (.inr (.inl (some 0))), some (.inl a1)] [] s
  unfold f_Rf_echo at h
  refine zr_aload ⟨_, dX12_echo_0, rfl⟩ rfl ?_
  refine zt_get dX12_echo_1 fl_X12_49 rfl rfl ?_
  refine zr_if_eq (tgt := 12) dX12_echo_4 (by decide) (fun hc1 => ?_) (fun hc1 => ?_)
  · replace h := zpos h hc1
    obtain rfl := Option.some.inj h
    exact zt_vret dX12_echo_12 rfl
  · replace h := zneg h hc1
    refine zr_aload ⟨_, dX12_echo_7, rfl⟩ rfl ?_
    refine zr_load ⟨_, dX12_echo_8, rfl⟩ rfl ?_
    obtain ⟨x2, hx2, h⟩ := zbind h
    refine zt_calliv (t_Rf_puts hx2) (zrun_V (rest := []) dX12_echo_9 ml_X12_302 rfl rfl (by decide) (by decide) rfl (Nat.le_of_ble_eq_true rfl)) rfl rfl (Nat.le_refl _) (Nat.le_refl _) ?_
    obtain rfl := Option.some.inj h
    exact zt_vret dX12_echo_12 rfl
set_option maxRecDepth 100000 in
set_option maxHeartbeats 4000000 in
theorem t_Rf_code_j130 {v2 v3 v4 : Int} {s : zSt} {res : Int × zSt} (h : f_Rf_code_j130 v2 v3 v4 s = some res) : zBT 11 m_X12_code TRf (some (.inl res.1)) res.2 130 [some (.inr (.inl (some 0))), none, some (.inl v2), some (.inl v3), some (.inl v4), none] [] s := by
  unfold f_Rf_code_j130 at h
  refine zr_aload ⟨_, dX12_code_130, rfl⟩ rfl ?_
  refine zr_load ⟨_, dX12_code_131, rfl⟩ rfl ?_
  obtain ⟨x1, hx1, h⟩ := zbind h
  refine zt_calliv (t_Rf_putsNumber hx1) (zrun_V (rest := []) dX12_code_132 ml_X12_309 rfl rfl (by decide) (by decide) rfl (Nat.le_of_ble_eq_true rfl)) rfl rfl (Nat.le_refl _) (Nat.le_refl _) ?_
  refine zr_load ⟨_, dX12_code_135, rfl⟩ rfl ?_
  refine zr_if_eq (tgt := 150) dX12_code_136 (by decide) (fun hc2 => ?_) (fun hc2 => ?_)
  · replace h := zpos h hc2
    refine zr_aload ⟨_, dX12_code_150, rfl⟩ rfl ?_
    refine zr_loadw dX12_code_151 rfl ?_
    obtain ⟨x3, hx3, h⟩ := zbind h
    refine zt_calliv (t_Rf_puts hx3) (zrun_V (rest := []) dX12_code_153 ml_X12_302 rfl rfl (by decide) (by decide) rfl (Nat.le_of_ble_eq_true rfl)) rfl rfl (Nat.le_refl _) (Nat.le_refl _) ?_
    refine zr_aload ⟨_, dX12_code_156, rfl⟩ rfl ?_
    refine zt_get dX12_code_157 fl_X12_299 rfl rfl ?_
    obtain rfl := Option.some.inj h
    exact zt_iret dX12_code_160 rfl
  · replace h := zneg h hc2
    refine zr_aload ⟨_, dX12_code_139, rfl⟩ rfl ?_
    refine zr_bipush dX12_code_140 (by decide) (by decide) ?_
    obtain ⟨x4, hx4, h⟩ := zbind h
    refine zt_calliv (t_Rf_puts hx4) (zrun_V (rest := []) dX12_code_142 ml_X12_302 rfl rfl (by decide) (by decide) rfl (Nat.le_of_ble_eq_true rfl)) rfl rfl (Nat.le_refl _) (Nat.le_refl _) ?_
    refine zr_aload ⟨_, dX12_code_145, rfl⟩ rfl ?_
    refine zr_load ⟨_, dX12_code_146, rfl⟩ rfl ?_
    obtain ⟨x5, hx5, h⟩ := zbind h
    refine zt_calliv (t_Rf_putsNumber hx5) (zrun_V (rest := []) dX12_code_147 ml_X12_309 rfl rfl (by decide) (by decide) rfl (Nat.le_of_ble_eq_true rfl)) rfl rfl (Nat.le_refl _) (Nat.le_refl _) ?_
    refine zr_aload ⟨_, dX12_code_150, rfl⟩ rfl ?_
    refine zr_loadw dX12_code_151 rfl ?_
    obtain ⟨x6, hx6, h⟩ := zbind h
    refine zt_calliv (t_Rf_puts hx6) (zrun_V (rest := []) dX12_code_153 ml_X12_302 rfl rfl (by decide) (by decide) rfl (Nat.le_of_ble_eq_true rfl)) rfl rfl (Nat.le_refl _) (Nat.le_refl _) ?_
    refine zr_aload ⟨_, dX12_code_156, rfl⟩ rfl ?_
    refine zt_get dX12_code_157 fl_X12_299 rfl rfl ?_
    obtain rfl := Option.some.inj h
    exact zt_iret dX12_code_160 rfl
set_option maxRecDepth 100000 in
set_option maxHeartbeats 4000000 in
theorem t_Rf_code_j96 {v1 v2 v3 v4 k0 : Int} {s : zSt} {res : Int × zSt} (h : f_Rf_code_j96 v1 v2 v3 v4 k0 s = some res) : zBT 11 m_X12_code TRf (some (.inl res.1)) res.2 96 [some (.inr (.inl (some 0))), some (.inl v1), some (.inl v2), some (.inl v3), some (.inl v4), none] [.inl k0, .inr (.inl (some 0))] s := by
  unfold f_Rf_code_j96 at h
  refine zt_put dX12_code_96 fl_X12_80 rfl rfl ?_
  refine zr_aload ⟨_, dX12_code_99, rfl⟩ rfl ?_
  refine zt_get dX12_code_100 fl_X12_80 rfl rfl ?_
  refine zr_if_le (tgt := 108) dX12_code_103 (by decide) (fun hc1 => ?_) (fun hc1 => ?_)
  · replace h := zpos h hc1
    refine zr_aload ⟨_, dX12_code_108, rfl⟩ rfl ?_
    refine zr_bipush dX12_code_109 (by decide) (by decide) ?_
    obtain ⟨x2, hx2, h⟩ := zbind h
    refine zt_calliv (t_Rf_puts hx2) (zrun_V (rest := []) dX12_code_111 ml_X12_302 rfl rfl (by decide) (by decide) rfl (Nat.le_of_ble_eq_true rfl)) rfl rfl (Nat.le_refl _) (Nat.le_refl _) ?_
    refine zr_aload ⟨_, dX12_code_114, rfl⟩ rfl ?_
    refine zr_bipush dX12_code_115 (by decide) (by decide) ?_
    obtain ⟨x3, hx3, h⟩ := zbind h
    refine zt_calliv (t_Rf_puts hx3) (zrun_V (rest := []) dX12_code_117 ml_X12_302 rfl rfl (by decide) (by decide) rfl (Nat.le_of_ble_eq_true rfl)) rfl rfl (Nat.le_refl _) (Nat.le_refl _) ?_
    refine zr_load ⟨_, dX12_code_120, rfl⟩ rfl ?_
    refine zr_if_eq (tgt := 130) dX12_code_121 (by decide) (fun hc4 => ?_) (fun hc4 => ?_)
    · replace h := zpos h hc4
      refine zr_mask [true, false, true, true, true, false] rfl ?_
      exact t_Rf_code_j130 h
    · replace h := zneg h hc4
      refine zr_aload ⟨_, dX12_code_124, rfl⟩ rfl ?_
      refine zr_bipush dX12_code_125 (by decide) (by decide) ?_
      obtain ⟨x5, hx5, h⟩ := zbind h
      refine zt_calliv (t_Rf_puts hx5) (zrun_V (rest := []) dX12_code_127 ml_X12_302 rfl rfl (by decide) (by decide) rfl (Nat.le_of_ble_eq_true rfl)) rfl rfl (Nat.le_refl _) (Nat.le_refl _) ?_
      refine zr_mask [true, false, true, true, true, false] rfl ?_
      exact t_Rf_code_j130 h
  · replace h := zneg h hc1
    refine zr_iconst dX12_code_106 (by decide) ?_
    obtain rfl := Option.some.inj h
    exact zt_iret dX12_code_107 rfl
set_option maxRecDepth 100000 in
set_option maxHeartbeats 4000000 in
theorem t_Rf_code_j68 {v1 v2 v3 v4 : Int} {s : zSt} {res : Int × zSt} (h : f_Rf_code_j68 v1 v2 v3 v4 s = some res) : zBT 11 m_X12_code TRf (some (.inl res.1)) res.2 68 [some (.inr (.inl (some 0))), some (.inl v1), some (.inl v2), some (.inl v3), some (.inl v4), none] [.inr (.inl (some 0))] s := by
  unfold f_Rf_code_j68 at h
  refine zr_iconst dX12_code_68 (by decide) ?_
  refine zr_goto (tgt := 96) dX12_code_69 (by decide) ?_
  exact t_Rf_code_j96 h
set_option maxRecDepth 100000 in
set_option maxHeartbeats 4000000 in
theorem t_Rf_code_j30 {v1 v2 v3 v4 k0 k1 : Int} {s : zSt} {res : Int × zSt} (h : f_Rf_code_j30 v1 v2 v3 v4 k0 k1 s = some res) : zBT 11 m_X12_code TRf (some (.inl res.1)) res.2 30 [some (.inr (.inl (some 0))), some (.inl v1), some (.inl v2), some (.inl v3), some (.inl v4), none] [.inl k0, .inl k1] s := by
  unfold f_Rf_code_j30 at h
  refine zr_iadd dX12_code_30 ?_
  refine zr_storew dX12_code_31 (by decide) rfl ?_
  refine zr_aload ⟨_, dX12_code_33, rfl⟩ rfl ?_
  refine zr_load ⟨_, dX12_code_34, rfl⟩ rfl ?_
  refine zr_iconst dX12_code_35 (by decide) ?_
  refine zr_sipush dX12_code_36 (by decide) (by decide) ?_
  obtain ⟨x1, hx1, h⟩ := zbind h
  refine zt_call0 (t_Rf_in hx1) (zrun_S (rest := [.inr (.inl (some 0))]) dX12_code_39 ml_X12_83 rfl (by decide) (by decide) rfl (Nat.le_of_ble_eq_true rfl)) rfl rfl (Nat.le_refl _) (Nat.le_refl _) ?_
  refine zr_if_eq (tgt := 68) dX12_code_42 (by decide) (fun hc2 => ?_) (fun hc2 => ?_)
  · replace h := zpos h hc2
    refine zr_mask [true, true, true, true, true, false] rfl ?_
    exact t_Rf_code_j68 h
  · replace h := zneg h hc2
    refine zr_load ⟨_, dX12_code_45, rfl⟩ rfl ?_
    refine zr_iconst dX12_code_46 (by decide) ?_
    refine zr_sipush dX12_code_47 (by decide) (by decide) ?_
    obtain ⟨x3, hx3, h⟩ := zbind h
    refine zt_call0 (t_Rf_in hx3) (zrun_S (rest := [.inr (.inl (some 0))]) dX12_code_50 ml_X12_83 rfl (by decide) (by decide) rfl (Nat.le_of_ble_eq_true rfl)) rfl rfl (Nat.le_refl _) (Nat.le_refl _) ?_
    refine zr_if_eq (tgt := 68) dX12_code_53 (by decide) (fun hc4 => ?_) (fun hc4 => ?_)
    · replace h := zpos h hc4
      refine zr_mask [true, true, true, true, true, false] rfl ?_
      exact t_Rf_code_j68 h
    · replace h := zneg h hc4
      refine zr_loadw dX12_code_56 rfl ?_
      refine zr_bipush dX12_code_58 (by decide) (by decide) ?_
      refine zr_bipush dX12_code_60 (by decide) (by decide) ?_
      obtain ⟨x5, hx5, h⟩ := zbind h
      refine zt_call0 (t_Rf_in hx5) (zrun_S (rest := [.inr (.inl (some 0))]) dX12_code_62 ml_X12_83 rfl (by decide) (by decide) rfl (Nat.le_of_ble_eq_true rfl)) rfl rfl (Nat.le_refl _) (Nat.le_refl _) ?_
      have hj6 : zBT 11 m_X12_code TRf (some (.inl res.1)) res.2 96 [some (.inr (.inl (some 0))), some (.inl v1), some (.inl v2), some (.inl v3), some (.inl v4), some (.inl (w32 (k1 + k0)))] [.inl (if ¬ x5 = 0 then (if (s.1 0 42) = 0 then 0 else (if (w32 ((s.1 0 44) + (w32 (k1 + k0)))) ≤ 100 then 0 else 2)) else 1), .inr (.inl (some 0))] s := by
        refine zt_put dX12_code_96 fl_X12_80 rfl rfl ?_
        refine zr_aload ⟨_, dX12_code_99, rfl⟩ rfl ?_
        refine zt_get dX12_code_100 fl_X12_80 rfl rfl ?_
        refine zr_if_le (tgt := 108) dX12_code_103 (by decide) (fun hc8 => ?_) (fun hc8 => ?_)
        · replace h := zpos h hc8
          refine zr_aload ⟨_, dX12_code_108, rfl⟩ rfl ?_
          refine zr_bipush dX12_code_109 (by decide) (by decide) ?_
          obtain ⟨x9, hx9, h⟩ := zbind h
          refine zt_calliv (t_Rf_puts hx9) (zrun_V (rest := []) dX12_code_111 ml_X12_302 rfl rfl (by decide) (by decide) rfl (Nat.le_of_ble_eq_true rfl)) rfl rfl (Nat.le_refl _) (Nat.le_refl _) ?_
          refine zr_aload ⟨_, dX12_code_114, rfl⟩ rfl ?_
          refine zr_bipush dX12_code_115 (by decide) (by decide) ?_
          obtain ⟨x10, hx10, h⟩ := zbind h
          refine zt_calliv (t_Rf_puts hx10) (zrun_V (rest := []) dX12_code_117 ml_X12_302 rfl rfl (by decide) (by decide) rfl (Nat.le_of_ble_eq_true rfl)) rfl rfl (Nat.le_refl _) (Nat.le_refl _) ?_
          refine zr_load ⟨_, dX12_code_120, rfl⟩ rfl ?_
          refine zr_if_eq (tgt := 130) dX12_code_121 (by decide) (fun hc11 => ?_) (fun hc11 => ?_)
          · replace h := zpos h hc11
            refine zr_mask [true, false, true, true, true, false] rfl ?_
            exact t_Rf_code_j130 h
          · replace h := zneg h hc11
            refine zr_aload ⟨_, dX12_code_124, rfl⟩ rfl ?_
            refine zr_bipush dX12_code_125 (by decide) (by decide) ?_
            obtain ⟨x12, hx12, h⟩ := zbind h
            refine zt_calliv (t_Rf_puts hx12) (zrun_V (rest := []) dX12_code_127 ml_X12_302 rfl rfl (by decide) (by decide) rfl (Nat.le_of_ble_eq_true rfl)) rfl rfl (Nat.le_refl _) (Nat.le_refl _) ?_
            refine zr_mask [true, false, true, true, true, false] rfl ?_
            exact t_Rf_code_j130 h
        · replace h := zneg h hc8
          refine zr_iconst dX12_code_106 (by decide) ?_
          obtain rfl := Option.some.inj h
          exact zt_iret dX12_code_107 rfl
      refine zr_if_ne (tgt := 72) dX12_code_65 (by decide) (fun hc7 => ?_) (fun hc7 => ?_)
      · have hp13 := zif_t hj6 hc7
        refine zr_aload ⟨_, dX12_code_72, rfl⟩ rfl ?_
        refine zt_get dX12_code_73 fl_X12_293 rfl rfl ?_
        refine zr_if_eq (tgt := 95) dX12_code_76 (by decide) (fun hc15 => ?_) (fun hc15 => ?_)
        · have hp16 := zif_t hp13 hc15
          refine zr_iconst dX12_code_95 (by decide) ?_
          exact hp16
        · have hp17 := zif_f hp13 hc15
          refine zr_aload ⟨_, dX12_code_79, rfl⟩ rfl ?_
          refine zt_get dX12_code_80 fl_X12_299 rfl rfl ?_
          refine zr_loadw dX12_code_83 rfl ?_
          refine zr_iadd dX12_code_85 ?_
          refine zr_bipush dX12_code_86 (by decide) (by decide) ?_
          refine zr_ic_le (tgt := 95) dX12_code_88 (by decide) (fun hc18 => ?_) (fun hc18 => ?_)
          · have hp19 := zif_t hp17 hc18
            refine zr_iconst dX12_code_95 (by decide) ?_
            exact hp19
          · have hp20 := zif_f hp17 hc18
            refine zr_iconst dX12_code_91 (by decide) ?_
            refine zr_goto (tgt := 96) dX12_code_92 (by decide) ?_
            exact hp20
      · have hp14 := zif_f hj6 hc7
        refine zr_iconst dX12_code_68 (by decide) ?_
        refine zr_goto (tgt := 96) dX12_code_69 (by decide) ?_
        exact hp14
set_option maxRecDepth 100000 in
set_option maxHeartbeats 4000000 in
theorem t_Rf_code {a1 a2 a3 a4 : Int} {s : zSt} {res : Int × zSt} (h : f_Rf_code a1 a2 a3 a4 s = some res) : zSpecT 11 m_X12_code [.inr (.inl (some 0)), .inl a1, .inl a2, .inl a3, .inl a4] TRf s (some (.inl res.1)) res.2 := by
  refine zSpec_of (by decide +kernel) (Nat.le_of_ble_eq_true rfl) ?_
  show zBT 11 m_X12_code TRf (some (.inl res.1)) res.2 0 [some (.inr (.inl (some 0))), some (.inl a1), some (.inl a2), some (.inl a3), some (.inl a4), none] [] s
  unfold f_Rf_code at h
  refine zr_iconst dX12_code_0 (by decide) ?_
  refine zr_load ⟨_, dX12_code_1, rfl⟩ rfl ?_
  have hj1 : zBT 11 m_X12_code TRf (some (.inl res.1)) res.2 10 [some (.inr (.inl (some 0))), some (.inl a1), some (.inl a2), some (.inl a3), some (.inl a4), none] [.inl (if a1 = 0 then 0 else 1), .inl 3] s := by
    refine zr_iadd dX12_code_10 ?_
    refine zr_load ⟨_, dX12_code_11, rfl⟩ rfl ?_
    obtain ⟨x3, hx3, h⟩ := zbind h
    refine zt_call0 (t_Rf_digits hx3) (zrun_S (rest := [.inl (w32 (3 + (if a1 = 0 then 0 else 1)))]) dX12_code_12 ml_X12_305 rfl (by decide) (by decide) rfl (Nat.le_of_ble_eq_true rfl)) rfl rfl (Nat.le_refl _) (Nat.le_refl _) ?_
    refine zr_iadd dX12_code_15 ?_
    refine zr_load ⟨_, dX12_code_16, rfl⟩ rfl ?_
    refine zr_if_ne (tgt := 24) dX12_code_17 (by decide) (fun hc4 => ?_) (fun hc4 => ?_)
    · replace h := zpos h hc4
      refine zr_iconst dX12_code_24 (by decide) ?_
      refine zr_load ⟨_, dX12_code_25, rfl⟩ rfl ?_
      obtain ⟨x5, hx5, h⟩ := zbind h
      refine zt_call0 (t_Rf_digits hx5) (zrun_S (rest := [.inl 1, .inl (w32 ((w32 (3 + (if a1 = 0 then 0 else 1))) + x3))]) dX12_code_26 ml_X12_305 rfl (by decide) (by decide) rfl (Nat.le_of_ble_eq_true rfl)) rfl rfl (Nat.le_refl _) (Nat.le_refl _) ?_
      refine zr_iadd dX12_code_29 ?_
      exact t_Rf_code_j30 h
    · replace h := zneg h hc4
      refine zr_iconst dX12_code_20 (by decide) ?_
      refine zr_goto (tgt := 30) dX12_code_21 (by decide) ?_
      exact t_Rf_code_j30 h
  refine zr_if_eq (tgt := 9) dX12_code_2 (by decide) (fun hc2 => ?_) (fun hc2 => ?_)
  · have hp6 := zif_t hj1 hc2
    refine zr_iconst dX12_code_9 (by decide) ?_
    exact hp6
  · have hp7 := zif_f hj1 hc2
    refine zr_iconst dX12_code_5 (by decide) ?_
    refine zr_goto (tgt := 10) dX12_code_6 (by decide) ?_
    exact hp7
