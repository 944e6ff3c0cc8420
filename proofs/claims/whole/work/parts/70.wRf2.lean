set_option maxRecDepth 100000 in
set_option maxHeartbeats 4000000 in
theorem t_Rf_lays_l11 {c1 c2 c3 : Int} {r : Option zAV} {s0 : zSt}  : ∀ (n : Nat) (x : Int × zSt) (out : Int × zSt), zloop (f_Rf_lays_l11 c1 c2 c3) n x = some out → (zBT 3 m_X12_lays TRf r s0 41 [some (.inr (.inl (some 0))), some (.inl c1), some (.inl c2), some (.inl c3), some (.inl out.1), none, none, none, none, none, none, none, none, none, none, none, none] [] out.2) → zBT 3 m_X12_lays TRf r s0 11 [some (.inr (.inl (some 0))), some (.inl c1), some (.inl c2), some (.inl c3), some (.inl x.1), none, none, none, none, none, none, none, none, none, none, none, none] [] x.2 := by
  refine zloop_B (B := fun (x : Int × zSt) (out : Int × zSt) => zBT 3 m_X12_lays TRf r s0 41 [some (.inr (.inl (some 0))), some (.inl c1), some (.inl c2), some (.inl c3), some (.inl out.1), none, none, none, none, none, none, none, none, none, none, none, none] [] out.2 → zBT 3 m_X12_lays TRf r s0 11 [some (.inr (.inl (some 0))), some (.inl c1), some (.inl c2), some (.inl c3), some (.inl x.1), none, none, none, none, none, none, none, none, none, none, none, none] [] x.2) ?_
  intro x o out h hk hx
  unfold f_Rf_lays_l11 at h
  refine zr_loadw dX12_lays_11 rfl ?_
  refine zr_aload ⟨_, dX12_lays_13, rfl⟩ rfl ?_
  refine zt_get dX12_lays_14 fl_X12_98 rfl rfl ?_
  refine zr_load ⟨_, dX12_lays_17, rfl⟩ rfl ?_
  refine zr_iadd dX12_lays_18 ?_
  refine zr_iconst dX12_lays_19 (by decide) ?_
  refine zr_iadd dX12_lays_20 ?_
  refine zr_ic_le (tgt := 41) dX12_lays_21 (by decide) (fun hc1 => ?_) (fun hc1 => ?_)
  · replace h := zpos h hc1
    obtain rfl := Option.some.inj h
    obtain rfl := hk
    exact hx
  · replace h := zneg h hc1
    refine zr_aload ⟨_, dX12_lays_24, rfl⟩ rfl ?_
    refine zr_loadw dX12_lays_25 rfl ?_
    refine zr_iconst dX12_lays_27 (by decide) ?_
    refine zr_isub dX12_lays_28 ?_
    obtain ⟨x2, hx2, h⟩ := zbind h
    refine zt_callisi (t_Rf_fullOf hx2) (zrun_V (rest := []) dX12_lays_29 ml_X12_367 rfl rfl (by decide) (by decide) rfl (Nat.le_of_ble_eq_true rfl)) rfl rfl (Nat.le_refl _) (Nat.le_refl _) ?_
    refine zr_if_ne (tgt := 41) dX12_lays_32 (by decide) (fun hc3 => ?_) (fun hc3 => ?_)
    · replace h := zpos h hc3
      obtain rfl := Option.some.inj h
      obtain rfl := hk
      exact hx
    · replace h := zneg h hc3
      refine zr_iinc dX12_lays_35 rfl (by decide) rfl ?_
      refine zr_goto (tgt := 11) dX12_lays_38 (by decide) ?_
      obtain rfl := Option.some.inj h
      exact hk hx
set_option maxRecDepth 100000 in
set_option maxHeartbeats 4000000 in
theorem t_Rf_lays_l181 {c1 c2 c3 c4 c7 c9 c12 : Int} {r : Option zAV} {s0 : zSt}  : ∀ (n : Nat) (x : Int × Int × Int × Int × Int × zSt) (out : Int × Int × Int × Int × zSt), zloop (f_Rf_lays_l181 c1 c2 c3 c4 c7 c9 c12) n x = some out → (zBT 3 m_X12_lays TRf r s0 369 [some (.inr (.inl (some 0))), some (.inl c1), some (.inl c2), some (.inl c3), some (.inl c4), some (.inl out.1), some (.inl out.2.1), some (.inl c7), some (.inl out.2.2.1), some (.inl c9), some (.inl out.2.2.2.1), none, some (.inl c12), none, none, none, none] [] out.2.2.2.2) → zBT 3 m_X12_lays TRf r s0 181 [some (.inr (.inl (some 0))), some (.inl c1), some (.inl c2), some (.inl c3), some (.inl c4), some (.inl x.1), some (.inl x.2.1), some (.inl c7), some (.inl x.2.2.1), some (.inl c9), some (.inl x.2.2.2.1), none, some (.inl c12), some (.inl x.2.2.2.2.1), none, none, none] [] x.2.2.2.2.2 := by
  refine zloop_B (B := fun (x : Int × Int × Int × Int × Int × zSt) (out : Int × Int × Int × Int × zSt) => zBT 3 m_X12_lays TRf r s0 369 [some (.inr (.inl (some 0))), some (.inl c1), some (.inl c2), some (.inl c3), some (.inl c4), some (.inl out.1), some (.inl out.2.1), some (.inl c7), some (.inl out.2.2.1), some (.inl c9), some (.inl out.2.2.2.1), none, some (.inl c12), none, none, none, none] [] out.2.2.2.2 → zBT 3 m_X12_lays TRf r s0 181 [some (.inr (.inl (some 0))), some (.inl c1), some (.inl c2), some (.inl c3), some (.inl c4), some (.inl x.1), some (.inl x.2.1), some (.inl c7), some (.inl x.2.2.1), some (.inl c9), some (.inl x.2.2.2.1), none, some (.inl c12), some (.inl x.2.2.2.2.1), none, none, none] [] x.2.2.2.2.2) ?_
  intro x o out h hk hx
  unfold f_Rf_lays_l181 at h
  refine zr_loadw dX12_lays_181 rfl ?_
  refine zr_loadw dX12_lays_183 rfl ?_
  refine zr_ic_ge (tgt := 369) dX12_lays_185 (by decide) (fun hc1 => ?_) (fun hc1 => ?_)
  · replace h := zpos h hc1
    refine zr_mask [true, true, true, true, true, true, true, true, true, true, true, false, true, false, false, false, false] rfl ?_
    obtain rfl := Option.some.inj h
    obtain rfl := hk
    exact hx
  · replace h := zneg h hc1
    refine zr_aload ⟨_, dX12_lays_188, rfl⟩ rfl ?_
    refine zr_loadw dX12_lays_189 rfl ?_
    refine zr_loadw dX12_lays_191 rfl ?_
    obtain ⟨x2, hx2, h⟩ := zbind h
    refine zt_callisi (t_Rf_old hx2) (zrun_V (rest := []) dX12_lays_193 ml_X12_364 rfl rfl (by decide) (by decide) rfl (Nat.le_of_ble_eq_true rfl)) rfl rfl (Nat.le_refl _) (Nat.le_refl _) ?_
    refine zr_storew dX12_lays_196 (by decide) rfl ?_
    refine zr_loadw dX12_lays_198 rfl ?_
    obtain ⟨x3, hx3, h⟩ := zbind h
    refine zt_call0 (t_Rf_isWide hx3) (zrun_S (rest := []) dX12_lays_200 ml_X12_377 rfl (by decide) (by decide) rfl (Nat.le_of_ble_eq_true rfl)) rfl rfl (Nat.le_refl _) (Nat.le_refl _) ?_
    have hj4 : zBT 3 m_X12_lays TRf r s0 211 [some (.inr (.inl (some 0))), some (.inl c1), some (.inl c2), some (.inl c3), some (.inl c4), some (.inl x.1), some (.inl x.2.1), some (.inl c7), some (.inl x.2.2.1), some (.inl c9), some (.inl x.2.2.2.1), none, some (.inl c12), some (.inl x.2.2.2.2.1), some (.inl x2), none, none] [.inl (if x3 = 0 then 1 else 2)] x.2.2.2.2.2 := by
      refine zr_storew dX12_lays_211 (by decide) rfl ?_
      refine zr_loadw dX12_lays_213 rfl ?_
      refine zr_bipush dX12_lays_215 (by decide) (by decide) ?_
      refine zr_ic_eq (tgt := 294) dX12_lays_217 (by decide) (fun hc6 => ?_) (fun hc6 => ?_)
      · replace h := zpos h hc6
        refine zr_loadw dX12_lays_294 rfl ?_
        have hj7 : zBT 3 m_X12_lays TRf r s0 321 [some (.inr (.inl (some 0))), some (.inl c1), some (.inl c2), some (.inl c3), some (.inl c4), some (.inl x.1), some (.inl x.2.1), some (.inl c7), some (.inl x.2.2.1), some (.inl c9), some (.inl x.2.2.2.1), none, some (.inl c12), some (.inl x.2.2.2.2.1), some (.inl x2), some (.inl (if x3 = 0 then 1 else 2)), none] [.inl (if ¬ x.2.2.2.1 = 0 then 1 else (if ¬ c7 = (w32 ((x.2.2.2.2.2.1 0 7) + c1)) then 0 else (if ¬ x.2.2.2.2.1 = c2 then 0 else 1)))] x.2.2.2.2.2 := by
          refine zr_storew dX12_lays_321 (by decide) rfl ?_
          refine zr_loadw dX12_lays_323 rfl ?_
          have hj9 : zBT 3 m_X12_lays TRf r s0 358 [some (.inr (.inl (some 0))), some (.inl c1), some (.inl c2), some (.inl c3), some (.inl c4), some (.inl x.1), some (.inl x.2.1), some (.inl c7), some (.inl x.2.2.1), some (.inl c9), some (.inl x.2.2.2.1), none, some (.inl c12), some (.inl x.2.2.2.2.1), some (.inl x2), some (.inl (if x3 = 0 then 1 else 2)), some (.inl (if ¬ x.2.2.2.1 = 0 then 1 else (if ¬ c7 = (w32 ((x.2.2.2.2.2.1 0 7) + c1)) then 0 else (if ¬ x.2.2.2.2.1 = c2 then 0 else 1))))] [.inl (if ((if ¬ x.2.2.2.1 = 0 then 1 else (if ¬ c7 = (w32 ((x.2.2.2.2.2.1 0 7) + c1)) then 0 else (if ¬ x.2.2.2.2.1 = c2 then 0 else 1))) : Int) = 0 then x.1 else (w32 ((w32 (24 * x.2.1)) + (if ¬ x2 = (-2) then (w32 (x.2.2.1 - (if x3 = 0 then 1 else 2))) else (w32 (x.2.2.1 - 1))))))] x.2.2.2.2.2 := by
            refine zr_storew dX12_lays_358 (by decide) rfl ?_
            refine zr_iconst dX12_lays_360 (by decide) ?_
            refine zr_storew dX12_lays_361 (by decide) rfl ?_
            refine zr_iinc dX12_lays_363 rfl (by decide) rfl ?_
            refine zr_goto (tgt := 181) dX12_lays_366 (by decide) ?_
            refine zr_mask [true, true, true, true, true, true, true, true, true, true, true, false, true, true, false, false, false] rfl ?_
            obtain rfl := Option.some.inj h
            exact hk hx
          refine zr_if_eq (tgt := 356) dX12_lays_325 (by decide) (fun hc10 => ?_) (fun hc10 => ?_)
          · have hp11 := zif_t hj9 hc10
            refine zr_loadw dX12_lays_356 rfl ?_
            exact hp11
          · have hp12 := zif_f hj9 hc10
            refine zr_bipush dX12_lays_328 (by decide) (by decide) ?_
            refine zr_loadw dX12_lays_330 rfl ?_
            refine zr_imul dX12_lays_332 ?_
            refine zr_loadw dX12_lays_333 rfl ?_
            refine zr_bipush dX12_lays_335 (by decide) (by decide) ?_
            have hq13 : zBT 3 m_X12_lays TRf r s0 352 [some (.inr (.inl (some 0))), some (.inl c1), some (.inl c2), some (.inl c3), some (.inl c4), some (.inl x.1), some (.inl x.2.1), some (.inl c7), some (.inl x.2.2.1), some (.inl c9), some (.inl x.2.2.2.1), none, some (.inl c12), some (.inl x.2.2.2.2.1), some (.inl x2), some (.inl (if x3 = 0 then 1 else 2)), some (.inl (if ¬ x.2.2.2.1 = 0 then 1 else (if ¬ c7 = (w32 ((x.2.2.2.2.2.1 0 7) + c1)) then 0 else (if ¬ x.2.2.2.2.1 = c2 then 0 else 1))))] [.inl (if ¬ x2 = (-2) then (w32 (x.2.2.1 - (if x3 = 0 then 1 else 2))) else (w32 (x.2.2.1 - 1))), .inl (w32 (24 * x.2.1))] x.2.2.2.2.2 := by
              refine zr_iadd dX12_lays_352 ?_
              refine zr_goto (tgt := 358) dX12_lays_353 (by decide) ?_
              exact hp12
            refine zr_ic_ne (tgt := 347) dX12_lays_337 (by decide) (fun hc14 => ?_) (fun hc14 => ?_)
            · have hp15 := zif_t hq13 hc14
              refine zr_loadw dX12_lays_347 rfl ?_
              refine zr_loadw dX12_lays_349 rfl ?_
              refine zr_isub dX12_lays_351 ?_
              exact hp15
            · have hp16 := zif_f hq13 hc14
              refine zr_loadw dX12_lays_340 rfl ?_
              refine zr_iconst dX12_lays_342 (by decide) ?_
              refine zr_isub dX12_lays_343 ?_
              refine zr_goto (tgt := 352) dX12_lays_344 (by decide) ?_
              exact hp16
        refine zr_if_ne (tgt := 316) dX12_lays_296 (by decide) (fun hc8 => ?_) (fun hc8 => ?_)
        · have hp17 := zif_t hj7 hc8
          refine zr_iconst dX12_lays_316 (by decide) ?_
          refine zr_goto (tgt := 321) dX12_lays_317 (by decide) ?_
          exact hp17
        · have hp18 := zif_f hj7 hc8
          refine zr_loadw dX12_lays_299 rfl ?_
          refine zr_aload ⟨_, dX12_lays_301, rfl⟩ rfl ?_
          refine zt_get dX12_lays_302 fl_X12_98 rfl rfl ?_
          refine zr_load ⟨_, dX12_lays_305, rfl⟩ rfl ?_
          refine zr_iadd dX12_lays_306 ?_
          refine zr_ic_ne (tgt := 320) dX12_lays_307 (by decide) (fun hc19 => ?_) (fun hc19 => ?_)
          · have hp20 := zif_t hp18 hc19
            refine zr_iconst dX12_lays_320 (by decide) ?_
            exact hp20
          · have hp21 := zif_f hp18 hc19
            refine zr_loadw dX12_lays_310 rfl ?_
            refine zr_load ⟨_, dX12_lays_312, rfl⟩ rfl ?_
            refine zr_ic_ne (tgt := 320) dX12_lays_313 (by decide) (fun hc22 => ?_) (fun hc22 => ?_)
            · have hp23 := zif_t hp21 hc22
              refine zr_iconst dX12_lays_320 (by decide) ?_
              exact hp23
            · have hp24 := zif_f hp21 hc22
              refine zr_iconst dX12_lays_316 (by decide) ?_
              refine zr_goto (tgt := 321) dX12_lays_317 (by decide) ?_
              exact hp24
      · replace h := zneg h hc6
        refine zr_loadw dX12_lays_220 rfl ?_
        refine zr_loadw dX12_lays_222 rfl ?_
        refine zr_iadd dX12_lays_224 ?_
        refine zr_load ⟨_, dX12_lays_225, rfl⟩ rfl ?_
        refine zr_ic_le (tgt := 249) dX12_lays_226 (by decide) (fun hc25 => ?_) (fun hc25 => ?_)
        · replace h := zpos h hc25
          refine zr_aload ⟨_, dX12_lays_249, rfl⟩ rfl ?_
          refine zt_getr dX12_lays_250 fl_X12_70 rfl rfl ?_
          refine zr_bipush dX12_lays_253 (by decide) (by decide) ?_
          refine zr_loadw dX12_lays_255 rfl ?_
          refine zr_imul dX12_lays_257 ?_
          refine zr_loadw dX12_lays_258 rfl ?_
          refine zr_iadd dX12_lays_260 ?_
          refine zr_loadw dX12_lays_261 rfl ?_
          obtain ⟨hb26, h⟩ := zchk h
          refine zt_iastore dX12_lays_263 rfl hb26 ?_
          refine zr_loadw dX12_lays_264 rfl ?_
          refine zr_iconst dX12_lays_266 (by decide) ?_
          refine zr_ic_ne (tgt := 287) dX12_lays_267 (by decide) (fun hc27 => ?_) (fun hc27 => ?_)
          · replace h := zpos h hc27
            refine zr_loadw dX12_lays_287 rfl ?_
            refine zr_loadw dX12_lays_289 rfl ?_
            refine zr_iadd dX12_lays_291 ?_
            refine zr_storew dX12_lays_292 (by decide) rfl ?_
            refine zr_loadw dX12_lays_294 rfl ?_
            have hj28 : zBT 3 m_X12_lays TRf r s0 321 [some (.inr (.inl (some 0))), some (.inl c1), some (.inl c2), some (.inl c3), some (.inl c4), some (.inl x.1), some (.inl x.2.1), some (.inl c7), some (.inl (w32 (x.2.2.1 + (if x3 = 0 then 1 else 2)))), some (.inl c9), some (.inl x.2.2.2.1), none, some (.inl c12), some (.inl x.2.2.2.2.1), some (.inl x2), some (.inl (if x3 = 0 then 1 else 2)), none] [.inl (if ¬ x.2.2.2.1 = 0 then 1 else (if ¬ c7 = (w32 ((x.2.2.2.2.2.1 0 7) + c1)) then 0 else (if ¬ x.2.2.2.2.1 = c2 then 0 else 1)))] (uE x.2.2.2.2.2 14 (w32 ((w32 (24 * x.2.1)) + x.2.2.1)) x2) := by
              refine zr_storew dX12_lays_321 (by decide) rfl ?_
              refine zr_loadw dX12_lays_323 rfl ?_
              have hj30 : zBT 3 m_X12_lays TRf r s0 358 [some (.inr (.inl (some 0))), some (.inl c1), some (.inl c2), some (.inl c3), some (.inl c4), some (.inl x.1), some (.inl x.2.1), some (.inl c7), some (.inl (w32 (x.2.2.1 + (if x3 = 0 then 1 else 2)))), some (.inl c9), some (.inl x.2.2.2.1), none, some (.inl c12), some (.inl x.2.2.2.2.1), some (.inl x2), some (.inl (if x3 = 0 then 1 else 2)), some (.inl (if ¬ x.2.2.2.1 = 0 then 1 else (if ¬ c7 = (w32 ((x.2.2.2.2.2.1 0 7) + c1)) then 0 else (if ¬ x.2.2.2.2.1 = c2 then 0 else 1))))] [.inl (if ((if ¬ x.2.2.2.1 = 0 then 1 else (if ¬ c7 = (w32 ((x.2.2.2.2.2.1 0 7) + c1)) then 0 else (if ¬ x.2.2.2.2.1 = c2 then 0 else 1))) : Int) = 0 then x.1 else (w32 ((w32 (24 * x.2.1)) + (if ¬ x2 = (-2) then (w32 ((w32 (x.2.2.1 + (if x3 = 0 then 1 else 2))) - (if x3 = 0 then 1 else 2))) else (w32 ((w32 (x.2.2.1 + (if x3 = 0 then 1 else 2))) - 1))))))] (uE x.2.2.2.2.2 14 (w32 ((w32 (24 * x.2.1)) + x.2.2.1)) x2) := by
                refine zr_storew dX12_lays_358 (by decide) rfl ?_
                refine zr_iconst dX12_lays_360 (by decide) ?_
                refine zr_storew dX12_lays_361 (by decide) rfl ?_
                refine zr_iinc dX12_lays_363 rfl (by decide) rfl ?_
                refine zr_goto (tgt := 181) dX12_lays_366 (by decide) ?_
                refine zr_mask [true, true, true, true, true, true, true, true, true, true, true, false, true, true, false, false, false] rfl ?_
                obtain rfl := Option.some.inj h
                exact hk hx
              refine zr_if_eq (tgt := 356) dX12_lays_325 (by decide) (fun hc31 => ?_) (fun hc31 => ?_)
              · have hp32 := zif_t hj30 hc31
                refine zr_loadw dX12_lays_356 rfl ?_
                exact hp32
              · have hp33 := zif_f hj30 hc31
                refine zr_bipush dX12_lays_328 (by decide) (by decide) ?_
                refine zr_loadw dX12_lays_330 rfl ?_
                refine zr_imul dX12_lays_332 ?_
                refine zr_loadw dX12_lays_333 rfl ?_
                refine zr_bipush dX12_lays_335 (by decide) (by decide) ?_
                have hq34 : zBT 3 m_X12_lays TRf r s0 352 [some (.inr (.inl (some 0))), some (.inl c1), some (.inl c2), some (.inl c3), some (.inl c4), some (.inl x.1), some (.inl x.2.1), some (.inl c7), some (.inl (w32 (x.2.2.1 + (if x3 = 0 then 1 else 2)))), some (.inl c9), some (.inl x.2.2.2.1), none, some (.inl c12), some (.inl x.2.2.2.2.1), some (.inl x2), some (.inl (if x3 = 0 then 1 else 2)), some (.inl (if ¬ x.2.2.2.1 = 0 then 1 else (if ¬ c7 = (w32 ((x.2.2.2.2.2.1 0 7) + c1)) then 0 else (if ¬ x.2.2.2.2.1 = c2 then 0 else 1))))] [.inl (if ¬ x2 = (-2) then (w32 ((w32 (x.2.2.1 + (if x3 = 0 then 1 else 2))) - (if x3 = 0 then 1 else 2))) else (w32 ((w32 (x.2.2.1 + (if x3 = 0 then 1 else 2))) - 1))), .inl (w32 (24 * x.2.1))] (uE x.2.2.2.2.2 14 (w32 ((w32 (24 * x.2.1)) + x.2.2.1)) x2) := by
                  refine zr_iadd dX12_lays_352 ?_
                  refine zr_goto (tgt := 358) dX12_lays_353 (by decide) ?_
                  exact hp33
                refine zr_ic_ne (tgt := 347) dX12_lays_337 (by decide) (fun hc35 => ?_) (fun hc35 => ?_)
                · have hp36 := zif_t hq34 hc35
                  refine zr_loadw dX12_lays_347 rfl ?_
                  refine zr_loadw dX12_lays_349 rfl ?_
                  refine zr_isub dX12_lays_351 ?_
                  exact hp36
                · have hp37 := zif_f hq34 hc35
                  refine zr_loadw dX12_lays_340 rfl ?_
                  refine zr_iconst dX12_lays_342 (by decide) ?_
                  refine zr_isub dX12_lays_343 ?_
                  refine zr_goto (tgt := 352) dX12_lays_344 (by decide) ?_
                  exact hp37
            refine zr_if_ne (tgt := 316) dX12_lays_296 (by decide) (fun hc29 => ?_) (fun hc29 => ?_)
            · have hp38 := zif_t hj28 hc29
              refine zr_iconst dX12_lays_316 (by decide) ?_
              refine zr_goto (tgt := 321) dX12_lays_317 (by decide) ?_
              exact hp38
            · have hp39 := zif_f hj28 hc29
              refine zr_loadw dX12_lays_299 rfl ?_
              refine zr_aload ⟨_, dX12_lays_301, rfl⟩ rfl ?_
              refine zt_get dX12_lays_302 fl_X12_98 rfl rfl ?_
              refine zr_load ⟨_, dX12_lays_305, rfl⟩ rfl ?_
              refine zr_iadd dX12_lays_306 ?_
              refine zr_ic_ne (tgt := 320) dX12_lays_307 (by decide) (fun hc40 => ?_) (fun hc40 => ?_)
              · have hp41 := zif_t hp39 hc40
                refine zr_iconst dX12_lays_320 (by decide) ?_
                exact hp41
              · have hp42 := zif_f hp39 hc40
                refine zr_loadw dX12_lays_310 rfl ?_
                refine zr_load ⟨_, dX12_lays_312, rfl⟩ rfl ?_
                refine zr_ic_ne (tgt := 320) dX12_lays_313 (by decide) (fun hc43 => ?_) (fun hc43 => ?_)
                · have hp44 := zif_t hp42 hc43
                  refine zr_iconst dX12_lays_320 (by decide) ?_
                  exact hp44
                · have hp45 := zif_f hp42 hc43
                  refine zr_iconst dX12_lays_316 (by decide) ?_
                  refine zr_goto (tgt := 321) dX12_lays_317 (by decide) ?_
                  exact hp45
          · replace h := zneg h hc27
            refine zr_aload ⟨_, dX12_lays_270, rfl⟩ rfl ?_
            refine zt_getr dX12_lays_271 fl_X12_70 rfl rfl ?_
            refine zr_bipush dX12_lays_274 (by decide) (by decide) ?_
            refine zr_loadw dX12_lays_276 rfl ?_
            refine zr_imul dX12_lays_278 ?_
            refine zr_loadw dX12_lays_279 rfl ?_
            refine zr_iadd dX12_lays_281 ?_
            refine zr_iconst dX12_lays_282 (by decide) ?_
            refine zr_iadd dX12_lays_283 ?_
            refine zr_bipush dX12_lays_284 (by decide) (by decide) ?_
            obtain ⟨hb46, h⟩ := zchk h
            refine zt_iastore dX12_lays_286 rfl hb46 ?_
            refine zr_loadw dX12_lays_287 rfl ?_
            refine zr_loadw dX12_lays_289 rfl ?_
            refine zr_iadd dX12_lays_291 ?_
            refine zr_storew dX12_lays_292 (by decide) rfl ?_
            refine zr_loadw dX12_lays_294 rfl ?_
            have hj47 : zBT 3 m_X12_lays TRf r s0 321 [some (.inr (.inl (some 0))), some (.inl c1), some (.inl c2), some (.inl c3), some (.inl c4), some (.inl x.1), some (.inl x.2.1), some (.inl c7), some (.inl (w32 (x.2.2.1 + (if x3 = 0 then 1 else 2)))), some (.inl c9), some (.inl x.2.2.2.1), none, some (.inl c12), some (.inl x.2.2.2.2.1), some (.inl x2), some (.inl (if x3 = 0 then 1 else 2)), none] [.inl (if ¬ x.2.2.2.1 = 0 then 1 else (if ¬ c7 = (w32 ((x.2.2.2.2.2.1 0 7) + c1)) then 0 else (if ¬ x.2.2.2.2.1 = c2 then 0 else 1)))] (uE (uE x.2.2.2.2.2 14 (w32 ((w32 (24 * x.2.1)) + x.2.2.1)) x2) 14 (w32 ((w32 ((w32 (24 * x.2.1)) + x.2.2.1)) + 1)) (-2)) := by
              refine zr_storew dX12_lays_321 (by decide) rfl ?_
              refine zr_loadw dX12_lays_323 rfl ?_
              have hj49 : zBT 3 m_X12_lays TRf r s0 358 [some (.inr (.inl (some 0))), some (.inl c1), some (.inl c2), some (.inl c3), some (.inl c4), some (.inl x.1), some (.inl x.2.1), some (.inl c7), some (.inl (w32 (x.2.2.1 + (if x3 = 0 then 1 else 2)))), some (.inl c9), some (.inl x.2.2.2.1), none, some (.inl c12), some (.inl x.2.2.2.2.1), some (.inl x2), some (.inl (if x3 = 0 then 1 else 2)), some (.inl (if ¬ x.2.2.2.1 = 0 then 1 else (if ¬ c7 = (w32 ((x.2.2.2.2.2.1 0 7) + c1)) then 0 else (if ¬ x.2.2.2.2.1 = c2 then 0 else 1))))] [.inl (if ((if ¬ x.2.2.2.1 = 0 then 1 else (if ¬ c7 = (w32 ((x.2.2.2.2.2.1 0 7) + c1)) then 0 else (if ¬ x.2.2.2.2.1 = c2 then 0 else 1))) : Int) = 0 then x.1 else (w32 ((w32 (24 * x.2.1)) + (if ¬ x2 = (-2) then (w32 ((w32 (x.2.2.1 + (if x3 = 0 then 1 else 2))) - (if x3 = 0 then 1 else 2))) else (w32 ((w32 (x.2.2.1 + (if x3 = 0 then 1 else 2))) - 1))))))] (uE (uE x.2.2.2.2.2 14 (w32 ((w32 (24 * x.2.1)) + x.2.2.1)) x2) 14 (w32 ((w32 ((w32 (24 * x.2.1)) + x.2.2.1)) + 1)) (-2)) := by
                refine zr_storew dX12_lays_358 (by decide) rfl ?_
                refine zr_iconst dX12_lays_360 (by decide) ?_
                refine zr_storew dX12_lays_361 (by decide) rfl ?_
                refine zr_iinc dX12_lays_363 rfl (by decide) rfl ?_
                refine zr_goto (tgt := 181) dX12_lays_366 (by decide) ?_
                refine zr_mask [true, true, true, true, true, true, true, true, true, true, true, false, true, true, false, false, false] rfl ?_
                obtain rfl := Option.some.inj h
                exact hk hx
              refine zr_if_eq (tgt := 356) dX12_lays_325 (by decide) (fun hc50 => ?_) (fun hc50 => ?_)
              · have hp51 := zif_t hj49 hc50
                refine zr_loadw dX12_lays_356 rfl ?_
                exact hp51
              · have hp52 := zif_f hj49 hc50
                refine zr_bipush dX12_lays_328 (by decide) (by decide) ?_
                refine zr_loadw dX12_lays_330 rfl ?_
                refine zr_imul dX12_lays_332 ?_
                refine zr_loadw dX12_lays_333 rfl ?_
                refine zr_bipush dX12_lays_335 (by decide) (by decide) ?_
                have hq53 : zBT 3 m_X12_lays TRf r s0 352 [some (.inr (.inl (some 0))), some (.inl c1), some (.inl c2), some (.inl c3), some (.inl c4), some (.inl x.1), some (.inl x.2.1), some (.inl c7), some (.inl (w32 (x.2.2.1 + (if x3 = 0 then 1 else 2)))), some (.inl c9), some (.inl x.2.2.2.1), none, some (.inl c12), some (.inl x.2.2.2.2.1), some (.inl x2), some (.inl (if x3 = 0 then 1 else 2)), some (.inl (if ¬ x.2.2.2.1 = 0 then 1 else (if ¬ c7 = (w32 ((x.2.2.2.2.2.1 0 7) + c1)) then 0 else (if ¬ x.2.2.2.2.1 = c2 then 0 else 1))))] [.inl (if ¬ x2 = (-2) then (w32 ((w32 (x.2.2.1 + (if x3 = 0 then 1 else 2))) - (if x3 = 0 then 1 else 2))) else (w32 ((w32 (x.2.2.1 + (if x3 = 0 then 1 else 2))) - 1))), .inl (w32 (24 * x.2.1))] (uE (uE x.2.2.2.2.2 14 (w32 ((w32 (24 * x.2.1)) + x.2.2.1)) x2) 14 (w32 ((w32 ((w32 (24 * x.2.1)) + x.2.2.1)) + 1)) (-2)) := by
                  refine zr_iadd dX12_lays_352 ?_
                  refine zr_goto (tgt := 358) dX12_lays_353 (by decide) ?_
                  exact hp52
                refine zr_ic_ne (tgt := 347) dX12_lays_337 (by decide) (fun hc54 => ?_) (fun hc54 => ?_)
                · have hp55 := zif_t hq53 hc54
                  refine zr_loadw dX12_lays_347 rfl ?_
                  refine zr_loadw dX12_lays_349 rfl ?_
                  refine zr_isub dX12_lays_351 ?_
                  exact hp55
                · have hp56 := zif_f hq53 hc54
                  refine zr_loadw dX12_lays_340 rfl ?_
                  refine zr_iconst dX12_lays_342 (by decide) ?_
                  refine zr_isub dX12_lays_343 ?_
                  refine zr_goto (tgt := 352) dX12_lays_344 (by decide) ?_
                  exact hp56
            refine zr_if_ne (tgt := 316) dX12_lays_296 (by decide) (fun hc48 => ?_) (fun hc48 => ?_)
            · have hp57 := zif_t hj47 hc48
              refine zr_iconst dX12_lays_316 (by decide) ?_
              refine zr_goto (tgt := 321) dX12_lays_317 (by decide) ?_
              exact hp57
            · have hp58 := zif_f hj47 hc48
              refine zr_loadw dX12_lays_299 rfl ?_
              refine zr_aload ⟨_, dX12_lays_301, rfl⟩ rfl ?_
              refine zt_get dX12_lays_302 fl_X12_98 rfl rfl ?_
              refine zr_load ⟨_, dX12_lays_305, rfl⟩ rfl ?_
              refine zr_iadd dX12_lays_306 ?_
              refine zr_ic_ne (tgt := 320) dX12_lays_307 (by decide) (fun hc59 => ?_) (fun hc59 => ?_)
              · have hp60 := zif_t hp58 hc59
                refine zr_iconst dX12_lays_320 (by decide) ?_
                exact hp60
              · have hp61 := zif_f hp58 hc59
                refine zr_loadw dX12_lays_310 rfl ?_
                refine zr_load ⟨_, dX12_lays_312, rfl⟩ rfl ?_
                refine zr_ic_ne (tgt := 320) dX12_lays_313 (by decide) (fun hc62 => ?_) (fun hc62 => ?_)
                · have hp63 := zif_t hp61 hc62
                  refine zr_iconst dX12_lays_320 (by decide) ?_
                  exact hp63
                · have hp64 := zif_f hp61 hc62
                  refine zr_iconst dX12_lays_316 (by decide) ?_
                  refine zr_goto (tgt := 321) dX12_lays_317 (by decide) ?_
                  exact hp64
        · replace h := zneg h hc25
          refine zr_aload ⟨_, dX12_lays_229, rfl⟩ rfl ?_
          refine zt_getr dX12_lays_230 fl_X12_73 rfl rfl ?_
          refine zr_loadw dX12_lays_233 rfl ?_
          refine zr_iconst dX12_lays_235 (by decide) ?_
          obtain ⟨hb65, h⟩ := zchk h
          refine zt_bastore dX12_lays_236 rfl hb65 (Or.inr rfl) ?_
          refine zr_iinc dX12_lays_237 rfl (by decide) rfl ?_
          refine zr_aload ⟨_, dX12_lays_240, rfl⟩ rfl ?_
          refine zr_loadw dX12_lays_241 rfl ?_
          obtain ⟨x66, hx66, h⟩ := zbind h
          refine zt_calliv (t_Rf_emptiesLaid hx66) (zrun_V (rest := []) dX12_lays_243 ml_X12_370 rfl rfl (by decide) (by decide) rfl (Nat.le_of_ble_eq_true rfl)) rfl rfl (Nat.le_refl _) (Nat.le_refl _) ?_
          refine zr_iconst dX12_lays_246 (by decide) ?_
          refine zr_storew dX12_lays_247 (by decide) rfl ?_
          refine zr_aload ⟨_, dX12_lays_249, rfl⟩ rfl ?_
          refine zt_getr dX12_lays_250 fl_X12_70 rfl rfl ?_
          refine zr_bipush dX12_lays_253 (by decide) (by decide) ?_
          refine zr_loadw dX12_lays_255 rfl ?_
          refine zr_imul dX12_lays_257 ?_
          refine zr_loadw dX12_lays_258 rfl ?_
          refine zr_iadd dX12_lays_260 ?_
          refine zr_loadw dX12_lays_261 rfl ?_
          obtain ⟨hb67, h⟩ := zchk h
          refine zt_iastore dX12_lays_263 rfl hb67 ?_
          refine zr_loadw dX12_lays_264 rfl ?_
          refine zr_iconst dX12_lays_266 (by decide) ?_
          refine zr_ic_ne (tgt := 287) dX12_lays_267 (by decide) (fun hc68 => ?_) (fun hc68 => ?_)
          · replace h := zpos h hc68
            refine zr_loadw dX12_lays_287 rfl ?_
            refine zr_loadw dX12_lays_289 rfl ?_
            refine zr_iadd dX12_lays_291 ?_
            refine zr_storew dX12_lays_292 (by decide) rfl ?_
            refine zr_loadw dX12_lays_294 rfl ?_
            have hj69 : zBT 3 m_X12_lays TRf r s0 321 [some (.inr (.inl (some 0))), some (.inl c1), some (.inl c2), some (.inl c3), some (.inl c4), some (.inl x.1), some (.inl (w32 (x.2.1 + 1))), some (.inl c7), some (.inl (w32 (0 + (if x3 = 0 then 1 else 2)))), some (.inl c9), some (.inl x.2.2.2.1), none, some (.inl c12), some (.inl x.2.2.2.2.1), some (.inl x2), some (.inl (if x3 = 0 then 1 else 2)), none] [.inl (if ¬ x.2.2.2.1 = 0 then 1 else (if ¬ c7 = (w32 ((x66.2.1 0 7) + c1)) then 0 else (if ¬ x.2.2.2.2.1 = c2 then 0 else 1)))] (uE x66.2 14 (w32 ((w32 (24 * (w32 (x.2.1 + 1)))) + 0)) x2) := by
              refine zr_storew dX12_lays_321 (by decide) rfl ?_
              refine zr_loadw dX12_lays_323 rfl ?_
              have hj71 : zBT 3 m_X12_lays TRf r s0 358 [some (.inr (.inl (some 0))), some (.inl c1), some (.inl c2), some (.inl c3), some (.inl c4), some (.inl x.1), some (.inl (w32 (x.2.1 + 1))), some (.inl c7), some (.inl (w32 (0 + (if x3 = 0 then 1 else 2)))), some (.inl c9), some (.inl x.2.2.2.1), none, some (.inl c12), some (.inl x.2.2.2.2.1), some (.inl x2), some (.inl (if x3 = 0 then 1 else 2)), some (.inl (if ¬ x.2.2.2.1 = 0 then 1 else (if ¬ c7 = (w32 ((x66.2.1 0 7) + c1)) then 0 else (if ¬ x.2.2.2.2.1 = c2 then 0 else 1))))] [.inl (if ((if ¬ x.2.2.2.1 = 0 then 1 else (if ¬ c7 = (w32 ((x66.2.1 0 7) + c1)) then 0 else (if ¬ x.2.2.2.2.1 = c2 then 0 else 1))) : Int) = 0 then x.1 else (w32 ((w32 (24 * (w32 (x.2.1 + 1)))) + (if ¬ x2 = (-2) then (w32 ((w32 (0 + (if x3 = 0 then 1 else 2))) - (if x3 = 0 then 1 else 2))) else (w32 ((w32 (0 + (if x3 = 0 then 1 else 2))) - 1))))))] (uE x66.2 14 (w32 ((w32 (24 * (w32 (x.2.1 + 1)))) + 0)) x2) := by
                refine zr_storew dX12_lays_358 (by decide) rfl ?_
                refine zr_iconst dX12_lays_360 (by decide) ?_
                refine zr_storew dX12_lays_361 (by decide) rfl ?_
                refine zr_iinc dX12_lays_363 rfl (by decide) rfl ?_
                refine zr_goto (tgt := 181) dX12_lays_366 (by decide) ?_
                refine zr_mask [true, true, true, true, true, true, true, true, true, true, true, false, true, true, false, false, false] rfl ?_
                obtain rfl := Option.some.inj h
                exact hk hx
              refine zr_if_eq (tgt := 356) dX12_lays_325 (by decide) (fun hc72 => ?_) (fun hc72 => ?_)
              · have hp73 := zif_t hj71 hc72
                refine zr_loadw dX12_lays_356 rfl ?_
                exact hp73
              · have hp74 := zif_f hj71 hc72
                refine zr_bipush dX12_lays_328 (by decide) (by decide) ?_
                refine zr_loadw dX12_lays_330 rfl ?_
                refine zr_imul dX12_lays_332 ?_
                refine zr_loadw dX12_lays_333 rfl ?_
                refine zr_bipush dX12_lays_335 (by decide) (by decide) ?_
                have hq75 : zBT 3 m_X12_lays TRf r s0 352 [some (.inr (.inl (some 0))), some (.inl c1), some (.inl c2), some (.inl c3), some (.inl c4), some (.inl x.1), some (.inl (w32 (x.2.1 + 1))), some (.inl c7), some (.inl (w32 (0 + (if x3 = 0 then 1 else 2)))), some (.inl c9), some (.inl x.2.2.2.1), none, some (.inl c12), some (.inl x.2.2.2.2.1), some (.inl x2), some (.inl (if x3 = 0 then 1 else 2)), some (.inl (if ¬ x.2.2.2.1 = 0 then 1 else (if ¬ c7 = (w32 ((x66.2.1 0 7) + c1)) then 0 else (if ¬ x.2.2.2.2.1 = c2 then 0 else 1))))] [.inl (if ¬ x2 = (-2) then (w32 ((w32 (0 + (if x3 = 0 then 1 else 2))) - (if x3 = 0 then 1 else 2))) else (w32 ((w32 (0 + (if x3 = 0 then 1 else 2))) - 1))), .inl (w32 (24 * (w32 (x.2.1 + 1))))] (uE x66.2 14 (w32 ((w32 (24 * (w32 (x.2.1 + 1)))) + 0)) x2) := by
                  refine zr_iadd dX12_lays_352 ?_
                  refine zr_goto (tgt := 358) dX12_lays_353 (by decide) ?_
                  exact hp74
                refine zr_ic_ne (tgt := 347) dX12_lays_337 (by decide) (fun hc76 => ?_) (fun hc76 => ?_)
                · have hp77 := zif_t hq75 hc76
                  refine zr_loadw dX12_lays_347 rfl ?_
                  refine zr_loadw dX12_lays_349 rfl ?_
                  refine zr_isub dX12_lays_351 ?_
                  exact hp77
                · have hp78 := zif_f hq75 hc76
                  refine zr_loadw dX12_lays_340 rfl ?_
                  refine zr_iconst dX12_lays_342 (by decide) ?_
                  refine zr_isub dX12_lays_343 ?_
                  refine zr_goto (tgt := 352) dX12_lays_344 (by decide) ?_
                  exact hp78
            refine zr_if_ne (tgt := 316) dX12_lays_296 (by decide) (fun hc70 => ?_) (fun hc70 => ?_)
            · have hp79 := zif_t hj69 hc70
              refine zr_iconst dX12_lays_316 (by decide) ?_
              refine zr_goto (tgt := 321) dX12_lays_317 (by decide) ?_
              exact hp79
            · have hp80 := zif_f hj69 hc70
              refine zr_loadw dX12_lays_299 rfl ?_
              refine zr_aload ⟨_, dX12_lays_301, rfl⟩ rfl ?_
              refine zt_get dX12_lays_302 fl_X12_98 rfl rfl ?_
              refine zr_load ⟨_, dX12_lays_305, rfl⟩ rfl ?_
              refine zr_iadd dX12_lays_306 ?_
              refine zr_ic_ne (tgt := 320) dX12_lays_307 (by decide) (fun hc81 => ?_) (fun hc81 => ?_)
              · have hp82 := zif_t hp80 hc81
                refine zr_iconst dX12_lays_320 (by decide) ?_
                exact hp82
              · have hp83 := zif_f hp80 hc81
                refine zr_loadw dX12_lays_310 rfl ?_
                refine zr_load ⟨_, dX12_lays_312, rfl⟩ rfl ?_
                refine zr_ic_ne (tgt := 320) dX12_lays_313 (by decide) (fun hc84 => ?_) (fun hc84 => ?_)
                · have hp85 := zif_t hp83 hc84
                  refine zr_iconst dX12_lays_320 (by decide) ?_
                  exact hp85
                · have hp86 := zif_f hp83 hc84
                  refine zr_iconst dX12_lays_316 (by decide) ?_
                  refine zr_goto (tgt := 321) dX12_lays_317 (by decide) ?_
                  exact hp86
          · replace h := zneg h hc68
            refine zr_aload ⟨_, dX12_lays_270, rfl⟩ rfl ?_
            refine zt_getr dX12_lays_271 fl_X12_70 rfl rfl ?_
            refine zr_bipush dX12_lays_274 (by decide) (by decide) ?_
            refine zr_loadw dX12_lays_276 rfl ?_
            refine zr_imul dX12_lays_278 ?_
            refine zr_loadw dX12_lays_279 rfl ?_
            refine zr_iadd dX12_lays_281 ?_
            refine zr_iconst dX12_lays_282 (by decide) ?_
            refine zr_iadd dX12_lays_283 ?_
            refine zr_bipush dX12_lays_284 (by decide) (by decide) ?_
            obtain ⟨hb87, h⟩ := zchk h
            refine zt_iastore dX12_lays_286 rfl hb87 ?_
            refine zr_loadw dX12_lays_287 rfl ?_
            refine zr_loadw dX12_lays_289 rfl ?_
            refine zr_iadd dX12_lays_291 ?_
            refine zr_storew dX12_lays_292 (by decide) rfl ?_
            refine zr_loadw dX12_lays_294 rfl ?_
            have hj88 : zBT 3 m_X12_lays TRf r s0 321 [some (.inr (.inl (some 0))), some (.inl c1), some (.inl c2), some (.inl c3), some (.inl c4), some (.inl x.1), some (.inl (w32 (x.2.1 + 1))), some (.inl c7), some (.inl (w32 (0 + (if x3 = 0 then 1 else 2)))), some (.inl c9), some (.inl x.2.2.2.1), none, some (.inl c12), some (.inl x.2.2.2.2.1), some (.inl x2), some (.inl (if x3 = 0 then 1 else 2)), none] [.inl (if ¬ x.2.2.2.1 = 0 then 1 else (if ¬ c7 = (w32 ((x66.2.1 0 7) + c1)) then 0 else (if ¬ x.2.2.2.2.1 = c2 then 0 else 1)))] (uE (uE x66.2 14 (w32 ((w32 (24 * (w32 (x.2.1 + 1)))) + 0)) x2) 14 (w32 ((w32 ((w32 (24 * (w32 (x.2.1 + 1)))) + 0)) + 1)) (-2)) := by
              refine zr_storew dX12_lays_321 (by decide) rfl ?_
              refine zr_loadw dX12_lays_323 rfl ?_
              have hj90 : zBT 3 m_X12_lays TRf r s0 358 [some (.inr (.inl (some 0))), some (.inl c1), some (.inl c2), some (.inl c3), some (.inl c4), some (.inl x.1), some (.inl (w32 (x.2.1 + 1))), some (.inl c7), some (.inl (w32 (0 + (if x3 = 0 then 1 else 2)))), some (.inl c9), some (.inl x.2.2.2.1), none, some (.inl c12), some (.inl x.2.2.2.2.1), some (.inl x2), some (.inl (if x3 = 0 then 1 else 2)), some (.inl (if ¬ x.2.2.2.1 = 0 then 1 else (if ¬ c7 = (w32 ((x66.2.1 0 7) + c1)) then 0 else (if ¬ x.2.2.2.2.1 = c2 then 0 else 1))))] [.inl (if ((if ¬ x.2.2.2.1 = 0 then 1 else (if ¬ c7 = (w32 ((x66.2.1 0 7) + c1)) then 0 else (if ¬ x.2.2.2.2.1 = c2 then 0 else 1))) : Int) = 0 then x.1 else (w32 ((w32 (24 * (w32 (x.2.1 + 1)))) + (if ¬ x2 = (-2) then (w32 ((w32 (0 + (if x3 = 0 then 1 else 2))) - (if x3 = 0 then 1 else 2))) else (w32 ((w32 (0 + (if x3 = 0 then 1 else 2))) - 1))))))] (uE (uE x66.2 14 (w32 ((w32 (24 * (w32 (x.2.1 + 1)))) + 0)) x2) 14 (w32 ((w32 ((w32 (24 * (w32 (x.2.1 + 1)))) + 0)) + 1)) (-2)) := by
                refine zr_storew dX12_lays_358 (by decide) rfl ?_
                refine zr_iconst dX12_lays_360 (by decide) ?_
                refine zr_storew dX12_lays_361 (by decide) rfl ?_
                refine zr_iinc dX12_lays_363 rfl (by decide) rfl ?_
                refine zr_goto (tgt := 181) dX12_lays_366 (by decide) ?_
                refine zr_mask [true, true, true, true, true, true, true, true, true, true, true, false, true, true, false, false, false] rfl ?_
                obtain rfl := Option.some.inj h
                exact hk hx
              refine zr_if_eq (tgt := 356) dX12_lays_325 (by decide) (fun hc91 => ?_) (fun hc91 => ?_)
              · have hp92 := zif_t hj90 hc91
                refine zr_loadw dX12_lays_356 rfl ?_
                exact hp92
              · have hp93 := zif_f hj90 hc91
                refine zr_bipush dX12_lays_328 (by decide) (by decide) ?_
                refine zr_loadw dX12_lays_330 rfl ?_
                refine zr_imul dX12_lays_332 ?_
                refine zr_loadw dX12_lays_333 rfl ?_
                refine zr_bipush dX12_lays_335 (by decide) (by decide) ?_
                have hq94 : zBT 3 m_X12_lays TRf r s0 352 [some (.inr (.inl (some 0))), some (.inl c1), some (.inl c2), some (.inl c3), some (.inl c4), some (.inl x.1), some (.inl (w32 (x.2.1 + 1))), some (.inl c7), some (.inl (w32 (0 + (if x3 = 0 then 1 else 2)))), some (.inl c9), some (.inl x.2.2.2.1), none, some (.inl c12), some (.inl x.2.2.2.2.1), some (.inl x2), some (.inl (if x3 = 0 then 1 else 2)), some (.inl (if ¬ x.2.2.2.1 = 0 then 1 else (if ¬ c7 = (w32 ((x66.2.1 0 7) + c1)) then 0 else (if ¬ x.2.2.2.2.1 = c2 then 0 else 1))))] [.inl (if ¬ x2 = (-2) then (w32 ((w32 (0 + (if x3 = 0 then 1 else 2))) - (if x3 = 0 then 1 else 2))) else (w32 ((w32 (0 + (if x3 = 0 then 1 else 2))) - 1))), .inl (w32 (24 * (w32 (x.2.1 + 1))))] (uE (uE x66.2 14 (w32 ((w32 (24 * (w32 (x.2.1 + 1)))) + 0)) x2) 14 (w32 ((w32 ((w32 (24 * (w32 (x.2.1 + 1)))) + 0)) + 1)) (-2)) := by
                  refine zr_iadd dX12_lays_352 ?_
                  refine zr_goto (tgt := 358) dX12_lays_353 (by decide) ?_
                  exact hp93
                refine zr_ic_ne (tgt := 347) dX12_lays_337 (by decide) (fun hc95 => ?_) (fun hc95 => ?_)
                · have hp96 := zif_t hq94 hc95
                  refine zr_loadw dX12_lays_347 rfl ?_
                  refine zr_loadw dX12_lays_349 rfl ?_
                  refine zr_isub dX12_lays_351 ?_
                  exact hp96
                · have hp97 := zif_f hq94 hc95
                  refine zr_loadw dX12_lays_340 rfl ?_
                  refine zr_iconst dX12_lays_342 (by decide) ?_
                  refine zr_isub dX12_lays_343 ?_
                  refine zr_goto (tgt := 352) dX12_lays_344 (by decide) ?_
                  exact hp97
            refine zr_if_ne (tgt := 316) dX12_lays_296 (by decide) (fun hc89 => ?_) (fun hc89 => ?_)
            · have hp98 := zif_t hj88 hc89
              refine zr_iconst dX12_lays_316 (by decide) ?_
              refine zr_goto (tgt := 321) dX12_lays_317 (by decide) ?_
              exact hp98
            · have hp99 := zif_f hj88 hc89
              refine zr_loadw dX12_lays_299 rfl ?_
              refine zr_aload ⟨_, dX12_lays_301, rfl⟩ rfl ?_
              refine zt_get dX12_lays_302 fl_X12_98 rfl rfl ?_
              refine zr_load ⟨_, dX12_lays_305, rfl⟩ rfl ?_
              refine zr_iadd dX12_lays_306 ?_
              refine zr_ic_ne (tgt := 320) dX12_lays_307 (by decide) (fun hc100 => ?_) (fun hc100 => ?_)
              · have hp101 := zif_t hp99 hc100
                refine zr_iconst dX12_lays_320 (by decide) ?_
                exact hp101
              · have hp102 := zif_f hp99 hc100
                refine zr_loadw dX12_lays_310 rfl ?_
                refine zr_load ⟨_, dX12_lays_312, rfl⟩ rfl ?_
                refine zr_ic_ne (tgt := 320) dX12_lays_313 (by decide) (fun hc103 => ?_) (fun hc103 => ?_)
                · have hp104 := zif_t hp102 hc103
                  refine zr_iconst dX12_lays_320 (by decide) ?_
                  exact hp104
                · have hp105 := zif_f hp102 hc103
                  refine zr_iconst dX12_lays_316 (by decide) ?_
                  refine zr_goto (tgt := 321) dX12_lays_317 (by decide) ?_
                  exact hp105
    refine zr_if_eq (tgt := 210) dX12_lays_203 (by decide) (fun hc5 => ?_) (fun hc5 => ?_)
    · have hp106 := zif_t hj4 hc5
      refine zr_iconst dX12_lays_210 (by decide) ?_
      exact hp106
    · have hp107 := zif_f hj4 hc5
      refine zr_iconst dX12_lays_206 (by decide) ?_
      refine zr_goto (tgt := 211) dX12_lays_207 (by decide) ?_
      exact hp107
set_option maxRecDepth 100000 in
set_option maxHeartbeats 4000000 in
theorem t_Rf_lays_l72 {c1 c2 c3 c4 : Int} {r : Option zAV} {s0 : zSt}  : ∀ (n : Nat) (x : Int × Int × Int × Int × Int × Int × zSt) (out : Int × Int × Int × zSt), zloop (f_Rf_lays_l72 c1 c2 c3 c4) n x = some out → (zBT 3 m_X12_lays TRf r s0 427 [some (.inr (.inl (some 0))), some (.inl c1), some (.inl c2), some (.inl c3), some (.inl c4), some (.inl out.1), some (.inl out.2.1), some (.inl out.2.2.1), none, none, none, none, none, none, none, none, none] [] out.2.2.2) → zBT 3 m_X12_lays TRf r s0 72 [some (.inr (.inl (some 0))), some (.inl c1), some (.inl c2), some (.inl c3), some (.inl c4), some (.inl x.1), some (.inl x.2.1), some (.inl x.2.2.1), some (.inl x.2.2.2.1), some (.inl x.2.2.2.2.1), some (.inl x.2.2.2.2.2.1), none, none, none, none, none, none] [] x.2.2.2.2.2.2 := by
  refine zloop_B (B := fun (x : Int × Int × Int × Int × Int × Int × zSt) (out : Int × Int × Int × zSt) => zBT 3 m_X12_lays TRf r s0 427 [some (.inr (.inl (some 0))), some (.inl c1), some (.inl c2), some (.inl c3), some (.inl c4), some (.inl out.1), some (.inl out.2.1), some (.inl out.2.2.1), none, none, none, none, none, none, none, none, none] [] out.2.2.2 → zBT 3 m_X12_lays TRf r s0 72 [some (.inr (.inl (some 0))), some (.inl c1), some (.inl c2), some (.inl c3), some (.inl c4), some (.inl x.1), some (.inl x.2.1), some (.inl x.2.2.1), some (.inl x.2.2.2.1), some (.inl x.2.2.2.2.1), some (.inl x.2.2.2.2.2.1), none, none, none, none, none, none] [] x.2.2.2.2.2.2) ?_
  intro x o out h hk hx
  unfold f_Rf_lays_l72 at h
  refine zr_loadw dX12_lays_72 rfl ?_
  refine zr_if_eq (tgt := 427) dX12_lays_74 (by decide) (fun hc1 => ?_) (fun hc1 => ?_)
  · replace h := zpos h hc1
    refine zr_mask [true, true, true, true, true, true, true, true, false, false, false, false, false, false, false, false, false] rfl ?_
    obtain rfl := Option.some.inj h
    obtain rfl := hk
    exact hx
  · replace h := zneg h hc1
    refine zr_aload ⟨_, dX12_lays_77, rfl⟩ rfl ?_
    refine zr_loadw dX12_lays_78 rfl ?_
    obtain ⟨x2, hx2, h⟩ := zbind h
    refine zt_callisi (t_Rf_oldGoes hx2) (zrun_V (rest := []) dX12_lays_80 ml_X12_373 rfl rfl (by decide) (by decide) rfl (Nat.le_of_ble_eq_true rfl)) rfl rfl (Nat.le_refl _) (Nat.le_refl _) ?_
    have hj3 : zBT 3 m_X12_lays TRf r s0 100 [some (.inr (.inl (some 0))), some (.inl c1), some (.inl c2), some (.inl c3), some (.inl c4), some (.inl x.1), some (.inl x.2.1), some (.inl x.2.2.1), some (.inl x.2.2.2.1), some (.inl x.2.2.2.2.1), some (.inl x.2.2.2.2.2.1), none, none, none, none, none, none] [.inl (if x2 = 0 then 0 else (if c4 ≤ (w32 (x.2.2.1 + 1)) then 0 else 1))] x.2.2.2.2.2.2 := by
      refine zr_storew dX12_lays_100 (by decide) rfl ?_
      refine zr_loadw dX12_lays_102 rfl ?_
      refine zr_if_eq (tgt := 141) dX12_lays_104 (by decide) (fun hc5 => ?_) (fun hc5 => ?_)
      · replace h := zpos h hc5
        refine zr_iconst dX12_lays_141 (by decide) ?_
        refine zr_storew dX12_lays_142 (by decide) rfl ?_
        refine zr_loadw dX12_lays_144 rfl ?_
        refine zr_if_eq (tgt := 170) dX12_lays_146 (by decide) (fun hc6 => ?_) (fun hc6 => ?_)
        · replace h := zpos h hc6
          refine zr_aload ⟨_, dX12_lays_170, rfl⟩ rfl ?_
          refine zr_loadw dX12_lays_171 rfl ?_
          obtain ⟨x7, hx7, h⟩ := zbind h
          refine zt_callisi (t_Rf_fullOf hx7) (zrun_V (rest := []) dX12_lays_173 ml_X12_367 rfl rfl (by decide) (by decide) rfl (Nat.le_of_ble_eq_true rfl)) rfl rfl (Nat.le_refl _) (Nat.le_refl _) ?_
          refine zr_storew dX12_lays_176 (by decide) rfl ?_
          refine zr_iconst dX12_lays_178 (by decide) ?_
          refine zr_storew dX12_lays_179 (by decide) rfl ?_
          refine zr_mask [true, true, true, true, true, true, true, true, true, true, true, false, true, true, false, false, false] rfl ?_
          obtain ⟨y8, hy8, h⟩ := zbind h
          refine t_Rf_lays_l181 _ _ _ hy8 ?_
          refine zr_loadw dX12_lays_369 rfl ?_
          refine zr_aload ⟨_, dX12_lays_371, rfl⟩ rfl ?_
          refine zt_get dX12_lays_372 fl_X12_98 rfl rfl ?_
          refine zr_load ⟨_, dX12_lays_375, rfl⟩ rfl ?_
          refine zr_iadd dX12_lays_376 ?_
          refine zr_ic_ne (tgt := 421) dX12_lays_377 (by decide) (fun hc9 => ?_) (fun hc9 => ?_)
          · replace h := zpos h hc9
            refine zr_iinc dX12_lays_421 rfl (by decide) rfl ?_
            refine zr_goto (tgt := 72) dX12_lays_424 (by decide) ?_
            refine zr_mask [true, true, true, true, true, true, true, true, true, true, true, false, false, false, false, false, false] rfl ?_
            obtain rfl := Option.some.inj h
            exact hk hx
          · replace h := zneg h hc9
            refine zr_load ⟨_, dX12_lays_380, rfl⟩ rfl ?_
            refine zr_loadw dX12_lays_381 rfl ?_
            refine zr_ic_lt (tgt := 421) dX12_lays_383 (by decide) (fun hc10 => ?_) (fun hc10 => ?_)
            · replace h := zpos h hc10
              refine zr_iinc dX12_lays_421 rfl (by decide) rfl ?_
              refine zr_goto (tgt := 72) dX12_lays_424 (by decide) ?_
              refine zr_mask [true, true, true, true, true, true, true, true, true, true, true, false, false, false, false, false, false] rfl ?_
              obtain rfl := Option.some.inj h
              exact hk hx
            · replace h := zneg h hc10
              refine zr_loadw dX12_lays_386 rfl ?_
              refine zr_storew dX12_lays_388 (by decide) rfl ?_
              refine zr_loadw dX12_lays_390 rfl ?_
              refine zr_if_eq (tgt := 400) dX12_lays_392 (by decide) (fun hc11 => ?_) (fun hc11 => ?_)
              · replace h := zpos h hc11
                refine zr_bipush dX12_lays_400 (by decide) (by decide) ?_
                refine zr_loadw dX12_lays_402 rfl ?_
                refine zr_imul dX12_lays_404 ?_
                refine zr_loadw dX12_lays_405 rfl ?_
                refine zr_load ⟨_, dX12_lays_407, rfl⟩ rfl ?_
                refine zr_iadd dX12_lays_408 ?_
                refine zr_loadw dX12_lays_409 rfl ?_
                refine zr_isub dX12_lays_411 ?_
                refine zr_load ⟨_, dX12_lays_412, rfl⟩ rfl ?_
                refine zr_iconst dX12_lays_413 (by decide) ?_
                refine zr_isub dX12_lays_414 ?_
                obtain ⟨x12, hx12, h⟩ := zbind h
                refine zt_call0 (t_Rf_lesser hx12) (zrun_S (rest := [.inl (w32 (24 * y8.2.1))]) dX12_lays_415 ml_X12_170 rfl (by decide) (by decide) rfl (Nat.le_of_ble_eq_true rfl)) rfl rfl (Nat.le_refl _) (Nat.le_refl _) ?_
                refine zr_iadd dX12_lays_418 ?_
                refine zr_storew dX12_lays_419 (by decide) rfl ?_
                refine zr_iinc dX12_lays_421 rfl (by decide) rfl ?_
                refine zr_goto (tgt := 72) dX12_lays_424 (by decide) ?_
                refine zr_mask [true, true, true, true, true, true, true, true, true, true, true, false, false, false, false, false, false] rfl ?_
                obtain rfl := Option.some.inj h
                exact hk hx
              · replace h := zneg h hc11
                refine zr_loadw dX12_lays_395 rfl ?_
                refine zr_goto (tgt := 419) dX12_lays_397 (by decide) ?_
                refine zr_storew dX12_lays_419 (by decide) rfl ?_
                refine zr_iinc dX12_lays_421 rfl (by decide) rfl ?_
                refine zr_goto (tgt := 72) dX12_lays_424 (by decide) ?_
                refine zr_mask [true, true, true, true, true, true, true, true, true, true, true, false, false, false, false, false, false] rfl ?_
                obtain rfl := Option.some.inj h
                exact hk hx
        · replace h := zneg h hc6
          refine zr_loadw dX12_lays_149 rfl ?_
          have hj13 : zBT 3 m_X12_lays TRf r s0 176 [some (.inr (.inl (some 0))), some (.inl c1), some (.inl c2), some (.inl c3), some (.inl c4), some (.inl x.1), some (.inl x.2.1), some (.inl x.2.2.1), some (.inl x.2.2.2.1), some (.inl (if x2 = 0 then 0 else (if c4 ≤ (w32 (x.2.2.1 + 1)) then 0 else 1))), some (.inl x.2.2.2.2.2.1), some (.inl 0), none, none, none, none, none] [.inl (if (0 : Int) = 0 then (x.2.2.2.2.2.2.1 0 2) else (w32 ((x.2.2.2.2.2.2.1 0 2) - 1)))] x.2.2.2.2.2.2 := by
            refine zr_storew dX12_lays_176 (by decide) rfl ?_
            refine zr_iconst dX12_lays_178 (by decide) ?_
            refine zr_storew dX12_lays_179 (by decide) rfl ?_
            refine zr_mask [true, true, true, true, true, true, true, true, true, true, true, false, true, true, false, false, false] rfl ?_
            obtain ⟨y15, hy15, h⟩ := zbind h
            refine t_Rf_lays_l181 _ _ _ hy15 ?_
            refine zr_loadw dX12_lays_369 rfl ?_
            refine zr_aload ⟨_, dX12_lays_371, rfl⟩ rfl ?_
            refine zt_get dX12_lays_372 fl_X12_98 rfl rfl ?_
            refine zr_load ⟨_, dX12_lays_375, rfl⟩ rfl ?_
            refine zr_iadd dX12_lays_376 ?_
            refine zr_ic_ne (tgt := 421) dX12_lays_377 (by decide) (fun hc16 => ?_) (fun hc16 => ?_)
            · replace h := zpos h hc16
              refine zr_iinc dX12_lays_421 rfl (by decide) rfl ?_
              refine zr_goto (tgt := 72) dX12_lays_424 (by decide) ?_
              refine zr_mask [true, true, true, true, true, true, true, true, true, true, true, false, false, false, false, false, false] rfl ?_
              obtain rfl := Option.some.inj h
              exact hk hx
            · replace h := zneg h hc16
              refine zr_load ⟨_, dX12_lays_380, rfl⟩ rfl ?_
              refine zr_loadw dX12_lays_381 rfl ?_
              refine zr_ic_lt (tgt := 421) dX12_lays_383 (by decide) (fun hc17 => ?_) (fun hc17 => ?_)
              · replace h := zpos h hc17
                refine zr_iinc dX12_lays_421 rfl (by decide) rfl ?_
                refine zr_goto (tgt := 72) dX12_lays_424 (by decide) ?_
                refine zr_mask [true, true, true, true, true, true, true, true, true, true, true, false, false, false, false, false, false] rfl ?_
                obtain rfl := Option.some.inj h
                exact hk hx
              · replace h := zneg h hc17
                refine zr_loadw dX12_lays_386 rfl ?_
                refine zr_storew dX12_lays_388 (by decide) rfl ?_
                refine zr_loadw dX12_lays_390 rfl ?_
                refine zr_if_eq (tgt := 400) dX12_lays_392 (by decide) (fun hc18 => ?_) (fun hc18 => ?_)
                · replace h := zpos h hc18
                  refine zr_bipush dX12_lays_400 (by decide) (by decide) ?_
                  refine zr_loadw dX12_lays_402 rfl ?_
                  refine zr_imul dX12_lays_404 ?_
                  refine zr_loadw dX12_lays_405 rfl ?_
                  refine zr_load ⟨_, dX12_lays_407, rfl⟩ rfl ?_
                  refine zr_iadd dX12_lays_408 ?_
                  refine zr_loadw dX12_lays_409 rfl ?_
                  refine zr_isub dX12_lays_411 ?_
                  refine zr_load ⟨_, dX12_lays_412, rfl⟩ rfl ?_
                  refine zr_iconst dX12_lays_413 (by decide) ?_
                  refine zr_isub dX12_lays_414 ?_
                  obtain ⟨x19, hx19, h⟩ := zbind h
                  refine zt_call0 (t_Rf_lesser hx19) (zrun_S (rest := [.inl (w32 (24 * y15.2.1))]) dX12_lays_415 ml_X12_170 rfl (by decide) (by decide) rfl (Nat.le_of_ble_eq_true rfl)) rfl rfl (Nat.le_refl _) (Nat.le_refl _) ?_
                  refine zr_iadd dX12_lays_418 ?_
                  refine zr_storew dX12_lays_419 (by decide) rfl ?_
                  refine zr_iinc dX12_lays_421 rfl (by decide) rfl ?_
                  refine zr_goto (tgt := 72) dX12_lays_424 (by decide) ?_
                  refine zr_mask [true, true, true, true, true, true, true, true, true, true, true, false, false, false, false, false, false] rfl ?_
                  obtain rfl := Option.some.inj h
                  exact hk hx
                · replace h := zneg h hc18
                  refine zr_loadw dX12_lays_395 rfl ?_
                  refine zr_goto (tgt := 419) dX12_lays_397 (by decide) ?_
                  refine zr_storew dX12_lays_419 (by decide) rfl ?_
                  refine zr_iinc dX12_lays_421 rfl (by decide) rfl ?_
                  refine zr_goto (tgt := 72) dX12_lays_424 (by decide) ?_
                  refine zr_mask [true, true, true, true, true, true, true, true, true, true, true, false, false, false, false, false, false] rfl ?_
                  obtain rfl := Option.some.inj h
                  exact hk hx
          refine zr_if_eq (tgt := 163) dX12_lays_151 (by decide) (fun hc14 => ?_) (fun hc14 => ?_)
          · have hp20 := zif_t hj13 hc14
            refine zr_aload ⟨_, dX12_lays_163, rfl⟩ rfl ?_
            refine zt_get dX12_lays_164 fl_X12_13 rfl rfl ?_
            refine zr_goto (tgt := 176) dX12_lays_167 (by decide) ?_
            exact hp20
          · have hp21 := zif_f hj13 hc14
            refine zr_aload ⟨_, dX12_lays_154, rfl⟩ rfl ?_
            refine zt_get dX12_lays_155 fl_X12_13 rfl rfl ?_
            refine zr_iconst dX12_lays_158 (by decide) ?_
            refine zr_isub dX12_lays_159 ?_
            refine zr_goto (tgt := 176) dX12_lays_160 (by decide) ?_
            exact hp21
      · replace h := zneg h hc5
        refine zr_aload ⟨_, dX12_lays_107, rfl⟩ rfl ?_
        refine zr_loadw dX12_lays_108 rfl ?_
        refine zr_aload ⟨_, dX12_lays_110, rfl⟩ rfl ?_
        refine zt_get dX12_lays_111 fl_X12_13 rfl rfl ?_
        refine zr_iconst dX12_lays_114 (by decide) ?_
        refine zr_isub dX12_lays_115 ?_
        obtain ⟨x22, hx22, h⟩ := zbind h
        refine zt_callisi (t_Rf_old hx22) (zrun_V (rest := []) dX12_lays_116 ml_X12_364 rfl rfl (by decide) (by decide) rfl (Nat.le_of_ble_eq_true rfl)) rfl rfl (Nat.le_refl _) (Nat.le_refl _) ?_
        refine zr_if_ne (tgt := 141) dX12_lays_119 (by decide) (fun hc23 => ?_) (fun hc23 => ?_)
        · replace h := zpos h hc23
          refine zr_iconst dX12_lays_141 (by decide) ?_
          refine zr_storew dX12_lays_142 (by decide) rfl ?_
          refine zr_loadw dX12_lays_144 rfl ?_
          refine zr_if_eq (tgt := 170) dX12_lays_146 (by decide) (fun hc24 => ?_) (fun hc24 => ?_)
          · replace h := zpos h hc24
            refine zr_aload ⟨_, dX12_lays_170, rfl⟩ rfl ?_
            refine zr_loadw dX12_lays_171 rfl ?_
            obtain ⟨x25, hx25, h⟩ := zbind h
            refine zt_callisi (t_Rf_fullOf hx25) (zrun_V (rest := []) dX12_lays_173 ml_X12_367 rfl rfl (by decide) (by decide) rfl (Nat.le_of_ble_eq_true rfl)) rfl rfl (Nat.le_refl _) (Nat.le_refl _) ?_
            refine zr_storew dX12_lays_176 (by decide) rfl ?_
            refine zr_iconst dX12_lays_178 (by decide) ?_
            refine zr_storew dX12_lays_179 (by decide) rfl ?_
            refine zr_mask [true, true, true, true, true, true, true, true, true, true, true, false, true, true, false, false, false] rfl ?_
            obtain ⟨y26, hy26, h⟩ := zbind h
            refine t_Rf_lays_l181 _ _ _ hy26 ?_
            refine zr_loadw dX12_lays_369 rfl ?_
            refine zr_aload ⟨_, dX12_lays_371, rfl⟩ rfl ?_
            refine zt_get dX12_lays_372 fl_X12_98 rfl rfl ?_
            refine zr_load ⟨_, dX12_lays_375, rfl⟩ rfl ?_
            refine zr_iadd dX12_lays_376 ?_
            refine zr_ic_ne (tgt := 421) dX12_lays_377 (by decide) (fun hc27 => ?_) (fun hc27 => ?_)
            · replace h := zpos h hc27
              refine zr_iinc dX12_lays_421 rfl (by decide) rfl ?_
              refine zr_goto (tgt := 72) dX12_lays_424 (by decide) ?_
              refine zr_mask [true, true, true, true, true, true, true, true, true, true, true, false, false, false, false, false, false] rfl ?_
              obtain rfl := Option.some.inj h
              exact hk hx
            · replace h := zneg h hc27
              refine zr_load ⟨_, dX12_lays_380, rfl⟩ rfl ?_
              refine zr_loadw dX12_lays_381 rfl ?_
              refine zr_ic_lt (tgt := 421) dX12_lays_383 (by decide) (fun hc28 => ?_) (fun hc28 => ?_)
              · replace h := zpos h hc28
                refine zr_iinc dX12_lays_421 rfl (by decide) rfl ?_
                refine zr_goto (tgt := 72) dX12_lays_424 (by decide) ?_
                refine zr_mask [true, true, true, true, true, true, true, true, true, true, true, false, false, false, false, false, false] rfl ?_
                obtain rfl := Option.some.inj h
                exact hk hx
              · replace h := zneg h hc28
                refine zr_loadw dX12_lays_386 rfl ?_
                refine zr_storew dX12_lays_388 (by decide) rfl ?_
                refine zr_loadw dX12_lays_390 rfl ?_
                refine zr_if_eq (tgt := 400) dX12_lays_392 (by decide) (fun hc29 => ?_) (fun hc29 => ?_)
                · replace h := zpos h hc29
                  refine zr_bipush dX12_lays_400 (by decide) (by decide) ?_
                  refine zr_loadw dX12_lays_402 rfl ?_
                  refine zr_imul dX12_lays_404 ?_
                  refine zr_loadw dX12_lays_405 rfl ?_
                  refine zr_load ⟨_, dX12_lays_407, rfl⟩ rfl ?_
                  refine zr_iadd dX12_lays_408 ?_
                  refine zr_loadw dX12_lays_409 rfl ?_
                  refine zr_isub dX12_lays_411 ?_
                  refine zr_load ⟨_, dX12_lays_412, rfl⟩ rfl ?_
                  refine zr_iconst dX12_lays_413 (by decide) ?_
                  refine zr_isub dX12_lays_414 ?_
                  obtain ⟨x30, hx30, h⟩ := zbind h
                  refine zt_call0 (t_Rf_lesser hx30) (zrun_S (rest := [.inl (w32 (24 * y26.2.1))]) dX12_lays_415 ml_X12_170 rfl (by decide) (by decide) rfl (Nat.le_of_ble_eq_true rfl)) rfl rfl (Nat.le_refl _) (Nat.le_refl _) ?_
                  refine zr_iadd dX12_lays_418 ?_
                  refine zr_storew dX12_lays_419 (by decide) rfl ?_
                  refine zr_iinc dX12_lays_421 rfl (by decide) rfl ?_
                  refine zr_goto (tgt := 72) dX12_lays_424 (by decide) ?_
                  refine zr_mask [true, true, true, true, true, true, true, true, true, true, true, false, false, false, false, false, false] rfl ?_
                  obtain rfl := Option.some.inj h
                  exact hk hx
                · replace h := zneg h hc29
                  refine zr_loadw dX12_lays_395 rfl ?_
                  refine zr_goto (tgt := 419) dX12_lays_397 (by decide) ?_
                  refine zr_storew dX12_lays_419 (by decide) rfl ?_
                  refine zr_iinc dX12_lays_421 rfl (by decide) rfl ?_
                  refine zr_goto (tgt := 72) dX12_lays_424 (by decide) ?_
                  refine zr_mask [true, true, true, true, true, true, true, true, true, true, true, false, false, false, false, false, false] rfl ?_
                  obtain rfl := Option.some.inj h
                  exact hk hx
          · replace h := zneg h hc24
            refine zr_loadw dX12_lays_149 rfl ?_
            have hj31 : zBT 3 m_X12_lays TRf r s0 176 [some (.inr (.inl (some 0))), some (.inl c1), some (.inl c2), some (.inl c3), some (.inl c4), some (.inl x.1), some (.inl x.2.1), some (.inl x.2.2.1), some (.inl x.2.2.2.1), some (.inl (if x2 = 0 then 0 else (if c4 ≤ (w32 (x.2.2.1 + 1)) then 0 else 1))), some (.inl x.2.2.2.2.2.1), some (.inl 0), none, none, none, none, none] [.inl (if (0 : Int) = 0 then (x.2.2.2.2.2.2.1 0 2) else (w32 ((x.2.2.2.2.2.2.1 0 2) - 1)))] x.2.2.2.2.2.2 := by
              refine zr_storew dX12_lays_176 (by decide) rfl ?_
              refine zr_iconst dX12_lays_178 (by decide) ?_
              refine zr_storew dX12_lays_179 (by decide) rfl ?_
              refine zr_mask [true, true, true, true, true, true, true, true, true, true, true, false, true, true, false, false, false] rfl ?_
              obtain ⟨y33, hy33, h⟩ := zbind h
              refine t_Rf_lays_l181 _ _ _ hy33 ?_
              refine zr_loadw dX12_lays_369 rfl ?_
              refine zr_aload ⟨_, dX12_lays_371, rfl⟩ rfl ?_
              refine zt_get dX12_lays_372 fl_X12_98 rfl rfl ?_
              refine zr_load ⟨_, dX12_lays_375, rfl⟩ rfl ?_
              refine zr_iadd dX12_lays_376 ?_
              refine zr_ic_ne (tgt := 421) dX12_lays_377 (by decide) (fun hc34 => ?_) (fun hc34 => ?_)
              · replace h := zpos h hc34
                refine zr_iinc dX12_lays_421 rfl (by decide) rfl ?_
                refine zr_goto (tgt := 72) dX12_lays_424 (by decide) ?_
                refine zr_mask [true, true, true, true, true, true, true, true, true, true, true, false, false, false, false, false, false] rfl ?_
                obtain rfl := Option.some.inj h
                exact hk hx
              · replace h := zneg h hc34
                refine zr_load ⟨_, dX12_lays_380, rfl⟩ rfl ?_
                refine zr_loadw dX12_lays_381 rfl ?_
                refine zr_ic_lt (tgt := 421) dX12_lays_383 (by decide) (fun hc35 => ?_) (fun hc35 => ?_)
                · replace h := zpos h hc35
                  refine zr_iinc dX12_lays_421 rfl (by decide) rfl ?_
                  refine zr_goto (tgt := 72) dX12_lays_424 (by decide) ?_
                  refine zr_mask [true, true, true, true, true, true, true, true, true, true, true, false, false, false, false, false, false] rfl ?_
                  obtain rfl := Option.some.inj h
                  exact hk hx
                · replace h := zneg h hc35
                  refine zr_loadw dX12_lays_386 rfl ?_
                  refine zr_storew dX12_lays_388 (by decide) rfl ?_
                  refine zr_loadw dX12_lays_390 rfl ?_
                  refine zr_if_eq (tgt := 400) dX12_lays_392 (by decide) (fun hc36 => ?_) (fun hc36 => ?_)
                  · replace h := zpos h hc36
                    refine zr_bipush dX12_lays_400 (by decide) (by decide) ?_
                    refine zr_loadw dX12_lays_402 rfl ?_
                    refine zr_imul dX12_lays_404 ?_
                    refine zr_loadw dX12_lays_405 rfl ?_
                    refine zr_load ⟨_, dX12_lays_407, rfl⟩ rfl ?_
                    refine zr_iadd dX12_lays_408 ?_
                    refine zr_loadw dX12_lays_409 rfl ?_
                    refine zr_isub dX12_lays_411 ?_
                    refine zr_load ⟨_, dX12_lays_412, rfl⟩ rfl ?_
                    refine zr_iconst dX12_lays_413 (by decide) ?_
                    refine zr_isub dX12_lays_414 ?_
                    obtain ⟨x37, hx37, h⟩ := zbind h
                    refine zt_call0 (t_Rf_lesser hx37) (zrun_S (rest := [.inl (w32 (24 * y33.2.1))]) dX12_lays_415 ml_X12_170 rfl (by decide) (by decide) rfl (Nat.le_of_ble_eq_true rfl)) rfl rfl (Nat.le_refl _) (Nat.le_refl _) ?_
                    refine zr_iadd dX12_lays_418 ?_
                    refine zr_storew dX12_lays_419 (by decide) rfl ?_
                    refine zr_iinc dX12_lays_421 rfl (by decide) rfl ?_
                    refine zr_goto (tgt := 72) dX12_lays_424 (by decide) ?_
                    refine zr_mask [true, true, true, true, true, true, true, true, true, true, true, false, false, false, false, false, false] rfl ?_
                    obtain rfl := Option.some.inj h
                    exact hk hx
                  · replace h := zneg h hc36
                    refine zr_loadw dX12_lays_395 rfl ?_
                    refine zr_goto (tgt := 419) dX12_lays_397 (by decide) ?_
                    refine zr_storew dX12_lays_419 (by decide) rfl ?_
                    refine zr_iinc dX12_lays_421 rfl (by decide) rfl ?_
                    refine zr_goto (tgt := 72) dX12_lays_424 (by decide) ?_
                    refine zr_mask [true, true, true, true, true, true, true, true, true, true, true, false, false, false, false, false, false] rfl ?_
                    obtain rfl := Option.some.inj h
                    exact hk hx
            refine zr_if_eq (tgt := 163) dX12_lays_151 (by decide) (fun hc32 => ?_) (fun hc32 => ?_)
            · have hp38 := zif_t hj31 hc32
              refine zr_aload ⟨_, dX12_lays_163, rfl⟩ rfl ?_
              refine zt_get dX12_lays_164 fl_X12_13 rfl rfl ?_
              refine zr_goto (tgt := 176) dX12_lays_167 (by decide) ?_
              exact hp38
            · have hp39 := zif_f hj31 hc32
              refine zr_aload ⟨_, dX12_lays_154, rfl⟩ rfl ?_
              refine zt_get dX12_lays_155 fl_X12_13 rfl rfl ?_
              refine zr_iconst dX12_lays_158 (by decide) ?_
              refine zr_isub dX12_lays_159 ?_
              refine zr_goto (tgt := 176) dX12_lays_160 (by decide) ?_
              exact hp39
        · replace h := zneg h hc23
          refine zr_aload ⟨_, dX12_lays_122, rfl⟩ rfl ?_
          refine zr_loadw dX12_lays_123 rfl ?_
          refine zr_iconst dX12_lays_125 (by decide) ?_
          refine zr_iadd dX12_lays_126 ?_
          refine zr_iconst dX12_lays_127 (by decide) ?_
          obtain ⟨x40, hx40, h⟩ := zbind h
          refine zt_callisi (t_Rf_old hx40) (zrun_V (rest := []) dX12_lays_128 ml_X12_364 rfl rfl (by decide) (by decide) rfl (Nat.le_of_ble_eq_true rfl)) rfl rfl (Nat.le_refl _) (Nat.le_refl _) ?_
          obtain ⟨x41, hx41, h⟩ := zbind h
          refine zt_call0 (t_Rf_isWide hx41) (zrun_S (rest := []) dX12_lays_131 ml_X12_377 rfl (by decide) (by decide) rfl (Nat.le_of_ble_eq_true rfl)) rfl rfl (Nat.le_refl _) (Nat.le_refl _) ?_
          have hj42 : zBT 3 m_X12_lays TRf r s0 142 [some (.inr (.inl (some 0))), some (.inl c1), some (.inl c2), some (.inl c3), some (.inl c4), some (.inl x.1), some (.inl x.2.1), some (.inl x.2.2.1), some (.inl x.2.2.2.1), some (.inl (if x2 = 0 then 0 else (if c4 ≤ (w32 (x.2.2.1 + 1)) then 0 else 1))), some (.inl x.2.2.2.2.2.1), none, none, none, none, none, none] [.inl (if x41 = 0 then 0 else 1)] x.2.2.2.2.2.2 := by
            refine zr_storew dX12_lays_142 (by decide) rfl ?_
            refine zr_loadw dX12_lays_144 rfl ?_
            refine zr_if_eq (tgt := 170) dX12_lays_146 (by decide) (fun hc44 => ?_) (fun hc44 => ?_)
            · replace h := zpos h hc44
              refine zr_aload ⟨_, dX12_lays_170, rfl⟩ rfl ?_
              refine zr_loadw dX12_lays_171 rfl ?_
              obtain ⟨x45, hx45, h⟩ := zbind h
              refine zt_callisi (t_Rf_fullOf hx45) (zrun_V (rest := []) dX12_lays_173 ml_X12_367 rfl rfl (by decide) (by decide) rfl (Nat.le_of_ble_eq_true rfl)) rfl rfl (Nat.le_refl _) (Nat.le_refl _) ?_
              refine zr_storew dX12_lays_176 (by decide) rfl ?_
              refine zr_iconst dX12_lays_178 (by decide) ?_
              refine zr_storew dX12_lays_179 (by decide) rfl ?_
              refine zr_mask [true, true, true, true, true, true, true, true, true, true, true, false, true, true, false, false, false] rfl ?_
              obtain ⟨y46, hy46, h⟩ := zbind h
              refine t_Rf_lays_l181 _ _ _ hy46 ?_
              refine zr_loadw dX12_lays_369 rfl ?_
              refine zr_aload ⟨_, dX12_lays_371, rfl⟩ rfl ?_
              refine zt_get dX12_lays_372 fl_X12_98 rfl rfl ?_
              refine zr_load ⟨_, dX12_lays_375, rfl⟩ rfl ?_
              refine zr_iadd dX12_lays_376 ?_
              refine zr_ic_ne (tgt := 421) dX12_lays_377 (by decide) (fun hc47 => ?_) (fun hc47 => ?_)
              · replace h := zpos h hc47
                refine zr_iinc dX12_lays_421 rfl (by decide) rfl ?_
                refine zr_goto (tgt := 72) dX12_lays_424 (by decide) ?_
                refine zr_mask [true, true, true, true, true, true, true, true, true, true, true, false, false, false, false, false, false] rfl ?_
                obtain rfl := Option.some.inj h
                exact hk hx
              · replace h := zneg h hc47
                refine zr_load ⟨_, dX12_lays_380, rfl⟩ rfl ?_
                refine zr_loadw dX12_lays_381 rfl ?_
                refine zr_ic_lt (tgt := 421) dX12_lays_383 (by decide) (fun hc48 => ?_) (fun hc48 => ?_)
                · replace h := zpos h hc48
                  refine zr_iinc dX12_lays_421 rfl (by decide) rfl ?_
                  refine zr_goto (tgt := 72) dX12_lays_424 (by decide) ?_
                  refine zr_mask [true, true, true, true, true, true, true, true, true, true, true, false, false, false, false, false, false] rfl ?_
                  obtain rfl := Option.some.inj h
                  exact hk hx
                · replace h := zneg h hc48
                  refine zr_loadw dX12_lays_386 rfl ?_
                  refine zr_storew dX12_lays_388 (by decide) rfl ?_
                  refine zr_loadw dX12_lays_390 rfl ?_
                  refine zr_if_eq (tgt := 400) dX12_lays_392 (by decide) (fun hc49 => ?_) (fun hc49 => ?_)
                  · replace h := zpos h hc49
                    refine zr_bipush dX12_lays_400 (by decide) (by decide) ?_
                    refine zr_loadw dX12_lays_402 rfl ?_
                    refine zr_imul dX12_lays_404 ?_
                    refine zr_loadw dX12_lays_405 rfl ?_
                    refine zr_load ⟨_, dX12_lays_407, rfl⟩ rfl ?_
                    refine zr_iadd dX12_lays_408 ?_
                    refine zr_loadw dX12_lays_409 rfl ?_
                    refine zr_isub dX12_lays_411 ?_
                    refine zr_load ⟨_, dX12_lays_412, rfl⟩ rfl ?_
                    refine zr_iconst dX12_lays_413 (by decide) ?_
                    refine zr_isub dX12_lays_414 ?_
                    obtain ⟨x50, hx50, h⟩ := zbind h
                    refine zt_call0 (t_Rf_lesser hx50) (zrun_S (rest := [.inl (w32 (24 * y46.2.1))]) dX12_lays_415 ml_X12_170 rfl (by decide) (by decide) rfl (Nat.le_of_ble_eq_true rfl)) rfl rfl (Nat.le_refl _) (Nat.le_refl _) ?_
                    refine zr_iadd dX12_lays_418 ?_
                    refine zr_storew dX12_lays_419 (by decide) rfl ?_
                    refine zr_iinc dX12_lays_421 rfl (by decide) rfl ?_
                    refine zr_goto (tgt := 72) dX12_lays_424 (by decide) ?_
                    refine zr_mask [true, true, true, true, true, true, true, true, true, true, true, false, false, false, false, false, false] rfl ?_
                    obtain rfl := Option.some.inj h
                    exact hk hx
                  · replace h := zneg h hc49
                    refine zr_loadw dX12_lays_395 rfl ?_
                    refine zr_goto (tgt := 419) dX12_lays_397 (by decide) ?_
                    refine zr_storew dX12_lays_419 (by decide) rfl ?_
                    refine zr_iinc dX12_lays_421 rfl (by decide) rfl ?_
                    refine zr_goto (tgt := 72) dX12_lays_424 (by decide) ?_
                    refine zr_mask [true, true, true, true, true, true, true, true, true, true, true, false, false, false, false, false, false] rfl ?_
                    obtain rfl := Option.some.inj h
                    exact hk hx
            · replace h := zneg h hc44
              refine zr_loadw dX12_lays_149 rfl ?_
              have hj51 : zBT 3 m_X12_lays TRf r s0 176 [some (.inr (.inl (some 0))), some (.inl c1), some (.inl c2), some (.inl c3), some (.inl c4), some (.inl x.1), some (.inl x.2.1), some (.inl x.2.2.1), some (.inl x.2.2.2.1), some (.inl (if x2 = 0 then 0 else (if c4 ≤ (w32 (x.2.2.1 + 1)) then 0 else 1))), some (.inl x.2.2.2.2.2.1), some (.inl (if x41 = 0 then 0 else 1)), none, none, none, none, none] [.inl (if ((if x41 = 0 then 0 else 1) : Int) = 0 then (x.2.2.2.2.2.2.1 0 2) else (w32 ((x.2.2.2.2.2.2.1 0 2) - 1)))] x.2.2.2.2.2.2 := by
                refine zr_storew dX12_lays_176 (by decide) rfl ?_
                refine zr_iconst dX12_lays_178 (by decide) ?_
                refine zr_storew dX12_lays_179 (by decide) rfl ?_
                refine zr_mask [true, true, true, true, true, true, true, true, true, true, true, false, true, true, false, false, false] rfl ?_
                obtain ⟨y53, hy53, h⟩ := zbind h
                refine t_Rf_lays_l181 _ _ _ hy53 ?_
                refine zr_loadw dX12_lays_369 rfl ?_
                refine zr_aload ⟨_, dX12_lays_371, rfl⟩ rfl ?_
                refine zt_get dX12_lays_372 fl_X12_98 rfl rfl ?_
                refine zr_load ⟨_, dX12_lays_375, rfl⟩ rfl ?_
                refine zr_iadd dX12_lays_376 ?_
                refine zr_ic_ne (tgt := 421) dX12_lays_377 (by decide) (fun hc54 => ?_) (fun hc54 => ?_)
                · replace h := zpos h hc54
                  refine zr_iinc dX12_lays_421 rfl (by decide) rfl ?_
                  refine zr_goto (tgt := 72) dX12_lays_424 (by decide) ?_
                  refine zr_mask [true, true, true, true, true, true, true, true, true, true, true, false, false, false, false, false, false] rfl ?_
                  obtain rfl := Option.some.inj h
                  exact hk hx
                · replace h := zneg h hc54
                  refine zr_load ⟨_, dX12_lays_380, rfl⟩ rfl ?_
                  refine zr_loadw dX12_lays_381 rfl ?_
                  refine zr_ic_lt (tgt := 421) dX12_lays_383 (by decide) (fun hc55 => ?_) (fun hc55 => ?_)
                  · replace h := zpos h hc55
                    refine zr_iinc dX12_lays_421 rfl (by decide) rfl ?_
                    refine zr_goto (tgt := 72) dX12_lays_424 (by decide) ?_
                    refine zr_mask [true, true, true, true, true, true, true, true, true, true, true, false, false, false, false, false, false] rfl ?_
                    obtain rfl := Option.some.inj h
                    exact hk hx
                  · replace h := zneg h hc55
                    refine zr_loadw dX12_lays_386 rfl ?_
                    refine zr_storew dX12_lays_388 (by decide) rfl ?_
                    refine zr_loadw dX12_lays_390 rfl ?_
                    refine zr_if_eq (tgt := 400) dX12_lays_392 (by decide) (fun hc56 => ?_) (fun hc56 => ?_)
                    · replace h := zpos h hc56
                      refine zr_bipush dX12_lays_400 (by decide) (by decide) ?_
                      refine zr_loadw dX12_lays_402 rfl ?_
                      refine zr_imul dX12_lays_404 ?_
                      refine zr_loadw dX12_lays_405 rfl ?_
                      refine zr_load ⟨_, dX12_lays_407, rfl⟩ rfl ?_
                      refine zr_iadd dX12_lays_408 ?_
                      refine zr_loadw dX12_lays_409 rfl ?_
                      refine zr_isub dX12_lays_411 ?_
                      refine zr_load ⟨_, dX12_lays_412, rfl⟩ rfl ?_
                      refine zr_iconst dX12_lays_413 (by decide) ?_
                      refine zr_isub dX12_lays_414 ?_
                      obtain ⟨x57, hx57, h⟩ := zbind h
                      refine zt_call0 (t_Rf_lesser hx57) (zrun_S (rest := [.inl (w32 (24 * y53.2.1))]) dX12_lays_415 ml_X12_170 rfl (by decide) (by decide) rfl (Nat.le_of_ble_eq_true rfl)) rfl rfl (Nat.le_refl _) (Nat.le_refl _) ?_
                      refine zr_iadd dX12_lays_418 ?_
                      refine zr_storew dX12_lays_419 (by decide) rfl ?_
                      refine zr_iinc dX12_lays_421 rfl (by decide) rfl ?_
                      refine zr_goto (tgt := 72) dX12_lays_424 (by decide) ?_
                      refine zr_mask [true, true, true, true, true, true, true, true, true, true, true, false, false, false, false, false, false] rfl ?_
                      obtain rfl := Option.some.inj h
                      exact hk hx
                    · replace h := zneg h hc56
                      refine zr_loadw dX12_lays_395 rfl ?_
                      refine zr_goto (tgt := 419) dX12_lays_397 (by decide) ?_
                      refine zr_storew dX12_lays_419 (by decide) rfl ?_
                      refine zr_iinc dX12_lays_421 rfl (by decide) rfl ?_
                      refine zr_goto (tgt := 72) dX12_lays_424 (by decide) ?_
                      refine zr_mask [true, true, true, true, true, true, true, true, true, true, true, false, false, false, false, false, false] rfl ?_
                      obtain rfl := Option.some.inj h
                      exact hk hx
              refine zr_if_eq (tgt := 163) dX12_lays_151 (by decide) (fun hc52 => ?_) (fun hc52 => ?_)
              · have hp58 := zif_t hj51 hc52
                refine zr_aload ⟨_, dX12_lays_163, rfl⟩ rfl ?_
                refine zt_get dX12_lays_164 fl_X12_13 rfl rfl ?_
                refine zr_goto (tgt := 176) dX12_lays_167 (by decide) ?_
                exact hp58
              · have hp59 := zif_f hj51 hc52
                refine zr_aload ⟨_, dX12_lays_154, rfl⟩ rfl ?_
                refine zt_get dX12_lays_155 fl_X12_13 rfl rfl ?_
                refine zr_iconst dX12_lays_158 (by decide) ?_
                refine zr_isub dX12_lays_159 ?_
                refine zr_goto (tgt := 176) dX12_lays_160 (by decide) ?_
                exact hp59
          refine zr_if_eq (tgt := 141) dX12_lays_134 (by decide) (fun hc43 => ?_) (fun hc43 => ?_)
          · have hp60 := zif_t hj42 hc43
            refine zr_iconst dX12_lays_141 (by decide) ?_
            exact hp60
          · have hp61 := zif_f hj42 hc43
            refine zr_iconst dX12_lays_137 (by decide) ?_
            refine zr_goto (tgt := 142) dX12_lays_138 (by decide) ?_
            exact hp61
    refine zr_if_eq (tgt := 99) dX12_lays_83 (by decide) (fun hc4 => ?_) (fun hc4 => ?_)
    · have hp62 := zif_t hj3 hc4
      refine zr_iconst dX12_lays_99 (by decide) ?_
      exact hp62
    · have hp63 := zif_f hj3 hc4
      refine zr_loadw dX12_lays_86 rfl ?_
      refine zr_iconst dX12_lays_88 (by decide) ?_
      refine zr_iadd dX12_lays_89 ?_
      refine zr_loadw dX12_lays_90 rfl ?_
      refine zr_ic_ge (tgt := 99) dX12_lays_92 (by decide) (fun hc64 => ?_) (fun hc64 => ?_)
      · have hp65 := zif_t hp63 hc64
        refine zr_iconst dX12_lays_99 (by decide) ?_
        exact hp65
      · have hp66 := zif_f hp63 hc64
        refine zr_iconst dX12_lays_95 (by decide) ?_
        refine zr_goto (tgt := 100) dX12_lays_96 (by decide) ?_
        exact hp66
set_option maxRecDepth 100000 in
set_option maxHeartbeats 4000000 in
theorem t_Rf_lays_l50 {c1 c2 c3 c4 : Int} {r : Option zAV} {s0 : zSt}  : ∀ (n : Nat) (x : Int × Int × Int × zSt) (out : Int × Int × zSt), zloop (f_Rf_lays_l50 c1 c2 c3 c4) n x = some out → (zBT 3 m_X12_lays TRf r s0 433 [some (.inr (.inl (some 0))), none, none, none, none, some (.inl out.1), some (.inl out.2.1), none, none, none, none, none, none, none, none, none, none] [] out.2.2) → zBT 3 m_X12_lays TRf r s0 50 [some (.inr (.inl (some 0))), some (.inl c1), some (.inl c2), some (.inl c3), some (.inl c4), some (.inl x.1), some (.inl x.2.1), some (.inl x.2.2.1), none, none, none, none, none, none, none, none, none] [] x.2.2.2 := by
  refine zloop_B (B := fun (x : Int × Int × Int × zSt) (out : Int × Int × zSt) => zBT 3 m_X12_lays TRf r s0 433 [some (.inr (.inl (some 0))), none, none, none, none, some (.inl out.1), some (.inl out.2.1), none, none, none, none, none, none, none, none, none, none] [] out.2.2 → zBT 3 m_X12_lays TRf r s0 50 [some (.inr (.inl (some 0))), some (.inl c1), some (.inl c2), some (.inl c3), some (.inl c4), some (.inl x.1), some (.inl x.2.1), some (.inl x.2.2.1), none, none, none, none, none, none, none, none, none] [] x.2.2.2) ?_
  intro x o out h hk hx
  unfold f_Rf_lays_l50 at h
  refine zr_loadw dX12_lays_50 rfl ?_
  refine zr_loadw dX12_lays_52 rfl ?_
  refine zr_ic_ge (tgt := 433) dX12_lays_54 (by decide) (fun hc1 => ?_) (fun hc1 => ?_)
  · replace h := zpos h hc1
    refine zr_mask [true, false, false, false, false, true, true, false, false, false, false, false, false, false, false, false, false] rfl ?_
    obtain rfl := Option.some.inj h
    obtain rfl := hk
    exact hx
  · replace h := zneg h hc1
    refine zr_iconst dX12_lays_57 (by decide) ?_
    refine zr_storew dX12_lays_58 (by decide) rfl ?_
    refine zr_iconst dX12_lays_60 (by decide) ?_
    refine zr_storew dX12_lays_61 (by decide) rfl ?_
    refine zr_iconst dX12_lays_63 (by decide) ?_
    refine zr_storew dX12_lays_64 (by decide) rfl ?_
    refine zr_aload ⟨_, dX12_lays_66, rfl⟩ rfl ?_
    refine zr_loadw dX12_lays_67 rfl ?_
    obtain ⟨x2, hx2, h⟩ := zbind h
    refine zt_calliv (t_Rf_emptiesLaid hx2) (zrun_V (rest := []) dX12_lays_69 ml_X12_370 rfl rfl (by decide) (by decide) rfl (Nat.le_of_ble_eq_true rfl)) rfl rfl (Nat.le_refl _) (Nat.le_refl _) ?_
    obtain ⟨y3, hy3, h⟩ := zbind h
    refine t_Rf_lays_l72 _ _ _ hy3 ?_
    refine zr_iinc dX12_lays_427 rfl (by decide) rfl ?_
    refine zr_goto (tgt := 50) dX12_lays_430 (by decide) ?_
    obtain rfl := Option.some.inj h
    exact hk hx
set_option maxRecDepth 100000 in
set_option maxHeartbeats 4000000 in
theorem t_Rf_lays_j41 {v1 v2 v3 v4 : Int} {s : zSt} {res : Int × zSt} (h : f_Rf_lays_j41 v1 v2 v3 v4 s = some res) : zBT 3 m_X12_lays TRf (some (.inl res.1)) res.2 41 [some (.inr (.inl (some 0))), some (.inl v1), some (.inl v2), some (.inl v3), some (.inl v4), none, none, none, none, none, none, none, none, none, none, none, none] [] s := by
  unfold f_Rf_lays_j41 at h
  refine zr_iconst dX12_lays_41 (by decide) ?_
  refine zr_storew dX12_lays_42 (by decide) rfl ?_
  refine zr_iconst dX12_lays_44 (by decide) ?_
  refine zr_storew dX12_lays_45 (by decide) rfl ?_
  refine zr_iconst dX12_lays_47 (by decide) ?_
  refine zr_storew dX12_lays_48 (by decide) rfl ?_
  obtain ⟨y1, hy1, h⟩ := zbind h
  refine t_Rf_lays_l50 _ _ _ hy1 ?_
  refine zr_aload ⟨_, dX12_lays_433, rfl⟩ rfl ?_
  refine zr_loadw dX12_lays_434 rfl ?_
  refine zt_put dX12_lays_436 fl_X12_380 rfl rfl ?_
  refine zr_loadw dX12_lays_439 rfl ?_
  obtain rfl := Option.some.inj h
  exact zt_iret dX12_lays_441 rfl
set_option maxRecDepth 100000 in
set_option maxHeartbeats 4000000 in
theorem t_Rf_lays {a1 a2 a3 : Int} {s : zSt} {res : Int × zSt} (h : f_Rf_lays a1 a2 a3 s = some res) : zSpecT 3 m_X12_lays [.inr (.inl (some 0)), .inl a1, .inl a2, .inl a3] TRf s (some (.inl res.1)) res.2 := by
  refine zSpec_of (by decide +kernel) (Nat.le_of_ble_eq_true rfl) ?_
  show zBT 3 m_X12_lays TRf (some (.inl res.1)) res.2 0 [some (.inr (.inl (some 0))), some (.inl a1), some (.inl a2), some (.inl a3), none, none, none, none, none, none, none, none, none, none, none, none, none] [] s
  unfold f_Rf_lays at h
  refine zr_aload ⟨_, dX12_lays_0, rfl⟩ rfl ?_
  refine zt_get dX12_lays_1 fl_X12_98 rfl rfl ?_
  refine zr_aload ⟨_, dX12_lays_4, rfl⟩ rfl ?_
  refine zt_get dX12_lays_5 fl_X12_7 rfl rfl ?_
  refine zr_iadd dX12_lays_8 ?_
  refine zr_storew dX12_lays_9 (by decide) rfl ?_
  obtain ⟨y1, hy1, h⟩ := zbind h
  refine t_Rf_lays_l11 _ _ _ hy1 ?_
  exact t_Rf_lays_j41 h
set_option maxRecDepth 100000 in
set_option maxHeartbeats 4000000 in
theorem t_Rf_cutsOther_l47 {c1 c2 c3 c4 : Int} {r : Option zAV} {s0 : zSt}  : ∀ (n : Nat) (x : Int × zSt) (out : zSt), zloop (f_Rf_cutsOther_l47 c1 c2 c3 c4) n x = some out → (zBT 3 m_X12_cutsOther TRf r s0 102 [some (.inr (.inl (some 0))), some (.inl c1), some (.inl c2), some (.inl c3), some (.inl c4), none] [] out) → zBT 3 m_X12_cutsOther TRf r s0 47 [some (.inr (.inl (some 0))), some (.inl c1), some (.inl c2), some (.inl c3), some (.inl c4), some (.inl x.1)] [] x.2 := by
  refine zloop_B (B := fun (x : Int × zSt) (out : zSt) => zBT 3 m_X12_cutsOther TRf r s0 102 [some (.inr (.inl (some 0))), some (.inl c1), some (.inl c2), some (.inl c3), some (.inl c4), none] [] out → zBT 3 m_X12_cutsOther TRf r s0 47 [some (.inr (.inl (some 0))), some (.inl c1), some (.inl c2), some (.inl c3), some (.inl c4), some (.inl x.1)] [] x.2) ?_
  intro x o out h hk hx
  unfold f_Rf_cutsOther_l47 at h
  refine zr_loadw dX12_cutsOther_47 rfl ?_
  refine zr_bipush dX12_cutsOther_49 (by decide) (by decide) ?_
  refine zr_ic_ge (tgt := 102) dX12_cutsOther_51 (by decide) (fun hc1 => ?_) (fun hc1 => ?_)
  · replace h := zpos h hc1
    refine zr_mask [true, true, true, true, true, false] rfl ?_
    obtain rfl := Option.some.inj h
    obtain rfl := hk
    exact hx
  · replace h := zneg h hc1
    refine zr_aload ⟨_, dX12_cutsOther_54, rfl⟩ rfl ?_
    refine zt_getr dX12_cutsOther_55 fl_X12_16 rfl rfl ?_
    refine zr_aload ⟨_, dX12_cutsOther_58, rfl⟩ rfl ?_
    refine zr_loadw dX12_cutsOther_59 rfl ?_
    refine zr_loadw dX12_cutsOther_61 rfl ?_
    obtain ⟨x2, hx2, h⟩ := zbind h
    refine zt_callisi (t_Rf_at hx2) (zrun_V (rest := [.inr (.inl (some 1))]) dX12_cutsOther_63 ml_X12_90 rfl rfl (by decide) (by decide) rfl (Nat.le_of_ble_eq_true rfl)) rfl rfl (Nat.le_refl _) (Nat.le_refl _) ?_
    refine zr_loadw dX12_cutsOther_66 rfl ?_
    refine zr_load ⟨_, dX12_cutsOther_68, rfl⟩ rfl ?_
    refine zr_ic_ge (tgt := 94) dX12_cutsOther_69 (by decide) (fun hc3 => ?_) (fun hc3 => ?_)
    · replace h := zpos h hc3
      refine zr_iconst dX12_cutsOther_94 (by decide) ?_
      obtain ⟨hb4, h⟩ := zchk h
      refine zt_iastore dX12_cutsOther_95 rfl hb4 ?_
      refine zr_iinc dX12_cutsOther_96 rfl (by decide) rfl ?_
      refine zr_goto (tgt := 47) dX12_cutsOther_99 (by decide) ?_
      obtain rfl := Option.some.inj h
      exact hk hx
    · replace h := zneg h hc3
      refine zr_loadw dX12_cutsOther_72 rfl ?_
      refine zr_load ⟨_, dX12_cutsOther_74, rfl⟩ rfl ?_
      refine zr_ic_ge (tgt := 94) dX12_cutsOther_75 (by decide) (fun hc5 => ?_) (fun hc5 => ?_)
      · replace h := zpos h hc5
        refine zr_iconst dX12_cutsOther_94 (by decide) ?_
        obtain ⟨hb6, h⟩ := zchk h
        refine zt_iastore dX12_cutsOther_95 rfl hb6 ?_
        refine zr_iinc dX12_cutsOther_96 rfl (by decide) rfl ?_
        refine zr_goto (tgt := 47) dX12_cutsOther_99 (by decide) ?_
        obtain rfl := Option.some.inj h
        exact hk hx
      · replace h := zneg h hc5
        refine zr_aload ⟨_, dX12_cutsOther_78, rfl⟩ rfl ?_
        refine zt_getr dX12_cutsOther_79 fl_X12_16 rfl rfl ?_
        refine zr_aload ⟨_, dX12_cutsOther_82, rfl⟩ rfl ?_
        refine zr_loadw dX12_cutsOther_83 rfl ?_
        refine zr_loadw dX12_cutsOther_85 rfl ?_
        obtain ⟨x7, hx7, h⟩ := zbind h
        refine zt_callisi (t_Rf_at hx7) (zrun_V (rest := [.inr (.inl (some 1)), .inl x2, .inr (.inl (some 1))]) dX12_cutsOther_87 ml_X12_90 rfl rfl (by decide) (by decide) rfl (Nat.le_of_ble_eq_true rfl)) rfl rfl (Nat.le_refl _) (Nat.le_refl _) ?_
        obtain ⟨hb8, h⟩ := zchk h
        refine zt_iaload dX12_cutsOther_90 rfl hb8 ?_
        refine zr_goto (tgt := 95) dX12_cutsOther_91 (by decide) ?_
        obtain ⟨hb9, h⟩ := zchk h
        refine zt_iastore dX12_cutsOther_95 rfl hb9 ?_
        refine zr_iinc dX12_cutsOther_96 rfl (by decide) rfl ?_
        refine zr_goto (tgt := 47) dX12_cutsOther_99 (by decide) ?_
        obtain rfl := Option.some.inj h
        exact hk hx
set_option maxRecDepth 100000 in
set_option maxHeartbeats 4000000 in
theorem t_Rf_cutsOther_l13 {c1 c2 c3 : Int} {r : Option zAV} {s0 : zSt}  : ∀ (n : Nat) (x : Int × zSt) (out : zSt), zloop (f_Rf_cutsOther_l13 c1 c2 c3) n x = some out → (zBT 3 m_X12_cutsOther TRf r s0 144 [some (.inr (.inl (some 0))), none, none, some (.inl c3), none, none] [] out) → zBT 3 m_X12_cutsOther TRf r s0 13 [some (.inr (.inl (some 0))), some (.inl c1), some (.inl c2), some (.inl c3), some (.inl x.1), none] [] x.2 := by
  refine zloop_B (B := fun (x : Int × zSt) (out : zSt) => zBT 3 m_X12_cutsOther TRf r s0 144 [some (.inr (.inl (some 0))), none, none, some (.inl c3), none, none] [] out → zBT 3 m_X12_cutsOther TRf r s0 13 [some (.inr (.inl (some 0))), some (.inl c1), some (.inl c2), some (.inl c3), some (.inl x.1), none] [] x.2) ?_
  intro x o out h hk hx
  unfold f_Rf_cutsOther_l13 at h
  refine zr_loadw dX12_cutsOther_13 rfl ?_
  refine zr_bipush dX12_cutsOther_15 (by decide) (by decide) ?_
  refine zr_ic_ge (tgt := 144) dX12_cutsOther_17 (by decide) (fun hc1 => ?_) (fun hc1 => ?_)
  · replace h := zpos h hc1
    refine zr_mask [true, false, false, true, false, false] rfl ?_
    obtain rfl := Option.some.inj h
    obtain rfl := hk
    exact hx
  · replace h := zneg h hc1
    refine zr_loadw dX12_cutsOther_20 rfl ?_
    refine zr_aload ⟨_, dX12_cutsOther_22, rfl⟩ rfl ?_
    refine zt_get dX12_cutsOther_23 fl_X12_7 rfl rfl ?_
    refine zr_ic_ge (tgt := 44) dX12_cutsOther_26 (by decide) (fun hc2 => ?_) (fun hc2 => ?_)
    · replace h := zpos h hc2
      refine zr_iconst dX12_cutsOther_44 (by decide) ?_
      refine zr_storew dX12_cutsOther_45 (by decide) rfl ?_
      obtain ⟨y3, hy3, h⟩ := zbind h
      refine t_Rf_cutsOther_l47 _ _ _ hy3 ?_
      refine zr_aload ⟨_, dX12_cutsOther_102, rfl⟩ rfl ?_
      refine zt_getr dX12_cutsOther_103 fl_X12_20 rfl rfl ?_
      refine zr_bipush dX12_cutsOther_106 (by decide) (by decide) ?_
      refine zr_loadw dX12_cutsOther_108 rfl ?_
      refine zr_iadd dX12_cutsOther_110 ?_
      refine zr_aload ⟨_, dX12_cutsOther_111, rfl⟩ rfl ?_
      refine zt_getr dX12_cutsOther_112 fl_X12_20 rfl rfl ?_
      refine zr_bipush dX12_cutsOther_115 (by decide) (by decide) ?_
      refine zr_loadw dX12_cutsOther_117 rfl ?_
      refine zr_iadd dX12_cutsOther_119 ?_
      obtain ⟨hb4, h⟩ := zchk h
      refine zt_baload dX12_cutsOther_120 rfl hb4 ?_
      have hj5 : zBT 3 m_X12_cutsOther TRf r s0 137 [some (.inr (.inl (some 0))), some (.inl c1), some (.inl c2), some (.inl c3), some (.inl x.1), none] [.inl (if ((y3.2 2) (w32 (12 + x.1))) = 0 then 0 else (if (w32 (c1 - 1)) ≤ x.1 then 0 else 1)), .inl (w32 (12 + x.1)), .inr (.inl (some 2))] y3 := by
        obtain ⟨hb7, h⟩ := zchk h
        refine zt_bastore dX12_cutsOther_137 rfl hb7 (z01i (Or.inl rfl) (z01i (Or.inl rfl) (Or.inr rfl))) ?_
        refine zr_iinc dX12_cutsOther_138 rfl (by decide) rfl ?_
        refine zr_goto (tgt := 13) dX12_cutsOther_141 (by decide) ?_
        obtain rfl := Option.some.inj h
        exact hk hx
      refine zr_if_eq (tgt := 136) dX12_cutsOther_121 (by decide) (fun hc6 => ?_) (fun hc6 => ?_)
      · have hp8 := zif_t hj5 hc6
        refine zr_iconst dX12_cutsOther_136 (by decide) ?_
        exact hp8
      · have hp9 := zif_f hj5 hc6
        refine zr_loadw dX12_cutsOther_124 rfl ?_
        refine zr_load ⟨_, dX12_cutsOther_126, rfl⟩ rfl ?_
        refine zr_iconst dX12_cutsOther_127 (by decide) ?_
        refine zr_isub dX12_cutsOther_128 ?_
        refine zr_ic_ge (tgt := 136) dX12_cutsOther_129 (by decide) (fun hc10 => ?_) (fun hc10 => ?_)
        · have hp11 := zif_t hp9 hc10
          refine zr_iconst dX12_cutsOther_136 (by decide) ?_
          exact hp11
        · have hp12 := zif_f hp9 hc10
          refine zr_iconst dX12_cutsOther_132 (by decide) ?_
          refine zr_goto (tgt := 137) dX12_cutsOther_133 (by decide) ?_
          exact hp12
    · replace h := zneg h hc2
      refine zr_load ⟨_, dX12_cutsOther_29, rfl⟩ rfl ?_
      refine zr_aload ⟨_, dX12_cutsOther_30, rfl⟩ rfl ?_
      refine zt_get dX12_cutsOther_31 fl_X12_13 rfl rfl ?_
      refine zr_ic_ge (tgt := 44) dX12_cutsOther_34 (by decide) (fun hc13 => ?_) (fun hc13 => ?_)
      · replace h := zpos h hc13
        refine zr_iconst dX12_cutsOther_44 (by decide) ?_
        refine zr_storew dX12_cutsOther_45 (by decide) rfl ?_
        obtain ⟨y14, hy14, h⟩ := zbind h
        refine t_Rf_cutsOther_l47 _ _ _ hy14 ?_
        refine zr_aload ⟨_, dX12_cutsOther_102, rfl⟩ rfl ?_
        refine zt_getr dX12_cutsOther_103 fl_X12_20 rfl rfl ?_
        refine zr_bipush dX12_cutsOther_106 (by decide) (by decide) ?_
        refine zr_loadw dX12_cutsOther_108 rfl ?_
        refine zr_iadd dX12_cutsOther_110 ?_
        refine zr_aload ⟨_, dX12_cutsOther_111, rfl⟩ rfl ?_
        refine zt_getr dX12_cutsOther_112 fl_X12_20 rfl rfl ?_
        refine zr_bipush dX12_cutsOther_115 (by decide) (by decide) ?_
        refine zr_loadw dX12_cutsOther_117 rfl ?_
        refine zr_iadd dX12_cutsOther_119 ?_
        obtain ⟨hb15, h⟩ := zchk h
        refine zt_baload dX12_cutsOther_120 rfl hb15 ?_
        have hj16 : zBT 3 m_X12_cutsOther TRf r s0 137 [some (.inr (.inl (some 0))), some (.inl c1), some (.inl c2), some (.inl c3), some (.inl x.1), none] [.inl (if ((y14.2 2) (w32 (12 + x.1))) = 0 then 0 else (if (w32 (c1 - 1)) ≤ x.1 then 0 else 1)), .inl (w32 (12 + x.1)), .inr (.inl (some 2))] y14 := by
          obtain ⟨hb18, h⟩ := zchk h
          refine zt_bastore dX12_cutsOther_137 rfl hb18 (z01i (Or.inl rfl) (z01i (Or.inl rfl) (Or.inr rfl))) ?_
          refine zr_iinc dX12_cutsOther_138 rfl (by decide) rfl ?_
          refine zr_goto (tgt := 13) dX12_cutsOther_141 (by decide) ?_
          obtain rfl := Option.some.inj h
          exact hk hx
        refine zr_if_eq (tgt := 136) dX12_cutsOther_121 (by decide) (fun hc17 => ?_) (fun hc17 => ?_)
        · have hp19 := zif_t hj16 hc17
          refine zr_iconst dX12_cutsOther_136 (by decide) ?_
          exact hp19
        · have hp20 := zif_f hj16 hc17
          refine zr_loadw dX12_cutsOther_124 rfl ?_
          refine zr_load ⟨_, dX12_cutsOther_126, rfl⟩ rfl ?_
          refine zr_iconst dX12_cutsOther_127 (by decide) ?_
          refine zr_isub dX12_cutsOther_128 ?_
          refine zr_ic_ge (tgt := 136) dX12_cutsOther_129 (by decide) (fun hc21 => ?_) (fun hc21 => ?_)
          · have hp22 := zif_t hp20 hc21
            refine zr_iconst dX12_cutsOther_136 (by decide) ?_
            exact hp22
          · have hp23 := zif_f hp20 hc21
            refine zr_iconst dX12_cutsOther_132 (by decide) ?_
            refine zr_goto (tgt := 137) dX12_cutsOther_133 (by decide) ?_
            exact hp23
      · replace h := zneg h hc13
        refine zr_aload ⟨_, dX12_cutsOther_37, rfl⟩ rfl ?_
        refine zr_loadw dX12_cutsOther_38 rfl ?_
        refine zr_load ⟨_, dX12_cutsOther_40, rfl⟩ rfl ?_
        obtain ⟨x24, hx24, h⟩ := zbind h
        refine zt_calliv (t_Rf_parts hx24) (zrun_V (rest := []) dX12_cutsOther_41 ml_X12_94 rfl rfl (by decide) (by decide) rfl (Nat.le_of_ble_eq_true rfl)) rfl rfl (Nat.le_refl _) (Nat.le_refl _) ?_
        refine zr_iconst dX12_cutsOther_44 (by decide) ?_
        refine zr_storew dX12_cutsOther_45 (by decide) rfl ?_
        obtain ⟨y25, hy25, h⟩ := zbind h
        refine t_Rf_cutsOther_l47 _ _ _ hy25 ?_
        refine zr_aload ⟨_, dX12_cutsOther_102, rfl⟩ rfl ?_
        refine zt_getr dX12_cutsOther_103 fl_X12_20 rfl rfl ?_
        refine zr_bipush dX12_cutsOther_106 (by decide) (by decide) ?_
        refine zr_loadw dX12_cutsOther_108 rfl ?_
        refine zr_iadd dX12_cutsOther_110 ?_
        refine zr_aload ⟨_, dX12_cutsOther_111, rfl⟩ rfl ?_
        refine zt_getr dX12_cutsOther_112 fl_X12_20 rfl rfl ?_
        refine zr_bipush dX12_cutsOther_115 (by decide) (by decide) ?_
        refine zr_loadw dX12_cutsOther_117 rfl ?_
        refine zr_iadd dX12_cutsOther_119 ?_
        obtain ⟨hb26, h⟩ := zchk h
        refine zt_baload dX12_cutsOther_120 rfl hb26 ?_
        have hj27 : zBT 3 m_X12_cutsOther TRf r s0 137 [some (.inr (.inl (some 0))), some (.inl c1), some (.inl c2), some (.inl c3), some (.inl x.1), none] [.inl (if ((y25.2 2) (w32 (12 + x.1))) = 0 then 0 else (if (w32 (c1 - 1)) ≤ x.1 then 0 else 1)), .inl (w32 (12 + x.1)), .inr (.inl (some 2))] y25 := by
          obtain ⟨hb29, h⟩ := zchk h
          refine zt_bastore dX12_cutsOther_137 rfl hb29 (z01i (Or.inl rfl) (z01i (Or.inl rfl) (Or.inr rfl))) ?_
          refine zr_iinc dX12_cutsOther_138 rfl (by decide) rfl ?_
          refine zr_goto (tgt := 13) dX12_cutsOther_141 (by decide) ?_
          obtain rfl := Option.some.inj h
          exact hk hx
        refine zr_if_eq (tgt := 136) dX12_cutsOther_121 (by decide) (fun hc28 => ?_) (fun hc28 => ?_)
        · have hp30 := zif_t hj27 hc28
          refine zr_iconst dX12_cutsOther_136 (by decide) ?_
          exact hp30
        · have hp31 := zif_f hj27 hc28
          refine zr_loadw dX12_cutsOther_124 rfl ?_
          refine zr_load ⟨_, dX12_cutsOther_126, rfl⟩ rfl ?_
          refine zr_iconst dX12_cutsOther_127 (by decide) ?_
          refine zr_isub dX12_cutsOther_128 ?_
          refine zr_ic_ge (tgt := 136) dX12_cutsOther_129 (by decide) (fun hc32 => ?_) (fun hc32 => ?_)
          · have hp33 := zif_t hp31 hc32
            refine zr_iconst dX12_cutsOther_136 (by decide) ?_
            exact hp33
          · have hp34 := zif_f hp31 hc32
            refine zr_iconst dX12_cutsOther_132 (by decide) ?_
            refine zr_goto (tgt := 137) dX12_cutsOther_133 (by decide) ?_
            exact hp34
set_option maxRecDepth 100000 in
set_option maxHeartbeats 4000000 in
theorem t_Rf_cutsOther {a1 a2 : Int} {s : zSt} {res : Int × zSt} (h : f_Rf_cutsOther a1 a2 s = some res) : zSpecT 3 m_X12_cutsOther [.inr (.inl (some 0)), .inl a1, .inl a2] TRf s none res.2 := by
  refine zSpec_of (by decide +kernel) (Nat.le_of_ble_eq_true rfl) ?_
  show zBT 3 m_X12_cutsOther TRf none res.2 0 [some (.inr (.inl (some 0))), some (.inl a1), some (.inl a2), none, none, none] [] s
  unfold f_Rf_cutsOther at h
  refine zr_aload ⟨_, dX12_cutsOther_0, rfl⟩ rfl ?_
  refine zt_get dX12_cutsOther_1 fl_X12_87 rfl rfl ?_
  refine zr_store ⟨_, dX12_cutsOther_4, rfl⟩ (by decide) rfl ?_
  refine zr_aload ⟨_, dX12_cutsOther_5, rfl⟩ rfl ?_
  refine zr_iconst dX12_cutsOther_6 (by decide) ?_
  refine zt_put dX12_cutsOther_7 fl_X12_87 rfl rfl ?_
  refine zr_iconst dX12_cutsOther_10 (by decide) ?_
  refine zr_storew dX12_cutsOther_11 (by decide) rfl ?_
  obtain ⟨y1, hy1, h⟩ := zbind h
  refine t_Rf_cutsOther_l13 _ _ _ hy1 ?_
  refine zr_aload ⟨_, dX12_cutsOther_144, rfl⟩ rfl ?_
  refine zr_load ⟨_, dX12_cutsOther_145, rfl⟩ rfl ?_
  refine zt_put dX12_cutsOther_146 fl_X12_87 rfl rfl ?_
  obtain rfl := Option.some.inj h
  exact zt_vret dX12_cutsOther_149 rfl
set_option maxRecDepth 100000 in
set_option maxHeartbeats 4000000 in
theorem t_Rf_wide {a1 a2 : Int} {s : zSt} {res : Int} (h : f_Rf_wide a1 a2 s = some res) : zSpecT 3 m_X12_wide [.inr (.inl (some 0)), .inl a1, .inl a2] TRf s (some (.inl res)) s := by
  refine zSpec_of (by decide +kernel) (Nat.le_of_ble_eq_true rfl) ?_
  show zBT 3 m_X12_wide TRf (some (.inl res)) s 0 [some (.inr (.inl (some 0))), some (.inl a1), some (.inl a2)] [] s
  unfold f_Rf_wide at h
  refine zr_aload ⟨_, dX12_wide_0, rfl⟩ rfl ?_
  refine zt_getr dX12_wide_1 fl_X12_16 rfl rfl ?_
  refine zr_aload ⟨_, dX12_wide_4, rfl⟩ rfl ?_
  refine zr_load ⟨_, dX12_wide_5, rfl⟩ rfl ?_
  refine zr_load ⟨_, dX12_wide_6, rfl⟩ rfl ?_
  obtain ⟨x1, hx1, h⟩ := zbind h
  refine zt_callisi (t_Rf_at hx1) (zrun_V (rest := [.inr (.inl (some 1))]) dX12_wide_7 ml_X12_90 rfl rfl (by decide) (by decide) rfl (Nat.le_of_ble_eq_true rfl)) rfl rfl (Nat.le_refl _) (Nat.le_refl _) ?_
  obtain ⟨hb2, h⟩ := zchk h
  refine zt_iaload dX12_wide_10 rfl hb2 ?_
  obtain ⟨x3, hx3, h⟩ := zbind h
  refine zt_call0 (t_Rf_isWide hx3) (zrun_S (rest := []) dX12_wide_11 ml_X12_377 rfl (by decide) (by decide) rfl (Nat.le_of_ble_eq_true rfl)) rfl rfl (Nat.le_refl _) (Nat.le_refl _) ?_
  have hj4 : zBT 3 m_X12_wide TRf (some (.inl res)) s 22 [some (.inr (.inl (some 0))), some (.inl a1), some (.inl a2)] [.inl (if x3 = 0 then 1 else 2)] s := by
    obtain rfl := Option.some.inj h
    exact zt_iret dX12_wide_22 rfl
  refine zr_if_eq (tgt := 21) dX12_wide_14 (by decide) (fun hc5 => ?_) (fun hc5 => ?_)
  · have hp6 := zif_t hj4 hc5
    refine zr_iconst dX12_wide_21 (by decide) ?_
    exact hp6
  · have hp7 := zif_f hj4 hc5
    refine zr_iconst dX12_wide_17 (by decide) ?_
    refine zr_goto (tgt := 22) dX12_wide_18 (by decide) ?_
    exact hp7
set_option maxRecDepth 100000 in
set_option maxHeartbeats 4000000 in
theorem t_Rf_cell {a1 a2 : Int} {s : zSt} {res : Int × zSt} (h : f_Rf_cell a1 a2 s = some res) : zSpecT 3 m_X12_cell [.inr (.inl (some 0)), .inl a1, .inl a2] TRf s (some (.inl res.1)) res.2 := by
  refine zSpec_of (by decide +kernel) (Nat.le_of_ble_eq_true rfl) ?_
  show zBT 3 m_X12_cell TRf (some (.inl res.1)) res.2 0 [some (.inr (.inl (some 0))), some (.inl a1), some (.inl a2)] [] s
  unfold f_Rf_cell at h
  refine zr_aload ⟨_, dX12_cell_0, rfl⟩ rfl ?_
  refine zr_aload ⟨_, dX12_cell_1, rfl⟩ rfl ?_
  refine zr_load ⟨_, dX12_cell_2, rfl⟩ rfl ?_
  refine zr_load ⟨_, dX12_cell_3, rfl⟩ rfl ?_
  obtain ⟨x1, hx1, h⟩ := zbind h
  refine zt_callisi (t_Rf_isCell hx1) (zrun_V (rest := [.inr (.inl (some 0))]) dX12_cell_4 ml_X12_357 rfl rfl (by decide) (by decide) rfl (Nat.le_of_ble_eq_true rfl)) rfl rfl (Nat.le_refl _) (Nat.le_refl _) ?_
  have hj2 : zBT 3 m_X12_cell TRf (some (.inl res.1)) res.2 15 [some (.inr (.inl (some 0))), some (.inl a1), some (.inl a2)] [.inl (if x1 = 0 then 1 else 0), .inr (.inl (some 0))] s := by
    refine zt_put dX12_cell_15 fl_X12_80 rfl rfl ?_
    refine zr_aload ⟨_, dX12_cell_18, rfl⟩ rfl ?_
    refine zt_get dX12_cell_19 fl_X12_80 rfl rfl ?_
    refine zr_if_le (tgt := 29) dX12_cell_22 (by decide) (fun hc4 => ?_) (fun hc4 => ?_)
    · replace h := zpos h hc4
      refine zr_aload ⟨_, dX12_cell_29, rfl⟩ rfl ?_
      refine zt_getr dX12_cell_30 fl_X12_16 rfl rfl ?_
      refine zr_aload ⟨_, dX12_cell_33, rfl⟩ rfl ?_
      refine zr_load ⟨_, dX12_cell_34, rfl⟩ rfl ?_
      refine zr_load ⟨_, dX12_cell_35, rfl⟩ rfl ?_
      obtain ⟨x5, hx5, h⟩ := zbind h
      refine zt_callisi (t_Rf_at hx5) (zrun_V (rest := [.inr (.inl (some 1))]) dX12_cell_36 ml_X12_90 rfl rfl (by decide) (by decide) rfl (Nat.le_of_ble_eq_true rfl)) rfl rfl (Nat.le_refl _) (Nat.le_refl _) ?_
      obtain ⟨hb6, h⟩ := zchk h
      refine zt_iaload dX12_cell_39 rfl hb6 ?_
      obtain rfl := Option.some.inj h
      exact zt_iret dX12_cell_40 rfl
    · replace h := zneg h hc4
      refine zr_iconst dX12_cell_25 (by decide) ?_
      refine zr_goto (tgt := 40) dX12_cell_26 (by decide) ?_
      obtain rfl := Option.some.inj h
      exact zt_iret dX12_cell_40 rfl
  refine zr_if_eq (tgt := 14) dX12_cell_7 (by decide) (fun hc3 => ?_) (fun hc3 => ?_)
  · have hp7 := zif_t hj2 hc3
    refine zr_iconst dX12_cell_14 (by decide) ?_
    exact hp7
  · have hp8 := zif_f hj2 hc3
    refine zr_iconst dX12_cell_10 (by decide) ?_
    refine zr_goto (tgt := 15) dX12_cell_11 (by decide) ?_
    exact hp8
set_option maxRecDepth 100000 in
set_option maxHeartbeats 4000000 in
theorem t_Rf_told {a1 : Int} {s : zSt} {res : Int × zSt} (h : f_Rf_told a1 s = some res) : zSpecT 3 m_X12_told [.inr (.inl (some 0)), .inl a1] TRf s (some (.inl res.1)) res.2 := by
  refine zSpec_of (by decide +kernel) (Nat.le_of_ble_eq_true rfl) ?_
  show zBT 3 m_X12_told TRf (some (.inl res.1)) res.2 0 [some (.inr (.inl (some 0))), some (.inl a1)] [] s
  unfold f_Rf_told at h
  refine zr_aload ⟨_, dX12_told_0, rfl⟩ rfl ?_
  refine zr_iconst dX12_told_1 (by decide) ?_
  refine zt_put dX12_told_2 fl_X12_80 rfl rfl ?_
  refine zr_load ⟨_, dX12_told_5, rfl⟩ rfl ?_
  refine zr_tsw (l := [(0, 54), (1, 59), (2, 64), (3, 77), (4, 82), (5, 87), (6, 92), (7, 97), (8, 102), (9, 107)]) dX12_told_6 (by decide +kernel) ?_
  refine zr_swc (tgt := 60) (by decide) (fun hc1 => ?_) (fun hc1 => ?_)
  · replace h := zpos h hc1
    refine zr_aload ⟨_, dX12_told_60, rfl⟩ rfl ?_
    refine zt_get dX12_told_61 fl_X12_113 rfl rfl ?_
    obtain rfl := Option.some.inj h
    exact zt_iret dX12_told_64 rfl
  replace h := zneg h hc1
  refine zr_swc (tgt := 65) (by decide) (fun hc2 => ?_) (fun hc2 => ?_)
  · replace h := zpos h hc2
    refine zr_aload ⟨_, dX12_told_65, rfl⟩ rfl ?_
    refine zt_get dX12_told_66 fl_X12_123 rfl rfl ?_
    obtain rfl := Option.some.inj h
    exact zt_iret dX12_told_69 rfl
  replace h := zneg h hc2
  refine zr_swc (tgt := 70) (by decide) (fun hc3 => ?_) (fun hc3 => ?_)
  · replace h := zpos h hc3
    refine zr_aload ⟨_, dX12_told_70, rfl⟩ rfl ?_
    refine zt_get dX12_told_71 fl_X12_126 rfl rfl ?_
    have hj4 : zBT 3 m_X12_told TRf (some (.inl res.1)) res.2 82 [some (.inr (.inl (some 0))), some (.inl a1)] [.inl (if (s.1 0 11) = 0 then 0 else 1)] (uS s 0 0 0) := by
      obtain rfl := Option.some.inj h
      exact zt_iret dX12_told_82 rfl
    refine zr_if_eq (tgt := 81) dX12_told_74 (by decide) (fun hc5 => ?_) (fun hc5 => ?_)
    · have hp6 := zif_t hj4 hc5
      refine zr_iconst dX12_told_81 (by decide) ?_
      exact hp6
    · have hp7 := zif_f hj4 hc5
      refine zr_iconst dX12_told_77 (by decide) ?_
      refine zr_goto (tgt := 82) dX12_told_78 (by decide) ?_
      exact hp7
  replace h := zneg h hc3
  refine zr_swc (tgt := 83) (by decide) (fun hc8 => ?_) (fun hc8 => ?_)
  · replace h := zpos h hc8
    refine zr_aload ⟨_, dX12_told_83, rfl⟩ rfl ?_
    refine zt_get dX12_told_84 fl_X12_192 rfl rfl ?_
    obtain rfl := Option.some.inj h
    exact zt_iret dX12_told_87 rfl
  replace h := zneg h hc8
  refine zr_swc (tgt := 88) (by decide) (fun hc9 => ?_) (fun hc9 => ?_)
  · replace h := zpos h hc9
    refine zr_aload ⟨_, dX12_told_88, rfl⟩ rfl ?_
    refine zt_get dX12_told_89 fl_X12_142 rfl rfl ?_
    obtain rfl := Option.some.inj h
    exact zt_iret dX12_told_92 rfl
  replace h := zneg h hc9
  refine zr_swc (tgt := 93) (by decide) (fun hc10 => ?_) (fun hc10 => ?_)
  · replace h := zpos h hc10
    refine zr_aload ⟨_, dX12_told_93, rfl⟩ rfl ?_
    refine zt_get dX12_told_94 fl_X12_116 rfl rfl ?_
    obtain rfl := Option.some.inj h
    exact zt_iret dX12_told_97 rfl
  replace h := zneg h hc10
  refine zr_swc (tgt := 98) (by decide) (fun hc11 => ?_) (fun hc11 => ?_)
  · replace h := zpos h hc11
    refine zr_aload ⟨_, dX12_told_98, rfl⟩ rfl ?_
    refine zt_get dX12_told_99 fl_X12_30 rfl rfl ?_
    obtain rfl := Option.some.inj h
    exact zt_iret dX12_told_102 rfl
  replace h := zneg h hc11
  refine zr_swc (tgt := 103) (by decide) (fun hc12 => ?_) (fun hc12 => ?_)
  · replace h := zpos h hc12
    refine zr_aload ⟨_, dX12_told_103, rfl⟩ rfl ?_
    refine zt_get dX12_told_104 fl_X12_7 rfl rfl ?_
    obtain rfl := Option.some.inj h
    exact zt_iret dX12_told_107 rfl
  replace h := zneg h hc12
  refine zr_swc (tgt := 108) (by decide) (fun hc13 => ?_) (fun hc13 => ?_)
  · replace h := zpos h hc13
    refine zr_aload ⟨_, dX12_told_108, rfl⟩ rfl ?_
    refine zt_get dX12_told_109 fl_X12_13 rfl rfl ?_
    obtain rfl := Option.some.inj h
    exact zt_iret dX12_told_112 rfl
  replace h := zneg h hc13
  refine zr_swc (tgt := 113) (by decide) (fun hc14 => ?_) (fun hc14 => ?_)
  · replace h := zpos h hc14
    refine zr_aload ⟨_, dX12_told_113, rfl⟩ rfl ?_
    refine zt_get dX12_told_114 fl_X12_98 rfl rfl ?_
    obtain rfl := Option.some.inj h
    exact zt_iret dX12_told_117 rfl
  replace h := zneg h hc14
  refine zr_swd (tgt := 118) (by decide) ?_
  refine zr_aload ⟨_, dX12_told_118, rfl⟩ rfl ?_
  refine zr_load ⟨_, dX12_told_119, rfl⟩ rfl ?_
  obtain ⟨x15, hx15, h⟩ := zbind h
  refine zt_callii (t_Rf_toldMore hx15) (zrun_V (rest := []) dX12_told_120 ml_X12_403 rfl rfl (by decide) (by decide) rfl (Nat.le_of_ble_eq_true rfl)) rfl rfl (Nat.le_refl _) (Nat.le_refl _) ?_
  obtain rfl := Option.some.inj h
  exact zt_iret dX12_told_123 rfl
set_option maxRecDepth 100000 in
set_option maxHeartbeats 4000000 in
theorem t_Rf_feeds  {s : zSt} {res : Int × zSt} (h : f_Rf_feeds s = some res) : zSpecT 4 m_X12_feeds [.inr (.inl (some 0))] TRf s none res.2 := by
  refine zSpec_of (by decide +kernel) (Nat.le_of_ble_eq_true rfl) ?_
  show zBT 4 m_X12_feeds TRf none res.2 0 [some (.inr (.inl (some 0)))] [] s
  unfold f_Rf_feeds at h
  refine zr_aload ⟨_, dX12_feeds_0, rfl⟩ rfl ?_
  refine zt_get dX12_feeds_1 fl_X12_113 rfl rfl ?_
  refine zr_aload ⟨_, dX12_feeds_4, rfl⟩ rfl ?_
  refine zt_get dX12_feeds_5 fl_X12_30 rfl rfl ?_
  refine zr_ic_ne (tgt := 27) dX12_feeds_8 (by decide) (fun hc1 => ?_) (fun hc1 => ?_)
  · replace h := zpos h hc1
    refine zr_aload ⟨_, dX12_feeds_27, rfl⟩ rfl ?_
    refine zt_get dX12_feeds_28 fl_X12_113 rfl rfl ?_
    refine zr_aload ⟨_, dX12_feeds_31, rfl⟩ rfl ?_
    refine zt_get dX12_feeds_32 fl_X12_7 rfl rfl ?_
    refine zr_iconst dX12_feeds_35 (by decide) ?_
    refine zr_isub dX12_feeds_36 ?_
    refine zr_ic_ge (tgt := 50) dX12_feeds_37 (by decide) (fun hc2 => ?_) (fun hc2 => ?_)
    · replace h := zpos h hc2
      obtain rfl := Option.some.inj h
      exact zt_vret dX12_feeds_50 rfl
    · replace h := zneg h hc2
      refine zr_aload ⟨_, dX12_feeds_40, rfl⟩ rfl ?_
      refine zr_dup dX12_feeds_41 (Or.inl True.intro) ?_
      refine zt_get dX12_feeds_42 fl_X12_113 rfl rfl ?_
      refine zr_iconst dX12_feeds_45 (by decide) ?_
      refine zr_iadd dX12_feeds_46 ?_
      refine zt_put dX12_feeds_47 fl_X12_113 rfl rfl ?_
      obtain rfl := Option.some.inj h
      exact zt_vret dX12_feeds_50 rfl
  · replace h := zneg h hc1
    refine zr_aload ⟨_, dX12_feeds_11, rfl⟩ rfl ?_
    refine zr_aload ⟨_, dX12_feeds_12, rfl⟩ rfl ?_
    refine zt_get dX12_feeds_13 fl_X12_116 rfl rfl ?_
    refine zr_aload ⟨_, dX12_feeds_16, rfl⟩ rfl ?_
    refine zt_get dX12_feeds_17 fl_X12_30 rfl rfl ?_
    refine zr_iconst dX12_feeds_20 (by decide) ?_
    obtain ⟨x3, hx3, h⟩ := zbind h
    refine zt_calliv (t_Rf_scrollsUp hx3) (zrun_V (rest := []) dX12_feeds_21 ml_X12_119 rfl rfl (by decide) (by decide) rfl (Nat.le_of_ble_eq_true rfl)) rfl rfl (Nat.le_refl _) (Nat.le_refl _) ?_
    refine zr_goto (tgt := 50) dX12_feeds_24 (by decide) ?_
    obtain rfl := Option.some.inj h
    exact zt_vret dX12_feeds_50 rfl
