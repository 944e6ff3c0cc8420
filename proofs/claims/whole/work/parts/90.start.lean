theorem nw_X11 : ∀ (ad : Nat → Nat) (ty : Nat → FieldType), (∀ k, k < 7 → parseFieldDescriptor (TX11 k).2.2.1 = some (ty k)) → ∀ j, j < 7 → defaultValue (ty j) = vp_V ([.inr (.inl none), .inr (.inl none), .inr (.inl none), .inr (.inl none), .inr (.inl none), .inr (.inl none), .inr (.inl none)].map (zeV ad)) j := by
  intro ad ty h j hj
  rcases (by omega : j = 0 ∨ j = 1 ∨ j = 2 ∨ j = 3 ∨ j = 4 ∨ j = 5 ∨ j = 6) with rfl | rfl | rfl | rfl | rfl | rfl | rfl
  · have e := h 0 (by decide)
    rw [show parseFieldDescriptor (TX11 0).2.2.1 = some (.object "InputrowConsole$Bytes") by decide +kernel] at e
    rw [← Option.some.inj e]
    rfl
  · have e := h 1 (by decide)
    rw [show parseFieldDescriptor (TX11 1).2.2.1 = some (.object "InputrowConsole$Bytes") by decide +kernel] at e
    rw [← Option.some.inj e]
    rfl
  · have e := h 2 (by decide)
    rw [show parseFieldDescriptor (TX11 2).2.2.1 = some (.object "InputrowConsole$LineRule") by decide +kernel] at e
    rw [← Option.some.inj e]
    rfl
  · have e := h 3 (by decide)
    rw [show parseFieldDescriptor (TX11 3).2.2.1 = some (.object "InputrowConsole$Screen") by decide +kernel] at e
    rw [← Option.some.inj e]
    rfl
  · have e := h 4 (by decide)
    rw [show parseFieldDescriptor (TX11 4).2.2.1 = some (.object "InputrowConsole$Tape") by decide +kernel] at e
    rw [← Option.some.inj e]
    rfl
  · have e := h 5 (by decide)
    rw [show parseFieldDescriptor (TX11 5).2.2.1 = some (.object "InputrowConsole$Screen") by decide +kernel] at e
    rw [← Option.some.inj e]
    rfl
  · have e := h 6 (by decide)
    rw [show parseFieldDescriptor (TX11 6).2.2.1 = some (.object "InputrowConsole$SlowLine") by decide +kernel] at e
    rw [← Option.some.inj e]
    rfl
theorem nk_X11 : ∀ v ∈ ([.inr (.inl none), .inr (.inl none), .inr (.inl none), .inr (.inl none), .inr (.inl none), .inr (.inl none), .inr (.inl none)] : List zAV), zokN v := by
  intro v hv
  simp only [List.mem_cons, List.not_mem_nil, or_false] at hv
  rcases hv with rfl | rfl | rfl | rfl | rfl | rfl | rfl <;> first | exact True.intro | exact zin0
theorem nw_X12 : ∀ (ad : Nat → Nat) (ty : Nat → FieldType), (∀ k, k < 59 → parseFieldDescriptor (TX12 k).2.2.1 = some (ty k)) → ∀ j, j < 59 → defaultValue (ty j) = vp_V ([.inl 0, .inl 0, .inl 0, .inr (.inl none), .inr (.inl none), .inr (.inl none), .inr (.inl none), .inl 0, .inl 0, .inl 0, .inl 0, .inl 0, .inl 0, .inl 0, .inl 0, .inl 0, .inl 0, .inl 0, .inl 0, .inl 0, .inl 0, .inl 0, .inl 0, .inl 0, .inl 0, .inl 0, .inl 0, .inl 0, .inl 0, .inl 0, .inr (.inl none), .inl 0, .inl 0, .inl 0, .inl 0, .inr (.inl none), .inl 0, .inr (.inl none), .inl 0, .inl 0, .inl 0, .inl 0, .inl 0, .inr (.inl none), .inl 0, .inr (.inl none), .inl 0, .inr (.inl none), .inl 0, .inl 0, .inl 0, .inr (.inl none), .inl 0, .inl 0, .inr (.inl none), .inr (.inl none), .inr (.inl none), .inr (.inl none), .inl 0].map (zeV ad)) j := by
  intro ad ty h j hj
  rcases (by omega : j = 0 ∨ j = 1 ∨ j = 2 ∨ j = 3 ∨ j = 4 ∨ j = 5 ∨ j = 6 ∨ j = 7 ∨ j = 8 ∨ j = 9 ∨ j = 10 ∨ j = 11 ∨ j = 12 ∨ j = 13 ∨ j = 14 ∨ j = 15 ∨ j = 16 ∨ j = 17 ∨ j = 18 ∨ j = 19 ∨ j = 20 ∨ j = 21 ∨ j = 22 ∨ j = 23 ∨ j = 24 ∨ j = 25 ∨ j = 26 ∨ j = 27 ∨ j = 28 ∨ j = 29 ∨ j = 30 ∨ j = 31 ∨ j = 32 ∨ j = 33 ∨ j = 34 ∨ j = 35 ∨ j = 36 ∨ j = 37 ∨ j = 38 ∨ j = 39 ∨ j = 40 ∨ j = 41 ∨ j = 42 ∨ j = 43 ∨ j = 44 ∨ j = 45 ∨ j = 46 ∨ j = 47 ∨ j = 48 ∨ j = 49 ∨ j = 50 ∨ j = 51 ∨ j = 52 ∨ j = 53 ∨ j = 54 ∨ j = 55 ∨ j = 56 ∨ j = 57 ∨ j = 58) with rfl | rfl | rfl | rfl | rfl | rfl | rfl | rfl | rfl | rfl | rfl | rfl | rfl | rfl | rfl | rfl | rfl | rfl | rfl | rfl | rfl | rfl | rfl | rfl | rfl | rfl | rfl | rfl | rfl | rfl | rfl | rfl | rfl | rfl | rfl | rfl | rfl | rfl | rfl | rfl | rfl | rfl | rfl | rfl | rfl | rfl | rfl | rfl | rfl | rfl | rfl | rfl | rfl | rfl | rfl | rfl | rfl | rfl | rfl
  · have e := h 0 (by decide)
    rw [show parseFieldDescriptor (TX12 0).2.2.1 = some (.int) by decide +kernel] at e
    rw [← Option.some.inj e]
    rfl
  · have e := h 1 (by decide)
    rw [show parseFieldDescriptor (TX12 1).2.2.1 = some (.int) by decide +kernel] at e
    rw [← Option.some.inj e]
    rfl
  · have e := h 2 (by decide)
    rw [show parseFieldDescriptor (TX12 2).2.2.1 = some (.int) by decide +kernel] at e
    rw [← Option.some.inj e]
    rfl
  · have e := h 3 (by decide)
    rw [show parseFieldDescriptor (TX12 3).2.2.1 = some (.array .int) by decide +kernel] at e
    rw [← Option.some.inj e]
    rfl
  · have e := h 4 (by decide)
    rw [show parseFieldDescriptor (TX12 4).2.2.1 = some (.array .boolean) by decide +kernel] at e
    rw [← Option.some.inj e]
    rfl
  · have e := h 5 (by decide)
    rw [show parseFieldDescriptor (TX12 5).2.2.1 = some (.array .int) by decide +kernel] at e
    rw [← Option.some.inj e]
    rfl
  · have e := h 6 (by decide)
    rw [show parseFieldDescriptor (TX12 6).2.2.1 = some (.array .boolean) by decide +kernel] at e
    rw [← Option.some.inj e]
    rfl
  · have e := h 7 (by decide)
    rw [show parseFieldDescriptor (TX12 7).2.2.1 = some (.int) by decide +kernel] at e
    rw [← Option.some.inj e]
    rfl
  · have e := h 8 (by decide)
    rw [show parseFieldDescriptor (TX12 8).2.2.1 = some (.int) by decide +kernel] at e
    rw [← Option.some.inj e]
    rfl
  · have e := h 9 (by decide)
    rw [show parseFieldDescriptor (TX12 9).2.2.1 = some (.int) by decide +kernel] at e
    rw [← Option.some.inj e]
    rfl
  · have e := h 10 (by decide)
    rw [show parseFieldDescriptor (TX12 10).2.2.1 = some (.int) by decide +kernel] at e
    rw [← Option.some.inj e]
    rfl
  · have e := h 11 (by decide)
    rw [show parseFieldDescriptor (TX12 11).2.2.1 = some (.boolean) by decide +kernel] at e
    rw [← Option.some.inj e]
    rfl
  · have e := h 12 (by decide)
    rw [show parseFieldDescriptor (TX12 12).2.2.1 = some (.int) by decide +kernel] at e
    rw [← Option.some.inj e]
    rfl
  · have e := h 13 (by decide)
    rw [show parseFieldDescriptor (TX12 13).2.2.1 = some (.int) by decide +kernel] at e
    rw [← Option.some.inj e]
    rfl
  · have e := h 14 (by decide)
    rw [show parseFieldDescriptor (TX12 14).2.2.1 = some (.int) by decide +kernel] at e
    rw [← Option.some.inj e]
    rfl
  · have e := h 15 (by decide)
    rw [show parseFieldDescriptor (TX12 15).2.2.1 = some (.int) by decide +kernel] at e
    rw [← Option.some.inj e]
    rfl
  · have e := h 16 (by decide)
    rw [show parseFieldDescriptor (TX12 16).2.2.1 = some (.boolean) by decide +kernel] at e
    rw [← Option.some.inj e]
    rfl
  · have e := h 17 (by decide)
    rw [show parseFieldDescriptor (TX12 17).2.2.1 = some (.boolean) by decide +kernel] at e
    rw [← Option.some.inj e]
    rfl
  · have e := h 18 (by decide)
    rw [show parseFieldDescriptor (TX12 18).2.2.1 = some (.boolean) by decide +kernel] at e
    rw [← Option.some.inj e]
    rfl
  · have e := h 19 (by decide)
    rw [show parseFieldDescriptor (TX12 19).2.2.1 = some (.boolean) by decide +kernel] at e
    rw [← Option.some.inj e]
    rfl
  · have e := h 20 (by decide)
    rw [show parseFieldDescriptor (TX12 20).2.2.1 = some (.boolean) by decide +kernel] at e
    rw [← Option.some.inj e]
    rfl
  · have e := h 21 (by decide)
    rw [show parseFieldDescriptor (TX12 21).2.2.1 = some (.boolean) by decide +kernel] at e
    rw [← Option.some.inj e]
    rfl
  · have e := h 22 (by decide)
    rw [show parseFieldDescriptor (TX12 22).2.2.1 = some (.boolean) by decide +kernel] at e
    rw [← Option.some.inj e]
    rfl
  · have e := h 23 (by decide)
    rw [show parseFieldDescriptor (TX12 23).2.2.1 = some (.boolean) by decide +kernel] at e
    rw [← Option.some.inj e]
    rfl
  · have e := h 24 (by decide)
    rw [show parseFieldDescriptor (TX12 24).2.2.1 = some (.int) by decide +kernel] at e
    rw [← Option.some.inj e]
    rfl
  · have e := h 25 (by decide)
    rw [show parseFieldDescriptor (TX12 25).2.2.1 = some (.int) by decide +kernel] at e
    rw [← Option.some.inj e]
    rfl
  · have e := h 26 (by decide)
    rw [show parseFieldDescriptor (TX12 26).2.2.1 = some (.boolean) by decide +kernel] at e
    rw [← Option.some.inj e]
    rfl
  · have e := h 27 (by decide)
    rw [show parseFieldDescriptor (TX12 27).2.2.1 = some (.int) by decide +kernel] at e
    rw [← Option.some.inj e]
    rfl
  · have e := h 28 (by decide)
    rw [show parseFieldDescriptor (TX12 28).2.2.1 = some (.boolean) by decide +kernel] at e
    rw [← Option.some.inj e]
    rfl
  · have e := h 29 (by decide)
    rw [show parseFieldDescriptor (TX12 29).2.2.1 = some (.int) by decide +kernel] at e
    rw [← Option.some.inj e]
    rfl
  · have e := h 30 (by decide)
    rw [show parseFieldDescriptor (TX12 30).2.2.1 = some (.array .int) by decide +kernel] at e
    rw [← Option.some.inj e]
    rfl
  · have e := h 31 (by decide)
    rw [show parseFieldDescriptor (TX12 31).2.2.1 = some (.int) by decide +kernel] at e
    rw [← Option.some.inj e]
    rfl
  · have e := h 32 (by decide)
    rw [show parseFieldDescriptor (TX12 32).2.2.1 = some (.boolean) by decide +kernel] at e
    rw [← Option.some.inj e]
    rfl
  · have e := h 33 (by decide)
    rw [show parseFieldDescriptor (TX12 33).2.2.1 = some (.boolean) by decide +kernel] at e
    rw [← Option.some.inj e]
    rfl
  · have e := h 34 (by decide)
    rw [show parseFieldDescriptor (TX12 34).2.2.1 = some (.boolean) by decide +kernel] at e
    rw [← Option.some.inj e]
    rfl
  · have e := h 35 (by decide)
    rw [show parseFieldDescriptor (TX12 35).2.2.1 = some (.array .int) by decide +kernel] at e
    rw [← Option.some.inj e]
    rfl
  · have e := h 36 (by decide)
    rw [show parseFieldDescriptor (TX12 36).2.2.1 = some (.int) by decide +kernel] at e
    rw [← Option.some.inj e]
    rfl
  · have e := h 37 (by decide)
    rw [show parseFieldDescriptor (TX12 37).2.2.1 = some (.array .int) by decide +kernel] at e
    rw [← Option.some.inj e]
    rfl
  · have e := h 38 (by decide)
    rw [show parseFieldDescriptor (TX12 38).2.2.1 = some (.int) by decide +kernel] at e
    rw [← Option.some.inj e]
    rfl
  · have e := h 39 (by decide)
    rw [show parseFieldDescriptor (TX12 39).2.2.1 = some (.int) by decide +kernel] at e
    rw [← Option.some.inj e]
    rfl
  · have e := h 40 (by decide)
    rw [show parseFieldDescriptor (TX12 40).2.2.1 = some (.boolean) by decide +kernel] at e
    rw [← Option.some.inj e]
    rfl
  · have e := h 41 (by decide)
    rw [show parseFieldDescriptor (TX12 41).2.2.1 = some (.boolean) by decide +kernel] at e
    rw [← Option.some.inj e]
    rfl
  · have e := h 42 (by decide)
    rw [show parseFieldDescriptor (TX12 42).2.2.1 = some (.boolean) by decide +kernel] at e
    rw [← Option.some.inj e]
    rfl
  · have e := h 43 (by decide)
    rw [show parseFieldDescriptor (TX12 43).2.2.1 = some (.array .int) by decide +kernel] at e
    rw [← Option.some.inj e]
    rfl
  · have e := h 44 (by decide)
    rw [show parseFieldDescriptor (TX12 44).2.2.1 = some (.int) by decide +kernel] at e
    rw [← Option.some.inj e]
    rfl
  · have e := h 45 (by decide)
    rw [show parseFieldDescriptor (TX12 45).2.2.1 = some (.array .int) by decide +kernel] at e
    rw [← Option.some.inj e]
    rfl
  · have e := h 46 (by decide)
    rw [show parseFieldDescriptor (TX12 46).2.2.1 = some (.int) by decide +kernel] at e
    rw [← Option.some.inj e]
    rfl
  · have e := h 47 (by decide)
    rw [show parseFieldDescriptor (TX12 47).2.2.1 = some (.array .int) by decide +kernel] at e
    rw [← Option.some.inj e]
    rfl
  · have e := h 48 (by decide)
    rw [show parseFieldDescriptor (TX12 48).2.2.1 = some (.int) by decide +kernel] at e
    rw [← Option.some.inj e]
    rfl
  · have e := h 49 (by decide)
    rw [show parseFieldDescriptor (TX12 49).2.2.1 = some (.int) by decide +kernel] at e
    rw [← Option.some.inj e]
    rfl
  · have e := h 50 (by decide)
    rw [show parseFieldDescriptor (TX12 50).2.2.1 = some (.int) by decide +kernel] at e
    rw [← Option.some.inj e]
    rfl
  · have e := h 51 (by decide)
    rw [show parseFieldDescriptor (TX12 51).2.2.1 = some (.array .int) by decide +kernel] at e
    rw [← Option.some.inj e]
    rfl
  · have e := h 52 (by decide)
    rw [show parseFieldDescriptor (TX12 52).2.2.1 = some (.int) by decide +kernel] at e
    rw [← Option.some.inj e]
    rfl
  · have e := h 53 (by decide)
    rw [show parseFieldDescriptor (TX12 53).2.2.1 = some (.int) by decide +kernel] at e
    rw [← Option.some.inj e]
    rfl
  · have e := h 54 (by decide)
    rw [show parseFieldDescriptor (TX12 54).2.2.1 = some (.array .int) by decide +kernel] at e
    rw [← Option.some.inj e]
    rfl
  · have e := h 55 (by decide)
    rw [show parseFieldDescriptor (TX12 55).2.2.1 = some (.array .int) by decide +kernel] at e
    rw [← Option.some.inj e]
    rfl
  · have e := h 56 (by decide)
    rw [show parseFieldDescriptor (TX12 56).2.2.1 = some (.array .int) by decide +kernel] at e
    rw [← Option.some.inj e]
    rfl
  · have e := h 57 (by decide)
    rw [show parseFieldDescriptor (TX12 57).2.2.1 = some (.array .boolean) by decide +kernel] at e
    rw [← Option.some.inj e]
    rfl
  · have e := h 58 (by decide)
    rw [show parseFieldDescriptor (TX12 58).2.2.1 = some (.int) by decide +kernel] at e
    rw [← Option.some.inj e]
    rfl
theorem nk_X12 : ∀ v ∈ ([.inl 0, .inl 0, .inl 0, .inr (.inl none), .inr (.inl none), .inr (.inl none), .inr (.inl none), .inl 0, .inl 0, .inl 0, .inl 0, .inl 0, .inl 0, .inl 0, .inl 0, .inl 0, .inl 0, .inl 0, .inl 0, .inl 0, .inl 0, .inl 0, .inl 0, .inl 0, .inl 0, .inl 0, .inl 0, .inl 0, .inl 0, .inl 0, .inr (.inl none), .inl 0, .inl 0, .inl 0, .inl 0, .inr (.inl none), .inl 0, .inr (.inl none), .inl 0, .inl 0, .inl 0, .inl 0, .inl 0, .inr (.inl none), .inl 0, .inr (.inl none), .inl 0, .inr (.inl none), .inl 0, .inl 0, .inl 0, .inr (.inl none), .inl 0, .inl 0, .inr (.inl none), .inr (.inl none), .inr (.inl none), .inr (.inl none), .inl 0] : List zAV), zokN v := by
  intro v hv
  simp only [List.mem_cons, List.not_mem_nil, or_false] at hv
  rcases hv with rfl | rfl | rfl | rfl | rfl | rfl | rfl | rfl | rfl | rfl | rfl | rfl | rfl | rfl | rfl | rfl | rfl | rfl | rfl | rfl | rfl | rfl | rfl | rfl | rfl | rfl | rfl | rfl | rfl | rfl | rfl | rfl | rfl | rfl | rfl | rfl | rfl | rfl | rfl | rfl | rfl | rfl | rfl | rfl | rfl | rfl | rfl | rfl | rfl | rfl | rfl | rfl | rfl | rfl | rfl | rfl | rfl | rfl | rfl <;> first | exact True.intro | exact zin0
theorem mi_L_62 : zLI RL 62 0 m_X11_init := ⟨zall3 (zmem (i := 161) (by decide +kernel) rfl) (zmem (i := 162) (by decide +kernel) rfl) (zmem (i := 127) (by decide +kernel) rfl), (zmem (i := 163) (by decide +kernel) rfl), rfl, rfl, by decide +kernel⟩
theorem mi_L_65 : zLI RL 65 0 m_X12_init := ⟨zall3 (zmem (i := 1600) (by decide +kernel) rfl) (zmem (i := 1601) (by decide +kernel) rfl) (zmem (i := 140) (by decide +kernel) rfl), (zmem (i := 1602) (by decide +kernel) rfl), rfl, rfl, by decide +kernel⟩
/-! ===== the law: its loop, from its entry ===== -/
set_option maxRecDepth 100000 in
set_option maxHeartbeats 1000000 in
theorem law_step {b L : Nat} {xs : Nat → Int32} (hLm : L ≤ 2560) {n : Nat} {i : Int} {C r : zSt} {g : Int → Int} {uc us : Nat} (hi : i = 5 * (n : Int)) (hn : n ≤ 513) (hW : zWh (100 * n) C r) (huc : uc + zpot 42 C ≤ 200000 + n) (hus : us + zpot 42 C ≤ 200000 + 6 * n)
    (next : i + 5 ≤ L → ∀ (C' r' : zSt) (g' : Int → Int) (uc' us' : Nat), zWh (100 * (n + 1)) C' r' → uc' + zpot 42 C' ≤ 200000 + (n + 1) → us' + zpot 42 C' ≤ 200000 + 6 * (n + 1) → zB m_L_law RLw (FLw b L xs) PLw 23 (zLL (i + 5) none none) [] (zLwld C' r' g') uc' us') :
    zB m_L_law RLw (FLw b L xs) PLw 23 (zLL i none none) [] (zLwld C r g) uc us := by
  have e5 : w32 ((L : Int) - 5) = L - 5 := w32i (by omega) (by omega)
  refine zr_loadw dL_law_23 rfl ?_
  refine zr_aload ⟨_, dL_law_25, rfl⟩ rfl ?_
  refine zr_slen dL_law_26 hLm rfl ?_
  refine zr_iconst dL_law_27 (by decide) ?_
  refine zr_isub dL_law_28 ?_
  rw [e5]
  refine zr_ic_gt (tgt := 1165) dL_law_29 (by decide) (fun q => ?_) (fun q => ?_)
  · refine zr_iconst dL_law_1165 (by decide) ?_
    exact zr_lawret dL_law_1166 (by omega) (by omega)
  · have hi5 : 0 ≤ i ∧ i + 5 ≤ L := by omega
    have ei : w32 (i + 5) = i + 5 := w32i (by omega) (by omega)
    refine zr_aload ⟨_, dL_law_32, rfl⟩ rfl ?_
    refine zr_loadw dL_law_33 rfl ?_
    refine zr_sld dL_law_35 (by omega) rfl ?_
    refine zr_bipush dL_law_36 (by decide) (by decide) ?_
    refine zr_iand dL_law_38 ?_
    have hK : ∀ (C' r' : zSt) (g' : Int → Int) (uc' us' : Nat), zWh (100 * n + 100) C' r' → uc' + zpot 42 C' ≤ 200000 + n + 1 → us' + zpot 42 C' ≤ 200000 + 6 * n + 6 → zB m_L_law RLw (FLw b L xs) PLw 1159 (zLL i none none) [] (zLwld C' r' g') uc' us' := by
      intro C' r' g' uc' us' h1 h2 h3
      refine zr_iinc dL_law_1159 rfl (by decide) rfl ?_
      refine zr_goto (tgt := 23) dL_law_1162 (by decide) ?_
      show zB m_L_law RLw (FLw b L xs) PLw 23 (zLL (w32 (i + 5)) none none) [] (zLwld C' r' g') uc' us'
      rw [ei]
      exact next hi5.2 C' r' g' uc' us' (h1.mono (by omega)) (by omega) (by omega)
    refine zr_tsw (l := [(0, 85), (1, 141), (2, 249), (3, 305), (4, 373), (5, 429), (6, 442), (7, 522), (8, 591), (9, 604), (10, 672), (11, 685), (12, 753), (13, 821), (14, 889), (15, 952), (16, 1008), (17, 1064)]) dL_law_39 (by decide +kernel) ?_
    refine zr_swc (tgt := 124) (by decide) (fun _ => lc_write hi5 hLm hW (by omega) huc hus (by omega) (by omega) hK) (fun _ => ?_)
    refine zr_swc (tgt := 180) (by decide) (fun _ => lc_code hi5 hLm hW (by omega) huc hus (by omega) (by omega) hK) (fun _ => ?_)
    refine zr_swc (tgt := 288) (by decide) (fun _ => lc_type hi5 hLm hW (by omega) huc hus (by omega) (by omega) hK) (fun _ => ?_)
    refine zr_swc (tgt := 344) (by decide) (fun _ => lc_key hi5 hLm hW (by omega) huc hus (by omega) (by omega) hK) (fun _ => ?_)
    refine zr_swc (tgt := 412) (by decide) (fun _ => lc_draft hi5 hLm hW (by omega) huc hus (by omega) (by omega) hK) (fun _ => ?_)
    refine zr_swc (tgt := 468) (by decide) (fun _ => lc_paste hi5 hLm hW (by omega) huc hus (by omega) (by omega) hK) (fun _ => ?_)
    refine zr_swc (tgt := 481) (by decide) (fun _ => lc_mouse hi5 hLm hW (by omega) huc hus (by omega) (by omega) hK) (fun _ => ?_)
    refine zr_swc (tgt := 561) (by decide) (fun _ => lc_rule hi5 hLm hW (by omega) huc hus (by omega) (by omega) hK) (fun _ => ?_)
    refine zr_swc (tgt := 630) (by decide) (fun _ => lc_take hi5 hLm hW (by omega) huc hus (by omega) (by omega) hK) (fun _ => ?_)
    refine zr_swc (tgt := 643) (by decide) (fun _ => lc_size hi5 hLm hW (by omega) huc hus (by omega) (by omega) hK) (fun _ => ?_)
    refine zr_swc (tgt := 711) (by decide) (fun _ => lc_draw hi5 hLm hW (by omega) huc hus (by omega) (by omega) hK) (fun _ => ?_)
    refine zr_swc (tgt := 724) (by decide) (fun _ => lc_cell hi5 hLm hW (by omega) huc hus (by omega) (by omega) hK) (fun _ => ?_)
    refine zr_swc (tgt := 792) (by decide) (fun _ => lc_cellAnew hi5 hLm hW (by omega) huc hus (by omega) (by omega) hK) (fun _ => ?_)
    refine zr_swc (tgt := 860) (by decide) (fun _ => lc_past hi5 hLm hW (by omega) huc hus (by omega) (by omega) hK) (fun _ => ?_)
    refine zr_swc (tgt := 928) (by decide) (fun _ => lc_goesOn hi5 hLm hW (by omega) huc hus (by omega) (by omega) hK) (fun _ => ?_)
    refine zr_swc (tgt := 991) (by decide) (fun _ => lc_title hi5 hLm hW (by omega) huc hus (by omega) (by omega) hK) (fun _ => ?_)
    refine zr_swc (tgt := 1047) (by decide) (fun _ => lc_least hi5 hLm hW (by omega) huc hus (by omega) (by omega) hK) (fun _ => ?_)
    refine zr_swc (tgt := 1103) (by decide) (fun _ => lc_told hi5 hLm hW (by omega) huc hus (by omega) (by omega) hK) (fun _ => ?_)
    exact zr_swd (tgt := 1159) (by decide) (hK C r g uc us (hW.mono (by omega)) (by omega) (by omega))
theorem law_loop {b L : Nat} {xs : Nat → Int32} (hLm : L ≤ 2560) : ∀ (k n : Nat) (i : Int) (C r : zSt) (g : Int → Int) (uc us : Nat), n + k = 513 → i = 5 * (n : Int) → zWh (100 * n) C r → uc + zpot 42 C ≤ 200000 + n → us + zpot 42 C ≤ 200000 + 6 * n → zB m_L_law RLw (FLw b L xs) PLw 23 (zLL i none none) [] (zLwld C r g) uc us
  | 0, n, i, C, r, g, uc, us, h1, h2, h3, h4, h5 => law_step hLm h2 (by omega) h3 h4 h5 (fun q => absurd q (by omega))
  | k + 1, n, i, C, r, g, uc, us, h1, h2, h3, h4, h5 => law_step hLm h2 (by omega) h3 h4 h5 (fun q C' r' g' uc' us' w1 w2 w3 => law_loop hLm k (n + 1) (i + 5) C' r' g' uc' us' (by omega) (by omega) w1 w2 w3)
/-! two new objects and a row, beside the script at place 999 -/
def zkL (n : Nat) : List (Option zAV) → Bool
  | [] => true
  | none :: l => zkL n l
  | some (.inr (.inl (some k))) :: l => (decide (k < n) || k == 999) && zkL n l
  | some _ :: l => zkL n l
theorem zeL_k {ad ad2 : Nat → Nat} {n : Nat} (hag : ∀ k, k < n → ad2 k = ad k) (h9 : ad2 999 = ad 999) : ∀ {L : List (Option zAV)} {i : Nat}, zkL n L = true → zeL ad2 i L = zeL ad i L
  | [], _, _ => rfl
  | none :: l, i, h => by
    simp only [zkL] at h
    simp only [zeL]
    exact zeL_k hag h9 (L := l) h
  | some (.inr (.inl (some k))) :: l, i, h => by
    simp only [zkL, Bool.and_eq_true, Bool.or_eq_true, decide_eq_true_eq, beq_iff_eq] at h
    simp only [zeL]
    rw [zeL_k hag h9 (L := l) h.2]
    congr 2
    show Value.ref (ad2 k) = Value.ref (ad k)
    rcases h.1 with q | q
    · rw [hag k q]
    · rw [q, h9]
  | some (.inr (.inl none)) :: l, i, h => by
    simp only [zkL] at h
    simp only [zeL]
    rw [zeL_k hag h9 (L := l) h]
    rfl
  | some (.inr (.inr x)) :: l, i, h => by
    simp only [zkL] at h
    simp only [zeL]
    rw [zeL_k hag h9 (L := l) h]
    rfl
  | some (.inl x) :: l, i, h => by
    simp only [zkL] at h
    simp only [zeL]
    rw [zeL_k hag h9 (L := l) h]
    rfl
set_option maxHeartbeats 1000000 in
theorem zt_ctorK {M Mc : zM} {d d' mc ms mcc msc : Nat} {F : zF} {P : Nat → Prop} {pc uc us v : Nat} {L : List (Option zAV)} {st rest : List zAV} {w0 : List zAC} {c0 : zAC} {as : List zAV} {W' : List zAC}
    (hrun : zRunW M Mc (zR d mc ms) d' mcc msc pc (w0 ++ [c0]) L st rest (zsh v) (.inr (.inl (some 0)) :: as))
    (hS : zSpec d' (fun k => k = 0) mcc msc Mc (.inr (.inl (some 0)) :: as) [c0] (fun r' w' => r' = none ∧ w' = W'))
    (hst : ((.inr (.inl (some 0)) :: as).map (zrn (zsh v))).reverse ++ rest = st) (hai : znlb as = true) (hv : w0.length = v) (hPv : ∀ k, P k → k ≤ v ∨ k = 999) (hL : zkL (v + 1) L = true) (hS2 : zlS (v + 1) rest = true) (hw : zlW (v + 1) w0 = true) (hc0 : zlC 0 c0 = true) (hW' : ∀ c ∈ W', zlC W'.length c = true) (hvW : v + W'.length ≤ 999) (hv9 : v < 998) (huc : uc + mcc ≤ mc) (hus : us + msc ≤ ms)
    (kk : zB M (zR d mc ms) F P (pc + 3) L rest (w0 ++ W'.map (zrC (zsh v))) (uc + mcc) (us + msc)) : zB M (zR d mc ms) F P pc L st (w0 ++ [c0]) uc us := by
  intro G p l e S m args below meth c A ad0 ad H locs ls hh
  have hh0 := hh
  obtain ⟨hcx, hag, hL', hSt, hW, hv', hP, hD, hSS⟩ := hh
  have hcx0 := hcx
  obtain ⟨hx1, hb, -, -, -, hown, hts, hmi, hK, hA, hNk⟩ := hcx
  have hlen : (w0 ++ [c0]).length = v + 1 := by rw [List.length_append, hv]; rfl
  have hav : ∀ x ∈ (.inr (.inl (some 0)) :: as : List zAV), zokN x := by
    intro x hx
    rcases List.mem_cons.mp hx with rfl | hx
    · exact True.intro
    · refine znl hai x hx ((zokV_rn (f := zsh v)).mp (hSt (zrn (zsh v) x) ?_))
      rw [← hst]
      exact List.mem_append_left _ (List.mem_reverse.mpr (List.mem_map_of_mem (List.mem_cons_of_mem _ hx)))
  have hW1 : zokW [c0] := fun x hx => by
    rw [List.mem_singleton] at hx
    rw [hx]
    exact hW c0 (List.mem_append_right _ List.mem_cons_self)
  obtain ⟨hD1, hD2⟩ := va_D_zeW.mp hD
  have hgetv : (w0 ++ [c0])[v]? = some c0 := by
    rw [← hv, List.getElem?_append_right (Nat.le_refl _)]
    simp
  have hadc : ad (zsh v 0) = ad v := by rw [show zsh v 0 = v from Nat.zero_add v]
  have hPc : va_P (zD G) zCl (zeW G.2.2 (fun k => ad (zsh v k)) 0 [c0]) H := by
    refine va_P_zeW.mpr fun i x hi => ?_
    have hi0 : i = 0 := by
      have h9 := (List.getElem?_eq_some_iff.mp hi).1
      simpa using h9
    subst hi0
    cases hi
    have h1 := va_P_zeW.mp hP v c0 hgetv
    rw [hadc, zeC_lt (n := 0) (ad := ad) (fun k hk => absurd hk (Nat.not_lt_zero k)) hc0]
    exact h1
  have hDc : va_D (fun _ => True) (zeW G.2.2 (fun k => ad (zsh v k)) 0 [c0]) := va_D_zeW.mpr ⟨fun i j hi hj _ => by simp at hi hj; omega, fun _ _ => True.intro⟩
  have hM := hS hav hW1 G l (fun k => ad (zsh v k)) H.size
  have hfree : ∀ q, va_A (zeW G.2.2 (fun k => ad (zsh v k)) 0 [c0]) H.size q → A q := by
    intro q hq
    rcases va_A_zeW.mp hq with ⟨i, hi, rfl⟩ | hq
    · have h9 : i = 0 := by simpa using hi
      subst h9
      show A (ad (zsh v 0))
      rw [hadc]
      exact hD2 v (by rw [hlen]; omega)
    · exact hA q (Nat.le_trans hSS.1 hq)
  refine zw_call (hrun G p l e S m args below meth c A P ad0 ad H locs ls uc us _ _ _ hh0 hM zPre_blind (fun U hU hWm => ⟨rfl, by rw [hU], by rw [hU]; exact hPc, va_K.moved hWm.alike hK, hDc, hNk.warm hWm⟩) huc hus) hSS hfree ?_
  intro r1 w1 ad1 t H1 locs1 ht hal hq hrok hwok hag1 hP1 hDD1 hsz hkeep hSS1
  obtain ⟨rfl, rfl⟩ := hq
  have had1 : ad1 0 = ad v := by
    rw [hag1 0 rfl]
    exact hadc
  obtain ⟨hE1, hE2⟩ := va_D_zeW.mp hDD1
  obtain ⟨ad2, had2⟩ : ∃ ad2 : Nat → Nat, ∀ i, ad2 i = if i < v then ad i else if i = 999 then ad 999 else ad1 (i - v) := ⟨_, fun _ => rfl⟩
  have h2lt : ∀ k, k < v + 1 → ad2 k = ad k := fun k hk => by
    rw [had2]
    by_cases h : k < v
    · rw [if_pos h]
    · rw [if_neg h, if_neg (by omega), show k - v = 0 by omega, had1, show k = v by omega]
  have h29 : ad2 999 = ad 999 := by rw [had2, if_neg (by omega), if_pos rfl]
  have h2ge : ∀ k, k < w1.length → ad2 (zsh v k) = ad1 k := fun k hk => by
    rw [had2]
    show (if k + v < v then _ else if k + v = 999 then _ else ad1 (k + v - v)) = _
    rw [if_neg (by omega), if_neg (by omega), Nat.add_sub_cancel]
  have hget : ∀ i c, (w0 ++ w1.map (zrC (zsh v)))[i]? = some c → (i < v ∧ w0[i]? = some c) ∨ (∃ k c1, i = zsh v k ∧ w1[k]? = some c1 ∧ c = zrC (zsh v) c1) := by
    intro i c hi
    by_cases h : i < v
    · left
      rw [List.getElem?_append_left (by omega)] at hi
      exact ⟨h, hi⟩
    · right
      rw [List.getElem?_append_right (by omega), List.getElem?_map] at hi
      cases hq : w1[i - w0.length]? with
      | none => rw [hq] at hi; simp at hi
      | some c1 =>
        rw [hq] at hi
        simp only [Option.map_some, Option.some.injEq] at hi
        exact ⟨i - w0.length, c1, by show i = i - w0.length + v; omega, hq, hi.symm⟩
  have hw0P : ∀ i, i < v → ad i < H.size ∧ ¬ va_A (zeW G.2.2 (fun k => ad (zsh v k)) 0 [c0]) H.size (ad i) := by
    intro i hi
    have hlt := (va_P_zeW.mp hP i _ (List.getElem?_eq_getElem (by rw [hlen]; omega))).lt
    refine ⟨hlt, fun h => ?_⟩
    rcases va_A_zeW.mp h with ⟨a, ha, he⟩ | h
    · have h9 : a = 0 := by simpa using ha
      subst h9
      have he2 : ad i = ad (zsh v 0) := he
      rw [hadc] at he2
      have := hD1 i v (by rw [hlen]; omega) (by rw [hlen]; omega) he2
      omega
    · exact absurd hlt (Nat.not_lt.mpr h)
  have hln : (w0 ++ w1.map (zrC (zsh v))).length = v + w1.length := by rw [List.length_append, List.length_map, hv]
  have k1 := kk G p l e S m args below meth c A ad0 ad2 H1 locs1 ls ⟨hcx0, fun k hk => ?_, hL', fun x hx => hSt x (by rw [← hst]; exact List.mem_append_right _ hx), ?_, by rw [zeL_k h2lt h29 hL]; exact hv', ?_, ?_, hSS1⟩
  · rw [zeS_lt h2lt hS2] at k1
    exact k1
  · rcases hPv k hk with q | q
    · rw [h2lt k (by omega)]
      exact hag k hk
    · rw [q, h29]
      exact hag 999 (q ▸ hk)
  · intro x hx
    rcases List.mem_append.mp hx with h | h
    · exact hW x (List.mem_append_left _ h)
    · obtain ⟨c1, hc1, rfl⟩ := List.mem_map.mp h
      exact zokC_rC.mpr (hwok c1 hc1)
  · refine va_P_zeW.mpr fun i x hi => ?_
    rcases hget i x hi with ⟨h1, h2⟩ | ⟨k, c1, rfl, h2, rfl⟩
    · rw [h2lt i (by omega), zeC_lt h2lt (zlW_at hw h2)]
      obtain ⟨g1, g2⟩ := hw0P i h1
      exact (va_P_zeW.mp hP i x (by rw [List.getElem?_append_left (by omega)]; exact h2)).kept (hkeep _ g1 g2)
    · have hkl := (List.getElem?_eq_some_iff.mp h2).1
      rw [h2ge k hkl, zeC_rC, zeC_lt (n := w1.length) (ad := ad1) (ad2 := fun k => ad2 (zsh v k)) h2ge (hW' c1 (List.mem_of_getElem? h2))]
      exact va_P_zeW.mp hP1 k c1 h2
  · have hin : ∀ i, ¬ i < v → i < v + w1.length → ad2 i = ad1 (i - v) ∧ i - v < w1.length := fun i h1 h2 => ⟨by rw [had2, if_neg h1, if_neg (by omega)], by omega⟩
    refine va_D_zeW.mpr ⟨fun i j hi hj hij => ?_, fun i hi => ?_⟩
    · rw [hln] at hi hj
      by_cases h1 : i < v
      · rw [h2lt i (by omega)] at hij
        by_cases h2 : j < v
        · rw [h2lt j (by omega)] at hij
          exact hD1 i j (by rw [hlen]; omega) (by rw [hlen]; omega) hij
        · obtain ⟨e1, e2⟩ := hin j h2 hj
          rw [e1] at hij
          have := hE2 _ e2
          rw [← hij] at this
          exact absurd this (hw0P i h1).2
      · obtain ⟨e1, e2⟩ := hin i h1 hi
        rw [e1] at hij
        by_cases h2 : j < v
        · rw [h2lt j (by omega)] at hij
          have := hE2 _ e2
          rw [hij] at this
          exact absurd this (hw0P j h2).2
        · obtain ⟨e3, e4⟩ := hin j h2 hj
          rw [e3] at hij
          have := hE1 _ _ e2 e4 hij
          omega
    · rw [hln] at hi
      by_cases h1 : i < v
      · rw [h2lt i (by omega)]
        exact hD2 i (by rw [hlen]; omega)
      · obtain ⟨e1, e2⟩ := hin i h1 hi
        rw [e1]
        exact hfree _ (hE2 _ e2)
theorem zfW_of {v : Nat} : ∀ {w : List zAC}, (∀ c ∈ w, zfC v c = true) → zfW v w = true
  | [], _ => rfl
  | c :: w, h => by
    simp only [zfW, Bool.and_eq_true]
    exact ⟨h c List.mem_cons_self, zfW_of fun x hx => h x (List.mem_cons_of_mem _ hx)⟩
theorem zlW_of {v : Nat} : ∀ {w : List zAC}, (∀ c ∈ w, zlC v c = true) → zlW v w = true
  | [], _ => rfl
  | c :: w, h => by
    simp only [zlW, Bool.and_eq_true]
    exact ⟨h c List.mem_cons_self, zlW_of fun x hx => h x (List.mem_cons_of_mem _ hx)⟩
theorem TCo_lt77 : TCo.all (zlTb 77) = true := by decide +kernel
theorem zmap_sh0 (w : List zAC) : ([] : List zAC) ++ w.map (zrC (zsh 0)) = w := by
  rw [List.nil_append, show zrC (zsh 0) = id from funext fun c => zrC_id c, List.map_id]
set_option maxRecDepth 100000 in
set_option maxHeartbeats 1000000 in
theorem law_start {b L : Nat} {xs : Nat → Int32} (hLm : L ≤ 2560) : zB m_L_law RLw (FLw b L xs) PLw 0 (zaL 7 [.inr (.inl (some 999))]) [] [] 0 0 := by
  obtain ⟨x, hx1, hx2⟩ := z0_whole
  obtain ⟨r0, hr0⟩ : ∃ r0, r0 = uS z0_Rf 0 15 x := ⟨_, rfl⟩
  rw [← hr0] at hx1 hx2
  have hc1 : zSpec 5 (fun k => k = 0) 75 11519 m_X11_init [.inr (.inl (some 0))] [.inl (11, [.inr (.inl none), .inr (.inl none), .inr (.inl none), .inr (.inl none), .inr (.inl none), .inr (.inl none), .inr (.inl none)])] (fun r1 w1 => r1 = none ∧ w1 = ziT z0_Co 0 TCo) := by
    rw [← z0_Co_w]
    exact t_Co_init
  have hc2 : zSpec 2 (fun k => k = 0) 15 15194 m_X12_init [.inr (.inl (some 0))] [.inl (12, [.inl 0, .inl 0, .inl 0, .inr (.inl none), .inr (.inl none), .inr (.inl none), .inr (.inl none), .inl 0, .inl 0, .inl 0, .inl 0, .inl 0, .inl 0, .inl 0, .inl 0, .inl 0, .inl 0, .inl 0, .inl 0, .inl 0, .inl 0, .inl 0, .inl 0, .inl 0, .inl 0, .inl 0, .inl 0, .inl 0, .inl 0, .inl 0, .inr (.inl none), .inl 0, .inl 0, .inl 0, .inl 0, .inr (.inl none), .inl 0, .inr (.inl none), .inl 0, .inl 0, .inl 0, .inl 0, .inl 0, .inr (.inl none), .inl 0, .inr (.inl none), .inl 0, .inr (.inl none), .inl 0, .inl 0, .inl 0, .inr (.inl none), .inl 0, .inl 0, .inr (.inl none), .inr (.inl none), .inr (.inl none), .inr (.inl none), .inl 0])] (fun r1 w1 => r1 = none ∧ w1 = ziT r0 0 TRf) := t_Rf_init hx1
  have l1 : (ziT z0_Co 0 TCo).length = 76 := by rw [ziT_len]; rfl
  have l2 : (ziT r0 0 TRf).length = 16 := by rw [ziT_len]; rfl
  have q1 := zlC_ziT (s := z0_Co) TCo_lt
  have q2 := zlC_ziT (s := r0) TRf_lt
  show zB m_L_law RLw (FLw b L xs) PLw 0 [some (.inr (.inl (some 999))), none, none, none, none, none, none] [] [] 0 0
  refine zr_new (index := 8) (ci := 11) (N := 7) (v := 0) (fs := [.inr (.inl none), .inr (.inl none), .inr (.inl none), .inr (.inl none), .inr (.inl none), .inr (.inl none), .inr (.inl none)]) dL_law_0 rfl (zall3 (zmem (i := 159) (by decide +kernel) rfl) (zmem (i := 160) (by decide +kernel) rfl) (zmem (i := 127) (by decide +kernel) rfl)) nw_X11 nk_X11 rfl (show ¬ (0 : Nat) = 999 by decide) rfl rfl rfl rfl (Nat.le_of_ble_eq_true rfl) (Nat.le_of_ble_eq_true rfl) ?_
  refine zr_dup dL_law_3 (Or.inl True.intro) ?_
  refine zt_ctorK (v := 0) (w0 := []) (c0 := .inl (11, [.inr (.inl none), .inr (.inl none), .inr (.inl none), .inr (.inl none), .inr (.inl none), .inr (.inl none), .inr (.inl none)])) (as := []) (zrun_I (rest := [.inr (.inl (some 0))]) dL_law_4 mi_L_62 rfl (by decide) (by decide) rfl (Nat.le_of_ble_eq_true rfl)) hc1 rfl rfl rfl (fun k hk => Or.inr hk) rfl rfl rfl rfl (by rw [l1]; exact q1) (by rw [l1]; decide) (by decide) (Nat.le_of_ble_eq_true rfl) (Nat.le_of_ble_eq_true rfl) ?_
  rw [zmap_sh0]
  show zB m_L_law RLw (FLw b L xs) PLw 7 [some (.inr (.inl (some 999))), none, none, none, none, none, none] [.inr (.inl (some 0))] (ziT z0_Co 0 TCo) 76 11526
  refine zr_astore ⟨_, dL_law_7, rfl⟩ (by decide) rfl ?_
  refine zr_new (index := 63) (ci := 12) (N := 59) (v := 76) (fs := [.inl 0, .inl 0, .inl 0, .inr (.inl none), .inr (.inl none), .inr (.inl none), .inr (.inl none), .inl 0, .inl 0, .inl 0, .inl 0, .inl 0, .inl 0, .inl 0, .inl 0, .inl 0, .inl 0, .inl 0, .inl 0, .inl 0, .inl 0, .inl 0, .inl 0, .inl 0, .inl 0, .inl 0, .inl 0, .inl 0, .inl 0, .inl 0, .inr (.inl none), .inl 0, .inl 0, .inl 0, .inl 0, .inr (.inl none), .inl 0, .inr (.inl none), .inl 0, .inl 0, .inl 0, .inl 0, .inl 0, .inr (.inl none), .inl 0, .inr (.inl none), .inl 0, .inr (.inl none), .inl 0, .inl 0, .inl 0, .inr (.inl none), .inl 0, .inl 0, .inr (.inl none), .inr (.inl none), .inr (.inl none), .inr (.inl none), .inl 0]) dL_law_8 rfl (zall3 (zmem (i := 1598) (by decide +kernel) rfl) (zmem (i := 1599) (by decide +kernel) rfl) (zmem (i := 140) (by decide +kernel) rfl)) nw_X12 nk_X12 l1 (show ¬ (76 : Nat) = 999 by decide) rfl rfl (zfW_of fun c hc => zfC_lt (Nat.le_refl _) (q1 c hc)) rfl (Nat.le_of_ble_eq_true rfl) (Nat.le_of_ble_eq_true rfl) ?_
  refine zr_dup dL_law_11 (Or.inl True.intro) ?_
  show zB m_L_law (zR 2000 601024 7293034) (FLw b L xs) PLw 12 [some (.inr (.inl (some 999))), some (.inr (.inl (some 0))), none, none, none, none, none] [.inr (.inl (some 76)), .inr (.inl (some 76))] (ziT z0_Co 0 TCo ++ [.inl (12, [.inl 0, .inl 0, .inl 0, .inr (.inl none), .inr (.inl none), .inr (.inl none), .inr (.inl none), .inl 0, .inl 0, .inl 0, .inl 0, .inl 0, .inl 0, .inl 0, .inl 0, .inl 0, .inl 0, .inl 0, .inl 0, .inl 0, .inl 0, .inl 0, .inl 0, .inl 0, .inl 0, .inl 0, .inl 0, .inl 0, .inl 0, .inl 0, .inr (.inl none), .inl 0, .inl 0, .inl 0, .inl 0, .inr (.inl none), .inl 0, .inr (.inl none), .inl 0, .inl 0, .inl 0, .inl 0, .inl 0, .inr (.inl none), .inl 0, .inr (.inl none), .inl 0, .inr (.inl none), .inl 0, .inl 0, .inl 0, .inr (.inl none), .inl 0, .inl 0, .inr (.inl none), .inr (.inl none), .inr (.inl none), .inr (.inl none), .inl 0])]) 77 11585
  refine zt_ctorK (M := m_L_law) (F := FLw b L xs) (P := PLw) (pc := 12) (L := [some (.inr (.inl (some 999))), some (.inr (.inl (some 0))), none, none, none, none, none]) (st := [.inr (.inl (some 76)), .inr (.inl (some 76))]) (rest := [.inr (.inl (some 76))]) (d := 2000) (mc := 601024) (ms := 7293034) (uc := 77) (us := 11585) (v := 76) (w0 := ziT z0_Co 0 TCo) (c0 := .inl (12, [.inl 0, .inl 0, .inl 0, .inr (.inl none), .inr (.inl none), .inr (.inl none), .inr (.inl none), .inl 0, .inl 0, .inl 0, .inl 0, .inl 0, .inl 0, .inl 0, .inl 0, .inl 0, .inl 0, .inl 0, .inl 0, .inl 0, .inl 0, .inl 0, .inl 0, .inl 0, .inl 0, .inl 0, .inl 0, .inl 0, .inl 0, .inl 0, .inr (.inl none), .inl 0, .inl 0, .inl 0, .inl 0, .inr (.inl none), .inl 0, .inr (.inl none), .inl 0, .inl 0, .inl 0, .inl 0, .inl 0, .inr (.inl none), .inl 0, .inr (.inl none), .inl 0, .inr (.inl none), .inl 0, .inl 0, .inl 0, .inr (.inl none), .inl 0, .inl 0, .inr (.inl none), .inr (.inl none), .inr (.inl none), .inr (.inl none), .inl 0])) (as := []) (zrun_I (rest := [.inr (.inl (some 76))]) dL_law_12 mi_L_65 rfl (by decide) (by decide) rfl (Nat.le_of_ble_eq_true rfl)) hc2 rfl rfl l1 (fun k hk => Or.inr hk) rfl rfl (zlW_of (zlC_ziT TCo_lt77)) rfl (by rw [l2]; exact q2) (by rw [l2]; decide) (by decide) (Nat.le_of_ble_eq_true rfl) (Nat.le_of_ble_eq_true rfl) ?_
  show zB m_L_law RLw (FLw b L xs) PLw 15 [some (.inr (.inl (some 999))), some (.inr (.inl (some 0))), none, none, none, none, none] [.inr (.inl (some 76))] (ziT z0_Co 0 TCo ++ (ziT r0 0 TRf).map (zrC (zsh 76))) 92 26779
  refine zr_astore ⟨_, dL_law_15, rfl⟩ (by decide) rfl ?_
  refine zr_iconst dL_law_16 (by decide) ?_
  refine zr_newa (len := 1) (v := 92) (tk := 2) dL_law_17 (ty := .long) rfl (fun _ => rfl) (fun _ _ h => h) (fun _ => by simp [zeA, vp_cell, defaultValue]) ⟨by decide, fun _ _ _ => (by decide : zin8 0)⟩ (zmem (i := 2120) (by decide +kernel) rfl) (by decide) rfl (by decide) (by rw [List.length_append, List.length_map, l1, l2]) (show ¬ (92 : Nat) = 999 by decide) rfl rfl (zfW_of fun c hc => by
    rcases List.mem_append.mp hc with h | h
    · exact zfC_lt (by decide) (q1 c h)
    · obtain ⟨c0, h0, rfl⟩ := List.mem_map.mp h
      have h1 := q2 c0 h0
      cases c0 with
      | inl o => exact zlS_sh (m := 16) (by decide) h1
      | inr a => rfl) (Nat.le_of_ble_eq_true rfl) (Nat.le_of_ble_eq_true rfl) ?_
  refine zr_astore ⟨_, dL_law_19, rfl⟩ (by decide) rfl ?_
  refine zr_iconst dL_law_20 (by decide) ?_
  refine zr_storew dL_law_21 (by decide) rfl ?_
  have ew : ziT z0_Co 0 TCo ++ (ziT r0 0 TRf).map (zrC (zsh 76)) ++ [.inr (2, 1, fun _ => 0)] = zLwld z0_Co r0 (fun _ => 0) := List.append_assoc _ _ _
  rw [ew]
  have hz : zpot 42 z0_Co ≤ 131072 := by unfold zpot; omega
  exact law_loop hLm 513 0 0 z0_Co r0 _ _ _ rfl rfl hx2 (by show 93 + _ ≤ _; omega) (by show 26780 + _ ≤ _; omega)
/-! the machine at the law's entry -/
theorem zArr {s : State} {args : Array Value} {ty : FieldType} (h : (Cond.arrayClass ty).before args s = true) : ∃ cA, ArrOfT s cA ty ∧ s.vm.findClass ("[" ++ ty.toString) = some cA := by
  obtain ⟨c, k, comp, h1, h2, h3⟩ := Cond.arrayClass_spec h
  exact ⟨c, fun n z => ⟨fun k h => (by cases h), k, h2, comp, h3⟩, h1⟩
theorem zKn {s : State} {args : Array Value} (hts : ∀ w ∈ lw_tbl, w.before args s = true) : ∃ G : zG, va_K (zD G) zCl (zTy G) s := by
  have hz : ∀ w ∈ zGW, w.before args s = true := fun w hw => hts w (List.mem_filter.mp hw).1
  obtain ⟨c0, s0, h0⟩ := u_known (C := RX0) (T := TX0) (N := 3) (n := 3) hz (zcl_in 0 RX0 TX0 3 rfl) (hts _ (List.mem_of_getElem? (i := 168) (by decide +kernel)))
  obtain ⟨c1, s1, h1⟩ := u_known (C := RX1) (T := TX1) (N := 5) (n := 5) hz (zcl_in 1 RX1 TX1 5 rfl) (hts _ (List.mem_of_getElem? (i := 319) (by decide +kernel)))
  obtain ⟨c2, s2, h2⟩ := u_known (C := RX2) (T := TX2) (N := 3) (n := 3) hz (zcl_in 2 RX2 TX2 3 rfl) (hts _ (List.mem_of_getElem? (i := 263) (by decide +kernel)))
  obtain ⟨c3, s3, h3⟩ := u_known (C := RX3) (T := TX3) (N := 9) (n := 9) hz (zcl_in 3 RX3 TX3 9 rfl) (hts _ (List.mem_of_getElem? (i := 188) (by decide +kernel)))
  obtain ⟨c4, s4, h4⟩ := u_known (C := RX4) (T := TX4) (N := 12) (n := 12) hz (zcl_in 4 RX4 TX4 12 rfl) (hts _ (List.mem_of_getElem? (i := 237) (by decide +kernel)))
  obtain ⟨c5, s5, h5⟩ := u_known (C := RX5) (T := TX5) (N := 6) (n := 6) hz (zcl_in 5 RX5 TX5 6 rfl) (hts _ (List.mem_of_getElem? (i := 349) (by decide +kernel)))
  obtain ⟨c6, s6, h6⟩ := u_known (C := RX6) (T := TX6) (N := 4) (n := 4) hz (zcl_in 6 RX6 TX6 4 rfl) (hts _ (List.mem_of_getElem? (i := 243) (by decide +kernel)))
  obtain ⟨c7, s7, h7⟩ := u_known (C := RX7) (T := TX7) (N := 8) (n := 8) hz (zcl_in 7 RX7 TX7 8 rfl) (hts _ (List.mem_of_getElem? (i := 384) (by decide +kernel)))
  obtain ⟨c8, s8, h8⟩ := u_known (C := RX8) (T := TX8) (N := 14) (n := 14) hz (zcl_in 8 RX8 TX8 14 rfl) (hts _ (List.mem_of_getElem? (i := 231) (by decide +kernel)))
  obtain ⟨c9, s9, h9⟩ := u_known (C := RX9) (T := TX9) (N := 3) (n := 3) hz (zcl_in 9 RX9 TX9 3 rfl) (hts _ (List.mem_of_getElem? (i := 496) (by decide +kernel)))
  obtain ⟨c10, s10, h10⟩ := u_known (C := RX10) (T := TX10) (N := 3) (n := 3) hz (zcl_in 10 RX10 TX10 3 rfl) (hts _ (List.mem_of_getElem? (i := 480) (by decide +kernel)))
  obtain ⟨c11, s11, h11⟩ := u_known (C := RX11) (T := TX11) (N := 7) (n := 7) hz (zcl_in 11 RX11 TX11 7 rfl) (hts _ (List.mem_of_getElem? (i := 160) (by decide +kernel)))
  obtain ⟨c12, s12, h12⟩ := u_known (C := RX12) (T := TX12) (N := 59) (n := 59) hz (zcl_in 12 RX12 TX12 59 rfl) (hts _ (List.mem_of_getElem? (i := 1599) (by decide +kernel)))
  obtain ⟨a0, ha0, hb0⟩ := zArr (ty := .int) (hts _ (List.mem_of_getElem? (i := 186) (by decide +kernel)))
  obtain ⟨a1, ha1, hb1⟩ := zArr (ty := .boolean) (hts _ (List.mem_of_getElem? (i := 261) (by decide +kernel)))
  obtain ⟨a2, ha2, hb2⟩ := zArr (ty := .long) (hts _ (List.mem_of_getElem? (i := 2120) (by decide +kernel)))
  refine ⟨(fun k => if k = 0 then c0 else if k = 1 then c1 else if k = 2 then c2 else if k = 3 then c3 else if k = 4 then c4 else if k = 5 then c5 else if k = 6 then c6 else if k = 7 then c7 else if k = 8 then c8 else if k = 9 then c9 else if k = 10 then c10 else if k = 11 then c11 else c12, fun k => if k = 0 then s0 else if k = 1 then s1 else if k = 2 then s2 else if k = 3 then s3 else if k = 4 then s4 else if k = 5 then s5 else if k = 6 then s6 else if k = 7 then s7 else if k = 8 then s8 else if k = 9 then s9 else if k = 10 then s10 else if k = 11 then s11 else s12, fun k => if k = 0 then a0 else if k = 1 then a1 else a2), ?_, ?_⟩
  · intro k q hq
    match k, hq with
    | 0, hq => cases hq; exact h0
    | 1, hq => cases hq; exact h1
    | 2, hq => cases hq; exact h2
    | 3, hq => cases hq; exact h3
    | 4, hq => cases hq; exact h4
    | 5, hq => cases hq; exact h5
    | 6, hq => cases hq; exact h6
    | 7, hq => cases hq; exact h7
    | 8, hq => cases hq; exact h8
    | 9, hq => cases hq; exact h9
    | 10, hq => cases hq; exact h10
    | 11, hq => cases hq; exact h11
    | 12, hq => cases hq; exact h12
    | k + 13, hq => simp [zCl] at hq
  · intro k q hq
    match k, hq with
    | 0, hq => cases hq; exact ⟨ha0, hb0⟩
    | 1, hq => cases hq; exact ⟨ha1, hb1⟩
    | 2, hq => cases hq; exact ⟨ha2, hb2⟩
    | k + 3, hq => simp [zTy] at hq
theorem zThS_of {s : State} {args : Array Value} {own text : String} {k : Nat} {cur : ClassId} (hcur : s.vm.findClass own = some cur) (h : (Cond.stringRef own k text).before args s = true) : zThS own k text s := by
  obtain ⟨k', cf, j, a, -, -, -, -, -, hev⟩ := Cond.stringRef_spec hcur h
  exact ⟨a, vk_R.of h hev⟩
theorem zLaw_at {s : State} {l : Launch} {b : Addr} (hflags : l.flags = flags0) (hts : ∀ w ∈ lw_tbl, w.before #[Value.ref b] s = true) (hgv : (Jvm.Cond.and given_1 narrow_1).before #[Value.ref b] s = true) : zLw l (fun q => s.heap.size ≤ q) s := by
  have hs := flat_of_before _ hgv
  have hA : ∀ a : Nat, a < s.heap.size → ¬ s.heap.size ≤ a := fun a h => Nat.not_le.mpr h
  obtain ⟨cur, -, hcur, -⟩ := Cond.instantiable_spec (show (Cond.instantiable "InputrowConsole" 7).before #[Value.ref b] s = true from (hts _ (List.mem_of_getElem? (i := 160) (by decide +kernel))))
  refine ⟨⟨?_, vx_Zqof (hts _ (List.mem_of_getElem? (i := 718) (by decide +kernel))) (hts _ (List.mem_of_getElem? (i := 141) (by decide +kernel))) (hs _ (by decide +kernel)) hA, vx_Zqof (hts _ (List.mem_of_getElem? (i := 720) (by decide +kernel))) (hts _ (List.mem_of_getElem? (i := 141) (by decide +kernel))) (hs _ (by decide +kernel)) hA, fun w hw => ?_⟩, ?_, fun q hq => ?_, fun q hq => ?_⟩
  · unfold Launch.stackTraces
    rw [hflags]
    decide +kernel
  · exact vx_ot_at (State.WarmedH.refl s) rfl (zot_vx (List.mem_filter.mp hw).2) (hts w (List.mem_filter.mp hw).1)
  · have harr : (Cond.arrayOf (.static "InputrowConsole" "KEY_LETTERS" "[C") .char).before #[Value.ref b] s = true := hs _ (by decide +kernel)
    have hlen : (Term.length (.static "InputrowConsole" "KEY_LETTERS" "[C")).eval #[Value.ref b] s none [] s = some (.int (Int32.ofNat 6)) := va_eqt (z := 6) (hs _ (by decide +kernel))
    have hel : ∀ j : Nat, j < 6 → (Term.elem (.static "InputrowConsole" "KEY_LETTERS" "[C") (.int (Int32.ofNat j))).eval #[Value.ref b] s none [] s = some (zKL j) := by
      intro j hj
      match j, hj with
      | 0, _ => exact va_eqt (z := 65) (hs _ (by decide +kernel))
      | 1, _ => exact va_eqt (z := 66) (hs _ (by decide +kernel))
      | 2, _ => exact va_eqt (z := 67) (hs _ (by decide +kernel))
      | 3, _ => exact va_eqt (z := 68) (hs _ (by decide +kernel))
      | 4, _ => exact va_eqt (z := 72) (hs _ (by decide +kernel))
      | 5, _ => exact va_eqt (z := 70) (hs _ (by decide +kernel))
    obtain ⟨t, ht, hT⟩ := va_Tof (N := 6) (f := zKL) (by decide) harr hlen hel hA
    exact ⟨t, va_Zof (hts _ (List.mem_of_getElem? (i := 1390) (by decide +kernel))) (hts _ (List.mem_of_getElem? (i := 127) (by decide +kernel))) ht hA, hT⟩
  · simp only [zTx, List.mem_cons, List.not_mem_nil, or_false] at hq
    rcases hq with rfl | rfl | rfl | rfl | rfl | rfl | rfl | rfl | rfl | rfl | rfl | rfl
    · exact zThS_of hcur (hts _ (List.mem_of_getElem? (i := 1327) (by decide +kernel)))
    · exact zThS_of hcur (hts _ (List.mem_of_getElem? (i := 1346) (by decide +kernel)))
    · exact zThS_of hcur (hts _ (List.mem_of_getElem? (i := 1364) (by decide +kernel)))
    · exact zThS_of hcur (hts _ (List.mem_of_getElem? (i := 1387) (by decide +kernel)))
    · exact zThS_of hcur (hts _ (List.mem_of_getElem? (i := 1388) (by decide +kernel)))
    · exact zThS_of hcur (hts _ (List.mem_of_getElem? (i := 1400) (by decide +kernel)))
    · exact zThS_of hcur (hts _ (List.mem_of_getElem? (i := 1422) (by decide +kernel)))
    · exact zThS_of hcur (hts _ (List.mem_of_getElem? (i := 1426) (by decide +kernel)))
    · exact zThS_of hcur (hts _ (List.mem_of_getElem? (i := 1434) (by decide +kernel)))
    · exact zThS_of hcur (hts _ (List.mem_of_getElem? (i := 1565) (by decide +kernel)))
    · exact zThS_of hcur (hts _ (List.mem_of_getElem? (i := 1575) (by decide +kernel)))
    · exact zThS_of hcur (hts _ (List.mem_of_getElem? (i := 1591) (by decide +kernel)))
  · simp only [zNp, List.mem_cons, List.not_mem_nil, or_false] at hq
    rcases hq with rfl | rfl
    · exact va_Nc.of (hs _ (by decide +kernel))
    · exact va_Nc.of (hs _ (by decide +kernel))
/-- THE LAW, from its entry -/
theorem whole_start {p : Program} {e : Env} {s : State} {m : MethodId} {below : List Frame} {meth : Method} {c : Code} (l : Launch) (hflags : l.flags = flags0) {b L : Nat} {xs : Nat → Int32} (hL : L ≤ 2560) (C0 : lw_At p s m meth c b L xs) : W p l e room_1 s m #[Value.ref b] below meth c s.heap [] 0 0 (lw_Z below #[Value.ref b] s) (entryFrame m ([Value.ref b] : List Value).toArray 7) := by
  obtain ⟨hx, hb, hr, hml, hown, hts, hX, hbl, hlocks, hgv⟩ := C0
  obtain ⟨G, hK⟩ := zKn hts
  refine zW_sub (R' := RLw) (Nat.le_of_ble_eq_true rfl) (Nat.le_of_ble_eq_true rfl) (Nat.le_refl _) (Nat.le_refl _) ?_
  have ho : ∀ v ∈ ([.inr (.inl (some 999))] : List zAV), zokN v := fun v hv => by
    rw [List.mem_singleton] at hv
    rw [hv]
    exact True.intro
  show W p l e RLw s m #[Value.ref b] below meth c s.heap [] 0 0 _ (entryFrame m (([.inr (.inl (some 999))] : List zAV).map (zeV (fun _ => b))).toArray 7)
  rw [lg_entry_eq]
  refine zW_imp (fun t k => k ⟨zLaw_at hflags hts hgv, hX, hbl, fun q h => h⟩ rfl) (law_start (b := b) (xs := xs) hL G p l e s m #[Value.ref b] below meth c (fun q => s.heap.size ≤ q) (fun _ => b) (fun _ => b) s.heap [] _ ⟨⟨hx, hb, hml, hr, hlocks, hown, fun w hw => hts w (List.mem_filter.mp hw).1, ⟨fun q => absurd q (by decide), fun q => absurd rfl q⟩, hK, fun q h => h, fun w hw => ?_⟩, fun _ _ => rfl, fun v hv => ?_, zokS.nil, fun _ h => absurd h List.not_mem_nil, zhas_entry ho (by decide), fun k q h => by simp [zeW] at h, ?_, va_S.rf⟩)
  · have hw1 := List.mem_filter.mp hw
    obtain ⟨a, i, x, b', rfl⟩ := zNestb_spec hw1.2
    exact va_Nw.of rfl (hts _ hw1.1)
  · obtain ⟨k, hk⟩ := List.getElem?_of_mem hv
    exact ho v (List.mem_of_getElem? (zaL_at hk))
  · exact va_D_zeW.mpr ⟨fun i j h => absurd h (Nat.not_lt_zero i), fun i h => absurd h (Nat.not_lt_zero i)⟩
