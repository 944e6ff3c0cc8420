abbrev m_X0_init : zM := (yX0_init, cX0_init, 2, none)
theorem ml_X0_9 : zMx RX0 9 := zall4 (zmem (i := 173) (by decide +kernel) rfl) (zmem (i := 174) (by decide +kernel) rfl) (zmem (i := 129) (by decide +kernel) rfl) (zmem (i := 175) (by decide +kernel) rfl)
abbrev m_X1_init : zM := (yX1_init, cX1_init, 1, none)
abbrev m_X5_init : zM := (yX5_init, cX5_init, 1, none)
abbrev m_X2_init : zM := (yX2_init, cX2_init, 1, none)
abbrev m_X6_init : zM := (yX6_init, cX6_init, 1, none)
abbrev m_X3_init : zM := (yX3_init, cX3_init, 1, none)
theorem nw_X0 : ∀ (ad : Nat → Nat) (ty : Nat → FieldType), (∀ k, k < 3 → parseFieldDescriptor (TX0 k).2.2.1 = some (ty k)) → ∀ j, j < 3 → defaultValue (ty j) = vp_V ([.inr (.inl none), .inl 0, .inl 0].map (zeV ad)) j := by
  intro ad ty h j hj
  rcases (by omega : j = 0 ∨ j = 1 ∨ j = 2) with rfl | rfl | rfl
  · have e := h 0 (by decide)
    rw [show parseFieldDescriptor (TX0 0).2.2.1 = some (.array .int) by decide +kernel] at e
    rw [← Option.some.inj e]
    rfl
  · have e := h 1 (by decide)
    rw [show parseFieldDescriptor (TX0 1).2.2.1 = some (.int) by decide +kernel] at e
    rw [← Option.some.inj e]
    rfl
  · have e := h 2 (by decide)
    rw [show parseFieldDescriptor (TX0 2).2.2.1 = some (.int) by decide +kernel] at e
    rw [← Option.some.inj e]
    rfl
theorem nk_X0 : ∀ v ∈ ([.inr (.inl none), .inl 0, .inl 0] : List zAV), zokN v := by
  intro v hv
  simp only [List.mem_cons, List.not_mem_nil, or_false] at hv
  rcases hv with rfl | rfl | rfl <;> first | exact True.intro | exact zin0
theorem mi_X3_11 : zLI RX3 11 1 m_X0_init := ⟨zall3 (zmem (i := 194) (by decide +kernel) rfl) (zmem (i := 170) (by decide +kernel) rfl) (zmem (i := 128) (by decide +kernel) rfl), (zmem (i := 171) (by decide +kernel) rfl), rfl, rfl, by decide +kernel⟩
abbrev m_X7_init : zM := (yX7_init, cX7_init, 1, none)
theorem mi_X7_11 : zLI RX7 11 1 m_X0_init := ⟨zall3 (zmem (i := 390) (by decide +kernel) rfl) (zmem (i := 170) (by decide +kernel) rfl) (zmem (i := 128) (by decide +kernel) rfl), (zmem (i := 171) (by decide +kernel) rfl), rfl, rfl, by decide +kernel⟩
abbrev m_X4_init : zM := (yX4_init, cX4_init, 1, none)
theorem nw_X6 : ∀ (ad : Nat → Nat) (ty : Nat → FieldType), (∀ k, k < 4 → parseFieldDescriptor (TX6 k).2.2.1 = some (ty k)) → ∀ j, j < 4 → defaultValue (ty j) = vp_V ([.inr (.inl none), .inr (.inl none), .inl 0, .inl 0].map (zeV ad)) j := by
  intro ad ty h j hj
  rcases (by omega : j = 0 ∨ j = 1 ∨ j = 2 ∨ j = 3) with rfl | rfl | rfl | rfl
  · have e := h 0 (by decide)
    rw [show parseFieldDescriptor (TX6 0).2.2.1 = some (.array .int) by decide +kernel] at e
    rw [← Option.some.inj e]
    rfl
  · have e := h 1 (by decide)
    rw [show parseFieldDescriptor (TX6 1).2.2.1 = some (.array .boolean) by decide +kernel] at e
    rw [← Option.some.inj e]
    rfl
  · have e := h 2 (by decide)
    rw [show parseFieldDescriptor (TX6 2).2.2.1 = some (.int) by decide +kernel] at e
    rw [← Option.some.inj e]
    rfl
  · have e := h 3 (by decide)
    rw [show parseFieldDescriptor (TX6 3).2.2.1 = some (.int) by decide +kernel] at e
    rw [← Option.some.inj e]
    rfl
theorem nk_X6 : ∀ v ∈ ([.inr (.inl none), .inr (.inl none), .inl 0, .inl 0] : List zAV), zokN v := by
  intro v hv
  simp only [List.mem_cons, List.not_mem_nil, or_false] at hv
  rcases hv with rfl | rfl | rfl | rfl <;> first | exact True.intro | exact zin0
theorem mi_X4_11 : zLIN RX4 11 0 "InputrowConsole" m_X6_init := ⟨znest (i := 244) (by decide +kernel) rfl, zall2 (zmem (i := 245) (by decide +kernel) rfl) (zmem (i := 133) (by decide +kernel) rfl), (zmem (i := 246) (by decide +kernel) rfl), rfl, rfl, by decide +kernel⟩
theorem nw_X2 : ∀ (ad : Nat → Nat) (ty : Nat → FieldType), (∀ k, k < 3 → parseFieldDescriptor (TX2 k).2.2.1 = some (ty k)) → ∀ j, j < 3 → defaultValue (ty j) = vp_V ([.inr (.inl none), .inr (.inl none), .inl 0].map (zeV ad)) j := by
  intro ad ty h j hj
  rcases (by omega : j = 0 ∨ j = 1 ∨ j = 2) with rfl | rfl | rfl
  · have e := h 0 (by decide)
    rw [show parseFieldDescriptor (TX2 0).2.2.1 = some (.array .int) by decide +kernel] at e
    rw [← Option.some.inj e]
    rfl
  · have e := h 1 (by decide)
    rw [show parseFieldDescriptor (TX2 1).2.2.1 = some (.array .boolean) by decide +kernel] at e
    rw [← Option.some.inj e]
    rfl
  · have e := h 2 (by decide)
    rw [show parseFieldDescriptor (TX2 2).2.2.1 = some (.int) by decide +kernel] at e
    rw [← Option.some.inj e]
    rfl
theorem nk_X2 : ∀ v ∈ ([.inr (.inl none), .inr (.inl none), .inl 0] : List zAV), zokN v := by
  intro v hv
  simp only [List.mem_cons, List.not_mem_nil, or_false] at hv
  rcases hv with rfl | rfl | rfl <;> first | exact True.intro | exact zin0
theorem mi_X4_20 : zLIN RX4 20 0 "InputrowConsole" m_X2_init := ⟨znest (i := 264) (by decide +kernel) rfl, zall2 (zmem (i := 265) (by decide +kernel) rfl) (zmem (i := 134) (by decide +kernel) rfl), (zmem (i := 266) (by decide +kernel) rfl), rfl, rfl, by decide +kernel⟩
abbrev m_X10_init : zM := (yX10_init, cX10_init, 1, none)
abbrev m_X9_init : zM := (yX9_init, cX9_init, 1, none)
theorem mi_X9_11 : zLIN RX9 11 0 "InputrowConsole" m_X6_init := ⟨znest (i := 502) (by decide +kernel) rfl, zall2 (zmem (i := 245) (by decide +kernel) rfl) (zmem (i := 133) (by decide +kernel) rfl), (zmem (i := 246) (by decide +kernel) rfl), rfl, rfl, by decide +kernel⟩
abbrev m_X8_init : zM := (yX8_init, cX8_init, 1, none)
theorem nw_X4 : ∀ (ad : Nat → Nat) (ty : Nat → FieldType), (∀ k, k < 12 → parseFieldDescriptor (TX4 k).2.2.1 = some (ty k)) → ∀ j, j < 12 → defaultValue (ty j) = vp_V ([.inr (.inl none), .inr (.inl none), .inr (.inl none), .inr (.inl none), .inr (.inl none), .inr (.inl none), .inl 0, .inl 0, .inl 0, .inl 0, .inl 0, .inl 0].map (zeV ad)) j := by
  intro ad ty h j hj
  rcases (by omega : j = 0 ∨ j = 1 ∨ j = 2 ∨ j = 3 ∨ j = 4 ∨ j = 5 ∨ j = 6 ∨ j = 7 ∨ j = 8 ∨ j = 9 ∨ j = 10 ∨ j = 11) with rfl | rfl | rfl | rfl | rfl | rfl | rfl | rfl | rfl | rfl | rfl | rfl
  · have e := h 0 (by decide)
    rw [show parseFieldDescriptor (TX4 0).2.2.1 = some (.object "InputrowConsole$Picture") by decide +kernel] at e
    rw [← Option.some.inj e]
    rfl
  · have e := h 1 (by decide)
    rw [show parseFieldDescriptor (TX4 1).2.2.1 = some (.object "InputrowConsole$History") by decide +kernel] at e
    rw [← Option.some.inj e]
    rfl
  · have e := h 2 (by decide)
    rw [show parseFieldDescriptor (TX4 2).2.2.1 = some (.array .int) by decide +kernel] at e
    rw [← Option.some.inj e]
    rfl
  · have e := h 3 (by decide)
    rw [show parseFieldDescriptor (TX4 3).2.2.1 = some (.array .int) by decide +kernel] at e
    rw [← Option.some.inj e]
    rfl
  · have e := h 4 (by decide)
    rw [show parseFieldDescriptor (TX4 4).2.2.1 = some (.array .int) by decide +kernel] at e
    rw [← Option.some.inj e]
    rfl
  · have e := h 5 (by decide)
    rw [show parseFieldDescriptor (TX4 5).2.2.1 = some (.array .boolean) by decide +kernel] at e
    rw [← Option.some.inj e]
    rfl
  · have e := h 6 (by decide)
    rw [show parseFieldDescriptor (TX4 6).2.2.1 = some (.int) by decide +kernel] at e
    rw [← Option.some.inj e]
    rfl
  · have e := h 7 (by decide)
    rw [show parseFieldDescriptor (TX4 7).2.2.1 = some (.int) by decide +kernel] at e
    rw [← Option.some.inj e]
    rfl
  · have e := h 8 (by decide)
    rw [show parseFieldDescriptor (TX4 8).2.2.1 = some (.int) by decide +kernel] at e
    rw [← Option.some.inj e]
    rfl
  · have e := h 9 (by decide)
    rw [show parseFieldDescriptor (TX4 9).2.2.1 = some (.int) by decide +kernel] at e
    rw [← Option.some.inj e]
    rfl
  · have e := h 10 (by decide)
    rw [show parseFieldDescriptor (TX4 10).2.2.1 = some (.int) by decide +kernel] at e
    rw [← Option.some.inj e]
    rfl
  · have e := h 11 (by decide)
    rw [show parseFieldDescriptor (TX4 11).2.2.1 = some (.boolean) by decide +kernel] at e
    rw [← Option.some.inj e]
    rfl
theorem nk_X4 : ∀ v ∈ ([.inr (.inl none), .inr (.inl none), .inr (.inl none), .inr (.inl none), .inr (.inl none), .inr (.inl none), .inl 0, .inl 0, .inl 0, .inl 0, .inl 0, .inl 0] : List zAV), zokN v := by
  intro v hv
  simp only [List.mem_cons, List.not_mem_nil, or_false] at hv
  rcases hv with rfl | rfl | rfl | rfl | rfl | rfl | rfl | rfl | rfl | rfl | rfl | rfl <;> first | exact True.intro | exact zin0
theorem mi_X8_11 : zLIN RX8 11 0 "InputrowConsole" m_X4_init := ⟨znest (i := 238) (by decide +kernel) rfl, zall2 (zmem (i := 239) (by decide +kernel) rfl) (zmem (i := 132) (by decide +kernel) rfl), (zmem (i := 240) (by decide +kernel) rfl), rfl, rfl, by decide +kernel⟩
theorem nw_X1 : ∀ (ad : Nat → Nat) (ty : Nat → FieldType), (∀ k, k < 5 → parseFieldDescriptor (TX1 k).2.2.1 = some (ty k)) → ∀ j, j < 5 → defaultValue (ty j) = vp_V ([.inl 0, .inl 0, .inl 0, .inl 0, .inl 0].map (zeV ad)) j := by
  intro ad ty h j hj
  rcases (by omega : j = 0 ∨ j = 1 ∨ j = 2 ∨ j = 3 ∨ j = 4) with rfl | rfl | rfl | rfl | rfl
  · have e := h 0 (by decide)
    rw [show parseFieldDescriptor (TX1 0).2.2.1 = some (.int) by decide +kernel] at e
    rw [← Option.some.inj e]
    rfl
  · have e := h 1 (by decide)
    rw [show parseFieldDescriptor (TX1 1).2.2.1 = some (.int) by decide +kernel] at e
    rw [← Option.some.inj e]
    rfl
  · have e := h 2 (by decide)
    rw [show parseFieldDescriptor (TX1 2).2.2.1 = some (.boolean) by decide +kernel] at e
    rw [← Option.some.inj e]
    rfl
  · have e := h 3 (by decide)
    rw [show parseFieldDescriptor (TX1 3).2.2.1 = some (.int) by decide +kernel] at e
    rw [← Option.some.inj e]
    rfl
  · have e := h 4 (by decide)
    rw [show parseFieldDescriptor (TX1 4).2.2.1 = some (.boolean) by decide +kernel] at e
    rw [← Option.some.inj e]
    rfl
theorem nk_X1 : ∀ v ∈ ([.inl 0, .inl 0, .inl 0, .inl 0, .inl 0] : List zAV), zokN v := by
  intro v hv
  simp only [List.mem_cons, List.not_mem_nil, or_false] at hv
  rcases hv with rfl | rfl | rfl | rfl | rfl <;> first | exact True.intro | exact zin0
theorem mi_X8_20 : zLIN RX8 20 0 "InputrowConsole" m_X1_init := ⟨znest (i := 320) (by decide +kernel) rfl, zall2 (zmem (i := 321) (by decide +kernel) rfl) (zmem (i := 135) (by decide +kernel) rfl), (zmem (i := 322) (by decide +kernel) rfl), rfl, rfl, by decide +kernel⟩
theorem nw_X5 : ∀ (ad : Nat → Nat) (ty : Nat → FieldType), (∀ k, k < 6 → parseFieldDescriptor (TX5 k).2.2.1 = some (ty k)) → ∀ j, j < 6 → defaultValue (ty j) = vp_V ([.inl 0, .inl 0, .inl 0, .inl 0, .inl 0, .inl 0].map (zeV ad)) j := by
  intro ad ty h j hj
  rcases (by omega : j = 0 ∨ j = 1 ∨ j = 2 ∨ j = 3 ∨ j = 4 ∨ j = 5) with rfl | rfl | rfl | rfl | rfl | rfl
  · have e := h 0 (by decide)
    rw [show parseFieldDescriptor (TX5 0).2.2.1 = some (.boolean) by decide +kernel] at e
    rw [← Option.some.inj e]
    rfl
  · have e := h 1 (by decide)
    rw [show parseFieldDescriptor (TX5 1).2.2.1 = some (.boolean) by decide +kernel] at e
    rw [← Option.some.inj e]
    rfl
  · have e := h 2 (by decide)
    rw [show parseFieldDescriptor (TX5 2).2.2.1 = some (.boolean) by decide +kernel] at e
    rw [← Option.some.inj e]
    rfl
  · have e := h 3 (by decide)
    rw [show parseFieldDescriptor (TX5 3).2.2.1 = some (.boolean) by decide +kernel] at e
    rw [← Option.some.inj e]
    rfl
  · have e := h 4 (by decide)
    rw [show parseFieldDescriptor (TX5 4).2.2.1 = some (.boolean) by decide +kernel] at e
    rw [← Option.some.inj e]
    rfl
  · have e := h 5 (by decide)
    rw [show parseFieldDescriptor (TX5 5).2.2.1 = some (.boolean) by decide +kernel] at e
    rw [← Option.some.inj e]
    rfl
theorem nk_X5 : ∀ v ∈ ([.inl 0, .inl 0, .inl 0, .inl 0, .inl 0, .inl 0] : List zAV), zokN v := by
  intro v hv
  simp only [List.mem_cons, List.not_mem_nil, or_false] at hv
  rcases hv with rfl | rfl | rfl | rfl | rfl | rfl <;> first | exact True.intro | exact zin0
theorem mi_X8_27 : zLIN RX8 27 0 "InputrowConsole" m_X5_init := ⟨znest (i := 350) (by decide +kernel) rfl, zall2 (zmem (i := 351) (by decide +kernel) rfl) (zmem (i := 136) (by decide +kernel) rfl), (zmem (i := 352) (by decide +kernel) rfl), rfl, rfl, by decide +kernel⟩
theorem nw_X7 : ∀ (ad : Nat → Nat) (ty : Nat → FieldType), (∀ k, k < 8 → parseFieldDescriptor (TX7 k).2.2.1 = some (ty k)) → ∀ j, j < 8 → defaultValue (ty j) = vp_V ([.inr (.inl none), .inr (.inl none), .inr (.inl none), .inl 0, .inl 0, .inl 0, .inl 0, .inl 0].map (zeV ad)) j := by
  intro ad ty h j hj
  rcases (by omega : j = 0 ∨ j = 1 ∨ j = 2 ∨ j = 3 ∨ j = 4 ∨ j = 5 ∨ j = 6 ∨ j = 7) with rfl | rfl | rfl | rfl | rfl | rfl | rfl | rfl
  · have e := h 0 (by decide)
    rw [show parseFieldDescriptor (TX7 0).2.2.1 = some (.object "InputrowConsole$Bytes") by decide +kernel] at e
    rw [← Option.some.inj e]
    rfl
  · have e := h 1 (by decide)
    rw [show parseFieldDescriptor (TX7 1).2.2.1 = some (.object "InputrowConsole$Bytes") by decide +kernel] at e
    rw [← Option.some.inj e]
    rfl
  · have e := h 2 (by decide)
    rw [show parseFieldDescriptor (TX7 2).2.2.1 = some (.array .int) by decide +kernel] at e
    rw [← Option.some.inj e]
    rfl
  · have e := h 3 (by decide)
    rw [show parseFieldDescriptor (TX7 3).2.2.1 = some (.int) by decide +kernel] at e
    rw [← Option.some.inj e]
    rfl
  · have e := h 4 (by decide)
    rw [show parseFieldDescriptor (TX7 4).2.2.1 = some (.int) by decide +kernel] at e
    rw [← Option.some.inj e]
    rfl
  · have e := h 5 (by decide)
    rw [show parseFieldDescriptor (TX7 5).2.2.1 = some (.boolean) by decide +kernel] at e
    rw [← Option.some.inj e]
    rfl
  · have e := h 6 (by decide)
    rw [show parseFieldDescriptor (TX7 6).2.2.1 = some (.boolean) by decide +kernel] at e
    rw [← Option.some.inj e]
    rfl
  · have e := h 7 (by decide)
    rw [show parseFieldDescriptor (TX7 7).2.2.1 = some (.boolean) by decide +kernel] at e
    rw [← Option.some.inj e]
    rfl
theorem nk_X7 : ∀ v ∈ ([.inr (.inl none), .inr (.inl none), .inr (.inl none), .inl 0, .inl 0, .inl 0, .inl 0, .inl 0] : List zAV), zokN v := by
  intro v hv
  simp only [List.mem_cons, List.not_mem_nil, or_false] at hv
  rcases hv with rfl | rfl | rfl | rfl | rfl | rfl | rfl | rfl <;> first | exact True.intro | exact zin0
theorem mi_X8_34 : zLIN RX8 34 0 "InputrowConsole" m_X7_init := ⟨znest (i := 385) (by decide +kernel) rfl, zall2 (zmem (i := 386) (by decide +kernel) rfl) (zmem (i := 137) (by decide +kernel) rfl), (zmem (i := 387) (by decide +kernel) rfl), rfl, rfl, by decide +kernel⟩
theorem mi_X8_41 : zLI RX8 41 1 m_X0_init := ⟨zall3 (zmem (i := 420) (by decide +kernel) rfl) (zmem (i := 170) (by decide +kernel) rfl) (zmem (i := 128) (by decide +kernel) rfl), (zmem (i := 171) (by decide +kernel) rfl), rfl, rfl, by decide +kernel⟩
theorem mi_X8_50 : zLIN RX8 50 0 "InputrowConsole" m_X6_init := ⟨znest (i := 422) (by decide +kernel) rfl, zall2 (zmem (i := 245) (by decide +kernel) rfl) (zmem (i := 133) (by decide +kernel) rfl), (zmem (i := 246) (by decide +kernel) rfl), rfl, rfl, by decide +kernel⟩
abbrev m_X11_init : zM := (yX11_init, cX11_init, 1, none)
theorem mi_X11_11 : zLI RX11 11 1 m_X0_init := ⟨zall3 (zmem (i := 169) (by decide +kernel) rfl) (zmem (i := 170) (by decide +kernel) rfl) (zmem (i := 128) (by decide +kernel) rfl), (zmem (i := 171) (by decide +kernel) rfl), rfl, rfl, by decide +kernel⟩
theorem nw_X3 : ∀ (ad : Nat → Nat) (ty : Nat → FieldType), (∀ k, k < 9 → parseFieldDescriptor (TX3 k).2.2.1 = some (ty k)) → ∀ j, j < 9 → defaultValue (ty j) = vp_V ([.inr (.inl none), .inr (.inl none), .inr (.inl none), .inr (.inl none), .inl 0, .inl 0, .inl 0, .inl 0, .inl 0].map (zeV ad)) j := by
  intro ad ty h j hj
  rcases (by omega : j = 0 ∨ j = 1 ∨ j = 2 ∨ j = 3 ∨ j = 4 ∨ j = 5 ∨ j = 6 ∨ j = 7 ∨ j = 8) with rfl | rfl | rfl | rfl | rfl | rfl | rfl | rfl | rfl
  · have e := h 0 (by decide)
    rw [show parseFieldDescriptor (TX3 0).2.2.1 = some (.object "InputrowConsole$Bytes") by decide +kernel] at e
    rw [← Option.some.inj e]
    rfl
  · have e := h 1 (by decide)
    rw [show parseFieldDescriptor (TX3 1).2.2.1 = some (.object "InputrowConsole$Bytes") by decide +kernel] at e
    rw [← Option.some.inj e]
    rfl
  · have e := h 2 (by decide)
    rw [show parseFieldDescriptor (TX3 2).2.2.1 = some (.object "InputrowConsole$Bytes") by decide +kernel] at e
    rw [← Option.some.inj e]
    rfl
  · have e := h 3 (by decide)
    rw [show parseFieldDescriptor (TX3 3).2.2.1 = some (.object "InputrowConsole$Bytes") by decide +kernel] at e
    rw [← Option.some.inj e]
    rfl
  · have e := h 4 (by decide)
    rw [show parseFieldDescriptor (TX3 4).2.2.1 = some (.boolean) by decide +kernel] at e
    rw [← Option.some.inj e]
    rfl
  · have e := h 5 (by decide)
    rw [show parseFieldDescriptor (TX3 5).2.2.1 = some (.boolean) by decide +kernel] at e
    rw [← Option.some.inj e]
    rfl
  · have e := h 6 (by decide)
    rw [show parseFieldDescriptor (TX3 6).2.2.1 = some (.boolean) by decide +kernel] at e
    rw [← Option.some.inj e]
    rfl
  · have e := h 7 (by decide)
    rw [show parseFieldDescriptor (TX3 7).2.2.1 = some (.int) by decide +kernel] at e
    rw [← Option.some.inj e]
    rfl
  · have e := h 8 (by decide)
    rw [show parseFieldDescriptor (TX3 8).2.2.1 = some (.int) by decide +kernel] at e
    rw [← Option.some.inj e]
    rfl
theorem nk_X3 : ∀ v ∈ ([.inr (.inl none), .inr (.inl none), .inr (.inl none), .inr (.inl none), .inl 0, .inl 0, .inl 0, .inl 0, .inl 0] : List zAV), zokN v := by
  intro v hv
  simp only [List.mem_cons, List.not_mem_nil, or_false] at hv
  rcases hv with rfl | rfl | rfl | rfl | rfl | rfl | rfl | rfl | rfl <;> first | exact True.intro | exact zin0
theorem mi_X11_23 : zLIN RX11 23 0 "InputrowConsole" m_X3_init := ⟨znest (i := 189) (by decide +kernel) rfl, zall2 (zmem (i := 190) (by decide +kernel) rfl) (zmem (i := 130) (by decide +kernel) rfl), (zmem (i := 191) (by decide +kernel) rfl), rfl, rfl, by decide +kernel⟩
theorem nw_X8 : ∀ (ad : Nat → Nat) (ty : Nat → FieldType), (∀ k, k < 14 → parseFieldDescriptor (TX8 k).2.2.1 = some (ty k)) → ∀ j, j < 14 → defaultValue (ty j) = vp_V ([.inr (.inl none), .inr (.inl none), .inr (.inl none), .inr (.inl none), .inr (.inl none), .inr (.inl none), .inr (.inl none), .inr (.inl none), .inl 0, .inl 0, .inl 0, .inl 0, .inl 0, .inl 0].map (zeV ad)) j := by
  intro ad ty h j hj
  rcases (by omega : j = 0 ∨ j = 1 ∨ j = 2 ∨ j = 3 ∨ j = 4 ∨ j = 5 ∨ j = 6 ∨ j = 7 ∨ j = 8 ∨ j = 9 ∨ j = 10 ∨ j = 11 ∨ j = 12 ∨ j = 13) with rfl | rfl | rfl | rfl | rfl | rfl | rfl | rfl | rfl | rfl | rfl | rfl | rfl | rfl
  · have e := h 0 (by decide)
    rw [show parseFieldDescriptor (TX8 0).2.2.1 = some (.object "InputrowConsole$Main") by decide +kernel] at e
    rw [← Option.some.inj e]
    rfl
  · have e := h 1 (by decide)
    rw [show parseFieldDescriptor (TX8 1).2.2.1 = some (.object "InputrowConsole$Cursor") by decide +kernel] at e
    rw [← Option.some.inj e]
    rfl
  · have e := h 2 (by decide)
    rw [show parseFieldDescriptor (TX8 2).2.2.1 = some (.object "InputrowConsole$Modes") by decide +kernel] at e
    rw [← Option.some.inj e]
    rfl
  · have e := h 3 (by decide)
    rw [show parseFieldDescriptor (TX8 3).2.2.1 = some (.object "InputrowConsole$Reader") by decide +kernel] at e
    rw [← Option.some.inj e]
    rfl
  · have e := h 4 (by decide)
    rw [show parseFieldDescriptor (TX8 4).2.2.1 = some (.object "InputrowConsole$Bytes") by decide +kernel] at e
    rw [← Option.some.inj e]
    rfl
  · have e := h 5 (by decide)
    rw [show parseFieldDescriptor (TX8 5).2.2.1 = some (.object "InputrowConsole$Picture") by decide +kernel] at e
    rw [← Option.some.inj e]
    rfl
  · have e := h 6 (by decide)
    rw [show parseFieldDescriptor (TX8 6).2.2.1 = some (.object "InputrowConsole$Cursor") by decide +kernel] at e
    rw [← Option.some.inj e]
    rfl
  · have e := h 7 (by decide)
    rw [show parseFieldDescriptor (TX8 7).2.2.1 = some (.array .boolean) by decide +kernel] at e
    rw [← Option.some.inj e]
    rfl
  · have e := h 8 (by decide)
    rw [show parseFieldDescriptor (TX8 8).2.2.1 = some (.boolean) by decide +kernel] at e
    rw [← Option.some.inj e]
    rfl
  · have e := h 9 (by decide)
    rw [show parseFieldDescriptor (TX8 9).2.2.1 = some (.int) by decide +kernel] at e
    rw [← Option.some.inj e]
    rfl
  · have e := h 10 (by decide)
    rw [show parseFieldDescriptor (TX8 10).2.2.1 = some (.int) by decide +kernel] at e
    rw [← Option.some.inj e]
    rfl
  · have e := h 11 (by decide)
    rw [show parseFieldDescriptor (TX8 11).2.2.1 = some (.int) by decide +kernel] at e
    rw [← Option.some.inj e]
    rfl
  · have e := h 12 (by decide)
    rw [show parseFieldDescriptor (TX8 12).2.2.1 = some (.int) by decide +kernel] at e
    rw [← Option.some.inj e]
    rfl
  · have e := h 13 (by decide)
    rw [show parseFieldDescriptor (TX8 13).2.2.1 = some (.int) by decide +kernel] at e
    rw [← Option.some.inj e]
    rfl
theorem nk_X8 : ∀ v ∈ ([.inr (.inl none), .inr (.inl none), .inr (.inl none), .inr (.inl none), .inr (.inl none), .inr (.inl none), .inr (.inl none), .inr (.inl none), .inl 0, .inl 0, .inl 0, .inl 0, .inl 0, .inl 0] : List zAV), zokN v := by
  intro v hv
  simp only [List.mem_cons, List.not_mem_nil, or_false] at hv
  rcases hv with rfl | rfl | rfl | rfl | rfl | rfl | rfl | rfl | rfl | rfl | rfl | rfl | rfl | rfl <;> first | exact True.intro | exact zin0
theorem mi_X11_30 : zLI RX11 30 0 m_X8_init := ⟨zall3 (zmem (i := 232) (by decide +kernel) rfl) (zmem (i := 233) (by decide +kernel) rfl) (zmem (i := 131) (by decide +kernel) rfl), (zmem (i := 234) (by decide +kernel) rfl), rfl, rfl, by decide +kernel⟩
theorem nw_X10 : ∀ (ad : Nat → Nat) (ty : Nat → FieldType), (∀ k, k < 3 → parseFieldDescriptor (TX10 k).2.2.1 = some (ty k)) → ∀ j, j < 3 → defaultValue (ty j) = vp_V ([.inr (.inl none), .inl 0, .inl 0].map (zeV ad)) j := by
  intro ad ty h j hj
  rcases (by omega : j = 0 ∨ j = 1 ∨ j = 2) with rfl | rfl | rfl
  · have e := h 0 (by decide)
    rw [show parseFieldDescriptor (TX10 0).2.2.1 = some (.array .int) by decide +kernel] at e
    rw [← Option.some.inj e]
    rfl
  · have e := h 1 (by decide)
    rw [show parseFieldDescriptor (TX10 1).2.2.1 = some (.int) by decide +kernel] at e
    rw [← Option.some.inj e]
    rfl
  · have e := h 2 (by decide)
    rw [show parseFieldDescriptor (TX10 2).2.2.1 = some (.int) by decide +kernel] at e
    rw [← Option.some.inj e]
    rfl
theorem nk_X10 : ∀ v ∈ ([.inr (.inl none), .inl 0, .inl 0] : List zAV), zokN v := by
  intro v hv
  simp only [List.mem_cons, List.not_mem_nil, or_false] at hv
  rcases hv with rfl | rfl | rfl <;> first | exact True.intro | exact zin0
theorem mi_X11_37 : zLIN RX11 37 0 "InputrowConsole" m_X10_init := ⟨znest (i := 481) (by decide +kernel) rfl, zall2 (zmem (i := 482) (by decide +kernel) rfl) (zmem (i := 138) (by decide +kernel) rfl), (zmem (i := 483) (by decide +kernel) rfl), rfl, rfl, by decide +kernel⟩
theorem nw_X9 : ∀ (ad : Nat → Nat) (ty : Nat → FieldType), (∀ k, k < 3 → parseFieldDescriptor (TX9 k).2.2.1 = some (ty k)) → ∀ j, j < 3 → defaultValue (ty j) = vp_V ([.inr (.inl none), .inr (.inl none), .inr (.inl none)].map (zeV ad)) j := by
  intro ad ty h j hj
  rcases (by omega : j = 0 ∨ j = 1 ∨ j = 2) with rfl | rfl | rfl
  · have e := h 0 (by decide)
    rw [show parseFieldDescriptor (TX9 0).2.2.1 = some (.object "InputrowConsole$Picture") by decide +kernel] at e
    rw [← Option.some.inj e]
    rfl
  · have e := h 1 (by decide)
    rw [show parseFieldDescriptor (TX9 1).2.2.1 = some (.array .int) by decide +kernel] at e
    rw [← Option.some.inj e]
    rfl
  · have e := h 2 (by decide)
    rw [show parseFieldDescriptor (TX9 2).2.2.1 = some (.array .boolean) by decide +kernel] at e
    rw [← Option.some.inj e]
    rfl
theorem nk_X9 : ∀ v ∈ ([.inr (.inl none), .inr (.inl none), .inr (.inl none)] : List zAV), zokN v := by
  intro v hv
  simp only [List.mem_cons, List.not_mem_nil, or_false] at hv
  rcases hv with rfl | rfl | rfl <;> first | exact True.intro | exact zin0
theorem mi_X11_47 : zLIN RX11 47 0 "InputrowConsole" m_X9_init := ⟨znest (i := 497) (by decide +kernel) rfl, zall2 (zmem (i := 498) (by decide +kernel) rfl) (zmem (i := 139) (by decide +kernel) rfl), (zmem (i := 499) (by decide +kernel) rfl), rfl, rfl, by decide +kernel⟩
abbrev m_X12_init : zM := (yX12_init, cX12_init, 1, none)
set_option maxRecDepth 100000 in
set_option maxHeartbeats 4000000 in
theorem t_By_init {n : Int} (h : 1 ≤ n ∧ n ≤ 100000) : zSpec 2 (fun k => k = 0) 1 n.toNat m_X0_init [.inr (.inl (some 0)), .inl n] [.inl (0, [.inr (.inl none), .inl 0, .inl 0])] (fun r1 w1 => r1 = none ∧ w1 = [.inl (0, [.inr (.inl (some 1)), .inl 0, .inl 0]), .inr (0, n.toNat, fun _ => 0)]) := by
  refine zSpec_of (by decide +kernel) (Nat.le_of_ble_eq_true rfl) ?_
  refine zr_aload ⟨_, dX0_init_0, rfl⟩ rfl ?_
  refine zr_obj (a := 0) dX0_init_1 (zall3 (zmem (i := 172) (by decide +kernel) rfl) (zmem (i := 165) (by decide +kernel) rfl) (zmem (i := 166) (by decide +kernel) rfl)) (by decide) (Nat.le_of_ble_eq_true rfl) ?_
  refine zr_aload ⟨_, dX0_init_4, rfl⟩ rfl ?_
  refine zr_load ⟨_, dX0_init_5, rfl⟩ rfl ?_
  refine zr_iconst dX0_init_6 (by decide) ?_
  refine zr_max dX0_init_7 ml_X0_9 (by decide) (Nat.zero_le _) (Nat.zero_le _) (Nat.le_of_ble_eq_true rfl) ?_
  rw [if_neg (show ¬ n < 1 by omega)]
  refine zr_newa (len := n.toNat) (v := 1) (tk := 0) dX0_init_10 (ty := .int) rfl (fun _ => rfl) (fun _ _ h => h) (fun _ => by simp [zeA, vp_cell, zof0, defaultValue]) ⟨by omega, fun _ _ _ => zin0⟩ (zmem (i := 186) (by decide +kernel) rfl) (by omega) rfl (by show n.toNat * 4 ≤ _; omega) rfl (Nat.succ_ne_zero _) rfl rfl rfl (Nat.le_of_ble_eq_true rfl) (by show 0 + n.toNat ≤ n.toNat; omega) ?_
  show zB m_X0_init (zR 2 1 n.toNat) (zFq 1 n.toNat (fun k => k = 0) (fun r1 w1 => r1 = none ∧ w1 = [.inl (0, [.inr (.inl (some 1)), .inl 0, .inl 0]), .inr (0, n.toNat, fun _ => 0)])) (fun k => k = 0) 12 [some (.inr (.inl (some 0))), some (.inl n)] [.inr (.inl (some 1)), .inr (.inl (some 0))] [.inl (0, [.inr (.inl none), .inl 0, .inl 0]), .inr (0, n.toNat, fun _ => 0)] 1 (0 + n.toNat)
  refine zr_putF (ty := .array .int) dX0_init_12 fl_X0_15 rfl (fun _ _ _ h => by cases h; rfl) rfl (by decide) (by decide +kernel) True.intro (fun ad => ⟨rfl, rfl⟩) rfl ?_
  show zB m_X0_init (zR 2 1 n.toNat) (zFq 1 n.toNat (fun k => k = 0) (fun r1 w1 => r1 = none ∧ w1 = [.inl (0, [.inr (.inl (some 1)), .inl 0, .inl 0]), .inr (0, n.toNat, fun _ => 0)])) (fun k => k = 0) 15 [some (.inr (.inl (some 0))), some (.inl n)] [] [.inl (0, [.inr (.inl (some 1)), .inl 0, .inl 0]), .inr (0, n.toNat, fun _ => 0)] 1 (0 + n.toNat)
  exact zr_vret dX0_init_15 rfl (Nat.le_of_ble_eq_true rfl) (by show 0 + n.toNat ≤ n.toNat; omega) ⟨rfl, rfl⟩
set_option maxRecDepth 100000 in
set_option maxHeartbeats 4000000 in
theorem t_Cu_init : zSpec 2 (fun k => k = 0) 0 0 m_X1_init [.inr (.inl (some 0))] [.inl (1, [.inl 0, .inl 0, .inl 0, .inl 0, .inl 0])] (fun r1 w1 => r1 = none ∧ w1 = [.inl (1, [.inl 0, .inl 0, .inl 0, .inl 0, .inl 0])]) := by
  refine zSpec_of (by decide +kernel) (Nat.le_of_ble_eq_true rfl) ?_
  refine zr_aload ⟨_, dX1_init_0, rfl⟩ rfl ?_
  refine zr_obj (a := 0) dX1_init_1 (zall3 (zmem (i := 323) (by decide +kernel) rfl) (zmem (i := 165) (by decide +kernel) rfl) (zmem (i := 166) (by decide +kernel) rfl)) (by decide) (Nat.le_of_ble_eq_true rfl) ?_
  exact zr_vret dX1_init_4 rfl (Nat.le_of_ble_eq_true rfl) (Nat.le_of_ble_eq_true rfl) ⟨rfl, rfl⟩
set_option maxRecDepth 100000 in
set_option maxHeartbeats 4000000 in
theorem t_Md_init : zSpec 2 (fun k => k = 0) 0 0 m_X5_init [.inr (.inl (some 0))] [.inl (5, [.inl 0, .inl 0, .inl 0, .inl 0, .inl 0, .inl 0])] (fun r1 w1 => r1 = none ∧ w1 = [.inl (5, [.inl 0, .inl 1, .inl 1, .inl 0, .inl 0, .inl 0])]) := by
  refine zSpec_of (by decide +kernel) (Nat.le_of_ble_eq_true rfl) ?_
  refine zr_aload ⟨_, dX5_init_0, rfl⟩ rfl ?_
  refine zr_obj (a := 0) dX5_init_1 (zall3 (zmem (i := 353) (by decide +kernel) rfl) (zmem (i := 165) (by decide +kernel) rfl) (zmem (i := 166) (by decide +kernel) rfl)) (by decide) (Nat.le_of_ble_eq_true rfl) ?_
  refine zr_aload ⟨_, dX5_init_4, rfl⟩ rfl ?_
  refine zr_iconst dX5_init_5 (by decide) ?_
  refine zr_put (ty := .boolean) dX5_init_6 fl_X5_7 rfl (by decide) (by decide +kernel) (by show zin 1; decide) (fun ad => ⟨rfl, rfl⟩) rfl ?_
  show zB m_X5_init (zR 2 0 0) (zFq 0 0 (fun k => k = 0) (fun r1 w1 => r1 = none ∧ w1 = [.inl (5, [.inl 0, .inl 1, .inl 1, .inl 0, .inl 0, .inl 0])])) (fun k => k = 0) 9 [some (.inr (.inl (some 0)))] [] [.inl (5, [.inl 0, .inl 1, .inl 0, .inl 0, .inl 0, .inl 0])] 0 0
  refine zr_aload ⟨_, dX5_init_9, rfl⟩ rfl ?_
  refine zr_iconst dX5_init_10 (by decide) ?_
  refine zr_put (ty := .boolean) dX5_init_11 fl_X5_13 rfl (by decide) (by decide +kernel) (by show zin 1; decide) (fun ad => ⟨rfl, rfl⟩) rfl ?_
  show zB m_X5_init (zR 2 0 0) (zFq 0 0 (fun k => k = 0) (fun r1 w1 => r1 = none ∧ w1 = [.inl (5, [.inl 0, .inl 1, .inl 1, .inl 0, .inl 0, .inl 0])])) (fun k => k = 0) 14 [some (.inr (.inl (some 0)))] [] [.inl (5, [.inl 0, .inl 1, .inl 1, .inl 0, .inl 0, .inl 0])] 0 0
  exact zr_vret dX5_init_14 rfl (Nat.le_of_ble_eq_true rfl) (Nat.le_of_ble_eq_true rfl) ⟨rfl, rfl⟩
set_option maxRecDepth 100000 in
set_option maxHeartbeats 4000000 in
theorem t_Hi_init : zSpec 2 (fun k => k = 0) 2 1000 m_X2_init [.inr (.inl (some 0))] [.inl (2, [.inr (.inl none), .inr (.inl none), .inl 0])] (fun r1 w1 => r1 = none ∧ w1 = [.inl (2, [.inr (.inl (some 1)), .inr (.inl (some 2)), .inl 0]), .inr (0, 960, fun _ => 0), .inr (1, 40, fun _ => 0)]) := by
  refine zSpec_of (by decide +kernel) (Nat.le_of_ble_eq_true rfl) ?_
  refine zr_aload ⟨_, dX2_init_0, rfl⟩ rfl ?_
  refine zr_obj (a := 0) dX2_init_1 (zall3 (zmem (i := 267) (by decide +kernel) rfl) (zmem (i := 165) (by decide +kernel) rfl) (zmem (i := 166) (by decide +kernel) rfl)) (by decide) (Nat.le_of_ble_eq_true rfl) ?_
  refine zr_aload ⟨_, dX2_init_4, rfl⟩ rfl ?_
  refine zr_sipush dX2_init_5 (by decide) (by decide) ?_
  refine zr_newa (len := 960) (v := 1) (tk := 0) dX2_init_8 (ty := .int) rfl (fun _ => rfl) (fun _ _ h => h) (fun _ => by simp [zeA, vp_cell, zof0, defaultValue]) ⟨by decide, fun _ _ _ => zin0⟩ (zmem (i := 186) (by decide +kernel) rfl) (by decide) rfl (by decide) rfl (Nat.succ_ne_zero _) rfl rfl rfl (Nat.le_of_ble_eq_true rfl) (Nat.le_of_ble_eq_true rfl) ?_
  show zB m_X2_init (zR 2 2 1000) (zFq 2 1000 (fun k => k = 0) (fun r1 w1 => r1 = none ∧ w1 = [.inl (2, [.inr (.inl (some 1)), .inr (.inl (some 2)), .inl 0]), .inr (0, 960, fun _ => 0), .inr (1, 40, fun _ => 0)])) (fun k => k = 0) 10 [some (.inr (.inl (some 0)))] [.inr (.inl (some 1)), .inr (.inl (some 0))] [.inl (2, [.inr (.inl none), .inr (.inl none), .inl 0]), .inr (0, 960, fun _ => 0)] 1 960
  refine zr_putF (ty := .array .int) dX2_init_10 fl_X2_9 rfl (fun _ _ _ h => by cases h; rfl) rfl (by decide) (by decide +kernel) True.intro (fun ad => ⟨rfl, rfl⟩) rfl ?_
  show zB m_X2_init (zR 2 2 1000) (zFq 2 1000 (fun k => k = 0) (fun r1 w1 => r1 = none ∧ w1 = [.inl (2, [.inr (.inl (some 1)), .inr (.inl (some 2)), .inl 0]), .inr (0, 960, fun _ => 0), .inr (1, 40, fun _ => 0)])) (fun k => k = 0) 13 [some (.inr (.inl (some 0)))] [] [.inl (2, [.inr (.inl (some 1)), .inr (.inl none), .inl 0]), .inr (0, 960, fun _ => 0)] 1 960
  refine zr_aload ⟨_, dX2_init_13, rfl⟩ rfl ?_
  refine zr_bipush dX2_init_14 (by decide) (by decide) ?_
  refine zr_newa (len := 40) (v := 2) (tk := 1) dX2_init_16 (ty := .boolean) rfl (fun _ => rfl) (fun _ _ h => h) (fun _ => by simp [zeA, vp_cell, zof0, defaultValue]) ⟨by decide, fun _ _ _ => zin0⟩ (zmem (i := 261) (by decide +kernel) rfl) (by decide) rfl (by decide) rfl (Nat.succ_ne_zero _) rfl rfl rfl (Nat.le_of_ble_eq_true rfl) (Nat.le_of_ble_eq_true rfl) ?_
  show zB m_X2_init (zR 2 2 1000) (zFq 2 1000 (fun k => k = 0) (fun r1 w1 => r1 = none ∧ w1 = [.inl (2, [.inr (.inl (some 1)), .inr (.inl (some 2)), .inl 0]), .inr (0, 960, fun _ => 0), .inr (1, 40, fun _ => 0)])) (fun k => k = 0) 18 [some (.inr (.inl (some 0)))] [.inr (.inl (some 2)), .inr (.inl (some 0))] [.inl (2, [.inr (.inl (some 1)), .inr (.inl none), .inl 0]), .inr (0, 960, fun _ => 0), .inr (1, 40, fun _ => 0)] 2 1000
  refine zr_putF (ty := .array .boolean) dX2_init_18 fl_X2_15 rfl (fun _ _ _ h => by cases h; rfl) rfl (by decide) (by decide +kernel) True.intro (fun ad => ⟨rfl, rfl⟩) rfl ?_
  show zB m_X2_init (zR 2 2 1000) (zFq 2 1000 (fun k => k = 0) (fun r1 w1 => r1 = none ∧ w1 = [.inl (2, [.inr (.inl (some 1)), .inr (.inl (some 2)), .inl 0]), .inr (0, 960, fun _ => 0), .inr (1, 40, fun _ => 0)])) (fun k => k = 0) 21 [some (.inr (.inl (some 0)))] [] [.inl (2, [.inr (.inl (some 1)), .inr (.inl (some 2)), .inl 0]), .inr (0, 960, fun _ => 0), .inr (1, 40, fun _ => 0)] 2 1000
  exact zr_vret dX2_init_21 rfl (Nat.le_of_ble_eq_true rfl) (Nat.le_of_ble_eq_true rfl) ⟨rfl, rfl⟩
set_option maxRecDepth 100000 in
set_option maxHeartbeats 4000000 in
theorem t_Pi_init : zSpec 2 (fun k => k = 0) 2 300 m_X6_init [.inr (.inl (some 0))] [.inl (6, [.inr (.inl none), .inr (.inl none), .inl 0, .inl 0])] (fun r1 w1 => r1 = none ∧ w1 = [.inl (6, [.inr (.inl (some 1)), .inr (.inl (some 2)), .inl 6, .inl 12]), .inr (0, 288, fun _ => 0), .inr (1, 12, fun _ => 0)]) := by
  refine zSpec_of (by decide +kernel) (Nat.le_of_ble_eq_true rfl) ?_
  refine zr_aload ⟨_, dX6_init_0, rfl⟩ rfl ?_
  refine zr_obj (a := 0) dX6_init_1 (zall3 (zmem (i := 247) (by decide +kernel) rfl) (zmem (i := 165) (by decide +kernel) rfl) (zmem (i := 166) (by decide +kernel) rfl)) (by decide) (Nat.le_of_ble_eq_true rfl) ?_
  refine zr_aload ⟨_, dX6_init_4, rfl⟩ rfl ?_
  refine zr_sipush dX6_init_5 (by decide) (by decide) ?_
  refine zr_newa (len := 288) (v := 1) (tk := 0) dX6_init_8 (ty := .int) rfl (fun _ => rfl) (fun _ _ h => h) (fun _ => by simp [zeA, vp_cell, zof0, defaultValue]) ⟨by decide, fun _ _ _ => zin0⟩ (zmem (i := 186) (by decide +kernel) rfl) (by decide) rfl (by decide) rfl (Nat.succ_ne_zero _) rfl rfl rfl (Nat.le_of_ble_eq_true rfl) (Nat.le_of_ble_eq_true rfl) ?_
  show zB m_X6_init (zR 2 2 300) (zFq 2 300 (fun k => k = 0) (fun r1 w1 => r1 = none ∧ w1 = [.inl (6, [.inr (.inl (some 1)), .inr (.inl (some 2)), .inl 6, .inl 12]), .inr (0, 288, fun _ => 0), .inr (1, 12, fun _ => 0)])) (fun k => k = 0) 10 [some (.inr (.inl (some 0)))] [.inr (.inl (some 1)), .inr (.inl (some 0))] [.inl (6, [.inr (.inl none), .inr (.inl none), .inl 0, .inl 0]), .inr (0, 288, fun _ => 0)] 1 288
  refine zr_putF (ty := .array .int) dX6_init_10 fl_X6_9 rfl (fun _ _ _ h => by cases h; rfl) rfl (by decide) (by decide +kernel) True.intro (fun ad => ⟨rfl, rfl⟩) rfl ?_
  show zB m_X6_init (zR 2 2 300) (zFq 2 300 (fun k => k = 0) (fun r1 w1 => r1 = none ∧ w1 = [.inl (6, [.inr (.inl (some 1)), .inr (.inl (some 2)), .inl 6, .inl 12]), .inr (0, 288, fun _ => 0), .inr (1, 12, fun _ => 0)])) (fun k => k = 0) 13 [some (.inr (.inl (some 0)))] [] [.inl (6, [.inr (.inl (some 1)), .inr (.inl none), .inl 0, .inl 0]), .inr (0, 288, fun _ => 0)] 1 288
  refine zr_aload ⟨_, dX6_init_13, rfl⟩ rfl ?_
  refine zr_bipush dX6_init_14 (by decide) (by decide) ?_
  refine zr_newa (len := 12) (v := 2) (tk := 1) dX6_init_16 (ty := .boolean) rfl (fun _ => rfl) (fun _ _ h => h) (fun _ => by simp [zeA, vp_cell, zof0, defaultValue]) ⟨by decide, fun _ _ _ => zin0⟩ (zmem (i := 261) (by decide +kernel) rfl) (by decide) rfl (by decide) rfl (Nat.succ_ne_zero _) rfl rfl rfl (Nat.le_of_ble_eq_true rfl) (Nat.le_of_ble_eq_true rfl) ?_
  show zB m_X6_init (zR 2 2 300) (zFq 2 300 (fun k => k = 0) (fun r1 w1 => r1 = none ∧ w1 = [.inl (6, [.inr (.inl (some 1)), .inr (.inl (some 2)), .inl 6, .inl 12]), .inr (0, 288, fun _ => 0), .inr (1, 12, fun _ => 0)])) (fun k => k = 0) 18 [some (.inr (.inl (some 0)))] [.inr (.inl (some 2)), .inr (.inl (some 0))] [.inl (6, [.inr (.inl (some 1)), .inr (.inl none), .inl 0, .inl 0]), .inr (0, 288, fun _ => 0), .inr (1, 12, fun _ => 0)] 2 300
  refine zr_putF (ty := .array .boolean) dX6_init_18 fl_X6_15 rfl (fun _ _ _ h => by cases h; rfl) rfl (by decide) (by decide +kernel) True.intro (fun ad => ⟨rfl, rfl⟩) rfl ?_
  show zB m_X6_init (zR 2 2 300) (zFq 2 300 (fun k => k = 0) (fun r1 w1 => r1 = none ∧ w1 = [.inl (6, [.inr (.inl (some 1)), .inr (.inl (some 2)), .inl 6, .inl 12]), .inr (0, 288, fun _ => 0), .inr (1, 12, fun _ => 0)])) (fun k => k = 0) 21 [some (.inr (.inl (some 0)))] [] [.inl (6, [.inr (.inl (some 1)), .inr (.inl (some 2)), .inl 0, .inl 0]), .inr (0, 288, fun _ => 0), .inr (1, 12, fun _ => 0)] 2 300
  refine zr_aload ⟨_, dX6_init_21, rfl⟩ rfl ?_
  refine zr_bipush dX6_init_22 (by decide) (by decide) ?_
  refine zr_put (ty := .int) dX6_init_24 fl_X6_19 rfl (by decide) (by decide +kernel) (by show zin 6; decide) (fun ad => ⟨rfl, rfl⟩) rfl ?_
  show zB m_X6_init (zR 2 2 300) (zFq 2 300 (fun k => k = 0) (fun r1 w1 => r1 = none ∧ w1 = [.inl (6, [.inr (.inl (some 1)), .inr (.inl (some 2)), .inl 6, .inl 12]), .inr (0, 288, fun _ => 0), .inr (1, 12, fun _ => 0)])) (fun k => k = 0) 27 [some (.inr (.inl (some 0)))] [] [.inl (6, [.inr (.inl (some 1)), .inr (.inl (some 2)), .inl 6, .inl 0]), .inr (0, 288, fun _ => 0), .inr (1, 12, fun _ => 0)] 2 300
  refine zr_aload ⟨_, dX6_init_27, rfl⟩ rfl ?_
  refine zr_bipush dX6_init_28 (by decide) (by decide) ?_
  refine zr_put (ty := .int) dX6_init_30 fl_X6_23 rfl (by decide) (by decide +kernel) (by show zin 12; decide) (fun ad => ⟨rfl, rfl⟩) rfl ?_
  show zB m_X6_init (zR 2 2 300) (zFq 2 300 (fun k => k = 0) (fun r1 w1 => r1 = none ∧ w1 = [.inl (6, [.inr (.inl (some 1)), .inr (.inl (some 2)), .inl 6, .inl 12]), .inr (0, 288, fun _ => 0), .inr (1, 12, fun _ => 0)])) (fun k => k = 0) 33 [some (.inr (.inl (some 0)))] [] [.inl (6, [.inr (.inl (some 1)), .inr (.inl (some 2)), .inl 6, .inl 12]), .inr (0, 288, fun _ => 0), .inr (1, 12, fun _ => 0)] 2 300
  exact zr_vret dX6_init_33 rfl (Nat.le_of_ble_eq_true rfl) (Nat.le_of_ble_eq_true rfl) ⟨rfl, rfl⟩
set_option maxRecDepth 100000 in
set_option maxHeartbeats 4000000 in
theorem t_Li_init : zSpec 3 (fun k => k = 0) 8 598 m_X3_init [.inr (.inl (some 0))] [.inl (3, [.inr (.inl none), .inr (.inl none), .inr (.inl none), .inr (.inl none), .inl 0, .inl 0, .inl 0, .inl 0, .inl 0])] (fun r1 w1 => r1 = none ∧ w1 = [.inl (3, [.inr (.inl (some 1)), .inr (.inl (some 3)), .inr (.inl (some 5)), .inr (.inl (some 7)), .inl 0, .inl 1, .inl 0, .inl 0, .inl 0]), .inl (0, [.inr (.inl (some 2)), .inl 0, .inl 0]), .inr (0, 30, fun _ => 0), .inl (0, [.inr (.inl (some 4)), .inl 0, .inl 0]), .inr (0, 100, fun _ => 0), .inl (0, [.inr (.inl (some 6)), .inl 0, .inl 0]), .inr (0, 200, fun _ => 0), .inl (0, [.inr (.inl (some 8)), .inl 0, .inl 0]), .inr (0, 256, fun _ => 0)]) := by
  refine zSpec_of (by decide +kernel) (Nat.le_of_ble_eq_true rfl) ?_
  refine zr_aload ⟨_, dX3_init_0, rfl⟩ rfl ?_
  refine zr_obj (a := 0) dX3_init_1 (zall3 (zmem (i := 192) (by decide +kernel) rfl) (zmem (i := 165) (by decide +kernel) rfl) (zmem (i := 166) (by decide +kernel) rfl)) (by decide) (Nat.le_of_ble_eq_true rfl) ?_
  refine zr_aload ⟨_, dX3_init_4, rfl⟩ rfl ?_
  refine zr_new (index := 9) (ci := 0) (N := 3) (v := 1) (fs := [.inr (.inl none), .inl 0, .inl 0]) dX3_init_5 rfl (zall3 (zmem (i := 193) (by decide +kernel) rfl) (zmem (i := 168) (by decide +kernel) rfl) (zmem (i := 128) (by decide +kernel) rfl)) nw_X0 nk_X0 rfl (Nat.succ_ne_zero _) rfl rfl rfl rfl (Nat.le_of_ble_eq_true rfl) (Nat.le_of_ble_eq_true rfl) ?_
  show zB m_X3_init (zR 3 8 598) (zFq 8 598 (fun k => k = 0) (fun r1 w1 => r1 = none ∧ w1 = [.inl (3, [.inr (.inl (some 1)), .inr (.inl (some 3)), .inr (.inl (some 5)), .inr (.inl (some 7)), .inl 0, .inl 1, .inl 0, .inl 0, .inl 0]), .inl (0, [.inr (.inl (some 2)), .inl 0, .inl 0]), .inr (0, 30, fun _ => 0), .inl (0, [.inr (.inl (some 4)), .inl 0, .inl 0]), .inr (0, 100, fun _ => 0), .inl (0, [.inr (.inl (some 6)), .inl 0, .inl 0]), .inr (0, 200, fun _ => 0), .inl (0, [.inr (.inl (some 8)), .inl 0, .inl 0]), .inr (0, 256, fun _ => 0)])) (fun k => k = 0) 8 [some (.inr (.inl (some 0)))] [.inr (.inl (some 1)), .inr (.inl (some 0))] [.inl (3, [.inr (.inl none), .inr (.inl none), .inr (.inl none), .inr (.inl none), .inl 0, .inl 0, .inl 0, .inl 0, .inl 0]), .inl (0, [.inr (.inl none), .inl 0, .inl 0])] 1 3
  refine zr_dup dX3_init_8 (Or.inl True.intro) ?_
  refine zr_bipush dX3_init_9 (by decide) (by decide) ?_
  refine zt_ctor (v := 1) (w0 := [.inl (3, [.inr (.inl none), .inr (.inl none), .inr (.inl none), .inr (.inl none), .inl 0, .inl 0, .inl 0, .inl 0, .inl 0])]) (c0 := .inl (0, [.inr (.inl none), .inl 0, .inl 0])) (as := [.inl 30]) (zrun_I (rest := [.inr (.inl (some 1)), .inr (.inl (some 0))]) dX3_init_11 mi_X3_11 rfl (by decide) (by decide) rfl (Nat.le_of_ble_eq_true rfl)) (t_By_init (n := 30) (by decide)) rfl rfl rfl (fun k hk => by rw [hk]; exact Nat.zero_le _) rfl rfl rfl rfl (Nat.le_of_ble_eq_true rfl) (Nat.le_of_ble_eq_true rfl) ?_
  show zB m_X3_init (zR 3 8 598) (zFq 8 598 (fun k => k = 0) (fun r1 w1 => r1 = none ∧ w1 = [.inl (3, [.inr (.inl (some 1)), .inr (.inl (some 3)), .inr (.inl (some 5)), .inr (.inl (some 7)), .inl 0, .inl 1, .inl 0, .inl 0, .inl 0]), .inl (0, [.inr (.inl (some 2)), .inl 0, .inl 0]), .inr (0, 30, fun _ => 0), .inl (0, [.inr (.inl (some 4)), .inl 0, .inl 0]), .inr (0, 100, fun _ => 0), .inl (0, [.inr (.inl (some 6)), .inl 0, .inl 0]), .inr (0, 200, fun _ => 0), .inl (0, [.inr (.inl (some 8)), .inl 0, .inl 0]), .inr (0, 256, fun _ => 0)])) (fun k => k = 0) 14 [some (.inr (.inl (some 0)))] [.inr (.inl (some 1)), .inr (.inl (some 0))] [.inl (3, [.inr (.inl none), .inr (.inl none), .inr (.inl none), .inr (.inl none), .inl 0, .inl 0, .inl 0, .inl 0, .inl 0]), .inl (0, [.inr (.inl (some 2)), .inl 0, .inl 0]), .inr (0, 30, fun _ => 0)] 2 33
  refine zr_putF (ty := .object "InputrowConsole$Bytes") dX3_init_14 fl_X3_14 rfl (fun _ _ _ h => by cases h; rfl) rfl (by decide) (by decide +kernel) True.intro (fun ad => ⟨rfl, rfl⟩) rfl ?_
  show zB m_X3_init (zR 3 8 598) (zFq 8 598 (fun k => k = 0) (fun r1 w1 => r1 = none ∧ w1 = [.inl (3, [.inr (.inl (some 1)), .inr (.inl (some 3)), .inr (.inl (some 5)), .inr (.inl (some 7)), .inl 0, .inl 1, .inl 0, .inl 0, .inl 0]), .inl (0, [.inr (.inl (some 2)), .inl 0, .inl 0]), .inr (0, 30, fun _ => 0), .inl (0, [.inr (.inl (some 4)), .inl 0, .inl 0]), .inr (0, 100, fun _ => 0), .inl (0, [.inr (.inl (some 6)), .inl 0, .inl 0]), .inr (0, 200, fun _ => 0), .inl (0, [.inr (.inl (some 8)), .inl 0, .inl 0]), .inr (0, 256, fun _ => 0)])) (fun k => k = 0) 17 [some (.inr (.inl (some 0)))] [] [.inl (3, [.inr (.inl (some 1)), .inr (.inl none), .inr (.inl none), .inr (.inl none), .inl 0, .inl 0, .inl 0, .inl 0, .inl 0]), .inl (0, [.inr (.inl (some 2)), .inl 0, .inl 0]), .inr (0, 30, fun _ => 0)] 2 33
  refine zr_aload ⟨_, dX3_init_17, rfl⟩ rfl ?_
  refine zr_new (index := 9) (ci := 0) (N := 3) (v := 3) (fs := [.inr (.inl none), .inl 0, .inl 0]) dX3_init_18 rfl (zall3 (zmem (i := 193) (by decide +kernel) rfl) (zmem (i := 168) (by decide +kernel) rfl) (zmem (i := 128) (by decide +kernel) rfl)) nw_X0 nk_X0 rfl (Nat.succ_ne_zero _) rfl rfl rfl rfl (Nat.le_of_ble_eq_true rfl) (Nat.le_of_ble_eq_true rfl) ?_
  show zB m_X3_init (zR 3 8 598) (zFq 8 598 (fun k => k = 0) (fun r1 w1 => r1 = none ∧ w1 = [.inl (3, [.inr (.inl (some 1)), .inr (.inl (some 3)), .inr (.inl (some 5)), .inr (.inl (some 7)), .inl 0, .inl 1, .inl 0, .inl 0, .inl 0]), .inl (0, [.inr (.inl (some 2)), .inl 0, .inl 0]), .inr (0, 30, fun _ => 0), .inl (0, [.inr (.inl (some 4)), .inl 0, .inl 0]), .inr (0, 100, fun _ => 0), .inl (0, [.inr (.inl (some 6)), .inl 0, .inl 0]), .inr (0, 200, fun _ => 0), .inl (0, [.inr (.inl (some 8)), .inl 0, .inl 0]), .inr (0, 256, fun _ => 0)])) (fun k => k = 0) 21 [some (.inr (.inl (some 0)))] [.inr (.inl (some 3)), .inr (.inl (some 0))] [.inl (3, [.inr (.inl (some 1)), .inr (.inl none), .inr (.inl none), .inr (.inl none), .inl 0, .inl 0, .inl 0, .inl 0, .inl 0]), .inl (0, [.inr (.inl (some 2)), .inl 0, .inl 0]), .inr (0, 30, fun _ => 0), .inl (0, [.inr (.inl none), .inl 0, .inl 0])] 3 36
  refine zr_dup dX3_init_21 (Or.inl True.intro) ?_
  refine zr_bipush dX3_init_22 (by decide) (by decide) ?_
  refine zt_ctor (v := 3) (w0 := [.inl (3, [.inr (.inl (some 1)), .inr (.inl none), .inr (.inl none), .inr (.inl none), .inl 0, .inl 0, .inl 0, .inl 0, .inl 0]), .inl (0, [.inr (.inl (some 2)), .inl 0, .inl 0]), .inr (0, 30, fun _ => 0)]) (c0 := .inl (0, [.inr (.inl none), .inl 0, .inl 0])) (as := [.inl 100]) (zrun_I (rest := [.inr (.inl (some 3)), .inr (.inl (some 0))]) dX3_init_24 mi_X3_11 rfl (by decide) (by decide) rfl (Nat.le_of_ble_eq_true rfl)) (t_By_init (n := 100) (by decide)) rfl rfl rfl (fun k hk => by rw [hk]; exact Nat.zero_le _) rfl rfl rfl rfl (Nat.le_of_ble_eq_true rfl) (Nat.le_of_ble_eq_true rfl) ?_
  show zB m_X3_init (zR 3 8 598) (zFq 8 598 (fun k => k = 0) (fun r1 w1 => r1 = none ∧ w1 = [.inl (3, [.inr (.inl (some 1)), .inr (.inl (some 3)), .inr (.inl (some 5)), .inr (.inl (some 7)), .inl 0, .inl 1, .inl 0, .inl 0, .inl 0]), .inl (0, [.inr (.inl (some 2)), .inl 0, .inl 0]), .inr (0, 30, fun _ => 0), .inl (0, [.inr (.inl (some 4)), .inl 0, .inl 0]), .inr (0, 100, fun _ => 0), .inl (0, [.inr (.inl (some 6)), .inl 0, .inl 0]), .inr (0, 200, fun _ => 0), .inl (0, [.inr (.inl (some 8)), .inl 0, .inl 0]), .inr (0, 256, fun _ => 0)])) (fun k => k = 0) 27 [some (.inr (.inl (some 0)))] [.inr (.inl (some 3)), .inr (.inl (some 0))] [.inl (3, [.inr (.inl (some 1)), .inr (.inl none), .inr (.inl none), .inr (.inl none), .inl 0, .inl 0, .inl 0, .inl 0, .inl 0]), .inl (0, [.inr (.inl (some 2)), .inl 0, .inl 0]), .inr (0, 30, fun _ => 0), .inl (0, [.inr (.inl (some 4)), .inl 0, .inl 0]), .inr (0, 100, fun _ => 0)] 4 136
  refine zr_putF (ty := .object "InputrowConsole$Bytes") dX3_init_27 fl_X3_20 rfl (fun _ _ _ h => by cases h; rfl) rfl (by decide) (by decide +kernel) True.intro (fun ad => ⟨rfl, rfl⟩) rfl ?_
  show zB m_X3_init (zR 3 8 598) (zFq 8 598 (fun k => k = 0) (fun r1 w1 => r1 = none ∧ w1 = [.inl (3, [.inr (.inl (some 1)), .inr (.inl (some 3)), .inr (.inl (some 5)), .inr (.inl (some 7)), .inl 0, .inl 1, .inl 0, .inl 0, .inl 0]), .inl (0, [.inr (.inl (some 2)), .inl 0, .inl 0]), .inr (0, 30, fun _ => 0), .inl (0, [.inr (.inl (some 4)), .inl 0, .inl 0]), .inr (0, 100, fun _ => 0), .inl (0, [.inr (.inl (some 6)), .inl 0, .inl 0]), .inr (0, 200, fun _ => 0), .inl (0, [.inr (.inl (some 8)), .inl 0, .inl 0]), .inr (0, 256, fun _ => 0)])) (fun k => k = 0) 30 [some (.inr (.inl (some 0)))] [] [.inl (3, [.inr (.inl (some 1)), .inr (.inl (some 3)), .inr (.inl none), .inr (.inl none), .inl 0, .inl 0, .inl 0, .inl 0, .inl 0]), .inl (0, [.inr (.inl (some 2)), .inl 0, .inl 0]), .inr (0, 30, fun _ => 0), .inl (0, [.inr (.inl (some 4)), .inl 0, .inl 0]), .inr (0, 100, fun _ => 0)] 4 136
  refine zr_aload ⟨_, dX3_init_30, rfl⟩ rfl ?_
  refine zr_new (index := 9) (ci := 0) (N := 3) (v := 5) (fs := [.inr (.inl none), .inl 0, .inl 0]) dX3_init_31 rfl (zall3 (zmem (i := 193) (by decide +kernel) rfl) (zmem (i := 168) (by decide +kernel) rfl) (zmem (i := 128) (by decide +kernel) rfl)) nw_X0 nk_X0 rfl (Nat.succ_ne_zero _) rfl rfl rfl rfl (Nat.le_of_ble_eq_true rfl) (Nat.le_of_ble_eq_true rfl) ?_
  show zB m_X3_init (zR 3 8 598) (zFq 8 598 (fun k => k = 0) (fun r1 w1 => r1 = none ∧ w1 = [.inl (3, [.inr (.inl (some 1)), .inr (.inl (some 3)), .inr (.inl (some 5)), .inr (.inl (some 7)), .inl 0, .inl 1, .inl 0, .inl 0, .inl 0]), .inl (0, [.inr (.inl (some 2)), .inl 0, .inl 0]), .inr (0, 30, fun _ => 0), .inl (0, [.inr (.inl (some 4)), .inl 0, .inl 0]), .inr (0, 100, fun _ => 0), .inl (0, [.inr (.inl (some 6)), .inl 0, .inl 0]), .inr (0, 200, fun _ => 0), .inl (0, [.inr (.inl (some 8)), .inl 0, .inl 0]), .inr (0, 256, fun _ => 0)])) (fun k => k = 0) 34 [some (.inr (.inl (some 0)))] [.inr (.inl (some 5)), .inr (.inl (some 0))] [.inl (3, [.inr (.inl (some 1)), .inr (.inl (some 3)), .inr (.inl none), .inr (.inl none), .inl 0, .inl 0, .inl 0, .inl 0, .inl 0]), .inl (0, [.inr (.inl (some 2)), .inl 0, .inl 0]), .inr (0, 30, fun _ => 0), .inl (0, [.inr (.inl (some 4)), .inl 0, .inl 0]), .inr (0, 100, fun _ => 0), .inl (0, [.inr (.inl none), .inl 0, .inl 0])] 5 139
  refine zr_dup dX3_init_34 (Or.inl True.intro) ?_
  refine zr_sipush dX3_init_35 (by decide) (by decide) ?_
  refine zt_ctor (v := 5) (w0 := [.inl (3, [.inr (.inl (some 1)), .inr (.inl (some 3)), .inr (.inl none), .inr (.inl none), .inl 0, .inl 0, .inl 0, .inl 0, .inl 0]), .inl (0, [.inr (.inl (some 2)), .inl 0, .inl 0]), .inr (0, 30, fun _ => 0), .inl (0, [.inr (.inl (some 4)), .inl 0, .inl 0]), .inr (0, 100, fun _ => 0)]) (c0 := .inl (0, [.inr (.inl none), .inl 0, .inl 0])) (as := [.inl 200]) (zrun_I (rest := [.inr (.inl (some 5)), .inr (.inl (some 0))]) dX3_init_38 mi_X3_11 rfl (by decide) (by decide) rfl (Nat.le_of_ble_eq_true rfl)) (t_By_init (n := 200) (by decide)) rfl rfl rfl (fun k hk => by rw [hk]; exact Nat.zero_le _) rfl rfl rfl rfl (Nat.le_of_ble_eq_true rfl) (Nat.le_of_ble_eq_true rfl) ?_
  show zB m_X3_init (zR 3 8 598) (zFq 8 598 (fun k => k = 0) (fun r1 w1 => r1 = none ∧ w1 = [.inl (3, [.inr (.inl (some 1)), .inr (.inl (some 3)), .inr (.inl (some 5)), .inr (.inl (some 7)), .inl 0, .inl 1, .inl 0, .inl 0, .inl 0]), .inl (0, [.inr (.inl (some 2)), .inl 0, .inl 0]), .inr (0, 30, fun _ => 0), .inl (0, [.inr (.inl (some 4)), .inl 0, .inl 0]), .inr (0, 100, fun _ => 0), .inl (0, [.inr (.inl (some 6)), .inl 0, .inl 0]), .inr (0, 200, fun _ => 0), .inl (0, [.inr (.inl (some 8)), .inl 0, .inl 0]), .inr (0, 256, fun _ => 0)])) (fun k => k = 0) 41 [some (.inr (.inl (some 0)))] [.inr (.inl (some 5)), .inr (.inl (some 0))] [.inl (3, [.inr (.inl (some 1)), .inr (.inl (some 3)), .inr (.inl none), .inr (.inl none), .inl 0, .inl 0, .inl 0, .inl 0, .inl 0]), .inl (0, [.inr (.inl (some 2)), .inl 0, .inl 0]), .inr (0, 30, fun _ => 0), .inl (0, [.inr (.inl (some 4)), .inl 0, .inl 0]), .inr (0, 100, fun _ => 0), .inl (0, [.inr (.inl (some 6)), .inl 0, .inl 0]), .inr (0, 200, fun _ => 0)] 6 339
  refine zr_putF (ty := .object "InputrowConsole$Bytes") dX3_init_41 fl_X3_23 rfl (fun _ _ _ h => by cases h; rfl) rfl (by decide) (by decide +kernel) True.intro (fun ad => ⟨rfl, rfl⟩) rfl ?_
  show zB m_X3_init (zR 3 8 598) (zFq 8 598 (fun k => k = 0) (fun r1 w1 => r1 = none ∧ w1 = [.inl (3, [.inr (.inl (some 1)), .inr (.inl (some 3)), .inr (.inl (some 5)), .inr (.inl (some 7)), .inl 0, .inl 1, .inl 0, .inl 0, .inl 0]), .inl (0, [.inr (.inl (some 2)), .inl 0, .inl 0]), .inr (0, 30, fun _ => 0), .inl (0, [.inr (.inl (some 4)), .inl 0, .inl 0]), .inr (0, 100, fun _ => 0), .inl (0, [.inr (.inl (some 6)), .inl 0, .inl 0]), .inr (0, 200, fun _ => 0), .inl (0, [.inr (.inl (some 8)), .inl 0, .inl 0]), .inr (0, 256, fun _ => 0)])) (fun k => k = 0) 44 [some (.inr (.inl (some 0)))] [] [.inl (3, [.inr (.inl (some 1)), .inr (.inl (some 3)), .inr (.inl (some 5)), .inr (.inl none), .inl 0, .inl 0, .inl 0, .inl 0, .inl 0]), .inl (0, [.inr (.inl (some 2)), .inl 0, .inl 0]), .inr (0, 30, fun _ => 0), .inl (0, [.inr (.inl (some 4)), .inl 0, .inl 0]), .inr (0, 100, fun _ => 0), .inl (0, [.inr (.inl (some 6)), .inl 0, .inl 0]), .inr (0, 200, fun _ => 0)] 6 339
  refine zr_aload ⟨_, dX3_init_44, rfl⟩ rfl ?_
  refine zr_new (index := 9) (ci := 0) (N := 3) (v := 7) (fs := [.inr (.inl none), .inl 0, .inl 0]) dX3_init_45 rfl (zall3 (zmem (i := 193) (by decide +kernel) rfl) (zmem (i := 168) (by decide +kernel) rfl) (zmem (i := 128) (by decide +kernel) rfl)) nw_X0 nk_X0 rfl (Nat.succ_ne_zero _) rfl rfl rfl rfl (Nat.le_of_ble_eq_true rfl) (Nat.le_of_ble_eq_true rfl) ?_
  show zB m_X3_init (zR 3 8 598) (zFq 8 598 (fun k => k = 0) (fun r1 w1 => r1 = none ∧ w1 = [.inl (3, [.inr (.inl (some 1)), .inr (.inl (some 3)), .inr (.inl (some 5)), .inr (.inl (some 7)), .inl 0, .inl 1, .inl 0, .inl 0, .inl 0]), .inl (0, [.inr (.inl (some 2)), .inl 0, .inl 0]), .inr (0, 30, fun _ => 0), .inl (0, [.inr (.inl (some 4)), .inl 0, .inl 0]), .inr (0, 100, fun _ => 0), .inl (0, [.inr (.inl (some 6)), .inl 0, .inl 0]), .inr (0, 200, fun _ => 0), .inl (0, [.inr (.inl (some 8)), .inl 0, .inl 0]), .inr (0, 256, fun _ => 0)])) (fun k => k = 0) 48 [some (.inr (.inl (some 0)))] [.inr (.inl (some 7)), .inr (.inl (some 0))] [.inl (3, [.inr (.inl (some 1)), .inr (.inl (some 3)), .inr (.inl (some 5)), .inr (.inl none), .inl 0, .inl 0, .inl 0, .inl 0, .inl 0]), .inl (0, [.inr (.inl (some 2)), .inl 0, .inl 0]), .inr (0, 30, fun _ => 0), .inl (0, [.inr (.inl (some 4)), .inl 0, .inl 0]), .inr (0, 100, fun _ => 0), .inl (0, [.inr (.inl (some 6)), .inl 0, .inl 0]), .inr (0, 200, fun _ => 0), .inl (0, [.inr (.inl none), .inl 0, .inl 0])] 7 342
  refine zr_dup dX3_init_48 (Or.inl True.intro) ?_
  refine zr_sipush dX3_init_49 (by decide) (by decide) ?_
  refine zt_ctor (v := 7) (w0 := [.inl (3, [.inr (.inl (some 1)), .inr (.inl (some 3)), .inr (.inl (some 5)), .inr (.inl none), .inl 0, .inl 0, .inl 0, .inl 0, .inl 0]), .inl (0, [.inr (.inl (some 2)), .inl 0, .inl 0]), .inr (0, 30, fun _ => 0), .inl (0, [.inr (.inl (some 4)), .inl 0, .inl 0]), .inr (0, 100, fun _ => 0), .inl (0, [.inr (.inl (some 6)), .inl 0, .inl 0]), .inr (0, 200, fun _ => 0)]) (c0 := .inl (0, [.inr (.inl none), .inl 0, .inl 0])) (as := [.inl 256]) (zrun_I (rest := [.inr (.inl (some 7)), .inr (.inl (some 0))]) dX3_init_52 mi_X3_11 rfl (by decide) (by decide) rfl (Nat.le_of_ble_eq_true rfl)) (t_By_init (n := 256) (by decide)) rfl rfl rfl (fun k hk => by rw [hk]; exact Nat.zero_le _) rfl rfl rfl rfl (Nat.le_of_ble_eq_true rfl) (Nat.le_of_ble_eq_true rfl) ?_
  show zB m_X3_init (zR 3 8 598) (zFq 8 598 (fun k => k = 0) (fun r1 w1 => r1 = none ∧ w1 = [.inl (3, [.inr (.inl (some 1)), .inr (.inl (some 3)), .inr (.inl (some 5)), .inr (.inl (some 7)), .inl 0, .inl 1, .inl 0, .inl 0, .inl 0]), .inl (0, [.inr (.inl (some 2)), .inl 0, .inl 0]), .inr (0, 30, fun _ => 0), .inl (0, [.inr (.inl (some 4)), .inl 0, .inl 0]), .inr (0, 100, fun _ => 0), .inl (0, [.inr (.inl (some 6)), .inl 0, .inl 0]), .inr (0, 200, fun _ => 0), .inl (0, [.inr (.inl (some 8)), .inl 0, .inl 0]), .inr (0, 256, fun _ => 0)])) (fun k => k = 0) 55 [some (.inr (.inl (some 0)))] [.inr (.inl (some 7)), .inr (.inl (some 0))] [.inl (3, [.inr (.inl (some 1)), .inr (.inl (some 3)), .inr (.inl (some 5)), .inr (.inl none), .inl 0, .inl 0, .inl 0, .inl 0, .inl 0]), .inl (0, [.inr (.inl (some 2)), .inl 0, .inl 0]), .inr (0, 30, fun _ => 0), .inl (0, [.inr (.inl (some 4)), .inl 0, .inl 0]), .inr (0, 100, fun _ => 0), .inl (0, [.inr (.inl (some 6)), .inl 0, .inl 0]), .inr (0, 200, fun _ => 0), .inl (0, [.inr (.inl (some 8)), .inl 0, .inl 0]), .inr (0, 256, fun _ => 0)] 8 598
  refine zr_putF (ty := .object "InputrowConsole$Bytes") dX3_init_55 fl_X3_26 rfl (fun _ _ _ h => by cases h; rfl) rfl (by decide) (by decide +kernel) True.intro (fun ad => ⟨rfl, rfl⟩) rfl ?_
  show zB m_X3_init (zR 3 8 598) (zFq 8 598 (fun k => k = 0) (fun r1 w1 => r1 = none ∧ w1 = [.inl (3, [.inr (.inl (some 1)), .inr (.inl (some 3)), .inr (.inl (some 5)), .inr (.inl (some 7)), .inl 0, .inl 1, .inl 0, .inl 0, .inl 0]), .inl (0, [.inr (.inl (some 2)), .inl 0, .inl 0]), .inr (0, 30, fun _ => 0), .inl (0, [.inr (.inl (some 4)), .inl 0, .inl 0]), .inr (0, 100, fun _ => 0), .inl (0, [.inr (.inl (some 6)), .inl 0, .inl 0]), .inr (0, 200, fun _ => 0), .inl (0, [.inr (.inl (some 8)), .inl 0, .inl 0]), .inr (0, 256, fun _ => 0)])) (fun k => k = 0) 58 [some (.inr (.inl (some 0)))] [] [.inl (3, [.inr (.inl (some 1)), .inr (.inl (some 3)), .inr (.inl (some 5)), .inr (.inl (some 7)), .inl 0, .inl 0, .inl 0, .inl 0, .inl 0]), .inl (0, [.inr (.inl (some 2)), .inl 0, .inl 0]), .inr (0, 30, fun _ => 0), .inl (0, [.inr (.inl (some 4)), .inl 0, .inl 0]), .inr (0, 100, fun _ => 0), .inl (0, [.inr (.inl (some 6)), .inl 0, .inl 0]), .inr (0, 200, fun _ => 0), .inl (0, [.inr (.inl (some 8)), .inl 0, .inl 0]), .inr (0, 256, fun _ => 0)] 8 598
  refine zr_aload ⟨_, dX3_init_58, rfl⟩ rfl ?_
  refine zr_iconst dX3_init_59 (by decide) ?_
  refine zr_put (ty := .boolean) dX3_init_60 fl_X3_29 rfl (by decide) (by decide +kernel) (by show zin 1; decide) (fun ad => ⟨rfl, rfl⟩) rfl ?_
  show zB m_X3_init (zR 3 8 598) (zFq 8 598 (fun k => k = 0) (fun r1 w1 => r1 = none ∧ w1 = [.inl (3, [.inr (.inl (some 1)), .inr (.inl (some 3)), .inr (.inl (some 5)), .inr (.inl (some 7)), .inl 0, .inl 1, .inl 0, .inl 0, .inl 0]), .inl (0, [.inr (.inl (some 2)), .inl 0, .inl 0]), .inr (0, 30, fun _ => 0), .inl (0, [.inr (.inl (some 4)), .inl 0, .inl 0]), .inr (0, 100, fun _ => 0), .inl (0, [.inr (.inl (some 6)), .inl 0, .inl 0]), .inr (0, 200, fun _ => 0), .inl (0, [.inr (.inl (some 8)), .inl 0, .inl 0]), .inr (0, 256, fun _ => 0)])) (fun k => k = 0) 63 [some (.inr (.inl (some 0)))] [] [.inl (3, [.inr (.inl (some 1)), .inr (.inl (some 3)), .inr (.inl (some 5)), .inr (.inl (some 7)), .inl 0, .inl 1, .inl 0, .inl 0, .inl 0]), .inl (0, [.inr (.inl (some 2)), .inl 0, .inl 0]), .inr (0, 30, fun _ => 0), .inl (0, [.inr (.inl (some 4)), .inl 0, .inl 0]), .inr (0, 100, fun _ => 0), .inl (0, [.inr (.inl (some 6)), .inl 0, .inl 0]), .inr (0, 200, fun _ => 0), .inl (0, [.inr (.inl (some 8)), .inl 0, .inl 0]), .inr (0, 256, fun _ => 0)] 8 598
  exact zr_vret dX3_init_63 rfl (Nat.le_of_ble_eq_true rfl) (Nat.le_of_ble_eq_true rfl) ⟨rfl, rfl⟩
set_option maxRecDepth 100000 in
set_option maxHeartbeats 4000000 in
theorem t_Re_init : zSpec 3 (fun k => k = 0) 5 42 m_X7_init [.inr (.inl (some 0))] [.inl (7, [.inr (.inl none), .inr (.inl none), .inr (.inl none), .inl 0, .inl 0, .inl 0, .inl 0, .inl 0])] (fun r1 w1 => r1 = none ∧ w1 = [.inl (7, [.inr (.inl (some 1)), .inr (.inl (some 3)), .inr (.inl (some 5)), .inl 0, .inl 0, .inl 0, .inl 0, .inl 0]), .inl (0, [.inr (.inl (some 2)), .inl 0, .inl 0]), .inr (0, 16, fun _ => 0), .inl (0, [.inr (.inl (some 4)), .inl 0, .inl 0]), .inr (0, 16, fun _ => 0), .inr (0, 4, fun _ => 0)]) := by
  refine zSpec_of (by decide +kernel) (Nat.le_of_ble_eq_true rfl) ?_
  refine zr_aload ⟨_, dX7_init_0, rfl⟩ rfl ?_
  refine zr_obj (a := 0) dX7_init_1 (zall3 (zmem (i := 388) (by decide +kernel) rfl) (zmem (i := 165) (by decide +kernel) rfl) (zmem (i := 166) (by decide +kernel) rfl)) (by decide) (Nat.le_of_ble_eq_true rfl) ?_
  refine zr_aload ⟨_, dX7_init_4, rfl⟩ rfl ?_
  refine zr_new (index := 9) (ci := 0) (N := 3) (v := 1) (fs := [.inr (.inl none), .inl 0, .inl 0]) dX7_init_5 rfl (zall3 (zmem (i := 389) (by decide +kernel) rfl) (zmem (i := 168) (by decide +kernel) rfl) (zmem (i := 128) (by decide +kernel) rfl)) nw_X0 nk_X0 rfl (Nat.succ_ne_zero _) rfl rfl rfl rfl (Nat.le_of_ble_eq_true rfl) (Nat.le_of_ble_eq_true rfl) ?_
  show zB m_X7_init (zR 3 5 42) (zFq 5 42 (fun k => k = 0) (fun r1 w1 => r1 = none ∧ w1 = [.inl (7, [.inr (.inl (some 1)), .inr (.inl (some 3)), .inr (.inl (some 5)), .inl 0, .inl 0, .inl 0, .inl 0, .inl 0]), .inl (0, [.inr (.inl (some 2)), .inl 0, .inl 0]), .inr (0, 16, fun _ => 0), .inl (0, [.inr (.inl (some 4)), .inl 0, .inl 0]), .inr (0, 16, fun _ => 0), .inr (0, 4, fun _ => 0)])) (fun k => k = 0) 8 [some (.inr (.inl (some 0)))] [.inr (.inl (some 1)), .inr (.inl (some 0))] [.inl (7, [.inr (.inl none), .inr (.inl none), .inr (.inl none), .inl 0, .inl 0, .inl 0, .inl 0, .inl 0]), .inl (0, [.inr (.inl none), .inl 0, .inl 0])] 1 3
  refine zr_dup dX7_init_8 (Or.inl True.intro) ?_
  refine zr_bipush dX7_init_9 (by decide) (by decide) ?_
  refine zt_ctor (v := 1) (w0 := [.inl (7, [.inr (.inl none), .inr (.inl none), .inr (.inl none), .inl 0, .inl 0, .inl 0, .inl 0, .inl 0])]) (c0 := .inl (0, [.inr (.inl none), .inl 0, .inl 0])) (as := [.inl 16]) (zrun_I (rest := [.inr (.inl (some 1)), .inr (.inl (some 0))]) dX7_init_11 mi_X7_11 rfl (by decide) (by decide) rfl (Nat.le_of_ble_eq_true rfl)) (t_By_init (n := 16) (by decide)) rfl rfl rfl (fun k hk => by rw [hk]; exact Nat.zero_le _) rfl rfl rfl rfl (Nat.le_of_ble_eq_true rfl) (Nat.le_of_ble_eq_true rfl) ?_
  show zB m_X7_init (zR 3 5 42) (zFq 5 42 (fun k => k = 0) (fun r1 w1 => r1 = none ∧ w1 = [.inl (7, [.inr (.inl (some 1)), .inr (.inl (some 3)), .inr (.inl (some 5)), .inl 0, .inl 0, .inl 0, .inl 0, .inl 0]), .inl (0, [.inr (.inl (some 2)), .inl 0, .inl 0]), .inr (0, 16, fun _ => 0), .inl (0, [.inr (.inl (some 4)), .inl 0, .inl 0]), .inr (0, 16, fun _ => 0), .inr (0, 4, fun _ => 0)])) (fun k => k = 0) 14 [some (.inr (.inl (some 0)))] [.inr (.inl (some 1)), .inr (.inl (some 0))] [.inl (7, [.inr (.inl none), .inr (.inl none), .inr (.inl none), .inl 0, .inl 0, .inl 0, .inl 0, .inl 0]), .inl (0, [.inr (.inl (some 2)), .inl 0, .inl 0]), .inr (0, 16, fun _ => 0)] 2 19
  refine zr_putF (ty := .object "InputrowConsole$Bytes") dX7_init_14 fl_X7_14 rfl (fun _ _ _ h => by cases h; rfl) rfl (by decide) (by decide +kernel) True.intro (fun ad => ⟨rfl, rfl⟩) rfl ?_
  show zB m_X7_init (zR 3 5 42) (zFq 5 42 (fun k => k = 0) (fun r1 w1 => r1 = none ∧ w1 = [.inl (7, [.inr (.inl (some 1)), .inr (.inl (some 3)), .inr (.inl (some 5)), .inl 0, .inl 0, .inl 0, .inl 0, .inl 0]), .inl (0, [.inr (.inl (some 2)), .inl 0, .inl 0]), .inr (0, 16, fun _ => 0), .inl (0, [.inr (.inl (some 4)), .inl 0, .inl 0]), .inr (0, 16, fun _ => 0), .inr (0, 4, fun _ => 0)])) (fun k => k = 0) 17 [some (.inr (.inl (some 0)))] [] [.inl (7, [.inr (.inl (some 1)), .inr (.inl none), .inr (.inl none), .inl 0, .inl 0, .inl 0, .inl 0, .inl 0]), .inl (0, [.inr (.inl (some 2)), .inl 0, .inl 0]), .inr (0, 16, fun _ => 0)] 2 19
  refine zr_aload ⟨_, dX7_init_17, rfl⟩ rfl ?_
  refine zr_new (index := 9) (ci := 0) (N := 3) (v := 3) (fs := [.inr (.inl none), .inl 0, .inl 0]) dX7_init_18 rfl (zall3 (zmem (i := 389) (by decide +kernel) rfl) (zmem (i := 168) (by decide +kernel) rfl) (zmem (i := 128) (by decide +kernel) rfl)) nw_X0 nk_X0 rfl (Nat.succ_ne_zero _) rfl rfl rfl rfl (Nat.le_of_ble_eq_true rfl) (Nat.le_of_ble_eq_true rfl) ?_
  show zB m_X7_init (zR 3 5 42) (zFq 5 42 (fun k => k = 0) (fun r1 w1 => r1 = none ∧ w1 = [.inl (7, [.inr (.inl (some 1)), .inr (.inl (some 3)), .inr (.inl (some 5)), .inl 0, .inl 0, .inl 0, .inl 0, .inl 0]), .inl (0, [.inr (.inl (some 2)), .inl 0, .inl 0]), .inr (0, 16, fun _ => 0), .inl (0, [.inr (.inl (some 4)), .inl 0, .inl 0]), .inr (0, 16, fun _ => 0), .inr (0, 4, fun _ => 0)])) (fun k => k = 0) 21 [some (.inr (.inl (some 0)))] [.inr (.inl (some 3)), .inr (.inl (some 0))] [.inl (7, [.inr (.inl (some 1)), .inr (.inl none), .inr (.inl none), .inl 0, .inl 0, .inl 0, .inl 0, .inl 0]), .inl (0, [.inr (.inl (some 2)), .inl 0, .inl 0]), .inr (0, 16, fun _ => 0), .inl (0, [.inr (.inl none), .inl 0, .inl 0])] 3 22
  refine zr_dup dX7_init_21 (Or.inl True.intro) ?_
  refine zr_bipush dX7_init_22 (by decide) (by decide) ?_
  refine zt_ctor (v := 3) (w0 := [.inl (7, [.inr (.inl (some 1)), .inr (.inl none), .inr (.inl none), .inl 0, .inl 0, .inl 0, .inl 0, .inl 0]), .inl (0, [.inr (.inl (some 2)), .inl 0, .inl 0]), .inr (0, 16, fun _ => 0)]) (c0 := .inl (0, [.inr (.inl none), .inl 0, .inl 0])) (as := [.inl 16]) (zrun_I (rest := [.inr (.inl (some 3)), .inr (.inl (some 0))]) dX7_init_24 mi_X7_11 rfl (by decide) (by decide) rfl (Nat.le_of_ble_eq_true rfl)) (t_By_init (n := 16) (by decide)) rfl rfl rfl (fun k hk => by rw [hk]; exact Nat.zero_le _) rfl rfl rfl rfl (Nat.le_of_ble_eq_true rfl) (Nat.le_of_ble_eq_true rfl) ?_
  show zB m_X7_init (zR 3 5 42) (zFq 5 42 (fun k => k = 0) (fun r1 w1 => r1 = none ∧ w1 = [.inl (7, [.inr (.inl (some 1)), .inr (.inl (some 3)), .inr (.inl (some 5)), .inl 0, .inl 0, .inl 0, .inl 0, .inl 0]), .inl (0, [.inr (.inl (some 2)), .inl 0, .inl 0]), .inr (0, 16, fun _ => 0), .inl (0, [.inr (.inl (some 4)), .inl 0, .inl 0]), .inr (0, 16, fun _ => 0), .inr (0, 4, fun _ => 0)])) (fun k => k = 0) 27 [some (.inr (.inl (some 0)))] [.inr (.inl (some 3)), .inr (.inl (some 0))] [.inl (7, [.inr (.inl (some 1)), .inr (.inl none), .inr (.inl none), .inl 0, .inl 0, .inl 0, .inl 0, .inl 0]), .inl (0, [.inr (.inl (some 2)), .inl 0, .inl 0]), .inr (0, 16, fun _ => 0), .inl (0, [.inr (.inl (some 4)), .inl 0, .inl 0]), .inr (0, 16, fun _ => 0)] 4 38
  refine zr_putF (ty := .object "InputrowConsole$Bytes") dX7_init_27 fl_X7_20 rfl (fun _ _ _ h => by cases h; rfl) rfl (by decide) (by decide +kernel) True.intro (fun ad => ⟨rfl, rfl⟩) rfl ?_
  show zB m_X7_init (zR 3 5 42) (zFq 5 42 (fun k => k = 0) (fun r1 w1 => r1 = none ∧ w1 = [.inl (7, [.inr (.inl (some 1)), .inr (.inl (some 3)), .inr (.inl (some 5)), .inl 0, .inl 0, .inl 0, .inl 0, .inl 0]), .inl (0, [.inr (.inl (some 2)), .inl 0, .inl 0]), .inr (0, 16, fun _ => 0), .inl (0, [.inr (.inl (some 4)), .inl 0, .inl 0]), .inr (0, 16, fun _ => 0), .inr (0, 4, fun _ => 0)])) (fun k => k = 0) 30 [some (.inr (.inl (some 0)))] [] [.inl (7, [.inr (.inl (some 1)), .inr (.inl (some 3)), .inr (.inl none), .inl 0, .inl 0, .inl 0, .inl 0, .inl 0]), .inl (0, [.inr (.inl (some 2)), .inl 0, .inl 0]), .inr (0, 16, fun _ => 0), .inl (0, [.inr (.inl (some 4)), .inl 0, .inl 0]), .inr (0, 16, fun _ => 0)] 4 38
  refine zr_aload ⟨_, dX7_init_30, rfl⟩ rfl ?_
  refine zr_iconst dX7_init_31 (by decide) ?_
  refine zr_newa (len := 4) (v := 5) (tk := 0) dX7_init_32 (ty := .int) rfl (fun _ => rfl) (fun _ _ h => h) (fun _ => by simp [zeA, vp_cell, zof0, defaultValue]) ⟨by decide, fun _ _ _ => zin0⟩ (zmem (i := 186) (by decide +kernel) rfl) (by decide) rfl (by decide) rfl (Nat.succ_ne_zero _) rfl rfl rfl (Nat.le_of_ble_eq_true rfl) (Nat.le_of_ble_eq_true rfl) ?_
  show zB m_X7_init (zR 3 5 42) (zFq 5 42 (fun k => k = 0) (fun r1 w1 => r1 = none ∧ w1 = [.inl (7, [.inr (.inl (some 1)), .inr (.inl (some 3)), .inr (.inl (some 5)), .inl 0, .inl 0, .inl 0, .inl 0, .inl 0]), .inl (0, [.inr (.inl (some 2)), .inl 0, .inl 0]), .inr (0, 16, fun _ => 0), .inl (0, [.inr (.inl (some 4)), .inl 0, .inl 0]), .inr (0, 16, fun _ => 0), .inr (0, 4, fun _ => 0)])) (fun k => k = 0) 34 [some (.inr (.inl (some 0)))] [.inr (.inl (some 5)), .inr (.inl (some 0))] [.inl (7, [.inr (.inl (some 1)), .inr (.inl (some 3)), .inr (.inl none), .inl 0, .inl 0, .inl 0, .inl 0, .inl 0]), .inl (0, [.inr (.inl (some 2)), .inl 0, .inl 0]), .inr (0, 16, fun _ => 0), .inl (0, [.inr (.inl (some 4)), .inl 0, .inl 0]), .inr (0, 16, fun _ => 0), .inr (0, 4, fun _ => 0)] 5 42
  refine zr_putF (ty := .array .int) dX7_init_34 fl_X7_23 rfl (fun _ _ _ h => by cases h; rfl) rfl (by decide) (by decide +kernel) True.intro (fun ad => ⟨rfl, rfl⟩) rfl ?_
  show zB m_X7_init (zR 3 5 42) (zFq 5 42 (fun k => k = 0) (fun r1 w1 => r1 = none ∧ w1 = [.inl (7, [.inr (.inl (some 1)), .inr (.inl (some 3)), .inr (.inl (some 5)), .inl 0, .inl 0, .inl 0, .inl 0, .inl 0]), .inl (0, [.inr (.inl (some 2)), .inl 0, .inl 0]), .inr (0, 16, fun _ => 0), .inl (0, [.inr (.inl (some 4)), .inl 0, .inl 0]), .inr (0, 16, fun _ => 0), .inr (0, 4, fun _ => 0)])) (fun k => k = 0) 37 [some (.inr (.inl (some 0)))] [] [.inl (7, [.inr (.inl (some 1)), .inr (.inl (some 3)), .inr (.inl (some 5)), .inl 0, .inl 0, .inl 0, .inl 0, .inl 0]), .inl (0, [.inr (.inl (some 2)), .inl 0, .inl 0]), .inr (0, 16, fun _ => 0), .inl (0, [.inr (.inl (some 4)), .inl 0, .inl 0]), .inr (0, 16, fun _ => 0), .inr (0, 4, fun _ => 0)] 5 42
  refine zr_aload ⟨_, dX7_init_37, rfl⟩ rfl ?_
  refine zr_iconst dX7_init_38 (by decide) ?_
  refine zr_put (ty := .int) dX7_init_39 fl_X7_27 rfl (by decide) (by decide +kernel) (by show zin 0; decide) (fun ad => ⟨rfl, rfl⟩) rfl ?_
  show zB m_X7_init (zR 3 5 42) (zFq 5 42 (fun k => k = 0) (fun r1 w1 => r1 = none ∧ w1 = [.inl (7, [.inr (.inl (some 1)), .inr (.inl (some 3)), .inr (.inl (some 5)), .inl 0, .inl 0, .inl 0, .inl 0, .inl 0]), .inl (0, [.inr (.inl (some 2)), .inl 0, .inl 0]), .inr (0, 16, fun _ => 0), .inl (0, [.inr (.inl (some 4)), .inl 0, .inl 0]), .inr (0, 16, fun _ => 0), .inr (0, 4, fun _ => 0)])) (fun k => k = 0) 42 [some (.inr (.inl (some 0)))] [] [.inl (7, [.inr (.inl (some 1)), .inr (.inl (some 3)), .inr (.inl (some 5)), .inl 0, .inl 0, .inl 0, .inl 0, .inl 0]), .inl (0, [.inr (.inl (some 2)), .inl 0, .inl 0]), .inr (0, 16, fun _ => 0), .inl (0, [.inr (.inl (some 4)), .inl 0, .inl 0]), .inr (0, 16, fun _ => 0), .inr (0, 4, fun _ => 0)] 5 42
  exact zr_vret dX7_init_42 rfl (Nat.le_of_ble_eq_true rfl) (Nat.le_of_ble_eq_true rfl) ⟨rfl, rfl⟩
set_option maxRecDepth 100000 in
set_option maxHeartbeats 4000000 in
theorem t_Ma_init : zSpec 3 (fun k => k = 0) 10 4091 m_X4_init [.inr (.inl (some 0))] [.inl (4, [.inr (.inl none), .inr (.inl none), .inr (.inl none), .inr (.inl none), .inr (.inl none), .inr (.inl none), .inl 0, .inl 0, .inl 0, .inl 0, .inl 0, .inl 0])] (fun r1 w1 => r1 = none ∧ w1 = [.inl (4, [.inr (.inl (some 1)), .inr (.inl (some 4)), .inr (.inl (some 7)), .inr (.inl (some 8)), .inr (.inl (some 9)), .inr (.inl (some 10)), .inl 0, .inl 0, .inl 0, .inl 0, .inl 0, .inl 0]), .inl (6, [.inr (.inl (some 2)), .inr (.inl (some 3)), .inl 6, .inl 12]), .inr (0, 288, fun _ => 0), .inr (1, 12, fun _ => 0), .inl (2, [.inr (.inl (some 5)), .inr (.inl (some 6)), .inl 0]), .inr (0, 960, fun _ => 0), .inr (1, 40, fun _ => 0), .inr (0, 1248, fun _ => 0), .inr (0, 512, fun _ => 0), .inr (0, 512, fun _ => 0), .inr (1, 512, fun _ => 0)]) := by
  refine zSpec_of (by decide +kernel) (Nat.le_of_ble_eq_true rfl) ?_
  refine zr_aload ⟨_, dX4_init_0, rfl⟩ rfl ?_
  refine zr_obj (a := 0) dX4_init_1 (zall3 (zmem (i := 241) (by decide +kernel) rfl) (zmem (i := 165) (by decide +kernel) rfl) (zmem (i := 166) (by decide +kernel) rfl)) (by decide) (Nat.le_of_ble_eq_true rfl) ?_
  refine zr_aload ⟨_, dX4_init_4, rfl⟩ rfl ?_
  refine zr_new (index := 9) (ci := 6) (N := 4) (v := 1) (fs := [.inr (.inl none), .inr (.inl none), .inl 0, .inl 0]) dX4_init_5 rfl (zall3 (zmem (i := 242) (by decide +kernel) rfl) (zmem (i := 243) (by decide +kernel) rfl) (zmem (i := 133) (by decide +kernel) rfl)) nw_X6 nk_X6 rfl (Nat.succ_ne_zero _) rfl rfl rfl rfl (Nat.le_of_ble_eq_true rfl) (Nat.le_of_ble_eq_true rfl) ?_
  show zB m_X4_init (zR 3 10 4091) (zFq 10 4091 (fun k => k = 0) (fun r1 w1 => r1 = none ∧ w1 = [.inl (4, [.inr (.inl (some 1)), .inr (.inl (some 4)), .inr (.inl (some 7)), .inr (.inl (some 8)), .inr (.inl (some 9)), .inr (.inl (some 10)), .inl 0, .inl 0, .inl 0, .inl 0, .inl 0, .inl 0]), .inl (6, [.inr (.inl (some 2)), .inr (.inl (some 3)), .inl 6, .inl 12]), .inr (0, 288, fun _ => 0), .inr (1, 12, fun _ => 0), .inl (2, [.inr (.inl (some 5)), .inr (.inl (some 6)), .inl 0]), .inr (0, 960, fun _ => 0), .inr (1, 40, fun _ => 0), .inr (0, 1248, fun _ => 0), .inr (0, 512, fun _ => 0), .inr (0, 512, fun _ => 0), .inr (1, 512, fun _ => 0)])) (fun k => k = 0) 8 [some (.inr (.inl (some 0)))] [.inr (.inl (some 1)), .inr (.inl (some 0))] [.inl (4, [.inr (.inl none), .inr (.inl none), .inr (.inl none), .inr (.inl none), .inr (.inl none), .inr (.inl none), .inl 0, .inl 0, .inl 0, .inl 0, .inl 0, .inl 0]), .inl (6, [.inr (.inl none), .inr (.inl none), .inl 0, .inl 0])] 1 4
  refine zr_dup dX4_init_8 (Or.inl True.intro) ?_
  refine zt_ctor (v := 1) (w0 := [.inl (4, [.inr (.inl none), .inr (.inl none), .inr (.inl none), .inr (.inl none), .inr (.inl none), .inr (.inl none), .inl 0, .inl 0, .inl 0, .inl 0, .inl 0, .inl 0])]) (c0 := .inl (6, [.inr (.inl none), .inr (.inl none), .inl 0, .inl 0])) (as := []) (zrun_IN (rest := [.inr (.inl (some 1)), .inr (.inl (some 0))]) dX4_init_9 mi_X4_11 rfl (by decide) (by decide) rfl (Nat.le_of_ble_eq_true rfl)) (t_Pi_init) rfl rfl rfl (fun k hk => by rw [hk]; exact Nat.zero_le _) rfl rfl rfl rfl (Nat.le_of_ble_eq_true rfl) (Nat.le_of_ble_eq_true rfl) ?_
  show zB m_X4_init (zR 3 10 4091) (zFq 10 4091 (fun k => k = 0) (fun r1 w1 => r1 = none ∧ w1 = [.inl (4, [.inr (.inl (some 1)), .inr (.inl (some 4)), .inr (.inl (some 7)), .inr (.inl (some 8)), .inr (.inl (some 9)), .inr (.inl (some 10)), .inl 0, .inl 0, .inl 0, .inl 0, .inl 0, .inl 0]), .inl (6, [.inr (.inl (some 2)), .inr (.inl (some 3)), .inl 6, .inl 12]), .inr (0, 288, fun _ => 0), .inr (1, 12, fun _ => 0), .inl (2, [.inr (.inl (some 5)), .inr (.inl (some 6)), .inl 0]), .inr (0, 960, fun _ => 0), .inr (1, 40, fun _ => 0), .inr (0, 1248, fun _ => 0), .inr (0, 512, fun _ => 0), .inr (0, 512, fun _ => 0), .inr (1, 512, fun _ => 0)])) (fun k => k = 0) 12 [some (.inr (.inl (some 0)))] [.inr (.inl (some 1)), .inr (.inl (some 0))] [.inl (4, [.inr (.inl none), .inr (.inl none), .inr (.inl none), .inr (.inl none), .inr (.inl none), .inr (.inl none), .inl 0, .inl 0, .inl 0, .inl 0, .inl 0, .inl 0]), .inl (6, [.inr (.inl (some 2)), .inr (.inl (some 3)), .inl 6, .inl 12]), .inr (0, 288, fun _ => 0), .inr (1, 12, fun _ => 0)] 3 304
  refine zr_putF (ty := .object "InputrowConsole$Picture") dX4_init_12 fl_X4_12 rfl (fun _ _ _ h => by cases h; rfl) rfl (by decide) (by decide +kernel) True.intro (fun ad => ⟨rfl, rfl⟩) rfl ?_
  show zB m_X4_init (zR 3 10 4091) (zFq 10 4091 (fun k => k = 0) (fun r1 w1 => r1 = none ∧ w1 = [.inl (4, [.inr (.inl (some 1)), .inr (.inl (some 4)), .inr (.inl (some 7)), .inr (.inl (some 8)), .inr (.inl (some 9)), .inr (.inl (some 10)), .inl 0, .inl 0, .inl 0, .inl 0, .inl 0, .inl 0]), .inl (6, [.inr (.inl (some 2)), .inr (.inl (some 3)), .inl 6, .inl 12]), .inr (0, 288, fun _ => 0), .inr (1, 12, fun _ => 0), .inl (2, [.inr (.inl (some 5)), .inr (.inl (some 6)), .inl 0]), .inr (0, 960, fun _ => 0), .inr (1, 40, fun _ => 0), .inr (0, 1248, fun _ => 0), .inr (0, 512, fun _ => 0), .inr (0, 512, fun _ => 0), .inr (1, 512, fun _ => 0)])) (fun k => k = 0) 15 [some (.inr (.inl (some 0)))] [] [.inl (4, [.inr (.inl (some 1)), .inr (.inl none), .inr (.inl none), .inr (.inl none), .inr (.inl none), .inr (.inl none), .inl 0, .inl 0, .inl 0, .inl 0, .inl 0, .inl 0]), .inl (6, [.inr (.inl (some 2)), .inr (.inl (some 3)), .inl 6, .inl 12]), .inr (0, 288, fun _ => 0), .inr (1, 12, fun _ => 0)] 3 304
  refine zr_aload ⟨_, dX4_init_15, rfl⟩ rfl ?_
  refine zr_new (index := 18) (ci := 2) (N := 3) (v := 4) (fs := [.inr (.inl none), .inr (.inl none), .inl 0]) dX4_init_16 rfl (zall3 (zmem (i := 262) (by decide +kernel) rfl) (zmem (i := 263) (by decide +kernel) rfl) (zmem (i := 134) (by decide +kernel) rfl)) nw_X2 nk_X2 rfl (Nat.succ_ne_zero _) rfl rfl rfl rfl (Nat.le_of_ble_eq_true rfl) (Nat.le_of_ble_eq_true rfl) ?_
  show zB m_X4_init (zR 3 10 4091) (zFq 10 4091 (fun k => k = 0) (fun r1 w1 => r1 = none ∧ w1 = [.inl (4, [.inr (.inl (some 1)), .inr (.inl (some 4)), .inr (.inl (some 7)), .inr (.inl (some 8)), .inr (.inl (some 9)), .inr (.inl (some 10)), .inl 0, .inl 0, .inl 0, .inl 0, .inl 0, .inl 0]), .inl (6, [.inr (.inl (some 2)), .inr (.inl (some 3)), .inl 6, .inl 12]), .inr (0, 288, fun _ => 0), .inr (1, 12, fun _ => 0), .inl (2, [.inr (.inl (some 5)), .inr (.inl (some 6)), .inl 0]), .inr (0, 960, fun _ => 0), .inr (1, 40, fun _ => 0), .inr (0, 1248, fun _ => 0), .inr (0, 512, fun _ => 0), .inr (0, 512, fun _ => 0), .inr (1, 512, fun _ => 0)])) (fun k => k = 0) 19 [some (.inr (.inl (some 0)))] [.inr (.inl (some 4)), .inr (.inl (some 0))] [.inl (4, [.inr (.inl (some 1)), .inr (.inl none), .inr (.inl none), .inr (.inl none), .inr (.inl none), .inr (.inl none), .inl 0, .inl 0, .inl 0, .inl 0, .inl 0, .inl 0]), .inl (6, [.inr (.inl (some 2)), .inr (.inl (some 3)), .inl 6, .inl 12]), .inr (0, 288, fun _ => 0), .inr (1, 12, fun _ => 0), .inl (2, [.inr (.inl none), .inr (.inl none), .inl 0])] 4 307
  refine zr_dup dX4_init_19 (Or.inl True.intro) ?_
  refine zt_ctor (v := 4) (w0 := [.inl (4, [.inr (.inl (some 1)), .inr (.inl none), .inr (.inl none), .inr (.inl none), .inr (.inl none), .inr (.inl none), .inl 0, .inl 0, .inl 0, .inl 0, .inl 0, .inl 0]), .inl (6, [.inr (.inl (some 2)), .inr (.inl (some 3)), .inl 6, .inl 12]), .inr (0, 288, fun _ => 0), .inr (1, 12, fun _ => 0)]) (c0 := .inl (2, [.inr (.inl none), .inr (.inl none), .inl 0])) (as := []) (zrun_IN (rest := [.inr (.inl (some 4)), .inr (.inl (some 0))]) dX4_init_20 mi_X4_20 rfl (by decide) (by decide) rfl (Nat.le_of_ble_eq_true rfl)) (t_Hi_init) rfl rfl rfl (fun k hk => by rw [hk]; exact Nat.zero_le _) rfl rfl rfl rfl (Nat.le_of_ble_eq_true rfl) (Nat.le_of_ble_eq_true rfl) ?_
  show zB m_X4_init (zR 3 10 4091) (zFq 10 4091 (fun k => k = 0) (fun r1 w1 => r1 = none ∧ w1 = [.inl (4, [.inr (.inl (some 1)), .inr (.inl (some 4)), .inr (.inl (some 7)), .inr (.inl (some 8)), .inr (.inl (some 9)), .inr (.inl (some 10)), .inl 0, .inl 0, .inl 0, .inl 0, .inl 0, .inl 0]), .inl (6, [.inr (.inl (some 2)), .inr (.inl (some 3)), .inl 6, .inl 12]), .inr (0, 288, fun _ => 0), .inr (1, 12, fun _ => 0), .inl (2, [.inr (.inl (some 5)), .inr (.inl (some 6)), .inl 0]), .inr (0, 960, fun _ => 0), .inr (1, 40, fun _ => 0), .inr (0, 1248, fun _ => 0), .inr (0, 512, fun _ => 0), .inr (0, 512, fun _ => 0), .inr (1, 512, fun _ => 0)])) (fun k => k = 0) 23 [some (.inr (.inl (some 0)))] [.inr (.inl (some 4)), .inr (.inl (some 0))] [.inl (4, [.inr (.inl (some 1)), .inr (.inl none), .inr (.inl none), .inr (.inl none), .inr (.inl none), .inr (.inl none), .inl 0, .inl 0, .inl 0, .inl 0, .inl 0, .inl 0]), .inl (6, [.inr (.inl (some 2)), .inr (.inl (some 3)), .inl 6, .inl 12]), .inr (0, 288, fun _ => 0), .inr (1, 12, fun _ => 0), .inl (2, [.inr (.inl (some 5)), .inr (.inl (some 6)), .inl 0]), .inr (0, 960, fun _ => 0), .inr (1, 40, fun _ => 0)] 6 1307
  refine zr_putF (ty := .object "InputrowConsole$History") dX4_init_23 fl_X4_21 rfl (fun _ _ _ h => by cases h; rfl) rfl (by decide) (by decide +kernel) True.intro (fun ad => ⟨rfl, rfl⟩) rfl ?_
  show zB m_X4_init (zR 3 10 4091) (zFq 10 4091 (fun k => k = 0) (fun r1 w1 => r1 = none ∧ w1 = [.inl (4, [.inr (.inl (some 1)), .inr (.inl (some 4)), .inr (.inl (some 7)), .inr (.inl (some 8)), .inr (.inl (some 9)), .inr (.inl (some 10)), .inl 0, .inl 0, .inl 0, .inl 0, .inl 0, .inl 0]), .inl (6, [.inr (.inl (some 2)), .inr (.inl (some 3)), .inl 6, .inl 12]), .inr (0, 288, fun _ => 0), .inr (1, 12, fun _ => 0), .inl (2, [.inr (.inl (some 5)), .inr (.inl (some 6)), .inl 0]), .inr (0, 960, fun _ => 0), .inr (1, 40, fun _ => 0), .inr (0, 1248, fun _ => 0), .inr (0, 512, fun _ => 0), .inr (0, 512, fun _ => 0), .inr (1, 512, fun _ => 0)])) (fun k => k = 0) 26 [some (.inr (.inl (some 0)))] [] [.inl (4, [.inr (.inl (some 1)), .inr (.inl (some 4)), .inr (.inl none), .inr (.inl none), .inr (.inl none), .inr (.inl none), .inl 0, .inl 0, .inl 0, .inl 0, .inl 0, .inl 0]), .inl (6, [.inr (.inl (some 2)), .inr (.inl (some 3)), .inl 6, .inl 12]), .inr (0, 288, fun _ => 0), .inr (1, 12, fun _ => 0), .inl (2, [.inr (.inl (some 5)), .inr (.inl (some 6)), .inl 0]), .inr (0, 960, fun _ => 0), .inr (1, 40, fun _ => 0)] 6 1307
  refine zr_aload ⟨_, dX4_init_26, rfl⟩ rfl ?_
  refine zr_sipush dX4_init_27 (by decide) (by decide) ?_
  refine zr_newa (len := 1248) (v := 7) (tk := 0) dX4_init_30 (ty := .int) rfl (fun _ => rfl) (fun _ _ h => h) (fun _ => by simp [zeA, vp_cell, zof0, defaultValue]) ⟨by decide, fun _ _ _ => zin0⟩ (zmem (i := 186) (by decide +kernel) rfl) (by decide) rfl (by decide) rfl (Nat.succ_ne_zero _) rfl rfl rfl (Nat.le_of_ble_eq_true rfl) (Nat.le_of_ble_eq_true rfl) ?_
  show zB m_X4_init (zR 3 10 4091) (zFq 10 4091 (fun k => k = 0) (fun r1 w1 => r1 = none ∧ w1 = [.inl (4, [.inr (.inl (some 1)), .inr (.inl (some 4)), .inr (.inl (some 7)), .inr (.inl (some 8)), .inr (.inl (some 9)), .inr (.inl (some 10)), .inl 0, .inl 0, .inl 0, .inl 0, .inl 0, .inl 0]), .inl (6, [.inr (.inl (some 2)), .inr (.inl (some 3)), .inl 6, .inl 12]), .inr (0, 288, fun _ => 0), .inr (1, 12, fun _ => 0), .inl (2, [.inr (.inl (some 5)), .inr (.inl (some 6)), .inl 0]), .inr (0, 960, fun _ => 0), .inr (1, 40, fun _ => 0), .inr (0, 1248, fun _ => 0), .inr (0, 512, fun _ => 0), .inr (0, 512, fun _ => 0), .inr (1, 512, fun _ => 0)])) (fun k => k = 0) 32 [some (.inr (.inl (some 0)))] [.inr (.inl (some 7)), .inr (.inl (some 0))] [.inl (4, [.inr (.inl (some 1)), .inr (.inl (some 4)), .inr (.inl none), .inr (.inl none), .inr (.inl none), .inr (.inl none), .inl 0, .inl 0, .inl 0, .inl 0, .inl 0, .inl 0]), .inl (6, [.inr (.inl (some 2)), .inr (.inl (some 3)), .inl 6, .inl 12]), .inr (0, 288, fun _ => 0), .inr (1, 12, fun _ => 0), .inl (2, [.inr (.inl (some 5)), .inr (.inl (some 6)), .inl 0]), .inr (0, 960, fun _ => 0), .inr (1, 40, fun _ => 0), .inr (0, 1248, fun _ => 0)] 7 2555
  refine zr_putF (ty := .array .int) dX4_init_32 fl_X4_25 rfl (fun _ _ _ h => by cases h; rfl) rfl (by decide) (by decide +kernel) True.intro (fun ad => ⟨rfl, rfl⟩) rfl ?_
  show zB m_X4_init (zR 3 10 4091) (zFq 10 4091 (fun k => k = 0) (fun r1 w1 => r1 = none ∧ w1 = [.inl (4, [.inr (.inl (some 1)), .inr (.inl (some 4)), .inr (.inl (some 7)), .inr (.inl (some 8)), .inr (.inl (some 9)), .inr (.inl (some 10)), .inl 0, .inl 0, .inl 0, .inl 0, .inl 0, .inl 0]), .inl (6, [.inr (.inl (some 2)), .inr (.inl (some 3)), .inl 6, .inl 12]), .inr (0, 288, fun _ => 0), .inr (1, 12, fun _ => 0), .inl (2, [.inr (.inl (some 5)), .inr (.inl (some 6)), .inl 0]), .inr (0, 960, fun _ => 0), .inr (1, 40, fun _ => 0), .inr (0, 1248, fun _ => 0), .inr (0, 512, fun _ => 0), .inr (0, 512, fun _ => 0), .inr (1, 512, fun _ => 0)])) (fun k => k = 0) 35 [some (.inr (.inl (some 0)))] [] [.inl (4, [.inr (.inl (some 1)), .inr (.inl (some 4)), .inr (.inl (some 7)), .inr (.inl none), .inr (.inl none), .inr (.inl none), .inl 0, .inl 0, .inl 0, .inl 0, .inl 0, .inl 0]), .inl (6, [.inr (.inl (some 2)), .inr (.inl (some 3)), .inl 6, .inl 12]), .inr (0, 288, fun _ => 0), .inr (1, 12, fun _ => 0), .inl (2, [.inr (.inl (some 5)), .inr (.inl (some 6)), .inl 0]), .inr (0, 960, fun _ => 0), .inr (1, 40, fun _ => 0), .inr (0, 1248, fun _ => 0)] 7 2555
  refine zr_aload ⟨_, dX4_init_35, rfl⟩ rfl ?_
  refine zr_sipush dX4_init_36 (by decide) (by decide) ?_
  refine zr_newa (len := 512) (v := 8) (tk := 0) dX4_init_39 (ty := .int) rfl (fun _ => rfl) (fun _ _ h => h) (fun _ => by simp [zeA, vp_cell, zof0, defaultValue]) ⟨by decide, fun _ _ _ => zin0⟩ (zmem (i := 186) (by decide +kernel) rfl) (by decide) rfl (by decide) rfl (Nat.succ_ne_zero _) rfl rfl rfl (Nat.le_of_ble_eq_true rfl) (Nat.le_of_ble_eq_true rfl) ?_
  show zB m_X4_init (zR 3 10 4091) (zFq 10 4091 (fun k => k = 0) (fun r1 w1 => r1 = none ∧ w1 = [.inl (4, [.inr (.inl (some 1)), .inr (.inl (some 4)), .inr (.inl (some 7)), .inr (.inl (some 8)), .inr (.inl (some 9)), .inr (.inl (some 10)), .inl 0, .inl 0, .inl 0, .inl 0, .inl 0, .inl 0]), .inl (6, [.inr (.inl (some 2)), .inr (.inl (some 3)), .inl 6, .inl 12]), .inr (0, 288, fun _ => 0), .inr (1, 12, fun _ => 0), .inl (2, [.inr (.inl (some 5)), .inr (.inl (some 6)), .inl 0]), .inr (0, 960, fun _ => 0), .inr (1, 40, fun _ => 0), .inr (0, 1248, fun _ => 0), .inr (0, 512, fun _ => 0), .inr (0, 512, fun _ => 0), .inr (1, 512, fun _ => 0)])) (fun k => k = 0) 41 [some (.inr (.inl (some 0)))] [.inr (.inl (some 8)), .inr (.inl (some 0))] [.inl (4, [.inr (.inl (some 1)), .inr (.inl (some 4)), .inr (.inl (some 7)), .inr (.inl none), .inr (.inl none), .inr (.inl none), .inl 0, .inl 0, .inl 0, .inl 0, .inl 0, .inl 0]), .inl (6, [.inr (.inl (some 2)), .inr (.inl (some 3)), .inl 6, .inl 12]), .inr (0, 288, fun _ => 0), .inr (1, 12, fun _ => 0), .inl (2, [.inr (.inl (some 5)), .inr (.inl (some 6)), .inl 0]), .inr (0, 960, fun _ => 0), .inr (1, 40, fun _ => 0), .inr (0, 1248, fun _ => 0), .inr (0, 512, fun _ => 0)] 8 3067
  refine zr_putF (ty := .array .int) dX4_init_41 fl_X4_29 rfl (fun _ _ _ h => by cases h; rfl) rfl (by decide) (by decide +kernel) True.intro (fun ad => ⟨rfl, rfl⟩) rfl ?_
  show zB m_X4_init (zR 3 10 4091) (zFq 10 4091 (fun k => k = 0) (fun r1 w1 => r1 = none ∧ w1 = [.inl (4, [.inr (.inl (some 1)), .inr (.inl (some 4)), .inr (.inl (some 7)), .inr (.inl (some 8)), .inr (.inl (some 9)), .inr (.inl (some 10)), .inl 0, .inl 0, .inl 0, .inl 0, .inl 0, .inl 0]), .inl (6, [.inr (.inl (some 2)), .inr (.inl (some 3)), .inl 6, .inl 12]), .inr (0, 288, fun _ => 0), .inr (1, 12, fun _ => 0), .inl (2, [.inr (.inl (some 5)), .inr (.inl (some 6)), .inl 0]), .inr (0, 960, fun _ => 0), .inr (1, 40, fun _ => 0), .inr (0, 1248, fun _ => 0), .inr (0, 512, fun _ => 0), .inr (0, 512, fun _ => 0), .inr (1, 512, fun _ => 0)])) (fun k => k = 0) 44 [some (.inr (.inl (some 0)))] [] [.inl (4, [.inr (.inl (some 1)), .inr (.inl (some 4)), .inr (.inl (some 7)), .inr (.inl (some 8)), .inr (.inl none), .inr (.inl none), .inl 0, .inl 0, .inl 0, .inl 0, .inl 0, .inl 0]), .inl (6, [.inr (.inl (some 2)), .inr (.inl (some 3)), .inl 6, .inl 12]), .inr (0, 288, fun _ => 0), .inr (1, 12, fun _ => 0), .inl (2, [.inr (.inl (some 5)), .inr (.inl (some 6)), .inl 0]), .inr (0, 960, fun _ => 0), .inr (1, 40, fun _ => 0), .inr (0, 1248, fun _ => 0), .inr (0, 512, fun _ => 0)] 8 3067
  refine zr_aload ⟨_, dX4_init_44, rfl⟩ rfl ?_
  refine zr_sipush dX4_init_45 (by decide) (by decide) ?_
  refine zr_newa (len := 512) (v := 9) (tk := 0) dX4_init_48 (ty := .int) rfl (fun _ => rfl) (fun _ _ h => h) (fun _ => by simp [zeA, vp_cell, zof0, defaultValue]) ⟨by decide, fun _ _ _ => zin0⟩ (zmem (i := 186) (by decide +kernel) rfl) (by decide) rfl (by decide) rfl (Nat.succ_ne_zero _) rfl rfl rfl (Nat.le_of_ble_eq_true rfl) (Nat.le_of_ble_eq_true rfl) ?_
  show zB m_X4_init (zR 3 10 4091) (zFq 10 4091 (fun k => k = 0) (fun r1 w1 => r1 = none ∧ w1 = [.inl (4, [.inr (.inl (some 1)), .inr (.inl (some 4)), .inr (.inl (some 7)), .inr (.inl (some 8)), .inr (.inl (some 9)), .inr (.inl (some 10)), .inl 0, .inl 0, .inl 0, .inl 0, .inl 0, .inl 0]), .inl (6, [.inr (.inl (some 2)), .inr (.inl (some 3)), .inl 6, .inl 12]), .inr (0, 288, fun _ => 0), .inr (1, 12, fun _ => 0), .inl (2, [.inr (.inl (some 5)), .inr (.inl (some 6)), .inl 0]), .inr (0, 960, fun _ => 0), .inr (1, 40, fun _ => 0), .inr (0, 1248, fun _ => 0), .inr (0, 512, fun _ => 0), .inr (0, 512, fun _ => 0), .inr (1, 512, fun _ => 0)])) (fun k => k = 0) 50 [some (.inr (.inl (some 0)))] [.inr (.inl (some 9)), .inr (.inl (some 0))] [.inl (4, [.inr (.inl (some 1)), .inr (.inl (some 4)), .inr (.inl (some 7)), .inr (.inl (some 8)), .inr (.inl none), .inr (.inl none), .inl 0, .inl 0, .inl 0, .inl 0, .inl 0, .inl 0]), .inl (6, [.inr (.inl (some 2)), .inr (.inl (some 3)), .inl 6, .inl 12]), .inr (0, 288, fun _ => 0), .inr (1, 12, fun _ => 0), .inl (2, [.inr (.inl (some 5)), .inr (.inl (some 6)), .inl 0]), .inr (0, 960, fun _ => 0), .inr (1, 40, fun _ => 0), .inr (0, 1248, fun _ => 0), .inr (0, 512, fun _ => 0), .inr (0, 512, fun _ => 0)] 9 3579
  refine zr_putF (ty := .array .int) dX4_init_50 fl_X4_32 rfl (fun _ _ _ h => by cases h; rfl) rfl (by decide) (by decide +kernel) True.intro (fun ad => ⟨rfl, rfl⟩) rfl ?_
  show zB m_X4_init (zR 3 10 4091) (zFq 10 4091 (fun k => k = 0) (fun r1 w1 => r1 = none ∧ w1 = [.inl (4, [.inr (.inl (some 1)), .inr (.inl (some 4)), .inr (.inl (some 7)), .inr (.inl (some 8)), .inr (.inl (some 9)), .inr (.inl (some 10)), .inl 0, .inl 0, .inl 0, .inl 0, .inl 0, .inl 0]), .inl (6, [.inr (.inl (some 2)), .inr (.inl (some 3)), .inl 6, .inl 12]), .inr (0, 288, fun _ => 0), .inr (1, 12, fun _ => 0), .inl (2, [.inr (.inl (some 5)), .inr (.inl (some 6)), .inl 0]), .inr (0, 960, fun _ => 0), .inr (1, 40, fun _ => 0), .inr (0, 1248, fun _ => 0), .inr (0, 512, fun _ => 0), .inr (0, 512, fun _ => 0), .inr (1, 512, fun _ => 0)])) (fun k => k = 0) 53 [some (.inr (.inl (some 0)))] [] [.inl (4, [.inr (.inl (some 1)), .inr (.inl (some 4)), .inr (.inl (some 7)), .inr (.inl (some 8)), .inr (.inl (some 9)), .inr (.inl none), .inl 0, .inl 0, .inl 0, .inl 0, .inl 0, .inl 0]), .inl (6, [.inr (.inl (some 2)), .inr (.inl (some 3)), .inl 6, .inl 12]), .inr (0, 288, fun _ => 0), .inr (1, 12, fun _ => 0), .inl (2, [.inr (.inl (some 5)), .inr (.inl (some 6)), .inl 0]), .inr (0, 960, fun _ => 0), .inr (1, 40, fun _ => 0), .inr (0, 1248, fun _ => 0), .inr (0, 512, fun _ => 0), .inr (0, 512, fun _ => 0)] 9 3579
  refine zr_aload ⟨_, dX4_init_53, rfl⟩ rfl ?_
  refine zr_sipush dX4_init_54 (by decide) (by decide) ?_
  refine zr_newa (len := 512) (v := 10) (tk := 1) dX4_init_57 (ty := .boolean) rfl (fun _ => rfl) (fun _ _ h => h) (fun _ => by simp [zeA, vp_cell, zof0, defaultValue]) ⟨by decide, fun _ _ _ => zin0⟩ (zmem (i := 261) (by decide +kernel) rfl) (by decide) rfl (by decide) rfl (Nat.succ_ne_zero _) rfl rfl rfl (Nat.le_of_ble_eq_true rfl) (Nat.le_of_ble_eq_true rfl) ?_
  show zB m_X4_init (zR 3 10 4091) (zFq 10 4091 (fun k => k = 0) (fun r1 w1 => r1 = none ∧ w1 = [.inl (4, [.inr (.inl (some 1)), .inr (.inl (some 4)), .inr (.inl (some 7)), .inr (.inl (some 8)), .inr (.inl (some 9)), .inr (.inl (some 10)), .inl 0, .inl 0, .inl 0, .inl 0, .inl 0, .inl 0]), .inl (6, [.inr (.inl (some 2)), .inr (.inl (some 3)), .inl 6, .inl 12]), .inr (0, 288, fun _ => 0), .inr (1, 12, fun _ => 0), .inl (2, [.inr (.inl (some 5)), .inr (.inl (some 6)), .inl 0]), .inr (0, 960, fun _ => 0), .inr (1, 40, fun _ => 0), .inr (0, 1248, fun _ => 0), .inr (0, 512, fun _ => 0), .inr (0, 512, fun _ => 0), .inr (1, 512, fun _ => 0)])) (fun k => k = 0) 59 [some (.inr (.inl (some 0)))] [.inr (.inl (some 10)), .inr (.inl (some 0))] [.inl (4, [.inr (.inl (some 1)), .inr (.inl (some 4)), .inr (.inl (some 7)), .inr (.inl (some 8)), .inr (.inl (some 9)), .inr (.inl none), .inl 0, .inl 0, .inl 0, .inl 0, .inl 0, .inl 0]), .inl (6, [.inr (.inl (some 2)), .inr (.inl (some 3)), .inl 6, .inl 12]), .inr (0, 288, fun _ => 0), .inr (1, 12, fun _ => 0), .inl (2, [.inr (.inl (some 5)), .inr (.inl (some 6)), .inl 0]), .inr (0, 960, fun _ => 0), .inr (1, 40, fun _ => 0), .inr (0, 1248, fun _ => 0), .inr (0, 512, fun _ => 0), .inr (0, 512, fun _ => 0), .inr (1, 512, fun _ => 0)] 10 4091
  refine zr_putF (ty := .array .boolean) dX4_init_59 fl_X4_35 rfl (fun _ _ _ h => by cases h; rfl) rfl (by decide) (by decide +kernel) True.intro (fun ad => ⟨rfl, rfl⟩) rfl ?_
  show zB m_X4_init (zR 3 10 4091) (zFq 10 4091 (fun k => k = 0) (fun r1 w1 => r1 = none ∧ w1 = [.inl (4, [.inr (.inl (some 1)), .inr (.inl (some 4)), .inr (.inl (some 7)), .inr (.inl (some 8)), .inr (.inl (some 9)), .inr (.inl (some 10)), .inl 0, .inl 0, .inl 0, .inl 0, .inl 0, .inl 0]), .inl (6, [.inr (.inl (some 2)), .inr (.inl (some 3)), .inl 6, .inl 12]), .inr (0, 288, fun _ => 0), .inr (1, 12, fun _ => 0), .inl (2, [.inr (.inl (some 5)), .inr (.inl (some 6)), .inl 0]), .inr (0, 960, fun _ => 0), .inr (1, 40, fun _ => 0), .inr (0, 1248, fun _ => 0), .inr (0, 512, fun _ => 0), .inr (0, 512, fun _ => 0), .inr (1, 512, fun _ => 0)])) (fun k => k = 0) 62 [some (.inr (.inl (some 0)))] [] [.inl (4, [.inr (.inl (some 1)), .inr (.inl (some 4)), .inr (.inl (some 7)), .inr (.inl (some 8)), .inr (.inl (some 9)), .inr (.inl (some 10)), .inl 0, .inl 0, .inl 0, .inl 0, .inl 0, .inl 0]), .inl (6, [.inr (.inl (some 2)), .inr (.inl (some 3)), .inl 6, .inl 12]), .inr (0, 288, fun _ => 0), .inr (1, 12, fun _ => 0), .inl (2, [.inr (.inl (some 5)), .inr (.inl (some 6)), .inl 0]), .inr (0, 960, fun _ => 0), .inr (1, 40, fun _ => 0), .inr (0, 1248, fun _ => 0), .inr (0, 512, fun _ => 0), .inr (0, 512, fun _ => 0), .inr (1, 512, fun _ => 0)] 10 4091
  exact zr_vret dX4_init_62 rfl (Nat.le_of_ble_eq_true rfl) (Nat.le_of_ble_eq_true rfl) ⟨rfl, rfl⟩
set_option maxRecDepth 100000 in
set_option maxHeartbeats 4000000 in
theorem t_Ta_init : zSpec 2 (fun k => k = 0) 1 1024 m_X10_init [.inr (.inl (some 0))] [.inl (10, [.inr (.inl none), .inl 0, .inl 0])] (fun r1 w1 => r1 = none ∧ w1 = [.inl (10, [.inr (.inl (some 1)), .inl 0, .inl 0]), .inr (0, 1024, fun _ => 0)]) := by
  refine zSpec_of (by decide +kernel) (Nat.le_of_ble_eq_true rfl) ?_
  refine zr_aload ⟨_, dX10_init_0, rfl⟩ rfl ?_
  refine zr_obj (a := 0) dX10_init_1 (zall3 (zmem (i := 484) (by decide +kernel) rfl) (zmem (i := 165) (by decide +kernel) rfl) (zmem (i := 166) (by decide +kernel) rfl)) (by decide) (Nat.le_of_ble_eq_true rfl) ?_
  refine zr_aload ⟨_, dX10_init_4, rfl⟩ rfl ?_
  refine zr_sipush dX10_init_5 (by decide) (by decide) ?_
  refine zr_newa (len := 1024) (v := 1) (tk := 0) dX10_init_8 (ty := .int) rfl (fun _ => rfl) (fun _ _ h => h) (fun _ => by simp [zeA, vp_cell, zof0, defaultValue]) ⟨by decide, fun _ _ _ => zin0⟩ (zmem (i := 186) (by decide +kernel) rfl) (by decide) rfl (by decide) rfl (Nat.succ_ne_zero _) rfl rfl rfl (Nat.le_of_ble_eq_true rfl) (Nat.le_of_ble_eq_true rfl) ?_
  show zB m_X10_init (zR 2 1 1024) (zFq 1 1024 (fun k => k = 0) (fun r1 w1 => r1 = none ∧ w1 = [.inl (10, [.inr (.inl (some 1)), .inl 0, .inl 0]), .inr (0, 1024, fun _ => 0)])) (fun k => k = 0) 10 [some (.inr (.inl (some 0)))] [.inr (.inl (some 1)), .inr (.inl (some 0))] [.inl (10, [.inr (.inl none), .inl 0, .inl 0]), .inr (0, 1024, fun _ => 0)] 1 1024
  refine zr_put (ty := .array .int) dX10_init_10 fl_X10_9 rfl (by decide) (by decide +kernel) True.intro (fun ad => ⟨rfl, rfl⟩) rfl ?_
  show zB m_X10_init (zR 2 1 1024) (zFq 1 1024 (fun k => k = 0) (fun r1 w1 => r1 = none ∧ w1 = [.inl (10, [.inr (.inl (some 1)), .inl 0, .inl 0]), .inr (0, 1024, fun _ => 0)])) (fun k => k = 0) 13 [some (.inr (.inl (some 0)))] [] [.inl (10, [.inr (.inl (some 1)), .inl 0, .inl 0]), .inr (0, 1024, fun _ => 0)] 1 1024
  exact zr_vret dX10_init_13 rfl (Nat.le_of_ble_eq_true rfl) (Nat.le_of_ble_eq_true rfl) ⟨rfl, rfl⟩
set_option maxRecDepth 100000 in
set_option maxHeartbeats 4000000 in
theorem t_Sl_init : zSpec 3 (fun k => k = 0) 5 728 m_X9_init [.inr (.inl (some 0))] [.inl (9, [.inr (.inl none), .inr (.inl none), .inr (.inl none)])] (fun r1 w1 => r1 = none ∧ w1 = [.inl (9, [.inr (.inl (some 1)), .inr (.inl (some 4)), .inr (.inl (some 5))]), .inl (6, [.inr (.inl (some 2)), .inr (.inl (some 3)), .inl 6, .inl 12]), .inr (0, 288, fun _ => 0), .inr (1, 12, fun _ => 0), .inr (0, 400, fun _ => 0), .inr (1, 24, fun _ => 0)]) := by
  refine zSpec_of (by decide +kernel) (Nat.le_of_ble_eq_true rfl) ?_
  refine zr_aload ⟨_, dX9_init_0, rfl⟩ rfl ?_
  refine zr_obj (a := 0) dX9_init_1 (zall3 (zmem (i := 500) (by decide +kernel) rfl) (zmem (i := 165) (by decide +kernel) rfl) (zmem (i := 166) (by decide +kernel) rfl)) (by decide) (Nat.le_of_ble_eq_true rfl) ?_
  refine zr_aload ⟨_, dX9_init_4, rfl⟩ rfl ?_
  refine zr_new (index := 9) (ci := 6) (N := 4) (v := 1) (fs := [.inr (.inl none), .inr (.inl none), .inl 0, .inl 0]) dX9_init_5 rfl (zall3 (zmem (i := 501) (by decide +kernel) rfl) (zmem (i := 243) (by decide +kernel) rfl) (zmem (i := 133) (by decide +kernel) rfl)) nw_X6 nk_X6 rfl (Nat.succ_ne_zero _) rfl rfl rfl rfl (Nat.le_of_ble_eq_true rfl) (Nat.le_of_ble_eq_true rfl) ?_
  show zB m_X9_init (zR 3 5 728) (zFq 5 728 (fun k => k = 0) (fun r1 w1 => r1 = none ∧ w1 = [.inl (9, [.inr (.inl (some 1)), .inr (.inl (some 4)), .inr (.inl (some 5))]), .inl (6, [.inr (.inl (some 2)), .inr (.inl (some 3)), .inl 6, .inl 12]), .inr (0, 288, fun _ => 0), .inr (1, 12, fun _ => 0), .inr (0, 400, fun _ => 0), .inr (1, 24, fun _ => 0)])) (fun k => k = 0) 8 [some (.inr (.inl (some 0)))] [.inr (.inl (some 1)), .inr (.inl (some 0))] [.inl (9, [.inr (.inl none), .inr (.inl none), .inr (.inl none)]), .inl (6, [.inr (.inl none), .inr (.inl none), .inl 0, .inl 0])] 1 4
  refine zr_dup dX9_init_8 (Or.inl True.intro) ?_
  refine zt_ctor (v := 1) (w0 := [.inl (9, [.inr (.inl none), .inr (.inl none), .inr (.inl none)])]) (c0 := .inl (6, [.inr (.inl none), .inr (.inl none), .inl 0, .inl 0])) (as := []) (zrun_IN (rest := [.inr (.inl (some 1)), .inr (.inl (some 0))]) dX9_init_9 mi_X9_11 rfl (by decide) (by decide) rfl (Nat.le_of_ble_eq_true rfl)) (t_Pi_init) rfl rfl rfl (fun k hk => by rw [hk]; exact Nat.zero_le _) rfl rfl rfl rfl (Nat.le_of_ble_eq_true rfl) (Nat.le_of_ble_eq_true rfl) ?_
  show zB m_X9_init (zR 3 5 728) (zFq 5 728 (fun k => k = 0) (fun r1 w1 => r1 = none ∧ w1 = [.inl (9, [.inr (.inl (some 1)), .inr (.inl (some 4)), .inr (.inl (some 5))]), .inl (6, [.inr (.inl (some 2)), .inr (.inl (some 3)), .inl 6, .inl 12]), .inr (0, 288, fun _ => 0), .inr (1, 12, fun _ => 0), .inr (0, 400, fun _ => 0), .inr (1, 24, fun _ => 0)])) (fun k => k = 0) 12 [some (.inr (.inl (some 0)))] [.inr (.inl (some 1)), .inr (.inl (some 0))] [.inl (9, [.inr (.inl none), .inr (.inl none), .inr (.inl none)]), .inl (6, [.inr (.inl (some 2)), .inr (.inl (some 3)), .inl 6, .inl 12]), .inr (0, 288, fun _ => 0), .inr (1, 12, fun _ => 0)] 3 304
  refine zr_putF (ty := .object "InputrowConsole$Picture") dX9_init_12 fl_X9_12 rfl (fun _ _ _ h => by cases h; rfl) rfl (by decide) (by decide +kernel) True.intro (fun ad => ⟨rfl, rfl⟩) rfl ?_
  show zB m_X9_init (zR 3 5 728) (zFq 5 728 (fun k => k = 0) (fun r1 w1 => r1 = none ∧ w1 = [.inl (9, [.inr (.inl (some 1)), .inr (.inl (some 4)), .inr (.inl (some 5))]), .inl (6, [.inr (.inl (some 2)), .inr (.inl (some 3)), .inl 6, .inl 12]), .inr (0, 288, fun _ => 0), .inr (1, 12, fun _ => 0), .inr (0, 400, fun _ => 0), .inr (1, 24, fun _ => 0)])) (fun k => k = 0) 15 [some (.inr (.inl (some 0)))] [] [.inl (9, [.inr (.inl (some 1)), .inr (.inl none), .inr (.inl none)]), .inl (6, [.inr (.inl (some 2)), .inr (.inl (some 3)), .inl 6, .inl 12]), .inr (0, 288, fun _ => 0), .inr (1, 12, fun _ => 0)] 3 304
  refine zr_aload ⟨_, dX9_init_15, rfl⟩ rfl ?_
  refine zr_sipush dX9_init_16 (by decide) (by decide) ?_
  refine zr_newa (len := 400) (v := 4) (tk := 0) dX9_init_19 (ty := .int) rfl (fun _ => rfl) (fun _ _ h => h) (fun _ => by simp [zeA, vp_cell, zof0, defaultValue]) ⟨by decide, fun _ _ _ => zin0⟩ (zmem (i := 186) (by decide +kernel) rfl) (by decide) rfl (by decide) rfl (Nat.succ_ne_zero _) rfl rfl rfl (Nat.le_of_ble_eq_true rfl) (Nat.le_of_ble_eq_true rfl) ?_
  show zB m_X9_init (zR 3 5 728) (zFq 5 728 (fun k => k = 0) (fun r1 w1 => r1 = none ∧ w1 = [.inl (9, [.inr (.inl (some 1)), .inr (.inl (some 4)), .inr (.inl (some 5))]), .inl (6, [.inr (.inl (some 2)), .inr (.inl (some 3)), .inl 6, .inl 12]), .inr (0, 288, fun _ => 0), .inr (1, 12, fun _ => 0), .inr (0, 400, fun _ => 0), .inr (1, 24, fun _ => 0)])) (fun k => k = 0) 21 [some (.inr (.inl (some 0)))] [.inr (.inl (some 4)), .inr (.inl (some 0))] [.inl (9, [.inr (.inl (some 1)), .inr (.inl none), .inr (.inl none)]), .inl (6, [.inr (.inl (some 2)), .inr (.inl (some 3)), .inl 6, .inl 12]), .inr (0, 288, fun _ => 0), .inr (1, 12, fun _ => 0), .inr (0, 400, fun _ => 0)] 4 704
  refine zr_putF (ty := .array .int) dX9_init_21 fl_X9_18 rfl (fun _ _ _ h => by cases h; rfl) rfl (by decide) (by decide +kernel) True.intro (fun ad => ⟨rfl, rfl⟩) rfl ?_
  show zB m_X9_init (zR 3 5 728) (zFq 5 728 (fun k => k = 0) (fun r1 w1 => r1 = none ∧ w1 = [.inl (9, [.inr (.inl (some 1)), .inr (.inl (some 4)), .inr (.inl (some 5))]), .inl (6, [.inr (.inl (some 2)), .inr (.inl (some 3)), .inl 6, .inl 12]), .inr (0, 288, fun _ => 0), .inr (1, 12, fun _ => 0), .inr (0, 400, fun _ => 0), .inr (1, 24, fun _ => 0)])) (fun k => k = 0) 24 [some (.inr (.inl (some 0)))] [] [.inl (9, [.inr (.inl (some 1)), .inr (.inl (some 4)), .inr (.inl none)]), .inl (6, [.inr (.inl (some 2)), .inr (.inl (some 3)), .inl 6, .inl 12]), .inr (0, 288, fun _ => 0), .inr (1, 12, fun _ => 0), .inr (0, 400, fun _ => 0)] 4 704
  refine zr_aload ⟨_, dX9_init_24, rfl⟩ rfl ?_
  refine zr_bipush dX9_init_25 (by decide) (by decide) ?_
  refine zr_newa (len := 24) (v := 5) (tk := 1) dX9_init_27 (ty := .boolean) rfl (fun _ => rfl) (fun _ _ h => h) (fun _ => by simp [zeA, vp_cell, zof0, defaultValue]) ⟨by decide, fun _ _ _ => zin0⟩ (zmem (i := 261) (by decide +kernel) rfl) (by decide) rfl (by decide) rfl (Nat.succ_ne_zero _) rfl rfl rfl (Nat.le_of_ble_eq_true rfl) (Nat.le_of_ble_eq_true rfl) ?_
  show zB m_X9_init (zR 3 5 728) (zFq 5 728 (fun k => k = 0) (fun r1 w1 => r1 = none ∧ w1 = [.inl (9, [.inr (.inl (some 1)), .inr (.inl (some 4)), .inr (.inl (some 5))]), .inl (6, [.inr (.inl (some 2)), .inr (.inl (some 3)), .inl 6, .inl 12]), .inr (0, 288, fun _ => 0), .inr (1, 12, fun _ => 0), .inr (0, 400, fun _ => 0), .inr (1, 24, fun _ => 0)])) (fun k => k = 0) 29 [some (.inr (.inl (some 0)))] [.inr (.inl (some 5)), .inr (.inl (some 0))] [.inl (9, [.inr (.inl (some 1)), .inr (.inl (some 4)), .inr (.inl none)]), .inl (6, [.inr (.inl (some 2)), .inr (.inl (some 3)), .inl 6, .inl 12]), .inr (0, 288, fun _ => 0), .inr (1, 12, fun _ => 0), .inr (0, 400, fun _ => 0), .inr (1, 24, fun _ => 0)] 5 728
  refine zr_putF (ty := .array .boolean) dX9_init_29 fl_X9_22 rfl (fun _ _ _ h => by cases h; rfl) rfl (by decide) (by decide +kernel) True.intro (fun ad => ⟨rfl, rfl⟩) rfl ?_
  show zB m_X9_init (zR 3 5 728) (zFq 5 728 (fun k => k = 0) (fun r1 w1 => r1 = none ∧ w1 = [.inl (9, [.inr (.inl (some 1)), .inr (.inl (some 4)), .inr (.inl (some 5))]), .inl (6, [.inr (.inl (some 2)), .inr (.inl (some 3)), .inl 6, .inl 12]), .inr (0, 288, fun _ => 0), .inr (1, 12, fun _ => 0), .inr (0, 400, fun _ => 0), .inr (1, 24, fun _ => 0)])) (fun k => k = 0) 32 [some (.inr (.inl (some 0)))] [] [.inl (9, [.inr (.inl (some 1)), .inr (.inl (some 4)), .inr (.inl (some 5))]), .inl (6, [.inr (.inl (some 2)), .inr (.inl (some 3)), .inl 6, .inl 12]), .inr (0, 288, fun _ => 0), .inr (1, 12, fun _ => 0), .inr (0, 400, fun _ => 0), .inr (1, 24, fun _ => 0)] 5 728
  exact zr_vret dX9_init_32 rfl (Nat.le_of_ble_eq_true rfl) (Nat.le_of_ble_eq_true rfl) ⟨rfl, rfl⟩
