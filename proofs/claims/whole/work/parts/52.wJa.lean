set_option maxRecDepth 100000 in
set_option maxHeartbeats 4000000 in
theorem t_Ja_rangeCheck_23922 {a0 a1 a2 : Int}  {res : Int} (h : f_Ja_rangeCheck_23922 a0 a1 a2 = some res) : ∀ s : zSt, zSpecT 1 m_J7_rangeCheck_23922 [.inl a0, .inl a1, .inl a2] T0 s none s := by
  intro s
  refine zSpec_of (by decide +kernel) (Nat.le_of_ble_eq_true rfl) ?_
  show zBT 1 m_J7_rangeCheck_23922 T0 none s 0 [some (.inl a0), some (.inl a1), some (.inl a2)] [] s
  unfold f_Ja_rangeCheck_23922 at h
  refine zr_load ⟨_, dJ7_rangeCheck_23922_0, rfl⟩ rfl ?_
  refine zr_load ⟨_, dJ7_rangeCheck_23922_1, rfl⟩ rfl ?_
  refine zr_ic_le (tgt := 46) dJ7_rangeCheck_23922_2 (by decide) (fun hc1 => ?_) (fun hc1 => ?_)
  · replace h := zpos h hc1
    refine zr_load ⟨_, dJ7_rangeCheck_23922_46, rfl⟩ rfl ?_
    refine zr_if_ge (tgt := 59) dJ7_rangeCheck_23922_47 (by decide) (fun hc2 => ?_) (fun hc2 => ?_)
    · replace h := zpos h hc2
      refine zr_load ⟨_, dJ7_rangeCheck_23922_59, rfl⟩ rfl ?_
      refine zr_load ⟨_, dJ7_rangeCheck_23922_60, rfl⟩ rfl ?_
      refine zr_ic_le (tgt := 73) dJ7_rangeCheck_23922_61 (by decide) (fun hc3 => ?_) (fun hc3 => ?_)
      · replace h := zpos h hc3
        obtain rfl := Option.some.inj h
        exact zt_vret dJ7_rangeCheck_23922_73 rfl
      · replace h := zneg h hc3
        cases h
    · replace h := zneg h hc2
      cases h
  · replace h := zneg h hc1
    cases h
set_option maxRecDepth 100000 in
set_option maxHeartbeats 4000000 in
theorem t_Ja_fill_fda19_l10 {c2 c3 : Int} {r : Option zAV} {s0 : zSt}  : ∀ (n : Nat) (x : Int × zSt) (out : zSt), zloop (f_Ja_fill_fda19_l10 c2 c3) n x = some out → (zBT 2 m_J7_fill_fda19 TI r s0 27 [none, none, none, none, none] [] out) → zBT 2 m_J7_fill_fda19 TI r s0 10 [some (.inr (.inl (some 0))), none, some (.inl c2), some (.inl c3), some (.inl x.1)] [] x.2 := by
  refine zloop_B (B := fun (x : Int × zSt) (out : zSt) => zBT 2 m_J7_fill_fda19 TI r s0 27 [none, none, none, none, none] [] out → zBT 2 m_J7_fill_fda19 TI r s0 10 [some (.inr (.inl (some 0))), none, some (.inl c2), some (.inl c3), some (.inl x.1)] [] x.2) ?_
  intro x o out h hk hx
  unfold f_Ja_fill_fda19_l10 at h
  refine zr_loadw dJ7_fill_fda19_10 rfl ?_
  refine zr_load ⟨_, dJ7_fill_fda19_12, rfl⟩ rfl ?_
  refine zr_ic_ge (tgt := 27) dJ7_fill_fda19_13 (by decide) (fun hc1 => ?_) (fun hc1 => ?_)
  · replace h := zpos h hc1
    refine zr_mask [false, false, false, false, false] rfl ?_
    obtain rfl := Option.some.inj h
    obtain rfl := hk
    exact hx
  · replace h := zneg h hc1
    refine zr_aload ⟨_, dJ7_fill_fda19_16, rfl⟩ rfl ?_
    refine zr_loadw dJ7_fill_fda19_17 rfl ?_
    refine zr_load ⟨_, dJ7_fill_fda19_19, rfl⟩ rfl ?_
    obtain ⟨hb2, h⟩ := zchk h
    refine zt_iastore dJ7_fill_fda19_20 rfl hb2 ?_
    refine zr_iinc dJ7_fill_fda19_21 rfl (by decide) rfl ?_
    refine zr_goto (tgt := 10) dJ7_fill_fda19_24 (by decide) ?_
    obtain rfl := Option.some.inj h
    exact hk hx
set_option maxRecDepth 100000 in
set_option maxHeartbeats 4000000 in
theorem t_Ja_fill_fda19 {a1 a2 a3 : Int} {s : zSt} {res : Int × zSt} (h : f_Ja_fill_fda19 a1 a2 a3 s = some res) : zSpecT 2 m_J7_fill_fda19 [.inr (.inl (some 0)), .inl a1, .inl a2, .inl a3] TI s none res.2 := by
  refine zSpec_of (by decide +kernel) (Nat.le_of_ble_eq_true rfl) ?_
  show zBT 2 m_J7_fill_fda19 TI none res.2 0 [some (.inr (.inl (some 0))), some (.inl a1), some (.inl a2), some (.inl a3), none] [] s
  unfold f_Ja_fill_fda19 at h
  refine zr_aload ⟨_, dJ7_fill_fda19_0, rfl⟩ rfl ?_
  obtain ⟨hb1, h⟩ := zchk h
  refine zt_alen dJ7_fill_fda19_1 rfl (by decide) hb1 ?_
  refine zr_load ⟨_, dJ7_fill_fda19_2, rfl⟩ rfl ?_
  refine zr_load ⟨_, dJ7_fill_fda19_3, rfl⟩ rfl ?_
  obtain ⟨x2, hx2, h⟩ := zbind h
  refine zt_call0v (t_Ja_rangeCheck_23922 hx2) (zrun_S (rest := []) dJ7_fill_fda19_4 ml_J7_13 rfl (by decide) (by decide) rfl (Nat.le_of_ble_eq_true rfl)) rfl rfl (Nat.le_refl _) (Nat.le_refl _) ?_
  refine zr_load ⟨_, dJ7_fill_fda19_7, rfl⟩ rfl ?_
  refine zr_storew dJ7_fill_fda19_8 (by decide) rfl ?_
  refine zr_mask [true, false, true, true, true] rfl ?_
  obtain ⟨y3, hy3, h⟩ := zbind h
  refine t_Ja_fill_fda19_l10 _ _ _ hy3 ?_
  obtain rfl := Option.some.inj h
  exact zt_vret dJ7_fill_fda19_27 rfl
