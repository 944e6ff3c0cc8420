theorem t_Sc_shown0 {s : zSt} (h : s.1 0 8 = 0) : zSpecT 1 m_X8_shown [.inr (.inl (some 0))] TSc s (some (.inr (.inl (some 2)))) s := by
  refine zSpec_of (by decide +kernel) (Nat.le_of_ble_eq_true rfl) ?_
  show zBT 1 m_X8_shown TSc (some (.inr (.inl (some 2)))) s 0 [some (.inr (.inl (some 0)))] [] s
  refine zr_aload ⟨_, dX8_shown_0, rfl⟩ rfl ?_
  refine zt_get dX8_shown_1 fl_X8_75 rfl rfl ?_
  refine zr_if_eq (tgt := 14) dX8_shown_4 (by decide) (fun hc => ?_) (fun hc => ?_)
  · refine zr_aload ⟨_, dX8_shown_14, rfl⟩ rfl ?_
    refine zt_getr dX8_shown_15 fl_X8_12 rfl rfl ?_
    refine zt_getr dX8_shown_18 fl_X8_79 rfl rfl ?_
    exact zr_aret dX8_shown_21 (Or.inl rfl) (Nat.le_refl _) (Nat.le_refl _) ⟨rfl, rfl⟩
  · exact absurd h hc
theorem t_Sc_shown1 {s : zSt} (h : ¬ s.1 0 8 = 0) : zSpecT 1 m_X8_shown [.inr (.inl (some 0))] TSc s (some (.inr (.inl (some 22)))) s := by
  refine zSpec_of (by decide +kernel) (Nat.le_of_ble_eq_true rfl) ?_
  show zBT 1 m_X8_shown TSc (some (.inr (.inl (some 22)))) s 0 [some (.inr (.inl (some 0)))] [] s
  refine zr_aload ⟨_, dX8_shown_0, rfl⟩ rfl ?_
  refine zt_get dX8_shown_1 fl_X8_75 rfl rfl ?_
  refine zr_if_eq (tgt := 14) dX8_shown_4 (by decide) (fun hc => ?_) (fun hc => ?_)
  · exact absurd hc h
  · refine zr_aload ⟨_, dX8_shown_7, rfl⟩ rfl ?_
    refine zt_getr dX8_shown_8 fl_X8_51 rfl rfl ?_
    refine zr_goto (tgt := 21) dX8_shown_11 (by decide) ?_
    exact zr_aret dX8_shown_21 (Or.inl rfl) (Nat.le_refl _) (Nat.le_refl _) ⟨rfl, rfl⟩
set_option maxRecDepth 100000 in
set_option maxHeartbeats 4000000 in
theorem t_Sc_has {a1 a2 : Int} {s : zSt} {res : Int} (h : f_Sc_has a1 a2 s = some res) : zSpecT 1 m_X8_has [.inr (.inl (some 0)), .inl a1, .inl a2] TSc s (some (.inl res)) s := by
  refine zSpec_of (by decide +kernel) (Nat.le_of_ble_eq_true rfl) ?_
  show zBT 1 m_X8_has TSc (some (.inl res)) s 0 [some (.inr (.inl (some 0))), some (.inl a1), some (.inl a2)] [] s
  unfold f_Sc_has at h
  refine zr_load ⟨_, dX8_has_0, rfl⟩ rfl ?_
  have hj1 : zBT 1 m_X8_has TSc (some (.inl res)) s 29 [some (.inr (.inl (some 0))), some (.inl a1), some (.inl a2)] [.inl (if a1 < 0 then 0 else (if (s.1 0 9) ≤ a1 then 0 else (if a2 < 0 then 0 else (if (s.1 0 10) ≤ a2 then 0 else 1))))] s := by
    obtain rfl := Option.some.inj h
    exact zt_zret dX8_has_29 rfl (z01i (Or.inl rfl) (z01i (Or.inl rfl) (z01i (Or.inl rfl) (z01i (Or.inl rfl) (Or.inr rfl)))))
  refine zr_if_lt (tgt := 28) dX8_has_1 (by decide) (fun hc2 => ?_) (fun hc2 => ?_)
  · have hp3 := zif_t hj1 hc2
    refine zr_iconst dX8_has_28 (by decide) ?_
    exact hp3
  · have hp4 := zif_f hj1 hc2
    refine zr_load ⟨_, dX8_has_4, rfl⟩ rfl ?_
    refine zr_aload ⟨_, dX8_has_5, rfl⟩ rfl ?_
    refine zt_get dX8_has_6 fl_X8_62 rfl rfl ?_
    refine zr_ic_ge (tgt := 28) dX8_has_9 (by decide) (fun hc5 => ?_) (fun hc5 => ?_)
    · have hp6 := zif_t hp4 hc5
      refine zr_iconst dX8_has_28 (by decide) ?_
      exact hp6
    · have hp7 := zif_f hp4 hc5
      refine zr_load ⟨_, dX8_has_12, rfl⟩ rfl ?_
      refine zr_if_lt (tgt := 28) dX8_has_13 (by decide) (fun hc8 => ?_) (fun hc8 => ?_)
      · have hp9 := zif_t hp7 hc8
        refine zr_iconst dX8_has_28 (by decide) ?_
        exact hp9
      · have hp10 := zif_f hp7 hc8
        refine zr_load ⟨_, dX8_has_16, rfl⟩ rfl ?_
        refine zr_aload ⟨_, dX8_has_17, rfl⟩ rfl ?_
        refine zt_get dX8_has_18 fl_X8_66 rfl rfl ?_
        refine zr_ic_ge (tgt := 28) dX8_has_21 (by decide) (fun hc11 => ?_) (fun hc11 => ?_)
        · have hp12 := zif_t hp10 hc11
          refine zr_iconst dX8_has_28 (by decide) ?_
          exact hp12
        · have hp13 := zif_f hp10 hc11
          refine zr_iconst dX8_has_24 (by decide) ?_
          refine zr_goto (tgt := 29) dX8_has_25 (by decide) ?_
          exact hp13
set_option maxRecDepth 100000 in
set_option maxHeartbeats 4000000 in
theorem t_Sc_nextTab_l10   {s : zSt} : ∀ (n : Nat) (x : Int) (out : Int), zloop (f_Sc_nextTab_l10 s) n x = some out → zBT 1 m_X8_nextTab TSc (some (.inl out)) s 10 [some (.inr (.inl (some 0))), some (.inl x)] [] s := by
  refine zloop_B (B := fun (x : Int) (out : Int) => zBT 1 m_X8_nextTab TSc (some (.inl out)) s 10 [some (.inr (.inl (some 0))), some (.inl x)] [] s) ?_
  intro x o out h hk
  unfold f_Sc_nextTab_l10 at h
  refine zr_load ⟨_, dX8_nextTab_10, rfl⟩ rfl ?_
  refine zr_aload ⟨_, dX8_nextTab_11, rfl⟩ rfl ?_
  refine zt_get dX8_nextTab_12 fl_X8_66 rfl rfl ?_
  refine zr_ic_ge (tgt := 45) dX8_nextTab_15 (by decide) (fun hc1 => ?_) (fun hc1 => ?_)
  · replace h := zpos h hc1
    refine zr_iconst dX8_nextTab_45 (by decide) ?_
    obtain rfl := Option.some.inj h
    obtain rfl := hk
    exact zt_iret dX8_nextTab_46 rfl
  · replace h := zneg h hc1
    refine zr_load ⟨_, dX8_nextTab_18, rfl⟩ rfl ?_
    refine zr_if_lt (tgt := 39) dX8_nextTab_19 (by decide) (fun hc2 => ?_) (fun hc2 => ?_)
    · replace h := zpos h hc2
      refine zr_iinc dX8_nextTab_39 rfl (by decide) rfl ?_
      refine zr_goto (tgt := 10) dX8_nextTab_42 (by decide) ?_
      obtain rfl := Option.some.inj h
      exact hk
    · replace h := zneg h hc2
      refine zr_load ⟨_, dX8_nextTab_22, rfl⟩ rfl ?_
      refine zr_bipush dX8_nextTab_23 (by decide) (by decide) ?_
      refine zr_ic_ge (tgt := 39) dX8_nextTab_25 (by decide) (fun hc3 => ?_) (fun hc3 => ?_)
      · replace h := zpos h hc3
        refine zr_iinc dX8_nextTab_39 rfl (by decide) rfl ?_
        refine zr_goto (tgt := 10) dX8_nextTab_42 (by decide) ?_
        obtain rfl := Option.some.inj h
        exact hk
      · replace h := zneg h hc3
        refine zr_aload ⟨_, dX8_nextTab_28, rfl⟩ rfl ?_
        refine zt_getr dX8_nextTab_29 fl_X8_58 rfl rfl ?_
        refine zr_load ⟨_, dX8_nextTab_32, rfl⟩ rfl ?_
        obtain ⟨hb4, h⟩ := zchk h
        refine zt_baload dX8_nextTab_33 rfl hb4 ?_
        refine zr_if_eq (tgt := 39) dX8_nextTab_34 (by decide) (fun hc5 => ?_) (fun hc5 => ?_)
        · replace h := zpos h hc5
          refine zr_iinc dX8_nextTab_39 rfl (by decide) rfl ?_
          refine zr_goto (tgt := 10) dX8_nextTab_42 (by decide) ?_
          obtain rfl := Option.some.inj h
          exact hk
        · replace h := zneg h hc5
          refine zr_load ⟨_, dX8_nextTab_37, rfl⟩ rfl ?_
          obtain rfl := Option.some.inj h
          obtain rfl := hk
          exact zt_iret dX8_nextTab_38 rfl
set_option maxRecDepth 100000 in
set_option maxHeartbeats 4000000 in
theorem t_Sc_nextTab  {s : zSt} {res : Int} (h : f_Sc_nextTab s = some res) : zSpecT 1 m_X8_nextTab [.inr (.inl (some 0))] TSc s (some (.inl res)) s := by
  refine zSpec_of (by decide +kernel) (Nat.le_of_ble_eq_true rfl) ?_
  show zBT 1 m_X8_nextTab TSc (some (.inl res)) s 0 [some (.inr (.inl (some 0))), none] [] s
  unfold f_Sc_nextTab at h
  refine zr_aload ⟨_, dX8_nextTab_0, rfl⟩ rfl ?_
  refine zt_getr dX8_nextTab_1 fl_X8_21 rfl rfl ?_
  refine zt_get dX8_nextTab_4 fl_X8_85 rfl rfl ?_
  refine zr_iconst dX8_nextTab_7 (by decide) ?_
  refine zr_iadd dX8_nextTab_8 ?_
  refine zr_store ⟨_, dX8_nextTab_9, rfl⟩ (by decide) rfl ?_
  exact t_Sc_nextTab_l10 _ _ _ h
set_option maxRecDepth 100000 in
set_option maxHeartbeats 4000000 in
theorem t_Sc_setTab {a1 a2 : Int} {s : zSt} {res : Int × zSt} (h : f_Sc_setTab a1 a2 s = some res) : zSpecT 1 m_X8_setTab [.inr (.inl (some 0)), .inl a1, .inl a2] TSc s none res.2 := by
  refine zSpec_of (by decide +kernel) (Nat.le_of_ble_eq_true rfl) ?_
  show zBT 1 m_X8_setTab TSc none res.2 0 [some (.inr (.inl (some 0))), some (.inl a1), some (.inl a2)] [] s
  unfold f_Sc_setTab at h
  refine zr_load ⟨_, dX8_setTab_0, rfl⟩ rfl ?_
  refine zr_if_lt (tgt := 17) dX8_setTab_1 (by decide) (fun hc1 => ?_) (fun hc1 => ?_)
  · replace h := zpos h hc1
    obtain rfl := Option.some.inj h
    exact zt_vret dX8_setTab_17 rfl
  · replace h := zneg h hc1
    refine zr_load ⟨_, dX8_setTab_4, rfl⟩ rfl ?_
    refine zr_bipush dX8_setTab_5 (by decide) (by decide) ?_
    refine zr_ic_ge (tgt := 17) dX8_setTab_7 (by decide) (fun hc2 => ?_) (fun hc2 => ?_)
    · replace h := zpos h hc2
      obtain rfl := Option.some.inj h
      exact zt_vret dX8_setTab_17 rfl
    · replace h := zneg h hc2
      refine zr_aload ⟨_, dX8_setTab_10, rfl⟩ rfl ?_
      refine zt_getr dX8_setTab_11 fl_X8_58 rfl rfl ?_
      refine zr_load ⟨_, dX8_setTab_14, rfl⟩ rfl ?_
      refine zr_load ⟨_, dX8_setTab_15, rfl⟩ rfl ?_
      obtain ⟨hb3, h⟩ := zchk h
      refine zt_bastore dX8_setTab_16 rfl hb3.1 hb3.2 ?_
      obtain rfl := Option.some.inj h
      exact zt_vret dX8_setTab_17 rfl
set_option maxRecDepth 100000 in
set_option maxHeartbeats 4000000 in
theorem t_Sc_endsLate {a0 : Int}  {res : Int} (h : f_Sc_endsLate a0 = some res) : ∀ s : zSt, zSpecT 1 m_X8_endsLate [.inl a0] T0 s (some (.inl res)) s := by
  intro s
  refine zSpec_of (by decide +kernel) (Nat.le_of_ble_eq_true rfl) ?_
  show zBT 1 m_X8_endsLate T0 (some (.inl res)) s 0 [some (.inl a0)] [] s
  unfold f_Sc_endsLate at h
  refine zr_load ⟨_, dX8_endsLate_0, rfl⟩ rfl ?_
  refine zr_tsw (l := [(64, 219), (65, 219), (66, 219), (67, 219), (68, 219), (72, 219), (74, 219), (75, 219), (76, 219), (77, 219), (80, 219), (88, 219), (114, 219)]) dX8_endsLate_1 (by decide +kernel) ?_
  refine zr_swc (tgt := 220) (by decide) (fun hc1 => ?_) (fun hc1 => ?_)
  · replace h := zpos h hc1
    refine zr_iconst dX8_endsLate_220 (by decide) ?_
    obtain rfl := Option.some.inj h
    exact zt_zret dX8_endsLate_221 rfl (Or.inr rfl)
  replace h := zneg h hc1
  refine zr_swc (tgt := 220) (by decide) (fun hc2 => ?_) (fun hc2 => ?_)
  · replace h := zpos h hc2
    refine zr_iconst dX8_endsLate_220 (by decide) ?_
    obtain rfl := Option.some.inj h
    exact zt_zret dX8_endsLate_221 rfl (Or.inr rfl)
  replace h := zneg h hc2
  refine zr_swc (tgt := 220) (by decide) (fun hc3 => ?_) (fun hc3 => ?_)
  · replace h := zpos h hc3
    refine zr_iconst dX8_endsLate_220 (by decide) ?_
    obtain rfl := Option.some.inj h
    exact zt_zret dX8_endsLate_221 rfl (Or.inr rfl)
  replace h := zneg h hc3
  refine zr_swc (tgt := 220) (by decide) (fun hc4 => ?_) (fun hc4 => ?_)
  · replace h := zpos h hc4
    refine zr_iconst dX8_endsLate_220 (by decide) ?_
    obtain rfl := Option.some.inj h
    exact zt_zret dX8_endsLate_221 rfl (Or.inr rfl)
  replace h := zneg h hc4
  refine zr_swc (tgt := 220) (by decide) (fun hc5 => ?_) (fun hc5 => ?_)
  · replace h := zpos h hc5
    refine zr_iconst dX8_endsLate_220 (by decide) ?_
    obtain rfl := Option.some.inj h
    exact zt_zret dX8_endsLate_221 rfl (Or.inr rfl)
  replace h := zneg h hc5
  refine zr_swc (tgt := 220) (by decide) (fun hc6 => ?_) (fun hc6 => ?_)
  · replace h := zpos h hc6
    refine zr_iconst dX8_endsLate_220 (by decide) ?_
    obtain rfl := Option.some.inj h
    exact zt_zret dX8_endsLate_221 rfl (Or.inr rfl)
  replace h := zneg h hc6
  refine zr_swc (tgt := 220) (by decide) (fun hc7 => ?_) (fun hc7 => ?_)
  · replace h := zpos h hc7
    refine zr_iconst dX8_endsLate_220 (by decide) ?_
    obtain rfl := Option.some.inj h
    exact zt_zret dX8_endsLate_221 rfl (Or.inr rfl)
  replace h := zneg h hc7
  refine zr_swc (tgt := 220) (by decide) (fun hc8 => ?_) (fun hc8 => ?_)
  · replace h := zpos h hc8
    refine zr_iconst dX8_endsLate_220 (by decide) ?_
    obtain rfl := Option.some.inj h
    exact zt_zret dX8_endsLate_221 rfl (Or.inr rfl)
  replace h := zneg h hc8
  refine zr_swc (tgt := 220) (by decide) (fun hc9 => ?_) (fun hc9 => ?_)
  · replace h := zpos h hc9
    refine zr_iconst dX8_endsLate_220 (by decide) ?_
    obtain rfl := Option.some.inj h
    exact zt_zret dX8_endsLate_221 rfl (Or.inr rfl)
  replace h := zneg h hc9
  refine zr_swc (tgt := 220) (by decide) (fun hc10 => ?_) (fun hc10 => ?_)
  · replace h := zpos h hc10
    refine zr_iconst dX8_endsLate_220 (by decide) ?_
    obtain rfl := Option.some.inj h
    exact zt_zret dX8_endsLate_221 rfl (Or.inr rfl)
  replace h := zneg h hc10
  refine zr_swc (tgt := 220) (by decide) (fun hc11 => ?_) (fun hc11 => ?_)
  · replace h := zpos h hc11
    refine zr_iconst dX8_endsLate_220 (by decide) ?_
    obtain rfl := Option.some.inj h
    exact zt_zret dX8_endsLate_221 rfl (Or.inr rfl)
  replace h := zneg h hc11
  refine zr_swc (tgt := 220) (by decide) (fun hc12 => ?_) (fun hc12 => ?_)
  · replace h := zpos h hc12
    refine zr_iconst dX8_endsLate_220 (by decide) ?_
    obtain rfl := Option.some.inj h
    exact zt_zret dX8_endsLate_221 rfl (Or.inr rfl)
  replace h := zneg h hc12
  refine zr_swc (tgt := 220) (by decide) (fun hc13 => ?_) (fun hc13 => ?_)
  · replace h := zpos h hc13
    refine zr_iconst dX8_endsLate_220 (by decide) ?_
    obtain rfl := Option.some.inj h
    exact zt_zret dX8_endsLate_221 rfl (Or.inr rfl)
  replace h := zneg h hc13
  refine zr_swd (tgt := 222) (by decide) ?_
  refine zr_iconst dX8_endsLate_222 (by decide) ?_
  obtain rfl := Option.some.inj h
  exact zt_zret dX8_endsLate_223 rfl (Or.inl rfl)
set_option maxRecDepth 100000 in
set_option maxHeartbeats 4000000 in
theorem t_Sc_tellPlaces {a1 : Int} {s : zSt} {res : Int} (h : f_Sc_tellPlaces a1 s = some res) : zSpecT 2 m_X8_tellPlaces [.inr (.inl (some 0)), .inl a1] TSc s (some (.inl res)) s := by
  refine zSpec_of (by decide +kernel) (Nat.le_of_ble_eq_true rfl) ?_
  show zBT 2 m_X8_tellPlaces TSc (some (.inl res)) s 0 [some (.inr (.inl (some 0))), some (.inl a1)] [] s
  unfold f_Sc_tellPlaces at h
  refine zr_load ⟨_, dX8_tellPlaces_0, rfl⟩ rfl ?_
  refine zr_tsw (l := [(0, 55), (1, 63), (2, 71), (3, 87), (4, 95), (5, 103), (6, 108), (7, 113), (8, 118), (9, 123)]) dX8_tellPlaces_1 (by decide +kernel) ?_
  refine zr_swc (tgt := 56) (by decide) (fun hc1 => ?_) (fun hc1 => ?_)
  · replace h := zpos h hc1
    refine zr_aload ⟨_, dX8_tellPlaces_56, rfl⟩ rfl ?_
    refine zt_getr dX8_tellPlaces_57 fl_X8_21 rfl rfl ?_
    refine zt_get dX8_tellPlaces_60 fl_X8_82 rfl rfl ?_
    obtain rfl := Option.some.inj h
    exact zt_iret dX8_tellPlaces_63 rfl
  replace h := zneg h hc1
  refine zr_swc (tgt := 64) (by decide) (fun hc2 => ?_) (fun hc2 => ?_)
  · replace h := zpos h hc2
    refine zr_aload ⟨_, dX8_tellPlaces_64, rfl⟩ rfl ?_
    refine zt_getr dX8_tellPlaces_65 fl_X8_21 rfl rfl ?_
    refine zt_get dX8_tellPlaces_68 fl_X8_85 rfl rfl ?_
    obtain rfl := Option.some.inj h
    exact zt_iret dX8_tellPlaces_71 rfl
  replace h := zneg h hc2
  refine zr_swc (tgt := 72) (by decide) (fun hc3 => ?_) (fun hc3 => ?_)
  · replace h := zpos h hc3
    refine zr_aload ⟨_, dX8_tellPlaces_72, rfl⟩ rfl ?_
    refine zt_getr dX8_tellPlaces_73 fl_X8_21 rfl rfl ?_
    refine zt_get dX8_tellPlaces_76 fl_X8_88 rfl rfl ?_
    have hj4 : zBT 2 m_X8_tellPlaces TSc (some (.inl res)) s 87 [some (.inr (.inl (some 0))), some (.inl a1)] [.inl (if (s.1 12 2) = 0 then 0 else 1)] s := by
      obtain rfl := Option.some.inj h
      exact zt_iret dX8_tellPlaces_87 rfl
    refine zr_if_eq (tgt := 86) dX8_tellPlaces_79 (by decide) (fun hc5 => ?_) (fun hc5 => ?_)
    · have hp6 := zif_t hj4 hc5
      refine zr_iconst dX8_tellPlaces_86 (by decide) ?_
      exact hp6
    · have hp7 := zif_f hj4 hc5
      refine zr_iconst dX8_tellPlaces_82 (by decide) ?_
      refine zr_goto (tgt := 87) dX8_tellPlaces_83 (by decide) ?_
      exact hp7
  replace h := zneg h hc3
  refine zr_swc (tgt := 88) (by decide) (fun hc8 => ?_) (fun hc8 => ?_)
  · replace h := zpos h hc8
    refine zr_aload ⟨_, dX8_tellPlaces_88, rfl⟩ rfl ?_
    refine zt_getr dX8_tellPlaces_89 fl_X8_35 rfl rfl ?_
    refine zt_get dX8_tellPlaces_92 fl_X8_91 rfl rfl ?_
    obtain rfl := Option.some.inj h
    exact zt_iret dX8_tellPlaces_95 rfl
  replace h := zneg h hc8
  refine zr_swc (tgt := 96) (by decide) (fun hc9 => ?_) (fun hc9 => ?_)
  · replace h := zpos h hc9
    refine zr_aload ⟨_, dX8_tellPlaces_96, rfl⟩ rfl ?_
    refine zt_getr dX8_tellPlaces_97 fl_X8_21 rfl rfl ?_
    refine zt_get dX8_tellPlaces_100 fl_X8_94 rfl rfl ?_
    obtain rfl := Option.some.inj h
    exact zt_iret dX8_tellPlaces_103 rfl
  replace h := zneg h hc9
  refine zr_swc (tgt := 104) (by decide) (fun hc10 => ?_) (fun hc10 => ?_)
  · replace h := zpos h hc10
    refine zr_aload ⟨_, dX8_tellPlaces_104, rfl⟩ rfl ?_
    refine zt_get dX8_tellPlaces_105 fl_X8_97 rfl rfl ?_
    obtain rfl := Option.some.inj h
    exact zt_iret dX8_tellPlaces_108 rfl
  replace h := zneg h hc10
  refine zr_swc (tgt := 109) (by decide) (fun hc11 => ?_) (fun hc11 => ?_)
  · replace h := zpos h hc11
    refine zr_aload ⟨_, dX8_tellPlaces_109, rfl⟩ rfl ?_
    refine zt_get dX8_tellPlaces_110 fl_X8_69 rfl rfl ?_
    obtain rfl := Option.some.inj h
    exact zt_iret dX8_tellPlaces_113 rfl
  replace h := zneg h hc11
  refine zr_swc (tgt := 114) (by decide) (fun hc12 => ?_) (fun hc12 => ?_)
  · replace h := zpos h hc12
    refine zr_aload ⟨_, dX8_tellPlaces_114, rfl⟩ rfl ?_
    refine zt_get dX8_tellPlaces_115 fl_X8_62 rfl rfl ?_
    obtain rfl := Option.some.inj h
    exact zt_iret dX8_tellPlaces_118 rfl
  replace h := zneg h hc12
  refine zr_swc (tgt := 119) (by decide) (fun hc13 => ?_) (fun hc13 => ?_)
  · replace h := zpos h hc13
    refine zr_aload ⟨_, dX8_tellPlaces_119, rfl⟩ rfl ?_
    refine zt_get dX8_tellPlaces_120 fl_X8_66 rfl rfl ?_
    obtain rfl := Option.some.inj h
    exact zt_iret dX8_tellPlaces_123 rfl
  replace h := zneg h hc13
  refine zr_swc (tgt := 124) (by decide) (fun hc14 => ?_) (fun hc14 => ?_)
  · replace h := zpos h hc14
    refine zr_aload ⟨_, dX8_tellPlaces_124, rfl⟩ rfl ?_
    refine zt_getr dX8_tellPlaces_125 fl_X8_12 rfl rfl ?_
    refine zt_getr dX8_tellPlaces_128 fl_X8_100 rfl rfl ?_
    obtain ⟨x15, hx15, h⟩ := zbind h
    refine zt_callis (t_Hi_count hx15) (zrun_V (rest := []) dX8_tellPlaces_131 ml_X8_104 rfl rfl (by decide) (by decide) rfl (Nat.le_of_ble_eq_true rfl)) rfl rfl sb_TSc_THi_5 (Nat.le_refl _) (Nat.le_refl _) ?_
    obtain rfl := Option.some.inj h
    exact zt_iret dX8_tellPlaces_134 rfl
  replace h := zneg h hc14
  refine zr_swd (tgt := 135) (by decide) ?_
  refine zr_iconst dX8_tellPlaces_135 (by decide) ?_
  obtain rfl := Option.some.inj h
  exact zt_iret dX8_tellPlaces_136 rfl
set_option maxRecDepth 100000 in
set_option maxHeartbeats 4000000 in
theorem t_Sc_setFirstTabs_l6  {r : Option zAV} {s0 : zSt}  : ∀ (n : Nat) (x : Int × zSt) (out : zSt), zloop (f_Sc_setFirstTabs_l6) n x = some out → (zBT 2 m_X8_setFirstTabs TSc r s0 43 [none, none, none] [] out) → zBT 2 m_X8_setFirstTabs TSc r s0 6 [some (.inr (.inl (some 0))), none, some (.inl x.1)] [] x.2 := by
  refine zloop_B (B := fun (x : Int × zSt) (out : zSt) => zBT 2 m_X8_setFirstTabs TSc r s0 43 [none, none, none] [] out → zBT 2 m_X8_setFirstTabs TSc r s0 6 [some (.inr (.inl (some 0))), none, some (.inl x.1)] [] x.2) ?_
  intro x o out h hk hx
  unfold f_Sc_setFirstTabs_l6 at h
  refine zr_load ⟨_, dX8_setFirstTabs_6, rfl⟩ rfl ?_
  refine zr_bipush dX8_setFirstTabs_7 (by decide) (by decide) ?_
  refine zr_ic_ge (tgt := 43) dX8_setFirstTabs_9 (by decide) (fun hc1 => ?_) (fun hc1 => ?_)
  · replace h := zpos h hc1
    refine zr_mask [false, false, false] rfl ?_
    obtain rfl := Option.some.inj h
    obtain rfl := hk
    exact hx
  · replace h := zneg h hc1
    refine zr_aload ⟨_, dX8_setFirstTabs_12, rfl⟩ rfl ?_
    refine zt_getr dX8_setFirstTabs_13 fl_X8_58 rfl rfl ?_
    refine zr_load ⟨_, dX8_setFirstTabs_16, rfl⟩ rfl ?_
    refine zr_load ⟨_, dX8_setFirstTabs_17, rfl⟩ rfl ?_
    refine zr_aload ⟨_, dX8_setFirstTabs_18, rfl⟩ rfl ?_
    refine zt_get dX8_setFirstTabs_19 fl_X8_66 rfl rfl ?_
    have hj2 : zBT 2 m_X8_setFirstTabs TSc r s0 36 [some (.inr (.inl (some 0))), none, some (.inl x.1)] [.inl (if (x.2.1 0 10) ≤ x.1 then 0 else (if ¬ (wRem x.1 4) = 0 then 0 else 1)), .inl x.1, .inr (.inl (some 26))] x.2 := by
      obtain ⟨hb4, h⟩ := zchk h
      refine zt_bastore dX8_setFirstTabs_36 rfl hb4 (z01i (Or.inl rfl) (z01i (Or.inl rfl) (Or.inr rfl))) ?_
      refine zr_iinc dX8_setFirstTabs_37 rfl (by decide) rfl ?_
      refine zr_goto (tgt := 6) dX8_setFirstTabs_40 (by decide) ?_
      obtain rfl := Option.some.inj h
      exact hk hx
    refine zr_ic_ge (tgt := 35) dX8_setFirstTabs_22 (by decide) (fun hc3 => ?_) (fun hc3 => ?_)
    · have hp5 := zif_t hj2 hc3
      refine zr_iconst dX8_setFirstTabs_35 (by decide) ?_
      exact hp5
    · have hp6 := zif_f hj2 hc3
      refine zr_load ⟨_, dX8_setFirstTabs_25, rfl⟩ rfl ?_
      refine zr_iconst dX8_setFirstTabs_26 (by decide) ?_
      refine zr_irem dX8_setFirstTabs_27 (by decide) ?_
      refine zr_if_ne (tgt := 35) dX8_setFirstTabs_28 (by decide) (fun hc7 => ?_) (fun hc7 => ?_)
      · have hp8 := zif_t hp6 hc7
        refine zr_iconst dX8_setFirstTabs_35 (by decide) ?_
        exact hp8
      · have hp9 := zif_f hp6 hc7
        refine zr_iconst dX8_setFirstTabs_31 (by decide) ?_
        refine zr_goto (tgt := 36) dX8_setFirstTabs_32 (by decide) ?_
        exact hp9
set_option maxRecDepth 100000 in
set_option maxHeartbeats 4000000 in
theorem t_Sc_setFirstTabs {a1 : Int} {s : zSt} {res : Int × zSt} (h : f_Sc_setFirstTabs a1 s = some res) : zSpecT 2 m_X8_setFirstTabs [.inr (.inl (some 0)), .inl a1] TSc s none res.2 := by
  refine zSpec_of (by decide +kernel) (Nat.le_of_ble_eq_true rfl) ?_
  show zBT 2 m_X8_setFirstTabs TSc none res.2 0 [some (.inr (.inl (some 0))), some (.inl a1), none] [] s
  unfold f_Sc_setFirstTabs at h
  refine zr_load ⟨_, dX8_setFirstTabs_0, rfl⟩ rfl ?_
  refine zr_iconst dX8_setFirstTabs_1 (by decide) ?_
  refine zr_max dX8_setFirstTabs_2 ml_X8_110 (by decide) (Nat.le_refl _) (Nat.le_refl _) (Nat.le_of_ble_eq_true rfl) ?_
  refine zr_store ⟨_, dX8_setFirstTabs_5, rfl⟩ (by decide) rfl ?_
  refine zr_mask [true, false, true] rfl ?_
  obtain ⟨y1, hy1, h⟩ := zbind h
  refine t_Sc_setFirstTabs_l6 _ _ _ hy1 ?_
  obtain rfl := Option.some.inj h
  exact zt_vret dX8_setFirstTabs_43 rfl
set_option maxRecDepth 100000 in
set_option maxHeartbeats 4000000 in
theorem t_Sc_addMark_j55 {v2 : Int} {s : zSt} {res : Int × zSt} (h : f_Sc_addMark_j55 v2 s = some res) : zBT 2 m_X8_addMark TSc none res.2 55 [some (.inr (.inl (some 0))), some (.inr (.inl (some 2))), some (.inl v2), none] [] s := by
  unfold f_Sc_addMark_j55 at h
  refine zr_aload ⟨_, dX8_addMark_55, rfl⟩ rfl ?_
  refine zr_aload ⟨_, dX8_addMark_56, rfl⟩ rfl ?_
  refine zt_getr dX8_addMark_57 fl_X8_21 rfl rfl ?_
  refine zt_get dX8_addMark_60 fl_X8_82 rfl rfl ?_
  refine zr_load ⟨_, dX8_addMark_63, rfl⟩ rfl ?_
  obtain ⟨x1, hx1, h⟩ := zbind h
  refine zt_callis (t_Pi_at hx1) (zrun_V (rest := []) dX8_addMark_64 ml_X8_172 rfl rfl (by decide) (by decide) rfl (Nat.le_of_ble_eq_true rfl)) rfl rfl sb_TSc_TPi_2 (Nat.le_refl _) (Nat.le_refl _) ?_
  refine zr_store ⟨_, dX8_addMark_67, rfl⟩ (by decide) rfl ?_
  refine zr_load ⟨_, dX8_addMark_68, rfl⟩ rfl ?_
  refine zr_if_le (tgt := 96) dX8_addMark_69 (by decide) (fun hc2 => ?_) (fun hc2 => ?_)
  · replace h := zpos h hc2
    obtain rfl := Option.some.inj h
    exact zt_vret dX8_addMark_96 rfl
  · replace h := zneg h hc2
    refine zr_load ⟨_, dX8_addMark_72, rfl⟩ rfl ?_
    obtain ⟨x3, hx3, h⟩ := zbind h
    refine zt_call0 (t_Co_marksOf hx3) (zrun_SN (rest := []) dX8_addMark_73 ml_X8_175 rfl (by decide) (by decide) rfl (Nat.le_of_ble_eq_true rfl)) rfl rfl (Nat.le_refl _) (Nat.le_refl _) ?_
    refine zr_iconst dX8_addMark_76 (by decide) ?_
    refine zr_ic_ge (tgt := 96) dX8_addMark_77 (by decide) (fun hc4 => ?_) (fun hc4 => ?_)
    · replace h := zpos h hc4
      obtain rfl := Option.some.inj h
      exact zt_vret dX8_addMark_96 rfl
    · replace h := zneg h hc4
      refine zr_aload ⟨_, dX8_addMark_80, rfl⟩ rfl ?_
      refine zr_aload ⟨_, dX8_addMark_81, rfl⟩ rfl ?_
      refine zt_getr dX8_addMark_82 fl_X8_21 rfl rfl ?_
      refine zt_get dX8_addMark_85 fl_X8_82 rfl rfl ?_
      refine zr_load ⟨_, dX8_addMark_88, rfl⟩ rfl ?_
      refine zr_load ⟨_, dX8_addMark_89, rfl⟩ rfl ?_
      refine zr_ldc dX8_addMark_90 k_X8_178 (by decide) ?_
      refine zr_iadd dX8_addMark_92 ?_
      obtain ⟨x5, hx5, h⟩ := zbind h
      refine zt_callv (t_Pi_put hx5) (zrun_V (rest := []) dX8_addMark_93 ml_X8_166 rfl rfl (by decide) (by decide) rfl (Nat.le_of_ble_eq_true rfl)) rfl rfl sb_TSc_TPi_2 (Nat.le_refl _) (Nat.le_refl _) ?_
      obtain rfl := Option.some.inj h
      exact zt_vret dX8_addMark_96 rfl
set_option maxRecDepth 100000 in
set_option maxHeartbeats 4000000 in
theorem t_Sc_addMark_j55_1 {v2 : Int} {s : zSt} {res : Int × zSt} (h : f_Sc_addMark_j55_1 v2 s = some res) : zBT 2 m_X8_addMark TSc none res.2 55 [some (.inr (.inl (some 0))), some (.inr (.inl (some 22))), some (.inl v2), none] [] s := by
  unfold f_Sc_addMark_j55_1 at h
  refine zr_aload ⟨_, dX8_addMark_55, rfl⟩ rfl ?_
  refine zr_aload ⟨_, dX8_addMark_56, rfl⟩ rfl ?_
  refine zt_getr dX8_addMark_57 fl_X8_21 rfl rfl ?_
  refine zt_get dX8_addMark_60 fl_X8_82 rfl rfl ?_
  refine zr_load ⟨_, dX8_addMark_63, rfl⟩ rfl ?_
  obtain ⟨x1, hx1, h⟩ := zbind h
  refine zt_callis (t_Pi_at hx1) (zrun_V (rest := []) dX8_addMark_64 ml_X8_172 rfl rfl (by decide) (by decide) rfl (Nat.le_of_ble_eq_true rfl)) rfl rfl sb_TSc_TPi_22 (Nat.le_refl _) (Nat.le_refl _) ?_
  refine zr_store ⟨_, dX8_addMark_67, rfl⟩ (by decide) rfl ?_
  refine zr_load ⟨_, dX8_addMark_68, rfl⟩ rfl ?_
  refine zr_if_le (tgt := 96) dX8_addMark_69 (by decide) (fun hc2 => ?_) (fun hc2 => ?_)
  · replace h := zpos h hc2
    obtain rfl := Option.some.inj h
    exact zt_vret dX8_addMark_96 rfl
  · replace h := zneg h hc2
    refine zr_load ⟨_, dX8_addMark_72, rfl⟩ rfl ?_
    obtain ⟨x3, hx3, h⟩ := zbind h
    refine zt_call0 (t_Co_marksOf hx3) (zrun_SN (rest := []) dX8_addMark_73 ml_X8_175 rfl (by decide) (by decide) rfl (Nat.le_of_ble_eq_true rfl)) rfl rfl (Nat.le_refl _) (Nat.le_refl _) ?_
    refine zr_iconst dX8_addMark_76 (by decide) ?_
    refine zr_ic_ge (tgt := 96) dX8_addMark_77 (by decide) (fun hc4 => ?_) (fun hc4 => ?_)
    · replace h := zpos h hc4
      obtain rfl := Option.some.inj h
      exact zt_vret dX8_addMark_96 rfl
    · replace h := zneg h hc4
      refine zr_aload ⟨_, dX8_addMark_80, rfl⟩ rfl ?_
      refine zr_aload ⟨_, dX8_addMark_81, rfl⟩ rfl ?_
      refine zt_getr dX8_addMark_82 fl_X8_21 rfl rfl ?_
      refine zt_get dX8_addMark_85 fl_X8_82 rfl rfl ?_
      refine zr_load ⟨_, dX8_addMark_88, rfl⟩ rfl ?_
      refine zr_load ⟨_, dX8_addMark_89, rfl⟩ rfl ?_
      refine zr_ldc dX8_addMark_90 k_X8_178 (by decide) ?_
      refine zr_iadd dX8_addMark_92 ?_
      obtain ⟨x5, hx5, h⟩ := zbind h
      refine zt_callv (t_Pi_put hx5) (zrun_V (rest := []) dX8_addMark_93 ml_X8_166 rfl rfl (by decide) (by decide) rfl (Nat.le_of_ble_eq_true rfl)) rfl rfl sb_TSc_TPi_22 (Nat.le_refl _) (Nat.le_refl _) ?_
      obtain rfl := Option.some.inj h
      exact zt_vret dX8_addMark_96 rfl
set_option maxRecDepth 100000 in
set_option maxHeartbeats 4000000 in
theorem t_Sc_addMark  {s : zSt} {res : Int × zSt} (h : f_Sc_addMark s = some res) : zSpecT 2 m_X8_addMark [.inr (.inl (some 0))] TSc s none res.2 := by
  refine zSpec_of (by decide +kernel) (Nat.le_of_ble_eq_true rfl) ?_
  show zBT 2 m_X8_addMark TSc none res.2 0 [some (.inr (.inl (some 0))), none, none, none] [] s
  unfold f_Sc_addMark at h
  refine zr_aload ⟨_, dX8_addMark_0, rfl⟩ rfl ?_
  by_cases hc1 : s.1 0 8 = 0
  · replace h := zpos h hc1
    refine zt_callirs (t_Sc_shown0 hc1) (zrun_V (rest := []) dX8_addMark_1 ml_X8_138 rfl rfl (by decide) (by decide) rfl (Nat.le_of_ble_eq_true rfl)) rfl rfl (Nat.le_refl _) (Nat.le_refl _) ?_
    refine zr_astore ⟨_, dX8_addMark_4, rfl⟩ (by decide) rfl ?_
    refine zr_aload ⟨_, dX8_addMark_5, rfl⟩ rfl ?_
    refine zt_getr dX8_addMark_6 fl_X8_21 rfl rfl ?_
    refine zt_get dX8_addMark_9 fl_X8_88 rfl rfl ?_
    have hj2 : zBT 2 m_X8_addMark TSc none res.2 34 [some (.inr (.inl (some 0))), some (.inr (.inl (some 2))), none, none] [.inl (if (s.1 12 2) = 0 then (w32 ((s.1 12 1) - 1)) else (s.1 12 1))] s := by
      refine zr_store ⟨_, dX8_addMark_34, rfl⟩ (by decide) rfl ?_
      refine zr_aload ⟨_, dX8_addMark_35, rfl⟩ rfl ?_
      refine zr_aload ⟨_, dX8_addMark_36, rfl⟩ rfl ?_
      refine zt_getr dX8_addMark_37 fl_X8_21 rfl rfl ?_
      refine zt_get dX8_addMark_40 fl_X8_82 rfl rfl ?_
      refine zr_load ⟨_, dX8_addMark_43, rfl⟩ rfl ?_
      obtain ⟨x4, hx4, h⟩ := zbind h
      refine zt_callis (t_Pi_at hx4) (zrun_V (rest := []) dX8_addMark_44 ml_X8_172 rfl rfl (by decide) (by decide) rfl (Nat.le_of_ble_eq_true rfl)) rfl rfl sb_TSc_TPi_2 (Nat.le_refl _) (Nat.le_refl _) ?_
      refine zr_bipush dX8_addMark_47 (by decide) (by decide) ?_
      refine zr_ic_ne (tgt := 55) dX8_addMark_49 (by decide) (fun hc5 => ?_) (fun hc5 => ?_)
      · replace h := zpos h hc5
        exact t_Sc_addMark_j55 h
      · replace h := zneg h hc5
        refine zr_iinc dX8_addMark_52 rfl (by decide) rfl ?_
        exact t_Sc_addMark_j55 h
    refine zr_if_eq (tgt := 25) dX8_addMark_12 (by decide) (fun hc3 => ?_) (fun hc3 => ?_)
    · have hp6 := zif_t hj2 hc3
      refine zr_aload ⟨_, dX8_addMark_25, rfl⟩ rfl ?_
      refine zt_getr dX8_addMark_26 fl_X8_21 rfl rfl ?_
      refine zt_get dX8_addMark_29 fl_X8_85 rfl rfl ?_
      refine zr_iconst dX8_addMark_32 (by decide) ?_
      refine zr_isub dX8_addMark_33 ?_
      exact hp6
    · have hp7 := zif_f hj2 hc3
      refine zr_aload ⟨_, dX8_addMark_15, rfl⟩ rfl ?_
      refine zt_getr dX8_addMark_16 fl_X8_21 rfl rfl ?_
      refine zt_get dX8_addMark_19 fl_X8_85 rfl rfl ?_
      refine zr_goto (tgt := 34) dX8_addMark_22 (by decide) ?_
      exact hp7
  · replace h := zneg h hc1
    refine zt_callirs (t_Sc_shown1 hc1) (zrun_V (rest := []) dX8_addMark_1 ml_X8_138 rfl rfl (by decide) (by decide) rfl (Nat.le_of_ble_eq_true rfl)) rfl rfl (Nat.le_refl _) (Nat.le_refl _) ?_
    refine zr_astore ⟨_, dX8_addMark_4, rfl⟩ (by decide) rfl ?_
    refine zr_aload ⟨_, dX8_addMark_5, rfl⟩ rfl ?_
    refine zt_getr dX8_addMark_6 fl_X8_21 rfl rfl ?_
    refine zt_get dX8_addMark_9 fl_X8_88 rfl rfl ?_
    have hj8 : zBT 2 m_X8_addMark TSc none res.2 34 [some (.inr (.inl (some 0))), some (.inr (.inl (some 22))), none, none] [.inl (if (s.1 12 2) = 0 then (w32 ((s.1 12 1) - 1)) else (s.1 12 1))] s := by
      refine zr_store ⟨_, dX8_addMark_34, rfl⟩ (by decide) rfl ?_
      refine zr_aload ⟨_, dX8_addMark_35, rfl⟩ rfl ?_
      refine zr_aload ⟨_, dX8_addMark_36, rfl⟩ rfl ?_
      refine zt_getr dX8_addMark_37 fl_X8_21 rfl rfl ?_
      refine zt_get dX8_addMark_40 fl_X8_82 rfl rfl ?_
      refine zr_load ⟨_, dX8_addMark_43, rfl⟩ rfl ?_
      obtain ⟨x10, hx10, h⟩ := zbind h
      refine zt_callis (t_Pi_at hx10) (zrun_V (rest := []) dX8_addMark_44 ml_X8_172 rfl rfl (by decide) (by decide) rfl (Nat.le_of_ble_eq_true rfl)) rfl rfl sb_TSc_TPi_22 (Nat.le_refl _) (Nat.le_refl _) ?_
      refine zr_bipush dX8_addMark_47 (by decide) (by decide) ?_
      refine zr_ic_ne (tgt := 55) dX8_addMark_49 (by decide) (fun hc11 => ?_) (fun hc11 => ?_)
      · replace h := zpos h hc11
        exact t_Sc_addMark_j55_1 h
      · replace h := zneg h hc11
        refine zr_iinc dX8_addMark_52 rfl (by decide) rfl ?_
        exact t_Sc_addMark_j55_1 h
    refine zr_if_eq (tgt := 25) dX8_addMark_12 (by decide) (fun hc9 => ?_) (fun hc9 => ?_)
    · have hp12 := zif_t hj8 hc9
      refine zr_aload ⟨_, dX8_addMark_25, rfl⟩ rfl ?_
      refine zt_getr dX8_addMark_26 fl_X8_21 rfl rfl ?_
      refine zt_get dX8_addMark_29 fl_X8_85 rfl rfl ?_
      refine zr_iconst dX8_addMark_32 (by decide) ?_
      refine zr_isub dX8_addMark_33 ?_
      exact hp12
    · have hp13 := zif_f hj8 hc9
      refine zr_aload ⟨_, dX8_addMark_15, rfl⟩ rfl ?_
      refine zt_getr dX8_addMark_16 fl_X8_21 rfl rfl ?_
      refine zt_get dX8_addMark_19 fl_X8_85 rfl rfl ?_
      refine zr_goto (tgt := 34) dX8_addMark_22 (by decide) ?_
      exact hp13
set_option maxRecDepth 100000 in
set_option maxHeartbeats 4000000 in
theorem t_Sc_endAbove {a1 : Int} {s : zSt} {res : Int × zSt} (h : f_Sc_endAbove a1 s = some res) : zSpecT 2 m_X8_endAbove [.inr (.inl (some 0)), .inl a1] TSc s none res.2 := by
  refine zSpec_of (by decide +kernel) (Nat.le_of_ble_eq_true rfl) ?_
  show zBT 2 m_X8_endAbove TSc none res.2 0 [some (.inr (.inl (some 0))), some (.inl a1)] [] s
  unfold f_Sc_endAbove at h
  refine zr_load ⟨_, dX8_endAbove_0, rfl⟩ rfl ?_
  refine zr_if_le (tgt := 18) dX8_endAbove_1 (by decide) (fun hc1 => ?_) (fun hc1 => ?_)
  · replace h := zpos h hc1
    refine zr_aload ⟨_, dX8_endAbove_18, rfl⟩ rfl ?_
    refine zt_get dX8_endAbove_19 fl_X8_75 rfl rfl ?_
    refine zr_if_ne (tgt := 35) dX8_endAbove_22 (by decide) (fun hc2 => ?_) (fun hc2 => ?_)
    · replace h := zpos h hc2
      obtain rfl := Option.some.inj h
      exact zt_vret dX8_endAbove_35 rfl
    · replace h := zneg h hc2
      refine zr_aload ⟨_, dX8_endAbove_25, rfl⟩ rfl ?_
      refine zt_getr dX8_endAbove_26 fl_X8_12 rfl rfl ?_
      refine zt_getr dX8_endAbove_29 fl_X8_100 rfl rfl ?_
      obtain ⟨x3, hx3, h⟩ := zbind h
      refine zt_callv (t_Hi_endLatest hx3) (zrun_V (rest := []) dX8_endAbove_32 ml_X8_209 rfl rfl (by decide) (by decide) rfl (Nat.le_of_ble_eq_true rfl)) rfl rfl sb_TSc_THi_5 (Nat.le_refl _) (Nat.le_refl _) ?_
      obtain rfl := Option.some.inj h
      exact zt_vret dX8_endAbove_35 rfl
  · replace h := zneg h hc1
    refine zr_aload ⟨_, dX8_endAbove_4, rfl⟩ rfl ?_
    by_cases hc4 : s.1 0 8 = 0
    · replace h := zpos h hc4
      refine zt_callirs (t_Sc_shown0 hc4) (zrun_V (rest := []) dX8_endAbove_5 ml_X8_138 rfl rfl (by decide) (by decide) rfl (Nat.le_of_ble_eq_true rfl)) rfl rfl (Nat.le_refl _) (Nat.le_refl _) ?_
      refine zr_load ⟨_, dX8_endAbove_8, rfl⟩ rfl ?_
      refine zr_iconst dX8_endAbove_9 (by decide) ?_
      refine zr_isub dX8_endAbove_10 ?_
      refine zr_iconst dX8_endAbove_11 (by decide) ?_
      obtain ⟨x5, hx5, h⟩ := zbind h
      refine zt_callv (t_Pi_setGoing hx5) (zrun_V (rest := []) dX8_endAbove_12 ml_X8_153 rfl rfl (by decide) (by decide) rfl (Nat.le_of_ble_eq_true rfl)) rfl rfl sb_TSc_TPi_2 (Nat.le_refl _) (Nat.le_refl _) ?_
      refine zr_goto (tgt := 35) dX8_endAbove_15 (by decide) ?_
      obtain rfl := Option.some.inj h
      exact zt_vret dX8_endAbove_35 rfl
    · replace h := zneg h hc4
      refine zt_callirs (t_Sc_shown1 hc4) (zrun_V (rest := []) dX8_endAbove_5 ml_X8_138 rfl rfl (by decide) (by decide) rfl (Nat.le_of_ble_eq_true rfl)) rfl rfl (Nat.le_refl _) (Nat.le_refl _) ?_
      refine zr_load ⟨_, dX8_endAbove_8, rfl⟩ rfl ?_
      refine zr_iconst dX8_endAbove_9 (by decide) ?_
      refine zr_isub dX8_endAbove_10 ?_
      refine zr_iconst dX8_endAbove_11 (by decide) ?_
      obtain ⟨x6, hx6, h⟩ := zbind h
      refine zt_callv (t_Pi_setGoing hx6) (zrun_V (rest := []) dX8_endAbove_12 ml_X8_153 rfl rfl (by decide) (by decide) rfl (Nat.le_of_ble_eq_true rfl)) rfl rfl sb_TSc_TPi_22 (Nat.le_refl _) (Nat.le_refl _) ?_
      refine zr_goto (tgt := 35) dX8_endAbove_15 (by decide) ?_
      obtain rfl := Option.some.inj h
      exact zt_vret dX8_endAbove_35 rfl
set_option maxRecDepth 100000 in
set_option maxHeartbeats 4000000 in
theorem t_Sc_bringBack  {s : zSt} {res : Int × zSt} (h : f_Sc_bringBack s = some res) : zSpecT 2 m_X8_bringBack [.inr (.inl (some 0))] TSc s none res.2 := by
  refine zSpec_of (by decide +kernel) (Nat.le_of_ble_eq_true rfl) ?_
  show zBT 2 m_X8_bringBack TSc none res.2 0 [some (.inr (.inl (some 0)))] [] s
  unfold f_Sc_bringBack at h
  refine zr_aload ⟨_, dX8_bringBack_0, rfl⟩ rfl ?_
  refine zt_getr dX8_bringBack_1 fl_X8_21 rfl rfl ?_
  refine zr_aload ⟨_, dX8_bringBack_4, rfl⟩ rfl ?_
  refine zt_getr dX8_bringBack_5 fl_X8_55 rfl rfl ?_
  obtain ⟨x1, hx1, h⟩ := zbind h
  refine zt_callv (t_Cu_copy hx1) (zrun_V (rest := []) dX8_bringBack_8 ml_X8_212 rfl rfl (by decide) (by decide) rfl (Nat.le_of_ble_eq_true rfl)) rfl rfl sb_TSc_TCuCu_12_25 (Nat.le_refl _) (Nat.le_refl _) ?_
  refine zr_aload ⟨_, dX8_bringBack_11, rfl⟩ rfl ?_
  refine zt_getr dX8_bringBack_12 fl_X8_21 rfl rfl ?_
  refine zr_aload ⟨_, dX8_bringBack_15, rfl⟩ rfl ?_
  refine zt_getr dX8_bringBack_16 fl_X8_21 rfl rfl ?_
  refine zt_get dX8_bringBack_19 fl_X8_82 rfl rfl ?_
  refine zr_aload ⟨_, dX8_bringBack_22, rfl⟩ rfl ?_
  refine zt_get dX8_bringBack_23 fl_X8_62 rfl rfl ?_
  refine zr_iconst dX8_bringBack_26 (by decide) ?_
  refine zr_isub dX8_bringBack_27 ?_
  refine zr_min dX8_bringBack_28 ml_X8_169 (by decide) (Nat.le_refl _) (Nat.le_refl _) (Nat.le_of_ble_eq_true rfl) ?_
  refine zt_put dX8_bringBack_31 fl_X8_82 rfl rfl ?_
  refine zr_aload ⟨_, dX8_bringBack_34, rfl⟩ rfl ?_
  refine zt_getr dX8_bringBack_35 fl_X8_21 rfl rfl ?_
  refine zr_aload ⟨_, dX8_bringBack_38, rfl⟩ rfl ?_
  refine zt_getr dX8_bringBack_39 fl_X8_21 rfl rfl ?_
  refine zt_get dX8_bringBack_42 fl_X8_85 rfl rfl ?_
  refine zr_aload ⟨_, dX8_bringBack_45, rfl⟩ rfl ?_
  refine zt_get dX8_bringBack_46 fl_X8_66 rfl rfl ?_
  refine zr_iconst dX8_bringBack_49 (by decide) ?_
  refine zr_isub dX8_bringBack_50 ?_
  refine zr_min dX8_bringBack_51 ml_X8_169 (by decide) (Nat.le_refl _) (Nat.le_refl _) (Nat.le_of_ble_eq_true rfl) ?_
  refine zt_put dX8_bringBack_54 fl_X8_85 rfl rfl ?_
  refine zr_aload ⟨_, dX8_bringBack_57, rfl⟩ rfl ?_
  refine zt_getr dX8_bringBack_58 fl_X8_21 rfl rfl ?_
  refine zr_aload ⟨_, dX8_bringBack_61, rfl⟩ rfl ?_
  refine zt_getr dX8_bringBack_62 fl_X8_21 rfl rfl ?_
  refine zt_get dX8_bringBack_65 fl_X8_88 rfl rfl ?_
  have hj2 : zBT 2 m_X8_bringBack TSc none res.2 102 [some (.inr (.inl (some 0)))] [.inl (if (x1.2.1 0 2) = 0 then 0 else (if ¬ ((if (w32 ((s.1 0 10) - 1)) < (x1.2.1 0 1) then (w32 ((s.1 0 10) - 1)) else (x1.2.1 0 1)) : Int) = (w32 ((s.1 0 10) - 1)) then 0 else (if (s.1 13 1) = 0 then 0 else 1))), .inr (.inl (some 12))] (uS (uS (zpb (zsl [12, 25]) 2 s x1.2) 12 0 (if (w32 ((s.1 0 9) - 1)) < (x1.2.1 0 0) then (w32 ((s.1 0 9) - 1)) else (x1.2.1 0 0))) 12 1 (if (w32 ((s.1 0 10) - 1)) < (x1.2.1 0 1) then (w32 ((s.1 0 10) - 1)) else (x1.2.1 0 1))) := by
    refine zt_putz dX8_bringBack_102 fl_X8_88 rfl rfl (z01i (Or.inl rfl) (z01i (Or.inl rfl) (z01i (Or.inl rfl) (Or.inr rfl)))) ?_
    obtain rfl := Option.some.inj h
    exact zt_vret dX8_bringBack_105 rfl
  refine zr_if_eq (tgt := 101) dX8_bringBack_68 (by decide) (fun hc3 => ?_) (fun hc3 => ?_)
  · have hp4 := zif_t hj2 hc3
    refine zr_iconst dX8_bringBack_101 (by decide) ?_
    exact hp4
  · have hp5 := zif_f hj2 hc3
    refine zr_aload ⟨_, dX8_bringBack_71, rfl⟩ rfl ?_
    refine zt_getr dX8_bringBack_72 fl_X8_21 rfl rfl ?_
    refine zt_get dX8_bringBack_75 fl_X8_85 rfl rfl ?_
    refine zr_aload ⟨_, dX8_bringBack_78, rfl⟩ rfl ?_
    refine zt_get dX8_bringBack_79 fl_X8_66 rfl rfl ?_
    refine zr_iconst dX8_bringBack_82 (by decide) ?_
    refine zr_isub dX8_bringBack_83 ?_
    refine zr_ic_ne (tgt := 101) dX8_bringBack_84 (by decide) (fun hc6 => ?_) (fun hc6 => ?_)
    · have hp7 := zif_t hp5 hc6
      refine zr_iconst dX8_bringBack_101 (by decide) ?_
      exact hp7
    · have hp8 := zif_f hp5 hc6
      refine zr_aload ⟨_, dX8_bringBack_87, rfl⟩ rfl ?_
      refine zt_getr dX8_bringBack_88 fl_X8_28 rfl rfl ?_
      refine zt_get dX8_bringBack_91 fl_X8_146 rfl rfl ?_
      refine zr_if_eq (tgt := 101) dX8_bringBack_94 (by decide) (fun hc9 => ?_) (fun hc9 => ?_)
      · have hp10 := zif_t hp8 hc9
        refine zr_iconst dX8_bringBack_101 (by decide) ?_
        exact hp10
      · have hp11 := zif_f hp8 hc9
        refine zr_iconst dX8_bringBack_97 (by decide) ?_
        refine zr_goto (tgt := 102) dX8_bringBack_98 (by decide) ?_
        exact hp11
set_option maxRecDepth 100000 in
set_option maxHeartbeats 4000000 in
theorem t_Sc_goTo {a1 a2 : Int} {s : zSt} {res : Int × zSt} (h : f_Sc_goTo a1 a2 s = some res) : zSpecT 2 m_X8_goTo [.inr (.inl (some 0)), .inl a1, .inl a2] TSc s none res.2 := by
  refine zSpec_of (by decide +kernel) (Nat.le_of_ble_eq_true rfl) ?_
  show zBT 2 m_X8_goTo TSc none res.2 0 [some (.inr (.inl (some 0))), some (.inl a1), some (.inl a2), none, none] [] s
  unfold f_Sc_goTo at h
  refine zr_aload ⟨_, dX8_goTo_0, rfl⟩ rfl ?_
  refine zt_getr dX8_goTo_1 fl_X8_21 rfl rfl ?_
  refine zt_get dX8_goTo_4 fl_X8_275 rfl rfl ?_
  have hj1 : zBT 2 m_X8_goTo TSc none res.2 18 [some (.inr (.inl (some 0))), some (.inl a1), some (.inl a2), none, none] [.inl (if (s.1 12 4) = 0 then 0 else (s.1 0 12))] s := by
    refine zr_store ⟨_, dX8_goTo_18, rfl⟩ (by decide) rfl ?_
    refine zr_aload ⟨_, dX8_goTo_19, rfl⟩ rfl ?_
    refine zt_getr dX8_goTo_20 fl_X8_21 rfl rfl ?_
    refine zt_get dX8_goTo_23 fl_X8_275 rfl rfl ?_
    have hj3 : zBT 2 m_X8_goTo TSc none res.2 42 [some (.inr (.inl (some 0))), some (.inl a1), some (.inl a2), some (.inl (if (s.1 12 4) = 0 then 0 else (s.1 0 12))), none] [.inl (if (s.1 12 4) = 0 then (w32 ((s.1 0 9) - 1)) else (s.1 0 13))] s := by
      refine zr_storew dX8_goTo_42 (by decide) rfl ?_
      refine zr_aload ⟨_, dX8_goTo_44, rfl⟩ rfl ?_
      refine zt_getr dX8_goTo_45 fl_X8_21 rfl rfl ?_
      refine zr_load ⟨_, dX8_goTo_48, rfl⟩ rfl ?_
      refine zr_load ⟨_, dX8_goTo_49, rfl⟩ rfl ?_
      refine zr_iadd dX8_goTo_50 ?_
      refine zr_iconst dX8_goTo_51 (by decide) ?_
      refine zr_isub dX8_goTo_52 ?_
      refine zr_loadw dX8_goTo_53 rfl ?_
      refine zr_min dX8_goTo_55 ml_X8_169 (by decide) (Nat.le_refl _) (Nat.le_refl _) (Nat.le_of_ble_eq_true rfl) ?_
      refine zr_load ⟨_, dX8_goTo_58, rfl⟩ rfl ?_
      refine zr_aload ⟨_, dX8_goTo_59, rfl⟩ rfl ?_
      refine zt_get dX8_goTo_60 fl_X8_66 rfl rfl ?_
      refine zr_min dX8_goTo_63 ml_X8_169 (by decide) (Nat.le_refl _) (Nat.le_refl _) (Nat.le_of_ble_eq_true rfl) ?_
      refine zr_iconst dX8_goTo_66 (by decide) ?_
      refine zr_isub dX8_goTo_67 ?_
      obtain ⟨x5, hx5, h⟩ := zbind h
      refine zt_callv (t_Cu_goTo hx5) (zrun_V (rest := []) dX8_goTo_68 ml_X8_278 rfl rfl (by decide) (by decide) rfl (Nat.le_of_ble_eq_true rfl)) rfl rfl sb_TSc_TCu_12 (Nat.le_refl _) (Nat.le_refl _) ?_
      obtain rfl := Option.some.inj h
      exact zt_vret dX8_goTo_71 rfl
    refine zr_if_eq (tgt := 36) dX8_goTo_26 (by decide) (fun hc4 => ?_) (fun hc4 => ?_)
    · have hp6 := zif_t hj3 hc4
      refine zr_aload ⟨_, dX8_goTo_36, rfl⟩ rfl ?_
      refine zt_get dX8_goTo_37 fl_X8_62 rfl rfl ?_
      refine zr_iconst dX8_goTo_40 (by decide) ?_
      refine zr_isub dX8_goTo_41 ?_
      exact hp6
    · have hp7 := zif_f hj3 hc4
      refine zr_aload ⟨_, dX8_goTo_29, rfl⟩ rfl ?_
      refine zt_get dX8_goTo_30 fl_X8_69 rfl rfl ?_
      refine zr_goto (tgt := 42) dX8_goTo_33 (by decide) ?_
      exact hp7
  refine zr_if_eq (tgt := 17) dX8_goTo_7 (by decide) (fun hc2 => ?_) (fun hc2 => ?_)
  · have hp8 := zif_t hj1 hc2
    refine zr_iconst dX8_goTo_17 (by decide) ?_
    exact hp8
  · have hp9 := zif_f hj1 hc2
    refine zr_aload ⟨_, dX8_goTo_10, rfl⟩ rfl ?_
    refine zt_get dX8_goTo_11 fl_X8_97 rfl rfl ?_
    refine zr_goto (tgt := 18) dX8_goTo_14 (by decide) ?_
    exact hp9
set_option maxRecDepth 100000 in
set_option maxHeartbeats 4000000 in
theorem t_Sc_setAttribute_l2  {r : Option zAV} {s0 : zSt}  : ∀ (n : Nat) (x : Int × zSt) (out : zSt), zloop (f_Sc_setAttribute_l2) n x = some out → (zBT 2 m_X8_setAttribute TSc r s0 105 [none, none, none] [] out) → zBT 2 m_X8_setAttribute TSc r s0 2 [some (.inr (.inl (some 0))), some (.inl x.1), none] [] x.2 := by
  refine zloop_B (B := fun (x : Int × zSt) (out : zSt) => zBT 2 m_X8_setAttribute TSc r s0 105 [none, none, none] [] out → zBT 2 m_X8_setAttribute TSc r s0 2 [some (.inr (.inl (some 0))), some (.inl x.1), none] [] x.2) ?_
  intro x o out h hk hx
  unfold f_Sc_setAttribute_l2 at h
  refine zr_load ⟨_, dX8_setAttribute_2, rfl⟩ rfl ?_
  refine zr_aload ⟨_, dX8_setAttribute_3, rfl⟩ rfl ?_
  refine zt_getr dX8_setAttribute_4 fl_X8_35 rfl rfl ?_
  refine zt_get dX8_setAttribute_7 fl_X8_283 rfl rfl ?_
  refine zr_ic_ge (tgt := 105) dX8_setAttribute_10 (by decide) (fun hc1 => ?_) (fun hc1 => ?_)
  · replace h := zpos h hc1
    refine zr_mask [false, false, false] rfl ?_
    obtain rfl := Option.some.inj h
    obtain rfl := hk
    exact hx
  · replace h := zneg h hc1
    refine zr_aload ⟨_, dX8_setAttribute_13, rfl⟩ rfl ?_
    refine zt_getr dX8_setAttribute_14 fl_X8_35 rfl rfl ?_
    refine zr_load ⟨_, dX8_setAttribute_17, rfl⟩ rfl ?_
    obtain ⟨x2, hx2, h⟩ := zbind h
    refine zt_callis (t_Re_number hx2) (zrun_V (rest := []) dX8_setAttribute_18 ml_X8_239 rfl rfl (by decide) (by decide) rfl (Nat.le_of_ble_eq_true rfl)) rfl rfl sb_TSc_TRe_14 (Nat.le_refl _) (Nat.le_refl _) ?_
    refine zr_store ⟨_, dX8_setAttribute_21, rfl⟩ (by decide) rfl ?_
    refine zr_load ⟨_, dX8_setAttribute_22, rfl⟩ rfl ?_
    refine zr_if_ne (tgt := 37) dX8_setAttribute_23 (by decide) (fun hc3 => ?_) (fun hc3 => ?_)
    · replace h := zpos h hc3
      refine zr_load ⟨_, dX8_setAttribute_37, rfl⟩ rfl ?_
      refine zr_iconst dX8_setAttribute_38 (by decide) ?_
      refine zr_ic_lt (tgt := 67) dX8_setAttribute_39 (by decide) (fun hc4 => ?_) (fun hc4 => ?_)
      · replace h := zpos h hc4
        refine zr_load ⟨_, dX8_setAttribute_67, rfl⟩ rfl ?_
        refine zr_bipush dX8_setAttribute_68 (by decide) (by decide) ?_
        refine zr_ic_lt (tgt := 99) dX8_setAttribute_70 (by decide) (fun hc5 => ?_) (fun hc5 => ?_)
        · replace h := zpos h hc5
          refine zr_iinc dX8_setAttribute_99 rfl (by decide) rfl ?_
          refine zr_goto (tgt := 2) dX8_setAttribute_102 (by decide) ?_
          refine zr_mask [true, true, false] rfl ?_
          obtain rfl := Option.some.inj h
          exact hk hx
        · replace h := zneg h hc5
          refine zr_load ⟨_, dX8_setAttribute_73, rfl⟩ rfl ?_
          refine zr_bipush dX8_setAttribute_74 (by decide) (by decide) ?_
          refine zr_ic_gt (tgt := 99) dX8_setAttribute_76 (by decide) (fun hc6 => ?_) (fun hc6 => ?_)
          · replace h := zpos h hc6
            refine zr_iinc dX8_setAttribute_99 rfl (by decide) rfl ?_
            refine zr_goto (tgt := 2) dX8_setAttribute_102 (by decide) ?_
            refine zr_mask [true, true, false] rfl ?_
            obtain rfl := Option.some.inj h
            exact hk hx
          · replace h := zneg h hc6
            refine zr_aload ⟨_, dX8_setAttribute_79, rfl⟩ rfl ?_
            refine zt_getr dX8_setAttribute_80 fl_X8_21 rfl rfl ?_
            refine zr_dup dX8_setAttribute_83 (Or.inl True.intro) ?_
            refine zt_get dX8_setAttribute_84 fl_X8_94 rfl rfl ?_
            refine zr_iconst dX8_setAttribute_87 (by decide) ?_
            refine zr_load ⟨_, dX8_setAttribute_88, rfl⟩ rfl ?_
            refine zr_bipush dX8_setAttribute_89 (by decide) (by decide) ?_
            refine zr_isub dX8_setAttribute_91 ?_
            refine zr_ishl dX8_setAttribute_92 ?_
            refine zr_iconst dX8_setAttribute_93 (by decide) ?_
            refine zr_ixor dX8_setAttribute_94 ?_
            refine zr_iand dX8_setAttribute_95 ?_
            refine zt_put dX8_setAttribute_96 fl_X8_94 rfl rfl ?_
            refine zr_iinc dX8_setAttribute_99 rfl (by decide) rfl ?_
            refine zr_goto (tgt := 2) dX8_setAttribute_102 (by decide) ?_
            refine zr_mask [true, true, false] rfl ?_
            obtain rfl := Option.some.inj h
            exact hk hx
      · replace h := zneg h hc4
        refine zr_load ⟨_, dX8_setAttribute_42, rfl⟩ rfl ?_
        refine zr_iconst dX8_setAttribute_43 (by decide) ?_
        refine zr_ic_gt (tgt := 67) dX8_setAttribute_44 (by decide) (fun hc7 => ?_) (fun hc7 => ?_)
        · replace h := zpos h hc7
          refine zr_load ⟨_, dX8_setAttribute_67, rfl⟩ rfl ?_
          refine zr_bipush dX8_setAttribute_68 (by decide) (by decide) ?_
          refine zr_ic_lt (tgt := 99) dX8_setAttribute_70 (by decide) (fun hc8 => ?_) (fun hc8 => ?_)
          · replace h := zpos h hc8
            refine zr_iinc dX8_setAttribute_99 rfl (by decide) rfl ?_
            refine zr_goto (tgt := 2) dX8_setAttribute_102 (by decide) ?_
            refine zr_mask [true, true, false] rfl ?_
            obtain rfl := Option.some.inj h
            exact hk hx
          · replace h := zneg h hc8
            refine zr_load ⟨_, dX8_setAttribute_73, rfl⟩ rfl ?_
            refine zr_bipush dX8_setAttribute_74 (by decide) (by decide) ?_
            refine zr_ic_gt (tgt := 99) dX8_setAttribute_76 (by decide) (fun hc9 => ?_) (fun hc9 => ?_)
            · replace h := zpos h hc9
              refine zr_iinc dX8_setAttribute_99 rfl (by decide) rfl ?_
              refine zr_goto (tgt := 2) dX8_setAttribute_102 (by decide) ?_
              refine zr_mask [true, true, false] rfl ?_
              obtain rfl := Option.some.inj h
              exact hk hx
            · replace h := zneg h hc9
              refine zr_aload ⟨_, dX8_setAttribute_79, rfl⟩ rfl ?_
              refine zt_getr dX8_setAttribute_80 fl_X8_21 rfl rfl ?_
              refine zr_dup dX8_setAttribute_83 (Or.inl True.intro) ?_
              refine zt_get dX8_setAttribute_84 fl_X8_94 rfl rfl ?_
              refine zr_iconst dX8_setAttribute_87 (by decide) ?_
              refine zr_load ⟨_, dX8_setAttribute_88, rfl⟩ rfl ?_
              refine zr_bipush dX8_setAttribute_89 (by decide) (by decide) ?_
              refine zr_isub dX8_setAttribute_91 ?_
              refine zr_ishl dX8_setAttribute_92 ?_
              refine zr_iconst dX8_setAttribute_93 (by decide) ?_
              refine zr_ixor dX8_setAttribute_94 ?_
              refine zr_iand dX8_setAttribute_95 ?_
              refine zt_put dX8_setAttribute_96 fl_X8_94 rfl rfl ?_
              refine zr_iinc dX8_setAttribute_99 rfl (by decide) rfl ?_
              refine zr_goto (tgt := 2) dX8_setAttribute_102 (by decide) ?_
              refine zr_mask [true, true, false] rfl ?_
              obtain rfl := Option.some.inj h
              exact hk hx
        · replace h := zneg h hc7
          refine zr_aload ⟨_, dX8_setAttribute_47, rfl⟩ rfl ?_
          refine zt_getr dX8_setAttribute_48 fl_X8_21 rfl rfl ?_
          refine zr_dup dX8_setAttribute_51 (Or.inl True.intro) ?_
          refine zt_get dX8_setAttribute_52 fl_X8_94 rfl rfl ?_
          refine zr_iconst dX8_setAttribute_55 (by decide) ?_
          refine zr_load ⟨_, dX8_setAttribute_56, rfl⟩ rfl ?_
          refine zr_iconst dX8_setAttribute_57 (by decide) ?_
          refine zr_isub dX8_setAttribute_58 ?_
          refine zr_ishl dX8_setAttribute_59 ?_
          refine zr_ior dX8_setAttribute_60 ?_
          refine zt_put dX8_setAttribute_61 fl_X8_94 rfl rfl ?_
          refine zr_goto (tgt := 99) dX8_setAttribute_64 (by decide) ?_
          refine zr_iinc dX8_setAttribute_99 rfl (by decide) rfl ?_
          refine zr_goto (tgt := 2) dX8_setAttribute_102 (by decide) ?_
          refine zr_mask [true, true, false] rfl ?_
          obtain rfl := Option.some.inj h
          exact hk hx
    · replace h := zneg h hc3
      refine zr_aload ⟨_, dX8_setAttribute_26, rfl⟩ rfl ?_
      refine zt_getr dX8_setAttribute_27 fl_X8_21 rfl rfl ?_
      refine zr_iconst dX8_setAttribute_30 (by decide) ?_
      refine zt_put dX8_setAttribute_31 fl_X8_94 rfl rfl ?_
      refine zr_goto (tgt := 99) dX8_setAttribute_34 (by decide) ?_
      refine zr_iinc dX8_setAttribute_99 rfl (by decide) rfl ?_
      refine zr_goto (tgt := 2) dX8_setAttribute_102 (by decide) ?_
      refine zr_mask [true, true, false] rfl ?_
      obtain rfl := Option.some.inj h
      exact hk hx
set_option maxRecDepth 100000 in
set_option maxHeartbeats 4000000 in
theorem t_Sc_setAttribute  {s : zSt} {res : Int × zSt} (h : f_Sc_setAttribute s = some res) : zSpecT 2 m_X8_setAttribute [.inr (.inl (some 0))] TSc s none res.2 := by
  refine zSpec_of (by decide +kernel) (Nat.le_of_ble_eq_true rfl) ?_
  show zBT 2 m_X8_setAttribute TSc none res.2 0 [some (.inr (.inl (some 0))), none, none] [] s
  unfold f_Sc_setAttribute at h
  refine zr_iconst dX8_setAttribute_0 (by decide) ?_
  refine zr_store ⟨_, dX8_setAttribute_1, rfl⟩ (by decide) rfl ?_
  obtain ⟨y1, hy1, h⟩ := zbind h
  refine t_Sc_setAttribute_l2 _ _ _ hy1 ?_
  obtain rfl := Option.some.inj h
  exact zt_vret dX8_setAttribute_105 rfl
set_option maxRecDepth 100000 in
set_option maxHeartbeats 4000000 in
theorem t_Sc_clearTabs_l26  {r : Option zAV} {s0 : zSt}  : ∀ (n : Nat) (x : Int × zSt) (out : zSt), zloop (f_Sc_clearTabs_l26) n x = some out → (zBT 2 m_X8_clearTabs TSc r s0 45 [none, none, none] [] out) → zBT 2 m_X8_clearTabs TSc r s0 26 [some (.inr (.inl (some 0))), none, some (.inl x.1)] [] x.2 := by
  refine zloop_B (B := fun (x : Int × zSt) (out : zSt) => zBT 2 m_X8_clearTabs TSc r s0 45 [none, none, none] [] out → zBT 2 m_X8_clearTabs TSc r s0 26 [some (.inr (.inl (some 0))), none, some (.inl x.1)] [] x.2) ?_
  intro x o out h hk hx
  unfold f_Sc_clearTabs_l26 at h
  refine zr_load ⟨_, dX8_clearTabs_26, rfl⟩ rfl ?_
  refine zr_bipush dX8_clearTabs_27 (by decide) (by decide) ?_
  refine zr_ic_ge (tgt := 45) dX8_clearTabs_29 (by decide) (fun hc1 => ?_) (fun hc1 => ?_)
  · replace h := zpos h hc1
    refine zr_mask [false, false, false] rfl ?_
    obtain rfl := Option.some.inj h
    obtain rfl := hk
    exact hx
  · replace h := zneg h hc1
    refine zr_aload ⟨_, dX8_clearTabs_32, rfl⟩ rfl ?_
    refine zt_getr dX8_clearTabs_33 fl_X8_58 rfl rfl ?_
    refine zr_load ⟨_, dX8_clearTabs_36, rfl⟩ rfl ?_
    refine zr_iconst dX8_clearTabs_37 (by decide) ?_
    obtain ⟨hb2, h⟩ := zchk h
    refine zt_bastore dX8_clearTabs_38 rfl hb2 (Or.inl rfl) ?_
    refine zr_iinc dX8_clearTabs_39 rfl (by decide) rfl ?_
    refine zr_goto (tgt := 26) dX8_clearTabs_42 (by decide) ?_
    obtain rfl := Option.some.inj h
    exact hk hx
set_option maxRecDepth 100000 in
set_option maxHeartbeats 4000000 in
theorem t_Sc_clearTabs {a1 : Int} {s : zSt} {res : Int × zSt} (h : f_Sc_clearTabs a1 s = some res) : zSpecT 2 m_X8_clearTabs [.inr (.inl (some 0)), .inl a1] TSc s none res.2 := by
  refine zSpec_of (by decide +kernel) (Nat.le_of_ble_eq_true rfl) ?_
  show zBT 2 m_X8_clearTabs TSc none res.2 0 [some (.inr (.inl (some 0))), some (.inl a1), none] [] s
  unfold f_Sc_clearTabs at h
  refine zr_load ⟨_, dX8_clearTabs_0, rfl⟩ rfl ?_
  refine zr_if_ne (tgt := 19) dX8_clearTabs_1 (by decide) (fun hc1 => ?_) (fun hc1 => ?_)
  · replace h := zpos h hc1
    refine zr_load ⟨_, dX8_clearTabs_19, rfl⟩ rfl ?_
    refine zr_iconst dX8_clearTabs_20 (by decide) ?_
    refine zr_ic_ne (tgt := 45) dX8_clearTabs_21 (by decide) (fun hc2 => ?_) (fun hc2 => ?_)
    · replace h := zpos h hc2
      obtain rfl := Option.some.inj h
      exact zt_vret dX8_clearTabs_45 rfl
    · replace h := zneg h hc2
      refine zr_iconst dX8_clearTabs_24 (by decide) ?_
      refine zr_store ⟨_, dX8_clearTabs_25, rfl⟩ (by decide) rfl ?_
      refine zr_mask [true, false, true] rfl ?_
      obtain ⟨y3, hy3, h⟩ := zbind h
      refine t_Sc_clearTabs_l26 _ _ _ hy3 ?_
      obtain rfl := Option.some.inj h
      exact zt_vret dX8_clearTabs_45 rfl
  · replace h := zneg h hc1
    refine zr_aload ⟨_, dX8_clearTabs_4, rfl⟩ rfl ?_
    refine zr_aload ⟨_, dX8_clearTabs_5, rfl⟩ rfl ?_
    refine zt_getr dX8_clearTabs_6 fl_X8_21 rfl rfl ?_
    refine zt_get dX8_clearTabs_9 fl_X8_85 rfl rfl ?_
    refine zr_iconst dX8_clearTabs_12 (by decide) ?_
    obtain ⟨x4, hx4, h⟩ := zbind h
    refine zt_calliv (t_Sc_setTab hx4) (zrun_V (rest := []) dX8_clearTabs_13 ml_X8_222 rfl rfl (by decide) (by decide) rfl (Nat.le_of_ble_eq_true rfl)) rfl rfl (Nat.le_refl _) (Nat.le_refl _) ?_
    refine zr_goto (tgt := 45) dX8_clearTabs_16 (by decide) ?_
    obtain rfl := Option.some.inj h
    exact zt_vret dX8_clearTabs_45 rfl
set_option maxRecDepth 100000 in
set_option maxHeartbeats 4000000 in
theorem t_Sc_setInsert_l2 {c1 : Int} {r : Option zAV} {s0 : zSt}  : ∀ (n : Nat) (x : Int × zSt) (out : zSt), zloop (f_Sc_setInsert_l2 c1) n x = some out → (zBT 2 m_X8_setInsert TSc r s0 39 [none, none, none] [] out) → zBT 2 m_X8_setInsert TSc r s0 2 [some (.inr (.inl (some 0))), some (.inl c1), some (.inl x.1)] [] x.2 := by
  refine zloop_B (B := fun (x : Int × zSt) (out : zSt) => zBT 2 m_X8_setInsert TSc r s0 39 [none, none, none] [] out → zBT 2 m_X8_setInsert TSc r s0 2 [some (.inr (.inl (some 0))), some (.inl c1), some (.inl x.1)] [] x.2) ?_
  intro x o out h hk hx
  unfold f_Sc_setInsert_l2 at h
  refine zr_load ⟨_, dX8_setInsert_2, rfl⟩ rfl ?_
  refine zr_aload ⟨_, dX8_setInsert_3, rfl⟩ rfl ?_
  refine zt_getr dX8_setInsert_4 fl_X8_35 rfl rfl ?_
  refine zt_get dX8_setInsert_7 fl_X8_283 rfl rfl ?_
  refine zr_ic_ge (tgt := 39) dX8_setInsert_10 (by decide) (fun hc1 => ?_) (fun hc1 => ?_)
  · replace h := zpos h hc1
    refine zr_mask [false, false, false] rfl ?_
    obtain rfl := Option.some.inj h
    obtain rfl := hk
    exact hx
  · replace h := zneg h hc1
    refine zr_aload ⟨_, dX8_setInsert_13, rfl⟩ rfl ?_
    refine zt_getr dX8_setInsert_14 fl_X8_35 rfl rfl ?_
    refine zr_load ⟨_, dX8_setInsert_17, rfl⟩ rfl ?_
    obtain ⟨x2, hx2, h⟩ := zbind h
    refine zt_callis (t_Re_number hx2) (zrun_V (rest := []) dX8_setInsert_18 ml_X8_239 rfl rfl (by decide) (by decide) rfl (Nat.le_of_ble_eq_true rfl)) rfl rfl sb_TSc_TRe_14 (Nat.le_refl _) (Nat.le_refl _) ?_
    refine zr_iconst dX8_setInsert_21 (by decide) ?_
    refine zr_ic_ne (tgt := 33) dX8_setInsert_22 (by decide) (fun hc3 => ?_) (fun hc3 => ?_)
    · replace h := zpos h hc3
      refine zr_iinc dX8_setInsert_33 rfl (by decide) rfl ?_
      refine zr_goto (tgt := 2) dX8_setInsert_36 (by decide) ?_
      obtain rfl := Option.some.inj h
      exact hk hx
    · replace h := zneg h hc3
      refine zr_aload ⟨_, dX8_setInsert_25, rfl⟩ rfl ?_
      refine zt_getr dX8_setInsert_26 fl_X8_28 rfl rfl ?_
      refine zr_load ⟨_, dX8_setInsert_29, rfl⟩ rfl ?_
      obtain ⟨hb4, h⟩ := zchk h
      refine zt_putz dX8_setInsert_30 fl_X8_160 rfl rfl hb4 ?_
      refine zr_iinc dX8_setInsert_33 rfl (by decide) rfl ?_
      refine zr_goto (tgt := 2) dX8_setInsert_36 (by decide) ?_
      obtain rfl := Option.some.inj h
      exact hk hx
set_option maxRecDepth 100000 in
set_option maxHeartbeats 4000000 in
theorem t_Sc_setInsert {a1 : Int} {s : zSt} {res : Int × zSt} (h : f_Sc_setInsert a1 s = some res) : zSpecT 2 m_X8_setInsert [.inr (.inl (some 0)), .inl a1] TSc s none res.2 := by
  refine zSpec_of (by decide +kernel) (Nat.le_of_ble_eq_true rfl) ?_
  show zBT 2 m_X8_setInsert TSc none res.2 0 [some (.inr (.inl (some 0))), some (.inl a1), none] [] s
  unfold f_Sc_setInsert at h
  refine zr_iconst dX8_setInsert_0 (by decide) ?_
  refine zr_store ⟨_, dX8_setInsert_1, rfl⟩ (by decide) rfl ?_
  obtain ⟨y1, hy1, h⟩ := zbind h
  refine t_Sc_setInsert_l2 _ _ _ hy1 ?_
  obtain rfl := Option.some.inj h
  exact zt_vret dX8_setInsert_39 rfl
set_option maxRecDepth 100000 in
set_option maxHeartbeats 4000000 in
theorem t_Sc_setRegion_j39 {v1 k0 : Int} {s : zSt} {res : Int × zSt} (h : f_Sc_setRegion_j39 v1 k0 s = some res) : zBT 3 m_X8_setRegion TSc none res.2 39 [some (.inr (.inl (some 0))), some (.inl v1), none] [.inl k0] s := by
  unfold f_Sc_setRegion_j39 at h
  refine zr_store ⟨_, dX8_setRegion_39, rfl⟩ (by decide) rfl ?_
  refine zr_load ⟨_, dX8_setRegion_40, rfl⟩ rfl ?_
  refine zr_load ⟨_, dX8_setRegion_41, rfl⟩ rfl ?_
  refine zr_ic_ge (tgt := 53) dX8_setRegion_42 (by decide) (fun hc1 => ?_) (fun hc1 => ?_)
  · replace h := zpos h hc1
    obtain rfl := Option.some.inj h
    exact zt_vret dX8_setRegion_53 rfl
  · replace h := zneg h hc1
    refine zr_load ⟨_, dX8_setRegion_45, rfl⟩ rfl ?_
    refine zr_aload ⟨_, dX8_setRegion_46, rfl⟩ rfl ?_
    refine zt_get dX8_setRegion_47 fl_X8_62 rfl rfl ?_
    refine zr_ic_le (tgt := 54) dX8_setRegion_50 (by decide) (fun hc2 => ?_) (fun hc2 => ?_)
    · replace h := zpos h hc2
      refine zr_aload ⟨_, dX8_setRegion_54, rfl⟩ rfl ?_
      refine zr_load ⟨_, dX8_setRegion_55, rfl⟩ rfl ?_
      refine zr_iconst dX8_setRegion_56 (by decide) ?_
      refine zr_isub dX8_setRegion_57 ?_
      refine zt_put dX8_setRegion_58 fl_X8_97 rfl rfl ?_
      refine zr_aload ⟨_, dX8_setRegion_61, rfl⟩ rfl ?_
      refine zr_load ⟨_, dX8_setRegion_62, rfl⟩ rfl ?_
      refine zr_iconst dX8_setRegion_63 (by decide) ?_
      refine zr_isub dX8_setRegion_64 ?_
      refine zt_put dX8_setRegion_65 fl_X8_69 rfl rfl ?_
      refine zr_aload ⟨_, dX8_setRegion_68, rfl⟩ rfl ?_
      refine zr_iconst dX8_setRegion_69 (by decide) ?_
      refine zr_iconst dX8_setRegion_70 (by decide) ?_
      obtain ⟨x3, hx3, h⟩ := zbind h
      refine zt_calliv (t_Sc_goTo hx3) (zrun_V (rest := []) dX8_setRegion_71 ml_X8_242 rfl rfl (by decide) (by decide) rfl (Nat.le_of_ble_eq_true rfl)) rfl rfl (Nat.le_refl _) (Nat.le_refl _) ?_
      obtain rfl := Option.some.inj h
      exact zt_vret dX8_setRegion_74 rfl
    · replace h := zneg h hc2
      obtain rfl := Option.some.inj h
      exact zt_vret dX8_setRegion_53 rfl
set_option maxRecDepth 100000 in
set_option maxHeartbeats 4000000 in
theorem t_Sc_setRegion  {s : zSt} {res : Int × zSt} (h : f_Sc_setRegion s = some res) : zSpecT 3 m_X8_setRegion [.inr (.inl (some 0))] TSc s none res.2 := by
  refine zSpec_of (by decide +kernel) (Nat.le_of_ble_eq_true rfl) ?_
  show zBT 3 m_X8_setRegion TSc none res.2 0 [some (.inr (.inl (some 0))), none, none] [] s
  unfold f_Sc_setRegion at h
  refine zr_aload ⟨_, dX8_setRegion_0, rfl⟩ rfl ?_
  refine zt_getr dX8_setRegion_1 fl_X8_35 rfl rfl ?_
  refine zr_iconst dX8_setRegion_4 (by decide) ?_
  obtain ⟨x1, hx1, h⟩ := zbind h
  refine zt_callis (t_Re_number hx1) (zrun_V (rest := []) dX8_setRegion_5 ml_X8_239 rfl rfl (by decide) (by decide) rfl (Nat.le_of_ble_eq_true rfl)) rfl rfl sb_TSc_TRe_14 (Nat.le_refl _) (Nat.le_refl _) ?_
  refine zr_iconst dX8_setRegion_8 (by decide) ?_
  refine zr_max dX8_setRegion_9 ml_X8_110 (by decide) (Nat.le_refl _) (Nat.le_refl _) (Nat.le_of_ble_eq_true rfl) ?_
  refine zr_store ⟨_, dX8_setRegion_12, rfl⟩ (by decide) rfl ?_
  refine zr_aload ⟨_, dX8_setRegion_13, rfl⟩ rfl ?_
  refine zt_getr dX8_setRegion_14 fl_X8_35 rfl rfl ?_
  refine zr_iconst dX8_setRegion_17 (by decide) ?_
  obtain ⟨x2, hx2, h⟩ := zbind h
  refine zt_callis (t_Re_number hx2) (zrun_V (rest := []) dX8_setRegion_18 ml_X8_239 rfl rfl (by decide) (by decide) rfl (Nat.le_of_ble_eq_true rfl)) rfl rfl sb_TSc_TRe_14 (Nat.le_refl _) (Nat.le_refl _) ?_
  refine zr_if_ne (tgt := 31) dX8_setRegion_21 (by decide) (fun hc3 => ?_) (fun hc3 => ?_)
  · replace h := zpos h hc3
    refine zr_aload ⟨_, dX8_setRegion_31, rfl⟩ rfl ?_
    refine zt_getr dX8_setRegion_32 fl_X8_35 rfl rfl ?_
    refine zr_iconst dX8_setRegion_35 (by decide) ?_
    obtain ⟨x4, hx4, h⟩ := zbind h
    refine zt_callis (t_Re_number hx4) (zrun_V (rest := []) dX8_setRegion_36 ml_X8_239 rfl rfl (by decide) (by decide) rfl (Nat.le_of_ble_eq_true rfl)) rfl rfl sb_TSc_TRe_14 (Nat.le_refl _) (Nat.le_refl _) ?_
    exact t_Sc_setRegion_j39 h
  · replace h := zneg h hc3
    refine zr_aload ⟨_, dX8_setRegion_24, rfl⟩ rfl ?_
    refine zt_get dX8_setRegion_25 fl_X8_62 rfl rfl ?_
    refine zr_goto (tgt := 39) dX8_setRegion_28 (by decide) ?_
    exact t_Sc_setRegion_j39 h
set_option maxRecDepth 100000 in
set_option maxHeartbeats 4000000 in
theorem t_Sc_eraseOtherRows_l22 {c1 : Int} {r : Option zAV} {s0 : zSt}  : ∀ (n : Nat) (x : Int × zSt) (out : zSt), zloop (f_Sc_eraseOtherRows_l22 c1) n x = some out → (zBT 4 m_X8_eraseOtherRows TSc r s0 77 [none, none, none, none] [] out) → zBT 4 m_X8_eraseOtherRows TSc r s0 22 [some (.inr (.inl (some 0))), some (.inl c1), some (.inr (.inl (some 2))), some (.inl x.1)] [] x.2 := by
  refine zloop_B (B := fun (x : Int × zSt) (out : zSt) => zBT 4 m_X8_eraseOtherRows TSc r s0 77 [none, none, none, none] [] out → zBT 4 m_X8_eraseOtherRows TSc r s0 22 [some (.inr (.inl (some 0))), some (.inl c1), some (.inr (.inl (some 2))), some (.inl x.1)] [] x.2) ?_
  intro x o out h hk hx
  unfold f_Sc_eraseOtherRows_l22 at h
  refine zr_load ⟨_, dX8_eraseOtherRows_22, rfl⟩ rfl ?_
  refine zr_aload ⟨_, dX8_eraseOtherRows_23, rfl⟩ rfl ?_
  refine zt_get dX8_eraseOtherRows_24 fl_X8_62 rfl rfl ?_
  refine zr_ic_ge (tgt := 77) dX8_eraseOtherRows_27 (by decide) (fun hc1 => ?_) (fun hc1 => ?_)
  · replace h := zpos h hc1
    refine zr_mask [false, false, false, false] rfl ?_
    obtain rfl := Option.some.inj h
    obtain rfl := hk
    exact hx
  · replace h := zneg h hc1
    refine zr_load ⟨_, dX8_eraseOtherRows_30, rfl⟩ rfl ?_
    refine zr_iconst dX8_eraseOtherRows_31 (by decide) ?_
    refine zr_ic_eq (tgt := 66) dX8_eraseOtherRows_32 (by decide) (fun hc2 => ?_) (fun hc2 => ?_)
    · replace h := zpos h hc2
      refine zr_aload ⟨_, dX8_eraseOtherRows_66, rfl⟩ rfl ?_
      refine zr_load ⟨_, dX8_eraseOtherRows_67, rfl⟩ rfl ?_
      obtain ⟨x3, hx3, h⟩ := zbind h
      refine zt_callv (t_Pi_clearRow hx3) (zrun_V (rest := []) dX8_eraseOtherRows_68 ml_X8_280 rfl rfl (by decide) (by decide) rfl (Nat.le_of_ble_eq_true rfl)) rfl rfl sb_TSc_TPi_2 (Nat.le_refl _) (Nat.le_refl _) ?_
      refine zr_iinc dX8_eraseOtherRows_71 rfl (by decide) rfl ?_
      refine zr_goto (tgt := 22) dX8_eraseOtherRows_74 (by decide) ?_
      obtain rfl := Option.some.inj h
      exact hk hx
    · replace h := zneg h hc2
      refine zr_load ⟨_, dX8_eraseOtherRows_35, rfl⟩ rfl ?_
      refine zr_if_ne (tgt := 50) dX8_eraseOtherRows_36 (by decide) (fun hc4 => ?_) (fun hc4 => ?_)
      · replace h := zpos h hc4
        refine zr_load ⟨_, dX8_eraseOtherRows_50, rfl⟩ rfl ?_
        refine zr_iconst dX8_eraseOtherRows_51 (by decide) ?_
        refine zr_ic_ne (tgt := 71) dX8_eraseOtherRows_52 (by decide) (fun hc5 => ?_) (fun hc5 => ?_)
        · replace h := zpos h hc5
          refine zr_iinc dX8_eraseOtherRows_71 rfl (by decide) rfl ?_
          refine zr_goto (tgt := 22) dX8_eraseOtherRows_74 (by decide) ?_
          obtain rfl := Option.some.inj h
          exact hk hx
        · replace h := zneg h hc5
          refine zr_load ⟨_, dX8_eraseOtherRows_55, rfl⟩ rfl ?_
          refine zr_aload ⟨_, dX8_eraseOtherRows_56, rfl⟩ rfl ?_
          refine zt_getr dX8_eraseOtherRows_57 fl_X8_21 rfl rfl ?_
          refine zt_get dX8_eraseOtherRows_60 fl_X8_82 rfl rfl ?_
          refine zr_ic_ge (tgt := 71) dX8_eraseOtherRows_63 (by decide) (fun hc6 => ?_) (fun hc6 => ?_)
          · replace h := zpos h hc6
            refine zr_iinc dX8_eraseOtherRows_71 rfl (by decide) rfl ?_
            refine zr_goto (tgt := 22) dX8_eraseOtherRows_74 (by decide) ?_
            obtain rfl := Option.some.inj h
            exact hk hx
          · replace h := zneg h hc6
            refine zr_aload ⟨_, dX8_eraseOtherRows_66, rfl⟩ rfl ?_
            refine zr_load ⟨_, dX8_eraseOtherRows_67, rfl⟩ rfl ?_
            obtain ⟨x7, hx7, h⟩ := zbind h
            refine zt_callv (t_Pi_clearRow hx7) (zrun_V (rest := []) dX8_eraseOtherRows_68 ml_X8_280 rfl rfl (by decide) (by decide) rfl (Nat.le_of_ble_eq_true rfl)) rfl rfl sb_TSc_TPi_2 (Nat.le_refl _) (Nat.le_refl _) ?_
            refine zr_iinc dX8_eraseOtherRows_71 rfl (by decide) rfl ?_
            refine zr_goto (tgt := 22) dX8_eraseOtherRows_74 (by decide) ?_
            obtain rfl := Option.some.inj h
            exact hk hx
      · replace h := zneg h hc4
        refine zr_load ⟨_, dX8_eraseOtherRows_39, rfl⟩ rfl ?_
        refine zr_aload ⟨_, dX8_eraseOtherRows_40, rfl⟩ rfl ?_
        refine zt_getr dX8_eraseOtherRows_41 fl_X8_21 rfl rfl ?_
        refine zt_get dX8_eraseOtherRows_44 fl_X8_82 rfl rfl ?_
        refine zr_ic_gt (tgt := 66) dX8_eraseOtherRows_47 (by decide) (fun hc8 => ?_) (fun hc8 => ?_)
        · replace h := zpos h hc8
          refine zr_aload ⟨_, dX8_eraseOtherRows_66, rfl⟩ rfl ?_
          refine zr_load ⟨_, dX8_eraseOtherRows_67, rfl⟩ rfl ?_
          obtain ⟨x9, hx9, h⟩ := zbind h
          refine zt_callv (t_Pi_clearRow hx9) (zrun_V (rest := []) dX8_eraseOtherRows_68 ml_X8_280 rfl rfl (by decide) (by decide) rfl (Nat.le_of_ble_eq_true rfl)) rfl rfl sb_TSc_TPi_2 (Nat.le_refl _) (Nat.le_refl _) ?_
          refine zr_iinc dX8_eraseOtherRows_71 rfl (by decide) rfl ?_
          refine zr_goto (tgt := 22) dX8_eraseOtherRows_74 (by decide) ?_
          obtain rfl := Option.some.inj h
          exact hk hx
        · replace h := zneg h hc8
          refine zr_load ⟨_, dX8_eraseOtherRows_50, rfl⟩ rfl ?_
          refine zr_iconst dX8_eraseOtherRows_51 (by decide) ?_
          refine zr_ic_ne (tgt := 71) dX8_eraseOtherRows_52 (by decide) (fun hc10 => ?_) (fun hc10 => ?_)
          · replace h := zpos h hc10
            refine zr_iinc dX8_eraseOtherRows_71 rfl (by decide) rfl ?_
            refine zr_goto (tgt := 22) dX8_eraseOtherRows_74 (by decide) ?_
            obtain rfl := Option.some.inj h
            exact hk hx
          · replace h := zneg h hc10
            refine zr_load ⟨_, dX8_eraseOtherRows_55, rfl⟩ rfl ?_
            refine zr_aload ⟨_, dX8_eraseOtherRows_56, rfl⟩ rfl ?_
            refine zt_getr dX8_eraseOtherRows_57 fl_X8_21 rfl rfl ?_
            refine zt_get dX8_eraseOtherRows_60 fl_X8_82 rfl rfl ?_
            refine zr_ic_ge (tgt := 71) dX8_eraseOtherRows_63 (by decide) (fun hc11 => ?_) (fun hc11 => ?_)
            · replace h := zpos h hc11
              refine zr_iinc dX8_eraseOtherRows_71 rfl (by decide) rfl ?_
              refine zr_goto (tgt := 22) dX8_eraseOtherRows_74 (by decide) ?_
              obtain rfl := Option.some.inj h
              exact hk hx
            · replace h := zneg h hc11
              refine zr_aload ⟨_, dX8_eraseOtherRows_66, rfl⟩ rfl ?_
              refine zr_load ⟨_, dX8_eraseOtherRows_67, rfl⟩ rfl ?_
              obtain ⟨x12, hx12, h⟩ := zbind h
              refine zt_callv (t_Pi_clearRow hx12) (zrun_V (rest := []) dX8_eraseOtherRows_68 ml_X8_280 rfl rfl (by decide) (by decide) rfl (Nat.le_of_ble_eq_true rfl)) rfl rfl sb_TSc_TPi_2 (Nat.le_refl _) (Nat.le_refl _) ?_
              refine zr_iinc dX8_eraseOtherRows_71 rfl (by decide) rfl ?_
              refine zr_goto (tgt := 22) dX8_eraseOtherRows_74 (by decide) ?_
              obtain rfl := Option.some.inj h
              exact hk hx
set_option maxRecDepth 100000 in
set_option maxHeartbeats 4000000 in
theorem t_Sc_eraseOtherRows_l22_1 {c1 : Int} {r : Option zAV} {s0 : zSt}  : ∀ (n : Nat) (x : Int × zSt) (out : zSt), zloop (f_Sc_eraseOtherRows_l22_1 c1) n x = some out → (zBT 4 m_X8_eraseOtherRows TSc r s0 77 [none, none, none, none] [] out) → zBT 4 m_X8_eraseOtherRows TSc r s0 22 [some (.inr (.inl (some 0))), some (.inl c1), some (.inr (.inl (some 22))), some (.inl x.1)] [] x.2 := by
  refine zloop_B (B := fun (x : Int × zSt) (out : zSt) => zBT 4 m_X8_eraseOtherRows TSc r s0 77 [none, none, none, none] [] out → zBT 4 m_X8_eraseOtherRows TSc r s0 22 [some (.inr (.inl (some 0))), some (.inl c1), some (.inr (.inl (some 22))), some (.inl x.1)] [] x.2) ?_
  intro x o out h hk hx
  unfold f_Sc_eraseOtherRows_l22_1 at h
  refine zr_load ⟨_, dX8_eraseOtherRows_22, rfl⟩ rfl ?_
  refine zr_aload ⟨_, dX8_eraseOtherRows_23, rfl⟩ rfl ?_
  refine zt_get dX8_eraseOtherRows_24 fl_X8_62 rfl rfl ?_
  refine zr_ic_ge (tgt := 77) dX8_eraseOtherRows_27 (by decide) (fun hc1 => ?_) (fun hc1 => ?_)
  · replace h := zpos h hc1
    refine zr_mask [false, false, false, false] rfl ?_
    obtain rfl := Option.some.inj h
    obtain rfl := hk
    exact hx
  · replace h := zneg h hc1
    refine zr_load ⟨_, dX8_eraseOtherRows_30, rfl⟩ rfl ?_
    refine zr_iconst dX8_eraseOtherRows_31 (by decide) ?_
    refine zr_ic_eq (tgt := 66) dX8_eraseOtherRows_32 (by decide) (fun hc2 => ?_) (fun hc2 => ?_)
    · replace h := zpos h hc2
      refine zr_aload ⟨_, dX8_eraseOtherRows_66, rfl⟩ rfl ?_
      refine zr_load ⟨_, dX8_eraseOtherRows_67, rfl⟩ rfl ?_
      obtain ⟨x3, hx3, h⟩ := zbind h
      refine zt_callv (t_Pi_clearRow hx3) (zrun_V (rest := []) dX8_eraseOtherRows_68 ml_X8_280 rfl rfl (by decide) (by decide) rfl (Nat.le_of_ble_eq_true rfl)) rfl rfl sb_TSc_TPi_22 (Nat.le_refl _) (Nat.le_refl _) ?_
      refine zr_iinc dX8_eraseOtherRows_71 rfl (by decide) rfl ?_
      refine zr_goto (tgt := 22) dX8_eraseOtherRows_74 (by decide) ?_
      obtain rfl := Option.some.inj h
      exact hk hx
    · replace h := zneg h hc2
      refine zr_load ⟨_, dX8_eraseOtherRows_35, rfl⟩ rfl ?_
      refine zr_if_ne (tgt := 50) dX8_eraseOtherRows_36 (by decide) (fun hc4 => ?_) (fun hc4 => ?_)
      · replace h := zpos h hc4
        refine zr_load ⟨_, dX8_eraseOtherRows_50, rfl⟩ rfl ?_
        refine zr_iconst dX8_eraseOtherRows_51 (by decide) ?_
        refine zr_ic_ne (tgt := 71) dX8_eraseOtherRows_52 (by decide) (fun hc5 => ?_) (fun hc5 => ?_)
        · replace h := zpos h hc5
          refine zr_iinc dX8_eraseOtherRows_71 rfl (by decide) rfl ?_
          refine zr_goto (tgt := 22) dX8_eraseOtherRows_74 (by decide) ?_
          obtain rfl := Option.some.inj h
          exact hk hx
        · replace h := zneg h hc5
          refine zr_load ⟨_, dX8_eraseOtherRows_55, rfl⟩ rfl ?_
          refine zr_aload ⟨_, dX8_eraseOtherRows_56, rfl⟩ rfl ?_
          refine zt_getr dX8_eraseOtherRows_57 fl_X8_21 rfl rfl ?_
          refine zt_get dX8_eraseOtherRows_60 fl_X8_82 rfl rfl ?_
          refine zr_ic_ge (tgt := 71) dX8_eraseOtherRows_63 (by decide) (fun hc6 => ?_) (fun hc6 => ?_)
          · replace h := zpos h hc6
            refine zr_iinc dX8_eraseOtherRows_71 rfl (by decide) rfl ?_
            refine zr_goto (tgt := 22) dX8_eraseOtherRows_74 (by decide) ?_
            obtain rfl := Option.some.inj h
            exact hk hx
          · replace h := zneg h hc6
            refine zr_aload ⟨_, dX8_eraseOtherRows_66, rfl⟩ rfl ?_
            refine zr_load ⟨_, dX8_eraseOtherRows_67, rfl⟩ rfl ?_
            obtain ⟨x7, hx7, h⟩ := zbind h
            refine zt_callv (t_Pi_clearRow hx7) (zrun_V (rest := []) dX8_eraseOtherRows_68 ml_X8_280 rfl rfl (by decide) (by decide) rfl (Nat.le_of_ble_eq_true rfl)) rfl rfl sb_TSc_TPi_22 (Nat.le_refl _) (Nat.le_refl _) ?_
            refine zr_iinc dX8_eraseOtherRows_71 rfl (by decide) rfl ?_
            refine zr_goto (tgt := 22) dX8_eraseOtherRows_74 (by decide) ?_
            obtain rfl := Option.some.inj h
            exact hk hx
      · replace h := zneg h hc4
        refine zr_load ⟨_, dX8_eraseOtherRows_39, rfl⟩ rfl ?_
        refine zr_aload ⟨_, dX8_eraseOtherRows_40, rfl⟩ rfl ?_
        refine zt_getr dX8_eraseOtherRows_41 fl_X8_21 rfl rfl ?_
        refine zt_get dX8_eraseOtherRows_44 fl_X8_82 rfl rfl ?_
        refine zr_ic_gt (tgt := 66) dX8_eraseOtherRows_47 (by decide) (fun hc8 => ?_) (fun hc8 => ?_)
        · replace h := zpos h hc8
          refine zr_aload ⟨_, dX8_eraseOtherRows_66, rfl⟩ rfl ?_
          refine zr_load ⟨_, dX8_eraseOtherRows_67, rfl⟩ rfl ?_
          obtain ⟨x9, hx9, h⟩ := zbind h
          refine zt_callv (t_Pi_clearRow hx9) (zrun_V (rest := []) dX8_eraseOtherRows_68 ml_X8_280 rfl rfl (by decide) (by decide) rfl (Nat.le_of_ble_eq_true rfl)) rfl rfl sb_TSc_TPi_22 (Nat.le_refl _) (Nat.le_refl _) ?_
          refine zr_iinc dX8_eraseOtherRows_71 rfl (by decide) rfl ?_
          refine zr_goto (tgt := 22) dX8_eraseOtherRows_74 (by decide) ?_
          obtain rfl := Option.some.inj h
          exact hk hx
        · replace h := zneg h hc8
          refine zr_load ⟨_, dX8_eraseOtherRows_50, rfl⟩ rfl ?_
          refine zr_iconst dX8_eraseOtherRows_51 (by decide) ?_
          refine zr_ic_ne (tgt := 71) dX8_eraseOtherRows_52 (by decide) (fun hc10 => ?_) (fun hc10 => ?_)
          · replace h := zpos h hc10
            refine zr_iinc dX8_eraseOtherRows_71 rfl (by decide) rfl ?_
            refine zr_goto (tgt := 22) dX8_eraseOtherRows_74 (by decide) ?_
            obtain rfl := Option.some.inj h
            exact hk hx
          · replace h := zneg h hc10
            refine zr_load ⟨_, dX8_eraseOtherRows_55, rfl⟩ rfl ?_
            refine zr_aload ⟨_, dX8_eraseOtherRows_56, rfl⟩ rfl ?_
            refine zt_getr dX8_eraseOtherRows_57 fl_X8_21 rfl rfl ?_
            refine zt_get dX8_eraseOtherRows_60 fl_X8_82 rfl rfl ?_
            refine zr_ic_ge (tgt := 71) dX8_eraseOtherRows_63 (by decide) (fun hc11 => ?_) (fun hc11 => ?_)
            · replace h := zpos h hc11
              refine zr_iinc dX8_eraseOtherRows_71 rfl (by decide) rfl ?_
              refine zr_goto (tgt := 22) dX8_eraseOtherRows_74 (by decide) ?_
              obtain rfl := Option.some.inj h
              exact hk hx
            · replace h := zneg h hc11
              refine zr_aload ⟨_, dX8_eraseOtherRows_66, rfl⟩ rfl ?_
              refine zr_load ⟨_, dX8_eraseOtherRows_67, rfl⟩ rfl ?_
              obtain ⟨x12, hx12, h⟩ := zbind h
              refine zt_callv (t_Pi_clearRow hx12) (zrun_V (rest := []) dX8_eraseOtherRows_68 ml_X8_280 rfl rfl (by decide) (by decide) rfl (Nat.le_of_ble_eq_true rfl)) rfl rfl sb_TSc_TPi_22 (Nat.le_refl _) (Nat.le_refl _) ?_
              refine zr_iinc dX8_eraseOtherRows_71 rfl (by decide) rfl ?_
              refine zr_goto (tgt := 22) dX8_eraseOtherRows_74 (by decide) ?_
              obtain rfl := Option.some.inj h
              exact hk hx
set_option maxRecDepth 100000 in
set_option maxHeartbeats 4000000 in
theorem t_Sc_eraseOtherRows_j15 {v1 : Int} {s : zSt} {res : Int × zSt} (h : f_Sc_eraseOtherRows_j15 v1 s = some res) : zBT 4 m_X8_eraseOtherRows TSc none res.2 15 [some (.inr (.inl (some 0))), some (.inl v1), none, none] [] s := by
  unfold f_Sc_eraseOtherRows_j15 at h
  refine zr_aload ⟨_, dX8_eraseOtherRows_15, rfl⟩ rfl ?_
  by_cases hc1 : s.1 0 8 = 0
  · replace h := zpos h hc1
    refine zt_callirs (t_Sc_shown0 hc1) (zrun_V (rest := []) dX8_eraseOtherRows_16 ml_X8_138 rfl rfl (by decide) (by decide) rfl (Nat.le_of_ble_eq_true rfl)) rfl rfl (Nat.le_refl _) (Nat.le_refl _) ?_
    refine zr_astore ⟨_, dX8_eraseOtherRows_19, rfl⟩ (by decide) rfl ?_
    refine zr_iconst dX8_eraseOtherRows_20 (by decide) ?_
    refine zr_store ⟨_, dX8_eraseOtherRows_21, rfl⟩ (by decide) rfl ?_
    obtain ⟨y2, hy2, h⟩ := zbind h
    refine t_Sc_eraseOtherRows_l22 _ _ _ hy2 ?_
    obtain rfl := Option.some.inj h
    exact zt_vret dX8_eraseOtherRows_77 rfl
  · replace h := zneg h hc1
    refine zt_callirs (t_Sc_shown1 hc1) (zrun_V (rest := []) dX8_eraseOtherRows_16 ml_X8_138 rfl rfl (by decide) (by decide) rfl (Nat.le_of_ble_eq_true rfl)) rfl rfl (Nat.le_refl _) (Nat.le_refl _) ?_
    refine zr_astore ⟨_, dX8_eraseOtherRows_19, rfl⟩ (by decide) rfl ?_
    refine zr_iconst dX8_eraseOtherRows_20 (by decide) ?_
    refine zr_store ⟨_, dX8_eraseOtherRows_21, rfl⟩ (by decide) rfl ?_
    obtain ⟨y3, hy3, h⟩ := zbind h
    refine t_Sc_eraseOtherRows_l22_1 _ _ _ hy3 ?_
    obtain rfl := Option.some.inj h
    exact zt_vret dX8_eraseOtherRows_77 rfl
set_option maxRecDepth 100000 in
set_option maxHeartbeats 4000000 in
theorem t_Sc_eraseOtherRows {a1 : Int} {s : zSt} {res : Int × zSt} (h : f_Sc_eraseOtherRows a1 s = some res) : zSpecT 4 m_X8_eraseOtherRows [.inr (.inl (some 0)), .inl a1] TSc s none res.2 := by
  refine zSpec_of (by decide +kernel) (Nat.le_of_ble_eq_true rfl) ?_
  show zBT 4 m_X8_eraseOtherRows TSc none res.2 0 [some (.inr (.inl (some 0))), some (.inl a1), none, none] [] s
  unfold f_Sc_eraseOtherRows at h
  refine zr_load ⟨_, dX8_eraseOtherRows_0, rfl⟩ rfl ?_
  refine zr_iconst dX8_eraseOtherRows_1 (by decide) ?_
  refine zr_ic_ne (tgt := 15) dX8_eraseOtherRows_2 (by decide) (fun hc1 => ?_) (fun hc1 => ?_)
  · replace h := zpos h hc1
    exact t_Sc_eraseOtherRows_j15 h
  · replace h := zneg h hc1
    refine zr_aload ⟨_, dX8_eraseOtherRows_5, rfl⟩ rfl ?_
    refine zt_getr dX8_eraseOtherRows_6 fl_X8_12 rfl rfl ?_
    refine zt_getr dX8_eraseOtherRows_9 fl_X8_100 rfl rfl ?_
    obtain ⟨x2, hx2, h⟩ := zbind h
    refine zt_callv (t_Hi_clear hx2) (zrun_V (rest := []) dX8_eraseOtherRows_12 ml_X8_279 rfl rfl (by decide) (by decide) rfl (Nat.le_of_ble_eq_true rfl)) rfl rfl sb_TSc_THi_5 (Nat.le_refl _) (Nat.le_refl _) ?_
    exact t_Sc_eraseOtherRows_j15 h
set_option maxRecDepth 100000 in
set_option maxHeartbeats 4000000 in
theorem t_Sc_eraseRow {a1 : Int} {s : zSt} {res : Int × zSt} (h : f_Sc_eraseRow a1 s = some res) : zSpecT 4 m_X8_eraseRow [.inr (.inl (some 0)), .inl a1] TSc s none res.2 := by
  refine zSpec_of (by decide +kernel) (Nat.le_of_ble_eq_true rfl) ?_
  show zBT 4 m_X8_eraseRow TSc none res.2 0 [some (.inr (.inl (some 0))), some (.inl a1), none, none] [] s
  unfold f_Sc_eraseRow at h
  refine zr_load ⟨_, dX8_eraseRow_0, rfl⟩ rfl ?_
  refine zr_if_lt (tgt := 9) dX8_eraseRow_1 (by decide) (fun hc1 => ?_) (fun hc1 => ?_)
  · replace h := zpos h hc1
    obtain rfl := Option.some.inj h
    exact zt_vret dX8_eraseRow_9 rfl
  · replace h := zneg h hc1
    refine zr_load ⟨_, dX8_eraseRow_4, rfl⟩ rfl ?_
    refine zr_iconst dX8_eraseRow_5 (by decide) ?_
    refine zr_ic_le (tgt := 10) dX8_eraseRow_6 (by decide) (fun hc2 => ?_) (fun hc2 => ?_)
    · replace h := zpos h hc2
      refine zr_load ⟨_, dX8_eraseRow_10, rfl⟩ rfl ?_
      have hj3 : zBT 4 m_X8_eraseRow TSc none res.2 25 [some (.inr (.inl (some 0))), some (.inl a1), none, none] [.inl (if ¬ a1 = 0 then 0 else (s.1 12 1))] s := by
        refine zr_store ⟨_, dX8_eraseRow_25, rfl⟩ (by decide) rfl ?_
        refine zr_load ⟨_, dX8_eraseRow_26, rfl⟩ rfl ?_
        refine zr_iconst dX8_eraseRow_27 (by decide) ?_
        have hj5 : zBT 4 m_X8_eraseRow TSc none res.2 47 [some (.inr (.inl (some 0))), some (.inl a1), some (.inl (if ¬ a1 = 0 then 0 else (s.1 12 1))), none] [.inl (if ¬ a1 = 1 then (s.1 0 10) else (w32 ((s.1 12 1) + 1)))] s := by
          refine zr_store ⟨_, dX8_eraseRow_47, rfl⟩ (by decide) rfl ?_
          refine zr_aload ⟨_, dX8_eraseRow_48, rfl⟩ rfl ?_
          by_cases hc7 : s.1 0 8 = 0
          · replace h := zpos h hc7
            refine zt_callirs (t_Sc_shown0 hc7) (zrun_V (rest := []) dX8_eraseRow_49 ml_X8_138 rfl rfl (by decide) (by decide) rfl (Nat.le_of_ble_eq_true rfl)) rfl rfl (Nat.le_refl _) (Nat.le_refl _) ?_
            refine zr_aload ⟨_, dX8_eraseRow_52, rfl⟩ rfl ?_
            refine zt_getr dX8_eraseRow_53 fl_X8_21 rfl rfl ?_
            refine zt_get dX8_eraseRow_56 fl_X8_82 rfl rfl ?_
            refine zr_load ⟨_, dX8_eraseRow_59, rfl⟩ rfl ?_
            refine zr_load ⟨_, dX8_eraseRow_60, rfl⟩ rfl ?_
            obtain ⟨x8, hx8, h⟩ := zbind h
            refine zt_callv (t_Pi_erase hx8) (zrun_V (rest := []) dX8_eraseRow_61 ml_X8_149 rfl rfl (by decide) (by decide) rfl (Nat.le_of_ble_eq_true rfl)) rfl rfl sb_TSc_TPi_2 (Nat.le_refl _) (Nat.le_refl _) ?_
            refine zr_load ⟨_, dX8_eraseRow_64, rfl⟩ rfl ?_
            refine zr_aload ⟨_, dX8_eraseRow_65, rfl⟩ rfl ?_
            refine zt_get dX8_eraseRow_66 fl_X8_66 rfl rfl ?_
            refine zr_ic_lt (tgt := 87) dX8_eraseRow_69 (by decide) (fun hc9 => ?_) (fun hc9 => ?_)
            · replace h := zpos h hc9
              obtain rfl := Option.some.inj h
              exact zt_vret dX8_eraseRow_87 rfl
            · replace h := zneg h hc9
              refine zr_aload ⟨_, dX8_eraseRow_72, rfl⟩ rfl ?_
              by_cases hc10 : s.1 0 8 = 0
              · replace h := zpos h hc10
                refine zt_callirs (t_Sc_shown0 hc10) (zrun_V (rest := []) dX8_eraseRow_73 ml_X8_138 rfl rfl (by decide) (by decide) rfl (Nat.le_of_ble_eq_true rfl)) rfl rfl (Nat.le_refl _) (Nat.le_refl _) ?_
                refine zr_aload ⟨_, dX8_eraseRow_76, rfl⟩ rfl ?_
                refine zt_getr dX8_eraseRow_77 fl_X8_21 rfl rfl ?_
                refine zt_get dX8_eraseRow_80 fl_X8_82 rfl rfl ?_
                refine zr_iconst dX8_eraseRow_83 (by decide) ?_
                obtain ⟨x11, hx11, h⟩ := zbind h
                refine zt_callv (t_Pi_setGoing hx11) (zrun_V (rest := []) dX8_eraseRow_84 ml_X8_153 rfl rfl (by decide) (by decide) rfl (Nat.le_of_ble_eq_true rfl)) rfl rfl sb_TSc_TPi_2 (Nat.le_refl _) (Nat.le_refl _) ?_
                obtain rfl := Option.some.inj h
                exact zt_vret dX8_eraseRow_87 rfl
              · replace h := zneg h hc10
                refine zt_callirs (t_Sc_shown1 hc10) (zrun_V (rest := []) dX8_eraseRow_73 ml_X8_138 rfl rfl (by decide) (by decide) rfl (Nat.le_of_ble_eq_true rfl)) rfl rfl (Nat.le_refl _) (Nat.le_refl _) ?_
                refine zr_aload ⟨_, dX8_eraseRow_76, rfl⟩ rfl ?_
                refine zt_getr dX8_eraseRow_77 fl_X8_21 rfl rfl ?_
                refine zt_get dX8_eraseRow_80 fl_X8_82 rfl rfl ?_
                refine zr_iconst dX8_eraseRow_83 (by decide) ?_
                obtain ⟨x12, hx12, h⟩ := zbind h
                refine zt_callv (t_Pi_setGoing hx12) (zrun_V (rest := []) dX8_eraseRow_84 ml_X8_153 rfl rfl (by decide) (by decide) rfl (Nat.le_of_ble_eq_true rfl)) rfl rfl sb_TSc_TPi_22 (Nat.le_refl _) (Nat.le_refl _) ?_
                obtain rfl := Option.some.inj h
                exact zt_vret dX8_eraseRow_87 rfl
          · replace h := zneg h hc7
            refine zt_callirs (t_Sc_shown1 hc7) (zrun_V (rest := []) dX8_eraseRow_49 ml_X8_138 rfl rfl (by decide) (by decide) rfl (Nat.le_of_ble_eq_true rfl)) rfl rfl (Nat.le_refl _) (Nat.le_refl _) ?_
            refine zr_aload ⟨_, dX8_eraseRow_52, rfl⟩ rfl ?_
            refine zt_getr dX8_eraseRow_53 fl_X8_21 rfl rfl ?_
            refine zt_get dX8_eraseRow_56 fl_X8_82 rfl rfl ?_
            refine zr_load ⟨_, dX8_eraseRow_59, rfl⟩ rfl ?_
            refine zr_load ⟨_, dX8_eraseRow_60, rfl⟩ rfl ?_
            obtain ⟨x13, hx13, h⟩ := zbind h
            refine zt_callv (t_Pi_erase hx13) (zrun_V (rest := []) dX8_eraseRow_61 ml_X8_149 rfl rfl (by decide) (by decide) rfl (Nat.le_of_ble_eq_true rfl)) rfl rfl sb_TSc_TPi_22 (Nat.le_refl _) (Nat.le_refl _) ?_
            refine zr_load ⟨_, dX8_eraseRow_64, rfl⟩ rfl ?_
            refine zr_aload ⟨_, dX8_eraseRow_65, rfl⟩ rfl ?_
            refine zt_get dX8_eraseRow_66 fl_X8_66 rfl rfl ?_
            refine zr_ic_lt (tgt := 87) dX8_eraseRow_69 (by decide) (fun hc14 => ?_) (fun hc14 => ?_)
            · replace h := zpos h hc14
              obtain rfl := Option.some.inj h
              exact zt_vret dX8_eraseRow_87 rfl
            · replace h := zneg h hc14
              refine zr_aload ⟨_, dX8_eraseRow_72, rfl⟩ rfl ?_
              by_cases hc15 : s.1 0 8 = 0
              · replace h := zpos h hc15
                refine zt_callirs (t_Sc_shown0 hc15) (zrun_V (rest := []) dX8_eraseRow_73 ml_X8_138 rfl rfl (by decide) (by decide) rfl (Nat.le_of_ble_eq_true rfl)) rfl rfl (Nat.le_refl _) (Nat.le_refl _) ?_
                refine zr_aload ⟨_, dX8_eraseRow_76, rfl⟩ rfl ?_
                refine zt_getr dX8_eraseRow_77 fl_X8_21 rfl rfl ?_
                refine zt_get dX8_eraseRow_80 fl_X8_82 rfl rfl ?_
                refine zr_iconst dX8_eraseRow_83 (by decide) ?_
                obtain ⟨x16, hx16, h⟩ := zbind h
                refine zt_callv (t_Pi_setGoing hx16) (zrun_V (rest := []) dX8_eraseRow_84 ml_X8_153 rfl rfl (by decide) (by decide) rfl (Nat.le_of_ble_eq_true rfl)) rfl rfl sb_TSc_TPi_2 (Nat.le_refl _) (Nat.le_refl _) ?_
                obtain rfl := Option.some.inj h
                exact zt_vret dX8_eraseRow_87 rfl
              · replace h := zneg h hc15
                refine zt_callirs (t_Sc_shown1 hc15) (zrun_V (rest := []) dX8_eraseRow_73 ml_X8_138 rfl rfl (by decide) (by decide) rfl (Nat.le_of_ble_eq_true rfl)) rfl rfl (Nat.le_refl _) (Nat.le_refl _) ?_
                refine zr_aload ⟨_, dX8_eraseRow_76, rfl⟩ rfl ?_
                refine zt_getr dX8_eraseRow_77 fl_X8_21 rfl rfl ?_
                refine zt_get dX8_eraseRow_80 fl_X8_82 rfl rfl ?_
                refine zr_iconst dX8_eraseRow_83 (by decide) ?_
                obtain ⟨x17, hx17, h⟩ := zbind h
                refine zt_callv (t_Pi_setGoing hx17) (zrun_V (rest := []) dX8_eraseRow_84 ml_X8_153 rfl rfl (by decide) (by decide) rfl (Nat.le_of_ble_eq_true rfl)) rfl rfl sb_TSc_TPi_22 (Nat.le_refl _) (Nat.le_refl _) ?_
                obtain rfl := Option.some.inj h
                exact zt_vret dX8_eraseRow_87 rfl
        refine zr_ic_ne (tgt := 43) dX8_eraseRow_28 (by decide) (fun hc6 => ?_) (fun hc6 => ?_)
        · have hp18 := zif_t hj5 hc6
          refine zr_aload ⟨_, dX8_eraseRow_43, rfl⟩ rfl ?_
          refine zt_get dX8_eraseRow_44 fl_X8_66 rfl rfl ?_
          exact hp18
        · have hp19 := zif_f hj5 hc6
          refine zr_aload ⟨_, dX8_eraseRow_31, rfl⟩ rfl ?_
          refine zt_getr dX8_eraseRow_32 fl_X8_21 rfl rfl ?_
          refine zt_get dX8_eraseRow_35 fl_X8_85 rfl rfl ?_
          refine zr_iconst dX8_eraseRow_38 (by decide) ?_
          refine zr_iadd dX8_eraseRow_39 ?_
          refine zr_goto (tgt := 47) dX8_eraseRow_40 (by decide) ?_
          exact hp19
      refine zr_if_ne (tgt := 24) dX8_eraseRow_11 (by decide) (fun hc4 => ?_) (fun hc4 => ?_)
      · have hp20 := zif_t hj3 hc4
        refine zr_iconst dX8_eraseRow_24 (by decide) ?_
        exact hp20
      · have hp21 := zif_f hj3 hc4
        refine zr_aload ⟨_, dX8_eraseRow_14, rfl⟩ rfl ?_
        refine zt_getr dX8_eraseRow_15 fl_X8_21 rfl rfl ?_
        refine zt_get dX8_eraseRow_18 fl_X8_85 rfl rfl ?_
        refine zr_goto (tgt := 25) dX8_eraseRow_21 (by decide) ?_
        exact hp21
    · replace h := zneg h hc2
      obtain rfl := Option.some.inj h
      exact zt_vret dX8_eraseRow_9 rfl
set_option maxRecDepth 100000 in
set_option maxHeartbeats 4000000 in
theorem t_Sc_answer_j12 {v1 : Int} {s : zSt} {res : Int × zSt} (h : f_Sc_answer_j12 v1 s = some res) : zBT 4 m_X8_answer TSc none res.2 12 [some (.inr (.inl (some 0))), some (.inl v1), none] [] s := by
  unfold f_Sc_answer_j12 at h
  refine zr_aload ⟨_, dX8_answer_12, rfl⟩ rfl ?_
  refine zt_getr dX8_answer_13 fl_X8_44 rfl rfl ?_
  refine zr_bipush dX8_answer_16 (by decide) (by decide) ?_
  obtain ⟨x1, hx1, h⟩ := zbind h
  refine zt_calli (t_By_add hx1) (zrun_V (rest := []) dX8_answer_18 ml_X8_285 rfl rfl (by decide) (by decide) rfl (Nat.le_of_ble_eq_true rfl)) rfl rfl sb_TSc_TBy_20 (Nat.le_refl _) (Nat.le_refl _) ?_
  refine zr_pop dX8_answer_21 (Or.inr ⟨_, rfl⟩) ?_
  refine zr_aload ⟨_, dX8_answer_22, rfl⟩ rfl ?_
  refine zt_getr dX8_answer_23 fl_X8_44 rfl rfl ?_
  refine zr_bipush dX8_answer_26 (by decide) (by decide) ?_
  obtain ⟨x2, hx2, h⟩ := zbind h
  refine zt_calli (t_By_add hx2) (zrun_V (rest := []) dX8_answer_28 ml_X8_285 rfl rfl (by decide) (by decide) rfl (Nat.le_of_ble_eq_true rfl)) rfl rfl sb_TSc_TBy_20 (Nat.le_refl _) (Nat.le_refl _) ?_
  refine zr_pop dX8_answer_31 (Or.inr ⟨_, rfl⟩) ?_
  refine zr_load ⟨_, dX8_answer_32, rfl⟩ rfl ?_
  refine zr_iconst dX8_answer_33 (by decide) ?_
  refine zr_ic_ne (tgt := 58) dX8_answer_34 (by decide) (fun hc3 => ?_) (fun hc3 => ?_)
  · replace h := zpos h hc3
    refine zr_aload ⟨_, dX8_answer_58, rfl⟩ rfl ?_
    refine zt_getr dX8_answer_59 fl_X8_21 rfl rfl ?_
    refine zt_get dX8_answer_62 fl_X8_275 rfl rfl ?_
    have hj4 : zBT 4 m_X8_answer TSc none res.2 76 [some (.inr (.inl (some 0))), some (.inl v1), none] [.inl (if (s.1 12 4) = 0 then 0 else (s.1 0 12))] (zpb (zsh 20) 2 (zpb (zsh 20) 2 s x1.2) x2.2) := by
      refine zr_store ⟨_, dX8_answer_76, rfl⟩ (by decide) rfl ?_
      refine zr_aload ⟨_, dX8_answer_77, rfl⟩ rfl ?_
      refine zt_getr dX8_answer_78 fl_X8_44 rfl rfl ?_
      refine zr_aload ⟨_, dX8_answer_81, rfl⟩ rfl ?_
      refine zt_getr dX8_answer_82 fl_X8_21 rfl rfl ?_
      refine zt_get dX8_answer_85 fl_X8_82 rfl rfl ?_
      refine zr_load ⟨_, dX8_answer_88, rfl⟩ rfl ?_
      refine zr_isub dX8_answer_89 ?_
      refine zr_iconst dX8_answer_90 (by decide) ?_
      refine zr_iadd dX8_answer_91 ?_
      refine zr_iconst dX8_answer_92 (by decide) ?_
      refine zr_max dX8_answer_93 ml_X8_110 (by decide) (Nat.le_refl _) (Nat.le_refl _) (Nat.le_of_ble_eq_true rfl) ?_
      obtain ⟨x6, hx6, h⟩ := zbind h
      refine zt_callv (t_By_addNumber hx6) (zrun_V (rest := []) dX8_answer_96 ml_X8_287 rfl rfl (by decide) (by decide) rfl (Nat.le_of_ble_eq_true rfl)) rfl rfl sb_TSc_TBy_20 (Nat.le_refl _) (Nat.le_refl _) ?_
      refine zr_aload ⟨_, dX8_answer_99, rfl⟩ rfl ?_
      refine zt_getr dX8_answer_100 fl_X8_44 rfl rfl ?_
      refine zr_bipush dX8_answer_103 (by decide) (by decide) ?_
      obtain ⟨x7, hx7, h⟩ := zbind h
      refine zt_calli (t_By_add hx7) (zrun_V (rest := []) dX8_answer_105 ml_X8_285 rfl rfl (by decide) (by decide) rfl (Nat.le_of_ble_eq_true rfl)) rfl rfl sb_TSc_TBy_20 (Nat.le_refl _) (Nat.le_refl _) ?_
      refine zr_pop dX8_answer_108 (Or.inr ⟨_, rfl⟩) ?_
      refine zr_aload ⟨_, dX8_answer_109, rfl⟩ rfl ?_
      refine zt_getr dX8_answer_110 fl_X8_44 rfl rfl ?_
      refine zr_aload ⟨_, dX8_answer_113, rfl⟩ rfl ?_
      refine zt_getr dX8_answer_114 fl_X8_21 rfl rfl ?_
      refine zt_get dX8_answer_117 fl_X8_85 rfl rfl ?_
      refine zr_iconst dX8_answer_120 (by decide) ?_
      refine zr_iadd dX8_answer_121 ?_
      obtain ⟨x8, hx8, h⟩ := zbind h
      refine zt_callv (t_By_addNumber hx8) (zrun_V (rest := []) dX8_answer_122 ml_X8_287 rfl rfl (by decide) (by decide) rfl (Nat.le_of_ble_eq_true rfl)) rfl rfl sb_TSc_TBy_20 (Nat.le_refl _) (Nat.le_refl _) ?_
      refine zr_aload ⟨_, dX8_answer_125, rfl⟩ rfl ?_
      refine zt_getr dX8_answer_126 fl_X8_44 rfl rfl ?_
      refine zr_bipush dX8_answer_129 (by decide) (by decide) ?_
      obtain ⟨x9, hx9, h⟩ := zbind h
      refine zt_calli (t_By_add hx9) (zrun_V (rest := []) dX8_answer_131 ml_X8_285 rfl rfl (by decide) (by decide) rfl (Nat.le_of_ble_eq_true rfl)) rfl rfl sb_TSc_TBy_20 (Nat.le_refl _) (Nat.le_refl _) ?_
      refine zr_pop dX8_answer_134 (Or.inr ⟨_, rfl⟩) ?_
      obtain rfl := Option.some.inj h
      exact zt_vret dX8_answer_135 rfl
    refine zr_if_eq (tgt := 75) dX8_answer_65 (by decide) (fun hc5 => ?_) (fun hc5 => ?_)
    · have hp10 := zif_t hj4 hc5
      refine zr_iconst dX8_answer_75 (by decide) ?_
      exact hp10
    · have hp11 := zif_f hj4 hc5
      refine zr_aload ⟨_, dX8_answer_68, rfl⟩ rfl ?_
      refine zt_get dX8_answer_69 fl_X8_97 rfl rfl ?_
      refine zr_goto (tgt := 76) dX8_answer_72 (by decide) ?_
      exact hp11
  · replace h := zneg h hc3
    refine zr_aload ⟨_, dX8_answer_37, rfl⟩ rfl ?_
    refine zt_getr dX8_answer_38 fl_X8_44 rfl rfl ?_
    refine zr_bipush dX8_answer_41 (by decide) (by decide) ?_
    obtain ⟨x12, hx12, h⟩ := zbind h
    refine zt_calli (t_By_add hx12) (zrun_V (rest := []) dX8_answer_43 ml_X8_285 rfl rfl (by decide) (by decide) rfl (Nat.le_of_ble_eq_true rfl)) rfl rfl sb_TSc_TBy_20 (Nat.le_refl _) (Nat.le_refl _) ?_
    refine zr_pop dX8_answer_46 (Or.inr ⟨_, rfl⟩) ?_
    refine zr_aload ⟨_, dX8_answer_47, rfl⟩ rfl ?_
    refine zt_getr dX8_answer_48 fl_X8_44 rfl rfl ?_
    refine zr_bipush dX8_answer_51 (by decide) (by decide) ?_
    obtain ⟨x13, hx13, h⟩ := zbind h
    refine zt_calli (t_By_add hx13) (zrun_V (rest := []) dX8_answer_53 ml_X8_285 rfl rfl (by decide) (by decide) rfl (Nat.le_of_ble_eq_true rfl)) rfl rfl sb_TSc_TBy_20 (Nat.le_refl _) (Nat.le_refl _) ?_
    refine zr_pop dX8_answer_56 (Or.inr ⟨_, rfl⟩) ?_
    obtain rfl := Option.some.inj h
    exact zt_vret dX8_answer_57 rfl
set_option maxRecDepth 100000 in
set_option maxHeartbeats 4000000 in
theorem t_Sc_answer {a1 : Int} {s : zSt} {res : Int × zSt} (h : f_Sc_answer a1 s = some res) : zSpecT 4 m_X8_answer [.inr (.inl (some 0)), .inl a1] TSc s none res.2 := by
  refine zSpec_of (by decide +kernel) (Nat.le_of_ble_eq_true rfl) ?_
  show zBT 4 m_X8_answer TSc none res.2 0 [some (.inr (.inl (some 0))), some (.inl a1), none] [] s
  unfold f_Sc_answer at h
  refine zr_load ⟨_, dX8_answer_0, rfl⟩ rfl ?_
  refine zr_iconst dX8_answer_1 (by decide) ?_
  refine zr_ic_eq (tgt := 12) dX8_answer_2 (by decide) (fun hc1 => ?_) (fun hc1 => ?_)
  · replace h := zpos h hc1
    exact t_Sc_answer_j12 h
  · replace h := zneg h hc1
    refine zr_load ⟨_, dX8_answer_5, rfl⟩ rfl ?_
    refine zr_bipush dX8_answer_6 (by decide) (by decide) ?_
    refine zr_ic_eq (tgt := 12) dX8_answer_8 (by decide) (fun hc2 => ?_) (fun hc2 => ?_)
    · replace h := zpos h hc2
      exact t_Sc_answer_j12 h
    · replace h := zneg h hc2
      obtain rfl := Option.some.inj h
      exact zt_vret dX8_answer_11 rfl
set_option maxRecDepth 100000 in
set_option maxHeartbeats 4000000 in
theorem t_Sc_scrollUp_j87 {v1 v2 v5 : Int} {s : zSt} {res : Int × zSt} (h : f_Sc_scrollUp_j87 v1 v2 v5 s = some res) : zBT 5 m_X8_scrollUp TSc none res.2 87 [some (.inr (.inl (some 0))), some (.inl v1), some (.inl v2), none, some (.inr (.inl (some 2))), some (.inl v5), none] [] s := by
  unfold f_Sc_scrollUp_j87 at h
  refine zr_aloadw dX8_scrollUp_87 rfl ?_
  refine zr_load ⟨_, dX8_scrollUp_89, rfl⟩ rfl ?_
  refine zr_load ⟨_, dX8_scrollUp_90, rfl⟩ rfl ?_
  obtain ⟨x1, hx1, h⟩ := zbind h
  refine zt_callv (t_Pi_moveUp hx1) (zrun_V (rest := []) dX8_scrollUp_91 ml_X8_200 rfl rfl (by decide) (by decide) rfl (Nat.le_of_ble_eq_true rfl)) rfl rfl sb_TSc_TPi_2 (Nat.le_refl _) (Nat.le_refl _) ?_
  refine zr_loadw dX8_scrollUp_94 rfl ?_
  refine zr_if_ne (tgt := 104) dX8_scrollUp_96 (by decide) (fun hc2 => ?_) (fun hc2 => ?_)
  · replace h := zpos h hc2
    obtain rfl := Option.some.inj h
    exact zt_vret dX8_scrollUp_104 rfl
  · replace h := zneg h hc2
    refine zr_aload ⟨_, dX8_scrollUp_99, rfl⟩ rfl ?_
    refine zr_load ⟨_, dX8_scrollUp_100, rfl⟩ rfl ?_
    obtain ⟨x3, hx3, h⟩ := zbind h
    refine zt_calliv (t_Sc_endAbove hx3) (zrun_V (rest := []) dX8_scrollUp_101 ml_X8_203 rfl rfl (by decide) (by decide) rfl (Nat.le_of_ble_eq_true rfl)) rfl rfl (Nat.le_refl _) (Nat.le_refl _) ?_
    obtain rfl := Option.some.inj h
    exact zt_vret dX8_scrollUp_104 rfl
set_option maxRecDepth 100000 in
set_option maxHeartbeats 4000000 in
theorem t_Sc_scrollUp_l52 {c1 c2 c5 : Int} {r : Option zAV} {s0 : zSt}  : ∀ (n : Nat) (x : Int × zSt) (out : zSt), zloop (f_Sc_scrollUp_l52 c1 c2 c5) n x = some out → (zBT 5 m_X8_scrollUp TSc r s0 87 [some (.inr (.inl (some 0))), some (.inl c1), some (.inl c2), none, some (.inr (.inl (some 2))), some (.inl c5), none] [] out) → zBT 5 m_X8_scrollUp TSc r s0 52 [some (.inr (.inl (some 0))), some (.inl c1), some (.inl c2), none, some (.inr (.inl (some 2))), some (.inl c5), some (.inl x.1)] [] x.2 := by
  refine zloop_B (B := fun (x : Int × zSt) (out : zSt) => zBT 5 m_X8_scrollUp TSc r s0 87 [some (.inr (.inl (some 0))), some (.inl c1), some (.inl c2), none, some (.inr (.inl (some 2))), some (.inl c5), none] [] out → zBT 5 m_X8_scrollUp TSc r s0 52 [some (.inr (.inl (some 0))), some (.inl c1), some (.inl c2), none, some (.inr (.inl (some 2))), some (.inl c5), some (.inl x.1)] [] x.2) ?_
  intro x o out h hk hx
  unfold f_Sc_scrollUp_l52 at h
  refine zr_loadw dX8_scrollUp_52 rfl ?_
  refine zr_aload ⟨_, dX8_scrollUp_54, rfl⟩ rfl ?_
  refine zt_get dX8_scrollUp_55 fl_X8_66 rfl rfl ?_
  refine zr_ic_ge (tgt := 87) dX8_scrollUp_58 (by decide) (fun hc1 => ?_) (fun hc1 => ?_)
  · replace h := zpos h hc1
    refine zr_mask [true, true, true, false, true, true, false] rfl ?_
    obtain rfl := Option.some.inj h
    obtain rfl := hk
    exact hx
  · replace h := zneg h hc1
    refine zr_aload ⟨_, dX8_scrollUp_61, rfl⟩ rfl ?_
    refine zt_getr dX8_scrollUp_62 fl_X8_12 rfl rfl ?_
    refine zt_getr dX8_scrollUp_65 fl_X8_100 rfl rfl ?_
    refine zr_loadw dX8_scrollUp_68 rfl ?_
    refine zr_aloadw dX8_scrollUp_70 rfl ?_
    refine zr_iconst dX8_scrollUp_72 (by decide) ?_
    refine zr_loadw dX8_scrollUp_73 rfl ?_
    obtain ⟨x2, hx2, h⟩ := zbind h
    refine zt_callis (t_Pi_at hx2) (zrun_V (rest := [.inl x.1, .inr (.inl (some 5))]) dX8_scrollUp_75 ml_X8_172 rfl rfl (by decide) (by decide) rfl (Nat.le_of_ble_eq_true rfl)) rfl rfl sb_TSc_TPi_2 (Nat.le_refl _) (Nat.le_refl _) ?_
    obtain ⟨x3, hx3, h⟩ := zbind h
    refine zt_callv (t_Hi_putLatest hx3) (zrun_V (rest := []) dX8_scrollUp_78 ml_X8_196 rfl rfl (by decide) (by decide) rfl (Nat.le_of_ble_eq_true rfl)) rfl rfl sb_TSc_THi_5 (Nat.le_refl _) (Nat.le_refl _) ?_
    refine zr_iinc dX8_scrollUp_81 rfl (by decide) rfl ?_
    refine zr_goto (tgt := 52) dX8_scrollUp_84 (by decide) ?_
    obtain rfl := Option.some.inj h
    exact hk hx
set_option maxRecDepth 100000 in
set_option maxHeartbeats 4000000 in
theorem t_Sc_scrollUp_j87_1 {v1 v2 v5 : Int} {s : zSt} {res : Int × zSt} (h : f_Sc_scrollUp_j87_1 v1 v2 v5 s = some res) : zBT 5 m_X8_scrollUp TSc none res.2 87 [some (.inr (.inl (some 0))), some (.inl v1), some (.inl v2), none, some (.inr (.inl (some 22))), some (.inl v5), none] [] s := by
  unfold f_Sc_scrollUp_j87_1 at h
  refine zr_aloadw dX8_scrollUp_87 rfl ?_
  refine zr_load ⟨_, dX8_scrollUp_89, rfl⟩ rfl ?_
  refine zr_load ⟨_, dX8_scrollUp_90, rfl⟩ rfl ?_
  obtain ⟨x1, hx1, h⟩ := zbind h
  refine zt_callv (t_Pi_moveUp hx1) (zrun_V (rest := []) dX8_scrollUp_91 ml_X8_200 rfl rfl (by decide) (by decide) rfl (Nat.le_of_ble_eq_true rfl)) rfl rfl sb_TSc_TPi_22 (Nat.le_refl _) (Nat.le_refl _) ?_
  refine zr_loadw dX8_scrollUp_94 rfl ?_
  refine zr_if_ne (tgt := 104) dX8_scrollUp_96 (by decide) (fun hc2 => ?_) (fun hc2 => ?_)
  · replace h := zpos h hc2
    obtain rfl := Option.some.inj h
    exact zt_vret dX8_scrollUp_104 rfl
  · replace h := zneg h hc2
    refine zr_aload ⟨_, dX8_scrollUp_99, rfl⟩ rfl ?_
    refine zr_load ⟨_, dX8_scrollUp_100, rfl⟩ rfl ?_
    obtain ⟨x3, hx3, h⟩ := zbind h
    refine zt_calliv (t_Sc_endAbove hx3) (zrun_V (rest := []) dX8_scrollUp_101 ml_X8_203 rfl rfl (by decide) (by decide) rfl (Nat.le_of_ble_eq_true rfl)) rfl rfl (Nat.le_refl _) (Nat.le_refl _) ?_
    obtain rfl := Option.some.inj h
    exact zt_vret dX8_scrollUp_104 rfl
set_option maxRecDepth 100000 in
set_option maxHeartbeats 4000000 in
theorem t_Sc_scrollUp_l52_1 {c1 c2 c5 : Int} {r : Option zAV} {s0 : zSt}  : ∀ (n : Nat) (x : Int × zSt) (out : zSt), zloop (f_Sc_scrollUp_l52_1 c1 c2 c5) n x = some out → (zBT 5 m_X8_scrollUp TSc r s0 87 [some (.inr (.inl (some 0))), some (.inl c1), some (.inl c2), none, some (.inr (.inl (some 22))), some (.inl c5), none] [] out) → zBT 5 m_X8_scrollUp TSc r s0 52 [some (.inr (.inl (some 0))), some (.inl c1), some (.inl c2), none, some (.inr (.inl (some 22))), some (.inl c5), some (.inl x.1)] [] x.2 := by
  refine zloop_B (B := fun (x : Int × zSt) (out : zSt) => zBT 5 m_X8_scrollUp TSc r s0 87 [some (.inr (.inl (some 0))), some (.inl c1), some (.inl c2), none, some (.inr (.inl (some 22))), some (.inl c5), none] [] out → zBT 5 m_X8_scrollUp TSc r s0 52 [some (.inr (.inl (some 0))), some (.inl c1), some (.inl c2), none, some (.inr (.inl (some 22))), some (.inl c5), some (.inl x.1)] [] x.2) ?_
  intro x o out h hk hx
  unfold f_Sc_scrollUp_l52_1 at h
  refine zr_loadw dX8_scrollUp_52 rfl ?_
  refine zr_aload ⟨_, dX8_scrollUp_54, rfl⟩ rfl ?_
  refine zt_get dX8_scrollUp_55 fl_X8_66 rfl rfl ?_
  refine zr_ic_ge (tgt := 87) dX8_scrollUp_58 (by decide) (fun hc1 => ?_) (fun hc1 => ?_)
  · replace h := zpos h hc1
    refine zr_mask [true, true, true, false, true, true, false] rfl ?_
    obtain rfl := Option.some.inj h
    obtain rfl := hk
    exact hx
  · replace h := zneg h hc1
    refine zr_aload ⟨_, dX8_scrollUp_61, rfl⟩ rfl ?_
    refine zt_getr dX8_scrollUp_62 fl_X8_12 rfl rfl ?_
    refine zt_getr dX8_scrollUp_65 fl_X8_100 rfl rfl ?_
    refine zr_loadw dX8_scrollUp_68 rfl ?_
    refine zr_aloadw dX8_scrollUp_70 rfl ?_
    refine zr_iconst dX8_scrollUp_72 (by decide) ?_
    refine zr_loadw dX8_scrollUp_73 rfl ?_
    obtain ⟨x2, hx2, h⟩ := zbind h
    refine zt_callis (t_Pi_at hx2) (zrun_V (rest := [.inl x.1, .inr (.inl (some 5))]) dX8_scrollUp_75 ml_X8_172 rfl rfl (by decide) (by decide) rfl (Nat.le_of_ble_eq_true rfl)) rfl rfl sb_TSc_TPi_22 (Nat.le_refl _) (Nat.le_refl _) ?_
    obtain ⟨x3, hx3, h⟩ := zbind h
    refine zt_callv (t_Hi_putLatest hx3) (zrun_V (rest := []) dX8_scrollUp_78 ml_X8_196 rfl rfl (by decide) (by decide) rfl (Nat.le_of_ble_eq_true rfl)) rfl rfl sb_TSc_THi_5 (Nat.le_refl _) (Nat.le_refl _) ?_
    refine zr_iinc dX8_scrollUp_81 rfl (by decide) rfl ?_
    refine zr_goto (tgt := 52) dX8_scrollUp_84 (by decide) ?_
    obtain rfl := Option.some.inj h
    exact hk hx
set_option maxRecDepth 100000 in
set_option maxHeartbeats 4000000 in
theorem t_Sc_scrollUp {a1 a2 a3 : Int} {s : zSt} {res : Int × zSt} (h : f_Sc_scrollUp a1 a2 a3 s = some res) : zSpecT 5 m_X8_scrollUp [.inr (.inl (some 0)), .inl a1, .inl a2, .inl a3] TSc s none res.2 := by
  refine zSpec_of (by decide +kernel) (Nat.le_of_ble_eq_true rfl) ?_
  show zBT 5 m_X8_scrollUp TSc none res.2 0 [some (.inr (.inl (some 0))), some (.inl a1), some (.inl a2), some (.inl a3), none, none, none] [] s
  unfold f_Sc_scrollUp at h
  refine zr_aload ⟨_, dX8_scrollUp_0, rfl⟩ rfl ?_
  by_cases hc1 : s.1 0 8 = 0
  · replace h := zpos h hc1
    refine zt_callirs (t_Sc_shown0 hc1) (zrun_V (rest := []) dX8_scrollUp_1 ml_X8_138 rfl rfl (by decide) (by decide) rfl (Nat.le_of_ble_eq_true rfl)) rfl rfl (Nat.le_refl _) (Nat.le_refl _) ?_
    refine zr_astorew dX8_scrollUp_4 (by decide) rfl ?_
    refine zr_load ⟨_, dX8_scrollUp_6, rfl⟩ rfl ?_
    have hj2 : zBT 5 m_X8_scrollUp TSc none res.2 26 [some (.inr (.inl (some 0))), some (.inl a1), some (.inl a2), some (.inl a3), some (.inr (.inl (some 2))), none, none] [.inl (if a3 = 0 then 0 else (if ¬ a1 = 0 then 0 else (if ¬ (s.1 0 8) = 0 then 0 else 1)))] s := by
      refine zr_storew dX8_scrollUp_26 (by decide) rfl ?_
      refine zr_loadw dX8_scrollUp_28 rfl ?_
      refine zr_if_eq (tgt := 87) dX8_scrollUp_30 (by decide) (fun hc4 => ?_) (fun hc4 => ?_)
      · replace h := zpos h hc4
        refine zr_mask [true, true, true, false, true, true, false] rfl ?_
        exact t_Sc_scrollUp_j87 h
      · replace h := zneg h hc4
        refine zr_aload ⟨_, dX8_scrollUp_33, rfl⟩ rfl ?_
        refine zt_getr dX8_scrollUp_34 fl_X8_12 rfl rfl ?_
        refine zt_getr dX8_scrollUp_37 fl_X8_100 rfl rfl ?_
        refine zr_aloadw dX8_scrollUp_40 rfl ?_
        refine zr_iconst dX8_scrollUp_42 (by decide) ?_
        obtain ⟨x5, hx5, h⟩ := zbind h
        refine zt_callis (t_Pi_isGoing hx5) (zrun_V (rest := [.inr (.inl (some 5))]) dX8_scrollUp_43 ml_X8_189 rfl rfl (by decide) (by decide) rfl (Nat.le_of_ble_eq_true rfl)) rfl rfl sb_TSc_TPi_2 (Nat.le_refl _) (Nat.le_refl _) ?_
        obtain ⟨x6, hx6, h⟩ := zbind h
        refine zt_callv (t_Hi_add hx6) (zrun_V (rest := []) dX8_scrollUp_46 ml_X8_192 rfl rfl (by decide) (by decide) rfl (Nat.le_of_ble_eq_true rfl)) rfl rfl sb_TSc_THi_5 (Nat.le_refl _) (Nat.le_refl _) ?_
        refine zr_iconst dX8_scrollUp_49 (by decide) ?_
        refine zr_storew dX8_scrollUp_50 (by decide) rfl ?_
        refine zr_mask [true, true, true, false, true, true, true] rfl ?_
        obtain ⟨y7, hy7, h⟩ := zbind h
        refine t_Sc_scrollUp_l52 _ _ _ hy7 ?_
        exact t_Sc_scrollUp_j87 h
    refine zr_if_eq (tgt := 25) dX8_scrollUp_7 (by decide) (fun hc3 => ?_) (fun hc3 => ?_)
    · have hp8 := zif_t hj2 hc3
      refine zr_iconst dX8_scrollUp_25 (by decide) ?_
      exact hp8
    · have hp9 := zif_f hj2 hc3
      refine zr_load ⟨_, dX8_scrollUp_10, rfl⟩ rfl ?_
      refine zr_if_ne (tgt := 25) dX8_scrollUp_11 (by decide) (fun hc10 => ?_) (fun hc10 => ?_)
      · have hp11 := zif_t hp9 hc10
        refine zr_iconst dX8_scrollUp_25 (by decide) ?_
        exact hp11
      · have hp12 := zif_f hp9 hc10
        refine zr_aload ⟨_, dX8_scrollUp_14, rfl⟩ rfl ?_
        refine zt_get dX8_scrollUp_15 fl_X8_75 rfl rfl ?_
        refine zr_if_ne (tgt := 25) dX8_scrollUp_18 (by decide) (fun hc13 => ?_) (fun hc13 => ?_)
        · have hp14 := zif_t hp12 hc13
          refine zr_iconst dX8_scrollUp_25 (by decide) ?_
          exact hp14
        · have hp15 := zif_f hp12 hc13
          refine zr_iconst dX8_scrollUp_21 (by decide) ?_
          refine zr_goto (tgt := 26) dX8_scrollUp_22 (by decide) ?_
          exact hp15
  · replace h := zneg h hc1
    refine zt_callirs (t_Sc_shown1 hc1) (zrun_V (rest := []) dX8_scrollUp_1 ml_X8_138 rfl rfl (by decide) (by decide) rfl (Nat.le_of_ble_eq_true rfl)) rfl rfl (Nat.le_refl _) (Nat.le_refl _) ?_
    refine zr_astorew dX8_scrollUp_4 (by decide) rfl ?_
    refine zr_load ⟨_, dX8_scrollUp_6, rfl⟩ rfl ?_
    have hj16 : zBT 5 m_X8_scrollUp TSc none res.2 26 [some (.inr (.inl (some 0))), some (.inl a1), some (.inl a2), some (.inl a3), some (.inr (.inl (some 22))), none, none] [.inl (if a3 = 0 then 0 else (if ¬ a1 = 0 then 0 else (if ¬ (s.1 0 8) = 0 then 0 else 1)))] s := by
      refine zr_storew dX8_scrollUp_26 (by decide) rfl ?_
      refine zr_loadw dX8_scrollUp_28 rfl ?_
      refine zr_if_eq (tgt := 87) dX8_scrollUp_30 (by decide) (fun hc18 => ?_) (fun hc18 => ?_)
      · replace h := zpos h hc18
        refine zr_mask [true, true, true, false, true, true, false] rfl ?_
        exact t_Sc_scrollUp_j87_1 h
      · replace h := zneg h hc18
        refine zr_aload ⟨_, dX8_scrollUp_33, rfl⟩ rfl ?_
        refine zt_getr dX8_scrollUp_34 fl_X8_12 rfl rfl ?_
        refine zt_getr dX8_scrollUp_37 fl_X8_100 rfl rfl ?_
        refine zr_aloadw dX8_scrollUp_40 rfl ?_
        refine zr_iconst dX8_scrollUp_42 (by decide) ?_
        obtain ⟨x19, hx19, h⟩ := zbind h
        refine zt_callis (t_Pi_isGoing hx19) (zrun_V (rest := [.inr (.inl (some 5))]) dX8_scrollUp_43 ml_X8_189 rfl rfl (by decide) (by decide) rfl (Nat.le_of_ble_eq_true rfl)) rfl rfl sb_TSc_TPi_22 (Nat.le_refl _) (Nat.le_refl _) ?_
        obtain ⟨x20, hx20, h⟩ := zbind h
        refine zt_callv (t_Hi_add hx20) (zrun_V (rest := []) dX8_scrollUp_46 ml_X8_192 rfl rfl (by decide) (by decide) rfl (Nat.le_of_ble_eq_true rfl)) rfl rfl sb_TSc_THi_5 (Nat.le_refl _) (Nat.le_refl _) ?_
        refine zr_iconst dX8_scrollUp_49 (by decide) ?_
        refine zr_storew dX8_scrollUp_50 (by decide) rfl ?_
        refine zr_mask [true, true, true, false, true, true, true] rfl ?_
        obtain ⟨y21, hy21, h⟩ := zbind h
        refine t_Sc_scrollUp_l52_1 _ _ _ hy21 ?_
        exact t_Sc_scrollUp_j87_1 h
    refine zr_if_eq (tgt := 25) dX8_scrollUp_7 (by decide) (fun hc17 => ?_) (fun hc17 => ?_)
    · have hp22 := zif_t hj16 hc17
      refine zr_iconst dX8_scrollUp_25 (by decide) ?_
      exact hp22
    · have hp23 := zif_f hj16 hc17
      refine zr_load ⟨_, dX8_scrollUp_10, rfl⟩ rfl ?_
      refine zr_if_ne (tgt := 25) dX8_scrollUp_11 (by decide) (fun hc24 => ?_) (fun hc24 => ?_)
      · have hp25 := zif_t hp23 hc24
        refine zr_iconst dX8_scrollUp_25 (by decide) ?_
        exact hp25
      · have hp26 := zif_f hp23 hc24
        refine zr_aload ⟨_, dX8_scrollUp_14, rfl⟩ rfl ?_
        refine zt_get dX8_scrollUp_15 fl_X8_75 rfl rfl ?_
        refine zr_if_ne (tgt := 25) dX8_scrollUp_18 (by decide) (fun hc27 => ?_) (fun hc27 => ?_)
        · have hp28 := zif_t hp26 hc27
          refine zr_iconst dX8_scrollUp_25 (by decide) ?_
          exact hp28
        · have hp29 := zif_f hp26 hc27
          refine zr_iconst dX8_scrollUp_21 (by decide) ?_
          refine zr_goto (tgt := 26) dX8_scrollUp_22 (by decide) ?_
          exact hp29
