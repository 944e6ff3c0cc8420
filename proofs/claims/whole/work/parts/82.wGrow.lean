set_option maxRecDepth 100000 in
set_option maxHeartbeats 4000000 in
theorem t_Ta_noteByte {a1 : Int} {s : zSt} {res : Int × zSt} (h : f_Ta_noteByte a1 s = some res) (hm : zpot 1 res.2 ≤ zpot 1 s) : zSpecG 4 1 m_X10_noteByte [.inr (.inl (some 0)), .inl a1] TTa s none res.2 := by
  have key : ∀ mc u : Nat, u + (zpot 1 s - zpot 1 res.2) ≤ mc → zB m_X10_noteByte (zR 4 mc mc) (zFq mc mc (fun k => k ≠ 1) (fun r1 w1 => r1 = none ∧ w1 = ziT res.2 0 TTa)) (fun k => k ≠ 1) 0 [some (.inr (.inl (some 0))), some (.inl a1)] [] (ziT s 0 TTa) u u := by
    intro mc u hu
    have hl : u ≤ mc := by omega
    unfold f_Ta_noteByte at h
    refine zr_aload ⟨_, dX10_noteByte_0, rfl⟩ rfl ?_
    refine zr_load ⟨_, dX10_noteByte_1, rfl⟩ rfl ?_
    obtain ⟨x1, hx1, h⟩ := zbind h
    obtain ⟨hq1, h, hq2⟩ := zmn_some h
    have hm0 : zpot 1 res.2 ≤ zpot 1 s := hm
    have hu0 : u + (zpot 1 s - zpot 1 res.2) ≤ mc := hu
    have hm : zpot 1 res.2 ≤ zpot 1 x1.2 := by omega
    have hcs := t_Ta_note hx1 hq1
    refine zg_calli (kc := zpot 1 s - zpot 1 x1.2) (v := 1) (zrun_V (rest := []) dX10_noteByte_2 ml_X10_13 rfl rfl (by decide) (by decide) rfl (Nat.le_of_ble_eq_true rfl)) hcs rfl rfl (fun k hk => hk) rfl rfl (fun x hx => by cases hx) (by decide +kernel) (by omega) (by omega) ?_
    obtain ⟨u2, eu2⟩ : ∃ z, z = u + (zpot 1 s - zpot 1 x1.2) := ⟨_, rfl⟩
    rw [← eu2]
    have hu : u2 + (zpot 1 x1.2 - zpot 1 res.2) ≤ mc := by omega
    have hl : u2 ≤ mc := by omega
    obtain rfl := Option.some.inj h
    exact zr_vret dX10_noteByte_5 rfl hl hl ⟨rfl, rfl⟩
  exact zSpec_of (by decide +kernel) (Nat.le_of_ble_eq_true rfl) (key _ 0 (by omega))

set_option maxRecDepth 100000 in
set_option maxHeartbeats 4000000 in
theorem t_Ta_noteSize {a1 a2 : Int} {s : zSt} {res : Int × zSt} (h : f_Ta_noteSize a1 a2 s = some res) (hm : zpot 1 res.2 ≤ zpot 1 s) : zSpecG 4 1 m_X10_noteSize [.inr (.inl (some 0)), .inl a1, .inl a2] TTa s none res.2 := by
  have key : ∀ mc u : Nat, u + (zpot 1 s - zpot 1 res.2) ≤ mc → zB m_X10_noteSize (zR 4 mc mc) (zFq mc mc (fun k => k ≠ 1) (fun r1 w1 => r1 = none ∧ w1 = ziT res.2 0 TTa)) (fun k => k ≠ 1) 0 [some (.inr (.inl (some 0))), some (.inl a1), some (.inl a2)] [] (ziT s 0 TTa) u u := by
    intro mc u hu
    have hl : u ≤ mc := by omega
    unfold f_Ta_noteSize at h
    refine zr_aload ⟨_, dX10_noteSize_0, rfl⟩ rfl ?_
    refine zr_sipush dX10_noteSize_1 (by decide) (by decide) ?_
    refine zr_load ⟨_, dX10_noteSize_4, rfl⟩ rfl ?_
    refine zr_bipush dX10_noteSize_5 (by decide) (by decide) ?_
    refine zr_imul dX10_noteSize_7 ?_
    refine zr_iadd dX10_noteSize_8 ?_
    refine zr_load ⟨_, dX10_noteSize_9, rfl⟩ rfl ?_
    refine zr_iadd dX10_noteSize_10 ?_
    obtain ⟨x1, hx1, h⟩ := zbind h
    obtain ⟨hq1, h, hq2⟩ := zmn_some h
    have hm0 : zpot 1 res.2 ≤ zpot 1 s := hm
    have hu0 : u + (zpot 1 s - zpot 1 res.2) ≤ mc := hu
    have hm : zpot 1 res.2 ≤ zpot 1 x1.2 := by omega
    have hcs := t_Ta_note hx1 hq1
    refine zg_calli (kc := zpot 1 s - zpot 1 x1.2) (v := 1) (zrun_V (rest := []) dX10_noteSize_11 ml_X10_13 rfl rfl (by decide) (by decide) rfl (Nat.le_of_ble_eq_true rfl)) hcs rfl rfl (fun k hk => hk) rfl rfl (fun x hx => by cases hx) (by decide +kernel) (by omega) (by omega) ?_
    obtain ⟨u2, eu2⟩ : ∃ z, z = u + (zpot 1 s - zpot 1 x1.2) := ⟨_, rfl⟩
    rw [← eu2]
    have hu : u2 + (zpot 1 x1.2 - zpot 1 res.2) ≤ mc := by omega
    have hl : u2 ≤ mc := by omega
    obtain rfl := Option.some.inj h
    exact zr_vret dX10_noteSize_14 rfl hl hl ⟨rfl, rfl⟩
  exact zSpec_of (by decide +kernel) (Nat.le_of_ble_eq_true rfl) (key _ 0 (by omega))

set_option maxRecDepth 100000 in
set_option maxHeartbeats 4000000 in
theorem t_Co_settle_l2    : ∀ (n : Nat) (x : Int × zSt) (out : Int × zSt), zloop (f_Co_settle_l2) n x = some out → zpot 42 out.2 ≤ zpot 42 x.2 ∧ ∀ mc u : Nat, u + (zpot 42 x.2 - zpot 42 out.2) ≤ mc → zB m_X11_settle (zR 9 mc mc) (zFq mc mc (fun k => k ≠ 42) (fun r1 w1 => r1 = none ∧ w1 = ziT out.2 0 TCo)) (fun k => k ≠ 42) 2 [some (.inr (.inl (some 0))), some (.inl x.1), none] [] (ziT x.2 0 TCo) u u := by
  refine zloop_B (B := fun (x : Int × zSt) (out : Int × zSt) => zpot 42 out.2 ≤ zpot 42 x.2 ∧ ∀ mc u : Nat, u + (zpot 42 x.2 - zpot 42 out.2) ≤ mc → zB m_X11_settle (zR 9 mc mc) (zFq mc mc (fun k => k ≠ 42) (fun r1 w1 => r1 = none ∧ w1 = ziT out.2 0 TCo)) (fun k => k ≠ 42) 2 [some (.inr (.inl (some 0))), some (.inl x.1), none] [] (ziT x.2 0 TCo) u u) ?_
  intro x o out h hk
  unfold f_Co_settle_l2 at h
  obtain ⟨hq1, h, hq2⟩ := zmnL_some h
  have hko : zpot 42 out.2 ≤ zpot 42 (zg2 o) := zcontm 42 hk (fun y r q => q.1)
  refine ⟨by omega, fun mc u hu => ?_⟩
  have hm : zpot 42 out.2 ≤ zpot 42 x.2 := by omega
  have hl : u ≤ mc := by omega
  refine zr_load ⟨_, dX11_settle_2, rfl⟩ rfl ?_
  refine zr_ldcw dX11_settle_3 k_X11_258 (by decide) ?_
  refine zr_ic_ge (tgt := 103) dX11_settle_6 (by decide) (fun hc1 => ?_) (fun hc1 => ?_)
  · replace h := zpos h hc1
    obtain rfl := Option.some.inj h
    obtain rfl := hk
    exact zr_vret dX11_settle_103 rfl hl hl ⟨rfl, rfl⟩
  · replace h := zneg h hc1
    refine zr_aload ⟨_, dX11_settle_9, rfl⟩ rfl ?_
    refine zt_getr dX11_settle_10 fl_X11_24 rfl rfl ?_
    refine zt_getr dX11_settle_13 fl_X11_259 rfl rfl ?_
    obtain ⟨x2, hx2, h⟩ := zbind h
    refine zt_callis (t_By_count hx2) (zrun_V (rest := []) dX11_settle_16 ml_X11_77 rfl rfl (by decide) (by decide) rfl (Nat.le_of_ble_eq_true rfl)) rfl rfl sb_TCo_TBy_12 hl hl ?_
    refine zr_if_le (tgt := 69) dX11_settle_19 (by decide) (fun hc3 => ?_) (fun hc3 => ?_)
    · replace h := zpos h hc3
      refine zr_aload ⟨_, dX11_settle_69, rfl⟩ rfl ?_
      refine zt_getr dX11_settle_70 fl_X11_14 rfl rfl ?_
      obtain ⟨x4, hx4, h⟩ := zbind h
      refine zt_callis (t_By_count hx4) (zrun_V (rest := []) dX11_settle_73 ml_X11_77 rfl rfl (by decide) (by decide) rfl (Nat.le_of_ble_eq_true rfl)) rfl rfl sb_TCo_TBy_1 hl hl ?_
      refine zr_if_le (tgt := 96) dX11_settle_76 (by decide) (fun hc5 => ?_) (fun hc5 => ?_)
      · replace h := zpos h hc5
        obtain rfl := Option.some.inj h
        obtain rfl := hk
        exact zr_vret dX11_settle_96 rfl hl hl ⟨rfl, rfl⟩
      · replace h := zneg h hc5
        refine zr_aload ⟨_, dX11_settle_79, rfl⟩ rfl ?_
        refine zt_getr dX11_settle_80 fl_X11_24 rfl rfl ?_
        refine zr_aload ⟨_, dX11_settle_83, rfl⟩ rfl ?_
        refine zt_getr dX11_settle_84 fl_X11_14 rfl rfl ?_
        obtain ⟨x6, hx6, h⟩ := zbind h
        refine zt_calli (t_By_removeFirst hx6) (zrun_V (rest := [.inr (.inl (some 5))]) dX11_settle_87 ml_X11_128 rfl rfl (by decide) (by decide) rfl (Nat.le_of_ble_eq_true rfl)) rfl rfl sb_TCo_TBy_1 hl hl ?_
        obtain ⟨x7, hx7, h⟩ := zbind h
        refine zt_callv (t_Li_accept hx7) (zrun_V (rest := []) dX11_settle_90 ml_X11_275 rfl rfl (by decide) (by decide) rfl (Nat.le_of_ble_eq_true rfl)) rfl rfl sb_TCo_TLi_5 hl hl ?_
        refine zr_goto (tgt := 97) dX11_settle_93 (by decide) ?_
        refine zr_iinc dX11_settle_97 rfl (by decide) rfl ?_
        refine zr_goto (tgt := 2) dX11_settle_100 (by decide) ?_
        obtain rfl := Option.some.inj h
        exact hk.2 _ _ hu
    · replace h := zneg h hc3
      refine zr_aload ⟨_, dX11_settle_22, rfl⟩ rfl ?_
      refine zt_getr dX11_settle_23 fl_X11_24 rfl rfl ?_
      refine zt_getr dX11_settle_26 fl_X11_259 rfl rfl ?_
      obtain ⟨x8, hx8, h⟩ := zbind h
      refine zt_calli (t_By_removeFirst hx8) (zrun_V (rest := []) dX11_settle_29 ml_X11_128 rfl rfl (by decide) (by decide) rfl (Nat.le_of_ble_eq_true rfl)) rfl rfl sb_TCo_TBy_12 hl hl ?_
      refine zr_store ⟨_, dX11_settle_32, rfl⟩ (by decide) rfl ?_
      refine zr_aload ⟨_, dX11_settle_33, rfl⟩ rfl ?_
      refine zt_getr dX11_settle_34 fl_X11_38 rfl rfl ?_
      refine zr_load ⟨_, dX11_settle_37, rfl⟩ rfl ?_
      obtain ⟨x9, hx9, h⟩ := zbind h
      obtain ⟨hq1, h, hq2⟩ := zmnL_some h
      have hm0 : zpot 42 out.2 ≤ zpot 42 (zpb (zsh 12) 2 x.2 x8.2) := hm
      have hu0 : u + (zpot 42 (zpb (zsh 12) 2 x.2 x8.2) - zpot 42 out.2) ≤ mc := hu
      have hm : zpot 42 out.2 ≤ zpot 42 (zpb (zsh 41) 2 (zpb (zsh 12) 2 x.2 x8.2) x9.2) := by omega
      have hcs := t_Ta_noteByte hx9 hq1
      refine zg_call (kc := zpot 42 (zpb (zsh 12) 2 x.2 x8.2) - zpot 42 (zpb (zsh 41) 2 (zpb (zsh 12) 2 x.2 x8.2) x9.2)) (v := 1) (b := 41) (zrun_V (rest := []) dX11_settle_38 ml_X11_262 rfl rfl (by decide) (by decide) rfl (Nat.le_of_ble_eq_true rfl)) hcs rfl rfl sb_TCo_TTa_41 (by decide) (fun k hk => hk) rfl rfl (fun x hx => by cases hx) (by decide +kernel) (by omega) (by omega) ?_
      obtain ⟨u10, eu10⟩ : ∃ z, z = u + (zpot 42 (zpb (zsh 12) 2 x.2 x8.2) - zpot 42 (zpb (zsh 41) 2 (zpb (zsh 12) 2 x.2 x8.2) x9.2)) := ⟨_, rfl⟩
      rw [← eu10]
      have hu : u10 + (zpot 42 (zpb (zsh 41) 2 (zpb (zsh 12) 2 x.2 x8.2) x9.2) - zpot 42 out.2) ≤ mc := by omega
      have hl : u10 ≤ mc := by omega
      refine zr_aload ⟨_, dX11_settle_41, rfl⟩ rfl ?_
      refine zt_getr dX11_settle_42 fl_X11_31 rfl rfl ?_
      refine zr_load ⟨_, dX11_settle_45, rfl⟩ rfl ?_
      obtain ⟨x11, hx11, h⟩ := zbind h
      refine zt_callv (t_Sc_receive hx11) (zrun_V (rest := []) dX11_settle_46 ml_X11_265 rfl rfl (by decide) (by decide) rfl (Nat.le_of_ble_eq_true rfl)) rfl rfl sb_TCo_TSc_14 hl hl ?_
      refine zr_aload ⟨_, dX11_settle_49, rfl⟩ rfl ?_
      refine zt_getr dX11_settle_50 fl_X11_24 rfl rfl ?_
      refine zt_getr dX11_settle_53 fl_X11_149 rfl rfl ?_
      refine zr_aload ⟨_, dX11_settle_56, rfl⟩ rfl ?_
      refine zt_getr dX11_settle_57 fl_X11_31 rfl rfl ?_
      refine zt_getr dX11_settle_60 fl_X11_268 rfl rfl ?_
      obtain ⟨x12, hx12, h⟩ := zbind h
      refine zt_callv (t_By_addAll hx12) (zrun_V (rest := []) dX11_settle_63 ml_X11_271 rfl rfl (by decide) (by decide) rfl (Nat.le_of_ble_eq_true rfl)) rfl rfl sb_TCo_TByBy_10_34 hl hl ?_
      refine zr_goto (tgt := 97) dX11_settle_66 (by decide) ?_
      refine zr_iinc dX11_settle_97 rfl (by decide) rfl ?_
      refine zr_goto (tgt := 2) dX11_settle_100 (by decide) ?_
      refine zr_mask [true, true, false] rfl ?_
      obtain rfl := Option.some.inj h
      exact hk.2 _ _ hu
set_option maxRecDepth 100000 in
set_option maxHeartbeats 4000000 in
theorem t_Co_settle  {s : zSt} {res : Int × zSt} (h : f_Co_settle s = some res) (hm : zpot 42 res.2 ≤ zpot 42 s) : zSpecG 9 42 m_X11_settle [.inr (.inl (some 0))] TCo s none res.2 := by
  have key : ∀ mc u : Nat, u + (zpot 42 s - zpot 42 res.2) ≤ mc → zB m_X11_settle (zR 9 mc mc) (zFq mc mc (fun k => k ≠ 42) (fun r1 w1 => r1 = none ∧ w1 = ziT res.2 0 TCo)) (fun k => k ≠ 42) 0 [some (.inr (.inl (some 0))), none, none] [] (ziT s 0 TCo) u u := by
    intro mc u hu
    have hl : u ≤ mc := by omega
    unfold f_Co_settle at h
    refine zr_iconst dX11_settle_0 (by decide) ?_
    refine zr_store ⟨_, dX11_settle_1, rfl⟩ (by decide) rfl ?_
    exact (t_Co_settle_l2 _ _ _ h).2 _ _ hu
  exact zSpec_of (by decide +kernel) (Nat.le_of_ble_eq_true rfl) (key _ 0 (by omega))

set_option maxRecDepth 100000 in
set_option maxHeartbeats 4000000 in
theorem t_Co_size {a1 a2 : Int} {s : zSt} {res : Int × zSt} (h : f_Co_size a1 a2 s = some res) (hm : zpot 42 res.2 ≤ zpot 42 s) : zSpecG 9 42 m_X11_size [.inr (.inl (some 0)), .inl a1, .inl a2] TCo s (some (.inl res.1)) res.2 := by
  have key : ∀ mc u : Nat, u + (zpot 42 s - zpot 42 res.2) ≤ mc → zB m_X11_size (zR 9 mc mc) (zFq mc mc (fun k => k ≠ 42) (fun r1 w1 => r1 = (some (.inl res.1)) ∧ w1 = ziT res.2 0 TCo)) (fun k => k ≠ 42) 0 [some (.inr (.inl (some 0))), some (.inl a1), some (.inl a2)] [] (ziT s 0 TCo) u u := by
    intro mc u hu
    have hl : u ≤ mc := by omega
    unfold f_Co_size at h
    refine zr_load ⟨_, dX11_size_0, rfl⟩ rfl ?_
    refine zr_iconst dX11_size_1 (by decide) ?_
    refine zr_ic_lt (tgt := 22) dX11_size_2 (by decide) (fun hc1 => ?_) (fun hc1 => ?_)
    · replace h := zpos h hc1
      cases h
    · replace h := zneg h hc1
      refine zr_load ⟨_, dX11_size_5, rfl⟩ rfl ?_
      refine zr_bipush dX11_size_6 (by decide) (by decide) ?_
      refine zr_ic_gt (tgt := 22) dX11_size_8 (by decide) (fun hc2 => ?_) (fun hc2 => ?_)
      · replace h := zpos h hc2
        cases h
      · replace h := zneg h hc2
        refine zr_load ⟨_, dX11_size_11, rfl⟩ rfl ?_
        refine zr_iconst dX11_size_12 (by decide) ?_
        refine zr_ic_lt (tgt := 22) dX11_size_13 (by decide) (fun hc3 => ?_) (fun hc3 => ?_)
        · replace h := zpos h hc3
          cases h
        · replace h := zneg h hc3
          refine zr_load ⟨_, dX11_size_16, rfl⟩ rfl ?_
          refine zr_bipush dX11_size_17 (by decide) (by decide) ?_
          refine zr_ic_le (tgt := 32) dX11_size_19 (by decide) (fun hc4 => ?_) (fun hc4 => ?_)
          · replace h := zpos h hc4
            refine zr_aload ⟨_, dX11_size_32, rfl⟩ rfl ?_
            refine zt_getr dX11_size_33 fl_X11_38 rfl rfl ?_
            refine zr_load ⟨_, dX11_size_36, rfl⟩ rfl ?_
            refine zr_load ⟨_, dX11_size_37, rfl⟩ rfl ?_
            obtain ⟨x5, hx5, h⟩ := zbind h
            obtain ⟨hq1, h, hq2⟩ := zmn_some h
            have hm0 : zpot 42 res.2 ≤ zpot 42 s := hm
            have hu0 : u + (zpot 42 s - zpot 42 res.2) ≤ mc := hu
            have hm : zpot 42 res.2 ≤ zpot 42 (zpb (zsh 41) 2 s x5.2) := by omega
            have hcs := t_Ta_noteSize hx5 hq1
            refine zg_call (kc := zpot 42 s - zpot 42 (zpb (zsh 41) 2 s x5.2)) (v := 1) (b := 41) (zrun_V (rest := []) dX11_size_38 ml_X11_154 rfl rfl (by decide) (by decide) rfl (Nat.le_of_ble_eq_true rfl)) hcs rfl rfl sb_TCo_TTa_41 (by decide) (fun k hk => hk) rfl rfl (fun x hx => by cases hx) (by decide +kernel) (by omega) (by omega) ?_
            obtain ⟨u6, eu6⟩ : ∃ z, z = u + (zpot 42 s - zpot 42 (zpb (zsh 41) 2 s x5.2)) := ⟨_, rfl⟩
            rw [← eu6]
            have hu : u6 + (zpot 42 (zpb (zsh 41) 2 s x5.2) - zpot 42 res.2) ≤ mc := by omega
            have hl : u6 ≤ mc := by omega
            refine zr_aload ⟨_, dX11_size_41, rfl⟩ rfl ?_
            refine zt_getr dX11_size_42 fl_X11_31 rfl rfl ?_
            refine zr_load ⟨_, dX11_size_45, rfl⟩ rfl ?_
            refine zr_load ⟨_, dX11_size_46, rfl⟩ rfl ?_
            obtain ⟨x7, hx7, h⟩ := zbind h
            refine zt_callv (t_Sc_resize hx7) (zrun_V (rest := []) dX11_size_47 ml_X11_158 rfl rfl (by decide) (by decide) rfl (Nat.le_of_ble_eq_true rfl)) rfl rfl sb_TCo_TSc_14 hl hl ?_
            refine zr_aload ⟨_, dX11_size_50, rfl⟩ rfl ?_
            refine zt_getr dX11_size_51 fl_X11_48 rfl rfl ?_
            refine zr_load ⟨_, dX11_size_54, rfl⟩ rfl ?_
            refine zr_load ⟨_, dX11_size_55, rfl⟩ rfl ?_
            obtain ⟨x8, hx8, h⟩ := zbind h
            refine zt_callv (t_Sl_begin hx8) (zrun_V (rest := []) dX11_size_56 ml_X11_161 rfl rfl (by decide) (by decide) rfl (Nat.le_of_ble_eq_true rfl)) rfl rfl sb_TCo_TSl_70 hl hl ?_
            refine zr_aload ⟨_, dX11_size_59, rfl⟩ rfl ?_
            refine zt_getr dX11_size_60 fl_X11_31 rfl rfl ?_
            refine zt_getr dX11_size_63 fl_X11_164 rfl rfl ?_
            refine zt_getr dX11_size_66 fl_X11_168 rfl rfl ?_
            obtain ⟨x9, hx9, h⟩ := zbind h
            refine zt_callis (t_Hi_count hx9) (zrun_V (rest := []) dX11_size_69 ml_X11_174 rfl rfl (by decide) (by decide) rfl (Nat.le_of_ble_eq_true rfl)) rfl rfl sb_TCo_THi_19 hl hl ?_
            obtain rfl := Option.some.inj h
            exact zr_iret dX11_size_72 rfl hl hl ⟨rfl, rfl⟩
          · replace h := zneg h hc4
            cases h
  exact zSpec_of (by decide +kernel) (Nat.le_of_ble_eq_true rfl) (key _ 0 (by omega))

set_option maxRecDepth 100000 in
set_option maxHeartbeats 4000000 in
theorem t_Co_code_j171 {v4 : Int} {s : zSt} {res : Int × zSt} (h : f_Co_code_j171 v4 s = some res) (hm : zpot 42 res.2 ≤ zpot 42 s) {mc u : Nat} (hu : u + (zpot 42 s - zpot 42 res.2) ≤ mc) : zB m_X11_code (zR 10 mc mc) (zFq mc mc (fun k => k ≠ 42) (fun r1 w1 => r1 = (some (.inl res.1)) ∧ w1 = ziT res.2 0 TCo)) (fun k => k ≠ 42) 171 [some (.inr (.inl (some 0))), none, none, none, some (.inl v4), none] [] (ziT s 0 TCo) u u := by
  have hl : u ≤ mc := by omega
  unfold f_Co_code_j171 at h
  refine zr_aload ⟨_, dX11_code_171, rfl⟩ rfl ?_
  refine zt_getr dX11_code_172 fl_X11_24 rfl rfl ?_
  refine zr_loadw dX11_code_175 rfl ?_
  obtain ⟨x1, hx1, h⟩ := zbind h
  refine zt_callv (t_Li_bring hx1) (zrun_V (rest := []) dX11_code_177 ml_X11_68 rfl rfl (by decide) (by decide) rfl (Nat.le_of_ble_eq_true rfl)) rfl rfl sb_TCo_TLi_5 hl hl ?_
  refine zr_aload ⟨_, dX11_code_180, rfl⟩ rfl ?_
  obtain ⟨x2, hx2, h⟩ := zbind h
  obtain ⟨hq1, h, hq2⟩ := zmn_some h
  have hm0 : zpot 42 res.2 ≤ zpot 42 (zpb (zsh 5) 9 s x1.2) := hm
  have hu0 : u + (zpot 42 (zpb (zsh 5) 9 s x1.2) - zpot 42 res.2) ≤ mc := hu
  have hm : zpot 42 res.2 ≤ zpot 42 x2.2 := by omega
  have hcs := t_Co_settle hx2 hq1
  refine zg_calli (kc := zpot 42 (zpb (zsh 5) 9 s x1.2) - zpot 42 x2.2) (v := 42) (zrun_V (rest := []) dX11_code_181 ml_X11_71 rfl rfl (by decide) (by decide) rfl (Nat.le_of_ble_eq_true rfl)) hcs rfl rfl (fun k hk => hk) rfl rfl (fun x hx => by cases hx) (by decide +kernel) (by omega) (by omega) ?_
  obtain ⟨u3, eu3⟩ : ∃ z, z = u + (zpot 42 (zpb (zsh 5) 9 s x1.2) - zpot 42 x2.2) := ⟨_, rfl⟩
  rw [← eu3]
  have hu : u3 + (zpot 42 x2.2 - zpot 42 res.2) ≤ mc := by omega
  have hl : u3 ≤ mc := by omega
  refine zr_aload ⟨_, dX11_code_184, rfl⟩ rfl ?_
  refine zt_getr dX11_code_185 fl_X11_24 rfl rfl ?_
  refine zt_getr dX11_code_188 fl_X11_74 rfl rfl ?_
  obtain ⟨x4, hx4, h⟩ := zbind h
  refine zt_callis (t_By_count hx4) (zrun_V (rest := []) dX11_code_191 ml_X11_77 rfl rfl (by decide) (by decide) rfl (Nat.le_of_ble_eq_true rfl)) rfl rfl sb_TCo_TBy_8 hl hl ?_
  obtain rfl := Option.some.inj h
  exact zr_iret dX11_code_194 rfl hl hl ⟨rfl, rfl⟩
set_option maxRecDepth 100000 in
set_option maxHeartbeats 4000000 in
theorem t_Co_code_j142 {v2 v3 v4 : Int} {s : zSt} {res : Int × zSt} (h : f_Co_code_j142 v2 v3 v4 s = some res) (hm : zpot 42 res.2 ≤ zpot 42 s) {mc u : Nat} (hu : u + (zpot 42 s - zpot 42 res.2) ≤ mc) : zB m_X11_code (zR 10 mc mc) (zFq mc mc (fun k => k ≠ 42) (fun r1 w1 => r1 = (some (.inl res.1)) ∧ w1 = ziT res.2 0 TCo)) (fun k => k ≠ 42) 142 [some (.inr (.inl (some 0))), none, some (.inl v2), some (.inl v3), some (.inl v4), none] [] (ziT s 0 TCo) u u := by
  have hl : u ≤ mc := by omega
  unfold f_Co_code_j142 at h
  refine zr_aload ⟨_, dX11_code_142, rfl⟩ rfl ?_
  refine zt_getr dX11_code_143 fl_X11_24 rfl rfl ?_
  refine zr_load ⟨_, dX11_code_146, rfl⟩ rfl ?_
  obtain ⟨x1, hx1, h⟩ := zbind h
  refine zt_callv (t_Li_bringNumber hx1) (zrun_V (rest := []) dX11_code_147 ml_X11_87 rfl rfl (by decide) (by decide) rfl (Nat.le_of_ble_eq_true rfl)) rfl rfl sb_TCo_TLi_5 hl hl ?_
  refine zr_load ⟨_, dX11_code_150, rfl⟩ rfl ?_
  refine zr_if_eq (tgt := 171) dX11_code_151 (by decide) (fun hc2 => ?_) (fun hc2 => ?_)
  · replace h := zpos h hc2
    refine zr_mask [true, false, false, false, true, false] rfl ?_
    exact t_Co_code_j171 h hm hu
  · replace h := zneg h hc2
    refine zr_aload ⟨_, dX11_code_154, rfl⟩ rfl ?_
    refine zt_getr dX11_code_155 fl_X11_24 rfl rfl ?_
    refine zr_bipush dX11_code_158 (by decide) (by decide) ?_
    obtain ⟨x3, hx3, h⟩ := zbind h
    refine zt_callv (t_Li_bring hx3) (zrun_V (rest := []) dX11_code_160 ml_X11_68 rfl rfl (by decide) (by decide) rfl (Nat.le_of_ble_eq_true rfl)) rfl rfl sb_TCo_TLi_5 hl hl ?_
    refine zr_aload ⟨_, dX11_code_163, rfl⟩ rfl ?_
    refine zt_getr dX11_code_164 fl_X11_24 rfl rfl ?_
    refine zr_load ⟨_, dX11_code_167, rfl⟩ rfl ?_
    obtain ⟨x4, hx4, h⟩ := zbind h
    refine zt_callv (t_Li_bringNumber hx4) (zrun_V (rest := []) dX11_code_168 ml_X11_87 rfl rfl (by decide) (by decide) rfl (Nat.le_of_ble_eq_true rfl)) rfl rfl sb_TCo_TLi_5 hl hl ?_
    refine zr_mask [true, false, false, false, true, false] rfl ?_
    exact t_Co_code_j171 h hm hu
set_option maxRecDepth 100000 in
set_option maxHeartbeats 4000000 in
theorem t_Co_code_j86 {v1 v2 v3 v4 k0 k1 : Int} {s : zSt} {res : Int × zSt} (h : f_Co_code_j86 v1 v2 v3 v4 k0 k1 s = some res) (hm : zpot 42 res.2 ≤ zpot 42 s) {mc u : Nat} (hu : u + (zpot 42 s - zpot 42 res.2) ≤ mc) : zB m_X11_code (zR 10 mc mc) (zFq mc mc (fun k => k ≠ 42) (fun r1 w1 => r1 = (some (.inl res.1)) ∧ w1 = ziT res.2 0 TCo)) (fun k => k ≠ 42) 86 [some (.inr (.inl (some 0))), some (.inl v1), some (.inl v2), some (.inl v3), some (.inl v4), none] [.inl k0, .inl k1] (ziT s 0 TCo) u u := by
  have hl : u ≤ mc := by omega
  unfold f_Co_code_j86 at h
  refine zr_iadd dX11_code_86 ?_
  refine zr_storew dX11_code_87 (by decide) rfl ?_
  refine zr_aload ⟨_, dX11_code_89, rfl⟩ rfl ?_
  refine zt_getr dX11_code_90 fl_X11_24 rfl rfl ?_
  refine zr_loadw dX11_code_93 rfl ?_
  obtain ⟨x1, hx1, h⟩ := zbind h
  refine zt_callis (t_Li_hasRoomFor hx1) (zrun_V (rest := []) dX11_code_95 ml_X11_59 rfl rfl (by decide) (by decide) rfl (Nat.le_of_ble_eq_true rfl)) rfl rfl sb_TCo_TLi_5 hl hl ?_
  refine zr_if_ne (tgt := 111) dX11_code_98 (by decide) (fun hc2 => ?_) (fun hc2 => ?_)
  · replace h := zpos h hc2
    refine zr_aload ⟨_, dX11_code_111, rfl⟩ rfl ?_
    refine zt_getr dX11_code_112 fl_X11_24 rfl rfl ?_
    refine zr_bipush dX11_code_115 (by decide) (by decide) ?_
    obtain ⟨x3, hx3, h⟩ := zbind h
    refine zt_callv (t_Li_bring hx3) (zrun_V (rest := []) dX11_code_117 ml_X11_68 rfl rfl (by decide) (by decide) rfl (Nat.le_of_ble_eq_true rfl)) rfl rfl sb_TCo_TLi_5 hl hl ?_
    refine zr_aload ⟨_, dX11_code_120, rfl⟩ rfl ?_
    refine zt_getr dX11_code_121 fl_X11_24 rfl rfl ?_
    refine zr_bipush dX11_code_124 (by decide) (by decide) ?_
    obtain ⟨x4, hx4, h⟩ := zbind h
    refine zt_callv (t_Li_bring hx4) (zrun_V (rest := []) dX11_code_126 ml_X11_68 rfl rfl (by decide) (by decide) rfl (Nat.le_of_ble_eq_true rfl)) rfl rfl sb_TCo_TLi_5 hl hl ?_
    refine zr_load ⟨_, dX11_code_129, rfl⟩ rfl ?_
    refine zr_if_eq (tgt := 142) dX11_code_130 (by decide) (fun hc5 => ?_) (fun hc5 => ?_)
    · replace h := zpos h hc5
      refine zr_mask [true, false, true, true, true, false] rfl ?_
      exact t_Co_code_j142 h hm hu
    · replace h := zneg h hc5
      refine zr_aload ⟨_, dX11_code_133, rfl⟩ rfl ?_
      refine zt_getr dX11_code_134 fl_X11_24 rfl rfl ?_
      refine zr_bipush dX11_code_137 (by decide) (by decide) ?_
      obtain ⟨x6, hx6, h⟩ := zbind h
      refine zt_callv (t_Li_bring hx6) (zrun_V (rest := []) dX11_code_139 ml_X11_68 rfl rfl (by decide) (by decide) rfl (Nat.le_of_ble_eq_true rfl)) rfl rfl sb_TCo_TLi_5 hl hl ?_
      refine zr_mask [true, false, true, true, true, false] rfl ?_
      exact t_Co_code_j142 h hm hu
  · replace h := zneg h hc2
    cases h
set_option maxRecDepth 100000 in
set_option maxHeartbeats 4000000 in
theorem t_Co_code {a1 a2 a3 a4 : Int} {s : zSt} {res : Int × zSt} (h : f_Co_code a1 a2 a3 a4 s = some res) (hm : zpot 42 res.2 ≤ zpot 42 s) : zSpecG 10 42 m_X11_code [.inr (.inl (some 0)), .inl a1, .inl a2, .inl a3, .inl a4] TCo s (some (.inl res.1)) res.2 := by
  have key : ∀ mc u : Nat, u + (zpot 42 s - zpot 42 res.2) ≤ mc → zB m_X11_code (zR 10 mc mc) (zFq mc mc (fun k => k ≠ 42) (fun r1 w1 => r1 = (some (.inl res.1)) ∧ w1 = ziT res.2 0 TCo)) (fun k => k ≠ 42) 0 [some (.inr (.inl (some 0))), some (.inl a1), some (.inl a2), some (.inl a3), some (.inl a4), none] [] (ziT s 0 TCo) u u := by
    intro mc u hu
    have hl : u ≤ mc := by omega
    unfold f_Co_code at h
    refine zr_load ⟨_, dX11_code_0, rfl⟩ rfl ?_
    refine zr_if_lt (tgt := 22) dX11_code_1 (by decide) (fun hc1 => ?_) (fun hc1 => ?_)
    · replace h := zpos h hc1
      cases h
    · replace h := zneg h hc1
      refine zr_load ⟨_, dX11_code_4, rfl⟩ rfl ?_
      refine zr_sipush dX11_code_5 (by decide) (by decide) ?_
      refine zr_ic_gt (tgt := 22) dX11_code_8 (by decide) (fun hc2 => ?_) (fun hc2 => ?_)
      · replace h := zpos h hc2
        cases h
      · replace h := zneg h hc2
        refine zr_load ⟨_, dX11_code_11, rfl⟩ rfl ?_
        refine zr_if_lt (tgt := 22) dX11_code_12 (by decide) (fun hc3 => ?_) (fun hc3 => ?_)
        · replace h := zpos h hc3
          cases h
        · replace h := zneg h hc3
          refine zr_load ⟨_, dX11_code_15, rfl⟩ rfl ?_
          refine zr_sipush dX11_code_16 (by decide) (by decide) ?_
          refine zr_ic_le (tgt := 32) dX11_code_19 (by decide) (fun hc4 => ?_) (fun hc4 => ?_)
          · replace h := zpos h hc4
            refine zr_loadw dX11_code_32 rfl ?_
            refine zr_bipush dX11_code_34 (by decide) (by decide) ?_
            refine zr_ic_lt (tgt := 46) dX11_code_36 (by decide) (fun hc5 => ?_) (fun hc5 => ?_)
            · replace h := zpos h hc5
              cases h
            · replace h := zneg h hc5
              refine zr_loadw dX11_code_39 rfl ?_
              refine zr_bipush dX11_code_41 (by decide) (by decide) ?_
              refine zr_ic_le (tgt := 56) dX11_code_43 (by decide) (fun hc6 => ?_) (fun hc6 => ?_)
              · replace h := zpos h hc6
                refine zr_iconst dX11_code_56 (by decide) ?_
                refine zr_load ⟨_, dX11_code_57, rfl⟩ rfl ?_
                have hj7 : zB m_X11_code (zR 10 mc mc) (zFq mc mc (fun k => k ≠ 42) (fun r1 w1 => r1 = (some (.inl res.1)) ∧ w1 = ziT res.2 0 TCo)) (fun k => k ≠ 42) 66 [some (.inr (.inl (some 0))), some (.inl a1), some (.inl a2), some (.inl a3), some (.inl a4), none] [.inl (if a1 = 0 then 0 else 1), .inl 3] (ziT s 0 TCo) u u := by
                  refine zr_iadd dX11_code_66 ?_
                  refine zr_load ⟨_, dX11_code_67, rfl⟩ rfl ?_
                  obtain ⟨x9, hx9, h⟩ := zbind h
                  refine zt_call0 (t_Co_digitsOf hx9) (zrun_S (rest := [.inl (w32 (3 + (if a1 = 0 then 0 else 1)))]) dX11_code_68 ml_X11_83 rfl (by decide) (by decide) rfl (Nat.le_of_ble_eq_true rfl)) rfl rfl hl hl ?_
                  refine zr_iadd dX11_code_71 ?_
                  refine zr_load ⟨_, dX11_code_72, rfl⟩ rfl ?_
                  refine zr_if_ne (tgt := 80) dX11_code_73 (by decide) (fun hc10 => ?_) (fun hc10 => ?_)
                  · replace h := zpos h hc10
                    refine zr_iconst dX11_code_80 (by decide) ?_
                    refine zr_load ⟨_, dX11_code_81, rfl⟩ rfl ?_
                    obtain ⟨x11, hx11, h⟩ := zbind h
                    refine zt_call0 (t_Co_digitsOf hx11) (zrun_S (rest := [.inl 1, .inl (w32 ((w32 (3 + (if a1 = 0 then 0 else 1))) + x9))]) dX11_code_82 ml_X11_83 rfl (by decide) (by decide) rfl (Nat.le_of_ble_eq_true rfl)) rfl rfl hl hl ?_
                    refine zr_iadd dX11_code_85 ?_
                    exact t_Co_code_j86 h hm hu
                  · replace h := zneg h hc10
                    refine zr_iconst dX11_code_76 (by decide) ?_
                    refine zr_goto (tgt := 86) dX11_code_77 (by decide) ?_
                    exact t_Co_code_j86 h hm hu
                refine zr_if_eq (tgt := 65) dX11_code_58 (by decide) (fun hc8 => ?_) (fun hc8 => ?_)
                · have hp12 := zif_t hj7 hc8
                  refine zr_iconst dX11_code_65 (by decide) ?_
                  exact hp12
                · have hp13 := zif_f hj7 hc8
                  refine zr_iconst dX11_code_61 (by decide) ?_
                  refine zr_goto (tgt := 66) dX11_code_62 (by decide) ?_
                  exact hp13
              · replace h := zneg h hc6
                cases h
          · replace h := zneg h hc4
            cases h
  exact zSpec_of (by decide +kernel) (Nat.le_of_ble_eq_true rfl) (key _ 0 (by omega))

set_option maxRecDepth 100000 in
set_option maxHeartbeats 4000000 in
theorem t_Co_mouse {a1 a2 a3 : Int} {s : zSt} {res : Int × zSt} (h : f_Co_mouse a1 a2 a3 s = some res) (hm : zpot 42 res.2 ≤ zpot 42 s) : zSpecG 10 42 m_X11_mouse [.inr (.inl (some 0)), .inl a1, .inl a2, .inl a3] TCo s (some (.inl res.1)) res.2 := by
  have key : ∀ mc u : Nat, u + (zpot 42 s - zpot 42 res.2) ≤ mc → zB m_X11_mouse (zR 10 mc mc) (zFq mc mc (fun k => k ≠ 42) (fun r1 w1 => r1 = (some (.inl res.1)) ∧ w1 = ziT res.2 0 TCo)) (fun k => k ≠ 42) 0 [some (.inr (.inl (some 0))), some (.inl a1), some (.inl a2), some (.inl a3), none] [] (ziT s 0 TCo) u u := by
    intro mc u hu
    have hl : u ≤ mc := by omega
    unfold f_Co_mouse at h
    refine zr_aload ⟨_, dX11_mouse_0, rfl⟩ rfl ?_
    refine zt_getr dX11_mouse_1 fl_X11_31 rfl rfl ?_
    refine zr_load ⟨_, dX11_mouse_4, rfl⟩ rfl ?_
    refine zr_load ⟨_, dX11_mouse_5, rfl⟩ rfl ?_
    obtain ⟨x1, hx1, h⟩ := zbind h
    refine zt_callis (t_Sc_has hx1) (zrun_V (rest := []) dX11_mouse_6 ml_X11_131 rfl rfl (by decide) (by decide) rfl (Nat.le_of_ble_eq_true rfl)) rfl rfl sb_TCo_TSc_14 hl hl ?_
    refine zr_if_ne (tgt := 22) dX11_mouse_9 (by decide) (fun hc2 => ?_) (fun hc2 => ?_)
    · replace h := zpos h hc2
      refine zr_load ⟨_, dX11_mouse_22, rfl⟩ rfl ?_
      refine zr_if_lt (tgt := 31) dX11_mouse_23 (by decide) (fun hc3 => ?_) (fun hc3 => ?_)
      · replace h := zpos h hc3
        cases h
      · replace h := zneg h hc3
        refine zr_load ⟨_, dX11_mouse_26, rfl⟩ rfl ?_
        refine zr_iconst dX11_mouse_27 (by decide) ?_
        refine zr_ic_le (tgt := 41) dX11_mouse_28 (by decide) (fun hc4 => ?_) (fun hc4 => ?_)
        · replace h := zpos h hc4
          refine zr_aload ⟨_, dX11_mouse_41, rfl⟩ rfl ?_
          refine zt_getr dX11_mouse_42 fl_X11_31 rfl rfl ?_
          refine zt_getr dX11_mouse_45 fl_X11_104 rfl rfl ?_
          refine zt_get dX11_mouse_48 fl_X11_142 rfl rfl ?_
          refine zr_if_ne (tgt := 56) dX11_mouse_51 (by decide) (fun hc5 => ?_) (fun hc5 => ?_)
          · replace h := zpos h hc5
            refine zr_aload ⟨_, dX11_mouse_56, rfl⟩ rfl ?_
            refine zt_getr dX11_mouse_57 fl_X11_14 rfl rfl ?_
            refine zr_bipush dX11_mouse_60 (by decide) (by decide) ?_
            obtain ⟨x6, hx6, h⟩ := zbind h
            refine zt_calli (t_By_add hx6) (zrun_V (rest := []) dX11_mouse_62 ml_X11_90 rfl rfl (by decide) (by decide) rfl (Nat.le_of_ble_eq_true rfl)) rfl rfl sb_TCo_TBy_1 hl hl ?_
            refine zr_pop dX11_mouse_65 (Or.inr ⟨_, rfl⟩) ?_
            refine zr_aload ⟨_, dX11_mouse_66, rfl⟩ rfl ?_
            refine zt_getr dX11_mouse_67 fl_X11_14 rfl rfl ?_
            refine zr_bipush dX11_mouse_70 (by decide) (by decide) ?_
            obtain ⟨x7, hx7, h⟩ := zbind h
            refine zt_calli (t_By_add hx7) (zrun_V (rest := []) dX11_mouse_72 ml_X11_90 rfl rfl (by decide) (by decide) rfl (Nat.le_of_ble_eq_true rfl)) rfl rfl sb_TCo_TBy_1 hl hl ?_
            refine zr_pop dX11_mouse_75 (Or.inr ⟨_, rfl⟩) ?_
            refine zr_aload ⟨_, dX11_mouse_76, rfl⟩ rfl ?_
            refine zt_getr dX11_mouse_77 fl_X11_14 rfl rfl ?_
            refine zr_bipush dX11_mouse_80 (by decide) (by decide) ?_
            obtain ⟨x8, hx8, h⟩ := zbind h
            refine zt_calli (t_By_add hx8) (zrun_V (rest := []) dX11_mouse_82 ml_X11_90 rfl rfl (by decide) (by decide) rfl (Nat.le_of_ble_eq_true rfl)) rfl rfl sb_TCo_TBy_1 hl hl ?_
            refine zr_pop dX11_mouse_85 (Or.inr ⟨_, rfl⟩) ?_
            refine zr_aload ⟨_, dX11_mouse_86, rfl⟩ rfl ?_
            refine zt_getr dX11_mouse_87 fl_X11_14 rfl rfl ?_
            refine zr_load ⟨_, dX11_mouse_90, rfl⟩ rfl ?_
            obtain ⟨x9, hx9, h⟩ := zbind h
            refine zt_callv (t_By_addNumber hx9) (zrun_V (rest := []) dX11_mouse_91 ml_X11_114 rfl rfl (by decide) (by decide) rfl (Nat.le_of_ble_eq_true rfl)) rfl rfl sb_TCo_TBy_1 hl hl ?_
            refine zr_aload ⟨_, dX11_mouse_94, rfl⟩ rfl ?_
            refine zt_getr dX11_mouse_95 fl_X11_14 rfl rfl ?_
            refine zr_bipush dX11_mouse_98 (by decide) (by decide) ?_
            obtain ⟨x10, hx10, h⟩ := zbind h
            refine zt_calli (t_By_add hx10) (zrun_V (rest := []) dX11_mouse_100 ml_X11_90 rfl rfl (by decide) (by decide) rfl (Nat.le_of_ble_eq_true rfl)) rfl rfl sb_TCo_TBy_1 hl hl ?_
            refine zr_pop dX11_mouse_103 (Or.inr ⟨_, rfl⟩) ?_
            refine zr_aload ⟨_, dX11_mouse_104, rfl⟩ rfl ?_
            refine zt_getr dX11_mouse_105 fl_X11_14 rfl rfl ?_
            refine zr_load ⟨_, dX11_mouse_108, rfl⟩ rfl ?_
            refine zr_iconst dX11_mouse_109 (by decide) ?_
            refine zr_iadd dX11_mouse_110 ?_
            obtain ⟨x11, hx11, h⟩ := zbind h
            refine zt_callv (t_By_addNumber hx11) (zrun_V (rest := []) dX11_mouse_111 ml_X11_114 rfl rfl (by decide) (by decide) rfl (Nat.le_of_ble_eq_true rfl)) rfl rfl sb_TCo_TBy_1 hl hl ?_
            refine zr_aload ⟨_, dX11_mouse_114, rfl⟩ rfl ?_
            refine zt_getr dX11_mouse_115 fl_X11_14 rfl rfl ?_
            refine zr_bipush dX11_mouse_118 (by decide) (by decide) ?_
            obtain ⟨x12, hx12, h⟩ := zbind h
            refine zt_calli (t_By_add hx12) (zrun_V (rest := []) dX11_mouse_120 ml_X11_90 rfl rfl (by decide) (by decide) rfl (Nat.le_of_ble_eq_true rfl)) rfl rfl sb_TCo_TBy_1 hl hl ?_
            refine zr_pop dX11_mouse_123 (Or.inr ⟨_, rfl⟩) ?_
            refine zr_aload ⟨_, dX11_mouse_124, rfl⟩ rfl ?_
            refine zt_getr dX11_mouse_125 fl_X11_14 rfl rfl ?_
            refine zr_load ⟨_, dX11_mouse_128, rfl⟩ rfl ?_
            refine zr_iconst dX11_mouse_129 (by decide) ?_
            refine zr_iadd dX11_mouse_130 ?_
            obtain ⟨x13, hx13, h⟩ := zbind h
            refine zt_callv (t_By_addNumber hx13) (zrun_V (rest := []) dX11_mouse_131 ml_X11_114 rfl rfl (by decide) (by decide) rfl (Nat.le_of_ble_eq_true rfl)) rfl rfl sb_TCo_TBy_1 hl hl ?_
            refine zr_aload ⟨_, dX11_mouse_134, rfl⟩ rfl ?_
            refine zt_getr dX11_mouse_135 fl_X11_14 rfl rfl ?_
            refine zr_bipush dX11_mouse_138 (by decide) (by decide) ?_
            obtain ⟨x14, hx14, h⟩ := zbind h
            refine zt_calli (t_By_add hx14) (zrun_V (rest := []) dX11_mouse_140 ml_X11_90 rfl rfl (by decide) (by decide) rfl (Nat.le_of_ble_eq_true rfl)) rfl rfl sb_TCo_TBy_1 hl hl ?_
            refine zr_pop dX11_mouse_143 (Or.inr ⟨_, rfl⟩) ?_
            refine zr_aload ⟨_, dX11_mouse_144, rfl⟩ rfl ?_
            refine zt_getr dX11_mouse_145 fl_X11_14 rfl rfl ?_
            obtain ⟨x15, hx15, h⟩ := zbind h
            refine zt_callis (t_By_count hx15) (zrun_V (rest := []) dX11_mouse_148 ml_X11_77 rfl rfl (by decide) (by decide) rfl (Nat.le_of_ble_eq_true rfl)) rfl rfl sb_TCo_TBy_1 hl hl ?_
            refine zr_storew dX11_mouse_151 (by decide) rfl ?_
            refine zr_aload ⟨_, dX11_mouse_153, rfl⟩ rfl ?_
            obtain ⟨x16, hx16, h⟩ := zbind h
            obtain ⟨hq1, h, hq2⟩ := zmn_some h
            have hm0 : zpot 42 res.2 ≤ zpot 42 (zpb (zsh 1) 2 (zpb (zsh 1) 2 (zpb (zsh 1) 2 (zpb (zsh 1) 2 (zpb (zsh 1) 2 (zpb (zsh 1) 2 (zpb (zsh 1) 2 (zpb (zsh 1) 2 (zpb (zsh 1) 2 s x6.2) x7.2) x8.2) x9.2) x10.2) x11.2) x12.2) x13.2) x14.2) := hm
            have hu0 : u + (zpot 42 (zpb (zsh 1) 2 (zpb (zsh 1) 2 (zpb (zsh 1) 2 (zpb (zsh 1) 2 (zpb (zsh 1) 2 (zpb (zsh 1) 2 (zpb (zsh 1) 2 (zpb (zsh 1) 2 (zpb (zsh 1) 2 s x6.2) x7.2) x8.2) x9.2) x10.2) x11.2) x12.2) x13.2) x14.2) - zpot 42 res.2) ≤ mc := hu
            have hm : zpot 42 res.2 ≤ zpot 42 x16.2 := by omega
            have hcs := t_Co_settle hx16 hq1
            refine zg_calli (kc := zpot 42 (zpb (zsh 1) 2 (zpb (zsh 1) 2 (zpb (zsh 1) 2 (zpb (zsh 1) 2 (zpb (zsh 1) 2 (zpb (zsh 1) 2 (zpb (zsh 1) 2 (zpb (zsh 1) 2 (zpb (zsh 1) 2 s x6.2) x7.2) x8.2) x9.2) x10.2) x11.2) x12.2) x13.2) x14.2) - zpot 42 x16.2) (v := 42) (zrun_V (rest := []) dX11_mouse_154 ml_X11_71 rfl rfl (by decide) (by decide) rfl (Nat.le_of_ble_eq_true rfl)) hcs rfl rfl (fun k hk => hk) rfl rfl (fun x hx => by cases hx) (by decide +kernel) (by omega) (by omega) ?_
            obtain ⟨u17, eu17⟩ : ∃ z, z = u + (zpot 42 (zpb (zsh 1) 2 (zpb (zsh 1) 2 (zpb (zsh 1) 2 (zpb (zsh 1) 2 (zpb (zsh 1) 2 (zpb (zsh 1) 2 (zpb (zsh 1) 2 (zpb (zsh 1) 2 (zpb (zsh 1) 2 s x6.2) x7.2) x8.2) x9.2) x10.2) x11.2) x12.2) x13.2) x14.2) - zpot 42 x16.2) := ⟨_, rfl⟩
            rw [← eu17]
            have hu : u17 + (zpot 42 x16.2 - zpot 42 res.2) ≤ mc := by omega
            have hl : u17 ≤ mc := by omega
            refine zr_loadw dX11_mouse_157 rfl ?_
            obtain rfl := Option.some.inj h
            exact zr_iret dX11_mouse_159 rfl hl hl ⟨rfl, rfl⟩
          · replace h := zneg h hc5
            refine zr_iconst dX11_mouse_54 (by decide) ?_
            obtain rfl := Option.some.inj h
            exact zr_iret dX11_mouse_55 rfl hl hl ⟨rfl, rfl⟩
        · replace h := zneg h hc4
          cases h
    · replace h := zneg h hc2
      cases h
  exact zSpec_of (by decide +kernel) (Nat.le_of_ble_eq_true rfl) (key _ 0 (by omega))

set_option maxRecDepth 100000 in
set_option maxHeartbeats 4000000 in
theorem t_Co_paste_l31 {c1 c2 : Int} {r : Option zAV} {s0 : zSt} {mc u : Nat} (hl : u ≤ mc)  : ∀ (n : Nat) (x : Int × zSt) (out : zSt), zloop (f_Co_paste_l31 c1 c2) n x = some out → (zB m_X11_paste (zR 10 mc mc) (zFq mc mc (fun k => k ≠ 42) (fun r1 w1 => r1 = r ∧ w1 = ziT s0 0 TCo)) (fun k => k ≠ 42) 68 [some (.inr (.inl (some 0))), some (.inl c1), none, none, none] [] (ziT out 0 TCo) u u) → zB m_X11_paste (zR 10 mc mc) (zFq mc mc (fun k => k ≠ 42) (fun r1 w1 => r1 = r ∧ w1 = ziT s0 0 TCo)) (fun k => k ≠ 42) 31 [some (.inr (.inl (some 0))), some (.inl c1), some (.inl c2), some (.inl x.1), none] [] (ziT x.2 0 TCo) u u := by
  refine zloop_B (B := fun (x : Int × zSt) (out : zSt) => zB m_X11_paste (zR 10 mc mc) (zFq mc mc (fun k => k ≠ 42) (fun r1 w1 => r1 = r ∧ w1 = ziT s0 0 TCo)) (fun k => k ≠ 42) 68 [some (.inr (.inl (some 0))), some (.inl c1), none, none, none] [] (ziT out 0 TCo) u u → zB m_X11_paste (zR 10 mc mc) (zFq mc mc (fun k => k ≠ 42) (fun r1 w1 => r1 = r ∧ w1 = ziT s0 0 TCo)) (fun k => k ≠ 42) 31 [some (.inr (.inl (some 0))), some (.inl c1), some (.inl c2), some (.inl x.1), none] [] (ziT x.2 0 TCo) u u) ?_
  intro x o out h hk hx
  unfold f_Co_paste_l31 at h
  refine zr_load ⟨_, dX11_paste_31, rfl⟩ rfl ?_
  refine zr_load ⟨_, dX11_paste_32, rfl⟩ rfl ?_
  refine zr_ic_ge (tgt := 68) dX11_paste_33 (by decide) (fun hc1 => ?_) (fun hc1 => ?_)
  · replace h := zpos h hc1
    refine zr_mask [true, true, false, false, false] rfl ?_
    obtain rfl := Option.some.inj h
    obtain rfl := hk
    exact hx
  · replace h := zneg h hc1
    refine zr_aload ⟨_, dX11_paste_36, rfl⟩ rfl ?_
    refine zt_getr dX11_paste_37 fl_X11_18 rfl rfl ?_
    obtain ⟨x2, hx2, h⟩ := zbind h
    refine zt_calli (t_By_removeFirst hx2) (zrun_V (rest := []) dX11_paste_40 ml_X11_128 rfl rfl (by decide) (by decide) rfl (Nat.le_of_ble_eq_true rfl)) rfl rfl sb_TCo_TBy_3 hl hl ?_
    refine zr_storew dX11_paste_43 (by decide) rfl ?_
    refine zr_loadw dX11_paste_45 rfl ?_
    refine zr_bipush dX11_paste_47 (by decide) (by decide) ?_
    refine zr_ic_eq (tgt := 62) dX11_paste_49 (by decide) (fun hc3 => ?_) (fun hc3 => ?_)
    · replace h := zpos h hc3
      refine zr_iinc dX11_paste_62 rfl (by decide) rfl ?_
      refine zr_goto (tgt := 31) dX11_paste_65 (by decide) ?_
      refine zr_mask [true, true, true, true, false] rfl ?_
      obtain rfl := Option.some.inj h
      exact hk hx
    · replace h := zneg h hc3
      refine zr_aload ⟨_, dX11_paste_52, rfl⟩ rfl ?_
      refine zt_getr dX11_paste_53 fl_X11_14 rfl rfl ?_
      refine zr_loadw dX11_paste_56 rfl ?_
      obtain ⟨x4, hx4, h⟩ := zbind h
      refine zt_calli (t_By_add hx4) (zrun_V (rest := []) dX11_paste_58 ml_X11_90 rfl rfl (by decide) (by decide) rfl (Nat.le_of_ble_eq_true rfl)) rfl rfl sb_TCo_TBy_1 hl hl ?_
      refine zr_pop dX11_paste_61 (Or.inr ⟨_, rfl⟩) ?_
      refine zr_iinc dX11_paste_62 rfl (by decide) rfl ?_
      refine zr_goto (tgt := 31) dX11_paste_65 (by decide) ?_
      refine zr_mask [true, true, true, true, false] rfl ?_
      obtain rfl := Option.some.inj h
      exact hk hx
set_option maxRecDepth 100000 in
set_option maxHeartbeats 4000000 in
theorem t_Co_paste_j78  {s : zSt} {res : Int × zSt} (h : f_Co_paste_j78 s = some res) (hm : zpot 42 res.2 ≤ zpot 42 s) {mc u : Nat} (hu : u + (zpot 42 s - zpot 42 res.2) ≤ mc) : zB m_X11_paste (zR 10 mc mc) (zFq mc mc (fun k => k ≠ 42) (fun r1 w1 => r1 = (some (.inl res.1)) ∧ w1 = ziT res.2 0 TCo)) (fun k => k ≠ 42) 78 [some (.inr (.inl (some 0))), none, none, none, none] [] (ziT s 0 TCo) u u := by
  have hl : u ≤ mc := by omega
  unfold f_Co_paste_j78 at h
  refine zr_aload ⟨_, dX11_paste_78, rfl⟩ rfl ?_
  refine zt_getr dX11_paste_79 fl_X11_14 rfl rfl ?_
  obtain ⟨x1, hx1, h⟩ := zbind h
  refine zt_callis (t_By_count hx1) (zrun_V (rest := []) dX11_paste_82 ml_X11_77 rfl rfl (by decide) (by decide) rfl (Nat.le_of_ble_eq_true rfl)) rfl rfl sb_TCo_TBy_1 hl hl ?_
  refine zr_store ⟨_, dX11_paste_85, rfl⟩ (by decide) rfl ?_
  refine zr_aload ⟨_, dX11_paste_86, rfl⟩ rfl ?_
  obtain ⟨x2, hx2, h⟩ := zbind h
  obtain ⟨hq1, h, hq2⟩ := zmn_some h
  have hm0 : zpot 42 res.2 ≤ zpot 42 s := hm
  have hu0 : u + (zpot 42 s - zpot 42 res.2) ≤ mc := hu
  have hm : zpot 42 res.2 ≤ zpot 42 x2.2 := by omega
  have hcs := t_Co_settle hx2 hq1
  refine zg_calli (kc := zpot 42 s - zpot 42 x2.2) (v := 42) (zrun_V (rest := []) dX11_paste_87 ml_X11_71 rfl rfl (by decide) (by decide) rfl (Nat.le_of_ble_eq_true rfl)) hcs rfl rfl (fun k hk => hk) rfl rfl (fun x hx => by cases hx) (by decide +kernel) (by omega) (by omega) ?_
  obtain ⟨u3, eu3⟩ : ∃ z, z = u + (zpot 42 s - zpot 42 x2.2) := ⟨_, rfl⟩
  rw [← eu3]
  have hu : u3 + (zpot 42 x2.2 - zpot 42 res.2) ≤ mc := by omega
  have hl : u3 ≤ mc := by omega
  refine zr_load ⟨_, dX11_paste_90, rfl⟩ rfl ?_
  obtain rfl := Option.some.inj h
  exact zr_iret dX11_paste_91 rfl hl hl ⟨rfl, rfl⟩
set_option maxRecDepth 100000 in
set_option maxHeartbeats 4000000 in
theorem t_Co_paste_j21 {v1 : Int} {s : zSt} {res : Int × zSt} (h : f_Co_paste_j21 v1 s = some res) (hm : zpot 42 res.2 ≤ zpot 42 s) {mc u : Nat} (hu : u + (zpot 42 s - zpot 42 res.2) ≤ mc) : zB m_X11_paste (zR 10 mc mc) (zFq mc mc (fun k => k ≠ 42) (fun r1 w1 => r1 = (some (.inl res.1)) ∧ w1 = ziT res.2 0 TCo)) (fun k => k ≠ 42) 21 [some (.inr (.inl (some 0))), some (.inl v1), none, none, none] [] (ziT s 0 TCo) u u := by
  have hl : u ≤ mc := by omega
  unfold f_Co_paste_j21 at h
  refine zr_aload ⟨_, dX11_paste_21, rfl⟩ rfl ?_
  refine zt_getr dX11_paste_22 fl_X11_18 rfl rfl ?_
  obtain ⟨x1, hx1, h⟩ := zbind h
  refine zt_callis (t_By_count hx1) (zrun_V (rest := []) dX11_paste_25 ml_X11_77 rfl rfl (by decide) (by decide) rfl (Nat.le_of_ble_eq_true rfl)) rfl rfl sb_TCo_TBy_3 hl hl ?_
  refine zr_store ⟨_, dX11_paste_28, rfl⟩ (by decide) rfl ?_
  refine zr_iconst dX11_paste_29 (by decide) ?_
  refine zr_store ⟨_, dX11_paste_30, rfl⟩ (by decide) rfl ?_
  obtain ⟨y2, hy2, h⟩ := zbind h
  refine t_Co_paste_l31 hl _ _ _ hy2 ?_
  obtain ⟨hq1, h, hq2⟩ := zmn_some h
  have hm0 : zpot 42 res.2 ≤ zpot 42 s := hm
  have hu0 : u + (zpot 42 s - zpot 42 res.2) ≤ mc := hu
  have hm : zpot 42 res.2 ≤ zpot 42 y2 := by omega
  have hu : u + (zpot 42 y2 - zpot 42 res.2) ≤ mc := by omega
  refine zr_load ⟨_, dX11_paste_68, rfl⟩ rfl ?_
  refine zr_if_eq (tgt := 78) dX11_paste_69 (by decide) (fun hc3 => ?_) (fun hc3 => ?_)
  · replace h := zpos h hc3
    refine zr_mask [true, false, false, false, false] rfl ?_
    exact t_Co_paste_j78 h hm hu
  · replace h := zneg h hc3
    refine zr_aload ⟨_, dX11_paste_72, rfl⟩ rfl ?_
    refine zr_bipush dX11_paste_73 (by decide) (by decide) ?_
    obtain ⟨x4, hx4, h⟩ := zbind h
    obtain ⟨hq1, h, hq2⟩ := zmn_some h
    have hm0 : zpot 42 res.2 ≤ zpot 42 y2 := hm
    have hu0 : u + (zpot 42 y2 - zpot 42 res.2) ≤ mc := hu
    have hm : zpot 42 res.2 ≤ zpot 42 x4.2 := by omega
    have hu : u + (zpot 42 x4.2 - zpot 42 res.2) ≤ mc := by omega
    refine zt_calliv (t_Co_addBracket hx4) (zrun_V (rest := []) dX11_paste_75 ml_X11_125 rfl rfl (by decide) (by decide) rfl (Nat.le_of_ble_eq_true rfl)) rfl rfl hl hl ?_
    refine zr_mask [true, false, false, false, false] rfl ?_
    exact t_Co_paste_j78 h hm hu
set_option maxRecDepth 100000 in
set_option maxHeartbeats 4000000 in
theorem t_Co_paste  {s : zSt} {res : Int × zSt} (h : f_Co_paste s = some res) (hm : zpot 42 res.2 ≤ zpot 42 s) : zSpecG 10 42 m_X11_paste [.inr (.inl (some 0))] TCo s (some (.inl res.1)) res.2 := by
  have key : ∀ mc u : Nat, u + (zpot 42 s - zpot 42 res.2) ≤ mc → zB m_X11_paste (zR 10 mc mc) (zFq mc mc (fun k => k ≠ 42) (fun r1 w1 => r1 = (some (.inl res.1)) ∧ w1 = ziT res.2 0 TCo)) (fun k => k ≠ 42) 0 [some (.inr (.inl (some 0))), none, none, none, none] [] (ziT s 0 TCo) u u := by
    intro mc u hu
    have hl : u ≤ mc := by omega
    unfold f_Co_paste at h
    refine zr_aload ⟨_, dX11_paste_0, rfl⟩ rfl ?_
    refine zt_getr dX11_paste_1 fl_X11_31 rfl rfl ?_
    refine zt_getr dX11_paste_4 fl_X11_104 rfl rfl ?_
    refine zt_get dX11_paste_7 fl_X11_122 rfl rfl ?_
    refine zr_store ⟨_, dX11_paste_10, rfl⟩ (by decide) rfl ?_
    refine zr_load ⟨_, dX11_paste_11, rfl⟩ rfl ?_
    refine zr_if_eq (tgt := 21) dX11_paste_12 (by decide) (fun hc1 => ?_) (fun hc1 => ?_)
    · replace h := zpos h hc1
      exact t_Co_paste_j21 h hm hu
    · replace h := zneg h hc1
      refine zr_aload ⟨_, dX11_paste_15, rfl⟩ rfl ?_
      refine zr_bipush dX11_paste_16 (by decide) (by decide) ?_
      obtain ⟨x2, hx2, h⟩ := zbind h
      obtain ⟨hq1, h, hq2⟩ := zmn_some h
      have hm0 : zpot 42 res.2 ≤ zpot 42 s := hm
      have hu0 : u + (zpot 42 s - zpot 42 res.2) ≤ mc := hu
      have hm : zpot 42 res.2 ≤ zpot 42 x2.2 := by omega
      have hu : u + (zpot 42 x2.2 - zpot 42 res.2) ≤ mc := by omega
      refine zt_calliv (t_Co_addBracket hx2) (zrun_V (rest := []) dX11_paste_18 ml_X11_125 rfl rfl (by decide) (by decide) rfl (Nat.le_of_ble_eq_true rfl)) rfl rfl hl hl ?_
      exact t_Co_paste_j21 h hm hu
  exact zSpec_of (by decide +kernel) (Nat.le_of_ble_eq_true rfl) (key _ 0 (by omega))

set_option maxRecDepth 100000 in
set_option maxHeartbeats 4000000 in
theorem t_Co_type {a1 : Int} {s : zSt} {res : Int × zSt} (h : f_Co_type a1 s = some res) (hm : zpot 42 res.2 ≤ zpot 42 s) : zSpecG 10 42 m_X11_type [.inr (.inl (some 0)), .inl a1] TCo s (some (.inl res.1)) res.2 := by
  have key : ∀ mc u : Nat, u + (zpot 42 s - zpot 42 res.2) ≤ mc → zB m_X11_type (zR 10 mc mc) (zFq mc mc (fun k => k ≠ 42) (fun r1 w1 => r1 = (some (.inl res.1)) ∧ w1 = ziT res.2 0 TCo)) (fun k => k ≠ 42) 0 [some (.inr (.inl (some 0))), some (.inl a1)] [] (ziT s 0 TCo) u u := by
    intro mc u hu
    have hl : u ≤ mc := by omega
    unfold f_Co_type at h
    refine zr_load ⟨_, dX11_type_0, rfl⟩ rfl ?_
    refine zr_if_lt (tgt := 10) dX11_type_1 (by decide) (fun hc1 => ?_) (fun hc1 => ?_)
    · replace h := zpos h hc1
      cases h
    · replace h := zneg h hc1
      refine zr_load ⟨_, dX11_type_4, rfl⟩ rfl ?_
      refine zr_bipush dX11_type_5 (by decide) (by decide) ?_
      refine zr_ic_le (tgt := 20) dX11_type_7 (by decide) (fun hc2 => ?_) (fun hc2 => ?_)
      · replace h := zpos h hc2
        refine zr_aload ⟨_, dX11_type_20, rfl⟩ rfl ?_
        refine zt_getr dX11_type_21 fl_X11_14 rfl rfl ?_
        refine zr_load ⟨_, dX11_type_24, rfl⟩ rfl ?_
        obtain ⟨x3, hx3, h⟩ := zbind h
        refine zt_calli (t_By_add hx3) (zrun_V (rest := []) dX11_type_25 ml_X11_90 rfl rfl (by decide) (by decide) rfl (Nat.le_of_ble_eq_true rfl)) rfl rfl sb_TCo_TBy_1 hl hl ?_
        refine zr_pop dX11_type_28 (Or.inr ⟨_, rfl⟩) ?_
        refine zr_aload ⟨_, dX11_type_29, rfl⟩ rfl ?_
        obtain ⟨x4, hx4, h⟩ := zbind h
        obtain ⟨hq1, h, hq2⟩ := zmn_some h
        have hm0 : zpot 42 res.2 ≤ zpot 42 (zpb (zsh 1) 2 s x3.2) := hm
        have hu0 : u + (zpot 42 (zpb (zsh 1) 2 s x3.2) - zpot 42 res.2) ≤ mc := hu
        have hm : zpot 42 res.2 ≤ zpot 42 x4.2 := by omega
        have hcs := t_Co_settle hx4 hq1
        refine zg_calli (kc := zpot 42 (zpb (zsh 1) 2 s x3.2) - zpot 42 x4.2) (v := 42) (zrun_V (rest := []) dX11_type_30 ml_X11_71 rfl rfl (by decide) (by decide) rfl (Nat.le_of_ble_eq_true rfl)) hcs rfl rfl (fun k hk => hk) rfl rfl (fun x hx => by cases hx) (by decide +kernel) (by omega) (by omega) ?_
        obtain ⟨u5, eu5⟩ : ∃ z, z = u + (zpot 42 (zpb (zsh 1) 2 s x3.2) - zpot 42 x4.2) := ⟨_, rfl⟩
        rw [← eu5]
        have hu : u5 + (zpot 42 x4.2 - zpot 42 res.2) ≤ mc := by omega
        have hl : u5 ≤ mc := by omega
        refine zr_aload ⟨_, dX11_type_33, rfl⟩ rfl ?_
        refine zt_getr dX11_type_34 fl_X11_24 rfl rfl ?_
        refine zt_getr dX11_type_37 fl_X11_93 rfl rfl ?_
        obtain ⟨x6, hx6, h⟩ := zbind h
        refine zt_callis (t_By_count hx6) (zrun_V (rest := []) dX11_type_40 ml_X11_77 rfl rfl (by decide) (by decide) rfl (Nat.le_of_ble_eq_true rfl)) rfl rfl sb_TCo_TBy_6 hl hl ?_
        obtain rfl := Option.some.inj h
        exact zr_iret dX11_type_43 rfl hl hl ⟨rfl, rfl⟩
      · replace h := zneg h hc2
        cases h
  exact zSpec_of (by decide +kernel) (Nat.le_of_ble_eq_true rfl) (key _ 0 (by omega))

set_option maxRecDepth 100000 in
set_option maxHeartbeats 4000000 in
theorem t_Co_write {a1 : Int} {s : zSt} {res : Int × zSt} (h : f_Co_write a1 s = some res) (hm : zpot 42 res.2 ≤ zpot 42 s) : zSpecG 10 42 m_X11_write [.inr (.inl (some 0)), .inl a1] TCo s (some (.inl res.1)) res.2 := by
  have key : ∀ mc u : Nat, u + (zpot 42 s - zpot 42 res.2) ≤ mc → zB m_X11_write (zR 10 mc mc) (zFq mc mc (fun k => k ≠ 42) (fun r1 w1 => r1 = (some (.inl res.1)) ∧ w1 = ziT res.2 0 TCo)) (fun k => k ≠ 42) 0 [some (.inr (.inl (some 0))), some (.inl a1)] [] (ziT s 0 TCo) u u := by
    intro mc u hu
    have hl : u ≤ mc := by omega
    unfold f_Co_write at h
    refine zr_load ⟨_, dX11_write_0, rfl⟩ rfl ?_
    refine zr_if_lt (tgt := 10) dX11_write_1 (by decide) (fun hc1 => ?_) (fun hc1 => ?_)
    · replace h := zpos h hc1
      cases h
    · replace h := zneg h hc1
      refine zr_load ⟨_, dX11_write_4, rfl⟩ rfl ?_
      refine zr_bipush dX11_write_5 (by decide) (by decide) ?_
      refine zr_ic_le (tgt := 20) dX11_write_7 (by decide) (fun hc2 => ?_) (fun hc2 => ?_)
      · replace h := zpos h hc2
        refine zr_aload ⟨_, dX11_write_20, rfl⟩ rfl ?_
        refine zt_getr dX11_write_21 fl_X11_24 rfl rfl ?_
        refine zr_iconst dX11_write_24 (by decide) ?_
        obtain ⟨x3, hx3, h⟩ := zbind h
        refine zt_callis (t_Li_hasRoomFor hx3) (zrun_V (rest := []) dX11_write_25 ml_X11_59 rfl rfl (by decide) (by decide) rfl (Nat.le_of_ble_eq_true rfl)) rfl rfl sb_TCo_TLi_5 hl hl ?_
        refine zr_if_ne (tgt := 41) dX11_write_28 (by decide) (fun hc4 => ?_) (fun hc4 => ?_)
        · replace h := zpos h hc4
          refine zr_aload ⟨_, dX11_write_41, rfl⟩ rfl ?_
          refine zt_getr dX11_write_42 fl_X11_24 rfl rfl ?_
          refine zr_load ⟨_, dX11_write_45, rfl⟩ rfl ?_
          obtain ⟨x5, hx5, h⟩ := zbind h
          refine zt_callv (t_Li_bring hx5) (zrun_V (rest := []) dX11_write_46 ml_X11_68 rfl rfl (by decide) (by decide) rfl (Nat.le_of_ble_eq_true rfl)) rfl rfl sb_TCo_TLi_5 hl hl ?_
          refine zr_aload ⟨_, dX11_write_49, rfl⟩ rfl ?_
          obtain ⟨x6, hx6, h⟩ := zbind h
          obtain ⟨hq1, h, hq2⟩ := zmn_some h
          have hm0 : zpot 42 res.2 ≤ zpot 42 (zpb (zsh 5) 9 s x5.2) := hm
          have hu0 : u + (zpot 42 (zpb (zsh 5) 9 s x5.2) - zpot 42 res.2) ≤ mc := hu
          have hm : zpot 42 res.2 ≤ zpot 42 x6.2 := by omega
          have hcs := t_Co_settle hx6 hq1
          refine zg_calli (kc := zpot 42 (zpb (zsh 5) 9 s x5.2) - zpot 42 x6.2) (v := 42) (zrun_V (rest := []) dX11_write_50 ml_X11_71 rfl rfl (by decide) (by decide) rfl (Nat.le_of_ble_eq_true rfl)) hcs rfl rfl (fun k hk => hk) rfl rfl (fun x hx => by cases hx) (by decide +kernel) (by omega) (by omega) ?_
          obtain ⟨u7, eu7⟩ : ∃ z, z = u + (zpot 42 (zpb (zsh 5) 9 s x5.2) - zpot 42 x6.2) := ⟨_, rfl⟩
          rw [← eu7]
          have hu : u7 + (zpot 42 x6.2 - zpot 42 res.2) ≤ mc := by omega
          have hl : u7 ≤ mc := by omega
          refine zr_aload ⟨_, dX11_write_53, rfl⟩ rfl ?_
          refine zt_getr dX11_write_54 fl_X11_24 rfl rfl ?_
          refine zt_getr dX11_write_57 fl_X11_74 rfl rfl ?_
          obtain ⟨x8, hx8, h⟩ := zbind h
          refine zt_callis (t_By_count hx8) (zrun_V (rest := []) dX11_write_60 ml_X11_77 rfl rfl (by decide) (by decide) rfl (Nat.le_of_ble_eq_true rfl)) rfl rfl sb_TCo_TBy_8 hl hl ?_
          obtain rfl := Option.some.inj h
          exact zr_iret dX11_write_63 rfl hl hl ⟨rfl, rfl⟩
        · replace h := zneg h hc4
          cases h
      · replace h := zneg h hc2
        cases h
  exact zSpec_of (by decide +kernel) (Nat.le_of_ble_eq_true rfl) (key _ 0 (by omega))
