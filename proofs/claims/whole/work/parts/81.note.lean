/-! ===== the record's note, with Arrays.copyOf ===== -/
def zSpecG (d v : Nat) (M : zM) (av : List zAV) (T : List zTC) (s : zSt) (r : Option zAV) (s' : zSt) : Prop :=
  zSpec d (fun k => k ≠ v) (zpot v s - zpot v s') (zpot v s - zpot v s') M av (ziT s 0 T) (fun r' w' => r' = r ∧ w' = ziT s' 0 T)
theorem zg_calli {M Mc : zM} {d d' mc ms kc v : Nat} {F : zF} {P : Nat → Prop} {pc uc us : Nat} {L : List (Option zAV)} {st rest : List zAV} {T : List zTC} {s s' : zSt} {av : List zAV} {r : Option zAV}
    (hrun : zRunOf M Mc (zR d mc ms) d' kc kc pc T s L st rest (fun ad k => ad (zid k)) av) (hS : zSpec d' (fun k => k ≠ v) kc kc Mc av (ziT s 0 T) (fun r' w' => r' = r ∧ w' = ziT s' 0 T))
    (hst : (av.map (zrn zid)).reverse ++ rest = st) (hnl : znlb av = true) (hPv : ∀ k, P k → k ≠ v) (hL0 : zfL v L = true) (hR0 : zfS v rest = true) (hr0 : ∀ x, r = some x → zfV v x = true) (hvT : v < T.length) (huc : uc + kc ≤ mc) (hus : us + kc ≤ ms)
    (kk : zB M (zR d mc ms) F P (pc + 3) L ((r.map (zrn zid)).toList ++ rest) (ziT s' 0 T) (uc + kc) (us + kc)) : zB M (zR d mc ms) F P pc L st (ziT s 0 T) uc us := by
  have hid : zid = zsh 0 := rfl
  refine zg_call (b := 0) (v := v) (Tc := T) (s' := s') (av := av) (r := r) hrun hS (by rw [← hid]; exact hst) hnl (by rw [← hid]; exact zSub_id T) hvT hPv hL0 hR0 hr0 ?_ huc hus ?_
  · refine List.all_eq_true.mpr fun i hi => ?_
    have h1 := List.mem_range.mp hi
    simp [h1]
  · rw [← hid, zpb_id]
    exact kk
theorem t_copyOf {len : Nat} {n : Int} {f : Int → Int} (hn : (len : Int) < n ∧ n ≤ 100000) : zSpec 2 (fun k => k = 0) 1 n.toNat m_J7_copyOf_59c91 [.inr (.inl (some 0)), .inl n] [.inr (0, len, f)] (fun r' w' => r' = some (.inr (.inl (some 1))) ∧ w' = [.inr (0, len, f), .inr (0, n.toNat, zcpy f (fun _ => 0) 0 0 len)]) := by
  refine zSpec_of (by decide +kernel) (Nat.le_of_ble_eq_true rfl) ?_
  show zB m_J7_copyOf_59c91 (zR 2 1 n.toNat) (zFq 1 n.toNat (fun k => k = 0) (fun r' w' => r' = some (.inr (.inl (some 1))) ∧ w' = [.inr (0, len, f), .inr (0, n.toNat, zcpy f (fun _ => 0) 0 0 len)])) (fun k => k = 0) 0 [some (.inr (.inl (some 0))), some (.inl n), none] [] [.inr (0, len, f)] 0 0
  refine zr_load ⟨_, dJ7_copyOf_59c91_0, rfl⟩ rfl ?_
  refine zr_aload ⟨_, dJ7_copyOf_59c91_1, rfl⟩ rfl ?_
  refine zr_alen dJ7_copyOf_59c91_2 (n := len) (f := f) (tk := 0) rfl (by decide) ?_
  refine zr_ic_ne (tgt := 14) dJ7_copyOf_59c91_3 (by decide) (fun hc => ?_) (fun hc => absurd (show n = (len : Int) from Classical.not_not.mp hc) (by omega))
  refine zr_load ⟨_, dJ7_copyOf_59c91_14, rfl⟩ rfl ?_
  refine zr_newa (len := n.toNat) (v := 1) (tk := 0) dJ7_copyOf_59c91_15 (ty := .int) rfl (fun _ => rfl) (fun _ _ h => h) (fun _ => by simp [zeA, vp_cell, zof0, defaultValue]) ⟨by omega, fun _ _ _ => zin0⟩ (zmem (i := 186) (by decide +kernel) rfl) (by omega) rfl (by show n.toNat * 4 ≤ _; omega) rfl (by decide) rfl rfl rfl (Nat.le_refl _) (by show 0 + n.toNat ≤ n.toNat; omega) ?_
  refine zr_astore ⟨_, dJ7_copyOf_59c91_17, rfl⟩ (by decide) rfl ?_
  refine zr_aload ⟨_, dJ7_copyOf_59c91_18, rfl⟩ rfl ?_
  refine zr_iconst dJ7_copyOf_59c91_19 (by decide) ?_
  refine zr_aload ⟨_, dJ7_copyOf_59c91_20, rfl⟩ rfl ?_
  refine zr_iconst dJ7_copyOf_59c91_21 (by decide) ?_
  refine zr_aload ⟨_, dJ7_copyOf_59c91_22, rfl⟩ rfl ?_
  refine zr_alen dJ7_copyOf_59c91_23 (n := len) (f := f) (tk := 0) rfl (by decide) ?_
  refine zr_load ⟨_, dJ7_copyOf_59c91_24, rfl⟩ rfl ?_
  refine zr_min dJ7_copyOf_59c91_25 ml_J7_304 (by decide) (Nat.le_refl _) (by omega) (Nat.le_of_ble_eq_true rfl) ?_
  rw [if_neg (by omega)]
  have hs : ∃ s0 : zSt, (s0.1 0 0 = len ∧ s0.1 1 0 = n ∧ s0.2 0 = f ∧ s0.2 1 = fun _ => 0) ∧ [(.inr (0, len, f) : zAC), .inr (0, n.toNat, fun _ => 0)] = ziT s0 0 [.inr 0, .inr 0] := ⟨(fun i _ => if i = 0 then (len : Int) else n, fun i => if i = 0 then f else fun _ => 0), ⟨rfl, rfl, rfl, rfl⟩, rfl⟩
  obtain ⟨s0, ⟨e1, e2, e3, e4⟩, ew⟩ := hs
  show zB m_J7_copyOf_59c91 _ _ _ _ _ _ [(.inr (0, len, f) : zAC), .inr (0, n.toNat, fun _ => 0)] _ _
  rw [ew]
  refine zt_copy dJ7_copyOf_59c91_28 ml_J7_150 (i := 0) (j := 1) rfl rfl (by rw [e1, e2]; omega) (by decide) (Nat.le_refl _) (by omega) (Nat.le_of_ble_eq_true rfl) ?_
  refine zr_aload ⟨_, dJ7_copyOf_59c91_31, rfl⟩ rfl ?_
  refine zr_aret (C := "") dJ7_copyOf_59c91_32 (Or.inr rfl) (Nat.le_refl _) (by omega) ⟨rfl, ?_⟩
  simp [ziT, ziC, uA, e1, e2, e3, e4]
theorem t_Ta_note_j40 {a1 : Int} {s : zSt} {res : Int × zSt} (h : f_Ta_note_j40 a1 s = some res) {mc uc us : Nat} (hlc : uc ≤ mc) (hls : us ≤ mc) : zB m_X10_note (zR 3 mc mc) (zFq mc mc (fun k => k ≠ 1) (fun r1 w1 => r1 = none ∧ w1 = ziT res.2 0 TTa)) (fun k => k ≠ 1) 40 [some (.inr (.inl (some 0))), some (.inl a1)] [] (ziT s 0 TTa) uc us := by
  unfold f_Ta_note_j40 at h
  obtain ⟨h0, h⟩ := zchk h
  refine zr_aload ⟨_, dX10_note_40, rfl⟩ rfl ?_
  refine zt_get dX10_note_41 fl_X10_17 rfl rfl ?_
  refine zr_if_lt (tgt := 79) dX10_note_44 (by decide) (fun hc1 => ?_) (fun hc1 => ?_)
  · replace h := zpos h hc1
    obtain rfl := Option.some.inj h
    exact zr_vret dX10_note_79 rfl hlc hls ⟨rfl, rfl⟩
  · replace h := zneg h hc1
    refine zr_aload ⟨_, dX10_note_47, rfl⟩ rfl ?_
    refine zt_get dX10_note_48 fl_X10_17 rfl rfl ?_
    refine zr_aload ⟨_, dX10_note_51, rfl⟩ rfl ?_
    refine zt_getr dX10_note_52 fl_X10_9 rfl rfl ?_
    refine zt_alen dX10_note_55 rfl (by decide) h0 ?_
    refine zr_ic_ge (tgt := 79) dX10_note_56 (by decide) (fun hc2 => ?_) (fun hc2 => ?_)
    · replace h := zpos h hc2
      obtain rfl := Option.some.inj h
      exact zr_vret dX10_note_79 rfl hlc hls ⟨rfl, rfl⟩
    · replace h := zneg h hc2
      refine zr_aload ⟨_, dX10_note_59, rfl⟩ rfl ?_
      refine zt_getr dX10_note_60 fl_X10_9 rfl rfl ?_
      refine zr_aload ⟨_, dX10_note_63, rfl⟩ rfl ?_
      refine zt_get dX10_note_64 fl_X10_17 rfl rfl ?_
      refine zr_load ⟨_, dX10_note_67, rfl⟩ rfl ?_
      refine zt_iastore dX10_note_68 rfl ⟨by omega, by omega⟩ ?_
      refine zr_aload ⟨_, dX10_note_69, rfl⟩ rfl ?_
      refine zr_dup dX10_note_70 (Or.inl True.intro) ?_
      refine zt_get dX10_note_71 fl_X10_17 rfl rfl ?_
      refine zr_iconst dX10_note_74 (by decide) ?_
      refine zr_iadd dX10_note_75 ?_
      refine zt_put dX10_note_76 fl_X10_17 rfl rfl ?_
      obtain rfl := Option.some.inj h
      exact zr_vret dX10_note_79 rfl hlc hls ⟨rfl, rfl⟩
theorem zj40_len {a1 : Int} {s : zSt} {res : Int × zSt} (h : f_Ta_note_j40 a1 s = some res) : res.2.1 1 0 = s.1 1 0 := by
  unfold f_Ta_note_j40 at h
  obtain ⟨h0, h⟩ := zchk h
  by_cases h1 : s.1 0 1 < 0
  · rw [if_pos h1] at h
    cases h
    rfl
  · rw [if_neg h1] at h
    by_cases h2 : s.1 1 0 ≤ s.1 0 1
    · rw [if_pos h2] at h
      cases h
      rfl
    · rw [if_neg h2] at h
      cases h
      rfl
theorem t_Ta_note {a1 : Int} {s : zSt} {res : Int × zSt} (h : f_Ta_note a1 s = some res) (hm : zpot 1 res.2 ≤ zpot 1 s) : zSpecG 3 1 m_X10_note [.inr (.inl (some 0)), .inl a1] TTa s none res.2 := by
  have key : ∀ mc : Nat, zpot 1 s - zpot 1 res.2 ≤ mc → zB m_X10_note (zR 3 mc mc) (zFq mc mc (fun k => k ≠ 1) (fun r1 w1 => r1 = none ∧ w1 = ziT res.2 0 TTa)) (fun k => k ≠ 1) 0 [some (.inr (.inl (some 0))), some (.inl a1)] [] (ziT s 0 TTa) 0 0 := by
    intro mc hu
    unfold f_Ta_note at h
    obtain ⟨h0, h⟩ := zchk h
    refine zr_aload ⟨_, dX10_note_0, rfl⟩ rfl ?_
    refine zt_get dX10_note_1 fl_X10_17 rfl rfl ?_
    refine zr_aload ⟨_, dX10_note_4, rfl⟩ rfl ?_
    refine zt_getr dX10_note_5 fl_X10_9 rfl rfl ?_
    refine zt_alen dX10_note_8 rfl (by decide) h0 ?_
    refine zr_ic_lt (tgt := 40) dX10_note_9 (by decide) (fun hc1 => ?_) (fun hc1 => ?_)
    · replace h := zpos h hc1
      exact t_Ta_note_j40 h (Nat.zero_le _) (Nat.zero_le _)
    · replace h := zneg h hc1
      refine zr_aload ⟨_, dX10_note_12, rfl⟩ rfl ?_
      refine zt_getr dX10_note_13 fl_X10_9 rfl rfl ?_
      refine zt_alen dX10_note_16 rfl (by decide) h0 ?_
      refine zr_ldc dX10_note_17 k_X10_21 (by decide) ?_
      refine zr_ic_ge (tgt := 40) dX10_note_19 (by decide) (fun hc2 => ?_) (fun hc2 => ?_)
      · replace h := zpos h hc2
        exact t_Ta_note_j40 h (Nat.zero_le _) (Nat.zero_le _)
      · replace h := zneg h hc2
        obtain ⟨hb, h⟩ := zchk h
        have hlen := zj40_len h
        have hl2 : (uS (uA s 1 (zcpy (s.2 1) (fun _ => 0) 0 0 (s.1 1 0))) 1 0 ((s.1 1 0) * 2)).1 1 0 = s.1 1 0 * 2 := rfl
        rw [hl2] at hlen
        have hu2 : (s.1 1 0 * 2).toNat ≤ mc ∧ 1 ≤ mc := by
          unfold zpot at hu
          rw [hlen] at hu
          omega
        refine zr_aload ⟨_, dX10_note_22, rfl⟩ rfl ?_
        refine zr_aload ⟨_, dX10_note_23, rfl⟩ rfl ?_
        refine zt_getr dX10_note_24 fl_X10_9 rfl rfl ?_
        refine zr_aload ⟨_, dX10_note_27, rfl⟩ rfl ?_
        refine zt_getr dX10_note_28 fl_X10_9 rfl rfl ?_
        refine zt_alen dX10_note_31 rfl (by decide) h0 ?_
        refine zr_iconst dX10_note_32 (by decide) ?_
        refine zr_imul dX10_note_33 ?_
        rw [w32_of ⟨by omega, by omega⟩]
        refine zr_weakP (P1 := fun k => k ≠ 2 ∧ k ≠ 1) (fun k hk => hk.2) ?_
        refine zt_fresh (i := 1) (v := 2) (mcc := 1) (msc := (s.1 1 0 * 2).toNat) (as := [.inl (s.1 1 0 * 2)]) (rest := [.inr (.inl (some 0))]) (a0 := (0, (s.1 1 0).toNat, s.2 1)) (zrun_SW dX10_note_34 ml_X10_22 rfl (by decide) (by decide) rfl (Nat.le_of_ble_eq_true rfl)) (t_copyOf ⟨by omega, by omega⟩) rfl rfl rfl rfl (fun q => q.1 rfl) rfl rfl rfl (by omega) (by omega) ?_
        refine zr_put (ty := .array .int) (fs := [.inr (.inl (some 1)), .inl (s.1 0 1), .inl (s.1 0 2)]) dX10_note_37 fl_X10_9 rfl (Nat.le_of_ble_eq_true rfl) (by decide +kernel) True.intro (fun ad => ⟨rfl, rfl⟩) rfl ?_
        refine zr_reloc (P := fun k => k ≠ 1) (f1 := [.inr (.inl (some 1)), .inl (s.1 0 1), .inl (s.1 0 2)]) (fun ad x => rfl) (fun q v hv => ?_) (fun k hk => ⟨hk, ?_⟩) rfl rfl rfl rfl ?_
        · rcases List.mem_cons.mp hv with rfl | hv
          · exact True.intro
          · exact q v (List.mem_cons_of_mem _ hv)
        · by_cases q : k = 2
          · exact Or.inl q
          · exact Or.inr ⟨q, hk⟩
        have e1 : ((s.1 1 0).toNat : Int) = s.1 1 0 := Int.toNat_of_nonneg h0
        rw [e1]
        exact t_Ta_note_j40 h (by omega) (by omega)
  exact zSpec_of (by decide +kernel) (Nat.le_of_ble_eq_true rfl) (key _ (Nat.le_refl _))
