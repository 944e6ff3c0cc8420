set_option maxRecDepth 100000 in
set_option maxHeartbeats 1000000 in
theorem lc_write {b L N N' B uc us : Nat} {xs : Nat → Int32} {i : Int} {C r : zSt} {g : Int → Int} (hi : 0 ≤ i ∧ i + 5 ≤ L) (hLm : L ≤ 2560) (hW : zWh B C r) (hB : B + 100 < 65536) (huc : uc + zpot 42 C ≤ N) (hus : us + zpot 42 C ≤ N') (hN : N + 1 ≤ 601024) (hN' : N' + 6 ≤ 7293034)
    (hK : ∀ (C' r' : zSt) (g' : Int → Int) (uc' us' : Nat), zWh (B + 100) C' r' → uc' + zpot 42 C' ≤ N + 1 → us' + zpot 42 C' ≤ N' + 6 → zB m_L_law RLw (FLw b L xs) PLw 1159 (zLL i none none) [] (zLwld C' r' g') uc' us') :
    zB m_L_law RLw (FLw b L xs) PLw 124 (zLL i none none) [] (zLwld C r g) uc us := by
  have e1 : w32 (i + 1) = i + 1 := w32i (by omega) (by omega)
  have hi1 : 0 ≤ w32 (i + 1) ∧ w32 (i + 1) < L := by rw [e1]; omega
  obtain ⟨a1, ha1⟩ : ∃ a, a = zxs xs (w32 (i + 1)) := ⟨_, rfl⟩
  rcases M_write hW hB a1 with ⟨v, C', r', f1, f2, f3, f4⟩ | ⟨j, ⟨v, r', f1, f2, f3, f4⟩, hj⟩
  · have hm : zpot 42 C' ≤ zpot 42 C := mo_write f1
    refine zr_aload ⟨_, dL_law_124, rfl⟩ rfl ?_
    refine zr_aload ⟨_, dL_law_125, rfl⟩ rfl ?_
    refine zr_loadw dL_law_126 rfl ?_
    refine zr_iconst dL_law_128 (by decide) ?_
    refine zr_iadd dL_law_129 ?_
    refine zr_sld dL_law_130 hi1 rfl ?_
    rw [← ha1]
    refine zr_aload ⟨_, dL_law_131, rfl⟩ rfl ?_
    have c132 := la_write (g := g) f1 hm
    refine zg_callW (r := some (.inl 0)) (v := 42) (zRunQ_H (rest := []) c132 dL_law_132 ls_write cw_write cl_write rfl (by decide) (by decide) (by decide) zMv_law zMv_lw (zFr_Ll (C := C) (r := r) (g := g) (C' := C') (g' := (zup g 0 v))).1 (zFr_Ll (C := C) (r := r) (g := g) (C' := C') (g' := (zup g 0 v))).2.1 rfl rfl) (zFr_Ll (C := C) (r := r) (g := g) (C' := C') (g' := (zup g 0 v))) (fun k h => h) (fun x hx => absurd hx List.not_mem_nil) (fun k h => by rw [show k = 999 from h]; decide) rfl rfl (by show _ ≤ 601024; omega) (by show _ ≤ 7293034; omega) ?_
    show zB m_L_law RLw (FLw b L xs) PLw 135 (zLL i none none) [.inl 0] (zLwld C' r (zup g 0 v)) _ _
    refine zr_storew dL_law_135 (by decide) rfl ?_
    refine zr_aload ⟨_, dL_law_137, rfl⟩ rfl ?_
    refine zr_aload ⟨_, dL_law_138, rfl⟩ rfl ?_
    refine zr_loadw dL_law_139 rfl ?_
    refine zr_iconst dL_law_141 (by decide) ?_
    refine zr_iadd dL_law_142 ?_
    refine zr_sld dL_law_143 hi1 rfl ?_
    rw [← ha1]
    have c144 : zSpecF zTrv 10 zall 0 0 m_X12_write [.inr (.inl (some 0)), .inl a1] (ziT r 0 TRf) (fun r1 w1 => r1 = some (.inl v) ∧ w1 = ziT r' 0 TRf) := by
      have h0 := t_Rf_write f2
      exact zSpecT.F h0
    refine zg_callW (r := some (.inl v)) (v := 500) (zRunQ_of (zrun_VW (f := zsh 76) (rest := []) dL_law_144 ml_L_71 zLw_76 rfl (by decide) (by decide) rfl (by decide)) c144 zMv_tr zMv_tr (zFr_Rl (C := C') (r := r) (g := (zup g 0 v)) (r' := r')).1 (zFr_Rl (C := C') (r := r) (g := (zup g 0 v)) (r' := r')).2.1 rfl rfl) (zFr_Rl (C := C') (r := r) (g := (zup g 0 v)) (r' := r')) (fun _ _ => True.intro) (fun x hx => absurd hx List.not_mem_nil) (fun k h => by rw [show k = 999 from h]; decide) rfl rfl (by show _ ≤ 601024; omega) (by show _ ≤ 7293034; omega) ?_
    show zB m_L_law RLw (FLw b L xs) PLw 147 (zLL i (some (.inl 0)) none) [.inl v] (zLwld C' r' (zup g 0 v)) _ _
    refine zr_storew dL_law_147 (by decide) rfl ?_
    refine zr_aload ⟨_, dL_law_149, rfl⟩ rfl ?_
    have c150 : zSpecF zTrv 1 zall 0 0 m_X12_thrown [.inr (.inl (some 0))] (ziT r' 0 TRf) (fun r1 w1 => r1 = some (.inl 0) ∧ w1 = ziT r' 0 TRf) := by
      have h0 := t_Rf_thrown (res := 0) (congrArg some f3)
      exact zSpecT.F h0
    refine zg_callW (r := some (.inl 0)) (v := 500) (zRunQ_of (zrun_VW (f := zsh 76) (rest := []) dL_law_150 ml_L_72 zLw_76 rfl (by decide) (by decide) rfl (by decide)) c150 zMv_tr zMv_tr (zFr_Rl (C := C') (r := r') (g := (zup g 0 v)) (r' := r')).1 (zFr_Rl (C := C') (r := r') (g := (zup g 0 v)) (r' := r')).2.1 rfl rfl) (zFr_Rl (C := C') (r := r') (g := (zup g 0 v)) (r' := r')) (fun _ _ => True.intro) (fun x hx => absurd hx List.not_mem_nil) (fun k h => by rw [show k = 999 from h]; decide) rfl rfl (by show _ ≤ 601024; omega) (by show _ ≤ 7293034; omega) ?_
    show zB m_L_law RLw (FLw b L xs) PLw 153 (zLL i (some (.inl 0)) (some (.inl v))) [.inl 0] (zLwld C' r' (zup g 0 v)) _ _
    refine zr_loadw dL_law_153 rfl ?_
    refine zr_ic_eq (tgt := 160) dL_law_155 (by decide) (fun _ => ?_) (fun w => absurd rfl w)
    refine zr_loadw dL_law_160 rfl ?_
    refine zr_if_ne (tgt := 177) dL_law_162 (by decide) (fun w => absurd rfl w) (fun _ => ?_)
    refine zr_aload ⟨_, dL_law_165, rfl⟩ rfl ?_
    refine zr_iconst dL_law_166 (by decide) ?_
    refine zr_laload dL_law_167 zLw_92 ⟨by decide, by decide⟩ ?_
    rw [zup_same]
    refine zr_loadw dL_law_168 rfl ?_
    refine zr_i2l dL_law_170 ?_
    refine zr_lcmpS dL_law_171 ?_
    refine zr_if_eq (tgt := 177) dL_law_172 (by decide) (fun _ => ?_) (fun w => absurd rfl w)
    refine zr_goto (tgt := 1159) dL_law_177 (by decide) ?_
    refine zr_mask [true, true, true, true, true, false, false] rfl ?_
    exact hK _ _ _ _ _ f4 (by omega) (by omega)
  · rcases hj with rfl | rfl
    · refine zr_aload ⟨_, dL_law_124, rfl⟩ rfl ?_
      refine zr_aload ⟨_, dL_law_125, rfl⟩ rfl ?_
      refine zr_loadw dL_law_126 rfl ?_
      refine zr_iconst dL_law_128 (by decide) ?_
      refine zr_iadd dL_law_129 ?_
      refine zr_sld dL_law_130 hi1 rfl ?_
      rw [← ha1]
      refine zr_aload ⟨_, dL_law_131, rfl⟩ rfl ?_
      have c132 := lx_write_1 (g := g) ((x_write a1 C).trans f1)
      refine zg_callW (r := some (.inl 1)) (v := 42) (zRunQ_H (rest := []) c132 dL_law_132 ls_write cw_write cl_write rfl (by decide) (by decide) (by decide) zMv_law zMv_lw (zFr_Ll (C := C) (r := r) (g := g) (C' := C) (g' := g)).1 (zFr_Ll (C := C) (r := r) (g := g) (C' := C) (g' := g)).2.1 rfl rfl) (zFr_Ll (C := C) (r := r) (g := g) (C' := C) (g' := g)) (fun k h => h) (fun x hx => absurd hx List.not_mem_nil) (fun k h => by rw [show k = 999 from h]; decide) rfl rfl (by show _ ≤ 601024; omega) (by show _ ≤ 7293034; omega) ?_
      show zB m_L_law RLw (FLw b L xs) PLw 135 (zLL i none none) [.inl 1] (zLwld C r g) _ _
      refine zr_storew dL_law_135 (by decide) rfl ?_
      refine zr_aload ⟨_, dL_law_137, rfl⟩ rfl ?_
      refine zr_aload ⟨_, dL_law_138, rfl⟩ rfl ?_
      refine zr_loadw dL_law_139 rfl ?_
      refine zr_iconst dL_law_141 (by decide) ?_
      refine zr_iadd dL_law_142 ?_
      refine zr_sld dL_law_143 hi1 rfl ?_
      rw [← ha1]
      have c144 : zSpecF zTrv 10 zall 0 0 m_X12_write [.inr (.inl (some 0)), .inl a1] (ziT r 0 TRf) (fun r1 w1 => r1 = some (.inl v) ∧ w1 = ziT r' 0 TRf) := by
        have h0 := t_Rf_write f2
        exact zSpecT.F h0
      refine zg_callW (r := some (.inl v)) (v := 500) (zRunQ_of (zrun_VW (f := zsh 76) (rest := []) dL_law_144 ml_L_71 zLw_76 rfl (by decide) (by decide) rfl (by decide)) c144 zMv_tr zMv_tr (zFr_Rl (C := C) (r := r) (g := g) (r' := r')).1 (zFr_Rl (C := C) (r := r) (g := g) (r' := r')).2.1 rfl rfl) (zFr_Rl (C := C) (r := r) (g := g) (r' := r')) (fun _ _ => True.intro) (fun x hx => absurd hx List.not_mem_nil) (fun k h => by rw [show k = 999 from h]; decide) rfl rfl (by show _ ≤ 601024; omega) (by show _ ≤ 7293034; omega) ?_
      show zB m_L_law RLw (FLw b L xs) PLw 147 (zLL i (some (.inl 1)) none) [.inl v] (zLwld C r' g) _ _
      refine zr_storew dL_law_147 (by decide) rfl ?_
      refine zr_aload ⟨_, dL_law_149, rfl⟩ rfl ?_
      have c150 : zSpecF zTrv 1 zall 0 0 m_X12_thrown [.inr (.inl (some 0))] (ziT r' 0 TRf) (fun r1 w1 => r1 = some (.inl 1) ∧ w1 = ziT r' 0 TRf) := by
        have h0 := t_Rf_thrown (res := 1) (congrArg some f3)
        exact zSpecT.F h0
      refine zg_callW (r := some (.inl 1)) (v := 500) (zRunQ_of (zrun_VW (f := zsh 76) (rest := []) dL_law_150 ml_L_72 zLw_76 rfl (by decide) (by decide) rfl (by decide)) c150 zMv_tr zMv_tr (zFr_Rl (C := C) (r := r') (g := g) (r' := r')).1 (zFr_Rl (C := C) (r := r') (g := g) (r' := r')).2.1 rfl rfl) (zFr_Rl (C := C) (r := r') (g := g) (r' := r')) (fun _ _ => True.intro) (fun x hx => absurd hx List.not_mem_nil) (fun k h => by rw [show k = 999 from h]; decide) rfl rfl (by show _ ≤ 601024; omega) (by show _ ≤ 7293034; omega) ?_
      show zB m_L_law RLw (FLw b L xs) PLw 153 (zLL i (some (.inl 1)) (some (.inl v))) [.inl 1] (zLwld C r' g) _ _
      refine zr_loadw dL_law_153 rfl ?_
      refine zr_ic_eq (tgt := 160) dL_law_155 (by decide) (fun _ => ?_) (fun w => absurd rfl w)
      refine zr_loadw dL_law_160 rfl ?_
      refine zr_if_ne (tgt := 177) dL_law_162 (by decide) (fun _ => ?_) (fun w => absurd (by decide : ¬ (1 : Int) = 0) w)
      refine zr_goto (tgt := 1159) dL_law_177 (by decide) ?_
      refine zr_mask [true, true, true, true, true, false, false] rfl ?_
      exact hK _ _ _ _ _ f4 (by omega) (by omega)
    · refine zr_aload ⟨_, dL_law_124, rfl⟩ rfl ?_
      refine zr_aload ⟨_, dL_law_125, rfl⟩ rfl ?_
      refine zr_loadw dL_law_126 rfl ?_
      refine zr_iconst dL_law_128 (by decide) ?_
      refine zr_iadd dL_law_129 ?_
      refine zr_sld dL_law_130 hi1 rfl ?_
      rw [← ha1]
      refine zr_aload ⟨_, dL_law_131, rfl⟩ rfl ?_
      have c132 := lx_write_2 (g := g) ((x_write a1 C).trans f1)
      refine zg_callW (r := some (.inl 2)) (v := 42) (zRunQ_H (rest := []) c132 dL_law_132 ls_write cw_write cl_write rfl (by decide) (by decide) (by decide) zMv_law zMv_lw (zFr_Ll (C := C) (r := r) (g := g) (C' := C) (g' := g)).1 (zFr_Ll (C := C) (r := r) (g := g) (C' := C) (g' := g)).2.1 rfl rfl) (zFr_Ll (C := C) (r := r) (g := g) (C' := C) (g' := g)) (fun k h => h) (fun x hx => absurd hx List.not_mem_nil) (fun k h => by rw [show k = 999 from h]; decide) rfl rfl (by show _ ≤ 601024; omega) (by show _ ≤ 7293034; omega) ?_
      show zB m_L_law RLw (FLw b L xs) PLw 135 (zLL i none none) [.inl 2] (zLwld C r g) _ _
      refine zr_storew dL_law_135 (by decide) rfl ?_
      refine zr_aload ⟨_, dL_law_137, rfl⟩ rfl ?_
      refine zr_aload ⟨_, dL_law_138, rfl⟩ rfl ?_
      refine zr_loadw dL_law_139 rfl ?_
      refine zr_iconst dL_law_141 (by decide) ?_
      refine zr_iadd dL_law_142 ?_
      refine zr_sld dL_law_143 hi1 rfl ?_
      rw [← ha1]
      have c144 : zSpecF zTrv 10 zall 0 0 m_X12_write [.inr (.inl (some 0)), .inl a1] (ziT r 0 TRf) (fun r1 w1 => r1 = some (.inl v) ∧ w1 = ziT r' 0 TRf) := by
        have h0 := t_Rf_write f2
        exact zSpecT.F h0
      refine zg_callW (r := some (.inl v)) (v := 500) (zRunQ_of (zrun_VW (f := zsh 76) (rest := []) dL_law_144 ml_L_71 zLw_76 rfl (by decide) (by decide) rfl (by decide)) c144 zMv_tr zMv_tr (zFr_Rl (C := C) (r := r) (g := g) (r' := r')).1 (zFr_Rl (C := C) (r := r) (g := g) (r' := r')).2.1 rfl rfl) (zFr_Rl (C := C) (r := r) (g := g) (r' := r')) (fun _ _ => True.intro) (fun x hx => absurd hx List.not_mem_nil) (fun k h => by rw [show k = 999 from h]; decide) rfl rfl (by show _ ≤ 601024; omega) (by show _ ≤ 7293034; omega) ?_
      show zB m_L_law RLw (FLw b L xs) PLw 147 (zLL i (some (.inl 2)) none) [.inl v] (zLwld C r' g) _ _
      refine zr_storew dL_law_147 (by decide) rfl ?_
      refine zr_aload ⟨_, dL_law_149, rfl⟩ rfl ?_
      have c150 : zSpecF zTrv 1 zall 0 0 m_X12_thrown [.inr (.inl (some 0))] (ziT r' 0 TRf) (fun r1 w1 => r1 = some (.inl 2) ∧ w1 = ziT r' 0 TRf) := by
        have h0 := t_Rf_thrown (res := 2) (congrArg some f3)
        exact zSpecT.F h0
      refine zg_callW (r := some (.inl 2)) (v := 500) (zRunQ_of (zrun_VW (f := zsh 76) (rest := []) dL_law_150 ml_L_72 zLw_76 rfl (by decide) (by decide) rfl (by decide)) c150 zMv_tr zMv_tr (zFr_Rl (C := C) (r := r') (g := g) (r' := r')).1 (zFr_Rl (C := C) (r := r') (g := g) (r' := r')).2.1 rfl rfl) (zFr_Rl (C := C) (r := r') (g := g) (r' := r')) (fun _ _ => True.intro) (fun x hx => absurd hx List.not_mem_nil) (fun k h => by rw [show k = 999 from h]; decide) rfl rfl (by show _ ≤ 601024; omega) (by show _ ≤ 7293034; omega) ?_
      show zB m_L_law RLw (FLw b L xs) PLw 153 (zLL i (some (.inl 2)) (some (.inl v))) [.inl 2] (zLwld C r' g) _ _
      refine zr_loadw dL_law_153 rfl ?_
      refine zr_ic_eq (tgt := 160) dL_law_155 (by decide) (fun _ => ?_) (fun w => absurd rfl w)
      refine zr_loadw dL_law_160 rfl ?_
      refine zr_if_ne (tgt := 177) dL_law_162 (by decide) (fun _ => ?_) (fun w => absurd (by decide : ¬ (2 : Int) = 0) w)
      refine zr_goto (tgt := 1159) dL_law_177 (by decide) ?_
      refine zr_mask [true, true, true, true, true, false, false] rfl ?_
      exact hK _ _ _ _ _ f4 (by omega) (by omega)
