set_option maxRecDepth 100000 in
set_option maxHeartbeats 1000000 in
theorem lc_write {b L N N' B uc us : Nat} {xs : Nat → Int32} {i : Int} {C r : zSt} {g : Int → Int} (hi : 0 ≤ i ∧ i + 5 ≤ L) (hLm : L ≤ 2560) (hW : zWh B C r) (hB : B + 100 < 65536) (huc : uc + zpot 42 C ≤ N) (hus : us + zpot 42 C ≤ N') (hN : N + 1 ≤ 601024) (hN' : N' + 6 ≤ 7293034)
    (hK : ∀ (C' r' : zSt) (g' : Int → Int) (uc' us' : Nat), zWh (B + 100) C' r' → uc' + zpot 42 C' ≤ N + 1 → us' + zpot 42 C' ≤ N' + 6 → zB m_L_law RLw (FLw b L xs) PLw 1159 (zLL i none none) [] (zLwld C' r' g') uc' us') :
    zB m_L_law RLw (FLw b L xs) PLw 124 (zLL i none none) [] (zLwld C r g) uc us := by
  have e1 : w32 (i + 1) = i + 1 := w32i (by omega) (by omega)
  have hi1 : 0 ≤ w32 (i + 1) ∧ w32 (i + 1) < L := by rw [e1]; omega
  obtain ⟨a1, ha1⟩ : ∃ a, a = zxs xs (w32 (i + 1)) := ⟨_, rfl⟩
  rcases M_write hW hB a1 with ⟨v, C', r', f1, f2, f3, f4⟩ | ⟨j, ⟨v, r', f1, f2, f3, f4⟩, hj⟩
  · have hm : zpot 42 C' ≤ zpot 42 C := mo_write f1
    refine zr_aload ⟨_, dL_law_124, rfl⟩ rfl ?_
    refine zr_aload ⟨_, dL_law_125, rfl⟩ rfl ?_
    refine zr_loadw dL_law_126 rfl ?_
    refine zr_iconst dL_law_128 (by decide) ?_
    refine zr_iadd dL_law_129 ?_
    refine zr_sld dL_law_130 hi1 rfl ?_
    rw [← ha1]
    refine zr_aload ⟨_, dL_law_131, rfl⟩ rfl ?_
    have c132 := la_write (g := g) f1 hm
    refine zg_callW (r := some (.inl 0)) (v := 42) (zRunQ_H (rest := []) c132 dL_law_132 ls_write cw_write cl_write rfl (by decide) (by decide) (by decide) zMv_law zMv_lw (zFr_Ll (C := C) (r := r) (g := g) (C' := C') (g' := (zup g 0 v))).1 (zFr_Ll (C := C) (r := r) (g := g) (C' := C') (g' := (zup g 0 v))).2.1 rfl rfl) (zFr_Ll (C := C) (r := r) (g := g) (C' := C') (g' := (zup g 0 v))) (fun k h => h) (fun x hx => absurd hx List.not_mem_nil) (fun k h => by rw [show k = 999 from h]; decide) rfl rfl (by show _ ≤ 601024; omega) (by show _ ≤ 7293034; omega) ?_
    show zB m_L_law RLw (FLw b L xs) PLw 135 (zLL i none none) [.inl 0] (zLwld C' r (zup g 0 v)) _ _
    refine zr_storew dL_law_135 (by decide) rfl ?_
    refine zr_aload ⟨_, dL_law_137, rfl⟩ rfl ?_
    refine zr_aload ⟨_, dL_law_138, rfl⟩ rfl ?_
    refine zr_loadw dL_law_139 rfl ?_
    refine zr_iconst dL_law_141 (by decide) ?_
    refine zr_iadd dL_law_142 ?_
    refine zr_sld dL_law_143 hi1 rfl ?_
    rw [← ha1]
    have c144 : zSpecF zTrv 10 zall 0 0 m_X12_write [.inr (.inl (some 0)), .inl a1] (ziT r 0 TRf) (fun r1 w1 => r1 = some (.inl v) ∧ w1 = ziT r' 0 TRf) := by
      have h0 := t_Rf_write f2
      exact zSpecT.F h0
    refine zg_callW (r := some (.inl v)) (v := 500) (zRunQ_of (zrun_VW (f := zsh 76) (rest := []) dL_law_144 ml_L_71 zLw_76 rfl (by decide) (by decide) rfl (Nat.le_of_ble_eq_true rfl)) c144 zMv_tr zMv_tr (zFr_Rl (C := C') (r := r) (g := (zup g 0 v)) (r' := r')).1 (zFr_Rl (C := C') (r := r) (g := (zup g 0 v)) (r' := r')).2.1 rfl rfl) (zFr_Rl (C := C') (r := r) (g := (zup g 0 v)) (r' := r')) (fun _ _ => True.intro) (fun x hx => absurd hx List.not_mem_nil) (fun k h => by rw [show k = 999 from h]; decide) rfl rfl (by show _ ≤ 601024; omega) (by show _ ≤ 7293034; omega) ?_
    show zB m_L_law RLw (FLw b L xs) PLw 147 (zLL i (some (.inl 0)) none) [.inl v] (zLwld C' r' (zup g 0 v)) _ _
    refine zr_storew dL_law_147 (by decide) rfl ?_
    refine zr_aload ⟨_, dL_law_149, rfl⟩ rfl ?_
    have c150 : zSpecF zTrv 1 zall 0 0 m_X12_thrown [.inr (.inl (some 0))] (ziT r' 0 TRf) (fun r1 w1 => r1 = some (.inl 0) ∧ w1 = ziT r' 0 TRf) := by
      have h0 := t_Rf_thrown (res := 0) (congrArg some f3)
      exact zSpecT.F h0
    refine zg_callW (r := some (.inl 0)) (v := 500) (zRunQ_of (zrun_VW (f := zsh 76) (rest := []) dL_law_150 ml_L_72 zLw_76 rfl (by decide) (by decide) rfl (Nat.le_of_ble_eq_true rfl)) c150 zMv_tr zMv_tr (zFr_Rl (C := C') (r := r') (g := (zup g 0 v)) (r' := r')).1 (zFr_Rl (C := C') (r := r') (g := (zup g 0 v)) (r' := r')).2.1 rfl rfl) (zFr_Rl (C := C') (r := r') (g := (zup g 0 v)) (r' := r')) (fun _ _ => True.intro) (fun x hx => absurd hx List.not_mem_nil) (fun k h => by rw [show k = 999 from h]; decide) rfl rfl (by show _ ≤ 601024; omega) (by show _ ≤ 7293034; omega) ?_
    show zB m_L_law RLw (FLw b L xs) PLw 153 (zLL i (some (.inl 0)) (some (.inl v))) [.inl 0] (zLwld C' r' (zup g 0 v)) _ _
    refine zr_loadw dL_law_153 rfl ?_
    refine zr_ic_eq (tgt := 160) dL_law_155 (by decide) (fun _ => ?_) (fun w => absurd rfl w)
    refine zr_loadw dL_law_160 rfl ?_
    refine zr_if_ne (tgt := 177) dL_law_162 (by decide) (fun w => absurd rfl w) (fun _ => ?_)
    refine zr_aload ⟨_, dL_law_165, rfl⟩ rfl ?_
    refine zr_iconst dL_law_166 (by decide) ?_
    refine zr_laload dL_law_167 zLw_92 ⟨by decide, by decide⟩ ?_
    rw [zup_same]
    refine zr_loadw dL_law_168 rfl ?_
    refine zr_i2l dL_law_170 ?_
    refine zr_lcmpS dL_law_171 ?_
    refine zr_if_eq (tgt := 177) dL_law_172 (by decide) (fun _ => ?_) (fun w => absurd rfl w)
    refine zr_goto (tgt := 1159) dL_law_177 (by decide) ?_
    refine zr_mask [true, true, true, true, true, false, false] rfl ?_
    exact hK _ _ _ _ _ f4 (by omega) (by omega)
  · rcases hj with rfl | rfl
    · refine zr_aload ⟨_, dL_law_124, rfl⟩ rfl ?_
      refine zr_aload ⟨_, dL_law_125, rfl⟩ rfl ?_
      refine zr_loadw dL_law_126 rfl ?_
      refine zr_iconst dL_law_128 (by decide) ?_
      refine zr_iadd dL_law_129 ?_
      refine zr_sld dL_law_130 hi1 rfl ?_
      rw [← ha1]
      refine zr_aload ⟨_, dL_law_131, rfl⟩ rfl ?_
      have c132 := lx_write_1 (g := g) ((x_write a1 C).trans f1)
      refine zg_callW (r := some (.inl 1)) (v := 42) (zRunQ_H (rest := []) c132 dL_law_132 ls_write cw_write cl_write rfl (by decide) (by decide) (by decide) zMv_law zMv_lw (zFr_Ll (C := C) (r := r) (g := g) (C' := C) (g' := g)).1 (zFr_Ll (C := C) (r := r) (g := g) (C' := C) (g' := g)).2.1 rfl rfl) (zFr_Ll (C := C) (r := r) (g := g) (C' := C) (g' := g)) (fun k h => h) (fun x hx => absurd hx List.not_mem_nil) (fun k h => by rw [show k = 999 from h]; decide) rfl rfl (by show _ ≤ 601024; omega) (by show _ ≤ 7293034; omega) ?_
      show zB m_L_law RLw (FLw b L xs) PLw 135 (zLL i none none) [.inl 1] (zLwld C r g) _ _
      refine zr_storew dL_law_135 (by decide) rfl ?_
      refine zr_aload ⟨_, dL_law_137, rfl⟩ rfl ?_
      refine zr_aload ⟨_, dL_law_138, rfl⟩ rfl ?_
      refine zr_loadw dL_law_139 rfl ?_
      refine zr_iconst dL_law_141 (by decide) ?_
      refine zr_iadd dL_law_142 ?_
      refine zr_sld dL_law_143 hi1 rfl ?_
      rw [← ha1]
      have c144 : zSpecF zTrv 10 zall 0 0 m_X12_write [.inr (.inl (some 0)), .inl a1] (ziT r 0 TRf) (fun r1 w1 => r1 = some (.inl v) ∧ w1 = ziT r' 0 TRf) := by
        have h0 := t_Rf_write f2
        exact zSpecT.F h0
      refine zg_callW (r := some (.inl v)) (v := 500) (zRunQ_of (zrun_VW (f := zsh 76) (rest := []) dL_law_144 ml_L_71 zLw_76 rfl (by decide) (by decide) rfl (Nat.le_of_ble_eq_true rfl)) c144 zMv_tr zMv_tr (zFr_Rl (C := C) (r := r) (g := g) (r' := r')).1 (zFr_Rl (C := C) (r := r) (g := g) (r' := r')).2.1 rfl rfl) (zFr_Rl (C := C) (r := r) (g := g) (r' := r')) (fun _ _ => True.intro) (fun x hx => absurd hx List.not_mem_nil) (fun k h => by rw [show k = 999 from h]; decide) rfl rfl (by show _ ≤ 601024; omega) (by show _ ≤ 7293034; omega) ?_
      show zB m_L_law RLw (FLw b L xs) PLw 147 (zLL i (some (.inl 1)) none) [.inl v] (zLwld C r' g) _ _
      refine zr_storew dL_law_147 (by decide) rfl ?_
      refine zr_aload ⟨_, dL_law_149, rfl⟩ rfl ?_
      have c150 : zSpecF zTrv 1 zall 0 0 m_X12_thrown [.inr (.inl (some 0))] (ziT r' 0 TRf) (fun r1 w1 => r1 = some (.inl 1) ∧ w1 = ziT r' 0 TRf) := by
        have h0 := t_Rf_thrown (res := 1) (congrArg some f3)
        exact zSpecT.F h0
      refine zg_callW (r := some (.inl 1)) (v := 500) (zRunQ_of (zrun_VW (f := zsh 76) (rest := []) dL_law_150 ml_L_72 zLw_76 rfl (by decide) (by decide) rfl (Nat.le_of_ble_eq_true rfl)) c150 zMv_tr zMv_tr (zFr_Rl (C := C) (r := r') (g := g) (r' := r')).1 (zFr_Rl (C := C) (r := r') (g := g) (r' := r')).2.1 rfl rfl) (zFr_Rl (C := C) (r := r') (g := g) (r' := r')) (fun _ _ => True.intro) (fun x hx => absurd hx List.not_mem_nil) (fun k h => by rw [show k = 999 from h]; decide) rfl rfl (by show _ ≤ 601024; omega) (by show _ ≤ 7293034; omega) ?_
      show zB m_L_law RLw (FLw b L xs) PLw 153 (zLL i (some (.inl 1)) (some (.inl v))) [.inl 1] (zLwld C r' g) _ _
      refine zr_loadw dL_law_153 rfl ?_
      refine zr_ic_eq (tgt := 160) dL_law_155 (by decide) (fun _ => ?_) (fun w => absurd rfl w)
      refine zr_loadw dL_law_160 rfl ?_
      refine zr_if_ne (tgt := 177) dL_law_162 (by decide) (fun _ => ?_) (fun w => absurd (by decide : ¬ (1 : Int) = 0) w)
      refine zr_goto (tgt := 1159) dL_law_177 (by decide) ?_
      refine zr_mask [true, true, true, true, true, false, false] rfl ?_
      exact hK _ _ _ _ _ f4 (by omega) (by omega)
    · refine zr_aload ⟨_, dL_law_124, rfl⟩ rfl ?_
      refine zr_aload ⟨_, dL_law_125, rfl⟩ rfl ?_
      refine zr_loadw dL_law_126 rfl ?_
      refine zr_iconst dL_law_128 (by decide) ?_
      refine zr_iadd dL_law_129 ?_
      refine zr_sld dL_law_130 hi1 rfl ?_
      rw [← ha1]
      refine zr_aload ⟨_, dL_law_131, rfl⟩ rfl ?_
      have c132 := lx_write_2 (g := g) ((x_write a1 C).trans f1)
      refine zg_callW (r := some (.inl 2)) (v := 42) (zRunQ_H (rest := []) c132 dL_law_132 ls_write cw_write cl_write rfl (by decide) (by decide) (by decide) zMv_law zMv_lw (zFr_Ll (C := C) (r := r) (g := g) (C' := C) (g' := g)).1 (zFr_Ll (C := C) (r := r) (g := g) (C' := C) (g' := g)).2.1 rfl rfl) (zFr_Ll (C := C) (r := r) (g := g) (C' := C) (g' := g)) (fun k h => h) (fun x hx => absurd hx List.not_mem_nil) (fun k h => by rw [show k = 999 from h]; decide) rfl rfl (by show _ ≤ 601024; omega) (by show _ ≤ 7293034; omega) ?_
      show zB m_L_law RLw (FLw b L xs) PLw 135 (zLL i none none) [.inl 2] (zLwld C r g) _ _
      refine zr_storew dL_law_135 (by decide) rfl ?_
      refine zr_aload ⟨_, dL_law_137, rfl⟩ rfl ?_
      refine zr_aload ⟨_, dL_law_138, rfl⟩ rfl ?_
      refine zr_loadw dL_law_139 rfl ?_
      refine zr_iconst dL_law_141 (by decide) ?_
      refine zr_iadd dL_law_142 ?_
      refine zr_sld dL_law_143 hi1 rfl ?_
      rw [← ha1]
      have c144 : zSpecF zTrv 10 zall 0 0 m_X12_write [.inr (.inl (some 0)), .inl a1] (ziT r 0 TRf) (fun r1 w1 => r1 = some (.inl v) ∧ w1 = ziT r' 0 TRf) := by
        have h0 := t_Rf_write f2
        exact zSpecT.F h0
      refine zg_callW (r := some (.inl v)) (v := 500) (zRunQ_of (zrun_VW (f := zsh 76) (rest := []) dL_law_144 ml_L_71 zLw_76 rfl (by decide) (by decide) rfl (Nat.le_of_ble_eq_true rfl)) c144 zMv_tr zMv_tr (zFr_Rl (C := C) (r := r) (g := g) (r' := r')).1 (zFr_Rl (C := C) (r := r) (g := g) (r' := r')).2.1 rfl rfl) (zFr_Rl (C := C) (r := r) (g := g) (r' := r')) (fun _ _ => True.intro) (fun x hx => absurd hx List.not_mem_nil) (fun k h => by rw [show k = 999 from h]; decide) rfl rfl (by show _ ≤ 601024; omega) (by show _ ≤ 7293034; omega) ?_
      show zB m_L_law RLw (FLw b L xs) PLw 147 (zLL i (some (.inl 2)) none) [.inl v] (zLwld C r' g) _ _
      refine zr_storew dL_law_147 (by decide) rfl ?_
      refine zr_aload ⟨_, dL_law_149, rfl⟩ rfl ?_
      have c150 : zSpecF zTrv 1 zall 0 0 m_X12_thrown [.inr (.inl (some 0))] (ziT r' 0 TRf) (fun r1 w1 => r1 = some (.inl 2) ∧ w1 = ziT r' 0 TRf) := by
        have h0 := t_Rf_thrown (res := 2) (congrArg some f3)
        exact zSpecT.F h0
      refine zg_callW (r := some (.inl 2)) (v := 500) (zRunQ_of (zrun_VW (f := zsh 76) (rest := []) dL_law_150 ml_L_72 zLw_76 rfl (by decide) (by decide) rfl (Nat.le_of_ble_eq_true rfl)) c150 zMv_tr zMv_tr (zFr_Rl (C := C) (r := r') (g := g) (r' := r')).1 (zFr_Rl (C := C) (r := r') (g := g) (r' := r')).2.1 rfl rfl) (zFr_Rl (C := C) (r := r') (g := g) (r' := r')) (fun _ _ => True.intro) (fun x hx => absurd hx List.not_mem_nil) (fun k h => by rw [show k = 999 from h]; decide) rfl rfl (by show _ ≤ 601024; omega) (by show _ ≤ 7293034; omega) ?_
      show zB m_L_law RLw (FLw b L xs) PLw 153 (zLL i (some (.inl 2)) (some (.inl v))) [.inl 2] (zLwld C r' g) _ _
      refine zr_loadw dL_law_153 rfl ?_
      refine zr_ic_eq (tgt := 160) dL_law_155 (by decide) (fun _ => ?_) (fun w => absurd rfl w)
      refine zr_loadw dL_law_160 rfl ?_
      refine zr_if_ne (tgt := 177) dL_law_162 (by decide) (fun _ => ?_) (fun w => absurd (by decide : ¬ (2 : Int) = 0) w)
      refine zr_goto (tgt := 1159) dL_law_177 (by decide) ?_
      refine zr_mask [true, true, true, true, true, false, false] rfl ?_
      exact hK _ _ _ _ _ f4 (by omega) (by omega)
set_option maxRecDepth 100000 in
set_option maxHeartbeats 1000000 in
theorem lc_code {b L N N' B uc us : Nat} {xs : Nat → Int32} {i : Int} {C r : zSt} {g : Int → Int} (hi : 0 ≤ i ∧ i + 5 ≤ L) (hLm : L ≤ 2560) (hW : zWh B C r) (hB : B + 100 < 65536) (huc : uc + zpot 42 C ≤ N) (hus : us + zpot 42 C ≤ N') (hN : N + 1 ≤ 601024) (hN' : N' + 6 ≤ 7293034)
    (hK : ∀ (C' r' : zSt) (g' : Int → Int) (uc' us' : Nat), zWh (B + 100) C' r' → uc' + zpot 42 C' ≤ N + 1 → us' + zpot 42 C' ≤ N' + 6 → zB m_L_law RLw (FLw b L xs) PLw 1159 (zLL i none none) [] (zLwld C' r' g') uc' us') :
    zB m_L_law RLw (FLw b L xs) PLw 180 (zLL i none none) [] (zLwld C r g) uc us := by
  have e1 : w32 (i + 1) = i + 1 := w32i (by omega) (by omega)
  have hi1 : 0 ≤ w32 (i + 1) ∧ w32 (i + 1) < L := by rw [e1]; omega
  obtain ⟨a1, ha1⟩ : ∃ a, a = zxs xs (w32 (i + 1)) := ⟨_, rfl⟩
  have e2 : w32 (i + 2) = i + 2 := w32i (by omega) (by omega)
  have hi2 : 0 ≤ w32 (i + 2) ∧ w32 (i + 2) < L := by rw [e2]; omega
  obtain ⟨a2, ha2⟩ : ∃ a, a = zxs xs (w32 (i + 2)) := ⟨_, rfl⟩
  have e3 : w32 (i + 3) = i + 3 := w32i (by omega) (by omega)
  have hi3 : 0 ≤ w32 (i + 3) ∧ w32 (i + 3) < L := by rw [e3]; omega
  obtain ⟨a3, ha3⟩ : ∃ a, a = zxs xs (w32 (i + 3)) := ⟨_, rfl⟩
  have e4 : w32 (i + 4) = i + 4 := w32i (by omega) (by omega)
  have hi4 : 0 ≤ w32 (i + 4) ∧ w32 (i + 4) < L := by rw [e4]; omega
  obtain ⟨a4, ha4⟩ : ∃ a, a = zxs xs (w32 (i + 4)) := ⟨_, rfl⟩
  by_cases q1 : a1 = 0
  · rcases M_code hW hB (a := 0) (by decide) a2 a3 a4 with ⟨v, C', r', f1, f2, f3, f4⟩ | ⟨j, ⟨v, r', f1, f2, f3, f4⟩, hj⟩
    · have hm : zpot 42 C' ≤ zpot 42 C := mo_code f1
      refine zr_aload ⟨_, dL_law_180, rfl⟩ rfl ?_
      refine zr_aload ⟨_, dL_law_181, rfl⟩ rfl ?_
      refine zr_loadw dL_law_182 rfl ?_
      refine zr_iconst dL_law_184 (by decide) ?_
      refine zr_iadd dL_law_185 ?_
      refine zr_sld dL_law_186 hi1 rfl ?_
      rw [← ha1]
      refine zr_if_eq (tgt := 194) dL_law_187 (by decide) (fun _ => ?_) (fun w => absurd q1 w)
      refine zr_iconst dL_law_194 (by decide) ?_
      refine zr_aload ⟨_, dL_law_195, rfl⟩ rfl ?_
      refine zr_loadw dL_law_196 rfl ?_
      refine zr_iconst dL_law_198 (by decide) ?_
      refine zr_iadd dL_law_199 ?_
      refine zr_sld dL_law_200 hi2 rfl ?_
      rw [← ha2]
      refine zr_aload ⟨_, dL_law_201, rfl⟩ rfl ?_
      refine zr_loadw dL_law_202 rfl ?_
      refine zr_iconst dL_law_204 (by decide) ?_
      refine zr_iadd dL_law_205 ?_
      refine zr_sld dL_law_206 hi3 rfl ?_
      rw [← ha3]
      refine zr_aload ⟨_, dL_law_207, rfl⟩ rfl ?_
      refine zr_loadw dL_law_208 rfl ?_
      refine zr_iconst dL_law_210 (by decide) ?_
      refine zr_iadd dL_law_211 ?_
      refine zr_sld dL_law_212 hi4 rfl ?_
      rw [← ha4]
      refine zr_aload ⟨_, dL_law_213, rfl⟩ rfl ?_
      have c214 := la_code (g := g) f1 hm
      refine zg_callW (r := some (.inl 0)) (v := 42) (zRunQ_H (rest := []) c214 dL_law_214 ls_code cw_code cl_code rfl (by decide) (by decide) (by decide) zMv_law zMv_lw (zFr_Ll (C := C) (r := r) (g := g) (C' := C') (g' := (zup g 0 v))).1 (zFr_Ll (C := C) (r := r) (g := g) (C' := C') (g' := (zup g 0 v))).2.1 rfl rfl) (zFr_Ll (C := C) (r := r) (g := g) (C' := C') (g' := (zup g 0 v))) (fun k h => h) (fun x hx => absurd hx List.not_mem_nil) (fun k h => by rw [show k = 999 from h]; decide) rfl rfl (by show _ ≤ 601024; omega) (by show _ ≤ 7293034; omega) ?_
      show zB m_L_law RLw (FLw b L xs) PLw 217 (zLL i none none) [.inl 0] (zLwld C' r (zup g 0 v)) _ _
      refine zr_storew dL_law_217 (by decide) rfl ?_
      refine zr_aload ⟨_, dL_law_219, rfl⟩ rfl ?_
      refine zr_aload ⟨_, dL_law_220, rfl⟩ rfl ?_
      refine zr_loadw dL_law_221 rfl ?_
      refine zr_iconst dL_law_223 (by decide) ?_
      refine zr_iadd dL_law_224 ?_
      refine zr_sld dL_law_225 hi1 rfl ?_
      rw [← ha1]
      refine zr_if_eq (tgt := 233) dL_law_226 (by decide) (fun _ => ?_) (fun w => absurd q1 w)
      refine zr_iconst dL_law_233 (by decide) ?_
      refine zr_aload ⟨_, dL_law_234, rfl⟩ rfl ?_
      refine zr_loadw dL_law_235 rfl ?_
      refine zr_iconst dL_law_237 (by decide) ?_
      refine zr_iadd dL_law_238 ?_
      refine zr_sld dL_law_239 hi2 rfl ?_
      rw [← ha2]
      refine zr_aload ⟨_, dL_law_240, rfl⟩ rfl ?_
      refine zr_loadw dL_law_241 rfl ?_
      refine zr_iconst dL_law_243 (by decide) ?_
      refine zr_iadd dL_law_244 ?_
      refine zr_sld dL_law_245 hi3 rfl ?_
      rw [← ha3]
      refine zr_aload ⟨_, dL_law_246, rfl⟩ rfl ?_
      refine zr_loadw dL_law_247 rfl ?_
      refine zr_iconst dL_law_249 (by decide) ?_
      refine zr_iadd dL_law_250 ?_
      refine zr_sld dL_law_251 hi4 rfl ?_
      rw [← ha4]
      have c252 : zSpecF zTrv 11 zall 0 0 m_X12_code [.inr (.inl (some 0)), .inl 0, .inl a2, .inl a3, .inl a4] (ziT r 0 TRf) (fun r1 w1 => r1 = some (.inl v) ∧ w1 = ziT r' 0 TRf) := by
        have h0 := t_Rf_code f2
        exact zSpecT.F h0
      refine zg_callW (r := some (.inl v)) (v := 500) (zRunQ_of (zrun_VW (f := zsh 76) (rest := []) dL_law_252 ml_L_79 zLw_76 rfl (by decide) (by decide) rfl (Nat.le_of_ble_eq_true rfl)) c252 zMv_tr zMv_tr (zFr_Rl (C := C') (r := r) (g := (zup g 0 v)) (r' := r')).1 (zFr_Rl (C := C') (r := r) (g := (zup g 0 v)) (r' := r')).2.1 rfl rfl) (zFr_Rl (C := C') (r := r) (g := (zup g 0 v)) (r' := r')) (fun _ _ => True.intro) (fun x hx => absurd hx List.not_mem_nil) (fun k h => by rw [show k = 999 from h]; decide) rfl rfl (by show _ ≤ 601024; omega) (by show _ ≤ 7293034; omega) ?_
      show zB m_L_law RLw (FLw b L xs) PLw 255 (zLL i (some (.inl 0)) none) [.inl v] (zLwld C' r' (zup g 0 v)) _ _
      refine zr_storew dL_law_255 (by decide) rfl ?_
      refine zr_aload ⟨_, dL_law_257, rfl⟩ rfl ?_
      have c258 : zSpecF zTrv 1 zall 0 0 m_X12_thrown [.inr (.inl (some 0))] (ziT r' 0 TRf) (fun r1 w1 => r1 = some (.inl 0) ∧ w1 = ziT r' 0 TRf) := by
        have h0 := t_Rf_thrown (res := 0) (congrArg some f3)
        exact zSpecT.F h0
      refine zg_callW (r := some (.inl 0)) (v := 500) (zRunQ_of (zrun_VW (f := zsh 76) (rest := []) dL_law_258 ml_L_72 zLw_76 rfl (by decide) (by decide) rfl (Nat.le_of_ble_eq_true rfl)) c258 zMv_tr zMv_tr (zFr_Rl (C := C') (r := r') (g := (zup g 0 v)) (r' := r')).1 (zFr_Rl (C := C') (r := r') (g := (zup g 0 v)) (r' := r')).2.1 rfl rfl) (zFr_Rl (C := C') (r := r') (g := (zup g 0 v)) (r' := r')) (fun _ _ => True.intro) (fun x hx => absurd hx List.not_mem_nil) (fun k h => by rw [show k = 999 from h]; decide) rfl rfl (by show _ ≤ 601024; omega) (by show _ ≤ 7293034; omega) ?_
      show zB m_L_law RLw (FLw b L xs) PLw 261 (zLL i (some (.inl 0)) (some (.inl v))) [.inl 0] (zLwld C' r' (zup g 0 v)) _ _
      refine zr_loadw dL_law_261 rfl ?_
      refine zr_ic_eq (tgt := 268) dL_law_263 (by decide) (fun _ => ?_) (fun w => absurd rfl w)
      refine zr_loadw dL_law_268 rfl ?_
      refine zr_if_ne (tgt := 285) dL_law_270 (by decide) (fun w => absurd rfl w) (fun _ => ?_)
      refine zr_aload ⟨_, dL_law_273, rfl⟩ rfl ?_
      refine zr_iconst dL_law_274 (by decide) ?_
      refine zr_laload dL_law_275 zLw_92 ⟨by decide, by decide⟩ ?_
      rw [zup_same]
      refine zr_loadw dL_law_276 rfl ?_
      refine zr_i2l dL_law_278 ?_
      refine zr_lcmpS dL_law_279 ?_
      refine zr_if_eq (tgt := 285) dL_law_280 (by decide) (fun _ => ?_) (fun w => absurd rfl w)
      refine zr_goto (tgt := 1159) dL_law_285 (by decide) ?_
      refine zr_mask [true, true, true, true, true, false, false] rfl ?_
      exact hK _ _ _ _ _ f4 (by omega) (by omega)
    · rcases hj with rfl | rfl
      · refine zr_aload ⟨_, dL_law_180, rfl⟩ rfl ?_
        refine zr_aload ⟨_, dL_law_181, rfl⟩ rfl ?_
        refine zr_loadw dL_law_182 rfl ?_
        refine zr_iconst dL_law_184 (by decide) ?_
        refine zr_iadd dL_law_185 ?_
        refine zr_sld dL_law_186 hi1 rfl ?_
        rw [← ha1]
        refine zr_if_eq (tgt := 194) dL_law_187 (by decide) (fun _ => ?_) (fun w => absurd q1 w)
        refine zr_iconst dL_law_194 (by decide) ?_
        refine zr_aload ⟨_, dL_law_195, rfl⟩ rfl ?_
        refine zr_loadw dL_law_196 rfl ?_
        refine zr_iconst dL_law_198 (by decide) ?_
        refine zr_iadd dL_law_199 ?_
        refine zr_sld dL_law_200 hi2 rfl ?_
        rw [← ha2]
        refine zr_aload ⟨_, dL_law_201, rfl⟩ rfl ?_
        refine zr_loadw dL_law_202 rfl ?_
        refine zr_iconst dL_law_204 (by decide) ?_
        refine zr_iadd dL_law_205 ?_
        refine zr_sld dL_law_206 hi3 rfl ?_
        rw [← ha3]
        refine zr_aload ⟨_, dL_law_207, rfl⟩ rfl ?_
        refine zr_loadw dL_law_208 rfl ?_
        refine zr_iconst dL_law_210 (by decide) ?_
        refine zr_iadd dL_law_211 ?_
        refine zr_sld dL_law_212 hi4 rfl ?_
        rw [← ha4]
        refine zr_aload ⟨_, dL_law_213, rfl⟩ rfl ?_
        have c214 := lx_code_1 (g := g) ((x_code 0 a2 a3 a4 C).trans f1)
        refine zg_callW (r := some (.inl 1)) (v := 42) (zRunQ_H (rest := []) c214 dL_law_214 ls_code cw_code cl_code rfl (by decide) (by decide) (by decide) zMv_law zMv_lw (zFr_Ll (C := C) (r := r) (g := g) (C' := C) (g' := g)).1 (zFr_Ll (C := C) (r := r) (g := g) (C' := C) (g' := g)).2.1 rfl rfl) (zFr_Ll (C := C) (r := r) (g := g) (C' := C) (g' := g)) (fun k h => h) (fun x hx => absurd hx List.not_mem_nil) (fun k h => by rw [show k = 999 from h]; decide) rfl rfl (by show _ ≤ 601024; omega) (by show _ ≤ 7293034; omega) ?_
        show zB m_L_law RLw (FLw b L xs) PLw 217 (zLL i none none) [.inl 1] (zLwld C r g) _ _
        refine zr_storew dL_law_217 (by decide) rfl ?_
        refine zr_aload ⟨_, dL_law_219, rfl⟩ rfl ?_
        refine zr_aload ⟨_, dL_law_220, rfl⟩ rfl ?_
        refine zr_loadw dL_law_221 rfl ?_
        refine zr_iconst dL_law_223 (by decide) ?_
        refine zr_iadd dL_law_224 ?_
        refine zr_sld dL_law_225 hi1 rfl ?_
        rw [← ha1]
        refine zr_if_eq (tgt := 233) dL_law_226 (by decide) (fun _ => ?_) (fun w => absurd q1 w)
        refine zr_iconst dL_law_233 (by decide) ?_
        refine zr_aload ⟨_, dL_law_234, rfl⟩ rfl ?_
        refine zr_loadw dL_law_235 rfl ?_
        refine zr_iconst dL_law_237 (by decide) ?_
        refine zr_iadd dL_law_238 ?_
        refine zr_sld dL_law_239 hi2 rfl ?_
        rw [← ha2]
        refine zr_aload ⟨_, dL_law_240, rfl⟩ rfl ?_
        refine zr_loadw dL_law_241 rfl ?_
        refine zr_iconst dL_law_243 (by decide) ?_
        refine zr_iadd dL_law_244 ?_
        refine zr_sld dL_law_245 hi3 rfl ?_
        rw [← ha3]
        refine zr_aload ⟨_, dL_law_246, rfl⟩ rfl ?_
        refine zr_loadw dL_law_247 rfl ?_
        refine zr_iconst dL_law_249 (by decide) ?_
        refine zr_iadd dL_law_250 ?_
        refine zr_sld dL_law_251 hi4 rfl ?_
        rw [← ha4]
        have c252 : zSpecF zTrv 11 zall 0 0 m_X12_code [.inr (.inl (some 0)), .inl 0, .inl a2, .inl a3, .inl a4] (ziT r 0 TRf) (fun r1 w1 => r1 = some (.inl v) ∧ w1 = ziT r' 0 TRf) := by
          have h0 := t_Rf_code f2
          exact zSpecT.F h0
        refine zg_callW (r := some (.inl v)) (v := 500) (zRunQ_of (zrun_VW (f := zsh 76) (rest := []) dL_law_252 ml_L_79 zLw_76 rfl (by decide) (by decide) rfl (Nat.le_of_ble_eq_true rfl)) c252 zMv_tr zMv_tr (zFr_Rl (C := C) (r := r) (g := g) (r' := r')).1 (zFr_Rl (C := C) (r := r) (g := g) (r' := r')).2.1 rfl rfl) (zFr_Rl (C := C) (r := r) (g := g) (r' := r')) (fun _ _ => True.intro) (fun x hx => absurd hx List.not_mem_nil) (fun k h => by rw [show k = 999 from h]; decide) rfl rfl (by show _ ≤ 601024; omega) (by show _ ≤ 7293034; omega) ?_
        show zB m_L_law RLw (FLw b L xs) PLw 255 (zLL i (some (.inl 1)) none) [.inl v] (zLwld C r' g) _ _
        refine zr_storew dL_law_255 (by decide) rfl ?_
        refine zr_aload ⟨_, dL_law_257, rfl⟩ rfl ?_
        have c258 : zSpecF zTrv 1 zall 0 0 m_X12_thrown [.inr (.inl (some 0))] (ziT r' 0 TRf) (fun r1 w1 => r1 = some (.inl 1) ∧ w1 = ziT r' 0 TRf) := by
          have h0 := t_Rf_thrown (res := 1) (congrArg some f3)
          exact zSpecT.F h0
        refine zg_callW (r := some (.inl 1)) (v := 500) (zRunQ_of (zrun_VW (f := zsh 76) (rest := []) dL_law_258 ml_L_72 zLw_76 rfl (by decide) (by decide) rfl (Nat.le_of_ble_eq_true rfl)) c258 zMv_tr zMv_tr (zFr_Rl (C := C) (r := r') (g := g) (r' := r')).1 (zFr_Rl (C := C) (r := r') (g := g) (r' := r')).2.1 rfl rfl) (zFr_Rl (C := C) (r := r') (g := g) (r' := r')) (fun _ _ => True.intro) (fun x hx => absurd hx List.not_mem_nil) (fun k h => by rw [show k = 999 from h]; decide) rfl rfl (by show _ ≤ 601024; omega) (by show _ ≤ 7293034; omega) ?_
        show zB m_L_law RLw (FLw b L xs) PLw 261 (zLL i (some (.inl 1)) (some (.inl v))) [.inl 1] (zLwld C r' g) _ _
        refine zr_loadw dL_law_261 rfl ?_
        refine zr_ic_eq (tgt := 268) dL_law_263 (by decide) (fun _ => ?_) (fun w => absurd rfl w)
        refine zr_loadw dL_law_268 rfl ?_
        refine zr_if_ne (tgt := 285) dL_law_270 (by decide) (fun _ => ?_) (fun w => absurd (by decide : ¬ (1 : Int) = 0) w)
        refine zr_goto (tgt := 1159) dL_law_285 (by decide) ?_
        refine zr_mask [true, true, true, true, true, false, false] rfl ?_
        exact hK _ _ _ _ _ f4 (by omega) (by omega)
      · refine zr_aload ⟨_, dL_law_180, rfl⟩ rfl ?_
        refine zr_aload ⟨_, dL_law_181, rfl⟩ rfl ?_
        refine zr_loadw dL_law_182 rfl ?_
        refine zr_iconst dL_law_184 (by decide) ?_
        refine zr_iadd dL_law_185 ?_
        refine zr_sld dL_law_186 hi1 rfl ?_
        rw [← ha1]
        refine zr_if_eq (tgt := 194) dL_law_187 (by decide) (fun _ => ?_) (fun w => absurd q1 w)
        refine zr_iconst dL_law_194 (by decide) ?_
        refine zr_aload ⟨_, dL_law_195, rfl⟩ rfl ?_
        refine zr_loadw dL_law_196 rfl ?_
        refine zr_iconst dL_law_198 (by decide) ?_
        refine zr_iadd dL_law_199 ?_
        refine zr_sld dL_law_200 hi2 rfl ?_
        rw [← ha2]
        refine zr_aload ⟨_, dL_law_201, rfl⟩ rfl ?_
        refine zr_loadw dL_law_202 rfl ?_
        refine zr_iconst dL_law_204 (by decide) ?_
        refine zr_iadd dL_law_205 ?_
        refine zr_sld dL_law_206 hi3 rfl ?_
        rw [← ha3]
        refine zr_aload ⟨_, dL_law_207, rfl⟩ rfl ?_
        refine zr_loadw dL_law_208 rfl ?_
        refine zr_iconst dL_law_210 (by decide) ?_
        refine zr_iadd dL_law_211 ?_
        refine zr_sld dL_law_212 hi4 rfl ?_
        rw [← ha4]
        refine zr_aload ⟨_, dL_law_213, rfl⟩ rfl ?_
        have c214 := lx_code_2 (g := g) ((x_code 0 a2 a3 a4 C).trans f1)
        refine zg_callW (r := some (.inl 2)) (v := 42) (zRunQ_H (rest := []) c214 dL_law_214 ls_code cw_code cl_code rfl (by decide) (by decide) (by decide) zMv_law zMv_lw (zFr_Ll (C := C) (r := r) (g := g) (C' := C) (g' := g)).1 (zFr_Ll (C := C) (r := r) (g := g) (C' := C) (g' := g)).2.1 rfl rfl) (zFr_Ll (C := C) (r := r) (g := g) (C' := C) (g' := g)) (fun k h => h) (fun x hx => absurd hx List.not_mem_nil) (fun k h => by rw [show k = 999 from h]; decide) rfl rfl (by show _ ≤ 601024; omega) (by show _ ≤ 7293034; omega) ?_
        show zB m_L_law RLw (FLw b L xs) PLw 217 (zLL i none none) [.inl 2] (zLwld C r g) _ _
        refine zr_storew dL_law_217 (by decide) rfl ?_
        refine zr_aload ⟨_, dL_law_219, rfl⟩ rfl ?_
        refine zr_aload ⟨_, dL_law_220, rfl⟩ rfl ?_
        refine zr_loadw dL_law_221 rfl ?_
        refine zr_iconst dL_law_223 (by decide) ?_
        refine zr_iadd dL_law_224 ?_
        refine zr_sld dL_law_225 hi1 rfl ?_
        rw [← ha1]
        refine zr_if_eq (tgt := 233) dL_law_226 (by decide) (fun _ => ?_) (fun w => absurd q1 w)
        refine zr_iconst dL_law_233 (by decide) ?_
        refine zr_aload ⟨_, dL_law_234, rfl⟩ rfl ?_
        refine zr_loadw dL_law_235 rfl ?_
        refine zr_iconst dL_law_237 (by decide) ?_
        refine zr_iadd dL_law_238 ?_
        refine zr_sld dL_law_239 hi2 rfl ?_
        rw [← ha2]
        refine zr_aload ⟨_, dL_law_240, rfl⟩ rfl ?_
        refine zr_loadw dL_law_241 rfl ?_
        refine zr_iconst dL_law_243 (by decide) ?_
        refine zr_iadd dL_law_244 ?_
        refine zr_sld dL_law_245 hi3 rfl ?_
        rw [← ha3]
        refine zr_aload ⟨_, dL_law_246, rfl⟩ rfl ?_
        refine zr_loadw dL_law_247 rfl ?_
        refine zr_iconst dL_law_249 (by decide) ?_
        refine zr_iadd dL_law_250 ?_
        refine zr_sld dL_law_251 hi4 rfl ?_
        rw [← ha4]
        have c252 : zSpecF zTrv 11 zall 0 0 m_X12_code [.inr (.inl (some 0)), .inl 0, .inl a2, .inl a3, .inl a4] (ziT r 0 TRf) (fun r1 w1 => r1 = some (.inl v) ∧ w1 = ziT r' 0 TRf) := by
          have h0 := t_Rf_code f2
          exact zSpecT.F h0
        refine zg_callW (r := some (.inl v)) (v := 500) (zRunQ_of (zrun_VW (f := zsh 76) (rest := []) dL_law_252 ml_L_79 zLw_76 rfl (by decide) (by decide) rfl (Nat.le_of_ble_eq_true rfl)) c252 zMv_tr zMv_tr (zFr_Rl (C := C) (r := r) (g := g) (r' := r')).1 (zFr_Rl (C := C) (r := r) (g := g) (r' := r')).2.1 rfl rfl) (zFr_Rl (C := C) (r := r) (g := g) (r' := r')) (fun _ _ => True.intro) (fun x hx => absurd hx List.not_mem_nil) (fun k h => by rw [show k = 999 from h]; decide) rfl rfl (by show _ ≤ 601024; omega) (by show _ ≤ 7293034; omega) ?_
        show zB m_L_law RLw (FLw b L xs) PLw 255 (zLL i (some (.inl 2)) none) [.inl v] (zLwld C r' g) _ _
        refine zr_storew dL_law_255 (by decide) rfl ?_
        refine zr_aload ⟨_, dL_law_257, rfl⟩ rfl ?_
        have c258 : zSpecF zTrv 1 zall 0 0 m_X12_thrown [.inr (.inl (some 0))] (ziT r' 0 TRf) (fun r1 w1 => r1 = some (.inl 2) ∧ w1 = ziT r' 0 TRf) := by
          have h0 := t_Rf_thrown (res := 2) (congrArg some f3)
          exact zSpecT.F h0
        refine zg_callW (r := some (.inl 2)) (v := 500) (zRunQ_of (zrun_VW (f := zsh 76) (rest := []) dL_law_258 ml_L_72 zLw_76 rfl (by decide) (by decide) rfl (Nat.le_of_ble_eq_true rfl)) c258 zMv_tr zMv_tr (zFr_Rl (C := C) (r := r') (g := g) (r' := r')).1 (zFr_Rl (C := C) (r := r') (g := g) (r' := r')).2.1 rfl rfl) (zFr_Rl (C := C) (r := r') (g := g) (r' := r')) (fun _ _ => True.intro) (fun x hx => absurd hx List.not_mem_nil) (fun k h => by rw [show k = 999 from h]; decide) rfl rfl (by show _ ≤ 601024; omega) (by show _ ≤ 7293034; omega) ?_
        show zB m_L_law RLw (FLw b L xs) PLw 261 (zLL i (some (.inl 2)) (some (.inl v))) [.inl 2] (zLwld C r' g) _ _
        refine zr_loadw dL_law_261 rfl ?_
        refine zr_ic_eq (tgt := 268) dL_law_263 (by decide) (fun _ => ?_) (fun w => absurd rfl w)
        refine zr_loadw dL_law_268 rfl ?_
        refine zr_if_ne (tgt := 285) dL_law_270 (by decide) (fun _ => ?_) (fun w => absurd (by decide : ¬ (2 : Int) = 0) w)
        refine zr_goto (tgt := 1159) dL_law_285 (by decide) ?_
        refine zr_mask [true, true, true, true, true, false, false] rfl ?_
        exact hK _ _ _ _ _ f4 (by omega) (by omega)
  · rcases M_code hW hB (a := 1) (by decide) a2 a3 a4 with ⟨v, C', r', f1, f2, f3, f4⟩ | ⟨j, ⟨v, r', f1, f2, f3, f4⟩, hj⟩
    · have hm : zpot 42 C' ≤ zpot 42 C := mo_code f1
      refine zr_aload ⟨_, dL_law_180, rfl⟩ rfl ?_
      refine zr_aload ⟨_, dL_law_181, rfl⟩ rfl ?_
      refine zr_loadw dL_law_182 rfl ?_
      refine zr_iconst dL_law_184 (by decide) ?_
      refine zr_iadd dL_law_185 ?_
      refine zr_sld dL_law_186 hi1 rfl ?_
      rw [← ha1]
      refine zr_if_eq (tgt := 194) dL_law_187 (by decide) (fun w => absurd w q1) (fun _ => ?_)
      refine zr_iconst dL_law_190 (by decide) ?_
      refine zr_goto (tgt := 195) dL_law_191 (by decide) ?_
      refine zr_aload ⟨_, dL_law_195, rfl⟩ rfl ?_
      refine zr_loadw dL_law_196 rfl ?_
      refine zr_iconst dL_law_198 (by decide) ?_
      refine zr_iadd dL_law_199 ?_
      refine zr_sld dL_law_200 hi2 rfl ?_
      rw [← ha2]
      refine zr_aload ⟨_, dL_law_201, rfl⟩ rfl ?_
      refine zr_loadw dL_law_202 rfl ?_
      refine zr_iconst dL_law_204 (by decide) ?_
      refine zr_iadd dL_law_205 ?_
      refine zr_sld dL_law_206 hi3 rfl ?_
      rw [← ha3]
      refine zr_aload ⟨_, dL_law_207, rfl⟩ rfl ?_
      refine zr_loadw dL_law_208 rfl ?_
      refine zr_iconst dL_law_210 (by decide) ?_
      refine zr_iadd dL_law_211 ?_
      refine zr_sld dL_law_212 hi4 rfl ?_
      rw [← ha4]
      refine zr_aload ⟨_, dL_law_213, rfl⟩ rfl ?_
      have c214 := la_code (g := g) f1 hm
      refine zg_callW (r := some (.inl 0)) (v := 42) (zRunQ_H (rest := []) c214 dL_law_214 ls_code cw_code cl_code rfl (by decide) (by decide) (by decide) zMv_law zMv_lw (zFr_Ll (C := C) (r := r) (g := g) (C' := C') (g' := (zup g 0 v))).1 (zFr_Ll (C := C) (r := r) (g := g) (C' := C') (g' := (zup g 0 v))).2.1 rfl rfl) (zFr_Ll (C := C) (r := r) (g := g) (C' := C') (g' := (zup g 0 v))) (fun k h => h) (fun x hx => absurd hx List.not_mem_nil) (fun k h => by rw [show k = 999 from h]; decide) rfl rfl (by show _ ≤ 601024; omega) (by show _ ≤ 7293034; omega) ?_
      show zB m_L_law RLw (FLw b L xs) PLw 217 (zLL i none none) [.inl 0] (zLwld C' r (zup g 0 v)) _ _
      refine zr_storew dL_law_217 (by decide) rfl ?_
      refine zr_aload ⟨_, dL_law_219, rfl⟩ rfl ?_
      refine zr_aload ⟨_, dL_law_220, rfl⟩ rfl ?_
      refine zr_loadw dL_law_221 rfl ?_
      refine zr_iconst dL_law_223 (by decide) ?_
      refine zr_iadd dL_law_224 ?_
      refine zr_sld dL_law_225 hi1 rfl ?_
      rw [← ha1]
      refine zr_if_eq (tgt := 233) dL_law_226 (by decide) (fun w => absurd w q1) (fun _ => ?_)
      refine zr_iconst dL_law_229 (by decide) ?_
      refine zr_goto (tgt := 234) dL_law_230 (by decide) ?_
      refine zr_aload ⟨_, dL_law_234, rfl⟩ rfl ?_
      refine zr_loadw dL_law_235 rfl ?_
      refine zr_iconst dL_law_237 (by decide) ?_
      refine zr_iadd dL_law_238 ?_
      refine zr_sld dL_law_239 hi2 rfl ?_
      rw [← ha2]
      refine zr_aload ⟨_, dL_law_240, rfl⟩ rfl ?_
      refine zr_loadw dL_law_241 rfl ?_
      refine zr_iconst dL_law_243 (by decide) ?_
      refine zr_iadd dL_law_244 ?_
      refine zr_sld dL_law_245 hi3 rfl ?_
      rw [← ha3]
      refine zr_aload ⟨_, dL_law_246, rfl⟩ rfl ?_
      refine zr_loadw dL_law_247 rfl ?_
      refine zr_iconst dL_law_249 (by decide) ?_
      refine zr_iadd dL_law_250 ?_
      refine zr_sld dL_law_251 hi4 rfl ?_
      rw [← ha4]
      have c252 : zSpecF zTrv 11 zall 0 0 m_X12_code [.inr (.inl (some 0)), .inl 1, .inl a2, .inl a3, .inl a4] (ziT r 0 TRf) (fun r1 w1 => r1 = some (.inl v) ∧ w1 = ziT r' 0 TRf) := by
        have h0 := t_Rf_code f2
        exact zSpecT.F h0
      refine zg_callW (r := some (.inl v)) (v := 500) (zRunQ_of (zrun_VW (f := zsh 76) (rest := []) dL_law_252 ml_L_79 zLw_76 rfl (by decide) (by decide) rfl (Nat.le_of_ble_eq_true rfl)) c252 zMv_tr zMv_tr (zFr_Rl (C := C') (r := r) (g := (zup g 0 v)) (r' := r')).1 (zFr_Rl (C := C') (r := r) (g := (zup g 0 v)) (r' := r')).2.1 rfl rfl) (zFr_Rl (C := C') (r := r) (g := (zup g 0 v)) (r' := r')) (fun _ _ => True.intro) (fun x hx => absurd hx List.not_mem_nil) (fun k h => by rw [show k = 999 from h]; decide) rfl rfl (by show _ ≤ 601024; omega) (by show _ ≤ 7293034; omega) ?_
      show zB m_L_law RLw (FLw b L xs) PLw 255 (zLL i (some (.inl 0)) none) [.inl v] (zLwld C' r' (zup g 0 v)) _ _
      refine zr_storew dL_law_255 (by decide) rfl ?_
      refine zr_aload ⟨_, dL_law_257, rfl⟩ rfl ?_
      have c258 : zSpecF zTrv 1 zall 0 0 m_X12_thrown [.inr (.inl (some 0))] (ziT r' 0 TRf) (fun r1 w1 => r1 = some (.inl 0) ∧ w1 = ziT r' 0 TRf) := by
        have h0 := t_Rf_thrown (res := 0) (congrArg some f3)
        exact zSpecT.F h0
      refine zg_callW (r := some (.inl 0)) (v := 500) (zRunQ_of (zrun_VW (f := zsh 76) (rest := []) dL_law_258 ml_L_72 zLw_76 rfl (by decide) (by decide) rfl (Nat.le_of_ble_eq_true rfl)) c258 zMv_tr zMv_tr (zFr_Rl (C := C') (r := r') (g := (zup g 0 v)) (r' := r')).1 (zFr_Rl (C := C') (r := r') (g := (zup g 0 v)) (r' := r')).2.1 rfl rfl) (zFr_Rl (C := C') (r := r') (g := (zup g 0 v)) (r' := r')) (fun _ _ => True.intro) (fun x hx => absurd hx List.not_mem_nil) (fun k h => by rw [show k = 999 from h]; decide) rfl rfl (by show _ ≤ 601024; omega) (by show _ ≤ 7293034; omega) ?_
      show zB m_L_law RLw (FLw b L xs) PLw 261 (zLL i (some (.inl 0)) (some (.inl v))) [.inl 0] (zLwld C' r' (zup g 0 v)) _ _
      refine zr_loadw dL_law_261 rfl ?_
      refine zr_ic_eq (tgt := 268) dL_law_263 (by decide) (fun _ => ?_) (fun w => absurd rfl w)
      refine zr_loadw dL_law_268 rfl ?_
      refine zr_if_ne (tgt := 285) dL_law_270 (by decide) (fun w => absurd rfl w) (fun _ => ?_)
      refine zr_aload ⟨_, dL_law_273, rfl⟩ rfl ?_
      refine zr_iconst dL_law_274 (by decide) ?_
      refine zr_laload dL_law_275 zLw_92 ⟨by decide, by decide⟩ ?_
      rw [zup_same]
      refine zr_loadw dL_law_276 rfl ?_
      refine zr_i2l dL_law_278 ?_
      refine zr_lcmpS dL_law_279 ?_
      refine zr_if_eq (tgt := 285) dL_law_280 (by decide) (fun _ => ?_) (fun w => absurd rfl w)
      refine zr_goto (tgt := 1159) dL_law_285 (by decide) ?_
      refine zr_mask [true, true, true, true, true, false, false] rfl ?_
      exact hK _ _ _ _ _ f4 (by omega) (by omega)
    · rcases hj with rfl | rfl
      · refine zr_aload ⟨_, dL_law_180, rfl⟩ rfl ?_
        refine zr_aload ⟨_, dL_law_181, rfl⟩ rfl ?_
        refine zr_loadw dL_law_182 rfl ?_
        refine zr_iconst dL_law_184 (by decide) ?_
        refine zr_iadd dL_law_185 ?_
        refine zr_sld dL_law_186 hi1 rfl ?_
        rw [← ha1]
        refine zr_if_eq (tgt := 194) dL_law_187 (by decide) (fun w => absurd w q1) (fun _ => ?_)
        refine zr_iconst dL_law_190 (by decide) ?_
        refine zr_goto (tgt := 195) dL_law_191 (by decide) ?_
        refine zr_aload ⟨_, dL_law_195, rfl⟩ rfl ?_
        refine zr_loadw dL_law_196 rfl ?_
        refine zr_iconst dL_law_198 (by decide) ?_
        refine zr_iadd dL_law_199 ?_
        refine zr_sld dL_law_200 hi2 rfl ?_
        rw [← ha2]
        refine zr_aload ⟨_, dL_law_201, rfl⟩ rfl ?_
        refine zr_loadw dL_law_202 rfl ?_
        refine zr_iconst dL_law_204 (by decide) ?_
        refine zr_iadd dL_law_205 ?_
        refine zr_sld dL_law_206 hi3 rfl ?_
        rw [← ha3]
        refine zr_aload ⟨_, dL_law_207, rfl⟩ rfl ?_
        refine zr_loadw dL_law_208 rfl ?_
        refine zr_iconst dL_law_210 (by decide) ?_
        refine zr_iadd dL_law_211 ?_
        refine zr_sld dL_law_212 hi4 rfl ?_
        rw [← ha4]
        refine zr_aload ⟨_, dL_law_213, rfl⟩ rfl ?_
        have c214 := lx_code_1 (g := g) ((x_code 1 a2 a3 a4 C).trans f1)
        refine zg_callW (r := some (.inl 1)) (v := 42) (zRunQ_H (rest := []) c214 dL_law_214 ls_code cw_code cl_code rfl (by decide) (by decide) (by decide) zMv_law zMv_lw (zFr_Ll (C := C) (r := r) (g := g) (C' := C) (g' := g)).1 (zFr_Ll (C := C) (r := r) (g := g) (C' := C) (g' := g)).2.1 rfl rfl) (zFr_Ll (C := C) (r := r) (g := g) (C' := C) (g' := g)) (fun k h => h) (fun x hx => absurd hx List.not_mem_nil) (fun k h => by rw [show k = 999 from h]; decide) rfl rfl (by show _ ≤ 601024; omega) (by show _ ≤ 7293034; omega) ?_
        show zB m_L_law RLw (FLw b L xs) PLw 217 (zLL i none none) [.inl 1] (zLwld C r g) _ _
        refine zr_storew dL_law_217 (by decide) rfl ?_
        refine zr_aload ⟨_, dL_law_219, rfl⟩ rfl ?_
        refine zr_aload ⟨_, dL_law_220, rfl⟩ rfl ?_
        refine zr_loadw dL_law_221 rfl ?_
        refine zr_iconst dL_law_223 (by decide) ?_
        refine zr_iadd dL_law_224 ?_
        refine zr_sld dL_law_225 hi1 rfl ?_
        rw [← ha1]
        refine zr_if_eq (tgt := 233) dL_law_226 (by decide) (fun w => absurd w q1) (fun _ => ?_)
        refine zr_iconst dL_law_229 (by decide) ?_
        refine zr_goto (tgt := 234) dL_law_230 (by decide) ?_
        refine zr_aload ⟨_, dL_law_234, rfl⟩ rfl ?_
        refine zr_loadw dL_law_235 rfl ?_
        refine zr_iconst dL_law_237 (by decide) ?_
        refine zr_iadd dL_law_238 ?_
        refine zr_sld dL_law_239 hi2 rfl ?_
        rw [← ha2]
        refine zr_aload ⟨_, dL_law_240, rfl⟩ rfl ?_
        refine zr_loadw dL_law_241 rfl ?_
        refine zr_iconst dL_law_243 (by decide) ?_
        refine zr_iadd dL_law_244 ?_
        refine zr_sld dL_law_245 hi3 rfl ?_
        rw [← ha3]
        refine zr_aload ⟨_, dL_law_246, rfl⟩ rfl ?_
        refine zr_loadw dL_law_247 rfl ?_
        refine zr_iconst dL_law_249 (by decide) ?_
        refine zr_iadd dL_law_250 ?_
        refine zr_sld dL_law_251 hi4 rfl ?_
        rw [← ha4]
        have c252 : zSpecF zTrv 11 zall 0 0 m_X12_code [.inr (.inl (some 0)), .inl 1, .inl a2, .inl a3, .inl a4] (ziT r 0 TRf) (fun r1 w1 => r1 = some (.inl v) ∧ w1 = ziT r' 0 TRf) := by
          have h0 := t_Rf_code f2
          exact zSpecT.F h0
        refine zg_callW (r := some (.inl v)) (v := 500) (zRunQ_of (zrun_VW (f := zsh 76) (rest := []) dL_law_252 ml_L_79 zLw_76 rfl (by decide) (by decide) rfl (Nat.le_of_ble_eq_true rfl)) c252 zMv_tr zMv_tr (zFr_Rl (C := C) (r := r) (g := g) (r' := r')).1 (zFr_Rl (C := C) (r := r) (g := g) (r' := r')).2.1 rfl rfl) (zFr_Rl (C := C) (r := r) (g := g) (r' := r')) (fun _ _ => True.intro) (fun x hx => absurd hx List.not_mem_nil) (fun k h => by rw [show k = 999 from h]; decide) rfl rfl (by show _ ≤ 601024; omega) (by show _ ≤ 7293034; omega) ?_
        show zB m_L_law RLw (FLw b L xs) PLw 255 (zLL i (some (.inl 1)) none) [.inl v] (zLwld C r' g) _ _
        refine zr_storew dL_law_255 (by decide) rfl ?_
        refine zr_aload ⟨_, dL_law_257, rfl⟩ rfl ?_
        have c258 : zSpecF zTrv 1 zall 0 0 m_X12_thrown [.inr (.inl (some 0))] (ziT r' 0 TRf) (fun r1 w1 => r1 = some (.inl 1) ∧ w1 = ziT r' 0 TRf) := by
          have h0 := t_Rf_thrown (res := 1) (congrArg some f3)
          exact zSpecT.F h0
        refine zg_callW (r := some (.inl 1)) (v := 500) (zRunQ_of (zrun_VW (f := zsh 76) (rest := []) dL_law_258 ml_L_72 zLw_76 rfl (by decide) (by decide) rfl (Nat.le_of_ble_eq_true rfl)) c258 zMv_tr zMv_tr (zFr_Rl (C := C) (r := r') (g := g) (r' := r')).1 (zFr_Rl (C := C) (r := r') (g := g) (r' := r')).2.1 rfl rfl) (zFr_Rl (C := C) (r := r') (g := g) (r' := r')) (fun _ _ => True.intro) (fun x hx => absurd hx List.not_mem_nil) (fun k h => by rw [show k = 999 from h]; decide) rfl rfl (by show _ ≤ 601024; omega) (by show _ ≤ 7293034; omega) ?_
        show zB m_L_law RLw (FLw b L xs) PLw 261 (zLL i (some (.inl 1)) (some (.inl v))) [.inl 1] (zLwld C r' g) _ _
        refine zr_loadw dL_law_261 rfl ?_
        refine zr_ic_eq (tgt := 268) dL_law_263 (by decide) (fun _ => ?_) (fun w => absurd rfl w)
        refine zr_loadw dL_law_268 rfl ?_
        refine zr_if_ne (tgt := 285) dL_law_270 (by decide) (fun _ => ?_) (fun w => absurd (by decide : ¬ (1 : Int) = 0) w)
        refine zr_goto (tgt := 1159) dL_law_285 (by decide) ?_
        refine zr_mask [true, true, true, true, true, false, false] rfl ?_
        exact hK _ _ _ _ _ f4 (by omega) (by omega)
      · refine zr_aload ⟨_, dL_law_180, rfl⟩ rfl ?_
        refine zr_aload ⟨_, dL_law_181, rfl⟩ rfl ?_
        refine zr_loadw dL_law_182 rfl ?_
        refine zr_iconst dL_law_184 (by decide) ?_
        refine zr_iadd dL_law_185 ?_
        refine zr_sld dL_law_186 hi1 rfl ?_
        rw [← ha1]
        refine zr_if_eq (tgt := 194) dL_law_187 (by decide) (fun w => absurd w q1) (fun _ => ?_)
        refine zr_iconst dL_law_190 (by decide) ?_
        refine zr_goto (tgt := 195) dL_law_191 (by decide) ?_
        refine zr_aload ⟨_, dL_law_195, rfl⟩ rfl ?_
        refine zr_loadw dL_law_196 rfl ?_
        refine zr_iconst dL_law_198 (by decide) ?_
        refine zr_iadd dL_law_199 ?_
        refine zr_sld dL_law_200 hi2 rfl ?_
        rw [← ha2]
        refine zr_aload ⟨_, dL_law_201, rfl⟩ rfl ?_
        refine zr_loadw dL_law_202 rfl ?_
        refine zr_iconst dL_law_204 (by decide) ?_
        refine zr_iadd dL_law_205 ?_
        refine zr_sld dL_law_206 hi3 rfl ?_
        rw [← ha3]
        refine zr_aload ⟨_, dL_law_207, rfl⟩ rfl ?_
        refine zr_loadw dL_law_208 rfl ?_
        refine zr_iconst dL_law_210 (by decide) ?_
        refine zr_iadd dL_law_211 ?_
        refine zr_sld dL_law_212 hi4 rfl ?_
        rw [← ha4]
        refine zr_aload ⟨_, dL_law_213, rfl⟩ rfl ?_
        have c214 := lx_code_2 (g := g) ((x_code 1 a2 a3 a4 C).trans f1)
        refine zg_callW (r := some (.inl 2)) (v := 42) (zRunQ_H (rest := []) c214 dL_law_214 ls_code cw_code cl_code rfl (by decide) (by decide) (by decide) zMv_law zMv_lw (zFr_Ll (C := C) (r := r) (g := g) (C' := C) (g' := g)).1 (zFr_Ll (C := C) (r := r) (g := g) (C' := C) (g' := g)).2.1 rfl rfl) (zFr_Ll (C := C) (r := r) (g := g) (C' := C) (g' := g)) (fun k h => h) (fun x hx => absurd hx List.not_mem_nil) (fun k h => by rw [show k = 999 from h]; decide) rfl rfl (by show _ ≤ 601024; omega) (by show _ ≤ 7293034; omega) ?_
        show zB m_L_law RLw (FLw b L xs) PLw 217 (zLL i none none) [.inl 2] (zLwld C r g) _ _
        refine zr_storew dL_law_217 (by decide) rfl ?_
        refine zr_aload ⟨_, dL_law_219, rfl⟩ rfl ?_
        refine zr_aload ⟨_, dL_law_220, rfl⟩ rfl ?_
        refine zr_loadw dL_law_221 rfl ?_
        refine zr_iconst dL_law_223 (by decide) ?_
        refine zr_iadd dL_law_224 ?_
        refine zr_sld dL_law_225 hi1 rfl ?_
        rw [← ha1]
        refine zr_if_eq (tgt := 233) dL_law_226 (by decide) (fun w => absurd w q1) (fun _ => ?_)
        refine zr_iconst dL_law_229 (by decide) ?_
        refine zr_goto (tgt := 234) dL_law_230 (by decide) ?_
        refine zr_aload ⟨_, dL_law_234, rfl⟩ rfl ?_
        refine zr_loadw dL_law_235 rfl ?_
        refine zr_iconst dL_law_237 (by decide) ?_
        refine zr_iadd dL_law_238 ?_
        refine zr_sld dL_law_239 hi2 rfl ?_
        rw [← ha2]
        refine zr_aload ⟨_, dL_law_240, rfl⟩ rfl ?_
        refine zr_loadw dL_law_241 rfl ?_
        refine zr_iconst dL_law_243 (by decide) ?_
        refine zr_iadd dL_law_244 ?_
        refine zr_sld dL_law_245 hi3 rfl ?_
        rw [← ha3]
        refine zr_aload ⟨_, dL_law_246, rfl⟩ rfl ?_
        refine zr_loadw dL_law_247 rfl ?_
        refine zr_iconst dL_law_249 (by decide) ?_
        refine zr_iadd dL_law_250 ?_
        refine zr_sld dL_law_251 hi4 rfl ?_
        rw [← ha4]
        have c252 : zSpecF zTrv 11 zall 0 0 m_X12_code [.inr (.inl (some 0)), .inl 1, .inl a2, .inl a3, .inl a4] (ziT r 0 TRf) (fun r1 w1 => r1 = some (.inl v) ∧ w1 = ziT r' 0 TRf) := by
          have h0 := t_Rf_code f2
          exact zSpecT.F h0
        refine zg_callW (r := some (.inl v)) (v := 500) (zRunQ_of (zrun_VW (f := zsh 76) (rest := []) dL_law_252 ml_L_79 zLw_76 rfl (by decide) (by decide) rfl (Nat.le_of_ble_eq_true rfl)) c252 zMv_tr zMv_tr (zFr_Rl (C := C) (r := r) (g := g) (r' := r')).1 (zFr_Rl (C := C) (r := r) (g := g) (r' := r')).2.1 rfl rfl) (zFr_Rl (C := C) (r := r) (g := g) (r' := r')) (fun _ _ => True.intro) (fun x hx => absurd hx List.not_mem_nil) (fun k h => by rw [show k = 999 from h]; decide) rfl rfl (by show _ ≤ 601024; omega) (by show _ ≤ 7293034; omega) ?_
        show zB m_L_law RLw (FLw b L xs) PLw 255 (zLL i (some (.inl 2)) none) [.inl v] (zLwld C r' g) _ _
        refine zr_storew dL_law_255 (by decide) rfl ?_
        refine zr_aload ⟨_, dL_law_257, rfl⟩ rfl ?_
        have c258 : zSpecF zTrv 1 zall 0 0 m_X12_thrown [.inr (.inl (some 0))] (ziT r' 0 TRf) (fun r1 w1 => r1 = some (.inl 2) ∧ w1 = ziT r' 0 TRf) := by
          have h0 := t_Rf_thrown (res := 2) (congrArg some f3)
          exact zSpecT.F h0
        refine zg_callW (r := some (.inl 2)) (v := 500) (zRunQ_of (zrun_VW (f := zsh 76) (rest := []) dL_law_258 ml_L_72 zLw_76 rfl (by decide) (by decide) rfl (Nat.le_of_ble_eq_true rfl)) c258 zMv_tr zMv_tr (zFr_Rl (C := C) (r := r') (g := g) (r' := r')).1 (zFr_Rl (C := C) (r := r') (g := g) (r' := r')).2.1 rfl rfl) (zFr_Rl (C := C) (r := r') (g := g) (r' := r')) (fun _ _ => True.intro) (fun x hx => absurd hx List.not_mem_nil) (fun k h => by rw [show k = 999 from h]; decide) rfl rfl (by show _ ≤ 601024; omega) (by show _ ≤ 7293034; omega) ?_
        show zB m_L_law RLw (FLw b L xs) PLw 261 (zLL i (some (.inl 2)) (some (.inl v))) [.inl 2] (zLwld C r' g) _ _
        refine zr_loadw dL_law_261 rfl ?_
        refine zr_ic_eq (tgt := 268) dL_law_263 (by decide) (fun _ => ?_) (fun w => absurd rfl w)
        refine zr_loadw dL_law_268 rfl ?_
        refine zr_if_ne (tgt := 285) dL_law_270 (by decide) (fun _ => ?_) (fun w => absurd (by decide : ¬ (2 : Int) = 0) w)
        refine zr_goto (tgt := 1159) dL_law_285 (by decide) ?_
        refine zr_mask [true, true, true, true, true, false, false] rfl ?_
        exact hK _ _ _ _ _ f4 (by omega) (by omega)
set_option maxRecDepth 100000 in
set_option maxHeartbeats 1000000 in
theorem lc_type {b L N N' B uc us : Nat} {xs : Nat → Int32} {i : Int} {C r : zSt} {g : Int → Int} (hi : 0 ≤ i ∧ i + 5 ≤ L) (hLm : L ≤ 2560) (hW : zWh B C r) (hB : B + 100 < 65536) (huc : uc + zpot 42 C ≤ N) (hus : us + zpot 42 C ≤ N') (hN : N + 1 ≤ 601024) (hN' : N' + 6 ≤ 7293034)
    (hK : ∀ (C' r' : zSt) (g' : Int → Int) (uc' us' : Nat), zWh (B + 100) C' r' → uc' + zpot 42 C' ≤ N + 1 → us' + zpot 42 C' ≤ N' + 6 → zB m_L_law RLw (FLw b L xs) PLw 1159 (zLL i none none) [] (zLwld C' r' g') uc' us') :
    zB m_L_law RLw (FLw b L xs) PLw 288 (zLL i none none) [] (zLwld C r g) uc us := by
  have e1 : w32 (i + 1) = i + 1 := w32i (by omega) (by omega)
  have hi1 : 0 ≤ w32 (i + 1) ∧ w32 (i + 1) < L := by rw [e1]; omega
  obtain ⟨a1, ha1⟩ : ∃ a, a = zxs xs (w32 (i + 1)) := ⟨_, rfl⟩
  rcases M_type hW hB a1 with ⟨v, C', r', f1, f2, f3, f4⟩ | ⟨v, r', f1, f2, f3, f4⟩
  · have hm : zpot 42 C' ≤ zpot 42 C := mo_type f1
    refine zr_aload ⟨_, dL_law_288, rfl⟩ rfl ?_
    refine zr_aload ⟨_, dL_law_289, rfl⟩ rfl ?_
    refine zr_loadw dL_law_290 rfl ?_
    refine zr_iconst dL_law_292 (by decide) ?_
    refine zr_iadd dL_law_293 ?_
    refine zr_sld dL_law_294 hi1 rfl ?_
    rw [← ha1]
    refine zr_aload ⟨_, dL_law_295, rfl⟩ rfl ?_
    have c296 := la_type (g := g) f1 hm
    refine zg_callW (r := some (.inl 0)) (v := 42) (zRunQ_H (rest := []) c296 dL_law_296 ls_type cw_type cl_type rfl (by decide) (by decide) (by decide) zMv_law zMv_lw (zFr_Ll (C := C) (r := r) (g := g) (C' := C') (g' := (zup g 0 v))).1 (zFr_Ll (C := C) (r := r) (g := g) (C' := C') (g' := (zup g 0 v))).2.1 rfl rfl) (zFr_Ll (C := C) (r := r) (g := g) (C' := C') (g' := (zup g 0 v))) (fun k h => h) (fun x hx => absurd hx List.not_mem_nil) (fun k h => by rw [show k = 999 from h]; decide) rfl rfl (by show _ ≤ 601024; omega) (by show _ ≤ 7293034; omega) ?_
    show zB m_L_law RLw (FLw b L xs) PLw 299 (zLL i none none) [.inl 0] (zLwld C' r (zup g 0 v)) _ _
    refine zr_storew dL_law_299 (by decide) rfl ?_
    refine zr_aload ⟨_, dL_law_301, rfl⟩ rfl ?_
    refine zr_aload ⟨_, dL_law_302, rfl⟩ rfl ?_
    refine zr_loadw dL_law_303 rfl ?_
    refine zr_iconst dL_law_305 (by decide) ?_
    refine zr_iadd dL_law_306 ?_
    refine zr_sld dL_law_307 hi1 rfl ?_
    rw [← ha1]
    have c308 : zSpecF zTrv 14 zall 0 0 m_X12_type [.inr (.inl (some 0)), .inl a1] (ziT r 0 TRf) (fun r1 w1 => r1 = some (.inl v) ∧ w1 = ziT r' 0 TRf) := by
      have h0 := t_Rf_type f2
      exact zSpecT.F h0
    refine zg_callW (r := some (.inl v)) (v := 500) (zRunQ_of (zrun_VW (f := zsh 76) (rest := []) dL_law_308 ml_L_82 zLw_76 rfl (by decide) (by decide) rfl (Nat.le_of_ble_eq_true rfl)) c308 zMv_tr zMv_tr (zFr_Rl (C := C') (r := r) (g := (zup g 0 v)) (r' := r')).1 (zFr_Rl (C := C') (r := r) (g := (zup g 0 v)) (r' := r')).2.1 rfl rfl) (zFr_Rl (C := C') (r := r) (g := (zup g 0 v)) (r' := r')) (fun _ _ => True.intro) (fun x hx => absurd hx List.not_mem_nil) (fun k h => by rw [show k = 999 from h]; decide) rfl rfl (by show _ ≤ 601024; omega) (by show _ ≤ 7293034; omega) ?_
    show zB m_L_law RLw (FLw b L xs) PLw 311 (zLL i (some (.inl 0)) none) [.inl v] (zLwld C' r' (zup g 0 v)) _ _
    refine zr_storew dL_law_311 (by decide) rfl ?_
    refine zr_aload ⟨_, dL_law_313, rfl⟩ rfl ?_
    have c314 : zSpecF zTrv 1 zall 0 0 m_X12_thrown [.inr (.inl (some 0))] (ziT r' 0 TRf) (fun r1 w1 => r1 = some (.inl 0) ∧ w1 = ziT r' 0 TRf) := by
      have h0 := t_Rf_thrown (res := 0) (congrArg some f3)
      exact zSpecT.F h0
    refine zg_callW (r := some (.inl 0)) (v := 500) (zRunQ_of (zrun_VW (f := zsh 76) (rest := []) dL_law_314 ml_L_72 zLw_76 rfl (by decide) (by decide) rfl (Nat.le_of_ble_eq_true rfl)) c314 zMv_tr zMv_tr (zFr_Rl (C := C') (r := r') (g := (zup g 0 v)) (r' := r')).1 (zFr_Rl (C := C') (r := r') (g := (zup g 0 v)) (r' := r')).2.1 rfl rfl) (zFr_Rl (C := C') (r := r') (g := (zup g 0 v)) (r' := r')) (fun _ _ => True.intro) (fun x hx => absurd hx List.not_mem_nil) (fun k h => by rw [show k = 999 from h]; decide) rfl rfl (by show _ ≤ 601024; omega) (by show _ ≤ 7293034; omega) ?_
    show zB m_L_law RLw (FLw b L xs) PLw 317 (zLL i (some (.inl 0)) (some (.inl v))) [.inl 0] (zLwld C' r' (zup g 0 v)) _ _
    refine zr_loadw dL_law_317 rfl ?_
    refine zr_ic_eq (tgt := 324) dL_law_319 (by decide) (fun _ => ?_) (fun w => absurd rfl w)
    refine zr_loadw dL_law_324 rfl ?_
    refine zr_if_ne (tgt := 341) dL_law_326 (by decide) (fun w => absurd rfl w) (fun _ => ?_)
    refine zr_aload ⟨_, dL_law_329, rfl⟩ rfl ?_
    refine zr_iconst dL_law_330 (by decide) ?_
    refine zr_laload dL_law_331 zLw_92 ⟨by decide, by decide⟩ ?_
    rw [zup_same]
    refine zr_loadw dL_law_332 rfl ?_
    refine zr_i2l dL_law_334 ?_
    refine zr_lcmpS dL_law_335 ?_
    refine zr_if_eq (tgt := 341) dL_law_336 (by decide) (fun _ => ?_) (fun w => absurd rfl w)
    refine zr_goto (tgt := 1159) dL_law_341 (by decide) ?_
    refine zr_mask [true, true, true, true, true, false, false] rfl ?_
    exact hK _ _ _ _ _ f4 (by omega) (by omega)
  · refine zr_aload ⟨_, dL_law_288, rfl⟩ rfl ?_
    refine zr_aload ⟨_, dL_law_289, rfl⟩ rfl ?_
    refine zr_loadw dL_law_290 rfl ?_
    refine zr_iconst dL_law_292 (by decide) ?_
    refine zr_iadd dL_law_293 ?_
    refine zr_sld dL_law_294 hi1 rfl ?_
    rw [← ha1]
    refine zr_aload ⟨_, dL_law_295, rfl⟩ rfl ?_
    have c296 := lx_type_1 (g := g) ((x_type a1 C).trans f1)
    refine zg_callW (r := some (.inl 1)) (v := 42) (zRunQ_H (rest := []) c296 dL_law_296 ls_type cw_type cl_type rfl (by decide) (by decide) (by decide) zMv_law zMv_lw (zFr_Ll (C := C) (r := r) (g := g) (C' := C) (g' := g)).1 (zFr_Ll (C := C) (r := r) (g := g) (C' := C) (g' := g)).2.1 rfl rfl) (zFr_Ll (C := C) (r := r) (g := g) (C' := C) (g' := g)) (fun k h => h) (fun x hx => absurd hx List.not_mem_nil) (fun k h => by rw [show k = 999 from h]; decide) rfl rfl (by show _ ≤ 601024; omega) (by show _ ≤ 7293034; omega) ?_
    show zB m_L_law RLw (FLw b L xs) PLw 299 (zLL i none none) [.inl 1] (zLwld C r g) _ _
    refine zr_storew dL_law_299 (by decide) rfl ?_
    refine zr_aload ⟨_, dL_law_301, rfl⟩ rfl ?_
    refine zr_aload ⟨_, dL_law_302, rfl⟩ rfl ?_
    refine zr_loadw dL_law_303 rfl ?_
    refine zr_iconst dL_law_305 (by decide) ?_
    refine zr_iadd dL_law_306 ?_
    refine zr_sld dL_law_307 hi1 rfl ?_
    rw [← ha1]
    have c308 : zSpecF zTrv 14 zall 0 0 m_X12_type [.inr (.inl (some 0)), .inl a1] (ziT r 0 TRf) (fun r1 w1 => r1 = some (.inl v) ∧ w1 = ziT r' 0 TRf) := by
      have h0 := t_Rf_type f2
      exact zSpecT.F h0
    refine zg_callW (r := some (.inl v)) (v := 500) (zRunQ_of (zrun_VW (f := zsh 76) (rest := []) dL_law_308 ml_L_82 zLw_76 rfl (by decide) (by decide) rfl (Nat.le_of_ble_eq_true rfl)) c308 zMv_tr zMv_tr (zFr_Rl (C := C) (r := r) (g := g) (r' := r')).1 (zFr_Rl (C := C) (r := r) (g := g) (r' := r')).2.1 rfl rfl) (zFr_Rl (C := C) (r := r) (g := g) (r' := r')) (fun _ _ => True.intro) (fun x hx => absurd hx List.not_mem_nil) (fun k h => by rw [show k = 999 from h]; decide) rfl rfl (by show _ ≤ 601024; omega) (by show _ ≤ 7293034; omega) ?_
    show zB m_L_law RLw (FLw b L xs) PLw 311 (zLL i (some (.inl 1)) none) [.inl v] (zLwld C r' g) _ _
    refine zr_storew dL_law_311 (by decide) rfl ?_
    refine zr_aload ⟨_, dL_law_313, rfl⟩ rfl ?_
    have c314 : zSpecF zTrv 1 zall 0 0 m_X12_thrown [.inr (.inl (some 0))] (ziT r' 0 TRf) (fun r1 w1 => r1 = some (.inl 1) ∧ w1 = ziT r' 0 TRf) := by
      have h0 := t_Rf_thrown (res := 1) (congrArg some f3)
      exact zSpecT.F h0
    refine zg_callW (r := some (.inl 1)) (v := 500) (zRunQ_of (zrun_VW (f := zsh 76) (rest := []) dL_law_314 ml_L_72 zLw_76 rfl (by decide) (by decide) rfl (Nat.le_of_ble_eq_true rfl)) c314 zMv_tr zMv_tr (zFr_Rl (C := C) (r := r') (g := g) (r' := r')).1 (zFr_Rl (C := C) (r := r') (g := g) (r' := r')).2.1 rfl rfl) (zFr_Rl (C := C) (r := r') (g := g) (r' := r')) (fun _ _ => True.intro) (fun x hx => absurd hx List.not_mem_nil) (fun k h => by rw [show k = 999 from h]; decide) rfl rfl (by show _ ≤ 601024; omega) (by show _ ≤ 7293034; omega) ?_
    show zB m_L_law RLw (FLw b L xs) PLw 317 (zLL i (some (.inl 1)) (some (.inl v))) [.inl 1] (zLwld C r' g) _ _
    refine zr_loadw dL_law_317 rfl ?_
    refine zr_ic_eq (tgt := 324) dL_law_319 (by decide) (fun _ => ?_) (fun w => absurd rfl w)
    refine zr_loadw dL_law_324 rfl ?_
    refine zr_if_ne (tgt := 341) dL_law_326 (by decide) (fun _ => ?_) (fun w => absurd (by decide : ¬ (1 : Int) = 0) w)
    refine zr_goto (tgt := 1159) dL_law_341 (by decide) ?_
    refine zr_mask [true, true, true, true, true, false, false] rfl ?_
    exact hK _ _ _ _ _ f4 (by omega) (by omega)
set_option maxRecDepth 100000 in
set_option maxHeartbeats 1000000 in
theorem lc_key {b L N N' B uc us : Nat} {xs : Nat → Int32} {i : Int} {C r : zSt} {g : Int → Int} (hi : 0 ≤ i ∧ i + 5 ≤ L) (hLm : L ≤ 2560) (hW : zWh B C r) (hB : B + 100 < 65536) (huc : uc + zpot 42 C ≤ N) (hus : us + zpot 42 C ≤ N') (hN : N + 1 ≤ 601024) (hN' : N' + 6 ≤ 7293034)
    (hK : ∀ (C' r' : zSt) (g' : Int → Int) (uc' us' : Nat), zWh (B + 100) C' r' → uc' + zpot 42 C' ≤ N + 1 → us' + zpot 42 C' ≤ N' + 6 → zB m_L_law RLw (FLw b L xs) PLw 1159 (zLL i none none) [] (zLwld C' r' g') uc' us') :
    zB m_L_law RLw (FLw b L xs) PLw 344 (zLL i none none) [] (zLwld C r g) uc us := by
  have e1 : w32 (i + 1) = i + 1 := w32i (by omega) (by omega)
  have hi1 : 0 ≤ w32 (i + 1) ∧ w32 (i + 1) < L := by rw [e1]; omega
  obtain ⟨a1, ha1⟩ : ∃ a, a = zxs xs (w32 (i + 1)) := ⟨_, rfl⟩
  have e2 : w32 (i + 2) = i + 2 := w32i (by omega) (by omega)
  have hi2 : 0 ≤ w32 (i + 2) ∧ w32 (i + 2) < L := by rw [e2]; omega
  obtain ⟨a2, ha2⟩ : ∃ a, a = zxs xs (w32 (i + 2)) := ⟨_, rfl⟩
  rcases M_key hW hB a1 a2 with ⟨v, C', r', f1, f2, f3, f4⟩ | ⟨v, r', f1, f2, f3, f4⟩
  · have hm : zpot 42 C' ≤ zpot 42 C := mo_key f1
    refine zr_aload ⟨_, dL_law_344, rfl⟩ rfl ?_
    refine zr_aload ⟨_, dL_law_345, rfl⟩ rfl ?_
    refine zr_loadw dL_law_346 rfl ?_
    refine zr_iconst dL_law_348 (by decide) ?_
    refine zr_iadd dL_law_349 ?_
    refine zr_sld dL_law_350 hi1 rfl ?_
    rw [← ha1]
    refine zr_aload ⟨_, dL_law_351, rfl⟩ rfl ?_
    refine zr_loadw dL_law_352 rfl ?_
    refine zr_iconst dL_law_354 (by decide) ?_
    refine zr_iadd dL_law_355 ?_
    refine zr_sld dL_law_356 hi2 rfl ?_
    rw [← ha2]
    refine zr_aload ⟨_, dL_law_357, rfl⟩ rfl ?_
    have c358 := la_key (g := g) f1 hm
    refine zg_callW (r := some (.inl 0)) (v := 42) (zRunQ_H (rest := []) c358 dL_law_358 ls_key cw_key cl_key rfl (by decide) (by decide) (by decide) zMv_law zMv_lw (zFr_Ll (C := C) (r := r) (g := g) (C' := C') (g' := (zup g 0 v))).1 (zFr_Ll (C := C) (r := r) (g := g) (C' := C') (g' := (zup g 0 v))).2.1 rfl rfl) (zFr_Ll (C := C) (r := r) (g := g) (C' := C') (g' := (zup g 0 v))) (fun k h => h) (fun x hx => absurd hx List.not_mem_nil) (fun k h => by rw [show k = 999 from h]; decide) rfl rfl (by show _ ≤ 601024; omega) (by show _ ≤ 7293034; omega) ?_
    show zB m_L_law RLw (FLw b L xs) PLw 361 (zLL i none none) [.inl 0] (zLwld C' r (zup g 0 v)) _ _
    refine zr_storew dL_law_361 (by decide) rfl ?_
    refine zr_aload ⟨_, dL_law_363, rfl⟩ rfl ?_
    refine zr_aload ⟨_, dL_law_364, rfl⟩ rfl ?_
    refine zr_loadw dL_law_365 rfl ?_
    refine zr_iconst dL_law_367 (by decide) ?_
    refine zr_iadd dL_law_368 ?_
    refine zr_sld dL_law_369 hi1 rfl ?_
    rw [← ha1]
    refine zr_aload ⟨_, dL_law_370, rfl⟩ rfl ?_
    refine zr_loadw dL_law_371 rfl ?_
    refine zr_iconst dL_law_373 (by decide) ?_
    refine zr_iadd dL_law_374 ?_
    refine zr_sld dL_law_375 hi2 rfl ?_
    rw [← ha2]
    have c376 : zSpecF zTrv 14 zall 0 0 m_X12_key [.inr (.inl (some 0)), .inl a1, .inl a2] (ziT r 0 TRf) (fun r1 w1 => r1 = some (.inl v) ∧ w1 = ziT r' 0 TRf) := by
      have h0 := t_Rf_key f2
      exact zSpecT.F h0
    refine zg_callW (r := some (.inl v)) (v := 500) (zRunQ_of (zrun_VW (f := zsh 76) (rest := []) dL_law_376 ml_L_86 zLw_76 rfl (by decide) (by decide) rfl (Nat.le_of_ble_eq_true rfl)) c376 zMv_tr zMv_tr (zFr_Rl (C := C') (r := r) (g := (zup g 0 v)) (r' := r')).1 (zFr_Rl (C := C') (r := r) (g := (zup g 0 v)) (r' := r')).2.1 rfl rfl) (zFr_Rl (C := C') (r := r) (g := (zup g 0 v)) (r' := r')) (fun _ _ => True.intro) (fun x hx => absurd hx List.not_mem_nil) (fun k h => by rw [show k = 999 from h]; decide) rfl rfl (by show _ ≤ 601024; omega) (by show _ ≤ 7293034; omega) ?_
    show zB m_L_law RLw (FLw b L xs) PLw 379 (zLL i (some (.inl 0)) none) [.inl v] (zLwld C' r' (zup g 0 v)) _ _
    refine zr_storew dL_law_379 (by decide) rfl ?_
    refine zr_aload ⟨_, dL_law_381, rfl⟩ rfl ?_
    have c382 : zSpecF zTrv 1 zall 0 0 m_X12_thrown [.inr (.inl (some 0))] (ziT r' 0 TRf) (fun r1 w1 => r1 = some (.inl 0) ∧ w1 = ziT r' 0 TRf) := by
      have h0 := t_Rf_thrown (res := 0) (congrArg some f3)
      exact zSpecT.F h0
    refine zg_callW (r := some (.inl 0)) (v := 500) (zRunQ_of (zrun_VW (f := zsh 76) (rest := []) dL_law_382 ml_L_72 zLw_76 rfl (by decide) (by decide) rfl (Nat.le_of_ble_eq_true rfl)) c382 zMv_tr zMv_tr (zFr_Rl (C := C') (r := r') (g := (zup g 0 v)) (r' := r')).1 (zFr_Rl (C := C') (r := r') (g := (zup g 0 v)) (r' := r')).2.1 rfl rfl) (zFr_Rl (C := C') (r := r') (g := (zup g 0 v)) (r' := r')) (fun _ _ => True.intro) (fun x hx => absurd hx List.not_mem_nil) (fun k h => by rw [show k = 999 from h]; decide) rfl rfl (by show _ ≤ 601024; omega) (by show _ ≤ 7293034; omega) ?_
    show zB m_L_law RLw (FLw b L xs) PLw 385 (zLL i (some (.inl 0)) (some (.inl v))) [.inl 0] (zLwld C' r' (zup g 0 v)) _ _
    refine zr_loadw dL_law_385 rfl ?_
    refine zr_ic_eq (tgt := 392) dL_law_387 (by decide) (fun _ => ?_) (fun w => absurd rfl w)
    refine zr_loadw dL_law_392 rfl ?_
    refine zr_if_ne (tgt := 409) dL_law_394 (by decide) (fun w => absurd rfl w) (fun _ => ?_)
    refine zr_aload ⟨_, dL_law_397, rfl⟩ rfl ?_
    refine zr_iconst dL_law_398 (by decide) ?_
    refine zr_laload dL_law_399 zLw_92 ⟨by decide, by decide⟩ ?_
    rw [zup_same]
    refine zr_loadw dL_law_400 rfl ?_
    refine zr_i2l dL_law_402 ?_
    refine zr_lcmpS dL_law_403 ?_
    refine zr_if_eq (tgt := 409) dL_law_404 (by decide) (fun _ => ?_) (fun w => absurd rfl w)
    refine zr_goto (tgt := 1159) dL_law_409 (by decide) ?_
    refine zr_mask [true, true, true, true, true, false, false] rfl ?_
    exact hK _ _ _ _ _ f4 (by omega) (by omega)
  · refine zr_aload ⟨_, dL_law_344, rfl⟩ rfl ?_
    refine zr_aload ⟨_, dL_law_345, rfl⟩ rfl ?_
    refine zr_loadw dL_law_346 rfl ?_
    refine zr_iconst dL_law_348 (by decide) ?_
    refine zr_iadd dL_law_349 ?_
    refine zr_sld dL_law_350 hi1 rfl ?_
    rw [← ha1]
    refine zr_aload ⟨_, dL_law_351, rfl⟩ rfl ?_
    refine zr_loadw dL_law_352 rfl ?_
    refine zr_iconst dL_law_354 (by decide) ?_
    refine zr_iadd dL_law_355 ?_
    refine zr_sld dL_law_356 hi2 rfl ?_
    rw [← ha2]
    refine zr_aload ⟨_, dL_law_357, rfl⟩ rfl ?_
    have c358 := lx_key_1 (g := g) ((x_key a1 a2 C).trans f1)
    refine zg_callW (r := some (.inl 1)) (v := 42) (zRunQ_H (rest := []) c358 dL_law_358 ls_key cw_key cl_key rfl (by decide) (by decide) (by decide) zMv_law zMv_lw (zFr_Ll (C := C) (r := r) (g := g) (C' := C) (g' := g)).1 (zFr_Ll (C := C) (r := r) (g := g) (C' := C) (g' := g)).2.1 rfl rfl) (zFr_Ll (C := C) (r := r) (g := g) (C' := C) (g' := g)) (fun k h => h) (fun x hx => absurd hx List.not_mem_nil) (fun k h => by rw [show k = 999 from h]; decide) rfl rfl (by show _ ≤ 601024; omega) (by show _ ≤ 7293034; omega) ?_
    show zB m_L_law RLw (FLw b L xs) PLw 361 (zLL i none none) [.inl 1] (zLwld C r g) _ _
    refine zr_storew dL_law_361 (by decide) rfl ?_
    refine zr_aload ⟨_, dL_law_363, rfl⟩ rfl ?_
    refine zr_aload ⟨_, dL_law_364, rfl⟩ rfl ?_
    refine zr_loadw dL_law_365 rfl ?_
    refine zr_iconst dL_law_367 (by decide) ?_
    refine zr_iadd dL_law_368 ?_
    refine zr_sld dL_law_369 hi1 rfl ?_
    rw [← ha1]
    refine zr_aload ⟨_, dL_law_370, rfl⟩ rfl ?_
    refine zr_loadw dL_law_371 rfl ?_
    refine zr_iconst dL_law_373 (by decide) ?_
    refine zr_iadd dL_law_374 ?_
    refine zr_sld dL_law_375 hi2 rfl ?_
    rw [← ha2]
    have c376 : zSpecF zTrv 14 zall 0 0 m_X12_key [.inr (.inl (some 0)), .inl a1, .inl a2] (ziT r 0 TRf) (fun r1 w1 => r1 = some (.inl v) ∧ w1 = ziT r' 0 TRf) := by
      have h0 := t_Rf_key f2
      exact zSpecT.F h0
    refine zg_callW (r := some (.inl v)) (v := 500) (zRunQ_of (zrun_VW (f := zsh 76) (rest := []) dL_law_376 ml_L_86 zLw_76 rfl (by decide) (by decide) rfl (Nat.le_of_ble_eq_true rfl)) c376 zMv_tr zMv_tr (zFr_Rl (C := C) (r := r) (g := g) (r' := r')).1 (zFr_Rl (C := C) (r := r) (g := g) (r' := r')).2.1 rfl rfl) (zFr_Rl (C := C) (r := r) (g := g) (r' := r')) (fun _ _ => True.intro) (fun x hx => absurd hx List.not_mem_nil) (fun k h => by rw [show k = 999 from h]; decide) rfl rfl (by show _ ≤ 601024; omega) (by show _ ≤ 7293034; omega) ?_
    show zB m_L_law RLw (FLw b L xs) PLw 379 (zLL i (some (.inl 1)) none) [.inl v] (zLwld C r' g) _ _
    refine zr_storew dL_law_379 (by decide) rfl ?_
    refine zr_aload ⟨_, dL_law_381, rfl⟩ rfl ?_
    have c382 : zSpecF zTrv 1 zall 0 0 m_X12_thrown [.inr (.inl (some 0))] (ziT r' 0 TRf) (fun r1 w1 => r1 = some (.inl 1) ∧ w1 = ziT r' 0 TRf) := by
      have h0 := t_Rf_thrown (res := 1) (congrArg some f3)
      exact zSpecT.F h0
    refine zg_callW (r := some (.inl 1)) (v := 500) (zRunQ_of (zrun_VW (f := zsh 76) (rest := []) dL_law_382 ml_L_72 zLw_76 rfl (by decide) (by decide) rfl (Nat.le_of_ble_eq_true rfl)) c382 zMv_tr zMv_tr (zFr_Rl (C := C) (r := r') (g := g) (r' := r')).1 (zFr_Rl (C := C) (r := r') (g := g) (r' := r')).2.1 rfl rfl) (zFr_Rl (C := C) (r := r') (g := g) (r' := r')) (fun _ _ => True.intro) (fun x hx => absurd hx List.not_mem_nil) (fun k h => by rw [show k = 999 from h]; decide) rfl rfl (by show _ ≤ 601024; omega) (by show _ ≤ 7293034; omega) ?_
    show zB m_L_law RLw (FLw b L xs) PLw 385 (zLL i (some (.inl 1)) (some (.inl v))) [.inl 1] (zLwld C r' g) _ _
    refine zr_loadw dL_law_385 rfl ?_
    refine zr_ic_eq (tgt := 392) dL_law_387 (by decide) (fun _ => ?_) (fun w => absurd rfl w)
    refine zr_loadw dL_law_392 rfl ?_
    refine zr_if_ne (tgt := 409) dL_law_394 (by decide) (fun _ => ?_) (fun w => absurd (by decide : ¬ (1 : Int) = 0) w)
    refine zr_goto (tgt := 1159) dL_law_409 (by decide) ?_
    refine zr_mask [true, true, true, true, true, false, false] rfl ?_
    exact hK _ _ _ _ _ f4 (by omega) (by omega)
set_option maxRecDepth 100000 in
set_option maxHeartbeats 1000000 in
theorem lc_draft {b L N N' B uc us : Nat} {xs : Nat → Int32} {i : Int} {C r : zSt} {g : Int → Int} (hi : 0 ≤ i ∧ i + 5 ≤ L) (hLm : L ≤ 2560) (hW : zWh B C r) (hB : B + 100 < 65536) (huc : uc + zpot 42 C ≤ N) (hus : us + zpot 42 C ≤ N') (hN : N + 1 ≤ 601024) (hN' : N' + 6 ≤ 7293034)
    (hK : ∀ (C' r' : zSt) (g' : Int → Int) (uc' us' : Nat), zWh (B + 100) C' r' → uc' + zpot 42 C' ≤ N + 1 → us' + zpot 42 C' ≤ N' + 6 → zB m_L_law RLw (FLw b L xs) PLw 1159 (zLL i none none) [] (zLwld C' r' g') uc' us') :
    zB m_L_law RLw (FLw b L xs) PLw 412 (zLL i none none) [] (zLwld C r g) uc us := by
  have e1 : w32 (i + 1) = i + 1 := w32i (by omega) (by omega)
  have hi1 : 0 ≤ w32 (i + 1) ∧ w32 (i + 1) < L := by rw [e1]; omega
  obtain ⟨a1, ha1⟩ : ∃ a, a = zxs xs (w32 (i + 1)) := ⟨_, rfl⟩
  rcases M_draft hW hB a1 with ⟨v, C', r', f1, f2, f3, f4⟩ | ⟨j, ⟨v, r', f1, f2, f3, f4⟩, hj⟩
  · have hm : zpot 42 C' ≤ zpot 42 C := mo_draft f1
    refine zr_aload ⟨_, dL_law_412, rfl⟩ rfl ?_
    refine zr_aload ⟨_, dL_law_413, rfl⟩ rfl ?_
    refine zr_loadw dL_law_414 rfl ?_
    refine zr_iconst dL_law_416 (by decide) ?_
    refine zr_iadd dL_law_417 ?_
    refine zr_sld dL_law_418 hi1 rfl ?_
    rw [← ha1]
    refine zr_aload ⟨_, dL_law_419, rfl⟩ rfl ?_
    have c420 := la_draft (g := g) f1
    refine zg_callW (r := some (.inl 0)) (v := 42) (zRunQ_H (rest := []) c420 dL_law_420 ls_draft cw_draft cl_draft rfl (by decide) (by decide) (by decide) zMv_law zMv_lw (zFr_Ll (C := C) (r := r) (g := g) (C' := C') (g' := (zup g 0 v))).1 (zFr_Ll (C := C) (r := r) (g := g) (C' := C') (g' := (zup g 0 v))).2.1 rfl rfl) (zFr_Ll (C := C) (r := r) (g := g) (C' := C') (g' := (zup g 0 v))) (fun k h => h) (fun x hx => absurd hx List.not_mem_nil) (fun k h => by rw [show k = 999 from h]; decide) rfl rfl (by show _ ≤ 601024; omega) (by show _ ≤ 7293034; omega) ?_
    show zB m_L_law RLw (FLw b L xs) PLw 423 (zLL i none none) [.inl 0] (zLwld C' r (zup g 0 v)) _ _
    refine zr_storew dL_law_423 (by decide) rfl ?_
    refine zr_aload ⟨_, dL_law_425, rfl⟩ rfl ?_
    refine zr_aload ⟨_, dL_law_426, rfl⟩ rfl ?_
    refine zr_loadw dL_law_427 rfl ?_
    refine zr_iconst dL_law_429 (by decide) ?_
    refine zr_iadd dL_law_430 ?_
    refine zr_sld dL_law_431 hi1 rfl ?_
    rw [← ha1]
    have c432 : zSpecF zTrv 2 zall 0 0 m_X12_draft [.inr (.inl (some 0)), .inl a1] (ziT r 0 TRf) (fun r1 w1 => r1 = some (.inl v) ∧ w1 = ziT r' 0 TRf) := by
      have h0 := t_Rf_draft f2
      exact zSpecT.F h0
    refine zg_callW (r := some (.inl v)) (v := 500) (zRunQ_of (zrun_VW (f := zsh 76) (rest := []) dL_law_432 ml_L_89 zLw_76 rfl (by decide) (by decide) rfl (Nat.le_of_ble_eq_true rfl)) c432 zMv_tr zMv_tr (zFr_Rl (C := C') (r := r) (g := (zup g 0 v)) (r' := r')).1 (zFr_Rl (C := C') (r := r) (g := (zup g 0 v)) (r' := r')).2.1 rfl rfl) (zFr_Rl (C := C') (r := r) (g := (zup g 0 v)) (r' := r')) (fun _ _ => True.intro) (fun x hx => absurd hx List.not_mem_nil) (fun k h => by rw [show k = 999 from h]; decide) rfl rfl (by show _ ≤ 601024; omega) (by show _ ≤ 7293034; omega) ?_
    show zB m_L_law RLw (FLw b L xs) PLw 435 (zLL i (some (.inl 0)) none) [.inl v] (zLwld C' r' (zup g 0 v)) _ _
    refine zr_storew dL_law_435 (by decide) rfl ?_
    refine zr_aload ⟨_, dL_law_437, rfl⟩ rfl ?_
    have c438 : zSpecF zTrv 1 zall 0 0 m_X12_thrown [.inr (.inl (some 0))] (ziT r' 0 TRf) (fun r1 w1 => r1 = some (.inl 0) ∧ w1 = ziT r' 0 TRf) := by
      have h0 := t_Rf_thrown (res := 0) (congrArg some f3)
      exact zSpecT.F h0
    refine zg_callW (r := some (.inl 0)) (v := 500) (zRunQ_of (zrun_VW (f := zsh 76) (rest := []) dL_law_438 ml_L_72 zLw_76 rfl (by decide) (by decide) rfl (Nat.le_of_ble_eq_true rfl)) c438 zMv_tr zMv_tr (zFr_Rl (C := C') (r := r') (g := (zup g 0 v)) (r' := r')).1 (zFr_Rl (C := C') (r := r') (g := (zup g 0 v)) (r' := r')).2.1 rfl rfl) (zFr_Rl (C := C') (r := r') (g := (zup g 0 v)) (r' := r')) (fun _ _ => True.intro) (fun x hx => absurd hx List.not_mem_nil) (fun k h => by rw [show k = 999 from h]; decide) rfl rfl (by show _ ≤ 601024; omega) (by show _ ≤ 7293034; omega) ?_
    show zB m_L_law RLw (FLw b L xs) PLw 441 (zLL i (some (.inl 0)) (some (.inl v))) [.inl 0] (zLwld C' r' (zup g 0 v)) _ _
    refine zr_loadw dL_law_441 rfl ?_
    refine zr_ic_eq (tgt := 448) dL_law_443 (by decide) (fun _ => ?_) (fun w => absurd rfl w)
    refine zr_loadw dL_law_448 rfl ?_
    refine zr_if_ne (tgt := 465) dL_law_450 (by decide) (fun w => absurd rfl w) (fun _ => ?_)
    refine zr_aload ⟨_, dL_law_453, rfl⟩ rfl ?_
    refine zr_iconst dL_law_454 (by decide) ?_
    refine zr_laload dL_law_455 zLw_92 ⟨by decide, by decide⟩ ?_
    rw [zup_same]
    refine zr_loadw dL_law_456 rfl ?_
    refine zr_i2l dL_law_458 ?_
    refine zr_lcmpS dL_law_459 ?_
    refine zr_if_eq (tgt := 465) dL_law_460 (by decide) (fun _ => ?_) (fun w => absurd rfl w)
    refine zr_goto (tgt := 1159) dL_law_465 (by decide) ?_
    refine zr_mask [true, true, true, true, true, false, false] rfl ?_
    exact hK _ _ _ _ _ f4 (by omega) (by omega)
  · rcases hj with rfl | rfl
    · refine zr_aload ⟨_, dL_law_412, rfl⟩ rfl ?_
      refine zr_aload ⟨_, dL_law_413, rfl⟩ rfl ?_
      refine zr_loadw dL_law_414 rfl ?_
      refine zr_iconst dL_law_416 (by decide) ?_
      refine zr_iadd dL_law_417 ?_
      refine zr_sld dL_law_418 hi1 rfl ?_
      rw [← ha1]
      refine zr_aload ⟨_, dL_law_419, rfl⟩ rfl ?_
      have c420 := lx_draft_1 (g := g) ((x_draft a1 C).trans f1)
      refine zg_callW (r := some (.inl 1)) (v := 42) (zRunQ_H (rest := []) c420 dL_law_420 ls_draft cw_draft cl_draft rfl (by decide) (by decide) (by decide) zMv_law zMv_lw (zFr_Ll (C := C) (r := r) (g := g) (C' := C) (g' := g)).1 (zFr_Ll (C := C) (r := r) (g := g) (C' := C) (g' := g)).2.1 rfl rfl) (zFr_Ll (C := C) (r := r) (g := g) (C' := C) (g' := g)) (fun k h => h) (fun x hx => absurd hx List.not_mem_nil) (fun k h => by rw [show k = 999 from h]; decide) rfl rfl (by show _ ≤ 601024; omega) (by show _ ≤ 7293034; omega) ?_
      show zB m_L_law RLw (FLw b L xs) PLw 423 (zLL i none none) [.inl 1] (zLwld C r g) _ _
      refine zr_storew dL_law_423 (by decide) rfl ?_
      refine zr_aload ⟨_, dL_law_425, rfl⟩ rfl ?_
      refine zr_aload ⟨_, dL_law_426, rfl⟩ rfl ?_
      refine zr_loadw dL_law_427 rfl ?_
      refine zr_iconst dL_law_429 (by decide) ?_
      refine zr_iadd dL_law_430 ?_
      refine zr_sld dL_law_431 hi1 rfl ?_
      rw [← ha1]
      have c432 : zSpecF zTrv 2 zall 0 0 m_X12_draft [.inr (.inl (some 0)), .inl a1] (ziT r 0 TRf) (fun r1 w1 => r1 = some (.inl v) ∧ w1 = ziT r' 0 TRf) := by
        have h0 := t_Rf_draft f2
        exact zSpecT.F h0
      refine zg_callW (r := some (.inl v)) (v := 500) (zRunQ_of (zrun_VW (f := zsh 76) (rest := []) dL_law_432 ml_L_89 zLw_76 rfl (by decide) (by decide) rfl (Nat.le_of_ble_eq_true rfl)) c432 zMv_tr zMv_tr (zFr_Rl (C := C) (r := r) (g := g) (r' := r')).1 (zFr_Rl (C := C) (r := r) (g := g) (r' := r')).2.1 rfl rfl) (zFr_Rl (C := C) (r := r) (g := g) (r' := r')) (fun _ _ => True.intro) (fun x hx => absurd hx List.not_mem_nil) (fun k h => by rw [show k = 999 from h]; decide) rfl rfl (by show _ ≤ 601024; omega) (by show _ ≤ 7293034; omega) ?_
      show zB m_L_law RLw (FLw b L xs) PLw 435 (zLL i (some (.inl 1)) none) [.inl v] (zLwld C r' g) _ _
      refine zr_storew dL_law_435 (by decide) rfl ?_
      refine zr_aload ⟨_, dL_law_437, rfl⟩ rfl ?_
      have c438 : zSpecF zTrv 1 zall 0 0 m_X12_thrown [.inr (.inl (some 0))] (ziT r' 0 TRf) (fun r1 w1 => r1 = some (.inl 1) ∧ w1 = ziT r' 0 TRf) := by
        have h0 := t_Rf_thrown (res := 1) (congrArg some f3)
        exact zSpecT.F h0
      refine zg_callW (r := some (.inl 1)) (v := 500) (zRunQ_of (zrun_VW (f := zsh 76) (rest := []) dL_law_438 ml_L_72 zLw_76 rfl (by decide) (by decide) rfl (Nat.le_of_ble_eq_true rfl)) c438 zMv_tr zMv_tr (zFr_Rl (C := C) (r := r') (g := g) (r' := r')).1 (zFr_Rl (C := C) (r := r') (g := g) (r' := r')).2.1 rfl rfl) (zFr_Rl (C := C) (r := r') (g := g) (r' := r')) (fun _ _ => True.intro) (fun x hx => absurd hx List.not_mem_nil) (fun k h => by rw [show k = 999 from h]; decide) rfl rfl (by show _ ≤ 601024; omega) (by show _ ≤ 7293034; omega) ?_
      show zB m_L_law RLw (FLw b L xs) PLw 441 (zLL i (some (.inl 1)) (some (.inl v))) [.inl 1] (zLwld C r' g) _ _
      refine zr_loadw dL_law_441 rfl ?_
      refine zr_ic_eq (tgt := 448) dL_law_443 (by decide) (fun _ => ?_) (fun w => absurd rfl w)
      refine zr_loadw dL_law_448 rfl ?_
      refine zr_if_ne (tgt := 465) dL_law_450 (by decide) (fun _ => ?_) (fun w => absurd (by decide : ¬ (1 : Int) = 0) w)
      refine zr_goto (tgt := 1159) dL_law_465 (by decide) ?_
      refine zr_mask [true, true, true, true, true, false, false] rfl ?_
      exact hK _ _ _ _ _ f4 (by omega) (by omega)
    · refine zr_aload ⟨_, dL_law_412, rfl⟩ rfl ?_
      refine zr_aload ⟨_, dL_law_413, rfl⟩ rfl ?_
      refine zr_loadw dL_law_414 rfl ?_
      refine zr_iconst dL_law_416 (by decide) ?_
      refine zr_iadd dL_law_417 ?_
      refine zr_sld dL_law_418 hi1 rfl ?_
      rw [← ha1]
      refine zr_aload ⟨_, dL_law_419, rfl⟩ rfl ?_
      have c420 := lx_draft_2 (g := g) ((x_draft a1 C).trans f1)
      refine zg_callW (r := some (.inl 2)) (v := 42) (zRunQ_H (rest := []) c420 dL_law_420 ls_draft cw_draft cl_draft rfl (by decide) (by decide) (by decide) zMv_law zMv_lw (zFr_Ll (C := C) (r := r) (g := g) (C' := C) (g' := g)).1 (zFr_Ll (C := C) (r := r) (g := g) (C' := C) (g' := g)).2.1 rfl rfl) (zFr_Ll (C := C) (r := r) (g := g) (C' := C) (g' := g)) (fun k h => h) (fun x hx => absurd hx List.not_mem_nil) (fun k h => by rw [show k = 999 from h]; decide) rfl rfl (by show _ ≤ 601024; omega) (by show _ ≤ 7293034; omega) ?_
      show zB m_L_law RLw (FLw b L xs) PLw 423 (zLL i none none) [.inl 2] (zLwld C r g) _ _
      refine zr_storew dL_law_423 (by decide) rfl ?_
      refine zr_aload ⟨_, dL_law_425, rfl⟩ rfl ?_
      refine zr_aload ⟨_, dL_law_426, rfl⟩ rfl ?_
      refine zr_loadw dL_law_427 rfl ?_
      refine zr_iconst dL_law_429 (by decide) ?_
      refine zr_iadd dL_law_430 ?_
      refine zr_sld dL_law_431 hi1 rfl ?_
      rw [← ha1]
      have c432 : zSpecF zTrv 2 zall 0 0 m_X12_draft [.inr (.inl (some 0)), .inl a1] (ziT r 0 TRf) (fun r1 w1 => r1 = some (.inl v) ∧ w1 = ziT r' 0 TRf) := by
        have h0 := t_Rf_draft f2
        exact zSpecT.F h0
      refine zg_callW (r := some (.inl v)) (v := 500) (zRunQ_of (zrun_VW (f := zsh 76) (rest := []) dL_law_432 ml_L_89 zLw_76 rfl (by decide) (by decide) rfl (Nat.le_of_ble_eq_true rfl)) c432 zMv_tr zMv_tr (zFr_Rl (C := C) (r := r) (g := g) (r' := r')).1 (zFr_Rl (C := C) (r := r) (g := g) (r' := r')).2.1 rfl rfl) (zFr_Rl (C := C) (r := r) (g := g) (r' := r')) (fun _ _ => True.intro) (fun x hx => absurd hx List.not_mem_nil) (fun k h => by rw [show k = 999 from h]; decide) rfl rfl (by show _ ≤ 601024; omega) (by show _ ≤ 7293034; omega) ?_
      show zB m_L_law RLw (FLw b L xs) PLw 435 (zLL i (some (.inl 2)) none) [.inl v] (zLwld C r' g) _ _
      refine zr_storew dL_law_435 (by decide) rfl ?_
      refine zr_aload ⟨_, dL_law_437, rfl⟩ rfl ?_
      have c438 : zSpecF zTrv 1 zall 0 0 m_X12_thrown [.inr (.inl (some 0))] (ziT r' 0 TRf) (fun r1 w1 => r1 = some (.inl 2) ∧ w1 = ziT r' 0 TRf) := by
        have h0 := t_Rf_thrown (res := 2) (congrArg some f3)
        exact zSpecT.F h0
      refine zg_callW (r := some (.inl 2)) (v := 500) (zRunQ_of (zrun_VW (f := zsh 76) (rest := []) dL_law_438 ml_L_72 zLw_76 rfl (by decide) (by decide) rfl (Nat.le_of_ble_eq_true rfl)) c438 zMv_tr zMv_tr (zFr_Rl (C := C) (r := r') (g := g) (r' := r')).1 (zFr_Rl (C := C) (r := r') (g := g) (r' := r')).2.1 rfl rfl) (zFr_Rl (C := C) (r := r') (g := g) (r' := r')) (fun _ _ => True.intro) (fun x hx => absurd hx List.not_mem_nil) (fun k h => by rw [show k = 999 from h]; decide) rfl rfl (by show _ ≤ 601024; omega) (by show _ ≤ 7293034; omega) ?_
      show zB m_L_law RLw (FLw b L xs) PLw 441 (zLL i (some (.inl 2)) (some (.inl v))) [.inl 2] (zLwld C r' g) _ _
      refine zr_loadw dL_law_441 rfl ?_
      refine zr_ic_eq (tgt := 448) dL_law_443 (by decide) (fun _ => ?_) (fun w => absurd rfl w)
      refine zr_loadw dL_law_448 rfl ?_
      refine zr_if_ne (tgt := 465) dL_law_450 (by decide) (fun _ => ?_) (fun w => absurd (by decide : ¬ (2 : Int) = 0) w)
      refine zr_goto (tgt := 1159) dL_law_465 (by decide) ?_
      refine zr_mask [true, true, true, true, true, false, false] rfl ?_
      exact hK _ _ _ _ _ f4 (by omega) (by omega)
set_option maxRecDepth 100000 in
set_option maxHeartbeats 1000000 in
theorem lc_paste {b L N N' B uc us : Nat} {xs : Nat → Int32} {i : Int} {C r : zSt} {g : Int → Int} (hi : 0 ≤ i ∧ i + 5 ≤ L) (hLm : L ≤ 2560) (hW : zWh B C r) (hB : B + 100 < 65536) (huc : uc + zpot 42 C ≤ N) (hus : us + zpot 42 C ≤ N') (hN : N + 1 ≤ 601024) (hN' : N' + 6 ≤ 7293034)
    (hK : ∀ (C' r' : zSt) (g' : Int → Int) (uc' us' : Nat), zWh (B + 100) C' r' → uc' + zpot 42 C' ≤ N + 1 → us' + zpot 42 C' ≤ N' + 6 → zB m_L_law RLw (FLw b L xs) PLw 1159 (zLL i none none) [] (zLwld C' r' g') uc' us') :
    zB m_L_law RLw (FLw b L xs) PLw 468 (zLL i none none) [] (zLwld C r g) uc us := by
  obtain ⟨v, C', r', f1, f2, f3, f4⟩ := M_paste hW hB
  have hm : zpot 42 C' ≤ zpot 42 C := mo_paste f1
  refine zr_aload ⟨_, dL_law_468, rfl⟩ rfl ?_
  have c469 : zSpecF zTrv 10 (fun k => k ≠ 42) (zpot 42 C - zpot 42 C') (zpot 42 C - zpot 42 C') m_X11_paste [.inr (.inl (some 0))] (ziT C 0 TCo) (fun r1 w1 => r1 = some (.inl v) ∧ w1 = ziT C' 0 TCo) := by
    have h0 := t_Co_paste f1 hm
    exact zSpecG.F h0
  refine zg_callW (r := some (.inl v)) (v := 42) (zRunQ_of (zrun_VW (f := zid) (rest := []) dL_law_469 ml_L_90 zLw_0 rfl (by decide) (by decide) rfl (Nat.le_of_ble_eq_true rfl)) c469 zMv_tr zMv_tr (zFr_Cl (C := C) (r := r) (g := g) (C' := C')).1 (zFr_Cl (C := C) (r := r) (g := g) (C' := C')).2.1 rfl rfl) (zFr_Cl (C := C) (r := r) (g := g) (C' := C')) (fun k h => h) (fun x hx => absurd hx List.not_mem_nil) (fun k h => by rw [show k = 999 from h]; decide) rfl rfl (by show _ ≤ 601024; omega) (by show _ ≤ 7293034; omega) ?_
  show zB m_L_law RLw (FLw b L xs) PLw 472 (zLL i none none) [.inl v] (zLwld C' r g) _ _
  refine zr_aload ⟨_, dL_law_472, rfl⟩ rfl ?_
  have c473 : zSpecF zTrv 15 zall 0 0 m_X12_paste [.inr (.inl (some 0))] (ziT r 0 TRf) (fun r1 w1 => r1 = some (.inl v) ∧ w1 = ziT r' 0 TRf) := by
    have h0 := t_Rf_paste f2
    exact zSpecT.F h0
  refine zg_callW (r := some (.inl v)) (v := 500) (zRunQ_of (zrun_VW (f := zsh 76) (rest := [.inl v]) dL_law_473 ml_L_93 zLw_76 rfl (by decide) (by decide) rfl (Nat.le_of_ble_eq_true rfl)) c473 zMv_tr zMv_tr (zFr_Rl (C := C') (r := r) (g := g) (r' := r')).1 (zFr_Rl (C := C') (r := r) (g := g) (r' := r')).2.1 rfl rfl) (zFr_Rl (C := C') (r := r) (g := g) (r' := r')) (fun _ _ => True.intro) (fun x hx => by simp only [List.mem_cons, List.not_mem_nil, or_false] at hx ⊢; simp [hx]) (fun k h => by rw [show k = 999 from h]; decide) rfl rfl (by show _ ≤ 601024; omega) (by show _ ≤ 7293034; omega) ?_
  show zB m_L_law RLw (FLw b L xs) PLw 476 (zLL i none none) [.inl v, .inl v] (zLwld C' r' g) _ _
  refine zr_ic_eq (tgt := 1159) dL_law_476 (by decide) (fun _ => ?_) (fun w => absurd rfl w)
  refine zr_mask [true, true, true, true, true, false, false] rfl ?_
  exact hK _ _ _ _ _ f4 (by omega) (by omega)
