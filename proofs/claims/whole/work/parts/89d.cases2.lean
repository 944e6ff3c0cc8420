set_option maxRecDepth 100000 in
set_option maxHeartbeats 1000000 in
theorem lc_mouse {b L N N' B uc us : Nat} {xs : Nat → Int32} {i : Int} {C r : zSt} {g : Int → Int} (hi : 0 ≤ i ∧ i + 5 ≤ L) (hLm : L ≤ 2560) (hW : zWh B C r) (hB : B + 100 < 65536) (huc : uc + zpot 42 C ≤ N) (hus : us + zpot 42 C ≤ N') (hN : N + 1 ≤ 601024) (hN' : N' + 6 ≤ 7293034)
    (hK : ∀ (C' r' : zSt) (g' : Int → Int) (uc' us' : Nat), zWh (B + 100) C' r' → uc' + zpot 42 C' ≤ N + 1 → us' + zpot 42 C' ≤ N' + 6 → zB m_L_law RLw (FLw b L xs) PLw 1159 (zLL i none none) [] (zLwld C' r' g') uc' us') :
    zB m_L_law RLw (FLw b L xs) PLw 481 (zLL i none none) [] (zLwld C r g) uc us := by
  have e1 : w32 (i + 1) = i + 1 := w32i (by omega) (by omega)
  have hi1 : 0 ≤ w32 (i + 1) ∧ w32 (i + 1) < L := by rw [e1]; omega
  obtain ⟨a1, ha1⟩ : ∃ a, a = zxs xs (w32 (i + 1)) := ⟨_, rfl⟩
  have e2 : w32 (i + 2) = i + 2 := w32i (by omega) (by omega)
  have hi2 : 0 ≤ w32 (i + 2) ∧ w32 (i + 2) < L := by rw [e2]; omega
  obtain ⟨a2, ha2⟩ : ∃ a, a = zxs xs (w32 (i + 2)) := ⟨_, rfl⟩
  have e3 : w32 (i + 3) = i + 3 := w32i (by omega) (by omega)
  have hi3 : 0 ≤ w32 (i + 3) ∧ w32 (i + 3) < L := by rw [e3]; omega
  obtain ⟨a3, ha3⟩ : ∃ a, a = zxs xs (w32 (i + 3)) := ⟨_, rfl⟩
  rcases M_mouse hW hB a1 a2 a3 with ⟨v, C', r', f1, f2, f3, f4⟩ | ⟨v, r', f1, f2, f3, f4⟩ | ⟨v, r', f1, f2, f3, f4⟩
  · have hm : zpot 42 C' ≤ zpot 42 C := mo_mouse f1
    refine zr_aload ⟨_, dL_law_481, rfl⟩ rfl ?_
    refine zr_aload ⟨_, dL_law_482, rfl⟩ rfl ?_
    refine zr_loadw dL_law_483 rfl ?_
    refine zr_iconst dL_law_485 (by decide) ?_
    refine zr_iadd dL_law_486 ?_
    refine zr_sld dL_law_487 hi1 rfl ?_
    rw [← ha1]
    refine zr_aload ⟨_, dL_law_488, rfl⟩ rfl ?_
    refine zr_loadw dL_law_489 rfl ?_
    refine zr_iconst dL_law_491 (by decide) ?_
    refine zr_iadd dL_law_492 ?_
    refine zr_sld dL_law_493 hi2 rfl ?_
    rw [← ha2]
    refine zr_aload ⟨_, dL_law_494, rfl⟩ rfl ?_
    refine zr_loadw dL_law_495 rfl ?_
    refine zr_iconst dL_law_497 (by decide) ?_
    refine zr_iadd dL_law_498 ?_
    refine zr_sld dL_law_499 hi3 rfl ?_
    rw [← ha3]
    refine zr_aload ⟨_, dL_law_500, rfl⟩ rfl ?_
    have c501 := la_mouse (g := g) f1 hm
    refine zg_callW (r := some (.inl 0)) (v := 42) (zRunQ_H (rest := []) c501 dL_law_501 ls_mouse cw_mouse cl_mouse rfl (by decide) (by decide) (by decide) zMv_law zMv_lw (zFr_Ll (C := C) (r := r) (g := g) (C' := C') (g' := (zup g 0 v))).1 (zFr_Ll (C := C) (r := r) (g := g) (C' := C') (g' := (zup g 0 v))).2.1 rfl rfl) (zFr_Ll (C := C) (r := r) (g := g) (C' := C') (g' := (zup g 0 v))) (fun k h => h) (fun x hx => absurd hx List.not_mem_nil) (fun k h => by rw [show k = 999 from h]; decide) rfl rfl (by show _ ≤ 601024; omega) (by show _ ≤ 7293034; omega) ?_
    show zB m_L_law RLw (FLw b L xs) PLw 504 (zLL i none none) [.inl 0] (zLwld C' r (zup g 0 v)) _ _
    refine zr_storew dL_law_504 (by decide) rfl ?_
    refine zr_aload ⟨_, dL_law_506, rfl⟩ rfl ?_
    refine zr_aload ⟨_, dL_law_507, rfl⟩ rfl ?_
    refine zr_loadw dL_law_508 rfl ?_
    refine zr_iconst dL_law_510 (by decide) ?_
    refine zr_iadd dL_law_511 ?_
    refine zr_sld dL_law_512 hi1 rfl ?_
    rw [← ha1]
    refine zr_aload ⟨_, dL_law_513, rfl⟩ rfl ?_
    refine zr_loadw dL_law_514 rfl ?_
    refine zr_iconst dL_law_516 (by decide) ?_
    refine zr_iadd dL_law_517 ?_
    refine zr_sld dL_law_518 hi2 rfl ?_
    rw [← ha2]
    refine zr_aload ⟨_, dL_law_519, rfl⟩ rfl ?_
    refine zr_loadw dL_law_520 rfl ?_
    refine zr_iconst dL_law_522 (by decide) ?_
    refine zr_iadd dL_law_523 ?_
    refine zr_sld dL_law_524 hi3 rfl ?_
    rw [← ha3]
    have c525 : zSpecF zTrv 15 zall 0 0 m_X12_mouse [.inr (.inl (some 0)), .inl a1, .inl a2, .inl a3] (ziT r 0 TRf) (fun r1 w1 => r1 = some (.inl v) ∧ w1 = ziT r' 0 TRf) := by
      have h0 := t_Rf_mouse f2
      exact zSpecT.F h0
    refine zg_callW (r := some (.inl v)) (v := 500) (zRunQ_of (zrun_VW (f := zsh 76) (rest := []) dL_law_525 ml_L_97 zLw_76 rfl (by decide) (by decide) rfl (Nat.le_of_ble_eq_true rfl)) c525 zMv_tr zMv_tr (zFr_Rl (C := C') (r := r) (g := (zup g 0 v)) (r' := r')).1 (zFr_Rl (C := C') (r := r) (g := (zup g 0 v)) (r' := r')).2.1 rfl rfl) (zFr_Rl (C := C') (r := r) (g := (zup g 0 v)) (r' := r')) (fun _ _ => True.intro) (fun x hx => absurd hx List.not_mem_nil) (fun k h => by rw [show k = 999 from h]; decide) rfl rfl (by show _ ≤ 601024; omega) (by show _ ≤ 7293034; omega) ?_
    show zB m_L_law RLw (FLw b L xs) PLw 528 (zLL i (some (.inl 0)) none) [.inl v] (zLwld C' r' (zup g 0 v)) _ _
    refine zr_storew dL_law_528 (by decide) rfl ?_
    refine zr_aload ⟨_, dL_law_530, rfl⟩ rfl ?_
    have c531 : zSpecF zTrv 1 zall 0 0 m_X12_thrown [.inr (.inl (some 0))] (ziT r' 0 TRf) (fun r1 w1 => r1 = some (.inl 0) ∧ w1 = ziT r' 0 TRf) := by
      have h0 := t_Rf_thrown (res := 0) (congrArg some f3)
      exact zSpecT.F h0
    refine zg_callW (r := some (.inl 0)) (v := 500) (zRunQ_of (zrun_VW (f := zsh 76) (rest := []) dL_law_531 ml_L_72 zLw_76 rfl (by decide) (by decide) rfl (Nat.le_of_ble_eq_true rfl)) c531 zMv_tr zMv_tr (zFr_Rl (C := C') (r := r') (g := (zup g 0 v)) (r' := r')).1 (zFr_Rl (C := C') (r := r') (g := (zup g 0 v)) (r' := r')).2.1 rfl rfl) (zFr_Rl (C := C') (r := r') (g := (zup g 0 v)) (r' := r')) (fun _ _ => True.intro) (fun x hx => absurd hx List.not_mem_nil) (fun k h => by rw [show k = 999 from h]; decide) rfl rfl (by show _ ≤ 601024; omega) (by show _ ≤ 7293034; omega) ?_
    show zB m_L_law RLw (FLw b L xs) PLw 534 (zLL i (some (.inl 0)) (some (.inl v))) [.inl 0] (zLwld C' r' (zup g 0 v)) _ _
    refine zr_loadw dL_law_534 rfl ?_
    refine zr_ic_eq (tgt := 541) dL_law_536 (by decide) (fun _ => ?_) (fun w => absurd rfl w)
    refine zr_loadw dL_law_541 rfl ?_
    refine zr_if_ne (tgt := 558) dL_law_543 (by decide) (fun w => absurd rfl w) (fun _ => ?_)
    refine zr_aload ⟨_, dL_law_546, rfl⟩ rfl ?_
    refine zr_iconst dL_law_547 (by decide) ?_
    refine zr_laload dL_law_548 zLw_92 ⟨by decide, by decide⟩ ?_
    rw [zup_same]
    refine zr_loadw dL_law_549 rfl ?_
    refine zr_i2l dL_law_551 ?_
    refine zr_lcmpS dL_law_552 ?_
    refine zr_if_eq (tgt := 558) dL_law_553 (by decide) (fun _ => ?_) (fun w => absurd rfl w)
    refine zr_goto (tgt := 1159) dL_law_558 (by decide) ?_
    refine zr_mask [true, true, true, true, true, false, false] rfl ?_
    exact hK _ _ _ _ _ f4 (by omega) (by omega)
  · refine zr_aload ⟨_, dL_law_481, rfl⟩ rfl ?_
    refine zr_aload ⟨_, dL_law_482, rfl⟩ rfl ?_
    refine zr_loadw dL_law_483 rfl ?_
    refine zr_iconst dL_law_485 (by decide) ?_
    refine zr_iadd dL_law_486 ?_
    refine zr_sld dL_law_487 hi1 rfl ?_
    rw [← ha1]
    refine zr_aload ⟨_, dL_law_488, rfl⟩ rfl ?_
    refine zr_loadw dL_law_489 rfl ?_
    refine zr_iconst dL_law_491 (by decide) ?_
    refine zr_iadd dL_law_492 ?_
    refine zr_sld dL_law_493 hi2 rfl ?_
    rw [← ha2]
    refine zr_aload ⟨_, dL_law_494, rfl⟩ rfl ?_
    refine zr_loadw dL_law_495 rfl ?_
    refine zr_iconst dL_law_497 (by decide) ?_
    refine zr_iadd dL_law_498 ?_
    refine zr_sld dL_law_499 hi3 rfl ?_
    rw [← ha3]
    refine zr_aload ⟨_, dL_law_500, rfl⟩ rfl ?_
    have c501 := lx_mouse_3 (g := g) ((x_mouse a1 a2 a3 C).trans f1)
    refine zg_callW (r := some (.inl 1)) (v := 42) (zRunQ_H (rest := []) c501 dL_law_501 ls_mouse cw_mouse cl_mouse rfl (by decide) (by decide) (by decide) zMv_law zMv_lw (zFr_Ll (C := C) (r := r) (g := g) (C' := C) (g' := g)).1 (zFr_Ll (C := C) (r := r) (g := g) (C' := C) (g' := g)).2.1 rfl rfl) (zFr_Ll (C := C) (r := r) (g := g) (C' := C) (g' := g)) (fun k h => h) (fun x hx => absurd hx List.not_mem_nil) (fun k h => by rw [show k = 999 from h]; decide) rfl rfl (by show _ ≤ 601024; omega) (by show _ ≤ 7293034; omega) ?_
    show zB m_L_law RLw (FLw b L xs) PLw 504 (zLL i none none) [.inl 1] (zLwld C r g) _ _
    refine zr_storew dL_law_504 (by decide) rfl ?_
    refine zr_aload ⟨_, dL_law_506, rfl⟩ rfl ?_
    refine zr_aload ⟨_, dL_law_507, rfl⟩ rfl ?_
    refine zr_loadw dL_law_508 rfl ?_
    refine zr_iconst dL_law_510 (by decide) ?_
    refine zr_iadd dL_law_511 ?_
    refine zr_sld dL_law_512 hi1 rfl ?_
    rw [← ha1]
    refine zr_aload ⟨_, dL_law_513, rfl⟩ rfl ?_
    refine zr_loadw dL_law_514 rfl ?_
    refine zr_iconst dL_law_516 (by decide) ?_
    refine zr_iadd dL_law_517 ?_
    refine zr_sld dL_law_518 hi2 rfl ?_
    rw [← ha2]
    refine zr_aload ⟨_, dL_law_519, rfl⟩ rfl ?_
    refine zr_loadw dL_law_520 rfl ?_
    refine zr_iconst dL_law_522 (by decide) ?_
    refine zr_iadd dL_law_523 ?_
    refine zr_sld dL_law_524 hi3 rfl ?_
    rw [← ha3]
    have c525 : zSpecF zTrv 15 zall 0 0 m_X12_mouse [.inr (.inl (some 0)), .inl a1, .inl a2, .inl a3] (ziT r 0 TRf) (fun r1 w1 => r1 = some (.inl v) ∧ w1 = ziT r' 0 TRf) := by
      have h0 := t_Rf_mouse f2
      exact zSpecT.F h0
    refine zg_callW (r := some (.inl v)) (v := 500) (zRunQ_of (zrun_VW (f := zsh 76) (rest := []) dL_law_525 ml_L_97 zLw_76 rfl (by decide) (by decide) rfl (Nat.le_of_ble_eq_true rfl)) c525 zMv_tr zMv_tr (zFr_Rl (C := C) (r := r) (g := g) (r' := r')).1 (zFr_Rl (C := C) (r := r) (g := g) (r' := r')).2.1 rfl rfl) (zFr_Rl (C := C) (r := r) (g := g) (r' := r')) (fun _ _ => True.intro) (fun x hx => absurd hx List.not_mem_nil) (fun k h => by rw [show k = 999 from h]; decide) rfl rfl (by show _ ≤ 601024; omega) (by show _ ≤ 7293034; omega) ?_
    show zB m_L_law RLw (FLw b L xs) PLw 528 (zLL i (some (.inl 1)) none) [.inl v] (zLwld C r' g) _ _
    refine zr_storew dL_law_528 (by decide) rfl ?_
    refine zr_aload ⟨_, dL_law_530, rfl⟩ rfl ?_
    have c531 : zSpecF zTrv 1 zall 0 0 m_X12_thrown [.inr (.inl (some 0))] (ziT r' 0 TRf) (fun r1 w1 => r1 = some (.inl 1) ∧ w1 = ziT r' 0 TRf) := by
      have h0 := t_Rf_thrown (res := 1) (congrArg some f3)
      exact zSpecT.F h0
    refine zg_callW (r := some (.inl 1)) (v := 500) (zRunQ_of (zrun_VW (f := zsh 76) (rest := []) dL_law_531 ml_L_72 zLw_76 rfl (by decide) (by decide) rfl (Nat.le_of_ble_eq_true rfl)) c531 zMv_tr zMv_tr (zFr_Rl (C := C) (r := r') (g := g) (r' := r')).1 (zFr_Rl (C := C) (r := r') (g := g) (r' := r')).2.1 rfl rfl) (zFr_Rl (C := C) (r := r') (g := g) (r' := r')) (fun _ _ => True.intro) (fun x hx => absurd hx List.not_mem_nil) (fun k h => by rw [show k = 999 from h]; decide) rfl rfl (by show _ ≤ 601024; omega) (by show _ ≤ 7293034; omega) ?_
    show zB m_L_law RLw (FLw b L xs) PLw 534 (zLL i (some (.inl 1)) (some (.inl v))) [.inl 1] (zLwld C r' g) _ _
    refine zr_loadw dL_law_534 rfl ?_
    refine zr_ic_eq (tgt := 541) dL_law_536 (by decide) (fun _ => ?_) (fun w => absurd rfl w)
    refine zr_loadw dL_law_541 rfl ?_
    refine zr_if_ne (tgt := 558) dL_law_543 (by decide) (fun _ => ?_) (fun w => absurd (by decide : ¬ (1 : Int) = 0) w)
    refine zr_goto (tgt := 1159) dL_law_558 (by decide) ?_
    refine zr_mask [true, true, true, true, true, false, false] rfl ?_
    exact hK _ _ _ _ _ f4 (by omega) (by omega)
  · refine zr_aload ⟨_, dL_law_481, rfl⟩ rfl ?_
    refine zr_aload ⟨_, dL_law_482, rfl⟩ rfl ?_
    refine zr_loadw dL_law_483 rfl ?_
    refine zr_iconst dL_law_485 (by decide) ?_
    refine zr_iadd dL_law_486 ?_
    refine zr_sld dL_law_487 hi1 rfl ?_
    rw [← ha1]
    refine zr_aload ⟨_, dL_law_488, rfl⟩ rfl ?_
    refine zr_loadw dL_law_489 rfl ?_
    refine zr_iconst dL_law_491 (by decide) ?_
    refine zr_iadd dL_law_492 ?_
    refine zr_sld dL_law_493 hi2 rfl ?_
    rw [← ha2]
    refine zr_aload ⟨_, dL_law_494, rfl⟩ rfl ?_
    refine zr_loadw dL_law_495 rfl ?_
    refine zr_iconst dL_law_497 (by decide) ?_
    refine zr_iadd dL_law_498 ?_
    refine zr_sld dL_law_499 hi3 rfl ?_
    rw [← ha3]
    refine zr_aload ⟨_, dL_law_500, rfl⟩ rfl ?_
    have c501 := lx_mouse_1 (g := g) ((x_mouse a1 a2 a3 C).trans f1)
    refine zg_callW (r := some (.inl 2)) (v := 42) (zRunQ_H (rest := []) c501 dL_law_501 ls_mouse cw_mouse cl_mouse rfl (by decide) (by decide) (by decide) zMv_law zMv_lw (zFr_Ll (C := C) (r := r) (g := g) (C' := C) (g' := g)).1 (zFr_Ll (C := C) (r := r) (g := g) (C' := C) (g' := g)).2.1 rfl rfl) (zFr_Ll (C := C) (r := r) (g := g) (C' := C) (g' := g)) (fun k h => h) (fun x hx => absurd hx List.not_mem_nil) (fun k h => by rw [show k = 999 from h]; decide) rfl rfl (by show _ ≤ 601024; omega) (by show _ ≤ 7293034; omega) ?_
    show zB m_L_law RLw (FLw b L xs) PLw 504 (zLL i none none) [.inl 2] (zLwld C r g) _ _
    refine zr_storew dL_law_504 (by decide) rfl ?_
    refine zr_aload ⟨_, dL_law_506, rfl⟩ rfl ?_
    refine zr_aload ⟨_, dL_law_507, rfl⟩ rfl ?_
    refine zr_loadw dL_law_508 rfl ?_
    refine zr_iconst dL_law_510 (by decide) ?_
    refine zr_iadd dL_law_511 ?_
    refine zr_sld dL_law_512 hi1 rfl ?_
    rw [← ha1]
    refine zr_aload ⟨_, dL_law_513, rfl⟩ rfl ?_
    refine zr_loadw dL_law_514 rfl ?_
    refine zr_iconst dL_law_516 (by decide) ?_
    refine zr_iadd dL_law_517 ?_
    refine zr_sld dL_law_518 hi2 rfl ?_
    rw [← ha2]
    refine zr_aload ⟨_, dL_law_519, rfl⟩ rfl ?_
    refine zr_loadw dL_law_520 rfl ?_
    refine zr_iconst dL_law_522 (by decide) ?_
    refine zr_iadd dL_law_523 ?_
    refine zr_sld dL_law_524 hi3 rfl ?_
    rw [← ha3]
    have c525 : zSpecF zTrv 15 zall 0 0 m_X12_mouse [.inr (.inl (some 0)), .inl a1, .inl a2, .inl a3] (ziT r 0 TRf) (fun r1 w1 => r1 = some (.inl v) ∧ w1 = ziT r' 0 TRf) := by
      have h0 := t_Rf_mouse f2
      exact zSpecT.F h0
    refine zg_callW (r := some (.inl v)) (v := 500) (zRunQ_of (zrun_VW (f := zsh 76) (rest := []) dL_law_525 ml_L_97 zLw_76 rfl (by decide) (by decide) rfl (Nat.le_of_ble_eq_true rfl)) c525 zMv_tr zMv_tr (zFr_Rl (C := C) (r := r) (g := g) (r' := r')).1 (zFr_Rl (C := C) (r := r) (g := g) (r' := r')).2.1 rfl rfl) (zFr_Rl (C := C) (r := r) (g := g) (r' := r')) (fun _ _ => True.intro) (fun x hx => absurd hx List.not_mem_nil) (fun k h => by rw [show k = 999 from h]; decide) rfl rfl (by show _ ≤ 601024; omega) (by show _ ≤ 7293034; omega) ?_
    show zB m_L_law RLw (FLw b L xs) PLw 528 (zLL i (some (.inl 2)) none) [.inl v] (zLwld C r' g) _ _
    refine zr_storew dL_law_528 (by decide) rfl ?_
    refine zr_aload ⟨_, dL_law_530, rfl⟩ rfl ?_
    have c531 : zSpecF zTrv 1 zall 0 0 m_X12_thrown [.inr (.inl (some 0))] (ziT r' 0 TRf) (fun r1 w1 => r1 = some (.inl 2) ∧ w1 = ziT r' 0 TRf) := by
      have h0 := t_Rf_thrown (res := 2) (congrArg some f3)
      exact zSpecT.F h0
    refine zg_callW (r := some (.inl 2)) (v := 500) (zRunQ_of (zrun_VW (f := zsh 76) (rest := []) dL_law_531 ml_L_72 zLw_76 rfl (by decide) (by decide) rfl (Nat.le_of_ble_eq_true rfl)) c531 zMv_tr zMv_tr (zFr_Rl (C := C) (r := r') (g := g) (r' := r')).1 (zFr_Rl (C := C) (r := r') (g := g) (r' := r')).2.1 rfl rfl) (zFr_Rl (C := C) (r := r') (g := g) (r' := r')) (fun _ _ => True.intro) (fun x hx => absurd hx List.not_mem_nil) (fun k h => by rw [show k = 999 from h]; decide) rfl rfl (by show _ ≤ 601024; omega) (by show _ ≤ 7293034; omega) ?_
    show zB m_L_law RLw (FLw b L xs) PLw 534 (zLL i (some (.inl 2)) (some (.inl v))) [.inl 2] (zLwld C r' g) _ _
    refine zr_loadw dL_law_534 rfl ?_
    refine zr_ic_eq (tgt := 541) dL_law_536 (by decide) (fun _ => ?_) (fun w => absurd rfl w)
    refine zr_loadw dL_law_541 rfl ?_
    refine zr_if_ne (tgt := 558) dL_law_543 (by decide) (fun _ => ?_) (fun w => absurd (by decide : ¬ (2 : Int) = 0) w)
    refine zr_goto (tgt := 1159) dL_law_558 (by decide) ?_
    refine zr_mask [true, true, true, true, true, false, false] rfl ?_
    exact hK _ _ _ _ _ f4 (by omega) (by omega)
set_option maxRecDepth 100000 in
set_option maxHeartbeats 1000000 in
theorem lc_rule {b L N N' B uc us : Nat} {xs : Nat → Int32} {i : Int} {C r : zSt} {g : Int → Int} (hi : 0 ≤ i ∧ i + 5 ≤ L) (hLm : L ≤ 2560) (hW : zWh B C r) (hB : B + 100 < 65536) (huc : uc + zpot 42 C ≤ N) (hus : us + zpot 42 C ≤ N') (hN : N + 1 ≤ 601024) (hN' : N' + 6 ≤ 7293034)
    (hK : ∀ (C' r' : zSt) (g' : Int → Int) (uc' us' : Nat), zWh (B + 100) C' r' → uc' + zpot 42 C' ≤ N + 1 → us' + zpot 42 C' ≤ N' + 6 → zB m_L_law RLw (FLw b L xs) PLw 1159 (zLL i none none) [] (zLwld C' r' g') uc' us') :
    zB m_L_law RLw (FLw b L xs) PLw 561 (zLL i none none) [] (zLwld C r g) uc us := by
  have e1 : w32 (i + 1) = i + 1 := w32i (by omega) (by omega)
  have hi1 : 0 ≤ w32 (i + 1) ∧ w32 (i + 1) < L := by rw [e1]; omega
  obtain ⟨a1, ha1⟩ : ∃ a, a = zxs xs (w32 (i + 1)) := ⟨_, rfl⟩
  have e2 : w32 (i + 2) = i + 2 := w32i (by omega) (by omega)
  have hi2 : 0 ≤ w32 (i + 2) ∧ w32 (i + 2) < L := by rw [e2]; omega
  obtain ⟨a2, ha2⟩ : ∃ a, a = zxs xs (w32 (i + 2)) := ⟨_, rfl⟩
  by_cases q1 : a1 = 0
  · by_cases q2 : a2 = 0
    · obtain ⟨v, C', r', f1, f2, f3, f4⟩ := M_rule hW (a := 0) (b := 0) (by decide) (by decide)
      have hm : zpot 42 C' ≤ zpot 42 C := mo_rule f1
      refine zr_aload ⟨_, dL_law_561, rfl⟩ rfl ?_
      refine zr_aload ⟨_, dL_law_562, rfl⟩ rfl ?_
      refine zr_loadw dL_law_563 rfl ?_
      refine zr_iconst dL_law_565 (by decide) ?_
      refine zr_iadd dL_law_566 ?_
      refine zr_sld dL_law_567 hi1 rfl ?_
      rw [← ha1]
      refine zr_if_eq (tgt := 575) dL_law_568 (by decide) (fun _ => ?_) (fun w => absurd q1 w)
      refine zr_iconst dL_law_575 (by decide) ?_
      refine zr_aload ⟨_, dL_law_576, rfl⟩ rfl ?_
      refine zr_loadw dL_law_577 rfl ?_
      refine zr_iconst dL_law_579 (by decide) ?_
      refine zr_iadd dL_law_580 ?_
      refine zr_sld dL_law_581 hi2 rfl ?_
      rw [← ha2]
      refine zr_if_eq (tgt := 589) dL_law_582 (by decide) (fun _ => ?_) (fun w => absurd q2 w)
      refine zr_iconst dL_law_589 (by decide) ?_
      have c590 : zSpecF zTrv 6 zall 0 0 m_X11_rule [.inr (.inl (some 0)), .inl 0, .inl 0] (ziT C 0 TCo) (fun r1 w1 => r1 = some (.inl v) ∧ w1 = ziT C' 0 TCo) := by
        have h0 := t_Co_rule f1
        exact zSpecT.F h0
      refine zg_callW (r := some (.inl v)) (v := 42) (zRunQ_of (zrun_VW (f := zid) (rest := []) dL_law_590 ml_L_98 zLw_0 rfl (by decide) (by decide) rfl (Nat.le_of_ble_eq_true rfl)) c590 zMv_tr zMv_tr (zFr_Cl (C := C) (r := r) (g := g) (C' := C')).1 (zFr_Cl (C := C) (r := r) (g := g) (C' := C')).2.1 rfl rfl) (zFr_Cl (C := C) (r := r) (g := g) (C' := C')) (fun _ _ => True.intro) (fun x hx => absurd hx List.not_mem_nil) (fun k h => by rw [show k = 999 from h]; decide) rfl rfl (by show _ ≤ 601024; omega) (by show _ ≤ 7293034; omega) ?_
      show zB m_L_law RLw (FLw b L xs) PLw 593 (zLL i none none) [.inl v] (zLwld C' r g) _ _
      refine zr_aload ⟨_, dL_law_593, rfl⟩ rfl ?_
      refine zr_aload ⟨_, dL_law_594, rfl⟩ rfl ?_
      refine zr_loadw dL_law_595 rfl ?_
      refine zr_iconst dL_law_597 (by decide) ?_
      refine zr_iadd dL_law_598 ?_
      refine zr_sld dL_law_599 hi1 rfl ?_
      rw [← ha1]
      refine zr_if_eq (tgt := 607) dL_law_600 (by decide) (fun _ => ?_) (fun w => absurd q1 w)
      refine zr_iconst dL_law_607 (by decide) ?_
      refine zr_aload ⟨_, dL_law_608, rfl⟩ rfl ?_
      refine zr_loadw dL_law_609 rfl ?_
      refine zr_iconst dL_law_611 (by decide) ?_
      refine zr_iadd dL_law_612 ?_
      refine zr_sld dL_law_613 hi2 rfl ?_
      rw [← ha2]
      refine zr_if_eq (tgt := 621) dL_law_614 (by decide) (fun _ => ?_) (fun w => absurd q2 w)
      refine zr_iconst dL_law_621 (by decide) ?_
      have c622 : zSpecF zTrv 3 zall 0 0 m_X12_rule [.inr (.inl (some 0)), .inl 0, .inl 0] (ziT r 0 TRf) (fun r1 w1 => r1 = some (.inl v) ∧ w1 = ziT r' 0 TRf) := by
        have h0 := t_Rf_rule f2
        exact zSpecT.F h0
      refine zg_callW (r := some (.inl v)) (v := 500) (zRunQ_of (zrun_VW (f := zsh 76) (rest := [.inl v]) dL_law_622 ml_L_102 zLw_76 rfl (by decide) (by decide) rfl (Nat.le_of_ble_eq_true rfl)) c622 zMv_tr zMv_tr (zFr_Rl (C := C') (r := r) (g := g) (r' := r')).1 (zFr_Rl (C := C') (r := r) (g := g) (r' := r')).2.1 rfl rfl) (zFr_Rl (C := C') (r := r) (g := g) (r' := r')) (fun _ _ => True.intro) (fun x hx => by simp only [List.mem_cons, List.not_mem_nil, or_false] at hx ⊢; simp [hx]) (fun k h => by rw [show k = 999 from h]; decide) rfl rfl (by show _ ≤ 601024; omega) (by show _ ≤ 7293034; omega) ?_
      show zB m_L_law RLw (FLw b L xs) PLw 625 (zLL i none none) [.inl v, .inl v] (zLwld C' r' g) _ _
      refine zr_ic_eq (tgt := 1159) dL_law_625 (by decide) (fun _ => ?_) (fun w => absurd rfl w)
      refine zr_mask [true, true, true, true, true, false, false] rfl ?_
      exact hK _ _ _ _ _ f4 (by omega) (by omega)
    · obtain ⟨v, C', r', f1, f2, f3, f4⟩ := M_rule hW (a := 0) (b := 1) (by decide) (by decide)
      have hm : zpot 42 C' ≤ zpot 42 C := mo_rule f1
      refine zr_aload ⟨_, dL_law_561, rfl⟩ rfl ?_
      refine zr_aload ⟨_, dL_law_562, rfl⟩ rfl ?_
      refine zr_loadw dL_law_563 rfl ?_
      refine zr_iconst dL_law_565 (by decide) ?_
      refine zr_iadd dL_law_566 ?_
      refine zr_sld dL_law_567 hi1 rfl ?_
      rw [← ha1]
      refine zr_if_eq (tgt := 575) dL_law_568 (by decide) (fun _ => ?_) (fun w => absurd q1 w)
      refine zr_iconst dL_law_575 (by decide) ?_
      refine zr_aload ⟨_, dL_law_576, rfl⟩ rfl ?_
      refine zr_loadw dL_law_577 rfl ?_
      refine zr_iconst dL_law_579 (by decide) ?_
      refine zr_iadd dL_law_580 ?_
      refine zr_sld dL_law_581 hi2 rfl ?_
      rw [← ha2]
      refine zr_if_eq (tgt := 589) dL_law_582 (by decide) (fun w => absurd w q2) (fun _ => ?_)
      refine zr_iconst dL_law_585 (by decide) ?_
      refine zr_goto (tgt := 590) dL_law_586 (by decide) ?_
      have c590 : zSpecF zTrv 6 zall 0 0 m_X11_rule [.inr (.inl (some 0)), .inl 0, .inl 1] (ziT C 0 TCo) (fun r1 w1 => r1 = some (.inl v) ∧ w1 = ziT C' 0 TCo) := by
        have h0 := t_Co_rule f1
        exact zSpecT.F h0
      refine zg_callW (r := some (.inl v)) (v := 42) (zRunQ_of (zrun_VW (f := zid) (rest := []) dL_law_590 ml_L_98 zLw_0 rfl (by decide) (by decide) rfl (Nat.le_of_ble_eq_true rfl)) c590 zMv_tr zMv_tr (zFr_Cl (C := C) (r := r) (g := g) (C' := C')).1 (zFr_Cl (C := C) (r := r) (g := g) (C' := C')).2.1 rfl rfl) (zFr_Cl (C := C) (r := r) (g := g) (C' := C')) (fun _ _ => True.intro) (fun x hx => absurd hx List.not_mem_nil) (fun k h => by rw [show k = 999 from h]; decide) rfl rfl (by show _ ≤ 601024; omega) (by show _ ≤ 7293034; omega) ?_
      show zB m_L_law RLw (FLw b L xs) PLw 593 (zLL i none none) [.inl v] (zLwld C' r g) _ _
      refine zr_aload ⟨_, dL_law_593, rfl⟩ rfl ?_
      refine zr_aload ⟨_, dL_law_594, rfl⟩ rfl ?_
      refine zr_loadw dL_law_595 rfl ?_
      refine zr_iconst dL_law_597 (by decide) ?_
      refine zr_iadd dL_law_598 ?_
      refine zr_sld dL_law_599 hi1 rfl ?_
      rw [← ha1]
      refine zr_if_eq (tgt := 607) dL_law_600 (by decide) (fun _ => ?_) (fun w => absurd q1 w)
      refine zr_iconst dL_law_607 (by decide) ?_
      refine zr_aload ⟨_, dL_law_608, rfl⟩ rfl ?_
      refine zr_loadw dL_law_609 rfl ?_
      refine zr_iconst dL_law_611 (by decide) ?_
      refine zr_iadd dL_law_612 ?_
      refine zr_sld dL_law_613 hi2 rfl ?_
      rw [← ha2]
      refine zr_if_eq (tgt := 621) dL_law_614 (by decide) (fun w => absurd w q2) (fun _ => ?_)
      refine zr_iconst dL_law_617 (by decide) ?_
      refine zr_goto (tgt := 622) dL_law_618 (by decide) ?_
      have c622 : zSpecF zTrv 3 zall 0 0 m_X12_rule [.inr (.inl (some 0)), .inl 0, .inl 1] (ziT r 0 TRf) (fun r1 w1 => r1 = some (.inl v) ∧ w1 = ziT r' 0 TRf) := by
        have h0 := t_Rf_rule f2
        exact zSpecT.F h0
      refine zg_callW (r := some (.inl v)) (v := 500) (zRunQ_of (zrun_VW (f := zsh 76) (rest := [.inl v]) dL_law_622 ml_L_102 zLw_76 rfl (by decide) (by decide) rfl (Nat.le_of_ble_eq_true rfl)) c622 zMv_tr zMv_tr (zFr_Rl (C := C') (r := r) (g := g) (r' := r')).1 (zFr_Rl (C := C') (r := r) (g := g) (r' := r')).2.1 rfl rfl) (zFr_Rl (C := C') (r := r) (g := g) (r' := r')) (fun _ _ => True.intro) (fun x hx => by simp only [List.mem_cons, List.not_mem_nil, or_false] at hx ⊢; simp [hx]) (fun k h => by rw [show k = 999 from h]; decide) rfl rfl (by show _ ≤ 601024; omega) (by show _ ≤ 7293034; omega) ?_
      show zB m_L_law RLw (FLw b L xs) PLw 625 (zLL i none none) [.inl v, .inl v] (zLwld C' r' g) _ _
      refine zr_ic_eq (tgt := 1159) dL_law_625 (by decide) (fun _ => ?_) (fun w => absurd rfl w)
      refine zr_mask [true, true, true, true, true, false, false] rfl ?_
      exact hK _ _ _ _ _ f4 (by omega) (by omega)
  · by_cases q2 : a2 = 0
    · obtain ⟨v, C', r', f1, f2, f3, f4⟩ := M_rule hW (a := 1) (b := 0) (by decide) (by decide)
      have hm : zpot 42 C' ≤ zpot 42 C := mo_rule f1
      refine zr_aload ⟨_, dL_law_561, rfl⟩ rfl ?_
      refine zr_aload ⟨_, dL_law_562, rfl⟩ rfl ?_
      refine zr_loadw dL_law_563 rfl ?_
      refine zr_iconst dL_law_565 (by decide) ?_
      refine zr_iadd dL_law_566 ?_
      refine zr_sld dL_law_567 hi1 rfl ?_
      rw [← ha1]
      refine zr_if_eq (tgt := 575) dL_law_568 (by decide) (fun w => absurd w q1) (fun _ => ?_)
      refine zr_iconst dL_law_571 (by decide) ?_
      refine zr_goto (tgt := 576) dL_law_572 (by decide) ?_
      refine zr_aload ⟨_, dL_law_576, rfl⟩ rfl ?_
      refine zr_loadw dL_law_577 rfl ?_
      refine zr_iconst dL_law_579 (by decide) ?_
      refine zr_iadd dL_law_580 ?_
      refine zr_sld dL_law_581 hi2 rfl ?_
      rw [← ha2]
      refine zr_if_eq (tgt := 589) dL_law_582 (by decide) (fun _ => ?_) (fun w => absurd q2 w)
      refine zr_iconst dL_law_589 (by decide) ?_
      have c590 : zSpecF zTrv 6 zall 0 0 m_X11_rule [.inr (.inl (some 0)), .inl 1, .inl 0] (ziT C 0 TCo) (fun r1 w1 => r1 = some (.inl v) ∧ w1 = ziT C' 0 TCo) := by
        have h0 := t_Co_rule f1
        exact zSpecT.F h0
      refine zg_callW (r := some (.inl v)) (v := 42) (zRunQ_of (zrun_VW (f := zid) (rest := []) dL_law_590 ml_L_98 zLw_0 rfl (by decide) (by decide) rfl (Nat.le_of_ble_eq_true rfl)) c590 zMv_tr zMv_tr (zFr_Cl (C := C) (r := r) (g := g) (C' := C')).1 (zFr_Cl (C := C) (r := r) (g := g) (C' := C')).2.1 rfl rfl) (zFr_Cl (C := C) (r := r) (g := g) (C' := C')) (fun _ _ => True.intro) (fun x hx => absurd hx List.not_mem_nil) (fun k h => by rw [show k = 999 from h]; decide) rfl rfl (by show _ ≤ 601024; omega) (by show _ ≤ 7293034; omega) ?_
      show zB m_L_law RLw (FLw b L xs) PLw 593 (zLL i none none) [.inl v] (zLwld C' r g) _ _
      refine zr_aload ⟨_, dL_law_593, rfl⟩ rfl ?_
      refine zr_aload ⟨_, dL_law_594, rfl⟩ rfl ?_
      refine zr_loadw dL_law_595 rfl ?_
      refine zr_iconst dL_law_597 (by decide) ?_
      refine zr_iadd dL_law_598 ?_
      refine zr_sld dL_law_599 hi1 rfl ?_
      rw [← ha1]
      refine zr_if_eq (tgt := 607) dL_law_600 (by decide) (fun w => absurd w q1) (fun _ => ?_)
      refine zr_iconst dL_law_603 (by decide) ?_
      refine zr_goto (tgt := 608) dL_law_604 (by decide) ?_
      refine zr_aload ⟨_, dL_law_608, rfl⟩ rfl ?_
      refine zr_loadw dL_law_609 rfl ?_
      refine zr_iconst dL_law_611 (by decide) ?_
      refine zr_iadd dL_law_612 ?_
      refine zr_sld dL_law_613 hi2 rfl ?_
      rw [← ha2]
      refine zr_if_eq (tgt := 621) dL_law_614 (by decide) (fun _ => ?_) (fun w => absurd q2 w)
      refine zr_iconst dL_law_621 (by decide) ?_
      have c622 : zSpecF zTrv 3 zall 0 0 m_X12_rule [.inr (.inl (some 0)), .inl 1, .inl 0] (ziT r 0 TRf) (fun r1 w1 => r1 = some (.inl v) ∧ w1 = ziT r' 0 TRf) := by
        have h0 := t_Rf_rule f2
        exact zSpecT.F h0
      refine zg_callW (r := some (.inl v)) (v := 500) (zRunQ_of (zrun_VW (f := zsh 76) (rest := [.inl v]) dL_law_622 ml_L_102 zLw_76 rfl (by decide) (by decide) rfl (Nat.le_of_ble_eq_true rfl)) c622 zMv_tr zMv_tr (zFr_Rl (C := C') (r := r) (g := g) (r' := r')).1 (zFr_Rl (C := C') (r := r) (g := g) (r' := r')).2.1 rfl rfl) (zFr_Rl (C := C') (r := r) (g := g) (r' := r')) (fun _ _ => True.intro) (fun x hx => by simp only [List.mem_cons, List.not_mem_nil, or_false] at hx ⊢; simp [hx]) (fun k h => by rw [show k = 999 from h]; decide) rfl rfl (by show _ ≤ 601024; omega) (by show _ ≤ 7293034; omega) ?_
      show zB m_L_law RLw (FLw b L xs) PLw 625 (zLL i none none) [.inl v, .inl v] (zLwld C' r' g) _ _
      refine zr_ic_eq (tgt := 1159) dL_law_625 (by decide) (fun _ => ?_) (fun w => absurd rfl w)
      refine zr_mask [true, true, true, true, true, false, false] rfl ?_
      exact hK _ _ _ _ _ f4 (by omega) (by omega)
    · obtain ⟨v, C', r', f1, f2, f3, f4⟩ := M_rule hW (a := 1) (b := 1) (by decide) (by decide)
      have hm : zpot 42 C' ≤ zpot 42 C := mo_rule f1
      refine zr_aload ⟨_, dL_law_561, rfl⟩ rfl ?_
      refine zr_aload ⟨_, dL_law_562, rfl⟩ rfl ?_
      refine zr_loadw dL_law_563 rfl ?_
      refine zr_iconst dL_law_565 (by decide) ?_
      refine zr_iadd dL_law_566 ?_
      refine zr_sld dL_law_567 hi1 rfl ?_
      rw [← ha1]
      refine zr_if_eq (tgt := 575) dL_law_568 (by decide) (fun w => absurd w q1) (fun _ => ?_)
      refine zr_iconst dL_law_571 (by decide) ?_
      refine zr_goto (tgt := 576) dL_law_572 (by decide) ?_
      refine zr_aload ⟨_, dL_law_576, rfl⟩ rfl ?_
      refine zr_loadw dL_law_577 rfl ?_
      refine zr_iconst dL_law_579 (by decide) ?_
      refine zr_iadd dL_law_580 ?_
      refine zr_sld dL_law_581 hi2 rfl ?_
      rw [← ha2]
      refine zr_if_eq (tgt := 589) dL_law_582 (by decide) (fun w => absurd w q2) (fun _ => ?_)
      refine zr_iconst dL_law_585 (by decide) ?_
      refine zr_goto (tgt := 590) dL_law_586 (by decide) ?_
      have c590 : zSpecF zTrv 6 zall 0 0 m_X11_rule [.inr (.inl (some 0)), .inl 1, .inl 1] (ziT C 0 TCo) (fun r1 w1 => r1 = some (.inl v) ∧ w1 = ziT C' 0 TCo) := by
        have h0 := t_Co_rule f1
        exact zSpecT.F h0
      refine zg_callW (r := some (.inl v)) (v := 42) (zRunQ_of (zrun_VW (f := zid) (rest := []) dL_law_590 ml_L_98 zLw_0 rfl (by decide) (by decide) rfl (Nat.le_of_ble_eq_true rfl)) c590 zMv_tr zMv_tr (zFr_Cl (C := C) (r := r) (g := g) (C' := C')).1 (zFr_Cl (C := C) (r := r) (g := g) (C' := C')).2.1 rfl rfl) (zFr_Cl (C := C) (r := r) (g := g) (C' := C')) (fun _ _ => True.intro) (fun x hx => absurd hx List.not_mem_nil) (fun k h => by rw [show k = 999 from h]; decide) rfl rfl (by show _ ≤ 601024; omega) (by show _ ≤ 7293034; omega) ?_
      show zB m_L_law RLw (FLw b L xs) PLw 593 (zLL i none none) [.inl v] (zLwld C' r g) _ _
      refine zr_aload ⟨_, dL_law_593, rfl⟩ rfl ?_
      refine zr_aload ⟨_, dL_law_594, rfl⟩ rfl ?_
      refine zr_loadw dL_law_595 rfl ?_
      refine zr_iconst dL_law_597 (by decide) ?_
      refine zr_iadd dL_law_598 ?_
      refine zr_sld dL_law_599 hi1 rfl ?_
      rw [← ha1]
      refine zr_if_eq (tgt := 607) dL_law_600 (by decide) (fun w => absurd w q1) (fun _ => ?_)
      refine zr_iconst dL_law_603 (by decide) ?_
      refine zr_goto (tgt := 608) dL_law_604 (by decide) ?_
      refine zr_aload ⟨_, dL_law_608, rfl⟩ rfl ?_
      refine zr_loadw dL_law_609 rfl ?_
      refine zr_iconst dL_law_611 (by decide) ?_
      refine zr_iadd dL_law_612 ?_
      refine zr_sld dL_law_613 hi2 rfl ?_
      rw [← ha2]
      refine zr_if_eq (tgt := 621) dL_law_614 (by decide) (fun w => absurd w q2) (fun _ => ?_)
      refine zr_iconst dL_law_617 (by decide) ?_
      refine zr_goto (tgt := 622) dL_law_618 (by decide) ?_
      have c622 : zSpecF zTrv 3 zall 0 0 m_X12_rule [.inr (.inl (some 0)), .inl 1, .inl 1] (ziT r 0 TRf) (fun r1 w1 => r1 = some (.inl v) ∧ w1 = ziT r' 0 TRf) := by
        have h0 := t_Rf_rule f2
        exact zSpecT.F h0
      refine zg_callW (r := some (.inl v)) (v := 500) (zRunQ_of (zrun_VW (f := zsh 76) (rest := [.inl v]) dL_law_622 ml_L_102 zLw_76 rfl (by decide) (by decide) rfl (Nat.le_of_ble_eq_true rfl)) c622 zMv_tr zMv_tr (zFr_Rl (C := C') (r := r) (g := g) (r' := r')).1 (zFr_Rl (C := C') (r := r) (g := g) (r' := r')).2.1 rfl rfl) (zFr_Rl (C := C') (r := r) (g := g) (r' := r')) (fun _ _ => True.intro) (fun x hx => by simp only [List.mem_cons, List.not_mem_nil, or_false] at hx ⊢; simp [hx]) (fun k h => by rw [show k = 999 from h]; decide) rfl rfl (by show _ ≤ 601024; omega) (by show _ ≤ 7293034; omega) ?_
      show zB m_L_law RLw (FLw b L xs) PLw 625 (zLL i none none) [.inl v, .inl v] (zLwld C' r' g) _ _
      refine zr_ic_eq (tgt := 1159) dL_law_625 (by decide) (fun _ => ?_) (fun w => absurd rfl w)
      refine zr_mask [true, true, true, true, true, false, false] rfl ?_
      exact hK _ _ _ _ _ f4 (by omega) (by omega)
set_option maxRecDepth 100000 in
set_option maxHeartbeats 1000000 in
theorem lc_take {b L N N' B uc us : Nat} {xs : Nat → Int32} {i : Int} {C r : zSt} {g : Int → Int} (hi : 0 ≤ i ∧ i + 5 ≤ L) (hLm : L ≤ 2560) (hW : zWh B C r) (hB : B + 100 < 65536) (huc : uc + zpot 42 C ≤ N) (hus : us + zpot 42 C ≤ N') (hN : N + 1 ≤ 601024) (hN' : N' + 6 ≤ 7293034)
    (hK : ∀ (C' r' : zSt) (g' : Int → Int) (uc' us' : Nat), zWh (B + 100) C' r' → uc' + zpot 42 C' ≤ N + 1 → us' + zpot 42 C' ≤ N' + 6 → zB m_L_law RLw (FLw b L xs) PLw 1159 (zLL i none none) [] (zLwld C' r' g') uc' us') :
    zB m_L_law RLw (FLw b L xs) PLw 630 (zLL i none none) [] (zLwld C r g) uc us := by
  obtain ⟨v, C', r', f1, f2, f3, f4⟩ := M_take hW
  have hm : zpot 42 C' ≤ zpot 42 C := mo_take f1
  refine zr_aload ⟨_, dL_law_630, rfl⟩ rfl ?_
  have c631 : zSpecF zTrv 3 zall 0 0 m_X11_take [.inr (.inl (some 0))] (ziT C 0 TCo) (fun r1 w1 => r1 = some (.inl v) ∧ w1 = ziT C' 0 TCo) := by
    have h0 := t_Co_take f1
    exact zSpecT.F h0
  refine zg_callW (r := some (.inl v)) (v := 42) (zRunQ_of (zrun_VW (f := zid) (rest := []) dL_law_631 ml_L_103 zLw_0 rfl (by decide) (by decide) rfl (Nat.le_of_ble_eq_true rfl)) c631 zMv_tr zMv_tr (zFr_Cl (C := C) (r := r) (g := g) (C' := C')).1 (zFr_Cl (C := C) (r := r) (g := g) (C' := C')).2.1 rfl rfl) (zFr_Cl (C := C) (r := r) (g := g) (C' := C')) (fun _ _ => True.intro) (fun x hx => absurd hx List.not_mem_nil) (fun k h => by rw [show k = 999 from h]; decide) rfl rfl (by show _ ≤ 601024; omega) (by show _ ≤ 7293034; omega) ?_
  show zB m_L_law RLw (FLw b L xs) PLw 634 (zLL i none none) [.inl v] (zLwld C' r g) _ _
  refine zr_aload ⟨_, dL_law_634, rfl⟩ rfl ?_
  have c635 : zSpecF zTrv 1 zall 0 0 m_X12_take [.inr (.inl (some 0))] (ziT r 0 TRf) (fun r1 w1 => r1 = some (.inl v) ∧ w1 = ziT r' 0 TRf) := by
    have h0 := t_Rf_take f2
    exact zSpecT.F h0
  refine zg_callW (r := some (.inl v)) (v := 500) (zRunQ_of (zrun_VW (f := zsh 76) (rest := [.inl v]) dL_law_635 ml_L_106 zLw_76 rfl (by decide) (by decide) rfl (Nat.le_of_ble_eq_true rfl)) c635 zMv_tr zMv_tr (zFr_Rl (C := C') (r := r) (g := g) (r' := r')).1 (zFr_Rl (C := C') (r := r) (g := g) (r' := r')).2.1 rfl rfl) (zFr_Rl (C := C') (r := r) (g := g) (r' := r')) (fun _ _ => True.intro) (fun x hx => by simp only [List.mem_cons, List.not_mem_nil, or_false] at hx ⊢; simp [hx]) (fun k h => by rw [show k = 999 from h]; decide) rfl rfl (by show _ ≤ 601024; omega) (by show _ ≤ 7293034; omega) ?_
  show zB m_L_law RLw (FLw b L xs) PLw 638 (zLL i none none) [.inl v, .inl v] (zLwld C' r' g) _ _
  refine zr_ic_eq (tgt := 1159) dL_law_638 (by decide) (fun _ => ?_) (fun w => absurd rfl w)
  refine zr_mask [true, true, true, true, true, false, false] rfl ?_
  exact hK _ _ _ _ _ f4 (by omega) (by omega)
set_option maxRecDepth 100000 in
set_option maxHeartbeats 1000000 in
theorem lc_size {b L N N' B uc us : Nat} {xs : Nat → Int32} {i : Int} {C r : zSt} {g : Int → Int} (hi : 0 ≤ i ∧ i + 5 ≤ L) (hLm : L ≤ 2560) (hW : zWh B C r) (hB : B + 100 < 65536) (huc : uc + zpot 42 C ≤ N) (hus : us + zpot 42 C ≤ N') (hN : N + 1 ≤ 601024) (hN' : N' + 6 ≤ 7293034)
    (hK : ∀ (C' r' : zSt) (g' : Int → Int) (uc' us' : Nat), zWh (B + 100) C' r' → uc' + zpot 42 C' ≤ N + 1 → us' + zpot 42 C' ≤ N' + 6 → zB m_L_law RLw (FLw b L xs) PLw 1159 (zLL i none none) [] (zLwld C' r' g') uc' us') :
    zB m_L_law RLw (FLw b L xs) PLw 643 (zLL i none none) [] (zLwld C r g) uc us := by
  have e1 : w32 (i + 1) = i + 1 := w32i (by omega) (by omega)
  have hi1 : 0 ≤ w32 (i + 1) ∧ w32 (i + 1) < L := by rw [e1]; omega
  obtain ⟨a1, ha1⟩ : ∃ a, a = zxs xs (w32 (i + 1)) := ⟨_, rfl⟩
  have e2 : w32 (i + 2) = i + 2 := w32i (by omega) (by omega)
  have hi2 : 0 ≤ w32 (i + 2) ∧ w32 (i + 2) < L := by rw [e2]; omega
  obtain ⟨a2, ha2⟩ : ∃ a, a = zxs xs (w32 (i + 2)) := ⟨_, rfl⟩
  rcases M_size hW hB a1 a2 with ⟨v, C', r', f1, f2, f3, f4⟩ | ⟨v, r', f1, f2, f3, f4⟩
  · have hm : zpot 42 C' ≤ zpot 42 C := mo_size f1
    refine zr_aload ⟨_, dL_law_643, rfl⟩ rfl ?_
    refine zr_aload ⟨_, dL_law_644, rfl⟩ rfl ?_
    refine zr_loadw dL_law_645 rfl ?_
    refine zr_iconst dL_law_647 (by decide) ?_
    refine zr_iadd dL_law_648 ?_
    refine zr_sld dL_law_649 hi1 rfl ?_
    rw [← ha1]
    refine zr_aload ⟨_, dL_law_650, rfl⟩ rfl ?_
    refine zr_loadw dL_law_651 rfl ?_
    refine zr_iconst dL_law_653 (by decide) ?_
    refine zr_iadd dL_law_654 ?_
    refine zr_sld dL_law_655 hi2 rfl ?_
    rw [← ha2]
    refine zr_aload ⟨_, dL_law_656, rfl⟩ rfl ?_
    have c657 := la_size (g := g) f1 hm
    refine zg_callW (r := some (.inl 0)) (v := 42) (zRunQ_H (rest := []) c657 dL_law_657 ls_size cw_size cl_size rfl (by decide) (by decide) (by decide) zMv_law zMv_lw (zFr_Ll (C := C) (r := r) (g := g) (C' := C') (g' := (zup g 0 v))).1 (zFr_Ll (C := C) (r := r) (g := g) (C' := C') (g' := (zup g 0 v))).2.1 rfl rfl) (zFr_Ll (C := C) (r := r) (g := g) (C' := C') (g' := (zup g 0 v))) (fun k h => h) (fun x hx => absurd hx List.not_mem_nil) (fun k h => by rw [show k = 999 from h]; decide) rfl rfl (by show _ ≤ 601024; omega) (by show _ ≤ 7293034; omega) ?_
    show zB m_L_law RLw (FLw b L xs) PLw 660 (zLL i none none) [.inl 0] (zLwld C' r (zup g 0 v)) _ _
    refine zr_storew dL_law_660 (by decide) rfl ?_
    refine zr_aload ⟨_, dL_law_662, rfl⟩ rfl ?_
    refine zr_aload ⟨_, dL_law_663, rfl⟩ rfl ?_
    refine zr_loadw dL_law_664 rfl ?_
    refine zr_iconst dL_law_666 (by decide) ?_
    refine zr_iadd dL_law_667 ?_
    refine zr_sld dL_law_668 hi1 rfl ?_
    rw [← ha1]
    refine zr_aload ⟨_, dL_law_669, rfl⟩ rfl ?_
    refine zr_loadw dL_law_670 rfl ?_
    refine zr_iconst dL_law_672 (by decide) ?_
    refine zr_iadd dL_law_673 ?_
    refine zr_sld dL_law_674 hi2 rfl ?_
    rw [← ha2]
    have c675 : zSpecF zTrv 4 zall 0 0 m_X12_size [.inr (.inl (some 0)), .inl a1, .inl a2] (ziT r 0 TRf) (fun r1 w1 => r1 = some (.inl v) ∧ w1 = ziT r' 0 TRf) := by
      have h0 := t_Rf_size f2
      exact zSpecT.F h0
    refine zg_callW (r := some (.inl v)) (v := 500) (zRunQ_of (zrun_VW (f := zsh 76) (rest := []) dL_law_675 ml_L_109 zLw_76 rfl (by decide) (by decide) rfl (Nat.le_of_ble_eq_true rfl)) c675 zMv_tr zMv_tr (zFr_Rl (C := C') (r := r) (g := (zup g 0 v)) (r' := r')).1 (zFr_Rl (C := C') (r := r) (g := (zup g 0 v)) (r' := r')).2.1 rfl rfl) (zFr_Rl (C := C') (r := r) (g := (zup g 0 v)) (r' := r')) (fun _ _ => True.intro) (fun x hx => absurd hx List.not_mem_nil) (fun k h => by rw [show k = 999 from h]; decide) rfl rfl (by show _ ≤ 601024; omega) (by show _ ≤ 7293034; omega) ?_
    show zB m_L_law RLw (FLw b L xs) PLw 678 (zLL i (some (.inl 0)) none) [.inl v] (zLwld C' r' (zup g 0 v)) _ _
    refine zr_storew dL_law_678 (by decide) rfl ?_
    refine zr_aload ⟨_, dL_law_680, rfl⟩ rfl ?_
    have c681 : zSpecF zTrv 1 zall 0 0 m_X12_thrown [.inr (.inl (some 0))] (ziT r' 0 TRf) (fun r1 w1 => r1 = some (.inl 0) ∧ w1 = ziT r' 0 TRf) := by
      have h0 := t_Rf_thrown (res := 0) (congrArg some f3)
      exact zSpecT.F h0
    refine zg_callW (r := some (.inl 0)) (v := 500) (zRunQ_of (zrun_VW (f := zsh 76) (rest := []) dL_law_681 ml_L_72 zLw_76 rfl (by decide) (by decide) rfl (Nat.le_of_ble_eq_true rfl)) c681 zMv_tr zMv_tr (zFr_Rl (C := C') (r := r') (g := (zup g 0 v)) (r' := r')).1 (zFr_Rl (C := C') (r := r') (g := (zup g 0 v)) (r' := r')).2.1 rfl rfl) (zFr_Rl (C := C') (r := r') (g := (zup g 0 v)) (r' := r')) (fun _ _ => True.intro) (fun x hx => absurd hx List.not_mem_nil) (fun k h => by rw [show k = 999 from h]; decide) rfl rfl (by show _ ≤ 601024; omega) (by show _ ≤ 7293034; omega) ?_
    show zB m_L_law RLw (FLw b L xs) PLw 684 (zLL i (some (.inl 0)) (some (.inl v))) [.inl 0] (zLwld C' r' (zup g 0 v)) _ _
    refine zr_loadw dL_law_684 rfl ?_
    refine zr_ic_eq (tgt := 691) dL_law_686 (by decide) (fun _ => ?_) (fun w => absurd rfl w)
    refine zr_loadw dL_law_691 rfl ?_
    refine zr_if_ne (tgt := 708) dL_law_693 (by decide) (fun w => absurd rfl w) (fun _ => ?_)
    refine zr_aload ⟨_, dL_law_696, rfl⟩ rfl ?_
    refine zr_iconst dL_law_697 (by decide) ?_
    refine zr_laload dL_law_698 zLw_92 ⟨by decide, by decide⟩ ?_
    rw [zup_same]
    refine zr_loadw dL_law_699 rfl ?_
    refine zr_i2l dL_law_701 ?_
    refine zr_lcmpS dL_law_702 ?_
    refine zr_if_eq (tgt := 708) dL_law_703 (by decide) (fun _ => ?_) (fun w => absurd rfl w)
    refine zr_goto (tgt := 1159) dL_law_708 (by decide) ?_
    refine zr_mask [true, true, true, true, true, false, false] rfl ?_
    exact hK _ _ _ _ _ f4 (by omega) (by omega)
  · refine zr_aload ⟨_, dL_law_643, rfl⟩ rfl ?_
    refine zr_aload ⟨_, dL_law_644, rfl⟩ rfl ?_
    refine zr_loadw dL_law_645 rfl ?_
    refine zr_iconst dL_law_647 (by decide) ?_
    refine zr_iadd dL_law_648 ?_
    refine zr_sld dL_law_649 hi1 rfl ?_
    rw [← ha1]
    refine zr_aload ⟨_, dL_law_650, rfl⟩ rfl ?_
    refine zr_loadw dL_law_651 rfl ?_
    refine zr_iconst dL_law_653 (by decide) ?_
    refine zr_iadd dL_law_654 ?_
    refine zr_sld dL_law_655 hi2 rfl ?_
    rw [← ha2]
    refine zr_aload ⟨_, dL_law_656, rfl⟩ rfl ?_
    have c657 := lx_size_1 (g := g) ((x_size a1 a2 C).trans f1)
    refine zg_callW (r := some (.inl 1)) (v := 42) (zRunQ_H (rest := []) c657 dL_law_657 ls_size cw_size cl_size rfl (by decide) (by decide) (by decide) zMv_law zMv_lw (zFr_Ll (C := C) (r := r) (g := g) (C' := C) (g' := g)).1 (zFr_Ll (C := C) (r := r) (g := g) (C' := C) (g' := g)).2.1 rfl rfl) (zFr_Ll (C := C) (r := r) (g := g) (C' := C) (g' := g)) (fun k h => h) (fun x hx => absurd hx List.not_mem_nil) (fun k h => by rw [show k = 999 from h]; decide) rfl rfl (by show _ ≤ 601024; omega) (by show _ ≤ 7293034; omega) ?_
    show zB m_L_law RLw (FLw b L xs) PLw 660 (zLL i none none) [.inl 1] (zLwld C r g) _ _
    refine zr_storew dL_law_660 (by decide) rfl ?_
    refine zr_aload ⟨_, dL_law_662, rfl⟩ rfl ?_
    refine zr_aload ⟨_, dL_law_663, rfl⟩ rfl ?_
    refine zr_loadw dL_law_664 rfl ?_
    refine zr_iconst dL_law_666 (by decide) ?_
    refine zr_iadd dL_law_667 ?_
    refine zr_sld dL_law_668 hi1 rfl ?_
    rw [← ha1]
    refine zr_aload ⟨_, dL_law_669, rfl⟩ rfl ?_
    refine zr_loadw dL_law_670 rfl ?_
    refine zr_iconst dL_law_672 (by decide) ?_
    refine zr_iadd dL_law_673 ?_
    refine zr_sld dL_law_674 hi2 rfl ?_
    rw [← ha2]
    have c675 : zSpecF zTrv 4 zall 0 0 m_X12_size [.inr (.inl (some 0)), .inl a1, .inl a2] (ziT r 0 TRf) (fun r1 w1 => r1 = some (.inl v) ∧ w1 = ziT r' 0 TRf) := by
      have h0 := t_Rf_size f2
      exact zSpecT.F h0
    refine zg_callW (r := some (.inl v)) (v := 500) (zRunQ_of (zrun_VW (f := zsh 76) (rest := []) dL_law_675 ml_L_109 zLw_76 rfl (by decide) (by decide) rfl (Nat.le_of_ble_eq_true rfl)) c675 zMv_tr zMv_tr (zFr_Rl (C := C) (r := r) (g := g) (r' := r')).1 (zFr_Rl (C := C) (r := r) (g := g) (r' := r')).2.1 rfl rfl) (zFr_Rl (C := C) (r := r) (g := g) (r' := r')) (fun _ _ => True.intro) (fun x hx => absurd hx List.not_mem_nil) (fun k h => by rw [show k = 999 from h]; decide) rfl rfl (by show _ ≤ 601024; omega) (by show _ ≤ 7293034; omega) ?_
    show zB m_L_law RLw (FLw b L xs) PLw 678 (zLL i (some (.inl 1)) none) [.inl v] (zLwld C r' g) _ _
    refine zr_storew dL_law_678 (by decide) rfl ?_
    refine zr_aload ⟨_, dL_law_680, rfl⟩ rfl ?_
    have c681 : zSpecF zTrv 1 zall 0 0 m_X12_thrown [.inr (.inl (some 0))] (ziT r' 0 TRf) (fun r1 w1 => r1 = some (.inl 1) ∧ w1 = ziT r' 0 TRf) := by
      have h0 := t_Rf_thrown (res := 1) (congrArg some f3)
      exact zSpecT.F h0
    refine zg_callW (r := some (.inl 1)) (v := 500) (zRunQ_of (zrun_VW (f := zsh 76) (rest := []) dL_law_681 ml_L_72 zLw_76 rfl (by decide) (by decide) rfl (Nat.le_of_ble_eq_true rfl)) c681 zMv_tr zMv_tr (zFr_Rl (C := C) (r := r') (g := g) (r' := r')).1 (zFr_Rl (C := C) (r := r') (g := g) (r' := r')).2.1 rfl rfl) (zFr_Rl (C := C) (r := r') (g := g) (r' := r')) (fun _ _ => True.intro) (fun x hx => absurd hx List.not_mem_nil) (fun k h => by rw [show k = 999 from h]; decide) rfl rfl (by show _ ≤ 601024; omega) (by show _ ≤ 7293034; omega) ?_
    show zB m_L_law RLw (FLw b L xs) PLw 684 (zLL i (some (.inl 1)) (some (.inl v))) [.inl 1] (zLwld C r' g) _ _
    refine zr_loadw dL_law_684 rfl ?_
    refine zr_ic_eq (tgt := 691) dL_law_686 (by decide) (fun _ => ?_) (fun w => absurd rfl w)
    refine zr_loadw dL_law_691 rfl ?_
    refine zr_if_ne (tgt := 708) dL_law_693 (by decide) (fun _ => ?_) (fun w => absurd (by decide : ¬ (1 : Int) = 0) w)
    refine zr_goto (tgt := 1159) dL_law_708 (by decide) ?_
    refine zr_mask [true, true, true, true, true, false, false] rfl ?_
    exact hK _ _ _ _ _ f4 (by omega) (by omega)
set_option maxRecDepth 100000 in
set_option maxHeartbeats 1000000 in
theorem lc_draw {b L N N' B uc us : Nat} {xs : Nat → Int32} {i : Int} {C r : zSt} {g : Int → Int} (hi : 0 ≤ i ∧ i + 5 ≤ L) (hLm : L ≤ 2560) (hW : zWh B C r) (hB : B + 100 < 65536) (huc : uc + zpot 42 C ≤ N) (hus : us + zpot 42 C ≤ N') (hN : N + 1 ≤ 601024) (hN' : N' + 6 ≤ 7293034)
    (hK : ∀ (C' r' : zSt) (g' : Int → Int) (uc' us' : Nat), zWh (B + 100) C' r' → uc' + zpot 42 C' ≤ N + 1 → us' + zpot 42 C' ≤ N' + 6 → zB m_L_law RLw (FLw b L xs) PLw 1159 (zLL i none none) [] (zLwld C' r' g') uc' us') :
    zB m_L_law RLw (FLw b L xs) PLw 711 (zLL i none none) [] (zLwld C r g) uc us := by
  obtain ⟨v, C', r', f1, f2, f3, f4⟩ := M_draw hW
  have hm : zpot 42 C' ≤ zpot 42 C := mo_draw f1
  refine zr_aload ⟨_, dL_law_711, rfl⟩ rfl ?_
  have c712 : zSpecF zTrv 4 zall 0 0 m_X11_draw [.inr (.inl (some 0))] (ziT C 0 TCo) (fun r1 w1 => r1 = some (.inl v) ∧ w1 = ziT C' 0 TCo) := by
    have h0 := t_Co_draw f1
    exact zSpecT.F h0
  refine zg_callW (r := some (.inl v)) (v := 42) (zRunQ_of (zrun_VW (f := zid) (rest := []) dL_law_712 ml_L_110 zLw_0 rfl (by decide) (by decide) rfl (Nat.le_of_ble_eq_true rfl)) c712 zMv_tr zMv_tr (zFr_Cl (C := C) (r := r) (g := g) (C' := C')).1 (zFr_Cl (C := C) (r := r) (g := g) (C' := C')).2.1 rfl rfl) (zFr_Cl (C := C) (r := r) (g := g) (C' := C')) (fun _ _ => True.intro) (fun x hx => absurd hx List.not_mem_nil) (fun k h => by rw [show k = 999 from h]; decide) rfl rfl (by show _ ≤ 601024; omega) (by show _ ≤ 7293034; omega) ?_
  show zB m_L_law RLw (FLw b L xs) PLw 715 (zLL i none none) [.inl v] (zLwld C' r g) _ _
  refine zr_aload ⟨_, dL_law_715, rfl⟩ rfl ?_
  have c716 : zSpecF zTrv 5 zall 0 0 m_X12_draw [.inr (.inl (some 0))] (ziT r 0 TRf) (fun r1 w1 => r1 = some (.inl v) ∧ w1 = ziT r' 0 TRf) := by
    have h0 := t_Rf_draw f2
    exact zSpecT.F h0
  refine zg_callW (r := some (.inl v)) (v := 500) (zRunQ_of (zrun_VW (f := zsh 76) (rest := [.inl v]) dL_law_716 ml_L_113 zLw_76 rfl (by decide) (by decide) rfl (Nat.le_of_ble_eq_true rfl)) c716 zMv_tr zMv_tr (zFr_Rl (C := C') (r := r) (g := g) (r' := r')).1 (zFr_Rl (C := C') (r := r) (g := g) (r' := r')).2.1 rfl rfl) (zFr_Rl (C := C') (r := r) (g := g) (r' := r')) (fun _ _ => True.intro) (fun x hx => by simp only [List.mem_cons, List.not_mem_nil, or_false] at hx ⊢; simp [hx]) (fun k h => by rw [show k = 999 from h]; decide) rfl rfl (by show _ ≤ 601024; omega) (by show _ ≤ 7293034; omega) ?_
  show zB m_L_law RLw (FLw b L xs) PLw 719 (zLL i none none) [.inl v, .inl v] (zLwld C' r' g) _ _
  refine zr_ic_eq (tgt := 1159) dL_law_719 (by decide) (fun _ => ?_) (fun w => absurd rfl w)
  refine zr_mask [true, true, true, true, true, false, false] rfl ?_
  exact hK _ _ _ _ _ f4 (by omega) (by omega)
