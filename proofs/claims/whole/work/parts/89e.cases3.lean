set_option maxRecDepth 100000 in
set_option maxHeartbeats 1000000 in
theorem lc_cell {b L N N' B uc us : Nat} {xs : Nat → Int32} {i : Int} {C r : zSt} {g : Int → Int} (hi : 0 ≤ i ∧ i + 5 ≤ L) (hLm : L ≤ 2560) (hW : zWh B C r) (hB : B + 100 < 65536) (huc : uc + zpot 42 C ≤ N) (hus : us + zpot 42 C ≤ N') (hN : N + 1 ≤ 601024) (hN' : N' + 6 ≤ 7293034)
    (hK : ∀ (C' r' : zSt) (g' : Int → Int) (uc' us' : Nat), zWh (B + 100) C' r' → uc' + zpot 42 C' ≤ N + 1 → us' + zpot 42 C' ≤ N' + 6 → zB m_L_law RLw (FLw b L xs) PLw 1159 (zLL i none none) [] (zLwld C' r' g') uc' us') :
    zB m_L_law RLw (FLw b L xs) PLw 724 (zLL i none none) [] (zLwld C r g) uc us := by
  have e1 : w32 (i + 1) = i + 1 := w32i (by omega) (by omega)
  have hi1 : 0 ≤ w32 (i + 1) ∧ w32 (i + 1) < L := by rw [e1]; omega
  obtain ⟨a1, ha1⟩ : ∃ a, a = zxs xs (w32 (i + 1)) := ⟨_, rfl⟩
  have e2 : w32 (i + 2) = i + 2 := w32i (by omega) (by omega)
  have hi2 : 0 ≤ w32 (i + 2) ∧ w32 (i + 2) < L := by rw [e2]; omega
  obtain ⟨a2, ha2⟩ : ∃ a, a = zxs xs (w32 (i + 2)) := ⟨_, rfl⟩
  rcases M_cell hW a1 a2 with ⟨v, r', f1, f2, f3, f4⟩ | ⟨v, r', f1, f2, f3, f4⟩
  · refine zr_aload ⟨_, dL_law_724, rfl⟩ rfl ?_
    refine zr_aload ⟨_, dL_law_725, rfl⟩ rfl ?_
    refine zr_loadw dL_law_726 rfl ?_
    refine zr_iconst dL_law_728 (by decide) ?_
    refine zr_iadd dL_law_729 ?_
    refine zr_sld dL_law_730 hi1 rfl ?_
    rw [← ha1]
    refine zr_aload ⟨_, dL_law_731, rfl⟩ rfl ?_
    refine zr_loadw dL_law_732 rfl ?_
    refine zr_iconst dL_law_734 (by decide) ?_
    refine zr_iadd dL_law_735 ?_
    refine zr_sld dL_law_736 hi2 rfl ?_
    rw [← ha2]
    refine zr_aload ⟨_, dL_law_737, rfl⟩ rfl ?_
    have c738 := la_cell (g := g) f1
    refine zg_callW (r := some (.inl 0)) (v := 42) (zRunQ_H (rest := []) c738 dL_law_738 ls_cell cw_cell cl_cell rfl (by decide) (by decide) (by decide) zMv_law zMv_lw (zFr_Ll (C := C) (r := r) (g := g) (C' := C) (g' := (zup g 0 v))).1 (zFr_Ll (C := C) (r := r) (g := g) (C' := C) (g' := (zup g 0 v))).2.1 rfl rfl) (zFr_Ll (C := C) (r := r) (g := g) (C' := C) (g' := (zup g 0 v))) (fun k h => h) (fun x hx => absurd hx List.not_mem_nil) (fun k h => by rw [show k = 999 from h]; decide) rfl rfl (by show _ ≤ 601024; omega) (by show _ ≤ 7293034; omega) ?_
    show zB m_L_law RLw (FLw b L xs) PLw 741 (zLL i none none) [.inl 0] (zLwld C r (zup g 0 v)) _ _
    refine zr_storew dL_law_741 (by decide) rfl ?_
    refine zr_aload ⟨_, dL_law_743, rfl⟩ rfl ?_
    refine zr_aload ⟨_, dL_law_744, rfl⟩ rfl ?_
    refine zr_loadw dL_law_745 rfl ?_
    refine zr_iconst dL_law_747 (by decide) ?_
    refine zr_iadd dL_law_748 ?_
    refine zr_sld dL_law_749 hi1 rfl ?_
    rw [← ha1]
    refine zr_aload ⟨_, dL_law_750, rfl⟩ rfl ?_
    refine zr_loadw dL_law_751 rfl ?_
    refine zr_iconst dL_law_753 (by decide) ?_
    refine zr_iadd dL_law_754 ?_
    refine zr_sld dL_law_755 hi2 rfl ?_
    rw [← ha2]
    have c756 : zSpecF zTrv 3 zall 0 0 m_X12_cell [.inr (.inl (some 0)), .inl a1, .inl a2] (ziT r 0 TRf) (fun r1 w1 => r1 = some (.inl v) ∧ w1 = ziT r' 0 TRf) := by
      have h0 := t_Rf_cell f2
      exact zSpecT.F h0
    refine zg_callW (r := some (.inl v)) (v := 500) (zRunQ_of (zrun_VW (f := zsh 76) (rest := []) dL_law_756 ml_L_116 zLw_76 rfl (by decide) (by decide) rfl (Nat.le_of_ble_eq_true rfl)) c756 zMv_tr zMv_tr (zFr_Rl (C := C) (r := r) (g := (zup g 0 v)) (r' := r')).1 (zFr_Rl (C := C) (r := r) (g := (zup g 0 v)) (r' := r')).2.1 rfl rfl) (zFr_Rl (C := C) (r := r) (g := (zup g 0 v)) (r' := r')) (fun _ _ => True.intro) (fun x hx => absurd hx List.not_mem_nil) (fun k h => by rw [show k = 999 from h]; decide) rfl rfl (by show _ ≤ 601024; omega) (by show _ ≤ 7293034; omega) ?_
    show zB m_L_law RLw (FLw b L xs) PLw 759 (zLL i (some (.inl 0)) none) [.inl v] (zLwld C r' (zup g 0 v)) _ _
    refine zr_storew dL_law_759 (by decide) rfl ?_
    refine zr_aload ⟨_, dL_law_761, rfl⟩ rfl ?_
    have c762 : zSpecF zTrv 1 zall 0 0 m_X12_thrown [.inr (.inl (some 0))] (ziT r' 0 TRf) (fun r1 w1 => r1 = some (.inl 0) ∧ w1 = ziT r' 0 TRf) := by
      have h0 := t_Rf_thrown (res := 0) (congrArg some f3)
      exact zSpecT.F h0
    refine zg_callW (r := some (.inl 0)) (v := 500) (zRunQ_of (zrun_VW (f := zsh 76) (rest := []) dL_law_762 ml_L_72 zLw_76 rfl (by decide) (by decide) rfl (Nat.le_of_ble_eq_true rfl)) c762 zMv_tr zMv_tr (zFr_Rl (C := C) (r := r') (g := (zup g 0 v)) (r' := r')).1 (zFr_Rl (C := C) (r := r') (g := (zup g 0 v)) (r' := r')).2.1 rfl rfl) (zFr_Rl (C := C) (r := r') (g := (zup g 0 v)) (r' := r')) (fun _ _ => True.intro) (fun x hx => absurd hx List.not_mem_nil) (fun k h => by rw [show k = 999 from h]; decide) rfl rfl (by show _ ≤ 601024; omega) (by show _ ≤ 7293034; omega) ?_
    show zB m_L_law RLw (FLw b L xs) PLw 765 (zLL i (some (.inl 0)) (some (.inl v))) [.inl 0] (zLwld C r' (zup g 0 v)) _ _
    refine zr_loadw dL_law_765 rfl ?_
    refine zr_ic_eq (tgt := 772) dL_law_767 (by decide) (fun _ => ?_) (fun w => absurd rfl w)
    refine zr_loadw dL_law_772 rfl ?_
    refine zr_if_ne (tgt := 789) dL_law_774 (by decide) (fun w => absurd rfl w) (fun _ => ?_)
    refine zr_aload ⟨_, dL_law_777, rfl⟩ rfl ?_
    refine zr_iconst dL_law_778 (by decide) ?_
    refine zr_laload dL_law_779 zLw_92 ⟨by decide, by decide⟩ ?_
    rw [zup_same]
    refine zr_loadw dL_law_780 rfl ?_
    refine zr_i2l dL_law_782 ?_
    refine zr_lcmpS dL_law_783 ?_
    refine zr_if_eq (tgt := 789) dL_law_784 (by decide) (fun _ => ?_) (fun w => absurd rfl w)
    refine zr_goto (tgt := 1159) dL_law_789 (by decide) ?_
    refine zr_mask [true, true, true, true, true, false, false] rfl ?_
    exact hK _ _ _ _ _ f4 (by omega) (by omega)
  · refine zr_aload ⟨_, dL_law_724, rfl⟩ rfl ?_
    refine zr_aload ⟨_, dL_law_725, rfl⟩ rfl ?_
    refine zr_loadw dL_law_726 rfl ?_
    refine zr_iconst dL_law_728 (by decide) ?_
    refine zr_iadd dL_law_729 ?_
    refine zr_sld dL_law_730 hi1 rfl ?_
    rw [← ha1]
    refine zr_aload ⟨_, dL_law_731, rfl⟩ rfl ?_
    refine zr_loadw dL_law_732 rfl ?_
    refine zr_iconst dL_law_734 (by decide) ?_
    refine zr_iadd dL_law_735 ?_
    refine zr_sld dL_law_736 hi2 rfl ?_
    rw [← ha2]
    refine zr_aload ⟨_, dL_law_737, rfl⟩ rfl ?_
    have c738 := lx_cell_3 (g := g) ((x_cell a1 a2 C).trans f1)
    refine zg_callW (r := some (.inl 1)) (v := 42) (zRunQ_H (rest := []) c738 dL_law_738 ls_cell cw_cell cl_cell rfl (by decide) (by decide) (by decide) zMv_law zMv_lw (zFr_Ll (C := C) (r := r) (g := g) (C' := C) (g' := g)).1 (zFr_Ll (C := C) (r := r) (g := g) (C' := C) (g' := g)).2.1 rfl rfl) (zFr_Ll (C := C) (r := r) (g := g) (C' := C) (g' := g)) (fun k h => h) (fun x hx => absurd hx List.not_mem_nil) (fun k h => by rw [show k = 999 from h]; decide) rfl rfl (by show _ ≤ 601024; omega) (by show _ ≤ 7293034; omega) ?_
    show zB m_L_law RLw (FLw b L xs) PLw 741 (zLL i none none) [.inl 1] (zLwld C r g) _ _
    refine zr_storew dL_law_741 (by decide) rfl ?_
    refine zr_aload ⟨_, dL_law_743, rfl⟩ rfl ?_
    refine zr_aload ⟨_, dL_law_744, rfl⟩ rfl ?_
    refine zr_loadw dL_law_745 rfl ?_
    refine zr_iconst dL_law_747 (by decide) ?_
    refine zr_iadd dL_law_748 ?_
    refine zr_sld dL_law_749 hi1 rfl ?_
    rw [← ha1]
    refine zr_aload ⟨_, dL_law_750, rfl⟩ rfl ?_
    refine zr_loadw dL_law_751 rfl ?_
    refine zr_iconst dL_law_753 (by decide) ?_
    refine zr_iadd dL_law_754 ?_
    refine zr_sld dL_law_755 hi2 rfl ?_
    rw [← ha2]
    have c756 : zSpecF zTrv 3 zall 0 0 m_X12_cell [.inr (.inl (some 0)), .inl a1, .inl a2] (ziT r 0 TRf) (fun r1 w1 => r1 = some (.inl v) ∧ w1 = ziT r' 0 TRf) := by
      have h0 := t_Rf_cell f2
      exact zSpecT.F h0
    refine zg_callW (r := some (.inl v)) (v := 500) (zRunQ_of (zrun_VW (f := zsh 76) (rest := []) dL_law_756 ml_L_116 zLw_76 rfl (by decide) (by decide) rfl (Nat.le_of_ble_eq_true rfl)) c756 zMv_tr zMv_tr (zFr_Rl (C := C) (r := r) (g := g) (r' := r')).1 (zFr_Rl (C := C) (r := r) (g := g) (r' := r')).2.1 rfl rfl) (zFr_Rl (C := C) (r := r) (g := g) (r' := r')) (fun _ _ => True.intro) (fun x hx => absurd hx List.not_mem_nil) (fun k h => by rw [show k = 999 from h]; decide) rfl rfl (by show _ ≤ 601024; omega) (by show _ ≤ 7293034; omega) ?_
    show zB m_L_law RLw (FLw b L xs) PLw 759 (zLL i (some (.inl 1)) none) [.inl v] (zLwld C r' g) _ _
    refine zr_storew dL_law_759 (by decide) rfl ?_
    refine zr_aload ⟨_, dL_law_761, rfl⟩ rfl ?_
    have c762 : zSpecF zTrv 1 zall 0 0 m_X12_thrown [.inr (.inl (some 0))] (ziT r' 0 TRf) (fun r1 w1 => r1 = some (.inl 1) ∧ w1 = ziT r' 0 TRf) := by
      have h0 := t_Rf_thrown (res := 1) (congrArg some f3)
      exact zSpecT.F h0
    refine zg_callW (r := some (.inl 1)) (v := 500) (zRunQ_of (zrun_VW (f := zsh 76) (rest := []) dL_law_762 ml_L_72 zLw_76 rfl (by decide) (by decide) rfl (Nat.le_of_ble_eq_true rfl)) c762 zMv_tr zMv_tr (zFr_Rl (C := C) (r := r') (g := g) (r' := r')).1 (zFr_Rl (C := C) (r := r') (g := g) (r' := r')).2.1 rfl rfl) (zFr_Rl (C := C) (r := r') (g := g) (r' := r')) (fun _ _ => True.intro) (fun x hx => absurd hx List.not_mem_nil) (fun k h => by rw [show k = 999 from h]; decide) rfl rfl (by show _ ≤ 601024; omega) (by show _ ≤ 7293034; omega) ?_
    show zB m_L_law RLw (FLw b L xs) PLw 765 (zLL i (some (.inl 1)) (some (.inl v))) [.inl 1] (zLwld C r' g) _ _
    refine zr_loadw dL_law_765 rfl ?_
    refine zr_ic_eq (tgt := 772) dL_law_767 (by decide) (fun _ => ?_) (fun w => absurd rfl w)
    refine zr_loadw dL_law_772 rfl ?_
    refine zr_if_ne (tgt := 789) dL_law_774 (by decide) (fun _ => ?_) (fun w => absurd (by decide : ¬ (1 : Int) = 0) w)
    refine zr_goto (tgt := 1159) dL_law_789 (by decide) ?_
    refine zr_mask [true, true, true, true, true, false, false] rfl ?_
    exact hK _ _ _ _ _ f4 (by omega) (by omega)
set_option maxRecDepth 100000 in
set_option maxHeartbeats 1000000 in
theorem lc_cellAnew {b L N N' B uc us : Nat} {xs : Nat → Int32} {i : Int} {C r : zSt} {g : Int → Int} (hi : 0 ≤ i ∧ i + 5 ≤ L) (hLm : L ≤ 2560) (hW : zWh B C r) (hB : B + 100 < 65536) (huc : uc + zpot 42 C ≤ N) (hus : us + zpot 42 C ≤ N') (hN : N + 1 ≤ 601024) (hN' : N' + 6 ≤ 7293034)
    (hK : ∀ (C' r' : zSt) (g' : Int → Int) (uc' us' : Nat), zWh (B + 100) C' r' → uc' + zpot 42 C' ≤ N + 1 → us' + zpot 42 C' ≤ N' + 6 → zB m_L_law RLw (FLw b L xs) PLw 1159 (zLL i none none) [] (zLwld C' r' g') uc' us') :
    zB m_L_law RLw (FLw b L xs) PLw 792 (zLL i none none) [] (zLwld C r g) uc us := by
  have e1 : w32 (i + 1) = i + 1 := w32i (by omega) (by omega)
  have hi1 : 0 ≤ w32 (i + 1) ∧ w32 (i + 1) < L := by rw [e1]; omega
  obtain ⟨a1, ha1⟩ : ∃ a, a = zxs xs (w32 (i + 1)) := ⟨_, rfl⟩
  have e2 : w32 (i + 2) = i + 2 := w32i (by omega) (by omega)
  have hi2 : 0 ≤ w32 (i + 2) ∧ w32 (i + 2) < L := by rw [e2]; omega
  obtain ⟨a2, ha2⟩ : ∃ a, a = zxs xs (w32 (i + 2)) := ⟨_, rfl⟩
  rcases M_cellAnew hW hB a1 a2 with ⟨v, C', r', f1, f2, f3, f4⟩ | ⟨v, r', f1, f2, f3, f4⟩
  · have hm : zpot 42 C' ≤ zpot 42 C := mo_cellAnew f1
    refine zr_aload ⟨_, dL_law_792, rfl⟩ rfl ?_
    refine zr_aload ⟨_, dL_law_793, rfl⟩ rfl ?_
    refine zr_loadw dL_law_794 rfl ?_
    refine zr_iconst dL_law_796 (by decide) ?_
    refine zr_iadd dL_law_797 ?_
    refine zr_sld dL_law_798 hi1 rfl ?_
    rw [← ha1]
    refine zr_aload ⟨_, dL_law_799, rfl⟩ rfl ?_
    refine zr_loadw dL_law_800 rfl ?_
    refine zr_iconst dL_law_802 (by decide) ?_
    refine zr_iadd dL_law_803 ?_
    refine zr_sld dL_law_804 hi2 rfl ?_
    rw [← ha2]
    refine zr_aload ⟨_, dL_law_805, rfl⟩ rfl ?_
    have c806 := la_cellAnew (g := g) f1
    refine zg_callW (r := some (.inl 0)) (v := 42) (zRunQ_H (rest := []) c806 dL_law_806 ls_cellAnew cw_cellAnew cl_cellAnew rfl (by decide) (by decide) (by decide) zMv_law zMv_lw (zFr_Ll (C := C) (r := r) (g := g) (C' := C') (g' := (zup g 0 v))).1 (zFr_Ll (C := C) (r := r) (g := g) (C' := C') (g' := (zup g 0 v))).2.1 rfl rfl) (zFr_Ll (C := C) (r := r) (g := g) (C' := C') (g' := (zup g 0 v))) (fun k h => h) (fun x hx => absurd hx List.not_mem_nil) (fun k h => by rw [show k = 999 from h]; decide) rfl rfl (by show _ ≤ 601024; omega) (by show _ ≤ 7293034; omega) ?_
    show zB m_L_law RLw (FLw b L xs) PLw 809 (zLL i none none) [.inl 0] (zLwld C' r (zup g 0 v)) _ _
    refine zr_storew dL_law_809 (by decide) rfl ?_
    refine zr_aload ⟨_, dL_law_811, rfl⟩ rfl ?_
    refine zr_aload ⟨_, dL_law_812, rfl⟩ rfl ?_
    refine zr_loadw dL_law_813 rfl ?_
    refine zr_iconst dL_law_815 (by decide) ?_
    refine zr_iadd dL_law_816 ?_
    refine zr_sld dL_law_817 hi1 rfl ?_
    rw [← ha1]
    refine zr_aload ⟨_, dL_law_818, rfl⟩ rfl ?_
    refine zr_loadw dL_law_819 rfl ?_
    refine zr_iconst dL_law_821 (by decide) ?_
    refine zr_iadd dL_law_822 ?_
    refine zr_sld dL_law_823 hi2 rfl ?_
    rw [← ha2]
    have c824 : zSpecF zTrv 4 zall 0 0 m_X12_cellAnew [.inr (.inl (some 0)), .inl a1, .inl a2] (ziT r 0 TRf) (fun r1 w1 => r1 = some (.inl v) ∧ w1 = ziT r' 0 TRf) := by
      have h0 := t_Rf_cellAnew f2
      exact zSpecT.F h0
    refine zg_callW (r := some (.inl v)) (v := 500) (zRunQ_of (zrun_VW (f := zsh 76) (rest := []) dL_law_824 ml_L_119 zLw_76 rfl (by decide) (by decide) rfl (Nat.le_of_ble_eq_true rfl)) c824 zMv_tr zMv_tr (zFr_Rl (C := C') (r := r) (g := (zup g 0 v)) (r' := r')).1 (zFr_Rl (C := C') (r := r) (g := (zup g 0 v)) (r' := r')).2.1 rfl rfl) (zFr_Rl (C := C') (r := r) (g := (zup g 0 v)) (r' := r')) (fun _ _ => True.intro) (fun x hx => absurd hx List.not_mem_nil) (fun k h => by rw [show k = 999 from h]; decide) rfl rfl (by show _ ≤ 601024; omega) (by show _ ≤ 7293034; omega) ?_
    show zB m_L_law RLw (FLw b L xs) PLw 827 (zLL i (some (.inl 0)) none) [.inl v] (zLwld C' r' (zup g 0 v)) _ _
    refine zr_storew dL_law_827 (by decide) rfl ?_
    refine zr_aload ⟨_, dL_law_829, rfl⟩ rfl ?_
    have c830 : zSpecF zTrv 1 zall 0 0 m_X12_thrown [.inr (.inl (some 0))] (ziT r' 0 TRf) (fun r1 w1 => r1 = some (.inl 0) ∧ w1 = ziT r' 0 TRf) := by
      have h0 := t_Rf_thrown (res := 0) (congrArg some f3)
      exact zSpecT.F h0
    refine zg_callW (r := some (.inl 0)) (v := 500) (zRunQ_of (zrun_VW (f := zsh 76) (rest := []) dL_law_830 ml_L_72 zLw_76 rfl (by decide) (by decide) rfl (Nat.le_of_ble_eq_true rfl)) c830 zMv_tr zMv_tr (zFr_Rl (C := C') (r := r') (g := (zup g 0 v)) (r' := r')).1 (zFr_Rl (C := C') (r := r') (g := (zup g 0 v)) (r' := r')).2.1 rfl rfl) (zFr_Rl (C := C') (r := r') (g := (zup g 0 v)) (r' := r')) (fun _ _ => True.intro) (fun x hx => absurd hx List.not_mem_nil) (fun k h => by rw [show k = 999 from h]; decide) rfl rfl (by show _ ≤ 601024; omega) (by show _ ≤ 7293034; omega) ?_
    show zB m_L_law RLw (FLw b L xs) PLw 833 (zLL i (some (.inl 0)) (some (.inl v))) [.inl 0] (zLwld C' r' (zup g 0 v)) _ _
    refine zr_loadw dL_law_833 rfl ?_
    refine zr_ic_eq (tgt := 840) dL_law_835 (by decide) (fun _ => ?_) (fun w => absurd rfl w)
    refine zr_loadw dL_law_840 rfl ?_
    refine zr_if_ne (tgt := 857) dL_law_842 (by decide) (fun w => absurd rfl w) (fun _ => ?_)
    refine zr_aload ⟨_, dL_law_845, rfl⟩ rfl ?_
    refine zr_iconst dL_law_846 (by decide) ?_
    refine zr_laload dL_law_847 zLw_92 ⟨by decide, by decide⟩ ?_
    rw [zup_same]
    refine zr_loadw dL_law_848 rfl ?_
    refine zr_i2l dL_law_850 ?_
    refine zr_lcmpS dL_law_851 ?_
    refine zr_if_eq (tgt := 857) dL_law_852 (by decide) (fun _ => ?_) (fun w => absurd rfl w)
    refine zr_goto (tgt := 1159) dL_law_857 (by decide) ?_
    refine zr_mask [true, true, true, true, true, false, false] rfl ?_
    exact hK _ _ _ _ _ f4 (by omega) (by omega)
  · refine zr_aload ⟨_, dL_law_792, rfl⟩ rfl ?_
    refine zr_aload ⟨_, dL_law_793, rfl⟩ rfl ?_
    refine zr_loadw dL_law_794 rfl ?_
    refine zr_iconst dL_law_796 (by decide) ?_
    refine zr_iadd dL_law_797 ?_
    refine zr_sld dL_law_798 hi1 rfl ?_
    rw [← ha1]
    refine zr_aload ⟨_, dL_law_799, rfl⟩ rfl ?_
    refine zr_loadw dL_law_800 rfl ?_
    refine zr_iconst dL_law_802 (by decide) ?_
    refine zr_iadd dL_law_803 ?_
    refine zr_sld dL_law_804 hi2 rfl ?_
    rw [← ha2]
    refine zr_aload ⟨_, dL_law_805, rfl⟩ rfl ?_
    have c806 := lx_cellAnew_3 (g := g) ((x_cellAnew a1 a2 C).trans f1)
    refine zg_callW (r := some (.inl 1)) (v := 42) (zRunQ_H (rest := []) c806 dL_law_806 ls_cellAnew cw_cellAnew cl_cellAnew rfl (by decide) (by decide) (by decide) zMv_law zMv_lw (zFr_Ll (C := C) (r := r) (g := g) (C' := C) (g' := g)).1 (zFr_Ll (C := C) (r := r) (g := g) (C' := C) (g' := g)).2.1 rfl rfl) (zFr_Ll (C := C) (r := r) (g := g) (C' := C) (g' := g)) (fun k h => h) (fun x hx => absurd hx List.not_mem_nil) (fun k h => by rw [show k = 999 from h]; decide) rfl rfl (by show _ ≤ 601024; omega) (by show _ ≤ 7293034; omega) ?_
    show zB m_L_law RLw (FLw b L xs) PLw 809 (zLL i none none) [.inl 1] (zLwld C r g) _ _
    refine zr_storew dL_law_809 (by decide) rfl ?_
    refine zr_aload ⟨_, dL_law_811, rfl⟩ rfl ?_
    refine zr_aload ⟨_, dL_law_812, rfl⟩ rfl ?_
    refine zr_loadw dL_law_813 rfl ?_
    refine zr_iconst dL_law_815 (by decide) ?_
    refine zr_iadd dL_law_816 ?_
    refine zr_sld dL_law_817 hi1 rfl ?_
    rw [← ha1]
    refine zr_aload ⟨_, dL_law_818, rfl⟩ rfl ?_
    refine zr_loadw dL_law_819 rfl ?_
    refine zr_iconst dL_law_821 (by decide) ?_
    refine zr_iadd dL_law_822 ?_
    refine zr_sld dL_law_823 hi2 rfl ?_
    rw [← ha2]
    have c824 : zSpecF zTrv 4 zall 0 0 m_X12_cellAnew [.inr (.inl (some 0)), .inl a1, .inl a2] (ziT r 0 TRf) (fun r1 w1 => r1 = some (.inl v) ∧ w1 = ziT r' 0 TRf) := by
      have h0 := t_Rf_cellAnew f2
      exact zSpecT.F h0
    refine zg_callW (r := some (.inl v)) (v := 500) (zRunQ_of (zrun_VW (f := zsh 76) (rest := []) dL_law_824 ml_L_119 zLw_76 rfl (by decide) (by decide) rfl (Nat.le_of_ble_eq_true rfl)) c824 zMv_tr zMv_tr (zFr_Rl (C := C) (r := r) (g := g) (r' := r')).1 (zFr_Rl (C := C) (r := r) (g := g) (r' := r')).2.1 rfl rfl) (zFr_Rl (C := C) (r := r) (g := g) (r' := r')) (fun _ _ => True.intro) (fun x hx => absurd hx List.not_mem_nil) (fun k h => by rw [show k = 999 from h]; decide) rfl rfl (by show _ ≤ 601024; omega) (by show _ ≤ 7293034; omega) ?_
    show zB m_L_law RLw (FLw b L xs) PLw 827 (zLL i (some (.inl 1)) none) [.inl v] (zLwld C r' g) _ _
    refine zr_storew dL_law_827 (by decide) rfl ?_
    refine zr_aload ⟨_, dL_law_829, rfl⟩ rfl ?_
    have c830 : zSpecF zTrv 1 zall 0 0 m_X12_thrown [.inr (.inl (some 0))] (ziT r' 0 TRf) (fun r1 w1 => r1 = some (.inl 1) ∧ w1 = ziT r' 0 TRf) := by
      have h0 := t_Rf_thrown (res := 1) (congrArg some f3)
      exact zSpecT.F h0
    refine zg_callW (r := some (.inl 1)) (v := 500) (zRunQ_of (zrun_VW (f := zsh 76) (rest := []) dL_law_830 ml_L_72 zLw_76 rfl (by decide) (by decide) rfl (Nat.le_of_ble_eq_true rfl)) c830 zMv_tr zMv_tr (zFr_Rl (C := C) (r := r') (g := g) (r' := r')).1 (zFr_Rl (C := C) (r := r') (g := g) (r' := r')).2.1 rfl rfl) (zFr_Rl (C := C) (r := r') (g := g) (r' := r')) (fun _ _ => True.intro) (fun x hx => absurd hx List.not_mem_nil) (fun k h => by rw [show k = 999 from h]; decide) rfl rfl (by show _ ≤ 601024; omega) (by show _ ≤ 7293034; omega) ?_
    show zB m_L_law RLw (FLw b L xs) PLw 833 (zLL i (some (.inl 1)) (some (.inl v))) [.inl 1] (zLwld C r' g) _ _
    refine zr_loadw dL_law_833 rfl ?_
    refine zr_ic_eq (tgt := 840) dL_law_835 (by decide) (fun _ => ?_) (fun w => absurd rfl w)
    refine zr_loadw dL_law_840 rfl ?_
    refine zr_if_ne (tgt := 857) dL_law_842 (by decide) (fun _ => ?_) (fun w => absurd (by decide : ¬ (1 : Int) = 0) w)
    refine zr_goto (tgt := 1159) dL_law_857 (by decide) ?_
    refine zr_mask [true, true, true, true, true, false, false] rfl ?_
    exact hK _ _ _ _ _ f4 (by omega) (by omega)
set_option maxRecDepth 100000 in
set_option maxHeartbeats 1000000 in
theorem lc_past {b L N N' B uc us : Nat} {xs : Nat → Int32} {i : Int} {C r : zSt} {g : Int → Int} (hi : 0 ≤ i ∧ i + 5 ≤ L) (hLm : L ≤ 2560) (hW : zWh B C r) (hB : B + 100 < 65536) (huc : uc + zpot 42 C ≤ N) (hus : us + zpot 42 C ≤ N') (hN : N + 1 ≤ 601024) (hN' : N' + 6 ≤ 7293034)
    (hK : ∀ (C' r' : zSt) (g' : Int → Int) (uc' us' : Nat), zWh (B + 100) C' r' → uc' + zpot 42 C' ≤ N + 1 → us' + zpot 42 C' ≤ N' + 6 → zB m_L_law RLw (FLw b L xs) PLw 1159 (zLL i none none) [] (zLwld C' r' g') uc' us') :
    zB m_L_law RLw (FLw b L xs) PLw 860 (zLL i none none) [] (zLwld C r g) uc us := by
  have e1 : w32 (i + 1) = i + 1 := w32i (by omega) (by omega)
  have hi1 : 0 ≤ w32 (i + 1) ∧ w32 (i + 1) < L := by rw [e1]; omega
  obtain ⟨a1, ha1⟩ : ∃ a, a = zxs xs (w32 (i + 1)) := ⟨_, rfl⟩
  have e2 : w32 (i + 2) = i + 2 := w32i (by omega) (by omega)
  have hi2 : 0 ≤ w32 (i + 2) ∧ w32 (i + 2) < L := by rw [e2]; omega
  obtain ⟨a2, ha2⟩ : ∃ a, a = zxs xs (w32 (i + 2)) := ⟨_, rfl⟩
  rcases M_past hW a1 a2 with ⟨v, r', f1, f2, f3, f4⟩ | ⟨v, r', f1, f2, f3, f4⟩
  · refine zr_aload ⟨_, dL_law_860, rfl⟩ rfl ?_
    refine zr_aload ⟨_, dL_law_861, rfl⟩ rfl ?_
    refine zr_loadw dL_law_862 rfl ?_
    refine zr_iconst dL_law_864 (by decide) ?_
    refine zr_iadd dL_law_865 ?_
    refine zr_sld dL_law_866 hi1 rfl ?_
    rw [← ha1]
    refine zr_aload ⟨_, dL_law_867, rfl⟩ rfl ?_
    refine zr_loadw dL_law_868 rfl ?_
    refine zr_iconst dL_law_870 (by decide) ?_
    refine zr_iadd dL_law_871 ?_
    refine zr_sld dL_law_872 hi2 rfl ?_
    rw [← ha2]
    refine zr_aload ⟨_, dL_law_873, rfl⟩ rfl ?_
    have c874 := la_past (g := g) f1
    refine zg_callW (r := some (.inl 0)) (v := 42) (zRunQ_H (rest := []) c874 dL_law_874 ls_past cw_past cl_past rfl (by decide) (by decide) (by decide) zMv_law zMv_lw (zFr_Ll (C := C) (r := r) (g := g) (C' := C) (g' := (zup g 0 v))).1 (zFr_Ll (C := C) (r := r) (g := g) (C' := C) (g' := (zup g 0 v))).2.1 rfl rfl) (zFr_Ll (C := C) (r := r) (g := g) (C' := C) (g' := (zup g 0 v))) (fun k h => h) (fun x hx => absurd hx List.not_mem_nil) (fun k h => by rw [show k = 999 from h]; decide) rfl rfl (by show _ ≤ 601024; omega) (by show _ ≤ 7293034; omega) ?_
    show zB m_L_law RLw (FLw b L xs) PLw 877 (zLL i none none) [.inl 0] (zLwld C r (zup g 0 v)) _ _
    refine zr_storew dL_law_877 (by decide) rfl ?_
    refine zr_aload ⟨_, dL_law_879, rfl⟩ rfl ?_
    refine zr_aload ⟨_, dL_law_880, rfl⟩ rfl ?_
    refine zr_loadw dL_law_881 rfl ?_
    refine zr_iconst dL_law_883 (by decide) ?_
    refine zr_iadd dL_law_884 ?_
    refine zr_sld dL_law_885 hi1 rfl ?_
    rw [← ha1]
    refine zr_aload ⟨_, dL_law_886, rfl⟩ rfl ?_
    refine zr_loadw dL_law_887 rfl ?_
    refine zr_iconst dL_law_889 (by decide) ?_
    refine zr_iadd dL_law_890 ?_
    refine zr_sld dL_law_891 hi2 rfl ?_
    rw [← ha2]
    have c892 : zSpecF zTrv 2 zall 0 0 m_X12_past [.inr (.inl (some 0)), .inl a1, .inl a2] (ziT r 0 TRf) (fun r1 w1 => r1 = some (.inl v) ∧ w1 = ziT r' 0 TRf) := by
      have h0 := t_Rf_past f2
      exact zSpecT.F h0
    refine zg_callW (r := some (.inl v)) (v := 500) (zRunQ_of (zrun_VW (f := zsh 76) (rest := []) dL_law_892 ml_L_122 zLw_76 rfl (by decide) (by decide) rfl (Nat.le_of_ble_eq_true rfl)) c892 zMv_tr zMv_tr (zFr_Rl (C := C) (r := r) (g := (zup g 0 v)) (r' := r')).1 (zFr_Rl (C := C) (r := r) (g := (zup g 0 v)) (r' := r')).2.1 rfl rfl) (zFr_Rl (C := C) (r := r) (g := (zup g 0 v)) (r' := r')) (fun _ _ => True.intro) (fun x hx => absurd hx List.not_mem_nil) (fun k h => by rw [show k = 999 from h]; decide) rfl rfl (by show _ ≤ 601024; omega) (by show _ ≤ 7293034; omega) ?_
    show zB m_L_law RLw (FLw b L xs) PLw 895 (zLL i (some (.inl 0)) none) [.inl v] (zLwld C r' (zup g 0 v)) _ _
    refine zr_storew dL_law_895 (by decide) rfl ?_
    refine zr_aload ⟨_, dL_law_897, rfl⟩ rfl ?_
    have c898 : zSpecF zTrv 1 zall 0 0 m_X12_thrown [.inr (.inl (some 0))] (ziT r' 0 TRf) (fun r1 w1 => r1 = some (.inl 0) ∧ w1 = ziT r' 0 TRf) := by
      have h0 := t_Rf_thrown (res := 0) (congrArg some f3)
      exact zSpecT.F h0
    refine zg_callW (r := some (.inl 0)) (v := 500) (zRunQ_of (zrun_VW (f := zsh 76) (rest := []) dL_law_898 ml_L_72 zLw_76 rfl (by decide) (by decide) rfl (Nat.le_of_ble_eq_true rfl)) c898 zMv_tr zMv_tr (zFr_Rl (C := C) (r := r') (g := (zup g 0 v)) (r' := r')).1 (zFr_Rl (C := C) (r := r') (g := (zup g 0 v)) (r' := r')).2.1 rfl rfl) (zFr_Rl (C := C) (r := r') (g := (zup g 0 v)) (r' := r')) (fun _ _ => True.intro) (fun x hx => absurd hx List.not_mem_nil) (fun k h => by rw [show k = 999 from h]; decide) rfl rfl (by show _ ≤ 601024; omega) (by show _ ≤ 7293034; omega) ?_
    show zB m_L_law RLw (FLw b L xs) PLw 901 (zLL i (some (.inl 0)) (some (.inl v))) [.inl 0] (zLwld C r' (zup g 0 v)) _ _
    refine zr_loadw dL_law_901 rfl ?_
    refine zr_ic_eq (tgt := 908) dL_law_903 (by decide) (fun _ => ?_) (fun w => absurd rfl w)
    refine zr_loadw dL_law_908 rfl ?_
    refine zr_if_ne (tgt := 925) dL_law_910 (by decide) (fun w => absurd rfl w) (fun _ => ?_)
    refine zr_aload ⟨_, dL_law_913, rfl⟩ rfl ?_
    refine zr_iconst dL_law_914 (by decide) ?_
    refine zr_laload dL_law_915 zLw_92 ⟨by decide, by decide⟩ ?_
    rw [zup_same]
    refine zr_loadw dL_law_916 rfl ?_
    refine zr_i2l dL_law_918 ?_
    refine zr_lcmpS dL_law_919 ?_
    refine zr_if_eq (tgt := 925) dL_law_920 (by decide) (fun _ => ?_) (fun w => absurd rfl w)
    refine zr_goto (tgt := 1159) dL_law_925 (by decide) ?_
    refine zr_mask [true, true, true, true, true, false, false] rfl ?_
    exact hK _ _ _ _ _ f4 (by omega) (by omega)
  · refine zr_aload ⟨_, dL_law_860, rfl⟩ rfl ?_
    refine zr_aload ⟨_, dL_law_861, rfl⟩ rfl ?_
    refine zr_loadw dL_law_862 rfl ?_
    refine zr_iconst dL_law_864 (by decide) ?_
    refine zr_iadd dL_law_865 ?_
    refine zr_sld dL_law_866 hi1 rfl ?_
    rw [← ha1]
    refine zr_aload ⟨_, dL_law_867, rfl⟩ rfl ?_
    refine zr_loadw dL_law_868 rfl ?_
    refine zr_iconst dL_law_870 (by decide) ?_
    refine zr_iadd dL_law_871 ?_
    refine zr_sld dL_law_872 hi2 rfl ?_
    rw [← ha2]
    refine zr_aload ⟨_, dL_law_873, rfl⟩ rfl ?_
    have c874 := lx_past_3 (g := g) ((x_past a1 a2 C).trans f1)
    refine zg_callW (r := some (.inl 1)) (v := 42) (zRunQ_H (rest := []) c874 dL_law_874 ls_past cw_past cl_past rfl (by decide) (by decide) (by decide) zMv_law zMv_lw (zFr_Ll (C := C) (r := r) (g := g) (C' := C) (g' := g)).1 (zFr_Ll (C := C) (r := r) (g := g) (C' := C) (g' := g)).2.1 rfl rfl) (zFr_Ll (C := C) (r := r) (g := g) (C' := C) (g' := g)) (fun k h => h) (fun x hx => absurd hx List.not_mem_nil) (fun k h => by rw [show k = 999 from h]; decide) rfl rfl (by show _ ≤ 601024; omega) (by show _ ≤ 7293034; omega) ?_
    show zB m_L_law RLw (FLw b L xs) PLw 877 (zLL i none none) [.inl 1] (zLwld C r g) _ _
    refine zr_storew dL_law_877 (by decide) rfl ?_
    refine zr_aload ⟨_, dL_law_879, rfl⟩ rfl ?_
    refine zr_aload ⟨_, dL_law_880, rfl⟩ rfl ?_
    refine zr_loadw dL_law_881 rfl ?_
    refine zr_iconst dL_law_883 (by decide) ?_
    refine zr_iadd dL_law_884 ?_
    refine zr_sld dL_law_885 hi1 rfl ?_
    rw [← ha1]
    refine zr_aload ⟨_, dL_law_886, rfl⟩ rfl ?_
    refine zr_loadw dL_law_887 rfl ?_
    refine zr_iconst dL_law_889 (by decide) ?_
    refine zr_iadd dL_law_890 ?_
    refine zr_sld dL_law_891 hi2 rfl ?_
    rw [← ha2]
    have c892 : zSpecF zTrv 2 zall 0 0 m_X12_past [.inr (.inl (some 0)), .inl a1, .inl a2] (ziT r 0 TRf) (fun r1 w1 => r1 = some (.inl v) ∧ w1 = ziT r' 0 TRf) := by
      have h0 := t_Rf_past f2
      exact zSpecT.F h0
    refine zg_callW (r := some (.inl v)) (v := 500) (zRunQ_of (zrun_VW (f := zsh 76) (rest := []) dL_law_892 ml_L_122 zLw_76 rfl (by decide) (by decide) rfl (Nat.le_of_ble_eq_true rfl)) c892 zMv_tr zMv_tr (zFr_Rl (C := C) (r := r) (g := g) (r' := r')).1 (zFr_Rl (C := C) (r := r) (g := g) (r' := r')).2.1 rfl rfl) (zFr_Rl (C := C) (r := r) (g := g) (r' := r')) (fun _ _ => True.intro) (fun x hx => absurd hx List.not_mem_nil) (fun k h => by rw [show k = 999 from h]; decide) rfl rfl (by show _ ≤ 601024; omega) (by show _ ≤ 7293034; omega) ?_
    show zB m_L_law RLw (FLw b L xs) PLw 895 (zLL i (some (.inl 1)) none) [.inl v] (zLwld C r' g) _ _
    refine zr_storew dL_law_895 (by decide) rfl ?_
    refine zr_aload ⟨_, dL_law_897, rfl⟩ rfl ?_
    have c898 : zSpecF zTrv 1 zall 0 0 m_X12_thrown [.inr (.inl (some 0))] (ziT r' 0 TRf) (fun r1 w1 => r1 = some (.inl 1) ∧ w1 = ziT r' 0 TRf) := by
      have h0 := t_Rf_thrown (res := 1) (congrArg some f3)
      exact zSpecT.F h0
    refine zg_callW (r := some (.inl 1)) (v := 500) (zRunQ_of (zrun_VW (f := zsh 76) (rest := []) dL_law_898 ml_L_72 zLw_76 rfl (by decide) (by decide) rfl (Nat.le_of_ble_eq_true rfl)) c898 zMv_tr zMv_tr (zFr_Rl (C := C) (r := r') (g := g) (r' := r')).1 (zFr_Rl (C := C) (r := r') (g := g) (r' := r')).2.1 rfl rfl) (zFr_Rl (C := C) (r := r') (g := g) (r' := r')) (fun _ _ => True.intro) (fun x hx => absurd hx List.not_mem_nil) (fun k h => by rw [show k = 999 from h]; decide) rfl rfl (by show _ ≤ 601024; omega) (by show _ ≤ 7293034; omega) ?_
    show zB m_L_law RLw (FLw b L xs) PLw 901 (zLL i (some (.inl 1)) (some (.inl v))) [.inl 1] (zLwld C r' g) _ _
    refine zr_loadw dL_law_901 rfl ?_
    refine zr_ic_eq (tgt := 908) dL_law_903 (by decide) (fun _ => ?_) (fun w => absurd rfl w)
    refine zr_loadw dL_law_908 rfl ?_
    refine zr_if_ne (tgt := 925) dL_law_910 (by decide) (fun _ => ?_) (fun w => absurd (by decide : ¬ (1 : Int) = 0) w)
    refine zr_goto (tgt := 1159) dL_law_925 (by decide) ?_
    refine zr_mask [true, true, true, true, true, false, false] rfl ?_
    exact hK _ _ _ _ _ f4 (by omega) (by omega)
set_option maxRecDepth 100000 in
set_option maxHeartbeats 1000000 in
theorem lc_goesOn {b L N N' B uc us : Nat} {xs : Nat → Int32} {i : Int} {C r : zSt} {g : Int → Int} (hi : 0 ≤ i ∧ i + 5 ≤ L) (hLm : L ≤ 2560) (hW : zWh B C r) (hB : B + 100 < 65536) (huc : uc + zpot 42 C ≤ N) (hus : us + zpot 42 C ≤ N') (hN : N + 1 ≤ 601024) (hN' : N' + 6 ≤ 7293034)
    (hK : ∀ (C' r' : zSt) (g' : Int → Int) (uc' us' : Nat), zWh (B + 100) C' r' → uc' + zpot 42 C' ≤ N + 1 → us' + zpot 42 C' ≤ N' + 6 → zB m_L_law RLw (FLw b L xs) PLw 1159 (zLL i none none) [] (zLwld C' r' g') uc' us') :
    zB m_L_law RLw (FLw b L xs) PLw 928 (zLL i none none) [] (zLwld C r g) uc us := by
  have e1 : w32 (i + 1) = i + 1 := w32i (by omega) (by omega)
  have hi1 : 0 ≤ w32 (i + 1) ∧ w32 (i + 1) < L := by rw [e1]; omega
  obtain ⟨a1, ha1⟩ : ∃ a, a = zxs xs (w32 (i + 1)) := ⟨_, rfl⟩
  rcases M_goesOn hW a1 with ⟨v, r', f1, f2, f3, f4⟩ | ⟨v, r', f1, f2, f3, f4⟩
  · refine zr_aload ⟨_, dL_law_928, rfl⟩ rfl ?_
    refine zr_aload ⟨_, dL_law_929, rfl⟩ rfl ?_
    refine zr_loadw dL_law_930 rfl ?_
    refine zr_iconst dL_law_932 (by decide) ?_
    refine zr_iadd dL_law_933 ?_
    refine zr_sld dL_law_934 hi1 rfl ?_
    rw [← ha1]
    refine zr_aload ⟨_, dL_law_935, rfl⟩ rfl ?_
    have c936 := la_goesOn (g := g) f1
    refine zg_callW (r := some (.inl 0)) (v := 42) (zRunQ_H (rest := []) c936 dL_law_936 ls_goesOn cw_goesOn cl_goesOn rfl (by decide) (by decide) (by decide) zMv_law zMv_lw (zFr_Ll (C := C) (r := r) (g := g) (C' := C) (g' := (zup g 0 (if v = 0 then 0 else 1)))).1 (zFr_Ll (C := C) (r := r) (g := g) (C' := C) (g' := (zup g 0 (if v = 0 then 0 else 1)))).2.1 rfl rfl) (zFr_Ll (C := C) (r := r) (g := g) (C' := C) (g' := (zup g 0 (if v = 0 then 0 else 1)))) (fun k h => h) (fun x hx => absurd hx List.not_mem_nil) (fun k h => by rw [show k = 999 from h]; decide) rfl rfl (by show _ ≤ 601024; omega) (by show _ ≤ 7293034; omega) ?_
    show zB m_L_law RLw (FLw b L xs) PLw 939 (zLL i none none) [.inl 0] (zLwld C r (zup g 0 (if v = 0 then 0 else 1))) _ _
    refine zr_storew dL_law_939 (by decide) rfl ?_
    refine zr_aload ⟨_, dL_law_941, rfl⟩ rfl ?_
    refine zr_aload ⟨_, dL_law_942, rfl⟩ rfl ?_
    refine zr_loadw dL_law_943 rfl ?_
    refine zr_iconst dL_law_945 (by decide) ?_
    refine zr_iadd dL_law_946 ?_
    refine zr_sld dL_law_947 hi1 rfl ?_
    rw [← ha1]
    have c948 : zSpecF zTrv 2 zall 0 0 m_X12_goesOn [.inr (.inl (some 0)), .inl a1] (ziT r 0 TRf) (fun r1 w1 => r1 = some (.inl v) ∧ w1 = ziT r' 0 TRf) := by
      have h0 := t_Rf_goesOn f2
      exact zSpecT.F h0
    refine zg_callW (r := some (.inl v)) (v := 500) (zRunQ_of (zrun_VW (f := zsh 76) (rest := []) dL_law_948 ml_L_125 zLw_76 rfl (by decide) (by decide) rfl (Nat.le_of_ble_eq_true rfl)) c948 zMv_tr zMv_tr (zFr_Rl (C := C) (r := r) (g := (zup g 0 (if v = 0 then 0 else 1))) (r' := r')).1 (zFr_Rl (C := C) (r := r) (g := (zup g 0 (if v = 0 then 0 else 1))) (r' := r')).2.1 rfl rfl) (zFr_Rl (C := C) (r := r) (g := (zup g 0 (if v = 0 then 0 else 1))) (r' := r')) (fun _ _ => True.intro) (fun x hx => absurd hx List.not_mem_nil) (fun k h => by rw [show k = 999 from h]; decide) rfl rfl (by show _ ≤ 601024; omega) (by show _ ≤ 7293034; omega) ?_
    show zB m_L_law RLw (FLw b L xs) PLw 951 (zLL i (some (.inl 0)) none) [.inl v] (zLwld C r' (zup g 0 (if v = 0 then 0 else 1))) _ _
    refine zr_storew dL_law_951 (by decide) rfl ?_
    refine zr_aload ⟨_, dL_law_953, rfl⟩ rfl ?_
    have c954 : zSpecF zTrv 1 zall 0 0 m_X12_thrown [.inr (.inl (some 0))] (ziT r' 0 TRf) (fun r1 w1 => r1 = some (.inl 0) ∧ w1 = ziT r' 0 TRf) := by
      have h0 := t_Rf_thrown (res := 0) (congrArg some f3)
      exact zSpecT.F h0
    refine zg_callW (r := some (.inl 0)) (v := 500) (zRunQ_of (zrun_VW (f := zsh 76) (rest := []) dL_law_954 ml_L_72 zLw_76 rfl (by decide) (by decide) rfl (Nat.le_of_ble_eq_true rfl)) c954 zMv_tr zMv_tr (zFr_Rl (C := C) (r := r') (g := (zup g 0 (if v = 0 then 0 else 1))) (r' := r')).1 (zFr_Rl (C := C) (r := r') (g := (zup g 0 (if v = 0 then 0 else 1))) (r' := r')).2.1 rfl rfl) (zFr_Rl (C := C) (r := r') (g := (zup g 0 (if v = 0 then 0 else 1))) (r' := r')) (fun _ _ => True.intro) (fun x hx => absurd hx List.not_mem_nil) (fun k h => by rw [show k = 999 from h]; decide) rfl rfl (by show _ ≤ 601024; omega) (by show _ ≤ 7293034; omega) ?_
    show zB m_L_law RLw (FLw b L xs) PLw 957 (zLL i (some (.inl 0)) (some (.inl v))) [.inl 0] (zLwld C r' (zup g 0 (if v = 0 then 0 else 1))) _ _
    refine zr_loadw dL_law_957 rfl ?_
    refine zr_ic_eq (tgt := 964) dL_law_959 (by decide) (fun _ => ?_) (fun w => absurd rfl w)
    refine zr_loadw dL_law_964 rfl ?_
    refine zr_if_ne (tgt := 988) dL_law_966 (by decide) (fun w => absurd rfl w) (fun _ => ?_)
    refine zr_aload ⟨_, dL_law_969, rfl⟩ rfl ?_
    refine zr_iconst dL_law_970 (by decide) ?_
    refine zr_laload dL_law_971 zLw_92 ⟨by decide, by decide⟩ ?_
    rw [zup_same]
    refine zr_loadw dL_law_972 rfl ?_
    refine zr_if_eq (tgt := 981) dL_law_974 (by decide) (fun hv => ?_) (fun hv => ?_)
    · rw [if_pos hv]
      refine zr_lconst (x := 0) dL_law_981 rfl (by decide) ?_
      refine zr_lcmpS dL_law_982 ?_
      refine zr_if_eq (tgt := 988) dL_law_983 (by decide) (fun _ => ?_) (fun w => absurd rfl w)
      refine zr_goto (tgt := 1159) dL_law_988 (by decide) ?_
      refine zr_mask [true, true, true, true, true, false, false] rfl ?_
      exact hK _ _ _ _ _ f4 (by omega) (by omega)
    · rw [if_neg hv]
      refine zr_lconst (x := 1) dL_law_977 rfl (by decide) ?_
      refine zr_goto (tgt := 982) dL_law_978 (by decide) ?_
      refine zr_lcmpS dL_law_982 ?_
      refine zr_if_eq (tgt := 988) dL_law_983 (by decide) (fun _ => ?_) (fun w => absurd rfl w)
      refine zr_goto (tgt := 1159) dL_law_988 (by decide) ?_
      refine zr_mask [true, true, true, true, true, false, false] rfl ?_
      exact hK _ _ _ _ _ f4 (by omega) (by omega)
  · refine zr_aload ⟨_, dL_law_928, rfl⟩ rfl ?_
    refine zr_aload ⟨_, dL_law_929, rfl⟩ rfl ?_
    refine zr_loadw dL_law_930 rfl ?_
    refine zr_iconst dL_law_932 (by decide) ?_
    refine zr_iadd dL_law_933 ?_
    refine zr_sld dL_law_934 hi1 rfl ?_
    rw [← ha1]
    refine zr_aload ⟨_, dL_law_935, rfl⟩ rfl ?_
    have c936 := lx_goesOn_3 (g := g) ((x_goesOn a1 C).trans f1)
    refine zg_callW (r := some (.inl 1)) (v := 42) (zRunQ_H (rest := []) c936 dL_law_936 ls_goesOn cw_goesOn cl_goesOn rfl (by decide) (by decide) (by decide) zMv_law zMv_lw (zFr_Ll (C := C) (r := r) (g := g) (C' := C) (g' := g)).1 (zFr_Ll (C := C) (r := r) (g := g) (C' := C) (g' := g)).2.1 rfl rfl) (zFr_Ll (C := C) (r := r) (g := g) (C' := C) (g' := g)) (fun k h => h) (fun x hx => absurd hx List.not_mem_nil) (fun k h => by rw [show k = 999 from h]; decide) rfl rfl (by show _ ≤ 601024; omega) (by show _ ≤ 7293034; omega) ?_
    show zB m_L_law RLw (FLw b L xs) PLw 939 (zLL i none none) [.inl 1] (zLwld C r g) _ _
    refine zr_storew dL_law_939 (by decide) rfl ?_
    refine zr_aload ⟨_, dL_law_941, rfl⟩ rfl ?_
    refine zr_aload ⟨_, dL_law_942, rfl⟩ rfl ?_
    refine zr_loadw dL_law_943 rfl ?_
    refine zr_iconst dL_law_945 (by decide) ?_
    refine zr_iadd dL_law_946 ?_
    refine zr_sld dL_law_947 hi1 rfl ?_
    rw [← ha1]
    have c948 : zSpecF zTrv 2 zall 0 0 m_X12_goesOn [.inr (.inl (some 0)), .inl a1] (ziT r 0 TRf) (fun r1 w1 => r1 = some (.inl v) ∧ w1 = ziT r' 0 TRf) := by
      have h0 := t_Rf_goesOn f2
      exact zSpecT.F h0
    refine zg_callW (r := some (.inl v)) (v := 500) (zRunQ_of (zrun_VW (f := zsh 76) (rest := []) dL_law_948 ml_L_125 zLw_76 rfl (by decide) (by decide) rfl (Nat.le_of_ble_eq_true rfl)) c948 zMv_tr zMv_tr (zFr_Rl (C := C) (r := r) (g := g) (r' := r')).1 (zFr_Rl (C := C) (r := r) (g := g) (r' := r')).2.1 rfl rfl) (zFr_Rl (C := C) (r := r) (g := g) (r' := r')) (fun _ _ => True.intro) (fun x hx => absurd hx List.not_mem_nil) (fun k h => by rw [show k = 999 from h]; decide) rfl rfl (by show _ ≤ 601024; omega) (by show _ ≤ 7293034; omega) ?_
    show zB m_L_law RLw (FLw b L xs) PLw 951 (zLL i (some (.inl 1)) none) [.inl v] (zLwld C r' g) _ _
    refine zr_storew dL_law_951 (by decide) rfl ?_
    refine zr_aload ⟨_, dL_law_953, rfl⟩ rfl ?_
    have c954 : zSpecF zTrv 1 zall 0 0 m_X12_thrown [.inr (.inl (some 0))] (ziT r' 0 TRf) (fun r1 w1 => r1 = some (.inl 1) ∧ w1 = ziT r' 0 TRf) := by
      have h0 := t_Rf_thrown (res := 1) (congrArg some f3)
      exact zSpecT.F h0
    refine zg_callW (r := some (.inl 1)) (v := 500) (zRunQ_of (zrun_VW (f := zsh 76) (rest := []) dL_law_954 ml_L_72 zLw_76 rfl (by decide) (by decide) rfl (Nat.le_of_ble_eq_true rfl)) c954 zMv_tr zMv_tr (zFr_Rl (C := C) (r := r') (g := g) (r' := r')).1 (zFr_Rl (C := C) (r := r') (g := g) (r' := r')).2.1 rfl rfl) (zFr_Rl (C := C) (r := r') (g := g) (r' := r')) (fun _ _ => True.intro) (fun x hx => absurd hx List.not_mem_nil) (fun k h => by rw [show k = 999 from h]; decide) rfl rfl (by show _ ≤ 601024; omega) (by show _ ≤ 7293034; omega) ?_
    show zB m_L_law RLw (FLw b L xs) PLw 957 (zLL i (some (.inl 1)) (some (.inl v))) [.inl 1] (zLwld C r' g) _ _
    refine zr_loadw dL_law_957 rfl ?_
    refine zr_ic_eq (tgt := 964) dL_law_959 (by decide) (fun _ => ?_) (fun w => absurd rfl w)
    refine zr_loadw dL_law_964 rfl ?_
    refine zr_if_ne (tgt := 988) dL_law_966 (by decide) (fun _ => ?_) (fun w => absurd (by decide : ¬ (1 : Int) = 0) w)
    refine zr_goto (tgt := 1159) dL_law_988 (by decide) ?_
    refine zr_mask [true, true, true, true, true, false, false] rfl ?_
    exact hK _ _ _ _ _ f4 (by omega) (by omega)
set_option maxRecDepth 100000 in
set_option maxHeartbeats 1000000 in
theorem lc_title {b L N N' B uc us : Nat} {xs : Nat → Int32} {i : Int} {C r : zSt} {g : Int → Int} (hi : 0 ≤ i ∧ i + 5 ≤ L) (hLm : L ≤ 2560) (hW : zWh B C r) (hB : B + 100 < 65536) (huc : uc + zpot 42 C ≤ N) (hus : us + zpot 42 C ≤ N') (hN : N + 1 ≤ 601024) (hN' : N' + 6 ≤ 7293034)
    (hK : ∀ (C' r' : zSt) (g' : Int → Int) (uc' us' : Nat), zWh (B + 100) C' r' → uc' + zpot 42 C' ≤ N + 1 → us' + zpot 42 C' ≤ N' + 6 → zB m_L_law RLw (FLw b L xs) PLw 1159 (zLL i none none) [] (zLwld C' r' g') uc' us') :
    zB m_L_law RLw (FLw b L xs) PLw 991 (zLL i none none) [] (zLwld C r g) uc us := by
  have e1 : w32 (i + 1) = i + 1 := w32i (by omega) (by omega)
  have hi1 : 0 ≤ w32 (i + 1) ∧ w32 (i + 1) < L := by rw [e1]; omega
  obtain ⟨a1, ha1⟩ : ∃ a, a = zxs xs (w32 (i + 1)) := ⟨_, rfl⟩
  rcases M_title hW a1 with ⟨v, r', f1, f2, f3, f4⟩ | ⟨v, r', f1, f2, f3, f4⟩
  · refine zr_aload ⟨_, dL_law_991, rfl⟩ rfl ?_
    refine zr_aload ⟨_, dL_law_992, rfl⟩ rfl ?_
    refine zr_loadw dL_law_993 rfl ?_
    refine zr_iconst dL_law_995 (by decide) ?_
    refine zr_iadd dL_law_996 ?_
    refine zr_sld dL_law_997 hi1 rfl ?_
    rw [← ha1]
    refine zr_aload ⟨_, dL_law_998, rfl⟩ rfl ?_
    have c999 := la_title (g := g) f1
    refine zg_callW (r := some (.inl 0)) (v := 42) (zRunQ_H (rest := []) c999 dL_law_999 ls_title cw_title cl_title rfl (by decide) (by decide) (by decide) zMv_law zMv_lw (zFr_Ll (C := C) (r := r) (g := g) (C' := C) (g' := (zup g 0 v))).1 (zFr_Ll (C := C) (r := r) (g := g) (C' := C) (g' := (zup g 0 v))).2.1 rfl rfl) (zFr_Ll (C := C) (r := r) (g := g) (C' := C) (g' := (zup g 0 v))) (fun k h => h) (fun x hx => absurd hx List.not_mem_nil) (fun k h => by rw [show k = 999 from h]; decide) rfl rfl (by show _ ≤ 601024; omega) (by show _ ≤ 7293034; omega) ?_
    show zB m_L_law RLw (FLw b L xs) PLw 1002 (zLL i none none) [.inl 0] (zLwld C r (zup g 0 v)) _ _
    refine zr_storew dL_law_1002 (by decide) rfl ?_
    refine zr_aload ⟨_, dL_law_1004, rfl⟩ rfl ?_
    refine zr_aload ⟨_, dL_law_1005, rfl⟩ rfl ?_
    refine zr_loadw dL_law_1006 rfl ?_
    refine zr_iconst dL_law_1008 (by decide) ?_
    refine zr_iadd dL_law_1009 ?_
    refine zr_sld dL_law_1010 hi1 rfl ?_
    rw [← ha1]
    have c1011 : zSpecF zTrv 2 zall 0 0 m_X12_title [.inr (.inl (some 0)), .inl a1] (ziT r 0 TRf) (fun r1 w1 => r1 = some (.inl v) ∧ w1 = ziT r' 0 TRf) := by
      have h0 := t_Rf_title f2
      exact zSpecT.F h0
    refine zg_callW (r := some (.inl v)) (v := 500) (zRunQ_of (zrun_VW (f := zsh 76) (rest := []) dL_law_1011 ml_L_128 zLw_76 rfl (by decide) (by decide) rfl (Nat.le_of_ble_eq_true rfl)) c1011 zMv_tr zMv_tr (zFr_Rl (C := C) (r := r) (g := (zup g 0 v)) (r' := r')).1 (zFr_Rl (C := C) (r := r) (g := (zup g 0 v)) (r' := r')).2.1 rfl rfl) (zFr_Rl (C := C) (r := r) (g := (zup g 0 v)) (r' := r')) (fun _ _ => True.intro) (fun x hx => absurd hx List.not_mem_nil) (fun k h => by rw [show k = 999 from h]; decide) rfl rfl (by show _ ≤ 601024; omega) (by show _ ≤ 7293034; omega) ?_
    show zB m_L_law RLw (FLw b L xs) PLw 1014 (zLL i (some (.inl 0)) none) [.inl v] (zLwld C r' (zup g 0 v)) _ _
    refine zr_storew dL_law_1014 (by decide) rfl ?_
    refine zr_aload ⟨_, dL_law_1016, rfl⟩ rfl ?_
    have c1017 : zSpecF zTrv 1 zall 0 0 m_X12_thrown [.inr (.inl (some 0))] (ziT r' 0 TRf) (fun r1 w1 => r1 = some (.inl 0) ∧ w1 = ziT r' 0 TRf) := by
      have h0 := t_Rf_thrown (res := 0) (congrArg some f3)
      exact zSpecT.F h0
    refine zg_callW (r := some (.inl 0)) (v := 500) (zRunQ_of (zrun_VW (f := zsh 76) (rest := []) dL_law_1017 ml_L_72 zLw_76 rfl (by decide) (by decide) rfl (Nat.le_of_ble_eq_true rfl)) c1017 zMv_tr zMv_tr (zFr_Rl (C := C) (r := r') (g := (zup g 0 v)) (r' := r')).1 (zFr_Rl (C := C) (r := r') (g := (zup g 0 v)) (r' := r')).2.1 rfl rfl) (zFr_Rl (C := C) (r := r') (g := (zup g 0 v)) (r' := r')) (fun _ _ => True.intro) (fun x hx => absurd hx List.not_mem_nil) (fun k h => by rw [show k = 999 from h]; decide) rfl rfl (by show _ ≤ 601024; omega) (by show _ ≤ 7293034; omega) ?_
    show zB m_L_law RLw (FLw b L xs) PLw 1020 (zLL i (some (.inl 0)) (some (.inl v))) [.inl 0] (zLwld C r' (zup g 0 v)) _ _
    refine zr_loadw dL_law_1020 rfl ?_
    refine zr_ic_eq (tgt := 1027) dL_law_1022 (by decide) (fun _ => ?_) (fun w => absurd rfl w)
    refine zr_loadw dL_law_1027 rfl ?_
    refine zr_if_ne (tgt := 1044) dL_law_1029 (by decide) (fun w => absurd rfl w) (fun _ => ?_)
    refine zr_aload ⟨_, dL_law_1032, rfl⟩ rfl ?_
    refine zr_iconst dL_law_1033 (by decide) ?_
    refine zr_laload dL_law_1034 zLw_92 ⟨by decide, by decide⟩ ?_
    rw [zup_same]
    refine zr_loadw dL_law_1035 rfl ?_
    refine zr_i2l dL_law_1037 ?_
    refine zr_lcmpS dL_law_1038 ?_
    refine zr_if_eq (tgt := 1044) dL_law_1039 (by decide) (fun _ => ?_) (fun w => absurd rfl w)
    refine zr_goto (tgt := 1159) dL_law_1044 (by decide) ?_
    refine zr_mask [true, true, true, true, true, false, false] rfl ?_
    exact hK _ _ _ _ _ f4 (by omega) (by omega)
  · refine zr_aload ⟨_, dL_law_991, rfl⟩ rfl ?_
    refine zr_aload ⟨_, dL_law_992, rfl⟩ rfl ?_
    refine zr_loadw dL_law_993 rfl ?_
    refine zr_iconst dL_law_995 (by decide) ?_
    refine zr_iadd dL_law_996 ?_
    refine zr_sld dL_law_997 hi1 rfl ?_
    rw [← ha1]
    refine zr_aload ⟨_, dL_law_998, rfl⟩ rfl ?_
    have c999 := lx_title_3 (g := g) ((x_title a1 C).trans f1)
    refine zg_callW (r := some (.inl 1)) (v := 42) (zRunQ_H (rest := []) c999 dL_law_999 ls_title cw_title cl_title rfl (by decide) (by decide) (by decide) zMv_law zMv_lw (zFr_Ll (C := C) (r := r) (g := g) (C' := C) (g' := g)).1 (zFr_Ll (C := C) (r := r) (g := g) (C' := C) (g' := g)).2.1 rfl rfl) (zFr_Ll (C := C) (r := r) (g := g) (C' := C) (g' := g)) (fun k h => h) (fun x hx => absurd hx List.not_mem_nil) (fun k h => by rw [show k = 999 from h]; decide) rfl rfl (by show _ ≤ 601024; omega) (by show _ ≤ 7293034; omega) ?_
    show zB m_L_law RLw (FLw b L xs) PLw 1002 (zLL i none none) [.inl 1] (zLwld C r g) _ _
    refine zr_storew dL_law_1002 (by decide) rfl ?_
    refine zr_aload ⟨_, dL_law_1004, rfl⟩ rfl ?_
    refine zr_aload ⟨_, dL_law_1005, rfl⟩ rfl ?_
    refine zr_loadw dL_law_1006 rfl ?_
    refine zr_iconst dL_law_1008 (by decide) ?_
    refine zr_iadd dL_law_1009 ?_
    refine zr_sld dL_law_1010 hi1 rfl ?_
    rw [← ha1]
    have c1011 : zSpecF zTrv 2 zall 0 0 m_X12_title [.inr (.inl (some 0)), .inl a1] (ziT r 0 TRf) (fun r1 w1 => r1 = some (.inl v) ∧ w1 = ziT r' 0 TRf) := by
      have h0 := t_Rf_title f2
      exact zSpecT.F h0
    refine zg_callW (r := some (.inl v)) (v := 500) (zRunQ_of (zrun_VW (f := zsh 76) (rest := []) dL_law_1011 ml_L_128 zLw_76 rfl (by decide) (by decide) rfl (Nat.le_of_ble_eq_true rfl)) c1011 zMv_tr zMv_tr (zFr_Rl (C := C) (r := r) (g := g) (r' := r')).1 (zFr_Rl (C := C) (r := r) (g := g) (r' := r')).2.1 rfl rfl) (zFr_Rl (C := C) (r := r) (g := g) (r' := r')) (fun _ _ => True.intro) (fun x hx => absurd hx List.not_mem_nil) (fun k h => by rw [show k = 999 from h]; decide) rfl rfl (by show _ ≤ 601024; omega) (by show _ ≤ 7293034; omega) ?_
    show zB m_L_law RLw (FLw b L xs) PLw 1014 (zLL i (some (.inl 1)) none) [.inl v] (zLwld C r' g) _ _
    refine zr_storew dL_law_1014 (by decide) rfl ?_
    refine zr_aload ⟨_, dL_law_1016, rfl⟩ rfl ?_
    have c1017 : zSpecF zTrv 1 zall 0 0 m_X12_thrown [.inr (.inl (some 0))] (ziT r' 0 TRf) (fun r1 w1 => r1 = some (.inl 1) ∧ w1 = ziT r' 0 TRf) := by
      have h0 := t_Rf_thrown (res := 1) (congrArg some f3)
      exact zSpecT.F h0
    refine zg_callW (r := some (.inl 1)) (v := 500) (zRunQ_of (zrun_VW (f := zsh 76) (rest := []) dL_law_1017 ml_L_72 zLw_76 rfl (by decide) (by decide) rfl (Nat.le_of_ble_eq_true rfl)) c1017 zMv_tr zMv_tr (zFr_Rl (C := C) (r := r') (g := g) (r' := r')).1 (zFr_Rl (C := C) (r := r') (g := g) (r' := r')).2.1 rfl rfl) (zFr_Rl (C := C) (r := r') (g := g) (r' := r')) (fun _ _ => True.intro) (fun x hx => absurd hx List.not_mem_nil) (fun k h => by rw [show k = 999 from h]; decide) rfl rfl (by show _ ≤ 601024; omega) (by show _ ≤ 7293034; omega) ?_
    show zB m_L_law RLw (FLw b L xs) PLw 1020 (zLL i (some (.inl 1)) (some (.inl v))) [.inl 1] (zLwld C r' g) _ _
    refine zr_loadw dL_law_1020 rfl ?_
    refine zr_ic_eq (tgt := 1027) dL_law_1022 (by decide) (fun _ => ?_) (fun w => absurd rfl w)
    refine zr_loadw dL_law_1027 rfl ?_
    refine zr_if_ne (tgt := 1044) dL_law_1029 (by decide) (fun _ => ?_) (fun w => absurd (by decide : ¬ (1 : Int) = 0) w)
    refine zr_goto (tgt := 1159) dL_law_1044 (by decide) ?_
    refine zr_mask [true, true, true, true, true, false, false] rfl ?_
    exact hK _ _ _ _ _ f4 (by omega) (by omega)
set_option maxRecDepth 100000 in
set_option maxHeartbeats 1000000 in
theorem lc_least {b L N N' B uc us : Nat} {xs : Nat → Int32} {i : Int} {C r : zSt} {g : Int → Int} (hi : 0 ≤ i ∧ i + 5 ≤ L) (hLm : L ≤ 2560) (hW : zWh B C r) (hB : B + 100 < 65536) (huc : uc + zpot 42 C ≤ N) (hus : us + zpot 42 C ≤ N') (hN : N + 1 ≤ 601024) (hN' : N' + 6 ≤ 7293034)
    (hK : ∀ (C' r' : zSt) (g' : Int → Int) (uc' us' : Nat), zWh (B + 100) C' r' → uc' + zpot 42 C' ≤ N + 1 → us' + zpot 42 C' ≤ N' + 6 → zB m_L_law RLw (FLw b L xs) PLw 1159 (zLL i none none) [] (zLwld C' r' g') uc' us') :
    zB m_L_law RLw (FLw b L xs) PLw 1047 (zLL i none none) [] (zLwld C r g) uc us := by
  have e1 : w32 (i + 1) = i + 1 := w32i (by omega) (by omega)
  have hi1 : 0 ≤ w32 (i + 1) ∧ w32 (i + 1) < L := by rw [e1]; omega
  obtain ⟨a1, ha1⟩ : ∃ a, a = zxs xs (w32 (i + 1)) := ⟨_, rfl⟩
  rcases M_least hW a1 with ⟨v, C', r', f1, f2, f3, f4⟩ | ⟨v, r', f1, f2, f3, f4⟩
  · have hm : zpot 42 C' ≤ zpot 42 C := mo_least f1
    refine zr_aload ⟨_, dL_law_1047, rfl⟩ rfl ?_
    refine zr_aload ⟨_, dL_law_1048, rfl⟩ rfl ?_
    refine zr_loadw dL_law_1049 rfl ?_
    refine zr_iconst dL_law_1051 (by decide) ?_
    refine zr_iadd dL_law_1052 ?_
    refine zr_sld dL_law_1053 hi1 rfl ?_
    rw [← ha1]
    refine zr_aload ⟨_, dL_law_1054, rfl⟩ rfl ?_
    have c1055 := la_least (g := g) f1
    refine zg_callW (r := some (.inl 0)) (v := 42) (zRunQ_H (rest := []) c1055 dL_law_1055 ls_least cw_least cl_least rfl (by decide) (by decide) (by decide) zMv_law zMv_lw (zFr_Ll (C := C) (r := r) (g := g) (C' := C') (g' := (zup g 0 v))).1 (zFr_Ll (C := C) (r := r) (g := g) (C' := C') (g' := (zup g 0 v))).2.1 rfl rfl) (zFr_Ll (C := C) (r := r) (g := g) (C' := C') (g' := (zup g 0 v))) (fun k h => h) (fun x hx => absurd hx List.not_mem_nil) (fun k h => by rw [show k = 999 from h]; decide) rfl rfl (by show _ ≤ 601024; omega) (by show _ ≤ 7293034; omega) ?_
    show zB m_L_law RLw (FLw b L xs) PLw 1058 (zLL i none none) [.inl 0] (zLwld C' r (zup g 0 v)) _ _
    refine zr_storew dL_law_1058 (by decide) rfl ?_
    refine zr_aload ⟨_, dL_law_1060, rfl⟩ rfl ?_
    refine zr_aload ⟨_, dL_law_1061, rfl⟩ rfl ?_
    refine zr_loadw dL_law_1062 rfl ?_
    refine zr_iconst dL_law_1064 (by decide) ?_
    refine zr_iadd dL_law_1065 ?_
    refine zr_sld dL_law_1066 hi1 rfl ?_
    rw [← ha1]
    have c1067 : zSpecF zTrv 5 zall 0 0 m_X12_least [.inr (.inl (some 0)), .inl a1] (ziT r 0 TRf) (fun r1 w1 => r1 = some (.inl v) ∧ w1 = ziT r' 0 TRf) := by
      have h0 := t_Rf_least f2
      exact zSpecT.F h0
    refine zg_callW (r := some (.inl v)) (v := 500) (zRunQ_of (zrun_VW (f := zsh 76) (rest := []) dL_law_1067 ml_L_131 zLw_76 rfl (by decide) (by decide) rfl (Nat.le_of_ble_eq_true rfl)) c1067 zMv_tr zMv_tr (zFr_Rl (C := C') (r := r) (g := (zup g 0 v)) (r' := r')).1 (zFr_Rl (C := C') (r := r) (g := (zup g 0 v)) (r' := r')).2.1 rfl rfl) (zFr_Rl (C := C') (r := r) (g := (zup g 0 v)) (r' := r')) (fun _ _ => True.intro) (fun x hx => absurd hx List.not_mem_nil) (fun k h => by rw [show k = 999 from h]; decide) rfl rfl (by show _ ≤ 601024; omega) (by show _ ≤ 7293034; omega) ?_
    show zB m_L_law RLw (FLw b L xs) PLw 1070 (zLL i (some (.inl 0)) none) [.inl v] (zLwld C' r' (zup g 0 v)) _ _
    refine zr_storew dL_law_1070 (by decide) rfl ?_
    refine zr_aload ⟨_, dL_law_1072, rfl⟩ rfl ?_
    have c1073 : zSpecF zTrv 1 zall 0 0 m_X12_thrown [.inr (.inl (some 0))] (ziT r' 0 TRf) (fun r1 w1 => r1 = some (.inl 0) ∧ w1 = ziT r' 0 TRf) := by
      have h0 := t_Rf_thrown (res := 0) (congrArg some f3)
      exact zSpecT.F h0
    refine zg_callW (r := some (.inl 0)) (v := 500) (zRunQ_of (zrun_VW (f := zsh 76) (rest := []) dL_law_1073 ml_L_72 zLw_76 rfl (by decide) (by decide) rfl (Nat.le_of_ble_eq_true rfl)) c1073 zMv_tr zMv_tr (zFr_Rl (C := C') (r := r') (g := (zup g 0 v)) (r' := r')).1 (zFr_Rl (C := C') (r := r') (g := (zup g 0 v)) (r' := r')).2.1 rfl rfl) (zFr_Rl (C := C') (r := r') (g := (zup g 0 v)) (r' := r')) (fun _ _ => True.intro) (fun x hx => absurd hx List.not_mem_nil) (fun k h => by rw [show k = 999 from h]; decide) rfl rfl (by show _ ≤ 601024; omega) (by show _ ≤ 7293034; omega) ?_
    show zB m_L_law RLw (FLw b L xs) PLw 1076 (zLL i (some (.inl 0)) (some (.inl v))) [.inl 0] (zLwld C' r' (zup g 0 v)) _ _
    refine zr_loadw dL_law_1076 rfl ?_
    refine zr_ic_eq (tgt := 1083) dL_law_1078 (by decide) (fun _ => ?_) (fun w => absurd rfl w)
    refine zr_loadw dL_law_1083 rfl ?_
    refine zr_if_ne (tgt := 1100) dL_law_1085 (by decide) (fun w => absurd rfl w) (fun _ => ?_)
    refine zr_aload ⟨_, dL_law_1088, rfl⟩ rfl ?_
    refine zr_iconst dL_law_1089 (by decide) ?_
    refine zr_laload dL_law_1090 zLw_92 ⟨by decide, by decide⟩ ?_
    rw [zup_same]
    refine zr_loadw dL_law_1091 rfl ?_
    refine zr_i2l dL_law_1093 ?_
    refine zr_lcmpS dL_law_1094 ?_
    refine zr_if_eq (tgt := 1100) dL_law_1095 (by decide) (fun _ => ?_) (fun w => absurd rfl w)
    refine zr_goto (tgt := 1159) dL_law_1100 (by decide) ?_
    refine zr_mask [true, true, true, true, true, false, false] rfl ?_
    exact hK _ _ _ _ _ f4 (by omega) (by omega)
  · refine zr_aload ⟨_, dL_law_1047, rfl⟩ rfl ?_
    refine zr_aload ⟨_, dL_law_1048, rfl⟩ rfl ?_
    refine zr_loadw dL_law_1049 rfl ?_
    refine zr_iconst dL_law_1051 (by decide) ?_
    refine zr_iadd dL_law_1052 ?_
    refine zr_sld dL_law_1053 hi1 rfl ?_
    rw [← ha1]
    refine zr_aload ⟨_, dL_law_1054, rfl⟩ rfl ?_
    have c1055 := lx_least_3 (g := g) ((x_least a1 C).trans f1)
    refine zg_callW (r := some (.inl 1)) (v := 42) (zRunQ_H (rest := []) c1055 dL_law_1055 ls_least cw_least cl_least rfl (by decide) (by decide) (by decide) zMv_law zMv_lw (zFr_Ll (C := C) (r := r) (g := g) (C' := C) (g' := g)).1 (zFr_Ll (C := C) (r := r) (g := g) (C' := C) (g' := g)).2.1 rfl rfl) (zFr_Ll (C := C) (r := r) (g := g) (C' := C) (g' := g)) (fun k h => h) (fun x hx => absurd hx List.not_mem_nil) (fun k h => by rw [show k = 999 from h]; decide) rfl rfl (by show _ ≤ 601024; omega) (by show _ ≤ 7293034; omega) ?_
    show zB m_L_law RLw (FLw b L xs) PLw 1058 (zLL i none none) [.inl 1] (zLwld C r g) _ _
    refine zr_storew dL_law_1058 (by decide) rfl ?_
    refine zr_aload ⟨_, dL_law_1060, rfl⟩ rfl ?_
    refine zr_aload ⟨_, dL_law_1061, rfl⟩ rfl ?_
    refine zr_loadw dL_law_1062 rfl ?_
    refine zr_iconst dL_law_1064 (by decide) ?_
    refine zr_iadd dL_law_1065 ?_
    refine zr_sld dL_law_1066 hi1 rfl ?_
    rw [← ha1]
    have c1067 : zSpecF zTrv 5 zall 0 0 m_X12_least [.inr (.inl (some 0)), .inl a1] (ziT r 0 TRf) (fun r1 w1 => r1 = some (.inl v) ∧ w1 = ziT r' 0 TRf) := by
      have h0 := t_Rf_least f2
      exact zSpecT.F h0
    refine zg_callW (r := some (.inl v)) (v := 500) (zRunQ_of (zrun_VW (f := zsh 76) (rest := []) dL_law_1067 ml_L_131 zLw_76 rfl (by decide) (by decide) rfl (Nat.le_of_ble_eq_true rfl)) c1067 zMv_tr zMv_tr (zFr_Rl (C := C) (r := r) (g := g) (r' := r')).1 (zFr_Rl (C := C) (r := r) (g := g) (r' := r')).2.1 rfl rfl) (zFr_Rl (C := C) (r := r) (g := g) (r' := r')) (fun _ _ => True.intro) (fun x hx => absurd hx List.not_mem_nil) (fun k h => by rw [show k = 999 from h]; decide) rfl rfl (by show _ ≤ 601024; omega) (by show _ ≤ 7293034; omega) ?_
    show zB m_L_law RLw (FLw b L xs) PLw 1070 (zLL i (some (.inl 1)) none) [.inl v] (zLwld C r' g) _ _
    refine zr_storew dL_law_1070 (by decide) rfl ?_
    refine zr_aload ⟨_, dL_law_1072, rfl⟩ rfl ?_
    have c1073 : zSpecF zTrv 1 zall 0 0 m_X12_thrown [.inr (.inl (some 0))] (ziT r' 0 TRf) (fun r1 w1 => r1 = some (.inl 1) ∧ w1 = ziT r' 0 TRf) := by
      have h0 := t_Rf_thrown (res := 1) (congrArg some f3)
      exact zSpecT.F h0
    refine zg_callW (r := some (.inl 1)) (v := 500) (zRunQ_of (zrun_VW (f := zsh 76) (rest := []) dL_law_1073 ml_L_72 zLw_76 rfl (by decide) (by decide) rfl (Nat.le_of_ble_eq_true rfl)) c1073 zMv_tr zMv_tr (zFr_Rl (C := C) (r := r') (g := g) (r' := r')).1 (zFr_Rl (C := C) (r := r') (g := g) (r' := r')).2.1 rfl rfl) (zFr_Rl (C := C) (r := r') (g := g) (r' := r')) (fun _ _ => True.intro) (fun x hx => absurd hx List.not_mem_nil) (fun k h => by rw [show k = 999 from h]; decide) rfl rfl (by show _ ≤ 601024; omega) (by show _ ≤ 7293034; omega) ?_
    show zB m_L_law RLw (FLw b L xs) PLw 1076 (zLL i (some (.inl 1)) (some (.inl v))) [.inl 1] (zLwld C r' g) _ _
    refine zr_loadw dL_law_1076 rfl ?_
    refine zr_ic_eq (tgt := 1083) dL_law_1078 (by decide) (fun _ => ?_) (fun w => absurd rfl w)
    refine zr_loadw dL_law_1083 rfl ?_
    refine zr_if_ne (tgt := 1100) dL_law_1085 (by decide) (fun _ => ?_) (fun w => absurd (by decide : ¬ (1 : Int) = 0) w)
    refine zr_goto (tgt := 1159) dL_law_1100 (by decide) ?_
    refine zr_mask [true, true, true, true, true, false, false] rfl ?_
    exact hK _ _ _ _ _ f4 (by omega) (by omega)
set_option maxRecDepth 100000 in
set_option maxHeartbeats 1000000 in
theorem lc_told {b L N N' B uc us : Nat} {xs : Nat → Int32} {i : Int} {C r : zSt} {g : Int → Int} (hi : 0 ≤ i ∧ i + 5 ≤ L) (hLm : L ≤ 2560) (hW : zWh B C r) (hB : B + 100 < 65536) (huc : uc + zpot 42 C ≤ N) (hus : us + zpot 42 C ≤ N') (hN : N + 1 ≤ 601024) (hN' : N' + 6 ≤ 7293034)
    (hK : ∀ (C' r' : zSt) (g' : Int → Int) (uc' us' : Nat), zWh (B + 100) C' r' → uc' + zpot 42 C' ≤ N + 1 → us' + zpot 42 C' ≤ N' + 6 → zB m_L_law RLw (FLw b L xs) PLw 1159 (zLL i none none) [] (zLwld C' r' g') uc' us') :
    zB m_L_law RLw (FLw b L xs) PLw 1103 (zLL i none none) [] (zLwld C r g) uc us := by
  have e1 : w32 (i + 1) = i + 1 := w32i (by omega) (by omega)
  have hi1 : 0 ≤ w32 (i + 1) ∧ w32 (i + 1) < L := by rw [e1]; omega
  obtain ⟨a1, ha1⟩ : ∃ a, a = zxs xs (w32 (i + 1)) := ⟨_, rfl⟩
  rcases M_told hW a1 with ⟨v, r', f1, f2, f3, f4⟩ | ⟨v, r', f1, f2, f3, f4⟩
  · refine zr_aload ⟨_, dL_law_1103, rfl⟩ rfl ?_
    refine zr_aload ⟨_, dL_law_1104, rfl⟩ rfl ?_
    refine zr_loadw dL_law_1105 rfl ?_
    refine zr_iconst dL_law_1107 (by decide) ?_
    refine zr_iadd dL_law_1108 ?_
    refine zr_sld dL_law_1109 hi1 rfl ?_
    rw [← ha1]
    refine zr_aload ⟨_, dL_law_1110, rfl⟩ rfl ?_
    have c1111 := la_told (g := g) f1
    refine zg_callW (r := some (.inl 0)) (v := 42) (zRunQ_H (rest := []) c1111 dL_law_1111 ls_told cw_told cl_told rfl (by decide) (by decide) (by decide) zMv_law zMv_lw (zFr_Ll (C := C) (r := r) (g := g) (C' := C) (g' := (zup g 0 v))).1 (zFr_Ll (C := C) (r := r) (g := g) (C' := C) (g' := (zup g 0 v))).2.1 rfl rfl) (zFr_Ll (C := C) (r := r) (g := g) (C' := C) (g' := (zup g 0 v))) (fun k h => h) (fun x hx => absurd hx List.not_mem_nil) (fun k h => by rw [show k = 999 from h]; decide) rfl rfl (by show _ ≤ 601024; omega) (by show _ ≤ 7293034; omega) ?_
    show zB m_L_law RLw (FLw b L xs) PLw 1114 (zLL i none none) [.inl 0] (zLwld C r (zup g 0 v)) _ _
    refine zr_storew dL_law_1114 (by decide) rfl ?_
    refine zr_aload ⟨_, dL_law_1116, rfl⟩ rfl ?_
    refine zr_aload ⟨_, dL_law_1117, rfl⟩ rfl ?_
    refine zr_loadw dL_law_1118 rfl ?_
    refine zr_iconst dL_law_1120 (by decide) ?_
    refine zr_iadd dL_law_1121 ?_
    refine zr_sld dL_law_1122 hi1 rfl ?_
    rw [← ha1]
    have c1123 : zSpecF zTrv 3 zall 0 0 m_X12_told [.inr (.inl (some 0)), .inl a1] (ziT r 0 TRf) (fun r1 w1 => r1 = some (.inl v) ∧ w1 = ziT r' 0 TRf) := by
      have h0 := t_Rf_told f2
      exact zSpecT.F h0
    refine zg_callW (r := some (.inl v)) (v := 500) (zRunQ_of (zrun_VW (f := zsh 76) (rest := []) dL_law_1123 ml_L_134 zLw_76 rfl (by decide) (by decide) rfl (Nat.le_of_ble_eq_true rfl)) c1123 zMv_tr zMv_tr (zFr_Rl (C := C) (r := r) (g := (zup g 0 v)) (r' := r')).1 (zFr_Rl (C := C) (r := r) (g := (zup g 0 v)) (r' := r')).2.1 rfl rfl) (zFr_Rl (C := C) (r := r) (g := (zup g 0 v)) (r' := r')) (fun _ _ => True.intro) (fun x hx => absurd hx List.not_mem_nil) (fun k h => by rw [show k = 999 from h]; decide) rfl rfl (by show _ ≤ 601024; omega) (by show _ ≤ 7293034; omega) ?_
    show zB m_L_law RLw (FLw b L xs) PLw 1126 (zLL i (some (.inl 0)) none) [.inl v] (zLwld C r' (zup g 0 v)) _ _
    refine zr_storew dL_law_1126 (by decide) rfl ?_
    refine zr_aload ⟨_, dL_law_1128, rfl⟩ rfl ?_
    have c1129 : zSpecF zTrv 1 zall 0 0 m_X12_thrown [.inr (.inl (some 0))] (ziT r' 0 TRf) (fun r1 w1 => r1 = some (.inl 0) ∧ w1 = ziT r' 0 TRf) := by
      have h0 := t_Rf_thrown (res := 0) (congrArg some f3)
      exact zSpecT.F h0
    refine zg_callW (r := some (.inl 0)) (v := 500) (zRunQ_of (zrun_VW (f := zsh 76) (rest := []) dL_law_1129 ml_L_72 zLw_76 rfl (by decide) (by decide) rfl (Nat.le_of_ble_eq_true rfl)) c1129 zMv_tr zMv_tr (zFr_Rl (C := C) (r := r') (g := (zup g 0 v)) (r' := r')).1 (zFr_Rl (C := C) (r := r') (g := (zup g 0 v)) (r' := r')).2.1 rfl rfl) (zFr_Rl (C := C) (r := r') (g := (zup g 0 v)) (r' := r')) (fun _ _ => True.intro) (fun x hx => absurd hx List.not_mem_nil) (fun k h => by rw [show k = 999 from h]; decide) rfl rfl (by show _ ≤ 601024; omega) (by show _ ≤ 7293034; omega) ?_
    show zB m_L_law RLw (FLw b L xs) PLw 1132 (zLL i (some (.inl 0)) (some (.inl v))) [.inl 0] (zLwld C r' (zup g 0 v)) _ _
    refine zr_loadw dL_law_1132 rfl ?_
    refine zr_ic_eq (tgt := 1139) dL_law_1134 (by decide) (fun _ => ?_) (fun w => absurd rfl w)
    refine zr_loadw dL_law_1139 rfl ?_
    refine zr_if_ne (tgt := 1156) dL_law_1141 (by decide) (fun w => absurd rfl w) (fun _ => ?_)
    refine zr_aload ⟨_, dL_law_1144, rfl⟩ rfl ?_
    refine zr_iconst dL_law_1145 (by decide) ?_
    refine zr_laload dL_law_1146 zLw_92 ⟨by decide, by decide⟩ ?_
    rw [zup_same]
    refine zr_loadw dL_law_1147 rfl ?_
    refine zr_i2l dL_law_1149 ?_
    refine zr_lcmpS dL_law_1150 ?_
    refine zr_if_eq (tgt := 1156) dL_law_1151 (by decide) (fun _ => ?_) (fun w => absurd rfl w)
    refine zr_goto (tgt := 1159) dL_law_1156 (by decide) ?_
    refine zr_mask [true, true, true, true, true, false, false] rfl ?_
    exact hK _ _ _ _ _ f4 (by omega) (by omega)
  · refine zr_aload ⟨_, dL_law_1103, rfl⟩ rfl ?_
    refine zr_aload ⟨_, dL_law_1104, rfl⟩ rfl ?_
    refine zr_loadw dL_law_1105 rfl ?_
    refine zr_iconst dL_law_1107 (by decide) ?_
    refine zr_iadd dL_law_1108 ?_
    refine zr_sld dL_law_1109 hi1 rfl ?_
    rw [← ha1]
    refine zr_aload ⟨_, dL_law_1110, rfl⟩ rfl ?_
    have c1111 := lx_told_1 (g := g) ((x_told a1 C).trans f1)
    refine zg_callW (r := some (.inl 1)) (v := 42) (zRunQ_H (rest := []) c1111 dL_law_1111 ls_told cw_told cl_told rfl (by decide) (by decide) (by decide) zMv_law zMv_lw (zFr_Ll (C := C) (r := r) (g := g) (C' := C) (g' := g)).1 (zFr_Ll (C := C) (r := r) (g := g) (C' := C) (g' := g)).2.1 rfl rfl) (zFr_Ll (C := C) (r := r) (g := g) (C' := C) (g' := g)) (fun k h => h) (fun x hx => absurd hx List.not_mem_nil) (fun k h => by rw [show k = 999 from h]; decide) rfl rfl (by show _ ≤ 601024; omega) (by show _ ≤ 7293034; omega) ?_
    show zB m_L_law RLw (FLw b L xs) PLw 1114 (zLL i none none) [.inl 1] (zLwld C r g) _ _
    refine zr_storew dL_law_1114 (by decide) rfl ?_
    refine zr_aload ⟨_, dL_law_1116, rfl⟩ rfl ?_
    refine zr_aload ⟨_, dL_law_1117, rfl⟩ rfl ?_
    refine zr_loadw dL_law_1118 rfl ?_
    refine zr_iconst dL_law_1120 (by decide) ?_
    refine zr_iadd dL_law_1121 ?_
    refine zr_sld dL_law_1122 hi1 rfl ?_
    rw [← ha1]
    have c1123 : zSpecF zTrv 3 zall 0 0 m_X12_told [.inr (.inl (some 0)), .inl a1] (ziT r 0 TRf) (fun r1 w1 => r1 = some (.inl v) ∧ w1 = ziT r' 0 TRf) := by
      have h0 := t_Rf_told f2
      exact zSpecT.F h0
    refine zg_callW (r := some (.inl v)) (v := 500) (zRunQ_of (zrun_VW (f := zsh 76) (rest := []) dL_law_1123 ml_L_134 zLw_76 rfl (by decide) (by decide) rfl (Nat.le_of_ble_eq_true rfl)) c1123 zMv_tr zMv_tr (zFr_Rl (C := C) (r := r) (g := g) (r' := r')).1 (zFr_Rl (C := C) (r := r) (g := g) (r' := r')).2.1 rfl rfl) (zFr_Rl (C := C) (r := r) (g := g) (r' := r')) (fun _ _ => True.intro) (fun x hx => absurd hx List.not_mem_nil) (fun k h => by rw [show k = 999 from h]; decide) rfl rfl (by show _ ≤ 601024; omega) (by show _ ≤ 7293034; omega) ?_
    show zB m_L_law RLw (FLw b L xs) PLw 1126 (zLL i (some (.inl 1)) none) [.inl v] (zLwld C r' g) _ _
    refine zr_storew dL_law_1126 (by decide) rfl ?_
    refine zr_aload ⟨_, dL_law_1128, rfl⟩ rfl ?_
    have c1129 : zSpecF zTrv 1 zall 0 0 m_X12_thrown [.inr (.inl (some 0))] (ziT r' 0 TRf) (fun r1 w1 => r1 = some (.inl 1) ∧ w1 = ziT r' 0 TRf) := by
      have h0 := t_Rf_thrown (res := 1) (congrArg some f3)
      exact zSpecT.F h0
    refine zg_callW (r := some (.inl 1)) (v := 500) (zRunQ_of (zrun_VW (f := zsh 76) (rest := []) dL_law_1129 ml_L_72 zLw_76 rfl (by decide) (by decide) rfl (Nat.le_of_ble_eq_true rfl)) c1129 zMv_tr zMv_tr (zFr_Rl (C := C) (r := r') (g := g) (r' := r')).1 (zFr_Rl (C := C) (r := r') (g := g) (r' := r')).2.1 rfl rfl) (zFr_Rl (C := C) (r := r') (g := g) (r' := r')) (fun _ _ => True.intro) (fun x hx => absurd hx List.not_mem_nil) (fun k h => by rw [show k = 999 from h]; decide) rfl rfl (by show _ ≤ 601024; omega) (by show _ ≤ 7293034; omega) ?_
    show zB m_L_law RLw (FLw b L xs) PLw 1132 (zLL i (some (.inl 1)) (some (.inl v))) [.inl 1] (zLwld C r' g) _ _
    refine zr_loadw dL_law_1132 rfl ?_
    refine zr_ic_eq (tgt := 1139) dL_law_1134 (by decide) (fun _ => ?_) (fun w => absurd rfl w)
    refine zr_loadw dL_law_1139 rfl ?_
    refine zr_if_ne (tgt := 1156) dL_law_1141 (by decide) (fun _ => ?_) (fun w => absurd (by decide : ¬ (1 : Int) = 0) w)
    refine zr_goto (tgt := 1159) dL_law_1156 (by decide) ?_
    refine zr_mask [true, true, true, true, true, false, false] rfl ?_
    exact hK _ _ _ _ _ f4 (by omega) (by omega)
