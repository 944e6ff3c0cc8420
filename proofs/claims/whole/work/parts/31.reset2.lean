theorem zRel.castL {s s' r : zSt} (e : s = s') (h : zRel s r) : zRel s' r := e ▸ h
theorem S_reset {s r : zSt} (h : zRel s r) : ∃ s1 r1, f_Sc_reset s = some (0, s1) ∧ f_Rf_resets r = some (0, r1) ∧ zRel s1 r1 ∧ zKp r r1 := by
  have z := h.size
  obtain ⟨d1, d2, d3, d4, d5, d6⟩ := h.zz
  have h1 := h.shwn (x := 0) (Or.inl rfl) (fun q => absurd q (by decide))
  obtain ⟨p1, r1, a1, a2, a3⟩ := P0_clear h1
  obtain ⟨p2, r2, b1, b2, b3⟩ := P1_clear a3.1
  have e81 : r2.1 = (uS r 0 8 0).1 := b3.2.2.1.trans a3.2.2.1
  have es1 : (zpb (zsh 22) 3 (zpb (zsh 2) 3 (uS s 0 8 0) p1) p2).1 = (uS s 0 8 0).1 := b3.2.1.trans a3.2.1
  obtain ⟨t, ht⟩ : ∃ t, t = zpb (zsh 22) 3 (zpb (zsh 2) 3 (uS s 0 8 0) p1) p2 := ⟨_, rfl⟩
  have hb := b3.1
  rw [← ht] at es1 hb
  have ew : w32 (r.1 0 1 - 1) = r.1 0 1 - 1 := w32i (by omega) (by omega)
  have e01 : r2.1 0 1 = r.1 0 1 := by rw [e81]; rfl
  have e02 : r2.1 0 2 = r.1 0 2 := by rw [e81]; rfl
  have e08 : r2.1 0 8 = 0 := by rw [e81]; rfl
  have k1 := ((hb.row (x := 0) (by omega)).col (x := 0) (by show 0 ≤ (0 : Int) ∧ 0 < r2.1 0 2; omega)).late (x := 0) (Or.inl rfl)
  have k2 := k1.unsaved e08
  have k3 := (k2.attr (x := 0) (by decide)).regn (x := 0) (y := r.1 0 1 - 1) (by show 0 ≤ (0 : Int) ∧ 0 < r.1 0 1 - 1 ∧ r.1 0 1 - 1 < r2.1 0 1; omega)
  have k4 := ((((((k3.keys (x := 0) (Or.inl rfl)).orig (x := 0) (Or.inl rfl)).wrap (x := 1) (Or.inr rfl)).show (x := 1) (Or.inr rfl)).mous (x := 0) (Or.inl rfl)).pste (x := 0) (Or.inl rfl)).insr (x := 0) (Or.inl rfl)
  obtain ⟨u, hu⟩ : ∃ u, u = uS (uS (uS (uS (uS (uS (uS (uS (uC (uC t 12 0 0 0 0 0) 25 0 0 0 0 0) 13 0 0) 13 1 1) 13 2 1) 13 3 0) 13 4 0) 13 5 0) 0 12 0) 0 13 (r.1 0 1 - 1) := ⟨_, rfl⟩
  have k5 := k4.castL (s' := u) (by
    rw [hu]
    refine zst_ext (fun i j => ?_) (fun _ => rfl)
    simp only [uC, uS1]
    clear k4 k3 k2 k1 hb b3 b2 b1 a3 a2 a1 h1 h hu
    grind)
  obtain ⟨r3, c1, c2, c3, x, c4⟩ := S_firstTabs k5
  obtain ⟨p, r4, f1, f2, f3⟩ := S_endLatest c3
  have ew2 : w32 (r2.1 0 1 - 1) = r.1 0 1 - 1 := by rw [e01, ew]
  refine ⟨_, r4, ?_, ?_, f3.1, ?_⟩
  · unfold f_Sc_reset
    refine bindS a1 (bindS b1 ?_)
    show ((f_Cu_reset (zsb (zsh 12) (zpb (zsh 22) 3 (zpb (zsh 2) 3 (uS s 0 8 0) p1) p2))).bind _) = _
    rw [← ht]
    refine bindS c_cuReset ?_
    show ((f_Cu_reset (zsb (zsh 25) (zpb (zsh 12) 1 t _))).bind _) = _
    rw [zpb_uC]
    refine bindS c_cuReset ?_
    show ((f_Md_reset (zsb (zsh 13) (zpb (zsh 25) 1 _ _))).bind _) = _
    rw [zpb_uC]
    refine bindS (x := (0, uS (uS (uS (uS (uS (uS (zsb (zsh 13) (uC (uC t 12 0 0 0 0 0) 25 0 0 0 0 0)) 0 0 0) 0 1 1) 0 2 1) 0 3 0) 0 4 0) 0 5 0)) rfl ?_
    show ((f_Sc_setFirstTabs 0 (uS (uS (zpb (zsh 13) 1 _ _) 0 12 0) 0 13 (w32 (s.1 0 9 - 1)))).bind _) = _
    rw [zpb_uS _ _ _ _ _ _ _ (by omega), zpb_uS _ _ _ _ _ _ _ (by omega), zpb_uS _ _ _ _ _ _ _ (by omega), zpb_uS _ _ _ _ _ _ _ (by omega), zpb_uS _ _ _ _ _ _ _ (by omega), zpb_uS _ _ _ _ _ _ _ (by omega), zpb_same, d2, ew]
    refine bindS (x := _) ((congrArg (f_Sc_setFirstTabs 0) hu).symm.trans c1) ?_
    exact bindS f1 rfl
  · unfold f_Rf_resets
    refine bindS a2 (bindS b2 ?_)
    show ((f_Rf_laysTabs 0 (uS (uS (uS (uS (uS (uS (uS (uS (uS (uS (uS (uS (uS (uS (uS r2 0 9 0) 0 10 0) 0 11 0) 0 23 0) 0 12 0) 0 13 0) 0 14 (w32 (r2.1 0 1 - 1))) 0 16 0) 0 17 0) 0 18 1) 0 19 1) 0 20 0) 0 21 0) 0 22 0) 0 15 0)).bind _) = _
    rw [ew2]
    exact bindS c2 f2
  · refine zKp.trans (zKp.trans (zKp.uS (by decide)) (a3.fr.kp.trans b3.fr.kp)) (zKp.trans ?_ f3.kp)
    rw [c4]
    exact (((((((((((((((zKp.uS (by decide)).trans (zKp.uS (by decide))).trans (zKp.uS (by decide))).trans (zKp.uS (by decide))).trans (zKp.uS (by decide))).trans (zKp.uS (by decide))).trans (zKp.uS (by decide))).trans (zKp.uS (by decide))).trans (zKp.uS (by decide))).trans (zKp.uS (by decide))).trans (zKp.uS (by decide))).trans (zKp.uS (by decide))).trans (zKp.uS (by decide))).trans (zKp.uS (by decide))).trans (zKp.uS (by decide)))
