/-! ===== public methods: cellAnew, least ===== -/
theorem Ta_plays {r : zSt} {N : List Int} (hN : N.length < 65536) : ∀ (L : List Int) (i : Nat) (p : zSt) (f : Nat), N.drop i = L → i ≤ N.length → zTp p N → zPy L (zsb (zsh 2) p) r → L.length < f →
    ∃ p', zloop f_Ta_playOn_l9 f ((i : Int), p) = some p' ∧ zRel (zsb (zsh 2) p') r ∧ ∀ j, (j < 2 ∨ 29 ≤ j) → p'.1 j = p.1 j ∧ p'.2 j = p.2 j
  | [], i, p, f, e, hi, hT, hP, hf => by
    obtain ⟨f, rfl⟩ : ∃ j, f = j + 1 := ⟨f - 1, by omega⟩
    have e' := congrArg List.length e
    rw [List.length_drop, List.length_nil] at e'
    refine ⟨p, ?_, hP, fun _ _ => ⟨rfl, rfl⟩⟩
    unfold zloop f_Ta_playOn_l9
    rw [if_pos (show p.1 0 1 ≤ (i : Int) by rw [hT.1]; omega)]
    rfl
  | x :: L, i, p, f, e, hi, hT, hP, hf => by
    obtain ⟨f, rfl⟩ : ∃ j, f = j + 1 := ⟨f - 1, by omega⟩
    have e' := congrArg List.length e
    rw [List.length_drop, List.length_cons] at e'
    have hlt : i < N.length := by omega
    have e1 := List.drop_eq_getElem_cons hlt
    rw [e] at e1
    injection e1 with ex eL
    have hx : p.2 1 (i : Int) = x := by
      rw [hT.2.1 i hlt, ex, List.getD_eq_getElem?_getD, List.getElem?_eq_getElem hlt, Option.getD_some]
    have hc := hT.2.2.2
    have hcp := hT.2.2.1
    unfold zCp at hcp
    obtain ⟨A1, a1, a2⟩ := hP _ (zAg.rf _)
    have c : ∀ j m, (zpb (zsh 2) 27 p A1).1 j m = if 2 ≤ j ∧ j < 2 + 27 then A1.1 (j - 2) m else p.1 j m := fun j m => zpb1 2 27 p A1 j m
    have d : ∀ j, (zpb (zsh 2) 27 p A1).2 j = if 2 ≤ j ∧ j < 2 + 27 then A1.2 (j - 2) else p.2 j := fun j => zpb2 2 27 p A1 j
    have es : f_Ta_playOn_l9 ((i : Int), p) = some (.inl (((i + 1 : Nat) : Int), zpb (zsh 2) 27 p A1)) := by
      have ew : w32 ((i : Int) + 1) = ((i + 1 : Nat) : Int) := by rw [w32i (by omega) (by omega)]; omega
      unfold f_Ta_playOn_l9
      refine iteF (by show ¬ p.1 0 1 ≤ (i : Int); rw [hT.1]; omega) (iteT (by show 0 ≤ p.1 1 0; omega) (iteF (by show ¬ p.1 1 0 ≤ (i : Int); omega) (iteT (by show 0 ≤ (i : Int) ∧ (i : Int) < p.1 1 0; omega) ?_)))
      show (if 128 ≤ p.2 1 (i : Int) then (f_Sc_resize (wDiv (w32 (p.2 1 (i : Int) - 128)) 32) (wRem (w32 (p.2 1 (i : Int) - 128)) 32) (zsb (zsh 2) p)).bind (fun x6 => some (Sum.inl (w32 ((i : Int) + 1), zpb (zsh 2) 27 p x6.2))) else (f_Sc_receive (p.2 1 (i : Int)) (zsb (zsh 2) p)).bind (fun x7 => some (Sum.inl (w32 ((i : Int) + 1), zpb (zsh 2) 27 p x7.2)))) = _
      rw [hx, ew]
      by_cases q : x < 128
      · rw [if_pos q] at a1
        exact iteF (by omega) (bindS a1 rfl)
      · rw [if_neg q] at a1
        exact iteT (by omega) (bindS a1 rfl)
    generalize zpb (zsh 2) 27 p A1 = p1 at *
    have o : ∀ j, (j < 2 ∨ 29 ≤ j) → p1.1 j = p.1 j ∧ p1.2 j = p.2 j := fun j y => ⟨funext fun m => by rw [c, if_neg (by omega)], by rw [d, if_neg (by omega)]⟩
    have hag : zAg A1 (zsb (zsh 2) p1) := fun j hj => by
      constructor
      · funext m
        show p1.1 (j + 2) m = _
        rw [c, if_pos (by omega), Nat.add_sub_cancel]
      · show p1.2 (j + 2) = _
        rw [d, if_pos (by omega), Nat.add_sub_cancel]
    obtain ⟨p', b1, b2, b3⟩ := Ta_plays hN L (i + 1) p1 f eL.symm (by omega) (hT.cg (congrFun (o 0 (by omega)).1 1) (o 1 (by omega)).2 (congrFun (o 1 (by omega)).1 0)) (a2.cg hag) (by simp at hf; omega)
    refine ⟨p', ?_, b2, fun j y => ⟨(b3 j y).1.trans (o j y).1, (b3 j y).2.trans (o j y).2⟩⟩
    unfold zloop
    rw [es]
    exact b1
def e_Co_cellAnew (a1 a2 : Int) (s : zSt) : Option Int := (f_Sc_has a1 a2 (zsb (zsh 14) s)).bind fun x1 => if ¬ x1 = 0 then none else some 3
theorem M_cellAnew {B : Nat} {C r : zSt} (h : zWh B C r) (hB : B + 100 < 65536) (a b : Int) : zMok (B + 100) C (f_Co_cellAnew a b C) (f_Rf_cellAnew a b r) ∨ zMth (B + 100) C (e_Co_cellAnew a b C) (f_Rf_cellAnew a b r) 3 1 := by
  have h0 := h
  obtain ⟨k, ln, hd, N, dr, a1, a2, a3⟩ := h
  obtain ⟨hR, han, hPy, hpc, -⟩ := a1.rel
  have e1 := S_has hR a b
  have e2 := c_Rf_cell hR a b
  have er : f_Rf_cellAnew a b r = f_Rf_cell a b r := by
    unfold f_Rf_cellAnew
    rw [e2]
    rfl
  rw [er]
  by_cases y : (0 ≤ a ∧ a < r.1 0 1) ∧ (0 ≤ b ∧ b < r.1 0 2)
  · rw [if_pos y] at e1 e2
    obtain ⟨⟨hty, hbt⟩, ⟨hT, hk, hkN⟩, hJ, hw⟩ := a1
    have a1 : zCo C r k [] ln hd [] N := ⟨⟨hty, hbt⟩, ⟨hT, hk, hkN⟩, hJ, hw⟩
    obtain ⟨p', b1, b2, b3⟩ := Ta_plays (r := r) (N := N) (by omega) (N.drop k) k (zsb (zsh 41) C) zfu rfl hkN hT hPy (by rw [List.length_drop]; unfold zfu; omega)
    have n1 : p'.1 0 1 = N.length := (congrFun (b3 0 (by omega)).1 1).trans hT.1
    have ep : f_Ta_playOn (zsb (zsh 41) C) = some (0, uS p' 0 2 (N.length : Int)) := by
      unfold f_Ta_playOn
      rw [show (zsb (zsh 41) C).1 0 2 = (k : Int) from hk, if_neg (by omega), ← n1]
      exact bindS b1 rfl
    have c : ∀ i j, (zpb (zsh 41) 29 C (uS p' 0 2 (N.length : Int))).1 i j = if 41 ≤ i ∧ i < 41 + 29 then (uS p' 0 2 (N.length : Int)).1 (i - 41) j else C.1 i j := fun i j => zpb1 41 29 C _ i j
    have d : ∀ i, (zpb (zsh 41) 29 C (uS p' 0 2 (N.length : Int))).2 i = if 41 ≤ i ∧ i < 41 + 29 then p'.2 (i - 41) else C.2 i := fun i => zpb2 41 29 C _ i
    generalize hD : zpb (zsh 41) 29 C (uS p' 0 2 (N.length : Int)) = D at *
    have o : ∀ i, (i < 41 ∨ 70 ≤ i) → D.1 i = C.1 i ∧ D.2 i = C.2 i := fun i z => ⟨funext fun j => by rw [c, if_neg (by omega)], by rw [d, if_neg (by omega)]⟩
    have ag : zAg (zsb (zsh 2) p') (zsb (zsh 43) D) := fun i hi => by
      constructor
      · funext j
        show D.1 (i + 43) j = p'.1 (i + 2) j
        rw [c, if_pos (by omega), uS1, if_neg (by omega)]
        congr 1
      · show D.2 (i + 43) = p'.2 (i + 2)
        rw [d, if_pos (by omega)]
        congr 1
    have hA : zRel (zsb (zsh 43) D) r := zRel.cg b2 ag
    refine Or.inl ⟨r.2 1 (zRo r a + b), D, uS r 0 0 0, ?_, e2, rfl, ?_⟩
    · unfold f_Co_cellAnew
      refine bindS e1 (iteT (by decide) (bindS ep ?_))
      dsimp only
      rw [hD]
      obtain ⟨f1, f2⟩ := S_cell hA y.1 y.2
      have e8 : (uS p' 0 2 (N.length : Int)).1 2 8 = (zsb (zsh 43) D).1 0 8 := by
        show _ = D.1 43 8
        rw [c, if_pos (by omega)]
      rw [e8]
      by_cases z : (zsb (zsh 43) D).1 0 8 = 0
      · exact iteT z (bindS (f1 z) rfl)
      · exact iteF z (bindS (f2 z) rfl)
    · have hco : zCo D r N.length [] ln hd [] N := by
        refine ⟨⟨zBy_cg hty ?_ ?_ ?_ ?_, hbt⟩, ⟨hT.cg ?_ ?_ ?_, ?_, Nat.le_refl _⟩, (hJ.cg (fun i hi => o (i + 5) (by omega))).mono fun pg m x => ⟨x.1.cg (fun i hi => o (i + 14) (by omega)), ?_⟩, hw⟩
        · exact congrFun (o 1 (by decide)).1 1
        · exact congrFun (o 1 (by decide)).1 2
        · exact congrFun (o 2 (by decide)).1 0
        · exact (o 2 (by decide)).2
        · show D.1 41 1 = C.1 41 1
          rw [c, if_pos (by omega)]
          exact congrFun (b3 0 (by omega)).1 1
        · show D.2 42 = C.2 42
          rw [d, if_pos (by omega)]
          exact (b3 1 (by omega)).2
        · show D.1 42 0 = C.1 42 0
          rw [c, if_pos (by omega)]
          exact congrFun (b3 1 (by omega)).1 0
        · rw [c, if_pos (by omega)]
          rfl
        · rw [List.drop_length]
          exact hA
      exact ⟨N.length, ln, hd, N, dr, hco.f0 (Or.inl rfl) 0, by omega, (a3.cg (r' := r) (fun i z => o i (by omega)) ⟨rfl, rfl, rfl⟩ ⟨rfl, rfl⟩).f0 (Or.inl rfl) 0⟩
  · rw [if_neg y] at e1 e2
    refine Or.inr ⟨0, uS r 0 0 1, ?_, e2, rfl, (h0.f0 (Or.inl rfl) 1).mono (by omega)⟩
    unfold e_Co_cellAnew
    exact bindS e1 (iteF (by decide) rfl)
