/-! ===== the other rows erased ===== -/
theorem zPo.rf {s r : zSt} (h : zRel s r) : zPo s r s r := ⟨h, rfl, rfl, fun _ _ => rfl⟩
theorem S_others0 {s r : zSt} (h : zRel s r) (hsh : r.1 0 8 = 0) {n : Int} (hn : 0 ≤ n ∧ n ≤ 2) : ∃ s1 r0, zloop (f_Sc_eraseOtherRows_l22 n) zfu (0, s) = some s1 ∧ zloop (f_Rf_erasesAll_l12 n) zfu (0, r) = some (zeR n r0) ∧ zPo s r s1 r0 := by
  have z := h.size
  have hc := h.nums.1
  obtain ⟨c1, c2, c3, c4, c5⟩ := h.cu
  obtain ⟨d1, d2, d3, d4, d5, d6⟩ := h.zz
  obtain ⟨c, ec⟩ : ∃ c, c = r.1 0 9 := ⟨_, rfl⟩
  rw [← ec] at hc c1
  have k := pair_upI (cS := f_Sc_eraseOtherRows_l22 n) (cR := f_Rf_erasesAll_l12 n) (Q := fun i s' r' => ∃ r0, zPo s r s' r0 ∧ r' = if c < i then zeR n r0 else r0) (N := r.1 0 1) (fun i s' r' a1 a2 a3 => ?_) (fun s' r' a1 => ?_) (r.1 0 1).toNat zfu 0 s r (by decide) (by omega) (by omega) (by unfold zfu; omega) ⟨r, zPo.rf h, by rw [if_neg (by omega)]⟩
  · obtain ⟨s1, r1, e1, e2, r0, e3, e4⟩ := k
    rw [if_pos (by omega)] at e4
    rw [e4] at e2
    exact ⟨s1, r0, e1, e2, e3⟩
  · obtain ⟨r0, b1, b2⟩ := a3
    have hR := b1.1
    have es : s'.1 = s.1 := b1.2.1
    have er : r0.1 = r.1 := b1.2.2.1
    have hZ := hR.2.1.1
    have hs0 := hR.nums
    have ec0 : r0.1 0 9 = c := by rw [er, ec]
    have es9 : s'.1 0 9 = r.1 0 1 := by rw [es, d2]
    have es12 : s'.1 12 0 = c := by rw [es, c1]
    have er'1 : r'.1 = r.1 := by
      rw [b2]
      split
      · exact er
      · exact er
    have er1 : r'.1 0 1 = r.1 0 1 := by rw [er'1]
    have er9 : r'.1 0 9 = c := by rw [er'1, ec]
    have hZ' : zRZ r' := by
      rw [b2]
      split
      · exact hZ
      · exact hZ
    have ew : w32 (i + 1) = i + 1 := w32i (by omega) (by omega)
    obtain ⟨p1, r1, f1, f2, f3⟩ := P0_clearRow hR (by rw [er]; exact hsh) (a := i) (by rw [er]; omega)
    have f4 := c_Rf_emptiesRow hZ (a := i) (by omega)
    have f5 : r1 = zcR i r0 := (Prod.mk.inj (Option.some.inj (f2.symm.trans f4))).2
    rw [f5] at f3
    have f6 : f_Rf_emptiesRow i r' = some (0, zcR i r') := c_Rf_emptiesRow hZ' (a := i) (by omega)
    -- the steps
    have sClr : n = 2 ∨ (n = 0 ∧ c < i) ∨ (n = 1 ∧ i < c) → f_Sc_eraseOtherRows_l22 n (i, s') = some (.inl (i + 1, zpb (zsh 2) 3 s' p1)) := by
      intro q
      have e9 : ((f_Pi_clearRow i (zsb (zsh 2) s')).bind fun x3 => (some (Sum.inl (w32 (i + 1), zpb (zsh 2) 3 s' x3.2)) : Option ((Int × zSt) ⊕ zSt))) = some (.inl (i + 1, zpb (zsh 2) 3 s' p1)) := bindS f1 (by rw [ew])
      unfold f_Sc_eraseOtherRows_l22
      refine iteF (by show ¬ s'.1 0 9 ≤ i; omega) ?_
      by_cases q2 : n = 2
      · exact iteT q2 e9
      by_cases q0 : n = 0
      · exact iteF q2 (iteF (by simpa using q0) (iteT (by show s'.1 12 0 < i; omega) e9))
      · exact iteF q2 (iteT q0 (iteF (by omega) (iteF (by show ¬ s'.1 12 0 ≤ i; omega) e9)))
    have sSkip : ¬ (n = 2 ∨ (n = 0 ∧ c < i) ∨ (n = 1 ∧ i < c)) → f_Sc_eraseOtherRows_l22 n (i, s') = some (.inl (i + 1, s')) := by
      intro q
      have e9 : (some (Sum.inl (w32 (i + 1), s')) : Option ((Int × zSt) ⊕ zSt)) = some (.inl (i + 1, s')) := by rw [ew]
      unfold f_Sc_eraseOtherRows_l22
      refine iteF (by show ¬ s'.1 0 9 ≤ i; omega) (iteF (by omega) ?_)
      by_cases q0 : n = 0
      · exact iteF (by simpa using q0) (iteF (by show ¬ s'.1 12 0 < i; omega) (iteT (by omega) e9))
      · exact iteT q0 (iteF (by omega) (iteT (by show s'.1 12 0 ≤ i; omega) e9))
    have rClr : i ≠ c → n = 2 ∨ (n = 0 ∧ c < i) ∨ (n = 1 ∧ i < c) → f_Rf_erasesAll_l12 n (i, r') = some (.inl (i + 1, zcR i r')) := by
      intro qc q
      have e9 : ((f_Rf_emptiesRow i r').bind fun x5 => (some (Sum.inl (w32 (i + 1), x5.2)) : Option ((Int × zSt) ⊕ zSt))) = some (.inl (i + 1, zcR i r')) := bindS f6 (by rw [ew])
      unfold f_Rf_erasesAll_l12
      refine iteF (by show ¬ r'.1 0 1 ≤ i; omega) (iteF (by omega) (iteT (by show ¬ i = r'.1 0 9; omega) ?_))
      by_cases q2 : n = 2
      · exact iteT q2 e9
      · refine iteF q2 (iteF ?_ e9)
        show ¬ ¬ ((if ¬ n = 0 then (0 : Int) else 1) = if i ≤ r'.1 0 9 then 0 else 1)
        rw [er9]
        clear sClr sSkip f1 f2 f3 f4 f5 f6
        grind
    have rSkip : i ≠ c → ¬ (n = 2 ∨ (n = 0 ∧ c < i) ∨ (n = 1 ∧ i < c)) → f_Rf_erasesAll_l12 n (i, r') = some (.inl (i + 1, r')) := by
      intro qc q
      unfold f_Rf_erasesAll_l12
      refine iteF (by show ¬ r'.1 0 1 ≤ i; omega) (iteF (by omega) (iteT (by show ¬ i = r'.1 0 9; omega) (iteF (by omega) (iteT ?_ (by rw [ew])))))
      show ¬ ((if ¬ n = 0 then (0 : Int) else 1) = if i ≤ r'.1 0 9 then 0 else 1)
      rw [er9]
      clear sClr sSkip f1 f2 f3 f4 f5 f6 rClr
      grind
    by_cases qc : i = c
    · have hr' : r' = r0 := by rw [b2, if_neg (by omega)]
      have e9 : f_Rf_erasesAll_l12 n (i, r') = some (.inl (i + 1, zeR n r0)) := by
        have e := c_Rf_erasesRow (r := r0) hZ hs0 hn
        unfold f_Rf_erasesAll_l12
        refine iteF (by show ¬ r'.1 0 1 ≤ i; omega) (iteF (by omega) (iteF (by show ¬ ¬ i = r'.1 0 9; omega) ?_))
        refine bindS (x := (0, zeR n r0)) ?_ (by rw [ew])
        show f_Rf_erasesRow i n r' = _
        rw [hr', qc, ← ec0]
        exact e
      by_cases q2 : n = 2
      · refine ⟨_, _, sClr (Or.inl q2), e9, zcR i r0, b1.trans f3, ?_⟩
        rw [if_pos (by omega), q2]
        have hw := hR.rowwf (a := r0.1 0 9) hs0.1
        rw [qc, ← ec0]
        exact (L_eR_cR hZ hw).symm
      · exact ⟨_, _, sSkip (by omega), e9, r0, b1, by rw [if_pos (by omega)]⟩
    · by_cases q : n = 2 ∨ (n = 0 ∧ c < i) ∨ (n = 1 ∧ i < c)
      · refine ⟨_, _, sClr q, rClr qc q, zcR i r0, b1.trans f3, ?_⟩
        rw [b2]
        by_cases q3 : c < i
        · rw [if_pos q3, if_pos (by omega)]
          exact L_cR_eR hZ hs0 hn (by omega)
        · rw [if_neg q3, if_neg (by omega)]
      · refine ⟨_, _, sSkip q, rSkip qc q, r0, b1, ?_⟩
        rw [b2]
        by_cases q3 : c < i
        · rw [if_pos q3, if_pos (by omega)]
        · rw [if_neg q3, if_neg (by omega)]
  · obtain ⟨r0, b1, b2⟩ := a1
    have es : s'.1 = s.1 := b1.2.1
    have er : r0.1 = r.1 := b1.2.2.1
    rw [if_pos (by omega)] at b2
    have er1 : r'.1 0 1 = r.1 0 1 := by
      rw [b2]
      show r0.1 0 1 = _
      rw [er]
    refine ⟨?_, ?_⟩
    · unfold f_Sc_eraseOtherRows_l22
      exact iteT (by show s'.1 0 9 ≤ r.1 0 1; rw [es, d2]; omega) rfl
    · unfold f_Rf_erasesAll_l12
      exact iteT (by show r'.1 0 1 ≤ r.1 0 1; omega) rfl
theorem S_others1 {s r : zSt} (h : zRel s r) (hsh : r.1 0 8 = 1) {n : Int} (hn : 0 ≤ n ∧ n ≤ 2) : ∃ s1 r0, zloop (f_Sc_eraseOtherRows_l22_1 n) zfu (0, s) = some s1 ∧ zloop (f_Rf_erasesAll_l12 n) zfu (0, r) = some (zeR n r0) ∧ zPo s r s1 r0 := by
  have z := h.size
  have hc := h.nums.1
  obtain ⟨c1, c2, c3, c4, c5⟩ := h.cu
  obtain ⟨d1, d2, d3, d4, d5, d6⟩ := h.zz
  obtain ⟨c, ec⟩ : ∃ c, c = r.1 0 9 := ⟨_, rfl⟩
  rw [← ec] at hc c1
  have k := pair_upI (cS := f_Sc_eraseOtherRows_l22_1 n) (cR := f_Rf_erasesAll_l12 n) (Q := fun i s' r' => ∃ r0, zPo s r s' r0 ∧ r' = if c < i then zeR n r0 else r0) (N := r.1 0 1) (fun i s' r' a1 a2 a3 => ?_) (fun s' r' a1 => ?_) (r.1 0 1).toNat zfu 0 s r (by decide) (by omega) (by omega) (by unfold zfu; omega) ⟨r, zPo.rf h, by rw [if_neg (by omega)]⟩
  · obtain ⟨s1, r1, e1, e2, r0, e3, e4⟩ := k
    rw [if_pos (by omega)] at e4
    rw [e4] at e2
    exact ⟨s1, r0, e1, e2, e3⟩
  · obtain ⟨r0, b1, b2⟩ := a3
    have hR := b1.1
    have es : s'.1 = s.1 := b1.2.1
    have er : r0.1 = r.1 := b1.2.2.1
    have hZ := hR.2.1.1
    have hs0 := hR.nums
    have ec0 : r0.1 0 9 = c := by rw [er, ec]
    have es9 : s'.1 0 9 = r.1 0 1 := by rw [es, d2]
    have es12 : s'.1 12 0 = c := by rw [es, c1]
    have er'1 : r'.1 = r.1 := by
      rw [b2]
      split
      · exact er
      · exact er
    have er1 : r'.1 0 1 = r.1 0 1 := by rw [er'1]
    have er9 : r'.1 0 9 = c := by rw [er'1, ec]
    have hZ' : zRZ r' := by
      rw [b2]
      split
      · exact hZ
      · exact hZ
    have ew : w32 (i + 1) = i + 1 := w32i (by omega) (by omega)
    obtain ⟨p1, r1, f1, f2, f3⟩ := P1_clearRow hR (by rw [er]; exact hsh) (a := i) (by rw [er]; omega)
    have f4 := c_Rf_emptiesRow hZ (a := i) (by omega)
    have f5 : r1 = zcR i r0 := (Prod.mk.inj (Option.some.inj (f2.symm.trans f4))).2
    rw [f5] at f3
    have f6 : f_Rf_emptiesRow i r' = some (0, zcR i r') := c_Rf_emptiesRow hZ' (a := i) (by omega)
    -- the steps
    have sClr : n = 2 ∨ (n = 0 ∧ c < i) ∨ (n = 1 ∧ i < c) → f_Sc_eraseOtherRows_l22_1 n (i, s') = some (.inl (i + 1, zpb (zsh 22) 3 s' p1)) := by
      intro q
      have e9 : ((f_Pi_clearRow i (zsb (zsh 22) s')).bind fun x3 => (some (Sum.inl (w32 (i + 1), zpb (zsh 22) 3 s' x3.2)) : Option ((Int × zSt) ⊕ zSt))) = some (.inl (i + 1, zpb (zsh 22) 3 s' p1)) := bindS f1 (by rw [ew])
      unfold f_Sc_eraseOtherRows_l22_1
      refine iteF (by show ¬ s'.1 0 9 ≤ i; omega) ?_
      by_cases q2 : n = 2
      · exact iteT q2 e9
      by_cases q0 : n = 0
      · exact iteF q2 (iteF (by simpa using q0) (iteT (by show s'.1 12 0 < i; omega) e9))
      · exact iteF q2 (iteT q0 (iteF (by omega) (iteF (by show ¬ s'.1 12 0 ≤ i; omega) e9)))
    have sSkip : ¬ (n = 2 ∨ (n = 0 ∧ c < i) ∨ (n = 1 ∧ i < c)) → f_Sc_eraseOtherRows_l22_1 n (i, s') = some (.inl (i + 1, s')) := by
      intro q
      have e9 : (some (Sum.inl (w32 (i + 1), s')) : Option ((Int × zSt) ⊕ zSt)) = some (.inl (i + 1, s')) := by rw [ew]
      unfold f_Sc_eraseOtherRows_l22_1
      refine iteF (by show ¬ s'.1 0 9 ≤ i; omega) (iteF (by omega) ?_)
      by_cases q0 : n = 0
      · exact iteF (by simpa using q0) (iteF (by show ¬ s'.1 12 0 < i; omega) (iteT (by omega) e9))
      · exact iteT q0 (iteF (by omega) (iteT (by show s'.1 12 0 ≤ i; omega) e9))
    have rClr : i ≠ c → n = 2 ∨ (n = 0 ∧ c < i) ∨ (n = 1 ∧ i < c) → f_Rf_erasesAll_l12 n (i, r') = some (.inl (i + 1, zcR i r')) := by
      intro qc q
      have e9 : ((f_Rf_emptiesRow i r').bind fun x5 => (some (Sum.inl (w32 (i + 1), x5.2)) : Option ((Int × zSt) ⊕ zSt))) = some (.inl (i + 1, zcR i r')) := bindS f6 (by rw [ew])
      unfold f_Rf_erasesAll_l12
      refine iteF (by show ¬ r'.1 0 1 ≤ i; omega) (iteF (by omega) (iteT (by show ¬ i = r'.1 0 9; omega) ?_))
      by_cases q2 : n = 2
      · exact iteT q2 e9
      · refine iteF q2 (iteF ?_ e9)
        show ¬ ¬ ((if ¬ n = 0 then (0 : Int) else 1) = if i ≤ r'.1 0 9 then 0 else 1)
        rw [er9]
        clear sClr sSkip f1 f2 f3 f4 f5 f6
        grind
    have rSkip : i ≠ c → ¬ (n = 2 ∨ (n = 0 ∧ c < i) ∨ (n = 1 ∧ i < c)) → f_Rf_erasesAll_l12 n (i, r') = some (.inl (i + 1, r')) := by
      intro qc q
      unfold f_Rf_erasesAll_l12
      refine iteF (by show ¬ r'.1 0 1 ≤ i; omega) (iteF (by omega) (iteT (by show ¬ i = r'.1 0 9; omega) (iteF (by omega) (iteT ?_ (by rw [ew])))))
      show ¬ ((if ¬ n = 0 then (0 : Int) else 1) = if i ≤ r'.1 0 9 then 0 else 1)
      rw [er9]
      clear sClr sSkip f1 f2 f3 f4 f5 f6 rClr
      grind
    by_cases qc : i = c
    · have hr' : r' = r0 := by rw [b2, if_neg (by omega)]
      have e9 : f_Rf_erasesAll_l12 n (i, r') = some (.inl (i + 1, zeR n r0)) := by
        have e := c_Rf_erasesRow (r := r0) hZ hs0 hn
        unfold f_Rf_erasesAll_l12
        refine iteF (by show ¬ r'.1 0 1 ≤ i; omega) (iteF (by omega) (iteF (by show ¬ ¬ i = r'.1 0 9; omega) ?_))
        refine bindS (x := (0, zeR n r0)) ?_ (by rw [ew])
        show f_Rf_erasesRow i n r' = _
        rw [hr', qc, ← ec0]
        exact e
      by_cases q2 : n = 2
      · refine ⟨_, _, sClr (Or.inl q2), e9, zcR i r0, b1.trans f3, ?_⟩
        rw [if_pos (by omega), q2]
        have hw := hR.rowwf (a := r0.1 0 9) hs0.1
        rw [qc, ← ec0]
        exact (L_eR_cR hZ hw).symm
      · exact ⟨_, _, sSkip (by omega), e9, r0, b1, by rw [if_pos (by omega)]⟩
    · by_cases q : n = 2 ∨ (n = 0 ∧ c < i) ∨ (n = 1 ∧ i < c)
      · refine ⟨_, _, sClr q, rClr qc q, zcR i r0, b1.trans f3, ?_⟩
        rw [b2]
        by_cases q3 : c < i
        · rw [if_pos q3, if_pos (by omega)]
          exact L_cR_eR hZ hs0 hn (by omega)
        · rw [if_neg q3, if_neg (by omega)]
      · refine ⟨_, _, sSkip q, rSkip qc q, r0, b1, ?_⟩
        rw [b2]
        by_cases q3 : c < i
        · rw [if_pos q3, if_pos (by omega)]
        · rw [if_neg q3, if_neg (by omega)]
  · obtain ⟨r0, b1, b2⟩ := a1
    have es : s'.1 = s.1 := b1.2.1
    have er : r0.1 = r.1 := b1.2.2.1
    rw [if_pos (by omega)] at b2
    have er1 : r'.1 0 1 = r.1 0 1 := by
      rw [b2]
      show r0.1 0 1 = _
      rw [er]
    refine ⟨?_, ?_⟩
    · unfold f_Sc_eraseOtherRows_l22_1
      exact iteT (by show s'.1 0 9 ≤ r.1 0 1; rw [es, d2]; omega) rfl
    · unfold f_Rf_erasesAll_l12
      exact iteT (by show r'.1 0 1 ≤ r.1 0 1; omega) rfl
