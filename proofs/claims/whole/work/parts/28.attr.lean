/-! ===== attributes, places, regions ===== -/
theorem S_setAttr {s r : zSt} (h : zRel s r) (ht : r.1 0 31 ≤ 4) : ∃ s1 r1, f_Sc_setAttribute s = some (0, s1) ∧ f_Rf_colours r = some (0, r1) ∧ zRel s1 r1 ∧ zKp r r1 := by
  have h4 := h.nu.2.1
  have k := pair_up (cS := f_Sc_setAttribute_l2) (cR := f_Rf_colours_l2) (Q := fun s1 r1 => zRel s1 r1 ∧ zKp r r1) (N := r.1 0 31) (fun i s2 r2 a1 a2 a3 => ?_) (fun i s2 r2 a1 a2 => ?_) (r.1 0 31).toNat zfu 0 s r (by decide) (by omega) (by unfold zfu; omega) ⟨h, zKp.rf r⟩
  · obtain ⟨s1, r1, e1, e2, e3, e4⟩ := k
    exact ⟨s1, r1, bindS e1 rfl, bindS e2 rfl, e3, e4⟩
  · obtain ⟨g1, g2⟩ := a3
    have e31 : r2.1 0 31 = r.1 0 31 := g2.1 31 (by omega)
    obtain ⟨⟨k1, k2, k3⟩, k4, k5, k6, k7⟩ := g1.nu
    obtain ⟨c1, c2, c3, c4, c5⟩ := g1.cu
    have ha := g1.nums.2.2.2.1
    have en := g1.num (i := i) (by omega)
    rw [if_pos (by omega)] at en
    have hr := k5 i a1 (by omega) (by omega)
    have ew : w32 (i + 1) = i + 1 := w32i (by omega) (by omega)
    have hin : 0 ≤ i ∧ i < r2.1 5 0 := ⟨a1, by omega⟩
    obtain ⟨m, hm⟩ : ∃ m, m = r2.2 5 i := ⟨_, rfl⟩
    rw [← hm] at en hr
    have hI1 : f_Rf_in m 1 4 = some (if m < 1 then 0 else if 4 < m then 0 else 1) := rfl
    have hI2 : f_Rf_in m 21 24 = some (if m < 21 then 0 else if 24 < m then 0 else 1) := rfl
    by_cases q0 : m = 0
    · refine ⟨uS s2 12 3 0, uS r2 0 12 0, ?_, ?_, g1.attr (by decide), g2.trans (zKp.uS (by decide))⟩
      · unfold f_Sc_setAttribute_l2
        refine iteF (by show ¬ s2.1 14 4 ≤ i; omega) (bindS en (iteF (by simpa using q0) ?_))
        show some (Sum.inl (w32 (i + 1), _)) = _
        rw [ew]
      · unfold f_Rf_colours_l2
        refine iteF (by show ¬ r2.1 0 31 ≤ i; omega) (iteT hin (iteF (by rw [← hm]; simpa using q0) ?_))
        show some (Sum.inl (w32 (i + 1), _)) = _
        rw [ew]
    by_cases q1 : m ≤ 4
    · have hx := zat_or ha (n := m - 1) (by omega)
      have ew1 : w32 (m - 1) = m - 1 := w32i (by omega) (by omega)
      refine ⟨uS s2 12 3 (wOr (r2.1 0 12) (wShl 1 (m - 1))), uS r2 0 12 (wOr (r2.1 0 12) (wShl 1 (m - 1))), ?_, ?_, g1.attr hx, g2.trans (zKp.uS (by decide))⟩
      · unfold f_Sc_setAttribute_l2
        refine iteF (by show ¬ s2.1 14 4 ≤ i; omega) (bindS en (iteT q0 (iteF (by omega) (iteF (by omega) ?_))))
        show some (Sum.inl (w32 (i + 1), uS s2 12 3 (wOr (s2.1 12 3) (wShl 1 (w32 (m - 1)))))) = _
        rw [ew, ew1, c4]
      · unfold f_Rf_colours_l2
        refine iteF (by show ¬ r2.1 0 31 ≤ i; omega) (iteT hin (iteT (by rw [← hm]; exact q0) ?_))
        show ((f_Rf_in (r2.2 5 i) 1 4).bind _) = _
        rw [← hm, hI1, if_neg (by omega), if_neg (by omega)]
        refine bindS rfl (iteF (by decide) ?_)
        show some (Sum.inl (w32 (i + 1), uS r2 0 12 (wOr (r2.1 0 12) (wShl 1 (w32 (m - 1)))))) = _
        rw [ew, ew1]
    by_cases q2 : 21 ≤ m ∧ m ≤ 24
    · have hx := zat_clr ha (n := m - 21) (by omega)
      have ew1 : w32 (m - 21) = m - 21 := w32i (by omega) (by omega)
      refine ⟨uS s2 12 3 (wAnd (r2.1 0 12) (wXor (wShl 1 (m - 21)) (-1))), uS r2 0 12 (wAnd (r2.1 0 12) (wXor (wShl 1 (m - 21)) (-1))), ?_, ?_, g1.attr hx, g2.trans (zKp.uS (by decide))⟩
      · unfold f_Sc_setAttribute_l2
        refine iteF (by show ¬ s2.1 14 4 ≤ i; omega) (bindS en (iteT q0 (iteF (by omega) (iteT (by omega) (iteF (by omega) (iteF (by omega) ?_))))))
        show some (Sum.inl (w32 (i + 1), uS s2 12 3 (wAnd (s2.1 12 3) (wXor (wShl 1 (w32 (m - 21))) (-1))))) = _
        rw [ew, ew1, c4]
      · unfold f_Rf_colours_l2
        refine iteF (by show ¬ r2.1 0 31 ≤ i; omega) (iteT hin (iteT (by rw [← hm]; exact q0) ?_))
        show ((f_Rf_in (r2.2 5 i) 1 4).bind _) = _
        rw [← hm, hI1, if_neg (by omega), if_pos (by omega)]
        refine bindS rfl (iteT rfl ?_)
        rw [hI2, if_neg (by omega), if_neg (by omega)]
        show some (Sum.inl (w32 (i + 1), uS r2 0 12 (if (1 : Int) = 0 then r2.1 0 12 else wAnd (r2.1 0 12) (wXor (wShl 1 (w32 (m - 21))) (-1))))) = _
        rw [ew, ew1, if_neg (by decide)]
    · refine ⟨s2, r2, ?_, ?_, g1, g2⟩
      · unfold f_Sc_setAttribute_l2
        refine iteF (by show ¬ s2.1 14 4 ≤ i; omega) (bindS en (iteT q0 (iteF (by omega) (iteT (by omega) ?_))))
        have e9 : some (Sum.inl (w32 (i + 1), s2) : (Int × zSt) ⊕ zSt) = some (Sum.inl (i + 1, s2)) := by rw [ew]
        by_cases q3 : m < 21
        · exact iteT q3 e9
        · exact iteF q3 (iteT (by omega) e9)
      · unfold f_Rf_colours_l2
        refine iteF (by show ¬ r2.1 0 31 ≤ i; omega) (iteT hin (iteT (by rw [← hm]; exact q0) ?_))
        show ((f_Rf_in (r2.2 5 i) 1 4).bind _) = _
        rw [← hm, hI1, if_neg (by omega), if_pos (by omega)]
        refine bindS rfl (iteT rfl ?_)
        rw [hI2, show (if m < 21 then (0 : Int) else if 24 < m then 0 else 1) = 0 by grind]
        show some (Sum.inl (w32 (i + 1), uS r2 0 12 (r2.1 0 12))) = _
        rw [ew, uS_id]
  · obtain ⟨g1, g2⟩ := a2
    have e31 : r2.1 0 31 = r.1 0 31 := g2.1 31 (by omega)
    have k1 := g1.nu.1.1
    refine ⟨?_, ?_⟩
    · unfold f_Sc_setAttribute_l2
      exact iteT (by show s2.1 14 4 ≤ i; omega) rfl
    · unfold f_Rf_colours_l2
      exact iteT (by show r2.1 0 31 ≤ i; omega) rfl
/-- the place that the class goes to -/
def zgr (r : zSt) (a : Int) : Int := if r.1 0 17 = 0 then (if r.1 0 1 - 1 < a - 1 then r.1 0 1 - 1 else a - 1) else (if r.1 0 14 < r.1 0 13 + a - 1 then r.1 0 14 else r.1 0 13 + a - 1)
def zgc (r : zSt) (b : Int) : Int := if r.1 0 2 < b then r.1 0 2 - 1 else b - 1
theorem c_goTo {s r : zSt} (h : zRel s r) {a b : Int} (ha : 1 ≤ a ∧ a ≤ 9999) (hb : 1 ≤ b ∧ b ≤ 9999) : f_Sc_goTo a b s = some (0, uS (uS (uS s 12 0 (zgr r a)) 12 1 (zgc r b)) 12 2 0) ∧ (0 ≤ zgr r a ∧ zgr r a < r.1 0 1) ∧ (0 ≤ zgc r b ∧ zgc r b < r.1 0 2) := by
  have hn := h.nums
  have z := h.size
  have hm := h.mode
  obtain ⟨c1, c2, c3, c4, c5⟩ := h.cu
  obtain ⟨d1, d2, d3, d4, d5, d6⟩ := h.zz
  have hreg := hn.2.2.2.2.1
  have e1 : (if (if s.1 12 4 = 0 then w32 (s.1 0 9 - 1) else s.1 0 13) < w32 (w32 ((if s.1 12 4 = 0 then 0 else s.1 0 12) + a) - 1) then (if s.1 12 4 = 0 then w32 (s.1 0 9 - 1) else s.1 0 13) else w32 (w32 ((if s.1 12 4 = 0 then 0 else s.1 0 12) + a) - 1)) = zgr r a := by
    rw [c5, d2, d5, d6]
    unfold zgr
    by_cases q : r.1 0 17 = 0
    · simp only [if_pos q]
      rw [w32i (x := r.1 0 1 - 1) (by omega) (by omega), w32i (x := 0 + a) (by omega) (by omega), w32i (by omega) (by omega)]
      grind
    · simp only [if_neg q]
      rw [w32i (x := r.1 0 13 + a) (by omega) (by omega), w32i (by omega) (by omega)]
  have e2 : w32 ((if s.1 0 10 < b then s.1 0 10 else b) - 1) = zgc r b := by
    rw [d3]
    unfold zgc
    by_cases q : r.1 0 2 < b
    · rw [if_pos q, if_pos q, w32i (by omega) (by omega)]
    · rw [if_neg q, if_neg q, w32i (by omega) (by omega)]
  refine ⟨?_, ?_, ?_⟩
  · unfold f_Sc_goTo
    rw [e1, e2]
    refine bindS (x := (0, uS (uS (uS (zsb (zsh 12) s) 0 0 (zgr r a)) 0 1 (zgc r b)) 0 2 0)) rfl ?_
    show some ((0 : Int), zpb (zsh 12) 1 s (uS (uS (uS (zsb (zsh 12) s) 0 0 _) 0 1 _) 0 2 0)) = _
    rw [zpb_uS _ _ _ _ _ _ _ (by omega), zpb_uS _ _ _ _ _ _ _ (by omega), zpb_uS _ _ _ _ _ _ _ (by omega), zpb_same]
  · unfold zgr
    grind
  · unfold zgc
    grind
theorem S_goTo {s r : zSt} (h : zRel s r) {a b : Int} (ha : 1 ≤ a ∧ a ≤ 9999) (hb : 1 ≤ b ∧ b ≤ 9999) : ∃ s1, f_Sc_goTo a b s = some (0, s1) ∧ zRel s1 (uS (uS (uS r 0 9 (zgr r a)) 0 10 (zgc r b)) 0 11 0) := by
  obtain ⟨e1, e2, e3⟩ := c_goTo h ha hb
  exact ⟨_, e1, (((h.row e2).col (x := zgc r b) e3).late (Or.inl rfl))⟩
