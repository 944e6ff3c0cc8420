/-! ===== public methods: past, goesOn, title, told ===== -/
def e_Co_past (a1 a2 : Int) (s : zSt) : Option Int := if a1 < 0 then some 3 else (f_Hi_count (zsb (zsh 19) s)).bind fun x2 => if x2 ≤ a1 then some 3 else if a2 < 0 then some 3 else if a2 < (s.1 14 10) then none else some 3
theorem M_past {B : Nat} {C r : zSt} (h : zWh B C r) (a b : Int) : zMrd (B + 100) C (f_Co_past a b C) (f_Rf_past a b r) ∨ zMth (B + 100) C (e_Co_past a b C) (f_Rf_past a b r) 3 1 := by
  have h0 := h
  obtain ⟨k, ln, hd, N, dr, a1, a2, a3⟩ := h
  have hR := a1.rel.1
  have z := hR.size
  have hn := hR.nums.2.2.2.2.2
  have xh := hR.2.2.2.2.1
  have xz : C.1 14 10 = r.1 0 2 := hR.2.2.2.2.2.2.2.2.1.2.2.1
  have hl : C.1 20 0 = 960 := hR.1.1.2.2.1
  have hl3 : r.1 3 0 = 960 := hR.2.1.1.1.2.2.1
  have e5 : C.1 19 2 = r.1 0 7 := xh.1
  have er : ∀ v x, (if ¬ (0 ≤ a ∧ a < r.1 0 7) ∨ ¬ (0 ≤ b ∧ b < r.1 0 2) then (v = 0 ∧ x = 1) else (v = r.2 3 (24 * a + b) ∧ x = 0)) → f_Rf_past a b r = some (v, uS r 0 0 x) := by
    intro v x q
    unfold f_Rf_past
    rw [w32i (x := r.1 0 7 - 1) (by omega) (by omega), w32i (x := r.1 0 2 - 1) (by omega) (by omega)]
    by_cases y1 : 0 ≤ a ∧ a ≤ r.1 0 7 - 1
    · refine bindS (in_1 y1) (iteF (by decide) ?_)
      by_cases y2 : 0 ≤ b ∧ b ≤ r.1 0 2 - 1
      · rw [if_neg (by omega)] at q
        have ew : w32 (w32 (24 * a) + b) = 24 * a + b := by rw [w32i (x := 24 * a) (by omega) (by omega), w32i (by omega) (by omega)]
        refine bindS (in_1 y2) ?_
        rw [one_1, ew, q.1, q.2]
        exact iteT (by decide) (iteT (by omega) rfl)
      · rw [if_pos (by omega)] at q
        refine bindS (in_0 y2) ?_
        rw [one_0, q.1, q.2]
        exact iteF (by decide) rfl
    · rw [if_pos (by omega)] at q
      refine bindS (in_0 y1) (iteT rfl ?_)
      rw [q.1, q.2]
      rfl
  by_cases y : ¬ (0 ≤ a ∧ a < r.1 0 7) ∨ ¬ (0 ≤ b ∧ b < r.1 0 2)
  · refine Or.inr ⟨0, uS r 0 0 1, ?_, er 0 1 (by rw [if_pos y]; exact ⟨rfl, rfl⟩), rfl, (h0.f0 (Or.inl rfl) 1).mono (by omega)⟩
    unfold e_Co_past
    by_cases z1 : a < 0
    · exact iteT z1 rfl
    refine iteF z1 (bindS rfl ?_)
    show (if C.1 19 2 ≤ a then _ else _) = _
    by_cases z2 : C.1 19 2 ≤ a
    · exact iteT z2 rfl
    refine iteF z2 ?_
    by_cases z3 : b < 0
    · exact iteT z3 rfl
    exact iteF z3 (iteF (by omega) rfl)
  · refine Or.inl ⟨r.2 3 (24 * a + b), uS r 0 0 0, ?_, er _ 0 (by rw [if_neg y]; exact ⟨rfl, rfl⟩), rfl, (h0.f0 (Or.inl rfl) 0).mono (by omega)⟩
    have ew : w32 (w32 (a * 24) + b) = 24 * a + b := by rw [w32i (x := a * 24) (by omega) (by omega), w32i (by omega) (by omega)]; omega
    have ev : C.2 20 (24 * a + b) = r.2 3 (24 * a + b) := xh.2.1 _ (by omega) (by omega)
    unfold f_Co_past
    refine iteF (by omega) (bindS rfl ?_)
    show (if C.1 19 2 ≤ a then _ else _) = _
    refine iteF (by omega) (iteF (by omega) (iteT (by omega) (bindS ?_ rfl)))
    unfold f_Hi_at
    rw [ew]
    show (if a < 0 then _ else if C.1 19 2 ≤ a then _ else if 40 ≤ a then _ else if b < 0 then _ else if b < 24 then (if 0 ≤ 24 * a + b ∧ 24 * a + b < C.1 20 0 then some (C.2 20 (24 * a + b)) else none) else _) = _
    rw [if_neg (by omega), if_neg (by omega), if_neg (by omega), if_neg (by omega), if_pos (by omega), if_pos (by omega), ev]
def e_Co_goesOn (a1 : Int) (s : zSt) : Option Int := (f_Hi_count (zsb (zsh 19) s)).bind fun x1 => if a1 < (w32 (-x1)) then some 3 else if a1 < (s.1 14 9) then none else some 3
theorem b01 {x : Int} (h : x = 0 ∨ x = 1) : (if x = 0 then (0 : Int) else 1) = x := by
  rcases h with q | q <;> rw [q] <;> rfl
theorem M_goesOn {B : Nat} {C r : zSt} (h : zWh B C r) (a : Int) : zMrd (B + 100) C (f_Co_goesOn a C) (f_Rf_goesOn a r) ∨ zMth (B + 100) C (e_Co_goesOn a C) (f_Rf_goesOn a r) 3 1 := by
  have h0 := h
  obtain ⟨k, ln, hd, N, dr, a1, a2, a3⟩ := h
  have hR := a1.rel.1
  have z := hR.size
  have z8 := hR.2.1.1.2.2.2
  have hn := hR.nums.2.2.2.2.2
  have xh := hR.2.2.2.2.1
  have x0 := hR.2.2.1
  have x1 := hR.2.2.2.1
  have hL := hR.1
  have hg := hR.2.1.2.1
  have hrh := hR.2.1.2.2.2.2.2.2.2.1
  have xz : C.1 14 9 = r.1 0 1 := hR.2.2.2.2.2.2.2.2.1.2.1
  have xz8 : C.1 14 8 = r.1 0 8 := hR.2.2.2.2.2.2.2.2.1.1
  have e5 : C.1 19 2 = r.1 0 7 := xh.1
  have hl2 : r.1 2 0 = 24 := hR.2.1.1.1.2.1
  have hl4 : r.1 4 0 = 40 := hR.2.1.1.1.2.2.2.1
  have en : w32 (-(r.1 0 7)) = -(r.1 0 7) := w32i (by omega) (by omega)
  have e1 : w32 (r.1 0 1 - 1) = r.1 0 1 - 1 := w32i (by omega) (by omega)
  by_cases y : -(r.1 0 7) ≤ a ∧ a ≤ r.1 0 1 - 1
  · obtain ⟨v, hv⟩ : ∃ v, v = (if 0 ≤ a then r.2 2 (12 * r.1 0 8 + a) else r.2 4 (r.1 0 7 + a)) := ⟨_, rfl⟩
    have hv01 : v = 0 ∨ v = 1 := by
      rw [hv]
      by_cases q : 0 ≤ a
      · rw [if_pos q]; exact hg _
      · rw [if_neg q]; exact hrh _
    refine Or.inl ⟨v, uS r 0 0 0, ?_, ?_, rfl, (h0.f0 (Or.inl rfl) 0).mono (by omega)⟩
    · unfold f_Co_goesOn
      refine bindS (show f_Hi_count (zsb (zsh 19) C) = some (r.1 0 7) from congrArg some e5) ?_
      refine iteF (by rw [en]; omega) (iteT (by omega) ?_)
      by_cases q : 0 ≤ a
      · refine iteT q ?_
        rw [if_pos q] at hv
        have fin : ∀ x : Option Int, x = some (if v = 0 then 0 else 1) → (x.bind fun x6 => if x6 = 0 ∨ x6 = 1 then some x6 else none) = some v := by
          intro x hx
          rw [hx, b01 hv01]
          exact iteT hv01 rfl
        by_cases q8 : C.1 14 8 = 0
        · refine iteT q8 (fin _ ?_)
          have ev : C.2 18 a = v := by
            have : C.2 18 a = r.2 2 (0 + a) := x0.2.1 a (by omega) (by omega)
            rw [this, hv, show 12 * r.1 0 8 + a = 0 + a by omega]
          have el : C.1 18 0 = 12 := hL.1.2.1
          unfold f_Pi_isGoing
          show (if a < 0 then _ else if 12 ≤ a then _ else if 0 ≤ a ∧ a < C.1 18 0 then some (if C.2 18 a = 0 then 0 else 1) else none) = _
          rw [if_neg (by omega), if_neg (by omega), if_pos (by omega), ev]
        · refine iteF q8 (fin _ ?_)
          have ev : C.2 38 a = v := by
            have : C.2 38 a = r.2 2 (12 + a) := x1.2.1 a (by omega) (by omega)
            rw [this, hv, show 12 * r.1 0 8 + a = 12 + a by omega]
          have el : C.1 38 0 = 12 := hL.2.1.2.2.2.2.2.1
          unfold f_Pi_isGoing
          show (if a < 0 then _ else if 12 ≤ a then _ else if 0 ≤ a ∧ a < C.1 38 0 then some (if C.2 38 a = 0 then 0 else 1) else none) = _
          rw [if_neg (by omega), if_neg (by omega), if_pos (by omega), ev]
      · refine iteF q ?_
        rw [if_neg q] at hv
        have ea : w32 (r.1 0 7 + a) = r.1 0 7 + a := w32i (by omega) (by omega)
        have ev : C.2 21 (r.1 0 7 + a) = v := by
          have : C.2 21 (r.1 0 7 + a) = r.2 4 (r.1 0 7 + a) := xh.2.2.1 _ (by omega) (by omega)
          rw [this, hv]
        have el : C.1 21 0 = 40 := hL.1.2.2.2.1
        rw [ea]
        refine bindS (x := v) ?_ (iteT hv01 rfl)
        unfold f_Hi_isGoing
        show (if r.1 0 7 + a < 0 then _ else if C.1 19 2 ≤ r.1 0 7 + a then _ else if 40 ≤ r.1 0 7 + a then _ else if 0 ≤ r.1 0 7 + a ∧ r.1 0 7 + a < C.1 21 0 then some (if C.2 21 (r.1 0 7 + a) = 0 then 0 else 1) else none) = _
        rw [if_neg (by omega), if_neg (by omega), if_neg (by omega), if_pos (by omega), ev, b01 hv01]
    · unfold f_Rf_goesOn
      rw [en, e1]
      refine bindS (in_1 y) ?_
      rw [one_1]
      refine iteF (by decide) ?_
      have ew : w32 (w32 (12 * r.1 0 8) + a) = 12 * r.1 0 8 + a := by rw [w32i (x := 12 * r.1 0 8) (by omega) (by omega), w32i (by omega) (by omega)]
      have ea : w32 (r.1 0 7 + a) = r.1 0 7 + a := w32i (by omega) (by omega)
      rw [ew, ea]
      by_cases q : 0 ≤ a
      · rw [if_pos q] at hv
        rw [← hv, b01 hv01]
        exact iteT q (iteT (by omega) rfl)
      · rw [if_neg q] at hv
        rw [← hv, b01 hv01]
        exact iteF q (iteT (by omega) rfl)
  · refine Or.inr ⟨0, uS r 0 0 1, ?_, ?_, rfl, (h0.f0 (Or.inl rfl) 1).mono (by omega)⟩
    · unfold e_Co_goesOn
      refine bindS (show f_Hi_count (zsb (zsh 19) C) = some (r.1 0 7) from congrArg some e5) ?_
      by_cases q : a < -(r.1 0 7)
      · exact iteT (by rw [en]; exact q) rfl
      · exact iteF (by rw [en]; exact q) (iteF (by omega) rfl)
    · unfold f_Rf_goesOn
      rw [en, e1]
      refine bindS (in_0 y) ?_
      rw [one_0]
      exact iteT (by decide) rfl
def e_Co_title (a1 : Int) (s : zSt) : Option Int := if a1 < 0 then some 3 else (f_By_count (zsb (zsh 29) s)).bind fun x2 => if a1 < x2 then none else some 3
theorem M_title {B : Nat} {C r : zSt} (h : zWh B C r) (a : Int) : zMrd (B + 100) C (f_Co_title a C) (f_Rf_title a r) ∨ zMth (B + 100) C (e_Co_title a C) (f_Rf_title a r) 3 1 := by
  have h0 := h
  obtain ⟨k, ln, hd, N, dr, a1, a2, a3⟩ := h
  have hR := a1.rel.1
  obtain ⟨xr, hr⟩ := hR.xr
  have h38 := hr.2.2.2.2.2.1
  have hw := xr.1.2.1
  have hc : C.1 29 2 = r.1 0 38 := xr.2.1.1
  have hl7 : r.1 7 0 = 16 := hR.2.1.1.1.2.2.2.2.2.2.1
  have hb : zBy (zsb (zsh 29) C) 16 ((List.range (r.1 0 38).toNat).map fun i : Nat => zbt (zsb (zsh 14) C) 15 16 16 (i : Int)) := by
    have := zBy_of (s := zsb (zsh 14) C) (o := 15) hR.1.2.1.1 hw
    rw [show (zsb (zsh 14) C).1 15 2 = r.1 0 38 from hc] at this
    exact this
  have hcnt : f_By_count (zsb (zsh 29) C) = some (r.1 0 38) := congrArg some hc
  have e1 : w32 (r.1 0 38 - 1) = r.1 0 38 - 1 := w32i (by omega) (by omega)
  by_cases y : 0 ≤ a ∧ a ≤ r.1 0 38 - 1
  · refine Or.inl ⟨r.2 7 a, uS r 0 0 0, ?_, ?_, rfl, (h0.f0 (Or.inl rfl) 0).mono (by omega)⟩
    · unfold f_Co_title
      refine iteF (by omega) (bindS hcnt (iteT (by omega) (bindS (By_at hb (by decide) (by omega)) ?_)))
      rw [if_pos (by simp; omega), ← xr.2.1.2 a y.1 (by omega)]
      have ea : a.toNat < (r.1 0 38).toNat := by omega
      simp [List.getD_eq_getElem?_getD, ea, Int.toNat_of_nonneg y.1]
    · unfold f_Rf_title
      rw [e1]
      refine bindS (in_1 y) ?_
      rw [one_1]
      exact iteT (by decide) (iteT (by omega) rfl)
  · refine Or.inr ⟨0, uS r 0 0 1, ?_, ?_, rfl, (h0.f0 (Or.inl rfl) 1).mono (by omega)⟩
    · unfold e_Co_title
      by_cases z : a < 0
      · exact iteT z rfl
      · exact iteF z (bindS hcnt (iteF (by omega) rfl))
    · unfold f_Rf_title
      rw [e1]
      refine bindS (in_0 y) ?_
      rw [one_0]
      exact iteF (by decide) rfl
def e_Co_told (a1 : Int) : Option Int := if a1 < 0 then some 1 else if a1 ≤ 20 then none else some 1
theorem M_told {B : Nat} {C r : zSt} (h : zWh B C r) (a : Int) : zMrd (B + 100) C (f_Co_told a C) (f_Rf_told a r) ∨ zMth (B + 100) C (e_Co_told a) (f_Rf_told a r) 1 1 := by
  have h0 := h
  have hh := h.held
  have hl := h.lined
  obtain ⟨k, ln, hd, N, dr, a1, a2, a3⟩ := h
  have hn := a1.nums
  obtain ⟨hR, -, -, -, pg, p1, p2⟩ := a1.rel
  have hp : f_By_count (zsb (zsh 10) C) = some (r.1 0 48) := by rw [By_count p1, p2.1]
  have cu := hR.cu
  have hs := hR.nums
  obtain ⟨xr, hr⟩ := hR.xr
  have xz := hR.2.2.2.2.2.2.2.2.1
  have xh := hR.2.2.2.2.1
  have xm := hR.2.2.2.2.2.2.1
  have hm := hR.2.1.2.2.2.1
  have z8 := hR.2.1.1.2.2.2
  obtain ⟨t, t1, t2, -⟩ := S_nextTab hR
  have t1' : f_Sc_nextTab (zsb (zsh 14) C) = some t := t1
  have ok : ∀ v, f_Co_told a C = some v → f_Rf_told a r = some (v, uS r 0 0 0) → zMrd (B + 100) C (f_Co_told a C) (f_Rf_told a r) ∨ zMth (B + 100) C (e_Co_told a) (f_Rf_told a r) 1 1 := fun v x1 x2 => Or.inl ⟨v, uS r 0 0 0, x1, x2, rfl, (h0.f0 (Or.inl rfl) 0).mono (by omega)⟩
  by_cases y : 0 ≤ a ∧ a ≤ 20
  · rcases (by omega : a = 0 ∨ a = 1 ∨ a = 2 ∨ a = 3 ∨ a = 4 ∨ a = 5 ∨ a = 6 ∨ a = 7 ∨ a = 8 ∨ a = 9 ∨ a = 10 ∨ a = 11 ∨ a = 12 ∨ a = 13 ∨ a = 14 ∨ a = 15 ∨ a = 16 ∨ a = 17 ∨ a = 18 ∨ a = 19 ∨ a = 20) with q | q | q | q | q | q | q | q | q | q | q | q | q | q | q | q | q | q | q | q | q <;> subst q
    · exact ok _ (show some (C.1 26 0) = _ from congrArg some cu.1) rfl
    · exact ok _ (show some (C.1 26 1) = _ from congrArg some cu.2.1) rfl
    · exact ok (if r.1 0 11 = 0 then 0 else 1) (show some (if C.1 26 2 = 0 then 0 else 1) = _ by rw [show C.1 26 2 = r.1 0 11 from cu.2.2.1]) rfl
    · exact ok _ (show some (C.1 28 3) = _ from congrArg some xr.1.1) rfl
    · exact ok _ (show some (C.1 26 3) = _ from congrArg some cu.2.2.2.1) rfl
    · exact ok _ (show some (C.1 14 12) = _ from congrArg some xz.2.2.2.2.1) rfl
    · exact ok _ (show some (C.1 14 13) = _ from congrArg some xz.2.2.2.2.2) rfl
    · exact ok _ (show some (C.1 14 9) = _ from congrArg some xz.2.1) rfl
    · exact ok _ (show some (C.1 14 10) = _ from congrArg some xz.2.2.1) rfl
    · exact ok _ (show some (C.1 19 2) = _ from congrArg some xh.1) rfl
    · exact ok _ (show some (C.1 14 11) = _ from congrArg some xz.2.2.2.1) rfl
    · exact ok (r.1 0 8) (show some (if C.1 14 8 = 0 then 0 else 1) = _ by rw [show C.1 14 8 = r.1 0 8 from xz.1, b01 (by omega)]) rfl
    · exact ok (if r.1 0 42 = 0 then 0 else 1) (show some (if C.1 5 6 = 0 then 0 else 1) = _ by rw [hn.1.2.2.1]) rfl
    · exact ok _ (show ((f_By_count (zsb (zsh 8) C)).bind fun x => some x) = _ from bindS hh rfl) rfl
    · exact ok _ (show ((f_By_count (zsb (zsh 6) C)).bind fun x => some x) = _ from bindS hl rfl) rfl
    · exact ok _ (show ((f_By_count (zsb (zsh 10) C)).bind fun x => some x) = _ from bindS hp rfl) rfl
    · exact ok _ (show some (C.1 5 7) = _ from congrArg some hn.1.2.2.2.1) rfl
    · exact ok _ (show some (C.1 5 8) = _ from congrArg some hn.1.2.2.2.2) rfl
    · exact ok (if r.1 0 19 = 0 then 0 else 1) (show some (if C.1 27 2 = 0 then 0 else 1) = _ by rw [show C.1 27 2 = r.1 0 19 from xm.2.2.1]) rfl
    · exact ok _ (show some (C.1 29 2) = _ from congrArg some xr.2.1.1) rfl
    · exact ok t (show ((f_Sc_nextTab (zsb (zsh 14) C)).bind fun x => some x) = _ from bindS t1' rfl) (show ((f_Rf_toldMore 20 (uS r 0 0 0)).bind fun x15 => some (x15.1, x15.2)) = _ from bindS (show ((f_Rf_nextTab (uS r 0 0 0)).bind fun x20 => some (x20, uS r 0 0 0)) = some (t, uS r 0 0 0) from bindS t2 rfl) rfl)
  · refine Or.inr ⟨0, uS r 0 0 1, ?_, ?_, rfl, (h0.f0 (Or.inl rfl) 1).mono (by omega)⟩
    · unfold e_Co_told
      by_cases z : a < 0
      · exact iteT z rfl
      · exact iteF z (iteF (by omega) rfl)
    · unfold f_Rf_told f_Rf_toldMore
      iterate 10 rw [if_neg (by omega)]
      refine bindS (x := (0, uS (uS r 0 0 0) 0 0 1)) ?_ (by rw [uS_uS])
      iterate 11 rw [if_neg (by omega)]
