/-! ===== marks ===== -/
theorem zup_id (f : Int → Int) (i : Int) : zup f i (f i) = f := by
  funext j
  unfold zup
  grind
theorem uE_id (s : zSt) (i : Nat) (x : Int) : uE s i x (s.2 i x) = s := by
  unfold uE
  rw [zup_id, uA_id]
theorem wDiv_e {x : Int} {k : Int} (hx : 0 ≤ x ∧ x < 2147483648) (hk : 0 < k) : wDiv x k = x / k := by
  unfold wDiv
  rw [Int.tdiv_eq_ediv_of_nonneg hx.1]
  have h1 : 0 ≤ x / k := Int.ediv_nonneg hx.1 (by omega)
  have h2 : x / k ≤ x := Int.ediv_le_self _ hx.1
  exact w32i (by omega) (by omega)
/-- the row of a picture, at its cell -/
theorem zRel.rowwf {s r : zSt} (h : zRel s r) {a : Int} (ha : 0 ≤ a ∧ a < r.1 0 1) : zRwf (r.2 1) (zRo r a) (r.1 0 2) := by
  have hk := h.2.1.2.2.2.2.2.2.1
  have z := h.size
  unfold zRo
  rcases h.sh with q | q
  · rw [q]
    exact hk.1.1 a ha.1 (by omega)
  · rw [q]
    exact hk.2.1 a ha.1 (by omega)
theorem zRel.at0 {s r : zSt} (h : zRel s r) (hsh : r.1 0 8 = 0) {a c : Int} (ha : 0 ≤ a ∧ a < r.1 0 1) : f_Pi_at a c (zsb (zsh 2) s) = some (if 0 ≤ c ∧ c < 24 then r.2 1 (zRo r a + c) else 0) := by
  have z := h.size
  have e : zRo r a = 0 + a * 24 := by unfold zRo; rw [hsh]; rfl
  rw [c_Pi_at h.pw0, e]
  show some (zat (s.2 3) a c) = _
  unfold zat
  by_cases q : 0 ≤ c ∧ c < 24
  · have k := h.2.2.1.1 (a * 24 + c) (by omega) (by omega)
    rw [if_pos (by omega), if_pos q, k, Int.add_assoc]
  · rw [if_neg (by omega), if_neg q]
theorem S_mk0 {s r : zSt} (h : zRel s r) (hsh : r.1 0 8 = 0) {c : Int} (hc : 0 ≤ c ∧ c < r.1 0 2) (hv : 0 ≤ r.2 1 (zRo r (r.1 0 9) + c) ∧ r.2 1 (zRo r (r.1 0 9) + c) < 400000) :
    ∃ s1, f_Sc_addMark_j55 c s = some (0, s1) ∧ zRel s1 (uE r 1 (zRo r (r.1 0 9) + c) (w32 (r.2 1 (zRo r (r.1 0 9) + c) + (if r.2 1 (zRo r (r.1 0 9) + c) ≤ 0 then 0 else if 3 ≤ wDiv (r.2 1 (zRo r (r.1 0 9) + c)) 100000 then 0 else 100000)))) := by
  have z := h.size
  have hr := h.nums.1
  obtain ⟨c1, c2, c3, c4, c5⟩ := h.cu
  have ea := h.at0 hsh (a := r.1 0 9) (c := c) hr
  rw [if_pos (by omega)] at ea
  unfold f_Sc_addMark_j55
  rw [c1]
  generalize hV : r.2 1 (zRo r (r.1 0 9) + c) = v at *
  by_cases q : v ≤ 0
  · refine ⟨s, bindS ea (iteT q rfl), ?_⟩
    rw [if_pos q, Int.add_zero, w32i (by omega) (by omega), ← hV, uE_id]
    exact h
  · have ed : wDiv v 100000 = v / 100000 := wDiv_e ⟨by omega, by omega⟩ (by decide)
    have em : f_Co_marksOf v = some (v / 100000) := by
      unfold f_Co_marksOf
      rw [if_neg q, ed]
    rw [if_neg q, ed]
    by_cases q3 : 3 ≤ v / 100000
    · refine ⟨s, bindS ea (iteF q (bindS em (iteT q3 rfl))), ?_⟩
      rw [if_pos q3, Int.add_zero, w32i (by omega) (by omega), ← hV, uE_id]
      exact h
    · have hv2 : 0 < r.2 1 (zRo r (r.1 0 9) + c) ∧ r.2 1 (zRo r (r.1 0 9) + c) < 300000 := by rw [hV]; omega
      obtain ⟨p1, f1, f2⟩ := P0_mark h hsh hr hc hv2
      rw [hV] at f1 f2
      have ew : w32 (v + 100000) = v + 100000 := w32i (by omega) (by omega)
      have f1' : f_Pi_put (r.1 0 9) c (w32 (v + 100000)) (zsb (zsh 2) s) = some (0, p1) := by rw [ew]; exact f1
      rw [if_neg q3, ew]
      exact ⟨_, bindS ea (iteF q (bindS em (iteF q3 (bindS f1' rfl)))), f2.1⟩
theorem S_addMark0 {s r : zSt} (h : zRel s r) (hsh : r.1 0 8 = 0) {c0 : Int} (hc0 : c0 = if r.1 0 11 = 0 then r.1 0 10 - 1 else r.1 0 10) :
    ∃ s1 r1, ((f_Pi_at (r.1 0 9) c0 (zsb (zsh 2) s)).bind fun x4 => if ¬ x4 = (-2) then f_Sc_addMark_j55 c0 s else f_Sc_addMark_j55 (w32 (c0 + (-1))) s) = some (0, s1) ∧ f_Rf_marks r = some (0, r1) ∧ zRel s1 r1 ∧ zKp r r1 := by
  have z := h.size
  have hn := h.nums
  have hr := hn.1
  have hcol := hn.2.1
  have hZ := h.2.1.1
  have ea := h.at0 hsh (a := r.1 0 9) (c := c0) hr
  have hwf := h.rowwf hr
  have e0 : (if r.1 0 11 = 0 then w32 (r.1 0 10 - 1) else r.1 0 10) = c0 := by
    rw [w32i (by omega) (by omega), hc0]
  unfold f_Rf_marks
  rw [e0]
  by_cases q : c0 < 0
  · rw [if_neg (by omega)] at ea
    refine ⟨s, r, bindS ea (iteT (by decide) ?_), iteT q rfl, h, zKp.rf r⟩
    obtain ⟨c1, c2, c3, c4, c5⟩ := h.cu
    unfold f_Sc_addMark_j55
    rw [c1]
    exact bindS ea (iteT (by decide) rfl)
  · have hcr : 0 ≤ c0 ∧ c0 < r.1 0 2 := by grind
    rw [if_pos (by omega)] at ea
    have w0 := hwf.2 c0 hcr.1 hcr.2
    have hin := zRo_in hZ (r := r.1 0 9) (c := c0) (by omega) (by omega)
    by_cases qt : r.2 1 (zRo r (r.1 0 9) + c0) = -2
    · have w1 := w0.2.1.mp qt
      rw [show zRo r (r.1 0 9) + c0 - 1 = zRo r (r.1 0 9) + (c0 - 1) by omega] at w1
      have w2 := hwf.2 (c0 - 1) (by omega) (by omega)
      have hnt : r.2 1 (zRo r (r.1 0 9) + (c0 - 1)) ≠ -2 := fun e => by rw [e] at w1; exact zWd_t w1.2
      have hv : 0 ≤ r.2 1 (zRo r (r.1 0 9) + (c0 - 1)) ∧ r.2 1 (zRo r (r.1 0 9) + (c0 - 1)) < 400000 := by
        rcases w2.1 with e | e
        · exact absurd e hnt
        · exact ⟨e.1, e.2.1⟩
      obtain ⟨s1, f1, f2⟩ := S_mk0 h hsh (c := c0 - 1) (by omega) hv
      have ew : w32 (c0 + -1) = c0 - 1 := by rw [w32i] <;> omega
      have ew2 : w32 (c0 - 1) = c0 - 1 := by rw [w32i] <;> omega
      have hin2 := zRo_in hZ (r := r.1 0 9) (c := c0 - 1) (by omega) (by omega)
      have hat := c_Rf_at hZ (r := r.1 0 9) (c := c0 - 1) (by omega) (by omega)
      refine ⟨s1, _, bindS ea (iteF (by simpa using qt) (by rw [ew]; exact f1)), iteF q (bindS (c_Rf_at hZ (by omega) (by omega)) (iteT hin ?_)), f2, zKp.uA (by decide)⟩
      rw [if_neg (by simpa using qt), ew2]
      exact bindS hat (iteT hin2 (bindS hat (iteT hin2 (iteT hin2 rfl))))
    · have hv : 0 ≤ r.2 1 (zRo r (r.1 0 9) + c0) ∧ r.2 1 (zRo r (r.1 0 9) + c0) < 400000 := by
        rcases w0.1 with e | e
        · exact absurd e qt
        · exact ⟨e.1, e.2.1⟩
      obtain ⟨s1, f1, f2⟩ := S_mk0 h hsh (c := c0) hcr hv
      have hat := c_Rf_at hZ (r := r.1 0 9) (c := c0) (by omega) (by omega)
      refine ⟨s1, _, bindS ea (iteT qt f1), iteF q (bindS hat (iteT hin ?_)), f2, zKp.uA (by decide)⟩
      rw [if_pos qt]
      exact bindS hat (iteT hin (bindS hat (iteT hin (iteT hin rfl))))
theorem zRel.at1 {s r : zSt} (h : zRel s r) (hsh : r.1 0 8 = 1) {a c : Int} (ha : 0 ≤ a ∧ a < r.1 0 1) : f_Pi_at a c (zsb (zsh 22) s) = some (if 0 ≤ c ∧ c < 24 then r.2 1 (zRo r a + c) else 0) := by
  have z := h.size
  have e : zRo r a = 288 + a * 24 := by unfold zRo; rw [hsh]; rfl
  rw [c_Pi_at h.pw1, e]
  show some (zat (s.2 23) a c) = _
  unfold zat
  by_cases q : 0 ≤ c ∧ c < 24
  · have k := h.2.2.2.1.1 (a * 24 + c) (by omega) (by omega)
    rw [if_pos (by omega), if_pos q, k, Int.add_assoc]
  · rw [if_neg (by omega), if_neg q]
theorem S_mk1 {s r : zSt} (h : zRel s r) (hsh : r.1 0 8 = 1) {c : Int} (hc : 0 ≤ c ∧ c < r.1 0 2) (hv : 0 ≤ r.2 1 (zRo r (r.1 0 9) + c) ∧ r.2 1 (zRo r (r.1 0 9) + c) < 400000) :
    ∃ s1, f_Sc_addMark_j55_1 c s = some (0, s1) ∧ zRel s1 (uE r 1 (zRo r (r.1 0 9) + c) (w32 (r.2 1 (zRo r (r.1 0 9) + c) + (if r.2 1 (zRo r (r.1 0 9) + c) ≤ 0 then 0 else if 3 ≤ wDiv (r.2 1 (zRo r (r.1 0 9) + c)) 100000 then 0 else 100000)))) := by
  have z := h.size
  have hr := h.nums.1
  obtain ⟨c1, c2, c3, c4, c5⟩ := h.cu
  have ea := h.at1 hsh (a := r.1 0 9) (c := c) hr
  rw [if_pos (by omega)] at ea
  unfold f_Sc_addMark_j55_1
  rw [c1]
  generalize hV : r.2 1 (zRo r (r.1 0 9) + c) = v at *
  by_cases q : v ≤ 0
  · refine ⟨s, bindS ea (iteT q rfl), ?_⟩
    rw [if_pos q, Int.add_zero, w32i (by omega) (by omega), ← hV, uE_id]
    exact h
  · have ed : wDiv v 100000 = v / 100000 := wDiv_e ⟨by omega, by omega⟩ (by decide)
    have em : f_Co_marksOf v = some (v / 100000) := by
      unfold f_Co_marksOf
      rw [if_neg q, ed]
    rw [if_neg q, ed]
    by_cases q3 : 3 ≤ v / 100000
    · refine ⟨s, bindS ea (iteF q (bindS em (iteT q3 rfl))), ?_⟩
      rw [if_pos q3, Int.add_zero, w32i (by omega) (by omega), ← hV, uE_id]
      exact h
    · have hv2 : 0 < r.2 1 (zRo r (r.1 0 9) + c) ∧ r.2 1 (zRo r (r.1 0 9) + c) < 300000 := by rw [hV]; omega
      obtain ⟨p1, f1, f2⟩ := P1_mark h hsh hr hc hv2
      rw [hV] at f1 f2
      have ew : w32 (v + 100000) = v + 100000 := w32i (by omega) (by omega)
      have f1' : f_Pi_put (r.1 0 9) c (w32 (v + 100000)) (zsb (zsh 22) s) = some (0, p1) := by rw [ew]; exact f1
      rw [if_neg q3, ew]
      exact ⟨_, bindS ea (iteF q (bindS em (iteF q3 (bindS f1' rfl)))), f2.1⟩
theorem S_addMark1 {s r : zSt} (h : zRel s r) (hsh : r.1 0 8 = 1) {c0 : Int} (hc0 : c0 = if r.1 0 11 = 0 then r.1 0 10 - 1 else r.1 0 10) :
    ∃ s1 r1, ((f_Pi_at (r.1 0 9) c0 (zsb (zsh 22) s)).bind fun x4 => if ¬ x4 = (-2) then f_Sc_addMark_j55_1 c0 s else f_Sc_addMark_j55_1 (w32 (c0 + (-1))) s) = some (0, s1) ∧ f_Rf_marks r = some (0, r1) ∧ zRel s1 r1 ∧ zKp r r1 := by
  have z := h.size
  have hn := h.nums
  have hr := hn.1
  have hcol := hn.2.1
  have hZ := h.2.1.1
  have ea := h.at1 hsh (a := r.1 0 9) (c := c0) hr
  have hwf := h.rowwf hr
  have e0 : (if r.1 0 11 = 0 then w32 (r.1 0 10 - 1) else r.1 0 10) = c0 := by
    rw [w32i (by omega) (by omega), hc0]
  unfold f_Rf_marks
  rw [e0]
  by_cases q : c0 < 0
  · rw [if_neg (by omega)] at ea
    refine ⟨s, r, bindS ea (iteT (by decide) ?_), iteT q rfl, h, zKp.rf r⟩
    obtain ⟨c1, c2, c3, c4, c5⟩ := h.cu
    unfold f_Sc_addMark_j55_1
    rw [c1]
    exact bindS ea (iteT (by decide) rfl)
  · have hcr : 0 ≤ c0 ∧ c0 < r.1 0 2 := by grind
    rw [if_pos (by omega)] at ea
    have w0 := hwf.2 c0 hcr.1 hcr.2
    have hin := zRo_in hZ (r := r.1 0 9) (c := c0) (by omega) (by omega)
    by_cases qt : r.2 1 (zRo r (r.1 0 9) + c0) = -2
    · have w1 := w0.2.1.mp qt
      rw [show zRo r (r.1 0 9) + c0 - 1 = zRo r (r.1 0 9) + (c0 - 1) by omega] at w1
      have w2 := hwf.2 (c0 - 1) (by omega) (by omega)
      have hnt : r.2 1 (zRo r (r.1 0 9) + (c0 - 1)) ≠ -2 := fun e => by rw [e] at w1; exact zWd_t w1.2
      have hv : 0 ≤ r.2 1 (zRo r (r.1 0 9) + (c0 - 1)) ∧ r.2 1 (zRo r (r.1 0 9) + (c0 - 1)) < 400000 := by
        rcases w2.1 with e | e
        · exact absurd e hnt
        · exact ⟨e.1, e.2.1⟩
      obtain ⟨s1, f1, f2⟩ := S_mk1 h hsh (c := c0 - 1) (by omega) hv
      have ew : w32 (c0 + -1) = c0 - 1 := by rw [w32i] <;> omega
      have ew2 : w32 (c0 - 1) = c0 - 1 := by rw [w32i] <;> omega
      have hin2 := zRo_in hZ (r := r.1 0 9) (c := c0 - 1) (by omega) (by omega)
      have hat := c_Rf_at hZ (r := r.1 0 9) (c := c0 - 1) (by omega) (by omega)
      refine ⟨s1, _, bindS ea (iteF (by simpa using qt) (by rw [ew]; exact f1)), iteF q (bindS (c_Rf_at hZ (by omega) (by omega)) (iteT hin ?_)), f2, zKp.uA (by decide)⟩
      rw [if_neg (by simpa using qt), ew2]
      exact bindS hat (iteT hin2 (bindS hat (iteT hin2 (iteT hin2 rfl))))
    · have hv : 0 ≤ r.2 1 (zRo r (r.1 0 9) + c0) ∧ r.2 1 (zRo r (r.1 0 9) + c0) < 400000 := by
        rcases w0.1 with e | e
        · exact absurd e qt
        · exact ⟨e.1, e.2.1⟩
      obtain ⟨s1, f1, f2⟩ := S_mk1 h hsh (c := c0) hcr hv
      have hat := c_Rf_at hZ (r := r.1 0 9) (c := c0) (by omega) (by omega)
      refine ⟨s1, _, bindS ea (iteT qt f1), iteF q (bindS hat (iteT hin ?_)), f2, zKp.uA (by decide)⟩
      rw [if_pos qt]
      exact bindS hat (iteT hin (bindS hat (iteT hin (iteT hin rfl))))
theorem S_marks {s r : zSt} (h : zRel s r) : ∃ s1 r1, f_Sc_addMark s = some (0, s1) ∧ f_Rf_marks r = some (0, r1) ∧ zRel s1 r1 ∧ zKp r r1 := by
  have z := h.size
  have hn := h.nums
  obtain ⟨c1, c2, c3, c4, c5⟩ := h.cu
  have e0 : (if r.1 0 11 = 0 then w32 (r.1 0 10 - 1) else r.1 0 10) = (if r.1 0 11 = 0 then r.1 0 10 - 1 else r.1 0 10) := by
    rw [w32i (by have := hn.2.1; omega) (by have := hn.2.1; omega)]
  unfold f_Sc_addMark
  rw [h.s8, c1, c2, c3, e0]
  rcases h.sh with q | q
  · obtain ⟨s1, r1, e1, e2, e3, e4⟩ := S_addMark0 h q rfl
    exact ⟨s1, r1, iteT q e1, e2, e3, e4⟩
  · obtain ⟨s1, r1, e1, e2, e3, e4⟩ := S_addMark1 h q rfl
    exact ⟨s1, r1, iteF (by omega) e1, e2, e3, e4⟩
