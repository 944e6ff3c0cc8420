/-! ===== the reference's picture ===== -/
def zRL (r : zSt) : Prop := r.1 1 0 = 576 ∧ r.1 2 0 = 24 ∧ r.1 3 0 = 960 ∧ r.1 4 0 = 40 ∧ r.1 5 0 = 4 ∧ r.1 6 0 = 16 ∧ r.1 7 0 = 16 ∧ r.1 8 0 = 100 ∧ r.1 9 0 = 30 ∧ r.1 10 0 = 200 ∧ r.1 11 0 = 40 ∧ r.1 12 0 = 288 ∧ r.1 13 0 = 400 ∧ r.1 14 0 = 12000 ∧ r.1 15 0 = 500
/-- the reference's lengths and size -/
def zRZ (r : zSt) : Prop := zRL r ∧ (2 ≤ r.1 0 1 ∧ r.1 0 1 ≤ 12) ∧ (4 ≤ r.1 0 2 ∧ r.1 0 2 ≤ 24) ∧ (0 ≤ r.1 0 8 ∧ r.1 0 8 ≤ 1)
theorem zRZ.uA {r : zSt} (h : zRZ r) (i : Nat) (f : Int → Int) : zRZ (uA r i f) := h
theorem zRZ.uB {r : zSt} (h : zRZ r) (f g : Int → Int) : zRZ (uB r f g) := h
def zRo (r : zSt) (a : Int) : Int := 288 * r.1 0 8 + a * 24
def zGo (r : zSt) (a : Int) : Int := 12 * r.1 0 8 + a
theorem zRo_uA (s : zSt) (i : Nat) (f : Int → Int) (r : Int) : zRo (uA s i f) r = zRo s r := rfl
theorem zRo_uB (s : zSt) (f g : Int → Int) (r : Int) : zRo (uB s f g) r = zRo s r := rfl
theorem zGo_uB (s : zSt) (f g : Int → Int) (r : Int) : zGo (uB s f g) r = zGo s r := rfl
theorem c_Rf_in (a b c : Int) : f_Rf_in a b c = some (if a < b then 0 else if c < a then 0 else 1) := rfl
theorem c_Rf_at {s : zSt} (h : zRZ s) {r c : Int} (hr : 0 ≤ r ∧ r < 1000) (hc : -1000 ≤ c ∧ c < 1000) : f_Rf_at r c s = some (zRo s r + c) := by
  obtain ⟨-, -, -, h1⟩ := h
  unfold f_Rf_at zRo
  grind [w32i]
theorem zRo_in {s : zSt} (h : zRZ s) {r c : Int} (hr : 0 ≤ r ∧ r < 12) (hc : 0 ≤ c ∧ c < 24) : 0 ≤ zRo s r + c ∧ zRo s r + c < s.1 1 0 := by
  obtain ⟨hl, -, -, h1⟩ := h
  have h5 := hl.1
  unfold zRo
  omega
theorem zGo_in {s : zSt} (h : zRZ s) {r : Int} (hr : 0 ≤ r ∧ r < 12) : 0 ≤ zGo s r ∧ zGo s r < s.1 2 0 := by
  obtain ⟨hl, -, -, h1⟩ := h
  have h5 := hl.2.1
  unfold zGo
  omega
theorem zGo_w {s : zSt} (h : zRZ s) {r : Int} (hr : 0 ≤ r ∧ r < 12) : w32 (w32 (12 * s.1 0 8) + r) = zGo s r := by
  obtain ⟨hl, -, -, h1⟩ := h
  unfold zGo
  rw [w32i (x := 12 * s.1 0 8) (by omega) (by omega), w32i (by omega) (by omega)]
theorem c_Rf_parts {s : zSt} (h : zRZ s) {r c : Int} (hr : 0 ≤ r ∧ r < 12) (hc : 0 ≤ c ∧ c < 1000) : f_Rf_parts r c s = some (0, uA s 1 (zPt (s.2 1) (zRo s r) c (s.1 0 2))) := by
  have h9 := h
  obtain ⟨hl, h1, h2, h3⟩ := h9
  unfold f_Rf_parts
  refine bindS (c_Rf_in _ _ _) ?_
  by_cases hc1 : 0 < c ∧ c < s.1 0 2
  · refine iteF (by rw [w32i (by omega) (by omega)]; grind) ?_
    refine bindS (c_Rf_at h (by omega) (by omega)) ?_
    refine iteT (zRo_in h hr (by omega)) ?_
    by_cases ht : s.2 1 (zRo s r + c) = -2
    · refine iteF (by simpa using ht) ?_
      refine bindS (c_Rf_at h (by omega) (by omega)) ?_
      refine iteT (zRo_in h hr (by omega)) ?_
      rw [w32i (by omega) (by omega)]
      refine bindS (c_Rf_at (s := uE s 1 _ _) h (by omega) (by omega)) ?_
      refine iteT (zRo_in h hr (by omega)) ?_
      unfold uE
      rw [uA_uA]
      congr 2
      refine uA_cg (fun i => ?_)
      simp only [uA2, if_true, zRo_uA]
      unfold zup zPt
      grind
    · refine iteT ht ?_
      have e : zPt (s.2 1) (zRo s r) c (s.1 0 2) = s.2 1 := by
        funext i
        unfold zPt
        grind
      rw [e, uA_id]
  · refine iteT (by rw [w32i (by omega) (by omega)]; grind) ?_
    have e : zPt (s.2 1) (zRo s r) c (s.1 0 2) = s.2 1 := by
      funext i
      unfold zPt
      grind
    rw [e, uA_id]
theorem c_Rf_erases {s : zSt} (h : zRZ s) {r a b : Int} (hr : 0 ≤ r ∧ r < 12) (ha : 0 ≤ a ∧ a ≤ s.1 0 2) (hb : a ≤ b ∧ b ≤ s.1 0 2) : f_Rf_erases r a b s = some (0, uA s 1 (zEr (s.2 1) (zRo s r) a b (s.1 0 2))) := by
  have h9 := h
  obtain ⟨hl, h1, h2, h3⟩ := h9
  unfold f_Rf_erases
  refine bindS (c_Rf_parts h hr (by omega)) ?_
  refine bindS (c_Rf_parts (h.uA _ _) hr (by omega)) ?_
  show ((zloop (f_Rf_erases_l15 r b) zfu (a, uA (uA s 1 _) 1 (zPt (zPt (s.2 1) (zRo s r) a (s.1 0 2)) (zRo s r) b (s.1 0 2)))).bind fun y3 => some (0, y3)) = _
  rw [uA_uA]
  generalize hG : zPt (zPt (s.2 1) (zRo s r) a (s.1 0 2)) (zRo s r) b (s.1 0 2) = G
  have hl := zloop_up (step := f_Rf_erases_l15 r b) (r := uA s 1 (zFl G (zRo s r + a) (zRo s r + b) 0)) (b - a).toNat (n := zfu) (fun k => (a + k, uA s 1 (zFl G (zRo s r + a) (zRo s r + a + k) 0))) (fun k hk => ?_) ?_ ?_
  · simp only [Int.natCast_zero, Int.add_zero, zFl_self] at hl
    refine bindS hl ?_
    unfold zEr
    rw [hG]
  · unfold f_Rf_erases_l15
    refine iteF (by show ¬ b ≤ a + (k : Int); omega) ?_
    refine bindS (c_Rf_at (h.uA _ _) (by omega) (by show -1000 ≤ a + (k : Int) ∧ a + (k : Int) < 1000; omega)) ?_
    refine iteT (zRo_in h hr (by show 0 ≤ a + (k : Int) ∧ a + (k : Int) < 24; omega)) ?_
    refine stepE (by show w32 (a + (k : Int) + 1) = _; rw [w32i] <;> omega) (fun i => ?_)
    show zup (zFl G _ _ 0) (zRo s r + (a + (k : Int))) 0 i = _
    unfold zup zFl
    grind
  · unfold f_Rf_erases_l15
    refine iteT (by show b ≤ a + ((b - a).toNat : Int); omega) ?_
    rw [show zRo s r + a + ((b - a).toNat : Int) = zRo s r + b by omega]
  · unfold zfu; omega
theorem c_Rf_mR {s : zSt} (h : zRZ s) {r a m : Int} (hr : 0 ≤ r ∧ r < 12) (ha : 0 ≤ a ∧ a < s.1 0 2) (hm1 : 1 ≤ m ∧ m ≤ s.1 0 2 - a) (G : Int → Int) :
    f_Rf_movesRight_j51 r a m (uA s 1 G) = some (0, uA s 1 (fun i => if zRo s r + a ≤ i ∧ i < zRo s r + s.1 0 2 then (if zRo s r + a ≤ i - m then G (i - m) else 0) else G i)) := by
  have h9 := h
  obtain ⟨hl, h1, h2, h3⟩ := h9
  unfold f_Rf_movesRight_j51
  rw [uA1, w32i (by omega) (by omega)]
  have hl := zloop_up (step := f_Rf_movesRight_l59 r a m) (r := uA s 1 (fun i => if zRo s r + a ≤ i ∧ i < zRo s r + s.1 0 2 then (if zRo s r + a ≤ i - m then G (i - m) else 0) else G i)) (s.1 0 2 - a).toNat (n := zfu)
    (fun j => (s.1 0 2 - 1 - j, uA s 1 (fun i => if zRo s r + (s.1 0 2 - j) ≤ i ∧ i < zRo s r + s.1 0 2 then (if zRo s r + a ≤ i - m then G (i - m) else 0) else G i))) (fun j hj => ?_) ?_ ?_
  · simp only [Int.natCast_zero, Int.sub_zero] at hl
    rw [uA_cg (F' := G) (by grind)] at hl
    exact bindS hl rfl
  · unfold f_Rf_movesRight_l59
    have ew : w32 (s.1 0 2 - 1 - (j : Int) - m) = s.1 0 2 - 1 - j - m := w32i (by omega) (by omega)
    have ew2 : w32 (s.1 0 2 - 1 - (j : Int) + -1) = s.1 0 2 - 1 - ((j + 1 : Nat) : Int) := by rw [w32i (by omega) (by omega)]; omega
    have hin : 0 ≤ s.1 0 2 - 1 - (j : Int) ∧ s.1 0 2 - 1 - (j : Int) < 24 := by omega
    refine iteF (by show ¬ s.1 0 2 - 1 - (j : Int) < a; omega) ?_
    refine bindS (c_Rf_at (h.uA _ _) (by omega) (by show -1000 ≤ s.1 0 2 - 1 - (j : Int) ∧ s.1 0 2 - 1 - (j : Int) < 1000; omega)) ?_
    by_cases q : s.1 0 2 - 1 - (j : Int) - m < a
    · refine iteT (by show w32 (s.1 0 2 - 1 - (j : Int) - m) < a; omega) ?_
      refine iteT (zRo_in h hr hin) ?_
      refine stepE ew2 (fun i => ?_)
      show zup (fun i => if zRo s r + (s.1 0 2 - j) ≤ i ∧ i < zRo s r + s.1 0 2 then (if zRo s r + a ≤ i - m then G (i - m) else 0) else G i) (zRo s r + (s.1 0 2 - 1 - (j : Int))) 0 i = _
      simp only [zup]
      grind
    · refine iteF (by show ¬ w32 (s.1 0 2 - 1 - (j : Int) - m) < a; omega) ?_
      refine bindS (c_Rf_at (h.uA _ _) (by omega) (by show -1000 ≤ w32 (s.1 0 2 - 1 - (j : Int) - m) ∧ w32 (s.1 0 2 - 1 - (j : Int) - m) < 1000; omega)) ?_
      refine iteT (zRo_in h hr (by show 0 ≤ w32 (s.1 0 2 - 1 - (j : Int) - m) ∧ w32 (s.1 0 2 - 1 - (j : Int) - m) < 24; omega)) (iteT (zRo_in h hr hin) ?_)
      refine stepE ew2 (fun i => ?_)
      show zup (fun i => if zRo s r + (s.1 0 2 - j) ≤ i ∧ i < zRo s r + s.1 0 2 then (if zRo s r + a ≤ i - m then G (i - m) else 0) else G i) (zRo s r + (s.1 0 2 - 1 - (j : Int))) ((fun i => if zRo s r + (s.1 0 2 - j) ≤ i ∧ i < zRo s r + s.1 0 2 then (if zRo s r + a ≤ i - m then G (i - m) else 0) else G i) (zRo s r + w32 (s.1 0 2 - 1 - (j : Int) - m))) i = _
      rw [ew]
      simp only [zup]
      grind
  · unfold f_Rf_movesRight_l59
    refine iteT (by show s.1 0 2 - 1 - ((s.1 0 2 - a).toNat : Int) < a; omega) ?_
    refine exitE (fun i => ?_)
    grind
  · unfold zfu; omega
theorem c_Rf_movesRight {s : zSt} (h : zRZ s) {r a k : Int} (hr : 0 ≤ r ∧ r < 12) (ha : 0 ≤ a ∧ a < s.1 0 2) (hk : 1 ≤ k ∧ k < 100000) : f_Rf_movesRight r a k s = some (0, uA s 1 (zIn (s.2 1) (zRo s r) a (if k < s.1 0 2 - a then k else s.1 0 2 - a) (s.1 0 2))) := by
  have h9 := h
  obtain ⟨hl, h1, h2, h3⟩ := h9
  unfold f_Rf_movesRight
  have em : (if w32 (s.1 0 2 - a) ≤ k then w32 (s.1 0 2 - a) else k) = (if k < s.1 0 2 - a then k else s.1 0 2 - a) := by
    rw [w32i (by omega) (by omega)]
    grind
  rw [em]
  generalize hm : (if k < s.1 0 2 - a then k else s.1 0 2 - a) = m
  have hm1 : 1 ≤ m ∧ m ≤ s.1 0 2 - a := by rw [← hm]; split <;> omega
  refine bindS (c_Rf_parts h hr (by omega)) ?_
  have e : w32 (s.1 0 2 - m) = s.1 0 2 - m := w32i (by omega) (by omega)
  by_cases q : s.1 0 2 - m ≤ a
  · refine iteT (by show w32 (s.1 0 2 - m) ≤ a; omega) ?_
    rw [c_Rf_mR h hr ha hm1]
    congr 2
    refine uA_cg (fun i => ?_)
    unfold zIn
    rw [show s.1 0 2 - m = a by omega, zPt_idem]
  · refine iteF (by show ¬ w32 (s.1 0 2 - m) ≤ a; omega) ?_
    show ((f_Rf_parts r (w32 (s.1 0 2 - m)) _).bind _) = _
    rw [e]
    refine bindS (c_Rf_parts (h.uA _ _) hr (by omega)) ?_
    show f_Rf_movesRight_j51 r a m (uA (uA s 1 _) 1 _) = _
    rw [uA_uA, c_Rf_mR h hr ha hm1]
    rfl
theorem c_Rf_movesLeft {s : zSt} (h : zRZ s) {r a k : Int} (hr : 0 ≤ r ∧ r < 12) (ha : 0 ≤ a ∧ a < s.1 0 2) (hk : 1 ≤ k ∧ k < 100000) : f_Rf_movesLeft r a k s = some (0, uA s 1 (zDl (s.2 1) (zRo s r) a (if k < s.1 0 2 - a then k else s.1 0 2 - a) (s.1 0 2))) := by
  have h9 := h
  obtain ⟨hl, h1, h2, h3⟩ := h9
  unfold f_Rf_movesLeft
  have em : (if w32 (s.1 0 2 - a) ≤ k then w32 (s.1 0 2 - a) else k) = (if k < s.1 0 2 - a then k else s.1 0 2 - a) := by
    rw [w32i (by omega) (by omega)]
    grind
  rw [em]
  generalize hm : (if k < s.1 0 2 - a then k else s.1 0 2 - a) = m
  have hm1 : 1 ≤ m ∧ m ≤ s.1 0 2 - a := by rw [← hm]; split <;> omega
  refine bindS (c_Rf_parts h hr (by omega)) ?_
  rw [w32i (by omega) (by omega)]
  refine bindS (c_Rf_parts (h.uA _ _) hr (by omega)) ?_
  show ((zloop (f_Rf_movesLeft_l40 r m) zfu (a, uA (uA s 1 _) 1 (zPt (zPt (s.2 1) (zRo s r) a (s.1 0 2)) (zRo s r) (a + m) (s.1 0 2)))).bind fun y3 => some (0, y3)) = _
  rw [uA_uA]
  generalize hG : zPt (zPt (s.2 1) (zRo s r) a (s.1 0 2)) (zRo s r) (a + m) (s.1 0 2) = G
  have hl := zloop_up (step := f_Rf_movesLeft_l40 r m) (r := uA s 1 (zDl (s.2 1) (zRo s r) a m (s.1 0 2))) (s.1 0 2 - a).toNat (n := zfu)
    (fun j => (a + j, uA s 1 (fun i => if zRo s r + a ≤ i ∧ i < zRo s r + (a + j) then (if i + m < zRo s r + s.1 0 2 then G (i + m) else 0) else G i))) (fun j hj => ?_) ?_ ?_
  · simp only [Int.natCast_zero, Int.add_zero] at hl
    rw [uA_cg (F' := G) (by grind)] at hl
    exact bindS hl rfl
  · unfold f_Rf_movesLeft_l40
    have ew : w32 (a + (j : Int) + m) = a + j + m := w32i (by omega) (by omega)
    have ew2 : w32 (a + (j : Int) + 1) = a + ((j + 1 : Nat) : Int) := by rw [w32i (by omega) (by omega)]; omega
    have hin : 0 ≤ a + (j : Int) ∧ a + (j : Int) < 24 := by omega
    refine iteF (by show ¬ s.1 0 2 ≤ a + (j : Int); omega) ?_
    refine bindS (c_Rf_at (h.uA _ _) (by omega) (by show -1000 ≤ a + (j : Int) ∧ a + (j : Int) < 1000; omega)) ?_
    by_cases q : s.1 0 2 ≤ a + (j : Int) + m
    · refine iteT (by show s.1 0 2 ≤ w32 (a + (j : Int) + m); omega) ?_
      refine iteT (zRo_in h hr hin) ?_
      refine stepE ew2 (fun i => ?_)
      show zup (fun i => if zRo s r + a ≤ i ∧ i < zRo s r + (a + j) then (if i + m < zRo s r + s.1 0 2 then G (i + m) else 0) else G i) (zRo s r + (a + (j : Int))) 0 i = _
      simp only [zup]
      grind
    · refine iteF (by show ¬ s.1 0 2 ≤ w32 (a + (j : Int) + m); omega) ?_
      refine bindS (c_Rf_at (h.uA _ _) (by omega) (by show -1000 ≤ w32 (a + (j : Int) + m) ∧ w32 (a + (j : Int) + m) < 1000; omega)) ?_
      refine iteT (zRo_in h hr (by show 0 ≤ w32 (a + (j : Int) + m) ∧ w32 (a + (j : Int) + m) < 24; omega)) (iteT (zRo_in h hr hin) ?_)
      refine stepE ew2 (fun i => ?_)
      show zup (fun i => if zRo s r + a ≤ i ∧ i < zRo s r + (a + j) then (if i + m < zRo s r + s.1 0 2 then G (i + m) else 0) else G i) (zRo s r + (a + (j : Int))) ((fun i => if zRo s r + a ≤ i ∧ i < zRo s r + (a + j) then (if i + m < zRo s r + s.1 0 2 then G (i + m) else 0) else G i) (zRo s r + w32 (a + (j : Int) + m))) i = _
      rw [ew]
      simp only [zup]
      grind
  · unfold f_Rf_movesLeft_l40
    refine iteT (by show s.1 0 2 ≤ a + ((s.1 0 2 - a).toNat : Int); omega) ?_
    refine exitE (fun i => ?_)
    simp only [zDl, hG]
    grind
  · unfold zfu; omega
/-! rows up and down -/
def zGb (r : zSt) : Prop := ∀ i, r.2 2 i = 0 ∨ r.2 2 i = 1
theorem c_Rf_copiesRow {s : zSt} (h : zRZ s) (hg : zGb s) {a b : Int} (ha : 0 ≤ a ∧ a < 12) (hb : 0 ≤ b ∧ b < 12) (hab : a ≠ b) :
    f_Rf_copiesRow a b s = some (0, uB s (fun i => if zRo s b ≤ i ∧ i < zRo s b + 24 then s.2 1 (i - zRo s b + zRo s a) else s.2 1 i) (zup (s.2 2) (zGo s b) (s.2 2 (zGo s a)))) := by
  have h9 := h
  obtain ⟨hl, h1, h2, h3⟩ := h9
  unfold f_Rf_copiesRow
  have hl := zloop_up (step := f_Rf_copiesRow_l2 a b) (r := uA s 1 (fun i => if zRo s b ≤ i ∧ i < zRo s b + 24 then s.2 1 (i - zRo s b + zRo s a) else s.2 1 i)) 24 (n := zfu)
    (fun k => ((k : Int), uA s 1 (fun i => if zRo s b ≤ i ∧ i < zRo s b + k then s.2 1 (i - zRo s b + zRo s a) else s.2 1 i))) (fun k hk => ?_) ?_ ?_
  · simp only [Int.natCast_zero, Int.add_zero] at hl
    rw [uA_cg (F' := s.2 1) (by grind), uA_id] at hl
    refine bindS hl ?_
    rw [uA1, zGo_w h ha, zGo_w h hb]
    refine iteT (zGo_in h ha) (iteT ⟨zGo_in h hb, hg _⟩ ?_)
    rfl
  · unfold f_Rf_copiesRow_l2
    refine iteF (by show ¬ (24 : Int) ≤ (k : Int); omega) ?_
    refine bindS (c_Rf_at (h.uA _ _) (by omega) (by show -1000 ≤ (k : Int) ∧ (k : Int) < 1000; omega)) ?_
    refine bindS (c_Rf_at (h.uA _ _) (by omega) (by show -1000 ≤ (k : Int) ∧ (k : Int) < 1000; omega)) ?_
    refine iteT (zRo_in h ha (by show 0 ≤ (k : Int) ∧ (k : Int) < 24; omega)) (iteT (zRo_in h hb (by show 0 ≤ (k : Int) ∧ (k : Int) < 24; omega)) ?_)
    refine stepE (by show w32 ((k : Int) + 1) = _; rw [w32i] <;> omega) (fun i => ?_)
    show zup (fun i => if zRo s b ≤ i ∧ i < zRo s b + k then s.2 1 (i - zRo s b + zRo s a) else s.2 1 i) (zRo s b + (k : Int)) ((fun i => if zRo s b ≤ i ∧ i < zRo s b + k then s.2 1 (i - zRo s b + zRo s a) else s.2 1 i) (zRo s a + (k : Int))) i = _
    simp only [zup]
    unfold zRo
    grind
  · unfold f_Rf_copiesRow_l2
    exact iteT (by show (24 : Int) ≤ ((24 : Nat) : Int); decide) rfl
  · unfold zfu; omega
theorem c_Rf_emptiesRow {s : zSt} (h : zRZ s) {a : Int} (ha : 0 ≤ a ∧ a < 12) : f_Rf_emptiesRow a s = some (0, uB s (zFl (s.2 1) (zRo s a) (zRo s a + 24) 0) (zup (s.2 2) (zGo s a) 0)) := by
  unfold f_Rf_emptiesRow
  have hl := zloop_up (step := f_Rf_emptiesRow_l2 a) (r := uA s 1 (zFl (s.2 1) (zRo s a) (zRo s a + 24) 0)) 24 (n := zfu)
    (fun k => ((k : Int), uA s 1 (zFl (s.2 1) (zRo s a) (zRo s a + k) 0))) (fun k hk => ?_) ?_ ?_
  · simp only [Int.natCast_zero, Int.add_zero, zFl_self, uA_id] at hl
    refine bindS hl ?_
    rw [uA1, zGo_w h ha]
    exact iteT (zGo_in h ha) rfl
  · unfold f_Rf_emptiesRow_l2
    refine iteF (by show ¬ (24 : Int) ≤ (k : Int); omega) ?_
    refine bindS (c_Rf_at (h.uA _ _) (by omega) (by show -1000 ≤ (k : Int) ∧ (k : Int) < 1000; omega)) ?_
    refine iteT (zRo_in h ha (by show 0 ≤ (k : Int) ∧ (k : Int) < 24; omega)) ?_
    refine stepE (by show w32 ((k : Int) + 1) = _; rw [w32i] <;> omega) (fun i => ?_)
    show zup (zFl (s.2 1) (zRo s a) (zRo s a + k) 0) (zRo s a + (k : Int)) 0 i = _
    unfold zup zFl
    grind
  · unfold f_Rf_emptiesRow_l2
    exact iteT (by show (24 : Int) ≤ ((24 : Nat) : Int); decide) rfl
  · unfold zfu; omega
theorem c_Rf_rowsUp {s : zSt} (h : zRZ s) (hg : zGb s) {a b v : Int} (hab : 0 ≤ a ∧ a ≤ b ∧ b < 12) :
    zloop (f_Rf_scrollsUp_l34 a b v) zfu (a, s) = some (uB s (fun i => if zRo s a ≤ i ∧ i < zRo s b then s.2 1 (i + 24) else s.2 1 i) (fun i => if zGo s a ≤ i ∧ i < zGo s b then s.2 2 (i + 1) else s.2 2 i)) := by
  have hl := zloop_up (step := f_Rf_scrollsUp_l34 a b v) (r := uB s (fun i => if zRo s a ≤ i ∧ i < zRo s b then s.2 1 (i + 24) else s.2 1 i) (fun i => if zGo s a ≤ i ∧ i < zGo s b then s.2 2 (i + 1) else s.2 2 i)) (b - a).toNat (n := zfu)
    (fun k => (a + k, uB s (fun i => if zRo s a ≤ i ∧ i < zRo s (a + k) then s.2 1 (i + 24) else s.2 1 i) (fun i => if zGo s a ≤ i ∧ i < zGo s (a + k) then s.2 2 (i + 1) else s.2 2 i))) (fun k hk => ?_) ?_ ?_
  · simp only [Int.natCast_zero, Int.add_zero] at hl
    rw [uB_cg (f' := s.2 1) (g' := s.2 2) (by grind) (by grind), uB_id] at hl
    exact hl
  · unfold f_Rf_scrollsUp_l34
    refine iteF (by show ¬ b ≤ a + (k : Int); omega) ?_
    have ew : w32 (a + (k : Int) + 1) = a + k + 1 := w32i (by omega) (by omega)
    refine bindS (c_Rf_copiesRow (h.uB _ _) (fun i => by rw [uB22]; have := hg i; have := hg (i + 1); grind) (by show 0 ≤ w32 (a + (k : Int) + 1) ∧ w32 (a + (k : Int) + 1) < 12; omega) (by show 0 ≤ a + (k : Int) ∧ a + (k : Int) < 12; omega) (by show w32 (a + (k : Int) + 1) ≠ a + (k : Int); omega)) ?_
    refine stepB (by show w32 (a + (k : Int) + 1) = _; rw [ew]; omega) (uB_uB _ _ _ _ _) (fun i => ?_) (fun i => ?_)
    · simp only [uB21, zRo_uB, ew]
      unfold zRo
      grind
    · simp only [uB22, zGo_uB, ew, zup]
      unfold zGo
      grind
  · unfold f_Rf_scrollsUp_l34
    refine iteT (by show b ≤ a + ((b - a).toNat : Int); omega) ?_
    rw [show a + ((b - a).toNat : Int) = b by omega]
  · unfold zfu; omega
theorem c_Rf_rowsDown {s : zSt} (h : zRZ s) (hg : zGb s) {a b : Int} (hab : 0 ≤ a ∧ a ≤ b ∧ b < 12) :
    zloop (f_Rf_scrollsDown_l2 a b) zfu (b, s) = some (uB s (fun i => if zRo s a + 24 ≤ i ∧ i < zRo s b + 24 then s.2 1 (i - 24) else s.2 1 i) (fun i => if zGo s a < i ∧ i ≤ zGo s b then s.2 2 (i - 1) else s.2 2 i)) := by
  have hl := zloop_up (step := f_Rf_scrollsDown_l2 a b) (r := uB s (fun i => if zRo s a + 24 ≤ i ∧ i < zRo s b + 24 then s.2 1 (i - 24) else s.2 1 i) (fun i => if zGo s a < i ∧ i ≤ zGo s b then s.2 2 (i - 1) else s.2 2 i)) (b - a).toNat (n := zfu)
    (fun k => (b - k, uB s (fun i => if zRo s (b - k) + 24 ≤ i ∧ i < zRo s b + 24 then s.2 1 (i - 24) else s.2 1 i) (fun i => if zGo s (b - k) < i ∧ i ≤ zGo s b then s.2 2 (i - 1) else s.2 2 i))) (fun k hk => ?_) ?_ ?_
  · simp only [Int.natCast_zero, Int.sub_zero] at hl
    rw [uB_cg (f' := s.2 1) (g' := s.2 2) (by grind) (by grind), uB_id] at hl
    exact hl
  · unfold f_Rf_scrollsDown_l2
    refine iteF (by show ¬ b - (k : Int) ≤ a; omega) ?_
    have ew : w32 (b - (k : Int) - 1) = b - k - 1 := w32i (by omega) (by omega)
    have ew2 : w32 (b - (k : Int) + -1) = b - ((k + 1 : Nat) : Int) := by rw [w32i (by omega) (by omega)]; omega
    refine bindS (c_Rf_copiesRow (h.uB _ _) (fun i => by rw [uB22]; have := hg i; have := hg (i - 1); grind) (by show 0 ≤ w32 (b - (k : Int) - 1) ∧ w32 (b - (k : Int) - 1) < 12; omega) (by show 0 ≤ b - (k : Int) ∧ b - (k : Int) < 12; omega) (by show w32 (b - (k : Int) - 1) ≠ b - (k : Int); omega)) ?_
    refine stepB ew2 (uB_uB _ _ _ _ _) (fun i => ?_) (fun i => ?_)
    · simp only [uB21, zRo_uB, ew]
      unfold zRo
      grind
    · simp only [uB22, zGo_uB, ew, zup]
      unfold zGo
      grind
  · unfold f_Rf_scrollsDown_l2
    refine iteT (by show b - ((b - a).toNat : Int) ≤ a; omega) ?_
    rw [show b - ((b - a).toNat : Int) = a by omega]
  · unfold zfu; omega
theorem c_Rf_up {s : zSt} (h : zRZ s) (hg : zGb s) {a b v : Int} (hab : 0 ≤ a ∧ a ≤ b ∧ b < 12) :
    ∃ r1, zloop (f_Rf_scrollsUp_l34 a b v) zfu (a, s) = some r1 ∧ f_Rf_emptiesRow b r1 = some (0, uB s (zUp (s.2 1) (288 * s.1 0 8) a b) (zUg (s.2 2) (12 * s.1 0 8) a b)) := by
  refine ⟨_, c_Rf_rowsUp h hg hab, ?_⟩
  rw [c_Rf_emptiesRow (h.uB _ _) (by omega), uB_uB]
  congr 2
  refine uB_cg (fun i => ?_) (fun i => ?_)
  · simp only [uB21, zRo_uB, zFl, zUp]
    unfold zRo
    grind
  · simp only [uB22, zGo_uB, zup, zUg]
    unfold zGo
    grind
theorem c_Rf_dn {s : zSt} (h : zRZ s) (hg : zGb s) {a b : Int} (hab : 0 ≤ a ∧ a ≤ b ∧ b < 12) :
    ∃ r1 r2, zloop (f_Rf_scrollsDown_l2 a b) zfu (b, s) = some r1 ∧ f_Rf_emptiesRow a r1 = some (0, r2) ∧ r2.1 = s.1 ∧ uE r2 2 (zGo s b) 0 = uB s (zDn (s.2 1) (288 * s.1 0 8) a b) (zDg (s.2 2) (12 * s.1 0 8) a b) := by
  refine ⟨_, _, c_Rf_rowsDown h hg hab, c_Rf_emptiesRow (h.uB _ _) (by omega), rfl, ?_⟩
  rw [uB_uB, uB_E2]
  refine uB_cg (fun i => ?_) (fun i => ?_)
  · simp only [uB21, zRo_uB, zFl, zDn]
    unfold zRo
    grind
  · simp only [uB22, zGo_uB, zup, zDg]
    unfold zGo
    grind
