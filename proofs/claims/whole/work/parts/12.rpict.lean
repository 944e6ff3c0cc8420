/-! ===== the reference's picture ===== -/
def zRL (r : zSt) : Prop := r.1 1 0 = 576 ∧ r.1 2 0 = 24 ∧ r.1 3 0 = 960 ∧ r.1 4 0 = 40 ∧ r.1 5 0 = 4 ∧ r.1 6 0 = 16 ∧ r.1 7 0 = 16 ∧ r.1 8 0 = 100 ∧ r.1 9 0 = 30 ∧ r.1 10 0 = 200 ∧ r.1 11 0 = 40 ∧ r.1 12 0 = 288 ∧ r.1 13 0 = 400 ∧ r.1 14 0 = 12000 ∧ r.1 15 0 = 500
theorem zRL.uS {r : zSt} (h : zRL r) (k : Nat) (x : Int) : zRL (uS r 0 k x) := h
theorem zRL.uA {r : zSt} (h : zRL r) (i : Nat) (f : Int → Int) : zRL (uA r i f) := h
/-- the reference's size -/
def zRZ (r : zSt) : Prop := zRL r ∧ (2 ≤ r.1 0 1 ∧ r.1 0 1 ≤ 12) ∧ (4 ≤ r.1 0 2 ∧ r.1 0 2 ≤ 24) ∧ (0 ≤ r.1 0 8 ∧ r.1 0 8 ≤ 1)
theorem zRZ.uA {r : zSt} (h : zRZ r) (i : Nat) (f : Int → Int) : zRZ (uA r i f) := h
def zRo (r : zSt) (a : Int) : Int := 288 * r.1 0 8 + a * 24
theorem c_Rf_in (a b c : Int) : f_Rf_in a b c = some (if a < b then 0 else if c < a then 0 else 1) := rfl
theorem c_Rf_at {s : zSt} (h : zRZ s) {r c : Int} (hr : 0 ≤ r ∧ r < 1000) (hc : -1000 ≤ c ∧ c < 1000) : f_Rf_at r c s = some (zRo s r + c) := by
  obtain ⟨-, -, -, h1⟩ := h
  unfold f_Rf_at zRo
  simp (disch := omega) only [w32i]
  congr 1
  omega
theorem c_Rf_parts {s : zSt} (h : zRZ s) {r c : Int} (hr : 0 ≤ r ∧ r < 12) (hc : 0 ≤ c ∧ c < 1000) : f_Rf_parts r c s = some (0, uA s 1 (zPt (s.2 1) (zRo s r) c (s.1 0 2))) := by
  have h9 := h
  obtain ⟨hl, h1, h2, h3⟩ := h9
  have h576 := hl.1
  unfold f_Rf_parts
  rw [c_Rf_in, Option.bind_some, w32i (by omega) (by omega)]
  by_cases hc1 : 0 < c ∧ c < s.1 0 2
  · rw [if_neg (by rw [if_neg (by omega), if_neg (by omega)]; decide), c_Rf_at h (by omega) (by omega), Option.bind_some, if_pos (by unfold zRo; omega)]
    by_cases ht : s.2 1 (zRo s r + c) = -2
    · rw [if_neg (by simpa using ht)]
      rw [Option.bind_some, if_pos (by unfold zRo; omega), w32i (by omega) (by omega)]
      rw [c_Rf_at (s := uE s 1 _ _) h (by omega) (by omega), Option.bind_some, if_pos (by show 0 ≤ zRo s r + (c - 1) ∧ zRo s r + (c - 1) < s.1 1 0; unfold zRo; omega)]
      unfold uE
      rw [uA_uA]
      congr 3
      rw [uA2, if_pos rfl]
      funext i
      unfold zup zPt
      show (if i = zRo s r + (c - 1) then _ else _) = _
      by_cases q : i = zRo s r + (c - 1)
      · rw [if_pos q, if_pos ⟨⟨hc1.1, hc1.2, ht⟩, Or.inr (by omega)⟩]
      · rw [if_neg q]
        by_cases q2 : i = zRo s r + c
        · rw [if_pos q2, if_pos ⟨⟨hc1.1, hc1.2, ht⟩, Or.inl q2⟩]
        · rw [if_neg q2, if_neg (by omega)]
    · rw [if_pos ht]
      have e : zPt (s.2 1) (zRo s r) c (s.1 0 2) = s.2 1 := by
        funext i
        unfold zPt
        rw [if_neg (fun q => ht q.1.2.2)]
      rw [e, uA_id]
  · rw [if_pos]
    · have e : zPt (s.2 1) (zRo s r) c (s.1 0 2) = s.2 1 := by
        funext i
        unfold zPt
        rw [if_neg (fun q => hc1 ⟨q.1.1, q.1.2.1⟩)]
      rw [e, uA_id]
    · by_cases q : c < 1
      · rw [if_pos q]
      · rw [if_neg q, if_pos (by omega)]
theorem c_Rf_erases {s : zSt} (h : zRZ s) {r a b : Int} (hr : 0 ≤ r ∧ r < 12) (ha : 0 ≤ a ∧ a ≤ s.1 0 2) (hb : a ≤ b ∧ b ≤ s.1 0 2) : f_Rf_erases r a b s = some (0, uA s 1 (zEr (s.2 1) (zRo s r) a b (s.1 0 2))) := by
  have h9 := h
  obtain ⟨hl, h1, h2, h3⟩ := h9
  have h576 := hl.1
  unfold f_Rf_erases
  rw [c_Rf_parts h hr (by omega)]
  simp only [Option.bind_some]
  rw [c_Rf_parts (h.uA _ _) hr (by omega)]
  simp only [Option.bind_some, uA1, uA2, if_true, uA_uA]
  rw [show zRo (uA s 1 (zPt (s.2 1) (zRo s r) a (s.1 0 2))) r = zRo s r from rfl]
  generalize hG : zPt (zPt (s.2 1) (zRo s r) a (s.1 0 2)) (zRo s r) b (s.1 0 2) = G
  have hl := zloop_up (step := f_Rf_erases_l15 r b) (r := uA s 1 (zFl G (zRo s r + a) (zRo s r + b) 0)) (b - a).toNat (n := zfu) (fun k => (a + k, uA s 1 (zFl G (zRo s r + a) (zRo s r + a + k) 0))) (fun k hk => ?_) ?_ ?_
  · simp only [Int.natCast_zero, Int.add_zero, zFl_self] at hl
    rw [hl]
    unfold zEr
    rw [hG]
    rfl
  · unfold f_Rf_erases_l15
    simp only []
    rw [if_neg (by omega), c_Rf_at (h.uA _ _) (by omega) (by omega), Option.bind_some, show zRo (uA s 1 (zFl G (zRo s r + a) (zRo s r + a + k) 0)) r = zRo s r from rfl, if_pos (by rw [uA1]; unfold zRo; omega)]
    rw [w32i (by omega) (by omega)]
    unfold uE
    rw [uA_uA, uA2, if_pos rfl, show zRo s r + (a + (k : Int)) = zRo s r + a + k by omega, zup_zFl (by omega), Int.natCast_add, show a + ((k : Int) + ((1 : Nat) : Int)) = a + k + 1 by omega, show zRo s r + a + ((k : Int) + ((1 : Nat) : Int)) = zRo s r + a + k + 1 by omega]
  · unfold f_Rf_erases_l15
    simp only []
    rw [if_pos (by omega), show zRo s r + a + ((b - a).toNat : Int) = zRo s r + b by omega]
  · unfold zfu; omega
theorem zPt_idem {g : Int → Int} {o c n : Int} : zPt (zPt g o c n) o c n = zPt g o c n := by
  funext i
  show (if (0 < c ∧ c < n ∧ zPt g o c n (o + c) = -2) ∧ (i = o + c ∨ i = o + c - 1) then 0 else zPt g o c n i) = _
  rw [if_neg]
  rintro ⟨⟨h1, h2, h3⟩, -⟩
  unfold zPt at h3
  by_cases q : g (o + c) = -2
  · rw [if_pos ⟨⟨h1, h2, q⟩, Or.inl rfl⟩] at h3
    cases h3
  · rw [if_neg (fun z => q z.1.2.2)] at h3
    exact q h3
theorem c_Rf_movesRight {s : zSt} (h : zRZ s) {r a k : Int} (hr : 0 ≤ r ∧ r < 12) (ha : 0 ≤ a ∧ a < s.1 0 2) (hk : 1 ≤ k ∧ k < 100000) : f_Rf_movesRight r a k s = some (0, uA s 1 (zIn (s.2 1) (zRo s r) a (if k < s.1 0 2 - a then k else s.1 0 2 - a) (s.1 0 2))) := by
  have h9 := h
  obtain ⟨hl, h1, h2, h3⟩ := h9
  have h576 := hl.1
  unfold f_Rf_movesRight
  have em : (if w32 (s.1 0 2 - a) ≤ k then w32 (s.1 0 2 - a) else k) = (if k < s.1 0 2 - a then k else s.1 0 2 - a) := by
    rw [w32i (by omega) (by omega)]
    by_cases q : k < s.1 0 2 - a
    · rw [if_pos q, if_neg (by omega)]
    · rw [if_neg q, if_pos (by omega)]
  rw [em]
  generalize hm : (if k < s.1 0 2 - a then k else s.1 0 2 - a) = m
  have hm1 : 1 ≤ m ∧ m ≤ s.1 0 2 - a := by rw [← hm]; split <;> omega
  rw [c_Rf_parts h hr (by omega)]
  simp only [Option.bind_some, uA1]
  rw [w32i (by omega) (by omega)]
  have key : ∀ G : Int → Int, f_Rf_movesRight_j51 r a m (uA s 1 G) = some (0, uA s 1 (fun i => if zRo s r + a ≤ i ∧ i < zRo s r + s.1 0 2 then (if zRo s r + a ≤ i - m then G (i - m) else 0) else G i)) := by
    intro G
    unfold f_Rf_movesRight_j51
    rw [uA1, w32i (by omega) (by omega)]
    have hl := zloop_up (step := f_Rf_movesRight_l59 r a m) (r := uA s 1 (fun i => if zRo s r + a ≤ i ∧ i < zRo s r + s.1 0 2 then (if zRo s r + a ≤ i - m then G (i - m) else 0) else G i)) (s.1 0 2 - a).toNat (n := zfu)
      (fun j => (s.1 0 2 - 1 - j, uA s 1 (fun i => if zRo s r + (s.1 0 2 - j) ≤ i ∧ i < zRo s r + s.1 0 2 then (if zRo s r + a ≤ i - m then G (i - m) else 0) else G i))) (fun j hj => ?_) ?_ ?_
    · simp only [Int.natCast_zero, Int.sub_zero] at hl
      have e2 : (fun i => if zRo s r + s.1 0 2 ≤ i ∧ i < zRo s r + s.1 0 2 then (if zRo s r + a ≤ i - m then G (i - m) else 0) else G i) = G := by
        funext i
        rw [if_neg (by omega)]
      rw [e2] at hl
      rw [hl]
      rfl
    · unfold f_Rf_movesRight_l59
      simp only []
      rw [if_neg (by omega), c_Rf_at (h.uA _ _) (by omega) (by omega), Option.bind_some]
      simp only [show ∀ g, zRo (uA s 1 g) r = zRo s r from fun _ => rfl, uA1]
      have ew : w32 (s.1 0 2 - 1 - (j : Int) - m) = s.1 0 2 - 1 - j - m := w32i (by omega) (by omega)
      have ew2 : w32 (s.1 0 2 - 1 - (j : Int) + -1) = s.1 0 2 - 1 - ((j + 1 : Nat) : Int) := by rw [w32i (by omega) (by omega)]; omega
      rw [ew, ew2]
      have hb : 0 ≤ zRo s r + (s.1 0 2 - 1 - (j : Int)) ∧ zRo s r + (s.1 0 2 - 1 - (j : Int)) < s.1 1 0 := by unfold zRo; omega
      by_cases q : s.1 0 2 - 1 - (j : Int) - m < a
      · rw [if_pos q, if_pos hb]
        unfold uE
        rw [uA_uA, uA2, if_pos rfl]
        congr 4
        funext i
        unfold zup
        by_cases q2 : i = zRo s r + (s.1 0 2 - 1 - (j : Int))
        · rw [if_pos q2, if_pos (by omega), if_neg (by omega)]
        · rw [if_neg q2]
          by_cases q3 : zRo s r + (s.1 0 2 - (j : Int)) ≤ i ∧ i < zRo s r + s.1 0 2
          · rw [if_pos q3, if_pos (by omega)]
          · rw [if_neg q3, if_neg (by omega)]
      · rw [if_neg q, c_Rf_at (h.uA _ _) (by omega) (by omega), Option.bind_some]
        simp only [show ∀ g, zRo (uA s 1 g) r = zRo s r from fun _ => rfl]
        rw [if_pos (by unfold zRo; omega), if_pos hb]
        unfold uE
        rw [uA_uA]
        simp only [uA2, if_true]
        congr 4
        funext i
        unfold zup
        by_cases q2 : i = zRo s r + (s.1 0 2 - 1 - (j : Int))
        · rw [if_pos q2, if_pos (by omega), if_pos (by omega), if_neg (by omega), q2]
          congr 1
          omega
        · rw [if_neg q2]
          by_cases q3 : zRo s r + (s.1 0 2 - (j : Int)) ≤ i ∧ i < zRo s r + s.1 0 2
          · rw [if_pos q3, if_pos (by omega)]
          · rw [if_neg q3, if_neg (by omega)]
    · unfold f_Rf_movesRight_l59
      simp only []
      rw [if_pos (by omega), show s.1 0 2 - ((s.1 0 2 - a).toNat : Int) = a by omega]
    · unfold zfu; omega
  by_cases q : s.1 0 2 - m ≤ a
  · rw [if_pos q, key]
    congr 3
    unfold zIn
    rw [show s.1 0 2 - m = a by omega, zPt_idem]
  · rw [if_neg q, c_Rf_parts (h.uA _ _) hr (by omega)]
    simp only [Option.bind_some, uA1, uA2, if_true, uA_uA]
    rw [key]
    rfl
theorem c_Rf_movesLeft {s : zSt} (h : zRZ s) {r a k : Int} (hr : 0 ≤ r ∧ r < 12) (ha : 0 ≤ a ∧ a < s.1 0 2) (hk : 1 ≤ k ∧ k < 100000) : f_Rf_movesLeft r a k s = some (0, uA s 1 (zDl (s.2 1) (zRo s r) a (if k < s.1 0 2 - a then k else s.1 0 2 - a) (s.1 0 2))) := by
  have h9 := h
  obtain ⟨hl, h1, h2, h3⟩ := h9
  have h576 := hl.1
  unfold f_Rf_movesLeft
  have em : (if w32 (s.1 0 2 - a) ≤ k then w32 (s.1 0 2 - a) else k) = (if k < s.1 0 2 - a then k else s.1 0 2 - a) := by
    rw [w32i (by omega) (by omega)]
    by_cases q : k < s.1 0 2 - a
    · rw [if_pos q, if_neg (by omega)]
    · rw [if_neg q, if_pos (by omega)]
  rw [em]
  generalize hm : (if k < s.1 0 2 - a then k else s.1 0 2 - a) = m
  have hm1 : 1 ≤ m ∧ m ≤ s.1 0 2 - a := by rw [← hm]; split <;> omega
  rw [c_Rf_parts h hr (by omega)]
  simp only [Option.bind_some]
  rw [w32i (by omega) (by omega), c_Rf_parts (h.uA _ _) hr (by omega)]
  simp only [Option.bind_some, uA1, uA2, if_true, uA_uA]
  rw [show zRo (uA s 1 (zPt (s.2 1) (zRo s r) a (s.1 0 2))) r = zRo s r from rfl]
  generalize hG : zPt (zPt (s.2 1) (zRo s r) a (s.1 0 2)) (zRo s r) (a + m) (s.1 0 2) = G
  have hl := zloop_up (step := f_Rf_movesLeft_l40 r m) (r := uA s 1 (zDl (s.2 1) (zRo s r) a m (s.1 0 2))) (s.1 0 2 - a).toNat (n := zfu)
    (fun j => (a + j, uA s 1 (fun i => if zRo s r + a ≤ i ∧ i < zRo s r + (a + j) then (if i + m < zRo s r + s.1 0 2 then G (i + m) else 0) else G i))) (fun j hj => ?_) ?_ ?_
  · simp only [Int.natCast_zero, Int.add_zero] at hl
    have e2 : (fun i => if zRo s r + a ≤ i ∧ i < zRo s r + a then (if i + m < zRo s r + s.1 0 2 then G (i + m) else 0) else G i) = G := by
      funext i
      rw [if_neg (by omega)]
    rw [e2] at hl
    rw [hl]
    rfl
  · unfold f_Rf_movesLeft_l40
    simp only [uA1]
    rw [if_neg (by omega), c_Rf_at (h.uA _ _) (by omega) (by omega), Option.bind_some]
    simp only [show ∀ g, zRo (uA s 1 g) r = zRo s r from fun _ => rfl]
    have ew : w32 (a + (j : Int) + m) = a + j + m := w32i (by omega) (by omega)
    have ew2 : w32 (a + (j : Int) + 1) = a + ((j + 1 : Nat) : Int) := by rw [w32i (by omega) (by omega)]; omega
    rw [ew, ew2]
    have hb : 0 ≤ zRo s r + (a + (j : Int)) ∧ zRo s r + (a + (j : Int)) < s.1 1 0 := by unfold zRo; omega
    by_cases q : s.1 0 2 ≤ a + (j : Int) + m
    · rw [if_pos q, if_pos hb]
      unfold uE
      rw [uA_uA, uA2, if_pos rfl]
      congr 4
      funext i
      unfold zup
      by_cases q2 : i = zRo s r + (a + (j : Int))
      · rw [if_pos q2, if_pos (by omega), if_neg (by omega)]
      · rw [if_neg q2]
        by_cases q3 : zRo s r + a ≤ i ∧ i < zRo s r + (a + (j : Int))
        · rw [if_pos q3, if_pos (by omega)]
        · rw [if_neg q3, if_neg (by omega)]
    · rw [if_neg q, c_Rf_at (h.uA _ _) (by omega) (by omega), Option.bind_some]
      simp only [show ∀ g, zRo (uA s 1 g) r = zRo s r from fun _ => rfl]
      rw [if_pos (by unfold zRo; omega), if_pos hb]
      unfold uE
      rw [uA_uA]
      simp only [uA2, if_true]
      congr 4
      funext i
      unfold zup
      by_cases q2 : i = zRo s r + (a + (j : Int))
      · rw [if_pos q2, if_pos (by omega), if_pos (by omega), if_neg (by omega), q2]
        congr 1
        omega
      · rw [if_neg q2]
        by_cases q3 : zRo s r + a ≤ i ∧ i < zRo s r + (a + (j : Int))
        · rw [if_pos q3, if_pos (by omega)]
        · rw [if_neg q3, if_neg (by omega)]
  · unfold f_Rf_movesLeft_l40
    simp only [uA1]
    rw [if_pos (by omega)]
    congr 3
    funext i
    unfold zDl
    rw [hG, show a + ((s.1 0 2 - a).toNat : Int) = s.1 0 2 by omega]
  · unfold zfu; omega
/-! rows up and down -/
def zGb (r : zSt) : Prop := ∀ i, r.2 2 i = 0 ∨ r.2 2 i = 1
def zGo (r : zSt) (a : Int) : Int := 12 * r.1 0 8 + a
theorem c_Rf_copiesRow {s : zSt} (h : zRZ s) (hg : zGb s) {a b : Int} (ha : 0 ≤ a ∧ a < 12) (hb : 0 ≤ b ∧ b < 12) (hab : a ≠ b) :
    f_Rf_copiesRow a b s = some (0, uA (uA s 1 (fun i => if zRo s b ≤ i ∧ i < zRo s b + 24 then s.2 1 (i - zRo s b + zRo s a) else s.2 1 i)) 2 (zup (s.2 2) (zGo s b) (s.2 2 (zGo s a)))) := by
  have h9 := h
  obtain ⟨hl, h1, h2, h3⟩ := h9
  have h576 := hl.1
  have h24 := hl.2.1
  unfold f_Rf_copiesRow
  have hl := zloop_up (step := f_Rf_copiesRow_l2 a b) (r := uA s 1 (fun i => if zRo s b ≤ i ∧ i < zRo s b + 24 then s.2 1 (i - zRo s b + zRo s a) else s.2 1 i)) 24 (n := zfu)
    (fun k => ((k : Int), uA s 1 (fun i => if zRo s b ≤ i ∧ i < zRo s b + k then s.2 1 (i - zRo s b + zRo s a) else s.2 1 i))) (fun k hk => ?_) ?_ ?_
  · simp only [Int.natCast_zero, Int.add_zero] at hl
    have e : (fun i => if zRo s b ≤ i ∧ i < zRo s b then s.2 1 (i - zRo s b + zRo s a) else s.2 1 i) = s.2 1 := by
      funext i
      rw [if_neg (by omega)]
    rw [e, uA_id] at hl
    rw [hl]
    simp only [Option.bind_some, uA1]
    have e1 : w32 (w32 (12 * s.1 0 8) + a) = zGo s a := by rw [w32i (x := 12 * s.1 0 8) (by omega) (by omega), w32i (by omega) (by omega)]; rfl
    have e2 : w32 (w32 (12 * s.1 0 8) + b) = zGo s b := by rw [w32i (x := 12 * s.1 0 8) (by omega) (by omega), w32i (by omega) (by omega)]; rfl
    rw [e1, e2, if_pos (by unfold zGo; omega), if_pos ⟨by unfold zGo; omega, hg _⟩]
    rfl
  · unfold f_Rf_copiesRow_l2
    simp only []
    rw [if_neg (by omega), c_Rf_at (h.uA _ _) (by omega) (by omega), Option.bind_some, c_Rf_at (h.uA _ _) (by omega) (by omega), Option.bind_some]
    simp only [show ∀ g c, zRo (uA s 1 g) c = zRo s c from fun _ _ => rfl, uA1]
    rw [if_pos (by unfold zRo; omega), if_pos (by unfold zRo; omega), w32i (by omega) (by omega)]
    unfold uE
    rw [uA_uA]
    simp only [uA2, if_true]
    congr 4
    funext i
    unfold zup
    by_cases q : i = zRo s b + (k : Int)
    · rw [if_pos q, if_pos (by omega), if_neg (by unfold zRo at *; omega), q]
      congr 1
      omega
    · rw [if_neg q]
      by_cases q3 : zRo s b ≤ i ∧ i < zRo s b + (k : Int)
      · rw [if_pos q3, if_pos (by omega)]
      · rw [if_neg q3, if_neg (by omega)]
  · unfold f_Rf_copiesRow_l2
    simp only []
    rw [if_pos (by decide)]
    rfl
  · unfold zfu; omega
theorem c_Rf_emptiesRow {s : zSt} (h : zRZ s) {a : Int} (ha : 0 ≤ a ∧ a < 12) : f_Rf_emptiesRow a s = some (0, uA (uA s 1 (zFl (s.2 1) (zRo s a) (zRo s a + 24) 0)) 2 (zup (s.2 2) (zGo s a) 0)) := by
  have h9 := h
  obtain ⟨hl, h1, h2, h3⟩ := h9
  have h576 := hl.1
  have h24 := hl.2.1
  unfold f_Rf_emptiesRow
  have hl := zloop_up (step := f_Rf_emptiesRow_l2 a) (r := uA s 1 (zFl (s.2 1) (zRo s a) (zRo s a + 24) 0)) 24 (n := zfu)
    (fun k => ((k : Int), uA s 1 (zFl (s.2 1) (zRo s a) (zRo s a + k) 0))) (fun k hk => ?_) ?_ ?_
  · simp only [Int.natCast_zero, Int.add_zero, zFl_self, uA_id] at hl
    rw [hl]
    simp only [Option.bind_some, uA1]
    have e1 : w32 (w32 (12 * s.1 0 8) + a) = zGo s a := by rw [w32i (x := 12 * s.1 0 8) (by omega) (by omega), w32i (by omega) (by omega)]; rfl
    rw [e1, if_pos (by unfold zGo; omega)]
    rfl
  · unfold f_Rf_emptiesRow_l2
    simp only []
    rw [if_neg (by omega), c_Rf_at (h.uA _ _) (by omega) (by omega), Option.bind_some]
    simp only [show ∀ g c, zRo (uA s 1 g) c = zRo s c from fun _ _ => rfl, uA1]
    rw [if_pos (by unfold zRo; omega), w32i (by omega) (by omega)]
    unfold uE
    rw [uA_uA, uA2, if_pos rfl, zup_zFl (by omega), Int.natCast_add, Int.add_assoc]
    rfl
  · unfold f_Rf_emptiesRow_l2
    simp only []
    rw [if_pos (by decide)]
    rfl
  · unfold zfu; omega
theorem zRZ.uA' {r : zSt} (h : zRZ r) (i j : Nat) (f g : Int → Int) : zRZ (uA (uA r i f) j g) := h
theorem c_Rf_rowsUp {s : zSt} (h : zRZ s) (hg : zGb s) {a b v : Int} (hab : 0 ≤ a ∧ a ≤ b ∧ b < 12) :
    zloop (f_Rf_scrollsUp_l34 a b v) zfu (a, s) = some (uA (uA s 1 (fun i => if 288 * s.1 0 8 + a * 24 ≤ i ∧ i < 288 * s.1 0 8 + b * 24 then s.2 1 (i + 24) else s.2 1 i)) 2 (fun i => if 12 * s.1 0 8 + a ≤ i ∧ i < 12 * s.1 0 8 + b then s.2 2 (i + 1) else s.2 2 i)) := by
  have h9 := h
  obtain ⟨hl, h1, h2, h3⟩ := h9
  have hl := zloop_up (step := f_Rf_scrollsUp_l34 a b v) (r := uA (uA s 1 (fun i => if 288 * s.1 0 8 + a * 24 ≤ i ∧ i < 288 * s.1 0 8 + b * 24 then s.2 1 (i + 24) else s.2 1 i)) 2 (fun i => if 12 * s.1 0 8 + a ≤ i ∧ i < 12 * s.1 0 8 + b then s.2 2 (i + 1) else s.2 2 i)) (b - a).toNat (n := zfu)
    (fun k => (a + k, uA (uA s 1 (fun i => if 288 * s.1 0 8 + a * 24 ≤ i ∧ i < 288 * s.1 0 8 + (a + k) * 24 then s.2 1 (i + 24) else s.2 1 i)) 2 (fun i => if 12 * s.1 0 8 + a ≤ i ∧ i < 12 * s.1 0 8 + (a + k) then s.2 2 (i + 1) else s.2 2 i))) (fun k hk => ?_) ?_ ?_
  · simp only [Int.natCast_zero, Int.add_zero] at hl
    have e1 : (fun i => if 288 * s.1 0 8 + a * 24 ≤ i ∧ i < 288 * s.1 0 8 + a * 24 then s.2 1 (i + 24) else s.2 1 i) = s.2 1 := by
      funext i
      rw [if_neg (by omega)]
    have e2 : (fun i => if 12 * s.1 0 8 + a ≤ i ∧ i < 12 * s.1 0 8 + a then s.2 2 (i + 1) else s.2 2 i) = s.2 2 := by
      funext i
      rw [if_neg (by omega)]
    rw [e1, e2, uA_id, uA_id] at hl
    exact hl
  · unfold f_Rf_scrollsUp_l34
    simp only []
    rw [if_neg (by omega), w32i (by omega) (by omega), c_Rf_copiesRow (h.uA' _ _ _ _) (fun i => by simp only [uA2, if_true]; split <;> exact hg _) (by omega) (by omega) (by omega), Option.bind_some]
    congr 2
    refine Prod.ext (by simp only []; omega) (Prod.ext rfl (funext fun x => ?_))
    simp only [uA2, show ∀ f g c, zRo (uA (uA s 1 f) 2 g) c = zRo s c from fun _ _ _ => rfl, show ∀ f g c, zGo (uA (uA s 1 f) 2 g) c = zGo s c from fun _ _ _ => rfl]
    by_cases q2 : x = 2
    · rw [if_pos q2, if_pos q2]
      funext i
      unfold zup zGo
      simp only [if_true]
      by_cases q : i = 12 * s.1 0 8 + (a + (k : Int))
      · rw [if_pos q, if_neg (by omega), if_pos (by omega), q]
        congr 1
        omega
      · rw [if_neg q]
        by_cases q3 : 12 * s.1 0 8 + a ≤ i ∧ i < 12 * s.1 0 8 + (a + (k : Int))
        · rw [if_pos q3, if_pos (by omega)]
        · rw [if_neg q3, if_neg (by omega)]
    · rw [if_neg q2, if_neg q2]
      by_cases q1 : x = 1
      · rw [if_pos q1, if_pos q1]
        funext i
        simp only [if_true]
        rw [if_neg (by decide)]
        unfold zRo
        by_cases q : 288 * s.1 0 8 + (a + (k : Int)) * 24 ≤ i ∧ i < 288 * s.1 0 8 + (a + (k : Int)) * 24 + 24
        · rw [if_pos q, if_neg (by omega), if_pos (by omega)]
          congr 1
          omega
        · rw [if_neg q]
          by_cases q3 : 288 * s.1 0 8 + a * 24 ≤ i ∧ i < 288 * s.1 0 8 + (a + (k : Int)) * 24
          · rw [if_pos q3, if_pos (by omega)]
          · rw [if_neg q3, if_neg (by omega)]
      · rw [if_neg q1, if_neg q1, if_neg q2, if_neg q1]
  · unfold f_Rf_scrollsUp_l34
    simp only []
    rw [if_pos (by omega), show a + ((b - a).toNat : Int) = b by omega]
  · unfold zfu; omega
theorem c_Rf_rowsDown {s : zSt} (h : zRZ s) (hg : zGb s) {a b : Int} (hab : 0 ≤ a ∧ a ≤ b ∧ b < 12) :
    zloop (f_Rf_scrollsDown_l2 a b) zfu (b, s) = some (uA (uA s 1 (fun i => if 288 * s.1 0 8 + a * 24 + 24 ≤ i ∧ i < 288 * s.1 0 8 + b * 24 + 24 then s.2 1 (i - 24) else s.2 1 i)) 2 (fun i => if 12 * s.1 0 8 + a < i ∧ i ≤ 12 * s.1 0 8 + b then s.2 2 (i - 1) else s.2 2 i)) := by
  have h9 := h
  obtain ⟨hl, h1, h2, h3⟩ := h9
  have hl := zloop_up (step := f_Rf_scrollsDown_l2 a b) (r := uA (uA s 1 (fun i => if 288 * s.1 0 8 + a * 24 + 24 ≤ i ∧ i < 288 * s.1 0 8 + b * 24 + 24 then s.2 1 (i - 24) else s.2 1 i)) 2 (fun i => if 12 * s.1 0 8 + a < i ∧ i ≤ 12 * s.1 0 8 + b then s.2 2 (i - 1) else s.2 2 i)) (b - a).toNat (n := zfu)
    (fun k => (b - k, uA (uA s 1 (fun i => if 288 * s.1 0 8 + (b - k) * 24 + 24 ≤ i ∧ i < 288 * s.1 0 8 + b * 24 + 24 then s.2 1 (i - 24) else s.2 1 i)) 2 (fun i => if 12 * s.1 0 8 + (b - k) < i ∧ i ≤ 12 * s.1 0 8 + b then s.2 2 (i - 1) else s.2 2 i))) (fun k hk => ?_) ?_ ?_
  · simp only [Int.natCast_zero, Int.sub_zero] at hl
    have e1 : (fun i => if 288 * s.1 0 8 + b * 24 + 24 ≤ i ∧ i < 288 * s.1 0 8 + b * 24 + 24 then s.2 1 (i - 24) else s.2 1 i) = s.2 1 := by
      funext i
      rw [if_neg (by omega)]
    have e2 : (fun i => if 12 * s.1 0 8 + b < i ∧ i ≤ 12 * s.1 0 8 + b then s.2 2 (i - 1) else s.2 2 i) = s.2 2 := by
      funext i
      rw [if_neg (by omega)]
    rw [e1, e2, uA_id, uA_id] at hl
    exact hl
  · unfold f_Rf_scrollsDown_l2
    simp only []
    have ew2 : w32 (b - (k : Int) + -1) = b - ((k + 1 : Nat) : Int) := by rw [w32i (by omega) (by omega)]; omega
    rw [if_neg (by omega), w32i (by omega) (by omega), c_Rf_copiesRow (h.uA' _ _ _ _) (fun i => by simp only [uA2, if_true]; split <;> exact hg _) (by omega) (by omega) (by omega), Option.bind_some, ew2]
    congr 2
    refine Prod.ext rfl (Prod.ext rfl (funext fun x => ?_))
    simp only [uA2, show ∀ f g c, zRo (uA (uA s 1 f) 2 g) c = zRo s c from fun _ _ _ => rfl, show ∀ f g c, zGo (uA (uA s 1 f) 2 g) c = zGo s c from fun _ _ _ => rfl]
    by_cases q2 : x = 2
    · rw [if_pos q2, if_pos q2]
      funext i
      unfold zup zGo
      simp only [if_true]
      by_cases q : i = 12 * s.1 0 8 + (b - (k : Int))
      · rw [if_pos q, if_neg (by omega), if_pos (by omega), q]
        congr 1
        omega
      · rw [if_neg q]
        by_cases q3 : 12 * s.1 0 8 + (b - (k : Int)) < i ∧ i ≤ 12 * s.1 0 8 + b
        · rw [if_pos q3, if_pos (by omega)]
        · rw [if_neg q3, if_neg (by omega)]
    · rw [if_neg q2, if_neg q2]
      by_cases q1 : x = 1
      · rw [if_pos q1, if_pos q1]
        funext i
        simp only [if_true]
        rw [if_neg (by decide)]
        unfold zRo
        by_cases q : 288 * s.1 0 8 + (b - (k : Int)) * 24 ≤ i ∧ i < 288 * s.1 0 8 + (b - (k : Int)) * 24 + 24
        · rw [if_pos q, if_neg (by omega), if_pos (by omega)]
          congr 1
          omega
        · rw [if_neg q]
          by_cases q3 : 288 * s.1 0 8 + (b - (k : Int)) * 24 + 24 ≤ i ∧ i < 288 * s.1 0 8 + b * 24 + 24
          · rw [if_pos q3, if_pos (by omega)]
          · rw [if_neg q3, if_neg (by omega)]
      · rw [if_neg q1, if_neg q1, if_neg q2, if_neg q1]
  · unfold f_Rf_scrollsDown_l2
    simp only []
    rw [if_pos (by omega), show b - ((b - a).toNat : Int) = a by omega]
  · unfold zfu; omega
