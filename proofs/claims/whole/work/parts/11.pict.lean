/-! ===== a picture's methods ===== -/
/-- a picture's own cells: lengths, size, flags -/
def zPW (p : zSt) : Prop := p.1 1 0 = 288 ∧ p.1 2 0 = 12 ∧ (2 ≤ p.1 0 2 ∧ p.1 0 2 ≤ 12) ∧ (4 ≤ p.1 0 3 ∧ p.1 0 3 ≤ 24) ∧ ∀ i, p.2 2 i = 0 ∨ p.2 2 i = 1
def zat (g : Int → Int) (r c : Int) : Int := if (0 ≤ r ∧ r < 12) ∧ (0 ≤ c ∧ c < 24) then g (r * 24 + c) else 0
theorem c_Pi_at {p : zSt} (h : zPW p) (r c : Int) : f_Pi_at r c p = some (zat (p.2 1) r c) := by
  obtain ⟨h1, -⟩ := h
  unfold f_Pi_at zat
  by_cases a : r < 0
  · rw [if_pos a, if_neg (by omega)]
  rw [if_neg a]
  by_cases b : 12 ≤ r
  · rw [if_pos b, if_neg (by omega)]
  rw [if_neg b]
  by_cases d : c < 0
  · rw [if_pos d, if_neg (by omega)]
  rw [if_neg d]
  by_cases e : c < 24
  · rw [if_pos e]
    simp (disch := omega) only [w32i, if_pos]
  · rw [if_neg e, if_neg (by omega)]
/-- a value at a cell of the picture's own size -/
theorem c_Pi_put {p : zSt} (h : zPW p) (r c v : Int) : f_Pi_put r c v p = some (0, if (0 ≤ r ∧ r < p.1 0 2) ∧ (0 ≤ c ∧ c < p.1 0 3) then uE p 1 (r * 24 + c) v else p) := by
  obtain ⟨h1, -, h2, h3, -⟩ := h
  unfold f_Pi_put
  by_cases a : r < 0
  · rw [if_pos a, if_neg (by omega)]
  rw [if_neg a]
  by_cases b : p.1 0 2 ≤ r
  · rw [if_pos b, if_neg (by omega)]
  rw [if_neg b]
  by_cases d : c < 0
  · rw [if_pos d, if_neg (by omega)]
  rw [if_neg d]
  by_cases e : c < p.1 0 3
  · rw [if_pos e]
    simp (disch := omega) only [w32i, if_pos, if_neg]
  · rw [if_neg e, if_neg (by omega)]
theorem zPW.uA1 {p : zSt} (h : zPW p) (f : Int → Int) : zPW (uA p 1 f) := ⟨h.1, h.2.1, h.2.2.1, h.2.2.2.1, h.2.2.2.2⟩
/-- no sign's end at a row's edges -/
def zNT (g : Int → Int) (o n : Int) : Prop := g o ≠ -2 ∧ ∀ c, n ≤ c → c < 24 → g (o + c) ≠ -2
theorem zNT.pt {g : Int → Int} {o n c : Int} (h : zNT g o n) : zNT (zPt g o c n) o n := by
  refine ⟨?_, fun d h1 h2 => ?_⟩
  · unfold zPt
    split
    · decide
    · exact h.1
  · unfold zPt
    split
    · decide
    · exact h.2 d h1 h2
theorem zNT.fl {g : Int → Int} {o n a b : Int} (h : zNT g o n) : zNT (zFl g a b 0) o n := by
  refine ⟨?_, fun d h1 h2 => ?_⟩
  · unfold zFl
    split
    · decide
    · exact h.1
  · unfold zFl
    split
    · decide
    · exact h.2 d h1 h2
theorem c_Pi_part {p : zSt} (h : zPW p) {r c : Int} (hr : 0 ≤ r ∧ r < p.1 0 2) (hc : 0 ≤ c ∧ c < 100000) (hn : zNT (p.2 1) (r * 24) (p.1 0 3)) : f_Pi_part r c p = some (0, uA p 1 (zPt (p.2 1) (r * 24) c (p.1 0 3))) := by
  unfold f_Pi_part
  rw [c_Pi_at h, Option.bind_some]
  have h2 := h
  obtain ⟨h1, -, h3, h4, -⟩ := h
  by_cases a : zat (p.2 1) r c = -2
  · rw [if_neg (by simpa using a)]
    unfold zat at a
    have hc2 : c < 24 := by
      by_cases q : c < 24
      · exact q
      · rw [if_neg (by omega)] at a; cases a
    rw [if_pos (by omega)] at a
    have hc3 : 0 < c := by
      by_cases q : 0 < c
      · exact q
      · rw [show c = 0 by omega, Int.add_zero] at a
        exact absurd a hn.1
    have hc4 : c < p.1 0 3 := by
      by_cases q : c < p.1 0 3
      · exact q
      · exact absurd a (hn.2 c (by omega) hc2)
    simp (disch := omega) only [w32i]
    rw [c_Pi_put h2, if_pos (by omega), Option.bind_some]
    show (f_Pi_put r c 0 (uE p 1 _ _)).bind _ = _
    rw [c_Pi_put (h2.uA1 _)]
    rw [if_pos (by show (0 ≤ r ∧ r < p.1 0 2) ∧ 0 ≤ c ∧ c < p.1 0 3; omega), Option.bind_some]
    show some (0, uA (uA p 1 _) 1 _) = _
    rw [uA_uA]
    congr 3
    funext i
    rw [uA2, if_pos rfl]
    unfold zup zPt
    by_cases q : i = r * 24 + c
    · rw [if_pos q, if_pos ⟨⟨hc3, hc4, a⟩, Or.inl q⟩]
    · rw [if_neg q]
      by_cases q2 : i = r * 24 + (c - 1)
      · rw [if_pos q2, if_pos ⟨⟨hc3, hc4, a⟩, Or.inr (by omega)⟩]
      · rw [if_neg q2, if_neg (by omega)]
  · rw [if_pos a]
    congr 2
    have e : zPt (p.2 1) (r * 24) c (p.1 0 3) = p.2 1 := by
      funext i
      unfold zPt
      rw [if_neg]
      rintro ⟨⟨q1, q2, q3⟩, -⟩
      apply a
      unfold zat
      rw [if_pos (by omega)]
      exact q3
    rw [e, uA_id]
theorem zPt_end {g : Int → Int} {o c n : Int} (h : n ≤ c) : zPt g o c n = g := by
  funext i
  unfold zPt
  rw [if_neg (by omega)]
theorem zPt_0 {g : Int → Int} {o n : Int} : zPt g o 0 n = g := by
  funext i
  unfold zPt
  rw [if_neg (by omega)]
theorem c_Pi_erase {p : zSt} (h : zPW p) {r a b : Int} (hr : 0 ≤ r ∧ r < p.1 0 2) (ha : 0 ≤ a ∧ a ≤ p.1 0 3) (hb : a ≤ b ∧ b < 100000) (hn : zNT (p.2 1) (r * 24) (p.1 0 3)) :
    f_Pi_erase r a b p = some (0, uA p 1 (zEr (p.2 1) (r * 24) a (if p.1 0 3 < b then p.1 0 3 else b) (p.1 0 3))) := by
  have h2 := h
  obtain ⟨h1, -, h3, h4, -⟩ := h2
  unfold f_Pi_erase
  rw [c_Pi_part h hr ⟨ha.1, by omega⟩ hn]
  simp only [Option.bind_some]
  rw [c_Pi_part (h.uA1 _) hr ⟨by omega, hb.2⟩ (by simp only [uA1, uA2, if_true]; exact hn.pt)]
  simp only [Option.bind_some, uA1, uA2, if_true, uA_uA]
  rw [if_neg (by omega)]
  generalize hG : zPt (zPt (p.2 1) (r * 24) a (p.1 0 3)) (r * 24) b (p.1 0 3) = G
  generalize hB : (if p.1 0 3 < b then p.1 0 3 else b) = B
  have hB2 : B ≤ p.1 0 3 ∧ a ≤ B := by
    rw [← hB]; split <;> omega
  have hl := zloop_up (step := f_Pi_erase_l29 r B) (r := uA p 1 (zFl G (r * 24 + a) (r * 24 + B) 0)) (B - a).toNat (n := zfu) (fun k => (a + k, uA p 1 (zFl G (r * 24 + a) (r * 24 + a + k) 0))) (fun k hk => ?_) ?_ ?_
  · simp only [Int.natCast_zero, Int.add_zero, zFl_self] at hl
    rw [hl]
    simp only [Option.bind_some]
    congr 3
    unfold zEr
    rw [← hG]
    have e : zPt (zPt (p.2 1) (r * 24) a (p.1 0 3)) (r * 24) b (p.1 0 3) = zPt (zPt (p.2 1) (r * 24) a (p.1 0 3)) (r * 24) B (p.1 0 3) := by
      rw [← hB]
      by_cases q : p.1 0 3 < b
      · rw [if_pos q, zPt_end (by omega), zPt_end (Int.le_refl _)]
      · rw [if_neg q]
    rw [e]
  · unfold f_Pi_erase_l29
    simp only []
    rw [if_neg (by omega), c_Pi_put (h.uA1 _), if_pos (by simp only [uA1]; omega)]
    simp only [Option.bind_some]
    rw [w32i (by omega) (by omega)]
    unfold uE
    rw [uA_uA, uA2, if_pos rfl, show r * 24 + (a + (k : Int)) = r * 24 + a + k by omega, zup_zFl (by omega), Int.natCast_add, show a + ((k : Int) + ((1 : Nat) : Int)) = a + k + 1 by omega, show r * 24 + a + ((k : Int) + ((1 : Nat) : Int)) = r * 24 + a + k + 1 by omega]
  · unfold f_Pi_erase_l29
    simp only []
    rw [if_pos (by omega), show r * 24 + a + ((B - a).toNat : Int) = r * 24 + B by omega]
  · unfold zfu; omega
theorem zPt_rd {g : Int → Int} {o c n x : Int} (h : ¬ (x = o + c ∨ x = o + c - 1)) : zPt g o c n x = g x := by
  unfold zPt
  rw [if_neg (fun q => h q.2)]
theorem c_Pi_insert {p : zSt} (h : zPW p) {r a k : Int} (hr : 0 ≤ r ∧ r < p.1 0 2) (ha : 0 ≤ a ∧ a < p.1 0 3) (hk : 1 ≤ k ∧ k < 100000) (hn : zNT (p.2 1) (r * 24) (p.1 0 3)) :
    f_Pi_insert r a k p = some (0, uA p 1 (zIn (p.2 1) (r * 24) a (if k < p.1 0 3 - a then k else p.1 0 3 - a) (p.1 0 3))) := by
  have h2 := h
  obtain ⟨h1, -, h3, h4, -⟩ := h2
  unfold f_Pi_insert
  rw [c_Pi_part h hr ⟨ha.1, by omega⟩ hn]
  simp only [Option.bind_some, uA1]
  generalize hm : (if k < p.1 0 3 - a then k else p.1 0 3 - a) = m
  have hm1 : 1 ≤ m ∧ m ≤ p.1 0 3 - a := by rw [← hm]; split <;> omega
  have e1 : (if w32 (p.1 0 3 - k) < a then a else w32 (p.1 0 3 - k)) = p.1 0 3 - m := by
    rw [w32i (by omega) (by omega), ← hm]
    by_cases q : k < p.1 0 3 - a
    · rw [if_pos q, if_neg (by omega)]
    · rw [if_neg q]
      by_cases q2 : p.1 0 3 - k < a
      · rw [if_pos q2]; omega
      · rw [if_neg q2]; omega
  rw [e1, c_Pi_part (h.uA1 _) hr ⟨by omega, by omega⟩ (by simp only [uA1, uA2, if_true]; exact hn.pt)]
  simp only [Option.bind_some, uA1, uA2, if_true, uA_uA]
  generalize hG : zPt (zPt (p.2 1) (r * 24) a (p.1 0 3)) (r * 24) (p.1 0 3 - m) (p.1 0 3) = G
  rw [w32i (by omega) (by omega)]
  have hl := zloop_up (step := f_Pi_insert_l29 r a k) (r := uA p 1 (zIn (p.2 1) (r * 24) a m (p.1 0 3))) (p.1 0 3 - a).toNat (n := zfu)
    (fun j => (p.1 0 3 - 1 - j, uA p 1 (fun i => if r * 24 + (p.1 0 3 - j) ≤ i ∧ i < r * 24 + p.1 0 3 then (if r * 24 + a ≤ i - m then G (i - m) else 0) else G i))) (fun j hj => ?_) ?_ ?_
  · simp only [Int.natCast_zero, Int.sub_zero] at hl
    have e2 : (fun i => if r * 24 + p.1 0 3 ≤ i ∧ i < r * 24 + p.1 0 3 then (if r * 24 + a ≤ i - m then G (i - m) else 0) else G i) = G := by
      funext i
      rw [if_neg (by omega)]
    rw [e2] at hl
    rw [hl]
    rfl
  · unfold f_Pi_insert_l29
    simp only []
    rw [if_neg (by omega)]
    have ew : w32 (p.1 0 3 - 1 - (j : Int) - k) = p.1 0 3 - 1 - j - k := w32i (by omega) (by omega)
    have ew2 : w32 (p.1 0 3 - 1 - (j : Int) + -1) = p.1 0 3 - 1 - ((j + 1 : Nat) : Int) := by rw [w32i (by omega) (by omega)]; omega
    rw [ew, ew2]
    by_cases q : p.1 0 3 - 1 - (j : Int) - k < a
    · rw [if_pos q, c_Pi_put (h.uA1 _), if_pos (by simp only [uA1]; omega)]
      simp only [Option.bind_some]
      unfold uE
      rw [uA_uA, uA2, if_pos rfl]
      congr 4
      funext i
      unfold zup
      by_cases q2 : i = r * 24 + (p.1 0 3 - 1 - (j : Int))
      · rw [if_pos q2, if_pos (by omega), if_neg]
        rw [← hm] at hm1 ⊢
        split <;> omega
      · rw [if_neg q2]
        by_cases q3 : r * 24 + (p.1 0 3 - (j : Int)) ≤ i ∧ i < r * 24 + p.1 0 3
        · rw [if_pos q3, if_pos (by omega)]
        · rw [if_neg q3, if_neg (by omega)]
    · rw [if_neg q]
      have hmk : m = k := by
        rw [← hm]
        split <;> omega
      rw [c_Pi_at (h.uA1 _), Option.bind_some, c_Pi_put (h.uA1 _), if_pos (by simp only [uA1]; omega)]
      simp only [Option.bind_some]
      unfold uE
      rw [uA_uA]
      simp only [uA2, if_true]
      congr 4
      funext i
      unfold zup
      by_cases q2 : i = r * 24 + (p.1 0 3 - 1 - (j : Int))
      · rw [if_pos q2, if_pos (by omega), if_pos (by omega)]
        unfold zat
        rw [if_pos (by omega), if_neg (by omega), q2, hmk]
        congr 1
        omega
      · rw [if_neg q2]
        by_cases q3 : r * 24 + (p.1 0 3 - (j : Int)) ≤ i ∧ i < r * 24 + p.1 0 3
        · rw [if_pos q3, if_pos (by omega)]
        · rw [if_neg q3, if_neg (by omega)]
  · unfold f_Pi_insert_l29
    simp only []
    rw [if_pos (by omega)]
    congr 3
    funext i
    unfold zIn
    rw [hG, show p.1 0 3 - ((p.1 0 3 - a).toNat : Int) = a by omega]
  · unfold zfu; omega
theorem c_Pi_delete {p : zSt} (h : zPW p) {r a k : Int} (hr : 0 ≤ r ∧ r < p.1 0 2) (ha : 0 ≤ a ∧ a < p.1 0 3) (hk : 1 ≤ k ∧ k < 100000 - 100) (hn : zNT (p.2 1) (r * 24) (p.1 0 3)) :
    f_Pi_delete r a k p = some (0, uA p 1 (zDl (p.2 1) (r * 24) a (if k < p.1 0 3 - a then k else p.1 0 3 - a) (p.1 0 3))) := by
  have h2 := h
  obtain ⟨h1, -, h3, h4, -⟩ := h2
  unfold f_Pi_delete
  rw [c_Pi_part h hr ⟨ha.1, by omega⟩ hn]
  simp only [Option.bind_some, uA1]
  rw [w32i (by omega) (by omega), c_Pi_part (h.uA1 _) hr ⟨by omega, by omega⟩ (by simp only [uA1, uA2, if_true]; exact hn.pt)]
  simp only [Option.bind_some, uA1, uA2, if_true, uA_uA]
  generalize hm : (if k < p.1 0 3 - a then k else p.1 0 3 - a) = m
  have hm1 : 1 ≤ m ∧ m ≤ p.1 0 3 - a := by rw [← hm]; split <;> omega
  have e0 : zPt (zPt (p.2 1) (r * 24) a (p.1 0 3)) (r * 24) (a + k) (p.1 0 3) = zPt (zPt (p.2 1) (r * 24) a (p.1 0 3)) (r * 24) (a + m) (p.1 0 3) := by
    rw [← hm]
    by_cases q : k < p.1 0 3 - a
    · rw [if_pos q]
    · rw [if_neg q, zPt_end (by omega), zPt_end (by omega)]
  rw [e0]
  generalize hG : zPt (zPt (p.2 1) (r * 24) a (p.1 0 3)) (r * 24) (a + m) (p.1 0 3) = G
  have hl := zloop_up (step := f_Pi_delete_l17 r k) (r := uA p 1 (zDl (p.2 1) (r * 24) a m (p.1 0 3))) (p.1 0 3 - a).toNat (n := zfu)
    (fun j => (a + j, uA p 1 (fun i => if r * 24 + a ≤ i ∧ i < r * 24 + (a + j) then (if i + m < r * 24 + p.1 0 3 then G (i + m) else 0) else G i))) (fun j hj => ?_) ?_ ?_
  · simp only [Int.natCast_zero, Int.add_zero] at hl
    have e2 : (fun i => if r * 24 + a ≤ i ∧ i < r * 24 + a then (if i + m < r * 24 + p.1 0 3 then G (i + m) else 0) else G i) = G := by
      funext i
      rw [if_neg (by omega)]
    rw [e2] at hl
    rw [hl]
    rfl
  · unfold f_Pi_delete_l17
    simp only [uA1]
    rw [if_neg (by omega)]
    have ew : w32 (a + (j : Int) + k) = a + j + k := w32i (by omega) (by omega)
    have ew2 : w32 (a + (j : Int) + 1) = a + ((j + 1 : Nat) : Int) := by rw [w32i (by omega) (by omega)]; omega
    rw [ew, ew2]
    by_cases q : p.1 0 3 ≤ a + (j : Int) + k
    · rw [if_pos q, c_Pi_put (h.uA1 _), if_pos (by simp only [uA1]; omega)]
      simp only [Option.bind_some]
      unfold uE
      rw [uA_uA, uA2, if_pos rfl]
      congr 4
      funext i
      unfold zup
      by_cases q2 : i = r * 24 + (a + (j : Int))
      · rw [if_pos q2, if_pos (by omega), if_neg]
        rw [← hm]
        split <;> omega
      · rw [if_neg q2]
        by_cases q3 : r * 24 + a ≤ i ∧ i < r * 24 + (a + (j : Int))
        · rw [if_pos q3, if_pos (by omega)]
        · rw [if_neg q3, if_neg (by omega)]
    · rw [if_neg q]
      have hmk : m = k := by
        rw [← hm]
        split <;> omega
      rw [c_Pi_at (h.uA1 _), Option.bind_some, c_Pi_put (h.uA1 _), if_pos (by simp only [uA1]; omega)]
      simp only [Option.bind_some]
      unfold uE
      rw [uA_uA]
      simp only [uA2, if_true]
      congr 4
      funext i
      unfold zup
      by_cases q2 : i = r * 24 + (a + (j : Int))
      · rw [if_pos q2, if_pos (by omega), if_pos (by omega)]
        unfold zat
        rw [if_pos (by omega), if_neg (by omega), q2, hmk]
        congr 1
        omega
      · rw [if_neg q2]
        by_cases q3 : r * 24 + a ≤ i ∧ i < r * 24 + (a + (j : Int))
        · rw [if_pos q3, if_pos (by omega)]
        · rw [if_neg q3, if_neg (by omega)]
  · unfold f_Pi_delete_l17
    simp only [uA1]
    rw [if_pos (by omega)]
    congr 3
    funext i
    unfold zDl
    rw [hG, show a + ((p.1 0 3 - a).toNat : Int) = p.1 0 3 by omega]
  · unfold zfu; omega
/-! rows of a picture at place o: up, down -/
def zUp (g : Int → Int) (o a b : Int) : Int → Int := fun i => if o + a * 24 ≤ i ∧ i < o + b * 24 then g (i + 24) else if o + b * 24 ≤ i ∧ i < o + b * 24 + 24 then 0 else g i
def zUg (g : Int → Int) (o a b : Int) : Int → Int := fun i => if o + a ≤ i ∧ i < o + b then g (i + 1) else if i = o + b then 0 else g i
def zDn (g : Int → Int) (o a b : Int) : Int → Int := fun i => if o + a * 24 + 24 ≤ i ∧ i < o + b * 24 + 24 then g (i - 24) else if o + a * 24 ≤ i ∧ i < o + a * 24 + 24 then 0 else g i
def zDg (g : Int → Int) (o a b : Int) : Int → Int := fun i => if i = o + b ∨ i = o + a then 0 else if o + a < i ∧ i < o + b then g (i - 1) else g i
theorem zPW.uA2 {p : zSt} (h : zPW p) {f : Int → Int} (hf : ∀ i, f i = 0 ∨ f i = 1) : zPW (uA p 2 f) := ⟨h.1, h.2.1, h.2.2.1, h.2.2.2.1, fun i => by simpa [uA] using hf i⟩
theorem c_Pi_clearRow {p : zSt} (h : zPW p) {r : Int} (hr : 0 ≤ r ∧ r < 12) : f_Pi_clearRow r p = some (0, uA (uA p 1 (zFl (p.2 1) (r * 24) (r * 24 + 24) 0)) 2 (zup (p.2 2) r 0)) := by
  obtain ⟨h1, h2, -⟩ := h
  unfold f_Pi_clearRow
  have e1 : w32 (r * 24) = r * 24 := w32i (by omega) (by omega)
  have e2 : w32 (w32 (r + 1) * 24) = r * 24 + 24 := by rw [w32i (x := r + 1) (by omega) (by omega), w32i (by omega) (by omega)]; omega
  rw [if_neg (by omega), if_pos (by omega), e1, e2, c_fill (by omega) (by omega) (by show _ ≤ p.1 1 0; omega) (by show p.1 1 0 ≤ _; omega)]
  simp only [Option.bind_some]
  rw [if_pos (by omega), zpb_uA _ _ _ _ _ _ (by omega), zpb_same]
  rfl
theorem c_Pi_moveUp {p : zSt} (h : zPW p) {a b : Int} (hab : 0 ≤ a ∧ a ≤ b ∧ b < 12) : f_Pi_moveUp a b p = some (0, uA (uA p 1 (zUp (p.2 1) 0 a b)) 2 (zUg (p.2 2) 0 a b)) := by
  have h9 := h
  obtain ⟨h1, h2, h3, h4, h5⟩ := h9
  unfold f_Pi_moveUp
  have e1 : w32 (w32 (a + 1) * 24) = a * 24 + 24 := by rw [w32i (x := a + 1) (by omega) (by omega), w32i (by omega) (by omega)]; omega
  have e2 : w32 (a * 24) = a * 24 := w32i (by omega) (by omega)
  have e3 : w32 (w32 (b - a) * 24) = b * 24 - a * 24 := by rw [w32i (x := b - a) (by omega) (by omega), w32i (by omega) (by omega)]; omega
  rw [if_neg (by omega), if_neg (by omega), if_pos (by omega), e1, e2, e3, if_pos (by omega)]
  generalize hC : zcpy (p.2 1) (p.2 1) (a * 24 + 24) (a * 24) (b * 24 - a * 24) = C
  have hl := zloop_up (step := f_Pi_moveUp_l48 b) (r := uA (uA p 1 C) 2 (fun i => if a ≤ i ∧ i < b then p.2 2 (i + 1) else p.2 2 i)) (b - a).toNat (n := zfu)
    (fun k => (a + k, uA (uA p 1 C) 2 (fun i => if a ≤ i ∧ i < a + k then p.2 2 (i + 1) else p.2 2 i))) (fun k hk => ?_) ?_ ?_
  · simp only [Int.natCast_zero, Int.add_zero] at hl
    have e4 : uA (uA p 1 C) 2 (fun i => if a ≤ i ∧ i < a then p.2 2 (i + 1) else p.2 2 i) = uA p 1 C := by
      have e5 : (fun i => if a ≤ i ∧ i < a then p.2 2 (i + 1) else p.2 2 i) = (uA p 1 C).2 2 := by
        funext i
        rw [if_neg (by omega)]
        rfl
      rw [e5, uA_id]
    rw [e4] at hl
    rw [hl]
    simp only [Option.bind_some]
    rw [c_Pi_clearRow ((h.uA1 C).uA2 (fun i => by split <;> exact h5 _)) (by omega)]
    simp only [Option.bind_some]
    congr 2
    refine Prod.ext rfl (funext fun x => ?_)
    simp only [uA2]
    by_cases q2 : x = 2
    · rw [if_pos q2, if_pos q2]
      funext i
      unfold zup zUg
      simp only [if_true]
      by_cases q : i = b
      · rw [if_pos q, if_neg (by omega), if_pos (by omega)]
      · rw [if_neg q]
        by_cases q3 : a ≤ i ∧ i < b
        · rw [if_pos q3, if_pos (by omega)]
        · rw [if_neg q3, if_neg (by omega), if_neg (by omega)]
    · rw [if_neg q2, if_neg q2]
      by_cases q1 : x = 1
      · rw [if_pos q1, if_pos q1]
        funext i
        simp only [if_true]
        rw [if_neg (by decide)]
        rw [← hC]
        unfold zFl zcpy zUp
        by_cases q : 0 + a * 24 ≤ i ∧ i < 0 + b * 24
        · rw [if_pos q, if_neg (by omega), if_pos (by omega)]
          congr 1
          omega
        · rw [if_neg q]
          by_cases q3 : 0 + b * 24 ≤ i ∧ i < 0 + b * 24 + 24
          · rw [if_pos q3, if_pos (by omega)]
          · rw [if_neg q3, if_neg (by omega), if_neg (by omega)]
      · rw [if_neg q1, if_neg q1, if_neg q2, if_neg q1]
  · unfold f_Pi_moveUp_l48
    simp only [uA1]
    rw [if_neg (by omega)]
    have ew : w32 (a + (k : Int) + 1) = a + k + 1 := w32i (by omega) (by omega)
    rw [ew, if_pos (by omega), if_pos ⟨by omega, ?_⟩]
    · unfold uE
      rw [uA_uA]
      simp only [uA2, if_true]
      congr 4
      · omega
      · funext i
        unfold zup
        by_cases q : i = a + k
        · rw [if_pos q, if_neg (by omega), if_pos (by omega), q]
        · rw [if_neg q]
          by_cases q3 : a ≤ i ∧ i < a + (k : Int)
          · rw [if_pos q3, if_pos (by omega)]
          · rw [if_neg q3, if_neg (by omega)]
    · simp only [uA2, if_true]
      rw [if_neg (by omega)]
      exact h5 _
  · unfold f_Pi_moveUp_l48
    simp only []
    rw [if_pos (by omega), show a + ((b - a).toNat : Int) = b by omega]
  · unfold zfu; omega
theorem c_Pi_moveDown {p : zSt} (h : zPW p) {a b : Int} (hab : 0 ≤ a ∧ a ≤ b ∧ b < 12) : f_Pi_moveDown a b p = some (0, uA (uA p 1 (zDn (p.2 1) 0 a b)) 2 (zDg (p.2 2) 0 a b)) := by
  have h9 := h
  obtain ⟨h1, h2, h3, h4, h5⟩ := h9
  unfold f_Pi_moveDown
  have e2 : w32 (a * 24) = a * 24 := w32i (by omega) (by omega)
  have e1 : w32 (a * 24 + 24) = a * 24 + 24 := w32i (by omega) (by omega)
  have e3 : w32 (w32 (b - a) * 24) = b * 24 - a * 24 := by rw [w32i (x := b - a) (by omega) (by omega), w32i (by omega) (by omega)]; omega
  rw [if_neg (by omega), if_neg (by omega), if_pos (by omega), e2, e1, e3, if_pos (by omega)]
  generalize hC : zcpy (p.2 1) (p.2 1) (a * 24) (a * 24 + 24) (b * 24 - a * 24) = C
  have hl := zloop_up (step := f_Pi_moveDown_l46 a b) (r := uA (uA p 1 C) 2 (fun i => if a < i ∧ i ≤ b then p.2 2 (i - 1) else p.2 2 i)) (b - a).toNat (n := zfu)
    (fun k => (b - k, uA (uA p 1 C) 2 (fun i => if b - k < i ∧ i ≤ b then p.2 2 (i - 1) else p.2 2 i))) (fun k hk => ?_) ?_ ?_
  · simp only [Int.natCast_zero, Int.sub_zero] at hl
    have e4 : uA (uA p 1 C) 2 (fun i => if b < i ∧ i ≤ b then p.2 2 (i - 1) else p.2 2 i) = uA p 1 C := by
      have e5 : (fun i => if b < i ∧ i ≤ b then p.2 2 (i - 1) else p.2 2 i) = (uA p 1 C).2 2 := by
        funext i
        rw [if_neg (by omega)]
        rfl
      rw [e5, uA_id]
    rw [e4] at hl
    rw [hl]
    simp only [Option.bind_some]
    rw [c_Pi_clearRow ((h.uA1 C).uA2 (fun i => by split <;> exact h5 _)) (by omega)]
    simp only [Option.bind_some]
    rw [if_pos (by show 0 ≤ b ∧ b < p.1 2 0; omega)]
    congr 2
    refine Prod.ext rfl (funext fun x => ?_)
    unfold uE
    simp only [uA2]
    by_cases q2 : x = 2
    · rw [if_pos q2, if_pos q2]
      funext i
      unfold zup zDg
      simp only [if_true]
      by_cases q : i = b
      · rw [if_pos q, if_pos (by omega)]
      · rw [if_neg q]
        by_cases qa : i = a
        · rw [if_pos qa, if_pos (by omega)]
        · rw [if_neg qa, if_neg (by omega)]
          by_cases q3 : a < i ∧ i ≤ b
          · rw [if_pos q3, if_pos (by omega)]
          · rw [if_neg q3, if_neg (by omega)]
    · rw [if_neg q2, if_neg q2, if_neg q2]
      by_cases q1 : x = 1
      · rw [if_pos q1, if_pos q1]
        funext i
        simp only [if_true]
        rw [if_neg (by decide)]
        rw [← hC]
        unfold zFl zcpy zDn
        by_cases q : 0 + a * 24 + 24 ≤ i ∧ i < 0 + b * 24 + 24
        · rw [if_pos q, if_neg (by omega), if_pos (by omega)]
          congr 1
          omega
        · rw [if_neg q]
          by_cases q3 : 0 + a * 24 ≤ i ∧ i < 0 + a * 24 + 24
          · rw [if_pos q3, if_pos (by omega)]
          · rw [if_neg q3, if_neg (by omega), if_neg (by omega)]
      · rw [if_neg q1, if_neg q1, if_neg q2, if_neg q1]
  · unfold f_Pi_moveDown_l46
    simp only [uA1]
    rw [if_neg (by omega)]
    have ew : w32 (b - (k : Int) - 1) = b - k - 1 := w32i (by omega) (by omega)
    have ew2 : w32 (b - (k : Int) + -1) = b - ((k + 1 : Nat) : Int) := by rw [w32i (by omega) (by omega)]; omega
    rw [ew, ew2, if_pos (by omega), if_pos ⟨by omega, ?_⟩]
    · unfold uE
      rw [uA_uA]
      simp only [uA2, if_true]
      congr 4
      funext i
      unfold zup
      by_cases q : i = b - k
      · rw [if_pos q, if_neg (by omega), if_pos (by omega), q]
      · rw [if_neg q]
        by_cases q3 : b - (k : Int) < i ∧ i ≤ b
        · rw [if_pos q3, if_pos (by omega)]
        · rw [if_neg q3, if_neg (by omega)]
    · simp only [uA2, if_true]
      rw [if_neg (by omega)]
      exact h5 _
  · unfold f_Pi_moveDown_l46
    simp only []
    rw [if_pos (by omega)]
    congr 3
    funext i
    rw [show b - ((b - a).toNat : Int) = a by omega]
  · unfold zfu; omega
theorem c_Pi_clear {p : zSt} (h : zPW p) : f_Pi_clear p = some (0, uA (uA p 1 (zFl (p.2 1) 0 288 0)) 2 (zFl (p.2 2) 0 12 0)) := by
  have h9 := h
  obtain ⟨h1, h2, h3, h4, h5⟩ := h9
  unfold f_Pi_clear
  have hl := zloop_up (step := f_Pi_clear_l2) (r := uA (uA p 1 (zFl (p.2 1) 0 288 0)) 2 (zFl (p.2 2) 0 12 0)) 12 (n := zfu)
    (fun k => ((k : Int), uA (uA p 1 (zFl (p.2 1) 0 (k * 24) 0)) 2 (zFl (p.2 2) 0 k 0))) (fun k hk => ?_) ?_ ?_
  · simp only [Int.natCast_zero, Int.zero_mul, zFl_self] at hl
    have e : uA (uA p 1 (p.2 1)) 2 (p.2 2) = p := by rw [uA_id, uA_id]
    rw [e] at hl
    rw [hl]
    rfl
  · unfold f_Pi_clear_l2
    simp only []
    rw [if_neg (by omega), c_Pi_clearRow ((h.uA1 _).uA2 (fun i => by unfold zFl; split; exact Or.inl rfl; exact h5 _)) (by omega)]
    simp only [Option.bind_some]
    rw [w32i (by omega) (by omega)]
    congr 2
    refine Prod.ext (by simp) (Prod.ext rfl (funext fun x => ?_))
    simp only [uA2]
    by_cases q2 : x = 2
    · rw [if_pos q2, if_pos q2]
      funext i
      unfold zup zFl
      simp only [if_true]
      by_cases q : i = (k : Int)
      · rw [if_pos q, if_pos (by omega)]
      · rw [if_neg q]
        by_cases q3 : 0 ≤ i ∧ i < (k : Int)
        · rw [if_pos q3, if_pos (by omega)]
        · rw [if_neg q3, if_neg (by omega)]
    · rw [if_neg q2, if_neg q2]
      by_cases q1 : x = 1
      · rw [if_pos q1, if_pos q1]
        funext i
        simp only [if_true]
        rw [if_neg (by decide)]
        unfold zFl
        by_cases q : (k : Int) * 24 ≤ i ∧ i < k * 24 + 24
        · rw [if_pos q, if_pos (by omega)]
        · rw [if_neg q]
          by_cases q3 : 0 ≤ i ∧ i < (k : Int) * 24
          · rw [if_pos q3, if_pos (by omega)]
          · rw [if_neg q3, if_neg (by omega)]
      · rw [if_neg q1, if_neg q1, if_neg q2, if_neg q1]
  · rfl
  · unfold zfu; omega
