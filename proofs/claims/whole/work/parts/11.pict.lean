/-! ===== a picture's methods ===== -/
/-- a picture's own cells: lengths, size, flags -/
def zPW (p : zSt) : Prop := p.1 1 0 = 288 ∧ p.1 2 0 = 12 ∧ (2 ≤ p.1 0 2 ∧ p.1 0 2 ≤ 12) ∧ (4 ≤ p.1 0 3 ∧ p.1 0 3 ≤ 24) ∧ ∀ i, p.2 2 i = 0 ∨ p.2 2 i = 1
def zat (g : Int → Int) (r c : Int) : Int := if (0 ≤ r ∧ r < 12) ∧ (0 ≤ c ∧ c < 24) then g (r * 24 + c) else 0
theorem c_Pi_at {p : zSt} (h : zPW p) (r c : Int) : f_Pi_at r c p = some (zat (p.2 1) r c) := by
  obtain ⟨h1, -⟩ := h
  unfold f_Pi_at zat
  grind [w32i]
theorem c_Pi_put {p : zSt} (h : zPW p) (r c v : Int) : f_Pi_put r c v p = some (0, if (0 ≤ r ∧ r < p.1 0 2) ∧ (0 ≤ c ∧ c < p.1 0 3) then uE p 1 (r * 24 + c) v else p) := by
  obtain ⟨h1, -, h2, h3, -⟩ := h
  unfold f_Pi_put
  grind [w32i]
theorem c_put {p : zSt} (h : zPW p) {r c v : Int} (hr : 0 ≤ r ∧ r < p.1 0 2) (hc : 0 ≤ c ∧ c < p.1 0 3) : f_Pi_put r c v p = some (0, uE p 1 (r * 24 + c) v) := by rw [c_Pi_put h, if_pos ⟨hr, hc⟩]
theorem zPW.uA1 {p : zSt} (h : zPW p) (f : Int → Int) : zPW (uA p 1 f) := ⟨h.1, h.2.1, h.2.2.1, h.2.2.2.1, h.2.2.2.2⟩
theorem zPW.uA2 {p : zSt} (h : zPW p) {f : Int → Int} (hf : ∀ i, f i = 0 ∨ f i = 1) : zPW (uA p 2 f) := ⟨h.1, h.2.1, h.2.2.1, h.2.2.2.1, fun i => by simpa [uA] using hf i⟩
/-- no sign's end at a row's edges -/
def zNT (g : Int → Int) (o n : Int) : Prop := g o ≠ -2 ∧ ∀ c, n ≤ c → c < 24 → g (o + c) ≠ -2
theorem zNT.pt {g : Int → Int} {o n c : Int} (h : zNT g o n) : zNT (zPt g o c n) o n := by
  unfold zNT zPt at *
  grind
theorem zNT.fl {g : Int → Int} {o n a b : Int} (h : zNT g o n) : zNT (zFl g a b 0) o n := by
  unfold zNT zFl at *
  grind
theorem zPt_end {g : Int → Int} {o c n : Int} (h : n ≤ c) : zPt g o c n = g := by
  funext i
  unfold zPt
  grind
theorem zPt_idem {g : Int → Int} {o c n : Int} : zPt (zPt g o c n) o c n = zPt g o c n := by
  funext i
  unfold zPt
  grind
theorem c_Pi_part {p : zSt} (h : zPW p) {r c : Int} (hr : 0 ≤ r ∧ r < p.1 0 2) (hc : 0 ≤ c ∧ c < 100000) (hn : zNT (p.2 1) (r * 24) (p.1 0 3)) : f_Pi_part r c p = some (0, uA p 1 (zPt (p.2 1) (r * 24) c (p.1 0 3))) := by
  unfold f_Pi_part
  refine bindS (c_Pi_at h _ _) ?_
  have h2 := h
  obtain ⟨h1, -, h3, h4, -⟩ := h
  have hz : ¬ zat (p.2 1) r c = -2 ∨ (0 < c ∧ c < p.1 0 3 ∧ p.2 1 (r * 24 + c) = -2) := by
    unfold zat
    unfold zNT at hn
    grind
  rcases hz with a | ⟨c1, c2, c3⟩
  · refine iteT a ?_
    have e : zPt (p.2 1) (r * 24) c (p.1 0 3) = p.2 1 := by
      funext i
      unfold zPt
      unfold zat at a
      grind
    rw [e, uA_id]
  · have a : zat (p.2 1) r c = -2 := by
      unfold zat
      grind
    refine iteF (by simpa using a) ?_
    refine bindS (c_put h2 hr (by rw [w32i] <;> omega)) ?_
    refine bindS (c_put (h2.uA1 _) hr ⟨hc.1, c2⟩) ?_
    rw [w32i (by omega) (by omega)]
    show some (0, uA (uA p 1 (zup (p.2 1) _ 0)) 1 (zup (zup (p.2 1) _ 0) _ 0)) = _
    rw [uA_uA]
    congr 3
    funext i
    unfold zup zPt
    grind
/-- one step of a loop that puts numbers into one array -/
theorem stepE {ρ : Type} {p : zSt} {i : Nat} {x y a v : Int} {F F' : Int → Int} (h1 : x = y) (h2 : ∀ j, zup F a v j = F' j) : (some (Sum.inl (x, uE (uA p i F) i a v)) : Option ((Int × zSt) ⊕ ρ)) = some (.inl (y, uA p i F')) := by
  unfold uE
  rw [uA_uA, uA2, if_pos rfl, h1, show zup F a v = F' from funext h2]
theorem uA_cg {p : zSt} {i : Nat} {F F' : Int → Int} (h : ∀ j, F j = F' j) : uA p i F = uA p i F' := by rw [show F = F' from funext h]
theorem exitE {σ : Type} {p : zSt} {i : Nat} {F F' : Int → Int} (h : ∀ j, F j = F' j) : (some (Sum.inr (uA p i F)) : Option (σ ⊕ zSt)) = some (.inr (uA p i F')) := by rw [uA_cg h]
theorem c_Pi_erase {p : zSt} (h : zPW p) {r a b : Int} (hr : 0 ≤ r ∧ r < p.1 0 2) (ha : 0 ≤ a ∧ a ≤ p.1 0 3) (hb : a ≤ b ∧ b < 100000) (hn : zNT (p.2 1) (r * 24) (p.1 0 3)) :
    f_Pi_erase r a b p = some (0, uA p 1 (zEr (p.2 1) (r * 24) a (if p.1 0 3 < b then p.1 0 3 else b) (p.1 0 3))) := by
  have h2 := h
  obtain ⟨h1, -, h3, h4, -⟩ := h2
  unfold f_Pi_erase
  refine bindS (c_Pi_part h hr ⟨ha.1, by omega⟩ hn) ?_
  refine bindS (c_Pi_part (h.uA1 _) hr ⟨by omega, hb.2⟩ (by simp only [uA1, uA2, if_true]; exact hn.pt)) ?_
  show ((zloop (f_Pi_erase_l29 r (if p.1 0 3 < b then p.1 0 3 else b)) zfu (if a < 0 then 0 else a, uA (uA p 1 (zPt (p.2 1) (r * 24) a (p.1 0 3))) 1 (zPt (zPt (p.2 1) (r * 24) a (p.1 0 3)) (r * 24) b (p.1 0 3)))).bind fun y3 => some (0, y3)) = _
  rw [uA_uA, if_neg (show ¬ a < 0 by omega)]
  generalize hG : zPt (zPt (p.2 1) (r * 24) a (p.1 0 3)) (r * 24) b (p.1 0 3) = G
  generalize hB : (if p.1 0 3 < b then p.1 0 3 else b) = B
  have hB2 : B ≤ p.1 0 3 ∧ a ≤ B := by
    rw [← hB]; split <;> omega
  have hl := zloop_up (step := f_Pi_erase_l29 r B) (r := uA p 1 (zFl G (r * 24 + a) (r * 24 + B) 0)) (B - a).toNat (n := zfu) (fun k => (a + k, uA p 1 (zFl G (r * 24 + a) (r * 24 + a + k) 0))) (fun k hk => ?_) ?_ ?_
  · simp only [Int.natCast_zero, Int.add_zero, zFl_self] at hl
    refine bindS hl ?_
    congr 3
    unfold zEr
    rw [← hG]
    have e : zPt (zPt (p.2 1) (r * 24) a (p.1 0 3)) (r * 24) b (p.1 0 3) = zPt (zPt (p.2 1) (r * 24) a (p.1 0 3)) (r * 24) B (p.1 0 3) := by
      rw [← hB]
      by_cases q : p.1 0 3 < b
      · rw [if_pos q, zPt_end (by omega), zPt_end (Int.le_refl _)]
      · rw [if_neg q]
    rw [e]
  · unfold f_Pi_erase_l29
    refine iteF (by show ¬ B ≤ a + (k : Int); omega) ?_
    refine bindS (c_put (h.uA1 _) hr (by show 0 ≤ a + (k : Int) ∧ a + (k : Int) < p.1 0 3; omega)) ?_
    refine stepE ?_ (fun j => ?_)
    · show w32 (a + (k : Int) + 1) = a + ((k + 1 : Nat) : Int)
      rw [w32i] <;> omega
    · show zup (zFl G _ _ 0) (r * 24 + (a + (k : Int))) 0 j = _
      unfold zup zFl
      grind
  · unfold f_Pi_erase_l29
    refine iteT (by show B ≤ a + ((B - a).toNat : Int); omega) ?_
    rw [show r * 24 + a + ((B - a).toNat : Int) = r * 24 + B by omega]
  · unfold zfu; omega
theorem c_Pi_insert {p : zSt} (h : zPW p) {r a k : Int} (hr : 0 ≤ r ∧ r < p.1 0 2) (ha : 0 ≤ a ∧ a < p.1 0 3) (hk : 1 ≤ k ∧ k < 100000) (hn : zNT (p.2 1) (r * 24) (p.1 0 3)) :
    f_Pi_insert r a k p = some (0, uA p 1 (zIn (p.2 1) (r * 24) a (if k < p.1 0 3 - a then k else p.1 0 3 - a) (p.1 0 3))) := by
  have h2 := h
  obtain ⟨h1, -, h3, h4, -⟩ := h2
  unfold f_Pi_insert
  refine bindS (c_Pi_part h hr ⟨ha.1, by omega⟩ hn) ?_
  show ((f_Pi_part r (if w32 (p.1 0 3 - k) < a then a else w32 (p.1 0 3 - k)) (uA p 1 (zPt (p.2 1) (r * 24) a (p.1 0 3)))).bind fun x2 => (zloop (f_Pi_insert_l29 r a k) zfu (w32 (x2.2.1 0 3 - 1), x2.2)).bind fun y3 => some (0, y3)) = _
  generalize hm : (if k < p.1 0 3 - a then k else p.1 0 3 - a) = m
  have hm1 : 1 ≤ m ∧ m ≤ p.1 0 3 - a := by rw [← hm]; split <;> omega
  have e1 : (if w32 (p.1 0 3 - k) < a then a else w32 (p.1 0 3 - k)) = p.1 0 3 - m := by
    rw [w32i (by omega) (by omega), ← hm]
    grind
  rw [e1]
  refine bindS (c_Pi_part (h.uA1 _) hr ⟨by omega, by omega⟩ (by simp only [uA1, uA2, if_true]; exact hn.pt)) ?_
  show ((zloop (f_Pi_insert_l29 r a k) zfu (w32 (p.1 0 3 - 1), uA (uA p 1 _) 1 (zPt (zPt (p.2 1) (r * 24) a (p.1 0 3)) (r * 24) (p.1 0 3 - m) (p.1 0 3)))).bind fun y3 => some (0, y3)) = _
  rw [uA_uA]
  generalize hG : zPt (zPt (p.2 1) (r * 24) a (p.1 0 3)) (r * 24) (p.1 0 3 - m) (p.1 0 3) = G
  rw [w32i (by omega) (by omega)]
  have hl := zloop_up (step := f_Pi_insert_l29 r a k) (r := uA p 1 (zIn (p.2 1) (r * 24) a m (p.1 0 3))) (p.1 0 3 - a).toNat (n := zfu)
    (fun j => (p.1 0 3 - 1 - j, uA p 1 (fun i => if r * 24 + (p.1 0 3 - j) ≤ i ∧ i < r * 24 + p.1 0 3 then (if r * 24 + a ≤ i - m then G (i - m) else 0) else G i))) (fun j hj => ?_) ?_ ?_
  · simp only [Int.natCast_zero, Int.sub_zero] at hl
    rw [uA_cg (F' := G) (by grind)] at hl
    exact bindS hl rfl
  · unfold f_Pi_insert_l29
    refine iteF (by show ¬ p.1 0 3 - 1 - (j : Int) < a; omega) ?_
    have ew : w32 (p.1 0 3 - 1 - (j : Int) - k) = p.1 0 3 - 1 - j - k := w32i (by omega) (by omega)
    have ew2 : w32 (p.1 0 3 - 1 - (j : Int) + -1) = p.1 0 3 - 1 - ((j + 1 : Nat) : Int) := by rw [w32i (by omega) (by omega)]; omega
    have hin : 0 ≤ p.1 0 3 - 1 - (j : Int) ∧ p.1 0 3 - 1 - (j : Int) < p.1 0 3 := by omega
    by_cases q : p.1 0 3 - 1 - (j : Int) - k < a
    · refine iteT (by show w32 (p.1 0 3 - 1 - (j : Int) - k) < a; omega) ?_
      refine bindS (c_put (h.uA1 _) hr hin) ?_
      refine stepE ew2 (fun i => ?_)
      show zup (fun i => if r * 24 + (p.1 0 3 - j) ≤ i ∧ i < r * 24 + p.1 0 3 then (if r * 24 + a ≤ i - m then G (i - m) else 0) else G i) (r * 24 + (p.1 0 3 - 1 - (j : Int))) 0 i = _
      simp only [zup]
      grind
    · refine iteF (by show ¬ w32 (p.1 0 3 - 1 - (j : Int) - k) < a; omega) ?_
      have hmk : m = k := by grind
      refine bindS (c_Pi_at (h.uA1 _) _ _) ?_
      refine bindS (c_put (h.uA1 _) hr hin) ?_
      refine stepE ew2 (fun i => ?_)
      show zup (fun i => if r * 24 + (p.1 0 3 - j) ≤ i ∧ i < r * 24 + p.1 0 3 then (if r * 24 + a ≤ i - m then G (i - m) else 0) else G i) (r * 24 + (p.1 0 3 - 1 - (j : Int))) (zat ((uA p 1 (fun i => if r * 24 + (p.1 0 3 - j) ≤ i ∧ i < r * 24 + p.1 0 3 then (if r * 24 + a ≤ i - m then G (i - m) else 0) else G i)).2 1) r (w32 (p.1 0 3 - 1 - (j : Int) - k))) i = _
      rw [ew, uA2, if_pos rfl]
      simp only [zup, zat]
      grind
  · unfold f_Pi_insert_l29
    refine iteT (by show p.1 0 3 - 1 - ((p.1 0 3 - a).toNat : Int) < a; omega) ?_
    refine exitE (fun i => ?_)
    simp only [zIn, hG]
    grind
  · unfold zfu; omega
theorem c_Pi_delete {p : zSt} (h : zPW p) {r a k : Int} (hr : 0 ≤ r ∧ r < p.1 0 2) (ha : 0 ≤ a ∧ a < p.1 0 3) (hk : 1 ≤ k ∧ k < 90000) (hn : zNT (p.2 1) (r * 24) (p.1 0 3)) :
    f_Pi_delete r a k p = some (0, uA p 1 (zDl (p.2 1) (r * 24) a (if k < p.1 0 3 - a then k else p.1 0 3 - a) (p.1 0 3))) := by
  have h2 := h
  obtain ⟨h1, -, h3, h4, -⟩ := h2
  unfold f_Pi_delete
  refine bindS (c_Pi_part h hr ⟨ha.1, by omega⟩ hn) ?_
  rw [w32i (by omega) (by omega)]
  refine bindS (c_Pi_part (h.uA1 _) hr ⟨by omega, by omega⟩ (by simp only [uA1, uA2, if_true]; exact hn.pt)) ?_
  show ((zloop (f_Pi_delete_l17 r k) zfu (a, uA (uA p 1 _) 1 (zPt (zPt (p.2 1) (r * 24) a (p.1 0 3)) (r * 24) (a + k) (p.1 0 3)))).bind fun y3 => some (0, y3)) = _
  rw [uA_uA]
  generalize hm : (if k < p.1 0 3 - a then k else p.1 0 3 - a) = m
  have hm1 : 1 ≤ m ∧ m ≤ p.1 0 3 - a := by rw [← hm]; split <;> omega
  have e0 : zPt (zPt (p.2 1) (r * 24) a (p.1 0 3)) (r * 24) (a + k) (p.1 0 3) = zPt (zPt (p.2 1) (r * 24) a (p.1 0 3)) (r * 24) (a + m) (p.1 0 3) := by
    rw [← hm]
    by_cases q : k < p.1 0 3 - a
    · rw [if_pos q]
    · rw [if_neg q, zPt_end (c := a + k) (by omega), zPt_end (c := a + (p.1 0 3 - a)) (by omega)]
  rw [e0]
  generalize hG : zPt (zPt (p.2 1) (r * 24) a (p.1 0 3)) (r * 24) (a + m) (p.1 0 3) = G
  have hl := zloop_up (step := f_Pi_delete_l17 r k) (r := uA p 1 (zDl (p.2 1) (r * 24) a m (p.1 0 3))) (p.1 0 3 - a).toNat (n := zfu)
    (fun j => (a + j, uA p 1 (fun i => if r * 24 + a ≤ i ∧ i < r * 24 + (a + j) then (if i + m < r * 24 + p.1 0 3 then G (i + m) else 0) else G i))) (fun j hj => ?_) ?_ ?_
  · simp only [Int.natCast_zero, Int.add_zero] at hl
    rw [uA_cg (F' := G) (by grind)] at hl
    exact bindS hl rfl
  · unfold f_Pi_delete_l17
    refine iteF (by show ¬ p.1 0 3 ≤ a + (j : Int); omega) ?_
    have ew : w32 (a + (j : Int) + k) = a + j + k := w32i (by omega) (by omega)
    have ew2 : w32 (a + (j : Int) + 1) = a + ((j + 1 : Nat) : Int) := by rw [w32i (by omega) (by omega)]; omega
    have hin : 0 ≤ a + (j : Int) ∧ a + (j : Int) < p.1 0 3 := by omega
    by_cases q : p.1 0 3 ≤ a + (j : Int) + k
    · refine iteT (by show p.1 0 3 ≤ w32 (a + (j : Int) + k); omega) ?_
      refine bindS (c_put (h.uA1 _) hr hin) ?_
      refine stepE ew2 (fun i => ?_)
      show zup (fun i => if r * 24 + a ≤ i ∧ i < r * 24 + (a + j) then (if i + m < r * 24 + p.1 0 3 then G (i + m) else 0) else G i) (r * 24 + (a + (j : Int))) 0 i = _
      simp only [zup]
      grind
    · refine iteF (by show ¬ p.1 0 3 ≤ w32 (a + (j : Int) + k); omega) ?_
      have hmk : m = k := by grind
      refine bindS (c_Pi_at (h.uA1 _) _ _) ?_
      refine bindS (c_put (h.uA1 _) hr hin) ?_
      refine stepE ew2 (fun i => ?_)
      show zup (fun i => if r * 24 + a ≤ i ∧ i < r * 24 + (a + j) then (if i + m < r * 24 + p.1 0 3 then G (i + m) else 0) else G i) (r * 24 + (a + (j : Int))) (zat ((uA p 1 (fun i => if r * 24 + a ≤ i ∧ i < r * 24 + (a + j) then (if i + m < r * 24 + p.1 0 3 then G (i + m) else 0) else G i)).2 1) r (w32 (a + (j : Int) + k))) i = _
      rw [ew, uA2, if_pos rfl]
      simp only [zup, zat]
      grind
  · unfold f_Pi_delete_l17
    refine iteT (by show p.1 0 3 ≤ a + ((p.1 0 3 - a).toNat : Int); omega) ?_
    refine exitE (fun i => ?_)
    simp only [zDl, hG]
    grind
  · unfold zfu; omega
/-! rows of a picture at place o: up, down -/
def zUp (g : Int → Int) (o a b : Int) : Int → Int := fun i => if o + a * 24 ≤ i ∧ i < o + b * 24 then g (i + 24) else if o + b * 24 ≤ i ∧ i < o + b * 24 + 24 then 0 else g i
def zUg (g : Int → Int) (o a b : Int) : Int → Int := fun i => if o + a ≤ i ∧ i < o + b then g (i + 1) else if i = o + b then 0 else g i
def zDn (g : Int → Int) (o a b : Int) : Int → Int := fun i => if o + a * 24 + 24 ≤ i ∧ i < o + b * 24 + 24 then g (i - 24) else if o + a * 24 ≤ i ∧ i < o + a * 24 + 24 then 0 else g i
def zDg (g : Int → Int) (o a b : Int) : Int → Int := fun i => if i = o + b ∨ i = o + a then 0 else if o + a < i ∧ i < o + b then g (i - 1) else g i
/-- two arrays of one picture -/
def uB (s : zSt) (f g : Int → Int) : zSt := uA (uA s 1 f) 2 g
theorem uB_id (s : zSt) : uB s (s.2 1) (s.2 2) = s := by unfold uB; rw [uA_id, show s.2 2 = (s).2 2 from rfl, uA_id]
theorem uB_uB (s : zSt) (f g f' g' : Int → Int) : uB (uB s f g) f' g' = uB s f' g' := by
  unfold uB
  refine Prod.ext rfl (funext fun x => ?_)
  simp only [uA2]
  grind
theorem uB_cg {s : zSt} {f g f' g' : Int → Int} (h1 : ∀ i, f i = f' i) (h2 : ∀ i, g i = g' i) : uB s f g = uB s f' g' := by rw [funext h1, funext h2]
theorem uB1 (s : zSt) (f g : Int → Int) : (uB s f g).1 = s.1 := rfl
theorem uB21 (s : zSt) (f g : Int → Int) : (uB s f g).2 1 = f := rfl
theorem uB22 (s : zSt) (f g : Int → Int) : (uB s f g).2 2 = g := rfl
theorem zPW.uB {p : zSt} (h : zPW p) {f g : Int → Int} (hg : ∀ i, g i = 0 ∨ g i = 1) : zPW (uB p f g) := (h.uA1 f).uA2 hg
theorem c_Pi_clearRow {p : zSt} (h : zPW p) {r : Int} (hr : 0 ≤ r ∧ r < 12) : f_Pi_clearRow r p = some (0, uB p (zFl (p.2 1) (r * 24) (r * 24 + 24) 0) (zup (p.2 2) r 0)) := by
  obtain ⟨h1, h2, -⟩ := h
  unfold f_Pi_clearRow
  have e1 : w32 (r * 24) = r * 24 := w32i (by omega) (by omega)
  have e2 : w32 (w32 (r + 1) * 24) = r * 24 + 24 := by rw [w32i (x := r + 1) (by omega) (by omega), w32i (by omega) (by omega)]; omega
  refine iteF (by omega) (iteT (by omega) ?_)
  rw [e1, e2]
  refine bindS (c_fill (by omega) (by omega) (by show _ ≤ p.1 1 0; omega) (by show p.1 1 0 ≤ _; omega)) ?_
  refine iteT (by omega) ?_
  show some (0, uE (zpb (zsh 1) 1 p (uA (zsb (zsh 1) p) 0 _)) 2 r 0) = _
  rw [zpb_uA _ _ _ _ _ _ (by omega), zpb_same]
  rfl
theorem stepB {ρ : Type} {s t : zSt} {x y : Int} {f g f' g' : Int → Int} (h1 : x = y) (ht : t = uB s f g) (h2 : ∀ i, f i = f' i) (h3 : ∀ i, g i = g' i) : (some (Sum.inl (x, t)) : Option ((Int × zSt) ⊕ ρ)) = some (.inl (y, uB s f' g')) := by rw [ht, h1, uB_cg h2 h3]
theorem uB_E1 (s : zSt) (f g : Int → Int) (i v : Int) : uE (uB s f g) 1 i v = uB s (zup f i v) g := by
  unfold uB uE
  refine Prod.ext rfl (funext fun x => ?_)
  simp only [uA2]
  grind
theorem uB_E2 (s : zSt) (f g : Int → Int) (i v : Int) : uE (uB s f g) 2 i v = uB s f (zup g i v) := by
  unfold uB uE
  refine Prod.ext rfl (funext fun x => ?_)
  simp only [uA2]
  grind
theorem c_Pi_moveUp {p : zSt} (h : zPW p) {a b : Int} (hab : 0 ≤ a ∧ a ≤ b ∧ b < 12) : f_Pi_moveUp a b p = some (0, uB p (zUp (p.2 1) 0 a b) (zUg (p.2 2) 0 a b)) := by
  have h9 := h
  obtain ⟨h1, h2, h3, h4, h5⟩ := h9
  unfold f_Pi_moveUp
  have e1 : w32 (w32 (a + 1) * 24) = a * 24 + 24 := by rw [w32i (x := a + 1) (by omega) (by omega), w32i (by omega) (by omega)]; omega
  have e2 : w32 (a * 24) = a * 24 := w32i (by omega) (by omega)
  have e3 : w32 (w32 (b - a) * 24) = b * 24 - a * 24 := by rw [w32i (x := b - a) (by omega) (by omega), w32i (by omega) (by omega)]; omega
  rw [e1, e2, e3]
  refine iteF (by omega) (iteF (by omega) (iteT (by omega) (iteT (by omega) ?_)))
  generalize hC : zcpy (p.2 1) (p.2 1) (a * 24 + 24) (a * 24) (b * 24 - a * 24) = C
  have hl := zloop_up (step := f_Pi_moveUp_l48 b) (r := uB p C (fun i => if a ≤ i ∧ i < b then p.2 2 (i + 1) else p.2 2 i)) (b - a).toNat (n := zfu)
    (fun k => (a + k, uB p C (fun i => if a ≤ i ∧ i < a + k then p.2 2 (i + 1) else p.2 2 i))) (fun k hk => ?_) ?_ ?_
  · simp only [Int.natCast_zero, Int.add_zero] at hl
    have e4 : uB p C (fun i => if a ≤ i ∧ i < a then p.2 2 (i + 1) else p.2 2 i) = uA p 1 C := by
      rw [uB_cg (g' := p.2 2) (fun _ => rfl) (by grind)]
      unfold uB
      rw [show p.2 2 = (uA p 1 C).2 2 from rfl, uA_id]
    rw [e4] at hl
    refine bindS hl ?_
    refine bindS (c_Pi_clearRow (h.uB (fun i => by grind)) (by omega)) ?_
    rw [uB_uB, uB21, uB22]
    congr 2
    refine uB_cg (fun i => ?_) (fun i => ?_)
    · rw [← hC]
      simp only [zFl, zcpy, zUp]
      grind
    · simp only [zup, zUg]
      grind
  · unfold f_Pi_moveUp_l48
    have ew : w32 (a + (k : Int) + 1) = a + k + 1 := w32i (by omega) (by omega)
    refine iteF (by show ¬ b ≤ a + (k : Int); omega) (iteT (by show 0 ≤ w32 (a + (k : Int) + 1) ∧ w32 (a + (k : Int) + 1) < p.1 2 0; omega) (iteT ⟨by show 0 ≤ a + (k : Int) ∧ a + (k : Int) < p.1 2 0; omega, ?_⟩ ?_))
    · show (if a ≤ w32 (a + (k : Int) + 1) ∧ w32 (a + (k : Int) + 1) < a + k then _ else _) = _ ∨ (if a ≤ w32 (a + (k : Int) + 1) ∧ w32 (a + (k : Int) + 1) < a + k then _ else _) = _
      rw [if_neg (by omega)]
      exact h5 _
    · refine stepB (by show w32 (a + (k : Int) + 1) = _; rw [ew]; omega) (uB_E2 _ _ _ _ _) (fun _ => rfl) (fun i => ?_)
      simp only [zup, uB22, ew]
      grind
  · unfold f_Pi_moveUp_l48
    refine iteT (by show b ≤ a + ((b - a).toNat : Int); omega) ?_
    rw [show a + ((b - a).toNat : Int) = b by omega]
  · unfold zfu; omega
theorem c_Pi_moveDown {p : zSt} (h : zPW p) {a b : Int} (hab : 0 ≤ a ∧ a ≤ b ∧ b < 12) : f_Pi_moveDown a b p = some (0, uB p (zDn (p.2 1) 0 a b) (zDg (p.2 2) 0 a b)) := by
  have h9 := h
  obtain ⟨h1, h2, h3, h4, h5⟩ := h9
  unfold f_Pi_moveDown
  have e2 : w32 (a * 24) = a * 24 := w32i (by omega) (by omega)
  have e1 : w32 (a * 24 + 24) = a * 24 + 24 := w32i (by omega) (by omega)
  have e3 : w32 (w32 (b - a) * 24) = b * 24 - a * 24 := by rw [w32i (x := b - a) (by omega) (by omega), w32i (by omega) (by omega)]; omega
  rw [e2, e1, e3]
  refine iteF (by omega) (iteF (by omega) (iteT (by omega) (iteT (by omega) ?_)))
  generalize hC : zcpy (p.2 1) (p.2 1) (a * 24) (a * 24 + 24) (b * 24 - a * 24) = C
  have hl := zloop_up (step := f_Pi_moveDown_l46 a b) (r := uB p C (fun i => if a < i ∧ i ≤ b then p.2 2 (i - 1) else p.2 2 i)) (b - a).toNat (n := zfu)
    (fun k => (b - k, uB p C (fun i => if b - k < i ∧ i ≤ b then p.2 2 (i - 1) else p.2 2 i))) (fun k hk => ?_) ?_ ?_
  · simp only [Int.natCast_zero, Int.sub_zero] at hl
    have e4 : uB p C (fun i => if b < i ∧ i ≤ b then p.2 2 (i - 1) else p.2 2 i) = uA p 1 C := by
      rw [uB_cg (g' := p.2 2) (fun _ => rfl) (by grind)]
      unfold uB
      rw [show p.2 2 = (uA p 1 C).2 2 from rfl, uA_id]
    rw [e4] at hl
    refine bindS hl ?_
    refine bindS (c_Pi_clearRow (h.uB (fun i => by grind)) (by omega)) ?_
    refine iteT (by show 0 ≤ b ∧ b < p.1 2 0; omega) ?_
    rw [uB_uB, uB_E2, uB21, uB22]
    congr 2
    refine uB_cg (fun i => ?_) (fun i => ?_)
    · rw [← hC]
      simp only [zFl, zcpy, zDn]
      grind
    · simp only [zup, zDg]
      grind
  · unfold f_Pi_moveDown_l46
    have ew : w32 (b - (k : Int) - 1) = b - k - 1 := w32i (by omega) (by omega)
    have ew2 : w32 (b - (k : Int) + -1) = b - ((k + 1 : Nat) : Int) := by rw [w32i (by omega) (by omega)]; omega
    refine iteF (by show ¬ b - (k : Int) ≤ a; omega) (iteT (by show 0 ≤ w32 (b - (k : Int) - 1) ∧ w32 (b - (k : Int) - 1) < p.1 2 0; omega) (iteT ⟨by show 0 ≤ b - (k : Int) ∧ b - (k : Int) < p.1 2 0; omega, ?_⟩ ?_))
    · show (if b - (k : Int) < w32 (b - (k : Int) - 1) ∧ w32 (b - (k : Int) - 1) ≤ b then _ else _) = _ ∨ (if b - (k : Int) < w32 (b - (k : Int) - 1) ∧ w32 (b - (k : Int) - 1) ≤ b then _ else _) = _
      rw [if_neg (by omega)]
      exact h5 _
    · refine stepB ew2 (uB_E2 _ _ _ _ _) (fun _ => rfl) (fun i => ?_)
      simp only [zup, uB22, ew]
      grind
  · unfold f_Pi_moveDown_l46
    refine iteT (by show b - ((b - a).toNat : Int) ≤ a; omega) ?_
    rw [show b - ((b - a).toNat : Int) = a by omega]
  · unfold zfu; omega
theorem c_Pi_clear {p : zSt} (h : zPW p) : f_Pi_clear p = some (0, uB p (zFl (p.2 1) 0 288 0) (zFl (p.2 2) 0 12 0)) := by
  have h9 := h
  obtain ⟨h1, h2, h3, h4, h5⟩ := h9
  unfold f_Pi_clear
  have hl := zloop_up (step := f_Pi_clear_l2) (r := uB p (zFl (p.2 1) 0 288 0) (zFl (p.2 2) 0 12 0)) 12 (n := zfu)
    (fun k => ((k : Int), uB p (zFl (p.2 1) 0 (k * 24) 0) (zFl (p.2 2) 0 k 0))) (fun k hk => ?_) ?_ ?_
  · simp only [Int.natCast_zero, Int.zero_mul, zFl_self, uB_id] at hl
    exact bindS hl rfl
  · unfold f_Pi_clear_l2
    refine iteF (by show ¬ (12 : Int) ≤ (k : Int); omega) ?_
    refine bindS (c_Pi_clearRow (h.uB (fun i => by unfold zFl; grind)) (by show 0 ≤ (k : Int) ∧ (k : Int) < 12; omega)) ?_
    refine stepB (by show w32 ((k : Int) + 1) = _; rw [w32i] <;> omega) (uB_uB _ _ _ _ _) (fun i => ?_) (fun i => ?_)
    · simp only [uB21, zFl]
      grind
    · simp only [uB22, zFl, zup]
      grind
  · rfl
  · unfold zfu; omega
