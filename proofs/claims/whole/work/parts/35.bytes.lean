/-! ===== rows of bytes as lists ===== -/
def zwr (x : Int) (n : Nat) : Int := if x < n then x else x - n
def zBy (p : zSt) (n : Nat) (l : List Int) : Prop := p.1 1 0 = n ∧ (0 ≤ p.1 0 1 ∧ p.1 0 1 < n) ∧ p.1 0 2 = l.length ∧ l.length ≤ n ∧ ∀ i : Nat, i < l.length → p.2 1 (zwr (p.1 0 1 + i) n) = l.getD i 0
/-- only the row changed -/
def zBf (p q : zSt) : Prop := (∀ i k, ¬ (i = 0 ∧ (k = 1 ∨ k = 2)) → q.1 i k = p.1 i k) ∧ ∀ i, i ≠ 1 → q.2 i = p.2 i
theorem zBf.rf (p : zSt) : zBf p p := ⟨fun _ _ _ => rfl, fun _ _ => rfl⟩
theorem zBf.trans {p q r : zSt} (h : zBf p q) (k : zBf q r) : zBf p r := ⟨fun i j a => (k.1 i j a).trans (h.1 i j a), fun i a => (k.2 i a).trans (h.2 i a)⟩
theorem zBf.c {p : zSt} {x : Int} : zBf p (uS p 0 2 x) := ⟨fun i k q => by simp only [uS1]; grind, fun _ _ => rfl⟩
theorem zBf.f {p : zSt} {x : Int} : zBf p (uS p 0 1 x) := ⟨fun i k q => by simp only [uS1]; grind, fun _ _ => rfl⟩
theorem zBf.a {p : zSt} {f : Int → Int} : zBf p (uA p 1 f) := ⟨fun _ _ _ => rfl, fun i q => uA_a q⟩
theorem By_count {p : zSt} {n : Nat} {l : List Int} (h : zBy p n l) : f_By_count p = some (l.length : Int) := by
  unfold f_By_count
  rw [h.2.2.1]
theorem By_room {p : zSt} {n : Nat} {l : List Int} (h : zBy p n l) (hn : n < 1000) : f_By_room p = some ((n : Int) - l.length) := by
  obtain ⟨h1, h2, h3, h4, h5⟩ := h
  unfold f_By_room
  refine iteT (by omega) ?_
  rw [h1, h3, w32i (by omega) (by omega)]
theorem By_place {p : zSt} {n : Nat} {l : List Int} (h : zBy p n l) (hn : n < 1000) {i : Int} (hi : -1 ≤ i ∧ i ≤ n) : f_By_placeOf i p = some (zwr (p.1 0 1 + i) n) := by
  obtain ⟨h1, h2, h3, h4, h5⟩ := h
  unfold f_By_placeOf zwr
  refine iteT (by omega) ?_
  rw [w32i (x := p.1 0 1 + i) (by omega) (by omega), h1]
  by_cases q : p.1 0 1 + i < n
  · exact iteT q (by rw [if_pos q])
  · refine iteF q (iteT (by omega) ?_)
    rw [if_neg q, w32i (by omega) (by omega)]
theorem By_clear {p : zSt} {n : Nat} {l : List Int} (h : zBy p n l) : ∃ p1, f_By_clear p = some (0, p1) ∧ zBy p1 n [] ∧ zBf p p1 := by
  obtain ⟨h1, h2, h3, h4, h5⟩ := h
  refine ⟨uS (uS p 0 1 0) 0 2 0, rfl, ⟨h1, ⟨by show (0 : Int) ≤ 0; decide, by show (0 : Int) < n; omega⟩, rfl, Nat.zero_le _, fun i hi => absurd hi (Nat.not_lt_zero _)⟩, zBf.trans zBf.f zBf.c⟩
theorem getD_app (l m : List Int) (i : Nat) : (l ++ m).getD i 0 = if i < l.length then l.getD i 0 else m.getD (i - l.length) 0 := by
  simp only [List.getD_eq_getElem?_getD]
  by_cases q : i < l.length
  · rw [if_pos q, List.getElem?_append_left q]
  · rw [if_neg q, List.getElem?_append_right (by omega)]
theorem By_add {p : zSt} {n : Nat} {l : List Int} (h : zBy p n l) (hn : n < 1000) (b : Int) : ∃ x p1, f_By_add b p = some (x, p1) ∧ zBy p1 n ((l ++ [b]).take n) ∧ zBf p p1 := by
  have h0 := h
  have e := By_place h hn (i := l.length) (by have := h.2.2.2.1; omega)
  obtain ⟨h1, h2, h3, h4, h5⟩ := h
  have hin : (0 : Int) ≤ p.1 1 0 := by omega
  by_cases q : n ≤ l.length
  · refine ⟨0, p, ?_, ?_, zBf.rf p⟩
    · unfold f_By_add
      rw [h3]
      refine bindS e (iteT hin (iteT (by omega) rfl))
    · have : (l ++ [b]).take n = l := by rw [List.take_append_of_le_length (by omega), List.take_of_length_le (by omega)]
      rw [this]
      exact h0
  · have hw : 0 ≤ zwr (p.1 0 1 + l.length) n ∧ zwr (p.1 0 1 + l.length) n < n := by unfold zwr; split <;> omega
    refine ⟨1, uS (uE p 1 (zwr (p.1 0 1 + l.length) n) b) 0 2 (l.length + 1), ?_, ?_, zBf.trans zBf.a zBf.c⟩
    · unfold f_By_add
      rw [h3]
      refine bindS e (iteT hin (iteF (by omega) (iteF (by omega) (iteT hin (iteT (by omega) (iteT (by omega) ?_))))))
      rw [w32i (by omega) (by omega)]
    · have et : (l ++ [b]).take n = l ++ [b] := List.take_of_length_le (by simp; omega)
      rw [et]
      refine ⟨h1, h2, ?_, by simp; omega, fun i hi => ?_⟩
      · show (l.length : Int) + 1 = _
        simp
      · simp only [List.length_append, List.length_cons, List.length_nil] at hi
        have h6 := h5 i
        show zup (p.2 1) (zwr (p.1 0 1 + l.length) n) b (zwr (p.1 0 1 + i) n) = _
        rw [getD_app]
        unfold zup
        by_cases q2 : i < l.length
        · rw [if_pos q2, if_neg (by unfold zwr; split <;> split <;> omega)]
          exact h6 q2
        · obtain rfl : i = l.length := by omega
          rw [if_neg q2, if_pos rfl, Nat.sub_self]
          rfl
theorem By_at {p : zSt} {n : Nat} {l : List Int} (h : zBy p n l) (hn : n < 1000) {i : Int} (hi : -1 ≤ i ∧ i ≤ n) : f_By_at i p = some (if 0 ≤ i ∧ i < l.length then l.getD i.toNat 0 else -1) := by
  have e := By_place h hn hi
  obtain ⟨h1, h2, h3, h4, h5⟩ := h
  unfold f_By_at
  refine bindS e ?_
  by_cases q1 : i < 0
  · exact iteT q1 (by rw [if_neg (by omega)])
  by_cases q2 : (l.length : Int) ≤ i
  · exact iteF q1 (iteT (by omega) (by rw [if_neg (by omega)]))
  · have hw : 0 ≤ zwr (p.1 0 1 + i) n ∧ zwr (p.1 0 1 + i) n < n := by unfold zwr; split <;> omega
    have h6 := h5 i.toNat (by omega)
    rw [show ((i.toNat : Nat) : Int) = i by omega] at h6
    refine iteF q1 (iteF (by omega) (iteF (by omega) (iteT (by omega) (iteT (by omega) (iteT (by omega) ?_)))))
    rw [h6, if_pos (by omega)]
theorem By_removeFirst0 {p : zSt} {n : Nat} (h : zBy p n []) : f_By_removeFirst p = some (-1, p) := by
  obtain ⟨h1, h2, h3, h4, h5⟩ := h
  unfold f_By_removeFirst
  exact iteT (by rw [h3]; decide) rfl
theorem By_removeFirst {p : zSt} {n : Nat} {b : Int} {l : List Int} (h : zBy p n (b :: l)) (hn : n < 1000) : ∃ p1, f_By_removeFirst p = some (b, p1) ∧ zBy p1 n l ∧ zBf p p1 := by
  have e := By_place h hn (i := 1) (by have := h.2.2.2.1; simp at this; omega)
  obtain ⟨h1, h2, h3, h4, h5⟩ := h
  simp only [List.length_cons] at h3 h4 h5
  have hw : 0 ≤ zwr (p.1 0 1 + 1) n ∧ zwr (p.1 0 1 + 1) n < n := by unfold zwr; split <;> omega
  refine ⟨uS (uS p 0 1 (zwr (p.1 0 1 + 1) n)) 0 2 l.length, ?_, ⟨h1, hw, rfl, by omega, fun i hi => ?_⟩, zBf.trans zBf.f zBf.c⟩
  · unfold f_By_removeFirst
    refine iteF (by omega) (iteF (by omega) (iteT (by omega) (iteT (by omega) (iteT (by omega) (bindS e ?_)))))
    have h6 := h5 0 (by omega)
    rw [show zwr (p.1 0 1 + ((0 : Nat) : Int)) n = p.1 0 1 by unfold zwr; rw [if_pos (by omega)]; omega] at h6
    rw [h6, h3, w32i (by omega) (by omega), show (((l.length + 1 : Nat) : Int) - 1) = l.length by omega]
    rfl
  · have h6 := h5 (i + 1) (by omega)
    show p.2 1 (zwr (zwr (p.1 0 1 + 1) n + i) n) = _
    rw [show zwr (zwr (p.1 0 1 + 1) n + i) n = zwr (p.1 0 1 + ((i + 1 : Nat) : Int)) n by unfold zwr; split <;> split <;> split <;> omega, h6]
    rfl
theorem By_removeLast0 {p : zSt} {n : Nat} (h : zBy p n []) (hn : n < 1000) : f_By_removeLast p = some (-1, p) := by
  have e := By_at h hn (i := -1) (by omega)
  rw [if_neg (by omega)] at e
  obtain ⟨h1, h2, h3, h4, h5⟩ := h
  unfold f_By_removeLast
  rw [h3]
  exact bindS e (iteT (by decide) rfl)
theorem By_removeLast {p : zSt} {n : Nat} {b : Int} {l : List Int} (h : zBy p n (l ++ [b])) (hn : n < 1000) : ∃ p1, f_By_removeLast p = some (b, p1) ∧ zBy p1 n l ∧ zBf p p1 := by
  have e := By_at h hn (i := l.length) (by have := h.2.2.2.1; simp at this; omega)
  rw [if_pos (by simp; omega), getD_app, if_neg (by simp), show ([b] : List Int).getD ((l.length : Int).toNat - l.length) 0 = b by simp] at e
  obtain ⟨h1, h2, h3, h4, h5⟩ := h
  simp only [List.length_append, List.length_cons, List.length_nil] at h3 h4 h5
  refine ⟨uS p 0 2 l.length, ?_, ⟨h1, h2, rfl, by omega, fun i hi => ?_⟩, zBf.c⟩
  · unfold f_By_removeLast
    rw [h3, w32i (by omega) (by omega), show (((l.length + (0 + 1) : Nat) : Int) - 1) = l.length by omega]
    exact bindS e (iteF (by omega) rfl)
  · have h6 := h5 i (by omega)
    rw [getD_app, if_pos hi] at h6
    exact h6
theorem take_app (n : Nat) (l m : List Int) : (l.take n ++ m).take n = (l ++ m).take n := by
  rw [List.take_append, List.take_append, List.take_take, Nat.min_self, List.length_take]
  by_cases q : n ≤ l.length
  · rw [Nat.min_eq_left q, Nat.sub_self, show n - l.length = 0 by omega]
  · rw [Nat.min_eq_right (by omega)]
def zdg (x : Int) : List Int := if x < 10 then [48 + x] else if x < 100 then [48 + x / 10, 48 + x % 10] else [48 + x / 100, 48 + x / 10 % 10, 48 + x % 10]
theorem By_addNumber {p : zSt} {n : Nat} {l : List Int} (h : zBy p n l) (hn : n < 1000) {x : Int} (hx : 0 ≤ x ∧ x ≤ 999) : ∃ y p1, f_By_addNumber x p = some (y, p1) ∧ zBy p1 n ((l ++ zdg x).take n) ∧ zBf p p1 := by
  have e1 : wRem x 10 = x % 10 := wRem_e hx.1 (by decide)
  have e2 : wDiv x 10 = x / 10 := wDiv_e (by omega) (by decide)
  have e3 : wRem (x / 10) 10 = x / 10 % 10 := wRem_e (by omega) (by decide)
  have e4 : wDiv x 100 = x / 100 := wDiv_e (by omega) (by decide)
  have w1 : w32 (48 + x % 10) = 48 + x % 10 := w32i (by omega) (by omega)
  have w2 : w32 (48 + x / 10 % 10) = 48 + x / 10 % 10 := w32i (by omega) (by omega)
  have w3 : w32 (48 + x / 100) = 48 + x / 100 := w32i (by omega) (by omega)
  have key : ∀ {p : zSt} {l : List Int}, zBy p n l → 10 ≤ x → ∃ y p1, f_By_addNumber_j18 x p = some (y, p1) ∧ zBy p1 n ((l ++ [48 + x / 10 % 10, 48 + x % 10]).take n) ∧ zBf p p1 := by
    intro p l h q
    obtain ⟨y1, p1, a1, a2, a3⟩ := By_add h hn (48 + x / 10 % 10)
    obtain ⟨y2, p2, b1, b2, b3⟩ := By_add a2 hn (48 + x % 10)
    rw [take_app, List.append_assoc] at b2
    refine ⟨0, p2, ?_, b2, a3.trans b3⟩
    unfold f_By_addNumber_j18
    rw [e1, e2, e3, w1, w2]
    exact iteF (by omega) (bindS a1 (bindS b1 rfl))
  unfold f_By_addNumber
  by_cases q : x < 10
  · obtain ⟨y1, p1, a1, a2, a3⟩ := By_add h hn (48 + x % 10)
    rw [show zdg x = [48 + x % 10] by unfold zdg; rw [if_pos q, show 48 + x = 48 + x % 10 by omega]]
    refine ⟨0, p1, iteT (by omega) ?_, a2, a3⟩
    unfold f_By_addNumber_j18
    rw [e1, w1]
    exact iteT q (bindS a1 rfl)
  by_cases q2 : x < 100
  · obtain ⟨y1, p1, a1, a2, a3⟩ := key h (by omega)
    rw [show zdg x = [48 + x / 10 % 10, 48 + x % 10] by unfold zdg; rw [if_neg q, if_pos q2, show 48 + x / 10 = 48 + x / 10 % 10 by omega]]
    exact ⟨y1, p1, iteT q2 a1, a2, a3⟩
  · obtain ⟨y0, p0, c1, c2, c3⟩ := By_add h hn (48 + x / 100)
    obtain ⟨y1, p1, a1, a2, a3⟩ := key c2 (by omega)
    rw [show zdg x = [48 + x / 100, 48 + x / 10 % 10, 48 + x % 10] by unfold zdg; rw [if_neg q, if_neg q2], e4, w3]
    rw [take_app, List.append_assoc] at a2
    exact ⟨y1, p1, iteF q2 (bindS c1 a1), a2, c3.trans a3⟩
theorem zdg_len (x : Int) : (zdg x).length ≤ 3 := by
  unfold zdg
  split
  · simp
  · split <;> simp
theorem zBy_cg {p q : zSt} {n : Nat} {l : List Int} (h : zBy p n l) (h1 : q.1 0 1 = p.1 0 1) (h2 : q.1 0 2 = p.1 0 2) (h3 : q.1 1 0 = p.1 1 0) (h4 : q.2 1 = p.2 1) : zBy q n l := by
  obtain ⟨a1, a2, a3, a4, a5⟩ := h
  refine ⟨by rw [h3]; exact a1, by rw [h1]; exact a2, by rw [h2]; exact a3, a4, fun i hi => ?_⟩
  rw [h1, h4]
  exact a5 i hi
