/-! ===== the old rows: history, and MAIN behind it ===== -/
def zC (r : zSt) (a c : Int) : Int := if r.1 0 7 ≤ a then r.2 1 (24 * (a - r.1 0 7) + c) else r.2 3 (24 * a + c)
def zCg (r : zSt) (a : Int) : Int := if r.1 0 7 ≤ a then r.2 2 (a - r.1 0 7) else r.2 4 a
/-- MAIN of the class beside the reference's -/
def zMp (p r : zSt) : Prop := zPW (zsb (zsh 1) p) ∧ zHW (zsb (zsh 4) p) ∧ zMz p ∧ (p.1 1 2 = r.1 0 1 ∧ p.1 1 3 = r.1 0 2 ∧ p.1 4 2 = r.1 0 7) ∧ (∀ i, 0 ≤ i → i < 288 → p.2 2 i = r.2 1 i) ∧ (∀ i, 0 ≤ i → i < 12 → p.2 3 i = r.2 2 i) ∧ (∀ i, 0 ≤ i → i < 24 * r.1 0 7 → p.2 5 i = r.2 3 i) ∧ ∀ i, 0 ≤ i → i < r.1 0 7 → p.2 6 i = r.2 4 i
theorem zMp.tm {p r : zSt} (h : zMp p r) (u l a b d : Int) (F S L G : Int → Int) : zMp (zTm p u l a b d F S L G) r := h
theorem zMp.rz {p r : zSt} (h : zMp p r) {k : Nat} {x : Int} (hk : k ≠ 2 ∧ k ≠ 3) : zMp (uS p 0 k x) r := h
/-- the reference's numbers that laying needs -/
def zNr (r : zSt) : Prop := zRL r ∧ (2 ≤ r.1 0 1 ∧ r.1 0 1 ≤ 12) ∧ (4 ≤ r.1 0 2 ∧ r.1 0 2 ≤ 24) ∧ (0 ≤ r.1 0 7 ∧ r.1 0 7 ≤ 40) ∧ (∀ i, z01 (r.2 2 i)) ∧ ∀ i, z01 (r.2 4 i)
theorem c_Ma_at {p r : zSt} (h : zMp p r) (hr : zNr r) {a c : Int} (ha : 0 ≤ a ∧ a < r.1 0 7 + 12) (hc : 0 ≤ c ∧ c < 24) : f_Ma_at a c p = some (zC r a c) := by
  obtain ⟨h1, h2, -, ⟨h3, h4, h5⟩, h6, h7, h8, h9⟩ := h
  obtain ⟨-, -, -, hp, -, -⟩ := hr
  unfold f_Ma_at
  refine bindS (x := r.1 0 7) (by unfold f_Hi_count; exact congrArg some h5) ?_
  unfold zC
  by_cases q : r.1 0 7 ≤ a
  · refine iteT q (bindS (c_Pi_at h1 _ _) ?_)
    rw [if_pos q, w32i (by omega) (by omega)]
    unfold zat
    rw [if_pos (by omega)]
    show some (p.2 2 ((a - r.1 0 7) * 24 + c)) = _
    rw [h6 _ (by omega) (by omega), show (a - r.1 0 7) * 24 + c = 24 * (a - r.1 0 7) + c by omega]
  · refine iteF q (bindS (x := p.2 5 (24 * a + c)) ?_ (by rw [if_neg q, h8 _ (by omega) (by omega)]))
    have e : w32 (w32 (a * 24) + c) = 24 * a + c := by rw [w32i (x := a * 24) (by omega) (by omega), w32i (by omega) (by omega)]; omega
    unfold f_Hi_at
    refine iteF (by omega) (iteF (by show ¬ p.1 4 2 ≤ a; omega) (iteF (by omega) (iteF (by omega) (iteT (by omega) ?_))))
    rw [e]
    have := h2.1
    exact iteT ⟨by omega, by omega⟩ rfl
theorem c_Rf_old {r : zSt} (hr : zNr r) (A B : Int → Int) {a c : Int} (ha : 0 ≤ a ∧ a < r.1 0 7 + 12) (hc : 0 ≤ c ∧ c < 24) : f_Rf_old a c (zTr r A B) = some (zC r a c) := by
  obtain ⟨hL, -, -, hp, -, -⟩ := hr
  unfold f_Rf_old zC
  by_cases q : r.1 0 7 ≤ a
  · rw [if_pos q]
    have e : w32 (w32 (24 * w32 (a - r.1 0 7)) + c) = 24 * (a - r.1 0 7) + c := by rw [w32i (x := a - r.1 0 7) (by omega) (by omega), w32i (x := 24 * (a - r.1 0 7)) (by omega) (by omega), w32i (by omega) (by omega)]
    refine iteT q ?_
    rw [show (zTr r A B).1 0 7 = r.1 0 7 from rfl, e]
    have := hL.1
    exact iteT ⟨by omega, by show _ < r.1 1 0; omega⟩ rfl
  · rw [if_neg q]
    have e : w32 (w32 (24 * a) + c) = 24 * a + c := by rw [w32i (x := 24 * a) (by omega) (by omega), w32i (by omega) (by omega)]
    refine iteF q ?_
    rw [e]
    have := hL.2.2.1
    exact iteT ⟨by omega, by show _ < r.1 3 0; omega⟩ rfl
theorem c_Rf_oldGoes {r : zSt} (hr : zNr r) (A B : Int → Int) {a : Int} (ha : 0 ≤ a ∧ a < r.1 0 7 + 12) : f_Rf_oldGoes a (zTr r A B) = some (zCg r a) := by
  obtain ⟨hL, -, -, hp, hg, hg2⟩ := hr
  unfold f_Rf_oldGoes zCg
  by_cases q : r.1 0 7 ≤ a
  · rw [if_pos q]
    have e : w32 (a - r.1 0 7) = a - r.1 0 7 := w32i (by omega) (by omega)
    refine iteT q ?_
    rw [show (zTr r A B).1 0 7 = r.1 0 7 from rfl, e]
    have := hL.2.1
    exact iteT ⟨by omega, by show _ < r.1 2 0; omega⟩ (iteT (show r.2 2 _ = 0 ∨ r.2 2 _ = 1 from hg _) rfl)
  · rw [if_neg q]
    refine iteF q ?_
    have := hL.2.2.2.1
    exact iteT ⟨by omega, by show _ < r.1 4 0; omega⟩ (iteT (show r.2 4 _ = 0 ∨ r.2 4 _ = 1 from hg2 _) rfl)
theorem c_Ma_isGoing {p r : zSt} (h : zMp p r) (hr : zNr r) {a : Int} (ha : 0 ≤ a ∧ a < r.1 0 7 + 12) : f_Ma_isGoing a p = some (zCg r a) := by
  obtain ⟨h1, h2, -, ⟨h3, h4, h5⟩, h6, h7, h8, h9⟩ := h
  obtain ⟨-, -, -, hp, hg, hg2⟩ := hr
  have n01 : ∀ {x : Int}, z01 x → (if x = 0 then (0 : Int) else 1) = x := fun {x} hx => by rcases hx with q | q <;> rw [q] <;> rfl
  unfold f_Ma_isGoing
  refine bindS (x := r.1 0 7) (by unfold f_Hi_count; exact congrArg some h5) ?_
  unfold zCg
  by_cases q : r.1 0 7 ≤ a
  · refine iteT q (bindS (x := r.2 2 (a - r.1 0 7)) ?_ ?_)
    rotate_left
    · rw [if_pos q]
      exact iteT (show r.2 2 _ = 0 ∨ r.2 2 _ = 1 from hg _) rfl
    rw [w32i (by omega) (by omega)]
    unfold f_Pi_isGoing
    have := h1.2.1
    refine iteF (by omega) (iteF (by omega) (iteT ⟨by omega, by omega⟩ ?_))
    show some (if p.2 3 (a - r.1 0 7) = 0 then (0 : Int) else 1) = _
    rw [h7 _ (by omega) (by omega), n01 (hg _)]
  · refine iteF q (bindS (x := r.2 4 a) ?_ ?_)
    rotate_left
    · rw [if_neg q]
      exact iteT (show r.2 4 _ = 0 ∨ r.2 4 _ = 1 from hg2 _) rfl
    unfold f_Hi_isGoing
    have := h2.2.1
    refine iteF (by omega) (iteF (by show ¬ p.1 4 2 ≤ a; omega) (iteF (by omega) (iteT ⟨by omega, by omega⟩ ?_)))
    show some (if p.2 6 a = 0 then (0 : Int) else 1) = _
    rw [h9 _ (by omega) (by omega), n01 (hg2 _)]
/-- how many cells a row has up to its last one that is not empty -/
def zfl (g : Int → Int) : Nat → Int
  | 0 => 0
  | k + 1 => if g (k : Int) = 0 then zfl g k else (k : Int) + 1
theorem zfl_spec (g : Int → Int) : ∀ k : Nat, (0 ≤ zfl g k ∧ zfl g k ≤ k) ∧ (∀ c, zfl g k ≤ c → c < k → g c = 0) ∧ (0 < zfl g k → g (zfl g k - 1) ≠ 0)
  | 0 => ⟨by simp [zfl], fun c a b => by simp [zfl] at a; omega, fun a => by simp [zfl] at a⟩
  | k + 1 => by
    obtain ⟨h1, h2, h3⟩ := zfl_spec g k
    unfold zfl
    by_cases q : g (k : Int) = 0
    · rw [if_pos q]
      refine ⟨by omega, fun c a b => ?_, h3⟩
      by_cases e : c = k
      · rw [e]; exact q
      · exact h2 c a (by omega)
    · rw [if_neg q]
      refine ⟨by omega, fun c a b => by omega, fun _ => ?_⟩
      rw [show (k : Int) + 1 - 1 = k by omega]
      exact q
theorem zfl_cg {g h : Int → Int} : ∀ k : Nat, (∀ c, 0 ≤ c → c < k → g c = h c) → zfl g k = zfl h k
  | 0, _ => rfl
  | k + 1, e => by
    unfold zfl
    rw [e k (by omega) (by omega), zfl_cg k (fun c a b => e c a (by omega))]
theorem c_fullOf {r : zSt} (hr : zNr r) (A B : Int → Int) {a : Int} (ha : 0 ≤ a ∧ a < r.1 0 7 + 12) : f_Rf_fullOf a (zTr r A B) = some (zfl (zC r a) (r.1 0 2).toNat) := by
  have key : ∀ (k n : Nat), k < n → k ≤ 24 → zloop (f_Rf_fullOf_l5 a (zTr r A B)) n (k : Int) = some (zfl (zC r a) k) := by
    intro k
    induction k with
    | zero =>
      intro n hn _
      obtain ⟨m, rfl⟩ : ∃ m, n = m + 1 := ⟨n - 1, by omega⟩
      rfl
    | succ k ih =>
      intro n hn h24
      obtain ⟨m, rfl⟩ : ∃ m, n = m + 1 := ⟨n - 1, by omega⟩
      unfold zloop f_Rf_fullOf_l5
      rw [if_neg (by omega), w32i (by omega) (by omega), show ((k + 1 : Nat) : Int) - 1 = (k : Int) by omega, c_Rf_old hr A B ha ⟨by omega, by omega⟩]
      simp only [Option.bind_some]
      unfold zfl
      by_cases q : zC r a k = 0
      · rw [if_neg (by simpa using q), if_pos q]
        simp only [Option.bind_some]
        rw [w32i (by omega) (by omega), show ((k + 1 : Nat) : Int) + (-1) = (k : Int) by omega]
        exact ih m (by omega) (by omega)
      · rw [if_pos q, if_neg q]
        rfl
  have hn := hr.2.2.1
  unfold f_Rf_fullOf
  have := key (r.1 0 2).toNat zfu (by unfold zfu; omega) (by omega)
  rw [show (((r.1 0 2).toNat : Nat) : Int) = r.1 0 2 by omega] at this
  exact bindS this rfl
theorem c_cellsUp {p r : zSt} (h : zMp p r) (hr : zNr r) {a : Int} (ha : 0 ≤ a ∧ a < r.1 0 7 + 12) : ∀ (k n : Nat) (i : Int), k < n → i + k ≤ 24 → 0 ≤ i → zloop (f_Ma_cellsOf_l60 a p) n ((k : Int), i) = some (zfl (zC r a) k) := by
  intro k
  induction k with
  | zero =>
    intro n i hn _ _
    obtain ⟨m, rfl⟩ : ∃ m, n = m + 1 := ⟨n - 1, by omega⟩
    unfold zloop f_Ma_cellsOf_l60
    by_cases q : 24 ≤ i
    · rw [if_pos q]; rfl
    · rw [if_neg q]; rfl
  | succ k ih =>
    intro n i hn h24 hi
    obtain ⟨m, rfl⟩ : ∃ m, n = m + 1 := ⟨n - 1, by omega⟩
    unfold zloop f_Ma_cellsOf_l60
    have e1 : w32 (((k + 1 : Nat) : Int) - 1) = (k : Int) := by rw [w32i (by omega) (by omega)]; omega
    have e2 : w32 (((k + 1 : Nat) : Int) + (-1)) = (k : Int) := by rw [w32i (by omega) (by omega)]; omega
    have e3 : w32 (i + 1) = i + 1 := w32i (by omega) (by omega)
    rw [if_neg (by show ¬ 24 ≤ i; omega), if_neg (by show ¬ (((k + 1 : Nat) : Int) ≤ 0); omega)]
    simp only [e1, e2, e3]
    rw [c_Ma_at h hr ha ⟨by omega, by omega⟩]
    simp only [Option.bind_some]
    unfold zfl
    by_cases q : zC r a k = 0
    · rw [if_neg (by simpa using q), if_pos q]
      exact ih m (i + 1) (by omega) (by omega) (by omega)
    · rw [if_pos q, if_neg q]
      rfl
theorem c_filled {q : zSt} (h : zPW q) {a : Int} (ha : 0 ≤ a ∧ a < 12) : f_Pi_filled a q = some (zfl (fun c => q.2 1 (a * 24 + c)) (q.1 0 3).toNat) := by
  have hn := h.2.2.2.1
  have key : ∀ (k n : Nat), k < n → k ≤ 24 → zloop (f_Pi_filled_l7 a q) n ((k : Int) - 1) = some (zfl (fun c => q.2 1 (a * 24 + c)) k) := by
    intro k
    induction k with
    | zero =>
      intro n hn _
      obtain ⟨m, rfl⟩ : ∃ m, n = m + 1 := ⟨n - 1, by omega⟩
      rfl
    | succ k ih =>
      intro n hn h24
      obtain ⟨m, rfl⟩ : ∃ m, n = m + 1 := ⟨n - 1, by omega⟩
      unfold zloop f_Pi_filled_l7
      have ez : zat (q.2 1) a (k : Int) = q.2 1 (a * 24 + (k : Int)) := by unfold zat; rw [if_pos (by omega)]
      rw [if_neg (by omega), c_Pi_at h, show ((k + 1 : Nat) : Int) - 1 = (k : Int) by omega, ez]
      simp only [Option.bind_some]
      unfold zfl
      by_cases e : q.2 1 (a * 24 + (k : Int)) = 0
      · rw [if_pos e, if_pos e]
        simp only [Option.bind_some]
        rw [w32i (by omega) (by omega)]
        exact ih m (by omega) (by omega)
      · rw [if_neg e, if_neg e]
        simp only [Option.bind_some]
        rw [w32i (by omega) (by omega)]
  unfold f_Pi_filled
  have := key (q.1 0 3).toNat zfu (by unfold zfu; omega) (by omega)
  rw [show (((q.1 0 3).toNat : Nat) : Int) = q.1 0 3 by omega] at this
  rw [w32i (by omega) (by omega)]
  exact this
