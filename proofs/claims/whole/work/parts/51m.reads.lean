/-! ===== public methods: type, draft; cell, past, goesOn, title, told ===== -/
theorem zTys_one {b : Int} {r r' : zSt} (h : zTys [b] r = some r') : ∃ v, f_Rf_types b r = some (v, r') := by
  obtain ⟨x, h1, h2⟩ := Option.bind_eq_some_iff.mp (show (f_Rf_types b r).bind (fun x => zTys [] x.2) = some r' from h)
  injection h2 with h2
  exact ⟨x.1, by rw [h1, ← h2]⟩
def e_Co_type (a1 : Int) : Option Int := if a1 < 0 then some 1 else if a1 ≤ 127 then none else some 1
theorem in_1 {a x y : Int} (h : x ≤ a ∧ a ≤ y) : f_Rf_in a x y = some 1 := by rw [c_Rf_in, if_neg (by omega), if_neg (by omega)]
theorem in_0 {a x y : Int} (h : ¬ (x ≤ a ∧ a ≤ y)) : f_Rf_in a x y = some 0 := by
  rw [c_Rf_in]
  by_cases z : a < x
  · rw [if_pos z]
  · rw [if_neg z, if_pos (by omega)]
theorem one_1 : (if (1 : Int) = 0 then (1 : Int) else 0) = 0 := rfl
theorem one_0 : (if (0 : Int) = 0 then (1 : Int) else 0) = 1 := rfl
theorem M_type {B : Nat} {C r : zSt} (h : zWh B C r) (hB : B + 100 < 65536) (a : Int) : zMok (B + 100) C (f_Co_type a C) (f_Rf_type a r) ∨ zMth (B + 100) C (e_Co_type a) (f_Rf_type a r) 1 1 := by
  obtain ⟨k, ln, hd, N, dr, a1, a2, a3⟩ := h
  by_cases q : 0 ≤ a ∧ a ≤ 127
  · obtain ⟨x, p, g1, g2, g3⟩ := Bo_add (o := 1) a1.1.1 (by decide) a
    obtain ⟨u1, u2, -, u4⟩ := (a1.f0 (Or.inl rfl) 0).ty (ty' := [a]) g3 g2 (zbs.one q)
    obtain ⟨C', r', b1, b2, b3, b4, b5⟩ := Co_done (B := B + 100) hB u1 (dr := dr) (by simp; omega) ((a3.f0 (Or.inl rfl) 0).cg (fun i y => u2.1 i (by omega)) ⟨rfl, rfl, rfl⟩ ⟨rfl, rfl⟩)
    obtain ⟨v, e⟩ := zTys_one b2
    have e0 : r'.1 0 0 = 0 := (b4.1 0 (by omega)).trans rfl
    refine Or.inl ⟨r'.1 0 46, C', r', ?_, ?_, e0, b3⟩
    · unfold f_Co_type
      exact iteF (by omega) (iteT q.2 (bindS g1 (bindS b1 (zmn_i b5 (bindS b3.lined rfl) (Int.le_refl _)))))
    · unfold f_Rf_type
      refine bindS (in_1 q) ?_
      rw [one_1]
      refine iteT (by decide) (bindS e ?_)
      by_cases z : r'.1 0 40 = 0
      · rw [if_pos z]
      · rw [if_neg z, b3.raw z]
  · refine Or.inr ⟨0, uS r 0 0 1, ?_, ?_, rfl, ⟨k, ln, hd, N, dr, a1.f0 (Or.inl rfl) 1, by omega, a3.f0 (Or.inl rfl) 1⟩⟩
    · unfold e_Co_type
      by_cases z : a < 0
      · exact iteT z rfl
      · exact iteF z (iteF (by omega) rfl)
    · unfold f_Rf_type
      refine bindS (in_0 q) ?_
      rw [one_0]
      exact iteF (by decide) rfl
theorem zXX.cg {s s' A A' r : zSt} {N pg l m : List Int} (h : zXX s A N pg l r m) (h1 : zAg s s') (h2 : zAg A A') : zXX s' A' N pg l r m := ⟨h.1.cg h1, h.2.cg h2⟩
theorem zJ.mono {X Y : List Int → List Int → zSt → List Int → Prop} {q r : zSt} {ln hd l : List Int} (h : zJ X q r ln hd l) (k : ∀ pg m, X pg l r m → Y pg l r m) : zJ Y q r ln hd l := by
  obtain ⟨hR, hO, pg, m, x1, x3⟩ := h
  exact ⟨hR, hO, pg, m, k _ _ x1, x3⟩
theorem zCo.cg {C D r : zSt} {k : Nat} {ty ln hd l N : List Int} (h : zCo C r k ty ln hd l N) (o : ∀ i, (i = 1 ∨ i = 2 ∨ (5 ≤ i ∧ i < 70)) → D.1 i = C.1 i ∧ D.2 i = C.2 i) : zCo D r k ty ln hd l N := by
  obtain ⟨⟨hty, hbt⟩, ⟨hT, hk, hkN⟩, hJ, hw⟩ := h
  refine ⟨⟨zBy_cg hty ?_ ?_ ?_ ?_, hbt⟩, ⟨hT.cg ?_ ?_ ?_, ?_, hkN⟩, (hJ.cg (fun i hi => o (i + 5) (by omega))).mono fun pg m x => x.cg (fun i hi => o (i + 14) (by omega)) (fun i hi => o (i + 43) (by omega)), hw⟩
  · exact congrFun (o 1 (by decide)).1 1
  · exact congrFun (o 1 (by decide)).1 2
  · exact congrFun (o 2 (by decide)).1 0
  · exact (o 2 (by decide)).2
  · exact congrFun (o 41 (by decide)).1 1
  · exact (o 42 (by decide)).2
  · exact congrFun (o 42 (by decide)).1 0
  · rw [(o 41 (by decide)).1]; exact hk
theorem zCo.rr {C r r' : zSt} {k : Nat} {ty ln hd l N : List Int} (h : zCo C r k ty ln hd l N) (hr : ∀ i k, ¬ (i = 0 ∧ (k = 0 ∨ 51 ≤ k)) → r'.1 i k = r.1 i k) (hr2 : ∀ i, i ≤ 10 → r'.2 i = r.2 i) : zCo C r' k ty ln hd l N := by
  have c := h.nums
  refine ⟨h.1, h.2.1, J_cell (zXX.ok _ _ _) h.2.2.1 (fun _ _ _ => rfl) rfl (fun i k y => hr i k (by omega)) hr2 ?_ ?_, ?_⟩
  · rw [hr 0 40 (by omega), hr 0 41 (by omega), hr 0 42 (by omega), hr 0 49 (by omega), hr 0 50 (by omega)]
    exact c.1
  · rw [hr 0 40 (by omega), hr 0 41 (by omega), hr 0 42 (by omega)]
    exact c.2
  · rw [hr 0 40 (by omega), hr 0 49 (by omega)]
    exact h.2.2.2
def e_Co_draft (a1 : Int) (s : zSt) : Option Int := if a1 < 1 then some 1 else if a1 < 127 then (f_By_room (zsb (zsh 3) s)).bind fun x3 => if 1 ≤ x3 then none else some 2 else some 1
theorem M_draft {B : Nat} {C r : zSt} (h : zWh B C r) (hB : B + 100 < 65536) (a : Int) : zMok (B + 100) C (f_Co_draft a C) (f_Rf_draft a r) ∨ (∃ j, zMth (B + 100) C (e_Co_draft a C) (f_Rf_draft a r) j j ∧ (j = 1 ∨ j = 2)) := by
  obtain ⟨k, ln, hd, N, dr, a1, a2, a3⟩ := h
  obtain ⟨⟨d1, d2, d3⟩, d4⟩ := a3
  have a3 : zDS C r dr := ⟨⟨d1, d2, d3⟩, d4⟩
  have hr := By_room d1 (by decide)
  have d14 := d1.2.2.2.1
  have d21 := d2.1
  have h11 : r.1 11 0 = 40 := a1.2.2.1.2.1.rl.2.2.2.2.2.2.2.2.2.2.1
  by_cases q : 1 ≤ a ∧ a ≤ 126
  · by_cases y : r.1 0 52 = 40
    · refine Or.inr ⟨2, ⟨0, uS r 0 0 2, ?_, ?_, rfl, ⟨k, ln, hd, N, dr, a1.f0 (Or.inl rfl) 2, by omega, a3.f0 (Or.inl rfl) 2⟩⟩, Or.inr rfl⟩
      · unfold e_Co_draft
        exact iteF (by omega) (iteT (by omega) (bindS hr (iteF (by omega) rfl)))
      · unfold f_Rf_draft
        refine bindS (in_1 q) ?_
        have ec : (if ¬ ((1 : Int) = 0) then (if ¬ (r.1 0 52) = 40 then 0 else 2) else 1 : Int) = 2 := by
          rw [if_pos (by decide), if_neg (fun w => w y)]
        rw [ec]
        exact iteF (by decide) rfl
    · obtain ⟨x, p, g1, g2, g3⟩ := Bo_add (o := 3) d1 (by decide) a
      rw [List.take_of_length_le (by simp; omega)] at g2
      have ew : w32 (r.1 0 52 + 1) = r.1 0 52 + 1 := w32i (by omega) (by omega)
      have o : ∀ i, i ≠ 3 → i ≠ 4 → (zpb (zsh 3) 2 C p).1 i = C.1 i ∧ (zpb (zsh 3) 2 C p).2 i = C.2 i := fun i y1 y2 => ⟨funext fun j => g3.1 i j (by omega), g3.2 i (by omega)⟩
      have hco : zCo (zpb (zsh 3) 2 C p) (uS (uE (uS r 0 0 0) 11 (r.1 0 52) a) 0 52 (r.1 0 52 + 1)) k [] ln hd [] N := by
        refine (a1.rr (fun i j y => ?_) (fun i y => ?_)).cg (fun i y => o i (by omega) (by omega))
        · simp only [uS1, uA1]
          grind
        · exact uA_a (by omega)
      refine Or.inl ⟨r.1 0 52 + 1, zpb (zsh 3) 2 C p, uS (uE (uS r 0 0 0) 11 (r.1 0 52) a) 0 52 (r.1 0 52 + 1), ?_, ?_, rfl, ⟨k, ln, hd, N, dr ++ [a], hco, by simp; omega, ⟨⟨g2, d2.add (b := a), d3.app (zbs.one (by omega))⟩, ?_⟩⟩⟩
      · unfold f_Co_draft
        refine iteF (by omega) (iteT (by omega) (bindS hr (iteT (by omega) (bindS g1 (bindS (By_count g2) ?_)))))
        rw [d21]
        simp
      · unfold f_Rf_draft
        refine bindS (in_1 q) ?_
        have ec : (if ¬ ((1 : Int) = 0) then (if ¬ (r.1 0 52) = 40 then 0 else 2) else 1 : Int) = 0 := by
          rw [if_pos (by decide), if_pos y]
        rw [ec, ew]
        exact iteT (by decide) (iteT (by omega) rfl)
      · rw [(o 74 (by decide) (by decide)).1, (o 75 (by decide) (by decide)).1, (o 71 (by decide) (by decide)).1, (o 72 (by decide) (by decide)).2, zsb_ext (C := C) (b := 71) (fun i => o _ (by omega) (by omega))]
        exact d4
  · refine Or.inr ⟨1, ⟨0, uS r 0 0 1, ?_, ?_, rfl, ⟨k, ln, hd, N, dr, a1.f0 (Or.inl rfl) 1, by omega, a3.f0 (Or.inl rfl) 1⟩⟩, Or.inl rfl⟩
    · unfold e_Co_draft
      by_cases z : a < 1
      · exact iteT z rfl
      · exact iteF z (iteF (by omega) rfl)
    · unfold f_Rf_draft
      refine bindS (in_0 q) ?_
      have ec : (if ¬ ((0 : Int) = 0) then (if ¬ (r.1 0 52) = 40 then 0 else 2) else 1 : Int) = 1 := if_neg (fun w => w rfl)
      rw [ec]
      exact iteF (by decide) rfl
/-! reading the screen -/
theorem S_has {s r : zSt} (h : zRel s r) (a b : Int) : f_Sc_has a b s = some (if (0 ≤ a ∧ a < r.1 0 1) ∧ (0 ≤ b ∧ b < r.1 0 2) then 1 else 0) := by
  have x := h.2.2.2.2.2.2.2.2.1
  unfold f_Sc_has
  rw [x.2.1, x.2.2.1]
  congr 1
  grind
theorem c_isCell {s r : zSt} (h : zRel s r) (a b : Int) : f_Rf_isCell a b r = some (if (0 ≤ a ∧ a < r.1 0 1) ∧ (0 ≤ b ∧ b < r.1 0 2) then 1 else 0) := by
  have z := h.size
  unfold f_Rf_isCell
  rw [w32i (x := r.1 0 1 - 1) (by omega) (by omega), w32i (x := r.1 0 2 - 1) (by omega) (by omega)]
  by_cases y1 : 0 ≤ a ∧ a ≤ r.1 0 1 - 1
  · refine bindS (in_1 y1) (iteF (by decide) ?_)
    by_cases y2 : 0 ≤ b ∧ b ≤ r.1 0 2 - 1
    · refine bindS (in_1 y2) ?_
      rw [if_neg (by decide), if_pos (by omega)]
    · refine bindS (in_0 y2) ?_
      rw [if_pos rfl, if_neg (by omega)]
  · refine bindS (in_0 y1) (iteT rfl ?_)
    rw [if_neg (by omega)]
theorem S_cell {s r : zSt} (h : zRel s r) {a b : Int} (ha : 0 ≤ a ∧ a < r.1 0 1) (hb : 0 ≤ b ∧ b < r.1 0 2) : (s.1 0 8 = 0 → f_Pi_at a b (zsb (zsh 2) s) = some (r.2 1 (zRo r a + b))) ∧ (¬ s.1 0 8 = 0 → f_Pi_at a b (zsb (zsh 22) s) = some (r.2 1 (zRo r a + b))) := by
  have z := h.size
  have x := h.2.2.2.2.2.2.2.2.1.1
  have z8 := h.2.1.1.2.2.2
  have p0 := h.2.2.1.1
  have p1 := h.2.2.2.1.1
  constructor
  · intro y
    rw [c_Pi_at h.pw0]
    unfold zat zRo
    rw [if_pos (by omega), show (zsb (zsh 2) s).2 1 = s.2 3 from rfl, p0 _ (by omega) (by omega), show (0 : Int) + (a * 24 + b) = 288 * r.1 0 8 + a * 24 + b by omega]
  · intro y
    rw [c_Pi_at h.pw1]
    unfold zat zRo
    rw [if_pos (by omega), show (zsb (zsh 22) s).2 1 = s.2 23 from rfl, p1 _ (by omega) (by omega), show (288 : Int) + (a * 24 + b) = 288 * r.1 0 8 + a * 24 + b by omega]
def zMrd (B : Nat) (C : zSt) (f : Option Int) (g : Option (Int × zSt)) : Prop := ∃ v r', f = some v ∧ g = some (v, r') ∧ r'.1 0 0 = 0 ∧ zWh B C r'
def e_Co_cell (a1 a2 : Int) (s : zSt) : Option Int := (f_Sc_has a1 a2 (zsb (zsh 14) s)).bind fun x1 => if ¬ x1 = 0 then none else some 3
/-- the reference's cell -/
theorem c_Rf_cell {s r : zSt} (h : zRel s r) (a b : Int) : f_Rf_cell a b r = some (if (0 ≤ a ∧ a < r.1 0 1) ∧ (0 ≤ b ∧ b < r.1 0 2) then (r.2 1 (zRo r a + b), uS r 0 0 0) else (0, uS r 0 0 1)) := by
  have z := h.size
  have z8 := h.2.1.1.2.2.2
  have hl : r.1 1 0 = 576 := h.2.1.1.1.1
  unfold f_Rf_cell
  refine bindS (c_isCell h a b) ?_
  by_cases y : (0 ≤ a ∧ a < r.1 0 1) ∧ (0 ≤ b ∧ b < r.1 0 2)
  · rw [if_pos y, if_pos y, one_1]
    have e : f_Rf_at a b (uS r 0 0 0) = some (zRo r a + b) := c_Rf_at (s := uS r 0 0 0) h.2.1.1 (by omega) (by omega)
    refine iteT (by decide) (bindS e (iteT ?_ rfl))
    unfold zRo
    omega
  · rw [if_neg y, if_neg y, one_0]
    exact iteF (by decide) rfl
theorem M_cell {B : Nat} {C r : zSt} (h : zWh B C r) (a b : Int) : zMrd (B + 100) C (f_Co_cell a b C) (f_Rf_cell a b r) ∨ zMth (B + 100) C (e_Co_cell a b C) (f_Rf_cell a b r) 3 1 := by
  have h0 := h
  obtain ⟨k, ln, hd, N, dr, a1, a2, a3⟩ := h
  have hR := a1.rel.1
  have e1 := S_has hR a b
  have e2 := c_Rf_cell hR a b
  by_cases y : (0 ≤ a ∧ a < r.1 0 1) ∧ (0 ≤ b ∧ b < r.1 0 2)
  · rw [if_pos y] at e1 e2
    refine Or.inl ⟨r.2 1 (zRo r a + b), uS r 0 0 0, ?_, e2, rfl, (h0.f0 (Or.inl rfl) 0).mono (by omega)⟩
    obtain ⟨f1, f2⟩ := S_cell hR y.1 y.2
    unfold f_Co_cell
    refine bindS e1 (iteT (by decide) ?_)
    by_cases z : C.1 14 8 = 0
    · exact iteT z (bindS (f1 z) rfl)
    · exact iteF z (bindS (f2 z) rfl)
  · rw [if_neg y] at e1 e2
    refine Or.inr ⟨0, uS r 0 0 1, ?_, e2, rfl, (h0.f0 (Or.inl rfl) 1).mono (by omega)⟩
    unfold e_Co_cell
    exact bindS e1 (iteF (by decide) rfl)
