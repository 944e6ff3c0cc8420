/-! ===== the whole object beside the reference ===== -/
/-- the draft, and the far picture -/
def zDS (C r : zSt) (dr : List Int) : Prop := (zBy (zsb (zsh 3) C) 40 dr ∧ zLs (r.2 11) (r.1 0 52) dr ∧ zbs dr) ∧ (C.1 74 0 = 400 ∧ C.1 75 0 = 24 ∧ zPW (zsb (zsh 71) C) ∧ (C.1 71 2 = r.1 0 1 ∧ C.1 71 3 = r.1 0 2) ∧ ∀ i, 0 ≤ i → i < 288 → C.2 72 i = r.2 12 i)
theorem zDS.cg {C D r r' : zSt} {dr : List Int} (h : zDS C r dr) (k : ∀ i, (i = 3 ∨ i = 4 ∨ 70 ≤ i) → D.1 i = C.1 i ∧ D.2 i = C.2 i) (k1 : r'.1 0 52 = r.1 0 52 ∧ r'.1 0 1 = r.1 0 1 ∧ r'.1 0 2 = r.1 0 2) (k2 : r'.2 11 = r.2 11 ∧ r'.2 12 = r.2 12) : zDS D r' dr := by
  obtain ⟨⟨h1, h2, h3⟩, h4, h5, h6, h7, h8⟩ := h
  refine ⟨⟨zBy_cg h1 ?_ ?_ ?_ ?_, by rw [k2.1, k1.1]; exact h2, h3⟩, ?_, ?_, ?_, ?_, ?_⟩
  · exact congrFun (k 3 (by decide)).1 1
  · exact congrFun (k 3 (by decide)).1 2
  · exact congrFun (k 4 (by decide)).1 0
  · exact (k 4 (by decide)).2
  · rw [(k 74 (by decide)).1]; exact h4
  · rw [(k 75 (by decide)).1]; exact h5
  · rw [zsb_ext (C := C) (D := D) (b := 71) (fun i => k _ (by omega))]; exact h6
  · rw [(k 71 (by decide)).1, k1.2.1, k1.2.2]; exact h7
  · rw [(k 72 (by decide)).2, k2.2]; exact h8
def zWh (B : Nat) (C r : zSt) : Prop := ∃ k ln hd N dr, zCo C r k [] ln hd [] N ∧ N.length + hd.length + 6 * ln.length + 8 * dr.length ≤ B ∧ zDS C r dr
theorem zWh.mono {B B' : Nat} {C r : zSt} (h : zWh B C r) (hB : B ≤ B') : zWh B' C r := by
  obtain ⟨k, ln, hd, N, dr, a, b, c⟩ := h
  exact ⟨k, ln, hd, N, dr, a, by omega, c⟩
theorem zCo.f0 {C r : zSt} {k : Nat} {ty ln hd l N : List Int} (h : zCo C r k ty ln hd l N) {j : Nat} (hj : j = 0 ∨ 51 ≤ j) (x : Int) : zCo C (uS r 0 j x) k ty ln hd l N :=
  ⟨h.1, h.2.1, J_53 (zXX.ok _ _ _) h.2.2.1 hj x, by rw [uS1, if_pos rfl, if_neg (by omega), uS1, if_pos rfl, if_neg (by omega)]; exact h.2.2.2⟩
theorem zDS.f0 {C r : zSt} {dr : List Int} (h : zDS C r dr) {j : Nat} (hj : j = 0 ∨ 53 ≤ j) (x : Int) : zDS C (uS r 0 j x) dr := by
  refine h.cg (fun _ _ => ⟨rfl, rfl⟩) ⟨?_, ?_, ?_⟩ ⟨rfl, rfl⟩ <;> rw [uS1, if_pos rfl, if_neg (by omega)]
theorem zWh.f0 {B : Nat} {C r : zSt} (h : zWh B C r) {j : Nat} (hj : j = 0 ∨ 53 ≤ j) (x : Int) : zWh B C (uS r 0 j x) := by
  obtain ⟨k, ln, hd, N, dr, a, b, c⟩ := h
  exact ⟨k, ln, hd, N, dr, a.f0 (by omega) x, b, c.f0 hj x⟩
section ZWO
variable {C r : zSt} {k : Nat} {ty ln hd l N : List Int}
theorem zCo.li_ {P : Prop} (h : zCo C r k ty ln hd l N) (f : zLR (zsb (zsh 5) C) r ln hd → P) : P := f h.2.2.1.1
theorem zCo.held (h : zCo C r k ty ln hd l N) : f_By_count (zsb (zsh 8) C) = some (hd.length : Int) ∧ r.1 0 44 = hd.length ∧ hd.length ≤ 100 := by
  obtain ⟨-, ⟨b1, b2⟩, -⟩ := h.2.2.1.1
  have b1' : zBy (zsb (zsh 8) C) 100 hd := b1
  exact ⟨By_count b1', b2.1, b1.2.2.2.1⟩
theorem zCo.lined (h : zCo C r k ty ln hd l N) : f_By_count (zsb (zsh 6) C) = some (ln.length : Int) ∧ r.1 0 46 = ln.length ∧ ln.length ≤ 30 := by
  obtain ⟨⟨b1, b2⟩, -⟩ := h.2.2.1.1
  have b1' : zBy (zsb (zsh 6) C) 30 ln := b1
  exact ⟨By_count b1', b2.1, b1.2.2.2.1⟩
theorem zCo.nums (h : zCo C r k ty ln hd l N) : (C.1 5 4 = r.1 0 40 ∧ C.1 5 5 = r.1 0 41 ∧ C.1 5 6 = r.1 0 42 ∧ C.1 5 7 = r.1 0 49 ∧ C.1 5 8 = r.1 0 50) ∧ z01 (r.1 0 40) ∧ z01 (r.1 0 41) ∧ z01 (r.1 0 42) := ⟨h.2.2.1.1.2.2.1, h.2.2.1.1.2.2.2.1⟩
/-- nothing is still to arrive: screen, program, record -/
theorem zCo.rel (h : zCo C r k ty ln hd [] N) : zRel (zsb (zsh 14) C) r ∧ zBy (zsb (zsh 34) C) 8 [] ∧ zPy (N.drop k) (zsb (zsh 43) C) r ∧ (0 ≤ r.1 0 48 ∧ r.1 0 48 ≤ 200) ∧ ∃ pg, zBy (zsb (zsh 10) C) 200 pg ∧ zLs (r.2 10) (r.1 0 48) pg := by
  obtain ⟨-, -, ⟨hR, hO, pg, m, ⟨x1, x2⟩, x3, x4, x5, x6, x7⟩, -⟩ := h
  obtain rfl := x7 rfl
  rw [List.append_nil] at x2
  exact ⟨x1.1, x1.2.2, x2, hO.2, m, x3, x4⟩
end ZWO
theorem zWh.raw {B : Nat} {C r : zSt} (h : zWh B C r) (h0 : r.1 0 40 ≠ 0) : r.1 0 46 = 0 := by
  obtain ⟨k, ln, hd, N, dr, a, b, c⟩ := h
  rw [a.lined.2.1, a.2.2.2.2 h0]
  rfl
theorem Co_done {B : Nat} (hB : B < 65536) {C r : zSt} {k : Nat} {ty ln hd l N dr : List Int} (h : zCo C r k ty ln hd l N) (hb : N.length + l.length + hd.length + 6 * ln.length + 8 * ty.length + 8 * dr.length ≤ B) (hs : zDS C r dr) :
    ∃ C' r', f_Co_settle C = some (0, C') ∧ zTys ty r = some r' ∧ zWh B C' r' ∧ zTn ty.length r r' ∧ C.1 42 0 ≤ C'.1 42 0 := by
  obtain ⟨C', r', ln', hd', N', a1, a2, a3, a4, a5, a6⟩ := Co_settle (B := B - 8 * dr.length) (by omega) h (by omega)
  refine ⟨C', r', a1, a2.tys, ⟨k, ln', hd', N', dr, a3, by omega, hs.cg (fun i y => a5.1 i (by omega)) ⟨a6.1 52 (by omega), a6.1 1 (by omega), a6.1 2 (by omega)⟩ ⟨a6.2.1 11 (by omega), a6.2.1 12 (by omega)⟩⟩, a6, a5.2⟩
theorem zWh.held {B : Nat} {C r : zSt} (h : zWh B C r) : f_By_count (zsb (zsh 8) C) = some (r.1 0 44) := by
  obtain ⟨k, ln, hd, N, dr, a, b, c⟩ := h
  rw [a.held.2.1]
  exact a.held.1
theorem zWh.lined {B : Nat} {C r : zSt} (h : zWh B C r) : f_By_count (zsb (zsh 6) C) = some (r.1 0 46) := by
  obtain ⟨k, ln, hd, N, dr, a, b, c⟩ := h
  rw [a.lined.2.1]
  exact a.lined.1
/-! public methods: what is thrown (1 IllegalArgumentException, 2 IllegalStateException, 3 IndexOutOfBoundsException) -/
def e_Co_write (a1 : Int) (s : zSt) : Option Int :=
  if a1 < 0 then
    some 1
  else
    if a1 ≤ 127 then
      (f_Li_hasRoomFor 1 (zsb (zsh 5) s)).bind fun x3 =>
      if ¬ x3 = 0 then
        none
      else
        some 2
    else
      some 1
/-- a public method beside the reference's, where nothing is thrown; and where something is -/
def zMok (B : Nat) (C : zSt) (f g : Option (Int × zSt)) : Prop := ∃ v C' r', f = some (v, C') ∧ g = some (v, r') ∧ r'.1 0 0 = 0 ∧ zWh B C' r'
def zMth (B : Nat) (C : zSt) (e : Option Int) (g : Option (Int × zSt)) (j x : Int) : Prop := ∃ v r', e = some j ∧ g = some (v, r') ∧ r'.1 0 0 = x ∧ zWh B C r'
theorem c_hasRoom {C r : zSt} {k : Nat} {ty ln hd l N : List Int} (h : zCo C r k ty ln hd l N) {a : Int} (ha : 0 ≤ a ∧ a ≤ 100) : f_Li_hasRoomFor a (zsb (zsh 5) C) = some (if r.1 0 42 = 0 then 1 else if 100 < r.1 0 44 + a then 0 else 1) := by
  have e : (zsb (zsh 5) C).1 0 6 = r.1 0 42 := h.nums.1.2.2.1
  have b1 : zBy (zsb (zsh 3) (zsb (zsh 5) C)) 100 hd := h.2.2.1.1.2.1.1
  have c := h.held
  unfold f_Li_hasRoomFor
  rw [e]
  by_cases z : r.1 0 42 = 0
  · rw [if_pos z, if_pos z]
  · rw [if_neg z, if_neg z]
    refine (bindS (By_room b1 (by decide)) ?_)
    by_cases y : 100 < r.1 0 44 + a
    · rw [if_pos y, if_pos (by omega)]
    · rw [if_neg y, if_neg (by omega)]
theorem M_write {B : Nat} {C r : zSt} (h : zWh B C r) (hB : B + 100 < 65536) (a : Int) : zMok (B + 100) C (f_Co_write a C) (f_Rf_write a r) ∨ (∃ j, zMth (B + 100) C (e_Co_write a C) (f_Rf_write a r) j j ∧ (j = 1 ∨ j = 2)) := by
  obtain ⟨k, ln, hd, N, dr, a1, a2, a3⟩ := h
  have hr := c_hasRoom a1 (a := 1) (by decide)
  have hh := a1.held
  by_cases q : 0 ≤ a ∧ a ≤ 127
  · have ei : f_Rf_in a 0 127 = some 1 := by unfold f_Rf_in; rw [if_neg (by omega), if_neg (by omega)]
    by_cases y : r.1 0 42 ≠ 0 ∧ r.1 0 44 = 100
    · refine Or.inr ⟨2, ⟨0, uS r 0 0 2, ?_, ?_, rfl, ⟨k, ln, hd, N, dr, a1.f0 (Or.inl rfl) 2, by omega, a3.f0 (Or.inl rfl) 2⟩⟩, Or.inr rfl⟩
      · unfold e_Co_write
        refine iteF (by omega) (iteT q.2 (bindS hr (iteF ?_ rfl)))
        rw [if_neg y.1, if_pos (by omega)]
        simp
      · unfold f_Rf_write
        refine bindS ei ?_
        have ec : (if ¬ ((1 : Int) = 0) then (if (r.1 0 42) = 0 then 0 else (if ¬ (r.1 0 44) = 100 then 0 else 2)) else 1 : Int) = 2 := by
          rw [if_pos (by decide), if_neg y.1, if_neg (fun w => w y.2)]
        rw [ec]
        exact iteF (by decide) rfl
    · have hJ := (a1.f0 (Or.inl rfl) 0).2.2.1
      obtain ⟨q', r', hd', l', e1, e2, e3, e4, e5, e6, -⟩ := J_puts (zXX.ok _ _ _) hJ (by decide) q
      simp only [List.length_nil] at e4 e5
      have e0 : r'.1 0 0 = 0 := (e6.2.1 0 (by omega)).trans rfl
      obtain ⟨u1, u2⟩ := (a1.f0 (Or.inl rfl) 0).li e3 (by rw [e6.1 49 (by decide) (by decide), e6.2.1 40 (by omega)]; exact a1.2.2.2)
      obtain ⟨C', r2, b1, b2, b3, b4, b5⟩ := Co_done (B := B + 100) hB u1 (dr := dr) (by simp; omega) ((a3.f0 (Or.inl rfl) 0).cg (fun i y => u2.1 i (by omega)) ⟨e6.1 52 (by decide) (by decide), e6.2.1 1 (by omega), e6.2.1 2 (by omega)⟩ ⟨e6.2.2 11 (by decide) (by decide) (by decide), e6.2.2 12 (by decide) (by decide) (by decide)⟩)
      obtain rfl : r' = r2 := by injection b2
      refine Or.inl ⟨r'.1 0 44, C', r', ?_, ?_, e0, b3⟩
      · unfold f_Co_write
        refine iteF (by omega) (iteT q.2 (bindS hr (iteT ?_ (bindS e1 (bindS b1 (zmn_i b5 (bindS b3.held rfl) (Int.le_refl _)))))))
        by_cases z : r.1 0 42 = 0
        · rw [if_pos z]; decide
        · rw [if_neg z, if_neg (by omega)]; decide
      · unfold f_Rf_write
        refine bindS ei ?_
        have ec : (if ¬ ((1 : Int) = 0) then (if (r.1 0 42) = 0 then 0 else (if ¬ (r.1 0 44) = 100 then 0 else 2)) else 1 : Int) = 0 := by
          rw [if_pos (by decide)]
          by_cases z : r.1 0 42 = 0
          · rw [if_pos z]
          · rw [if_neg z, if_pos (by omega)]
        rw [ec]
        exact iteT (by decide) (bindS e2 rfl)
  · have ei : f_Rf_in a 0 127 = some 0 := by
      unfold f_Rf_in
      by_cases z : a < 0
      · rw [if_pos z]
      · rw [if_neg z, if_pos (by omega)]
    refine Or.inr ⟨1, ⟨0, uS r 0 0 1, ?_, ?_, rfl, ⟨k, ln, hd, N, dr, a1.f0 (Or.inl rfl) 1, by omega, a3.f0 (Or.inl rfl) 1⟩⟩, Or.inl rfl⟩
    · unfold e_Co_write
      by_cases z : a < 0
      · exact iteT z rfl
      · exact iteF z (iteF (by omega) rfl)
    · unfold f_Rf_write
      refine bindS ei ?_
      have ec : (if ¬ ((0 : Int) = 0) then (if (r.1 0 42) = 0 then 0 else (if ¬ (r.1 0 44) = 100 then 0 else 2)) else 1 : Int) = 1 := if_neg (fun w => w rfl)
      rw [ec]
      exact iteF (by decide) rfl
