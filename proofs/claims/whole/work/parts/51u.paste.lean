/-! ===== public methods: paste ===== -/
def znE : List Int → List Int
  | [] => []
  | b :: l => if b = 27 then znE l else b :: znE l
theorem znE_len : ∀ l : List Int, (znE l).length ≤ l.length
  | [] => Nat.le_refl _
  | b :: l => by
    have := znE_len l
    unfold znE
    split
    · simp; omega
    · simp; omega
section ZPA
variable {k : Nat} {ln hd N : List Int}
theorem c_addBracket {C r : zSt} {ty l : List Int} (h : zCo C r k ty ln hd l N) (hn : ty.length + 6 ≤ 64) {b : Int} (hb : 0 ≤ b ∧ b ≤ 127) : ∃ D, f_Co_addBracket b C = some (0, D) ∧ zCo D r k (ty ++ [27, 91, 50, 48, b, 126]) ln hd l N ∧ zAo 1 C D := by
  obtain ⟨x1, p1, b1, h2, g1⟩ := Co_tb h (by omega) (b := 27) (by decide)
  obtain ⟨x2, p2, b2, h3, g2⟩ := Co_tb h2 (by simp; omega) (b := 91) (by decide)
  obtain ⟨x3, p3, b3, h4, g3⟩ := Co_tb h3 (by simp; omega) (b := 50) (by decide)
  obtain ⟨x4, p4, b4, h5, g4⟩ := Co_tb h4 (by simp; omega) (b := 48) (by decide)
  obtain ⟨x5, p5, b5, h6, g5⟩ := Co_tb h5 (by simp; omega) (b := b) hb
  obtain ⟨x6, p6, b6, h7, g6⟩ := Co_tb h6 (by simp; omega) (b := 126) (by decide)
  simp only [List.append_assoc, List.cons_append, List.nil_append] at h7
  refine ⟨_, ?_, h7, ((((g1.trans g2).trans g3).trans g4).trans g5).trans g6⟩
  unfold f_Co_addBracket
  exact bindS b1 (bindS b2 (bindS b3 (bindS b4 (bindS b5 (bindS b6 rfl)))))
theorem c_typesAround {b : Int} {r r' : zSt} (h : zTys [27, 91, 50, 48, b, 126] r = some r') : ∃ v, f_Rf_typesAround b r = some (v, r') := by
  obtain ⟨v1, s1, u1, h⟩ := zTys_cons h
  obtain ⟨v2, s2, u2, h⟩ := zTys_cons h
  obtain ⟨v3, s3, u3, h⟩ := zTys_cons h
  obtain ⟨v4, s4, u4, h⟩ := zTys_cons h
  obtain ⟨v5, s5, u5, h⟩ := zTys_cons h
  obtain ⟨v6, u6⟩ := zTys_one h
  refine ⟨0, ?_⟩
  unfold f_Rf_typesAround
  exact bindS u1 (bindS u2 (bindS u3 (bindS u4 (bindS u5 (bindS u6 rfl)))))
theorem c_pasteLoop (v c2 : Int) {r : zSt} : ∀ (rest : List Int) (i : Nat) (C : zSt) (ty : List Int) (f : Nat), zCo C r k ty ln hd [] N → zBy (zsb (zsh 3) C) 40 rest → zbs rest → ty.length + rest.length ≤ 64 → (i : Int) + rest.length = c2 → i + rest.length < 1000 → rest.length < f →
    ∃ D, zloop (f_Co_paste_l31 v c2) f ((i : Int), C) = some D ∧ zCo D r k (ty ++ znE rest) ln hd [] N ∧ zBy (zsb (zsh 3) D) 40 [] ∧ ∀ j, (j = 0 ∨ 5 ≤ j) → D.1 j = C.1 j ∧ D.2 j = C.2 j
  | [], i, C, ty, f, h, hd, hb, hn, hc, hi, hf => by
    obtain ⟨f, rfl⟩ : ∃ j, f = j + 1 := ⟨f - 1, by omega⟩
    refine ⟨C, ?_, by unfold znE; rw [List.append_nil]; exact h, hd, fun _ _ => ⟨rfl, rfl⟩⟩
    unfold zloop f_Co_paste_l31
    rw [if_pos (show c2 ≤ (i : Int) by simp at hc; omega)]
    rfl
  | b :: rest, i, C, ty, f, h, hd, hb, hn, hc, hi, hf => by
    obtain ⟨f, rfl⟩ : ∃ j, f = j + 1 := ⟨f - 1, by omega⟩
    simp only [List.length_cons] at hn hc hi hf
    have hb0 := hb b List.mem_cons_self
    have hb1 : zbs rest := fun c hc => hb c (List.mem_cons_of_mem _ hc)
    obtain ⟨p, g1, g2, g3⟩ := Bo_removeFirst (o := 3) hd (by decide)
    have ew : w32 ((i : Int) + 1) = ((i + 1 : Nat) : Int) := by rw [w32i (by omega) (by omega)]; omega
    have o : ∀ j, j ≠ 3 → j ≠ 4 → (zpb (zsh 3) 2 C p).1 j = C.1 j ∧ (zpb (zsh 3) 2 C p).2 j = C.2 j := fun j y1 y2 => ⟨funext fun m => g3.1 j m (by omega), g3.2 j (by omega)⟩
    have h1 : zCo (zpb (zsh 3) 2 C p) r k ty ln _ [] N := h.cg (fun j y => o j (by omega) (by omega))
    by_cases q : b = 27
    · obtain ⟨D, e1, e2, e3, e4⟩ := c_pasteLoop v c2 rest (i + 1) _ ty f h1 g2 hb1 (by omega) (by omega) (by omega) (by omega)
      refine ⟨D, ?_, by unfold znE; rw [if_pos q]; exact e2, e3, fun j y => ⟨(e4 j y).1.trans (o j (by omega) (by omega)).1, (e4 j y).2.trans (o j (by omega) (by omega)).2⟩⟩
      have es : f_Co_paste_l31 v c2 ((i : Int), C) = some (.inl (((i + 1 : Nat) : Int), zpb (zsh 3) 2 C p)) := by
        unfold f_Co_paste_l31
        refine iteF (by show ¬ c2 ≤ (i : Int); omega) (bindS g1 (iteT q ?_))
        show some (Sum.inl (w32 ((i : Int) + 1), _)) = _
        rw [ew]
      unfold zloop
      rw [es]
      exact e1
    · obtain ⟨x, p2, b1, h2, k3⟩ := Co_tb h1 (by omega) hb0
      have g2' : zBy (zsb (zsh 3) (zpb (zsh 1) 2 (zpb (zsh 3) 2 C p) p2)) 40 rest := zBy_ao k3 (by decide) (by decide) g2
      have o2 : ∀ j, j ≠ 1 → j ≠ 2 → (zpb (zsh 1) 2 (zpb (zsh 3) 2 C p) p2).1 j = (zpb (zsh 3) 2 C p).1 j ∧ (zpb (zsh 1) 2 (zpb (zsh 3) 2 C p) p2).2 j = (zpb (zsh 3) 2 C p).2 j := fun j y1 y2 => ⟨funext fun m => k3.1 j m (by omega), k3.2 j (by omega)⟩
      obtain ⟨D, e1, e2, e3, e4⟩ := c_pasteLoop v c2 rest (i + 1) _ (ty ++ [b]) f h2 g2' hb1 (by simp; omega) (by omega) (by omega) (by omega)
      refine ⟨D, ?_, by unfold znE; rw [if_neg q]; rw [List.append_assoc] at e2; exact e2, e3, fun j y => ⟨(e4 j y).1.trans ((o2 j (by omega) (by omega)).1.trans (o j (by omega) (by omega)).1), (e4 j y).2.trans ((o2 j (by omega) (by omega)).2.trans (o j (by omega) (by omega)).2)⟩⟩
      have es : f_Co_paste_l31 v c2 ((i : Int), C) = some (.inl (((i + 1 : Nat) : Int), zpb (zsh 1) 2 (zpb (zsh 3) 2 C p) p2)) := by
        unfold f_Co_paste_l31
        refine iteF (by show ¬ c2 ≤ (i : Int); omega) (bindS g1 (iteF q (bindS b1 ?_)))
        show some (Sum.inl (w32 ((i : Int) + 1), _)) = _
        rw [ew]
      unfold zloop
      rw [es]
      exact e1
theorem c_Rf_pasteLoop (v : Int) {dr : List Int} (hl : dr.length ≤ 40) {r' : zSt} : ∀ (rest : List Int) (i : Nat) (r : zSt) (f : Nat), zLs (r.2 11) (r.1 0 52) dr → r.1 11 0 = 40 → dr.drop i = rest → i ≤ dr.length → zTyF (znE rest) r r' → rest.length < f → zloop (f_Rf_paste_l27 v) f ((i : Int), r) = some r'
  | [], i, r, f, h, h11, e, hi, hF, hf => by
    obtain ⟨f, rfl⟩ : ∃ j, f = j + 1 := ⟨f - 1, by omega⟩
    obtain rfl : r' = r := hF
    have e' := congrArg List.length e
    rw [List.length_drop, List.length_nil] at e'
    unfold zloop f_Rf_paste_l27
    rw [if_pos (show r'.1 0 52 ≤ (i : Int) by rw [h.1]; omega)]
    rfl
  | b :: rest, i, r, f, h, h11, e, hi, hF, hf => by
    obtain ⟨f, rfl⟩ : ∃ j, f = j + 1 := ⟨f - 1, by omega⟩
    have e' := congrArg List.length e
    rw [List.length_drop, List.length_cons] at e'
    simp only [List.length_cons] at hf
    have hlt : i < dr.length := by omega
    have e1 := List.drop_eq_getElem_cons hlt
    rw [e] at e1
    injection e1 with ex eL
    have hx : r.2 11 (i : Int) = b := by
      rw [h.2 i hlt, ex, List.getD_eq_getElem?_getD, List.getElem?_eq_getElem hlt, Option.getD_some]
    have ew : w32 ((i : Int) + 1) = ((i + 1 : Nat) : Int) := by rw [w32i (by omega) (by omega)]; omega
    have c1 : ¬ r.1 0 52 ≤ (i : Int) := by rw [h.1]; omega
    by_cases q : b = 27
    · unfold znE at hF
      rw [if_pos q] at hF
      have := c_Rf_pasteLoop v hl rest (i + 1) r f h h11 eL.symm (by omega) hF (by omega)
      have es : f_Rf_paste_l27 v ((i : Int), r) = some (.inl (((i + 1 : Nat) : Int), r)) := by
        unfold f_Rf_paste_l27
        refine iteF c1 (iteT (by show 0 ≤ (i : Int) ∧ (i : Int) < r.1 11 0; omega) (iteT (by show r.2 11 (i : Int) = 27; rw [hx]; exact q) ?_))
        show some (Sum.inl (w32 ((i : Int) + 1), r)) = _
        rw [ew]
      unfold zloop
      rw [es]
      exact this
    · unfold znE at hF
      rw [if_neg q] at hF
      obtain ⟨v1, r1, a1, a2, a3, a4⟩ := hF
      have := c_Rf_pasteLoop v hl rest (i + 1) r1 f (by rw [a2.1 52 (by omega), a2.2.1 11 (by omega)]; exact h) a3 eL.symm (by omega) a4 (by omega)
      have es : f_Rf_paste_l27 v ((i : Int), r) = some (.inl (((i + 1 : Nat) : Int), r1)) := by
        unfold f_Rf_paste_l27
        refine iteF c1 (iteT (by show 0 ≤ (i : Int) ∧ (i : Int) < r.1 11 0; omega) (iteF (by show ¬ r.2 11 (i : Int) = 27; rw [hx]; exact q) (iteT (by show 0 ≤ (i : Int) ∧ (i : Int) < r.1 11 0; omega) ?_)))
        show ((f_Rf_types (r.2 11 (i : Int)) r).bind fun x5 => some (Sum.inl (w32 ((i : Int) + 1), x5.2))) = _
        rw [hx, ew]
        exact bindS a1 rfl
      unfold zloop
      rw [es]
      exact this
end ZPA
theorem M_paste {B : Nat} {C r : zSt} (h : zWh B C r) (hB : B + 100 < 65536) : zMok (B + 100) C (f_Co_paste C) (f_Rf_paste r) := by
  have h0 := h
  obtain ⟨k, ln, hd, N, dr, a1, a2, a3⟩ := h
  have hR := a1.rel.1
  have xm : C.1 27 4 = r.1 0 21 := hR.2.2.2.2.2.2.1.2.2.2.2.1
  have h11 : r.1 11 0 = 40 := a1.2.2.1.2.1.rl.2.2.2.2.2.2.2.2.2.2.1
  have a3' := a3
  obtain ⟨⟨d1, d2, d3⟩, d4⟩ := a3
  have hdl : dr.length ≤ 40 := d1.2.2.2.1
  have b1 := (a1.f0 (Or.inl rfl) (0 : Int)).f0 (j := 53) (Or.inr (by decide)) (0 : Int)
  obtain ⟨r0, hr0⟩ : ∃ r0, r0 = uS (uS r 0 0 0) 0 53 0 := ⟨_, rfl⟩
  rw [← hr0] at b1
  have e52 : r0.1 0 52 = r.1 0 52 := by rw [hr0]; rfl
  have e00 : r0.1 0 0 = 0 := by rw [hr0]; rfl
  have e53 : r0.1 0 53 = 0 := by rw [hr0]; rfl
  have e12 : r0.1 0 1 = r.1 0 1 ∧ r0.1 0 2 = r.1 0 2 := by rw [hr0]; exact ⟨rfl, rfl⟩
  have ea : r0.2 = r.2 := by rw [hr0]; rfl
  have e11 : r0.1 11 0 = 40 := by rw [hr0]; exact h11
  -- what is left, once the draft has gone
  have fin : ∀ (D : zSt) (ty : List Int), zCo D r0 k ty ln hd [] N → zBy (zsb (zsh 3) D) 40 [] → (∀ j, (j = 0 ∨ 5 ≤ j) → D.1 j = C.1 j ∧ D.2 j = C.2 j) → ty.length ≤ 12 + dr.length →
      ∃ C' r', f_Co_paste_j78 D = some ((ty.length : Int), C') ∧ D.1 42 0 ≤ C'.1 42 0 ∧ zTyF ty r0 r' ∧ r'.1 0 53 = ty.length ∧ r'.1 0 0 = 0 ∧ zWh (B + 100) C' (uS r' 0 52 0) := by
    intro D ty g1 g2 g3 g4
    obtain ⟨C', r', ln', hd', N', t1, t2, t3, t4, t5, t6⟩ := Co_settle (B := B + 100) hB g1 (by simp; omega)
    have n53 := t6.2.2 (by omega) (by rw [e53]; omega)
    rw [e53, Int.zero_add] at n53
    refine ⟨C', r', ?_, t5.2, t2, n53, (t6.1 0 (by omega)).trans e00, k, ln', hd', N', [], t3.rr (fun i j y => ?_) (fun _ _ => rfl), by simp; omega, ⟨⟨?_, ⟨rfl, fun i hi => absurd hi (Nat.not_lt_zero i)⟩, zbs.nil⟩, ?_⟩⟩
    · unfold f_Co_paste_j78
      exact bindS (By_count g1.1.1) (bindS t1 (zmn_i t5.2 rfl (Int.le_refl _)))
    · rw [uS1]
      by_cases z : i = 0
      · rw [if_pos z, if_neg (by omega), z]
      · rw [if_neg z]
    · refine zBy_cg g2 ?_ ?_ ?_ ?_
      · exact congrFun (t5.1 3 (by omega)).1 1
      · exact congrFun (t5.1 3 (by omega)).1 2
      · exact congrFun (t5.1 4 (by omega)).1 0
      · exact (t5.1 4 (by omega)).2
    · have w : ∀ j, 70 ≤ j → C'.1 j = C.1 j ∧ C'.2 j = C.2 j := fun j y => ⟨(t5.1 j (by omega)).1.trans (g3 j (by omega)).1, (t5.1 j (by omega)).2.trans (g3 j (by omega)).2⟩
      have f1 : (uS r' 0 52 0).1 0 1 = r.1 0 1 := (t6.1 1 (by omega)).trans e12.1
      have f2 : (uS r' 0 52 0).1 0 2 = r.1 0 2 := (t6.1 2 (by omega)).trans e12.2
      have f3 : (uS r' 0 52 0).2 12 = r.2 12 := (t6.2.1 12 (by omega)).trans (by rw [ea])
      rw [(w 74 (by omega)).1, (w 75 (by omega)).1, (w 71 (by omega)).1, (w 72 (by omega)).2, zsb_ext (C := C) (b := 71) (fun i => w _ (by omega)), f1, f2, f3]
      exact d4
  have d2' : zLs (r0.2 11) (r0.1 0 52) dr := by rw [ea, e52]; exact d2
  by_cases z : r.1 0 21 = 0
  · obtain ⟨D, p1, p2, p3, p4⟩ := c_pasteLoop (r := r0) (k := k) (ln := ln) (hd := hd) (N := N) (r.1 0 21) (dr.length : Int) dr 0 C [] zfu b1 d1 d3 (by simp; omega) (by omega) (by omega) (by unfold zfu; omega)
    rw [List.nil_append] at p2
    have hl := znE_len dr
    obtain ⟨C', r', q1, q2, q3, q4, q5, q6⟩ := fin D _ p2 p3 p4 (by omega)
    refine ⟨(znE dr).length, C', uS r' 0 52 0, ?_, ?_, q5, q6⟩
    · unfold f_Co_paste f_Co_paste_j21
      rw [xm]
      refine iteT z (bindS (By_count d1) (bindS p1 ?_))
      have e42 : D.1 42 0 = C.1 42 0 := by rw [(p4 42 (by omega)).1]
      exact zmn_i (by rw [e42]; exact Int.le_refl _) (iteT z q1) q2
    · unfold f_Rf_paste f_Rf_paste_j25
      rw [← hr0]
      refine iteT z (bindS (c_Rf_pasteLoop _ hdl dr 0 r0 zfu d2' e11 rfl (Nat.zero_le _) q3 (by unfold zfu; omega)) (iteT z ?_))
      rw [q4]
  · obtain ⟨C1, i1, i2, i3⟩ := c_addBracket b1 (by simp) (b := 48) (by decide)
    have o : ∀ j, j ≠ 1 → j ≠ 2 → C1.1 j = C.1 j ∧ C1.2 j = C.2 j := fun j y1 y2 => ⟨funext fun m => i3.1 j m (by omega), i3.2 j (by omega)⟩
    have d1' : zBy (zsb (zsh 3) C1) 40 dr := zBy_ao i3 (by decide) (by decide) d1
    obtain ⟨D, p1, p2, p3, p4⟩ := c_pasteLoop (r := r0) (k := k) (ln := ln) (hd := hd) (N := N) (r.1 0 21) (dr.length : Int) dr 0 C1 _ zfu i2 d1' d3 (by simp; omega) (by omega) (by omega) (by unfold zfu; omega)
    have hl := znE_len dr
    obtain ⟨E, j1, j2, j3⟩ := c_addBracket p2 (by simp; omega) (b := 49) (by decide)
    have o2 : ∀ j, j ≠ 1 → j ≠ 2 → E.1 j = D.1 j ∧ E.2 j = D.2 j := fun j y1 y2 => ⟨funext fun m => j3.1 j m (by omega), j3.2 j (by omega)⟩
    obtain ⟨C', r', q1, q2, q3, q4, q5, q6⟩ := fin E _ j2 (zBy_ao j3 (by decide) (by decide) p3) (fun j y => ⟨(o2 j (by omega) (by omega)).1.trans ((p4 j y).1.trans (o j (by omega) (by omega)).1), (o2 j (by omega) (by omega)).2.trans ((p4 j y).2.trans (o j (by omega) (by omega)).2)⟩) (by simp; omega)
    have e42 : D.1 42 0 = C1.1 42 0 := by rw [(p4 42 (by omega)).1]
    have e42' : C1.1 42 0 = C.1 42 0 := by rw [(o 42 (by omega) (by omega)).1]
    have e42'' : E.1 42 0 = D.1 42 0 := by rw [(o2 42 (by omega) (by omega)).1]
    refine ⟨(([] ++ [27, 91, 50, 48, 48, 126] ++ znE dr ++ [27, 91, 50, 48, 49, 126] : List Int).length : Int), C', uS r' 0 52 0, ?_, ?_, q5, q6⟩
    · unfold f_Co_paste f_Co_paste_j21
      rw [xm]
      refine iteF z (bindS i1 (zmn_i (by rw [e42']; exact Int.le_refl _) (bindS (By_count d1') (bindS p1 (zmn_i (by rw [e42]; exact Int.le_refl _) (iteF z (bindS j1 (zmn_i (by rw [e42'']; exact Int.le_refl _) q1 q2))) ?_))) ?_))
      · show D.1 42 0 ≤ C'.1 42 0
        omega
      · show C1.1 42 0 ≤ C'.1 42 0
        omega
    · obtain ⟨s2, u2, u3⟩ := q3.app
      obtain ⟨s1, u1, u2⟩ := u2.app
      obtain ⟨v1, w1⟩ := c_typesAround u1.tys
      obtain ⟨v3, w3⟩ := c_typesAround u3.tys
      obtain ⟨g1, g2, g3⟩ := u1.fr e11
      unfold f_Rf_paste f_Rf_paste_j25
      rw [← hr0]
      refine iteF z (bindS w1 (bindS (c_Rf_pasteLoop _ hdl dr 0 s1 zfu (by rw [g2, g3]; exact d2') g1 rfl (Nat.zero_le _) u2 (by unfold zfu; omega)) (iteF z (bindS w3 ?_))))
      rw [q4]
