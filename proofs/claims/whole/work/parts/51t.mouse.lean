/-! ===== public methods: mouse, paste ===== -/
theorem zTys_cons {b : Int} {l : List Int} {r r' : zSt} (h : zTys (b :: l) r = some r') : ∃ v r1, f_Rf_types b r = some (v, r1) ∧ zTys l r1 = some r' := by
  obtain ⟨x, h1, h2⟩ := Option.bind_eq_some_iff.mp (show (f_Rf_types b r).bind (fun x => zTys l x.2) = some r' from h)
  exact ⟨x.1, x.2, h1, h2⟩
theorem zTys_app {l m : List Int} : ∀ {r r' : zSt}, zTys (l ++ m) r = some r' → ∃ r1, zTys l r = some r1 ∧ zTys m r1 = some r' := by
  induction l with
  | nil => exact fun {r r'} h => ⟨r, rfl, h⟩
  | cons b l ih =>
    intro r r' h
    obtain ⟨v, r1, h1, h2⟩ := zTys_cons h
    obtain ⟨r2, h3, h4⟩ := ih h2
    exact ⟨r2, by unfold zTys; exact bindS h1 h3, h4⟩
theorem zdg_ln (x : Int) : (zdg x).length ≤ 3 ∧ 1 ≤ (zdg x).length := by
  unfold zdg
  split
  · simp
  · split <;> simp
theorem zdg_ln2 {x : Int} (h : x < 100) : (zdg x).length ≤ 2 := by
  unfold zdg
  split
  · simp
  · simp [h]
theorem zdg_bs {x : Int} (h : 0 ≤ x ∧ x ≤ 999) : zbs (zdg x) := by
  intro b hb
  unfold zdg at hb
  split at hb
  · simp at hb; omega
  · split at hb
    · simp at hb; omega
    · simp at hb; omega
/-- the reference types a number -/
theorem c_typesNumber {x : Int} (hx : 0 ≤ x ∧ x ≤ 99) {r r' : zSt} (h : zTys (zdg x) r = some r') : ∃ v, f_Rf_typesNumber x r = some (v, r') := by
  have e1 : wRem x 10 = x % 10 := wRem_e hx.1 (by decide)
  have e2 : wDiv x 10 = x / 10 := wDiv_e (by omega) (by decide)
  have w1 : w32 (48 + x % 10) = 48 + x % 10 := w32i (by omega) (by omega)
  have w2 : w32 (48 + x / 10) = 48 + x / 10 := w32i (by omega) (by omega)
  unfold f_Rf_typesNumber
  rw [e1, e2, w1, w2]
  unfold zdg at h
  by_cases q : x < 10
  · rw [if_pos q] at h
    obtain ⟨v, e⟩ := zTys_one h
    rw [show 48 + x = 48 + x % 10 by omega] at e
    exact ⟨0, iteT (by omega) (bindS e rfl)⟩
  · rw [if_neg q, if_pos (by omega)] at h
    obtain ⟨v, r1, h1, h2⟩ := zTys_cons h
    obtain ⟨v2, e⟩ := zTys_one h2
    exact ⟨0, iteF (by omega) (bindS h1 (bindS e rfl))⟩
section ZTB
variable {C r : zSt} {k : Nat} {ty ln hd l N : List Int}
/-- one more typed byte; a typed number -/
theorem Co_tb (h : zCo C r k ty ln hd l N) (hn : ty.length < 64) {b : Int} (hb : 0 ≤ b ∧ b ≤ 127) : ∃ x p, f_By_add b (zsb (zsh 1) C) = some (x, p) ∧ zCo (zpb (zsh 1) 2 C p) r k (ty ++ [b]) ln hd l N ∧ zAo 1 C (zpb (zsh 1) 2 C p) := by
  obtain ⟨x, p, g1, g2, g3⟩ := Bo_add (o := 1) h.1.1 (by decide) b
  rw [List.take_of_length_le (by simp; omega)] at g2
  exact ⟨x, p, g1, (h.ty g3 g2 (h.1.2.app (zbs.one hb))).1, g3⟩
theorem Co_tn (h : zCo C r k ty ln hd l N) (hn : ty.length + 3 ≤ 64) {b : Int} (hb : 0 ≤ b ∧ b ≤ 999) : ∃ x p, f_By_addNumber b (zsb (zsh 1) C) = some (x, p) ∧ zCo (zpb (zsh 1) 2 C p) r k (ty ++ zdg b) ln hd l N ∧ zAo 1 C (zpb (zsh 1) 2 C p) := by
  obtain ⟨x, p, g1, g2, g3⟩ := Bo_addNumber (o := 1) h.1.1 (by decide) hb
  have := zdg_ln b
  rw [List.take_of_length_le (by simp; omega)] at g2
  exact ⟨x, p, g1, (h.ty g3 g2 (h.1.2.app (zdg_bs hb))).1, g3⟩
end ZTB
theorem zDS.ao {C D r : zSt} {dr : List Int} (h : zDS C r dr) (ha : zAo 1 C D) : zDS D r dr := h.cg (fun i y => ⟨funext fun j => ha.1 i j (by omega), ha.2 i (by omega)⟩) ⟨rfl, rfl, rfl⟩ ⟨rfl, rfl⟩
def e_Co_mouse (a1 a2 a3 : Int) (s : zSt) : Option Int := (f_Sc_has a2 a3 (zsb (zsh 14) s)).bind fun x1 => if ¬ x1 = 0 then (if a1 < 0 then some 1 else if a1 ≤ 2 then none else some 1) else some 3
theorem M_mouse {B : Nat} {C r : zSt} (h : zWh B C r) (hB : B + 100 < 65536) (a b c : Int) : zMok (B + 100) C (f_Co_mouse a b c C) (f_Rf_mouse a b c r) ∨ zMth (B + 100) C (e_Co_mouse a b c C) (f_Rf_mouse a b c r) 3 1 ∨ zMth (B + 100) C (e_Co_mouse a b c C) (f_Rf_mouse a b c r) 1 2 := by
  have h0 := h
  obtain ⟨k, ln, hd, N, dr, a1, a2, a3⟩ := h
  have hR := a1.rel.1
  have z := hR.size
  have e1 := S_has hR b c
  have e2 := c_isCell hR b c
  have xm : C.1 27 3 = r.1 0 20 := hR.2.2.2.2.2.2.1.2.2.2.1
  by_cases y : (0 ≤ b ∧ b < r.1 0 1) ∧ (0 ≤ c ∧ c < r.1 0 2)
  · rw [if_pos y] at e1 e2
    by_cases q : 0 ≤ a ∧ a ≤ 2
    · refine Or.inl ?_
      by_cases w : r.1 0 20 = 0
      · refine ⟨0, C, uS r 0 0 0, ?_, ?_, rfl, (h0.f0 (Or.inl rfl) 0).mono (by omega)⟩
        · unfold f_Co_mouse
          exact bindS e1 (iteT (by decide) (iteF (by omega) (iteT q.2 (iteF (fun v => v (by rw [xm]; exact w)) rfl))))
        · unfold f_Rf_mouse
          refine bindS e2 (iteT (by decide) (bindS (in_1 q) ?_))
          exact iteF (by decide) (iteF (fun v => v w) rfl)
      · have h1 := (a1.f0 (Or.inl rfl) (0 : Int)).f0 (j := 53) (Or.inr (by decide)) (0 : Int)
        obtain ⟨x1, p1, b1, h2, g1⟩ := Co_tb h1 (by decide) (b := 27) (by decide)
        obtain ⟨x2, p2, b2, h3, g2⟩ := Co_tb h2 (by simp) (b := 91) (by decide)
        obtain ⟨x3, p3, b3, h4, g3⟩ := Co_tb h3 (by simp) (b := 60) (by decide)
        have la := zdg_ln a
        obtain ⟨x4, p4, b4, h5, g4⟩ := Co_tn h4 (by simp) (b := a) (by omega)
        obtain ⟨x5, p5, b5, h6, g5⟩ := Co_tb h5 (by simp; omega) (b := 59) (by decide)
        have lc := zdg_ln (c + 1)
        obtain ⟨x6, p6, b6, h7, g6⟩ := Co_tn h6 (by simp; omega) (b := c + 1) (by omega)
        obtain ⟨x7, p7, b7, h8, g7⟩ := Co_tb h7 (by simp; omega) (b := 59) (by decide)
        have lb := zdg_ln (b + 1)
        obtain ⟨x8, p8, b8, h9, g8⟩ := Co_tn h8 (by simp; omega) (b := b + 1) (by omega)
        obtain ⟨x9, p9, b9, h10, g9⟩ := Co_tb h9 (by simp; omega) (b := 77) (by decide)
        have la2 : (zdg a).length = 1 := by unfold zdg; rw [if_pos (by omega)]; rfl
        have lc2 := zdg_ln2 (x := c + 1) (by omega)
        have lb2 := zdg_ln2 (x := b + 1) (by omega)
        have dd := (((((((((((a3.f0 (Or.inl rfl) (0 : Int)).f0 (j := 53) (Or.inr (by decide)) (0 : Int)).ao g1).ao g2).ao g3).ao g4).ao g5).ao g6).ao g7).ao g8).ao g9)
        obtain ⟨C', r', t1, t2, t3, t4, t5⟩ := Co_done (B := B + 100) hB h10 (by simp; omega) dd
        have hcnt := By_count h10.1.1
        have n53 := t4.2.2 (by show (0 : Int) ≤ 0; decide) (by show (0 : Int) + _ ≤ 1000; simp; omega)
        rw [show (uS (uS r 0 0 0) 0 53 0).1 0 53 = 0 from rfl, Int.zero_add] at n53
        have n0 : r'.1 0 0 = 0 := (t4.1 0 (by omega)).trans rfl
        refine ⟨r'.1 0 53, C', r', ?_, ?_, n0, t3⟩
        · unfold f_Co_mouse
          rw [w32i (x := c + 1) (by omega) (by omega), w32i (x := b + 1) (by omega) (by omega), n53]
          exact bindS e1 (iteT (by decide) (iteF (by omega) (iteT q.2 (iteT (by rw [xm]; exact w) (bindS b1 (bindS b2 (bindS b3 (bindS b4 (bindS b5 (bindS b6 (bindS b7 (bindS b8 (bindS b9 (bindS hcnt (bindS t1 (zmn_i t5 rfl (Int.le_refl _)))))))))))))))))
        · simp only [List.append_assoc, List.nil_append, List.cons_append] at t2
          obtain ⟨v1, s1, u1, t2⟩ := zTys_cons t2
          obtain ⟨v2, s2, u2, t2⟩ := zTys_cons t2
          obtain ⟨v3, s3, u3, t2⟩ := zTys_cons t2
          obtain ⟨s4, u4, t2⟩ := zTys_app t2
          obtain ⟨v5, s5, u5, t2⟩ := zTys_cons t2
          obtain ⟨s6, u6, t2⟩ := zTys_app t2
          obtain ⟨v7, s7, u7, t2⟩ := zTys_cons t2
          obtain ⟨s8, u8, t2⟩ := zTys_app t2
          obtain ⟨v9, u9⟩ := zTys_one t2
          obtain ⟨v6, u6⟩ := c_typesNumber (by omega) u6
          obtain ⟨v8, u8⟩ := c_typesNumber (by omega) u8
          have e4 : zdg a = [48 + a] := by unfold zdg; rw [if_pos (by omega)]
          rw [e4] at u4
          obtain ⟨v4, u4⟩ := zTys_one u4
          unfold f_Rf_mouse
          rw [w32i (x := c + 1) (by omega) (by omega), w32i (x := b + 1) (by omega) (by omega), w32i (x := 48 + a) (by omega) (by omega)]
          refine bindS e2 (iteT (by decide) (bindS (in_1 q) ?_))
          exact iteF (by decide) (iteT w (bindS u1 (bindS u2 (bindS u3 (bindS u4 (bindS u5 (bindS u6 (bindS u7 (bindS u8 (bindS u9 rfl))))))))))
    · refine Or.inr (Or.inr ⟨0, uS r 0 0 2, ?_, ?_, rfl, (h0.f0 (Or.inl rfl) 2).mono (by omega)⟩)
      · unfold e_Co_mouse
        refine bindS e1 (iteT (by decide) ?_)
        by_cases w : a < 0
        · exact iteT w rfl
        · exact iteF w (iteF (by omega) rfl)
      · unfold f_Rf_mouse
        exact bindS e2 (iteT (by decide) (bindS (in_0 q) (iteT (by decide) rfl)))
  · rw [if_neg y] at e1 e2
    refine Or.inr (Or.inl ⟨0, uS r 0 0 1, ?_, ?_, rfl, (h0.f0 (Or.inl rfl) 1).mono (by omega)⟩)
    · unfold e_Co_mouse
      exact bindS e1 (iteF (by decide) rfl)
    · unfold f_Rf_mouse f_Rf_mouse_j28
      exact bindS e2 (iteF (by decide) (iteT (by decide) rfl))
