theorem zntab_cg {t u : Int → Int} {n : Int} : ∀ (m : Nat) (c : Int), (∀ d, c ≤ d → d < n → t d = u d) → zntab t n m c = zntab u n m c
  | 0, _, _ => rfl
  | m + 1, c, h => by
    unfold zntab
    by_cases q : n ≤ c
    · rw [if_pos q, if_pos q]
    · rw [if_neg q, if_neg q, h c (Int.le_refl _) (by omega), zntab_cg m (c + 1) (fun d a b => h d (by omega) b)]
theorem zRel.tb {s r : zSt} (h : zRel s r) : zXt s r := h.2.2.2.2.2.2.2.2.2.1
theorem S_nextTab {s r : zSt} (h : zRel s r) : ∃ t, f_Sc_nextTab s = some t ∧ f_Rf_nextTab r = some t ∧ (t = -1 ∨ (0 ≤ t ∧ t < r.1 0 2)) := by
  have z1 := h.size
  have hn := h.nums
  obtain ⟨c1, c2, c3, c4, c5⟩ := h.cu
  obtain ⟨d1, d2, d3, d4, d5, d6⟩ := h.zz
  obtain ⟨t1, t2, t3, t4⟩ := h.tb
  have h26 : s.1 26 0 = 24 := h.1.2.1.2.2.2.2.2.2
  have e1 := c_Sc_nextTab h26 (by rw [d3]; exact z1.2) (by rw [c2]; have := hn.2.1; omega)
  have e2 := c_Rf_nextTab z1.2 hn.2.1 t2
  rw [d3, c2, zntab_cg (u := zbit (r.1 0 15)) 30 (r.1 0 10 + 1) (fun d a b => t3 d (by have := hn.2.1; omega) (by omega))] at e1
  refine ⟨_, e1, e2, ?_⟩
  rcases zntab_spec (zbit (r.1 0 15)) (r.1 0 2) 30 (r.1 0 10 + 1) (by have := hn.2.1; omega) with ⟨b1, b2⟩ | ⟨b1, b2, b3, b4⟩
  · exact Or.inl b1
  · exact Or.inr ⟨by have := hn.2.1; omega, b2⟩
theorem S_control {s r : zSt} (h : zRel s r) {b : Int} (hb : b ≠ 24 ∧ b ≠ 27) :
    ∃ s1 r1, f_Sc_control b s = some (0, s1) ∧ f_Rf_controls b r = some (0, r1) ∧ zRel s1 r1 ∧ zKp r r1 := by
  have z1 := h.size
  have hn := h.nums
  obtain ⟨c1, c2, c3, c4, c5⟩ := h.cu
  obtain ⟨d1, d2, d3, d4, d5, d6⟩ := h.zz
  have hl := h.late (x := 0) (Or.inl rfl)
  have hcol := hn.2.1
  unfold f_Sc_control f_Rf_controls
  by_cases b7 : b = 7
  · refine ⟨_, _, iteF (by simpa using b7) rfl, iteT b7 rfl, ?_, zKp.uS (by decide)⟩
    rw [d4]
    exact h.ring
  by_cases b8 : b = 8
  · refine ⟨_, _, iteT b7 (iteT b8 (by unfold f_Sc_control_j42; exact iteF (by simpa using b8) rfl)), iteF b7 (iteT b8 rfl), ?_, (zKp.uS (by decide)).trans (zKp.uS (by decide))⟩
    have e1 : (if w32 (s.1 12 1 - 1) < 0 then (0 : Int) else w32 (s.1 12 1 - 1)) = (if r.1 0 10 ≤ 0 then 0 else r.1 0 10 - 1) := by
      rw [c2, w32i (by omega) (by omega)]
      grind
    have e2 : w32 (r.1 0 10 - (if r.1 0 10 ≤ 0 then 0 else 1)) = (if r.1 0 10 ≤ 0 then 0 else r.1 0 10 - 1) := by
      by_cases q : r.1 0 10 ≤ 0
      · rw [if_pos q, if_pos q, w32i (by omega) (by omega)]
        omega
      · rw [if_neg q, if_neg q, w32i (by omega) (by omega)]
    rw [e1, e2, uS_comm r 0 10 0 11 _ _ (by decide)]
    exact hl.col (x := if r.1 0 10 ≤ 0 then 0 else r.1 0 10 - 1) (by show 0 ≤ (if r.1 0 10 ≤ 0 then 0 else r.1 0 10 - 1) ∧ (if r.1 0 10 ≤ 0 then 0 else r.1 0 10 - 1) < r.1 0 2; split <;> omega)
  by_cases b9 : b = 9
  · obtain ⟨t, t1, -, t3⟩ := S_nextTab hl
    obtain ⟨t', -, u2, u3⟩ := S_nextTab h
    have ett : t' = t := by
      obtain ⟨a, a1, a2, a3⟩ := S_nextTab h
      have e1 : f_Sc_nextTab (uS s 12 2 0) = f_Sc_nextTab s := by
        have h26 : s.1 26 0 = 24 := h.1.2.1.2.2.2.2.2.2
        rw [c_Sc_nextTab (s := s) h26 (by rw [d3]; exact z1.2) (by rw [c2]; omega), c_Sc_nextTab (s := uS s 12 2 0) h26 (by show 4 ≤ s.1 0 10 ∧ s.1 0 10 ≤ 24; rw [d3]; exact z1.2) (by show 0 ≤ s.1 12 1 ∧ s.1 12 1 < 24; rw [c2]; omega)]
        rfl
      rw [e1, a1] at t1
      rw [a2] at u2
      exact (Option.some.inj u2).symm.trans (Option.some.inj t1)
    subst ett
    have ew : w32 (r.1 0 2 - 1) = r.1 0 2 - 1 := w32i (by omega) (by omega)
    have ec : f_Sc_control_j42 b s = some (0, uS (uS s 12 2 0) 12 1 (if ¬ t' = -1 then t' else r.1 0 2 - 1)) := by
      unfold f_Sc_control_j42
      refine iteT b8 (iteF (by simpa using b9) (bindS t1 ?_))
      rw [d3, ew]
    have er : ∃ r1, (if ¬ t' = -1 then (f_Rf_nextTab r).bind fun x10 => some ((0 : Int), uS (uS r 0 10 x10) 0 11 0) else some (0, uS (uS r 0 10 (w32 (r.1 0 2 - 1))) 0 11 0)) = some (0, r1) ∧ r1 = uS (uS r 0 11 0) 0 10 (if ¬ t' = -1 then t' else r.1 0 2 - 1) := by
      by_cases q : t' = -1
      · refine ⟨_, iteF (by simpa using q) rfl, ?_⟩
        rw [if_neg (by simpa using q), ew, uS_comm r 0 10 0 11 _ _ (by decide)]
      · refine ⟨_, iteT q (bindS u2 rfl), ?_⟩
        rw [if_pos q, uS_comm r 0 10 0 11 _ _ (by decide)]
    obtain ⟨r1, er1, er2⟩ := er
    refine ⟨_, r1, iteT b7 (iteF b8 (iteT b9 ec)), iteF b7 (iteF b8 (iteT b9 (bindS u2 er1))), ?_, ?_⟩
    · rw [er2]
      exact hl.col (x := if ¬ t' = -1 then t' else r.1 0 2 - 1) (by show 0 ≤ (if ¬ t' = -1 then t' else r.1 0 2 - 1) ∧ (if ¬ t' = -1 then t' else r.1 0 2 - 1) < r.1 0 2; grind)
    · rw [er2]
      exact (zKp.uS (by decide)).trans (zKp.uS (by decide))
  by_cases b10 : b = 10
  · obtain ⟨s1, r2, e1, e2, e3, e4, e5⟩ := S_feed0 h
    refine ⟨s1, _, iteT b7 (iteF b8 (iteF b9 (iteT b10 (by unfold f_Sc_control_j42; exact iteT b8 (iteT b9 (iteF (by simpa using b10) (bindS e1 rfl))))))), iteF b7 (iteF b8 (iteF b9 (iteT b10 (bindS e2 rfl)))), e3, e4.trans (zKp.uS (by decide))⟩
  by_cases b13 : b = 13
  · refine ⟨_, _, iteT b7 (iteF b8 (iteF b9 (iteF b10 (iteT b13 (by unfold f_Sc_control_j42; exact iteT b8 (iteT b9 (iteT b10 rfl))))))), iteF b7 (iteF b8 (iteF b9 (iteF b10 (iteT b13 rfl)))), ?_, (zKp.uS (by decide)).trans (zKp.uS (by decide))⟩
    rw [uS_comm r 0 10 0 11 _ _ (by decide)]
    exact hl.col (x := 0) (by show 0 ≤ (0 : Int) ∧ (0 : Int) < r.1 0 2; omega)
  · exact ⟨s, r, iteT b7 (iteF b8 (iteF b9 (iteF b10 (iteF b13 rfl)))), iteF b7 (iteF b8 (iteF b9 (iteF b10 (iteF b13 (iteF hb.1 (iteF hb.2 rfl)))))), h, zKp.rf r⟩
