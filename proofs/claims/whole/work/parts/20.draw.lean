/-! ===== a sign is drawn ===== -/
theorem L_parts {r r1 : zSt} {a c v : Int} (hZ : zRZ r) (ha : 0 ≤ a ∧ a < 12) (hc : 0 ≤ c ∧ c < 1000) (h : f_Rf_parts a c r = some (0, r1)) : f_Rf_parts a c (uS r 0 11 v) = some (0, uS r1 0 11 v) := by
  rw [c_Rf_parts hZ ha hc] at h
  have e := (Prod.mk.inj (Option.some.inj h)).2
  rw [← e]
  exact c_Rf_parts (s := uS r 0 11 v) hZ ha hc
theorem L_mR {r r1 : zSt} {a x k v : Int} (hZ : zRZ r) (ha : 0 ≤ a ∧ a < 12) (hx : 0 ≤ x ∧ x < r.1 0 2) (hk : 1 ≤ k ∧ k < 100000) (h : f_Rf_movesRight a x k r = some (0, r1)) : f_Rf_movesRight a x k (uS r 0 11 v) = some (0, uS r1 0 11 v) := by
  rw [c_Rf_movesRight hZ ha hx hk] at h
  have e := (Prod.mk.inj (Option.some.inj h)).2
  rw [← e]
  exact c_Rf_movesRight (s := uS r 0 11 v) hZ ha hx hk
theorem S_d4 {s r : zSt} (h : zRel s r) {w : Int} (hw : w = 1 ∨ w = 2) : ∃ s1 r1, f_Sc_drawSign_j259 w (r.1 0 2 - 1) s = some (0, s1) ∧ f_Rf_draws_j232 w (uS r 0 11 0) = some (0, r1) ∧ zRel s1 r1 ∧ zKp r r1 := by
  have z1 := h.size
  have hn := h.nums
  obtain ⟨c1, c2, c3, c4, c5⟩ := h.cu
  have hm := h.mo
  have hc := hn.2.1
  have hw1 : r.1 0 18 = 0 ∨ r.1 0 18 = 1 := h.mode.2.2.1
  unfold f_Sc_drawSign_j259 f_Rf_draws_j232
  have e1 : w32 (s.1 12 1 + w) = r.1 0 10 + w := by rw [c2, w32i] <;> omega
  have e2 : w32 ((uS r 0 11 0).1 0 10 + w) = r.1 0 10 + w := by show w32 (r.1 0 10 + w) = _; rw [w32i] <;> omega
  have e3 : w32 ((uS r 0 11 0).1 0 2 - 1) = r.1 0 2 - 1 := by show w32 (r.1 0 2 - 1) = _; rw [w32i] <;> omega
  rw [e1, e2, e3, hm.2.1]
  by_cases q : r.1 0 10 + w ≤ r.1 0 2 - 1
  · rw [if_pos q, if_neg (show ¬ r.1 0 2 - 1 < r.1 0 10 + w by omega)]
    refine ⟨_, _, rfl, iteT q rfl, ?_, (zKp.uS (by decide)).trans (zKp.uS (by decide))⟩
    have k := (h.late (x := 0) (Or.inl rfl)).col (x := r.1 0 10 + w) (by show 0 ≤ r.1 0 10 + w ∧ r.1 0 10 + w < r.1 0 2; omega)
    have e : uS (uS (uS s 12 1 (r.1 0 10 + w)) 12 2 0) 12 1 (r.1 0 10 + w) = uS (uS s 12 2 0) 12 1 (r.1 0 10 + w) := by
      refine zst_ext (fun a b => ?_) (fun _ => rfl)
      simp only [uS1]
      grind
    rw [e]
    exact k
  · rw [if_neg q, if_pos (show r.1 0 2 - 1 < r.1 0 10 + w by omega)]
    refine ⟨_, _, rfl, iteF q (iteT hw1 rfl), ?_, ((zKp.uS (by decide)).trans (zKp.uS (by decide))).trans ((zKp.uS (by decide)).trans (zKp.uS (by decide)))⟩
    have k := (h.late (x := r.1 0 18) hw1).col (x := r.1 0 2 - 1) (by show 0 ≤ r.1 0 2 - 1 ∧ r.1 0 2 - 1 < r.1 0 2; omega)
    have e : uS (uS (uS s 12 1 (r.1 0 10 + w)) 12 2 (if r.1 0 18 = 0 then 0 else 1)) 12 1 (r.1 0 2 - 1) = uS (uS s 12 2 (r.1 0 18)) 12 1 (r.1 0 2 - 1) := by
      refine zst_ext (fun a b => ?_) (fun _ => rfl)
      simp only [uS1]
      grind
    have e' : uS (uS (uS (uS r 0 11 0) 0 10 (r.1 0 10 + w)) 0 10 (r.1 0 2 - 1)) 0 11 ((uS r 0 11 0).1 0 18) = uS (uS r 0 11 (r.1 0 18)) 0 10 (r.1 0 2 - 1) := by
      refine zst_ext (fun a b => ?_) (fun _ => rfl)
      simp only [uS1]
      grind
    rw [e, e']
    exact k
theorem zsign {b a : Int} (hb : 32 ≤ b ∧ b ≤ 126) (ha : 0 ≤ a ∧ a < 16) : w32 (b + w32 (1000 * a)) = b + 1000 * a ∧ zVl (b + 1000 * a) ∧ b + 1000 * a ≠ -2 ∧ (zWd (b + 1000 * a) ↔ 65 ≤ b ∧ b ≤ 90) := by
  refine ⟨?_, ?_, by omega, ?_⟩
  · rw [w32i (x := 1000 * a) (by omega) (by omega), w32i (by omega) (by omega)]
  · unfold zVl
    omega
  · unfold zWd
    rw [wRem_e (by omega) (by decide)]
    omega
theorem S_d30 {s r : zSt} (h : zRel s r) (hsh : r.1 0 8 = 0) {b w : Int} (hb : 32 ≤ b ∧ b ≤ 126) (hw : (w = 1 ∧ ¬ (65 ≤ b ∧ b ≤ 90)) ∨ (w = 2 ∧ 65 ≤ b ∧ b ≤ 90)) (hc : r.1 0 10 + w ≤ r.1 0 2) :
    ∃ s1 r1, f_Sc_drawSign_j174 b w (r.1 0 2 - 1) s = some (0, s1) ∧ f_Rf_draws_j153 b w (uS r 0 11 0) = some (0, r1) ∧ zRel s1 r1 ∧ zKp r r1 := by
  have z1 := h.size
  have hn := h.nums
  have hZ := h.2.1.1
  obtain ⟨c1, c2, c3, c4, c5⟩ := h.cu
  obtain ⟨g1, g2, g3, g4⟩ := zsign hb hn.2.2.2.1
  have hr := hn.1
  have hcc := hn.2.1
  unfold f_Sc_drawSign_j174 f_Rf_draws_j153
  rw [c1, c2, c4]
  rcases hw with ⟨rfl, hb2⟩ | ⟨rfl, hb2⟩
  · obtain ⟨p1, p2, r1, r2, e1, e2, e3, e4, e5, e6⟩ := P0_sign1 h hsh (a := r.1 0 9) (c := r.1 0 10) (v := b + 1000 * r.1 0 12) hr hcc ⟨g2, g3, fun q => hb2 (g4.mp q)⟩
    have hr2 : zRZ r2 := by
      have := e6.1.2.1.1
      exact this
    have er1 : r1 = uA r 1 (zPt (r.2 1) (zRo r (r.1 0 9)) (r.1 0 10) (r.1 0 2)) := by
      rw [c_Rf_parts hZ ⟨hr.1, by omega⟩ ⟨hcc.1, by omega⟩] at e3
      exact ((Prod.mk.inj (Option.some.inj e3)).2).symm
    have hr1 : zRZ r1 ∧ r1.1 = r.1 := by rw [er1]; exact ⟨hZ, rfl⟩
    obtain ⟨s1, r3, k1, k2, k3, k4⟩ := S_d4 e6.1 (w := 1) (Or.inl rfl)
    have hat : f_Rf_at (r.1 0 9) (r.1 0 10) (uS r2 0 11 0) = some (zRo r (r.1 0 9) + r.1 0 10) := by
      rw [c_Rf_at (s := uS r2 0 11 0) hr2 (by omega) (by omega)]
      show some (288 * r2.1 0 8 + _ + _) = _
      rw [e5]
      rfl
    have hin := zRo_in hZ (r := r.1 0 9) (c := r.1 0 10) (by omega) (by omega)
    have ew : w32 (r.1 0 10 + 1) = r.1 0 10 + 1 := w32i (by omega) (by omega)
    have e576 : r2.1 1 0 = r.1 1 0 := by rw [e5]
    have hcols : (uE r2 1 (zRo r (r.1 0 9) + r.1 0 10) (b + 1000 * r.1 0 12)).1 0 2 = r.1 0 2 := by show r2.1 0 2 = _; rw [e5]
    rw [hcols] at k1
    have l1 := L_parts (v := 0) (a := r.1 0 9) (c := r.1 0 10) hZ ⟨hr.1, by omega⟩ ⟨hcc.1, by omega⟩ e3
    refine ⟨s1, r3, ?_, ?_, k3, (e6.fr.kp).trans k4⟩
    · rw [ew]
      refine bindS e1 (bindS (x := (0, p2)) ?_ (iteT (by decide) k1))
      rw [g1]
      exact e2
    · refine bindS l1 ?_
      show ((f_Rf_parts (r1.1 0 9) (w32 (r1.1 0 10 + 1)) (uS r1 0 11 0)).bind _) = _
      rw [hr1.2, ew]
      refine bindS (L_parts hr1.1 ⟨hr.1, by omega⟩ ⟨by omega, by omega⟩ e4) ?_
      show ((f_Rf_at (r2.1 0 9) (r2.1 0 10) (uS r2 0 11 0)).bind _) = _
      rw [e5]
      refine bindS hat (iteT ⟨hin.1, by show _ < r2.1 1 0; rw [e576]; exact hin.2⟩ (iteT (by decide) ?_))
      show f_Rf_draws_j232 1 (uE (uS r2 0 11 0) 1 _ (w32 (b + w32 (1000 * r2.1 0 12)))) = _
      rw [e5, g1]
      exact k2
  · obtain ⟨p1, p2, p3, r1, r2, e1, e2, e2', e3, e4, e5, e7, e6⟩ := P0_sign2 h hsh (a := r.1 0 9) (c := r.1 0 10) (v := b + 1000 * r.1 0 12) hr ⟨hcc.1, by omega⟩ ⟨g2, g3, g4.mpr hb2⟩
    have hr2 : zRZ r2 := by
      have := e6.1.2.1.1
      exact this
    have er1 : r1 = uA r 1 (zPt (r.2 1) (zRo r (r.1 0 9)) (r.1 0 10) (r.1 0 2)) := by
      rw [c_Rf_parts hZ ⟨hr.1, by omega⟩ ⟨hcc.1, by omega⟩] at e3
      exact ((Prod.mk.inj (Option.some.inj e3)).2).symm
    have hr1 : zRZ r1 ∧ r1.1 = r.1 := by rw [er1]; exact ⟨hZ, rfl⟩
    obtain ⟨s1, r3, k1, k2, k3, k4⟩ := S_d4 e6.1 (w := 2) (Or.inr rfl)
    have hat : ∀ c x v, 0 ≤ c ∧ c < 100 → f_Rf_at (r.1 0 9) c (uE (uS r2 0 11 0) 1 x v) = some (zRo r (r.1 0 9) + c) := by
      intro c x v hcx
      rw [c_Rf_at (s := uE (uS r2 0 11 0) 1 x v) hr2 (by omega) (by omega)]
      show some (288 * r2.1 0 8 + _ + _) = _
      rw [e5]
      rfl
    have hat0 : f_Rf_at (r.1 0 9) (r.1 0 10) (uS r2 0 11 0) = some (zRo r (r.1 0 9) + r.1 0 10) := by
      rw [c_Rf_at (s := uS r2 0 11 0) hr2 (by omega) (by omega)]
      show some (288 * r2.1 0 8 + _ + _) = _
      rw [e5]
      rfl
    have hin := zRo_in hZ (r := r.1 0 9) (c := r.1 0 10) (by omega) (by omega)
    have hin2 := zRo_in hZ (r := r.1 0 9) (c := r.1 0 10 + 1) (by omega) (by omega)
    have ew : w32 (r.1 0 10 + 2) = r.1 0 10 + 2 := w32i (by omega) (by omega)
    have ew1 : w32 (r.1 0 10 + 1) = r.1 0 10 + 1 := w32i (by omega) (by omega)
    have e576 : r2.1 1 0 = r.1 1 0 := by rw [e5]
    have hcols : (uE (uE r2 1 (zRo r (r.1 0 9) + r.1 0 10) (b + 1000 * r.1 0 12)) 1 (zRo r (r.1 0 9) + (r.1 0 10 + 1)) (-2)).1 0 2 = r.1 0 2 := by show r2.1 0 2 = _; rw [e5]
    rw [hcols] at k1
    have l1 := L_parts (v := 0) (a := r.1 0 9) (c := r.1 0 10) hZ ⟨hr.1, by omega⟩ ⟨hcc.1, by omega⟩ e3
    refine ⟨s1, r3, ?_, ?_, k3, (e6.fr.kp).trans k4⟩
    · rw [ew]
      refine bindS e1 (bindS (x := (0, p2)) ?_ (iteF (by decide) (bindS (x := (0, p3)) ?_ k1)))
      · rw [g1]
        exact e2
      · rw [ew1]
        exact e2'
    · refine bindS l1 ?_
      show ((f_Rf_parts (r1.1 0 9) (w32 (r1.1 0 10 + 2)) (uS r1 0 11 0)).bind _) = _
      rw [hr1.2, ew]
      refine bindS (L_parts hr1.1 ⟨hr.1, by omega⟩ ⟨by omega, by omega⟩ e4) ?_
      show ((f_Rf_at (r2.1 0 9) (r2.1 0 10) (uS r2 0 11 0)).bind _) = _
      rw [e5]
      refine bindS hat0 (iteT ⟨hin.1, by show _ < r2.1 1 0; rw [e576]; exact hin.2⟩ (iteF (by decide) ?_))
      show ((f_Rf_at (r2.1 0 9) (w32 (r2.1 0 10 + 1)) (uE (uS r2 0 11 0) 1 _ (w32 (b + w32 (1000 * r2.1 0 12))))).bind _) = _
      rw [e5, ew1, g1]
      refine bindS (hat _ _ _ (by omega)) (iteT ⟨hin2.1, by show _ < r2.1 1 0; rw [e576]; exact hin2.2⟩ ?_)
      show f_Rf_draws_j232 2 (uE (uE (uS r2 0 11 0) 1 _ (w32 (b + w32 (1000 * r2.1 0 12)))) 1 _ (-2)) = _
      rw [e5, g1]
      exact k2
theorem S_d31 {s r : zSt} (h : zRel s r) (hsh : r.1 0 8 = 1) {b w : Int} (hb : 32 ≤ b ∧ b ≤ 126) (hw : (w = 1 ∧ ¬ (65 ≤ b ∧ b ≤ 90)) ∨ (w = 2 ∧ 65 ≤ b ∧ b ≤ 90)) (hc : r.1 0 10 + w ≤ r.1 0 2) :
    ∃ s1 r1, f_Sc_drawSign_j174_8 b w (r.1 0 2 - 1) s = some (0, s1) ∧ f_Rf_draws_j153 b w (uS r 0 11 0) = some (0, r1) ∧ zRel s1 r1 ∧ zKp r r1 := by
  have z1 := h.size
  have hn := h.nums
  have hZ := h.2.1.1
  obtain ⟨c1, c2, c3, c4, c5⟩ := h.cu
  obtain ⟨g1, g2, g3, g4⟩ := zsign hb hn.2.2.2.1
  have hr := hn.1
  have hcc := hn.2.1
  unfold f_Sc_drawSign_j174_8 f_Rf_draws_j153
  rw [c1, c2, c4]
  rcases hw with ⟨rfl, hb2⟩ | ⟨rfl, hb2⟩
  · obtain ⟨p1, p2, r1, r2, e1, e2, e3, e4, e5, e6⟩ := P1_sign1 h hsh (a := r.1 0 9) (c := r.1 0 10) (v := b + 1000 * r.1 0 12) hr hcc ⟨g2, g3, fun q => hb2 (g4.mp q)⟩
    have hr2 : zRZ r2 := by
      have := e6.1.2.1.1
      exact this
    have er1 : r1 = uA r 1 (zPt (r.2 1) (zRo r (r.1 0 9)) (r.1 0 10) (r.1 0 2)) := by
      rw [c_Rf_parts hZ ⟨hr.1, by omega⟩ ⟨hcc.1, by omega⟩] at e3
      exact ((Prod.mk.inj (Option.some.inj e3)).2).symm
    have hr1 : zRZ r1 ∧ r1.1 = r.1 := by rw [er1]; exact ⟨hZ, rfl⟩
    obtain ⟨s1, r3, k1, k2, k3, k4⟩ := S_d4 e6.1 (w := 1) (Or.inl rfl)
    have hat : f_Rf_at (r.1 0 9) (r.1 0 10) (uS r2 0 11 0) = some (zRo r (r.1 0 9) + r.1 0 10) := by
      rw [c_Rf_at (s := uS r2 0 11 0) hr2 (by omega) (by omega)]
      show some (288 * r2.1 0 8 + _ + _) = _
      rw [e5]
      rfl
    have hin := zRo_in hZ (r := r.1 0 9) (c := r.1 0 10) (by omega) (by omega)
    have ew : w32 (r.1 0 10 + 1) = r.1 0 10 + 1 := w32i (by omega) (by omega)
    have e576 : r2.1 1 0 = r.1 1 0 := by rw [e5]
    have hcols : (uE r2 1 (zRo r (r.1 0 9) + r.1 0 10) (b + 1000 * r.1 0 12)).1 0 2 = r.1 0 2 := by show r2.1 0 2 = _; rw [e5]
    rw [hcols] at k1
    have l1 := L_parts (v := 0) (a := r.1 0 9) (c := r.1 0 10) hZ ⟨hr.1, by omega⟩ ⟨hcc.1, by omega⟩ e3
    refine ⟨s1, r3, ?_, ?_, k3, (e6.fr.kp).trans k4⟩
    · rw [ew]
      refine bindS e1 (bindS (x := (0, p2)) ?_ (iteT (by decide) k1))
      rw [g1]
      exact e2
    · refine bindS l1 ?_
      show ((f_Rf_parts (r1.1 0 9) (w32 (r1.1 0 10 + 1)) (uS r1 0 11 0)).bind _) = _
      rw [hr1.2, ew]
      refine bindS (L_parts hr1.1 ⟨hr.1, by omega⟩ ⟨by omega, by omega⟩ e4) ?_
      show ((f_Rf_at (r2.1 0 9) (r2.1 0 10) (uS r2 0 11 0)).bind _) = _
      rw [e5]
      refine bindS hat (iteT ⟨hin.1, by show _ < r2.1 1 0; rw [e576]; exact hin.2⟩ (iteT (by decide) ?_))
      show f_Rf_draws_j232 1 (uE (uS r2 0 11 0) 1 _ (w32 (b + w32 (1000 * r2.1 0 12)))) = _
      rw [e5, g1]
      exact k2
  · obtain ⟨p1, p2, p3, r1, r2, e1, e2, e2', e3, e4, e5, e7, e6⟩ := P1_sign2 h hsh (a := r.1 0 9) (c := r.1 0 10) (v := b + 1000 * r.1 0 12) hr ⟨hcc.1, by omega⟩ ⟨g2, g3, g4.mpr hb2⟩
    have hr2 : zRZ r2 := by
      have := e6.1.2.1.1
      exact this
    have er1 : r1 = uA r 1 (zPt (r.2 1) (zRo r (r.1 0 9)) (r.1 0 10) (r.1 0 2)) := by
      rw [c_Rf_parts hZ ⟨hr.1, by omega⟩ ⟨hcc.1, by omega⟩] at e3
      exact ((Prod.mk.inj (Option.some.inj e3)).2).symm
    have hr1 : zRZ r1 ∧ r1.1 = r.1 := by rw [er1]; exact ⟨hZ, rfl⟩
    obtain ⟨s1, r3, k1, k2, k3, k4⟩ := S_d4 e6.1 (w := 2) (Or.inr rfl)
    have hat : ∀ c x v, 0 ≤ c ∧ c < 100 → f_Rf_at (r.1 0 9) c (uE (uS r2 0 11 0) 1 x v) = some (zRo r (r.1 0 9) + c) := by
      intro c x v hcx
      rw [c_Rf_at (s := uE (uS r2 0 11 0) 1 x v) hr2 (by omega) (by omega)]
      show some (288 * r2.1 0 8 + _ + _) = _
      rw [e5]
      rfl
    have hat0 : f_Rf_at (r.1 0 9) (r.1 0 10) (uS r2 0 11 0) = some (zRo r (r.1 0 9) + r.1 0 10) := by
      rw [c_Rf_at (s := uS r2 0 11 0) hr2 (by omega) (by omega)]
      show some (288 * r2.1 0 8 + _ + _) = _
      rw [e5]
      rfl
    have hin := zRo_in hZ (r := r.1 0 9) (c := r.1 0 10) (by omega) (by omega)
    have hin2 := zRo_in hZ (r := r.1 0 9) (c := r.1 0 10 + 1) (by omega) (by omega)
    have ew : w32 (r.1 0 10 + 2) = r.1 0 10 + 2 := w32i (by omega) (by omega)
    have ew1 : w32 (r.1 0 10 + 1) = r.1 0 10 + 1 := w32i (by omega) (by omega)
    have e576 : r2.1 1 0 = r.1 1 0 := by rw [e5]
    have hcols : (uE (uE r2 1 (zRo r (r.1 0 9) + r.1 0 10) (b + 1000 * r.1 0 12)) 1 (zRo r (r.1 0 9) + (r.1 0 10 + 1)) (-2)).1 0 2 = r.1 0 2 := by show r2.1 0 2 = _; rw [e5]
    rw [hcols] at k1
    have l1 := L_parts (v := 0) (a := r.1 0 9) (c := r.1 0 10) hZ ⟨hr.1, by omega⟩ ⟨hcc.1, by omega⟩ e3
    refine ⟨s1, r3, ?_, ?_, k3, (e6.fr.kp).trans k4⟩
    · rw [ew]
      refine bindS e1 (bindS (x := (0, p2)) ?_ (iteF (by decide) (bindS (x := (0, p3)) ?_ k1)))
      · rw [g1]
        exact e2
      · rw [ew1]
        exact e2'
    · refine bindS l1 ?_
      show ((f_Rf_parts (r1.1 0 9) (w32 (r1.1 0 10 + 2)) (uS r1 0 11 0)).bind _) = _
      rw [hr1.2, ew]
      refine bindS (L_parts hr1.1 ⟨hr.1, by omega⟩ ⟨by omega, by omega⟩ e4) ?_
      show ((f_Rf_at (r2.1 0 9) (r2.1 0 10) (uS r2 0 11 0)).bind _) = _
      rw [e5]
      refine bindS hat0 (iteT ⟨hin.1, by show _ < r2.1 1 0; rw [e576]; exact hin.2⟩ (iteF (by decide) ?_))
      show ((f_Rf_at (r2.1 0 9) (w32 (r2.1 0 10 + 1)) (uE (uS r2 0 11 0) 1 _ (w32 (b + w32 (1000 * r2.1 0 12))))).bind _) = _
      rw [e5, ew1, g1]
      refine bindS (hat _ _ _ (by omega)) (iteT ⟨hin2.1, by show _ < r2.1 1 0; rw [e576]; exact hin2.2⟩ ?_)
      show f_Rf_draws_j232 2 (uE (uE (uS r2 0 11 0) 1 _ (w32 (b + w32 (1000 * r2.1 0 12)))) 1 _ (-2)) = _
      rw [e5, g1]
      exact k2
theorem S_d20 {s r : zSt} (h : zRel s r) (hsh : r.1 0 8 = 0) {b w : Int} (hb : 32 ≤ b ∧ b ≤ 126) (hw : (w = 1 ∧ ¬ (65 ≤ b ∧ b ≤ 90)) ∨ (w = 2 ∧ 65 ≤ b ∧ b ≤ 90)) (hc : r.1 0 10 + w ≤ r.1 0 2) :
    ∃ s1 r1, f_Sc_drawSign_j145 b w (r.1 0 2 - 1) s = some (0, s1) ∧ f_Rf_draws_j128 b w r = some (0, r1) ∧ zRel s1 r1 ∧ zKp r r1 := by
  have z1 := h.size
  have hn := h.nums
  have hZ := h.2.1.1
  have hm := h.mo
  obtain ⟨c1, c2, c3, c4, c5⟩ := h.cu
  unfold f_Sc_drawSign_j145 f_Rf_draws_j128
  rw [hm.2.2.2.2.2, c1, c2]
  by_cases q : r.1 0 22 = 0
  · obtain ⟨s1, r1, e1, e2, e3, e4⟩ := S_d30 h hsh hb hw hc
    exact ⟨s1, r1, iteT q e1, iteT q e2, e3, e4⟩
  · obtain ⟨p1, r2, f1, f2, f3⟩ := P0_insert h hsh (a := r.1 0 9) (x := r.1 0 10) (k := w) hn.1 hn.2.1 (by omega)
    have hr2 : r2.1 = r.1 := f3.2.2.1
    obtain ⟨s1, r1, e1, e2, e3, e4⟩ := S_d30 f3.1 (by rw [hr2]; exact hsh) hb hw (by rw [hr2]; exact hc)
    rw [hr2] at e1
    have l := L_mR (v := 0) hZ (a := r.1 0 9) (x := r.1 0 10) (k := w) (by have := hn.1; omega) hn.2.1 (by omega) f2
    exact ⟨s1, r1, iteF q (bindS f1 e1), iteF q (bindS l e2), e3, f3.fr.kp.trans e4⟩
theorem S_d10 {s r : zSt} (h : zRel s r) (hsh : r.1 0 8 = 0) {b w : Int} (hb : 32 ≤ b ∧ b ≤ 126) (hw : (w = 1 ∧ ¬ (65 ≤ b ∧ b ≤ 90)) ∨ (w = 2 ∧ 65 ≤ b ∧ b ≤ 90)) :
    ∃ s1 r1, f_Sc_drawSign_j75 b w (r.1 0 2 - 1) s = some (0, s1) ∧ f_Rf_draws_j59 b w r = some (0, r1) ∧ zRel s1 r1 ∧ zKp r r1 := by
  have key : ∀ s r : zSt, zRel s r → r.1 0 8 = 0 → ∃ s1 r1, f_Sc_drawSign_j102 b w (r.1 0 2 - 1) s = some (0, s1) ∧ f_Rf_draws_j84 b w r = some (0, r1) ∧ zRel s1 r1 ∧ zKp r r1 := by
    intro s r h hsh
    have z1 := h.size
    have hn := h.nums
    have hZ := h.2.1.1
    obtain ⟨c1, c2, c3, c4, c5⟩ := h.cu
    obtain ⟨p1, f1, f2⟩ := P0_going h hsh (a := r.1 0 9) (v := 1) (by have := hn.1; omega) (Or.inr ⟨rfl, hn.1.2⟩)
    obtain ⟨s2, r2, g1, g2, g3⟩ := S_feed f2.1
    have e2 : r2.1 0 2 = r.1 0 2 := g3.2.2.1 2 (by decide) (by decide)
    have k := g3.1.col (x := 0) (by omega)
    obtain ⟨s3, r3, k1, k2, k3, k4⟩ := S_d20 k ((g3.2.2.1 8 (by decide) (by decide)).trans hsh) hb hw (by show (0 : Int) + w ≤ r2.1 0 2; omega)
    have k1' : f_Sc_drawSign_j145 b w (r.1 0 2 - 1) (uS s2 12 1 0) = some (0, s3) := by
      rw [← e2]
      exact k1
    unfold f_Sc_drawSign_j102 f_Rf_draws_j84
    rw [c1, zGo_w hZ (by have := hn.1; omega)]
    exact ⟨s3, r3, bindS f1 (bindS g1 k1'), iteT (zGo_in hZ (by have := hn.1; omega)) (bindS g2 k2), k3, ((f2.fr.kp).trans (g3.kp.trans (zKp.uS (by decide)))).trans k4⟩
  have z1 := h.size
  have hn := h.nums
  obtain ⟨c1, c2, c3, c4, c5⟩ := h.cu
  obtain ⟨d1, d2, d3, d4, d5, d6⟩ := h.zz
  unfold f_Sc_drawSign_j75 f_Rf_draws_j59
  rw [c3, c1, d3]
  by_cases q : r.1 0 11 = 0
  · obtain ⟨p1, r2, f1, f2, f3⟩ := P0_erase h hsh (a := r.1 0 9) (x := r.1 0 2 - 1) (y := r.1 0 2) hn.1 (by omega) (by omega)
    rw [if_neg (show ¬ r.1 0 2 < r.1 0 2 by omega)] at f2
    have hr2 : r2.1 = r.1 := f3.2.2.1
    obtain ⟨s3, r3, k1, k2, k3, k4⟩ := key _ _ f3.1 (by rw [hr2]; exact hsh)
    rw [hr2] at k1
    have ew : w32 (r.1 0 2 - 1) = r.1 0 2 - 1 := w32i (by omega) (by omega)
    have f2' : f_Rf_erases (r.1 0 9) (w32 (r.1 0 2 - 1)) (r.1 0 2) r = some (0, r2) := by rw [ew]; exact f2
    exact ⟨s3, r3, iteF (by simpa using q) (bindS f1 k1), iteF (by simpa using q) (bindS f2' k2), k3, f3.fr.kp.trans k4⟩
  · obtain ⟨s3, r3, k1, k2, k3, k4⟩ := key s r h hsh
    exact ⟨s3, r3, iteT q k1, iteT q k2, k3, k4⟩
theorem S_d00 {s r : zSt} (h : zRel s r) (hsh : r.1 0 8 = 0) {b w v : Int} (hb : 32 ≤ b ∧ b ≤ 126) (hw : (w = 1 ∧ ¬ (65 ≤ b ∧ b ≤ 90)) ∨ (w = 2 ∧ 65 ≤ b ∧ b ≤ 90)) (hv : v = if w = 2 ∧ r.1 0 10 = r.1 0 2 - 1 then 1 else 0) :
    ∃ s1 r1, f_Sc_drawSign_j129 b w (r.1 0 2 - 1) v s = some (0, s1) ∧ f_Rf_draws_j114 b w v r = some (0, r1) ∧ zRel s1 r1 ∧ zKp r r1 := by
  have z1 := h.size
  have hn := h.nums
  unfold f_Sc_drawSign_j129 f_Rf_draws_j114
  by_cases q : v = 0
  · obtain ⟨s1, r1, e1, e2, e3, e4⟩ := S_d20 h hsh hb hw (by have := hn.2.1; grind)
    exact ⟨s1, r1, iteT q e1, iteT q e2, e3, e4⟩
  · have e1 : w32 (r.1 0 2 - 1 - 1) = r.1 0 2 - 2 := by rw [w32i] <;> omega
    have e2 : w32 (r.1 0 2 - 2) = r.1 0 2 - 2 := by rw [w32i] <;> omega
    rw [e1, e2]
    have k := h.col (x := r.1 0 2 - 2) (by omega)
    obtain ⟨s1, r1, f1, f2, f3, f4⟩ := S_d20 k hsh hb hw (by show r.1 0 2 - 2 + w ≤ r.1 0 2; omega)
    exact ⟨s1, r1, iteF q f1, iteF q f2, f3, (zKp.uS (by decide)).trans f4⟩
theorem S_d21 {s r : zSt} (h : zRel s r) (hsh : r.1 0 8 = 1) {b w : Int} (hb : 32 ≤ b ∧ b ≤ 126) (hw : (w = 1 ∧ ¬ (65 ≤ b ∧ b ≤ 90)) ∨ (w = 2 ∧ 65 ≤ b ∧ b ≤ 90)) (hc : r.1 0 10 + w ≤ r.1 0 2) :
    ∃ s1 r1, f_Sc_drawSign_j145_7 b w (r.1 0 2 - 1) s = some (0, s1) ∧ f_Rf_draws_j128 b w r = some (0, r1) ∧ zRel s1 r1 ∧ zKp r r1 := by
  have z1 := h.size
  have hn := h.nums
  have hZ := h.2.1.1
  have hm := h.mo
  obtain ⟨c1, c2, c3, c4, c5⟩ := h.cu
  unfold f_Sc_drawSign_j145_7 f_Rf_draws_j128
  rw [hm.2.2.2.2.2, c1, c2]
  by_cases q : r.1 0 22 = 0
  · obtain ⟨s1, r1, e1, e2, e3, e4⟩ := S_d31 h hsh hb hw hc
    exact ⟨s1, r1, iteT q e1, iteT q e2, e3, e4⟩
  · obtain ⟨p1, r2, f1, f2, f3⟩ := P1_insert h hsh (a := r.1 0 9) (x := r.1 0 10) (k := w) hn.1 hn.2.1 (by omega)
    have hr2 : r2.1 = r.1 := f3.2.2.1
    obtain ⟨s1, r1, e1, e2, e3, e4⟩ := S_d31 f3.1 (by rw [hr2]; exact hsh) hb hw (by rw [hr2]; exact hc)
    rw [hr2] at e1
    have l := L_mR (v := 0) hZ (a := r.1 0 9) (x := r.1 0 10) (k := w) (by have := hn.1; omega) hn.2.1 (by omega) f2
    exact ⟨s1, r1, iteF q (bindS f1 e1), iteF q (bindS l e2), e3, f3.fr.kp.trans e4⟩
theorem S_d11 {s r : zSt} (h : zRel s r) (hsh : r.1 0 8 = 1) {b w : Int} (hb : 32 ≤ b ∧ b ≤ 126) (hw : (w = 1 ∧ ¬ (65 ≤ b ∧ b ≤ 90)) ∨ (w = 2 ∧ 65 ≤ b ∧ b ≤ 90)) :
    ∃ s1 r1, f_Sc_drawSign_j75_9 b w (r.1 0 2 - 1) s = some (0, s1) ∧ f_Rf_draws_j59 b w r = some (0, r1) ∧ zRel s1 r1 ∧ zKp r r1 := by
  have key : ∀ s r : zSt, zRel s r → r.1 0 8 = 1 → ∃ s1 r1, f_Sc_drawSign_j102_10 b w (r.1 0 2 - 1) s = some (0, s1) ∧ f_Rf_draws_j84 b w r = some (0, r1) ∧ zRel s1 r1 ∧ zKp r r1 := by
    intro s r h hsh
    have z1 := h.size
    have hn := h.nums
    have hZ := h.2.1.1
    obtain ⟨c1, c2, c3, c4, c5⟩ := h.cu
    obtain ⟨p1, f1, f2⟩ := P1_going h hsh (a := r.1 0 9) (v := 1) (by have := hn.1; omega) (Or.inr ⟨rfl, hn.1.2⟩)
    obtain ⟨s2, r2, g1, g2, g3⟩ := S_feed f2.1
    have e2 : r2.1 0 2 = r.1 0 2 := g3.2.2.1 2 (by decide) (by decide)
    have k := g3.1.col (x := 0) (by omega)
    obtain ⟨s3, r3, k1, k2, k3, k4⟩ := S_d21 k ((g3.2.2.1 8 (by decide) (by decide)).trans hsh) hb hw (by show (0 : Int) + w ≤ r2.1 0 2; omega)
    have k1' : f_Sc_drawSign_j145_7 b w (r.1 0 2 - 1) (uS s2 12 1 0) = some (0, s3) := by
      rw [← e2]
      exact k1
    unfold f_Sc_drawSign_j102_10 f_Rf_draws_j84
    rw [c1, zGo_w hZ (by have := hn.1; omega)]
    exact ⟨s3, r3, bindS f1 (bindS g1 k1'), iteT (zGo_in hZ (by have := hn.1; omega)) (bindS g2 k2), k3, ((f2.fr.kp).trans (g3.kp.trans (zKp.uS (by decide)))).trans k4⟩
  have z1 := h.size
  have hn := h.nums
  obtain ⟨c1, c2, c3, c4, c5⟩ := h.cu
  obtain ⟨d1, d2, d3, d4, d5, d6⟩ := h.zz
  unfold f_Sc_drawSign_j75_9 f_Rf_draws_j59
  rw [c3, c1, d3]
  by_cases q : r.1 0 11 = 0
  · obtain ⟨p1, r2, f1, f2, f3⟩ := P1_erase h hsh (a := r.1 0 9) (x := r.1 0 2 - 1) (y := r.1 0 2) hn.1 (by omega) (by omega)
    rw [if_neg (show ¬ r.1 0 2 < r.1 0 2 by omega)] at f2
    have hr2 : r2.1 = r.1 := f3.2.2.1
    obtain ⟨s3, r3, k1, k2, k3, k4⟩ := key _ _ f3.1 (by rw [hr2]; exact hsh)
    rw [hr2] at k1
    have ew : w32 (r.1 0 2 - 1) = r.1 0 2 - 1 := w32i (by omega) (by omega)
    have f2' : f_Rf_erases (r.1 0 9) (w32 (r.1 0 2 - 1)) (r.1 0 2) r = some (0, r2) := by rw [ew]; exact f2
    exact ⟨s3, r3, iteF (by simpa using q) (bindS f1 k1), iteF (by simpa using q) (bindS f2' k2), k3, f3.fr.kp.trans k4⟩
  · obtain ⟨s3, r3, k1, k2, k3, k4⟩ := key s r h hsh
    exact ⟨s3, r3, iteT q k1, iteT q k2, k3, k4⟩
theorem S_d01 {s r : zSt} (h : zRel s r) (hsh : r.1 0 8 = 1) {b w v : Int} (hb : 32 ≤ b ∧ b ≤ 126) (hw : (w = 1 ∧ ¬ (65 ≤ b ∧ b ≤ 90)) ∨ (w = 2 ∧ 65 ≤ b ∧ b ≤ 90)) (hv : v = if w = 2 ∧ r.1 0 10 = r.1 0 2 - 1 then 1 else 0) :
    ∃ s1 r1, f_Sc_drawSign_j129_6 b w (r.1 0 2 - 1) v s = some (0, s1) ∧ f_Rf_draws_j114 b w v r = some (0, r1) ∧ zRel s1 r1 ∧ zKp r r1 := by
  have z1 := h.size
  have hn := h.nums
  unfold f_Sc_drawSign_j129_6 f_Rf_draws_j114
  by_cases q : v = 0
  · obtain ⟨s1, r1, e1, e2, e3, e4⟩ := S_d21 h hsh hb hw (by have := hn.2.1; grind)
    exact ⟨s1, r1, iteT q e1, iteT q e2, e3, e4⟩
  · have e1 : w32 (r.1 0 2 - 1 - 1) = r.1 0 2 - 2 := by rw [w32i] <;> omega
    have e2 : w32 (r.1 0 2 - 2) = r.1 0 2 - 2 := by rw [w32i] <;> omega
    rw [e1, e2]
    have k := h.col (x := r.1 0 2 - 2) (by omega)
    obtain ⟨s1, r1, f1, f2, f3, f4⟩ := S_d21 k hsh hb hw (by show r.1 0 2 - 2 + w ≤ r.1 0 2; omega)
    exact ⟨s1, r1, iteF q f1, iteF q f2, f3, (zKp.uS (by decide)).trans f4⟩
theorem S_draw {s r : zSt} (h : zRel s r) {b : Int} (hb : 32 ≤ b ∧ b ≤ 126) :
    ∃ s1 r1, f_Sc_drawSign b s = some (0, s1) ∧ f_Rf_draws b r = some (0, r1) ∧ zRel s1 r1 ∧ zKp r r1 := by
  have z1 := h.size
  have hn := h.nums
  have hm := h.mo
  obtain ⟨c1, c2, c3, c4, c5⟩ := h.cu
  obtain ⟨d1, d2, d3, d4, d5, d6⟩ := h.zz
  obtain ⟨x, hx⟩ : ∃ x : Int, x = (if b < 65 then 0 else if 90 < b then 0 else 1) := ⟨_, rfl⟩
  have hx2 : f_Co_isWide b = some x := by
    unfold f_Co_isWide
    rw [wRem_e (by omega) (by decide), show b % 1000 = b by omega, hx]
  have hx3 : f_Rf_in b 65 90 = some x := by
    rw [c_Rf_in, hx]
  obtain ⟨w, hw⟩ : ∃ w : Int, w = (if x = 0 then 1 else 2) := ⟨_, rfl⟩
  have hw2 : (w = 1 ∧ ¬ (65 ≤ b ∧ b ≤ 90)) ∨ (w = 2 ∧ 65 ≤ b ∧ b ≤ 90) := by grind
  have ew : w32 (r.1 0 2 - 1) = r.1 0 2 - 1 := w32i (by omega) (by omega)
  obtain ⟨v, hv⟩ : ∃ v : Int, v = (if ¬ w = 2 then 0 else if ¬ r.1 0 10 = r.1 0 2 - 1 then 0 else 1) := ⟨_, rfl⟩
  have hv2 : v = if w = 2 ∧ r.1 0 10 = r.1 0 2 - 1 then 1 else 0 := by grind
  unfold f_Sc_drawSign f_Rf_draws
  rw [d1, d3, c2, c3, hm.2.1, ew]
  have fin : ∀ {o1 o2 p1 p2 q1 q2 : Option (Int × zSt)}, (∃ s1 r1, p1 = some (0, s1) ∧ q1 = some (0, r1) ∧ zRel s1 r1 ∧ zKp r r1) → (∃ s1 r1, p2 = some (0, s1) ∧ q2 = some (0, r1) ∧ zRel s1 r1 ∧ zKp r r1) →
      ∃ s1 r1, (if r.1 0 18 = 0 then p1 else if ¬ r.1 0 11 = 0 then p2 else if v = 0 then p1 else p2) = some (0, s1) ∧ (if r.1 0 18 = 0 then q1 else if ¬ r.1 0 11 = 0 then q2 else if v = 0 then q1 else q2) = some (0, r1) ∧ zRel s1 r1 ∧ zKp r r1 := by
    intro _ _ p1 p2 q1 q2 hA hB
    by_cases a1 : r.1 0 18 = 0
    · rw [if_pos a1, if_pos a1]; exact hA
    · rw [if_neg a1, if_neg a1]
      by_cases a2 : ¬ r.1 0 11 = 0
      · rw [if_pos a2, if_pos a2]; exact hB
      · rw [if_neg a2, if_neg a2]
        by_cases a3 : v = 0
        · rw [if_pos a3, if_pos a3]; exact hA
        · rw [if_neg a3, if_neg a3]; exact hB
  rcases h.sh with q8 | q8
  · obtain ⟨s1, r1, e1, e2, e3, e4⟩ := fin (o1 := none) (o2 := none) (S_d00 h q8 hb hw2 hv2) (S_d10 h q8 hb hw2)
    refine ⟨s1, r1, iteT q8 (bindS hx2 ?_), bindS hx3 ?_, e3, e4⟩
    · rw [← hw, ← hv]
      exact e1
    · rw [← hw, ← hv]
      exact e2
  · obtain ⟨s1, r1, e1, e2, e3, e4⟩ := fin (o1 := none) (o2 := none) (S_d01 h q8 hb hw2 hv2) (S_d11 h q8 hb hw2)
    refine ⟨s1, r1, iteF (by omega) (bindS hx2 ?_), bindS hx3 ?_, e3, e4⟩
    · rw [← hw, ← hv]
      exact e1
    · rw [← hw, ← hv]
      exact e2
