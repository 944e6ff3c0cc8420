/-! ===== more that does not depend on the late flag ===== -/
theorem L_loop {c : Int × zSt → Option ((Int × zSt) ⊕ zSt)} {I : Int → zSt → Prop} {g : zSt → zSt}
    (hs : ∀ i r, I i r → (∃ j r1, c (i, r) = some (.inl (j, r1)) ∧ c (i, g r) = some (.inl (j, g r1)) ∧ I j r1) ∨ (∃ r1, c (i, r) = some (.inr r1) ∧ c (i, g r) = some (.inr (g r1)))) :
    ∀ (n : Nat) (i : Int) (r r1 : zSt), I i r → zloop c n (i, r) = some r1 → zloop c n (i, g r) = some (g r1)
  | 0, _, _, _, _, h => by cases h
  | n + 1, i, r, r1, hI, h => by
    unfold zloop at h ⊢
    rcases hs i r hI with ⟨j, r2, e1, e2, e3⟩ | ⟨r2, e1, e2⟩
    · rw [e1] at h
      rw [e2]
      exact L_loop hs n j r2 r1 e3 h
    · rw [e1] at h
      rw [e2]
      obtain rfl : r2 = r1 := Option.some.inj h
      rfl
theorem L_linesMove {s r r1 : zSt} (h : zRel s r) {d v : Int} (hv : v = 0 ∨ v = 1) (e : f_Rf_linesMove d r = some (0, r1)) : f_Rf_linesMove d (uS r 0 11 v) = some (0, r1) := by
  have z := h.size
  have hs := h.nums
  have hreg := hs.2.2.2.2.1
  unfold f_Rf_linesMove at e ⊢
  show ((f_Rf_in (r.1 0 9) (r.1 0 13) (r.1 0 14)).bind _) = _
  by_cases q : r.1 0 13 ≤ r.1 0 9 ∧ r.1 0 9 ≤ r.1 0 14
  · have ei : f_Rf_in (r.1 0 9) (r.1 0 13) (r.1 0 14) = some 1 := by
      rw [c_Rf_in]
      grind
    rw [ei, Option.bind_some, if_neg (show ¬ (1 : Int) = 0 by decide)] at e
    refine bindS ei (iteF (by decide) ?_)
    show ((f_Rf_first r).bind fun x3 => (f_Rf_lesser x3 (w32 (w32 (r.1 0 14 - r.1 0 9) + 1))).bind fun x4 => (zloop (f_Rf_linesMove_l37 d) zfu (x4, uS r 0 11 v)).bind fun y5 => some ((0 : Int), uS (uS y5 0 10 0) 0 11 0)) = some (0, r1)
    cases hf : f_Rf_first r with
    | none => rw [hf] at e; cases e
    | some n =>
      rw [hf, Option.bind_some] at e
      rw [Option.bind_some]
      cases hg : f_Rf_lesser n (w32 (w32 (r.1 0 14 - r.1 0 9) + 1)) with
      | none => rw [hg] at e; cases e
      | some k =>
        rw [hg, Option.bind_some] at e
        rw [Option.bind_some]
        cases hl : zloop (f_Rf_linesMove_l37 d) zfu (k, r) with
        | none => rw [hl] at e; cases e
        | some y =>
          rw [hl] at e
          have er : uS (uS y 0 10 0) 0 11 0 = r1 := (Prod.mk.inj (Option.some.inj e)).2
          have k2 := L_loop (c := f_Rf_linesMove_l37 d) (I := fun _ t => ∃ s', zRel s' t ∧ t.1 0 9 = r.1 0 9 ∧ t.1 0 14 = r.1 0 14 ∧ t.1 0 1 = r.1 0 1) (g := fun t => uS t 0 11 v) (fun i t ⟨s', a1, a2, a3, a4⟩ => ?_) zfu k r y ⟨s, h, rfl, rfl, rfl⟩ hl
          · refine bindS k2 ?_
            rw [← er]
            refine congrArg (fun x => some ((0 : Int), x)) (zst_ext (fun i j => ?_) (fun _ => rfl))
            simp only [uS1]
            grind
          · by_cases qi : i ≤ 0
            · refine Or.inr ⟨t, ?_, ?_⟩
              · unfold f_Rf_linesMove_l37
                exact iteT qi rfl
              · unfold f_Rf_linesMove_l37
                exact iteT qi rfl
            · left
              by_cases qd : d = 0
              · obtain ⟨s2, r2, b1, b2, b3⟩ := S_scrollUp a1 (a := t.1 0 9) (b := t.1 0 14) (k := 0) (by omega)
                have b4 := L_scrollsUp a1.2.1 (by omega) hv b2
                refine ⟨w32 (i + (-1)), r2, ?_, ?_, s2, b3.1, (b3.2.2.1 9 (by decide)).trans a2, (b3.2.2.1 14 (by decide)).trans a3, (b3.2.2.1 1 (by decide)).trans a4⟩
                · unfold f_Rf_linesMove_l37
                  exact iteF qi (iteT qd (bindS b2 rfl))
                · unfold f_Rf_linesMove_l37
                  exact iteF qi (iteT qd (bindS b4 rfl))
              · obtain ⟨s2, r2, b1, b2, b3⟩ := S_scrollDown a1 (a := t.1 0 9) (b := t.1 0 14) (by omega)
                have b4 := L_scrollsDown a1.2.1 (by omega) hv b2
                refine ⟨w32 (i + (-1)), r2, ?_, ?_, s2, b3.1, (b3.2.2.1 9 (by decide)).trans a2, (b3.2.2.1 14 (by decide)).trans a3, (b3.2.2.1 1 (by decide)).trans a4⟩
                · unfold f_Rf_linesMove_l37
                  exact iteF qi (iteF qd (bindS b2 rfl))
                · unfold f_Rf_linesMove_l37
                  exact iteF qi (iteF qd (bindS b4 rfl))
  · have ei : f_Rf_in (r.1 0 9) (r.1 0 13) (r.1 0 14) = some 0 := by
      rw [c_Rf_in]
      grind
    rw [ei] at e
    refine bindS ei (iteT rfl ?_)
    rw [uS_uS]
    exact e
theorem zRZ_cg {r t : zSt} (h : zRZ r) (e : t.1 = r.1) : zRZ t := by
  unfold zRZ zRL at h ⊢
  rw [e]
  exact h
theorem zRs_cg {r t : zSt} (h : zRs r) (e : t.1 = r.1) : zRs t := by
  unfold zRs at h ⊢
  rw [e]
  exact h
theorem L_eRow {r : zSt} (hZ : zRZ r) (hs : zRs r) {n v : Int} (hn : 0 ≤ n ∧ n ≤ 2) (hv : v = 0 ∨ v = 1) : f_Rf_erasesRow (r.1 0 9) n (uS r 0 11 v) = some (0, uS (zeR n r) 0 11 v) :=
  c_Rf_erasesRow (r := uS r 0 11 v) hZ ⟨hs.1, hs.2.1, hv, hs.2.2.2⟩ hn
theorem L_erasesAll {s r r1 : zSt} (h : zRel s r) {n v : Int} (hn : 0 ≤ n) (hv : v = 0 ∨ v = 1) (e : f_Rf_erasesAll n r = some (0, r1)) : f_Rf_erasesAll n (uS r 0 11 v) = some (0, uS r1 0 11 v) := by
  have z := h.size
  have key : ∀ t : zSt, zRZ t → zRs t → ∀ t1, zloop (f_Rf_erasesAll_l12 n) zfu (0, t) = some t1 → zloop (f_Rf_erasesAll_l12 n) zfu (0, uS t 0 11 v) = some (uS t1 0 11 v) := by
    intro t hZ hs t1 e
    have z1 := hZ.2.1
    refine L_loop (c := f_Rf_erasesAll_l12 n) (I := fun i u => u.1 = t.1 ∧ 0 ≤ i) (g := fun u => uS u 0 11 v) (fun i u ⟨a1, a2⟩ => ?_) zfu 0 t t1 ⟨rfl, by decide⟩ e
    by_cases qi : t.1 0 1 ≤ i
    · refine Or.inr ⟨u, ?_, ?_⟩
      · unfold f_Rf_erasesAll_l12
        exact iteT (by show u.1 0 1 ≤ i; rw [a1]; exact qi) rfl
      · unfold f_Rf_erasesAll_l12
        exact iteT (by show u.1 0 1 ≤ i; rw [a1]; exact qi) rfl
    have qu : ¬ u.1 0 1 ≤ i := by rw [a1]; exact qi
    by_cases q3 : 3 ≤ n
    · refine Or.inr ⟨u, ?_, ?_⟩
      · unfold f_Rf_erasesAll_l12
        exact iteF qu (iteT q3 rfl)
      · unfold f_Rf_erasesAll_l12
        exact iteF qu (iteT q3 rfl)
    left
    have ew : w32 (i + 1) = i + 1 := w32i (by omega) (by omega)
    have hZu := zRZ_cg hZ a1
    have hsu := zRs_cg hs a1
    by_cases qc : i = u.1 0 9
    · have f1 := c_Rf_erasesRow hZu hsu (n := n) ⟨hn, by omega⟩
      have f2 : f_Rf_erasesRow (u.1 0 9) n (uS u 0 11 v) = some (0, uS (zeR n u) 0 11 v) := L_eRow hZu hsu ⟨hn, by omega⟩ hv
      refine ⟨w32 (i + 1), zeR n u, ?_, ?_, a1, by omega⟩
      · unfold f_Rf_erasesAll_l12
        refine iteF qu (iteF q3 (iteF (by simpa using qc) (bindS (x := (0, zeR n u)) ?_ rfl)))
        show f_Rf_erasesRow i n u = _
        rw [qc]
        exact f1
      · unfold f_Rf_erasesAll_l12
        refine iteF qu (iteF q3 (iteF (not_not_intro qc) (bindS (x := (0, uS (zeR n u) 0 11 v)) ?_ rfl)))
        show f_Rf_erasesRow i n (uS u 0 11 v) = _
        rw [qc]
        exact f2
    · have f1 := c_Rf_emptiesRow hZu (a := i) (by omega)
      have f2 : f_Rf_emptiesRow i (uS u 0 11 v) = some (0, uS (zcR i u) 0 11 v) := c_Rf_emptiesRow (s := uS u 0 11 v) hZu (a := i) (by omega)
      by_cases q2 : n = 2
      · refine ⟨w32 (i + 1), zcR i u, ?_, ?_, a1, by omega⟩
        · unfold f_Rf_erasesAll_l12
          exact iteF qu (iteF q3 (iteT qc (iteT q2 (bindS f1 rfl))))
        · unfold f_Rf_erasesAll_l12
          exact iteF qu (iteF q3 (iteT qc (iteT q2 (bindS f2 rfl))))
      by_cases q4 : (if ¬ n = 0 then (0 : Int) else 1) = (if i ≤ u.1 0 9 then 0 else 1)
      · refine ⟨w32 (i + 1), zcR i u, ?_, ?_, a1, by omega⟩
        · unfold f_Rf_erasesAll_l12
          exact iteF qu (iteF q3 (iteT qc (iteF q2 (iteF (fun q => q q4) (bindS f1 rfl)))))
        · unfold f_Rf_erasesAll_l12
          exact iteF qu (iteF q3 (iteT qc (iteF q2 (iteF (fun q => q q4) (bindS f2 rfl)))))
      · refine ⟨w32 (i + 1), u, ?_, ?_, a1, by omega⟩
        · unfold f_Rf_erasesAll_l12
          exact iteF qu (iteF q3 (iteT qc (iteF q2 (iteT q4 rfl))))
        · unfold f_Rf_erasesAll_l12
          exact iteF qu (iteF q3 (iteT qc (iteF q2 (iteT q4 rfl))))
  have hZ := h.2.1.1
  have hs := h.nums
  unfold f_Rf_erasesAll f_Rf_erasesAll_j10 at e ⊢
  by_cases q3 : n = 3
  · rw [if_neg (by simpa using q3)] at e ⊢
    cases hl : zloop (f_Rf_erasesAll_l12 n) zfu (0, uS r 0 7 0) with
    | none => rw [hl] at e; cases e
    | some y =>
      rw [hl] at e
      have er : y = r1 := (Prod.mk.inj (Option.some.inj e)).2
      have k := key (uS r 0 7 0) hZ ⟨hs.1, hs.2.1, hs.2.2.1, hs.2.2.2.1, hs.2.2.2.2.1, (by decide : (0 : Int) ≤ 0 ∧ (0 : Int) ≤ 40)⟩ y hl
      rw [uS_comm r 0 11 0 7 _ _ (by decide)]
      refine bindS k ?_
      rw [er]
  · rw [if_pos q3] at e ⊢
    cases hl : zloop (f_Rf_erasesAll_l12 n) zfu (0, r) with
    | none => rw [hl] at e; cases e
    | some y =>
      rw [hl] at e
      have er : y = r1 := (Prod.mk.inj (Option.some.inj e)).2
      have k := key r hZ hs y hl
      refine bindS k ?_
      rw [er]
