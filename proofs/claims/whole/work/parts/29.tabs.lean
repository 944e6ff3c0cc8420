/-! ===== first and second number, regions, tabs ===== -/
theorem zRel.cast {s r r' : zSt} (e : r = r') (h : zRel s r) : zRel s r' := e ▸ h
def zfi (r : zSt) : Int := if r.2 5 0 < 1 then 1 else r.2 5 0
def zsc (r : zSt) : Int := if r.1 0 31 ≤ 1 then 0 else r.2 5 1
theorem zRel.fst {s r : zSt} (h : zRel s r) (ht : 1 ≤ r.1 0 31) : f_Rf_first r = some (zfi r) ∧ f_Re_number 0 (zsb (zsh 14) s) = some (r.2 5 0) ∧ (1 ≤ zfi r ∧ zfi r ≤ 999) ∧ (0 ≤ r.2 5 0 ∧ r.2 5 0 ≤ 999) ∧ zfi r = (if r.2 5 0 < 1 then 1 else r.2 5 0) ∧ 0 < r.1 5 0 := by
  obtain ⟨⟨k1, k2, k3⟩, k4, k5, k6, k7⟩ := h.nu
  have en := h.num (i := 0) (by omega)
  rw [if_pos (by omega)] at en
  have hr := k5 0 (by omega) (by omega) (by omega)
  have ez : zfi r = (if r.2 5 0 < 1 then 1 else r.2 5 0) := rfl
  refine ⟨?_, en, ?_, hr, ez, by omega⟩
  · unfold f_Rf_first
    refine iteT ⟨by decide, by omega⟩ ?_
    by_cases q : r.2 5 0 = 0
    · refine iteF (by simpa using q) ?_
      rw [ez, if_pos (by omega)]
    · refine iteT q (iteT ⟨by decide, by omega⟩ ?_)
      rw [ez, if_neg (by omega)]
  · rw [ez]
    grind
theorem zRel.snd {s r : zSt} (h : zRel s r) (ht : 1 ≤ r.1 0 31) : f_Rf_second r = some (zsc r) ∧ f_Re_number 1 (zsb (zsh 14) s) = some (zsc r) ∧ (0 ≤ zsc r ∧ zsc r ≤ 999) := by
  obtain ⟨⟨k1, k2, k3⟩, k4, k5, k6, k7⟩ := h.nu
  have en := h.num (i := 1) (by omega)
  have ez : zsc r = (if r.1 0 31 ≤ 1 then 0 else r.2 5 1) := rfl
  by_cases q : r.1 0 31 ≤ 1
  · rw [if_neg (by omega)] at en
    rw [if_pos q] at ez
    refine ⟨?_, by rw [ez]; exact en, by rw [ez]; decide⟩
    unfold f_Rf_second
    refine iteT q ?_
    rw [ez]
  · rw [if_pos (by omega)] at en
    rw [if_neg q] at ez
    have hr := k5 1 (by omega) (by omega) (by omega)
    refine ⟨?_, by rw [ez]; exact en, by rw [ez]; exact hr⟩
    unfold f_Rf_second
    refine iteF q (iteT ⟨by decide, by omega⟩ ?_)
    rw [ez]
theorem S_region {s r : zSt} (h : zRel s r) (ht : 1 ≤ r.1 0 31) : ∃ s1 r1, f_Sc_setRegion (uS s 12 2 0) = some (0, s1) ∧ f_Rf_setsRegion r = some (0, r1) ∧ zRel s1 r1 ∧ zKp r r1 := by
  obtain ⟨a1, a2, a3, a4, a5, a6⟩ := h.fst ht
  obtain ⟨b1, b2, b3⟩ := h.snd ht
  have z := h.size
  have hl := h.late (x := 0) (Or.inl rfl)
  obtain ⟨d1, d2, d3, d4, d5, d6⟩ := h.zz
  have key : ∀ k : Int, 0 ≤ k → k ≤ 999 → ∃ s1 r1, f_Sc_setRegion_j39 (zfi r) k (uS s 12 2 0) = some (0, s1) ∧ f_Rf_setsRegion_j23 (zfi r) k r = some (0, r1) ∧ zRel s1 r1 ∧ zKp r r1 := by
    intro k k1 k2
    unfold f_Sc_setRegion_j39 f_Rf_setsRegion_j23
    by_cases q1 : k ≤ zfi r
    · exact ⟨_, _, iteT q1 rfl, iteT q1 rfl, hl, zKp.uS (by decide)⟩
    by_cases q2 : r.1 0 1 < k
    · exact ⟨_, _, iteF q1 (iteF (by show ¬ k ≤ s.1 0 9; omega) rfl), iteF q1 (iteT q2 rfl), hl, zKp.uS (by decide)⟩
    · have e1 : w32 (zfi r - 1) = zfi r - 1 := w32i (by omega) (by omega)
      have e2 : w32 (k - 1) = k - 1 := w32i (by omega) (by omega)
      have hg := hl.regn (x := zfi r - 1) (y := k - 1) (by show 0 ≤ zfi r - 1 ∧ zfi r - 1 < k - 1 ∧ k - 1 < r.1 0 1; omega)
      obtain ⟨s1, e3, e4⟩ := S_goTo hg (a := 1) (b := 1) (by decide) (by decide)
      have eg : zgr (uS (uS (uS r 0 11 0) 0 13 (zfi r - 1)) 0 14 (k - 1)) 1 = if r.1 0 17 = 0 then 0 else zfi r - 1 := by
        show (if r.1 0 17 = 0 then (if r.1 0 1 - 1 < 1 - 1 then r.1 0 1 - 1 else 1 - 1) else (if k - 1 < zfi r - 1 + 1 - 1 then k - 1 else zfi r - 1 + 1 - 1)) = _
        rw [if_neg (show ¬ r.1 0 1 - 1 < 1 - 1 by omega), if_neg (show ¬ k - 1 < zfi r - 1 + 1 - 1 by omega)]
        split <;> omega
      have ec : zgc (uS (uS (uS r 0 11 0) 0 13 (zfi r - 1)) 0 14 (k - 1)) 1 = 0 := by
        show (if r.1 0 2 < 1 then r.1 0 2 - 1 else 1 - 1) = (0 : Int)
        rw [if_neg (by omega)]
        decide
      refine ⟨s1, _, iteF q1 (iteT (by show k ≤ s.1 0 9; omega) ?_), iteF q1 (iteF q2 rfl), ?_, ?_⟩
      · rw [e1, e2]
        exact bindS e3 rfl
      · rw [e1, e2]
        rw [eg, ec] at e4
        refine zRel.cast (zst_ext (fun i j => ?_) (fun _ => rfl)) e4
        simp only [uS1]
      · exact ((((zKp.uS (by decide)).trans (zKp.uS (by decide))).trans (zKp.uS (by decide))).trans (zKp.uS (by decide))).trans (zKp.uS (by decide))
  unfold f_Sc_setRegion f_Rf_setsRegion
  by_cases q : zsc r = 0
  · obtain ⟨s1, r1, e1, e2, e3⟩ := key (r.1 0 1) (by omega) (by omega)
    refine ⟨s1, r1, bindS a2 (bindS b2 (iteF (by simpa using q) ?_)), bindS a1 (bindS b1 (iteF (by simpa using q) e2)), e3⟩
    show f_Sc_setRegion_j39 (if r.2 5 0 < 1 then 1 else r.2 5 0) (s.1 0 9) _ = _
    rw [← a5, d2]
    exact e1
  · obtain ⟨s1, r1, e1, e2, e3⟩ := key (zsc r) (by omega) (by omega)
    refine ⟨s1, r1, bindS a2 (bindS b2 (iteT q (bindS b2 ?_))), bindS a1 (bindS b1 (iteT q (bindS b1 e2))), e3⟩
    rw [← a5]
    exact e1
/-! tabs -/
theorem zRel.tab {s r : zSt} (h : zRel s r) {F : Int → Int} {x : Int} (h1 : ∀ i, F i = 0 ∨ F i = 1) (h2 : 0 ≤ x ∧ x < 16777216) (h3 : ∀ c, 0 ≤ c → c < 24 → F c = zbit x c) (h4 : ∀ c, r.1 0 2 ≤ c → c < 24 → F c = 0) : zRel (uA s 26 F) (uS r 0 15 x) := by
  obtain ⟨hL, ⟨hZ, hg, hs, hm, hv, hr, hk, hh⟩, p0, p1, xh, xu, xm, xv, xz, xt, xr⟩ := h
  exact ⟨hL, ⟨hZ, hg, hs, hm, hv, hr, hk, hh⟩, p0, p1, xh, xu, xm, xv, xz, ⟨h1, h2, h3, h4⟩, xr⟩
theorem S_setTab {s r : zSt} (h : zRel s r) : ∃ s1, f_Sc_setTab (s.1 12 1) 1 s = some (0, s1) ∧ zRel s1 (uS r 0 15 (wOr (r.1 0 15) (wShl 1 (r.1 0 10)))) := by
  obtain ⟨t1, t2, t3, t4⟩ := h.tb
  obtain ⟨c1, c2, c3, c4, c5⟩ := h.cu
  have hc := h.nums.2.1
  have z := h.size
  have h26 : s.1 26 0 = 24 := h.1.2.1.2.2.2.2.2.2
  have hc2 : 0 ≤ r.1 0 10 ∧ r.1 0 10 < 24 := by omega
  refine ⟨uA s 26 (zup (s.2 26) (r.1 0 10) 1), ?_, h.tab (fun i => ?_) (zbit_or t2 hc2 hc2).2 (fun c a b => ?_) (fun c a b => ?_)⟩
  · unfold f_Sc_setTab
    rw [c2]
    exact iteF (by omega) (iteF (by omega) (iteT ⟨by omega, by decide⟩ rfl))
  · have := t1 i
    unfold zup
    clear t1 t2 t3 t4
    grind
  · rw [(zbit_or t2 hc2 ⟨a, b⟩).1]
    have : s.2 26 c = zbit (r.1 0 15) c := t3 c a b
    unfold zup
    clear t1 t2 t3 t4
    grind
  · have := t4 c a b
    unfold zup
    clear t1 t2 t3 t4
    grind
theorem S_clearTab {s r : zSt} (h : zRel s r) : ∃ s1, f_Sc_setTab (s.1 12 1) 0 s = some (0, s1) ∧ zRel s1 (uS r 0 15 (wAnd (r.1 0 15) (wXor (wShl 1 (r.1 0 10)) (-1)))) := by
  obtain ⟨t1, t2, t3, t4⟩ := h.tb
  obtain ⟨c1, c2, c3, c4, c5⟩ := h.cu
  have hc := h.nums.2.1
  have z := h.size
  have h26 : s.1 26 0 = 24 := h.1.2.1.2.2.2.2.2.2
  have hc2 : 0 ≤ r.1 0 10 ∧ r.1 0 10 < 24 := by omega
  refine ⟨uA s 26 (zup (s.2 26) (r.1 0 10) 0), ?_, h.tab (fun i => ?_) (zbit_clr t2 hc2 hc2).2 (fun c a b => ?_) (fun c a b => ?_)⟩
  · unfold f_Sc_setTab
    rw [c2]
    exact iteF (by omega) (iteF (by omega) (iteT ⟨by omega, by decide⟩ rfl))
  · have := t1 i
    unfold zup
    clear t1 t2 t3 t4
    grind
  · rw [(zbit_clr t2 hc2 ⟨a, b⟩).1]
    have : s.2 26 c = zbit (r.1 0 15) c := t3 c a b
    unfold zup
    clear t1 t2 t3 t4
    grind
  · have := t4 c a b
    unfold zup
    clear t1 t2 t3 t4
    grind
theorem S_clearTabs {s r : zSt} (h : zRel s r) (ht : 1 ≤ r.1 0 31) : ∃ s1 r1, f_Sc_clearTabs (r.2 5 0) s = some (0, s1) ∧ f_Rf_meansMore 103 (zfi r) r = some (0, r1) ∧ zRel s1 r1 ∧ zKp r r1 := by
  obtain ⟨a1, a2, a3, a4, a5, a6⟩ := h.fst ht
  have hin : (0 : Int) ≤ 0 ∧ 0 < r.1 5 0 := ⟨by decide, a6⟩
  have h26 : s.1 26 0 = 24 := h.1.2.1.2.2.2.2.2.2
  unfold f_Sc_clearTabs f_Rf_meansMore
  by_cases q0 : r.2 5 0 = 0
  · obtain ⟨s1, e1, e2⟩ := S_clearTab h
    refine ⟨s1, _, iteF (by simpa using q0) (bindS e1 rfl), iteF (by decide) (iteF (by decide) (iteT rfl (iteT hin (iteT (by omega) (iteT hin ?_))))), e2, zKp.uS (by decide)⟩
    rw [if_neg (by simpa using q0)]
  by_cases q3 : r.2 5 0 = 3
  · have hl := zloop_up (step := f_Sc_clearTabs_l26) (r := uA s 26 (zFl (s.2 26) 0 24 0)) 24 (n := zfu) (fun j => ((j : Int), uA s 26 (zFl (s.2 26) 0 (j : Int) 0))) (fun j hj => ?_) ?_ ?_
    · simp only [Int.natCast_zero, zFl_self, uA_id] at hl
      refine ⟨_, _, iteT q0 (iteF (by simpa using q3) (bindS hl rfl)), iteF (by decide) (iteF (by decide) (iteT rfl (iteT hin (iteF (by simpa using q3) rfl)))), h.tab (fun i => ?_) (by decide) (fun c a b => ?_) (fun c a b => ?_), zKp.uS (by decide)⟩
      · have := h.tb.1 i
        unfold zFl
        grind
      · unfold zFl
        rw [if_pos ⟨a, b⟩, zbit_n (by decide)]
        simp
      · unfold zFl
        have := h.size
        rw [if_pos ⟨by omega, b⟩]
    · unfold f_Sc_clearTabs_l26
      refine iteF (by show ¬ (24 : Int) ≤ (j : Int); omega) (iteT (by show (0 : Int) ≤ (j : Int) ∧ (j : Int) < s.1 26 0; omega) ?_)
      refine stepE (by show w32 ((j : Int) + 1) = _; rw [w32i] <;> omega) (fun i => ?_)
      unfold zup zFl
      grind
    · rfl
    · unfold zfu; omega
  · refine ⟨s, _, iteT q0 (iteT q3 rfl), iteF (by decide) (iteF (by decide) (iteT rfl (iteT hin (iteT q3 (iteT hin rfl))))), ?_, zKp.uS (by decide)⟩
    rw [if_pos q0, uS_id]
    exact h
