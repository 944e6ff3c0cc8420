/-! ===== scrolling ===== -/
/-- what pictures and history alone changed of -/
def zFr (s r s1 r1 : zSt) : Prop := zRel s1 r1 ∧ (∀ i k, ¬ (i = 5 ∧ k = 2) → s1.1 i k = s.1 i k) ∧ (∀ k, k ≠ 7 → r1.1 0 k = r.1 0 k) ∧ ∀ i, 5 ≤ i → r1.2 i = r.2 i
theorem zFr.rf {s r : zSt} (h : zRel s r) : zFr s r s r := ⟨h, fun _ _ _ => rfl, fun _ _ => rfl, fun _ _ => rfl⟩
theorem zFr.trans {s r s1 r1 s2 r2 : zSt} (h : zFr s r s1 r1) (k : zFr s1 r1 s2 r2) : zFr s r s2 r2 := ⟨k.1, fun i j q => (k.2.1 i j q).trans (h.2.1 i j q), fun i q => (k.2.2.1 i q).trans (h.2.2.1 i q), fun i q => (k.2.2.2 i q).trans (h.2.2.2 i q)⟩
theorem zPo.fr {s r s1 r1 : zSt} (h : zPo s r s1 r1) : zFr s r s1 r1 := ⟨h.1, fun i j _ => by rw [h.2.1], fun k _ => by rw [h.2.2.1], fun i q => h.2.2.2 i (by omega)⟩
theorem zHo.fr {s r s1 r1 : zSt} (h : zHo s r s1 r1) : zFr s r s1 r1 := ⟨h.1, h.2.1, h.2.2.1, fun i q => h.2.2.2 i (by omega) (by omega)⟩
theorem zRel.sh {s r : zSt} (h : zRel s r) : r.1 0 8 = 0 ∨ r.1 0 8 = 1 := by
  have := h.2.1.1.2.2.2
  omega
theorem zRel.s8 {s r : zSt} (h : zRel s r) : s.1 0 8 = r.1 0 8 := h.2.2.2.2.2.2.2.2.1.1
theorem zRel.size {s r : zSt} (h : zRel s r) : (2 ≤ r.1 0 1 ∧ r.1 0 1 ≤ 12) ∧ (4 ≤ r.1 0 2 ∧ r.1 0 2 ≤ 24) := ⟨h.2.1.1.2.1, h.2.1.1.2.2.1⟩
theorem zRel.nums {s r : zSt} (h : zRel s r) : zRs r := h.2.1.2.2.1
theorem S_endLatest {s r : zSt} (h : zRel s r) :
    ∃ p r1, f_Hi_endLatest (zsb (zsh 5) s) = some (0, p) ∧ (if r.1 0 7 ≤ 0 then some ((0 : Int), r) else if 0 ≤ w32 (r.1 0 7 - 1) ∧ w32 (r.1 0 7 - 1) < r.1 4 0 then some (0, uE r 4 (w32 (r.1 0 7 - 1)) 0) else none) = some (0, r1) ∧ zFr s r (zpb (zsh 5) 3 s p) r1 := by
  have h0 := h
  obtain ⟨hL, ⟨hZ, hg, hs, hm, hv, hr, hk, hh⟩, p0, p1, xh, xu, xm, xv, xz, xt, xr⟩ := h
  have hn := hs.2.2.2.2.2
  have e5 : s.1 5 2 = r.1 0 7 := xh.1
  have e7 : s.1 7 0 = 40 := hL.1.2.2.2.1
  have er : r.1 4 0 = 40 := hZ.1.2.2.2.1
  unfold f_Hi_endLatest
  show ∃ p r1, (if s.1 5 2 ≤ 0 then _ else if (40 : Int) < s.1 5 2 then _ else if 0 ≤ w32 (s.1 5 2 - 1) ∧ w32 (s.1 5 2 - 1) < s.1 7 0 then some ((0 : Int), uE (zsb (zsh 5) s) 2 (w32 (s.1 5 2 - 1)) 0) else _) = some (0, p) ∧ _ ∧ _
  rw [e5]
  by_cases q : r.1 0 7 ≤ 0
  · refine ⟨_, r, iteT q rfl, iteT q rfl, ?_⟩
    rw [zpb_same]
    exact zFr.rf h0
  · have ew : w32 (r.1 0 7 - 1) = r.1 0 7 - 1 := w32i (by omega) (by omega)
    rw [ew]
    refine ⟨_, _, iteF q (iteF (by omega) (iteT (by omega) rfl)), iteF q (iteT (by omega) rfl), ?_⟩
    unfold uE
    rw [zpb_uA _ _ _ _ _ _ (by omega), zpb_same]
    refine ⟨⟨hL, ⟨hZ, hg, hs, hm, hv, hr, hk, ⟨fun i => ?_, hh.2⟩⟩, p0, p1, ⟨xh.1, xh.2.1, fun i x y => ?_, fun i => ?_⟩, xu, xm, xv, xz, xt, xr⟩, fun _ _ _ => rfl, fun _ _ => rfl, fun i x => uA_a (by omega)⟩
    · show zup (r.2 4) (r.1 0 7 - 1) 0 i = 0 ∨ zup (r.2 4) (r.1 0 7 - 1) 0 i = 1
      have := hh.1 i
      unfold zup
      grind
    · show zup (s.2 7) (r.1 0 7 - 1) 0 i = zup (r.2 4) (r.1 0 7 - 1) 0 i
      have := xh.2.2.1 i x y
      unfold zup
      grind
    · show zup (s.2 7) (r.1 0 7 - 1) 0 i = 0 ∨ zup (s.2 7) (r.1 0 7 - 1) 0 i = 1
      have := xh.2.2.2 i
      unfold zup
      grind
theorem S_end {s r : zSt} (h : zRel s r) {a : Int} (ha : 0 ≤ a ∧ a < 12) :
    ∃ s1 r1, f_Sc_endAbove a s = some (0, s1) ∧ f_Rf_stopsAbove a r = some (0, r1) ∧ zFr s r s1 r1 := by
  have e8 := h.s8
  unfold f_Sc_endAbove f_Rf_stopsAbove
  rw [e8]
  by_cases q : a ≤ 0
  · rcases h.sh with q8 | q8
    · obtain ⟨p, r1, e1, e2, e3⟩ := S_endLatest h
      exact ⟨_, r1, iteT q (iteF (by omega) (bindS e1 rfl)), iteT q (iteF (by omega) e2), e3⟩
    · exact ⟨s, r, iteT q (iteT (by omega) rfl), iteT q (iteT (by omega) rfl), zFr.rf h⟩
  · have hZ := h.2.1.1
    have e24 := hZ.1.2.1
    have ew : w32 (a - 1) = a - 1 := w32i (by omega) (by omega)
    have ew2 : w32 (w32 (w32 (12 * r.1 0 8) + a) - 1) = zGo r (a - 1) := by
      have := hZ.2.2.2
      unfold zGo
      rw [w32i (x := 12 * r.1 0 8) (by omega) (by omega), w32i (x := 12 * r.1 0 8 + a) (by omega) (by omega), w32i (by omega) (by omega)]
      omega
    rw [ew, ew2]
    have hb : 0 ≤ zGo r (a - 1) ∧ zGo r (a - 1) < r.1 2 0 := zGo_in hZ (by omega)
    rcases h.sh with q8 | q8
    · obtain ⟨p1, e1, e2⟩ := P0_going h q8 (a := a - 1) (v := 0) (by omega) (Or.inl rfl)
      exact ⟨_, _, iteF q (iteT q8 (bindS e1 rfl)), iteF q (iteT hb rfl), e2.fr⟩
    · obtain ⟨p1, e1, e2⟩ := P1_going h q8 (a := a - 1) (v := 0) (by omega) (Or.inl rfl)
      exact ⟨_, _, iteF q (iteF (by omega) (bindS e1 rfl)), iteF q (iteT hb rfl), e2.fr⟩
theorem S_j87 {s r : zSt} (h : zRel s r) (hsh : r.1 0 8 = 0) {a b K : Int} (hab : 0 ≤ a ∧ a ≤ b ∧ b < r.1 0 1) :
    ∃ s1 r1, f_Sc_scrollUp_j87 a b K s = some (0, s1) ∧ f_Rf_scrollsUp_j31 a b K r = some (0, r1) ∧ zFr s r s1 r1 := by
  have z1 := h.size
  obtain ⟨p1, r1, r2, e1, e2, e3, e4⟩ := P0_up h hsh (v := K) hab
  unfold f_Sc_scrollUp_j87 f_Rf_scrollsUp_j31
  by_cases q : K = 0
  · obtain ⟨s3, r3, f1, f2, f3⟩ := S_end e4.1 (a := a) (by omega)
    exact ⟨s3, r3, bindS e1 (iteF (by omega) (bindS f1 rfl)), bindS e2 (bindS e3 (iteF (by omega) (bindS f2 rfl))), e4.fr.trans f3⟩
  · exact ⟨_, r2, bindS e1 (iteT q rfl), bindS e2 (bindS e3 (iteT q rfl)), e4.fr⟩
theorem S_j87_1 {s r : zSt} (h : zRel s r) (hsh : r.1 0 8 = 1) {a b K : Int} (hab : 0 ≤ a ∧ a ≤ b ∧ b < r.1 0 1) :
    ∃ s1 r1, f_Sc_scrollUp_j87_1 a b K s = some (0, s1) ∧ f_Rf_scrollsUp_j31 a b K r = some (0, r1) ∧ zFr s r s1 r1 := by
  have z1 := h.size
  obtain ⟨p1, r1, r2, e1, e2, e3, e4⟩ := P1_up h hsh (v := K) hab
  unfold f_Sc_scrollUp_j87_1 f_Rf_scrollsUp_j31
  by_cases q : K = 0
  · obtain ⟨s3, r3, f1, f2, f3⟩ := S_end e4.1 (a := a) (by omega)
    exact ⟨s3, r3, bindS e1 (iteF (by omega) (bindS f1 rfl)), bindS e2 (bindS e3 (iteF (by omega) (bindS f2 rfl))), e4.fr.trans f3⟩
  · exact ⟨_, r2, bindS e1 (iteT q rfl), bindS e2 (bindS e3 (iteT q rfl)), e4.fr⟩
theorem S_scrollUp {s r : zSt} (h : zRel s r) {a b k : Int} (hab : 0 ≤ a ∧ a ≤ b ∧ b < r.1 0 1) :
    ∃ s1 r1, f_Sc_scrollUp a b k s = some (0, s1) ∧ f_Rf_scrollsUp a b k r = some (0, r1) ∧ zFr s r s1 r1 := by
  have e8 := h.s8
  unfold f_Sc_scrollUp f_Rf_scrollsUp
  rw [e8]
  generalize hK : (if k = 0 then (0 : Int) else if ¬ a = 0 then 0 else if ¬ r.1 0 8 = 0 then 0 else 1) = K
  rcases h.sh with q8 | q8
  · by_cases q : K = 0
    · obtain ⟨s1, r1, e1, e2, e3⟩ := S_j87 h q8 (K := K) hab
      exact ⟨s1, r1, iteT q8 (iteT q e1), iteT q e2, e3⟩
    · obtain ⟨p, s1, r1, e1, e2, e3, e4, e5⟩ := S_keep h q8 a b K
      have hr1 : r1.1 0 1 = r.1 0 1 := e5.2.2.1 1 (by decide)
      obtain ⟨s2, r2, f1, f2, f3⟩ := S_j87 e5.1 ((e5.2.2.1 8 (by decide)).trans q8) (a := a) (b := b) (K := K) (by rw [hr1]; exact hab)
      exact ⟨s2, r2, iteT q8 (iteF q (bindS e1 (bindS e2 (bindS e3 f1)))), iteF q (bindS e4 f2), e5.fr.trans f3⟩
  · have q : K = 0 := by
      rw [← hK]
      grind
    obtain ⟨s1, r1, e1, e2, e3⟩ := S_j87_1 h q8 (K := K) hab
    exact ⟨s1, r1, iteF (by omega) (iteT q e1), iteT q e2, e3⟩
theorem S_scrollDown {s r : zSt} (h : zRel s r) {a b : Int} (hab : 0 ≤ a ∧ a ≤ b ∧ b < r.1 0 1) :
    ∃ s1 r1, f_Sc_scrollDown a b s = some (0, s1) ∧ f_Rf_scrollsDown a b r = some (0, r1) ∧ zFr s r s1 r1 := by
  have e8 := h.s8
  have z1 := h.size
  have hZ := h.2.1.1
  have hb := zGo_in hZ (r := b) (by omega)
  unfold f_Sc_scrollDown f_Rf_scrollsDown
  rw [e8]
  rcases h.sh with q8 | q8
  · obtain ⟨p1, r1, r2, e1, e2, e3, e4, e5⟩ := P0_dn h q8 hab
    obtain ⟨s3, r3, f1, f2, f3⟩ := S_end e5.1 (a := a) (by omega)
    have ew : w32 (w32 (12 * r2.1 0 8) + b) = zGo r b := by
      rw [e4]
      exact zGo_w hZ (by omega)
    have hb2 : 0 ≤ w32 (w32 (12 * r2.1 0 8) + b) ∧ w32 (w32 (12 * r2.1 0 8) + b) < r2.1 2 0 := by
      rw [ew, e4]
      exact hb
    refine ⟨s3, r3, iteT q8 (bindS e1 (bindS f1 rfl)), bindS e2 (bindS e3 (iteT hb2 (bindS (x := (0, r3)) ?_ rfl))), e5.fr.trans f3⟩
    show f_Rf_stopsAbove a (uE r2 2 (w32 (w32 (12 * r2.1 0 8) + b)) 0) = _
    rw [ew]
    exact f2
  · obtain ⟨p1, r1, r2, e1, e2, e3, e4, e5⟩ := P1_dn h q8 hab
    obtain ⟨s3, r3, f1, f2, f3⟩ := S_end e5.1 (a := a) (by omega)
    have ew : w32 (w32 (12 * r2.1 0 8) + b) = zGo r b := by
      rw [e4]
      exact zGo_w hZ (by omega)
    have hb2 : 0 ≤ w32 (w32 (12 * r2.1 0 8) + b) ∧ w32 (w32 (12 * r2.1 0 8) + b) < r2.1 2 0 := by
      rw [ew, e4]
      exact hb
    refine ⟨s3, r3, iteF (by omega) (bindS e1 (bindS f1 rfl)), bindS e2 (bindS e3 (iteT hb2 (bindS (x := (0, r3)) ?_ rfl))), e5.fr.trans f3⟩
    show f_Rf_stopsAbove a (uE r2 2 (w32 (w32 (12 * r2.1 0 8) + b)) 0) = _
    rw [ew]
    exact f2
