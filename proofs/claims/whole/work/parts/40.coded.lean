/-! ===== codes ===== -/
theorem C_64 {s r : zSt} (h : zRel s r) (ht : 1 ≤ r.1 0 31) (ht4 : r.1 0 31 ≤ 4) : ∃ s1 r1, f_Sc_coded_j15 64 (uS s 12 2 0) = some (0, s1) ∧ f_Rf_means 64 r = some (0, r1) ∧ zRel s1 r1 ∧ zKp r r1 := by
  obtain ⟨f0, g0, k1, k2, k3, k5⟩ := h.fst ht
  have z := h.size
  have hs := h.nums
  have hrow := hs.1
  have hcol := hs.2.1
  have hZ := h.2.1.1
  have hl := h.late (x := 0) (Or.inl rfl)
  have e0 : f_Re_number 0 (zsb (zsh 14) (uS s 12 2 0)) = some (r.2 5 0) := g0
  obtain ⟨c1, c2, c3, c4, c5⟩ := hl.cu
  obtain ⟨d1, d2, d3, d4, d5, d6⟩ := hl.zz
  have c1' : (uS s 12 2 0).1 12 0 = r.1 0 9 := c1
  have c2' : (uS s 12 2 0).1 12 1 = r.1 0 10 := c2
  have d1' : (uS s 12 2 0).1 0 8 = r.1 0 8 := d1
  have d2' : (uS s 12 2 0).1 0 9 = r.1 0 1 := d2
  have d3' : (uS s 12 2 0).1 0 10 = r.1 0 2 := d3
  have e := c_Rf_movesRight hZ (r := r.1 0 9) (a := r.1 0 10) (k := zfi r) (by omega) hcol (by omega)
  have e' : f_Rf_movesRight (r.1 0 9) (r.1 0 10) (zfi r) (uS r 0 11 0) = some (0, uS (uA r 1 (zIn (r.2 1) (zRo r (r.1 0 9)) (r.1 0 10) (if zfi r < r.1 0 2 - r.1 0 10 then zfi r else r.1 0 2 - r.1 0 10) (r.1 0 2))) 0 11 0) := c_Rf_movesRight (s := uS r 0 11 0) hZ (r := r.1 0 9) (a := r.1 0 10) (k := zfi r) (by omega) hcol (by omega)
  rcases h.sh with q | q
  · obtain ⟨p1, r1, a1, a2, a3⟩ := P0_insert hl q (a := r.1 0 9) (x := r.1 0 10) (k := zfi r) hrow hcol (by omega)
    have er : r1 = _ := (Prod.mk.inj (Option.some.inj (a2.symm.trans e'))).2
    refine ⟨_, _, bindS e0 (iteT rfl (iteT (by rw [d1', q]) (bindS (x := (0, p1)) (by rw [c1', c2', ← k3]; exact a1) rfl))), bindS f0 (iteT rfl (bindS e rfl)), ?_, ?_⟩
    · rw [er] at a3
      exact a3.1
    · rw [er] at a3
      exact (zKp.uS (by decide)).trans a3.fr.kp
  · obtain ⟨p1, r1, a1, a2, a3⟩ := P1_insert hl q (a := r.1 0 9) (x := r.1 0 10) (k := zfi r) hrow hcol (by omega)
    have er : r1 = _ := (Prod.mk.inj (Option.some.inj (a2.symm.trans e'))).2
    refine ⟨_, _, bindS e0 (iteT rfl (iteF (by rw [d1', q]; decide) (bindS (x := (0, p1)) (by rw [c1', c2', ← k3]; exact a1) rfl))), bindS f0 (iteT rfl (bindS e rfl)), ?_, ?_⟩
    · rw [er] at a3
      exact a3.1
    · rw [er] at a3
      exact (zKp.uS (by decide)).trans a3.fr.kp
theorem C_80 {s r : zSt} (h : zRel s r) (ht : 1 ≤ r.1 0 31) (ht4 : r.1 0 31 ≤ 4) : ∃ s1 r1, f_Sc_coded_j15 80 (uS s 12 2 0) = some (0, s1) ∧ f_Rf_means 80 r = some (0, r1) ∧ zRel s1 r1 ∧ zKp r r1 := by
  obtain ⟨f0, g0, k1, k2, k3, k5⟩ := h.fst ht
  have z := h.size
  have hs := h.nums
  have hrow := hs.1
  have hcol := hs.2.1
  have hZ := h.2.1.1
  have hl := h.late (x := 0) (Or.inl rfl)
  have e0 : f_Re_number 0 (zsb (zsh 14) (uS s 12 2 0)) = some (r.2 5 0) := g0
  obtain ⟨c1, c2, c3, c4, c5⟩ := hl.cu
  obtain ⟨d1, d2, d3, d4, d5, d6⟩ := hl.zz
  have c1' : (uS s 12 2 0).1 12 0 = r.1 0 9 := c1
  have c2' : (uS s 12 2 0).1 12 1 = r.1 0 10 := c2
  have d1' : (uS s 12 2 0).1 0 8 = r.1 0 8 := d1
  have d2' : (uS s 12 2 0).1 0 9 = r.1 0 1 := d2
  have d3' : (uS s 12 2 0).1 0 10 = r.1 0 2 := d3
  have e := c_Rf_movesLeft hZ (r := r.1 0 9) (a := r.1 0 10) (k := zfi r) (by omega) hcol (by omega)
  have e' : f_Rf_movesLeft (r.1 0 9) (r.1 0 10) (zfi r) (uS r 0 11 0) = some (0, uS (uA r 1 (zDl (r.2 1) (zRo r (r.1 0 9)) (r.1 0 10) (if zfi r < r.1 0 2 - r.1 0 10 then zfi r else r.1 0 2 - r.1 0 10) (r.1 0 2))) 0 11 0) := c_Rf_movesLeft (s := uS r 0 11 0) hZ (r := r.1 0 9) (a := r.1 0 10) (k := zfi r) (by omega) hcol (by omega)
  rcases h.sh with q | q
  · obtain ⟨p1, r1, a1, a2, a3⟩ := P0_delete hl q (a := r.1 0 9) (x := r.1 0 10) (k := zfi r) hrow hcol (by omega)
    have er : r1 = _ := (Prod.mk.inj (Option.some.inj (a2.symm.trans e'))).2
    refine ⟨_, _, bindS e0 (iteF (by decide) (iteF (by decide) (iteF (by decide) (iteF (by decide) (iteF (by decide) (iteF (by decide) (iteF (by decide) (iteF (by decide) (iteF (by decide) (iteF (by decide) (iteT rfl (iteT (by rw [d1', q]) (bindS (x := (0, p1)) (by rw [c1', c2', ← k3]; exact a1) rfl))))))))))))), bindS f0 (iteF (by decide) (iteF (by decide) (iteF (by decide) (iteF (by decide) (iteF (by decide) (iteF (by decide) (iteF (by decide) (iteF (by decide) (iteF (by decide) (iteF (by decide) (iteT rfl (bindS e rfl)))))))))))), ?_, ?_⟩
    · rw [er] at a3
      exact a3.1
    · rw [er] at a3
      exact (zKp.uS (by decide)).trans a3.fr.kp
  · obtain ⟨p1, r1, a1, a2, a3⟩ := P1_delete hl q (a := r.1 0 9) (x := r.1 0 10) (k := zfi r) hrow hcol (by omega)
    have er : r1 = _ := (Prod.mk.inj (Option.some.inj (a2.symm.trans e'))).2
    refine ⟨_, _, bindS e0 (iteF (by decide) (iteF (by decide) (iteF (by decide) (iteF (by decide) (iteF (by decide) (iteF (by decide) (iteF (by decide) (iteF (by decide) (iteF (by decide) (iteF (by decide) (iteT rfl (iteF (by rw [d1', q]; decide) (bindS (x := (0, p1)) (by rw [c1', c2', ← k3]; exact a1) rfl))))))))))))), bindS f0 (iteF (by decide) (iteF (by decide) (iteF (by decide) (iteF (by decide) (iteF (by decide) (iteF (by decide) (iteF (by decide) (iteF (by decide) (iteF (by decide) (iteF (by decide) (iteT rfl (bindS e rfl)))))))))))), ?_, ?_⟩
    · rw [er] at a3
      exact a3.1
    · rw [er] at a3
      exact (zKp.uS (by decide)).trans a3.fr.kp
theorem C_65 {s r : zSt} (h : zRel s r) (ht : 1 ≤ r.1 0 31) (ht4 : r.1 0 31 ≤ 4) : ∃ s1 r1, f_Sc_coded_j15 65 (uS s 12 2 0) = some (0, s1) ∧ f_Rf_means 65 r = some (0, r1) ∧ zRel s1 r1 ∧ zKp r r1 := by
  obtain ⟨f0, g0, k1, k2, k3, k5⟩ := h.fst ht
  have z := h.size
  have hs := h.nums
  have hrow := hs.1
  have hcol := hs.2.1
  have hZ := h.2.1.1
  have hl := h.late (x := 0) (Or.inl rfl)
  have e0 : f_Re_number 0 (zsb (zsh 14) (uS s 12 2 0)) = some (r.2 5 0) := g0
  obtain ⟨c1, c2, c3, c4, c5⟩ := hl.cu
  obtain ⟨d1, d2, d3, d4, d5, d6⟩ := hl.zz
  have c1' : (uS s 12 2 0).1 12 0 = r.1 0 9 := c1
  have c2' : (uS s 12 2 0).1 12 1 = r.1 0 10 := c2
  have d1' : (uS s 12 2 0).1 0 8 = r.1 0 8 := d1
  have d2' : (uS s 12 2 0).1 0 9 = r.1 0 1 := d2
  have d3' : (uS s 12 2 0).1 0 10 = r.1 0 2 := d3
  have ew : w32 (r.1 0 9 - zfi r) = r.1 0 9 - zfi r := w32i (by omega) (by omega)
  have ez : (if w32 ((uS s 12 2 0).1 12 0 - zfi r) < 0 then 0 else w32 ((uS s 12 2 0).1 12 0 - zfi r)) = (if 0 ≤ w32 (r.1 0 9 - zfi r) then w32 (r.1 0 9 - zfi r) else 0) := by
    rw [c1', ew]
    split <;> split <;> omega
  refine ⟨_, _, bindS e0 (iteF (by decide) (iteT rfl rfl)), bindS f0 (iteF (by decide) (iteT rfl rfl)), ?_, ((zKp.uS (by decide)).trans (zKp.uS (by decide)))⟩
  rw [← k3, ez, uS_comm r 0 9 0 11 _ _ (by decide)]
  exact hl.row (by show 0 ≤ (if 0 ≤ w32 (r.1 0 9 - zfi r) then w32 (r.1 0 9 - zfi r) else 0) ∧ (if 0 ≤ w32 (r.1 0 9 - zfi r) then w32 (r.1 0 9 - zfi r) else 0) < r.1 0 1; rw [ew]; split <;> omega)
theorem C_66 {s r : zSt} (h : zRel s r) (ht : 1 ≤ r.1 0 31) (ht4 : r.1 0 31 ≤ 4) : ∃ s1 r1, f_Sc_coded_j15 66 (uS s 12 2 0) = some (0, s1) ∧ f_Rf_means 66 r = some (0, r1) ∧ zRel s1 r1 ∧ zKp r r1 := by
  obtain ⟨f0, g0, k1, k2, k3, k5⟩ := h.fst ht
  have z := h.size
  have hs := h.nums
  have hrow := hs.1
  have hcol := hs.2.1
  have hZ := h.2.1.1
  have hl := h.late (x := 0) (Or.inl rfl)
  have e0 : f_Re_number 0 (zsb (zsh 14) (uS s 12 2 0)) = some (r.2 5 0) := g0
  obtain ⟨c1, c2, c3, c4, c5⟩ := hl.cu
  obtain ⟨d1, d2, d3, d4, d5, d6⟩ := hl.zz
  have c1' : (uS s 12 2 0).1 12 0 = r.1 0 9 := c1
  have c2' : (uS s 12 2 0).1 12 1 = r.1 0 10 := c2
  have d1' : (uS s 12 2 0).1 0 8 = r.1 0 8 := d1
  have d2' : (uS s 12 2 0).1 0 9 = r.1 0 1 := d2
  have d3' : (uS s 12 2 0).1 0 10 = r.1 0 2 := d3
  have ew : w32 (r.1 0 9 + zfi r) = r.1 0 9 + zfi r := w32i (by omega) (by omega)
  have ew2 : w32 (r.1 0 1 - 1) = r.1 0 1 - 1 := w32i (by omega) (by omega)
  obtain ⟨y, hy⟩ : ∃ y, y = (if r.1 0 1 - 1 ≤ r.1 0 9 + zfi r then r.1 0 1 - 1 else r.1 0 9 + zfi r) := ⟨_, rfl⟩
  have el : f_Rf_lesser (w32 (r.1 0 9 + zfi r)) (w32 (r.1 0 1 - 1)) = some y := by rw [ew, ew2, hy]; rfl
  have ez : (if w32 ((uS s 12 2 0).1 0 9 - 1) < w32 ((uS s 12 2 0).1 12 0 + zfi r) then w32 ((uS s 12 2 0).1 0 9 - 1) else w32 ((uS s 12 2 0).1 12 0 + zfi r)) = y := by
    rw [c1', d2', ew, ew2, hy]
    split <;> split <;> omega
  refine ⟨_, _, bindS e0 (iteF (by decide) (iteF (by decide) (iteT rfl rfl))), bindS f0 (iteF (by decide) (iteF (by decide) (iteT rfl (bindS el rfl)))), ?_, ((zKp.uS (by decide)).trans (zKp.uS (by decide)))⟩
  rw [← k3, ez, uS_comm r 0 9 0 11 _ _ (by decide)]
  exact hl.row (by show 0 ≤ y ∧ y < r.1 0 1; rw [hy]; split <;> omega)
theorem C_67 {s r : zSt} (h : zRel s r) (ht : 1 ≤ r.1 0 31) (ht4 : r.1 0 31 ≤ 4) : ∃ s1 r1, f_Sc_coded_j15 67 (uS s 12 2 0) = some (0, s1) ∧ f_Rf_means 67 r = some (0, r1) ∧ zRel s1 r1 ∧ zKp r r1 := by
  obtain ⟨f0, g0, k1, k2, k3, k5⟩ := h.fst ht
  have z := h.size
  have hs := h.nums
  have hrow := hs.1
  have hcol := hs.2.1
  have hZ := h.2.1.1
  have hl := h.late (x := 0) (Or.inl rfl)
  have e0 : f_Re_number 0 (zsb (zsh 14) (uS s 12 2 0)) = some (r.2 5 0) := g0
  obtain ⟨c1, c2, c3, c4, c5⟩ := hl.cu
  obtain ⟨d1, d2, d3, d4, d5, d6⟩ := hl.zz
  have c1' : (uS s 12 2 0).1 12 0 = r.1 0 9 := c1
  have c2' : (uS s 12 2 0).1 12 1 = r.1 0 10 := c2
  have d1' : (uS s 12 2 0).1 0 8 = r.1 0 8 := d1
  have d2' : (uS s 12 2 0).1 0 9 = r.1 0 1 := d2
  have d3' : (uS s 12 2 0).1 0 10 = r.1 0 2 := d3
  have ew : w32 (r.1 0 10 + zfi r) = r.1 0 10 + zfi r := w32i (by omega) (by omega)
  have ew2 : w32 (r.1 0 2 - 1) = r.1 0 2 - 1 := w32i (by omega) (by omega)
  obtain ⟨y, hy⟩ : ∃ y, y = (if r.1 0 2 - 1 ≤ r.1 0 10 + zfi r then r.1 0 2 - 1 else r.1 0 10 + zfi r) := ⟨_, rfl⟩
  have el : f_Rf_lesser (w32 (r.1 0 10 + zfi r)) (w32 (r.1 0 2 - 1)) = some y := by rw [ew, ew2, hy]; rfl
  have ez : (if w32 ((uS s 12 2 0).1 0 10 - 1) < w32 ((uS s 12 2 0).1 12 1 + zfi r) then w32 ((uS s 12 2 0).1 0 10 - 1) else w32 ((uS s 12 2 0).1 12 1 + zfi r)) = y := by
    rw [c2', d3', ew, ew2, hy]
    split <;> split <;> omega
  refine ⟨_, _, bindS e0 (iteF (by decide) (iteF (by decide) (iteF (by decide) (iteT rfl rfl)))), bindS f0 (iteF (by decide) (iteF (by decide) (iteF (by decide) (iteT rfl (bindS el rfl))))), ?_, ((zKp.uS (by decide)).trans (zKp.uS (by decide)))⟩
  rw [← k3, ez, uS_comm r 0 10 0 11 _ _ (by decide)]
  exact hl.col (by show 0 ≤ y ∧ y < r.1 0 2; rw [hy]; split <;> omega)
theorem C_68 {s r : zSt} (h : zRel s r) (ht : 1 ≤ r.1 0 31) (ht4 : r.1 0 31 ≤ 4) : ∃ s1 r1, f_Sc_coded_j15 68 (uS s 12 2 0) = some (0, s1) ∧ f_Rf_means 68 r = some (0, r1) ∧ zRel s1 r1 ∧ zKp r r1 := by
  obtain ⟨f0, g0, k1, k2, k3, k5⟩ := h.fst ht
  have z := h.size
  have hs := h.nums
  have hrow := hs.1
  have hcol := hs.2.1
  have hZ := h.2.1.1
  have hl := h.late (x := 0) (Or.inl rfl)
  have e0 : f_Re_number 0 (zsb (zsh 14) (uS s 12 2 0)) = some (r.2 5 0) := g0
  obtain ⟨c1, c2, c3, c4, c5⟩ := hl.cu
  obtain ⟨d1, d2, d3, d4, d5, d6⟩ := hl.zz
  have c1' : (uS s 12 2 0).1 12 0 = r.1 0 9 := c1
  have c2' : (uS s 12 2 0).1 12 1 = r.1 0 10 := c2
  have d1' : (uS s 12 2 0).1 0 8 = r.1 0 8 := d1
  have d2' : (uS s 12 2 0).1 0 9 = r.1 0 1 := d2
  have d3' : (uS s 12 2 0).1 0 10 = r.1 0 2 := d3
  have ew : w32 (r.1 0 10 - zfi r) = r.1 0 10 - zfi r := w32i (by omega) (by omega)
  have ez : (if w32 ((uS s 12 2 0).1 12 1 - zfi r) < 0 then 0 else w32 ((uS s 12 2 0).1 12 1 - zfi r)) = (if 0 ≤ w32 (r.1 0 10 - zfi r) then w32 (r.1 0 10 - zfi r) else 0) := by
    rw [c2', ew]
    split <;> split <;> omega
  refine ⟨_, _, bindS e0 (iteF (by decide) (iteF (by decide) (iteF (by decide) (iteF (by decide) (iteT rfl rfl))))), bindS f0 (iteF (by decide) (iteF (by decide) (iteF (by decide) (iteF (by decide) (iteT rfl rfl))))), ?_, ((zKp.uS (by decide)).trans (zKp.uS (by decide)))⟩
  rw [← k3, ez, uS_comm r 0 10 0 11 _ _ (by decide)]
  exact hl.col (by show 0 ≤ (if 0 ≤ w32 (r.1 0 10 - zfi r) then w32 (r.1 0 10 - zfi r) else 0) ∧ (if 0 ≤ w32 (r.1 0 10 - zfi r) then w32 (r.1 0 10 - zfi r) else 0) < r.1 0 2; rw [ew]; split <;> omega)
theorem C_72 {s r : zSt} (h : zRel s r) (ht : 1 ≤ r.1 0 31) (ht4 : r.1 0 31 ≤ 4) : ∃ s1 r1, f_Sc_coded_j15 72 (uS s 12 2 0) = some (0, s1) ∧ f_Rf_means 72 r = some (0, r1) ∧ zRel s1 r1 ∧ zKp r r1 := by
  obtain ⟨f0, g0, k1, k2, k3, k5⟩ := h.fst ht
  have z := h.size
  have hs := h.nums
  have hrow := hs.1
  have hcol := hs.2.1
  have hZ := h.2.1.1
  have hl := h.late (x := 0) (Or.inl rfl)
  have e0 : f_Re_number 0 (zsb (zsh 14) (uS s 12 2 0)) = some (r.2 5 0) := g0
  obtain ⟨c1, c2, c3, c4, c5⟩ := hl.cu
  obtain ⟨d1, d2, d3, d4, d5, d6⟩ := hl.zz
  have c1' : (uS s 12 2 0).1 12 0 = r.1 0 9 := c1
  have c2' : (uS s 12 2 0).1 12 1 = r.1 0 10 := c2
  have d1' : (uS s 12 2 0).1 0 8 = r.1 0 8 := d1
  have d2' : (uS s 12 2 0).1 0 9 = r.1 0 1 := d2
  have d3' : (uS s 12 2 0).1 0 10 = r.1 0 2 := d3
  obtain ⟨b1, b2, b3⟩ := h.snd ht
  have hreg := hs.2.2.2.2.1
  have b4 : f_Re_number 1 (zsb (zsh 14) (uS s 12 2 0)) = some (zsc r) := b2
  have hb : 1 ≤ (if zsc r < 1 then 1 else zsc r) ∧ (if zsc r < 1 then 1 else zsc r) ≤ 9999 := by split <;> omega
  obtain ⟨s1, a1, a2⟩ := S_goTo hl (a := zfi r) (b := if zsc r < 1 then 1 else zsc r) (by omega) hb
  have er : zgr (uS r 0 11 0) (zfi r) = zgr r (zfi r) := rfl
  have ec : zgc (uS r 0 11 0) (if zsc r < 1 then 1 else zsc r) = zgc r (if zsc r < 1 then 1 else zsc r) := rfl
  rw [er, ec] at a2
  have key : ∀ k, k = zgr r (zfi r) → f_Rf_means_j274 k r = some (0, uS (uS (uS r 0 9 (zgr r (zfi r))) 0 10 (zgc r (if zsc r < 1 then 1 else zsc r))) 0 11 0) := by
    intro k hk
    have b5 : f_Rf_second (uS r 0 9 k) = some (zsc r) := b1
    unfold f_Rf_means_j274
    refine bindS b5 ?_
    by_cases q : zsc r = 0
    · refine iteF (by simpa using q) ?_
      rw [hk, show zgc r (if zsc r < 1 then 1 else zsc r) = 0 by unfold zgc; rw [if_pos (show zsc r < 1 by omega), if_neg (by omega)]; decide]
    · have el : f_Rf_lesser (w32 (zsc r - 1)) (w32 (r.1 0 2 - 1)) = some (zgc r (if zsc r < 1 then 1 else zsc r)) := by
        unfold f_Rf_lesser zgc
        rw [w32i (x := zsc r - 1) (by omega) (by omega), w32i (x := r.1 0 2 - 1) (by omega) (by omega), if_neg (show ¬ zsc r < 1 by omega)]
        refine congrArg some ?_
        split <;> split <;> omega
      refine iteT q (bindS b5 (bindS el ?_))
      rw [hk]
  refine ⟨s1, uS (uS (uS r 0 9 (zgr r (zfi r))) 0 10 (zgc r (if zsc r < 1 then 1 else zsc r))) 0 11 0, bindS e0 (iteF (by decide) (iteF (by decide) (iteF (by decide) (iteF (by decide) (iteF (by decide) (iteT rfl (bindS b4 (bindS (x := (0, s1)) (by rw [← k3]; exact a1) rfl)))))))), bindS f0 (iteF (by decide) (iteF (by decide) (iteF (by decide) (iteF (by decide) (iteF (by decide) (iteT rfl ?_)))))), a2.cast ?_, ?_⟩
  · by_cases q : r.1 0 17 = 0
    · have el : f_Rf_lesser (w32 (zfi r - 1)) (w32 (r.1 0 1 - 1)) = some (zgr r (zfi r)) := by
        unfold f_Rf_lesser zgr
        rw [w32i (x := zfi r - 1) (by omega) (by omega), w32i (x := r.1 0 1 - 1) (by omega) (by omega), if_pos q]
        refine congrArg some ?_
        split <;> split <;> omega
      exact iteT q (bindS el (key _ rfl))
    · have el : f_Rf_lesser (w32 (w32 (r.1 0 13 + zfi r) - 1)) (r.1 0 14) = some (zgr r (zfi r)) := by
        unfold f_Rf_lesser zgr
        rw [w32i (x := r.1 0 13 + zfi r) (by omega) (by omega), w32i (x := r.1 0 13 + zfi r - 1) (by omega) (by omega), if_neg q]
        refine congrArg some ?_
        split <;> split <;> omega
      exact iteF q (bindS el (key _ rfl))
  · refine zst_ext (fun i j => ?_) (fun _ => rfl)
    simp only [uS1]
    grind
  · exact ((zKp.uS (by decide)).trans (zKp.uS (by decide))).trans (zKp.uS (by decide))
theorem C_74 {s r : zSt} (h : zRel s r) (ht : 1 ≤ r.1 0 31) (ht4 : r.1 0 31 ≤ 4) : ∃ s1 r1, f_Sc_coded_j15 74 (uS s 12 2 0) = some (0, s1) ∧ f_Rf_means 74 r = some (0, r1) ∧ zRel s1 r1 ∧ zKp r r1 := by
  obtain ⟨f0, g0, k1, k2, k3, k5⟩ := h.fst ht
  have z := h.size
  have hs := h.nums
  have hrow := hs.1
  have hcol := hs.2.1
  have hZ := h.2.1.1
  have hl := h.late (x := 0) (Or.inl rfl)
  have e0 : f_Re_number 0 (zsb (zsh 14) (uS s 12 2 0)) = some (r.2 5 0) := g0
  obtain ⟨c1, c2, c3, c4, c5⟩ := hl.cu
  obtain ⟨d1, d2, d3, d4, d5, d6⟩ := hl.zz
  have c1' : (uS s 12 2 0).1 12 0 = r.1 0 9 := c1
  have c2' : (uS s 12 2 0).1 12 1 = r.1 0 10 := c2
  have d1' : (uS s 12 2 0).1 0 8 = r.1 0 8 := d1
  have d2' : (uS s 12 2 0).1 0 9 = r.1 0 1 := d2
  have d3' : (uS s 12 2 0).1 0 10 = r.1 0 2 := d3
  obtain ⟨s9, s8, r1, r0, _, _, _, a4, _, _⟩ := S_eraseAll h (n := r.2 5 0) k2.1
  have a5 := L_erasesAll h k2.1 (Or.inl rfl : (0 : Int) = 0 ∨ (0 : Int) = 1) a4
  obtain ⟨s1, s2, r2, r3, b1, b2, b3, b4, b5, b6⟩ := S_eraseAll hl (n := r.2 5 0) k2.1
  have er : r2 = uS r1 0 11 0 := (Prod.mk.inj (Option.some.inj (b4.symm.trans a5))).2
  have g1 : f_Re_number 0 (zsb (zsh 14) s1) = some (r.2 5 0) := by
    have e31 : r3.1 0 31 = r.1 0 31 := b2.2.2.1 31 (by decide)
    rw [(b2.1.fst (by omega)).2.1, b2.2.2.2 5 (by decide)]
    rfl
  refine ⟨s2, _, bindS e0 (iteF (by decide) (iteF (by decide) (iteF (by decide) (iteF (by decide) (iteF (by decide) (iteF (by decide) (iteT rfl (bindS e0 (bindS b1 (bindS g1 (bindS b3 rfl))))))))))), bindS f0 (iteF (by decide) (iteF (by decide) (iteF (by decide) (iteF (by decide) (iteF (by decide) (iteF (by decide) (iteT rfl (iteT ⟨by decide, k5⟩ (bindS a4 rfl))))))))), b5.cast er, ?_⟩
  rw [← er]
  exact (zKp.uS (by decide)).trans b6
theorem C_75 {s r : zSt} (h : zRel s r) (ht : 1 ≤ r.1 0 31) (ht4 : r.1 0 31 ≤ 4) : ∃ s1 r1, f_Sc_coded_j15 75 (uS s 12 2 0) = some (0, s1) ∧ f_Rf_means 75 r = some (0, r1) ∧ zRel s1 r1 ∧ zKp r r1 := by
  obtain ⟨f0, g0, k1, k2, k3, k5⟩ := h.fst ht
  have z := h.size
  have hs := h.nums
  have hrow := hs.1
  have hcol := hs.2.1
  have hZ := h.2.1.1
  have hl := h.late (x := 0) (Or.inl rfl)
  have e0 : f_Re_number 0 (zsb (zsh 14) (uS s 12 2 0)) = some (r.2 5 0) := g0
  obtain ⟨c1, c2, c3, c4, c5⟩ := hl.cu
  obtain ⟨d1, d2, d3, d4, d5, d6⟩ := hl.zz
  have c1' : (uS s 12 2 0).1 12 0 = r.1 0 9 := c1
  have c2' : (uS s 12 2 0).1 12 1 = r.1 0 10 := c2
  have d1' : (uS s 12 2 0).1 0 8 = r.1 0 8 := d1
  have d2' : (uS s 12 2 0).1 0 9 = r.1 0 1 := d2
  have d3' : (uS s 12 2 0).1 0 10 = r.1 0 2 := d3
  have h3 : (0 : Int) ≤ 0 ∧ 0 < r.1 5 0 := ⟨by decide, k5⟩
  by_cases q : r.2 5 0 ≤ 2
  · obtain ⟨s1, b1, b2⟩ := S_eraseRow hl (n := r.2 5 0) ⟨k2.1, q⟩
    have a4 := c_Rf_erasesRow hZ hs (n := r.2 5 0) ⟨k2.1, q⟩
    exact ⟨s1, _, bindS e0 (iteF (by decide) (iteF (by decide) (iteF (by decide) (iteF (by decide) (iteF (by decide) (iteF (by decide) (iteF (by decide) (iteT rfl (bindS e0 (bindS b1 rfl)))))))))), bindS f0 (iteF (by decide) (iteF (by decide) (iteF (by decide) (iteF (by decide) (iteF (by decide) (iteF (by decide) (iteF (by decide) (iteT rfl (iteT h3 (iteF (by omega) (iteT h3 (bindS a4 rfl)))))))))))), b2.1, (zKp.uS (by decide)).trans b2.fr.kp⟩
  · have b1 : f_Sc_eraseRow (r.2 5 0) (uS s 12 2 0) = some (0, uS s 12 2 0) := by
      unfold f_Sc_eraseRow
      exact iteF (by omega) (iteF q rfl)
    exact ⟨_, _, bindS e0 (iteF (by decide) (iteF (by decide) (iteF (by decide) (iteF (by decide) (iteF (by decide) (iteF (by decide) (iteF (by decide) (iteT rfl (bindS e0 (bindS b1 rfl)))))))))), bindS f0 (iteF (by decide) (iteF (by decide) (iteF (by decide) (iteF (by decide) (iteF (by decide) (iteF (by decide) (iteF (by decide) (iteT rfl (iteT h3 (iteT (by omega) rfl)))))))))), hl, zKp.uS (by decide)⟩
theorem C_76 {s r : zSt} (h : zRel s r) (ht : 1 ≤ r.1 0 31) (ht4 : r.1 0 31 ≤ 4) : ∃ s1 r1, f_Sc_coded_j15 76 (uS s 12 2 0) = some (0, s1) ∧ f_Rf_means 76 r = some (0, r1) ∧ zRel s1 r1 ∧ zKp r r1 := by
  obtain ⟨f0, g0, k1, k2, k3, k5⟩ := h.fst ht
  have z := h.size
  have hs := h.nums
  have hrow := hs.1
  have hcol := hs.2.1
  have hZ := h.2.1.1
  have hl := h.late (x := 0) (Or.inl rfl)
  have e0 : f_Re_number 0 (zsb (zsh 14) (uS s 12 2 0)) = some (r.2 5 0) := g0
  obtain ⟨c1, c2, c3, c4, c5⟩ := hl.cu
  obtain ⟨d1, d2, d3, d4, d5, d6⟩ := hl.zz
  have c1' : (uS s 12 2 0).1 12 0 = r.1 0 9 := c1
  have c2' : (uS s 12 2 0).1 12 1 = r.1 0 10 := c2
  have d1' : (uS s 12 2 0).1 0 8 = r.1 0 8 := d1
  have d2' : (uS s 12 2 0).1 0 9 = r.1 0 1 := d2
  have d3' : (uS s 12 2 0).1 0 10 = r.1 0 2 := d3
  obtain ⟨s9, r1, _, a2, _, _, _⟩ := S_moveLines h (n := zfi r) (d := 0) k1 (by decide) f0
  have a5 := L_linesMove h (Or.inl rfl : (0 : Int) = 0 ∨ (0 : Int) = 1) a2
  obtain ⟨s1, r2, b1, b2, b3, b4, b5⟩ := S_moveLines hl (n := zfi r) (d := 0) k1 (by decide) f0
  have er : r2 = r1 := (Prod.mk.inj (Option.some.inj (b2.symm.trans a5))).2
  have es : uS s1 12 2 0 = s1 := by
    have : s1.1 12 2 = 0 := b5
    rw [← this]
    exact uS_id s1 12 2
  rw [es] at b3
  refine ⟨s1, r1, bindS e0 (iteF (by decide) (iteF (by decide) (iteF (by decide) (iteF (by decide) (iteF (by decide) (iteF (by decide) (iteF (by decide) (iteF (by decide) (iteT rfl (bindS (x := (0, s1)) (by rw [← k3]; exact b1) rfl)))))))))), bindS f0 (iteF (by decide) (iteF (by decide) (iteF (by decide) (iteF (by decide) (iteF (by decide) (iteF (by decide) (iteF (by decide) (iteF (by decide) (iteT rfl (bindS a2 rfl)))))))))), b3.cast er, ?_⟩
  rw [← er]
  exact (zKp.uS (by decide)).trans b4
theorem C_77 {s r : zSt} (h : zRel s r) (ht : 1 ≤ r.1 0 31) (ht4 : r.1 0 31 ≤ 4) : ∃ s1 r1, f_Sc_coded_j15 77 (uS s 12 2 0) = some (0, s1) ∧ f_Rf_means 77 r = some (0, r1) ∧ zRel s1 r1 ∧ zKp r r1 := by
  obtain ⟨f0, g0, k1, k2, k3, k5⟩ := h.fst ht
  have z := h.size
  have hs := h.nums
  have hrow := hs.1
  have hcol := hs.2.1
  have hZ := h.2.1.1
  have hl := h.late (x := 0) (Or.inl rfl)
  have e0 : f_Re_number 0 (zsb (zsh 14) (uS s 12 2 0)) = some (r.2 5 0) := g0
  obtain ⟨c1, c2, c3, c4, c5⟩ := hl.cu
  obtain ⟨d1, d2, d3, d4, d5, d6⟩ := hl.zz
  have c1' : (uS s 12 2 0).1 12 0 = r.1 0 9 := c1
  have c2' : (uS s 12 2 0).1 12 1 = r.1 0 10 := c2
  have d1' : (uS s 12 2 0).1 0 8 = r.1 0 8 := d1
  have d2' : (uS s 12 2 0).1 0 9 = r.1 0 1 := d2
  have d3' : (uS s 12 2 0).1 0 10 = r.1 0 2 := d3
  obtain ⟨s9, r1, _, a2, _, _, _⟩ := S_moveLines h (n := zfi r) (d := 1) k1 (by decide) f0
  have a5 := L_linesMove h (Or.inl rfl : (0 : Int) = 0 ∨ (0 : Int) = 1) a2
  obtain ⟨s1, r2, b1, b2, b3, b4, b5⟩ := S_moveLines hl (n := zfi r) (d := 1) k1 (by decide) f0
  have er : r2 = r1 := (Prod.mk.inj (Option.some.inj (b2.symm.trans a5))).2
  have es : uS s1 12 2 0 = s1 := by
    have : s1.1 12 2 = 0 := b5
    rw [← this]
    exact uS_id s1 12 2
  rw [es] at b3
  refine ⟨s1, r1, bindS e0 (iteF (by decide) (iteF (by decide) (iteF (by decide) (iteF (by decide) (iteF (by decide) (iteF (by decide) (iteF (by decide) (iteF (by decide) (iteF (by decide) (iteT rfl (bindS (x := (0, s1)) (by rw [← k3]; exact b1) rfl))))))))))), bindS f0 (iteF (by decide) (iteF (by decide) (iteF (by decide) (iteF (by decide) (iteF (by decide) (iteF (by decide) (iteF (by decide) (iteF (by decide) (iteF (by decide) (iteT rfl (bindS a2 rfl))))))))))), b3.cast er, ?_⟩
  rw [← er]
  exact (zKp.uS (by decide)).trans b4
theorem C_88 {s r : zSt} (h : zRel s r) (ht : 1 ≤ r.1 0 31) (ht4 : r.1 0 31 ≤ 4) : ∃ s1 r1, f_Sc_coded_j15 88 (uS s 12 2 0) = some (0, s1) ∧ f_Rf_means 88 r = some (0, r1) ∧ zRel s1 r1 ∧ zKp r r1 := by
  obtain ⟨f0, g0, k1, k2, k3, k5⟩ := h.fst ht
  have z := h.size
  have hs := h.nums
  have hrow := hs.1
  have hcol := hs.2.1
  have hZ := h.2.1.1
  have hl := h.late (x := 0) (Or.inl rfl)
  have e0 : f_Re_number 0 (zsb (zsh 14) (uS s 12 2 0)) = some (r.2 5 0) := g0
  obtain ⟨c1, c2, c3, c4, c5⟩ := hl.cu
  obtain ⟨d1, d2, d3, d4, d5, d6⟩ := hl.zz
  have c1' : (uS s 12 2 0).1 12 0 = r.1 0 9 := c1
  have c2' : (uS s 12 2 0).1 12 1 = r.1 0 10 := c2
  have d1' : (uS s 12 2 0).1 0 8 = r.1 0 8 := d1
  have d2' : (uS s 12 2 0).1 0 9 = r.1 0 1 := d2
  have d3' : (uS s 12 2 0).1 0 10 = r.1 0 2 := d3
  have hy : r.1 0 10 ≤ r.1 0 10 + zfi r ∧ r.1 0 10 + zfi r < 100000 := by omega
  have ew : w32 (r.1 0 10 + zfi r) = r.1 0 10 + zfi r := w32i (by omega) (by omega)
  obtain ⟨y, ey⟩ : ∃ y, y = (if r.1 0 2 < r.1 0 10 + zfi r then r.1 0 2 else r.1 0 10 + zfi r) := ⟨_, rfl⟩
  have hy2 : r.1 0 10 ≤ y ∧ y ≤ r.1 0 2 := by rw [ey]; split <;> omega
  have el : f_Rf_lesser (w32 (r.1 0 10 + zfi r)) (r.1 0 2) = some y := by
    unfold f_Rf_lesser
    rw [ew, ey]
    refine congrArg some ?_
    split <;> split <;> omega
  have e := c_Rf_erases hZ (r := r.1 0 9) (a := r.1 0 10) (b := y) (by omega) (by omega) hy2
  have e' : f_Rf_erases (r.1 0 9) (r.1 0 10) y (uS r 0 11 0) = some (0, uS (uA r 1 (zEr (r.2 1) (zRo r (r.1 0 9)) (r.1 0 10) y (r.1 0 2))) 0 11 0) := c_Rf_erases (s := uS r 0 11 0) hZ (r := r.1 0 9) (a := r.1 0 10) (b := y) (by omega) (show 0 ≤ r.1 0 10 ∧ r.1 0 10 ≤ r.1 0 2 by omega) hy2
  rcases h.sh with q | q
  · obtain ⟨p1, r1, a1, a2, a3⟩ := P0_erase hl q (a := r.1 0 9) (x := r.1 0 10) (y := r.1 0 10 + zfi r) hrow (show 0 ≤ r.1 0 10 ∧ r.1 0 10 ≤ r.1 0 2 by omega) hy
    have a2' : f_Rf_erases (r.1 0 9) (r.1 0 10) y (uS r 0 11 0) = some (0, r1) := by rw [ey]; exact a2
    have er : r1 = _ := (Prod.mk.inj (Option.some.inj (a2'.symm.trans e'))).2
    refine ⟨_, _, bindS e0 (iteF (by decide) (iteF (by decide) (iteF (by decide) (iteF (by decide) (iteF (by decide) (iteF (by decide) (iteF (by decide) (iteF (by decide) (iteF (by decide) (iteF (by decide) (iteF (by decide) (iteF (by decide) (iteF (by decide) (iteT rfl (iteT (by rw [d1', q]) (bindS (x := (0, p1)) (by rw [c1', c2', ← k3, ew]; exact a1) rfl)))))))))))))))), bindS f0 (iteF (by decide) (iteF (by decide) (iteF (by decide) (iteF (by decide) (iteF (by decide) (iteF (by decide) (iteF (by decide) (iteF (by decide) (iteF (by decide) (iteF (by decide) (iteF (by decide) (iteT rfl (bindS el (bindS e rfl)))))))))))))), ?_, ?_⟩
    · rw [er] at a3
      exact a3.1
    · rw [er] at a3
      exact (zKp.uS (by decide)).trans a3.fr.kp
  · obtain ⟨p1, r1, a1, a2, a3⟩ := P1_erase hl q (a := r.1 0 9) (x := r.1 0 10) (y := r.1 0 10 + zfi r) hrow (show 0 ≤ r.1 0 10 ∧ r.1 0 10 ≤ r.1 0 2 by omega) hy
    have a2' : f_Rf_erases (r.1 0 9) (r.1 0 10) y (uS r 0 11 0) = some (0, r1) := by rw [ey]; exact a2
    have er : r1 = _ := (Prod.mk.inj (Option.some.inj (a2'.symm.trans e'))).2
    refine ⟨_, _, bindS e0 (iteF (by decide) (iteF (by decide) (iteF (by decide) (iteF (by decide) (iteF (by decide) (iteF (by decide) (iteF (by decide) (iteF (by decide) (iteF (by decide) (iteF (by decide) (iteF (by decide) (iteF (by decide) (iteF (by decide) (iteT rfl (iteF (by rw [d1', q]; decide) (bindS (x := (0, p1)) (by rw [c1', c2', ← k3, ew]; exact a1) rfl)))))))))))))))), bindS f0 (iteF (by decide) (iteF (by decide) (iteF (by decide) (iteF (by decide) (iteF (by decide) (iteF (by decide) (iteF (by decide) (iteF (by decide) (iteF (by decide) (iteF (by decide) (iteF (by decide) (iteT rfl (bindS el (bindS e rfl)))))))))))))), ?_, ?_⟩
    · rw [er] at a3
      exact a3.1
    · rw [er] at a3
      exact (zKp.uS (by decide)).trans a3.fr.kp
theorem C_83 {s r : zSt} (h : zRel s r) (ht : 1 ≤ r.1 0 31) (ht4 : r.1 0 31 ≤ 4) : ∃ s1 r1, f_Sc_coded_j15 83 s = some (0, s1) ∧ f_Rf_means 83 r = some (0, r1) ∧ zRel s1 r1 ∧ zKp r r1 := by
  obtain ⟨f0, g0, k1, k2, k3, k5⟩ := h.fst ht
  have z := h.size
  have hs := h.nums
  have hrow := hs.1
  have hcol := hs.2.1
  have hZ := h.2.1.1
  have hl := h.late (x := 0) (Or.inl rfl)
  have e0 : f_Re_number 0 (zsb (zsh 14) (uS s 12 2 0)) = some (r.2 5 0) := g0
  obtain ⟨c1, c2, c3, c4, c5⟩ := hl.cu
  obtain ⟨d1, d2, d3, d4, d5, d6⟩ := hl.zz
  have c1' : (uS s 12 2 0).1 12 0 = r.1 0 9 := c1
  have c2' : (uS s 12 2 0).1 12 1 = r.1 0 10 := c2
  have d1' : (uS s 12 2 0).1 0 8 = r.1 0 8 := d1
  have d2' : (uS s 12 2 0).1 0 9 = r.1 0 1 := d2
  have d3' : (uS s 12 2 0).1 0 10 = r.1 0 2 := d3
  have e0 := g0
  obtain ⟨s1, r1, a1, a2, a3, a4⟩ := S_scrollS h (n := zfi r) k1
  exact ⟨s1, r1, bindS e0 (iteF (by decide) (iteF (by decide) (iteF (by decide) (iteF (by decide) (iteF (by decide) (iteF (by decide) (iteF (by decide) (iteF (by decide) (iteF (by decide) (iteF (by decide) (iteF (by decide) (iteT rfl (bindS (x := (0, s1)) (by rw [← k3]; exact a1) rfl))))))))))))), bindS f0 (iteF (by decide) (iteF (by decide) (iteF (by decide) (iteF (by decide) (iteF (by decide) (iteF (by decide) (iteF (by decide) (iteF (by decide) (iteF (by decide) (iteF (by decide) (iteF (by decide) (iteF (by decide) (bindS (x := (0, _)) ((iteT rfl (bindS a2 rfl))) rfl))))))))))))), a3, a4⟩
theorem C_84 {s r : zSt} (h : zRel s r) (ht : 1 ≤ r.1 0 31) (ht4 : r.1 0 31 ≤ 4) : ∃ s1 r1, f_Sc_coded_j15 84 s = some (0, s1) ∧ f_Rf_means 84 r = some (0, r1) ∧ zRel s1 r1 ∧ zKp r r1 := by
  obtain ⟨f0, g0, k1, k2, k3, k5⟩ := h.fst ht
  have z := h.size
  have hs := h.nums
  have hrow := hs.1
  have hcol := hs.2.1
  have hZ := h.2.1.1
  have hl := h.late (x := 0) (Or.inl rfl)
  have e0 : f_Re_number 0 (zsb (zsh 14) (uS s 12 2 0)) = some (r.2 5 0) := g0
  obtain ⟨c1, c2, c3, c4, c5⟩ := hl.cu
  obtain ⟨d1, d2, d3, d4, d5, d6⟩ := hl.zz
  have c1' : (uS s 12 2 0).1 12 0 = r.1 0 9 := c1
  have c2' : (uS s 12 2 0).1 12 1 = r.1 0 10 := c2
  have d1' : (uS s 12 2 0).1 0 8 = r.1 0 8 := d1
  have d2' : (uS s 12 2 0).1 0 9 = r.1 0 1 := d2
  have d3' : (uS s 12 2 0).1 0 10 = r.1 0 2 := d3
  have e0 := g0
  obtain ⟨s1, r1, a1, a2, a3, a4⟩ := S_scrollT h (n := zfi r) k1
  exact ⟨s1, r1, bindS e0 (iteF (by decide) (iteF (by decide) (iteF (by decide) (iteF (by decide) (iteF (by decide) (iteF (by decide) (iteF (by decide) (iteF (by decide) (iteF (by decide) (iteF (by decide) (iteF (by decide) (iteF (by decide) (iteT rfl (bindS (x := (0, s1)) (by rw [← k3]; exact a1) rfl)))))))))))))), bindS f0 (iteF (by decide) (iteF (by decide) (iteF (by decide) (iteF (by decide) (iteF (by decide) (iteF (by decide) (iteF (by decide) (iteF (by decide) (iteF (by decide) (iteF (by decide) (iteF (by decide) (iteF (by decide) (bindS (x := (0, _)) ((iteF (by decide) (iteT rfl (bindS a2 rfl)))) rfl))))))))))))), a3, a4⟩
theorem C_103 {s r : zSt} (h : zRel s r) (ht : 1 ≤ r.1 0 31) (ht4 : r.1 0 31 ≤ 4) : ∃ s1 r1, f_Sc_coded_j15 103 s = some (0, s1) ∧ f_Rf_means 103 r = some (0, r1) ∧ zRel s1 r1 ∧ zKp r r1 := by
  obtain ⟨f0, g0, k1, k2, k3, k5⟩ := h.fst ht
  have z := h.size
  have hs := h.nums
  have hrow := hs.1
  have hcol := hs.2.1
  have hZ := h.2.1.1
  have hl := h.late (x := 0) (Or.inl rfl)
  have e0 : f_Re_number 0 (zsb (zsh 14) (uS s 12 2 0)) = some (r.2 5 0) := g0
  obtain ⟨c1, c2, c3, c4, c5⟩ := hl.cu
  obtain ⟨d1, d2, d3, d4, d5, d6⟩ := hl.zz
  have c1' : (uS s 12 2 0).1 12 0 = r.1 0 9 := c1
  have c2' : (uS s 12 2 0).1 12 1 = r.1 0 10 := c2
  have d1' : (uS s 12 2 0).1 0 8 = r.1 0 8 := d1
  have d2' : (uS s 12 2 0).1 0 9 = r.1 0 1 := d2
  have d3' : (uS s 12 2 0).1 0 10 = r.1 0 2 := d3
  have e0 := g0
  obtain ⟨s1, r1, a1, a2, a3, a4⟩ := S_clearTabs h ht
  exact ⟨s1, r1, bindS e0 (iteF (by decide) (iteF (by decide) (iteF (by decide) (iteF (by decide) (iteF (by decide) (iteF (by decide) (iteF (by decide) (iteF (by decide) (iteF (by decide) (iteF (by decide) (iteF (by decide) (iteF (by decide) (iteF (by decide) (iteF (by decide) (iteT rfl (bindS e0 (bindS a1 rfl))))))))))))))))), bindS f0 (iteF (by decide) (iteF (by decide) (iteF (by decide) (iteF (by decide) (iteF (by decide) (iteF (by decide) (iteF (by decide) (iteF (by decide) (iteF (by decide) (iteF (by decide) (iteF (by decide) (iteF (by decide) (bindS a2 rfl))))))))))))), a3, a4⟩
theorem C_104 {s r : zSt} (h : zRel s r) (ht : 1 ≤ r.1 0 31) (ht4 : r.1 0 31 ≤ 4) : ∃ s1 r1, f_Sc_coded_j15 104 s = some (0, s1) ∧ f_Rf_means 104 r = some (0, r1) ∧ zRel s1 r1 ∧ zKp r r1 := by
  obtain ⟨f0, g0, k1, k2, k3, k5⟩ := h.fst ht
  have z := h.size
  have hs := h.nums
  have hrow := hs.1
  have hcol := hs.2.1
  have hZ := h.2.1.1
  have hl := h.late (x := 0) (Or.inl rfl)
  have e0 : f_Re_number 0 (zsb (zsh 14) (uS s 12 2 0)) = some (r.2 5 0) := g0
  obtain ⟨c1, c2, c3, c4, c5⟩ := hl.cu
  obtain ⟨d1, d2, d3, d4, d5, d6⟩ := hl.zz
  have c1' : (uS s 12 2 0).1 12 0 = r.1 0 9 := c1
  have c2' : (uS s 12 2 0).1 12 1 = r.1 0 10 := c2
  have d1' : (uS s 12 2 0).1 0 8 = r.1 0 8 := d1
  have d2' : (uS s 12 2 0).1 0 9 = r.1 0 1 := d2
  have d3' : (uS s 12 2 0).1 0 10 = r.1 0 2 := d3
  have e0 := g0
  obtain ⟨s1, r1, a1, a2, a3, a4⟩ := S_setInsert h ht4 (b := 104) (by decide)
  exact ⟨s1, r1, bindS e0 (iteF (by decide) (iteF (by decide) (iteF (by decide) (iteF (by decide) (iteF (by decide) (iteF (by decide) (iteF (by decide) (iteF (by decide) (iteF (by decide) (iteF (by decide) (iteF (by decide) (iteF (by decide) (iteF (by decide) (iteF (by decide) (iteF (by decide) (iteT rfl (bindS a1 rfl))))))))))))))))), bindS f0 (iteF (by decide) (iteF (by decide) (iteF (by decide) (iteF (by decide) (iteF (by decide) (iteF (by decide) (iteF (by decide) (iteF (by decide) (iteF (by decide) (iteF (by decide) (iteF (by decide) (iteF (by decide) (bindS (x := (0, r1)) (iteF (by decide) (iteF (by decide) (iteF (by decide) (iteF (by decide) (iteF (by decide) (iteF (by decide) (bindS a2 rfl))))))) rfl))))))))))))), a3, a4⟩
theorem C_108 {s r : zSt} (h : zRel s r) (ht : 1 ≤ r.1 0 31) (ht4 : r.1 0 31 ≤ 4) : ∃ s1 r1, f_Sc_coded_j15 108 s = some (0, s1) ∧ f_Rf_means 108 r = some (0, r1) ∧ zRel s1 r1 ∧ zKp r r1 := by
  obtain ⟨f0, g0, k1, k2, k3, k5⟩ := h.fst ht
  have z := h.size
  have hs := h.nums
  have hrow := hs.1
  have hcol := hs.2.1
  have hZ := h.2.1.1
  have hl := h.late (x := 0) (Or.inl rfl)
  have e0 : f_Re_number 0 (zsb (zsh 14) (uS s 12 2 0)) = some (r.2 5 0) := g0
  obtain ⟨c1, c2, c3, c4, c5⟩ := hl.cu
  obtain ⟨d1, d2, d3, d4, d5, d6⟩ := hl.zz
  have c1' : (uS s 12 2 0).1 12 0 = r.1 0 9 := c1
  have c2' : (uS s 12 2 0).1 12 1 = r.1 0 10 := c2
  have d1' : (uS s 12 2 0).1 0 8 = r.1 0 8 := d1
  have d2' : (uS s 12 2 0).1 0 9 = r.1 0 1 := d2
  have d3' : (uS s 12 2 0).1 0 10 = r.1 0 2 := d3
  have e0 := g0
  obtain ⟨s1, r1, a1, a2, a3, a4⟩ := S_setInsert h ht4 (b := 108) (by decide)
  exact ⟨s1, r1, bindS e0 (iteF (by decide) (iteF (by decide) (iteF (by decide) (iteF (by decide) (iteF (by decide) (iteF (by decide) (iteF (by decide) (iteF (by decide) (iteF (by decide) (iteF (by decide) (iteF (by decide) (iteF (by decide) (iteF (by decide) (iteF (by decide) (iteF (by decide) (iteF (by decide) (iteT rfl (bindS a1 rfl)))))))))))))))))), bindS f0 (iteF (by decide) (iteF (by decide) (iteF (by decide) (iteF (by decide) (iteF (by decide) (iteF (by decide) (iteF (by decide) (iteF (by decide) (iteF (by decide) (iteF (by decide) (iteF (by decide) (iteF (by decide) (bindS (x := (0, r1)) (iteF (by decide) (iteF (by decide) (iteF (by decide) (iteF (by decide) (iteF (by decide) (iteF (by decide) (bindS a2 rfl))))))) rfl))))))))))))), a3, a4⟩
theorem C_109 {s r : zSt} (h : zRel s r) (ht : 1 ≤ r.1 0 31) (ht4 : r.1 0 31 ≤ 4) : ∃ s1 r1, f_Sc_coded_j15 109 s = some (0, s1) ∧ f_Rf_means 109 r = some (0, r1) ∧ zRel s1 r1 ∧ zKp r r1 := by
  obtain ⟨f0, g0, k1, k2, k3, k5⟩ := h.fst ht
  have z := h.size
  have hs := h.nums
  have hrow := hs.1
  have hcol := hs.2.1
  have hZ := h.2.1.1
  have hl := h.late (x := 0) (Or.inl rfl)
  have e0 : f_Re_number 0 (zsb (zsh 14) (uS s 12 2 0)) = some (r.2 5 0) := g0
  obtain ⟨c1, c2, c3, c4, c5⟩ := hl.cu
  obtain ⟨d1, d2, d3, d4, d5, d6⟩ := hl.zz
  have c1' : (uS s 12 2 0).1 12 0 = r.1 0 9 := c1
  have c2' : (uS s 12 2 0).1 12 1 = r.1 0 10 := c2
  have d1' : (uS s 12 2 0).1 0 8 = r.1 0 8 := d1
  have d2' : (uS s 12 2 0).1 0 9 = r.1 0 1 := d2
  have d3' : (uS s 12 2 0).1 0 10 = r.1 0 2 := d3
  have e0 := g0
  obtain ⟨s1, r1, a1, a2, a3, a4⟩ := S_setAttr h ht4
  exact ⟨s1, r1, bindS e0 (iteF (by decide) (iteF (by decide) (iteF (by decide) (iteF (by decide) (iteF (by decide) (iteF (by decide) (iteF (by decide) (iteF (by decide) (iteF (by decide) (iteF (by decide) (iteF (by decide) (iteF (by decide) (iteF (by decide) (iteF (by decide) (iteF (by decide) (iteF (by decide) (iteF (by decide) (iteT rfl (bindS a1 rfl))))))))))))))))))), bindS f0 (iteF (by decide) (iteF (by decide) (iteF (by decide) (iteF (by decide) (iteF (by decide) (iteF (by decide) (iteF (by decide) (iteF (by decide) (iteF (by decide) (iteF (by decide) (iteF (by decide) (iteF (by decide) (bindS (x := (0, _)) ((iteF (by decide) (iteF (by decide) (iteF (by decide) (iteT rfl (bindS a2 rfl)))))) rfl))))))))))))), a3, a4⟩
theorem C_114 {s r : zSt} (h : zRel s r) (ht : 1 ≤ r.1 0 31) (ht4 : r.1 0 31 ≤ 4) : ∃ s1 r1, f_Sc_coded_j15 114 (uS s 12 2 0) = some (0, s1) ∧ f_Rf_means 114 r = some (0, r1) ∧ zRel s1 r1 ∧ zKp r r1 := by
  obtain ⟨f0, g0, k1, k2, k3, k5⟩ := h.fst ht
  have z := h.size
  have hs := h.nums
  have hrow := hs.1
  have hcol := hs.2.1
  have hZ := h.2.1.1
  have hl := h.late (x := 0) (Or.inl rfl)
  have e0 : f_Re_number 0 (zsb (zsh 14) (uS s 12 2 0)) = some (r.2 5 0) := g0
  obtain ⟨c1, c2, c3, c4, c5⟩ := hl.cu
  obtain ⟨d1, d2, d3, d4, d5, d6⟩ := hl.zz
  have c1' : (uS s 12 2 0).1 12 0 = r.1 0 9 := c1
  have c2' : (uS s 12 2 0).1 12 1 = r.1 0 10 := c2
  have d1' : (uS s 12 2 0).1 0 8 = r.1 0 8 := d1
  have d2' : (uS s 12 2 0).1 0 9 = r.1 0 1 := d2
  have d3' : (uS s 12 2 0).1 0 10 = r.1 0 2 := d3
  obtain ⟨s1, r1, a1, a2, a3, a4⟩ := S_region h ht
  exact ⟨s1, r1, bindS e0 (iteF (by decide) (iteF (by decide) (iteF (by decide) (iteF (by decide) (iteF (by decide) (iteF (by decide) (iteF (by decide) (iteF (by decide) (iteF (by decide) (iteF (by decide) (iteF (by decide) (iteF (by decide) (iteF (by decide) (iteF (by decide) (iteF (by decide) (iteF (by decide) (iteF (by decide) (iteF (by decide) (iteF (by decide) (iteT rfl (bindS a1 rfl))))))))))))))))))))), bindS f0 (iteF (by decide) (iteF (by decide) (iteF (by decide) (iteF (by decide) (iteF (by decide) (iteF (by decide) (iteF (by decide) (iteF (by decide) (iteF (by decide) (iteF (by decide) (iteF (by decide) (iteF (by decide) (bindS (x := (0, _)) ((iteF (by decide) (iteF (by decide) (iteF (by decide) (iteF (by decide) (iteF (by decide) (iteT rfl (bindS a2 rfl)))))))) rfl))))))))))))), a3, a4⟩
