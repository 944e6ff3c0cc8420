/-! ===== size() on the screen ===== -/
theorem S_resize {s r : zSt} (h : zRel s r) {R w : Int} (hR : 2 ≤ R ∧ R ≤ 12) (hw : 4 ≤ w ∧ w ≤ 24) : ∃ s1 r1 n, f_Sc_resize R w s = some (0, s1) ∧ f_Rf_size R w r = some (n, r1) ∧ n = r1.1 0 7 ∧ zRel s1 r1 ∧ r1.1 0 0 = 0 ∧ (∀ k, 40 ≤ k → k ≠ 58 → r1.1 0 k = r.1 0 k) ∧ (∀ i, 8 ≤ i → i ≤ 11 → r1.2 i = r.2 i) ∧ (∀ i, 0 ≤ i → i < 288 → r1.2 12 i = 0) ∧ (r1.1 0 1 = R ∧ r1.1 0 2 = w) ∧ zAn s s1 := by
  have h0 : zRel s (uS r 0 0 0) := h
  have hsz := h.size
  have hnum := h.nums
  have hn1 := hnum.1
  have hn2 := hnum.2.1
  have hcu := h.cu
  have hzz := h.zz
  have hsv := h.sv
  have hZ := h0.2.1.1
  have hg := h0.2.1.2.1
  have hk := h0.2.1.2.2.2.2.2.2.1.2
  have ht := h.tb.2.1
  have hbt : ∀ i, s.2 26 i = 0 ∨ s.2 26 i = 1 := h.tb.1
  have bR : f_Rf_in R 2 12 = some 1 := by rw [c_Rf_in, if_neg (by omega), if_neg (by omega)]
  have bw : f_Rf_in w 4 24 = some 1 := by rw [c_Rf_in, if_neg (by omega), if_neg (by omega)]
  have er : w32 (r.1 0 1 - 1) = r.1 0 1 - 1 := w32i (by omega) (by omega)
  have ec : w32 (r.1 0 2 - 1) = r.1 0 2 - 1 := w32i (by omega) (by omega)
  have key : ∀ {n r1}, f_Rf_size_j86 R w (if ¬ r.1 0 8 = 0 then 0 else 1) (if r.1 0 8 = 0 then r.1 0 9 else r.1 0 24) (uS r 0 0 0) = some (n, r1) → f_Rf_size R w r = some (n, r1) := by
    intro n r1 e
    unfold f_Rf_size
    refine bindS bR (iteF (by decide) (bindS bw ?_))
    refine iteT (by decide) ?_
    rcases h.sh with q | q
    · rw [if_pos q] at e
      refine iteF (by rw [if_neg (by simpa using q)]; decide) ?_
      exact e
    · have q' : ¬ r.1 0 8 = 0 := by omega
      rw [if_neg q'] at e
      refine iteT (by rw [if_pos q']) ?_
      obtain ⟨k1, k2, k3⟩ := hsv.2.2.1 q
      refine iteF (by omega) (bindS (c_lesser _ _) ?_)
      rw [er, show (if r.1 0 24 < r.1 0 1 - 1 then r.1 0 24 else r.1 0 1 - 1) = r.1 0 24 by split <;> omega]
      exact e
  rcases h.sh with q | q
  · -- MAIN is shown
    obtain ⟨W, u, o, pl, a, b, F, S, L, G, A, B, hc, H, HG, P, PG, e1, e2, e3, e4, e5, e6, e7⟩ := P_wrap (p := zsb (zsh 1) s) (R := R) (w := w) (cr0 := r.1 0 9) (cc := r.1 0 10) h0.mp h0.nr hR hw h0.rows hnum.1 hnum.2.1 ⟨hcu.1, hcu.2.1⟩
    obtain ⟨n, r1, g1, g2, g3⟩ := R_j123 (m := 1) hZ hg hk ht ⟨hnum.1.1, by show r.1 0 9 < 12; omega⟩ ⟨hnum.2.1.1, by show r.1 0 10 < 24; omega⟩ hR hw e2 e3 e4 e6 (Or.inr rfl)
    have hWs := e7.main
    have hl : (zsb (zsh 1) s).1 11 2 = r.1 0 11 := hcu.2.2.1
    rw [hl] at hWs
    obtain ⟨w1, ⟨w2, w3, w4⟩, ⟨w5, w6, w7⟩, ⟨w8, w9, w10, w11⟩, w12⟩ := hWs
    generalize hsW : zpb (zsh 1) 12 s W = sW at *
    obtain ⟨FF, FG, T, c1, c2, c3, c4, c5⟩ := c_rest (sW := sW) h hR hw (fun i k x => w1 i k (by omega) (by omega) (by omega) (by omega)) w12
    rw [if_pos q] at c5
    obtain ⟨p1, p2, p3, p4, p5, p6, p7, p8, p9, p10, p11, p12, p13, p14, p15⟩ := zRa.pics h0 hR hw e4 e3.2.1 rfl e5 e6 g3 c1 c2
    obtain ⟨x1, x2, x3, x4⟩ := zRa.tb h0 hw g3 c4
    obtain ⟨y1, y2, y3, y4, y5, ⟨y6, y7, y8, y9, y10⟩, ⟨y11, y12, y13⟩, ⟨y14, y15, y16, y17⟩, -⟩ := g3
    have f1 : ∀ i k, zTs i k = false → (zs4 sW R w FF FG T).1 i k = s.1 i k := fun i k z => by
      have zz := zTs_neg z
      rw [zs4_1, if_neg (by omega), if_neg (by omega), if_neg (by omega), if_neg (by omega), if_neg (by omega), if_neg (by omega), w1 i k (by omega) (by omega) (by omega) (by omega)]
    have f2 : ∀ i, 13 ≤ i → zTa i = false → (zs4 sW R w FF FG T).2 i = s.2 i := fun i z z2 => by
      have zz : i ≠ 23 ∧ i ≠ 24 ∧ i ≠ 26 := ⟨fun e => by (rw [e] at z2; exact absurd z2 (by decide)), fun e => by (rw [e] at z2; exact absurd z2 (by decide)), fun e => by (rw [e] at z2; exact absurd z2 (by decide))⟩
      rw [zs4_2, if_neg zz.2.2, if_neg zz.2.1, if_neg zz.1, w12 i z]
    refine ⟨zs4 sW R w FF FG T, r1, n, ?_, key ?_, g2, ?_, y2, fun k z z2 => ?_, fun i z z2 => ?_, y5, ⟨y6, y7⟩, ?_⟩
    · unfold f_Sc_resize
      refine iteT (h.s8.trans q) ?_
      unfold f_Sc_resize_j27
      refine bindS e1 ?_
      dsimp only
      rw [hsW, hzz.2.2.1]
      exact c5
    · rw [if_pos q, if_neg (by simpa using q)]
      unfold f_Rf_size_j86
      exact iteF (by decide) g1
    · refine h.sized hR hw f1 f2 ⟨w2, w3, rfl, rfl, rfl, rfl, rfl, rfl, w4.trans p1⟩ (fun k z => ?_) (fun i z => (y3 i z).trans (funext fun k => by rw [uS1, if_neg z])) y4 ⟨y6, y7, y8, y9, p2⟩ ⟨?_, ?_, ?_⟩ ⟨?_, ?_, ?_⟩ ?_ ?_ (by rw [zs4_2]; show zRC (sW.2 3) _ _; rw [w8]; exact p3) (by rw [zs4_2]; exact p4) p5 p6 (by rw [zs4_2]; show ∀ i, 0 ≤ i → i < 12 → sW.2 4 i = _; rw [w9]; exact p7) (by rw [zs4_2]; exact p8) (by rw [zs4_2]; show ∀ i, sW.2 4 i = 0 ∨ sW.2 4 i = 1; rw [w9]; exact e5.2.2.2.2.2.2) (by rw [zs4_2]; exact c3) p9 (by rw [zs4_2]; show ∀ k, R ≤ k → k < 12 → sW.2 4 k = 0; rw [w9]; exact p10) (by rw [zs4_2]; exact p11) (by rw [zs4_2]; show ∀ i, 0 ≤ i → i < 24 * r1.1 0 7 → sW.2 6 i = _; rw [w10]; exact p12) (by rw [zs4_2]; show ∀ i, 0 ≤ i → i < r1.1 0 7 → sW.2 7 i = _; rw [w11]; exact p13) (by rw [zs4_2]; show ∀ i, sW.2 7 i = 0 ∨ sW.2 7 i = 1; rw [w11]; exact e5.2.2.2.2.2.1) p14 p15 ?_
      · rw [y1 k z, uS1, if_pos rfl, if_neg]
        rintro rfl
        cases z
      · show sW.1 12 0 = _
        rw [w5, y11]
        unfold zrw
        rw [if_neg (by decide)]
      · show sW.1 12 1 = _
        rw [w6, y12]
        unfold zrc
        rw [if_neg (by decide)]
      · show sW.1 12 2 = _
        rw [w7, y13, if_neg (show ¬ (1 : Int) = 0 by decide)]
        rfl
      · rw [y11]
        unfold zrw zst0
        rw [if_neg (by decide)]
        split <;> split <;> omega
      · rw [y12]
        unfold zrc
        rw [if_neg (by decide)]
        omega
      · rw [y13, if_neg (show ¬ (1 : Int) = 0 by decide)]
        split
        · exact Or.inl rfl
        · split
          · exact Or.inl rfl
          · exact Or.inr rfl
      · rw [if_neg (by decide)] at y14 y15 y16 y17
        have e27 := y1 27 rfl
        have e28 := y1 28 rfl
        unfold zXv
        rw [f1 25 3 rfl, f1 25 4 rfl, y14, y15, y16, y17, e27, e28, show (zs4 sW R w FF FG T).1 25 0 = s.1 25 0 from w1 25 0 (by decide) (by omega) (by omega) (by omega), show (zs4 sW R w FF FG T).1 25 1 = s.1 25 1 from w1 25 1 (by decide) (by omega) (by omega) (by omega), show (zs4 sW R w FF FG T).1 25 2 = s.1 25 2 from w1 25 2 (by decide) (by omega) (by omega) (by omega)]
        exact hsv.1
      · rw [if_neg (by decide)] at y14 y15 y16 y17
        have e27 := y1 27 rfl
        have e28 := y1 28 rfl
        have e8 : r1.1 0 8 = r.1 0 8 := y1 8 rfl
        unfold zRv
        rw [y14, y15, y16, y17, e27, e28, e8]
        exact ⟨hsv.2.1, fun z => by omega, hsv.2.2.2⟩
      · unfold zXt
        rw [y7]
        refine ⟨?_, x2, ?_, ?_⟩
        · rw [zs4_2]; exact x1
        · rw [zs4_2]; exact x3
        · rw [zs4_2]; exact x4
    · have hzk : zTk k = false := by
        unfold zTk
        simp only [Bool.or_eq_false_iff, beq_eq_false_iff_ne]
        omega
      rw [y1 k hzk, uS1, if_pos rfl, if_neg (by omega)]
    · have hzk : zTb2 i = false := by
        unfold zTb2
        simp only [Bool.or_eq_false_iff, beq_eq_false_iff_ne]
        omega
      rw [y4 i hzk]
      rfl
    · exact ⟨fun k => f1 20 k rfl, fun k => f1 21 k rfl, f2 21 (by decide) rfl⟩
  · -- OTHER is shown: the saved cursor stays at its cell
    have q' : ¬ r.1 0 8 = 0 := by omega
    obtain ⟨k1, k2, k3⟩ := hsv.2.2.1 q
    obtain ⟨v1, v2, v3, v4, v5⟩ := hsv.1.1 k1
    obtain ⟨z1, z2, z3, z4, z5⟩ := hsv.2.2.2 k1
    obtain ⟨W, u, o, pl, a, b, F, S, L, G, A, B, hc, H, HG, P, PG, e1, e2, e3, e4, e5, e6, e7⟩ := P_wrap (p := zsb (zsl [1, 2, 3, 4, 5, 6, 7, 8, 9, 10, 11, 25]) s) (R := R) (w := w) (cr0 := r.1 0 24) (cc := r.1 0 25) h0.mpo h0.nr hR hw h0.rows ⟨z1.1, k2⟩ ⟨z2.1, k3⟩ ⟨v1, v2⟩
    obtain ⟨n, r1, g1, g2, g3⟩ := R_j123 (m := 0) hZ hg hk ht ⟨hnum.1.1, by show r.1 0 9 < 12; omega⟩ ⟨hnum.2.1.1, by show r.1 0 10 < 24; omega⟩ hR hw e2 e3 e4 e6 (Or.inl rfl)
    have hWs := e7.other
    have hl : (zsb (zsl [1, 2, 3, 4, 5, 6, 7, 8, 9, 10, 11, 25]) s).1 11 2 = r.1 0 26 := v3
    rw [hl] at hWs
    obtain ⟨w1, ⟨w2, w3, w4⟩, ⟨w5, w6, w7⟩, ⟨w8, w9, w10, w11⟩, w12⟩ := hWs
    generalize hsW : zpb (zsl [1, 2, 3, 4, 5, 6, 7, 8, 9, 10, 11, 25]) 12 s W = sW at *
    obtain ⟨FF, FG, T, c1, c2, c3, c4, c5⟩ := c_rest (sW := sW) h hR hw (fun i k x => w1 i k (by omega) (by omega) (by omega) (by omega)) w12
    rw [if_neg q', w1 12 0 (by decide) (by omega) (by omega) (by omega), w1 12 1 (by decide) (by omega) (by omega) (by omega), hcu.1, hcu.2.1] at c5
    obtain ⟨p1, p2, p3, p4, p5, p6, p7, p8, p9, p10, p11, p12, p13, p14, p15⟩ := zRa.pics h0 hR hw e4 e3.2.1 rfl e5 e6 g3 c1 c2
    obtain ⟨x1, x2, x3, x4⟩ := zRa.tb h0 hw g3 c4
    obtain ⟨y1, y2, y3, y4, y5, ⟨y6, y7, y8, y9, y10⟩, ⟨y11, y12, y13⟩, ⟨y14, y15, y16, y17⟩, -⟩ := g3
    generalize hrow : (if R - 1 < r.1 0 9 then R - 1 else r.1 0 9) = row at *
    generalize hcol : (if w - 1 < r.1 0 10 then w - 1 else r.1 0 10) = col at *
    have f0 : ∀ i k, ¬ (i = 12 ∧ (k = 0 ∨ k = 1 ∨ k = 2)) → (uS (uS (uS (zs4 sW R w FF FG T) 12 0 row) 12 1 col) 12 2 0).1 i k = (zs4 sW R w FF FG T).1 i k := fun i k z => by
      rw [uS1, uS1, uS1]
      by_cases y : i = 12
      · rw [if_pos y, if_neg (by omega), if_pos y, if_neg (by omega), if_pos y, if_neg (by omega)]
      · rw [if_neg y, if_neg y, if_neg y]
    have f1 : ∀ i k, zTs i k = false → (uS (uS (uS (zs4 sW R w FF FG T) 12 0 row) 12 1 col) 12 2 0).1 i k = s.1 i k := fun i k z => by
      have zz := zTs_neg z
      rw [f0 i k (by omega), zs4_1, if_neg (by omega), if_neg (by omega), if_neg (by omega), if_neg (by omega), if_neg (by omega), if_neg (by omega), w1 i k (by omega) (by omega) (by omega) (by omega)]
    have f2 : ∀ i, 13 ≤ i → zTa i = false → (uS (uS (uS (zs4 sW R w FF FG T) 12 0 row) 12 1 col) 12 2 0).2 i = s.2 i := fun i z z2 => by
      have zz : i ≠ 23 ∧ i ≠ 24 ∧ i ≠ 26 := ⟨fun e => by (rw [e] at z2; exact absurd z2 (by decide)), fun e => by (rw [e] at z2; exact absurd z2 (by decide)), fun e => by (rw [e] at z2; exact absurd z2 (by decide))⟩
      rw [uS2, uS2, uS2, zs4_2, if_neg zz.2.2, if_neg zz.2.1, if_neg zz.1, w12 i z]
    rw [if_pos rfl] at y13 y14 y15 y16 y17
    refine ⟨uS (uS (uS (zs4 sW R w FF FG T) 12 0 row) 12 1 col) 12 2 0, r1, n, ?_, key ?_, g2, ?_, y2, fun k z z2 => ?_, fun i z z2 => ?_, y5, ⟨y6, y7⟩, ?_⟩
    · unfold f_Sc_resize
      refine iteF (by rw [h.s8]; exact q') ?_
      unfold f_Sc_resize_j27_1
      refine bindS e1 ?_
      dsimp only
      rw [hsW, hzz.2.2.1]
      exact c5
    · rw [if_neg q', if_pos q']
      unfold f_Rf_size_j86
      refine iteT rfl (iteF (by show ¬ r.1 0 23 = 0; omega) (bindS (c_lesser _ _) ?_))
      rw [show (if (uS r 0 0 0).1 0 25 < w32 ((uS r 0 0 0).1 0 2 - 1) then (uS r 0 0 0).1 0 25 else w32 ((uS r 0 0 0).1 0 2 - 1)) = r.1 0 25 by
        show (if r.1 0 25 < w32 (r.1 0 2 - 1) then r.1 0 25 else w32 (r.1 0 2 - 1)) = _
        rw [ec]
        split <;> omega]
      exact g1
    · refine h.sized hR hw f1 f2 ⟨w2, w3, rfl, rfl, rfl, rfl, rfl, rfl, w4.trans p1⟩ (fun k z => ?_) (fun i z => (y3 i z).trans (funext fun k => by rw [uS1, if_neg z])) y4 ⟨y6, y7, y8, y9, p2⟩ ⟨?_, ?_, ?_⟩ ⟨?_, ?_, ?_⟩ ?_ ?_ (by show zRC (sW.2 3) _ _; rw [w8]; exact p3) p4 p5 p6 (by show ∀ i, 0 ≤ i → i < 12 → sW.2 4 i = _; rw [w9]; exact p7) p8 (by show ∀ i, sW.2 4 i = 0 ∨ sW.2 4 i = 1; rw [w9]; exact e5.2.2.2.2.2.2) c3 p9 (by show ∀ k, R ≤ k → k < 12 → sW.2 4 k = 0; rw [w9]; exact p10) p11 (by show ∀ i, 0 ≤ i → i < 24 * r1.1 0 7 → sW.2 6 i = _; rw [w10]; exact p12) (by show ∀ i, 0 ≤ i → i < r1.1 0 7 → sW.2 7 i = _; rw [w11]; exact p13) (by show ∀ i, sW.2 7 i = 0 ∨ sW.2 7 i = 1; rw [w11]; exact e5.2.2.2.2.2.1) p14 p15 ?_
      · rw [y1 k z, uS1, if_pos rfl, if_neg]
        rintro rfl
        cases z
      · show row = _
        rw [y11, ← hrow]
        unfold zrw
        rw [if_pos rfl]
        show _ = if r.1 0 9 < R - 1 then r.1 0 9 else R - 1
        split <;> split <;> omega
      · show col = _
        rw [y12, ← hcol]
        unfold zrc
        rw [if_pos rfl]
        show _ = if r.1 0 10 < w - 1 then r.1 0 10 else w - 1
        split <;> split <;> omega
      · show (0 : Int) = _
        rw [y13]
      · rw [y11]
        unfold zrw
        rw [if_pos rfl]
        show 0 ≤ (if r.1 0 9 < R - 1 then r.1 0 9 else R - 1) ∧ (if r.1 0 9 < R - 1 then r.1 0 9 else R - 1) < R
        split <;> omega
      · rw [y12]
        unfold zrc
        rw [if_pos rfl]
        show 0 ≤ (if r.1 0 10 < w - 1 then r.1 0 10 else w - 1) ∧ (if r.1 0 10 < w - 1 then r.1 0 10 else w - 1) < w
        split <;> omega
      · rw [y13]
        exact Or.inl rfl
      · have e27 : r1.1 0 27 = r.1 0 27 := y1 27 rfl
        have e28 : r1.1 0 28 = r.1 0 28 := y1 28 rfl
        unfold zXv
        rw [f1 25 3 rfl, f1 25 4 rfl, y14, y15, y16, y17, e27, e28]
        exact ⟨fun _ => ⟨w5, w6, w7, v4, v5⟩, fun z => absurd z (by decide)⟩
      · have e27 : r1.1 0 27 = r.1 0 27 := y1 27 rfl
        have e28 : r1.1 0 28 = r.1 0 28 := y1 28 rfl
        have hst : 0 ≤ zst0 o R a ∧ zst0 o R a ≤ a ∧ a - zst0 o R a < R := by
          unfold zst0
          split <;> split <;> omega
        unfold zRv
        rw [y14, y15, y16, y17, e27, e28, y6, y7]
        refine ⟨Or.inr rfl, fun _ => ⟨rfl, by omega, by omega⟩, fun _ => ⟨by omega, by omega, ?_, z4, z5⟩⟩
        split
        · exact Or.inl rfl
        · split
          · exact Or.inl rfl
          · exact Or.inr rfl
      · unfold zXt
        rw [y7]
        exact ⟨x1, x2, x3, x4⟩
    · have hzk : zTk k = false := by
        unfold zTk
        simp only [Bool.or_eq_false_iff, beq_eq_false_iff_ne]
        omega
      rw [y1 k hzk, uS1, if_pos rfl, if_neg (by omega)]
    · have hzk : zTb2 i = false := by
        unfold zTb2
        simp only [Bool.or_eq_false_iff, beq_eq_false_iff_ne]
        omega
      rw [y4 i hzk]
      rfl
    · exact ⟨fun k => f1 20 k rfl, fun k => f1 21 k rfl, f2 21 (by decide) rfl⟩
