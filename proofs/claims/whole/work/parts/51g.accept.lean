/-! ===== a typed byte, whole ===== -/
theorem By_add_x {p p1 : zSt} {n : Nat} {l : List Int} {b x : Int} (h : zBy p n l) (hn : n < 1000) (e : f_By_add b p = some (x, p1)) : x = if n ≤ l.length then 0 else 1 := by
  have e0 := By_place h hn (i := l.length) (by have := h.2.2.2.1; omega)
  obtain ⟨h1, h2, h3, h4, h5⟩ := h
  have hin : (0 : Int) ≤ p.1 1 0 := by omega
  by_cases q : n ≤ l.length
  · have : f_By_add b p = some (0, p) := by
      unfold f_By_add
      rw [h3]
      exact bindS e0 (iteT hin (iteT (by omega) rfl))
    rw [this] at e
    rw [if_pos q]
    cases e
    rfl
  · have hw : 0 ≤ zwr (p.1 0 1 + l.length) n ∧ zwr (p.1 0 1 + l.length) n < n := by unfold zwr; split <;> omega
    have : f_By_add b p = some (1, uS (uE p 1 (zwr (p.1 0 1 + l.length) n) b) 0 2 (w32 (l.length + 1))) := by
      unfold f_By_add
      rw [h3]
      exact bindS e0 (iteT hin (iteF (by omega) (iteF (by omega) (iteT hin (iteT (by omega) (iteT (by omega) rfl))))))
    rw [this] at e
    rw [if_neg q]
    cases e
    rfl
/-- what a typed byte leaves alone -/
def zTf (r r' : zSt) : Prop := (∀ k, k = 0 ∨ k = 1 ∨ k = 2 ∨ k = 40 ∨ k = 41 ∨ (52 ≤ k ∧ k ≠ 58) → r'.1 0 k = r.1 0 k) ∧ (∀ i, i = 11 ∨ i = 12 → r'.2 i = r.2 i) ∧ (w32 (r.1 0 49) = r.1 0 49 → w32 (r'.1 0 49) = r'.1 0 49)
theorem zTf.rf (r : zSt) : zTf r r := ⟨fun _ _ => rfl, fun _ _ => rfl, fun h => h⟩
theorem zTf.trans {r r1 r2 : zSt} (h : zTf r r1) (k : zTf r1 r2) : zTf r r2 := ⟨fun i a => (k.1 i a).trans (h.1 i a), fun i a => (k.2.1 i a).trans (h.2.1 i a), fun x => k.2.2 (h.2.2 x)⟩
theorem zYp.tf {r r1 : zSt} (h : zYp r r1) : zTf r r1 := ⟨fun k a => h.1 k (by omega), fun i a => h.2 i (by omega), fun x => by rw [h.1 49 (by omega)]; exact x⟩
theorem zEk.tf {r r1 : zSt} (h : zEk r r1) : zTf r r1 := h.ty.tf
section ZJU
variable {X : List Int → List Int → zSt → List Int → Prop} {q r : zSt} {ln hd l : List Int}
/-- single numbers of the line rule change -/
theorem J_cell (hX : zXok X) (h : zJ X q r ln hd l) {q' r' : zSt} (hq : ∀ i k, ¬ (i = 0 ∧ 4 ≤ k) → q'.1 i k = q.1 i k) (hq2 : q'.2 = q.2) (hr : ∀ i k, ¬ (i = 0 ∧ (k = 0 ∨ k = 40 ∨ k = 41 ∨ k = 42 ∨ 49 ≤ k)) → r'.1 i k = r.1 i k) (hr2 : ∀ i, i ≤ 10 → r'.2 i = r.2 i)
    (c : q'.1 0 4 = r'.1 0 40 ∧ q'.1 0 5 = r'.1 0 41 ∧ q'.1 0 6 = r'.1 0 42 ∧ q'.1 0 7 = r'.1 0 49 ∧ q'.1 0 8 = r'.1 0 50) (d : z01 (r'.1 0 40) ∧ z01 (r'.1 0 41) ∧ z01 (r'.1 0 42)) : zJ X q' r' ln hd l := by
  obtain ⟨⟨⟨a1, a2⟩, ⟨b1, b2⟩, -, -, e, f⟩, hO, pg, m, x1, x3, x4, x5, x6, x7⟩ := h
  have hl : zLin r r' := ⟨fun k x y => hr 0 k (by omega), fun i x => funext fun k => hr i k (by omega), fun i x => hr2 i (by omega)⟩
  have g : ∀ o n l, zBy (zsb (zsh o) q) n l → zBy (zsb (zsh o) q') n l := fun o n l k => by
    refine zBy_cg k ?_ ?_ ?_ ?_
    · exact hq _ _ (by omega)
    · exact hq _ _ (by omega)
    · exact hq _ _ (by omega)
    · show q'.2 _ = q.2 _
      rw [hq2]
  refine ⟨⟨⟨g 1 _ _ a1, ?_⟩, ⟨g 3 _ _ b1, ?_⟩, c, d, e, f⟩, hO.lin hl (by rw [hr 0 48 (by omega)]; exact hO.2), pg, m, hX.1 _ _ _ _ _ x1 hl, g 5 _ _ x3, ?_, g 7 _ _ x5, x6, x7⟩
  · rw [hr 0 46 (by omega), hr2 9 (by decide)]; exact a2
  · rw [hr 0 44 (by omega), hr2 8 (by decide)]; exact b2
  · rw [hr 0 48 (by omega), hr2 10 (by decide)]; exact x4
theorem J_53 (hX : zXok X) (h : zJ X q r ln hd l) {k : Nat} (hk : k = 0 ∨ 51 ≤ k) (x : Int) : zJ X q (uS r 0 k x) ln hd l := by
  have c := h.1.2.2.1
  have d := h.1.2.2.2.1
  have e : ∀ j, 40 ≤ j → j ≤ 50 → (uS r 0 k x).1 0 j = r.1 0 j := fun j y1 y2 => by
    rw [uS1, if_pos rfl, if_neg (by omega)]
  refine J_cell hX h (fun _ _ _ => rfl) rfl (fun i j y => ?_) (fun _ _ => rfl) ?_ ?_
  · rw [uS1]
    by_cases z : i = 0
    · rw [if_pos z, if_neg (by omega), z]
    · rw [if_neg z]
  · rw [e 40 (by decide) (by decide), e 41 (by decide) (by decide), e 42 (by decide) (by decide), e 49 (by decide) (by decide), e 50 (by decide) (by decide)]
    exact c
  · rw [e 40 (by decide) (by decide), e 41 (by decide) (by decide), e 42 (by decide) (by decide)]
    exact d
theorem zJ.ln30 (h : zJ X q r ln hd l) : ln.length ≤ 30 := h.1.1.1.2.2.2.1
theorem zJ.hd100 (h : zJ X q r ln hd l) : hd.length ≤ 100 := h.1.2.1.1.2.2.2.1
theorem J_endLine (hX : zXok X) (h : zJ X q r ln hd []) :
    ∃ q' r' hd' l', f_Li_endLine q = some (0, q') ∧ (∃ ra rb rc, f_Rf_givesLine r = some (0, ra) ∧ f_Rf_sends 10 ra = some (0, rb) ∧ f_Rf_echo 13 rb = some (0, rc) ∧ f_Rf_echo 10 rc = some (0, r')) ∧ zJ X q' r' [] hd' l' ∧ l'.length ≤ 2 ∧ hd'.length + l'.length ≤ hd.length + 2 ∧ zTf r r' := by
  obtain ⟨qa, ra, a1, a2, a3, -, a4, -⟩ := J_send hX h
  obtain ⟨x, p, rb, b1, b2, b3, b4⟩ := J_prog hX a3 10
  obtain ⟨qc, rc, hdc, lc, c1, c2, c3, c4, c5, c6⟩ := J_echo hX b3 (by decide) (b := 13) (by decide)
  simp only [List.length_nil] at c4 c5
  obtain ⟨qd, rd, hdd, ld, d1, d2, d3, d4, d5, d6⟩ := J_echo hX c3 (by omega) (b := 10) (by decide)
  refine ⟨qd, rd, hdd, ld, ?_, ⟨ra, rb, rc, a2, b2, c2, d2⟩, d3, by omega, by omega, ((a4.tf.trans b4.yp.tf).trans c6.tf).trans d6.tf⟩
  unfold f_Li_endLine
  exact bindS a1 (bindS b1 (bindS c1 (bindS d1 rfl)))
theorem w32_w32 (x : Int) : w32 (w32 x) = w32 x := w32_of (zin_w32 x)
theorem J_endInput (hX : zXok X) (h : zJ X q r ln hd []) (hw : w32 (r.1 0 49) = r.1 0 49) :
    ∃ q' r', f_Li_endInput q = some (0, q') ∧ f_Rf_givesLine (uS r 0 49 (w32 ((r.1 0 49) + (if ¬ (r.1 0 46) = 0 then 0 else 1)))) = some (0, r') ∧ zJ X q' r' [] hd [] ∧ zTf r r' := by
  have a1 := h.1.1.1
  have a21 := h.1.1.2.1
  have c := h.1.2.2.1
  have d := h.1.2.2.2.1
  by_cases z : ln = []
  · subst z
    have e0 : r.1 0 46 = 0 := a21
    rw [e0, if_neg (by decide)]
    have hJ : zJ X (uS q 0 7 (w32 (q.1 0 7 + 1))) (uS r 0 49 (w32 (r.1 0 49 + 1))) [] hd [] := by
      refine J_cell hX h (fun i k y => ?_) rfl (fun i k y => ?_) (fun _ _ => rfl) ⟨c.1, c.2.1, c.2.2.1, ?_, c.2.2.2.2⟩ d
      · rw [uS1]
        by_cases z : i = 0
        · rw [if_pos z, if_neg (by omega), z]
        · rw [if_neg z]
      · rw [uS1]
        by_cases z : i = 0
        · rw [if_pos z, if_neg (by omega), z]
        · rw [if_neg z]
      · show w32 (q.1 0 7 + 1) = w32 (r.1 0 49 + 1)
        rw [c.2.2.2.1]
    obtain ⟨q', r', g1, g2, g3, -, g4, -⟩ := J_send hX hJ
    refine ⟨q', r', ?_, g2, g3, ⟨fun k y => ?_, fun i y => ?_, fun y => ?_⟩⟩
    · unfold f_Li_endInput
      exact bindS (By_count a1) (iteF (by simp) (bindS g1 rfl))
    · rw [g4.1 k (by omega), uS1, if_pos rfl, if_neg (by omega)]
    · exact g4.2 i (by omega)
    · rw [g4.1 49 (by omega)]
      exact w32_w32 _
  · have hl : 0 < ln.length := List.length_pos_iff.mpr z
    rw [if_pos (by omega), Int.add_zero, hw]
    have hJ : zJ X q (uS r 0 49 (r.1 0 49)) ln hd [] := by
      refine J_cell hX h (fun _ _ _ => rfl) rfl (fun i k y => ?_) (fun _ _ => rfl) c d
      rw [uS1]
      by_cases z : i = 0
      · rw [if_pos z, if_neg (by omega), z]
      · rw [if_neg z]
    obtain ⟨q', r', g1, g2, g3, -, g4, -⟩ := J_send hX hJ
    refine ⟨q', r', ?_, g2, g3, ⟨fun k y => ?_, fun i y => ?_, fun y => ?_⟩⟩
    · unfold f_Li_endInput
      exact bindS (By_count a1) (iteT (by omega) (bindS g1 rfl))
    · rw [g4.1 k (by omega), uS1, if_pos rfl, if_neg (by omega)]
    · exact g4.2 i (by omega)
    · rw [g4.1 49 (by omega)]
      exact hw
theorem J_add (hX : zXok X) (h : zJ X q r ln hd []) {b : Int} (hb : 0 ≤ b ∧ b ≤ 127) :
    ∃ q' r' ln' hd' l', f_Li_addToLine b q = some (0, q') ∧ f_Rf_adds b r = some (0, r') ∧ zJ X q' r' ln' hd' l' ∧ l'.length ≤ 2 ∧ hd'.length + l'.length ≤ hd.length + 2 ∧ ln'.length ≤ ln.length + 1 ∧ zTf r r' := by
  have a1 := h.1.1.1
  have a2 := h.1.1.2
  have a21 := a2.1
  have hn := h.ln30
  have h9 : r.1 9 0 = 30 := h.2.1.rl.2.2.2.2.2.2.2.2.1
  obtain ⟨x, p, g1, g2, g3⟩ := Bo_add (o := 1) a1 (by decide) b
  have gx := By_add_x a1 (by decide) g1
  by_cases z : ln.length = 30
  · rw [if_pos (by omega)] at gx
    rw [List.take_append_of_le_length (by omega), List.take_of_length_le (by omega)] at g2
    have hJ : zJ X (zpb (zsh 1) 2 q p) r ln hd [] := J_line hX h g3 g2 a2 (fun _ _ _ => rfl) (fun _ _ => rfl) (fun _ _ => rfl) h.1.2.2.2.2.1
    obtain ⟨qc, rc, hdc, lc, c1, c2, c3, c4, c5, c6⟩ := J_echo hX hJ (by decide) (b := 7) (by decide)
    simp only [List.length_nil] at c4 c5
    refine ⟨qc, rc, ln, hdc, lc, ?_, ?_, c3, by omega, by omega, by omega, c6.tf⟩
    · unfold f_Li_addToLine
      exact bindS g1 (iteF (by omega) (bindS c1 rfl))
    · unfold f_Rf_adds
      exact iteF (by omega) (bindS c2 rfl)
  · rw [if_neg (by omega)] at gx
    rw [List.take_of_length_le (by simp; omega)] at g2
    have ew : w32 (r.1 0 46 + 1) = r.1 0 46 + 1 := w32i (by omega) (by omega)
    have hJ : zJ X (zpb (zsh 1) 2 q p) (uS (uE r 9 (r.1 0 46) b) 0 46 (r.1 0 46 + 1)) (ln ++ [b]) hd [] := by
      refine J_line hX h g3 g2 (a2.add (b := b)) (fun k k1 k2 => ?_) (fun i i1 => ?_) (fun i i1 => uA_a (by omega)) (h.1.2.2.2.2.1.app (zbs.one hb))
      · rw [uS1, if_pos rfl, if_neg k1]; rfl
      · funext k
        rw [uS1, if_neg i1]; rfl
    have hf : zTf r (uS (uE r 9 (r.1 0 46) b) 0 46 (r.1 0 46 + 1)) := ⟨fun k y => by rw [uS1, if_pos rfl, if_neg (by omega)]; rfl, fun i y => uA_a (by omega), fun y => y⟩
    by_cases y : 32 ≤ b
    · obtain ⟨qc, rc, hdc, lc, c1, c2, c3, c4, c5, c6⟩ := J_echo hX hJ (by decide) hb
      simp only [List.length_nil] at c4 c5
      refine ⟨qc, rc, ln ++ [b], hdc, lc, ?_, ?_, c3, by omega, by omega, by simp, hf.trans c6.tf⟩
      · unfold f_Li_addToLine
        exact bindS g1 (iteT (by omega) (iteT y (bindS c1 rfl)))
      · unfold f_Rf_adds f_Rf_adds_j48
        rw [ew, if_pos (c := 32 ≤ b) y, if_pos (c := 32 ≤ b) y]
        exact iteT (by omega) (iteT (by omega) (bindS c2 rfl))
    · obtain ⟨qc, rc, hdc, lc, c1, c2, c3, c4, c5, c6⟩ := J_echo hX hJ (by decide) (b := 94) (by decide)
      simp only [List.length_nil] at c4 c5
      have eb : w32 (b + 64) = b + 64 := w32i (by omega) (by omega)
      obtain ⟨qd, rd, hdd, ld, d1, d2, d3, d4, d5, d6⟩ := J_echo hX c3 (by omega) (b := b + 64) (by omega)
      refine ⟨qd, rd, ln ++ [b], hdd, ld, ?_, ?_, d3, by omega, by omega, by simp, (hf.trans c6.tf).trans d6.tf⟩
      · unfold f_Li_addToLine
        rw [eb]
        exact bindS g1 (iteT (by omega) (iteF y (bindS c1 (bindS d1 rfl))))
      · unfold f_Rf_adds f_Rf_adds_j48
        rw [ew, eb, if_neg (c := 32 ≤ b) y, if_neg (c := 32 ≤ b) y]
        exact iteT (by omega) (iteT (by omega) (bindS c2 (bindS d2 rfl)))
/-- a typed byte, in class and reference -/
theorem J_accept (hX : zXok X) (h : zJ X q r ln hd []) (hw : w32 (r.1 0 49) = r.1 0 49) {b : Int} (hb : 0 ≤ b ∧ b ≤ 127) :
    ∃ q' r' ln' hd' l', f_Li_accept b q = some (0, q') ∧ f_Rf_types b r = some (0, r') ∧ zJ X q' r' ln' hd' l' ∧ l'.length ≤ 256 ∧ l'.length + hd'.length + 6 * ln'.length ≤ hd.length + 6 * ln.length + 8 ∧ zTf (uS r 0 53 (w32 (r.1 0 53 + 1))) r' ∧ (r.1 0 40 ≠ 0 → ln' = ln) := by
  have hJ0 := J_53 hX h (k := 53) (Or.inr (by decide)) (w32 (r.1 0 53 + 1))
  obtain ⟨r0, hr0⟩ : ∃ r0, r0 = uS r 0 53 (w32 (r.1 0 53 + 1)) := ⟨_, rfl⟩
  have e40 : r0.1 0 40 = r.1 0 40 := by rw [hr0]; rfl
  have e49 : r0.1 0 49 = r.1 0 49 := by rw [hr0]; rfl
  unfold f_Rf_types
  rw [← hr0] at hJ0
  rw [← hr0]
  rw [← e49] at hw
  rw [← e40]
  clear hr0 e40 e49 h
  have c := hJ0.1.2.2.1
  have d := hJ0.1.2.2.2.1
  have hn := hJ0.ln30
  have hh := hJ0.hd100
  unfold f_Li_accept
  rw [c.1]
  by_cases z : r0.1 0 40 = 0
  · suffices hs : ∃ q' r' ln' hd' l', (if b = 3 then
      (f_By_clear (zsb (zsh 1) q)).bind fun x3 =>
      some (0, (uS (zpb (zsh 1) 2 q x3.2) 0 8 (w32 ((q.1 0 8) + 1))))
    else if b = 4 then
      (f_Li_endInput q).bind fun x5 =>
      some (0, x5.2)
    else if b = 10 then
      (f_Li_endLine q).bind fun x7 =>
      some (0, x7.2)
    else if b = 13 then
      (f_Li_endLine q).bind fun x9 =>
      some (0, x9.2)
    else if b = 17 then
      (f_Li_start q).bind fun x11 =>
      some (0, x11.2)
    else if b = 19 then
      some (0, (uS q 0 6 1))
    else if b = 21 then
      (f_Li_takeLineAway q).bind fun x14 =>
      some (0, x14.2)
    else if b = 23 then
      (f_Li_takeWordAway q).bind fun x16 =>
      some (0, x16.2)
    else if b = 127 then
      (f_Li_takeAway q).bind fun x18 =>
      some (0, x18.2)
    else (f_Li_addToLine b q).bind fun x19 =>
    some (0, x19.2)) = some ((0 : Int), q') ∧ f_Rf_edits b r0 = some (0, r') ∧ zJ X q' r' ln' hd' l' ∧ l'.length ≤ 256 ∧ l'.length + hd'.length + 6 * ln'.length ≤ hd.length + 6 * ln.length + 8 ∧ zTf r0 r' by
      obtain ⟨q', r', ln', hd', l', k1, k2, k3, k4, k5, k6⟩ := hs
      exact ⟨q', r', ln', hd', l', iteT z k1, iteT z (bindS k2 rfl), k3, k4, k5, k6, fun y => absurd z y⟩
    unfold f_Rf_edits
    by_cases y3 : b = 3
    · obtain ⟨p, g1, g2, g3⟩ := Bo_clear (o := 1) hJ0.1.1.1
      have hJ1 : zJ X (zpb (zsh 1) 2 q p) (uS r0 0 46 0) [] hd [] := by
        refine J_line hX hJ0 g3 g2 ⟨rfl, fun i hi => absurd hi (Nat.not_lt_zero i)⟩ (fun k k1 k2 => ?_) (fun i i1 => ?_) (fun _ _ => rfl) zbs.nil
        · rw [uS1, if_pos rfl, if_neg k1]
        · funext k
          rw [uS1, if_neg i1]
      have hJ2 : zJ X (uS (zpb (zsh 1) 2 q p) 0 8 (w32 (q.1 0 8 + 1))) (uS (uS r0 0 46 0) 0 50 (w32 (r0.1 0 50 + 1))) [] hd [] := by
        have c1 := hJ1.1.2.2.1
        refine J_cell hX hJ1 (fun i k y => ?_) rfl (fun i k y => ?_) (fun _ _ => rfl) ⟨c1.1, c1.2.1, c1.2.2.1, c1.2.2.2.1, ?_⟩ d
        · rw [uS1]
          by_cases z : i = 0
          · rw [if_pos z, if_neg (by omega), z]
          · rw [if_neg z]
        · rw [uS1]
          by_cases z : i = 0
          · rw [if_pos z, if_neg (by omega), z]
          · rw [if_neg z]
        · show w32 (q.1 0 8 + 1) = w32 (r0.1 0 50 + 1)
          rw [c.2.2.2.2]
      refine ⟨_, _, [], hd, [], iteT y3 (bindS g1 rfl), iteT y3 rfl, hJ2, by simp, by simp; omega, ⟨fun k y => ?_, fun i y => rfl, fun y => y⟩⟩
      rw [uS1, if_pos rfl, if_neg (by omega), uS1, if_pos rfl, if_neg (by omega)]
    rw [if_neg y3, if_neg y3]
    by_cases y4 : b = 4
    · obtain ⟨q', r', g1, g2, g3, g4⟩ := J_endInput hX hJ0 hw
      exact ⟨q', r', [], hd, [], iteT y4 (bindS g1 rfl), iteT y4 (bindS g2 rfl), g3, by simp, by simp; omega, g4⟩
    rw [if_neg y4, if_neg y4]
    by_cases y10 : b = 10
    · obtain ⟨q', r', hd', l', g1, ⟨ra, rb, rc, u1, u2, u3, u4⟩, g3, g4, g5, g6⟩ := J_endLine hX hJ0
      exact ⟨q', r', [], hd', l', iteT y10 (bindS g1 rfl), iteT y10 (bindS u1 (bindS u2 (bindS u3 (bindS u4 rfl)))), g3, by omega, by simp; omega, g6⟩
    rw [if_neg y10, if_neg y10]
    by_cases y13 : b = 13
    · obtain ⟨q', r', hd', l', g1, ⟨ra, rb, rc, u1, u2, u3, u4⟩, g3, g4, g5, g6⟩ := J_endLine hX hJ0
      exact ⟨q', r', [], hd', l', iteT y13 (bindS g1 rfl), iteT y13 (bindS u1 (bindS u2 (bindS u3 (bindS u4 rfl)))), g3, by omega, by simp; omega, g6⟩
    rw [if_neg y13, if_neg y13]
    by_cases y17 : b = 17
    · obtain ⟨q', r', g1, g2, g3, g4⟩ := J_start hX hJ0
      exact ⟨q', r', ln, [], hd, iteT y17 (bindS g1 rfl), iteT y17 (bindS g2 rfl), g3, by omega, by simp, g4.tf⟩
    rw [if_neg y17, if_neg y17]
    by_cases y19 : b = 19
    · refine ⟨_, _, ln, hd, [], iteT y19 rfl, iteT y19 rfl, J_cell hX hJ0 (fun i k y => ?_) rfl (fun i k y => ?_) (fun _ _ => rfl) ⟨c.1, c.2.1, rfl, c.2.2.2.1, c.2.2.2.2⟩ ⟨d.1, d.2.1, Or.inr rfl⟩, by simp, by simp, ⟨fun k y => ?_, fun i y => rfl, fun y => y⟩⟩
      · rw [uS1]
        by_cases z : i = 0
        · rw [if_pos z, if_neg (by omega), z]
        · rw [if_neg z]
      · rw [uS1]
        by_cases z : i = 0
        · rw [if_pos z, if_neg (by omega), z]
        · rw [if_neg z]
      · rw [uS1, if_pos rfl, if_neg (by omega)]
    rw [if_neg y19, if_neg y19]
    by_cases y21 : b = 21
    · obtain ⟨q', r', ln', hd', l', g1, g2, g3, g4, g5, g6⟩ := J_takeLine hX hJ0
      exact ⟨q', r', ln', hd', l', iteT y21 (bindS g1 rfl), iteT y21 (bindS g2 rfl), g3, by omega, by omega, g6.tf⟩
    rw [if_neg y21, if_neg y21]
    by_cases y23 : b = 23
    · obtain ⟨q', r1, r', ln', hd', l', g1, g2, g2', g3, g4, g5, g6⟩ := J_takeWord hX hJ0
      exact ⟨q', r', ln', hd', l', iteT y23 (bindS g1 rfl), iteT y23 (bindS g2 (bindS g2' rfl)), g3, by omega, by omega, g6.tf⟩
    rw [if_neg y23, if_neg y23]
    by_cases y127 : b = 127
    · rw [if_pos y127, if_pos y127]
      by_cases w : ln = []
      · subst w
        have e := hJ0.none
        refine ⟨q, r0, [], hd, [], bindS (show f_Li_takeAway q = some (0, q) from ?_) rfl, iteT (by omega) rfl, hJ0, by simp, by simp, zTf.rf r0⟩
        unfold f_Li_takeAway
        exact bindS e.1 (iteF (by decide) rfl)
      · obtain ⟨ln0, c0, rfl⟩ : ∃ ln0 c, ln = ln0 ++ [c] := ⟨ln.dropLast, ln.getLast w, (List.dropLast_concat_getLast _).symm⟩
        have e := hJ0.last
        obtain ⟨q', r', hd', l', g1, g2, g3, g4, g5, g6⟩ := J_take hX hJ0 (by decide)
        simp only [List.length_nil] at g4 g5
        refine ⟨q', r', ln0, hd', l', bindS g1 rfl, iteF (by omega) (bindS g2 rfl), g3, by omega, by simp; omega, ((zYp.u46 r0 _).trans g6.ty).tf⟩
    rw [if_neg y127, if_neg y127]
    obtain ⟨q', r', ln', hd', l', g1, g2, g3, g4, g5, g6, g7⟩ := J_add hX hJ0 hb
    exact ⟨q', r', ln', hd', l', bindS g1 rfl, bindS g2 rfl, g3, by omega, by omega, g7⟩
  · obtain ⟨x, p, rb, b1, b2, b3, b4⟩ := J_prog hX hJ0 b
    obtain ⟨qc, rc, hdc, lc, c1, c2, c3, c4, c5, c6⟩ := J_echo hX b3 (by decide) hb
    simp only [List.length_nil] at c4 c5
    exact ⟨qc, rc, ln, hdc, lc, iteF z (bindS b1 (bindS c1 rfl)), iteF z (bindS b2 (bindS c2 rfl)), c3, by omega, by omega, b4.yp.tf.trans c6.tf, fun _ => rfl⟩
end ZJU
