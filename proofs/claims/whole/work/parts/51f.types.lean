/-! ===== a typed byte ===== -/
theorem zfind_4 (a b c d i : Nat) : zfind (zsl [a, b, c, d]) i 4 = if d = i then some 3 else if c = i then some 2 else if b = i then some 1 else if a = i then some 0 else none := rfl
theorem zpb4_1 (a b c d : Nat) (s t : zSt) (i k : Nat) : (zpb (zsl [a, b, c, d]) 4 s t).1 i k = if d = i then t.1 3 k else if c = i then t.1 2 k else if b = i then t.1 1 k else if a = i then t.1 0 k else s.1 i k := by
  unfold zpb
  simp only [zfind_4]
  by_cases q1 : d = i
  · rw [if_pos q1, if_pos q1]
  rw [if_neg q1, if_neg q1]
  by_cases q2 : c = i
  · rw [if_pos q2, if_pos q2]
  rw [if_neg q2, if_neg q2]
  by_cases q3 : b = i
  · rw [if_pos q3, if_pos q3]
  rw [if_neg q3, if_neg q3]
  by_cases q4 : a = i
  · rw [if_pos q4, if_pos q4]
  rw [if_neg q4, if_neg q4]
theorem zpb4_2 (a b c d : Nat) (s t : zSt) (i : Nat) : (zpb (zsl [a, b, c, d]) 4 s t).2 i = if d = i then t.2 3 else if c = i then t.2 2 else if b = i then t.2 1 else if a = i then t.2 0 else s.2 i := by
  unfold zpb
  simp only [zfind_4]
  by_cases q1 : d = i
  · rw [if_pos q1, if_pos q1]
  rw [if_neg q1, if_neg q1]
  by_cases q2 : c = i
  · rw [if_pos q2, if_pos q2]
  rw [if_neg q2, if_neg q2]
  by_cases q3 : b = i
  · rw [if_pos q3, if_pos q3]
  rw [if_neg q3, if_neg q3]
  by_cases q4 : a = i
  · rw [if_pos q4, if_pos q4]
  rw [if_neg q4, if_neg q4]
/-- all bytes of one row go to another: a, a+1 takes; c, c+1 gives -/
def zA2 (a c : Nat) (s t : zSt) : Prop := (∀ i k, ¬ ((i = a ∨ i = c) ∧ (k = 1 ∨ k = 2)) → t.1 i k = s.1 i k) ∧ ∀ i, i ≠ a + 1 → i ≠ c + 1 → t.2 i = s.2 i
theorem Bo_addAll {a c n m : Nat} (hn : n < 1000) (hm : m < 1000) (hac : a + 2 ≤ c ∨ c + 2 ≤ a) {s : zSt} {l1 l2 : List Int} (h1 : zBy (zsb (zsh a) s) n l1) (h2 : zBy (zsb (zsh c) s) m l2) :
    ∃ p, f_By_addAll (zsb (zsl [a, a + 1, c, c + 1]) s) = some (0, p) ∧ zBy (zsb (zsh a) (zpb (zsl [a, a + 1, c, c + 1]) 4 s p)) n ((l1 ++ l2).take n) ∧ zBy (zsb (zsh c) (zpb (zsl [a, a + 1, c, c + 1]) 4 s p)) m [] ∧ zA2 a c s (zpb (zsl [a, a + 1, c, c + 1]) 4 s p) := by
  have k1 : zBy (zsb (zsl [a, a + 1, c, c + 1]) s) n l1 := by
    refine zBy_cg h1 ?_ ?_ ?_ ?_
    · show s.1 a 1 = s.1 (0 + a) 1; rw [Nat.zero_add]
    · show s.1 a 2 = s.1 (0 + a) 2; rw [Nat.zero_add]
    · show s.1 (a + 1) 0 = s.1 (1 + a) 0; rw [Nat.add_comm]
    · show s.2 (a + 1) = s.2 (1 + a); rw [Nat.add_comm]
  have k2 : zBy (zsb (zsh 2) (zsb (zsl [a, a + 1, c, c + 1]) s)) m l2 := by
    refine zBy_cg h2 ?_ ?_ ?_ ?_
    · show s.1 c 1 = s.1 (0 + c) 1; rw [Nat.zero_add]
    · show s.1 c 2 = s.1 (0 + c) 2; rw [Nat.zero_add]
    · show s.1 (c + 1) 0 = s.1 (1 + c) 0; rw [Nat.add_comm]
    · show s.2 (c + 1) = s.2 (1 + c); rw [Nat.add_comm]
  obtain ⟨p, g1, g2, g3, g4⟩ := By_addAll hn hm k1 k2
  refine ⟨p, g1, ?_, ?_, fun i k q => ?_, fun i q1 q2 => ?_⟩
  · refine zBy_cg g2 ?_ ?_ ?_ ?_
    · rw [zsb1, zpb4_1]
      show (if c + 1 = 0 + a then _ else if c = 0 + a then _ else if a + 1 = 0 + a then _ else if a = 0 + a then _ else _) = _
      rw [if_neg (by omega), if_neg (by omega), if_neg (by omega), if_pos (by omega)]
    · rw [zsb1, zpb4_1]
      show (if c + 1 = 0 + a then _ else if c = 0 + a then _ else if a + 1 = 0 + a then _ else if a = 0 + a then _ else _) = _
      rw [if_neg (by omega), if_neg (by omega), if_neg (by omega), if_pos (by omega)]
    · rw [zsb1, zpb4_1]
      show (if c + 1 = 1 + a then _ else if c = 1 + a then _ else if a + 1 = 1 + a then _ else if a = 1 + a then _ else _) = _
      rw [if_neg (by omega), if_neg (by omega), if_pos (by omega)]
    · rw [zsb2, zpb4_2]
      show (if c + 1 = 1 + a then _ else if c = 1 + a then _ else if a + 1 = 1 + a then _ else if a = 1 + a then _ else _) = _
      rw [if_neg (by omega), if_neg (by omega), if_pos (by omega)]
  · refine zBy_cg g3 ?_ ?_ ?_ ?_
    · rw [zsb1, zpb4_1]
      show (if c + 1 = 0 + c then _ else if c = 0 + c then _ else if a + 1 = 0 + c then _ else if a = 0 + c then _ else _) = p.1 2 1
      rw [if_neg (by omega), if_pos (by omega)]
    · rw [zsb1, zpb4_1]
      show (if c + 1 = 0 + c then _ else if c = 0 + c then _ else if a + 1 = 0 + c then _ else if a = 0 + c then _ else _) = p.1 2 2
      rw [if_neg (by omega), if_pos (by omega)]
    · rw [zsb1, zpb4_1]
      show (if c + 1 = 1 + c then _ else if c = 1 + c then _ else if a + 1 = 1 + c then _ else if a = 1 + c then _ else _) = p.1 3 0
      rw [if_pos (by omega)]
    · rw [zsb2, zpb4_2]
      show (if c + 1 = 1 + c then _ else if c = 1 + c then _ else if a + 1 = 1 + c then _ else if a = 1 + c then _ else _) = p.2 3
      rw [if_pos (by omega)]
  · rw [zpb4_1]
    by_cases y1 : c + 1 = i
    · rw [if_pos y1, g4.1 3 k (by omega), ← y1]; rfl
    rw [if_neg y1]
    by_cases y2 : c = i
    · rw [if_pos y2, g4.1 2 k (by omega), ← y2]; rfl
    rw [if_neg y2]
    by_cases y3 : a + 1 = i
    · rw [if_pos y3, g4.1 1 k (by omega), ← y3]; rfl
    rw [if_neg y3]
    by_cases y4 : a = i
    · rw [if_pos y4, g4.1 0 k (by omega), ← y4]; rfl
    rw [if_neg y4]
  · rw [zpb4_2]
    by_cases y1 : c + 1 = i
    · omega
    rw [if_neg y1]
    by_cases y2 : c = i
    · rw [if_pos y2, g4.2 2 (by decide) (by decide), ← y2]; rfl
    rw [if_neg y2]
    by_cases y3 : a + 1 = i
    · omega
    rw [if_neg y3]
    by_cases y4 : a = i
    · rw [if_pos y4, g4.2 0 (by decide) (by decide), ← y4]; rfl
    rw [if_neg y4]
theorem zBy_a2 {a c o n : Nat} {s t : zSt} {l : List Int} (h : zA2 a c s t) (h1 : o ≠ a) (h2 : o ≠ c) (h3 : o + 1 ≠ a) (h4 : o + 1 ≠ c) (k : zBy (zsb (zsh o) s) n l) : zBy (zsb (zsh o) t) n l := by
  refine zBy_cg k ?_ ?_ ?_ ?_
  · exact h.1 _ _ (by show ¬ ((0 + o = a ∨ 0 + o = c) ∧ _); omega)
  · exact h.1 _ _ (by show ¬ ((0 + o = a ∨ 0 + o = c) ∧ _); omega)
  · exact h.1 _ _ (by omega)
  · exact h.2 _ (by show 1 + o ≠ a + 1; omega) (by show 1 + o ≠ c + 1; omega)
theorem take_s : ∀ (l : List Int) (i : Nat), i < l.length → l.take (i + 1) = l.take i ++ [l.getD i 0]
  | [], i, h => absurd h (Nat.not_lt_zero i)
  | b :: l, 0, h => by simp
  | b :: l, i + 1, h => by
    rw [List.take_succ_cons, List.take_succ_cons, take_s l i (by simpa using h)]
    rfl
section ZJT
variable {X : List Int → List Int → zSt → List Int → Prop} {q r : zSt} {ln hd l : List Int}
/-- the reference gives the line's bytes to the program -/
theorem Rf_gives (hO : zOk r) (h2 : zLs (r.2 9) (r.1 0 46) ln) (hn : ln.length ≤ 30) {m : List Int} (hm : zLs (r.2 10) (r.1 0 48) m) (hm2 : m.length ≤ 200) :
    ∃ r1, f_Rf_givesLine r = some (0, uS r1 0 46 0) ∧ zSf r r1 ∧ zLs (r1.2 10) (r1.1 0 48) ((m ++ ln).take 200) := by
  have hRL := hO.rl
  have h9 : r.1 9 0 = 30 := hRL.2.2.2.2.2.2.2.2.1
  have h10 : r.1 10 0 = 200 := hRL.2.2.2.2.2.2.2.2.2.1
  have h21 := h2.1
  have key : ∀ (k : Nat) (l2 : List Int) (i : Nat) (r1 : zSt) (f : Nat), ln.drop i = l2 → l2.length = k → i ≤ ln.length → k < f → zSf r r1 → zLs (r1.2 10) (r1.1 0 48) ((m ++ ln.take i).take 200) → ∃ r2, zloop f_Rf_givesLine_l2 f ((i : Int), r1) = some r2 ∧ zSf r r2 ∧ zLs (r2.2 10) (r2.1 0 48) ((m ++ ln).take 200) := by
    intro k
    induction k with
    | zero =>
      intro l2 i r1 f e1 e2 e0 e3 e4 e5
      obtain ⟨f, rfl⟩ : ∃ j, f = j + 1 := ⟨f - 1, by omega⟩
      have hi : ln.length = i := by
        have := congrArg List.length e1
        rw [List.length_drop] at this
        omega
      refine ⟨r1, ?_, e4, by rw [← hi, List.take_length] at e5; exact e5⟩
      unfold zloop f_Rf_givesLine_l2
      rw [if_pos (show r1.1 0 46 ≤ (i : Int) by rw [e4.1 0 46 (by omega)]; omega)]
      rfl
    | succ k ih =>
      intro l2 i r1 f e1 e2 e0 e3 e4 e5
      obtain ⟨f, rfl⟩ : ∃ j, f = j + 1 := ⟨f - 1, by omega⟩
      have hi : i < ln.length := by
        have := congrArg List.length e1
        rw [List.length_drop] at this
        omega
      have e6 : r1.1 10 0 = 200 := by rw [e4.1 10 0 (by omega)]; exact h10
      obtain ⟨r2, g1, g2, g3⟩ := Rf_sends e6 e5 (by rw [List.length_take]; omega) (ln.getD i 0)
      have e7 : r1.2 9 (i : Int) = ln.getD i 0 := by
        rw [e4.2 9 (by decide)]
        exact h2.2 i hi
      have e8 : ln.take (i + 1) = ln.take i ++ [ln.getD i 0] := take_s ln i hi
      rw [take_app, List.append_assoc, ← e8] at g2
      obtain ⟨r3, k1, k2, k3⟩ := ih (ln.drop (i + 1)) (i + 1) r2 f rfl (by rw [List.length_drop] at *; have := congrArg List.length e1; rw [List.length_drop] at this; omega) (by omega) (by omega) (e4.trans g3) g2
      refine ⟨r3, ?_, k2, k3⟩
      have es : f_Rf_givesLine_l2 ((i : Int), r1) = some (.inl (((i + 1 : Nat) : Int), r2)) := by
        unfold f_Rf_givesLine_l2
        refine iteF (by show ¬ r1.1 0 46 ≤ (i : Int); rw [e4.1 0 46 (by omega)]; omega) (iteT (by show 0 ≤ (i : Int) ∧ (i : Int) < r1.1 9 0; rw [e4.1 9 0 (by omega)]; omega) ?_)
        dsimp only
        rw [e7]
        refine bindS g1 ?_
        exact inl2 (by rw [w32i (by omega) (by omega)]; omega) rfl
      unfold zloop
      rw [es]
      exact k1
  obtain ⟨r2, k1, k2, k3⟩ := key ln.length ln 0 r zfu (List.drop_zero) rfl (by omega) (by unfold zfu; omega) (zSf.rf r) (by rw [List.take_zero, List.append_nil, List.take_of_length_le hm2]; exact hm)
  refine ⟨r2, ?_, k2, k3⟩
  unfold f_Rf_givesLine
  exact bindS k1 rfl
theorem zLs.uniq {g : Int → Int} {c : Int} {l m : List Int} (h : zLs g c l) (k : zLs g c m) : l = m := by
  have e : l.length = m.length := by have := h.1; have := k.1; omega
  refine List.ext_getElem e (fun i h1 h2 => ?_)
  have e1 := h.2 i h1
  have e2 := k.2 i h2
  rw [e1] at e2
  simpa [List.getD_eq_getElem?_getD, h1, h2] using e2
/-- the line is sent: nothing is still to arrive -/
theorem J_send (hX : zXok X) (h : zJ X q r ln hd []) :
    ∃ q' r', f_Li_sendLine q = some (0, q') ∧ f_Rf_givesLine r = some (0, r') ∧ zJ X q' r' [] hd [] ∧ zLin r r' ∧ zYp r r' ∧ (r'.1 0 42 = r.1 0 42 ∧ r'.1 0 44 = r.1 0 44 ∧ r'.1 0 49 = r.1 0 49 ∧ r'.1 0 50 = r.1 0 50) ∧ r'.2 8 = r.2 8 := by
  obtain ⟨⟨⟨a1, a2⟩, ⟨b1, b2⟩, c, d, e, f⟩, hO, pg, m, x1, x3, x4, x5, x6, x7⟩ := h
  obtain rfl := x7 rfl
  have hm2 : m.length ≤ 200 := x3.2.2.2.1
  obtain ⟨p, g1, g2, g3, g4⟩ := Bo_addAll (a := 5) (c := 1) (n := 200) (m := 30) (by decide) (by decide) (Or.inr (by decide)) x3 a1
  obtain ⟨r1, k1, k2, k3⟩ := Rf_gives hO a2 a1.2.2.2.1 x4 hm2
  have hlin : zLin r (uS r1 0 46 0) := k2.lin.trans (zLin.uS (Or.inr (by decide)))
  have hf : ∀ k, k ≠ 46 → k ≠ 48 → (uS r1 0 46 0).1 0 k = r.1 0 k := fun k y1 y2 => by
    rw [uS1, if_pos rfl, if_neg y1]
    exact k2.1 0 k (by omega)
  have h48 : (uS r1 0 46 0).1 0 48 = r1.1 0 48 := rfl
  refine ⟨zpb (zsl [5, 6, 1, 2]) 4 q p, uS r1 0 46 0, ?_, k1, ?_, hlin, ⟨fun k y => hf k (by omega) (by omega), fun i y => k2.2 i (by omega)⟩, ⟨hf 42 (by decide) (by decide), hf 44 (by decide) (by decide), hf 49 (by decide) (by decide), hf 50 (by decide) (by decide)⟩, k2.2 8 (by decide)⟩
  · unfold f_Li_sendLine
    exact bindS g1 rfl
  · refine ⟨⟨⟨g3, ⟨rfl, fun i hi => absurd hi (Nat.not_lt_zero i)⟩⟩, ⟨zBy_a2 g4 (by decide) (by decide) (by decide) (by decide) b1, by rw [hf 44 (by decide) (by decide), show (uS r1 0 46 0).2 8 = r.2 8 from k2.2 8 (by decide)]; exact b2⟩, ?_, ?_, zbs.nil, f⟩, hO.lin hlin (by rw [h48, k3.1]; simp; omega), (m ++ ln).take 200, (m ++ ln).take 200, hX.2.2 _ _ _ _ x1 hlin, g2, k3, zBy_a2 g4 (by decide) (by decide) (by decide) (by decide) x5, zbs.nil, fun _ => rfl⟩
    · rw [g4.1 0 4 (by omega), g4.1 0 5 (by omega), g4.1 0 6 (by omega), g4.1 0 7 (by omega), g4.1 0 8 (by omega), hf 40 (by decide) (by decide), hf 41 (by decide) (by decide), hf 42 (by decide) (by decide), hf 49 (by decide) (by decide), hf 50 (by decide) (by decide)]
      exact c
    · rw [hf 40 (by decide) (by decide), hf 41 (by decide) (by decide), hf 42 (by decide) (by decide)]
      exact d
/-- one byte is sent to the program: nothing is still to arrive -/
theorem J_prog (hX : zXok X) (h : zJ X q r ln hd []) (b : Int) :
    ∃ x p r', f_By_add b (zsb (zsh 5) q) = some (x, p) ∧ f_Rf_sends b r = some (0, r') ∧ zJ X (zpb (zsh 5) 2 q p) r' ln hd [] ∧ zSf r r' := by
  obtain ⟨hR, hO, pg, m, x1, x3, x4, x5, x6, x7⟩ := h
  obtain rfl := x7 rfl
  have hR' := hR
  obtain ⟨⟨a1, a2⟩, ⟨b1, b2⟩, c, d, e, f⟩ := hR
  have hm2 : m.length ≤ 200 := x3.2.2.2.1
  obtain ⟨x, p, g1, g2, g3⟩ := Bo_add (o := 5) x3 (by decide) b
  obtain ⟨r1, k1, k2, k3⟩ := Rf_sends (hO.rl.2.2.2.2.2.2.2.2.2.1) x4 hm2 b
  have hR2 := hR'.q3 g3 (Or.inl rfl)
  refine ⟨x, p, r1, g1, k1, ⟨?_, hO.lin k3.lin (by rw [k2.1]; simp; omega), (m ++ [b]).take 200, (m ++ [b]).take 200, hX.2.2 _ _ _ _ x1 k3.lin, g2, k2, zBy_ao g3 (by decide) (by decide) x5, zbs.nil, fun _ => rfl⟩, k3⟩
  unfold zLR
  rw [k3.1 0 46 (by omega), k3.1 0 44 (by omega), k3.1 0 40 (by omega), k3.1 0 41 (by omega), k3.1 0 42 (by omega), k3.1 0 49 (by omega), k3.1 0 50 (by omega), k3.2 9 (by decide), k3.2 8 (by decide)]
  exact hR2
theorem zSf.yp {r r1 : zSt} (h : zSf r r1) : zYp r r1 := ⟨fun k a => h.1 0 k (by omega), fun i a => h.2 i (by omega)⟩
/-- what was held arrives -/
theorem J_start (hX : zXok X) (h : zJ X q r ln hd []) :
    ∃ q' r', f_Li_start q = some (0, q') ∧ f_Rf_starts r = some (0, r') ∧ zJ X q' r' ln [] hd ∧ zYp r r' := by
  obtain ⟨hR, hO, pg, m, x1, x3, x4, x5, x6, x7⟩ := h
  obtain rfl := x7 rfl
  obtain ⟨⟨a1, a2⟩, ⟨b1, b2⟩, c, d, e, f⟩ := hR
  have b14 := b1.2.2.2.1
  have b21 := b2.1
  have bo : zAo 0 q (uS q 0 6 0) ∨ True := Or.inr trivial
  have q1 : ∀ o n l, 1 ≤ o → zBy (zsb (zsh o) q) n l → zBy (zsb (zsh o) (uS q 0 6 0)) n l := fun o n l ho k => by
    refine zBy_cg k ?_ ?_ ?_ rfl
    · rw [zsb1, zsb1, uS1, if_neg (by show ¬ (0 + o = 0); omega)]
    · rw [zsb1, zsb1, uS1, if_neg (by show ¬ (0 + o = 0); omega)]
    · rw [zsb1, zsb1, uS1, if_neg (by show ¬ (1 + o = 0); omega)]
  obtain ⟨p, g1, g2, g3, g4⟩ := Bo_addAll (a := 7) (c := 3) (n := 256) (m := 100) (by decide) (by decide) (Or.inr (by decide)) (q1 7 _ _ (by decide) x5) (q1 3 _ _ (by decide) b1)
  rw [List.nil_append, List.take_of_length_le (by omega)] at g2
  have h8 : r.1 8 0 = 100 := hO.rl.2.2.2.2.2.2.2.1
  have hl0 : zLin r (uS (uS r 0 42 0) 0 44 0) := (zLin.uS (Or.inr (by decide))).trans (zLin.uS (Or.inr (by decide)))
  have key : ∀ (k : Nat) (i : Nat) (r1 : zSt) (m1 : List Int) (fu : Nat), ln.length = ln.length → (hd.drop i).length = k → i ≤ hd.length → k < fu → zOk r1 → zKr (uS (uS r 0 42 0) 0 44 0) r1 → zLs (r1.2 10) (r1.1 0 48) m1 → X m (hd.take i) r1 m1 → ∃ r2 m2, zloop (f_Rf_starts_l17 (r.1 0 44)) fu ((i : Int), r1) = some r2 ∧ zOk r2 ∧ zKr (uS (uS r 0 42 0) 0 44 0) r2 ∧ zLs (r2.2 10) (r2.1 0 48) m2 ∧ X m hd r2 m2 ∧ (i = hd.length → m2 = m1) := by
    intro k
    induction k with
    | zero =>
      intro i r1 m1 fu _ e2 e0 e3 e4 e5 e6 e7
      obtain ⟨fu, rfl⟩ : ∃ j, fu = j + 1 := ⟨fu - 1, by omega⟩
      rw [List.length_drop] at e2
      have hi : i = hd.length := by omega
      refine ⟨r1, m1, ?_, e4, e5, e6, by rw [hi, List.take_length] at e7; exact e7, fun _ => rfl⟩
      unfold zloop f_Rf_starts_l17
      rw [if_pos (show r.1 0 44 ≤ (i : Int) by omega)]
      rfl
    | succ k ih =>
      intro i r1 m1 fu _ e2 e0 e3 e4 e5 e6 e7
      obtain ⟨fu, rfl⟩ : ∃ j, fu = j + 1 := ⟨fu - 1, by omega⟩
      rw [List.length_drop] at e2
      have hi : i < hd.length := by omega
      have e8 : r1.2 8 (i : Int) = hd.getD i 0 := by
        rw [e5.2 8 (by decide) (by decide) (by decide)]
        exact b2.2 i hi
      have hbb : 0 ≤ hd.getD i 0 ∧ hd.getD i 0 ≤ 127 := by
        rw [List.getD_eq_getElem?_getD, List.getElem?_eq_getElem hi]
        exact f _ (List.getElem_mem hi)
      obtain ⟨r2, t1, t2, t3⟩ := e4.comes hbb
      obtain ⟨m2, n1, n2⟩ := zLs.ex (r2.2 10) t2.2
      have e9 : hd.take (i + 1) = hd.take i ++ [hd.getD i 0] := take_s hd i hi
      obtain ⟨r3, m3, w1, w2, w3, w4, w5, w6⟩ := ih (i + 1) r2 m2 fu rfl (by rw [List.length_drop]; omega) (by omega) (by omega) t2 (e5.trans t3) n1 (by rw [e9]; exact hX.2.1 _ _ _ _ _ _ _ e7 e4 hbb e6 t1 n1)
      refine ⟨r3, m3, ?_, w2, w3, w4, w5, fun y => by omega⟩
      have es : f_Rf_starts_l17 (r.1 0 44) ((i : Int), r1) = some (.inl (((i + 1 : Nat) : Int), r2)) := by
        have e10 : r1.1 8 0 = 100 := e4.rl.2.2.2.2.2.2.2.1
        unfold f_Rf_starts_l17
        refine iteF (by show ¬ r.1 0 44 ≤ (i : Int); omega) (iteT (by show 0 ≤ (i : Int) ∧ (i : Int) < r1.1 8 0; omega) ?_)
        dsimp only
        rw [e8]
        refine bindS t1 ?_
        exact inl2 (by rw [w32i (by omega) (by omega)]; omega) rfl
      unfold zloop
      rw [es]
      exact w1
  obtain ⟨r2, m2, w1, w2, w3, w4, w5, w6⟩ := key hd.length 0 (uS (uS r 0 42 0) 0 44 0) m zfu rfl (by simp) (by omega) (by unfold zfu; omega) (hO.lin hl0 hO.2) (zKr.rf _) x4 (by rw [List.take_zero]; exact hX.1 _ _ _ _ _ x1 hl0)
  have hf : ∀ k, 40 ≤ k → k ≠ 42 → k ≠ 44 → k ≠ 48 → r2.1 0 k = r.1 0 k := fun k y1 y2 y3 y4 => by
    rw [w3.1 k (by omega), uS1, uS1, if_pos rfl, if_neg y3, if_pos rfl, if_neg y2]
  have h42 : r2.1 0 42 = 0 := (w3.1 42 (by decide)).trans rfl
  have h44 : r2.1 0 44 = 0 := (w3.1 44 (by decide)).trans rfl
  refine ⟨zpb (zsl [7, 8, 3, 4]) 4 (uS q 0 6 0) p, r2, ?_, ?_, ⟨⟨⟨zBy_a2 g4 (by decide) (by decide) (by decide) (by decide) (q1 1 _ _ (by decide) a1), ?_⟩, ⟨g3, ?_⟩, ?_, ?_, e, zbs.nil⟩, w2, m, m2, w5, zBy_a2 g4 (by decide) (by decide) (by decide) (by decide) (q1 5 _ _ (by decide) x3), w4, g2, f, fun y => ?_⟩, ⟨fun k y => ?_, fun i y => ?_⟩⟩
  · unfold f_Li_start
    exact bindS g1 rfl
  · unfold f_Rf_starts
    exact bindS w1 rfl
  · rw [hf 46 (by decide) (by decide) (by decide) (by decide), w3.2 9 (by decide) (by decide) (by decide)]
    exact a2
  · rw [h44]
    exact ⟨rfl, fun i hi => absurd hi (Nat.not_lt_zero i)⟩
  · rw [g4.1 0 4 (by omega), g4.1 0 5 (by omega), g4.1 0 6 (by omega), g4.1 0 7 (by omega), g4.1 0 8 (by omega), hf 40 (by decide) (by decide) (by decide) (by decide), hf 41 (by decide) (by decide) (by decide) (by decide), h42, hf 49 (by decide) (by decide) (by decide) (by decide), hf 50 (by decide) (by decide) (by decide) (by decide)]
    exact ⟨c.1, c.2.1, rfl, c.2.2.2⟩
  · rw [hf 40 (by decide) (by decide) (by decide) (by decide), hf 41 (by decide) (by decide) (by decide) (by decide), h42]
    exact ⟨d.1, d.2.1, Or.inl rfl⟩
  · rw [y] at w6
    exact w6 rfl
  · rcases (by omega : (k = 0 ∨ k = 1 ∨ k = 2) ∨ (40 ≤ k ∧ k ≠ 42 ∧ k ≠ 44 ∧ k ≠ 48)) with z | z
    · rw [w3.1 k (by omega), uS1, uS1, if_pos rfl, if_neg (by omega), if_pos rfl, if_neg (by omega)]
    · exact hf k z.1 z.2.1 z.2.2.1 z.2.2.2
  · exact w3.2 i (by omega) (by omega) (by omega)
end ZJT
