/-! ===== public methods: draw ===== -/
theorem zfind_6 (a0 a1 a2 a3 a4 a5 i : Nat) : zfind (zsl [a0, a1, a2, a3, a4, a5]) i 6 = if a5 = i then some 5 else if a4 = i then some 4 else if a3 = i then some 3 else if a2 = i then some 2 else if a1 = i then some 1 else if a0 = i then some 0 else none := rfl
theorem zpb6_1 (a0 a1 a2 a3 a4 a5 : Nat) (s t : zSt) (i k : Nat) : (zpb (zsl [a0, a1, a2, a3, a4, a5]) 6 s t).1 i k = if a5 = i then t.1 5 k else if a4 = i then t.1 4 k else if a3 = i then t.1 3 k else if a2 = i then t.1 2 k else if a1 = i then t.1 1 k else if a0 = i then t.1 0 k else s.1 i k := by
  unfold zpb
  simp only [zfind_6]
  by_cases q5 : a5 = i
  · rw [if_pos q5, if_pos q5]
  rw [if_neg q5, if_neg q5]
  by_cases q4 : a4 = i
  · rw [if_pos q4, if_pos q4]
  rw [if_neg q4, if_neg q4]
  by_cases q3 : a3 = i
  · rw [if_pos q3, if_pos q3]
  rw [if_neg q3, if_neg q3]
  by_cases q2 : a2 = i
  · rw [if_pos q2, if_pos q2]
  rw [if_neg q2, if_neg q2]
  by_cases q1 : a1 = i
  · rw [if_pos q1, if_pos q1]
  rw [if_neg q1, if_neg q1]
  by_cases q0 : a0 = i
  · rw [if_pos q0, if_pos q0]
  rw [if_neg q0, if_neg q0]
theorem zpb6_2 (a0 a1 a2 a3 a4 a5 : Nat) (s t : zSt) (i : Nat) : (zpb (zsl [a0, a1, a2, a3, a4, a5]) 6 s t).2 i = if a5 = i then t.2 5 else if a4 = i then t.2 4 else if a3 = i then t.2 3 else if a2 = i then t.2 2 else if a1 = i then t.2 1 else if a0 = i then t.2 0 else s.2 i := by
  unfold zpb
  simp only [zfind_6]
  by_cases q5 : a5 = i
  · rw [if_pos q5, if_pos q5]
  rw [if_neg q5, if_neg q5]
  by_cases q4 : a4 = i
  · rw [if_pos q4, if_pos q4]
  rw [if_neg q4, if_neg q4]
  by_cases q3 : a3 = i
  · rw [if_pos q3, if_pos q3]
  rw [if_neg q3, if_neg q3]
  by_cases q2 : a2 = i
  · rw [if_pos q2, if_pos q2]
  rw [if_neg q2, if_neg q2]
  by_cases q1 : a1 = i
  · rw [if_pos q1, if_pos q1]
  rw [if_neg q1, if_neg q1]
  by_cases q0 : a0 = i
  · rw [if_pos q0, if_pos q0]
  rw [if_neg q0, if_neg q0]
theorem zpb_six {u : Nat} (hu : u = 16 ∨ u = 36) (C : zSt) (F : Int → Int) : zpb (zsl [71, 72, 73, u, u + 1, u + 2]) 6 C (uA (zsb (zsl [71, 72, 73, u, u + 1, u + 2]) C) 1 F) = uA C 72 F := by
  refine zst_ext (fun i k => ?_) (fun i => ?_)
  · rw [zpb6_1]
    show (if u + 2 = i then C.1 (u + 2) k else if u + 1 = i then C.1 (u + 1) k else if u = i then C.1 u k else if 73 = i then C.1 73 k else if 72 = i then C.1 72 k else if 71 = i then C.1 71 k else C.1 i k) = C.1 i k
    grind
  · rw [zpb6_2]
    show (if u + 2 = i then C.2 (u + 2) else if u + 1 = i then C.2 (u + 1) else if u = i then C.2 u else if 73 = i then C.2 73 else if 72 = i then F else if 71 = i then C.2 71 else C.2 i) = if i = 72 then F else C.2 i
    grind (splits := 24)
theorem zSho.cg {u : Nat} {C D r s : zSt} (h : zSho u C r) (hu : u = 16 ∨ u = 36) (h1 : D.1 = C.1) (h2 : ∀ i, i ≠ 74 → i ≠ 75 → D.2 i = C.2 i) (h3 : s.1 = r.1) (h4 : ∀ i, i ≠ 13 → s.2 i = r.2 i) : zSho u D s := by
  obtain ⟨⟨a1, a2, a3, a4, a5⟩, ⟨b1, b2, b3, b4, b5⟩, c, d, e, f, g⟩ := h
  have k1 : ∀ i j, D.1 i j = C.1 i j := fun i j => by rw [h1]
  refine ⟨⟨?_, ?_, ?_, ?_, fun i => ?_⟩, ⟨?_, ?_, ?_, ?_, fun i => ?_⟩, ?_, ?_, ?_, ?_, ?_⟩
  · exact (k1 _ _).trans a1
  · exact (k1 _ _).trans a2
  · rw [show (zsb (zsh u) D).1 0 2 = (zsb (zsh u) C).1 0 2 from k1 _ _]; exact a3
  · rw [show (zsb (zsh u) D).1 0 3 = (zsb (zsh u) C).1 0 3 from k1 _ _]; exact a4
  · rw [show (zsb (zsh u) D).2 2 = (zsb (zsh u) C).2 2 from h2 (2 + u) (by omega) (by omega)]; exact a5 i
  · exact (k1 _ _).trans b1
  · exact (k1 _ _).trans b2
  · rw [show (zsb (zsh 71) D).1 0 2 = (zsb (zsh 71) C).1 0 2 from k1 _ _]; exact b3
  · rw [show (zsb (zsh 71) D).1 0 3 = (zsb (zsh 71) C).1 0 3 from k1 _ _]; exact b4
  · rw [show (zsb (zsh 71) D).2 2 = (zsb (zsh 71) C).2 2 from h2 73 (by omega) (by omega)]; exact b5 i
  · rw [k1, k1, k1, k1, k1, k1, h3]; exact c
  · unfold zRZ zRL at d ⊢
    rw [h3]; exact d
  · rw [h2 (u + 1) (by omega) (by omega), h4 1 (by decide), h3]; exact e
  · rw [h2 72 (by omega) (by omega), h4 12 (by decide)]; exact f
  · rw [h4 1 (by decide), h3]; exact g
/-- the rows' costs, summed -/
def zDrw (u : Nat) (x : Int × Int × zSt) : Option ((Int × Int × zSt) ⊕ (Int × zSt)) :=
  (f_Pi_rows (zsb (zsh u) x.2.2)).bind fun x1 =>
  if x1 ≤ x.2.1 then
    some (.inr (x.1, x.2.2))
  else
    (f_Sl_costsOf x.2.1 (zsb (zsl [70, 71, 72, 73, 74, 75, u, u + 1, u + 2]) x.2.2)).bind fun x3 =>
    some (.inl (w32 (x.1 + x3.1), w32 (x.2.1 + 1), (zpb (zsl [70, 71, 72, 73, 74, 75, u, u + 1, u + 2]) 9 x.2.2 x3.2)))
def zDq (C r : zSt) (D s : zSt) : Prop := D.1 = C.1 ∧ (∀ i, i ≠ 74 → i ≠ 75 → D.2 i = C.2 i) ∧ s.1 = r.1 ∧ ∀ i, i ≠ 13 → s.2 i = r.2 i
theorem zDraws {u : Nat} (hu : u = 16 ∨ u = 36) {C r : zSt} (h : zSho u C r) : ∃ v D s, zloop (zDrw u) zfu (0, 0, C) = some (v, D) ∧ zloop f_Rf_draw_l9 zfu (0, 0, r) = some (v, s) ∧ zDq C r D s := by
  have hR := h.2.2.2.1.2.1
  have hp := zloop_pair (f := zDrw u) (g := f_Rf_draw_l9) (fun k X Y => ∃ v D s, X = (v, (k : Int), D) ∧ Y = (v, (k : Int), s) ∧ zDq C r D s) (fun X Y => ∃ v D s, X = (v, D) ∧ Y = (v, s) ∧ zDq C r D s) (r.1 0 1).toNat ?_ ?_ (r.1 0 1).toNat 0 zfu zfu (0, 0, C) (0, 0, r) (by omega) (by unfold zfu; omega) (by unfold zfu; omega) ⟨0, C, r, rfl, rfl, rfl, fun _ _ _ => rfl, rfl, fun _ _ => rfl⟩
  · obtain ⟨X, Y, p1, p2, v, D, s, rfl, rfl, p3⟩ := hp
    exact ⟨v, D, s, p1, p2, p3⟩
  · rintro k X Y hk ⟨v, D, s, rfl, rfl, q1, q2, q3, q4⟩
    have hs := h.cg hu q1 q2 q3 q4
    obtain ⟨Lk, Cc, C', x, c1, c2⟩ := hs.cost hu (row := (k : Int)) (by omega)
    have e1 : D.1 u 2 = r.1 0 1 := by rw [q1]; exact h.2.2.1.2.2.1
    have ew : w32 ((k : Int) + 1) = ((k + 1 : Nat) : Int) := by rw [w32i (by omega) (by omega)]; omega
    refine ⟨(w32 (v + x), ((k + 1 : Nat) : Int), uA (uA D 75 Lk) 74 Cc), (w32 (v + x), ((k + 1 : Nat) : Int), uA s 13 C'), ?_, ?_, _, _, _, rfl, rfl, q1, fun i y1 y2 => ?_, q3, fun i y => (uA_a y).trans (q4 i y)⟩
    · unfold zDrw
      refine bindS (show f_Pi_rows (zsb (zsh u) D) = some (r.1 0 1) by unfold f_Pi_rows; rw [← e1]; show some (D.1 (0 + u) 2) = _; rw [Nat.zero_add]) (iteF (by show ¬ r.1 0 1 ≤ (k : Int); omega) (bindS c1 ?_))
      show some (Sum.inl (w32 (v + x), w32 ((k : Int) + 1), _)) = _
      rw [zpb_nine hu, ew]
    · unfold f_Rf_draw_l9
      refine iteF (by show ¬ s.1 0 1 ≤ (k : Int); rw [q3]; omega) (bindS c2 ?_)
      show some (Sum.inl (w32 (v + x), w32 ((k : Int) + 1), _)) = _
      rw [ew]
    · exact (uA_a y1).trans ((uA_a y2).trans (q2 i y1 y2))
  · rintro X Y ⟨v, D, s, rfl, rfl, q1, q2, q3, q4⟩
    have e1 : D.1 u 2 = r.1 0 1 := by rw [q1]; exact h.2.2.1.2.2.1
    refine ⟨(v, D), (v, s), ?_, ?_, v, D, s, rfl, rfl, q1, q2, q3, q4⟩
    · unfold zDrw
      exact bindS (show f_Pi_rows (zsb (zsh u) D) = some (r.1 0 1) by unfold f_Pi_rows; rw [← e1]; show some (D.1 (0 + u) 2) = _; rw [Nat.zero_add]) (iteT (by show r.1 0 1 ≤ (((r.1 0 1).toNat : Nat) : Int); omega) rfl)
    · unfold f_Rf_draw_l9
      exact iteT (by show s.1 0 1 ≤ (((r.1 0 1).toNat : Nat) : Int); rw [q3]; omega) rfl
/-- cells copied up to row a, and in row a up to column c -/
def zcpF (g P : Int → Int) (w a c : Int) : Int → Int := fun i => if 0 ≤ i ∧ i % 24 < w ∧ (i / 24 < a ∨ (i / 24 = a ∧ i % 24 < c)) then P i else g i
theorem zcpF_0 (g P : Int → Int) (w : Int) : zcpF g P w 0 0 = g := by
  funext i
  unfold zcpF
  rw [if_neg (by omega)]
theorem zcpF_n (g P : Int → Int) (w a : Int) : zcpF g P w a w = zcpF g P w (a + 1) 0 := by
  funext i
  unfold zcpF
  by_cases q : 0 ≤ i ∧ i % 24 < w ∧ (i / 24 < a ∨ (i / 24 = a ∧ i % 24 < w))
  · rw [if_pos q, if_pos (by omega)]
  · rw [if_neg q, if_neg (by omega)]
theorem zcpF_c (g P : Int → Int) (w a c : Int) (ha : 0 ≤ a) (hc : 0 ≤ c ∧ c < w) (hw : w ≤ 24) : zup (zcpF g P w a c) (a * 24 + c) (P (a * 24 + c)) = zcpF g P w a (c + 1) := by
  funext i
  unfold zup zcpF
  by_cases q : i = a * 24 + c
  · rw [if_pos q, if_pos (by omega), q]
  · rw [if_neg q]
    by_cases q2 : 0 ≤ i ∧ i % 24 < w ∧ (i / 24 < a ∨ (i / 24 = a ∧ i % 24 < c))
    · rw [if_pos q2, if_pos (by omega)]
    · rw [if_neg q2, if_neg (by omega)]
theorem uA_idn (s : zSt) (i : Nat) : uA s i (s.2 i) = s := by
  refine zst_ext (fun _ _ => rfl) (fun j => ?_)
  rw [uA2]
  by_cases q : j = i
  · rw [if_pos q, q]
  · rw [if_neg q]
theorem uA_uE (s : zSt) (i : Nat) (f : Int → Int) (j v : Int) : uE (uA s i f) i j v = uA s i (zup f j v) := by
  refine zst_ext (fun _ _ => rfl) (fun k => ?_)
  simp only [uE, uA2]
  grind
theorem c_copyCells {q : zSt} (h1 : zPW q) (h2 : zPW (zsb (zsh 3) q)) : f_Pi_copyCells q = some (0, uA q 1 (zcpF (q.2 1) (q.2 4) (q.1 0 3) (q.1 0 2) 0)) := by
  have hR := h1.2.2.1
  have hw := h1.2.2.2.1
  have inner : ∀ (a : Int) (F : Int → Int), 0 ≤ a ∧ a < q.1 0 2 → zloop (f_Pi_copyCells_l12 a) zfu (0, uA q 1 (zcpF (q.2 1) (q.2 4) (q.1 0 3) a 0)) = some (uA q 1 (zcpF (q.2 1) (q.2 4) (q.1 0 3) (a + 1) 0)) := by
    intro a _ ha
    have key := zloop_up (step := f_Pi_copyCells_l12 a) (r := uA q 1 (zcpF (q.2 1) (q.2 4) (q.1 0 3) (a + 1) 0)) (q.1 0 3).toNat (n := zfu) (fun k => ((k : Int), uA q 1 (zcpF (q.2 1) (q.2 4) (q.1 0 3) a k))) (fun k hk => ?_) ?_ (by unfold zfu; omega)
    · exact key
    · have ew : w32 ((k : Int) + 1) = ((k + 1 : Nat) : Int) := by rw [w32i (by omega) (by omega)]; omega
      unfold f_Pi_copyCells_l12
      refine iteF (by show ¬ q.1 0 3 ≤ (k : Int); omega) ?_
      dsimp only
      have g1 : zPW (zsb (zsh 3) (uA q 1 (zcpF (q.2 1) (q.2 4) (q.1 0 3) a k))) := h2
      have g2 : zPW (zsb (zsh 0) (uA q 1 (zcpF (q.2 1) (q.2 4) (q.1 0 3) a k))) := h1
      have g3 : zat ((zsb (zsh 3) (uA q 1 (zcpF (q.2 1) (q.2 4) (q.1 0 3) a k))).2 1) a (k : Int) = q.2 4 (a * 24 + (k : Int)) := by
        unfold zat
        rw [if_pos (by omega)]
        rfl
      have hc : (0 ≤ a ∧ a < (zsb (zsh 0) (uA q 1 (zcpF (q.2 1) (q.2 4) (q.1 0 3) a k))).1 0 2) ∧ 0 ≤ (k : Int) ∧ (k : Int) < (zsb (zsh 0) (uA q 1 (zcpF (q.2 1) (q.2 4) (q.1 0 3) a k))).1 0 3 := by
        show (0 ≤ a ∧ a < q.1 0 2) ∧ 0 ≤ (k : Int) ∧ (k : Int) < q.1 0 3
        omega
      have g4 := c_Pi_put g2 a (k : Int) (q.2 4 (a * 24 + (k : Int)))
      rw [if_pos hc] at g4
      refine bindS (c_Pi_at g1 a (k : Int)) ?_
      rw [g3]
      refine bindS g4 ?_
      rw [ew]
      have e2 : zpb (zsh 0) 3 (uA q 1 (zcpF (q.2 1) (q.2 4) (q.1 0 3) a k)) (uE (zsb (zsh 0) (uA q 1 (zcpF (q.2 1) (q.2 4) (q.1 0 3) a k))) 1 (a * 24 + (k : Int)) (q.2 4 (a * 24 + (k : Int)))) = uA q 1 (zcpF (q.2 1) (q.2 4) (q.1 0 3) a ((k + 1 : Nat) : Int)) := by
        rw [zpb_0 3 _ 1 _ _ (by decide), uA_uE, zcpF_c _ _ _ _ _ ha.1 (by omega) (by omega)]
        rfl
      rw [e2]
    · unfold f_Pi_copyCells_l12
      refine iteT (by show q.1 0 3 ≤ (((q.1 0 3).toNat : Nat) : Int); omega) ?_
      rw [← zcpF_n, show (((q.1 0 3).toNat : Nat) : Int) = q.1 0 3 by omega]
  have outer := zloop_up (step := f_Pi_copyCells_l2) (r := uA q 1 (zcpF (q.2 1) (q.2 4) (q.1 0 3) (q.1 0 2) 0)) (q.1 0 2).toNat (n := zfu) (fun k => ((k : Int), uA q 1 (zcpF (q.2 1) (q.2 4) (q.1 0 3) k 0))) (fun k hk => ?_) ?_ (by unfold zfu; omega)
  · unfold f_Pi_copyCells
    rw [show ((0 : Nat) : Int) = 0 from rfl, zcpF_0, uA_idn] at outer
    exact bindS outer rfl
  · have ew : w32 ((k : Int) + 1) = ((k + 1 : Nat) : Int) := by rw [w32i (by omega) (by omega)]; omega
    unfold f_Pi_copyCells_l2
    refine iteF (by show ¬ q.1 0 2 ≤ (k : Int); omega) (bindS (inner (k : Int) (q.2 1) (by omega)) ?_)
    show some (Sum.inl (w32 ((k : Int) + 1), _)) = _
    rw [ew]
    rfl
  · unfold f_Pi_copyCells_l2
    exact iteT (by show q.1 0 2 ≤ (((q.1 0 2).toNat : Nat) : Int); omega) (by rw [show (((q.1 0 2).toNat : Nat) : Int) = q.1 0 2 by omega])
theorem c_Rf_drawn {r : zSt} (h : zRZ r) (v : Int) : zloop (f_Rf_draw_l33 v) zfu (0, r) = some (uA r 12 (zcpF (r.2 12) (fun i => r.2 1 (288 * r.1 0 8 + i)) (r.1 0 2) (r.1 0 1) 0)) := by
  obtain ⟨P, hP⟩ : ∃ P : Int → Int, P = fun i => r.2 1 (288 * r.1 0 8 + i) := ⟨_, rfl⟩
  rw [← hP]
  have hR := h.2.1
  have hw := h.2.2.1
  have z8 := h.2.2.2
  have h1 : r.1 1 0 = 576 := h.1.1
  have h12 : r.1 12 0 = 288 := h.1.2.2.2.2.2.2.2.2.2.2.2.1
  have inner : ∀ (a : Int), 0 ≤ a ∧ a < r.1 0 1 → zloop (f_Rf_draw_l43 v a) zfu (0, uA r 12 (zcpF (r.2 12) P (r.1 0 2) a 0)) = some (uA r 12 (zcpF (r.2 12) P (r.1 0 2) (a + 1) 0)) := by
    intro a ha
    have key := zloop_up (step := f_Rf_draw_l43 v a) (r := uA r 12 (zcpF (r.2 12) P (r.1 0 2) (a + 1) 0)) (r.1 0 2).toNat (n := zfu) (fun k => ((k : Int), uA r 12 (zcpF (r.2 12) P (r.1 0 2) a k))) (fun k hk => ?_) ?_ (by unfold zfu; omega)
    · exact key
    · have ew : w32 ((k : Int) + 1) = ((k + 1 : Nat) : Int) := by rw [w32i (by omega) (by omega)]; omega
      have ei : w32 (w32 (24 * a) + (k : Int)) = a * 24 + (k : Int) := by rw [w32i (x := 24 * a) (by omega) (by omega), w32i (by omega) (by omega)]; omega
      unfold f_Rf_draw_l43
      refine iteF (by show ¬ r.1 0 2 ≤ (k : Int); omega) (bindS (c_Rf_at (s := uA r 12 (zcpF (r.2 12) P (r.1 0 2) a k)) h (by omega) (by omega)) ?_)
      dsimp only
      rw [ei, ew]
      have eo : zRo (uA r 12 (zcpF (r.2 12) P (r.1 0 2) a k)) a + (k : Int) = 288 * r.1 0 8 + (a * 24 + (k : Int)) := by
        show 288 * r.1 0 8 + a * 24 + (k : Int) = _
        omega
      rw [eo]
      refine iteT (by show 0 ≤ 288 * r.1 0 8 + (a * 24 + (k : Int)) ∧ 288 * r.1 0 8 + (a * 24 + (k : Int)) < r.1 1 0; omega) (iteT (by show 0 ≤ a * 24 + (k : Int) ∧ a * 24 + (k : Int) < r.1 12 0; omega) ?_)
      have ev : (uA r 12 (zcpF (r.2 12) P (r.1 0 2) a k)).2 1 (288 * r.1 0 8 + (a * 24 + (k : Int))) = P (a * 24 + (k : Int)) := by rw [hP]; rfl
      rw [ev, uA_uE, zcpF_c _ _ _ _ _ ha.1 (by omega) (by omega)]
      rfl
    · unfold f_Rf_draw_l43
      refine iteT (by show r.1 0 2 ≤ (((r.1 0 2).toNat : Nat) : Int); omega) ?_
      rw [← zcpF_n, show (((r.1 0 2).toNat : Nat) : Int) = r.1 0 2 by omega]
  have outer := zloop_up (step := f_Rf_draw_l33 v) (r := uA r 12 (zcpF (r.2 12) P (r.1 0 2) (r.1 0 1) 0)) (r.1 0 1).toNat (n := zfu) (fun k => ((k : Int), uA r 12 (zcpF (r.2 12) P (r.1 0 2) k 0))) (fun k hk => ?_) ?_ (by unfold zfu; omega)
  · rw [show ((0 : Nat) : Int) = 0 from rfl, zcpF_0, uA_idn] at outer
    exact outer
  · have ew : w32 ((k : Int) + 1) = ((k + 1 : Nat) : Int) := by rw [w32i (by omega) (by omega)]; omega
    unfold f_Rf_draw_l33
    refine iteF (by show ¬ r.1 0 1 ≤ (k : Int); omega) (bindS (inner (k : Int) (by omega)) ?_)
    show some (Sum.inl (w32 ((k : Int) + 1), _)) = _
    rw [ew]
    rfl
  · unfold f_Rf_draw_l33
    exact iteT (by show r.1 0 1 ≤ (((r.1 0 1).toNat : Nat) : Int); omega) (by rw [show (((r.1 0 1).toNat : Nat) : Int) = r.1 0 1 by omega])
theorem M_draw {B : Nat} {C r : zSt} (h : zWh B C r) : zMok (B + 100) C (f_Co_draw C) (f_Rf_draw r) := by
  obtain ⟨k, ln, hd, N, dr, a1, a2, a3⟩ := h
  have b1 := a1.f0 (Or.inl rfl) (0 : Int)
  have b3 := a3.f0 (Or.inl rfl) (0 : Int)
  obtain ⟨s0, s1⟩ := zSho.of b1.rel.1 b3
  have key : ∀ u, (u = 16 ∨ u = 36) → zSho u C (uS r 0 0 0) → (∀ v D E, zloop (zDrw u) zfu (0, 0, C) = some (v, D) → f_Pi_copyCells (zsb (zsl [71, 72, 73, u, u + 1, u + 2]) D) = some (0, E) → f_Co_draw C = some (v, zpb (zsl [71, 72, 73, u, u + 1, u + 2]) 6 D E)) → zMok (B + 100) C (f_Co_draw C) (f_Rf_draw r) := by
    intro u hu hs hf
    obtain ⟨v, D, s, c1, c2, c3, c4, c5, c6⟩ := zDraws hu hs
    have ht := hs.cg hu c3 c4 c5 c6
    obtain ⟨h1, h2, ⟨g1, g2, g3, g4, g5, g6⟩, hZ, h9, h10, h11⟩ := ht
    have p1 : zPW (zsb (zsl [71, 72, 73, u, u + 1, u + 2]) D) := h2
    have p2 : zPW (zsb (zsh 3) (zsb (zsl [71, 72, 73, u, u + 1, u + 2]) D)) := by
      refine ⟨?_, ?_, ?_, ?_, ?_⟩
      · have := h1.1; rw [show (zsb (zsh u) D).1 1 0 = D.1 (u + 1) 0 by rw [Nat.add_comm]; rfl] at this; exact this
      · have := h1.2.1; rw [show (zsb (zsh u) D).1 2 0 = D.1 (u + 2) 0 by rw [Nat.add_comm]; rfl] at this; exact this
      · have := h1.2.2.1; rw [show (zsb (zsh u) D).1 0 2 = D.1 u 2 by show D.1 (0 + u) 2 = _; rw [Nat.zero_add]] at this; exact this
      · have := h1.2.2.2.1; rw [show (zsb (zsh u) D).1 0 3 = D.1 u 3 by show D.1 (0 + u) 3 = _; rw [Nat.zero_add]] at this; exact this
      · have := h1.2.2.2.2; rw [show (zsb (zsh u) D).2 2 = D.2 (u + 2) by show D.2 (2 + u) = _; rw [Nat.add_comm]] at this; exact this
    have e1 := c_copyCells p1 p2
    have e2 := c_Rf_drawn hZ v
    have e3 := hf _ _ _ c1 e1
    rw [zpb_six hu] at e3
    obtain ⟨d1, d2, d3⟩ := b3.1
    refine ⟨v, _, _, e3, bindS c2 (bindS e2 rfl), ?_, ⟨k, ln, hd, N, dr, ?_, by omega, ⟨zBy_cg d1 (congrFun (congrFun c3 3) 1) (congrFun (congrFun c3 3) 2) (congrFun (congrFun c3 4) 0) (c4 4 (by decide) (by decide)), by rw [show (uA s 12 (zcpF (s.2 12) (fun i => s.2 1 (288 * s.1 0 8 + i)) (s.1 0 2) (s.1 0 1) 0)).2 11 = s.2 11 from rfl, show (uA s 12 (zcpF (s.2 12) (fun i => s.2 1 (288 * s.1 0 8 + i)) (s.1 0 2) (s.1 0 1) 0)).1 0 52 = s.1 0 52 from rfl, c5, c6 11 (by decide)]; exact d2, d3⟩, g1, g2, h2, ⟨g5, g6⟩, fun i y1 y2 => ?_⟩⟩
    · show s.1 0 0 = 0
      rw [c5]; rfl
    · refine (b1.rr (fun i j y => by show s.1 i j = _; rw [c5]) (fun i y => ?_)).cg (fun i y => ⟨c3 ▸ rfl, ?_⟩)
      · exact (uA_a (by omega)).trans (c6 i (by omega))
      · exact (uA_a (by omega)).trans (c4 i (by omega) (by omega))
    · show zcpF (D.2 72) (D.2 (u + 1)) (D.1 71 3) (D.1 71 2) 0 i = zcpF (s.2 12) (fun i => s.2 1 (288 * s.1 0 8 + i)) (s.1 0 2) (s.1 0 1) 0 i
      rw [g5, g6]
      unfold zcpF
      by_cases q : 0 ≤ i ∧ i % 24 < s.1 0 2 ∧ (i / 24 < s.1 0 1 ∨ (i / 24 = s.1 0 1 ∧ i % 24 < 0))
      · rw [if_pos q, if_pos q]
        exact h9 i y1 y2
      · rw [if_neg q, if_neg q]
        exact h10 i y1 y2
  by_cases q : C.1 14 8 = 0
  · refine key 16 (Or.inl rfl) (s0 q) (fun v D E c1 c2 => ?_)
    unfold f_Co_draw
    exact iteT q (bindS c1 (bindS c2 rfl))
  · refine key 36 (Or.inr rfl) (s1 q) (fun v D E c1 c2 => ?_)
    unfold f_Co_draw
    exact iteF q (bindS c1 (bindS c2 rfl))
