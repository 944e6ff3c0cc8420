/-! ===== public methods: least, draw ===== -/
theorem zfind_9 (a0 a1 a2 a3 a4 a5 a6 a7 a8 i : Nat) : zfind (zsl [a0, a1, a2, a3, a4, a5, a6, a7, a8]) i 9 = if a8 = i then some 8 else if a7 = i then some 7 else if a6 = i then some 6 else if a5 = i then some 5 else if a4 = i then some 4 else if a3 = i then some 3 else if a2 = i then some 2 else if a1 = i then some 1 else if a0 = i then some 0 else none := rfl
theorem zpb9_1 (a0 a1 a2 a3 a4 a5 a6 a7 a8 : Nat) (s t : zSt) (i k : Nat) : (zpb (zsl [a0, a1, a2, a3, a4, a5, a6, a7, a8]) 9 s t).1 i k = if a8 = i then t.1 8 k else if a7 = i then t.1 7 k else if a6 = i then t.1 6 k else if a5 = i then t.1 5 k else if a4 = i then t.1 4 k else if a3 = i then t.1 3 k else if a2 = i then t.1 2 k else if a1 = i then t.1 1 k else if a0 = i then t.1 0 k else s.1 i k := by
  unfold zpb
  simp only [zfind_9]
  by_cases q8 : a8 = i
  · rw [if_pos q8, if_pos q8]
  rw [if_neg q8, if_neg q8]
  by_cases q7 : a7 = i
  · rw [if_pos q7, if_pos q7]
  rw [if_neg q7, if_neg q7]
  by_cases q6 : a6 = i
  · rw [if_pos q6, if_pos q6]
  rw [if_neg q6, if_neg q6]
  by_cases q5 : a5 = i
  · rw [if_pos q5, if_pos q5]
  rw [if_neg q5, if_neg q5]
  by_cases q4 : a4 = i
  · rw [if_pos q4, if_pos q4]
  rw [if_neg q4, if_neg q4]
  by_cases q3 : a3 = i
  · rw [if_pos q3, if_pos q3]
  rw [if_neg q3, if_neg q3]
  by_cases q2 : a2 = i
  · rw [if_pos q2, if_pos q2]
  rw [if_neg q2, if_neg q2]
  by_cases q1 : a1 = i
  · rw [if_pos q1, if_pos q1]
  rw [if_neg q1, if_neg q1]
  by_cases q0 : a0 = i
  · rw [if_pos q0, if_pos q0]
  rw [if_neg q0, if_neg q0]
theorem zpb9_2 (a0 a1 a2 a3 a4 a5 a6 a7 a8 : Nat) (s t : zSt) (i : Nat) : (zpb (zsl [a0, a1, a2, a3, a4, a5, a6, a7, a8]) 9 s t).2 i = if a8 = i then t.2 8 else if a7 = i then t.2 7 else if a6 = i then t.2 6 else if a5 = i then t.2 5 else if a4 = i then t.2 4 else if a3 = i then t.2 3 else if a2 = i then t.2 2 else if a1 = i then t.2 1 else if a0 = i then t.2 0 else s.2 i := by
  unfold zpb
  simp only [zfind_9]
  by_cases q8 : a8 = i
  · rw [if_pos q8, if_pos q8]
  rw [if_neg q8, if_neg q8]
  by_cases q7 : a7 = i
  · rw [if_pos q7, if_pos q7]
  rw [if_neg q7, if_neg q7]
  by_cases q6 : a6 = i
  · rw [if_pos q6, if_pos q6]
  rw [if_neg q6, if_neg q6]
  by_cases q5 : a5 = i
  · rw [if_pos q5, if_pos q5]
  rw [if_neg q5, if_neg q5]
  by_cases q4 : a4 = i
  · rw [if_pos q4, if_pos q4]
  rw [if_neg q4, if_neg q4]
  by_cases q3 : a3 = i
  · rw [if_pos q3, if_pos q3]
  rw [if_neg q3, if_neg q3]
  by_cases q2 : a2 = i
  · rw [if_pos q2, if_pos q2]
  rw [if_neg q2, if_neg q2]
  by_cases q1 : a1 = i
  · rw [if_pos q1, if_pos q1]
  rw [if_neg q1, if_neg q1]
  by_cases q0 : a0 = i
  · rw [if_pos q0, if_pos q0]
  rw [if_neg q0, if_neg q0]
/-- the nine cells of the slow line and the picture that is shown -/
def zNine (u : Nat) : List Nat := [70, 71, 72, 73, 74, 75, u, u + 1, u + 2]
theorem zpb_nine {u : Nat} (hu : u = 16 ∨ u = 36) (C : zSt) (Lk Cc : Int → Int) : zpb (zsl [70, 71, 72, 73, 74, 75, u, u + 1, u + 2]) 9 C (zSq (zsb (zsl [70, 71, 72, 73, 74, 75, u, u + 1, u + 2]) C) Lk Cc) = uA (uA C 75 Lk) 74 Cc := by
  refine zst_ext (fun i k => ?_) (fun i => ?_)
  · rw [zpb9_1]
    show (if u + 2 = i then C.1 (u + 2) k else if u + 1 = i then C.1 (u + 1) k else if u = i then C.1 u k else if 75 = i then C.1 75 k else if 74 = i then C.1 74 k else if 73 = i then C.1 73 k else if 72 = i then C.1 72 k else if 71 = i then C.1 71 k else if 70 = i then C.1 70 k else C.1 i k) = C.1 i k
    grind
  · rw [zpb9_2]
    show (if u + 2 = i then C.2 (u + 2) else if u + 1 = i then C.2 (u + 1) else if u = i then C.2 u else if 75 = i then Lk else if 74 = i then Cc else if 73 = i then C.2 73 else if 72 = i then C.2 72 else if 71 = i then C.2 71 else if 70 = i then C.2 70 else C.2 i) = if i = 74 then Cc else if i = 75 then Lk else C.2 i
    grind (splits := 24)
theorem zRow.cg2 {g g' : Int → Int} {n : Int} (h : zRow g n) (hn : 0 ≤ n ∧ n ≤ 24) (e : ∀ c, 0 ≤ c → c < 24 → g' c = g c) : zRow g' n := by
  refine ⟨fun c a b => by rw [e c (by omega) b]; exact h.1 c a b, fun c a b => ?_⟩
  rw [e c a (by omega)]
  obtain ⟨h1, h2, h3⟩ := h.2 c a b
  refine ⟨h1, ?_, h3⟩
  by_cases q : 0 < c
  · rw [e (c - 1) (by omega) (by omega)]
    exact h2
  · exact ⟨fun w => absurd (h2.mp w).1 q, fun w => absurd w.1 q⟩
/-- the picture that is shown, the far picture, and the reference's -/
def zSho (u : Nat) (C r : zSt) : Prop := zPW (zsb (zsh u) C) ∧ zPW (zsb (zsh 71) C) ∧ (C.1 74 0 = 400 ∧ C.1 75 0 = 24 ∧ C.1 u 2 = r.1 0 1 ∧ C.1 u 3 = r.1 0 2 ∧ C.1 71 2 = r.1 0 1 ∧ C.1 71 3 = r.1 0 2) ∧ zRZ r ∧ (∀ k, 0 ≤ k → k < 288 → C.2 (u + 1) k = r.2 1 (288 * r.1 0 8 + k)) ∧ (∀ k, 0 ≤ k → k < 288 → C.2 72 k = r.2 12 k) ∧ ∀ row, 0 ≤ row → row < 12 → zRow (fun c => r.2 1 (288 * r.1 0 8 + row * 24 + c)) (r.1 0 2)
theorem zSho.of {C r : zSt} {dr : List Int} (hR : zRel (zsb (zsh 14) C) r) (hd : zDS C r dr) : (C.1 14 8 = 0 → zSho 16 C r) ∧ (¬ C.1 14 8 = 0 → zSho 36 C r) := by
  have z8 := hR.2.1.1.2.2.2
  have x : C.1 14 8 = r.1 0 8 := hR.2.2.2.2.2.2.2.2.1.1
  obtain ⟨-, d1, d2, d3, d4, d5⟩ := hd
  have p0 := hR.2.2.1
  have p1 := hR.2.2.2.1
  have hk := hR.2.1.2.2.2.2.2.2.1
  constructor
  · intro z
    refine ⟨hR.pw0, d3, ⟨d1, d2, p0.2.2.2.1, p0.2.2.2.2.1, d4⟩, hR.2.1.1, fun k a b => ?_, d5, fun row a b => (hk.1.1 row a b).row.cg (fun c => ?_)⟩
    · have := p0.1 k a b
      rw [show 288 * r.1 0 8 + k = 0 + k by omega]
      exact this
    · rw [show 288 * r.1 0 8 + row * 24 = 0 + row * 24 by omega]
  · intro z
    refine ⟨hR.pw1, d3, ⟨d1, d2, p1.2.2.2.1, p1.2.2.2.2.1, d4⟩, hR.2.1.1, fun k a b => ?_, d5, fun row a b => (hk.2.1 row a b).row.cg (fun c => ?_)⟩
    · have := p1.1 k a b
      rw [show 288 * r.1 0 8 + k = 288 + k by omega]
      exact this
    · rw [show 288 * r.1 0 8 + row * 24 = 288 + row * 24 by omega]
theorem zSho.cost {u : Nat} (hu : u = 16 ∨ u = 36) {C r : zSt} (h : zSho u C r) {row : Int} (hrow : 0 ≤ row ∧ row < 12) :
    ∃ Lk Cc C' v, f_Sl_costsOf row (zsb (zsl [70, 71, 72, 73, 74, 75, u, u + 1, u + 2]) C) = some (v, zSq (zsb (zsl [70, 71, 72, 73, 74, 75, u, u + 1, u + 2]) C) Lk Cc) ∧ f_Rf_costOf row r = some (v, uA r 13 C') := by
  obtain ⟨h1, h2, ⟨h3, h4, h5, h6, h7, h8⟩, hZ, h9, h10, h11⟩ := h
  have hZ' := hZ
  have z2 := hZ.2.2.1
  have hq : zQs (zsb (zsl [70, 71, 72, 73, 74, 75, u, u + 1, u + 2]) C) (r.1 0 2) := by
    refine ⟨⟨?_, ?_, ?_, ?_, ?_⟩, h2, h3, h4, h6⟩
    · have := h1.1; rw [show (zsb (zsh u) C).1 1 0 = C.1 (u + 1) 0 by rw [Nat.add_comm]; rfl] at this; exact this
    · have := h1.2.1; rw [show (zsb (zsh u) C).1 2 0 = C.1 (u + 2) 0 by rw [Nat.add_comm]; rfl] at this; exact this
    · have := h1.2.2.1; rw [show (zsb (zsh u) C).1 0 2 = C.1 u 2 by show C.1 (0 + u) 2 = _; rw [Nat.zero_add]] at this; exact this
    · have := h1.2.2.2.1; rw [show (zsb (zsh u) C).1 0 3 = C.1 u 3 by show C.1 (0 + u) 3 = _; rw [Nat.zero_add]] at this; exact this
    · have := h1.2.2.2.2; rw [show (zsb (zsh u) C).2 2 = C.2 (u + 2) by show C.2 (2 + u) = _; rw [Nat.add_comm]] at this; exact this
  have hr : zRq (zsb (zsl [70, 71, 72, 73, 74, 75, u, u + 1, u + 2]) C) r (r.1 0 2) row (fun k => C.2 (u + 1) (row * 24 + k)) := by
    refine ⟨hZ, rfl, hrow, fun k => rfl, fun k a b => ?_, fun k a b => ?_⟩
    · show _ = C.2 (u + 1) (row * 24 + k)
      rw [h9 _ (by omega) (by omega)]
      unfold zRo
      rw [Int.add_assoc]
    · show C.2 72 (row * 24 + k) = _
      rw [h10 _ (by omega) (by omega), show row * 24 + k = 24 * row + k by omega]
  have hw : zRow (fun k => C.2 (u + 1) (row * 24 + k)) (r.1 0 2) := by
    refine (h11 row hrow.1 hrow.2).cg2 (by omega) (fun c a b => ?_)
    rw [h9 _ (by omega) (by omega), Int.add_assoc]
  obtain ⟨Cc, C', v, a1, a2, -⟩ := S_cost hq hr hw
  exact ⟨_, Cc, C', v, a1, a2⟩
def e_Co_least (a1 : Int) (s : zSt) : Option Int := if a1 < 0 then some 3 else if a1 < (s.1 14 9) then none else some 3
theorem zCo.row {C r : zSt} {k : Nat} {ln hd N : List Int} (h : zCo C r k [] ln hd [] N) (Lk Cc C' : Int → Int) : zCo (uA (uA C 75 Lk) 74 Cc) (uA r 13 C') k [] ln hd [] N := by
  have h1 : zCo C (uA r 13 C') k [] ln hd [] N := by
    refine h.rr (fun _ _ _ => rfl) (fun i y => ?_)
    exact uA_a (by omega)
  refine h1.cg (fun i y => ⟨rfl, ?_⟩)
  exact (uA_a (i := 74) (by omega)).trans (uA_a (i := 75) (by omega))
theorem zDS.row {C r : zSt} {dr : List Int} (h : zDS C r dr) (Lk Cc C' : Int → Int) : zDS (uA (uA C 75 Lk) 74 Cc) (uA r 13 C') dr := h
theorem M_least {B : Nat} {C r : zSt} (h : zWh B C r) (a : Int) : zMok (B + 100) C (f_Co_least a C) (f_Rf_least a r) ∨ zMth (B + 100) C (e_Co_least a C) (f_Rf_least a r) 3 1 := by
  have h0 := h
  obtain ⟨k, ln, hd, N, dr, a1, a2, a3⟩ := h
  have hR := a1.rel.1
  have z := hR.size
  have x9 : C.1 14 9 = r.1 0 1 := hR.2.2.2.2.2.2.2.2.1.2.1
  have e1 : w32 (r.1 0 1 - 1) = r.1 0 1 - 1 := w32i (by omega) (by omega)
  have b1 := a1.f0 (Or.inl rfl) (0 : Int)
  have b3 := a3.f0 (Or.inl rfl) (0 : Int)
  obtain ⟨s0, s1⟩ := zSho.of b1.rel.1 b3
  by_cases y : 0 ≤ a ∧ a ≤ r.1 0 1 - 1
  · have key : ∀ u, (u = 16 ∨ u = 36) → zSho u C (uS r 0 0 0) → (∀ v q, f_Sl_costsOf a (zsb (zsl [70, 71, 72, 73, 74, 75, u, u + 1, u + 2]) C) = some (v, q) → f_Co_least a C = some (v, zpb (zsl [70, 71, 72, 73, 74, 75, u, u + 1, u + 2]) 9 C q)) → zMok (B + 100) C (f_Co_least a C) (f_Rf_least a r) := by
      intro u hu hs hf
      obtain ⟨Lk, Cc, C', v, c1, c2⟩ := hs.cost hu (row := a) (by omega)
      refine ⟨v, _, uA (uS r 0 0 0) 13 C', hf _ _ c1, ?_, ?_, ?_⟩
      · unfold f_Rf_least
        rw [e1]
        refine bindS (in_1 y) ?_
        rw [one_1]
        exact iteT (by decide) (bindS c2 rfl)
      · rfl
      · rw [zpb_nine hu]
        exact ⟨k, ln, hd, N, dr, b1.row Lk Cc C', by omega, b3.row Lk Cc C'⟩
    refine Or.inl ?_
    by_cases q : C.1 14 8 = 0
    · refine key 16 (Or.inl rfl) (s0 q) (fun v q' c => ?_)
      unfold f_Co_least
      exact iteF (by omega) (iteT (by omega) (iteT q (bindS c rfl)))
    · refine key 36 (Or.inr rfl) (s1 q) (fun v q' c => ?_)
      unfold f_Co_least
      exact iteF (by omega) (iteT (by omega) (iteF q (bindS c rfl)))
  · refine Or.inr ⟨0, uS r 0 0 1, ?_, ?_, rfl, (h0.f0 (Or.inl rfl) 1).mono (by omega)⟩
    · unfold e_Co_least
      by_cases q : a < 0
      · exact iteT q rfl
      · exact iteF q (iteF (by omega) rfl)
    · unfold f_Rf_least
      rw [e1]
      refine bindS (in_0 y) ?_
      rw [one_0]
      exact iteF (by decide) rfl
