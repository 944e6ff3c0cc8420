/-! ===== public methods: size, cellAnew ===== -/
def e_Co_size (a1 a2 : Int) : Option Int := if a1 < 2 then some 1 else if 12 < a1 then some 1 else if a2 < 4 then some 1 else if a2 ≤ 24 then none else some 1
theorem c_Sl_begin {q : zSt} (h : zPW (zsb (zsh 1) q)) {R w : Int} (hR : 2 ≤ R ∧ R ≤ 12) (hw : 4 ≤ w ∧ w ≤ 24) : ∃ q1, f_Sl_begin R w q = some (0, q1) ∧ zPW (zsb (zsh 1) q1) ∧ (q1.1 1 2 = R ∧ q1.1 1 3 = w) ∧ (∀ i, 0 ≤ i → i < 288 → q1.2 2 i = 0) ∧ ∀ i, i < 1 ∨ 4 ≤ i → q1.1 i = q.1 i ∧ q1.2 i = q.2 i := by
  have e := c_Pi_clear h
  obtain ⟨p, hp⟩ : ∃ p, p = uS (uS (uB (zsb (zsh 1) q) (zFl ((zsb (zsh 1) q).2 1) 0 288 0) (zFl ((zsb (zsh 1) q).2 2) 0 12 0)) 0 2 R) 0 3 w := ⟨_, rfl⟩
  have eb : f_Pi_begin R w (zsb (zsh 1) q) = some (0, p) := by
    unfold f_Pi_begin
    rw [hp]
    exact bindS e rfl
  have p1 : p.1 1 0 = 288 ∧ p.1 2 0 = 12 := by rw [hp]; exact ⟨h.1, h.2.1⟩
  have p2 : p.1 0 2 = R ∧ p.1 0 3 = w := by rw [hp]; exact ⟨rfl, rfl⟩
  have p3 : p.2 1 = zFl ((zsb (zsh 1) q).2 1) 0 288 0 := by rw [hp]; rfl
  have p4 : p.2 2 = zFl ((zsb (zsh 1) q).2 2) 0 12 0 := by rw [hp]; rfl
  refine ⟨zpb (zsh 1) 3 q p, bindS eb rfl, ⟨?_, ?_, ?_, ?_, fun i => ?_⟩, ⟨?_, ?_⟩, fun i y1 y2 => ?_, fun i y => ⟨?_, ?_⟩⟩
  · show (zpb (zsh 1) 3 q p).1 2 0 = 288
    rw [zpb1, if_pos (by omega)]; exact p1.1
  · show (zpb (zsh 1) 3 q p).1 3 0 = 12
    rw [zpb1, if_pos (by omega)]; exact p1.2
  · show 2 ≤ (zpb (zsh 1) 3 q p).1 1 2 ∧ (zpb (zsh 1) 3 q p).1 1 2 ≤ 12
    rw [zpb1, if_pos (by omega)]; rw [show p.1 (1 - 1) 2 = R from p2.1]; exact hR
  · show 4 ≤ (zpb (zsh 1) 3 q p).1 1 3 ∧ (zpb (zsh 1) 3 q p).1 1 3 ≤ 24
    rw [zpb1, if_pos (by omega)]; rw [show p.1 (1 - 1) 3 = w from p2.2]; exact hw
  · show (zpb (zsh 1) 3 q p).2 3 i = 0 ∨ (zpb (zsh 1) 3 q p).2 3 i = 1
    rw [zpb2, if_pos (by omega), show p.2 (3 - 1) = _ from p4]
    unfold zFl
    by_cases z : 0 ≤ i ∧ i < 12
    · rw [if_pos z]; exact Or.inl rfl
    · rw [if_neg z]; exact h.2.2.2.2 i
  · rw [zpb1, if_pos (by omega)]; exact p2.1
  · rw [zpb1, if_pos (by omega)]; exact p2.2
  · rw [zpb2, if_pos (by omega), show p.2 (2 - 1) = _ from p3]
    unfold zFl
    rw [if_pos ⟨y1, y2⟩]
  · funext j
    rw [zpb1, if_neg (by omega)]
  · rw [zpb2, if_neg (by omega)]
theorem M_size {B : Nat} {C r : zSt} (h : zWh B C r) (hB : B + 100 < 65536) (a b : Int) : zMok (B + 100) C (f_Co_size a b C) (f_Rf_size a b r) ∨ zMth (B + 100) C (e_Co_size a b) (f_Rf_size a b r) 1 1 := by
  have h0 := h
  obtain ⟨k, ln, hd, N, dr, a1, a2, a3⟩ := h
  by_cases y : (2 ≤ a ∧ a ≤ 12) ∧ (4 ≤ b ∧ b ≤ 24)
  · obtain ⟨t, t1, t2, t3⟩ := Ta_noteSize a1.2.1.1 (by omega) a b
    have t4 := t3.at
    have t5 : zTp (zsb (zsh 41) (zpb (zsh 41) 2 C t)) (N ++ [zsz a b]) := t2.pb
    obtain ⟨hR, han, hPy, hpc, pg, p1, p2⟩ := a1.rel
    generalize hC1 : zpb (zsh 41) 2 C t = C1 at *
    have g14 : zAg (zsb (zsh 14) C) (zsb (zsh 14) C1) := fun i hi => ⟨funext fun j => t4.1 (i + 14) j (by omega), t4.2.1 (i + 14) (by omega)⟩
    obtain ⟨s1, r1, n, e1, e2, e3, e4, e5, e6, e7, e8, e9, e10⟩ := S_resize (zRel.cg hR g14) y.1 y.2
    have c3 : ∀ i j, (zpb (zsh 14) 27 C1 s1).1 i j = if 14 ≤ i ∧ i < 14 + 27 then s1.1 (i - 14) j else C1.1 i j := fun i j => zpb1 14 27 C1 s1 i j
    have d3 : ∀ i, (zpb (zsh 14) 27 C1 s1).2 i = if 14 ≤ i ∧ i < 14 + 27 then s1.2 (i - 14) else C1.2 i := fun i => zpb2 14 27 C1 s1 i
    generalize hC2 : zpb (zsh 14) 27 C1 s1 = C2 at *
    have hpw : zPW (zsb (zsh 1) (zsb (zsh 70) C2)) := by
      have : zsb (zsh 71) C2 = zsb (zsh 71) C := zsb_ext fun i => ⟨funext fun j => by rw [c3, if_neg (by omega), t4.1 _ _ (by omega)], by rw [d3, if_neg (by omega), t4.2.1 _ (by omega)]⟩
      have w := a3.2.2.2.1
      rw [← this] at w
      exact w
    obtain ⟨q1, f1, f2, f3, f4, f5⟩ := c_Sl_begin hpw y.1 y.2
    have c4 : ∀ i j, (zpb (zsh 70) 6 C2 q1).1 i j = if 70 ≤ i ∧ i < 70 + 6 then q1.1 (i - 70) j else C2.1 i j := fun i j => zpb1 70 6 C2 q1 i j
    have d4 : ∀ i, (zpb (zsh 70) 6 C2 q1).2 i = if 70 ≤ i ∧ i < 70 + 6 then q1.2 (i - 70) else C2.2 i := fun i => zpb2 70 6 C2 q1 i
    have lo : ∀ i, i < 14 → (zpb (zsh 70) 6 C2 q1).1 i = C.1 i ∧ (zpb (zsh 70) 6 C2 q1).2 i = C.2 i := fun i hi => ⟨funext fun j => by rw [c4, if_neg (by omega), c3, if_neg (by omega), t4.1 _ _ (by omega)], by rw [d4, if_neg (by omega), d3, if_neg (by omega), t4.2.1 _ (by omega)]⟩
    have sc : zAg s1 (zsb (zsh 14) (zpb (zsh 70) 6 C2 q1)) := fun i hi => by
      constructor
      · funext j
        show (zpb (zsh 70) 6 C2 q1).1 (i + 14) j = _
        rw [c4, if_neg (by omega), c3, if_pos (by omega), Nat.add_sub_cancel]
      · show (zpb (zsh 70) 6 C2 q1).2 (i + 14) = _
        rw [d4, if_neg (by omega), d3, if_pos (by omega), Nat.add_sub_cancel]
    have ta : ∀ i, (i = 41 ∨ i = 42) → (zpb (zsh 70) 6 C2 q1).1 i = C1.1 i ∧ (zpb (zsh 70) 6 C2 q1).2 i = C1.2 i := fun i hi => ⟨funext fun j => by rw [c4, if_neg (by omega), c3, if_neg (by omega)], by rw [d4, if_neg (by omega), d3, if_neg (by omega)]⟩
    have an : zAg (zsb (zsh 43) C) (zsb (zsh 43) (zpb (zsh 70) 6 C2 q1)) := fun i hi => by
      constructor
      · funext j
        show (zpb (zsh 70) 6 C2 q1).1 (i + 43) j = C.1 (i + 43) j
        rw [c4, if_neg (by omega), c3, if_neg (by omega), t4.1 _ _ (by omega)]
      · show (zpb (zsh 70) 6 C2 q1).2 (i + 43) = C.2 (i + 43)
        rw [d4, if_neg (by omega), d3, if_neg (by omega), t4.2.1 _ (by omega)]
    have sl : ∀ i, i < 6 → (zpb (zsh 70) 6 C2 q1).1 (70 + i) = q1.1 i ∧ (zpb (zsh 70) 6 C2 q1).2 (70 + i) = q1.2 i := fun i hi => ⟨funext fun j => by rw [c4, if_pos (by omega), Nat.add_sub_cancel_left], by rw [d4, if_pos (by omega), Nat.add_sub_cancel_left]⟩
    have sl2 : ∀ i, 76 ≤ i → True := fun _ _ => trivial
    generalize hC3 : zpb (zsh 70) 6 C2 q1 = C3 at *
    have h42 : C1.1 42 0 = C3.1 42 0 := (congrFun (ta 42 (by decide)).1 0).symm
    refine Or.inl ⟨n, C3, r1, ?_, e2, e5, k, ln, hd, N ++ [zsz a b], dr, ?_, by simp; omega, ?_, ?_⟩
    · unfold f_Co_size
      refine iteF (by omega) (iteF (by omega) (iteF (by omega) (iteT (by omega) (bindS t1 ?_))))
      dsimp only
      rw [hC1]
      refine zmn_i t4.2.2 (x := (n, C3)) (bindS e1 ?_) (by show _ ≤ C3.1 42 0; rw [h42]; exact Int.le_refl _)
      dsimp only
      rw [hC2]
      refine bindS f1 ?_
      dsimp only
      rw [hC3]
      refine bindS (x := n) ?_ rfl
      show some (C3.1 19 2) = some n
      have : C3.1 19 2 = s1.1 5 2 := congrFun (sc 5 (by decide)).1 2
      rw [this, e4.2.2.2.2.1.1, e3]
    · obtain ⟨⟨hty, hbt⟩, ⟨hT, hk, hkN⟩, ⟨hLR, hO, pg0, m, ⟨x1, x2⟩, x3, x4, x5, x6, x7⟩, hw⟩ := a1
      obtain rfl := x7 rfl
      have hrel : zRel (zsb (zsh 14) C3) r1 := zRel.cg e4 sc
      refine ⟨⟨zBy_cg hty ?_ ?_ ?_ ?_, hbt⟩, ⟨t5.cg ?_ ?_ ?_, ?_, by simp; omega⟩, ⟨?_, ⟨⟨_, hrel⟩, by rw [e6 48 (by decide) (by decide)]; exact hO.2⟩, m, m, ⟨⟨hrel, rfl, ?_⟩, ?_⟩, ?_, ?_, ?_, zbs.nil, fun _ => rfl⟩, ?_⟩
      · exact congrFun (lo 1 (by decide)).1 1
      · exact congrFun (lo 1 (by decide)).1 2
      · exact congrFun (lo 2 (by decide)).1 0
      · exact (lo 2 (by decide)).2
      · exact congrFun (ta 41 (by decide)).1 1
      · exact (ta 42 (by decide)).2
      · exact congrFun (ta 42 (by decide)).1 0
      · rw [(ta 41 (by decide)).1, t4.1 41 2 (by omega)]; exact hk
      · have := hLR.cg (q' := zsb (zsh 5) C3) (fun i hi => lo (i + 5) (by omega))
        unfold zLR at this ⊢
        rw [e6 46 (by decide) (by decide), e6 44 (by decide) (by decide), e6 40 (by decide) (by decide), e6 41 (by decide) (by decide), e6 42 (by decide) (by decide), e6 49 (by decide) (by decide), e6 50 (by decide) (by decide), e7 9 (by decide) (by decide), e7 8 (by decide) (by decide)]
        exact this
      · exact zBy_ag (e10.by (zBy_ag x1.2.2 g14)) sc
      · rw [List.append_nil, List.drop_append_of_le_length hkN]
        rw [List.append_nil] at x2
        exact (zPy.size y.1 y.2 e2 x2).cg an
      · refine zBy_cg x3 ?_ ?_ ?_ ?_
        · exact congrFun (lo 10 (by decide)).1 1
        · exact congrFun (lo 10 (by decide)).1 2
        · exact congrFun (lo 11 (by decide)).1 0
        · exact (lo 11 (by decide)).2
      · rw [e6 48 (by decide) (by decide), e7 10 (by decide) (by decide)]
        exact x4
      · refine zBy_cg x5 ?_ ?_ ?_ ?_
        · exact congrFun (lo 12 (by decide)).1 1
        · exact congrFun (lo 12 (by decide)).1 2
        · exact congrFun (lo 13 (by decide)).1 0
        · exact (lo 13 (by decide)).2
      · rw [e6 40 (by decide) (by decide), e6 49 (by decide) (by decide)]
        exact hw
    · obtain ⟨⟨h1, h2, h3⟩, -⟩ := a3
      refine ⟨zBy_cg h1 ?_ ?_ ?_ ?_, by rw [e6 52 (by decide) (by decide), e7 11 (by decide) (by decide)]; exact h2, h3⟩
      · exact congrFun (lo 3 (by decide)).1 1
      · exact congrFun (lo 3 (by decide)).1 2
      · exact congrFun (lo 4 (by decide)).1 0
      · exact (lo 4 (by decide)).2
    · have hi : ∀ i, (i = 4 ∨ i = 5) → C3.1 (70 + i) = C.1 (70 + i) := fun i hi => by
        rw [(sl i (by omega)).1, (f5 i (by omega)).1]
        funext j
        show C2.1 (i + 70) j = _
        rw [c3, if_neg (by omega), t4.1 _ _ (by omega), Nat.add_comm]
      refine ⟨?_, ?_, ?_, ?_, fun i y1 y2 => ?_⟩
      · rw [hi 4 (by decide)]; exact a3.2.1
      · rw [hi 5 (by decide)]; exact a3.2.2.1
      · obtain ⟨w1, w2, w3, w4, w5⟩ := f2
        refine ⟨?_, ?_, ?_, ?_, fun i => ?_⟩
        · exact (congrFun (sl 2 (by decide)).1 0).trans w1
        · exact (congrFun (sl 3 (by decide)).1 0).trans w2
        · show 2 ≤ C3.1 (70 + 1) 2 ∧ C3.1 (70 + 1) 2 ≤ 12
          rw [(sl 1 (by decide)).1]; exact w3
        · show 4 ≤ C3.1 (70 + 1) 3 ∧ C3.1 (70 + 1) 3 ≤ 24
          rw [(sl 1 (by decide)).1]; exact w4
        · show C3.2 (70 + 3) i = 0 ∨ C3.2 (70 + 3) i = 1
          rw [(sl 3 (by decide)).2]; exact w5 i
      · rw [e9.1, e9.2, show C3.1 71 = q1.1 1 from (sl 1 (by decide)).1]; exact f3
      · rw [show C3.2 72 = q1.2 2 from (sl 2 (by decide)).2, f4 i y1 y2, e8 i y1 y2]
  · refine Or.inr ⟨0, uS r 0 0 1, ?_, ?_, rfl, (h0.f0 (Or.inl rfl) 1).mono (by omega)⟩
    · unfold e_Co_size
      by_cases z1 : a < 2
      · exact iteT z1 rfl
      refine iteF z1 ?_
      by_cases z2 : 12 < a
      · exact iteT z2 rfl
      refine iteF z2 ?_
      by_cases z3 : b < 4
      · exact iteT z3 rfl
      exact iteF z3 (iteF (by omega) rfl)
    · unfold f_Rf_size
      by_cases z1 : 2 ≤ a ∧ a ≤ 12
      · refine bindS (in_1 z1) (iteF (by decide) (bindS (in_0 (by omega)) ?_))
        rw [one_0]
        exact iteF (by decide) rfl
      · refine bindS (in_0 z1) (iteT rfl ?_)
        unfold f_Rf_size_j25 f_Rf_size_j26
        exact iteF (by decide) rfl
