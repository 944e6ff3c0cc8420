/-! ===== settling ===== -/
theorem zLR.cg {q q' r : zSt} {ln hd : List Int} (h : zLR q r ln hd) (k : ∀ i, i ≤ 4 → q'.1 i = q.1 i ∧ q'.2 i = q.2 i) : zLR q' r ln hd := by
  obtain ⟨⟨a1, a2⟩, ⟨b1, b2⟩, c, d⟩ := h
  refine ⟨⟨zBy_cg a1 ?_ ?_ ?_ ?_, a2⟩, ⟨zBy_cg b1 ?_ ?_ ?_ ?_, b2⟩, ?_, d⟩
  · exact congrFun (k 1 (by decide)).1 1
  · exact congrFun (k 1 (by decide)).1 2
  · exact congrFun (k 2 (by decide)).1 0
  · exact (k 2 (by decide)).2
  · exact congrFun (k 3 (by decide)).1 1
  · exact congrFun (k 3 (by decide)).1 2
  · exact congrFun (k 4 (by decide)).1 0
  · exact (k 4 (by decide)).2
  · rw [(k 0 (by decide)).1]
    exact c
theorem zPd_t {l pg m : List Int} {s1 t r : zSt} (h : ∀ s2, zAo 20 s1 s2 → zBy (zsb (zsh 20) s2) 8 [] → zPd l s2 pg r m) (h1 : ∀ i k, i < 27 → ¬ (i = 20 ∧ (k = 1 ∨ k = 2)) → t.1 i k = s1.1 i k) (h2 : ∀ i, i < 27 → i ≠ 21 → t.2 i = s1.2 i) (h3 : zBy (zsb (zsh 20) t) 8 []) : zPd l t pg r m := by
  have hg : zAg (uS (uS (uA s1 21 (t.2 21)) 20 1 (t.1 20 1)) 20 2 (t.1 20 2)) t := fun i hi => by
    constructor
    · funext k
      have := h1 i k hi
      simp only [uS1, uA1]
      grind
    · have := h2 i hi
      show t.2 i = if i = 21 then t.2 21 else s1.2 i
      grind
  have ha : zAo 20 s1 (uS (uS (uA s1 21 (t.2 21)) 20 1 (t.1 20 1)) 20 2 (t.1 20 2)) := by
    refine ⟨fun i k y => ?_, fun i y => uA_a (by omega)⟩
    simp only [uS1, uA1]
    grind
  exact (h _ ha (zBy_ag h3 hg.sy)).cg hg
def zCo (C r : zSt) (k : Nat) (ty ln hd l N : List Int) : Prop :=
  (zBy (zsb (zsh 1) C) 64 ty ∧ zbs ty) ∧ (zTp (zsb (zsh 41) C) N ∧ C.1 41 2 = (k : Int) ∧ k ≤ N.length) ∧ zJ (zXX (zsb (zsh 14) C) (zsb (zsh 43) C) (N.drop k)) (zsb (zsh 5) C) r ln hd l ∧ w32 (r.1 0 49) = r.1 0 49 ∧ (r.1 0 40 ≠ 0 → ln = [])
/-- what settling leaves alone -/
def zSx (C D : zSt) : Prop := (∀ i, (i = 0 ∨ i = 3 ∨ i = 4 ∨ 43 ≤ i) → D.1 i = C.1 i ∧ D.2 i = C.2 i) ∧ C.1 42 0 ≤ D.1 42 0
theorem zSx.rf (C : zSt) : zSx C C := ⟨fun _ _ => ⟨rfl, rfl⟩, Int.le_refl _⟩
theorem zSx.trans {C D E : zSt} (h : zSx C D) (k : zSx D E) : zSx C E := ⟨fun i a => ⟨(k.1 i a).1.trans (h.1 i a).1, (k.1 i a).2.trans (h.1 i a).2⟩, Int.le_trans h.2 k.2⟩
section ZST
variable {C r : zSt} {k : Nat} {ty ln hd l N : List Int} {b : Int}
/-- one byte arrives -/
theorem Co_arrives (h : zCo C r k ty ln hd (b :: l) N) (hN : N.length < 65536) :
    ∃ p t s1 p2, f_By_removeFirst (zsb (zsh 12) C) = some (b, p) ∧ f_Ta_noteByte b (zsb (zsh 41) (zpb (zsh 12) 2 C p)) = some (0, t) ∧ f_Sc_receive b (zsb (zsh 14) (zpb (zsh 41) 2 (zpb (zsh 12) 2 C p) t)) = some (0, s1) ∧ f_By_addAll (zsb (zsl [10, 11, 34, 35]) (zpb (zsh 14) 27 (zpb (zsh 41) 2 (zpb (zsh 12) 2 C p) t) s1)) = some (0, p2) ∧
      (C.1 42 0 ≤ (zpb (zsh 41) 2 (zpb (zsh 12) 2 C p) t).1 42 0 ∧ (zpb (zsl [10, 11, 34, 35]) 4 (zpb (zsh 14) 27 (zpb (zsh 41) 2 (zpb (zsh 12) 2 C p) t) s1) p2).1 42 0 = (zpb (zsh 41) 2 (zpb (zsh 12) 2 C p) t).1 42 0 ∧ (zpb (zsh 12) 2 C p).1 42 0 = C.1 42 0) ∧
      zCo (zpb (zsl [10, 11, 34, 35]) 4 (zpb (zsh 14) 27 (zpb (zsh 41) 2 (zpb (zsh 12) 2 C p) t) s1) p2) r k ty ln hd l (N ++ [b]) ∧ zSx C (zpb (zsl [10, 11, 34, 35]) 4 (zpb (zsh 14) 27 (zpb (zsh 41) 2 (zpb (zsh 12) 2 C p) t) s1) p2) := by
  obtain ⟨⟨hty, hbt⟩, ⟨hT, hk, hkN⟩, ⟨hR, hO, pg, m, ⟨x1, x2⟩, x3, x4, x5, x6, x7⟩, hw⟩ := h
  have x5' : zBy (zsb (zsh 12) C) 256 (b :: l) := x5
  obtain ⟨p, g1, g2, g3⟩ := Bo_removeFirst (o := 12) x5' (by decide)
  generalize hC1 : zpb (zsh 12) 2 C p = C1 at *
  have hT1 : zTp (zsb (zsh 41) C1) N := hT.cg (g3.1 41 1 (by omega)) (g3.2 42 (by decide)) (g3.1 42 0 (by omega))
  obtain ⟨t, t1, t2, t3⟩ := Ta_noteByte hT1 hN b
  have t4 := t3.at
  have t5 : zTp (zsb (zsh 41) (zpb (zsh 41) 2 C1 t)) (N ++ [b]) := t2.pb
  generalize hC2 : zpb (zsh 41) 2 C1 t = C2 at *
  have e14 : ∀ i, i < 27 → C2.1 (i + 14) = C.1 (i + 14) ∧ C2.2 (i + 14) = C.2 (i + 14) := fun i hi => by
    constructor
    · funext j
      rw [t4.1 _ _ (by omega), g3.1 _ _ (by omega)]
    · rw [t4.2.1 _ (by omega), g3.2 _ (by omega)]
  obtain ⟨s1, a, r1, r2, r3⟩ := x1 (zsb (zsh 14) C2) e14
  have c3 : ∀ i j, (zpb (zsh 14) 27 C2 s1).1 i j = if 14 ≤ i ∧ i < 14 + 27 then s1.1 (i - 14) j else C2.1 i j := fun i j => zpb1 14 27 C2 s1 i j
  have d3 : ∀ i, (zpb (zsh 14) 27 C2 s1).2 i = if 14 ≤ i ∧ i < 14 + 27 then s1.2 (i - 14) else C2.2 i := fun i => zpb2 14 27 C2 s1 i
  generalize hC3 : zpb (zsh 14) 27 C2 s1 = C3 at *
  have o3 : ∀ i, i < 14 → C3.1 i = C2.1 i ∧ C3.2 i = C2.2 i := fun i hi => by
    constructor
    · funext j
      rw [c3, if_neg (by omega)]
    · rw [d3, if_neg (by omega)]
  have pg3 : zBy (zsb (zsh 10) C3) 200 pg := by
    have : zBy (zsb (zsh 10) C) 200 pg := x3
    refine zBy_cg this ?_ ?_ ?_ ?_
    · show C3.1 10 1 = C.1 10 1
      rw [(o3 10 (by decide)).1, t4.1 _ _ (by omega), g3.1 _ _ (by omega)]
    · show C3.1 10 2 = C.1 10 2
      rw [(o3 10 (by decide)).1, t4.1 _ _ (by omega), g3.1 _ _ (by omega)]
    · show C3.1 11 0 = C.1 11 0
      rw [(o3 11 (by decide)).1, t4.1 _ _ (by omega), g3.1 _ _ (by omega)]
    · show C3.2 11 = C.2 11
      rw [(o3 11 (by decide)).2, t4.2.1 _ (by omega), g3.2 _ (by omega)]
  have an3 : zBy (zsb (zsh 34) C3) 8 a := by
    refine zBy_cg r2 ?_ ?_ ?_ ?_
    · show C3.1 34 1 = s1.1 20 1
      rw [c3, if_pos (by omega)]
    · show C3.1 34 2 = s1.1 20 2
      rw [c3, if_pos (by omega)]
    · show C3.1 35 0 = s1.1 21 0
      rw [c3, if_pos (by omega)]
    · show C3.2 35 = s1.2 21
      rw [d3, if_pos (by omega)]
  obtain ⟨p2, u1, u2, u3, u4⟩ := Bo_addAll (a := 10) (c := 34) (by decide) (by decide) (Or.inl (by decide)) pg3 an3
  have u1' : f_By_addAll (zsb (zsl [10, 11, 34, 35]) C3) = some (0, p2) := u1
  have u2' : zBy (zsb (zsh 10) (zpb (zsl [10, 11, 34, 35]) 4 C3 p2)) 200 ((pg ++ a).take 200) := u2
  have u3' : zBy (zsb (zsh 34) (zpb (zsl [10, 11, 34, 35]) 4 C3 p2)) 8 [] := u3
  have u4' : zA2 10 34 C3 (zpb (zsl [10, 11, 34, 35]) 4 C3 p2) := u4
  refine ⟨p, t, s1, p2, g1, ?_, ?_, ?_, ?_⟩
  · rw [hC1]; exact t1
  · rw [hC1, hC2]; exact r1
  · rw [hC1, hC2, hC3]; exact u1'
  rw [hC1, hC2, hC3]
  generalize hC4 : zpb (zsl [10, 11, 34, 35]) 4 C3 p2 = C4 at *
  have lo : ∀ i j, i < 14 → i ≠ 10 → ¬ (i = 12 ∧ (j = 1 ∨ j = 2)) → C4.1 i j = C.1 i j := fun i j y1 y2 y3 => by
    rw [u4'.1 i j (by omega), (o3 i y1).1, t4.1 _ _ (by omega), g3.1 _ _ (by omega)]
  have lo2 : ∀ i, i < 14 → i ≠ 11 → i ≠ 13 → C4.2 i = C.2 i := fun i y1 y2 y3 => by
    rw [u4'.2 i (by omega) (by omega), (o3 i y1).2, t4.2.1 _ (by omega), g3.2 _ (by omega)]
  have hi1 : ∀ i j, 41 ≤ i → C4.1 i j = C2.1 i j := fun i j y1 => by
    rw [u4'.1 i j (by omega), c3, if_neg (by omega)]
  have hi2 : ∀ i, 41 ≤ i → C4.2 i = C2.2 i := fun i y1 => by
    rw [u4'.2 i (by omega) (by omega), d3, if_neg (by omega)]
  have e42 : C1.1 42 0 = C.1 42 0 := g3.1 42 0 (by omega)
  have l42 : C.1 42 0 ≤ C2.1 42 0 := by
    have := t4.2.2
    rw [e42] at this
    exact this
  refine ⟨⟨l42, hi1 42 0 (by decide), e42⟩, ⟨⟨zBy_cg hty ?_ ?_ ?_ ?_, hbt⟩, ⟨t5.cg (hi1 41 1 (by decide)) (hi2 42 (by decide)) (hi1 42 0 (by decide)), ?_, ?_⟩, ⟨zLR.cg hR (fun i hi => ⟨?_, ?_⟩), hO, (pg ++ a).take 200, m, ⟨?_, ?_⟩, ?_, x4, ?_, ?_, ?_⟩, hw⟩, ⟨fun i y => ⟨?_, ?_⟩, ?_⟩⟩
  · exact lo 1 1 (by decide) (by decide) (by omega)
  · exact lo 1 2 (by decide) (by decide) (by omega)
  · exact lo 2 0 (by decide) (by decide) (by omega)
  · exact lo2 2 (by decide) (by decide) (by decide)
  · rw [hi1 41 2 (by decide), t4.1 41 2 (by omega), g3.1 41 2 (by omega)]
    exact hk
  · simp; omega
  · show C4.1 (i + 5) = C.1 (i + 5)
    funext j
    exact lo (i + 5) j (by omega) (by omega) (by omega)
  · exact lo2 (i + 5) (by omega) (by omega) (by omega)
  · refine zPd_t r3 (fun i j y1 y2 => ?_) (fun i y1 y2 => ?_) u3'
    · show C4.1 (i + 14) j = _
      rw [u4'.1 _ _ (by omega), c3, if_pos (by omega), Nat.add_sub_cancel]
    · show C4.2 (i + 14) = _
      rw [u4'.2 _ (by omega) (by omega), d3, if_pos (by omega), Nat.add_sub_cancel]
  · rw [List.drop_append_of_le_length hkN, List.append_assoc]
    refine zPy.cg x2 (fun i hi => ⟨?_, ?_⟩)
    · show C4.1 (i + 43) = C.1 (i + 43)
      funext j
      rw [hi1 _ _ (by omega), t4.1 _ _ (by omega), g3.1 _ _ (by omega)]
    · show C4.2 (i + 43) = C.2 (i + 43)
      rw [hi2 _ (by omega), t4.2.1 _ (by omega), g3.2 _ (by omega)]
  · exact u2'
  · have g2' : zBy (zsb (zsh 12) C1) 256 l := g2
    refine zBy_cg g2' ?_ ?_ ?_ ?_
    · show C4.1 12 1 = C1.1 12 1
      rw [u4'.1 _ _ (by omega), (o3 12 (by decide)).1, t4.1 _ _ (by omega)]
    · show C4.1 12 2 = C1.1 12 2
      rw [u4'.1 _ _ (by omega), (o3 12 (by decide)).1, t4.1 _ _ (by omega)]
    · show C4.1 13 0 = C1.1 13 0
      rw [u4'.1 _ _ (by omega), (o3 13 (by decide)).1, t4.1 _ _ (by omega)]
    · show C4.2 13 = C1.2 13
      rw [u4'.2 _ (by omega) (by omega), (o3 13 (by decide)).2, t4.2.1 _ (by omega)]
  · exact fun c hc => x6 c (List.mem_cons_of_mem _ hc)
  · intro y
    subst y
    have hp := zPd_t (t := zsb (zsh 14) C4) r3 (fun i j y1 y2 => ?_) (fun i y1 y2 => ?_) u3'
    · exact hp.2.1.symm
    · show C4.1 (i + 14) j = _
      rw [u4'.1 _ _ (by omega), c3, if_pos (by omega), Nat.add_sub_cancel]
    · show C4.2 (i + 14) = _
      rw [u4'.2 _ (by omega) (by omega), d3, if_pos (by omega), Nat.add_sub_cancel]
  · funext j
    rcases (by omega : i < 14 ∨ 41 ≤ i) with z | z
    · exact lo i j z (by omega) (by omega)
    · rw [hi1 i j z, t4.1 _ _ (by omega), g3.1 _ _ (by omega)]
  · rcases (by omega : i < 14 ∨ 41 ≤ i) with z | z
    · exact lo2 i z (by omega) (by omega)
    · rw [hi2 i z, t4.2.1 _ (by omega), g3.2 _ (by omega)]
  · rw [hi1 42 0 (by decide)]
    exact l42
end ZST
