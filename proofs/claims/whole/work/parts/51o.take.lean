/-! ===== public methods: take, rule, size ===== -/
def zsf (g : Int → Int) (n : Int) : Int → Int := fun i => if 0 ≤ i ∧ i < n then g (i + 1) else g i
theorem zLs.tl {g : Int → Int} {c b : Int} {l : List Int} (h : zLs g c (b :: l)) : g 0 = b ∧ zLs (zsf g (c - 1)) (c - 1) l := by
  obtain ⟨h1, h2⟩ := h
  simp only [List.length_cons] at h1 h2
  refine ⟨h2 0 (by omega), by omega, fun i hi => ?_⟩
  unfold zsf
  rw [if_pos (by omega)]
  exact h2 (i + 1) (by omega)
theorem c_Rf_take {r : zSt} (h10 : r.1 10 0 = 200) (hn : 0 ≤ r.1 0 48 ∧ r.1 0 48 ≤ 200) : f_Rf_take r = some (if r.1 0 48 = 0 then (-1, uS r 0 0 0) else (r.2 10 0, uS (uA (uS r 0 0 0) 10 (zsf (r.2 10) (r.1 0 48 - 1))) 0 48 (r.1 0 48 - 1))) := by
  unfold f_Rf_take
  by_cases z : r.1 0 48 = 0
  · rw [if_pos z]
    exact iteF (fun w => w z) rfl
  · rw [if_neg z]
    have ew : w32 (r.1 0 48 - 1) = r.1 0 48 - 1 := w32i (by omega) (by omega)
    refine iteT z (iteT (by omega) ?_)
    rw [ew]
    generalize hr0 : uS (uS r 0 0 0) 0 48 (r.1 0 48 - 1) = r0
    have e48 : r0.1 0 48 = r.1 0 48 - 1 := by rw [← hr0]; rfl
    have e10 : r0.1 10 0 = 200 := by rw [← hr0]; exact h10
    have f10 : r0.2 10 = r.2 10 := by rw [← hr0]; rfl
    have key := zloop_up (step := f_Rf_take_l33 (r.2 10 0)) (r := uA r0 10 (zsf (r.2 10) (r.1 0 48 - 1))) (r.1 0 48 - 1).toNat (n := zfu) (fun k => ((k : Int), uA r0 10 (zsf (r.2 10) k))) (fun k hk => ?_) ?_ (by unfold zfu; omega)
    · have e0 : uA r0 10 (zsf (r.2 10) ((0 : Nat) : Int)) = r0 := by
        have : zsf (r.2 10) ((0 : Nat) : Int) = r0.2 10 := by
          rw [f10]
          funext i
          unfold zsf
          rw [if_neg (by omega)]
        rw [this]
        refine zst_ext (fun _ _ => rfl) (fun i => ?_)
        rw [uA2]
        by_cases q : i = 10
        · rw [if_pos q, q]
        · rw [if_neg q]
      rw [e0] at key
      refine bindS key ?_
      have e1 : uA r0 10 (zsf (r.2 10) (r.1 0 48 - 1)) = uS (uA (uS r 0 0 0) 10 (zsf (r.2 10) (r.1 0 48 - 1))) 0 48 (r.1 0 48 - 1) := by rw [← hr0]; rfl
      rw [e1]
    · unfold f_Rf_take_l33
      have g1 : w32 ((k : Int) + 1) = (k : Int) + 1 := w32i (by omega) (by omega)
      refine iteF (by show ¬ r0.1 0 48 ≤ (k : Int); omega) ?_
      show (if 0 ≤ w32 ((k : Int) + 1) ∧ w32 ((k : Int) + 1) < r0.1 10 0 then (if 0 ≤ (k : Int) ∧ (k : Int) < r0.1 10 0 then some (Sum.inl (w32 ((k : Int) + 1), uE (uA r0 10 (zsf (r.2 10) k)) 10 (k : Int) (zsf (r.2 10) k (w32 ((k : Int) + 1))))) else none) else none) = _
      rw [g1]
      refine iteT (by omega) (iteT (by omega) ?_)
      have e2 : uE (uA r0 10 (zsf (r.2 10) k)) 10 (k : Int) (zsf (r.2 10) k ((k : Int) + 1)) = uA r0 10 (zsf (r.2 10) ((k + 1 : Nat) : Int)) := by
        refine zst_ext (fun _ _ => rfl) (fun i => ?_)
        by_cases q : i = 10
        · subst q
          show (uA (uA r0 10 (zsf (r.2 10) k)) 10 (zup ((uA r0 10 (zsf (r.2 10) k)).2 10) (k : Int) (zsf (r.2 10) k ((k : Int) + 1)))).2 10 = _
          rw [uA2, if_pos rfl, uA2, if_pos rfl, uA2, if_pos rfl]
          funext j
          unfold zup zsf
          grind
        · exact (uA_a q).trans ((uA_a q).trans (uA_a q).symm)
      rw [e2]
      rfl
    · unfold f_Rf_take_l33
      exact iteT (by show r0.1 0 48 ≤ (((r.1 0 48 - 1).toNat : Nat) : Int); omega) (by rw [show (((r.1 0 48 - 1).toNat : Nat) : Int) = r.1 0 48 - 1 by omega])
theorem M_take {B : Nat} {C r : zSt} (h : zWh B C r) : zMok (B + 100) C (f_Co_take C) (f_Rf_take r) := by
  have h0 := h
  obtain ⟨k, ln, hd, N, dr, a1, a2, a3⟩ := h
  obtain ⟨hR, han, hPy, hpc, pg, p1, p2⟩ := a1.rel
  have h10 : r.1 10 0 = 200 := a1.2.2.1.2.1.rl.2.2.2.2.2.2.2.2.2.1
  have er := c_Rf_take h10 hpc
  cases pg with
  | nil =>
    rw [if_pos (show r.1 0 48 = 0 from p2.1)] at er
    refine ⟨-1, zpb (zsh 10) 2 C (zsb (zsh 10) C), uS r 0 0 0, ?_, er, rfl, ?_⟩
    · unfold f_Co_take
      exact bindS (By_removeFirst0 p1) rfl
    · rw [zpb_same]
      exact (h0.f0 (Or.inl rfl) 0).mono (by omega)
  | cons b pg =>
    have hp21 := p2.1
    simp only [List.length_cons] at hp21
    rw [if_neg (by omega)] at er
    obtain ⟨p, g1, g2, g3⟩ := Bo_removeFirst (o := 10) p1 (by decide)
    obtain ⟨t1, t2⟩ := p2.tl
    rw [t1] at er
    generalize hr' : uS (uA (uS r 0 0 0) 10 (zsf (r.2 10) (r.1 0 48 - 1))) 0 48 (r.1 0 48 - 1) = r' at er
    have hlin : zLin r r' := by rw [← hr']; exact ((zLin.uS (Or.inl rfl)).trans (zLin.uA (by decide))).trans (zLin.uS (Or.inr (by decide)))
    have fr : ∀ j, j ≠ 0 → j ≠ 48 → r'.1 0 j = r.1 0 j := fun j y1 y2 => by
      rw [← hr', uS1, if_pos rfl, if_neg y2]
      show (if (0 : Nat) = 0 then (if j = 0 then (0 : Int) else r.1 0 j) else r.1 0 j) = _
      rw [if_pos rfl, if_neg y1]
    have fr2 : ∀ i, i ≠ 10 → r'.2 i = r.2 i := fun i y => by rw [← hr']; exact uA_a y
    have f48 : r'.1 0 48 = r.1 0 48 - 1 := by rw [← hr']; rfl
    have f10 : r'.2 10 = zsf (r.2 10) (r.1 0 48 - 1) := by
      rw [← hr']
      show (uA (uS r 0 0 0) 10 (zsf (r.2 10) (r.1 0 48 - 1))).2 10 = _
      rw [uA2, if_pos rfl]
    have o : ∀ i, i ≠ 10 → i ≠ 11 → (zpb (zsh 10) 2 C p).1 i = C.1 i ∧ (zpb (zsh 10) 2 C p).2 i = C.2 i := fun i y1 y2 => ⟨funext fun j => g3.1 i j (by omega), g3.2 i (by omega)⟩
    generalize hC1 : zpb (zsh 10) 2 C p = C1 at *
    have hco : zCo C1 r' k [] ln hd [] N := by
      obtain ⟨⟨hty, hbt⟩, ⟨hT, hk, hkN⟩, ⟨hLR, hO, pg0, m, ⟨x1, x2⟩, x3, x4, x5, x6, x7⟩, hw⟩ := a1
      obtain rfl := x7 rfl
      have e1 : zsb (zsh 14) C1 = zsb (zsh 14) C := zsb_ext fun i => o _ (by omega) (by omega)
      have e2 : zsb (zsh 43) C1 = zsb (zsh 43) C := zsb_ext fun i => o _ (by omega) (by omega)
      refine ⟨⟨zBy_cg hty ?_ ?_ ?_ ?_, hbt⟩, ⟨hT.cg ?_ ?_ ?_, ?_, hkN⟩, ⟨?_, hO.lin hlin (by rw [f48]; omega), pg, pg, ?_, g2, ?_, ?_, zbs.nil, fun _ => rfl⟩, ?_⟩
      · exact congrFun (o 1 (by decide) (by decide)).1 1
      · exact congrFun (o 1 (by decide) (by decide)).1 2
      · exact congrFun (o 2 (by decide) (by decide)).1 0
      · exact (o 2 (by decide) (by decide)).2
      · exact congrFun (o 41 (by decide) (by decide)).1 1
      · exact (o 42 (by decide) (by decide)).2
      · exact congrFun (o 42 (by decide) (by decide)).1 0
      · rw [(o 41 (by decide) (by decide)).1]; exact hk
      · have := hLR.cg (q' := zsb (zsh 5) C1) (fun i hi => o (i + 5) (by omega) (by omega))
        unfold zLR at this ⊢
        rw [fr 46 (by decide) (by decide), fr 44 (by decide) (by decide), fr 40 (by decide) (by decide), fr 41 (by decide) (by decide), fr 42 (by decide) (by decide), fr 49 (by decide) (by decide), fr 50 (by decide) (by decide), fr2 9 (by decide), fr2 8 (by decide)]
        exact this
      · rw [e1, e2]
        exact (zXX.ok _ _ _).2.2 _ _ _ _ ⟨x1, x2⟩ hlin
      · rw [f48, f10]; exact t2
      · refine zBy_cg x5 ?_ ?_ ?_ ?_
        · exact congrFun (o 12 (by decide) (by decide)).1 1
        · exact congrFun (o 12 (by decide) (by decide)).1 2
        · exact congrFun (o 13 (by decide) (by decide)).1 0
        · exact (o 13 (by decide) (by decide)).2
      · rw [fr 40 (by decide) (by decide), fr 49 (by decide) (by decide)]
        exact hw
    refine ⟨b, C1, r', ?_, er, by rw [← hr']; rfl, ⟨k, ln, hd, N, dr, hco, by omega, a3.cg (fun i y => o i (by omega) (by omega)) ⟨fr 52 (by decide) (by decide), fr 1 (by decide) (by decide), fr 2 (by decide) (by decide)⟩ ⟨fr2 11 (by decide), fr2 12 (by decide)⟩⟩⟩
    unfold f_Co_take
    rw [← hC1]
    exact bindS g1 rfl
theorem M_rule {B : Nat} {C r : zSt} (h : zWh B C r) {a b : Int} (ha : a = 0 ∨ a = 1) (hb : b = 0 ∨ b = 1) : zMok (B + 100) C (f_Co_rule a b C) (f_Rf_rule a b r) := by
  obtain ⟨k, ln, hd, N, dr, a1, a2, a3⟩ := h
  have hn := a1.nums
  have h40 : r.1 0 40 = 0 ∨ r.1 0 40 = 1 := hn.2.1
  have e4 : (zsb (zsh 5) C).1 0 4 = r.1 0 40 := hn.1.1
  -- the numbers change, from any state
  have fin : ∀ (q : zSt) (r1 : zSt) (ln1 : List Int), zJ (zXX (zsb (zsh 14) C) (zsb (zsh 43) C) (N.drop k)) q r1 ln1 hd [] → zYp (uS r 0 0 0) r1 → ln1.length ≤ ln.length → (a ≠ 0 → ln1 = []) →
      f_Li_change a b (zsb (zsh 5) C) = some (r.1 0 40, uS (uS q 0 4 a) 0 5 b) → f_Rf_rule a b r = some (r.1 0 40, uS (uS r1 0 40 a) 0 41 b) → zMok (B + 100) C (f_Co_rule a b C) (f_Rf_rule a b r) := by
    intro q r1 ln1 hJ hy hle hraw ec er
    have c := hJ.1.2.2.1
    have hJ2 : zJ (zXX (zsb (zsh 14) C) (zsb (zsh 43) C) (N.drop k)) (uS (uS q 0 4 a) 0 5 b) (uS (uS r1 0 40 a) 0 41 b) ln1 hd [] := by
      refine J_cell (zXX.ok _ _ _) hJ (fun i j y => ?_) rfl (fun i j y => ?_) (fun _ _ => rfl) ⟨rfl, rfl, c.2.2.1, c.2.2.2.1, c.2.2.2.2⟩ ⟨ha, hb, hJ.1.2.2.2.1.2.2⟩
      · simp only [uS1]; grind
      · simp only [uS1]; grind
    have fr : ∀ j, j ≠ 40 → j ≠ 41 → (uS (uS r1 0 40 a) 0 41 b).1 0 j = r1.1 0 j := fun j y1 y2 => by
      rw [uS1, if_pos rfl, if_neg y2, uS1, if_pos rfl, if_neg y1]
    obtain ⟨u1, u2⟩ := a1.li hJ2 ⟨by rw [(fr 49 (by decide) (by decide)).trans (hy.1 49 (by omega))]; exact a1.2.2.2.1, fun w => hraw w⟩
    refine ⟨r.1 0 40, _, _, ?_, er, (fr 0 (by decide) (by decide)).trans (hy.1 0 (by omega)), ⟨k, ln1, hd, N, dr, u1, by omega, a3.cg (fun i y => u2.1 i (by omega)) ⟨(fr 52 (by decide) (by decide)).trans (hy.1 52 (by omega)), (fr 1 (by decide) (by decide)).trans (hy.1 1 (by omega)), (fr 2 (by decide) (by decide)).trans (hy.1 2 (by omega))⟩ ⟨hy.2 11 (by omega), hy.2 12 (by omega)⟩⟩⟩
    unfold f_Co_rule
    exact bindS ec (iteT h40 rfl)
  have hJz := (a1.f0 (Or.inl rfl) 0).2.2.1
  by_cases z : r.1 0 40 = 0
  · by_cases w : a = 0
    · refine fin (zsb (zsh 5) C) (uS r 0 0 0) ln hJz (zYp.rf _) (Nat.le_refl _) (fun x => absurd w x) ?_ ?_
      · unfold f_Li_change
        rw [e4]
        exact iteF (fun x => x z) (iteT w (iteT ha (iteT hb (iteT h40 rfl))))
      · unfold f_Rf_rule
        exact iteT w (iteT ha (iteT hb (iteT h40 rfl)))
    · obtain ⟨q', r1, g1, g2, g3, -, g4, -⟩ := J_send (zXX.ok _ _ _) hJz
      refine fin q' r1 [] g3 g4 (Nat.zero_le _) (fun _ => rfl) ?_ ?_
      · unfold f_Li_change
        rw [e4]
        exact iteF (fun x => x z) (iteF w (bindS g1 (iteT ha (iteT hb (iteT h40 rfl)))))
      · unfold f_Rf_rule
        exact iteF w (iteF (fun x => x z) (bindS g2 (iteT ha (iteT hb (iteT h40 rfl)))))
  · refine fin (zsb (zsh 5) C) (uS r 0 0 0) ln hJz (zYp.rf _) (Nat.le_refl _) (fun _ => a1.2.2.2.2 z) ?_ ?_
    · unfold f_Li_change
      rw [e4]
      exact iteT z (iteT ha (iteT hb (iteT h40 rfl)))
    · unfold f_Rf_rule
      by_cases w : a = 0
      · exact iteT w (iteT ha (iteT hb (iteT h40 rfl)))
      · exact iteF w (iteT z (iteT ha (iteT hb (iteT h40 rfl))))
