/-! ===== the history ===== -/
def zHs (g : Int → Int) : Int → Int := fun i => if 0 ≤ i ∧ i < 936 then g (i + 24) else g i
def zHg (g : Int → Int) : Int → Int := fun i => if 0 ≤ i ∧ i < 39 then g (i + 1) else g i
def zHp (g : Int → Int) (n : Int) (c : Int → Int) (m : Int) : Int → Int := fun i => if 24 * n ≤ i ∧ i < 24 * n + m then c (i - 24 * n) else g i
theorem c_Rf_keep77 {s : zSt} (h : zRL s) (hn : 0 ≤ s.1 0 7 ∧ s.1 0 7 < 40) (hg : s.2 2 0 = 0 ∨ s.2 2 0 = 1) :
    f_Rf_keepsRow_j77 s = some (0, uS (uA (uA s 3 (zHp (s.2 3) (s.1 0 7) (s.2 1) 24)) 4 (zup (s.2 4) (s.1 0 7) (s.2 2 0))) 0 7 (s.1 0 7 + 1)) := by
  obtain ⟨h1, h2, h3, h4, -⟩ := h
  unfold f_Rf_keepsRow_j77
  have hl := zloop_up (step := f_Rf_keepsRow_l79) (r := uA s 3 (zHp (s.2 3) (s.1 0 7) (s.2 1) 24)) 24 (n := zfu) (fun k => ((k : Int), uA s 3 (zHp (s.2 3) (s.1 0 7) (s.2 1) k))) (fun k hk => ?_) ?_ ?_
  · simp only [Int.natCast_zero] at hl
    rw [uA_cg (F' := s.2 3) (by intro j; unfold zHp; grind), uA_id] at hl
    refine bindS hl ?_
    refine iteT ⟨by decide, by show 0 < s.1 2 0; omega⟩ (iteT ⟨⟨hn.1, by show s.1 0 7 < s.1 4 0; omega⟩, hg⟩ ?_)
    rw [w32i (by show _ ≤ s.1 0 7 + 1; omega) (by show s.1 0 7 + 1 ≤ _; omega)]
    rfl
  · unfold f_Rf_keepsRow_l79
    have ew : w32 (w32 (24 * s.1 0 7) + (k : Int)) = 24 * s.1 0 7 + k := by rw [w32i (x := 24 * s.1 0 7) (by omega) (by omega), w32i (by omega) (by omega)]
    refine iteF (by show ¬ (24 : Int) ≤ (k : Int); omega) (iteT (by show 0 ≤ (k : Int) ∧ (k : Int) < s.1 1 0; omega) (iteT (by show 0 ≤ w32 (w32 (24 * s.1 0 7) + (k : Int)) ∧ w32 (w32 (24 * s.1 0 7) + (k : Int)) < s.1 3 0; omega) ?_))
    refine stepE (by show w32 ((k : Int) + 1) = _; rw [w32i] <;> omega) (fun i => ?_)
    show zup (zHp (s.2 3) (s.1 0 7) (s.2 1) k) (w32 (w32 (24 * s.1 0 7) + (k : Int))) (s.2 1 (k : Int)) i = _
    rw [ew]
    unfold zup zHp
    grind
  · rfl
  · unfold zfu; omega
theorem c_Rf_keepsRow {s : zSt} (h : zRL s) (hn : 0 ≤ s.1 0 7 ∧ s.1 0 7 ≤ 40) (hg : s.2 2 0 = 0 ∨ s.2 2 0 = 1) (hb : ∀ i, s.2 4 i = 0 ∨ s.2 4 i = 1) :
    f_Rf_keepsRow s = some (0, if s.1 0 7 = 40 then uS (uA (uA s 3 (zHp (zHs (s.2 3)) 39 (s.2 1) 24)) 4 (zup (zHg (s.2 4)) 39 (s.2 2 0))) 0 7 40 else uS (uA (uA s 3 (zHp (s.2 3) (s.1 0 7) (s.2 1) 24)) 4 (zup (s.2 4) (s.1 0 7) (s.2 2 0))) 0 7 (s.1 0 7 + 1)) := by
  have h0 := h
  obtain ⟨h1, h2, h3, h4, -⟩ := h
  unfold f_Rf_keepsRow
  by_cases q : s.1 0 7 = 40
  · rw [if_pos q]
    refine iteF (by simpa using q) ?_
    have hl := zloop_up (step := f_Rf_keepsRow_l11) (r := uA s 3 (zHs (s.2 3))) 936 (n := zfu) (fun k => ((k : Int), uA s 3 (fun i => if 0 ≤ i ∧ i < (k : Int) then s.2 3 (i + 24) else s.2 3 i))) (fun k hk => ?_) ?_ ?_
    · simp only [Int.natCast_zero] at hl
      rw [uA_cg (F' := s.2 3) (by grind), uA_id] at hl
      refine bindS hl ?_
      have hl2 := zloop_up (step := f_Rf_keepsRow_l41) (r := uA (uA s 3 (zHs (s.2 3))) 4 (zHg (s.2 4))) 39 (n := zfu) (fun k => ((k : Int), uA (uA s 3 (zHs (s.2 3))) 4 (fun i => if 0 ≤ i ∧ i < (k : Int) then s.2 4 (i + 1) else s.2 4 i))) (fun k hk => ?_) ?_ ?_
      · simp only [Int.natCast_zero] at hl2
        rw [uA_cg (F' := (uA s 3 (zHs (s.2 3))).2 4) (by intro j; rw [uA2]; grind), uA_id] at hl2
        refine bindS hl2 ?_
        have e : w32 ((uA (uA s 3 (zHs (s.2 3))) 4 (zHg (s.2 4))).1 0 7 - 1) = 39 := by
          rw [uA1, uA1, q]
          decide
        rw [e]
        refine (c_Rf_keep77 (s := uS (uA (uA s 3 (zHs (s.2 3))) 4 (zHg (s.2 4))) 0 7 39) h0 ⟨by show (0 : Int) ≤ 39; decide, by show (39 : Int) < 40; decide⟩ hg).trans ?_
        show some (0, uS (uA (uA (uS (uA (uA s 3 (zHs (s.2 3))) 4 (zHg (s.2 4))) 0 7 39) 3 (zHp (zHs (s.2 3)) 39 (s.2 1) 24)) 4 (zup (zHg (s.2 4)) 39 (s.2 2 0))) 0 7 40) = _
        congr 2
        refine Prod.ext (funext fun a => funext fun b => ?_) (funext fun a => ?_)
        · simp only [uS1, uA1]
          grind
        · simp only [uS2, uA2]
          grind
      · unfold f_Rf_keepsRow_l41
        have ew : w32 ((k : Int) + 1) = k + 1 := w32i (by omega) (by omega)
        refine iteF (by show ¬ (39 : Int) ≤ (k : Int); omega) (iteT (by show 0 ≤ w32 ((k : Int) + 1) ∧ w32 ((k : Int) + 1) < s.1 4 0; omega) (iteT ⟨by show 0 ≤ (k : Int) ∧ (k : Int) < s.1 4 0; omega, ?_⟩ ?_))
        · show (if 0 ≤ w32 ((k : Int) + 1) ∧ w32 ((k : Int) + 1) < k then _ else _) = _ ∨ (if 0 ≤ w32 ((k : Int) + 1) ∧ w32 ((k : Int) + 1) < k then _ else _) = _
          rw [if_neg (by omega)]
          exact hb _
        · refine stepE (by show w32 ((k : Int) + 1) = _; rw [ew]; omega) (fun i => ?_)
          show zup (fun i => if 0 ≤ i ∧ i < (k : Int) then s.2 4 (i + 1) else s.2 4 i) (k : Int) ((fun i => if 0 ≤ i ∧ i < (k : Int) then s.2 4 (i + 1) else s.2 4 i) (w32 ((k : Int) + 1))) i = _
          rw [ew]
          simp only [zup]
          grind
      · rfl
      · unfold zfu; omega
    · unfold f_Rf_keepsRow_l11
      have ew : w32 ((k : Int) + 24) = k + 24 := w32i (by omega) (by omega)
      refine iteF (by show ¬ (936 : Int) ≤ (k : Int); omega) (iteT (by show 0 ≤ w32 ((k : Int) + 24) ∧ w32 ((k : Int) + 24) < s.1 3 0; omega) (iteT (by show 0 ≤ (k : Int) ∧ (k : Int) < s.1 3 0; omega) ?_))
      refine stepE (by show w32 ((k : Int) + 1) = _; rw [w32i] <;> omega) (fun i => ?_)
      show zup (fun i => if 0 ≤ i ∧ i < (k : Int) then s.2 3 (i + 24) else s.2 3 i) (k : Int) ((fun i => if 0 ≤ i ∧ i < (k : Int) then s.2 3 (i + 24) else s.2 3 i) (w32 ((k : Int) + 24))) i = _
      rw [ew]
      simp only [zup]
      grind
    · rfl
    · unfold zfu; omega
  · rw [if_neg q]
    refine iteT q ?_
    exact c_Rf_keep77 h0 ⟨hn.1, by omega⟩ hg
/-! the class's -/
def zHW (p : zSt) : Prop := p.1 1 0 = 960 ∧ p.1 2 0 = 40 ∧ (0 ≤ p.1 0 2 ∧ p.1 0 2 ≤ 40) ∧ ∀ i, p.2 2 i = 0 ∨ p.2 2 i = 1
theorem c_Hi_j60 {p : zSt} (h1 : p.1 1 0 = 960) (h2 : p.1 2 0 = 40) (hn : 0 ≤ p.1 0 2 ∧ p.1 0 2 < 40) {v : Int} (hv : v = 0 ∨ v = 1) :
    f_Hi_add_j60 v p = some (0, uS (uB p (zFl (p.2 1) (24 * p.1 0 2) (24 * p.1 0 2 + 24) 0) (zup (p.2 2) (p.1 0 2) v)) 0 2 (p.1 0 2 + 1)) := by
  unfold f_Hi_add_j60
  have e1 : w32 (p.1 0 2 * 24) = 24 * p.1 0 2 := by rw [w32i (by omega) (by omega)]; omega
  have e2 : w32 (w32 (p.1 0 2 + 1) * 24) = 24 * p.1 0 2 + 24 := by rw [w32i (x := p.1 0 2 + 1) (by omega) (by omega), w32i (by omega) (by omega)]; omega
  refine iteT hn.1 ?_
  rw [e1, e2]
  refine bindS (c_fill (by omega) (by omega) (by show _ ≤ p.1 1 0; omega) (by show p.1 1 0 ≤ _; omega)) ?_
  refine iteT ⟨⟨hn.1, by omega⟩, hv⟩ ?_
  show some (0, uS (uE (zpb (zsh 1) 1 p (uA (zsb (zsh 1) p) 0 _)) 2 _ v) 0 2 (w32 (p.1 0 2 + 1))) = _
  rw [zpb_uA _ _ _ _ _ _ (by omega), zpb_same, w32i (by omega) (by omega)]
  rfl
theorem c_Hi_add {p : zSt} (h : zHW p) {v : Int} (hv : v = 0 ∨ v = 1) :
    f_Hi_add v p = some (0, if p.1 0 2 = 40 then uS (uB p (zFl (zHs (p.2 1)) 936 960 0) (zup (zHg (p.2 2)) 39 v)) 0 2 40 else uS (uB p (zFl (p.2 1) (24 * p.1 0 2) (24 * p.1 0 2 + 24) 0) (zup (p.2 2) (p.1 0 2) v)) 0 2 (p.1 0 2 + 1)) := by
  obtain ⟨h1, h2, h3, h4⟩ := h
  unfold f_Hi_add
  by_cases q : p.1 0 2 = 40
  · rw [if_pos q]
    refine iteF (by omega) (iteT ⟨by decide, by omega⟩ ?_)
    have hl := zloop_up (step := f_Hi_add_l28 v) (r := uB p (zHs (p.2 1)) (zHg (p.2 2))) 39 (n := zfu) (fun k => (1 + (k : Int), uB p (zHs (p.2 1)) (fun i => if 0 ≤ i ∧ i < (k : Int) then p.2 2 (i + 1) else p.2 2 i))) (fun k hk => ?_) ?_ ?_
    · simp only [Int.natCast_zero, Int.add_zero] at hl
      have e4 : uB p (zHs (p.2 1)) (fun i => if 0 ≤ i ∧ i < 0 then p.2 2 (i + 1) else p.2 2 i) = uA p 1 (zcpy (p.2 1) (p.2 1) 24 0 936) := by
        rw [uB_cg (f' := zcpy (p.2 1) (p.2 1) 24 0 936) (g' := p.2 2) (fun i => ?_) (by grind)]
        · unfold uB
          rw [show p.2 2 = (uA p 1 (zcpy (p.2 1) (p.2 1) 24 0 936)).2 2 from rfl, uA_id]
        · unfold zHs zcpy
          grind
      rw [e4] at hl
      refine bindS hl ?_
      refine (c_Hi_j60 (p := uS (uB p (zHs (p.2 1)) (zHg (p.2 2))) 0 2 39) h1 h2 ⟨by show (0 : Int) ≤ 39; decide, by show (39 : Int) < 40; decide⟩ hv).trans ?_
      show some (0, uS (uB (uS (uB p (zHs (p.2 1)) (zHg (p.2 2))) 0 2 39) (zFl (zHs (p.2 1)) 936 960 0) (zup (zHg (p.2 2)) 39 v)) 0 2 40) = _
      congr 2
      unfold uB
      refine Prod.ext (funext fun a => funext fun b => ?_) (funext fun a => ?_)
      · simp only [uS1, uA1]
        grind
      · simp only [uS2, uA2]
        grind
    · unfold f_Hi_add_l28
      have ew : w32 (1 + (k : Int) - 1) = k := by rw [w32i (by omega) (by omega)]; omega
      refine iteF (by show ¬ (40 : Int) ≤ 1 + (k : Int); omega) (iteT (by show 0 ≤ 1 + (k : Int) ∧ 1 + (k : Int) < p.1 2 0; omega) (iteT ⟨by show 0 ≤ w32 (1 + (k : Int) - 1) ∧ w32 (1 + (k : Int) - 1) < p.1 2 0; omega, ?_⟩ ?_))
      · show (if 0 ≤ 1 + (k : Int) ∧ 1 + (k : Int) < k then _ else _) = _ ∨ (if 0 ≤ 1 + (k : Int) ∧ 1 + (k : Int) < k then _ else _) = _
        rw [if_neg (by omega)]
        exact h4 _
      · refine stepB (by show w32 (1 + (k : Int) + 1) = _; rw [w32i] <;> omega) (uB_E2 _ _ _ _ _) (fun _ => rfl) (fun i => ?_)
        simp only [zup, uB22, ew]
        grind
    · unfold f_Hi_add_l28
      refine iteT (by show (40 : Int) ≤ 1 + ((39 : Nat) : Int); decide) ?_
      congr 2
    · unfold zfu; omega
  · rw [if_neg q]
    refine iteT (by omega) ?_
    exact c_Hi_j60 h1 h2 ⟨h3.1, by omega⟩ hv
/-! both -/
theorem c_Sc_l52 {t : zSt} {c1 c2 c5 N : Int} (hp : zPW (zsb (zsh 2) t)) (h6 : t.1 6 0 = 960) (hN : t.1 5 2 = N + 1) (hN2 : 0 ≤ N ∧ N < 40) (hc : 4 ≤ t.1 0 10 ∧ t.1 0 10 ≤ 24) :
    zloop (f_Sc_scrollUp_l52 c1 c2 c5) zfu (0, t) = some (uA t 6 (zHp (t.2 6) N (t.2 3) (t.1 0 10))) := by
  have hl := zloop_up (step := f_Sc_scrollUp_l52 c1 c2 c5) (r := uA t 6 (zHp (t.2 6) N (t.2 3) (t.1 0 10))) (t.1 0 10).toNat (n := zfu) (fun k => ((k : Int), uA t 6 (zHp (t.2 6) N (t.2 3) k))) (fun k hk => ?_) ?_ ?_
  · simp only [Int.natCast_zero] at hl
    rw [uA_cg (F' := t.2 6) (by intro j; unfold zHp; grind), uA_id] at hl
    exact hl
  · unfold f_Sc_scrollUp_l52
    refine iteF (by show ¬ t.1 0 10 ≤ (k : Int); omega) ?_
    refine bindS (c_Pi_at (p := zsb (zsh 2) (uA t 6 (zHp (t.2 6) N (t.2 3) k))) hp _ _) ?_
    have e0 : zat ((zsb (zsh 2) (uA t 6 (zHp (t.2 6) N (t.2 3) k))).2 1) 0 (k : Int) = t.2 3 k := by
      show zat (t.2 3) 0 (k : Int) = _
      unfold zat
      rw [if_pos (by omega), show (0 : Int) * 24 + (k : Int) = k by omega]
    rw [e0]
    have e1 : w32 (t.1 5 2 - 1) = N := by rw [hN, w32i (by omega) (by omega)]; omega
    have e2 : w32 (w32 (N * 24) + (k : Int)) = 24 * N + k := by rw [w32i (x := N * 24) (by omega) (by omega), w32i (by omega) (by omega)]; omega
    have ep : f_Hi_putLatest (k : Int) (t.2 3 k) (zsb (zsh 5) (uA t 6 (zHp (t.2 6) N (t.2 3) k))) = some (0, uE (zsb (zsh 5) (uA t 6 (zHp (t.2 6) N (t.2 3) k))) 1 (24 * N + k) (t.2 3 k)) := by
      unfold f_Hi_putLatest
      show (if w32 (t.1 5 2 - 1) < 0 then _ else if (40 : Int) ≤ w32 (t.1 5 2 - 1) then _ else if (k : Int) < 0 then _ else if (24 : Int) ≤ (k : Int) then _ else if 0 ≤ w32 (w32 (w32 (t.1 5 2 - 1) * 24) + (k : Int)) ∧ w32 (w32 (w32 (t.1 5 2 - 1) * 24) + (k : Int)) < t.1 6 0 then some (0, uE _ 1 (w32 (w32 (w32 (t.1 5 2 - 1) * 24) + (k : Int))) _) else _) = _
      rw [e1, e2]
      refine iteF (by omega) (iteF (by omega) (iteF (by omega) (iteF (by omega) (iteT (by omega) rfl))))
    refine bindS ep ?_
    show some (Sum.inl (w32 ((k : Int) + 1), zpb (zsh 5) 3 _ (uA _ 1 _)) : (Int × zSt) ⊕ zSt) = _
    rw [zpb_uA _ _ _ _ _ _ (by omega), zpb_same, uA_uA, w32i (by omega) (by omega)]
    congr 2
    refine Prod.ext (by simp) (uA_cg (fun i => ?_))
    show zup (zHp (t.2 6) N (t.2 3) k) (24 * N + k) (t.2 3 k) i = zHp (t.2 6) N (t.2 3) ((k + 1 : Nat) : Int) i
    unfold zup zHp
    grind
  · unfold f_Sc_scrollUp_l52
    refine iteT (by show t.1 0 10 ≤ ((t.1 0 10).toNat : Int); omega) ?_
    rw [show ((t.1 0 10).toNat : Int) = t.1 0 10 by omega]
  · unfold zfu; omega
/-- what only the history changed of -/
def zHo (s r s1 r1 : zSt) : Prop := zRel s1 r1 ∧ (∀ i k, ¬ (i = 5 ∧ k = 2) → s1.1 i k = s.1 i k) ∧ (∀ k, k ≠ 7 → r1.1 0 k = r.1 0 k) ∧ ∀ i, i ≠ 3 → i ≠ 4 → r1.2 i = r.2 i
theorem zRel.h {s r : zSt} (h : zRel s r) {H G P Q : Int → Int} {n : Int} (hn : 0 ≤ n ∧ n ≤ 40) (h1 : ∀ i, 0 ≤ i → i < 24 * n → H i = P i) (h2 : ∀ i, 0 ≤ i → i < n → G i = Q i) (h3 : ∀ i, G i = 0 ∨ G i = 1) (h4 : ∀ i, Q i = 0 ∨ Q i = 1) (h5 : ∀ k, 0 ≤ k → k < n → zRwf P (k * 24) (r.1 0 2)) :
    zHo s r (uS (uA (uA s 6 H) 7 G) 5 2 n) (uS (uA (uA r 3 P) 4 Q) 0 7 n) := by
  obtain ⟨hL, ⟨hZ, hg, hs, hm, hv, hr, hk, hh⟩, p0, p1, xh, xu, xm, xv, xz, xt, xr⟩ := h
  refine ⟨⟨hL, ⟨hZ, hg, ⟨hs.1, hs.2.1, hs.2.2.1, hs.2.2.2.1, hs.2.2.2.2.1, hn⟩, hm, hv, hr, hk, ⟨h4, h5⟩⟩, p0, p1, ⟨rfl, h1, h2, h3⟩, xu, xm, xv, xz, xt, xr⟩, fun i k q => ?_, fun k q => ?_, fun i q1 q2 => ?_⟩
  · show (if i = 5 then (if k = 2 then n else s.1 i k) else s.1 i k) = s.1 i k
    grind
  · show (if (0 : Nat) = 0 then (if k = 7 then n else r.1 0 k) else r.1 0 k) = r.1 0 k
    grind
  · show (if i = 4 then Q else (if i = 3 then P else r.2 i)) = r.2 i
    grind
theorem S_keep {s r : zSt} (h : zRel s r) (hsh : r.1 0 8 = 0) (c1 c2 c5 : Int) :
    ∃ p s1 r1, f_Pi_isGoing 0 (zsb (zsh 2) s) = some (r.2 2 0) ∧ f_Hi_add (r.2 2 0) (zsb (zsh 5) s) = some (0, p) ∧ zloop (f_Sc_scrollUp_l52 c1 c2 c5) zfu (0, zpb (zsh 5) 3 s p) = some s1 ∧ f_Rf_keepsRow r = some (0, r1) ∧ zHo s r s1 r1 := by
  have h0 := h
  have hpw := h.pw0
  obtain ⟨hL, ⟨hZ, hg, hs, hm, hv, hr, hk, hh⟩, p0, p1, xh, xu, xm, xv, xz, xt, xr⟩ := h
  have z1 := hZ.2.1
  have z2 := hZ.2.2.1
  have hn := hs.2.2.2.2.2
  have hg0 := hg 0
  have g0 : s.2 4 0 = r.2 2 0 := by
    have := p0.2.1 0 (by decide) (by decide)
    simpa using this
  have e1 : f_Pi_isGoing 0 (zsb (zsh 2) s) = some (r.2 2 0) := by
    unfold f_Pi_isGoing
    refine iteF (by decide) (iteF (by decide) (iteT ⟨by decide, by show (0 : Int) < s.1 4 0; rw [hL.1.2.1]; decide⟩ ?_))
    show some (if s.2 4 0 = 0 then (0 : Int) else 1) = _
    rw [g0]
    rcases hg0 with q | q <;> rw [q] <;> rfl
  have hW : zHW (zsb (zsh 5) s) := ⟨hL.1.2.2.1, hL.1.2.2.2.1, by show 0 ≤ s.1 5 2 ∧ s.1 5 2 ≤ 40; rw [xh.1]; exact hn, xh.2.2.2⟩
  have e2 := c_Hi_add hW (v := r.2 2 0) hg0
  have e4 := c_Rf_keepsRow hZ.1 hn hg0 hh.1
  have hcell : ∀ i, 0 ≤ i → i < 24 → s.2 3 i = r.2 1 i := fun i x y => by
    have := p0.1 i x (by omega)
    simpa using this
  have hrow := hk.1.1 0 (by decide) (by decide)
  rw [show (0 : Int) + 0 * 24 = 0 by decide] at hrow
  have hz : ∀ i, r.1 0 2 ≤ i → i < 24 → r.2 1 i = 0 := fun i x y => by
    have := hrow.1 i x y
    simpa using this
  have hcol : s.1 0 10 = r.1 0 2 := xz.2.2.1
  have hN5 : (zsb (zsh 5) s).1 0 2 = r.1 0 7 := xh.1
  rw [hN5] at e2
  by_cases q : r.1 0 7 = 40
  · rw [if_pos q] at e2 e4
    refine ⟨_, uA (uS (uA (uA s 6 (zFl (zHs (s.2 6)) 936 960 0)) 7 (zup (zHg (s.2 7)) 39 (r.2 2 0))) 5 2 40) 6 (zHp (zFl (zHs (s.2 6)) 936 960 0) 39 (s.2 3) (s.1 0 10)), _, e1, e2, ?_, e4, ?_⟩
    rotate_left
    · have et : uA (uS (uA (uA s 6 (zFl (zHs (s.2 6)) 936 960 0)) 7 (zup (zHg (s.2 7)) 39 (r.2 2 0))) 5 2 40) 6 (zHp (zFl (zHs (s.2 6)) 936 960 0) 39 (s.2 3) (s.1 0 10)) = uS (uA (uA s 6 (zHp (zFl (zHs (s.2 6)) 936 960 0) 39 (s.2 3) (s.1 0 10))) 7 (zup (zHg (s.2 7)) 39 (r.2 2 0))) 5 2 40 := by
        refine Prod.ext rfl (funext fun a => ?_)
        simp only [uS2, uA2]
        grind
      rw [et]
      refine h0.h (by decide) (fun i x y => ?_) (fun i x y => ?_) (fun i => ?_) (fun i => ?_) (fun k x y => ?_)
      · have a1 := xh.2.1 (i + 24)
        have a2 := hcell (i - 936)
        have a3 := hz (i - 936)
        unfold zHp zFl zHs
        grind
      · have a1 := xh.2.2.1 (i + 1)
        unfold zup zHg
        grind
      · have a1 := xh.2.2.2 i
        have a2 := xh.2.2.2 (i + 1)
        unfold zup zHg
        grind
      · have a1 := hh.1 i
        have a2 := hh.1 (i + 1)
        unfold zup zHg
        grind
      · by_cases q1 : k = 39
        · have hr0 : zRwf (fun i => r.2 1 (i - 936)) 936 (r.1 0 2) := by
            refine ⟨fun c a b => ?_, fun c a b => ?_⟩
            · show r.2 1 (936 + c - 936) = 0
              rw [show 936 + c - 936 = 0 + c by omega]
              exact hrow.1 c a b
            · have := hrow.2 c a b
              show zVl (r.2 1 (936 + c - 936)) ∧ (r.2 1 (936 + c - 936) = -2 ↔ 0 < c ∧ zWd (r.2 1 (936 + c - 1 - 936))) ∧ (zWd (r.2 1 (936 + c - 936)) → c + 1 < r.1 0 2)
              rw [show 936 + c - 936 = 0 + c by omega, show 936 + c - 1 - 936 = 0 + c - 1 by omega]
              exact this
          rw [q1, show (39 : Int) * 24 = 936 by decide]
          refine hr0.cg (fun c a b => ?_) ⟨by omega, z2.2⟩
          unfold zHp zHs
          rw [if_pos (by omega)]
          congr 1
        · have h9 := hh.2 (k + 1) (by omega) (by omega)
          have hr0 : zRwf (fun i => r.2 3 (i + 24)) (k * 24) (r.1 0 2) := by
            refine ⟨fun c a b => ?_, fun c a b => ?_⟩
            · show r.2 3 (k * 24 + c + 24) = 0
              rw [show k * 24 + c + 24 = (k + 1) * 24 + c by omega]
              exact h9.1 c a b
            · have := h9.2 c a b
              show zVl (r.2 3 (k * 24 + c + 24)) ∧ (r.2 3 (k * 24 + c + 24) = -2 ↔ 0 < c ∧ zWd (r.2 3 (k * 24 + c - 1 + 24))) ∧ (zWd (r.2 3 (k * 24 + c + 24)) → c + 1 < r.1 0 2)
              rw [show k * 24 + c + 24 = (k + 1) * 24 + c by omega, show k * 24 + c - 1 + 24 = (k + 1) * 24 + c - 1 by omega]
              exact this
          refine hr0.cg (fun c a b => ?_) ⟨by omega, z2.2⟩
          unfold zHp zHs
          rw [if_neg (by omega), if_pos (by omega)]
    · show zloop _ zfu (0, zpb (zsh 5) 3 s (uS (uA (uA (zsb (zsh 5) s) 1 _) 2 _) 0 2 40)) = _
      rw [zpb_uS _ _ _ _ _ _ _ (by omega), zpb_uA _ _ _ _ _ _ (by omega), zpb_uA _ _ _ _ _ _ (by omega), zpb_same]
      exact c_Sc_l52 (t := uS (uA (uA s 6 (zFl (zHs (s.2 6)) 936 960 0)) 7 (zup (zHg (s.2 7)) 39 (r.2 2 0))) 5 2 40) hpw hL.1.2.2.1 (N := 39) rfl (by decide) (by show 4 ≤ s.1 0 10 ∧ s.1 0 10 ≤ 24; rw [hcol]; exact z2)
  · rw [if_neg q] at e2 e4
    have hn2 : 0 ≤ r.1 0 7 ∧ r.1 0 7 < 40 := by omega
    refine ⟨_, uA (uS (uA (uA s 6 (zFl (s.2 6) (24 * r.1 0 7) (24 * r.1 0 7 + 24) 0)) 7 (zup (s.2 7) (r.1 0 7) (r.2 2 0))) 5 2 (r.1 0 7 + 1)) 6 (zHp (zFl (s.2 6) (24 * r.1 0 7) (24 * r.1 0 7 + 24) 0) (r.1 0 7) (s.2 3) (s.1 0 10)), _, e1, e2, ?_, e4, ?_⟩
    rotate_left
    · have et : uA (uS (uA (uA s 6 (zFl (s.2 6) (24 * r.1 0 7) (24 * r.1 0 7 + 24) 0)) 7 (zup (s.2 7) (r.1 0 7) (r.2 2 0))) 5 2 (r.1 0 7 + 1)) 6 (zHp (zFl (s.2 6) (24 * r.1 0 7) (24 * r.1 0 7 + 24) 0) (r.1 0 7) (s.2 3) (s.1 0 10)) = uS (uA (uA s 6 (zHp (zFl (s.2 6) (24 * r.1 0 7) (24 * r.1 0 7 + 24) 0) (r.1 0 7) (s.2 3) (s.1 0 10))) 7 (zup (s.2 7) (r.1 0 7) (r.2 2 0))) 5 2 (r.1 0 7 + 1) := by
        refine Prod.ext rfl (funext fun a => ?_)
        simp only [uS2, uA2]
        grind
      rw [et]
      refine h0.h (by omega) (fun i x y => ?_) (fun i x y => ?_) (fun i => ?_) (fun i => ?_) (fun k x y => ?_)
      · have a1 := xh.2.1 i
        have a2 := hcell (i - 24 * r.1 0 7)
        have a3 := hz (i - 24 * r.1 0 7)
        unfold zHp zFl
        grind
      · have a1 := xh.2.2.1 i
        unfold zup
        grind
      · have a1 := xh.2.2.2 i
        unfold zup
        grind
      · have a1 := hh.1 i
        unfold zup
        grind
      · by_cases q1 : k = r.1 0 7
        · have hr0 : zRwf (fun i => r.2 1 (i - 24 * r.1 0 7)) (k * 24) (r.1 0 2) := by
            refine ⟨fun c a b => ?_, fun c a b => ?_⟩
            · show r.2 1 (k * 24 + c - 24 * r.1 0 7) = 0
              rw [show k * 24 + c - 24 * r.1 0 7 = 0 + c by omega]
              exact hrow.1 c a b
            · have := hrow.2 c a b
              show zVl (r.2 1 (k * 24 + c - 24 * r.1 0 7)) ∧ (r.2 1 (k * 24 + c - 24 * r.1 0 7) = -2 ↔ 0 < c ∧ zWd (r.2 1 (k * 24 + c - 1 - 24 * r.1 0 7))) ∧ (zWd (r.2 1 (k * 24 + c - 24 * r.1 0 7)) → c + 1 < r.1 0 2)
              rw [show k * 24 + c - 24 * r.1 0 7 = 0 + c by omega, show k * 24 + c - 1 - 24 * r.1 0 7 = 0 + c - 1 by omega]
              exact this
          refine hr0.cg (fun c a b => ?_) ⟨by omega, z2.2⟩
          unfold zHp
          rw [if_pos (by omega)]
        · refine (hh.2 k x (by omega)).cg (fun c a b => ?_) ⟨by omega, z2.2⟩
          unfold zHp
          rw [if_neg (by omega)]
    · show zloop _ zfu (0, zpb (zsh 5) 3 s (uS (uA (uA (zsb (zsh 5) s) 1 _) 2 _) 0 2 (r.1 0 7 + 1))) = _
      rw [zpb_uS _ _ _ _ _ _ _ (by omega), zpb_uA _ _ _ _ _ _ (by omega), zpb_uA _ _ _ _ _ _ (by omega), zpb_same]
      exact c_Sc_l52 (t := uS (uA (uA s 6 (zFl (s.2 6) (24 * r.1 0 7) (24 * r.1 0 7 + 24) 0)) 7 (zup (s.2 7) (r.1 0 7) (r.2 2 0))) 5 2 (r.1 0 7 + 1)) hpw hL.1.2.2.1 (N := r.1 0 7) rfl hn2 (by show 4 ≤ s.1 0 10 ∧ s.1 0 10 ≤ 24; rw [hcol]; exact z2)
