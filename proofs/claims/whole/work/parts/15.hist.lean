/-! ===== the history ===== -/
def zHs (g : Int → Int) : Int → Int := fun i => if 0 ≤ i ∧ i < 936 then g (i + 24) else g i
def zHg (g : Int → Int) : Int → Int := fun i => if 0 ≤ i ∧ i < 39 then g (i + 1) else g i
def zHp (g : Int → Int) (n : Int) (c : Int → Int) (m : Int) : Int → Int := fun i => if 24 * n ≤ i ∧ i < 24 * n + m then c (i - 24 * n) else g i
theorem c_Rf_keep77 {s : zSt} (h : zRL s) (hn : 0 ≤ s.1 0 7 ∧ s.1 0 7 < 40) (hg : s.2 2 0 = 0 ∨ s.2 2 0 = 1) :
    f_Rf_keepsRow_j77 s = some (0, uS (uA (uA s 3 (zHp (s.2 3) (s.1 0 7) (s.2 1) 24)) 4 (zup (s.2 4) (s.1 0 7) (s.2 2 0))) 0 7 (s.1 0 7 + 1)) := by
  obtain ⟨h1, h2, h3, h4, -⟩ := h
  unfold f_Rf_keepsRow_j77
  have hl := zloop_up (step := f_Rf_keepsRow_l79) (r := uA s 3 (zHp (s.2 3) (s.1 0 7) (s.2 1) 24)) 24 (n := zfu) (fun k => ((k : Int), uA s 3 (zHp (s.2 3) (s.1 0 7) (s.2 1) k))) (fun k hk => ?_) ?_ ?_
  · simp only [Int.natCast_zero] at hl
    rw [uA_cg (F' := s.2 3) (by intro j; unfold zHp; grind), uA_id] at hl
    refine bindS hl ?_
    refine iteT ⟨by decide, by show 0 < s.1 2 0; omega⟩ (iteT ⟨⟨hn.1, by show s.1 0 7 < s.1 4 0; omega⟩, hg⟩ ?_)
    rw [w32i (by show _ ≤ s.1 0 7 + 1; omega) (by show s.1 0 7 + 1 ≤ _; omega)]
    rfl
  · unfold f_Rf_keepsRow_l79
    have ew : w32 (w32 (24 * s.1 0 7) + (k : Int)) = 24 * s.1 0 7 + k := by rw [w32i (x := 24 * s.1 0 7) (by omega) (by omega), w32i (by omega) (by omega)]
    refine iteF (by show ¬ (24 : Int) ≤ (k : Int); omega) (iteT (by show 0 ≤ (k : Int) ∧ (k : Int) < s.1 1 0; omega) (iteT (by show 0 ≤ w32 (w32 (24 * s.1 0 7) + (k : Int)) ∧ w32 (w32 (24 * s.1 0 7) + (k : Int)) < s.1 3 0; omega) ?_))
    refine stepE (by show w32 ((k : Int) + 1) = _; rw [w32i] <;> omega) (fun i => ?_)
    show zup (zHp (s.2 3) (s.1 0 7) (s.2 1) k) (w32 (w32 (24 * s.1 0 7) + (k : Int))) (s.2 1 (k : Int)) i = _
    rw [ew]
    unfold zup zHp
    grind
  · rfl
  · unfold zfu; omega
theorem c_Rf_keepsRow {s : zSt} (h : zRL s) (hn : 0 ≤ s.1 0 7 ∧ s.1 0 7 ≤ 40) (hg : s.2 2 0 = 0 ∨ s.2 2 0 = 1) (hb : ∀ i, s.2 4 i = 0 ∨ s.2 4 i = 1) :
    f_Rf_keepsRow s = some (0, if s.1 0 7 = 40 then uS (uA (uA s 3 (zHp (zHs (s.2 3)) 39 (s.2 1) 24)) 4 (zup (zHg (s.2 4)) 39 (s.2 2 0))) 0 7 40 else uS (uA (uA s 3 (zHp (s.2 3) (s.1 0 7) (s.2 1) 24)) 4 (zup (s.2 4) (s.1 0 7) (s.2 2 0))) 0 7 (s.1 0 7 + 1)) := by
  have h0 := h
  obtain ⟨h1, h2, h3, h4, -⟩ := h
  unfold f_Rf_keepsRow
  by_cases q : s.1 0 7 = 40
  · rw [if_pos q]
    refine iteF (by simpa using q) ?_
    have hl := zloop_up (step := f_Rf_keepsRow_l11) (r := uA s 3 (zHs (s.2 3))) 936 (n := zfu) (fun k => ((k : Int), uA s 3 (fun i => if 0 ≤ i ∧ i < (k : Int) then s.2 3 (i + 24) else s.2 3 i))) (fun k hk => ?_) ?_ ?_
    · simp only [Int.natCast_zero] at hl
      rw [uA_cg (F' := s.2 3) (by grind), uA_id] at hl
      refine bindS hl ?_
      have hl2 := zloop_up (step := f_Rf_keepsRow_l41) (r := uA (uA s 3 (zHs (s.2 3))) 4 (zHg (s.2 4))) 39 (n := zfu) (fun k => ((k : Int), uA (uA s 3 (zHs (s.2 3))) 4 (fun i => if 0 ≤ i ∧ i < (k : Int) then s.2 4 (i + 1) else s.2 4 i))) (fun k hk => ?_) ?_ ?_
      · simp only [Int.natCast_zero] at hl2
        rw [uA_cg (F' := (uA s 3 (zHs (s.2 3))).2 4) (by intro j; rw [uA2]; grind), uA_id] at hl2
        refine bindS hl2 ?_
        have e : w32 ((uA (uA s 3 (zHs (s.2 3))) 4 (zHg (s.2 4))).1 0 7 - 1) = 39 := by
          rw [uA1, uA1, q]
          decide
        rw [e]
        refine (c_Rf_keep77 (s := uS (uA (uA s 3 (zHs (s.2 3))) 4 (zHg (s.2 4))) 0 7 39) h0 ⟨by show (0 : Int) ≤ 39; decide, by show (39 : Int) < 40; decide⟩ hg).trans ?_
        show some (0, uS (uA (uA (uS (uA (uA s 3 (zHs (s.2 3))) 4 (zHg (s.2 4))) 0 7 39) 3 (zHp (zHs (s.2 3)) 39 (s.2 1) 24)) 4 (zup (zHg (s.2 4)) 39 (s.2 2 0))) 0 7 40) = _
        congr 2
        refine Prod.ext (funext fun a => funext fun b => ?_) (funext fun a => ?_)
        · simp only [uS1, uA1]
          grind
        · simp only [uS2, uA2]
          grind
      · unfold f_Rf_keepsRow_l41
        have ew : w32 ((k : Int) + 1) = k + 1 := w32i (by omega) (by omega)
        refine iteF (by show ¬ (39 : Int) ≤ (k : Int); omega) (iteT (by show 0 ≤ w32 ((k : Int) + 1) ∧ w32 ((k : Int) + 1) < s.1 4 0; omega) (iteT ⟨by show 0 ≤ (k : Int) ∧ (k : Int) < s.1 4 0; omega, ?_⟩ ?_))
        · show (if 0 ≤ w32 ((k : Int) + 1) ∧ w32 ((k : Int) + 1) < k then _ else _) = _ ∨ (if 0 ≤ w32 ((k : Int) + 1) ∧ w32 ((k : Int) + 1) < k then _ else _) = _
          rw [if_neg (by omega)]
          exact hb _
        · refine stepE (by show w32 ((k : Int) + 1) = _; rw [ew]; omega) (fun i => ?_)
          show zup (fun i => if 0 ≤ i ∧ i < (k : Int) then s.2 4 (i + 1) else s.2 4 i) (k : Int) ((fun i => if 0 ≤ i ∧ i < (k : Int) then s.2 4 (i + 1) else s.2 4 i) (w32 ((k : Int) + 1))) i = _
          rw [ew]
          simp only [zup]
          grind
      · rfl
      · unfold zfu; omega
    · unfold f_Rf_keepsRow_l11
      have ew : w32 ((k : Int) + 24) = k + 24 := w32i (by omega) (by omega)
      refine iteF (by show ¬ (936 : Int) ≤ (k : Int); omega) (iteT (by show 0 ≤ w32 ((k : Int) + 24) ∧ w32 ((k : Int) + 24) < s.1 3 0; omega) (iteT (by show 0 ≤ (k : Int) ∧ (k : Int) < s.1 3 0; omega) ?_))
      refine stepE (by show w32 ((k : Int) + 1) = _; rw [w32i] <;> omega) (fun i => ?_)
      show zup (fun i => if 0 ≤ i ∧ i < (k : Int) then s.2 3 (i + 24) else s.2 3 i) (k : Int) ((fun i => if 0 ≤ i ∧ i < (k : Int) then s.2 3 (i + 24) else s.2 3 i) (w32 ((k : Int) + 24))) i = _
      rw [ew]
      simp only [zup]
      grind
    · rfl
    · unfold zfu; omega
  · rw [if_neg q]
    refine iteT q ?_
    exact c_Rf_keep77 h0 ⟨hn.1, by omega⟩ hg
/-! the class's -/
def zHW (p : zSt) : Prop := p.1 1 0 = 960 ∧ p.1 2 0 = 40 ∧ (0 ≤ p.1 0 2 ∧ p.1 0 2 ≤ 40) ∧ ∀ i, p.2 2 i = 0 ∨ p.2 2 i = 1
theorem c_Hi_j60 {p : zSt} (h1 : p.1 1 0 = 960) (h2 : p.1 2 0 = 40) (hn : 0 ≤ p.1 0 2 ∧ p.1 0 2 < 40) {v : Int} (hv : v = 0 ∨ v = 1) :
    f_Hi_add_j60 v p = some (0, uS (uB p (zFl (p.2 1) (24 * p.1 0 2) (24 * p.1 0 2 + 24) 0) (zup (p.2 2) (p.1 0 2) v)) 0 2 (p.1 0 2 + 1)) := by
  unfold f_Hi_add_j60
  have e1 : w32 (p.1 0 2 * 24) = 24 * p.1 0 2 := by rw [w32i (by omega) (by omega)]; omega
  have e2 : w32 (w32 (p.1 0 2 + 1) * 24) = 24 * p.1 0 2 + 24 := by rw [w32i (x := p.1 0 2 + 1) (by omega) (by omega), w32i (by omega) (by omega)]; omega
  refine iteT hn.1 ?_
  rw [e1, e2]
  refine bindS (c_fill (by omega) (by omega) (by show _ ≤ p.1 1 0; omega) (by show p.1 1 0 ≤ _; omega)) ?_
  refine iteT ⟨⟨hn.1, by omega⟩, hv⟩ ?_
  show some (0, uS (uE (zpb (zsh 1) 1 p (uA (zsb (zsh 1) p) 0 _)) 2 _ v) 0 2 (w32 (p.1 0 2 + 1))) = _
  rw [zpb_uA _ _ _ _ _ _ (by omega), zpb_same, w32i (by omega) (by omega)]
  rfl
theorem c_Hi_add {p : zSt} (h : zHW p) {v : Int} (hv : v = 0 ∨ v = 1) :
    f_Hi_add v p = some (0, if p.1 0 2 = 40 then uS (uB p (zFl (zHs (p.2 1)) 936 960 0) (zup (zHg (p.2 2)) 39 v)) 0 2 40 else uS (uB p (zFl (p.2 1) (24 * p.1 0 2) (24 * p.1 0 2 + 24) 0) (zup (p.2 2) (p.1 0 2) v)) 0 2 (p.1 0 2 + 1)) := by
  obtain ⟨h1, h2, h3, h4⟩ := h
  unfold f_Hi_add
  by_cases q : p.1 0 2 = 40
  · rw [if_pos q]
    refine iteF (by omega) (iteT ⟨by decide, by omega⟩ ?_)
    have hl := zloop_up (step := f_Hi_add_l28 v) (r := uB p (zHs (p.2 1)) (zHg (p.2 2))) 39 (n := zfu) (fun k => (1 + (k : Int), uB p (zHs (p.2 1)) (fun i => if 0 ≤ i ∧ i < (k : Int) then p.2 2 (i + 1) else p.2 2 i))) (fun k hk => ?_) ?_ ?_
    · simp only [Int.natCast_zero, Int.add_zero] at hl
      have e4 : uB p (zHs (p.2 1)) (fun i => if 0 ≤ i ∧ i < 0 then p.2 2 (i + 1) else p.2 2 i) = uA p 1 (zcpy (p.2 1) (p.2 1) 24 0 936) := by
        rw [uB_cg (f' := zcpy (p.2 1) (p.2 1) 24 0 936) (g' := p.2 2) (fun i => ?_) (by grind)]
        · unfold uB
          rw [show p.2 2 = (uA p 1 (zcpy (p.2 1) (p.2 1) 24 0 936)).2 2 from rfl, uA_id]
        · unfold zHs zcpy
          grind
      rw [e4] at hl
      refine bindS hl ?_
      refine (c_Hi_j60 (p := uS (uB p (zHs (p.2 1)) (zHg (p.2 2))) 0 2 39) h1 h2 ⟨by show (0 : Int) ≤ 39; decide, by show (39 : Int) < 40; decide⟩ hv).trans ?_
      show some (0, uS (uB (uS (uB p (zHs (p.2 1)) (zHg (p.2 2))) 0 2 39) (zFl (zHs (p.2 1)) 936 960 0) (zup (zHg (p.2 2)) 39 v)) 0 2 40) = _
      congr 2
      unfold uB
      refine Prod.ext (funext fun a => funext fun b => ?_) (funext fun a => ?_)
      · simp only [uS1, uA1]
        grind
      · simp only [uS2, uA2]
        grind
    · unfold f_Hi_add_l28
      have ew : w32 (1 + (k : Int) - 1) = k := by rw [w32i (by omega) (by omega)]; omega
      refine iteF (by show ¬ (40 : Int) ≤ 1 + (k : Int); omega) (iteT (by show 0 ≤ 1 + (k : Int) ∧ 1 + (k : Int) < p.1 2 0; omega) (iteT ⟨by show 0 ≤ w32 (1 + (k : Int) - 1) ∧ w32 (1 + (k : Int) - 1) < p.1 2 0; omega, ?_⟩ ?_))
      · show (if 0 ≤ 1 + (k : Int) ∧ 1 + (k : Int) < k then _ else _) = _ ∨ (if 0 ≤ 1 + (k : Int) ∧ 1 + (k : Int) < k then _ else _) = _
        rw [if_neg (by omega)]
        exact h4 _
      · refine stepB (by show w32 (1 + (k : Int) + 1) = _; rw [w32i] <;> omega) (uB_E2 _ _ _ _ _) (fun _ => rfl) (fun i => ?_)
        simp only [zup, uB22, ew]
        grind
    · unfold f_Hi_add_l28
      refine iteT (by show (40 : Int) ≤ 1 + ((39 : Nat) : Int); decide) ?_
      congr 2
    · unfold zfu; omega
  · rw [if_neg q]
    refine iteT (by omega) ?_
    exact c_Hi_j60 h1 h2 ⟨h3.1, by omega⟩ hv
