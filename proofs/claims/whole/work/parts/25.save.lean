/-! ===== what is saved, the other picture, a new beginning ===== -/
theorem zfind_sl2 (a b i : Nat) : zfind (zsl [a, b]) i 2 = if b = i then some 1 else if a = i then some 0 else none := rfl
theorem zpb_sl (a b : Nat) (hab : a ≠ b) (s : zSt) (k : Nat) (x : Int) (t : zSt) : zpb (zsl [a, b]) 2 s (uS t 0 k x) = uS (zpb (zsl [a, b]) 2 s t) a k x := by
  refine zst_ext (fun i j => ?_) (fun i => ?_)
  · unfold zpb
    simp only [zfind_sl2, uS1]
    by_cases h1 : b = i
    · rw [if_pos h1, if_neg (by omega)]
      rfl
    · rw [if_neg h1]
      by_cases h2 : a = i
      · rw [if_pos h2, if_pos h2.symm]
        rfl
      · rw [if_neg h2, if_neg (by omega)]
  · unfold zpb
    simp only [zfind_sl2, uS2]
/-- all five numbers of a cursor -/
def uC (s : zSt) (a : Nat) (x0 x1 x2 x3 x4 : Int) : zSt := uS (uS (uS (uS (uS s a 0 x0) a 1 x1) a 2 x2) a 3 x3) a 4 x4
theorem c_copy {s : zSt} {a b : Nat} (hab : a ≠ b) (h2 : s.1 b 2 = 0 ∨ s.1 b 2 = 1) (h4 : s.1 b 4 = 0 ∨ s.1 b 4 = 1) :
    ∃ p, f_Cu_copy (zsb (zsl [a, b]) s) = some (0, p) ∧ zpb (zsl [a, b]) 2 s p = uC s a (s.1 b 0) (s.1 b 1) (s.1 b 2) (s.1 b 3) (s.1 b 4) ∧ ∀ k, k < 5 → p.1 0 k = s.1 b k := by
  refine ⟨_, iteT h2 (iteT h4 rfl), ?_, fun k hk => ?_⟩
  · rw [zpb_sl a b hab, zpb_sl a b hab, zpb_sl a b hab, zpb_sl a b hab, zpb_sl a b hab, zpb_same]
    rfl
  · have : k = 0 ∨ k = 1 ∨ k = 2 ∨ k = 3 ∨ k = 4 := by omega
    rcases this with rfl | rfl | rfl | rfl | rfl <;> rfl
theorem zRel.sv {s r : zSt} (h : zRel s r) : zXv s r ∧ zRv r := ⟨h.2.2.2.2.2.2.2.1, h.2.1.2.2.2.2.1⟩
/-- the cursor anew -/
theorem zRel.cur {s r : zSt} (h : zRel s r) {x0 x1 x2 x3 x4 : Int} (h0 : 0 ≤ x0 ∧ x0 < r.1 0 1) (h1 : 0 ≤ x1 ∧ x1 < r.1 0 2) (h2 : x2 = 0 ∨ x2 = 1) (h3 : 0 ≤ x3 ∧ x3 < 16) (h4 : x4 = 0 ∨ x4 = 1) :
    zRel (uC s 12 x0 x1 x2 x3 x4) (uS (uS (uS (uS (uS r 0 9 x0) 0 10 x1) 0 11 x2) 0 12 x3) 0 17 x4) := ((((h.row h0).col h1).late h2).attr h3).orig h4
theorem S_bring {s r : zSt} (h : zRel s r) : ∃ s1 r1, f_Sc_bringBack s = some (0, s1) ∧ f_Rf_bringsBack r = some (0, r1) ∧ zRel s1 r1 ∧ zKp r r1 ∧ r1.1 0 8 = r.1 0 8 := by
  have z := h.size
  obtain ⟨xv1, xv0⟩ := h.sv.1
  obtain ⟨v1, v2, v3⟩ := h.sv.2
  obtain ⟨d1, d2, d3, d4, d5, d6⟩ := h.zz
  have hm := h.mo
  have hw := h.mode.2.2.1
  obtain ⟨y0, hy0⟩ : ∃ y, y = (if r.1 0 23 = 0 then (0 : Int) else if r.1 0 24 < r.1 0 1 - 1 then r.1 0 24 else r.1 0 1 - 1) := ⟨_, rfl⟩
  obtain ⟨y1, hy1⟩ : ∃ y, y = (if r.1 0 23 = 0 then (0 : Int) else if r.1 0 25 < r.1 0 2 - 1 then r.1 0 25 else r.1 0 2 - 1) := ⟨_, rfl⟩
  obtain ⟨y2, hy2⟩ : ∃ y, y = (if r.1 0 23 = 0 then (0 : Int) else if r.1 0 26 = 0 then 0 else if ¬ y1 = r.1 0 2 - 1 then 0 else if r.1 0 18 = 0 then 0 else 1) := ⟨_, rfl⟩
  obtain ⟨y3, hy3⟩ : ∃ y, y = (if r.1 0 23 = 0 then (0 : Int) else r.1 0 27) := ⟨_, rfl⟩
  obtain ⟨y4, hy4⟩ : ∃ y, y = (if r.1 0 23 = 0 then (0 : Int) else if r.1 0 28 = 0 then 0 else 1) := ⟨_, rfl⟩
  have er : w32 (r.1 0 1 - 1) = r.1 0 1 - 1 := w32i (by omega) (by omega)
  have ec : w32 (r.1 0 2 - 1) = r.1 0 2 - 1 := w32i (by omega) (by omega)
  have s25 : (s.1 25 0 = if r.1 0 23 = 0 then 0 else r.1 0 24) ∧ (s.1 25 1 = if r.1 0 23 = 0 then 0 else r.1 0 25) ∧ (s.1 25 2 = if r.1 0 23 = 0 then 0 else r.1 0 26) ∧ (s.1 25 3 = if r.1 0 23 = 0 then 0 else r.1 0 27) ∧ (s.1 25 4 = if r.1 0 23 = 0 then 0 else r.1 0 28) := by
    rcases v1 with q | q
    · obtain ⟨a, b, c, d, e⟩ := xv0 q
      rw [if_pos q, if_pos q, if_pos q, if_pos q, if_pos q]
      exact ⟨a, b, c, d, e⟩
    · obtain ⟨a, b, c, d, e⟩ := xv1 q
      rw [if_neg (by omega), if_neg (by omega), if_neg (by omega), if_neg (by omega), if_neg (by omega)]
      exact ⟨a, b, c, d, e⟩
  obtain ⟨s0, s1, s2, s3, s4⟩ := s25
  have hs2 : s.1 25 2 = 0 ∨ s.1 25 2 = 1 := by
    rw [s2]
    rcases v1 with q | q
    · rw [if_pos q]; exact Or.inl rfl
    · rw [if_neg (by omega)]; exact (v3 q).2.2.1
  have hs4 : s.1 25 4 = 0 ∨ s.1 25 4 = 1 := by
    rw [s4]
    rcases v1 with q | q
    · rw [if_pos q]; exact Or.inl rfl
    · rw [if_neg (by omega)]; exact (v3 q).2.2.2.2
  obtain ⟨p, e1, e2, e3⟩ := c_copy (s := s) (a := 12) (b := 25) (by decide) hs2 hs4
  have k := h.cur (x0 := y0) (x1 := y1) (x2 := y2) (x3 := y3) (x4 := y4) (by rcases v1 with q | q; grind; have := v3 q; grind) (by rcases v1 with q | q; grind; have := v3 q; grind) (by grind) (by rcases v1 with q | q; grind; have := v3 q; grind) (by grind)
  have f0 : (if w32 (s.1 0 9 - 1) < p.1 0 0 then w32 (s.1 0 9 - 1) else p.1 0 0) = y0 := by
    rw [d2, er, e3 0 (by decide), s0, hy0]
    rcases v1 with q | q
    · grind
    · have := v3 q
      grind
  have f1 : (if w32 (s.1 0 10 - 1) < p.1 0 1 then w32 (s.1 0 10 - 1) else p.1 0 1) = y1 := by
    rw [d3, ec, e3 1 (by decide), s1, hy1]
    rcases v1 with q | q
    · grind
    · have := v3 q
      grind
  have f2 : (if p.1 0 2 = 0 then (0 : Int) else if ¬ (if w32 (s.1 0 10 - 1) < p.1 0 1 then w32 (s.1 0 10 - 1) else p.1 0 1) = w32 (s.1 0 10 - 1) then 0 else if s.1 13 1 = 0 then 0 else 1) = y2 := by
    rw [f1, d3, ec, e3 2 (by decide), s2, hm.2.1, hy2]
    rcases v1 with q | q
    · grind
    · have := v3 q
      grind
  have g : f_Sc_bringBack s = some (0, uC s 12 y0 y1 y2 y3 y4) := by
    unfold f_Sc_bringBack
    refine bindS e1 ?_
    show some ((0 : Int), uS (uS (uS (zpb (zsl [12, 25]) 2 s p) 12 0 (if w32 (s.1 0 9 - 1) < p.1 0 0 then w32 (s.1 0 9 - 1) else p.1 0 0)) 12 1 (if w32 (s.1 0 10 - 1) < p.1 0 1 then w32 (s.1 0 10 - 1) else p.1 0 1)) 12 2 (if p.1 0 2 = 0 then (0 : Int) else if ¬ (if w32 (s.1 0 10 - 1) < p.1 0 1 then w32 (s.1 0 10 - 1) else p.1 0 1) = w32 (s.1 0 10 - 1) then 0 else if s.1 13 1 = 0 then 0 else 1)) = _
    rw [f2, f0, f1, e2]
    congr 2
    have h3 : s.1 25 3 = y3 := by rw [s3, hy3]
    have h4 : s.1 25 4 = y4 := by
      rw [s4, hy4]
      rcases v1 with q | q
      · grind
      · have := (v3 q).2.2.2.2
        unfold z01 at this
        grind
    rw [h3, h4]
    unfold uC
    refine zst_ext (fun i j => ?_) (fun _ => rfl)
    simp only [uS1]
    grind
  have g2 : f_Rf_bringsBack r = some (0, uS (uS (uS (uS (uS r 0 9 y0) 0 10 y1) 0 11 y2) 0 12 y3) 0 17 y4) := by
    have l1 : f_Rf_lesser (r.1 0 24) (w32 (r.1 0 1 - 1)) = some (if r.1 0 24 < r.1 0 1 - 1 then r.1 0 24 else r.1 0 1 - 1) := by
      rw [er]
      unfold f_Rf_lesser
      grind
    have l2 : f_Rf_lesser (r.1 0 25) (w32 (r.1 0 2 - 1)) = some (if r.1 0 25 < r.1 0 2 - 1 then r.1 0 25 else r.1 0 2 - 1) := by
      rw [ec]
      unfold f_Rf_lesser
      grind
    unfold f_Rf_bringsBack f_Rf_bringsBack_j25 f_Rf_bringsBack_j53
    rcases v1 with q | q
    · rw [if_pos q] at hy0 hy1 hy2 hy3 hy4
      refine iteT q ?_
      show (if r.1 0 23 = 0 then _ else _) = _
      refine iteT q ?_
      show some ((0 : Int), uS (uS (uS (uS (uS r 0 9 0) 0 10 0) 0 11 (if r.1 0 23 = 0 then 0 else _)) 0 12 (if r.1 0 23 = 0 then 0 else _)) 0 17 (if r.1 0 23 = 0 then 0 else _)) = _
      rw [if_pos q, if_pos q, if_pos q, hy0, hy1, hy2, hy3, hy4]
    · have q' : ¬ r.1 0 23 = 0 := by omega
      rw [if_neg q'] at hy0 hy1 hy2 hy3 hy4
      refine iteF q' (bindS l1 ?_)
      rw [← hy0]
      show (if r.1 0 23 = 0 then _ else (f_Rf_lesser (r.1 0 25) (w32 (r.1 0 2 - 1))).bind _) = _
      refine iteF q' (bindS l2 ?_)
      rw [← hy1]
      show some ((0 : Int), uS (uS (uS (uS (uS r 0 9 y0) 0 10 y1) 0 11 (if r.1 0 23 = 0 then 0 else if r.1 0 26 = 0 then 0 else if ¬ y1 = w32 (r.1 0 2 - 1) then 0 else if r.1 0 18 = 0 then 0 else 1)) 0 12 (if r.1 0 23 = 0 then 0 else r.1 0 27)) 0 17 (if r.1 0 23 = 0 then 0 else if r.1 0 28 = 0 then 0 else 1)) = _
      rw [if_neg q', if_neg q', if_neg q', ec, ← hy2, ← hy3, ← hy4]
  exact ⟨_, _, g, g2, k, ((((zKp.uS (by decide)).trans (zKp.uS (by decide))).trans (zKp.uS (by decide))).trans (zKp.uS (by decide))).trans (zKp.uS (by decide)), rfl⟩
theorem S_save {s r : zSt} (h : zRel s r) : ∃ p r1, f_Cu_copy (zsb (zsl [25, 12]) s) = some (0, p) ∧ f_Rf_saves r = some (0, r1) ∧ zRel (zpb (zsl [25, 12]) 2 s p) r1 ∧ zKp r r1 ∧ (r1.1 0 23 = 1 ∧ r1.1 0 24 < r1.1 0 1 ∧ r1.1 0 25 < r1.1 0 2) ∧ (∀ k, k < 23 → r1.1 0 k = r.1 0 k) ∧ r1.2 = r.2 := by
  have z := h.size
  have hn := h.nums
  have hm := h.mode
  obtain ⟨c1, c2, c3, c4, c5⟩ := h.cu
  obtain ⟨p, e1, e2, e3⟩ := c_copy (s := s) (a := 25) (b := 12) (by decide) (by rw [c3]; exact hn.2.2.1) (by rw [c5]; exact hm.2.1)
  have er : f_Rf_saves r = some (0, uS (uS (uS (uS (uS (uS r 0 23 1) 0 24 (r.1 0 9)) 0 25 (r.1 0 10)) 0 26 (r.1 0 11)) 0 27 (r.1 0 12)) 0 28 (r.1 0 17)) := iteT hn.2.2.1 (iteT hm.2.1 rfl)
  refine ⟨p, _, e1, er, ?_, ⟨fun k q => ?_, fun _ _ _ => rfl⟩, ⟨rfl, hn.1.2, hn.2.1.2⟩, fun k q => ?_, rfl⟩
  · rw [e2, c1, c2, c3, c4, c5]
    obtain ⟨hL, ⟨hZ, hg, hs, hm, hv, hr, hk, hh⟩, p0, p1, xh, xu, xm, xv, xz, xt, xr⟩ := h
    refine ⟨hL, ⟨hZ, hg, hs, hm, ⟨Or.inr rfl, fun _ => ⟨rfl, hn.1.2, hn.2.1.2⟩, fun _ => ⟨by show 0 ≤ r.1 0 9 ∧ r.1 0 9 < 12; have := hn.1; omega, by show 0 ≤ r.1 0 10 ∧ r.1 0 10 < 24; have := hn.2.1; omega, hn.2.2.1, hn.2.2.2.1, hm.2.1⟩⟩, hr, hk, hh⟩, p0, p1, xh, xu, xm, ⟨fun _ => ⟨rfl, rfl, rfl, rfl, rfl⟩, fun q => absurd (show (1 : Int) = 0 from q) (by decide)⟩, xz, xt, xr⟩
  · simp only [uS1]
    grind (splits := 24)
  · simp only [uS1]
    grind
