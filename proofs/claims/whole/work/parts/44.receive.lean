/-! ===== a byte comes to the screen ===== -/
theorem zRel.ttl {s r : zSt} (h : zRel s r) {F G F' G' : Int → Int} {x a c d m n : Int} (hx : (0 ≤ x ∧ x ≤ 3) ∧ x ≠ 2) (ha : 0 ≤ a ∧ a < 16) (hm : 0 ≤ m ∧ m ≤ 16) (hc : 0 ≤ c ∧ c < 16) (hd : 0 ≤ d ∧ d ≤ 16) (hn : 0 ≤ n ∧ n ≤ 16)
    (hF : ∀ i, 0 ≤ i → i < m → F (if a + i < 16 then a + i else a + i - 16) = F' i) (hG : x = 3 → d = n ∧ ∀ i, 0 ≤ i → i < n → G (if c + i < 16 then c + i else c + i - 16) = G' i) :
    zRel (uA (uA (uS (uS (uS (uS (uS s 14 3 x) 15 1 a) 15 2 m) 17 1 c) 17 2 d) 16 F) 18 G) (uA (uA (uS (uS (uS r 0 29 x) 0 36 n) 0 38 m) 6 G') 7 F') := by
  obtain ⟨hL, ⟨hZ, hg, hs, hm', hv, hr, hk, hh⟩, p0, p1, xh, xu, xm, xv, xz, xt, xr⟩ := h
  exact ⟨hL, ⟨hZ, hg, hs, hm', hv, ⟨hx.1, hr.2.1, hr.2.2.1, hr.2.2.2.1, hn, hm, fun q => absurd (show x = 2 from q) hx.2, hr.2.2.2.2.2.2.2⟩, hk, hh⟩, p0, p1, xh, xu, xm, xv, xz, xt, ⟨⟨rfl, ⟨ha, hm⟩, ⟨hc, hd⟩, xr.1.2.2.2⟩, ⟨rfl, hF⟩, hG, xr.2.2.2.1, fun q => absurd (show x = 2 from q) hx.2⟩⟩
theorem zBy_of {s : zSt} {o : Nat} (h16 : s.1 (o + 1) 0 = 16) (hw : zbw s o 16) : zBy (zsb (zsh o) s) 16 ((List.range (s.1 o 2).toNat).map fun i : Nat => zbt s o (o + 1) 16 (i : Int)) := by
  refine ⟨?_, ?_, ?_, ?_, fun i hi => ?_⟩
  · show s.1 (1 + o) 0 = _
    rw [Nat.add_comm]; exact h16
  · show 0 ≤ s.1 (0 + o) 1 ∧ s.1 (0 + o) 1 < _
    rw [Nat.zero_add]; exact hw.1
  · show s.1 (0 + o) 2 = _
    rw [Nat.zero_add]
    have := hw.2
    simp
    omega
  · have := hw.2
    simp
    omega
  · simp only [List.length_map, List.length_range] at hi
    show s.2 (1 + o) (zwr (s.1 (0 + o) 1 + i) 16) = _
    rw [Nat.zero_add, Nat.add_comm 1 o]
    simp [List.getD_eq_getElem?_getD, hi]
    rfl
theorem zBy_at {s : zSt} {o : Nat} {l : List Int} (h : zBy (zsb (zsh o) s) 16 l) : (0 ≤ s.1 o 1 ∧ s.1 o 1 < 16) ∧ s.1 o 2 = l.length ∧ l.length ≤ 16 ∧ ∀ i : Int, 0 ≤ i → i < l.length → s.2 (o + 1) (if s.1 o 1 + i < 16 then s.1 o 1 + i else s.1 o 1 + i - 16) = l.getD i.toNat 0 := by
  obtain ⟨h1, h2, h3, h4, h5⟩ := h
  have e1 : (zsb (zsh o) s).1 0 1 = s.1 o 1 := by show s.1 (0 + o) 1 = _; rw [Nat.zero_add]
  have e2 : (zsb (zsh o) s).1 0 2 = s.1 o 2 := by show s.1 (0 + o) 2 = _; rw [Nat.zero_add]
  have e3 : (zsb (zsh o) s).2 1 = s.2 (o + 1) := by show s.2 (1 + o) = _; rw [Nat.add_comm]
  rw [e1] at h2
  rw [e2] at h3
  refine ⟨h2, h3, h4, fun i a b => ?_⟩
  have := h5 i.toNat (by omega)
  rw [e1, e3, show ((i.toNat : Nat) : Int) = i by omega] at this
  exact this
theorem getD_rm (f : Nat → Int) {n i : Nat} (h : i < n) : ((List.range n).map f).getD i 0 = f i := by
  simp [List.getD_eq_getElem?_getD, h]
theorem c_titles {r : zSt} (hn : 0 ≤ r.1 0 36 ∧ r.1 0 36 ≤ 16) (h6 : r.1 6 0 = 16) (h7 : r.1 7 0 = 16) : zloop f_Rf_titles_l16 zfu (0, uS r 0 38 (r.1 0 36)) = some (uA (uS r 0 38 (r.1 0 36)) 7 (fun i => if 0 ≤ i ∧ i < r.1 0 36 then r.2 6 i else r.2 7 i)) := by
  have hl := zloop_up (step := f_Rf_titles_l16) (r := uA (uS r 0 38 (r.1 0 36)) 7 (fun i => if 0 ≤ i ∧ i < r.1 0 36 then r.2 6 i else r.2 7 i)) (r.1 0 36).toNat (n := zfu) (fun j => ((j : Int), uA (uS r 0 38 (r.1 0 36)) 7 (fun i => if 0 ≤ i ∧ i < (j : Int) then r.2 6 i else r.2 7 i))) (fun j hj => ?_) ?_ ?_
  · have e : uA (uS r 0 38 (r.1 0 36)) 7 (fun i => if 0 ≤ i ∧ i < ((0 : Nat) : Int) then r.2 6 i else r.2 7 i) = uS r 0 38 (r.1 0 36) := by
      rw [show (fun i => if 0 ≤ i ∧ i < ((0 : Nat) : Int) then r.2 6 i else r.2 7 i) = (uS r 0 38 (r.1 0 36)).2 7 from funext fun i => by rw [if_neg (by omega)]; rfl]
      exact uA_id _ _
    rw [e] at hl
    exact hl
  · unfold f_Rf_titles_l16
    refine iteF (by show ¬ (r.1 0 36 ≤ (j : Int)); omega) (iteT (by show 0 ≤ (j : Int) ∧ (j : Int) < r.1 6 0; omega) (iteT (by show 0 ≤ (j : Int) ∧ (j : Int) < r.1 7 0; omega) ?_))
    refine stepE (by show w32 ((j : Int) + 1) = _; rw [w32i] <;> omega) (fun i => ?_)
    show zup _ (j : Int) (r.2 6 (j : Int)) i = _
    unfold zup
    grind
  · unfold f_Rf_titles_l16
    refine iteT (by show r.1 0 36 ≤ (((r.1 0 36).toNat : Nat) : Int); omega) ?_
    rw [show (((r.1 0 36).toNat : Nat) : Int) = r.1 0 36 by omega]
  · unfold zfu; omega
theorem zpb_in {a b n m : Nat} {s t : zSt} (h : b + m ≤ n) : zpb (zsh a) n s (zpb (zsh b) m (zsb (zsh a) s) t) = zpb (zsh (b + a)) m s t := by
  refine zst_ext (fun i k => ?_) (fun i => ?_)
  · rw [zpb1, zpb1, zpb1, zsb1]
    by_cases h1 : a ≤ i ∧ i < a + n
    · rw [if_pos h1]
      by_cases h2 : b ≤ i - a ∧ i - a < b + m
      · rw [if_pos h2, if_pos (by omega), show i - a - b = i - (b + a) by omega]
      · rw [if_neg h2, if_neg (by omega)]
        show s.1 (i - a + a) k = _
        rw [show i - a + a = i by omega]
    · rw [if_neg h1, if_neg (by omega)]
  · rw [zpb2, zpb2, zpb2, zsb2]
    by_cases h1 : a ≤ i ∧ i < a + n
    · rw [if_pos h1]
      by_cases h2 : b ≤ i - a ∧ i - a < b + m
      · rw [if_pos h2, if_pos (by omega), show i - a - b = i - (b + a) by omega]
      · rw [if_neg h2, if_neg (by omega)]
        show s.2 (i - a + a) = _
        rw [show i - a + a = i by omega]
    · rw [if_neg h1, if_neg (by omega)]
theorem zRel.tl {s r : zSt} (h : zRel s r) : ∃ l, zBy (zsb (zsh 15) s) 16 l ∧ zLs (r.2 7) (r.1 0 38) l := by
  obtain ⟨xr, hr⟩ := h.xr
  have h16 : s.1 16 0 = 16 := h.1.2.1.1
  refine ⟨_, zBy_of (o := 15) h16 xr.1.2.1, ?_, fun i hi => ?_⟩
  · have := hr.2.2.2.2.2.1
    have e := xr.2.1.1
    simp
    omega
  · simp only [List.length_map, List.length_range] at hi
    rw [getD_rm _ hi]
    have e := xr.2.1.1
    exact (xr.2.1.2 i (by omega) (by omega)).symm
theorem zRel.dl {s r : zSt} (h : zRel s r) : ∃ l, zBy (zsb (zsh 17) s) 16 l ∧ (r.1 0 29 = 3 → zLs (r.2 6) (r.1 0 36) l) := by
  obtain ⟨xr, hr⟩ := h.xr
  have h18 : s.1 18 0 = 16 := h.1.2.1.2.1
  refine ⟨_, zBy_of (o := 17) h18 xr.1.2.2.1, fun h3 => ⟨?_, fun i hi => ?_⟩⟩
  · have := hr.2.2.2.2.1
    have e := (xr.2.2.1 h3).1
    simp
    omega
  · simp only [List.length_map, List.length_range] at hi
    rw [getD_rm _ hi]
    have e := (xr.2.2.1 h3).1
    exact ((xr.2.2.1 h3).2 i (by omega) (by omega)).symm
theorem zRel.ttlE {s r s1 r1 : zSt} (h : zRel s r) (f1 : ∀ i k, ¬ (i = 14 ∧ k = 3) → ¬ (i = 15 ∧ (k = 1 ∨ k = 2)) → ¬ (i = 17 ∧ (k = 1 ∨ k = 2)) → s1.1 i k = s.1 i k) (f2 : ∀ i, i ≠ 16 → i ≠ 18 → s1.2 i = s.2 i)
    (g1 : ∀ i k, ¬ (i = 0 ∧ (k = 29 ∨ k = 36 ∨ k = 38)) → r1.1 i k = r.1 i k) (g2 : ∀ i, i ≠ 6 → i ≠ 7 → r1.2 i = r.2 i)
    (hx : s1.1 14 3 = r1.1 0 29 ∧ (0 ≤ r1.1 0 29 ∧ r1.1 0 29 ≤ 3) ∧ r1.1 0 29 ≠ 2) (hT : ∃ l, zBy (zsb (zsh 15) s1) 16 l ∧ zLs (r1.2 7) (r1.1 0 38) l) (hD : ∃ l, zBy (zsb (zsh 17) s1) 16 l ∧ (r1.1 0 29 = 3 → zLs (r1.2 6) (r1.1 0 36) l)) (hn : 0 ≤ r1.1 0 36 ∧ r1.1 0 36 ≤ 16) : zRel s1 r1 := by
  obtain ⟨l, t1, t2⟩ := hT
  obtain ⟨d, d1, d2⟩ := hD
  obtain ⟨a1, a2, a3, a4⟩ := zBy_at t1
  obtain ⟨b1, b2, b3, b4⟩ := zBy_at d1
  have e1 : s1 = uA (uA (uS (uS (uS (uS (uS s 14 3 (r1.1 0 29)) 15 1 (s1.1 15 1)) 15 2 (r1.1 0 38)) 17 1 (s1.1 17 1)) 17 2 (s1.1 17 2)) 16 (s1.2 16)) 18 (s1.2 18) := by
    have t3 := t2.1
    refine zst_ext (fun i k => ?_) (fun i => ?_)
    · have := f1 i k
      simp only [uA1, uS1]
      grind
    · have := f2 i
      rw [uA2, uA2]
      show s1.2 i = if i = 18 then s1.2 18 else if i = 16 then s1.2 16 else s.2 i
      grind
  have e2 : r1 = uA (uA (uS (uS (uS r 0 29 (r1.1 0 29)) 0 36 (r1.1 0 36)) 0 38 (r1.1 0 38)) 6 (r1.2 6)) 7 (r1.2 7) := by
    refine zst_ext (fun i k => ?_) (fun i => ?_)
    · have := g1 i k
      simp only [uA1, uS1]
      grind
    · have := g2 i
      rw [uA2, uA2]
      show r1.2 i = if i = 7 then r1.2 7 else if i = 6 then r1.2 6 else r.2 i
      grind
  have key := h.ttl (F := s1.2 16) (G := s1.2 18) (F' := r1.2 7) (G' := r1.2 6) (x := r1.1 0 29) (a := s1.1 15 1) (c := s1.1 17 1) (d := s1.1 17 2) (m := r1.1 0 38) (n := r1.1 0 36) hx.2 a1 (by rw [t2.1]; omega) b1 (by rw [b2]; omega) hn (fun i p q => ?_) (fun h3 => ⟨?_, fun i p q => ?_⟩)
  · rw [e1, e2]
    exact key
  · have t3 := t2.1
    rw [a4 i p (by omega)]
    have := t2.2 i.toNat (by omega)
    rw [show ((i.toNat : Nat) : Int) = i by omega] at this
    exact this.symm
  · have := (d2 h3).1
    omega
  · have t3 := (d2 h3).1
    rw [b4 i p (by omega)]
    have := (d2 h3).2 i.toNat (by omega)
    rw [show ((i.toNat : Nat) : Int) = i by omega] at this
    exact this.symm
