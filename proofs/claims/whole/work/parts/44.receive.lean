/-! ===== a byte comes to the screen ===== -/
theorem zRel.ttl {s r : zSt} (h : zRel s r) {F G F' G' : Int → Int} {x a c d m n : Int} (hx : (0 ≤ x ∧ x ≤ 3) ∧ x ≠ 2) (ha : 0 ≤ a ∧ a < 16) (hm : 0 ≤ m ∧ m ≤ 16) (hc : 0 ≤ c ∧ c < 16) (hd : 0 ≤ d ∧ d ≤ 16) (hn : 0 ≤ n ∧ n ≤ 16)
    (hF : ∀ i, 0 ≤ i → i < m → F (if a + i < 16 then a + i else a + i - 16) = F' i) (hG : x = 3 → d = n ∧ ∀ i, 0 ≤ i → i < n → G (if c + i < 16 then c + i else c + i - 16) = G' i) :
    zRel (uA (uA (uS (uS (uS (uS (uS s 14 3 x) 15 1 a) 15 2 m) 17 1 c) 17 2 d) 16 F) 18 G) (uA (uA (uS (uS (uS r 0 29 x) 0 36 n) 0 38 m) 6 G') 7 F') := by
  obtain ⟨hL, ⟨hZ, hg, hs, hm', hv, hr, hk, hh⟩, p0, p1, xh, xu, xm, xv, xz, xt, xr⟩ := h
  exact ⟨hL, ⟨hZ, hg, hs, hm', hv, ⟨hx.1, hr.2.1, hr.2.2.1, hr.2.2.2.1, hn, hm, fun q => absurd (show x = 2 from q) hx.2, hr.2.2.2.2.2.2.2⟩, hk, hh⟩, p0, p1, xh, xu, xm, xv, xz, xt, ⟨⟨rfl, ⟨ha, hm⟩, ⟨hc, hd⟩, xr.1.2.2.2⟩, ⟨rfl, hF⟩, hG, xr.2.2.2.1, fun q => absurd (show x = 2 from q) hx.2⟩⟩
theorem zBy_of {s : zSt} {o : Nat} (h16 : s.1 (o + 1) 0 = 16) (hw : zbw s o 16) : zBy (zsb (zsh o) s) 16 ((List.range (s.1 o 2).toNat).map fun i : Nat => zbt s o (o + 1) 16 (i : Int)) := by
  refine ⟨?_, ?_, ?_, ?_, fun i hi => ?_⟩
  · show s.1 (1 + o) 0 = _
    rw [Nat.add_comm]; exact h16
  · show 0 ≤ s.1 (0 + o) 1 ∧ s.1 (0 + o) 1 < _
    rw [Nat.zero_add]; exact hw.1
  · show s.1 (0 + o) 2 = _
    rw [Nat.zero_add]
    have := hw.2
    simp
    omega
  · have := hw.2
    simp
    omega
  · simp only [List.length_map, List.length_range] at hi
    show s.2 (1 + o) (zwr (s.1 (0 + o) 1 + i) 16) = _
    rw [Nat.zero_add, Nat.add_comm 1 o]
    simp [List.getD_eq_getElem?_getD, hi]
    rfl
theorem zBy_at {s : zSt} {o : Nat} {l : List Int} (h : zBy (zsb (zsh o) s) 16 l) : (0 ≤ s.1 o 1 ∧ s.1 o 1 < 16) ∧ s.1 o 2 = l.length ∧ l.length ≤ 16 ∧ ∀ i : Int, 0 ≤ i → i < l.length → s.2 (o + 1) (if s.1 o 1 + i < 16 then s.1 o 1 + i else s.1 o 1 + i - 16) = l.getD i.toNat 0 := by
  obtain ⟨h1, h2, h3, h4, h5⟩ := h
  have e1 : (zsb (zsh o) s).1 0 1 = s.1 o 1 := by show s.1 (0 + o) 1 = _; rw [Nat.zero_add]
  have e2 : (zsb (zsh o) s).1 0 2 = s.1 o 2 := by show s.1 (0 + o) 2 = _; rw [Nat.zero_add]
  have e3 : (zsb (zsh o) s).2 1 = s.2 (o + 1) := by show s.2 (1 + o) = _; rw [Nat.add_comm]
  rw [e1] at h2
  rw [e2] at h3
  refine ⟨h2, h3, h4, fun i a b => ?_⟩
  have := h5 i.toNat (by omega)
  rw [e1, e3, show ((i.toNat : Nat) : Int) = i by omega] at this
  exact this
theorem getD_rm (f : Nat → Int) {n i : Nat} (h : i < n) : ((List.range n).map f).getD i 0 = f i := by
  simp [List.getD_eq_getElem?_getD, h]
theorem c_titles {r : zSt} (hn : 0 ≤ r.1 0 36 ∧ r.1 0 36 ≤ 16) (h6 : r.1 6 0 = 16) (h7 : r.1 7 0 = 16) : zloop f_Rf_titles_l16 zfu (0, uS r 0 38 (r.1 0 36)) = some (uA (uS r 0 38 (r.1 0 36)) 7 (fun i => if 0 ≤ i ∧ i < r.1 0 36 then r.2 6 i else r.2 7 i)) := by
  have hl := zloop_up (step := f_Rf_titles_l16) (r := uA (uS r 0 38 (r.1 0 36)) 7 (fun i => if 0 ≤ i ∧ i < r.1 0 36 then r.2 6 i else r.2 7 i)) (r.1 0 36).toNat (n := zfu) (fun j => ((j : Int), uA (uS r 0 38 (r.1 0 36)) 7 (fun i => if 0 ≤ i ∧ i < (j : Int) then r.2 6 i else r.2 7 i))) (fun j hj => ?_) ?_ ?_
  · have e : uA (uS r 0 38 (r.1 0 36)) 7 (fun i => if 0 ≤ i ∧ i < ((0 : Nat) : Int) then r.2 6 i else r.2 7 i) = uS r 0 38 (r.1 0 36) := by
      rw [show (fun i => if 0 ≤ i ∧ i < ((0 : Nat) : Int) then r.2 6 i else r.2 7 i) = (uS r 0 38 (r.1 0 36)).2 7 from funext fun i => by rw [if_neg (by omega)]; rfl]
      exact uA_id _ _
    rw [e] at hl
    exact hl
  · unfold f_Rf_titles_l16
    refine iteF (by show ¬ (r.1 0 36 ≤ (j : Int)); omega) (iteT (by show 0 ≤ (j : Int) ∧ (j : Int) < r.1 6 0; omega) (iteT (by show 0 ≤ (j : Int) ∧ (j : Int) < r.1 7 0; omega) ?_))
    refine stepE (by show w32 ((j : Int) + 1) = _; rw [w32i] <;> omega) (fun i => ?_)
    show zup _ (j : Int) (r.2 6 (j : Int)) i = _
    unfold zup
    grind
  · unfold f_Rf_titles_l16
    refine iteT (by show r.1 0 36 ≤ (((r.1 0 36).toNat : Nat) : Int); omega) ?_
    rw [show (((r.1 0 36).toNat : Nat) : Int) = r.1 0 36 by omega]
  · unfold zfu; omega
