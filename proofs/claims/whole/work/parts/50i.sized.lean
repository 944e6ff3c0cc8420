/-! ===== the relation anew, when the size has changed ===== -/
def zTs (i k : Nat) : Bool := (i == 1) || (i == 2 && (k == 2 || k == 3)) || (i == 5 && k == 2) || (i == 12 && (k == 0 || k == 1 || k == 2)) || (i == 25 && (k == 0 || k == 1 || k == 2)) || (i == 22 && (k == 2 || k == 3)) || (i == 0 && (k == 9 || k == 10 || k == 12 || k == 13))
def zTa (i : Nat) : Bool := i == 3 || i == 4 || i == 6 || i == 7 || i == 8 || i == 9 || i == 10 || i == 11 || i == 23 || i == 24 || i == 26
def zTk (k : Nat) : Bool := k == 0 || k == 1 || k == 2 || k == 7 || k == 9 || k == 10 || k == 11 || k == 13 || k == 14 || k == 15 || k == 23 || k == 24 || k == 25 || k == 26 || k == 58
def zTb2 (i : Nat) : Bool := i == 1 || i == 2 || i == 3 || i == 4 || i == 12 || i == 14 || i == 15
theorem zRel.sized {s r s1 r1 : zSt} (h : zRel s r) {R w : Int} (hR : 2 ≤ R ∧ R ≤ 12) (hw : 4 ≤ w ∧ w ≤ 24)
    (f1 : ∀ i k, zTs i k = false → s1.1 i k = s.1 i k) (f2 : ∀ i, 13 ≤ i → zTa i = false → s1.2 i = s.2 i)
    (v1 : s1.1 2 2 = R ∧ s1.1 2 3 = w ∧ s1.1 22 2 = R ∧ s1.1 22 3 = w ∧ s1.1 0 9 = R ∧ s1.1 0 10 = w ∧ s1.1 0 12 = 0 ∧ s1.1 0 13 = R - 1 ∧ s1.1 5 2 = r1.1 0 7)
    (g1 : ∀ k, zTk k = false → r1.1 0 k = r.1 0 k) (g1' : ∀ i, i ≠ 0 → r1.1 i = r.1 i) (g2 : ∀ i, zTb2 i = false → r1.2 i = r.2 i)
    (v2 : r1.1 0 1 = R ∧ r1.1 0 2 = w ∧ r1.1 0 13 = 0 ∧ r1.1 0 14 = R - 1 ∧ 0 ≤ r1.1 0 7 ∧ r1.1 0 7 ≤ 40)
    (hcu : s1.1 12 0 = r1.1 0 9 ∧ s1.1 12 1 = r1.1 0 10 ∧ s1.1 12 2 = r1.1 0 11) (hcu2 : (0 ≤ r1.1 0 9 ∧ r1.1 0 9 < R) ∧ (0 ≤ r1.1 0 10 ∧ r1.1 0 10 < w) ∧ z01 (r1.1 0 11))
    (hsv : zXv s1 r1) (hsv2 : zRv r1)
    (c0 : zRC (s1.2 3) (r1.2 1) 0) (c1 : zRC (s1.2 23) (r1.2 1) 288) (k0 : zKwf (r1.2 1) 0 R w) (k1 : zKwf (r1.2 1) 288 R w)
    (a0 : ∀ i, 0 ≤ i → i < 12 → s1.2 4 i = r1.2 2 (0 + i)) (a1 : ∀ i, 0 ≤ i → i < 12 → s1.2 24 i = r1.2 2 (12 + i)) (b0 : ∀ i, s1.2 4 i = 0 ∨ s1.2 4 i = 1) (b1 : ∀ i, s1.2 24 i = 0 ∨ s1.2 24 i = 1) (br : zGb r1)
    (z0 : ∀ k, R ≤ k → k < 12 → s1.2 4 k = 0) (z1 : ∀ k, R ≤ k → k < 12 → s1.2 24 k = 0)
    (x1 : ∀ i, 0 ≤ i → i < 24 * r1.1 0 7 → s1.2 6 i = r1.2 3 i) (x2 : ∀ i, 0 ≤ i → i < r1.1 0 7 → s1.2 7 i = r1.2 4 i) (x3 : ∀ i, s1.2 7 i = 0 ∨ s1.2 7 i = 1) (x4 : ∀ i, r1.2 4 i = 0 ∨ r1.2 4 i = 1) (x5 : ∀ k, 0 ≤ k → k < r1.1 0 7 → zRwf (r1.2 3) (k * 24) w)
    (ht : zXt s1 r1) : zRel s1 r1 := by
  obtain ⟨hL, ⟨hZ, hg, hs, hm, hv, hr, hk, hh⟩, p0, p1, xh, xu, xm, xv, xz, xt, xr⟩ := h
  obtain ⟨v11, v12, v13, v14, v15, v16, v17, v18, v19⟩ := v1
  obtain ⟨v21, v22, v23, v24, v25⟩ := v2
  refine ⟨⟨?_, ?_, True.intro⟩, ⟨⟨?_, by rw [v21]; exact hR, by rw [v22]; exact hw, by rw [g1 8 rfl]; exact hZ.2.2.2⟩, br, ⟨by rw [v21]; exact hcu2.1, by rw [v22]; exact hcu2.2.1, hcu2.2.2, by rw [g1 12 rfl]; exact hs.2.2.2.1, by rw [v23, v24, v21]; omega, v25⟩, ?_, hsv2, ?_, ⟨by rw [v21, v22]; exact k0, by rw [v21, v22]; exact k1⟩, ⟨x4, by rw [v22]; exact x5⟩⟩, ⟨c0, a0, b0, v11.trans v21.symm, v12.trans v22.symm, by rw [v21]; exact z0⟩, ⟨c1, a1, b1, v13.trans v21.symm, v14.trans v22.symm, by rw [v21]; exact z1⟩, ⟨v19, x1, x2, x3⟩, ⟨hcu.1, hcu.2.1, hcu.2.2, by rw [f1 12 3 rfl, g1 12 rfl]; exact xu.2.2.2.1, by rw [f1 12 4 rfl, g1 17 rfl]; exact xu.2.2.2.2⟩, ?_, hsv, ?_, ht, ?_⟩
  · rw [f1 3 0 rfl, f1 4 0 rfl, f1 6 0 rfl, f1 7 0 rfl, f1 8 0 rfl, f1 9 0 rfl, f1 10 0 rfl, f1 11 0 rfl]
    exact hL.1
  · rw [f1 16 0 rfl, f1 18 0 rfl, f1 19 0 rfl, f1 21 0 rfl, f1 23 0 rfl, f1 24 0 rfl, f1 26 0 rfl]
    exact hL.2.1
  · unfold zRL
    rw [g1' 1 (by decide), g1' 2 (by decide), g1' 3 (by decide), g1' 4 (by decide), g1' 5 (by decide), g1' 6 (by decide), g1' 7 (by decide), g1' 8 (by decide), g1' 9 (by decide), g1' 10 (by decide), g1' 11 (by decide), g1' 12 (by decide), g1' 13 (by decide), g1' 14 (by decide), g1' 15 (by decide)]
    exact hZ.1
  · unfold zRm
    rw [g1 16 rfl, g1 17 rfl, g1 18 rfl, g1 19 rfl, g1 20 rfl, g1 21 rfl, g1 22 rfl]
    exact hm
  · unfold zRr
    rw [g1 29 rfl, g1 32 rfl, g1 33 rfl, g1 34 rfl, g1 36 rfl, g1 38 rfl, g1 31 rfl, g2 5 rfl]
    exact hr
  · unfold zXm
    rw [f1 13 0 rfl, f1 13 1 rfl, f1 13 2 rfl, f1 13 3 rfl, f1 13 4 rfl, f1 13 5 rfl, g1 16 rfl, g1 18 rfl, g1 19 rfl, g1 20 rfl, g1 21 rfl, g1 22 rfl]
    exact xm
  · unfold zXz
    rw [f1 0 8 rfl, g1 8 rfl, v15, v21, v16, v22, f1 0 11 rfl, g1 39 rfl, v17, v23, v18, v24]
    exact ⟨xz.1, rfl, rfl, xz.2.2.2.1, rfl, rfl⟩
  · unfold zXr zbw zbt
    rw [f1 14 3 rfl, f1 15 1 rfl, f1 15 2 rfl, f1 17 1 rfl, f1 17 2 rfl, f1 20 1 rfl, f1 20 2 rfl, f1 14 4 rfl, f1 14 5 rfl, f1 14 6 rfl, f1 14 7 rfl, f2 16 (by decide) rfl, f2 18 (by decide) rfl, f2 19 (by decide) rfl, g1 29 rfl, g1 38 rfl, g1 36 rfl, g1 31 rfl, g1 33 rfl, g1 34 rfl, g1 32 rfl, g2 7 rfl, g2 6 rfl, g2 5 rfl]
    exact xr
/-- what laying needs, out of the relation -/
theorem zRel.nr {s r : zSt} (h : zRel s r) : zNr r := ⟨h.2.1.1.1, h.size.1, h.size.2, h.nums.2.2.2.2.2, h.2.1.2.1, h.2.1.2.2.2.2.2.2.2.1⟩
theorem zRwf.row {g : Int → Int} {o n : Int} (h : zRwf g o n) : zRow (fun c => g (o + c)) n := by
  refine ⟨h.1, fun c a b => ?_⟩
  have := h.2 c a b
  rw [show o + c - 1 = o + (c - 1) by omega] at this
  exact this
theorem zRow.cg {g g' : Int → Int} {n : Int} (h : zRow g n) (e : ∀ c, g' c = g c) : zRow g' n := by
  rw [show g' = g from funext e]; exact h
theorem zRel.rows {s r : zSt} (h : zRel s r) : ∀ a, 0 ≤ a → a < r.1 0 7 + 12 → zRow (zC r a) (r.1 0 2) := by
  intro a h0 h1
  have hk := h.2.1.2.2.2.2.2.2.1.1
  have hh := h.2.1.2.2.2.2.2.2.2.2
  unfold zC
  by_cases q : r.1 0 7 ≤ a
  · refine (hk.1 (a - r.1 0 7) (by omega) (by omega)).row.cg (fun c => ?_)
    rw [if_pos q, show 0 + (a - r.1 0 7) * 24 + c = 24 * (a - r.1 0 7) + c by omega]
  · refine (hh a h0 (by omega)).row.cg (fun c => ?_)
    rw [if_neg q, show a * 24 + c = 24 * a + c by omega]
