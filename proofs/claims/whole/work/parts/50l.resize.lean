/-! ===== the size changes: class and reference alike ===== -/
theorem zRwf.sh {g g' : Int → Int} {o o' n : Int} (h : zRwf g o n) (e : ∀ c, 0 ≤ c → c < 24 → g' (o' + c) = g (o + c)) (hn : 0 ≤ n ∧ n ≤ 24) : zRwf g' o' n := by
  refine ⟨fun c a b => ?_, fun c a b => ?_⟩
  · rw [e c (by omega) b]; exact h.1 c a b
  · obtain ⟨h1, h2, h3⟩ := h.2 c a b
    rw [e c a (by omega)]
    refine ⟨h1, ?_, h3⟩
    rw [h2]
    by_cases q : 0 < c
    · rw [show o' + c - 1 = o' + (c - 1) by omega, show o + c - 1 = o + (c - 1) by omega, e (c - 1) (by omega) (by omega)]
    · exact ⟨fun x => absurd x.1 q, fun x => absurd x.1 q⟩
theorem zRwf.cut {g : Int → Int} {o n w : Int} (h : zRwf g o n) (hn : 0 < n ∧ n ≤ 24) (hw : 0 < w ∧ w ≤ 24) : zRwf (fun i => if i - o < w then zPt g o w n i else 0) o w := by
  have hG := h.pt (c := w)
  have k0 := zWd_0
  have v0 : zVl 0 := Or.inr (by decide)
  have hT : w < n → zPt g o w n (o + w) ≠ -2 := fun q => by
    unfold zPt
    grind
  have hB : ∀ c, n ≤ c → c < 24 → zPt g o w n (o + c) = 0 := hG.1
  have hA := hG.2
  generalize zPt g o w n = K at *
  refine ⟨fun c a b => ?_, fun c a b => ?_⟩
  · dsimp only
    rw [if_neg (by omega)]
  · dsimp only
    rw [if_pos (by omega)]
    have e1 : o + c - 1 = o + (c - 1) := by omega
    by_cases q : c < n
    · obtain ⟨h1, h2, h3⟩ := hA c a q
      rw [if_pos (by omega)]
      refine ⟨h1, h2, fun z => ?_⟩
      by_cases q2 : c + 1 < w
      · exact q2
      · have q3 := h3 z
        have q4 := (hA (c + 1) (by omega) q3).2.1
        rw [show o + (c + 1) - 1 = o + c by omega] at q4
        have q5 := q4.mpr ⟨by omega, z⟩
        exact absurd (by rw [show w = c + 1 by omega]; exact q5) (hT (by omega))
    · rw [hB c (by omega) (by omega)]
      refine ⟨v0, ⟨fun z => absurd z (by decide), fun z => ?_⟩, fun z => absurd z k0⟩
      rw [if_pos (by omega), e1] at z
      by_cases q2 : c - 1 < n
      · have := (hA (c - 1) (by omega) q2).2.2 z.2
        omega
      · rw [hB (c - 1) (by omega) (by omega)] at z
        exact absurd z.2 k0
theorem zTs_neg {i k : Nat} (h : zTs i k = false) : i ≠ 1 ∧ ¬ (i = 2 ∧ (k = 2 ∨ k = 3)) ∧ ¬ (i = 5 ∧ k = 2) ∧ ¬ (i = 12 ∧ (k = 0 ∨ k = 1 ∨ k = 2)) ∧ ¬ (i = 25 ∧ (k = 0 ∨ k = 1 ∨ k = 2)) ∧ ¬ (i = 22 ∧ (k = 2 ∨ k = 3)) ∧ ¬ (i = 0 ∧ (k = 9 ∨ k = 10 ∨ k = 12 ∨ k = 13)) := by
  unfold zTs at h
  simp only [Bool.or_eq_false_iff, Bool.and_eq_false_iff, beq_eq_false_iff_ne] at h
  omega
/-- OTHER is cut, the region and the tabs anew, the cursor of OTHER -/
def zRest (R w n : Int) (sW : zSt) : Option (Int × zSt) :=
  (f_Pi_cut R w (zsb (zsh 22) sW)).bind fun x2 =>
  (f_Sc_setFirstTabs (if w < n then w else n) (uS (uS (uS (uS (zpb (zsh 22) 3 sW x2.2) 0 9 R) 0 10 w) 0 12 0) 0 13 (w32 (R - 1)))).bind fun x3 =>
  if (x3.2.1 0 8) = 0 then
    some (0, x3.2)
  else
    (f_Cu_goTo (if (w32 ((x3.2.1 0 9) - 1)) < (x3.2.1 12 0) then (w32 ((x3.2.1 0 9) - 1)) else (x3.2.1 12 0)) (if (w32 ((x3.2.1 0 10) - 1)) < (x3.2.1 12 1) then (w32 ((x3.2.1 0 10) - 1)) else (x3.2.1 12 1)) (zsb (zsh 12) x3.2)).bind fun x5 =>
    some (0, (zpb (zsh 12) 1 x3.2 x5.2))
def zs4 (sW : zSt) (R w : Int) (F FG T : Int → Int) : zSt := uA (uS (uS (uS (uS (uS (uS (uA (uA sW 23 F) 24 FG) 22 2 R) 22 3 w) 0 9 R) 0 10 w) 0 12 0) 0 13 (R - 1)) 26 T
theorem zs4_1 (sW : zSt) (R w : Int) (F FG T : Int → Int) (i k : Nat) : (zs4 sW R w F FG T).1 i k = if i = 22 ∧ k = 2 then R else if i = 22 ∧ k = 3 then w else if i = 0 ∧ k = 9 then R else if i = 0 ∧ k = 10 then w else if i = 0 ∧ k = 12 then 0 else if i = 0 ∧ k = 13 then R - 1 else sW.1 i k := by
  simp only [zs4, uA1, uS1]
  grind
theorem zs4_2 (sW : zSt) (R w : Int) (F FG T : Int → Int) (i : Nat) : (zs4 sW R w F FG T).2 i = if i = 26 then T else if i = 24 then FG else if i = 23 then F else sW.2 i := by
  simp only [zs4, uA2, uS2]
theorem c_rest {s r sW : zSt} (h : zRel s r) {R w : Int} (hR : 2 ≤ R ∧ R ≤ 12) (hw : 4 ≤ w ∧ w ≤ 24) (e1 : ∀ i k, (i = 0 ∧ k = 8) ∨ i = 22 ∨ i = 23 ∨ i = 24 ∨ i = 26 → sW.1 i k = s.1 i k) (e2 : ∀ i, 13 ≤ i → sW.2 i = s.2 i) :
    ∃ F FG T, zCutS (s.2 23) F 0 (r.1 0 2) R w ∧ (∀ k, 0 ≤ k → k < 12 → FG k = if k < R - 1 then s.2 24 k else 0) ∧ (∀ i, FG i = 0 ∨ FG i = 1) ∧ (∀ c, T c = if (if w < r.1 0 2 then w else r.1 0 2) ≤ c ∧ c < 24 then zft w c else s.2 26 c) ∧
      zRest R w (r.1 0 2) sW = some (0, if r.1 0 8 = 0 then zs4 sW R w F FG T else uS (uS (uS (zs4 sW R w F FG T) 12 0 (if R - 1 < sW.1 12 0 then R - 1 else sW.1 12 0)) 12 1 (if w - 1 < sW.1 12 1 then w - 1 else sW.1 12 1)) 12 2 0) := by
  obtain ⟨hL, ⟨hZ, hg, hs, hm, hv, hr, hk, hh⟩, p0, p1, xh, xu, xm, xv, xz, xt, xr⟩ := id h
  have hrr := hZ.2.1
  have hcc := hZ.2.2.1
  have hpw := h.pw1
  have hpw' : zPW (zsb (zsh 22) sW) := by
    refine ⟨?_, ?_, ?_, ?_, ?_⟩
    · exact (e1 23 0 (by decide)).trans hpw.1
    · exact (e1 24 0 (by decide)).trans hpw.2.1
    · show 2 ≤ sW.1 22 2 ∧ sW.1 22 2 ≤ 12
      rw [e1 22 2 (by decide)]
      exact hpw.2.2.1
    · show 4 ≤ sW.1 22 3 ∧ sW.1 22 3 ≤ 24
      rw [e1 22 3 (by decide)]
      exact hpw.2.2.2.1
    · intro i
      show sW.2 24 i = 0 ∨ sW.2 24 i = 1
      rw [e2 24 (by decide)]
      exact hpw.2.2.2.2 i
  have r2 : (zsb (zsh 22) sW).1 0 2 = r.1 0 1 := (e1 22 2 (by decide)).trans p1.2.2.2.1
  have r3 : (zsb (zsh 22) sW).1 0 3 = r.1 0 2 := (e1 22 3 (by decide)).trans p1.2.2.2.2.1
  have a1 : (zsb (zsh 22) sW).2 1 = s.2 23 := e2 23 (by decide)
  have a2 : (zsb (zsh 22) sW).2 2 = s.2 24 := e2 24 (by decide)
  obtain ⟨F, FG, c1, c2, c3, c4⟩ := c_Pi_cut (p := zsb (zsh 22) sW) (R := R) (w := w) hpw' hR hw (by
    rw [r2, a1]
    intro k c x y z v
    rw [p1.1 _ (by omega) (by omega)]
    exact hk.2.2 _ (by omega) (by omega)) (by
    rw [r3, a1]
    intro k c x y z v
    rw [p1.1 _ (by omega) (by omega), ← Int.add_assoc]
    exact (hk.2.1 k x y).1 c z v) (by
    rw [r2, r3, a1]
    intro k x y
    exact h.nt1 ⟨x, y⟩) (by
    rw [r2, a2]
    exact p1.2.2.2.2.2)
  rw [r3, a1] at c2
  rw [a2] at c3
  obtain ⟨T, hT⟩ : ∃ T : Int → Int, T = fun c => if (if w < r.1 0 2 then w else r.1 0 2) ≤ c ∧ c < 24 then zft w c else s.2 26 c := ⟨_, rfl⟩
  refine ⟨F, FG, T, c2, c3, c4, fun c => by rw [hT], ?_⟩
  have eR : w32 (R - 1) = R - 1 := w32i (by omega) (by omega)
  have ew : w32 (w - 1) = w - 1 := w32i (by omega) (by omega)
  have z1 : zpb (zsh 22) 3 sW (uS (uS (uB (zsb (zsh 22) sW) F FG) 0 2 R) 0 3 w) = uS (uS (uA (uA sW 23 F) 24 FG) 22 2 R) 22 3 w := by
    unfold uB
    rw [zpb_uS _ _ _ _ _ _ _ (by omega), zpb_uS _ _ _ _ _ _ _ (by omega), zpb_uA _ _ _ _ _ _ (by omega), zpb_uA _ _ _ _ _ _ (by omega), zpb_same]
  have c5 := c_firstTabs (s := uS (uS (uS (uS (uS (uS (uA (uA sW 23 F) 24 FG) 22 2 R) 22 3 w) 0 9 R) 0 10 w) 0 12 0) 0 13 (R - 1)) ((e1 26 0 (by decide)).trans hL.2.1.2.2.2.2.2.2) (a := if w < r.1 0 2 then w else r.1 0 2) (by split <;> omega)
  have z2 : (uA (uS (uS (uS (uS (uS (uS (uA (uA sW 23 F) 24 FG) 22 2 R) 22 3 w) 0 9 R) 0 10 w) 0 12 0) 0 13 (R - 1)) 26 (fun c => if (if w < r.1 0 2 then w else r.1 0 2) ≤ c ∧ c < 24 then zft ((uS (uS (uS (uS (uS (uS (uA (uA sW 23 F) 24 FG) 22 2 R) 22 3 w) 0 9 R) 0 10 w) 0 12 0) 0 13 (R - 1)).1 0 10) c else (uS (uS (uS (uS (uS (uS (uA (uA sW 23 F) 24 FG) 22 2 R) 22 3 w) 0 9 R) 0 10 w) 0 12 0) 0 13 (R - 1)).2 26 c)) = zs4 sW R w F FG T := by
    unfold zs4
    rw [hT]
    congr 1
    funext c
    show (if (if w < r.1 0 2 then w else r.1 0 2) ≤ c ∧ c < 24 then zft w c else sW.2 26 c) = _
    rw [e2 26 (by decide)]
  rw [z2] at c5
  unfold zRest
  refine bindS c1 ?_
  dsimp only
  rw [z1, eR]
  refine bindS c5 ?_
  dsimp only
  have e8 : (zs4 sW R w F FG T).1 0 8 = r.1 0 8 := (e1 0 8 (by decide)).trans h.s8
  rw [e8]
  by_cases q : r.1 0 8 = 0
  · rw [if_pos q, if_pos q]
  · rw [if_neg q, if_neg q, show (zs4 sW R w F FG T).1 0 9 = R from rfl, show (zs4 sW R w F FG T).1 0 10 = w from rfl, eR, ew, show (zs4 sW R w F FG T).1 12 0 = sW.1 12 0 from rfl, show (zs4 sW R w F FG T).1 12 1 = sW.1 12 1 from rfl]
    refine bindS rfl ?_
    congr 2
    rw [zpb_uS _ _ _ _ _ _ _ (by omega), zpb_uS _ _ _ _ _ _ _ (by omega), zpb_uS _ _ _ _ _ _ _ (by omega), zpb_same]
theorem zRa.tb {s r r1 : zSt} (h : zRel s r) {R w m a b o : Int} {A B : Int → Int} (hw : 4 ≤ w ∧ w ≤ 24) (hA : zRa r r1 R w m a b o A B) {T : Int → Int} (hT : ∀ c, T c = if (if w < r.1 0 2 then w else r.1 0 2) ≤ c ∧ c < 24 then zft w c else s.2 26 c) : (∀ i, T i = 0 ∨ T i = 1) ∧ (0 ≤ r1.1 0 15 ∧ r1.1 0 15 < 16777216) ∧ (∀ c, 0 ≤ c → c < 24 → T c = zbit (r1.1 0 15) c) ∧ ∀ c, w ≤ c → c < 24 → T c = 0 := by
  obtain ⟨t1, t2, t3, t4⟩ := h.tb
  have hcc := h.size.2
  obtain ⟨-, -, -, -, -, -, -, -, -, -, -, -, -, -, -, -, x1, x2⟩ := hA
  have zf : ∀ c, zft w c = 0 ∨ zft w c = 1 := fun c => by
    unfold zft
    split
    · exact Or.inl rfl
    · split
      · exact Or.inr rfl
      · exact Or.inl rfl
  refine ⟨fun i => ?_, x1, fun c a b => ?_, fun c a b => ?_⟩
  · rw [hT]
    by_cases q : (if w < r.1 0 2 then w else r.1 0 2) ≤ i ∧ i < 24
    · rw [if_pos q]
      exact zf i
    · rw [if_neg q]
      exact t1 i
  · rw [hT, x2 c a b]
    have e3 : s.2 26 c = zbit (r.1 0 15) c := t3 c a b
    have e4 := t4 c
    unfold zft
    by_cases q1 : r.1 0 2 ≤ c
    · have e5 := e4 q1 b
      rw [e3] at e5
      rw [if_pos (show (if w < r.1 0 2 then w else r.1 0 2) ≤ c ∧ c < 24 by split <;> omega)]
      by_cases q2 : w ≤ c
      · rw [if_pos q2, if_neg (by omega), if_neg (by omega)]
      · rw [if_neg q2]
        by_cases q3 : c % 4 = 0
        · rw [if_pos q3, if_pos (by omega)]
        · rw [if_neg q3, if_neg (by omega), if_pos (by omega), e5]
    · rw [if_neg (show ¬ (r.1 0 2 ≤ c ∧ c < w ∧ c % 4 = 0) by omega)]
      by_cases q2 : w ≤ c
      · rw [if_pos (show (if w < r.1 0 2 then w else r.1 0 2) ≤ c ∧ c < 24 by split <;> omega), if_pos q2, if_neg (by omega)]
      · rw [if_neg (show ¬ ((if w < r.1 0 2 then w else r.1 0 2) ≤ c ∧ c < 24) by split <;> omega), if_pos (by omega)]
        exact e3
  · rw [hT, if_pos (show (if w < r.1 0 2 then w else r.1 0 2) ≤ c ∧ c < 24 by split <;> omega)]
    unfold zft
    rw [if_pos a]
/-- the pictures and the history, laid and cut on both sides -/
theorem zRa.pics {s r r1 : zSt} (h : zRel s r) {R w m a b o u i0 hc : Int} {F S L G A B H HG P PG FF FG : Int → Int} (hR : 2 ≤ R ∧ R ≤ 12) (hw : 4 ≤ w ∧ w ≤ 24) (ho : 1 ≤ o ∧ o ≤ 480) (ha : 0 ≤ a ∧ a < o) (hi0 : i0 = (if zst0 o R a - 40 < 0 then 0 else zst0 o R a - 40)) (hj : zJk R (zst0 o R a) i0 o hc H HG P PG A B) (hq : zLq w u o F S L G A B) (hA : zRa r r1 R w m a b o A B) (hF : zCutS (s.2 23) FF 0 (r.1 0 2) R w) (hFG : ∀ k, 0 ≤ k → k < 12 → FG k = if k < R - 1 then s.2 24 k else 0) :
    hc = r1.1 0 7 ∧ (0 ≤ r1.1 0 7 ∧ r1.1 0 7 ≤ 40) ∧ zRC P (r1.2 1) 0 ∧ zRC FF (r1.2 1) 288 ∧ zKwf (r1.2 1) 0 R w ∧ zKwf (r1.2 1) 288 R w ∧ (∀ i, 0 ≤ i → i < 12 → PG i = r1.2 2 (0 + i)) ∧ (∀ i, 0 ≤ i → i < 12 → FG i = r1.2 2 (12 + i)) ∧ zGb r1 ∧ (∀ k, R ≤ k → k < 12 → PG k = 0) ∧ (∀ k, R ≤ k → k < 12 → FG k = 0) ∧ (∀ i, 0 ≤ i → i < 24 * r1.1 0 7 → H i = r1.2 3 i) ∧ (∀ i, 0 ≤ i → i < r1.1 0 7 → HG i = r1.2 4 i) ∧ (∀ i, r1.2 4 i = 0 ∨ r1.2 4 i = 1) ∧ ∀ k, 0 ≤ k → k < r1.1 0 7 → zRwf (r1.2 3) (k * 24) w := by
  obtain ⟨hL, ⟨hZ, hg, hs, hm, hv, hr, hk, hh⟩, p0, p1, xh, xu, xm, xv, xz, xt, xr⟩ := h
  obtain ⟨j1, j2, j3, j4, j5, j6, j7⟩ := hj
  obtain ⟨-, -, -, -, -, ⟨-, -, -, -, y5⟩, -, -, y8, y9, y9', y10, y11, ⟨K, y12, y13⟩, y14, y15, -⟩ := hA
  have hcc := hZ.2.2.1
  obtain ⟨st, hst⟩ : ∃ z, z = zst0 o R a := ⟨_, rfl⟩
  have hst' : 0 ≤ st ∧ st ≤ a := by rw [hst]; unfold zst0; split <;> split <;> omega
  rw [← hst] at hi0 j1 j4 j5 y5 y8 y9 y10 y11
  have hn : hc = r1.1 0 7 ∧ (0 ≤ r1.1 0 7 ∧ r1.1 0 7 ≤ 40) ∧ i0 = st - r1.1 0 7 := by
    rw [if_neg (by omega)] at j1
    rw [y5]
    split at hi0 <;> split <;> omega
  obtain ⟨n1, n2, n3⟩ := hn
  rw [n1] at j2 j3
  rw [n3] at j2 j3
  have hbool : ∀ i, 0 ≤ i → i < o → B i = 0 ∨ B i = 1 := fun i x y => (hq i x y).2.2.2.1.2
  have hKin : ∀ k c, 0 ≤ k → k < 12 → 0 ≤ c → c < 24 → r1.2 1 (288 + k * 24 + c) = if k < R ∧ c < w then zPt (r.2 1) (288 + k * 24) w (r.1 0 2) (288 + k * 24 + c) else 0 := fun k c x1 x2 x3 x4 => by
    rw [y13 _ (by omega), y12.1 k c x1 x2 x3 x4]
  have hsplit : ∀ i : Int, i = 24 * (i / 24) + i % 24 ∧ 0 ≤ i % 24 ∧ i % 24 < 24 := fun i => by omega
  refine ⟨n1, n2, fun i x1 x2 => ?_, fun i x1 x2 => ?_, ⟨fun k x1 x2 => ?_, fun i x1 x2 => ?_⟩, ⟨fun k x1 x2 => ?_, fun i x1 x2 => ?_⟩, fun i x1 x2 => ?_, fun i x1 x2 => ?_, fun i => ?_, fun k x1 x2 => ?_, fun k x1 x2 => ?_, fun i x1 x2 => ?_, fun i x1 x2 => ?_, fun i => ?_, fun k x1 x2 => ?_⟩
  · obtain ⟨e1, e2, e3⟩ := hsplit i
    rw [Int.zero_add, e1, j4 _ _ (by omega) (by omega) e2 e3, y10 _ _ (by omega) (by omega) e2 e3]
  · obtain ⟨e1, e2, e3⟩ := hsplit i
    have f1 := hF.1 (i / 24) (i % 24) (by omega) (by omega) e2 e3
    have f2 := hKin (i / 24) (i % 24) (by omega) (by omega) e2 e3
    have f3 := (p1.1.pt (r := i / 24) (c := w) (n := r.1 0 2) (by omega) (by omega) hcc.2) i x1 x2
    rw [show 0 + i / 24 * 24 + i % 24 = i by omega, show 0 + i / 24 * 24 = i / 24 * 24 by omega] at f1
    rw [show 288 + i / 24 * 24 + i % 24 = 288 + i by omega] at f2
    rw [f1, f2, f3]
  · by_cases q : k < R ∧ st + k < o
    · refine (hq (st + k) (by omega) q.2).2.2.2.2.sh (fun c c1 c2 => ?_) ⟨by omega, hw.2⟩
      rw [show 0 + k * 24 + c = 24 * k + c by omega, y10 k c x1 x2 c1 c2, if_pos q]
    · refine zRwf_0 (fun c c1 c2 => ?_) ⟨by omega, hw.2⟩
      rw [show 0 + k * 24 + c = 24 * k + c by omega, y10 k c x1 x2 c1 c2, if_neg q]
  · obtain ⟨e1, e2, e3⟩ := hsplit i
    rw [e1, y10 _ _ (by omega) (by omega) e2 e3, if_neg (by omega)]
  · by_cases q : k < R
    · refine ((hk.2.1 k x1 x2).cut ⟨by omega, hcc.2⟩ ⟨by omega, hw.2⟩).sh (fun c c1 c2 => ?_) ⟨by omega, hw.2⟩
      rw [hKin k c x1 x2 c1 c2]
      show _ = if 288 + k * 24 + c - (288 + k * 24) < w then _ else 0
      rw [show 288 + k * 24 + c - (288 + k * 24) = c by omega]
      by_cases q2 : c < w
      · rw [if_pos ⟨q, q2⟩, if_pos q2]
      · rw [if_neg (fun z => q2 z.2), if_neg q2]
    · refine zRwf_0 (fun c c1 c2 => ?_) ⟨by omega, hw.2⟩
      rw [hKin k c x1 x2 c1 c2, if_neg (fun z => q z.1)]
  · have e1 : i = 288 + (i - 288) / 24 * 24 + (i - 288) % 24 := by omega
    rw [e1, hKin _ _ (by omega) (by omega) (by omega) (by omega), if_neg (by omega)]
  · rw [Int.zero_add, j5 i x1 x2, y11 i x1 x2]
  · rw [hFG i x1 x2, y14 i x1 x2, p1.2.1 i x1 x2]
  · by_cases q : 0 ≤ i ∧ i < 12
    · rw [y11 i q.1 q.2]
      split
      · exact hbool _ (by omega) (by omega)
      · exact Or.inl rfl
    · by_cases q2 : 12 ≤ i ∧ i < 24
      · have := y14 (i - 12) (by omega) (by omega)
        rw [show 12 + (i - 12) = i by omega] at this
        rw [this]
        split
        · exact hg i
        · exact Or.inl rfl
      · rw [y15 i (by omega)]
        exact hg i
  · rw [j5 k (by omega) x2, if_neg (by omega)]
  · rw [hFG k (by omega) x2, if_neg (by omega)]
  · obtain ⟨e1, e2, e3⟩ := hsplit i
    rw [e1, j2 _ _ (by omega) (by omega) e2 e3, y8 _ _ (by omega) (by omega) e2 e3]
  · rw [j3 i x1 x2, y9 i x1 x2]
  · by_cases q : 0 ≤ i ∧ i < r1.1 0 7
    · rw [y9 i q.1 q.2]
      exact hbool _ (by omega) (by omega)
    · rw [y9' i q]
      exact hh.1 i
  · refine (hq (st - r1.1 0 7 + k) (by omega) (by omega)).2.2.2.2.sh (fun c c1 c2 => ?_) ⟨by omega, hw.2⟩
    rw [show k * 24 + c = 24 * k + c by omega, y8 k c x1 x2 c1 c2]
