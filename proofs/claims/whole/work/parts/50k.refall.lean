/-! ===== the reference changes its size ===== -/
theorem c_laysTabs2 {r : zSt} {a : Int} (ha : 0 ≤ a ∧ a ≤ 24) (hn : 4 ≤ r.1 0 2 ∧ r.1 0 2 ≤ 24) (hx : 0 ≤ r.1 0 15 ∧ r.1 0 15 < 16777216) : ∃ x, f_Rf_laysTabs a r = some (0, uS r 0 15 x) ∧ (0 ≤ x ∧ x < 16777216) ∧ ∀ c, 0 ≤ c → c < 24 → zbit x c = if a ≤ c ∧ c < r.1 0 2 ∧ c % 4 = 0 then 1 else zbit (r.1 0 15) c := by
  by_cases q : a ≤ r.1 0 2
  · exact c_laysTabs ⟨ha.1, q⟩ hn.2 hx
  · refine ⟨r.1 0 15, ?_, hx, fun c x y => by rw [if_neg (by omega)]⟩
    rw [uS_id]
    unfold f_Rf_laysTabs
    refine bindS (x := r) ?_ rfl
    show zloop f_Rf_laysTabs_l2 (999999 + 1) (a, r) = some r
    unfold zloop f_Rf_laysTabs_l2
    rw [if_pos (show r.1 0 2 ≤ a by omega)]
    rfl
theorem zdivrem {a b : Int} (ha : 0 ≤ a ∧ a ≤ 480) (hb : 0 ≤ b ∧ b < 24) : wDiv (24 * a + b) 24 = a ∧ wRem (24 * a + b) 24 = b := by
  rw [wDiv_e (by omega) (by decide), wRem_e (by omega) (by decide)]
  omega
theorem zS7 {q : zSt} {a b c d e f g x : Int} {F : Int → Int} {k : Nat} (hk : ¬ (k = 9 ∨ k = 10 ∨ k = 1 ∨ k = 2 ∨ k = 13 ∨ k = 14 ∨ k = 15)) : (uA (uS (uS (uS (uS (uS (uS (uS (uS q 0 9 a) 0 10 b) 0 1 c) 0 2 d) 0 13 e) 0 14 f) 0 15 g) 0 15 x) 12 F).1 0 k = q.1 0 k := by
  simp only [uA1, uS1]
  grind
def zrw (r : zSt) (m a st R : Int) : Int := if m = 0 then (if r.1 0 9 < R - 1 then r.1 0 9 else R - 1) else a - st
def zrc (r : zSt) (m b w : Int) : Int := if m = 0 then (if r.1 0 10 < w - 1 then r.1 0 10 else w - 1) else b
/-- what the reference has behind it -/
def zRa (r r1 : zSt) (R w m a b o : Int) (A B : Int → Int) : Prop :=
  (∀ k, zTk k = false → r1.1 0 k = r.1 0 k) ∧ r1.1 0 0 = r.1 0 0 ∧ (∀ i, i ≠ 0 → r1.1 i = r.1 i) ∧ (∀ i, zTb2 i = false → r1.2 i = r.2 i) ∧ (∀ i, 0 ≤ i → i < 288 → r1.2 12 i = 0) ∧
  (r1.1 0 1 = R ∧ r1.1 0 2 = w ∧ r1.1 0 13 = 0 ∧ r1.1 0 14 = R - 1 ∧ r1.1 0 7 = (if zst0 o R a < 40 then zst0 o R a else 40)) ∧
  (r1.1 0 9 = zrw r m a (zst0 o R a) R ∧ r1.1 0 10 = zrc r m b w ∧ r1.1 0 11 = (if m = 0 then 0 else if r.1 0 11 = 0 then 0 else if ¬ b = w - 1 then 0 else 1)) ∧
  (r1.1 0 23 = (if m = 0 then 1 else r.1 0 23) ∧ r1.1 0 24 = (if m = 0 then a - zst0 o R a else r.1 0 24) ∧ r1.1 0 25 = (if m = 0 then b else r.1 0 25) ∧ r1.1 0 26 = (if m = 0 then (if r.1 0 26 = 0 then 0 else if ¬ b = w - 1 then 0 else 1) else r.1 0 26)) ∧
  (∀ k c, 0 ≤ k → k < r1.1 0 7 → 0 ≤ c → c < 24 → r1.2 3 (24 * k + c) = A (24 * (zst0 o R a - r1.1 0 7 + k) + c)) ∧ (∀ k, 0 ≤ k → k < r1.1 0 7 → r1.2 4 k = B (zst0 o R a - r1.1 0 7 + k)) ∧ (∀ k, ¬ (0 ≤ k ∧ k < r1.1 0 7) → r1.2 4 k = r.2 4 k) ∧
  (∀ k c, 0 ≤ k → k < 12 → 0 ≤ c → c < 24 → r1.2 1 (24 * k + c) = if k < R ∧ zst0 o R a + k < o then A (24 * (zst0 o R a + k) + c) else 0) ∧ (∀ k, 0 ≤ k → k < 12 → r1.2 2 k = if zst0 o R a + k < o ∧ k < R - 1 then B (zst0 o R a + k) else 0) ∧
  (∃ K, zCutS (r.2 1) K 288 (r.1 0 2) R w ∧ ∀ i, i < 0 ∨ 288 ≤ i → r1.2 1 i = K i) ∧ (∀ k, 0 ≤ k → k < 12 → r1.2 2 (12 + k) = if k < R - 1 then r.2 2 (12 + k) else 0) ∧ (∀ k, k < 0 ∨ 24 ≤ k → r1.2 2 k = r.2 2 k) ∧
  ((0 ≤ r1.1 0 15 ∧ r1.1 0 15 < 16777216) ∧ ∀ c, 0 ≤ c → c < 24 → zbit (r1.1 0 15) c = if r.1 0 2 ≤ c ∧ c < w ∧ c % 4 = 0 then 1 else if c < w then zbit (r.1 0 15) c else 0)
theorem R_j123 {r : zSt} {R w m cr0 cc pl a b u o : Int} {F S L G A B : Int → Int} (hZ : zRZ r) (hg : zGb r) (hk : zKwf (r.2 1) 288 (r.1 0 1) (r.1 0 2)) (ht : 0 ≤ r.1 0 15 ∧ r.1 0 15 < 16777216) (hrow : 0 ≤ r.1 0 9 ∧ r.1 0 9 < 12) (hcol : 0 ≤ r.1 0 10 ∧ r.1 0 10 < 24) (hR : 2 ≤ R ∧ R ≤ 12) (hw : 4 ≤ w ∧ w ≤ 24)
    (he : f_Rf_lays cr0 cc w r = some (pl, uS (zTr r A B) 0 58 o)) (hpl : pl = 24 * a + b ∧ (0 ≤ a ∧ a < o) ∧ 0 ≤ b ∧ b < w) (ho : 1 ≤ o ∧ o ≤ 480) (hq : zLq w u o F S L G A B) (hm : m = 0 ∨ m = 1) :
    ∃ n r1, f_Rf_size_j123 R w m cr0 cc r = some (n, r1) ∧ n = r1.1 0 7 ∧ zRa r r1 R w m a b o A B := by
  have hL := hZ.1
  have hB : ∀ i, 0 ≤ i → i < o → B i = 0 ∨ B i = 1 := fun i x y => (hq i x y).2.2.2.1.2
  obtain ⟨K, KG, c1, c2, c3, c4⟩ := c_cutsOther (s := uS (zTr r A B) 0 58 o) hZ hg (fun i x y => hk.2 i x (by omega)) hR hw
  obtain ⟨st, hst⟩ : ∃ z, z = zst0 o R a := ⟨_, rfl⟩
  have hst' : 0 ≤ st ∧ st ≤ a := by rw [hst]; unfold zst0; split <;> split <;> omega
  obtain ⟨n, hn⟩ : ∃ n, n = (if st < 40 then st else 40) := ⟨_, rfl⟩
  have hn' : 0 ≤ n ∧ n ≤ 40 ∧ n ≤ st := by rw [hn]; split <;> omega
  obtain ⟨dv, rm⟩ := zdivrem (a := a) (b := b) (by omega) (by omega)
  rw [← hpl.1] at dv rm
  obtain ⟨H, HG, d1, d2, d3, d4⟩ := c_189 (q := uS (uB (uS (zTr r A B) 0 58 o) K KG) 0 7 n) (R := R) (w := w) (v3 := m) (pl := pl) (start := st) (n := n) hL.2.2.2.2.2.2.2.2.2.2.2.2.2.1 hL.2.2.2.2.2.2.2.2.2.2.2.2.2.2 hL.2.2.1 hL.2.2.2.1 rfl ⟨hn'.1, hn'.2.1⟩ ⟨hn'.2.2, by omega⟩ (fun i x y => hB i x (by omega))
  obtain ⟨K2, KG2, f1, f2, f3, f4, f5⟩ := c_279 (q := uA (uA (uS (uB (uS (zTr r A B) 0 58 o) K KG) 0 7 n) 3 H) 4 HG) (R := R) (w := w) (v3 := m) (pl := pl) (start := st) (o := o) hL.2.2.2.2.2.2.2.2.2.2.2.2.2.1 hL.2.2.2.2.2.2.2.2.2.2.2.2.2.2 hL.1 hL.2.1 rfl hR ⟨hst'.1, by omega⟩ ho.2 hB
  obtain ⟨q2, hq2⟩ : ∃ q, q = uB (uA (uA (uS (uB (uS (zTr r A B) 0 58 o) K KG) 0 7 n) 3 H) 4 HG) K2 KG2 := ⟨_, rfl⟩
  rw [← hq2] at f1
  have eR : w32 (R - 1) = R - 1 := w32i (by omega) (by omega)
  have ew : w32 (w - 1) = w - 1 := w32i (by omega) (by omega)
  have eo : w32 (o - R) = o - R := w32i (by omega) (by omega)
  have es : w32 (a - st) = a - st := w32i (by omega) (by omega)
  have l1 : f_Rf_lesser (if 0 ≤ o - R then o - R else 0) a = some st := by
    rw [c_lesser, hst]
    unfold zst0
    grind
  have l2 : f_Rf_lesser st 40 = some n := by rw [c_lesser, hn]
  -- late, and what is saved
  obtain ⟨lt, hlt⟩ : ∃ z, z = (if m = 0 then (0 : Int) else if r.1 0 11 = 0 then 0 else if ¬ b = w - 1 then 0 else 1) := ⟨_, rfl⟩
  have q211 : q2.1 0 11 = r.1 0 11 := by rw [hq2]; rfl
  have q226 : q2.1 0 26 = r.1 0 26 := by rw [hq2]; rfl
  have q29 : q2.1 0 9 = r.1 0 9 := by rw [hq2]; rfl
  have q210 : q2.1 0 10 = r.1 0 10 := by rw [hq2]; rfl
  have q202 : q2.1 0 2 = r.1 0 2 := by rw [hq2]; rfl
  have q215 : q2.1 0 15 = r.1 0 15 := by rw [hq2]; rfl
  have q12 : q2.1 12 0 = 288 := by rw [hq2]; exact hL.2.2.2.2.2.2.2.2.2.2.2.1
  have q2f : ∀ k, k ≠ 7 → k ≠ 58 → q2.1 0 k = r.1 0 k := fun k x y => by
    rw [hq2]
    simp only [uB1, uA1, uS1, zTr]
    grind
  have q2f' : ∀ i, i ≠ 0 → q2.1 i = r.1 i := fun i x => by
    rw [hq2]
    funext k
    simp only [uB1, uA1, uS1, zTr]
    grind
  have q27 : q2.1 0 7 = n := by rw [hq2]; rfl
  have q2a : ∀ i, i = 0 ∨ (5 ≤ i ∧ i ≤ 13) ∨ 16 ≤ i → q2.2 i = r.2 i := fun i x => by
    rw [hq2]
    simp only [uB, uA2, uS2, zTr]
    grind
  obtain ⟨q3, hq3⟩ : ∃ q, q = (if m = 0 then uS (uS (uS (uS (uS q2 0 11 lt) 0 24 (a - st)) 0 25 b) 0 26 (if r.1 0 26 = 0 then 0 else if ¬ b = w - 1 then 0 else 1)) 0 23 1 else uS q2 0 11 lt) := ⟨_, rfl⟩
  have q3f : ∀ k, k ≠ 11 → k ≠ 23 → k ≠ 24 → k ≠ 25 → k ≠ 26 → q3.1 0 k = q2.1 0 k := fun k a b c d e => by
    rw [hq3]
    split
    · simp only [uS1]; grind
    · simp only [uS1]; grind
  have q3f' : ∀ i, i ≠ 0 → q3.1 i = q2.1 i := fun i x => by
    rw [hq3]
    funext k
    split
    · simp only [uS1]; grind
    · simp only [uS1]; grind
  have q3a : q3.2 = q2.2 := by
    rw [hq3]
    split <;> rfl
  obtain ⟨q4, hq4⟩ : ∃ q, q = uS (uS (uS (uS (uS (uS (uS q3 0 9 (zrw r m a st R)) 0 10 (zrc r m b w)) 0 1 R) 0 2 w) 0 13 0) 0 14 (R - 1)) 0 15 (wAnd (r.1 0 15) (((2 ^ w.toNat : Nat) : Int) - 1)) := ⟨_, rfl⟩
  have hwb : ((2 ^ w.toNat : Nat) : Int) ≤ 16777216 := by
    have : 2 ^ w.toNat ≤ 2 ^ 24 := Nat.pow_le_pow_right (by decide) (by omega)
    have e : (2 : Nat) ^ 24 = 16777216 := by decide
    omega
  have hwb0 : 0 ≤ ((2 ^ w.toNat : Nat) : Int) := Int.natCast_nonneg _
  have esh : w32 (wShl 1 w - 1) = ((2 ^ w.toNat : Nat) : Int) - 1 := by
    rw [wShl_1 (by omega)]
    exact w32i (by omega) (by omega)
  have hlow := fun c (h0 : 0 ≤ c) (h1 : c < 24) => zbit_low (x := r.1 0 15) (c := w) (d := c) ht ⟨by omega, hw.2⟩ ⟨h0, h1⟩
  obtain ⟨x, t1, t2, t3⟩ := c_laysTabs2 (r := q4) (a := r.1 0 2) ⟨by have := hZ.2.2.1; omega, hZ.2.2.1.2⟩ (by rw [hq4]; exact hw) (by rw [hq4]; exact ⟨(hlow 0 (by decide) (by decide)).2.1, (hlow 0 (by decide) (by decide)).2.2⟩)
  have h608 := c_608 (q := uS q4 0 15 x) (by rw [hq4]; show q3.1 12 0 = 288; rw [q3f' 12 (by decide)]; exact q12)
  have ep : wShl 1 w - 1 = wShl 1 w - 1 := rfl
  refine ⟨n, uA (uS q4 0 15 x) 12 (zFl ((uS q4 0 15 x).2 12) 0 288 0), ?_, ?_, ?_⟩
  · unfold f_Rf_size_j123
    refine bindS he (bindS c1 ?_)
    dsimp only
    rw [show (uB (uS (zTr r A B) 0 58 o) K KG).1 0 58 = o from rfl, eo, dv]
    refine bindS l1 (bindS l2 (bindS d1 (bindS f1 ?_)))
    rw [q211, q226, rm, ew, es, ← hlt]
    have j548 : ∀ k0 q5, uS q5 0 10 k0 = uS (uS q3 0 9 (zrw r m a st R)) 0 10 (zrc r m b w) → q5.1 0 2 = r.1 0 2 → q5.1 0 15 = r.1 0 15 → f_Rf_size_j548 R w k0 q5 = some (n, uA (uS q4 0 15 x) 12 (zFl ((uS q4 0 15 x).2 12) 0 288 0)) := by
      intro k0 q5 e5 e52 e515
      unfold f_Rf_size_j548
      rw [e52, e515, esh, eR, e5, ← hq4]
      refine bindS t1 (bindS h608 ?_)
      congr 2
      show q4.1 0 7 = n
      rw [hq4]
      show q3.1 0 7 = n
      rw [q3f 7 (by decide) (by decide) (by decide) (by decide) (by decide), q27]
    have j496 : f_Rf_size_j496 R w m pl st q3 = some (n, uA (uS q4 0 15 x) 12 (zFl ((uS q4 0 15 x).2 12) 0 288 0)) := by
      unfold f_Rf_size_j496 f_Rf_size_j522
      have e9 : q3.1 0 9 = r.1 0 9 := (q3f 9 (by decide) (by decide) (by decide) (by decide) (by decide)).trans q29
      have e10 : q3.1 0 10 = r.1 0 10 := (q3f 10 (by decide) (by decide) (by decide) (by decide) (by decide)).trans q210
      have e2 : q3.1 0 2 = r.1 0 2 := (q3f 2 (by decide) (by decide) (by decide) (by decide) (by decide)).trans q202
      have e15 : q3.1 0 15 = r.1 0 15 := (q3f 15 (by decide) (by decide) (by decide) (by decide) (by decide)).trans q215
      rw [eR, ew, rm, dv, es, e9]
      by_cases z : m = 0
      · refine iteT z (bindS (c_lesser _ _) (iteT z ?_))
        rw [e10]
        refine bindS (c_lesser _ _) (j548 _ _ ?_ e2 e15)
        unfold zrw zrc
        rw [if_pos z, if_pos z]
      · refine iteF z (iteF z (j548 _ _ ?_ e2 e15))
        unfold zrw zrc
        rw [if_neg z, if_neg z]
    by_cases z : m = 0
    · rw [if_neg (by simpa using z)]
      rw [if_pos z] at hq3
      rw [← hq3]
      exact j496
    · rw [if_pos z]
      rw [if_neg z] at hq3
      rw [← hq3]
      exact j496
  · show n = q4.1 0 7
    rw [hq4]
    show n = q3.1 0 7
    rw [q3f 7 (by decide) (by decide) (by decide) (by decide) (by decide), q27]
  · have r17 : (uA (uS q4 0 15 x) 12 (zFl ((uS q4 0 15 x).2 12) 0 288 0)).1 0 7 = n := by
      show q4.1 0 7 = n
      rw [hq4]
      show q3.1 0 7 = n
      rw [q3f 7 (by decide) (by decide) (by decide) (by decide) (by decide), q27]
    have rA : ∀ i, i ≠ 12 → (uA (uS q4 0 15 x) 12 (zFl ((uS q4 0 15 x).2 12) 0 288 0)).2 i = q2.2 i := fun i y => by
      rw [uA2, if_neg y, uS2, hq4]
      show q3.2 i = _
      rw [q3a]
    have r23 : ∀ k, k = 23 ∨ k = 24 ∨ k = 25 ∨ k = 26 ∨ k = 11 → (uA (uS q4 0 15 x) 12 (zFl ((uS q4 0 15 x).2 12) 0 288 0)).1 0 k = q3.1 0 k := fun k y => by
      rw [hq4]
      exact zS7 (by omega)
    unfold zRa
    rw [← hst, r17]
    refine ⟨fun k y => ?_, ?_, fun i y => ?_, fun i y => ?_, fun i y z => ?_, ⟨?_, ?_, ?_, ?_, hn⟩, ⟨?_, ?_, ?_⟩, ⟨?_, ?_, ?_, ?_⟩, ?_, ?_, ?_, ?_, ?_, ⟨K, c2, fun i y => ?_⟩, fun k y z => ?_, fun k y => ?_, ⟨t2, fun c y z => ?_⟩⟩
    · have hk : ¬ (k = 0 ∨ k = 1 ∨ k = 2 ∨ k = 7 ∨ k = 9 ∨ k = 10 ∨ k = 11 ∨ k = 13 ∨ k = 14 ∨ k = 15 ∨ k = 23 ∨ k = 24 ∨ k = 25 ∨ k = 26 ∨ k = 58) := by
        intro e
        rcases e with rfl | rfl | rfl | rfl | rfl | rfl | rfl | rfl | rfl | rfl | rfl | rfl | rfl | rfl | rfl <;> cases y
      rw [← q2f k (by omega) (by omega), ← q3f k (by omega) (by omega) (by omega) (by omega) (by omega), hq4]
      exact zS7 (by omega)
    · rw [← q2f 0 (by decide) (by decide), ← q3f 0 (by decide) (by decide) (by decide) (by decide) (by decide), hq4]
      rfl
    · rw [← q2f' i y, ← q3f' i y, hq4]
      funext k
      simp only [uA1, uS1]
      grind
    · have hk : ¬ (i = 1 ∨ i = 2 ∨ i = 3 ∨ i = 4 ∨ i = 12 ∨ i = 14 ∨ i = 15) := by
        intro e
        rcases e with rfl | rfl | rfl | rfl | rfl | rfl | rfl <;> cases y
      rw [rA i (by omega), q2a i (by omega)]
    · show zFl _ 0 288 0 i = 0
      unfold zFl
      rw [if_pos (by omega)]
    · rw [hq4]; rfl
    · rw [hq4]; rfl
    · rw [hq4]; rfl
    · rw [hq4]; rfl
    · rw [hq4]; rfl
    · rw [hq4]; rfl
    · rw [r23 11 (by decide), hq3, ← hlt]
      split <;> rfl
    · rw [r23 23 (by decide), hq3]
      by_cases z : m = 0
      · rw [if_pos z, if_pos z]; rfl
      · rw [if_neg z, if_neg z]; exact q2f 23 (by decide) (by decide)
    · rw [r23 24 (by decide), hq3]
      by_cases z : m = 0
      · rw [if_pos z, if_pos z]; rfl
      · rw [if_neg z, if_neg z]; exact q2f 24 (by decide) (by decide)
    · rw [r23 25 (by decide), hq3]
      by_cases z : m = 0
      · rw [if_pos z, if_pos z]; rfl
      · rw [if_neg z, if_neg z]; exact q2f 25 (by decide) (by decide)
    · rw [r23 26 (by decide), hq3]
      by_cases z : m = 0
      · rw [if_pos z, if_pos z]; rfl
      · rw [if_neg z, if_neg z]; exact q2f 26 (by decide) (by decide)
    · rw [rA 3 (by decide), hq2]; exact d2
    · rw [rA 4 (by decide), hq2]; exact d3
    · rw [rA 4 (by decide), hq2]; exact d4
    · rw [rA 1 (by decide), hq2]; exact f2
    · rw [rA 2 (by decide), hq2]; exact f4
    · rw [rA 1 (by decide), hq2]; exact f3 i y
    · rw [rA 2 (by decide), hq2]
      have e1 : KG2 (12 + k) = KG (12 + k) := f5 (12 + k) (by omega)
      have e2 : KG (12 + k) = if k < R - 1 then r.2 2 (12 + k) else 0 := c3 k y z
      exact e1.trans e2
    · rw [rA 2 (by decide), hq2]
      have e1 : KG2 k = KG k := f5 k (by omega)
      have e2 : KG k = r.2 2 k := c4 k (by omega)
      exact e1.trans e2
    · show zbit x c = _
      rw [t3 c y z, show q4.1 0 2 = w by rw [hq4]; rfl, show q4.1 0 15 = wAnd (r.1 0 15) (((2 ^ w.toNat : Nat) : Int) - 1) by rw [hq4]; rfl, (hlow c y z).1]
