/-! ===== the reference's copies when the size changes ===== -/
section ZSZ
variable {q : zSt} {R w v3 pl start n o : Int} {A B : Int → Int}
theorem c_201 (h14 : q.1 14 0 = 12000) (h3 : q.1 3 0 = 960) (h7 : q.1 0 7 = n) (hn : 0 ≤ n ∧ n ≤ 40) (hs : n ≤ start ∧ start ≤ 480) {k : Int} (hk : 0 ≤ k ∧ k < n) (H : Int → Int) :
    zloop (f_Rf_size_l201 R w v3 pl start k) zfu (0, uA q 3 H) = some (uA q 3 (zRw H (24 * k) (q.2 14) (24 * (start - n + k)) 24)) := by
  have hl := zloop_up (step := f_Rf_size_l201 R w v3 pl start k) (r := uA q 3 (zRw H (24 * k) (q.2 14) (24 * (start - n + k)) 24)) 24 (n := zfu) (fun j => ((j : Int), uA q 3 (zRw H (24 * k) (q.2 14) (24 * (start - n + k)) (j : Int)))) (fun j hj => ?_) ?_ ?_
  · simp only [Int.natCast_zero, zRw_0] at hl
    exact hl
  · have e1 : w32 (w32 (24 * w32 (w32 (start - n) + k)) + (j : Int)) = 24 * (start - n + k) + j := by
      rw [w32i (x := start - n) (by omega) (by omega), w32i (x := start - n + k) (by omega) (by omega), w32i (x := 24 * (start - n + k)) (by omega) (by omega), w32i (by omega) (by omega)]
    have e2 : w32 (w32 (24 * k) + (j : Int)) = 24 * k + j := by rw [w32i (x := 24 * k) (by omega) (by omega), w32i (by omega) (by omega)]
    unfold f_Rf_size_l201
    refine iteF (by show ¬ (24 : Int) ≤ (j : Int); omega) ?_
    dsimp only
    rw [show (uA q 3 (zRw H (24 * k) (q.2 14) (24 * (start - n + k)) (j : Int))).1 0 7 = n from h7, e1, e2]
    refine iteT ⟨by omega, by show _ < q.1 14 0; omega⟩ (iteT ⟨by omega, by show _ < q.1 3 0; omega⟩ ?_)
    refine stepE (by rw [w32i] <;> omega) (fun i => ?_)
    show zup (zRw H (24 * k) (q.2 14) (24 * (start - n + k)) (j : Int)) (24 * k + (j : Int)) (q.2 14 (24 * (start - n + k) + (j : Int))) i = _
    rw [zRw_s _ _ _ _ (by omega)]
    rfl
  · rfl
  · unfold zfu; omega
theorem c_189 (h14 : q.1 14 0 = 12000) (h15 : q.1 15 0 = 500) (h3 : q.1 3 0 = 960) (h4 : q.1 4 0 = 40) (h7 : q.1 0 7 = n) (hn : 0 ≤ n ∧ n ≤ 40) (hs : n ≤ start ∧ start ≤ 480) (hB : ∀ i, 0 ≤ i → i < start → q.2 15 i = 0 ∨ q.2 15 i = 1) :
    ∃ H HG, zloop (f_Rf_size_l189 R w v3 pl start) zfu (0, q) = some (uA (uA q 3 H) 4 HG) ∧ (∀ k c, 0 ≤ k → k < n → 0 ≤ c → c < 24 → H (24 * k + c) = q.2 14 (24 * (start - n + k) + c)) ∧ (∀ k, 0 ≤ k → k < n → HG k = q.2 15 (start - n + k)) ∧ ∀ k, ¬ (0 ≤ k ∧ k < n) → HG k = q.2 4 k := by
  have hz := zH_loop (step := f_Rf_size_l189 R w v3 pl start) (Q := fun s => ∃ H HG, s = uA (uA q 3 H) 4 HG ∧ (∀ k c, 0 ≤ k → k < n → 0 ≤ c → c < 24 → H (24 * k + c) = q.2 14 (24 * (start - n + k) + c)) ∧ (∀ k, 0 ≤ k → k < n → HG k = q.2 15 (start - n + k)) ∧ ∀ k, ¬ (0 ≤ k ∧ k < n) → HG k = q.2 4 k)
    (fun X => ∃ H HG, X = (X.1, uA (uA q 3 H) 4 HG) ∧ (0 ≤ X.1 ∧ X.1 ≤ n) ∧ (∀ k c, 0 ≤ k → k < X.1 → 0 ≤ c → c < 24 → H (24 * k + c) = q.2 14 (24 * (start - n + k) + c)) ∧ (∀ k, 0 ≤ k → k < X.1 → HG k = q.2 15 (start - n + k)) ∧ ∀ k, ¬ (0 ≤ k ∧ k < X.1) → HG k = q.2 4 k) (fun X => (n - X.1).toNat) (fun X hX => ?_) (n := zfu) (x := (0, q))
    ⟨q.2 3, q.2 4, ?_, ⟨Int.le_refl _, hn.1⟩, fun k c a b => by dsimp only at b; omega, fun k a b => by dsimp only at b; omega, fun _ _ => rfl⟩ (by show (n - 0).toNat < zfu; unfold zfu; omega)
  · obtain ⟨s, e1, H, HG, rfl, e2, e3, e4⟩ := hz
    exact ⟨H, HG, e1, e2, e3, e4⟩
  · obtain ⟨i, X2⟩ := X
    obtain ⟨H, HG, hX1, hX2, hX3, hX4, hX5⟩ := hX
    dsimp only at hX1 hX2 hX3 hX4 hX5
    obtain rfl : X2 = uA (uA q 3 H) 4 HG := (Prod.mk.inj hX1).2
    by_cases z : n ≤ i
    · have eo : i = n := by omega
      subst eo
      exact ⟨.inr _, iteT (by show q.1 0 7 ≤ i; omega) rfl, H, HG, rfl, hX3, hX4, hX5⟩
    · have e0 : uA (uA q 3 H) 4 HG = uA (uA q 4 HG) 3 H := by
        refine zst_ext (fun _ _ => rfl) (fun j => ?_)
        simp only [uA2]
        grind
      have e0' : ∀ H', uA (uA q 4 HG) 3 H' = uA (uA q 3 H') 4 HG := fun H' => by
        refine zst_ext (fun _ _ => rfl) (fun j => ?_)
        simp only [uA2]
        grind
      have e1 := c_201 (q := uA q 4 HG) (R := R) (w := w) (v3 := v3) (pl := pl) (start := start) h14 h3 h7 hn hs (k := i) ⟨hX2.1, by omega⟩ H
      have ew : w32 (w32 (start - n) + i) = start - n + i := by rw [w32i (x := start - n) (by omega) (by omega), w32i (by omega) (by omega)]
      have hb := hB (start - n + i) (by omega) (by omega)
      refine ⟨.inl (i + 1, uA (uA q 3 (zRw H (24 * i) (q.2 14) (24 * (start - n + i)) 24)) 4 (zup HG i (q.2 15 (start - n + i)))), ?_, ⟨_, _, rfl, ⟨by show 0 ≤ i + 1; omega, by show i + 1 ≤ n; omega⟩, fun k c a b d e => ?_, fun k a b => ?_, fun k a => ?_⟩, ?_⟩
      · unfold f_Rf_size_l189
        refine iteF (by show ¬ q.1 0 7 ≤ i; omega) ?_
        dsimp only
        rw [e0]
        refine bindS e1 ?_
        rw [e0']
        rw [show (uA (uA q 3 (zRw H (24 * i) ((uA q 4 HG).2 14) (24 * (start - n + i)) 24)) 4 HG).1 0 7 = n from h7, ew]
        refine iteT ⟨by omega, by show _ < q.1 15 0; omega⟩ (iteT ⟨⟨hX2.1, by show _ < q.1 4 0; omega⟩, hb⟩ ?_)
        rw [w32i (by omega) (by omega)]
        refine inl2 rfl ?_
        unfold uE
        rw [uA_uA]
        rfl
      · unfold zRw
        by_cases y : k = i
        · rw [if_pos (by omega), y, show 24 * (start - n + i) + (24 * i + c - 24 * i) = 24 * (start - n + i) + c by omega]
        · rw [if_neg (by omega)]
          exact hX3 k c a (by dsimp only at b; omega) d e
      · unfold zup
        by_cases y : k = i
        · rw [if_pos y, y]
        · rw [if_neg y]
          exact hX4 k a (by dsimp only at b; omega)
      · dsimp only at a
        unfold zup
        rw [if_neg (by omega)]
        exact hX5 k (by omega)
      · show (n - (i + 1)).toNat < (n - i).toNat
        omega
  · show (0, q) = (0, uA (uA q 3 (q.2 3)) 4 (q.2 4))
    rw [uA_id, uA_id]
theorem c_314 (h14 : q.1 14 0 = 12000) (h1 : q.1 1 0 = 576) (hs : 0 ≤ start ∧ start ≤ 480) {k c9 : Int} (hk : 0 ≤ k ∧ k < 12) (K : Int → Int) :
    zloop (f_Rf_size_l314 R w v3 pl start k c9) zfu (0, uA q 1 K) = some (uA q 1 (if c9 = 0 then zFl K (24 * k) (24 * k + 24) 0 else zRw K (24 * k) (q.2 14) (24 * (start + k)) 24)) := by
  by_cases z : c9 = 0
  · rw [if_pos z]
    have hl := zloop_up (step := f_Rf_size_l314 R w v3 pl start k c9) (r := uA q 1 (zFl K (24 * k) (24 * k + 24) 0)) 24 (n := zfu) (fun j => ((j : Int), uA q 1 (zFl K (24 * k) (24 * k + (j : Int)) 0))) (fun j hj => ?_) ?_ ?_
    · simp only [Int.natCast_zero, Int.add_zero, zFl_self] at hl
      exact hl
    · have e2 : w32 (w32 (24 * k) + (j : Int)) = 24 * k + j := by rw [w32i (x := 24 * k) (by omega) (by omega), w32i (by omega) (by omega)]
      unfold f_Rf_size_l314
      refine iteF (by show ¬ (24 : Int) ≤ (j : Int); omega) (iteT z ?_)
      dsimp only
      rw [e2]
      refine iteT ⟨by omega, by show _ < q.1 1 0; omega⟩ ?_
      refine stepE (by rw [w32i] <;> omega) (fun i => ?_)
      rw [zup_zFl (by omega), show 24 * k + (j : Int) + 1 = 24 * k + ((j + 1 : Nat) : Int) by omega]
    · rfl
    · unfold zfu; omega
  · rw [if_neg z]
    have hl := zloop_up (step := f_Rf_size_l314 R w v3 pl start k c9) (r := uA q 1 (zRw K (24 * k) (q.2 14) (24 * (start + k)) 24)) 24 (n := zfu) (fun j => ((j : Int), uA q 1 (zRw K (24 * k) (q.2 14) (24 * (start + k)) (j : Int)))) (fun j hj => ?_) ?_ ?_
    · simp only [Int.natCast_zero, zRw_0] at hl
      exact hl
    · have e1 : w32 (w32 (24 * w32 (start + k)) + (j : Int)) = 24 * (start + k) + j := by
        rw [w32i (x := start + k) (by omega) (by omega), w32i (x := 24 * (start + k)) (by omega) (by omega), w32i (by omega) (by omega)]
      have e2 : w32 (w32 (24 * k) + (j : Int)) = 24 * k + j := by rw [w32i (x := 24 * k) (by omega) (by omega), w32i (by omega) (by omega)]
      unfold f_Rf_size_l314
      refine iteF (by show ¬ (24 : Int) ≤ (j : Int); omega) (iteF z ?_)
      dsimp only
      rw [e1, e2]
      refine iteT ⟨by omega, by show _ < q.1 14 0; omega⟩ (iteT ⟨by omega, by show _ < q.1 1 0; omega⟩ ?_)
      refine stepE (by rw [w32i] <;> omega) (fun i => ?_)
      show zup (zRw K (24 * k) (q.2 14) (24 * (start + k)) (j : Int)) (24 * k + (j : Int)) (q.2 14 (24 * (start + k) + (j : Int))) i = _
      rw [zRw_s _ _ _ _ (by omega)]
      rfl
    · rfl
    · unfold zfu; omega
theorem c_279 (h14 : q.1 14 0 = 12000) (h15 : q.1 15 0 = 500) (h1 : q.1 1 0 = 576) (h2 : q.1 2 0 = 24) (h58 : q.1 0 58 = o) (hR : 2 ≤ R ∧ R ≤ 12) (hs : 0 ≤ start ∧ start ≤ 480) (ho : o ≤ 480) (hB : ∀ i, 0 ≤ i → i < o → q.2 15 i = 0 ∨ q.2 15 i = 1) :
    ∃ K KG, zloop (f_Rf_size_l279 R w v3 pl start) zfu (0, q) = some (uB q K KG) ∧ (∀ k c, 0 ≤ k → k < 12 → 0 ≤ c → c < 24 → K (24 * k + c) = if k < R ∧ start + k < o then q.2 14 (24 * (start + k) + c) else 0) ∧ (∀ i, i < 0 ∨ 288 ≤ i → K i = q.2 1 i) ∧ (∀ k, 0 ≤ k → k < 12 → KG k = if start + k < o ∧ k < R - 1 then q.2 15 (start + k) else 0) ∧ ∀ k, k < 0 ∨ 12 ≤ k → KG k = q.2 2 k := by
  have hz := zH_loop (step := f_Rf_size_l279 R w v3 pl start) (Q := fun s => ∃ K KG, s = uB q K KG ∧ (∀ k c, 0 ≤ k → k < 12 → 0 ≤ c → c < 24 → K (24 * k + c) = if k < R ∧ start + k < o then q.2 14 (24 * (start + k) + c) else 0) ∧ (∀ i, i < 0 ∨ 288 ≤ i → K i = q.2 1 i) ∧ (∀ k, 0 ≤ k → k < 12 → KG k = if start + k < o ∧ k < R - 1 then q.2 15 (start + k) else 0) ∧ ∀ k, k < 0 ∨ 12 ≤ k → KG k = q.2 2 k)
    (fun X => ∃ K KG, X = (X.1, uB q K KG) ∧ (0 ≤ X.1 ∧ X.1 ≤ 12) ∧ (∀ k c, 0 ≤ k → k < X.1 → 0 ≤ c → c < 24 → K (24 * k + c) = if k < R ∧ start + k < o then q.2 14 (24 * (start + k) + c) else 0) ∧ (∀ i, i < 0 ∨ 288 ≤ i → K i = q.2 1 i) ∧ (∀ k, 0 ≤ k → k < X.1 → KG k = if start + k < o ∧ k < R - 1 then q.2 15 (start + k) else 0) ∧ ∀ k, k < 0 ∨ 12 ≤ k → KG k = q.2 2 k) (fun X => (12 - X.1).toNat) (fun X hX => ?_) (n := zfu) (x := (0, q))
    ⟨q.2 1, q.2 2, ?_, ⟨Int.le_refl _, by show (0 : Int) ≤ 12; decide⟩, fun k c a b => by dsimp only at b; omega, fun _ _ => rfl, fun k a b => by dsimp only at b; omega, fun _ _ => rfl⟩ (by show ((12 : Int) - 0).toNat < zfu; decide)
  · obtain ⟨s, e1, K, KG, rfl, e2⟩ := hz
    exact ⟨K, KG, e1, e2⟩
  · obtain ⟨i, X2⟩ := X
    obtain ⟨K, KG, hX1, hX2, hX3, hX4, hX5, hX6⟩ := hX
    dsimp only at hX1 hX2 hX3 hX4 hX5 hX6
    obtain rfl : X2 = uB q K KG := (Prod.mk.inj hX1).2
    by_cases z : 12 ≤ i
    · have eo : i = 12 := by omega
      subst eo
      exact ⟨.inr _, iteT (by show (12 : Int) ≤ 12; omega) rfl, K, KG, rfl, hX3, hX4, hX5, hX6⟩
    · have ew : w32 (start + i) = start + i := w32i (by omega) (by omega)
      have eR : w32 (R - 1) = R - 1 := w32i (by omega) (by omega)
      obtain ⟨c9, hc9⟩ : ∃ c9, c9 = (if R ≤ i then (0 : Int) else if o ≤ start + i then 0 else 1) := ⟨_, rfl⟩
      have hc : c9 = 0 ↔ ¬ (i < R ∧ start + i < o) := by
        rw [hc9]
        by_cases y1 : R ≤ i
        · rw [if_pos y1]; exact ⟨fun _ => by omega, fun _ => rfl⟩
        · rw [if_neg y1]
          by_cases y2 : o ≤ start + i
          · rw [if_pos y2]; exact ⟨fun _ => by omega, fun _ => rfl⟩
          · rw [if_neg y2]; exact ⟨fun e => absurd e (by decide), fun e => absurd (⟨by omega, by omega⟩ : i < R ∧ start + i < o) e⟩
      have e0 : uB q K KG = uA (uA q 2 KG) 1 K := by
        unfold uB
        refine zst_ext (fun _ _ => rfl) (fun j => ?_)
        simp only [uA2]
        grind
      have e0' : ∀ K', uA (uA q 2 KG) 1 K' = uB q K' KG := fun K' => by
        unfold uB
        refine zst_ext (fun _ _ => rfl) (fun j => ?_)
        simp only [uA2]
        grind
      have e1 := c_314 (q := uA q 2 KG) (R := R) (w := w) (v3 := v3) (pl := pl) (start := start) h14 h1 hs (k := i) (c9 := c9) ⟨hX2.1, by omega⟩ K
      rw [e0', e0'] at e1
      obtain ⟨v, hv⟩ : ∃ v, v = (if start + i < o ∧ i < R - 1 then q.2 15 (start + i) else 0) := ⟨_, rfl⟩
      refine ⟨.inl (i + 1, uB q (if c9 = 0 then zFl K (24 * i) (24 * i + 24) 0 else zRw K (24 * i) (q.2 14) (24 * (start + i)) 24) (zup KG i v)), ?_, ⟨_, _, rfl, ⟨by show 0 ≤ i + 1; omega, by show i + 1 ≤ 12; omega⟩, fun k c a b d e => ?_, fun j a => ?_, fun k a b => ?_, fun k a => ?_⟩, ?_⟩
      · unfold f_Rf_size_l279
        refine iteF (by show ¬ (12 : Int) ≤ i; omega) ?_
        dsimp only
        rw [show (uB q K KG).1 0 58 = o from h58, ew, eR, ← hc9]
        refine bindS e1 ?_
        have eU : ∀ x : Int, uE (uB q (if c9 = 0 then zFl K (24 * i) (24 * i + 24) 0 else zRw K (24 * i) ((uA q 2 KG).2 14) (24 * (start + i)) 24) KG) 2 i x = uB q (if c9 = 0 then zFl K (24 * i) (24 * i + 24) 0 else zRw K (24 * i) (q.2 14) (24 * (start + i)) 24) (zup KG i x) := fun x => uB_E2 _ _ _ _ _
        rw [w32i (x := i + 1) (by omega) (by omega)]
        by_cases y : c9 = 0
        · have y' := hc.mp y
          refine iteT y (iteT ⟨hX2.1, by show i < q.1 2 0; omega⟩ ?_)
          rw [eU, show v = 0 by rw [hv, if_neg (by omega)]]
        · have y' : i < R ∧ start + i < o := Decidable.byContradiction fun e => y (hc.mpr e)
          refine iteF y ?_
          by_cases y2 : R - 1 ≤ i
          · refine iteT y2 (iteT ⟨hX2.1, by show i < q.1 2 0; omega⟩ ?_)
            rw [eU, show v = 0 by rw [hv, if_neg (by omega)]]
          · refine iteF y2 (iteT ⟨by omega, by show start + i < q.1 15 0; omega⟩ (iteT ⟨hX2.1, by show i < q.1 2 0; omega⟩ ?_))
            have hb := hB (start + i) (by omega) y'.2
            have ev : (if q.2 15 (start + i) = 0 then (0 : Int) else 1) = v := by
              rw [hv, if_pos (show start + i < o ∧ i < R - 1 by omega)]
              rcases hb with x | x <;> rw [x] <;> rfl
            rw [← ev]
            exact inl2 rfl (eU _)
      · dsimp only at b
        have := hX3 k c a
        by_cases y : k = i
        · subst y
          by_cases y2 : c9 = 0
          · have y' := hc.mp y2
            rw [if_pos y2, if_neg y']
            unfold zFl
            rw [if_pos (by omega)]
          · have y' : k < R ∧ start + k < o := Decidable.byContradiction fun e => y2 (hc.mpr e)
            rw [if_neg y2, if_pos y']
            unfold zRw
            rw [if_pos (by omega), show 24 * (start + k) + (24 * k + c - 24 * k) = 24 * (start + k) + c by omega]
        · rw [← this (by omega) d e]
          split
          · unfold zFl
            rw [if_neg (by omega)]
          · unfold zRw
            rw [if_neg (by omega)]
      · rw [← hX4 j a]
        split
        · unfold zFl
          rw [if_neg (by omega)]
        · unfold zRw
          rw [if_neg (by omega)]
      · dsimp only at b
        unfold zup
        by_cases y : k = i
        · rw [if_pos y, hv, y]
        · rw [if_neg y]
          exact hX5 k a (by omega)
      · unfold zup
        rw [if_neg (by omega)]
        exact hX6 k a
      · show (12 - (i + 1)).toNat < (12 - i).toNat
        omega
  · show (0, q) = (0, uB q (q.2 1) (q.2 2))
    rw [uB_id]
theorem c_608 (h12 : q.1 12 0 = 288) : zloop f_Rf_size_l608 zfu (0, q) = some (uA q 12 (zFl (q.2 12) 0 288 0)) := by
  have hl := zloop_up (step := f_Rf_size_l608) (r := uA q 12 (zFl (q.2 12) 0 288 0)) 288 (n := zfu) (fun j => ((j : Int), uA q 12 (zFl (q.2 12) 0 (j : Int) 0))) (fun j hj => ?_) ?_ ?_
  · simp only [Int.natCast_zero, zFl_self, uA_id] at hl
    exact hl
  · unfold f_Rf_size_l608
    refine iteF (by show ¬ (288 : Int) ≤ (j : Int); omega) (iteT (by show 0 ≤ (j : Int) ∧ (j : Int) < q.1 12 0; omega) ?_)
    refine stepE (by show w32 ((j : Int) + 1) = _; rw [w32i] <;> omega) (fun i => ?_)
    show zup (zFl (q.2 12) 0 (j : Int) 0) (j : Int) 0 i = _
    rw [zup_zFl (by omega)]
    rfl
  · rfl
  · unfold zfu; omega
end ZSZ
