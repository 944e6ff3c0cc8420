/-! ===== OTHER is cut ===== -/
def zCutS (g F : Int → Int) (B n R w : Int) : Prop := (∀ k c, 0 ≤ k → k < 12 → 0 ≤ c → c < 24 → F (B + k * 24 + c) = if k < R ∧ c < w then zPt g (B + k * 24) w n (B + k * 24 + c) else 0) ∧ ∀ i, i < B ∨ B + 288 ≤ i → F i = g i
/-- the reference: one row -/
theorem c_Rf_cut47 {q : zSt} (hZ : zRZ q) {R w c3 k : Int} (hk : 0 ≤ k ∧ k < 12) (K : Int → Int) (h8 : q.1 0 8 = 1) :
    zloop (f_Rf_cutsOther_l47 R w c3 k) zfu (0, uA q 1 K) = some (uA q 1 (fun i => if 288 + k * 24 ≤ i ∧ i < 288 + k * 24 + 24 then (if k < R ∧ i - (288 + k * 24) < w then K i else 0) else K i)) := by
  have h1 : q.1 1 0 = 576 := hZ.1.1
  have eo : zRo q k = 288 + k * 24 := by unfold zRo; rw [h8]; rfl
  have hl := zloop_up (step := f_Rf_cutsOther_l47 R w c3 k) (r := uA q 1 (fun i => if 288 + k * 24 ≤ i ∧ i < 288 + k * 24 + 24 then (if k < R ∧ i - (288 + k * 24) < w then K i else 0) else K i)) 24 (n := zfu) (fun j => ((j : Int), uA q 1 (fun i => if 288 + k * 24 ≤ i ∧ i < 288 + k * 24 + (j : Int) then (if k < R ∧ i - (288 + k * 24) < w then K i else 0) else K i))) (fun j hj => ?_) ?_ ?_
  · have e : uA q 1 (fun i => if 288 + k * 24 ≤ i ∧ i < 288 + k * 24 + ((0 : Nat) : Int) then (if k < R ∧ i - (288 + k * 24) < w then K i else 0) else K i) = uA q 1 K := uA_cg (fun i => by rw [if_neg (by omega)])
    rw [e] at hl
    exact hl
  · have ea := c_Rf_at (s := uA q 1 (fun i => if 288 + k * 24 ≤ i ∧ i < 288 + k * 24 + (j : Int) then (if k < R ∧ i - (288 + k * 24) < w then K i else 0) else K i)) (hZ.uA 1 _) (r := k) (c := (j : Int)) (by omega) (by omega)
    rw [show zRo (uA q 1 (fun i => if 288 + k * 24 ≤ i ∧ i < 288 + k * 24 + (j : Int) then (if k < R ∧ i - (288 + k * 24) < w then K i else 0) else K i)) k = 288 + k * 24 from eo] at ea
    have ew : w32 ((j : Int) + 1) = ((j + 1 : Nat) : Int) := by rw [w32i (by omega) (by omega)]; omega
    unfold f_Rf_cutsOther_l47
    refine iteF (by show ¬ (24 : Int) ≤ (j : Int); omega) (bindS ea ?_)
    by_cases y : R ≤ k
    · refine iteT y (iteT ⟨by omega, by show _ < q.1 1 0; omega⟩ ?_)
      refine stepE ew (fun i => ?_)
      unfold zup
      grind
    · refine iteF y ?_
      by_cases y2 : w ≤ (j : Int)
      · refine iteT y2 (iteT ⟨by omega, by show _ < q.1 1 0; omega⟩ ?_)
        refine stepE ew (fun i => ?_)
        unfold zup
        grind
      · refine iteF y2 (bindS ea (iteT ⟨by omega, by show _ < q.1 1 0; omega⟩ (iteT ⟨by omega, by show _ < q.1 1 0; omega⟩ ?_)))
        refine stepE ew (fun i => ?_)
        show zup _ _ ((fun i => if 288 + k * 24 ≤ i ∧ i < 288 + k * 24 + (j : Int) then (if k < R ∧ i - (288 + k * 24) < w then K i else 0) else K i) (288 + k * 24 + (j : Int))) i = _
        unfold zup
        grind
  · rfl
  · unfold zfu; omega
theorem zPt_at {g g' : Int → Int} {o c n i : Int} (h1 : g' (o + c) = g (o + c)) (h2 : g' i = g i) : zPt g' o c n i = zPt g o c n i := by
  unfold zPt
  rw [h1, h2]
theorem c_cutsOther {s : zSt} (hZ : zRZ s) (hG : zGb s) (hz : ∀ i, 288 + s.1 0 1 * 24 ≤ i → i < 576 → s.2 1 i = 0) {R w : Int} (hR : 2 ≤ R ∧ R ≤ 12) (hw : 4 ≤ w ∧ w ≤ 24) :
    ∃ K KG, f_Rf_cutsOther R w s = some (0, uB s K KG) ∧ zCutS (s.2 1) K 288 (s.1 0 2) R w ∧ (∀ k, 0 ≤ k → k < 12 → KG (12 + k) = if k < R - 1 then s.2 2 (12 + k) else 0) ∧ ∀ k, k < 12 ∨ 24 ≤ k → KG k = s.2 2 k := by
  obtain ⟨q, hq⟩ : ∃ q, q = uS s 0 8 1 := ⟨_, rfl⟩
  have hZq : zRZ q := by rw [hq]; exact ⟨hZ.1, hZ.2.1, hZ.2.2.1, by show (0 : Int) ≤ 1 ∧ (1 : Int) ≤ 1; decide⟩
  have hq8 : q.1 0 8 = 1 := by rw [hq]; rfl
  have hq2 : q.2 = s.2 := by rw [hq]; rfl
  have hq01 : q.1 0 1 = s.1 0 1 := by rw [hq]; rfl
  have hq02 : q.1 0 2 = s.1 0 2 := by rw [hq]; rfl
  have hq20 : q.1 2 0 = 24 := hZq.1.2.1
  have eR : w32 (R - 1) = R - 1 := w32i (by omega) (by omega)
  have hrows := hZ.2.1
  have hcols := hZ.2.2.1
  have hz := zH_loop (step := f_Rf_cutsOther_l13 R w (s.1 0 8)) (Q := fun t => ∃ K KG, t = uB q K KG ∧ zCutS (s.2 1) K 288 (s.1 0 2) R w ∧ (∀ k, 0 ≤ k → k < 12 → KG (12 + k) = if k < R - 1 then s.2 2 (12 + k) else 0) ∧ ∀ k, k < 12 ∨ 24 ≤ k → KG k = s.2 2 k)
    (fun X => ∃ K KG, X = (X.1, uB q K KG) ∧ (0 ≤ X.1 ∧ X.1 ≤ 12) ∧ (∀ k c, 0 ≤ k → k < 12 → 0 ≤ c → c < 24 → K (288 + k * 24 + c) = if k < X.1 then (if k < R ∧ c < w then zPt (s.2 1) (288 + k * 24) w (s.1 0 2) (288 + k * 24 + c) else 0) else s.2 1 (288 + k * 24 + c)) ∧ (∀ i, i < 288 ∨ 288 + 288 ≤ i → K i = s.2 1 i) ∧ (∀ k, 0 ≤ k → k < 12 → KG (12 + k) = if k < X.1 then (if k < R - 1 then s.2 2 (12 + k) else 0) else s.2 2 (12 + k)) ∧ ∀ k, k < 12 ∨ 24 ≤ k → KG k = s.2 2 k)
    (fun X => (12 - X.1).toNat) (fun X hX => ?_) (n := zfu) (x := (0, q)) ⟨q.2 1, q.2 2, ?_, ⟨Int.le_refl _, by show (0 : Int) ≤ 12; decide⟩, fun k c a b d e => ?_, fun i a => by rw [hq2], fun k a b => ?_, fun k a => by rw [hq2]⟩ (by show ((12 : Int) - 0).toNat < zfu; decide)
  · obtain ⟨t, e1, K, KG, rfl, e2, e3, e4⟩ := hz
    refine ⟨K, KG, ?_, e2, e3, e4⟩
    unfold f_Rf_cutsOther
    rw [← hq]
    refine bindS e1 ?_
    congr 2
    rw [hq]
    refine zst_ext (fun i k => ?_) (fun i => rfl)
    simp only [uB1, uS1]
    grind
  · obtain ⟨i, X2⟩ := X
    obtain ⟨K, KG, hX1, hX2, hX3, hX4, hX5, hX6⟩ := hX
    dsimp only at hX1 hX2 hX3 hX4 hX5 hX6
    obtain rfl : X2 = uB q K KG := (Prod.mk.inj hX1).2
    by_cases z : 12 ≤ i
    · refine ⟨.inr _, iteT z rfl, K, KG, rfl, ⟨fun k c a b d e => ?_, hX4⟩, fun k a b => ?_, hX6⟩
      · rw [hX3 k c a b d e, if_pos (by omega)]
      · rw [hX5 k a b, if_pos (by omega)]
    · have e0 : ∀ K', uA (uA q 2 KG) 1 K' = uB q K' KG := fun K' => by
        unfold uB
        refine zst_ext (fun _ _ => rfl) (fun j => ?_)
        simp only [uA2]
        grind
      have ei : w32 (12 + i) = 12 + i := w32i (by omega) (by omega)
      have e1 : ∀ K', zloop (f_Rf_cutsOther_l47 R w (s.1 0 8) i) zfu (0, uB q K' KG) = some (uB q (fun j => if 288 + i * 24 ≤ j ∧ j < 288 + i * 24 + 24 then (if i < R ∧ j - (288 + i * 24) < w then K' j else 0) else K' j) KG) := fun K' => by
        have := c_Rf_cut47 (q := uA q 2 KG) (hZq.uA 2 KG) (R := R) (w := w) (c3 := s.1 0 8) (k := i) ⟨hX2.1, by omega⟩ K' hq8
        rw [e0, e0] at this
        exact this
      obtain ⟨v, hv⟩ : ∃ v, v = (if KG (12 + i) = 0 then (0 : Int) else if R - 1 ≤ i then 0 else 1) := ⟨_, rfl⟩
      have hKG := hX5 i hX2.1 (by omega)
      rw [if_neg (by omega)] at hKG
      have hv2 : v = if i < R - 1 then s.2 2 (12 + i) else 0 := by
        have := hG (12 + i)
        rw [hv, hKG]
        grind
      -- the row's pair that is parted
      obtain ⟨K', hK'⟩ : ∃ K', K' = (if i < s.1 0 1 ∧ w < s.1 0 2 then zPt K (288 + i * 24) w (s.1 0 2) else K) := ⟨_, rfl⟩
      have hKi : ∀ c, 0 ≤ c → c < 24 → K (288 + i * 24 + c) = s.2 1 (288 + i * 24 + c) := fun c a b => by
        rw [hX3 i c hX2.1 (by omega) a b, if_neg (by omega)]
      have hKi' : ∀ c, 0 ≤ c → c < w → K' (288 + i * 24 + c) = zPt (s.2 1) (288 + i * 24) w (s.1 0 2) (288 + i * 24 + c) := fun c a b => by
        rw [hK']
        by_cases y : i < s.1 0 1 ∧ w < s.1 0 2
        · rw [if_pos y]
          exact zPt_at (hKi w (by omega) (by omega)) (hKi c a (by omega))
        · rw [if_neg y, hKi c a (by omega)]
          unfold zPt
          rw [if_neg]
          rintro ⟨⟨x1, x2, x3⟩, x4⟩
          have hi : ¬ i < s.1 0 1 := fun e => y ⟨e, x2⟩
          rw [hz (288 + i * 24 + w) (by omega) (by omega)] at x3
          cases x3
      have hKo : ∀ j, j < 288 + i * 24 ∨ 288 + i * 24 + 24 ≤ j → K' j = K j := fun j a => by
        rw [hK']
        split
        · exact zPt_out (by omega) j a
        · rfl
      refine ⟨.inl (i + 1, uB q (fun j => if 288 + i * 24 ≤ j ∧ j < 288 + i * 24 + 24 then (if i < R ∧ j - (288 + i * 24) < w then K' j else 0) else K' j) (zup KG (12 + i) v)), ?_, ⟨_, _, rfl, ⟨by show 0 ≤ i + 1; omega, by show i + 1 ≤ 12; omega⟩, fun k c a b d e => ?_, fun j a => ?_, fun k a b => ?_, fun k a => ?_⟩, ?_⟩
      · unfold f_Rf_cutsOther_l13
        refine iteF (by show ¬ (12 : Int) ≤ i; omega) ?_
        dsimp only
        rw [show (uB q K KG).1 0 1 = s.1 0 1 from hq01, show (uB q K KG).1 0 2 = s.1 0 2 from hq02, eR, ei]
        have fin : ∀ K'', (if 0 ≤ 12 + i ∧ 12 + i < (uB q K'' KG).1 2 0 then (if 0 ≤ 12 + i ∧ 12 + i < (uB q K'' KG).1 2 0 then some (Sum.inl (w32 (i + 1), uE (uB q K'' KG) 2 (12 + i) (if (uB q K'' KG).2 2 (12 + i) = 0 then (0 : Int) else if R - 1 ≤ i then 0 else 1))) else none) else none : Option ((Int × zSt) ⊕ zSt)) = some (.inl (i + 1, uB q K'' (zup KG (12 + i) v))) := fun K'' => by
          refine iteT ⟨by omega, by show _ < q.1 2 0; omega⟩ (iteT ⟨by omega, by show _ < q.1 2 0; omega⟩ ?_)
          refine inl2 (w32i (by omega) (by omega)) ?_
          rw [show (if (uB q K'' KG).2 2 (12 + i) = 0 then (0 : Int) else if R - 1 ≤ i then 0 else 1) = v from hv.symm]
          exact uB_E2 _ _ _ _ _
        by_cases y1 : s.1 0 1 ≤ i
        · rw [if_neg (fun e => by omega)] at hK'
          refine iteT y1 (bindS (e1 K) ?_)
          rw [hK']
          exact fin _
        · refine iteF y1 ?_
          by_cases y2 : s.1 0 2 ≤ w
          · rw [if_neg (fun e => by omega)] at hK'
            refine iteT y2 (bindS (e1 K) ?_)
            rw [hK']
            exact fin _
          · rw [if_pos ⟨by omega, by omega⟩] at hK'
            have ep := c_Rf_parts (s := uB q K KG) (hZq.uB K KG) (r := i) (c := w) ⟨hX2.1, by omega⟩ (by omega)
            have ep2 : uA (uB q K KG) 1 (zPt ((uB q K KG).2 1) (zRo (uB q K KG) i) w ((uB q K KG).1 0 2)) = uB q K' KG := by
              rw [show zRo (uB q K KG) i = 288 + i * 24 by show 288 * q.1 0 8 + i * 24 = _; rw [hq8]; rfl, show (uB q K KG).1 0 2 = s.1 0 2 from hq02, show (uB q K KG).2 1 = K from rfl, ← hK']
              unfold uB
              refine zst_ext (fun _ _ => rfl) (fun j => ?_)
              simp only [uA2]
              grind
            rw [ep2] at ep
            refine iteF y2 (bindS ep (bindS (e1 K') (fin _)))
      · dsimp only
        by_cases y : k = i
        · subst y
          rw [if_pos (show 288 + k * 24 ≤ 288 + k * 24 + c ∧ 288 + k * 24 + c < 288 + k * 24 + 24 by omega), if_pos (show k < k + 1 by omega), show 288 + k * 24 + c - (288 + k * 24) = c by omega]
          by_cases y2 : k < R ∧ c < w
          · rw [if_pos y2, if_pos y2, hKi' c d y2.2]
          · rw [if_neg y2, if_neg y2]
        · rw [if_neg (by omega), hKo _ (by omega), hX3 k c a b d e]
          by_cases y3 : k < i
          · rw [if_pos y3, if_pos (show k < i + 1 by omega)]
          · rw [if_neg y3, if_neg (show ¬ k < i + 1 by omega)]
      · show (if 288 + i * 24 ≤ j ∧ j < 288 + i * 24 + 24 then (if i < R ∧ j - (288 + i * 24) < w then K' j else 0) else K' j) = _
        rw [if_neg (by omega), hKo _ (by omega), hX4 j a]
      · dsimp only
        unfold zup
        by_cases y : k = i
        · rw [if_pos (by omega), if_pos (by omega), hv2, y]
        · rw [if_neg (by omega), hX5 k a b]
          by_cases y3 : k < i
          · rw [if_pos y3, if_pos (show k < i + 1 by omega)]
          · rw [if_neg y3, if_neg (show ¬ k < i + 1 by omega)]
      · unfold zup
        rw [if_neg (by omega), hX6 k a]
      · show (12 - (i + 1)).toNat < (12 - i).toNat
        omega
  · show (0, q) = (0, uB q (q.2 1) (q.2 2))
    rw [uB_id]
  · dsimp only
    rw [if_neg (by omega), hq2]
  · dsimp only
    rw [if_neg (by omega), hq2]
