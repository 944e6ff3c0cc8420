/-! ===== OTHER is cut by the class ===== -/
section ZCUT
variable {p : zSt} {R w : Int}
theorem c_cut19 (h : zPW p) (hw : 4 ≤ w ∧ w ≤ 24) {i : Int} (hi : 0 ≤ i ∧ i < p.1 0 2) (K : Int → Int) :
    zloop (f_Pi_cut_l19 R w i) zfu (w, uA p 1 K) = some (uA p 1 (if p.1 0 3 ≤ w then K else zFl K (i * 24 + w) (i * 24 + p.1 0 3) 0)) := by
  have hc := h.2.2.2.1
  have hr := h.2.2.1
  by_cases q : p.1 0 3 ≤ w
  · rw [if_pos q]
    show zloop _ (999999 + 1) _ = _
    unfold zloop f_Pi_cut_l19
    rw [if_pos (show (uA p 1 K).1 0 3 ≤ w from q)]
    rfl
  · rw [if_neg q]
    have hl := zloop_up (step := f_Pi_cut_l19 R w i) (r := uA p 1 (zFl K (i * 24 + w) (i * 24 + p.1 0 3) 0)) (p.1 0 3 - w).toNat (n := zfu) (fun j => (w + (j : Int), uA p 1 (zFl K (i * 24 + w) (i * 24 + w + (j : Int)) 0))) (fun j hj => ?_) ?_ ?_
    · simp only [Int.natCast_zero, Int.add_zero, zFl_self] at hl
      exact hl
    · unfold f_Pi_cut_l19
      refine iteF (by show ¬ p.1 0 3 ≤ w + (j : Int); omega) (bindS (c_put (p := uA p 1 (zFl K (i * 24 + w) (i * 24 + w + (j : Int)) 0)) (r := i) (c := w + (j : Int)) (v := 0) (h.uA1 _) hi (by show 0 ≤ w + (j : Int) ∧ w + (j : Int) < p.1 0 3; omega)) ?_)
      refine stepE (by show w32 (w + (j : Int) + 1) = w + ((j + 1 : Nat) : Int); rw [w32i (by omega) (by omega)]; omega) (fun k => ?_)
      rw [← Int.add_assoc, show i * 24 + w + ((j + 1 : Nat) : Int) = i * 24 + w + (j : Int) + 1 by omega, ← zup_zFl (by omega)]
    · unfold f_Pi_cut_l19
      refine iteT (by show p.1 0 3 ≤ w + (((p.1 0 3 - w).toNat : Nat) : Int); omega) ?_
      rw [show i * 24 + w + (((p.1 0 3 - w).toNat : Nat) : Int) = i * 24 + p.1 0 3 by omega]
    · unfold zfu; omega
theorem c_Pi_cut (h : zPW p) (hR : 2 ≤ R ∧ R ≤ 12) (hw : 4 ≤ w ∧ w ≤ 24) (hz1 : ∀ k c, p.1 0 2 ≤ k → k < 12 → 0 ≤ c → c < 24 → p.2 1 (k * 24 + c) = 0) (hz2 : ∀ k c, 0 ≤ k → k < 12 → p.1 0 3 ≤ c → c < 24 → p.2 1 (k * 24 + c) = 0)
    (hn : ∀ k, 0 ≤ k → k < p.1 0 2 → zNT (p.2 1) (k * 24) (p.1 0 3)) (hg : ∀ k, p.1 0 2 ≤ k → k < 12 → p.2 2 k = 0) :
    ∃ F FG, f_Pi_cut R w p = some (0, uS (uS (uB p F FG) 0 2 R) 0 3 w) ∧ zCutS (p.2 1) F 0 (p.1 0 3) R w ∧ (∀ k, 0 ≤ k → k < 12 → FG k = if k < R - 1 then p.2 2 k else 0) ∧ ∀ i, FG i = 0 ∨ FG i = 1 := by
  have hc := h.2.2.2.1
  have hr := h.2.2.1
  -- the rows' cells
  have hz := zH_loop (step := f_Pi_cut_l2 R w) (Q := fun t => ∃ K, t = uA p 1 K ∧ (∀ k c, 0 ≤ k → k < 12 → 0 ≤ c → c < 24 → K (k * 24 + c) = if k < p.1 0 2 then (if c < w then zPt (p.2 1) (k * 24) w (p.1 0 3) (k * 24 + c) else 0) else p.2 1 (k * 24 + c)) ∧ ∀ i, i < 0 ∨ 288 ≤ i → K i = p.2 1 i)
    (fun X => ∃ K, X = (X.1, uA p 1 K) ∧ (0 ≤ X.1 ∧ X.1 ≤ p.1 0 2) ∧ (∀ k c, 0 ≤ k → k < 12 → 0 ≤ c → c < 24 → K (k * 24 + c) = if k < X.1 then (if c < w then zPt (p.2 1) (k * 24) w (p.1 0 3) (k * 24 + c) else 0) else p.2 1 (k * 24 + c)) ∧ ∀ i, i < 0 ∨ 288 ≤ i → K i = p.2 1 i)
    (fun X => (12 - X.1).toNat) (fun X hX => ?_) (n := zfu) (x := (0, p)) ⟨p.2 1, by rw [uA_id], ⟨Int.le_refl _, by show 0 ≤ p.1 0 2; omega⟩, fun k c a b d e => by dsimp only; rw [if_neg (by omega)], fun _ _ => rfl⟩ (by show ((12 : Int) - 0).toNat < zfu; decide)
  · obtain ⟨t, t1, K, rfl, t2, t3⟩ := hz
    -- the rows below
    have hy := zH_loop (step := f_Pi_cut_l50 R w) (Q := fun t => ∃ K2 KG, t = uB p K2 KG ∧ (∀ k c, 0 ≤ k → k < 12 → 0 ≤ c → c < 24 → K2 (k * 24 + c) = if R ≤ k ∧ k < p.1 0 2 then 0 else K (k * 24 + c)) ∧ (∀ i, i < 0 ∨ 288 ≤ i → K2 i = p.2 1 i) ∧ ∀ k, KG k = if R ≤ k ∧ k < p.1 0 2 then 0 else p.2 2 k)
      (fun X => ∃ K2 KG, X = (X.1, uB p K2 KG) ∧ (R ≤ X.1 ∧ (X.1 ≤ p.1 0 2 ∨ X.1 = R)) ∧ (∀ k c, 0 ≤ k → k < 12 → 0 ≤ c → c < 24 → K2 (k * 24 + c) = if R ≤ k ∧ k < X.1 then 0 else K (k * 24 + c)) ∧ (∀ i, i < 0 ∨ 288 ≤ i → K2 i = p.2 1 i) ∧ ∀ k, KG k = if R ≤ k ∧ k < X.1 then 0 else p.2 2 k)
      (fun X => (13 - X.1).toNat) (fun X hX => ?_) (n := zfu) (x := (R, uA p 1 K)) ⟨K, p.2 2, ?_, ⟨Int.le_refl _, Or.inr rfl⟩, fun k c a b d e => by dsimp only; rw [if_neg (by omega)], t3, fun k => by dsimp only; rw [if_neg (by omega)]⟩ (by show (13 - R).toNat < zfu; unfold zfu; omega)
    · obtain ⟨t', s1, K2, KG, rfl, s2, s3, s4⟩ := hy
      have hb : ∀ j, zup KG (R - 1) 0 j = 0 ∨ zup KG (R - 1) 0 j = 1 := fun j => by
        unfold zup
        split
        · exact Or.inl rfl
        · rw [s4]
          split
          · exact Or.inl rfl
          · exact h.2.2.2.2 j
      have eR : w32 (R - 1) = R - 1 := w32i (by omega) (by omega)
      refine ⟨K2, zup KG (R - 1) 0, ?_, ⟨fun k c a b d e => ?_, fun i a => s3 i (by omega)⟩, fun k a b => ?_, hb⟩
      · unfold f_Pi_cut
        refine bindS t1 (bindS s1 ?_)
        rw [eR]
        have eg : f_Pi_setGoing (R - 1) 0 (uS (uS (uB p K2 KG) 0 2 R) 0 3 w) = some (0, uE (uS (uS (uB p K2 KG) 0 2 R) 0 3 w) 2 (R - 1) 0) := by
          unfold f_Pi_setGoing
          have := h.2.1
          exact iteF (by omega) (iteF (by omega) (iteT ⟨⟨by omega, by show R - 1 < p.1 2 0; omega⟩, Or.inl rfl⟩ rfl))
        refine bindS eg ?_
        congr 2
        refine zst_ext (fun i k => ?_) (fun i => ?_)
        · simp only [uE, uB1, uA1, uS1]
        · simp only [uE, uB, uS2, uA2]
          grind
      · rw [show 0 + k * 24 + c = k * 24 + c by omega, Int.zero_add, s2 k c a b d e]
        by_cases y : k < p.1 0 2
        · by_cases y2 : R ≤ k
          · rw [if_pos ⟨y2, y⟩, if_neg (by omega)]
          · rw [if_neg (by omega), t2 k c a b d e, if_pos y]
            by_cases y3 : c < w
            · rw [if_pos y3, if_pos (by omega)]
            · rw [if_neg y3, if_neg (by omega)]
        · rw [if_neg (by omega), t2 k c a b d e, if_neg y, hz1 k c (by omega) b d e]
          by_cases y3 : k < R ∧ c < w
          · rw [if_pos y3]
            unfold zPt
            rw [if_neg (fun x => by have := hz1 k w (by omega) b (by omega) (by omega); omega), hz1 k c (by omega) b d e]
          · rw [if_neg y3]
      · unfold zup
        by_cases y : k = R - 1
        · rw [if_pos y, if_neg (by omega)]
        · rw [if_neg y, s4]
          by_cases y2 : R ≤ k ∧ k < p.1 0 2
          · rw [if_pos y2, if_neg (by omega)]
          · rw [if_neg y2]
            by_cases y3 : k < R - 1
            · rw [if_pos y3]
            · rw [if_neg y3, hg k (by omega) b]
    · obtain ⟨i, X2⟩ := X
      obtain ⟨K2, KG, hX1, hX2, hX3, hX4, hX5⟩ := hX
      dsimp only at hX1 hX2 hX3 hX4 hX5
      obtain rfl : X2 = uB p K2 KG := (Prod.mk.inj hX1).2
      by_cases z : p.1 0 2 ≤ i
      · refine ⟨.inr _, iteT z rfl, K2, KG, rfl, fun k c a b d e => ?_, hX4, fun k => ?_⟩
        · rw [hX3 k c a b d e]
          by_cases y : R ≤ k ∧ k < p.1 0 2
          · rw [if_pos y, if_pos (by omega)]
          · rw [if_neg y, if_neg (by omega)]
        · rw [hX5]
          by_cases y : R ≤ k ∧ k < p.1 0 2
          · rw [if_pos y, if_pos (by omega)]
          · rw [if_neg y, if_neg (by omega)]
      · have hb : ∀ j, KG j = 0 ∨ KG j = 1 := fun j => by
          rw [hX5]
          split
          · exact Or.inl rfl
          · exact h.2.2.2.2 j
        have e1 := c_Pi_clearRow (p := uB p K2 KG) (h.uB hb) (r := i) (by omega)
        rw [uB_uB] at e1
        refine ⟨.inl (i + 1, uB p (zFl K2 (i * 24) (i * 24 + 24) 0) (zup KG i 0)), ?_, ⟨_, _, rfl, ⟨by show R ≤ i + 1; omega, Or.inl (by show i + 1 ≤ p.1 0 2; omega)⟩, fun k c a b d e => ?_, fun j a => ?_, fun k => ?_⟩, ?_⟩
        · unfold f_Pi_cut_l50
          refine iteF (by show ¬ p.1 0 2 ≤ i; omega) (bindS e1 ?_)
          exact inl2 (w32i (by show -2147483648 ≤ i + 1; omega) (by show i + 1 ≤ 2147483647; omega)) rfl
        · dsimp only
          unfold zFl
          by_cases y : k = i
          · rw [if_pos (show i * 24 ≤ k * 24 + c ∧ k * 24 + c < i * 24 + 24 by omega), if_pos (by omega)]
          · rw [if_neg (show ¬ (i * 24 ≤ k * 24 + c ∧ k * 24 + c < i * 24 + 24) by omega), hX3 k c a b d e]
            by_cases y2 : R ≤ k ∧ k < i
            · rw [if_pos y2, if_pos (by omega)]
            · rw [if_neg y2, if_neg (by omega)]
        · unfold zFl
          rw [if_neg (by omega)]
          exact hX4 j a
        · dsimp only
          unfold zup
          by_cases y : k = i
          · rw [if_pos y, if_pos (by omega)]
          · rw [if_neg y, hX5]
            by_cases y2 : R ≤ k ∧ k < i
            · rw [if_pos y2, if_pos (by omega)]
            · rw [if_neg y2, if_neg (by omega)]
        · show (13 - (i + 1)).toNat < (13 - i).toNat
          omega
    · show (R, uA p 1 K) = (R, uB p K (p.2 2))
      unfold uB
      rw [show p.2 2 = (uA p 1 K).2 2 from rfl, uA_id]
  · obtain ⟨i, X2⟩ := X
    obtain ⟨K, hX1, hX2, hX3, hX4⟩ := hX
    dsimp only at hX1 hX2 hX3 hX4
    obtain rfl : X2 = uA p 1 K := (Prod.mk.inj hX1).2
    by_cases z : p.1 0 2 ≤ i
    · refine ⟨.inr _, iteT z rfl, K, rfl, fun k c a b d e => ?_, hX4⟩
      rw [hX3 k c a b d e, show i = p.1 0 2 by omega]
    · have hKi : ∀ c, 0 ≤ c → c < 24 → K (i * 24 + c) = p.2 1 (i * 24 + c) := fun c a b => by
        rw [hX3 i c hX2.1 (by omega) a b, if_neg (by omega)]
      have hn' : zNT K (i * 24) (p.1 0 3) := by
        obtain ⟨x1, x2⟩ := hn i hX2.1 (by omega)
        refine ⟨?_, fun c a b => ?_⟩
        · have := hKi 0 (by omega) (by omega)
          rw [Int.add_zero] at this
          rw [this]; exact x1
        · rw [hKi c (by omega) b]; exact x2 c a b
      have e1 := c_Pi_part (p := uA p 1 K) (h.uA1 K) (r := i) (c := w) ⟨hX2.1, by show i < p.1 0 2; omega⟩ (by omega) hn'
      rw [uA_uA] at e1
      have e2 := c_cut19 (R := R) h hw (i := i) ⟨hX2.1, by omega⟩ (zPt K (i * 24) w (p.1 0 3))
      refine ⟨.inl (i + 1, uA p 1 (if p.1 0 3 ≤ w then zPt K (i * 24) w (p.1 0 3) else zFl (zPt K (i * 24) w (p.1 0 3)) (i * 24 + w) (i * 24 + p.1 0 3) 0)), ?_, ⟨_, rfl, ⟨by show 0 ≤ i + 1; omega, by show i + 1 ≤ p.1 0 2; omega⟩, fun k c a b d e => ?_, fun j a => ?_⟩, ?_⟩
      · unfold f_Pi_cut_l2
        refine iteF (by show ¬ p.1 0 2 ≤ i; omega) (bindS e1 (bindS e2 ?_))
        exact inl2 (w32i (by show -2147483648 ≤ i + 1; omega) (by show i + 1 ≤ 2147483647; omega)) rfl
      · dsimp only
        by_cases y : k = i
        · subst y
          rw [if_pos (show k < k + 1 by omega)]
          have ez : zPt K (k * 24) w (p.1 0 3) (k * 24 + c) = zPt (p.2 1) (k * 24) w (p.1 0 3) (k * 24 + c) := by
            by_cases y4 : w < 24
            · exact zPt_at (hKi w (by omega) y4) (hKi c d e)
            · unfold zPt
              rw [if_neg (fun x => by omega), if_neg (fun x => by omega), hKi c d e]
          by_cases y2 : p.1 0 3 ≤ w
          · rw [if_pos y2, ez]
            by_cases y3 : c < w
            · rw [if_pos y3]
            · rw [if_neg y3]
              unfold zPt
              rw [if_neg (fun x => by omega)]
              exact hz2 k c a b (by omega) e
          · rw [if_neg y2]
            unfold zFl
            by_cases y3 : c < w
            · rw [if_pos y3, if_neg (by omega), ez]
            · rw [if_neg y3]
              by_cases y4 : c < p.1 0 3
              · rw [if_pos (by omega)]
              · rw [if_neg (by omega), ez]
                unfold zPt
                rw [if_neg (fun x => by omega)]
                exact hz2 k c a b (by omega) e
        · have eo : (if p.1 0 3 ≤ w then zPt K (i * 24) w (p.1 0 3) else zFl (zPt K (i * 24) w (p.1 0 3)) (i * 24 + w) (i * 24 + p.1 0 3) 0) (k * 24 + c) = K (k * 24 + c) := by
            have e5 : zPt K (i * 24) w (p.1 0 3) (k * 24 + c) = K (k * 24 + c) := zPt_out (by omega) _ (by omega)
            split
            · exact e5
            · unfold zFl
              rw [if_neg (by omega)]
              exact e5
          rw [eo, hX3 k c a b d e]
          by_cases y3 : k < i
          · rw [if_pos y3, if_pos (show k < i + 1 by omega)]
          · rw [if_neg y3, if_neg (show ¬ k < i + 1 by omega)]
      · have e5 : zPt K (i * 24) w (p.1 0 3) j = K j := zPt_out (by omega) _ (by omega)
        rw [← hX4 j a]
        split
        · exact e5
        · unfold zFl
          rw [if_neg (by omega)]
          exact e5
      · show (12 - (i + 1)).toNat < (12 - i).toNat
        omega
end ZCUT
