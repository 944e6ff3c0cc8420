/-! ===== what a row costs: all of it ===== -/
theorem zul_01 (q : zSt) (row c : Int) : zul q row c = 0 ∨ zul q row c = 1 := by
  rcases zlI_ul q row c with h | h
  · exact Or.inr h.2
  · exact Or.inl h.2
/-- the costs of class and reference from a column on -/
def zCe (V : Int → Int) (n F c : Int) (C C' : Int → Int) : Prop := zCw V n c C ∧ zCw V n c C' ∧ (∀ k a, c < k → k ≤ n → 0 ≤ a → a < 16 → (k < n → V k ≠ -2) → C (16 * k + a) = C' (16 * k + a)) ∧ ∀ k a, c < k → k < n → 0 ≤ a → a < 16 → V k = -2 → k < F → C (16 * k + a) = 1000000
theorem c_cost0 {r : zSt} {n row : Int} (hZ : zRZ r) (hn : r.1 0 2 = n) : zloop (f_Rf_costOf_l10 row 0 1 1) zfu (0, r) = some (uA r 13 (zCj (r.2 13) n (fun _ => 0) 16)) := by
  have hcc := hZ.2.2.1
  have h13 : r.1 13 0 = 400 := hZ.1.2.2.2.2.2.2.2.2.2.2.2.2.1
  have hl := zloop_up (step := f_Rf_costOf_l10 row 0 1 1) (r := uA r 13 (zCj (r.2 13) n (fun _ => 0) 16)) 16 (n := zfu) (fun j => ((j : Int), uA r 13 (zCj (r.2 13) n (fun _ => 0) (j : Int)))) (fun j hj => ?_) ?_ ?_
  · simp only [Int.natCast_zero, zCj_0, uA_id] at hl
    exact hl
  · unfold f_Rf_costOf_l10
    refine iteF (by show ¬ (16 : Int) ≤ (j : Int); omega) ?_
    show (if 0 ≤ w32 (w32 (16 * r.1 0 2) + (j : Int)) ∧ w32 (w32 (16 * r.1 0 2) + (j : Int)) < r.1 13 0 then some (Sum.inl (w32 ((j : Int) + 1), uE (uA r 13 (zCj (r.2 13) n (fun _ => 0) (j : Int))) 13 (w32 (w32 (16 * r.1 0 2) + (j : Int))) 0)) else none) = _
    rw [hn, (zw16 (c := n) ⟨by omega, by omega⟩ (a := (j : Int)) ⟨by omega, by omega⟩).2]
    refine iteT ⟨by omega, by omega⟩ ?_
    refine stepE (by rw [w32i] <;> omega) (fun i => ?_)
    rw [show zup (zCj (r.2 13) n (fun _ => (0 : Int)) (j : Int)) (16 * n + (j : Int)) 0 = zCj (r.2 13) n (fun _ => 0) ((j : Int) + 1) from zCj_s _ n (fun _ => 0) (by omega), show (j : Int) + 1 = ((j + 1 : Nat) : Int) by omega]
  · rfl
  · unfold zfu; omega
theorem S_cost {q r : zSt} {n row : Int} {V : Int → Int} (hq : zQs q n) (hr : zRq q r n row V) (hwf : zRow V n) :
    ∃ C C' v, f_Sl_costsOf row q = some (v, zSq q (zLf q row n) C) ∧ f_Rf_costOf row r = some (v, uA r 13 C') ∧ 0 ≤ v ∧ v ≤ 1000 := by
  have hr' := hr
  have hq' := hq
  obtain ⟨hZ, hn', hrow, h1, h2, h3⟩ := hr
  obtain ⟨h6, hd1, h4, h5, hn⟩ := hq
  have hn2 : 4 ≤ n ∧ n ≤ 24 := by rw [← hn]; exact h6.2.2.2.1
  have h13 : r.1 13 0 = 400 := hZ.1.2.2.2.2.2.2.2.2.2.2.2.2.1
  have em : ((n.toNat : Nat) : Int) = n := by omega
  obtain ⟨F, hF⟩ : ∃ F, F = zfl (zul q row) n.toNat := ⟨_, rfl⟩
  obtain ⟨E, hE⟩ : ∃ E, E = zfl V n.toNat := ⟨_, rfl⟩
  obtain ⟨F1, F2, F3⟩ := zfl_spec (zul q row) n.toNat
  obtain ⟨E1, E2, E3⟩ := zfl_spec V n.toNat
  rw [← hF, em] at F1 F2
  rw [← hF] at F3
  rw [← hE, em] at E1 E2
  rw [← hE] at E3
  obtain ⟨K, hK, hK2⟩ : ∃ K, zfu = K + 2 ∧ 100 < K := ⟨999998, rfl, by decide⟩
  -- the last column, where all is drawn
  obtain ⟨C0', hC0'⟩ : ∃ z, z = zCj (r.2 13) n (fun _ => (0 : Int)) 16 := ⟨_, rfl⟩
  have r0 := c_cost0 (row := row) hZ hn'
  rw [← hC0'] at r0
  have c0 := c_38 (E := E) hq' hrow h1 hwf ⟨by omega, Int.le_refl n⟩ F1.2 (C := q.2 4) (fun k a x y => by omega)
  obtain ⟨C0, hC0⟩ : ∃ z, z = zCj (q.2 4) n (fun a => if F ≤ n then (0 : Int) else if V n = -2 then 1000000 else if n < E then zmi (zwr2 V (q.2 4) n a) (zpa n V (zlI q row) (q.2 4) n a) else zmi (zmi (zwr2 V (q.2 4) n a) (zpa n V (zlI q row) (q.2 4) n a)) 3) 16 := ⟨_, rfl⟩
  rw [← hC0] at c0
  have g0 : ∀ a, 0 ≤ a → a < 16 → C0 (16 * n + a) = 0 ∧ C0' (16 * n + a) = 0 := fun a x y => by
    rw [hC0, hC0', zCj_in _ _ _ ⟨x, y⟩, zCj_in _ _ _ ⟨x, y⟩, if_pos F1.2]
    exact ⟨rfl, rfl⟩
  have hce : zCe V n F (n - 1) C0 C0' := by
    refine ⟨fun k a x y z v _ => ?_, fun k a x y z v _ => ?_, fun k a x y z v _ => ?_, fun k a x y => by omega⟩
    · obtain rfl : k = n := by omega
      rw [(g0 a z v).1]; omega
    · obtain rfl : k = n := by omega
      rw [(g0 a z v).2]; omega
    · obtain rfl : k = n := by omega
      rw [(g0 a z v).1, (g0 a z v).2]
  -- the columns before it
  have hp := zloop_pair (f := f_Sl_costsOf_l30 row n F E) (g := f_Rf_costOf_l47 row 0)
    (fun k X Y => ∃ C C', X = (n - 1 - (k : Int), zSq q (zLf q row n) C) ∧ Y = ((if F ≤ n - (k : Int) then 1 else 0), (if E ≤ n - (k : Int) then 1 else 0), n - 1 - (k : Int), uA r 13 C') ∧ zCe V n F (n - 1 - (k : Int)) C C')
    (fun X Y => ∃ C C', X = zSq q (zLf q row n) C ∧ Y = ((if F ≤ 0 then 1 else 0), uA r 13 C') ∧ zCe V n F (-1) C C') n.toNat ?_ ?_ n.toNat 0 (K + 1) zfu (n - 1, zSq q (zLf q row n) C0) (1, 1, n - 1, uA r 13 C0') (by omega) (by omega) (by omega) ⟨C0, C0', by rw [Int.natCast_zero, Int.sub_zero], by rw [Int.natCast_zero, Int.sub_zero, if_pos F1.2, if_pos E1.2]; rw [Int.sub_zero], by rw [Int.natCast_zero, Int.sub_zero]; exact hce⟩
  · obtain ⟨X, Y, p1, p2, C, C', rfl, rfl, p3⟩ := hp
    have cl : zloop (f_Sl_costsOf_l30 row n F E) zfu (n, zSq q (zLf q row n) (q.2 4)) = some (zSq q (zLf q row n) C) := by
      rw [hK, show K + 2 = (K + 1) + 1 from rfl]
      unfold zloop
      have e : f_Sl_costsOf_l30 row n F E (n, zSq q (zLf q row n) (q.2 4)) = some (.inl (n - 1, zSq q (zLf q row n) C0)) := by
        unfold f_Sl_costsOf_l30
        refine iteF (by show ¬ n < 0; omega) (bindS c0 ?_)
        exact inl2 (by show w32 (n + -1) = n - 1; rw [w32i (by omega) (by omega)]; omega) rfl
      rw [e]
      exact p1
    have rl : zloop (f_Rf_costOf_l47 row 0) zfu (1, 1, w32 ((uA r 13 C0').1 0 2 - 1), uA r 13 C0') = some ((if F ≤ 0 then 1 else 0), uA r 13 C') := by
      rw [show w32 ((uA r 13 C0').1 0 2 - 1) = n - 1 by show w32 (r.1 0 2 - 1) = _; rw [hn', w32i (by omega) (by omega)]]
      exact p2
    have cc := c_compare hq' hrow
    rw [← hF] at cc
    have ef : f_Pi_filled row (zsb (zsh 6) (zSq q (zLf q row n) (q.2 4))) = some E := by
      refine (c_filled (q := zsb (zsh 6) (zSq q (zLf q row n) (q.2 4))) h6 hrow).trans ?_
      rw [hE, show (fun c => (zsb (zsh 6) (zSq q (zLf q row n) (q.2 4))).2 1 (row * 24 + c)) = V from funext h1, show (zsb (zsh 6) (zSq q (zLf q row n) (q.2 4))).1 0 3 = n from hn]
    by_cases z : F = 0
    · refine ⟨q.2 4, C', 0, ?_, ?_, by decide, by decide⟩
      · unfold f_Sl_costsOf
        refine bindS (x := n) (congrArg some hn) (bindS cc (iteF (by simpa using z) rfl))
      · unfold f_Rf_costOf
        refine bindS r0 (bindS rl ?_)
        exact iteT (by show ¬ (if F ≤ 0 then (1 : Int) else 0) = 0; rw [if_pos (by omega)]; decide) rfl
    · -- the beginning
      have hl0 : zlI q row (F - 1) = 0 := by
        have := F3 (by omega)
        rcases zlI_ul q row (F - 1) with y | y
        · exact y.1
        · exact absurd y.2 this
      have key : ∀ (d : Nat) (col acc best : Int) (m1 m2 : Nat), F = col + 1 + d → 0 ≤ col → d < m1 → d + 1 < m2 → ((col = 0 ∧ acc = 1000000 ∧ best = 1000000) ∨ (0 < col ∧ 0 ≤ acc ∧ acc ≤ 200 ∧ best = 6 + acc)) →
          ∃ v, zloop (f_Sl_beginning_l5 n (zsb (zsh 0) (zSq q (zLf q row n) C))) m1 (acc, col) = some v ∧ zloop (f_Rf_costOf_l320 row) m2 (best, col, 1, uA r 13 C') = some (6 + v, uA r 13 C') ∧ 0 ≤ v ∧ v ≤ 200 := by
        obtain ⟨p31, p32, p33, p34⟩ := p3
        have step : ∀ (col acc best : Int), 0 ≤ col → col < F → ((col = 0 ∧ acc = 1000000 ∧ best = 1000000) ∨ (0 < col ∧ 0 ≤ acc ∧ acc ≤ 200 ∧ best = 6 + acc)) → ∃ acc', 0 ≤ acc' ∧ acc' ≤ 200 ∧ f_Sl_beginning_l5 n (zsb (zsh 0) (zSq q (zLf q row n) C)) (acc, col) = (if zlI q row col = 0 then some (.inr acc') else some (.inl (acc', col + 1))) ∧ f_Rf_costOf_l320 row (best, col, 1, uA r 13 C') = some (.inl (6 + acc', col + 1, zlI q row col, uA r 13 C')) := by
          intro col acc best d1 d2 d4
          have ew : w32 (col + 1) = col + 1 := w32i (by omega) (by omega)
          have e16 : w32 (16 * col) = 16 * col := w32i (by omega) (by omega)
          have elk : f_Sl_isLikeAt col (zsb (zsh 0) (zSq q (zLf q row n) C)) = some (zlI q row col) := by
            have el : zLf q row n col = zlI q row col := by unfold zLf; rw [if_pos (by omega)]
            refine (c_like (s := zsb (zsh 0) (zSq q (zLf q row n) C)) h5 ⟨d1, by omega⟩ ?_).trans ?_
            · show zLf q row n col = 0 ∨ zLf q row n col = 1
              rw [el]
              rcases zlI_ul q row col with y | y
              · exact Or.inl y.1
              · exact Or.inr y.1
            · exact congrArg some el
          have hcl : ∀ acc', (if C (16 * col) < acc then C (16 * col) else acc) = acc' → f_Sl_beginning_l5 n (zsb (zsh 0) (zSq q (zLf q row n) C)) (acc, col) = (if zlI q row col = 0 then some (.inr acc') else some (.inl (acc', col + 1))) := by
            intro acc' e
            have ecf := c_cf (s := zsb (zsh 0) (zSq q (zLf q row n) C)) h4 (c := col) (a := 0) ⟨d1, by omega⟩ (by decide)
            rw [Int.add_zero] at ecf
            unfold f_Sl_beginning_l5
            refine iteF (by show ¬ n ≤ col; omega) (bindS ecf (bindS elk ?_))
            rw [show (zsb (zsh 0) (zSq q (zLf q row n) C)).2 4 (16 * col) = C (16 * col) from rfl]
            dsimp only
            rw [e, ew]
            by_cases y : zlI q row col = 0
            · rw [if_neg (by simpa using y), if_pos y]
            · rw [if_pos y, if_neg y]
          by_cases y : V col = -2
          · have hc0 : 0 < col := by
              by_cases z0 : col = 0
              · rw [z0] at y
                have := (hwf.2 0 (by omega) (by omega)).2.1.mp y
                omega
              · omega
            have e1 := p34 col 0 (by omega) (by omega) (by decide) (by decide) y d2
            rw [Int.add_zero] at e1
            obtain ⟨x1, x2, x3⟩ : 0 ≤ acc ∧ acc ≤ 200 ∧ best = 6 + acc := by omega
            refine ⟨acc, x1, x2, hcl acc (by rw [e1, if_neg (by omega)]), ?_⟩
            unfold f_Rf_costOf_l320
            refine iteF (by show ¬ (1 : Int) = 0; decide) (bindS (c_Rf_at (s := uA r 13 C') (r := row) (c := col) hZ (by omega) (by omega)) (iteT (zRo_in (s := uA r 13 C') hZ hrow ⟨d1, by omega⟩) ?_))
            dsimp only
            rw [show (uA r 13 C').2 1 (zRo (uA r 13 C') row + col) = V col from h2 col d1 (by omega)]
            refine iteF (by simpa using y) (bindS (c_RisLike hr' (k := col) ⟨d1, by omega⟩) ?_)
            rw [ew, x3]
          · have e1 := p33 col 0 (by omega) (by omega) (by decide) (by decide) (fun _ => y)
            have e2 := p31 col 0 (by omega) (by omega) (by decide) (by decide) (fun _ => y)
            rw [Int.add_zero] at e1 e2
            refine ⟨if C (16 * col) < acc then C (16 * col) else acc, by split <;> omega, by split <;> omega, hcl _ rfl, ?_⟩
            unfold f_Rf_costOf_l320
            refine iteF (by show ¬ (1 : Int) = 0; decide) (bindS (c_Rf_at (s := uA r 13 C') (r := row) (c := col) hZ (by omega) (by omega)) (iteT (zRo_in (s := uA r 13 C') hZ hrow ⟨d1, by omega⟩) ?_))
            dsimp only
            rw [show (uA r 13 C').2 1 (zRo (uA r 13 C') row + col) = V col from h2 col d1 (by omega), e16]
            refine iteT y (iteT ⟨by omega, by show _ < r.1 13 0; omega⟩ ?_)
            show (f_Rf_lesser best (w32 (6 + C' (16 * col)))).bind _ = _
            rw [← e1, w32i (x := 6 + C (16 * col)) (by omega) (by omega)]
            refine bindS (c_lesser _ _) (bindS (c_RisLike hr' (k := col) ⟨d1, by omega⟩) ?_)
            rw [ew, show (if best < 6 + C (16 * col) then best else 6 + C (16 * col)) = 6 + (if C (16 * col) < acc then C (16 * col) else acc) by split <;> split <;> omega]
        intro d
        induction d with
        | zero =>
          intro col acc best m1 m2 d0 d1 d2 d3 d4
          obtain ⟨m1, rfl⟩ : ∃ i, m1 = i + 1 := ⟨m1 - 1, by omega⟩
          obtain ⟨m2, rfl⟩ : ∃ i, m2 = i + 2 := ⟨m2 - 2, by omega⟩
          obtain ⟨acc', s1, s2, s3, s4⟩ := step col acc best d1 (by omega) d4
          rw [show col = F - 1 by omega, hl0, if_pos rfl] at s3
          rw [show col = F - 1 by omega, hl0] at s4
          refine ⟨acc', ?_, ?_, s1, s2⟩
          · unfold zloop
            rw [show col = F - 1 by omega, s3]
            rfl
          · unfold zloop
            rw [show col = F - 1 by omega, s4]
            rfl
        | succ d ih =>
          intro col acc best m1 m2 d0 d1 d2 d3 d4
          obtain ⟨m1, rfl⟩ : ∃ i, m1 = i + 1 := ⟨m1 - 1, by omega⟩
          obtain ⟨m2, rfl⟩ : ∃ i, m2 = i + 2 := ⟨m2 - 2, by omega⟩
          obtain ⟨acc', s1, s2, s3, s4⟩ := step col acc best d1 (by omega) d4
          rcases zlI_ul q row col with ⟨y, -⟩ | ⟨y, -⟩
          · rw [y, if_pos rfl] at s3
            rw [y] at s4
            refine ⟨acc', ?_, ?_, s1, s2⟩
            · unfold zloop
              rw [s3]
              rfl
            · unfold zloop
              rw [s4]
              rfl
          · rw [y, if_neg (by decide)] at s3
            rw [y] at s4
            obtain ⟨v, i1, i2, i3⟩ := ih (col + 1) acc' (6 + acc') m1 (m2 + 1) (by omega) (by omega) (by omega) (by omega) (Or.inr ⟨by omega, s1, s2, rfl⟩)
            refine ⟨v, ?_, ?_, i3⟩
            · unfold zloop
              rw [s3]
              exact i1
            · rw [show m2 + 2 = (m2 + 1) + 1 from rfl]
              unfold zloop
              rw [s4]
              exact i2
      obtain ⟨v, v1, v2, v3, v4⟩ := key (F - 1).toNat 0 1000000 1000000 zfu zfu (by omega) (by omega) (by omega) (by omega) (Or.inl ⟨rfl, rfl, rfl⟩)
      refine ⟨C, C', 6 + v, ?_, ?_, by omega, by omega⟩
      · unfold f_Sl_costsOf
        refine bindS (x := n) (congrArg some hn) (bindS cc (iteT z (bindS ef (bindS cl ?_))))
        unfold f_Sl_beginning
        refine bindS v1 ?_
        rw [w32i (by omega) (by omega)]
      · unfold f_Rf_costOf
        refine bindS r0 (bindS rl ?_)
        exact iteF (by show ¬ ¬ (if F ≤ 0 then (1 : Int) else 0) = 0; rw [if_neg (by omega)]; decide) (bindS v2 rfl)
  · rintro k X Y hk ⟨C, C', rfl, rfl, k1, k2, k3, k4⟩
    obtain ⟨c, hc⟩ : ∃ c, c = n - 1 - (k : Int) := ⟨_, rfl⟩
    rw [← hc] at k1 k2 k3 k4
    rw [← hc, show n - (k : Int) = c + 1 by omega]
    have hc1 : 0 ≤ c ∧ c < n := by omega
    have ca := c_38 (E := E) hq' hrow h1 hwf ⟨hc1.1, by omega⟩ F1.2 k1
    have epush : n - 1 - ((k + 1 : Nat) : Int) = c - 1 := by omega
    have epush2 : n - ((k + 1 : Nat) : Int) = c := by omega
    have ew : w32 (c + -1) = c - 1 := by rw [w32i (by omega) (by omega)]; omega
    -- the flags
    have hal : (if (if F ≤ c + 1 then (1 : Int) else 0) = 0 then (0 : Int) else (if zlI q row c = 0 then 0 else 1)) = if F ≤ c then 1 else 0 := by
      by_cases y : F ≤ c + 1
      · rw [if_pos y, if_neg (by decide)]
        rcases zlI_ul q row c with z | z
        · rw [z.1, if_pos rfl, if_neg]
          intro e
          have := F2 c e hc1.2
          omega
        · rw [z.1, if_neg (by decide), if_pos]
          by_cases e : F = c + 1
          · have := F3 (by omega)
            rw [e, show c + 1 - 1 = c by omega] at this
            exact absurd z.2 this
          · omega
      · rw [if_neg y, if_pos rfl, if_neg (by omega)]
    have hae : (if (if E ≤ c + 1 then (1 : Int) else 0) = 0 then (0 : Int) else (if ¬ V c = 0 then 0 else 1)) = if E ≤ c then 1 else 0 := by
      by_cases y : E ≤ c + 1
      · rw [if_pos y, if_neg (by decide)]
        by_cases z : V c = 0
        · rw [if_neg (by simpa using z), if_pos]
          by_cases e : E = c + 1
          · have := E3 (by omega)
            rw [e, show c + 1 - 1 = c by omega] at this
            exact absurd z this
          · omega
        · rw [if_pos z, if_neg]
          intro e
          exact z (E2 c e hc1.2)
      · rw [if_neg y, if_pos rfl, if_neg (by omega)]
    obtain ⟨al, hal2⟩ : ∃ al, al = (if F ≤ c then (1 : Int) else 0) := ⟨_, rfl⟩
    obtain ⟨ae, hae2⟩ : ∃ ae, ae = (if E ≤ c then (1 : Int) else 0) := ⟨_, rfl⟩
    have hcl : ∀ C2, zloop (f_Sl_costsOf_l38 row n F E c) zfu (0, zSq q (zLf q row n) C) = some (zSq q (zLf q row n) C2) → f_Sl_costsOf_l30 row n F E (c, zSq q (zLf q row n) C) = some (.inl (c - 1, zSq q (zLf q row n) C2)) := by
      intro C2 e
      unfold f_Sl_costsOf_l30
      refine iteF (by show ¬ c < 0; omega) (bindS e ?_)
      exact inl2 ew rfl
    have hrl : ∀ C2, zloop (f_Rf_costOf_l106 row 0 al ae c (V c)) zfu (0, uA r 13 C') = some (uA r 13 C2) → f_Rf_costOf_l47 row 0 ((if F ≤ c + 1 then 1 else 0), (if E ≤ c + 1 then 1 else 0), c, uA r 13 C') = some (.inl (al, ae, c - 1, uA r 13 C2)) := by
      intro C2 e
      unfold f_Rf_costOf_l47
      refine iteF (by show ¬ c < 0; omega) (bindS (c_Rf_at (s := uA r 13 C') (r := row) (c := c) hZ (by omega) (by omega)) (iteT (zRo_in (s := uA r 13 C') hZ hrow ⟨hc1.1, by omega⟩) ?_))
      dsimp only
      rw [show (uA r 13 C').2 1 (zRo (uA r 13 C') row + c) = V c from h2 c hc1.1 (by omega), hae, ← hae2, ew]
      by_cases y : (if F ≤ c + 1 then (1 : Int) else 0) = 0
      · rw [if_pos y] at hal
        have hal0 : al = 0 := by rw [hal2, ← hal]
        rw [hal0] at e ⊢
        exact iteT y (bindS e rfl)
      · rw [if_neg y] at hal
        refine iteF y (bindS (c_RisLike hr' (k := c) ⟨hc1.1, by omega⟩) ?_)
        rw [hal, ← hal2]
        exact bindS e rfl
    by_cases vt : V c = -2
    · -- a tail
      refine ⟨_, _, hcl _ ca, hrl C' ?_, _, C', by rw [epush], by rw [epush, epush2, ← hal2, ← hae2], ?_⟩
      · obtain ⟨J, hJ⟩ : ∃ J, zfu = J + 1 := ⟨K + 1, by omega⟩
        rw [hJ]
        unfold zloop
        have e : f_Rf_costOf_l106 row 0 al ae c (V c) (0, uA r 13 C') = some (.inr (uA r 13 C')) := by
          unfold f_Rf_costOf_l106
          exact iteF (by show ¬ (16 : Int) ≤ 0; decide) (iteT vt rfl)
        rw [e]
        rfl
      · rw [epush]
        refine ⟨fun kk a x y z v t => ?_, fun kk a x y z v t => ?_, fun kk a x y z v t => ?_, fun kk a x y z v t u => ?_⟩
        · have hk2 : c < kk := by
            by_cases e : kk = c
            · rw [e] at t; exact absurd vt (t hc1.2)
            · omega
          rw [zCj_out C c _ 16 hk2 z (by decide)]
          exact k1 kk a hk2 y z v t
        · have hk2 : c < kk := by
            by_cases e : kk = c
            · rw [e] at t; exact absurd vt (t hc1.2)
            · omega
          exact k2 kk a hk2 y z v t
        · have hk2 : c < kk := by
            by_cases e : kk = c
            · rw [e] at t; exact absurd vt (t hc1.2)
            · omega
          rw [zCj_out C c _ 16 hk2 z (by decide)]
          exact k3 kk a hk2 y z v t
        · by_cases e : kk = c
          · rw [e, zCj_in _ _ _ ⟨z, v⟩, if_neg (by omega), if_pos vt]
          · rw [zCj_out C c _ 16 (by omega) z (by decide)]
            exact k4 kk a (by omega) y z v t u
    · -- a sign, or an empty cell
      have cb := c_106 (al := al) (ae := ae) hr' hwf hc1 hn2.2 vt k2
      have eW : ∀ a, zwr2 V C' c a = zwr2 V C c a := fun a => by
        obtain ⟨n1, n2⟩ := hwf.next hc1 vt
        have hzi := za_in (hwf.2 c hc1.1 hc1.2).1 vt
        unfold zwr2
        rw [k3 (c + (if zwd (V c) = 0 then 1 else 2)) (za (V c)) (by split <;> omega) n1 hzi.2.1.1 hzi.2.1.2 n2]
      have eP : ∀ a, 0 ≤ a → a < 16 → zpa n V (zlI q row) C' c a = zpa n V (zlI q row) C c a := fun a x y => by
        unfold zpa
        exact zps_cg n V (zlI q row) _ _ c (fun kk z1 z2 z3 => (k3 kk a z1 (by omega) x y (fun _ => z3)).symm) 24 1000000 c (Int.le_refl _)
      have eV : ∀ a, 0 ≤ a → a < 16 → (if al = 0 then zmi (if ae = 0 then zwr2 V C' c a else zmi (zwr2 V C' c a) 3) (zpa n V (zlI q row) C' c a) else 0) = (if F ≤ c then 0 else if V c = -2 then 1000000 else if c < E then zmi (zwr2 V C c a) (zpa n V (zlI q row) C c a) else zmi (zmi (zwr2 V C c a) (zpa n V (zlI q row) C c a)) 3) := fun a x y => by
        rw [eW, eP a x y, hal2, hae2, if_neg vt]
        by_cases y1 : F ≤ c
        · rw [if_pos y1, if_pos y1, if_neg (by decide)]
        · rw [if_neg y1, if_neg y1, if_pos rfl]
          by_cases y2 : E ≤ c
          · rw [if_pos y2, if_neg (by decide), if_neg (by omega)]
            unfold zmi
            grind
          · rw [if_neg y2, if_pos rfl, if_pos (by omega)]
      have eB : ∀ a, 0 ≤ a → a < 16 → 0 ≤ (if F ≤ c then 0 else if V c = -2 then 1000000 else if c < E then zmi (zwr2 V C c a) (zpa n V (zlI q row) C c a) else zmi (zmi (zwr2 V C c a) (zpa n V (zlI q row) C c a)) 3) ∧ (if F ≤ c then 0 else if V c = -2 then 1000000 else if c < E then zmi (zwr2 V C c a) (zpa n V (zlI q row) C c a) else zmi (zmi (zwr2 V C c a) (zpa n V (zlI q row) C c a)) 3) ≤ 8 * (n - c) := fun a x y => by
        have h1 := zwr2_in (a := a) hwf hn2.2 hc1 vt k1
        have h2 := zpa_in (a := a) (lk := zlI q row) hc1 ⟨x, y⟩ hn2.2 k1
        have h3 := zmi_l (zwr2 V C c a) (zpa n V (zlI q row) C c a)
        have h4 := zmi_l (zmi (zwr2 V C c a) (zpa n V (zlI q row) C c a)) 3
        rw [if_neg vt]
        by_cases y1 : F ≤ c
        · rw [if_pos y1]; omega
        · rw [if_neg y1]
          by_cases y2 : c < E
          · rw [if_pos y2]; omega
          · rw [if_neg y2]; omega
      refine ⟨_, _, hcl _ ca, hrl _ cb, _, _, by rw [epush], by rw [epush, epush2, ← hal2, ← hae2], ?_⟩
      rw [epush]
      refine ⟨fun kk a x y z v t => ?_, fun kk a x y z v t => ?_, fun kk a x y z v t => ?_, fun kk a x y z v t u => ?_⟩
      · by_cases e : kk = c
        · rw [e, zCj_in _ _ _ ⟨z, v⟩]
          exact eB a z v
        · rw [zCj_out C c _ 16 (by omega) z (by decide)]
          exact k1 kk a (by omega) y z v t
      · by_cases e : kk = c
        · rw [e, zCj_in _ _ _ ⟨z, v⟩, eV a z v]
          exact eB a z v
        · rw [zCj_out C' c _ 16 (by omega) z (by decide)]
          exact k2 kk a (by omega) y z v t
      · by_cases e : kk = c
        · rw [e, zCj_in _ _ _ ⟨z, v⟩, zCj_in _ _ _ ⟨z, v⟩, eV a z v]
        · rw [zCj_out C c _ 16 (by omega) z (by decide), zCj_out C' c _ 16 (by omega) z (by decide)]
          exact k3 kk a (by omega) y z v t
      · by_cases e : kk = c
        · rw [e] at t
          exact absurd t vt
        · rw [zCj_out C c _ 16 (by omega) z (by decide)]
          exact k4 kk a (by omega) y z v t u
  · rintro X Y ⟨C, C', rfl, rfl, k1⟩
    have e1 : n - 1 - ((n.toNat : Nat) : Int) = -1 := by omega
    have e2 : n - ((n.toNat : Nat) : Int) = 0 := by omega
    rw [e1] at k1 ⊢
    rw [e2]
    refine ⟨_, _, iteT (by show (-1 : Int) < 0; decide) rfl, iteT (by show (-1 : Int) < 0; decide) rfl, C, C', rfl, rfl, k1⟩
