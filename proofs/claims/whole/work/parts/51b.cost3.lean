/-! ===== what a row costs: the reference's column; all columns; the beginning ===== -/
theorem zps_end (n : Int) (V lk C : Int → Int) (j : Nat) (a k : Int) (h : n ≤ k + 1) : zps n V lk C j a k = a := by
  cases j with
  | zero => rfl
  | succ j =>
    unfold zps
    rw [if_pos h]
section ZRC2
variable {q r : zSt} {n row c : Int} {V C : Int → Int}
/-- the reference beside the class's nine cells -/
def zRq (q r : zSt) (n row : Int) (V : Int → Int) : Prop := zRZ r ∧ r.1 0 2 = n ∧ (0 ≤ row ∧ row < 12) ∧ (∀ k, q.2 7 (row * 24 + k) = V k) ∧ (∀ k, 0 ≤ k → k < 24 → r.2 1 (zRo r row + k) = V k) ∧ ∀ k, 0 ≤ k → k < 24 → q.2 2 (row * 24 + k) = r.2 12 (24 * row + k)
theorem c_RisLike (h : zRq q r n row V) {k : Int} (hk : 0 ≤ k ∧ k < 24) : f_Rf_isLike row k (uA r 13 C) = some (zlI q row k) := by
  obtain ⟨hZ, hn, hrow, h1, h2, h3⟩ := h
  have e1 : w32 (w32 (24 * row) + k) = 24 * row + k := by rw [w32i (x := 24 * row) (by omega) (by omega), w32i (by omega) (by omega)]
  unfold f_Rf_isLike
  refine bindS (c_Rf_at (s := uA r 13 C) hZ (by omega) (by omega)) ?_
  rw [e1]
  have h12 : r.1 12 0 = 288 := hZ.1.2.2.2.2.2.2.2.2.2.2.2.1
  refine iteT (zRo_in (s := uA r 13 C) hZ hrow hk) (iteT ⟨by omega, by show _ < r.1 12 0; omega⟩ ?_)
  show some (if ¬ r.2 1 (zRo r row + k) = r.2 12 (24 * row + k) then (0 : Int) else 1) = _
  unfold zlI
  rw [h1, h3 k hk.1 hk.2, h2 k hk.1 hk.2]
  by_cases y : V k = r.2 12 (24 * row + k)
  · rw [if_neg (by simpa using y), if_pos y]
  · rw [if_pos y, if_neg y]
theorem c_lesser2 (a b : Int) : f_Rf_lesser a b = some (zmi a b) := by
  rw [c_lesser]
  unfold zmi
  grind
theorem c_198 {c2 c3 c4 c5 v a acc : Int} (h : zRq q r n row V) (hc : 0 ≤ c ∧ c < n) (hn : n ≤ 24) (ha : 0 ≤ a ∧ a < 16) (hacc : 0 ≤ acc ∧ acc ≤ 1000000) (hC : zCw V n c C) :
    zloop (f_Rf_costOf_l198 row c2 c3 c4 c5 v a) zfu (acc, c, uA r 13 C) = some (zps n V (zlI q row) (fun k => C (16 * k + a)) 24 acc c, uA r 13 C) := by
  have h' := h
  obtain ⟨hZ, hn', hrow, h1, h2, h3⟩ := h
  have h13 : r.1 13 0 = 400 := hZ.1.2.2.2.2.2.2.2.2.2.2.2.2.1
  have key : ∀ (j m : Nat) (acc k : Int), c ≤ k → k < n → n ≤ k + 1 + j → j + 2 ≤ m → 0 ≤ acc → acc ≤ 1000000 → zloop (f_Rf_costOf_l198 row c2 c3 c4 c5 v a) m (acc, k, uA r 13 C) = some (zps n V (zlI q row) (fun k => C (16 * k + a)) j acc k, uA r 13 C) := by
    intro j
    induction j with
    | zero =>
      intro m acc k k0 k1 k2 k3 k4 k5
      obtain ⟨m, rfl⟩ : ∃ i, m = i + 2 := ⟨m - 2, by omega⟩
      have e0 : f_Rf_costOf_l198 row c2 c3 c4 c5 v a (acc, k, uA r 13 C) = if zlI q row k = 0 then some (.inr (acc, uA r 13 C)) else some (.inl (acc, k + 1, uA r 13 C)) := by
        unfold f_Rf_costOf_l198
        refine iteF (by show ¬ r.1 0 2 ≤ k; omega) (bindS (c_RisLike h' (k := k) ⟨by omega, by omega⟩) ?_)
        by_cases y : zlI q row k = 0
        · rw [if_pos y, if_pos y]
        · rw [if_neg y, if_neg y]
          dsimp only
          rw [w32i (x := k + 1) (by omega) (by omega)]
          exact iteT (by show r.1 0 2 ≤ k + 1; omega) rfl
      unfold zloop
      rw [e0]
      by_cases y : zlI q row k = 0
      · rw [if_pos y]; rfl
      · rw [if_neg y]
        simp only [Option.bind_some]
        have e1 : f_Rf_costOf_l198 row c2 c3 c4 c5 v a (acc, k + 1, uA r 13 C) = some (.inr (acc, uA r 13 C)) := by
          unfold f_Rf_costOf_l198
          exact iteT (by show r.1 0 2 ≤ k + 1; omega) rfl
        unfold zloop
        rw [e1]
        rfl
    | succ j ih =>
      intro m acc k k0 k1 k2 k3 k4 k5
      obtain ⟨m, rfl⟩ : ∃ i, m = i + 1 := ⟨m - 1, by omega⟩
      by_cases y1 : n ≤ k + 1
      · have := ih (m + 1) acc k k0 k1 (by omega) (by omega) k4 k5
        rw [this, zps_end _ _ _ _ _ _ _ y1, zps_end _ _ _ _ _ _ _ y1]
      · have e0 : f_Rf_costOf_l198 row c2 c3 c4 c5 v a (acc, k, uA r 13 C) = if zlI q row k = 0 then some (.inr (acc, uA r 13 C)) else some (.inl ((if V (k + 1) = -2 then acc else zmi acc (4 + C (16 * (k + 1) + a))), k + 1, uA r 13 C)) := by
          unfold f_Rf_costOf_l198
          refine iteF (by show ¬ r.1 0 2 ≤ k; omega) (bindS (c_RisLike h' (k := k) ⟨by omega, by omega⟩) ?_)
          by_cases y : zlI q row k = 0
          · rw [if_pos y, if_pos y]
          · rw [if_neg y, if_neg y]
            dsimp only
            rw [w32i (x := k + 1) (by omega) (by omega)]
            refine iteF (by show ¬ r.1 0 2 ≤ k + 1; omega) (bindS (c_Rf_at (s := uA r 13 C) hZ (by omega) (by omega)) (iteT (zRo_in (s := uA r 13 C) hZ hrow ⟨by omega, by omega⟩) ?_))
            show (if r.2 1 (zRo r row + (k + 1)) = -2 then _ else _) = _
            rw [h2 (k + 1) (by omega) (by omega)]
            by_cases y3 : V (k + 1) = -2
            · rw [if_pos y3, if_pos y3]
            · have hh := hC (k + 1) a (by omega) (by omega) ha.1 ha.2 (fun _ => y3)
              rw [if_neg y3, if_neg y3, (zw16 ⟨by omega, by omega⟩ ha).2]
              refine iteT ⟨by omega, by show _ < r.1 13 0; omega⟩ ?_
              show (f_Rf_lesser acc (w32 (4 + C (16 * (k + 1) + a)))).bind _ = _
              rw [w32i (x := 4 + C (16 * (k + 1) + a)) (by omega) (by omega)]
              exact bindS (c_lesser2 _ _) rfl
        unfold zloop
        unfold zps
        rw [e0, if_neg y1]
        by_cases y : zlI q row k = 0
        · rw [if_pos y, if_pos y]; rfl
        · rw [if_neg y, if_neg y]
          simp only [Option.bind_some]
          by_cases y3 : V (k + 1) = -2
          · rw [if_pos y3]
            exact ih m acc (k + 1) (by omega) (by omega) (by omega) (by omega) k4 k5
          · have hh := hC (k + 1) a (by omega) (by omega) ha.1 ha.2 (fun _ => y3)
            have hz := zmi_l acc (4 + C (16 * (k + 1) + a))
            rw [if_neg y3]
            exact ih m _ (k + 1) (by omega) (by omega) (by omega) (by omega) (by omega) (by omega)
  exact key 24 zfu acc c (Int.le_refl _) hc.2 (by omega) (by decide) hacc.1 hacc.2
theorem c_106 {al ae : Int} (h : zRq q r n row V) (hwf : zRow V n) (hc : 0 ≤ c ∧ c < n) (hn : n ≤ 24) (hv : V c ≠ -2) (hC : zCw V n c C) :
    zloop (f_Rf_costOf_l106 row 0 al ae c (V c)) zfu (0, uA r 13 C) = some (uA r 13 (zCj C c (fun a => if al = 0 then zmi (if ae = 0 then zwr2 V C c a else zmi (zwr2 V C c a) 3) (zpa n V (zlI q row) C c a) else 0) 16)) := by
  have h' := h
  obtain ⟨hZ, hn', hrow, h1, h2, h3⟩ := h
  have h13 : r.1 13 0 = 400 := hZ.1.2.2.2.2.2.2.2.2.2.2.2.2.1
  obtain ⟨val, hval⟩ : ∃ val : Int → Int, val = fun a => if al = 0 then zmi (if ae = 0 then zwr2 V C c a else zmi (zwr2 V C c a) 3) (zpa n V (zlI q row) C c a) else 0 := ⟨_, rfl⟩
  rw [← hval]
  have hvl := (hwf.2 c hc.1 hc.2).1
  have hnx := hwf.next hc hv
  have hzi := za_in hvl hv
  have hl := zloop_up (step := f_Rf_costOf_l106 row 0 al ae c (V c)) (r := uA r 13 (zCj C c val 16)) 16 (n := zfu) (fun j => ((j : Int), uA r 13 (zCj C c val (j : Int)))) (fun j hj => ?_) ?_ ?_
  · simp only [Int.natCast_zero, zCj_0] at hl
    have e : uA r 13 C = uA r 13 C := rfl
    exact hl
  · have hwi := zwr2_in (a := (j : Int)) hwf hn hc hv hC
    have hpi := zpa_in (a := (j : Int)) (lk := zlI q row) hc ⟨by omega, by omega⟩ hn hC
    have hcn2 : zCw V n c (zCj C c val (j : Int)) := fun k a k1 k2 k3 k4 k5 => by
      rw [zCj_out C c val _ k1 k3 (by omega)]
      exact hC k a k1 k2 k3 k4 k5
    have ew : w32 ((j : Int) + 1) = ((j + 1 : Nat) : Int) := by rw [w32i (by omega) (by omega)]; omega
    have e8 := hC (c + (if zwd (V c) = 0 then 1 else 2)) (za (V c)) (by split <;> omega) hnx.1 hzi.2.1.1 hzi.2.1.2 hnx.2
    have ewd : f_Rf_wide row c (uA r 13 (zCj C c val (j : Int))) = some (if zwd (V c) = 0 then 1 else 2) := by
      unfold f_Rf_wide
      refine bindS (c_Rf_at (s := uA r 13 (zCj C c val (j : Int))) hZ (by omega) (by omega)) (iteT (zRo_in (s := uA r 13 (zCj C c val (j : Int))) hZ hrow ⟨hc.1, by omega⟩) ?_)
      show (f_Rf_isWide (r.2 1 (zRo r row + c))).bind _ = _
      rw [h2 c hc.1 (by omega)]
      exact bindS (c_RisWide hvl) rfl
    obtain ⟨wd, hwd⟩ : ∃ wd, wd = (if zwd (V c) = 0 then (1 : Int) else 2) := ⟨_, rfl⟩
    have hwd' : 1 ≤ wd ∧ wd ≤ 2 := by rw [hwd]; split <;> omega
    rw [← hwd] at hnx e8 ewd
    have ec1 : w32 (c + wd) = c + wd := w32i (by omega) (by omega)
    have eix : w32 (w32 (16 * w32 (c + wd)) + wDiv (wRem (V c) 100000) 1000) = 16 * (c + wd) + za (V c) := by
      rw [ec1]
      exact (zw16 (c := c + wd) ⟨by omega, by omega⟩ hzi.2.1).2
    have eC : zCj C c val (j : Int) (16 * (c + wd) + za (V c)) = C (16 * (c + wd) + za (V c)) := zCj_out C c val _ (by omega) hzi.2.1.1 (by omega)
    have eW : w32 (w32 (w32 (1 + wDiv (V c) 100000) + (if ¬ wDiv (wRem (V c) 100000) 1000 = (j : Int) then 4 else 0)) + C (16 * (c + wd) + za (V c))) = zwr2 V C c (j : Int) := by
      have e0 : (if ¬ wDiv (wRem (V c) 100000) 1000 = (j : Int) then (4 : Int) else 0) = if za (V c) = (j : Int) then 0 else 4 := by
        by_cases y : za (V c) = (j : Int)
        · rw [if_pos y]
          exact if_neg (fun e => e y)
        · rw [if_neg y]
          exact if_pos y
      have e1 : wDiv (V c) 100000 = zmk (V c) := rfl
      rw [e0, e1]
      unfold zwr2
      rw [← hwd, w32i (x := 1 + zmk (V c)) (by omega) (by omega), w32i (x := 1 + zmk (V c) + _) (by split <;> omega) (by split <;> omega), w32i (by split <;> omega) (by split <;> omega)]
    obtain ⟨acc, hacc⟩ : ∃ acc, acc = (if ae = 0 then zwr2 V C c (j : Int) else zmi (zwr2 V C c (j : Int)) 3) := ⟨_, rfl⟩
    have hacc' : 0 ≤ acc ∧ acc ≤ 1000000 := by
      have := zmi_l (zwr2 V C c (j : Int)) 3
      rw [hacc]
      split <;> omega
    have e198 := c_198 (c2 := 0) (c3 := al) (c4 := ae) (c5 := c) (v := V c) (acc := acc) h' hc hn (a := (j : Int)) ⟨by omega, by omega⟩ hacc' hcn2
    have ezp : zps n V (zlI q row) (fun k => zCj C c val (j : Int) (16 * k + (j : Int))) 24 acc c = zmi acc (zpa n V (zlI q row) C c (j : Int)) := by
      rw [zps_cg n V (zlI q row) _ (fun k => C (16 * k + (j : Int))) c (fun k a b d => zCj_out C c val _ a (by omega) (by omega)) 24 acc c (Int.le_refl _)]
      have e1 : acc = zmi acc 1000000 := by unfold zmi; split <;> omega
      rw [show zps n V (zlI q row) (fun k => C (16 * k + (j : Int))) 24 acc c = zps n V (zlI q row) (fun k => C (16 * k + (j : Int))) 24 (zmi acc 1000000) c by rw [← e1], zps_min]
      rfl
    rw [ezp] at e198
    unfold f_Rf_costOf_l106
    refine iteF (by show ¬ (16 : Int) ≤ (j : Int); omega) (iteF hv (bindS ewd ?_))
    dsimp only
    rw [eix]
    refine iteT ⟨by omega, by show _ < r.1 13 0; omega⟩ ?_
    show ((zloop (f_Rf_costOf_l198 row 0 al ae c (V c) (j : Int)) zfu ((if ae = 0 then w32 (w32 (w32 (1 + wDiv (V c) 100000) + (if ¬ wDiv (wRem (V c) 100000) 1000 = (j : Int) then 4 else 0)) + zCj C c val (j : Int) (16 * (c + wd) + za (V c))) else if w32 (w32 (w32 (1 + wDiv (V c) 100000) + (if ¬ wDiv (wRem (V c) 100000) 1000 = (j : Int) then 4 else 0)) + zCj C c val (j : Int) (16 * (c + wd) + za (V c))) ≤ 3 then w32 (w32 (w32 (1 + wDiv (V c) 100000) + (if ¬ wDiv (wRem (V c) 100000) 1000 = (j : Int) then 4 else 0)) + zCj C c val (j : Int) (16 * (c + wd) + za (V c))) else 3), c, uA r 13 (zCj C c val (j : Int)))).bind _) = _
    rw [eC, eW]
    have eacc : (if ae = 0 then zwr2 V C c (j : Int) else if zwr2 V C c (j : Int) ≤ 3 then zwr2 V C c (j : Int) else 3) = acc := by
      rw [hacc]
      unfold zmi
      by_cases y : ae = 0
      · rw [if_pos y, if_pos y]
      · rw [if_neg y, if_neg y]
        split <;> split <;> omega
    rw [eacc]
    refine bindS e198 ?_
    dsimp only
    rw [(zw16 (c := c) ⟨hc.1, by omega⟩ (a := (j : Int)) ⟨by omega, by omega⟩).2]
    refine iteT ⟨by omega, by show _ < r.1 13 0; omega⟩ ?_
    refine stepE ew (fun i => ?_)
    have ev : (if al = 0 then zmi acc (zpa n V (zlI q row) C c (j : Int)) else 0) = val (j : Int) := by
      rw [hval, hacc]
    rw [ev, zCj_s _ _ _ (by omega), show (j : Int) + 1 = ((j + 1 : Nat) : Int) by omega]
  · rfl
  · unfold zfu; omega
end ZRC2
