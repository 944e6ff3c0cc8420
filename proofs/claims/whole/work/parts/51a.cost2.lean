/-! ===== what a row costs: a column on both sides ===== -/
theorem zps_lk (n : Int) (V lk lk' C : Int → Int) : ∀ (j : Nat) (a k : Int), (∀ i, k ≤ i → i < n → lk i = lk' i) → zps n V lk C j a k = zps n V lk' C j a k
  | 0, a, k, _ => rfl
  | j + 1, a, k, h => by
    unfold zps
    by_cases q1 : n ≤ k + 1
    · rw [if_pos q1, if_pos q1]
    · rw [if_neg q1, if_neg q1, h k (Int.le_refl _) (by omega)]
      by_cases q2 : lk' k = 0
      · rw [if_pos q2, if_pos q2]
      · rw [if_neg q2, if_neg q2]
        exact zps_lk n V lk lk' C j _ (k + 1) (fun i x y => h i (by omega) y)
def zCj (C : Int → Int) (c : Int) (val : Int → Int) (j : Int) : Int → Int := fun i => if 16 * c ≤ i ∧ i < 16 * c + j then val (i - 16 * c) else C i
theorem zCj_0 (C : Int → Int) (c : Int) (val : Int → Int) : zCj C c val 0 = C := by
  funext i
  unfold zCj
  rw [if_neg (by omega)]
theorem zCj_s (C : Int → Int) (c : Int) (val : Int → Int) {j : Int} (hj : 0 ≤ j) : zup (zCj C c val j) (16 * c + j) (val j) = zCj C c val (j + 1) := by
  funext i
  unfold zup zCj
  by_cases y : i = 16 * c + j
  · rw [if_pos y, if_pos (by omega), show i - 16 * c = j by omega]
  · rw [if_neg y]
    by_cases y2 : 16 * c ≤ i ∧ i < 16 * c + j
    · rw [if_pos y2, if_pos (by omega)]
    · rw [if_neg y2, if_neg (by omega)]
theorem zCj_out (C : Int → Int) (c : Int) (val : Int → Int) (j : Int) {k a : Int} (hk : c < k) (ha : 0 ≤ a) (hj : j ≤ 16) : zCj C c val j (16 * k + a) = C (16 * k + a) := by
  unfold zCj
  rw [if_neg (by omega)]
theorem zCj_in (C : Int → Int) (c : Int) (val : Int → Int) {a : Int} (ha : 0 ≤ a ∧ a < 16) : zCj C c val 16 (16 * c + a) = val a := by
  unfold zCj
  rw [if_pos (by omega), show 16 * c + a - 16 * c = a by omega]
/-- writing a cell, and then the rest -/
def zwr2 (V C : Int → Int) (c a : Int) : Int := 1 + zmk (V c) + (if za (V c) = a then 0 else 4) + C (16 * (c + (if zwd (V c) = 0 then 1 else 2)) + za (V c))
def zpa (n : Int) (V lk C : Int → Int) (c a : Int) : Int := zps n V lk (fun k => C (16 * k + a)) 24 1000000 c
/-- the costs behind a column are known -/
def zCw (V : Int → Int) (n c : Int) (C : Int → Int) : Prop := ∀ k a, c < k → k ≤ n → 0 ≤ a → a < 16 → (k < n → V k ≠ -2) → 0 ≤ C (16 * k + a) ∧ C (16 * k + a) ≤ 8 * (n - k)
theorem zRow.next {V : Int → Int} {n c : Int} (h : zRow V n) (hc : 0 ≤ c ∧ c < n) (hv : V c ≠ -2) : c + (if zwd (V c) = 0 then 1 else 2) ≤ n ∧ (c + (if zwd (V c) = 0 then 1 else 2) < n → V (c + (if zwd (V c) = 0 then 1 else 2)) ≠ -2) := by
  obtain ⟨h1, h2, h3⟩ := h.2 c hc.1 hc.2
  rcases zwd_01 (V c) with q | q
  · rw [q, if_pos rfl]
    refine ⟨by omega, fun y z => ?_⟩
    have := ((h.2 (c + 1) (by omega) y).2.1.mp z).2
    rw [show c + 1 - 1 = c by omega] at this
    rw [zwd_1.mpr this] at q
    cases q
  · rw [q, if_neg (by decide)]
    have hw := h3 (zwd_1.mp q)
    refine ⟨by omega, fun y z => ?_⟩
    have e1 := ((h.2 (c + 2) (by omega) y).2.1.mp z).2
    rw [show c + 2 - 1 = c + 1 by omega] at e1
    have e2 := (h.2 (c + 1) (by omega) hw).2.1
    rw [show c + 1 - 1 = c by omega] at e2
    rw [e2.mpr ⟨by omega, zwd_1.mp q⟩] at e1
    exact absurd e1 zWd_t
theorem zwr2_in {V C : Int → Int} {n c a : Int} (h : zRow V n) (hn : n ≤ 24) (hc : 0 ≤ c ∧ c < n) (hv : V c ≠ -2) (hC : zCw V n c C) : 0 ≤ zwr2 V C c a ∧ zwr2 V C c a ≤ 8 * (n - c) := by
  obtain ⟨h1, h2, h3⟩ := za_in (h.2 c hc.1 hc.2).1 hv
  obtain ⟨e1, e2⟩ := h.next hc hv
  have e3 := hC (c + (if zwd (V c) = 0 then 1 else 2)) (za (V c)) (by split <;> omega) e1 h2.1 h2.2 e2
  unfold zwr2
  have e4 : 1 ≤ (if zwd (V c) = 0 then (1 : Int) else 2) := by split <;> omega
  generalize (if zwd (V c) = 0 then (1 : Int) else 2) = d at *
  split <;> omega
theorem zpa_in {V lk C : Int → Int} {n c a : Int} (hc : 0 ≤ c ∧ c < n) (ha : 0 ≤ a ∧ a < 16) (hn : n ≤ 24) (hC : zCw V n c C) : 0 ≤ zpa n V lk C c a ∧ zpa n V lk C c a ≤ 1000000 := by
  unfold zpa
  have e := zps_cg n V lk (fun k => C (16 * k + a)) (fun k => if c < k ∧ k < n ∧ V k ≠ -2 then C (16 * k + a) else 0) c (fun k x y z => by rw [if_pos ⟨x, y, z⟩]) 24 1000000 c (Int.le_refl _)
  rw [e]
  refine zps_in n V lk _ (fun k x y => ?_) 24 1000000 c (by decide)
  split
  · rename_i z
    exact (hC k a z.1 (by omega) ha.1 ha.2 (fun _ => z.2.2)).1
  · exact Int.le_refl _
/-- the class at a column -/
theorem c_38 {q : zSt} {n row c F E : Int} {V C : Int → Int} (h : zQs q n) (hrow : 0 ≤ row ∧ row < 12) (hV : ∀ k, q.2 7 (row * 24 + k) = V k) (hwf : zRow V n) (hc : 0 ≤ c ∧ c ≤ n) (hF : F ≤ n) (hC : zCw V n c C) :
    zloop (f_Sl_costsOf_l38 row n F E c) zfu (0, zSq q (zLf q row n) C) = some (zSq q (zLf q row n) (zCj C c (fun a => if F ≤ c then 0 else if V c = -2 then 1000000 else if c < E then zmi (zwr2 V C c a) (zpa n V (zlI q row) C c a) else zmi (zmi (zwr2 V C c a) (zpa n V (zlI q row) C c a)) 3) 16)) := by
  have h' := h
  obtain ⟨h6, h1, h4, h5, hn⟩ := h
  have hn2 : 4 ≤ n ∧ n ≤ 24 := by rw [← hn]; exact h6.2.2.2.1
  obtain ⟨val, hval⟩ : ∃ val : Int → Int, val = fun a => if F ≤ c then 0 else if V c = -2 then 1000000 else if c < E then zmi (zwr2 V C c a) (zpa n V (zlI q row) C c a) else zmi (zmi (zwr2 V C c a) (zpa n V (zlI q row) C c a)) 3 := ⟨_, rfl⟩
  rw [← hval]
  have hl := zloop_up (step := f_Sl_costsOf_l38 row n F E c) (r := zSq q (zLf q row n) (zCj C c val 16)) 16 (n := zfu) (fun j => ((j : Int), zSq q (zLf q row n) (zCj C c val (j : Int)))) (fun j hj => ?_) ?_ ?_
  · simp only [Int.natCast_zero, zCj_0] at hl
    exact hl
  · have ew : w32 ((j : Int) + 1) = ((j + 1 : Nat) : Int) := by rw [w32i (by omega) (by omega)]; omega
    have fin : ∀ v, v = val (j : Int) → ((f_Sl_keepCosts c (j : Int) v (zsb (zsh 0) (zSq q (zLf q row n) (zCj C c val (j : Int))))).bind fun x10 => some (Sum.inl (w32 ((j : Int) + 1), zpb (zsh 0) 6 (zSq q (zLf q row n) (zCj C c val (j : Int))) x10.2)) : Option ((Int × zSt) ⊕ zSt)) = some (.inl (((j + 1 : Nat) : Int), zSq q (zLf q row n) (zCj C c val ((j + 1 : Nat) : Int)))) := by
      intro v hv
      refine bindS (c_kc h4 ⟨hc.1, by omega⟩ ⟨by omega, by omega⟩) ?_
      rw [zpb_0 6 _ 4 _ _ (by decide), zSq_4, hv, zCj_s _ _ _ (by omega), ew, show (j : Int) + 1 = ((j + 1 : Nat) : Int) by omega]
    unfold f_Sl_costsOf_l38
    refine iteF (by show ¬ (16 : Int) ≤ (j : Int); omega) ?_
    by_cases y1 : F ≤ c
    · refine iteF (by omega) (fin 0 ?_)
      rw [hval]
      dsimp only
      rw [if_pos y1]
    · have hcn : c < n := by omega
      have ea : ∀ X, f_Pi_at row c (zsb (zsh 6) (zSq q X (zCj C c val (j : Int)))) = some (V c) := fun X => by
        refine (c_Pi_at (p := zsb (zsh 6) (zSq q X _)) h6 row c).trans ?_
        unfold zat
        rw [if_pos (by omega)]
        exact congrArg some (hV c)
      refine iteT (by omega) (bindS (ea _) ?_)
      by_cases y2 : V c = -2
      · refine iteT y2 (fin 1000000 ?_)
        rw [hval]
        dsimp only
        rw [if_neg y1, if_pos y2]
      · refine iteF y2 (bindS (ea _) ?_)
        have hvl := (hwf.2 c hc.1 hcn).1
        have hnx := hwf.next ⟨hc.1, hcn⟩ y2
        have hzi := za_in hvl y2
        have hwi := zwr2_in (a := (j : Int)) hwf hn2.2 ⟨hc.1, hcn⟩ y2 hC
        have hpi := zpa_in (a := (j : Int)) (lk := zlI q row) ⟨hc.1, hcn⟩ ⟨by omega, by omega⟩ hn2.2 hC
        have hcn2 : zCw V n c (zCj C c val (j : Int)) := fun k a k1 k2 k3 k4 k5 => by
          rw [zCj_out C c val _ k1 k3 (by omega)]
          exact hC k a k1 k2 k3 k4 k5
        have e7 : f_Sl_writing (V c) c (j : Int) (zsb (zsh 0) (zSq q (zLf q row n) (zCj C c val (j : Int)))) = some (zwr2 V C c (j : Int)) := by
          have e8 := hcn2 (c + (if zwd (V c) = 0 then 1 else 2)) (za (V c)) (by split <;> omega) hnx.1 hzi.2.1.1 hzi.2.1.2 hnx.2
          refine (c_writing (s := zsb (zsh 0) (zSq q (zLf q row n) (zCj C c val (j : Int)))) h4 hvl y2 ⟨hc.1, by have := hnx.1; omega⟩ ⟨e8.1, ?_⟩).trans ?_
          · have := e8.2
            show zCj C c val (j : Int) _ ≤ 1000000
            split at this <;> split <;> omega
          · show some (1 + zmk _ + _ + zCj C c val (j : Int) _) = _
            rw [zCj_out C c val _ (by split <;> omega) hzi.2.1.1 (by omega)]
            rfl
        have e9 : f_Sl_passing row c (j : Int) (zSq q (zLf q row n) (zCj C c val (j : Int))) = some (zpa n V (zlI q row) C c (j : Int)) := by
          refine (c_passing h' hrow ⟨hc.1, hcn⟩ ⟨by omega, by omega⟩ (fun k a b => ?_) (fun k a b d => ?_)).trans ?_
          · unfold zLf
            rw [if_pos ⟨a, b⟩]
            rcases zlI_ul q row k with z | z
            · exact Or.inl z.1
            · exact Or.inr z.1
          · rw [hV] at d
            have := hcn2 k (j : Int) a (by omega) (by omega) (by omega) (fun _ => d)
            omega
          · unfold zpa
            rw [show (fun k => q.2 7 (row * 24 + k)) = V from funext hV]
            rw [zps_lk n _ (zLf q row n) (zlI q row) _ 24 1000000 c (fun i a b => by unfold zLf; rw [if_pos (by omega)])]
            rw [zps_cg n _ (zlI q row) _ (fun k => C (16 * k + (j : Int))) c (fun k a b d => zCj_out C c val _ a (by omega) (by omega)) 24 1000000 c (Int.le_refl _)]
        refine bindS e7 (bindS e9 ?_)
        by_cases y3 : c < E
        · refine iteT y3 (fin _ ?_)
          rw [hval]
          dsimp only
          rw [if_neg y1, if_neg y2, if_pos y3]
          rfl
        · refine iteF y3 (fin _ ?_)
          rw [hval]
          dsimp only
          rw [if_neg y1, if_neg y2, if_neg y3]
          rfl
  · rfl
  · unfold zfu; omega
