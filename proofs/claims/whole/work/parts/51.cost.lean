/-! ===== what a row costs ===== -/
def za (v : Int) : Int := wDiv (wRem v 100000) 1000
def zmk (v : Int) : Int := wDiv v 100000
theorem za_in {v : Int} (h : zVl v) (h0 : v ≠ -2) : 0 ≤ v ∧ (0 ≤ za v ∧ za v < 16) ∧ (0 ≤ zmk v ∧ zmk v ≤ 3) := by
  have hv : 0 ≤ v ∧ v < 400000 ∧ v % 100000 < 16000 := h.resolve_left h0
  unfold za zmk
  rw [wRem_e hv.1 (by decide), wDiv_e (by omega) (by decide), wDiv_e (by omega) (by decide)]
  omega
theorem c_attr {v : Int} (h : 0 ≤ v) : f_Co_attributeOf v = some (za v) := by
  unfold f_Co_attributeOf za
  by_cases q : v ≤ 0
  · rw [if_pos q, show v = 0 by omega]
    decide
  · rw [if_neg q]
theorem c_mks {v : Int} (h : 0 ≤ v) : f_Co_marksOf v = some (zmk v) := by
  unfold f_Co_marksOf zmk
  by_cases q : v ≤ 0
  · rw [if_pos q, show v = 0 by omega]
    decide
  · rw [if_neg q]
def zmi (a b : Int) : Int := if b < a then b else a
theorem zmi_l (a b : Int) : zmi a b ≤ a ∧ zmi a b ≤ b ∧ (zmi a b = a ∨ zmi a b = b) := by unfold zmi; split <;> omega
theorem zmi_as (a b c : Int) : zmi (zmi a b) c = zmi a (zmi b c) := by unfold zmi; grind
/-- passing over cells that are like: the least, from an amount on -/
def zps (n : Int) (V lk C : Int → Int) : Nat → Int → Int → Int
  | 0, acc, _ => acc
  | j + 1, acc, k => if n ≤ k + 1 then acc else if lk k = 0 then acc else zps n V lk C j (if V (k + 1) = -2 then acc else zmi acc (4 + C (k + 1))) (k + 1)
theorem zps_min (n : Int) (V lk C : Int → Int) : ∀ (j : Nat) (a b k : Int), zps n V lk C j (zmi a b) k = zmi a (zps n V lk C j b k)
  | 0, a, b, k => rfl
  | j + 1, a, b, k => by
    unfold zps
    by_cases q1 : n ≤ k + 1
    · rw [if_pos q1, if_pos q1]
    · rw [if_neg q1, if_neg q1]
      by_cases q2 : lk k = 0
      · rw [if_pos q2, if_pos q2]
      · rw [if_neg q2, if_neg q2]
        by_cases q3 : V (k + 1) = -2
        · rw [if_pos q3, if_pos q3, zps_min n V lk C j a b (k + 1)]
        · rw [if_neg q3, if_neg q3, zmi_as a b (4 + C (k + 1)), zps_min n V lk C j a _ (k + 1)]
theorem zps_in (n : Int) (V lk C : Int → Int) (hC : ∀ k, k ≤ n → V k ≠ -2 → 0 ≤ C k) : ∀ (j : Nat) (a k : Int), 0 ≤ a → 0 ≤ zps n V lk C j a k ∧ zps n V lk C j a k ≤ a
  | 0, a, k, h => ⟨h, Int.le_refl _⟩
  | j + 1, a, k, h => by
    unfold zps
    by_cases q1 : n ≤ k + 1
    · rw [if_pos q1]; omega
    · rw [if_neg q1]
      by_cases q2 : lk k = 0
      · rw [if_pos q2]; omega
      · rw [if_neg q2]
        by_cases q3 : V (k + 1) = -2
        · rw [if_pos q3]; exact zps_in n V lk C hC j a (k + 1) h
        · rw [if_neg q3]
          have h1 := hC (k + 1) (by omega) q3
          have h2 := zmi_l a (4 + C (k + 1))
          have := zps_in n V lk C hC j (zmi a (4 + C (k + 1))) (k + 1) (by omega)
          omega
theorem zps_cg (n : Int) (V lk C C' : Int → Int) (c : Int) (hC : ∀ k, c < k → k < n → V k ≠ -2 → C k = C' k) : ∀ (j : Nat) (a k : Int), c ≤ k → zps n V lk C j a k = zps n V lk C' j a k
  | 0, a, k, _ => rfl
  | j + 1, a, k, h => by
    unfold zps
    by_cases q1 : n ≤ k + 1
    · rw [if_pos q1, if_pos q1]
    · rw [if_neg q1, if_neg q1]
      by_cases q2 : lk k = 0
      · rw [if_pos q2, if_pos q2]
      · rw [if_neg q2, if_neg q2]
        by_cases q3 : V (k + 1) = -2
        · rw [if_pos q3, if_pos q3]; exact zps_cg n V lk C C' c hC j a (k + 1) (by omega)
        · rw [if_neg q3, if_neg q3, hC (k + 1) (by omega) (by omega) q3]
          exact zps_cg n V lk C C' c hC j _ (k + 1) (by omega)
theorem zw16 {c a : Int} (hc : 0 ≤ c ∧ c ≤ 24) (ha : 0 ≤ a ∧ a < 16) : w32 (w32 (c * 16) + a) = 16 * c + a ∧ w32 (w32 (16 * c) + a) = 16 * c + a := by
  rw [w32i (x := c * 16) (by omega) (by omega), w32i (x := 16 * c) (by omega) (by omega), w32i (by omega) (by omega), w32i (by omega) (by omega)]
  omega
/-! the class's rows -/
section ZCO
variable {s : zSt} {c a v : Int}
theorem c_cf (h : s.1 4 0 = 400) (hc : 0 ≤ c ∧ c ≤ 24) (ha : 0 ≤ a ∧ a < 16) : f_Sl_costsFrom c a s = some (s.2 4 (16 * c + a)) := by
  unfold f_Sl_costsFrom
  rw [(zw16 hc ha).1, h]
  exact iteF (by omega) (iteT (by decide) (iteF (by omega) (iteT (by omega) rfl)))
theorem c_kc (h : s.1 4 0 = 400) (hc : 0 ≤ c ∧ c ≤ 24) (ha : 0 ≤ a ∧ a < 16) : f_Sl_keepCosts c a v s = some (0, uE s 4 (16 * c + a) v) := by
  unfold f_Sl_keepCosts
  rw [(zw16 hc ha).1, h]
  exact iteF (by omega) (iteT (by decide) (iteF (by omega) (iteT (by omega) rfl)))
theorem c_like (h : s.1 5 0 = 24) (hc : 0 ≤ c ∧ c < 24) (hb : s.2 5 c = 0 ∨ s.2 5 c = 1) : f_Sl_isLikeAt c s = some (s.2 5 c) := by
  unfold f_Sl_isLikeAt
  refine iteF (by omega) (iteF (by omega) (iteT (by omega) ?_))
  rcases hb with q | q <;> rw [q] <;> rfl
end ZCO
/-- the class's slow line beside the picture that is shown, in one picture of nine cells -/
def zQs (q : zSt) (n : Int) : Prop := zPW (zsb (zsh 6) q) ∧ zPW (zsb (zsh 1) q) ∧ q.1 4 0 = 400 ∧ q.1 5 0 = 24 ∧ q.1 6 3 = n
def zSq (q : zSt) (Lk C : Int → Int) : zSt := uA (uA q 5 Lk) 4 C
theorem zSq_5 (q : zSt) (Lk C : Int → Int) (i v : Int) : uE (zSq q Lk C) 5 i v = zSq q (zup Lk i v) C := by
  refine zst_ext (fun _ _ => rfl) (fun j => ?_)
  simp only [zSq, uE, uA2]
  grind
theorem zSq_4 (q : zSt) (Lk C : Int → Int) (i v : Int) : uE (zSq q Lk C) 4 i v = zSq q Lk (zup C i v) := by
  refine zst_ext (fun _ _ => rfl) (fun j => ?_)
  simp only [zSq, uE, uA2]
  grind
theorem zSq_id (q : zSt) : zSq q (q.2 5) (q.2 4) = q := by
  refine zst_ext (fun _ _ => rfl) (fun j => ?_)
  simp only [zSq, uA2]
  grind
theorem zpb_0 (n : Nat) (q : zSt) (i : Nat) (j v : Int) (hi : i < n) : zpb (zsh 0) n q (uE (zsb (zsh 0) q) i j v) = uE q i j v := zpb_uE 0 n q i j v hi
def zlI (q : zSt) (row c : Int) : Int := if q.2 7 (row * 24 + c) = q.2 2 (row * 24 + c) then 1 else 0
def zul (q : zSt) (row c : Int) : Int := if q.2 7 (row * 24 + c) = q.2 2 (row * 24 + c) then 0 else 1
theorem zlI_ul (q : zSt) (row c : Int) : (zlI q row c = 0 ∧ zul q row c = 1) ∨ (zlI q row c = 1 ∧ zul q row c = 0) := by
  unfold zlI zul
  by_cases y : q.2 7 (row * 24 + c) = q.2 2 (row * 24 + c)
  · rw [if_pos y, if_pos y]; exact Or.inr ⟨rfl, rfl⟩
  · rw [if_neg y, if_neg y]; exact Or.inl ⟨rfl, rfl⟩
def zLf (q : zSt) (row : Int) (j : Int) : Int → Int := fun c => if 0 ≤ c ∧ c < j then zlI q row c else q.2 5 c
theorem zLf_0 (q : zSt) (row : Int) : zLf q row 0 = q.2 5 := by
  funext c
  unfold zLf
  rw [if_neg (by omega)]
theorem zLf_s (q : zSt) (row : Int) {j : Int} (hj : 0 ≤ j) : zup (zLf q row j) j (zlI q row j) = zLf q row (j + 1) := by
  funext c
  unfold zup zLf
  by_cases y : c = j
  · rw [if_pos y, if_pos (by omega), y]
  · rw [if_neg y]
    by_cases y2 : 0 ≤ c ∧ c < j
    · rw [if_pos y2, if_pos (by omega)]
    · rw [if_neg y2, if_neg (by omega)]
theorem c_compare {q : zSt} {n row : Int} (h : zQs q n) (hrow : 0 ≤ row ∧ row < 12) : f_Sl_compare row q = some (zfl (zul q row) n.toNat, zSq q (zLf q row n) (q.2 4)) := by
  obtain ⟨h6, h1, h4, h5, hn⟩ := h
  have hn2 : 4 ≤ n ∧ n ≤ 24 := by rw [← hn]; exact h6.2.2.2.1
  have hl := zloop_up (step := f_Sl_compare_l5 row) (r := (zfl (zul q row) n.toNat, zSq q (zLf q row n) (q.2 4))) n.toNat (n := zfu)
    (fun j => (zfl (zul q row) j, (j : Int), zSq q (zLf q row (j : Int)) (q.2 4))) (fun j hj => ?_) ?_ ?_
  · simp only [Int.natCast_zero, zLf_0, zSq_id] at hl
    unfold f_Sl_compare
    exact bindS hl rfl
  · have ew : w32 ((j : Int) + 1) = ((j + 1 : Nat) : Int) := by rw [w32i (by omega) (by omega)]; omega
    unfold f_Sl_compare_l5
    refine bindS (x := n) (congrArg some hn) (iteF (by show ¬ n ≤ (j : Int); omega) (iteF (by show ¬ (24 : Int) ≤ (j : Int); omega) ?_))
    refine bindS (x := q.2 7 (row * 24 + j)) ?_ (bindS (x := q.2 2 (row * 24 + j)) ?_ ?_)
    · refine (c_Pi_at (p := zsb (zsh 6) (zSq q _ (q.2 4))) h6 row (j : Int)).trans ?_
      unfold zat
      rw [if_pos (by omega)]
      rfl
    · refine (c_Pi_at (p := zsb (zsh 1) (zSq q _ (q.2 4))) h1 row (j : Int)).trans ?_
      unfold zat
      rw [if_pos (by omega)]
      rfl
    · have e0 : (if ¬ q.2 7 (row * 24 + j) = q.2 2 (row * 24 + j) then (0 : Int) else 1) = zlI q row j := by
        unfold zlI
        by_cases y : q.2 7 (row * 24 + j) = q.2 2 (row * 24 + j)
        · rw [if_neg (by simpa using y), if_pos y]
        · rw [if_pos y, if_neg y]
      dsimp only
      rw [e0, ew]
      refine iteT ⟨by omega, by show (j : Int) < q.1 5 0; omega⟩ (iteT ⟨by omega, by show (j : Int) < q.1 5 0; omega⟩ ?_)
      rw [zSq_5, zLf_s _ _ (by omega), show (j : Int) + 1 = ((j + 1 : Nat) : Int) by omega]
      have e1 : zup ((zSq q (zLf q row (j : Int)) (q.2 4)).2 5) (j : Int) (zlI q row j) (j : Int) = zlI q row j := by
        unfold zup
        rw [if_pos rfl]
      rw [e1]
      have e2 : (if zlI q row j = 0 then ((j + 1 : Nat) : Int) else zfl (zul q row) j) = zfl (zul q row) (j + 1) := by
        show _ = if zul q row j = 0 then zfl (zul q row) j else (j : Int) + 1
        rcases zlI_ul q row j with ⟨y1, y2⟩ | ⟨y1, y2⟩
        · rw [y1, y2, if_pos rfl, if_neg (by decide)]; omega
        · rw [y1, y2, if_pos rfl, if_neg (by decide)]
      rw [e2]
  · unfold f_Sl_compare_l5
    have em : ((n.toNat : Nat) : Int) = n := by omega
    refine bindS (x := n) (congrArg some hn) (iteT (by show n ≤ ((n.toNat : Nat) : Int); omega) ?_)
    rw [em]
  · unfold zfu; omega
theorem c_writing {s : zSt} {c a v : Int} (h : s.1 4 0 = 400) (hv : zVl v) (hv2 : v ≠ -2) (hc : 0 ≤ c ∧ c + (if zwd v = 0 then 1 else 2) ≤ 24) (hC : 0 ≤ s.2 4 (16 * (c + (if zwd v = 0 then 1 else 2)) + za v) ∧ s.2 4 (16 * (c + (if zwd v = 0 then 1 else 2)) + za v) ≤ 1000000) :
    f_Sl_writing v c a s = some (1 + zmk v + (if za v = a then 0 else 4) + s.2 4 (16 * (c + (if zwd v = 0 then 1 else 2)) + za v)) := by
  obtain ⟨h0, h1, h2⟩ := za_in hv hv2
  unfold f_Sl_writing
  refine bindS (c_isWide v) (bindS (c_attr h0) (bindS (c_mks h0) (bindS (c_attr h0) ?_)))
  rw [w32i (x := c + (if zwd v = 0 then 1 else 2)) (by split <;> omega) (by split at hc <;> split <;> omega)]
  refine bindS (c_cf h ⟨by split <;> omega, hc.2⟩ h1) ?_
  generalize s.2 4 (16 * (c + (if zwd v = 0 then 1 else 2)) + za v) = z at *
  have e : (if ¬ za v = a then (4 : Int) else 0) = (if za v = a then 0 else 4) := by
    by_cases y : za v = a
    · rw [if_neg (by simpa using y), if_pos y]
    · rw [if_pos y, if_neg y]
  rw [e, w32i (x := 1 + zmk v) (by omega) (by omega), w32i (x := 1 + zmk v + _) (by split <;> omega) (by split <;> omega), w32i (by split <;> omega) (by split <;> omega)]
theorem c_passing {q : zSt} {n row c a : Int} {Lk C : Int → Int} (h : zQs q n) (hrow : 0 ≤ row ∧ row < 12) (hc : 0 ≤ c ∧ c < n) (ha : 0 ≤ a ∧ a < 16) (hb : ∀ k, 0 ≤ k → k < n → Lk k = 0 ∨ Lk k = 1) (hC : ∀ k, c < k → k < n → q.2 7 (row * 24 + k) ≠ -2 → 0 ≤ C (16 * k + a) ∧ C (16 * k + a) ≤ 1000000) :
    f_Sl_passing row c a (zSq q Lk C) = some (zps n (fun k => q.2 7 (row * 24 + k)) Lk (fun k => C (16 * k + a)) 24 1000000 c) := by
  obtain ⟨h6, h1, h4, h5, hn⟩ := h
  have hn2 : 4 ≤ n ∧ n ≤ 24 := by rw [← hn]; exact h6.2.2.2.1
  have key : ∀ (j m : Nat) (acc k : Int), c ≤ k → n ≤ k + 1 + j → j < m → 0 ≤ acc → acc ≤ 1000000 → zloop (f_Sl_passing_l9 row a (zSq q Lk C)) m (acc, k + 1) = some (zps n (fun k => q.2 7 (row * 24 + k)) Lk (fun k => C (16 * k + a)) j acc k) := by
    intro j
    induction j with
    | zero =>
      intro m acc k h0 h1 h2 h3 h4
      obtain ⟨m, rfl⟩ : ∃ i, m = i + 1 := ⟨m - 1, by omega⟩
      unfold zloop f_Sl_passing_l9
      rw [show f_Pi_columns (zsb (zsh 6) (zSq q Lk C)) = some n from congrArg some hn]
      simp only [Option.bind_some]
      rw [if_pos (by omega)]
      rfl
    | succ j ih =>
      intro m acc k k0 k1 k2 k3 k4
      obtain ⟨m, rfl⟩ : ∃ i, m = i + 1 := ⟨m - 1, by omega⟩
      unfold zloop
      unfold zps
      have e0 : f_Sl_passing_l9 row a (zSq q Lk C) (acc, k + 1) = if n ≤ k + 1 then some (.inr acc) else if Lk k = 0 then some (.inr acc) else some (.inl ((if q.2 7 (row * 24 + (k + 1)) = -2 then acc else zmi acc (4 + C (16 * (k + 1) + a))), k + 1 + 1)) := by
        unfold f_Sl_passing_l9
        rw [show f_Pi_columns (zsb (zsh 6) (zSq q Lk C)) = some n from congrArg some hn]
        simp only [Option.bind_some]
        by_cases y1 : n ≤ k + 1
        · rw [if_pos y1, if_pos y1]
        · rw [if_neg y1, if_neg y1, w32i (x := k + 1 - 1) (by omega) (by omega), show k + 1 - 1 = k by omega, c_like (s := zsb (zsh 0) (zSq q Lk C)) h5 ⟨by omega, by omega⟩ (hb k (by omega) (by omega))]
          simp only [Option.bind_some]
          rw [show (zsb (zsh 0) (zSq q Lk C)).2 5 k = Lk k from rfl]
          by_cases y2 : Lk k = 0
          · rw [if_pos y2, if_pos y2]
          · rw [if_neg y2, if_neg y2, c_Pi_at (p := zsb (zsh 6) (zSq q Lk C)) h6]
            unfold zat
            rw [if_pos (by omega)]
            simp only [Option.bind_some]
            rw [show (zsb (zsh 6) (zSq q Lk C)).2 1 = q.2 7 from rfl, w32i (x := k + 1 + 1) (by omega) (by omega)]
            by_cases y3 : q.2 7 (row * 24 + (k + 1)) = -2
            · rw [if_pos y3, if_pos y3]
            · have hh := hC (k + 1) (by omega) (by omega) y3
              rw [if_neg y3, if_neg y3, c_cf (s := zsb (zsh 0) (zSq q Lk C)) h4 ⟨by omega, by omega⟩ ha]
              simp only [Option.bind_some]
              rw [show (zsb (zsh 0) (zSq q Lk C)).2 4 = C from rfl, w32i (x := 4 + C (16 * (k + 1) + a)) (by omega) (by omega)]
              rfl
      rw [e0]
      by_cases y1 : n ≤ k + 1
      · rw [if_pos y1, if_pos y1]; rfl
      · rw [if_neg y1, if_neg y1]
        by_cases y2 : Lk k = 0
        · rw [if_pos y2, if_pos y2]; rfl
        · rw [if_neg y2, if_neg y2]
          simp only [Option.bind_some]
          by_cases y3 : q.2 7 (row * 24 + (k + 1)) = -2
          · rw [if_pos y3]
            exact ih m acc (k + 1) (by omega) (by omega) (by omega) k3 k4
          · have hh := hC (k + 1) (by omega) (by omega) y3
            have hz := zmi_l acc (4 + C (16 * (k + 1) + a))
            rw [if_neg y3]
            exact ih m _ (k + 1) (by omega) (by omega) (by omega) (by omega) (by omega)
  unfold f_Sl_passing
  rw [w32i (by omega) (by omega)]
  exact bindS (key 24 zfu 1000000 c (Int.le_refl _) (by omega) (by decide) (by decide) (by decide)) rfl
