/-! ===== one row is laid ===== -/
def zwd (v : Int) : Int := if wRem v 1000 < 65 then 0 else (if 90 < wRem v 1000 then 0 else 1)
theorem zwd_1 {v : Int} : zwd v = 1 ↔ zWd v := by
  unfold zwd zWd
  by_cases a : wRem v 1000 < 65
  · rw [if_pos a]; constructor
    · intro h; cases h
    · intro h; omega
  · rw [if_neg a]
    by_cases b : 90 < wRem v 1000
    · rw [if_pos b]; constructor
      · intro h; cases h
      · intro h; omega
    · rw [if_neg b]; exact ⟨fun _ => ⟨by omega, by omega⟩, fun _ => rfl⟩
theorem zwd_01 (v : Int) : zwd v = 0 ∨ zwd v = 1 := by
  unfold zwd
  split
  · exact Or.inl rfl
  · split
    · exact Or.inl rfl
    · exact Or.inr rfl
theorem zwd_t : zwd (-2) = 0 := by unfold zwd wRem; decide
theorem zwd_0 : zwd 0 = 0 := by unfold zwd wRem; decide
theorem c_isWide (v : Int) : f_Co_isWide v = some (zwd v) := rfl
theorem c_RisWide {v : Int} (h : zVl v) : f_Rf_isWide v = some (zwd v) := by
  unfold f_Rf_isWide
  refine bindS (c_Rf_in _ _ _) ?_
  have e : (if wRem v 1000 < 65 then (0 : Int) else if 90 < wRem v 1000 then 0 else 1) = zwd v := rfl
  rw [e]
  rcases zwd_01 v with q | q
  · rw [if_pos q, q]
  · rw [if_neg (by omega)]
    have : ¬ v ≤ 0 := by
      intro hv
      rcases h with h | h
      · rw [h, zwd_t] at q; cases q
      · obtain rfl : v = 0 := by omega
        rw [zwd_0] at q; cases q
    rw [if_neg this, q]
def zRow (g : Int → Int) (n : Int) : Prop := (∀ c, n ≤ c → c < 24 → g c = 0) ∧ ∀ c, 0 ≤ c → c < n → zVl (g c) ∧ (g c = -2 ↔ 0 < c ∧ zWd (g (c - 1))) ∧ (zWd (g c) → c + 1 < n)
theorem inl2 {α β κ : Type} {a a' : α} {b b' : β} (h1 : a = a') (h2 : b = b') : (some (Sum.inl (a, b)) : Option ((α × β) ⊕ κ)) = some (.inl (a', b')) := by rw [h1, h2]
theorem inl6 {α β γ δ ε ζ κ : Type} {a a' : α} {b b' : β} {c c' : γ} {d d' : δ} {e e' : ε} {f f' : ζ} (h1 : a = a') (h2 : b = b') (h3 : c = c') (h4 : d = d') (h5 : e = e') (h6 : f = f') : (some (Sum.inl (a, b, c, d, e, f)) : Option ((α × β × γ × δ × ε × ζ) ⊕ κ)) = some (.inl (a', b', c', d', e', f')) := by rw [h1, h2, h3, h4, h5, h6]
theorem ite_hit {d row k cc c1 P pl z : Int} (hP : P = row ∨ P ≠ row) (hH : Prop) [Decidable hH] (h : hH ↔ (d ≠ 0 ∨ (row = P ∧ k = cc))) {z' : Int} (hz : z = z') : (if ((if ¬ d = 0 then 1 else (if ¬ row = P then 0 else (if ¬ k = cc then 0 else 1))) : Int) = 0 then pl else z) = (if hH then z' else pl) := by
  rw [hz]
  by_cases q : hH
  · rw [if_pos q]
    have := h.mp q
    rw [if_neg]
    grind
  · rw [if_neg q]
    have : ¬ (d ≠ 0 ∨ (row = P ∧ k = cc)) := fun e => q (h.mpr e)
    rw [if_pos]
    grind
section ZROW
variable {r : zSt} {cr0 cc w N row ins m pl o x d : Int} {A B : Int → Int} {k : Int}
theorem c_181T {H : Prop} [Decidable H] (hr : zNr r) (hrow : 0 ≤ row ∧ row < r.1 0 7 + 12) (hcr : 0 ≤ cr0 ∧ cr0 < 12) (hk : 0 ≤ k ∧ k < m) (hm : m ≤ 24) (ho : 0 ≤ o ∧ o < 499) (hx : 1 ≤ x ∧ x ≤ 24) (hv : zC r row k = -2) (hH : H ↔ (d ≠ 0 ∨ (row = r.1 0 7 + cr0 ∧ k = cc))) :
    f_Rf_lays_l181 cr0 cc w N row ins m (pl, o, x, d, k, zTr r A B) = some (.inl (if H then 24 * o + (x - 1) else pl, o, x, 0, k + 1, zTr r A B)) := by
  have hp := hr.2.2.2.1
  unfold f_Rf_lays_l181
  refine iteF (by show ¬ m ≤ k; omega) (bindS (c_Rf_old (c := k) hr A B hrow ⟨hk.1, by omega⟩) (bindS (c_RisWide (Or.inl hv)) (iteT hv ?_)))
  rw [hv, zwd_t]
  refine inl6 (ite_hit (c1 := 0) (by omega) H ?_ ?_) rfl rfl rfl (w32i (by show -2147483648 ≤ k + 1; omega) (by show k + 1 ≤ 2147483647; omega)) rfl
  · rw [hH]
    show _ ↔ (d ≠ 0 ∨ (row = w32 (r.1 0 7 + cr0) ∧ k = cc))
    rw [w32i (by omega) (by omega)]
  · show w32 (w32 (24 * o) + (if ¬ (-2 : Int) = -2 then _ else w32 (x - 1))) = _
    rw [if_neg (by omega), w32i (x := x - 1) (by omega) (by omega), w32i (x := 24 * o) (by omega) (by omega), w32i (by omega) (by omega)]
theorem c_181N {H : Prop} [Decidable H] (hr : zNr r) (hrow : 0 ≤ row ∧ row < r.1 0 7 + 12) (hcr : 0 ≤ cr0 ∧ cr0 < 12) (hk : 0 ≤ k ∧ k < m) (hm : m ≤ 24) (ho : 0 ≤ o ∧ o < 499) (hx : 0 ≤ x ∧ x + 1 ≤ w) (hw : w ≤ 24) (hvl : zVl (zC r row k)) (hv : zC r row k ≠ -2) (hz : zwd (zC r row k) = 0) (hH : H ↔ (d ≠ 0 ∨ (row = r.1 0 7 + cr0 ∧ k = cc))) :
    f_Rf_lays_l181 cr0 cc w N row ins m (pl, o, x, d, k, zTr r A B) = some (.inl (if H then 24 * o + x else pl, o, x + 1, 0, k + 1, zTr r (zup A (24 * o + x) (zC r row k)) B)) := by
  have hp := hr.2.2.2.1
  have h14 : r.1 14 0 = 12000 := hr.1.2.2.2.2.2.2.2.2.2.2.2.2.2.1
  have e1 : w32 (w32 (24 * o) + x) = 24 * o + x := by rw [w32i (x := 24 * o) (by omega) (by omega), w32i (by omega) (by omega)]
  have e2 : w32 (x + 1) = x + 1 := w32i (by omega) (by omega)
  unfold f_Rf_lays_l181
  refine iteF (by show ¬ m ≤ k; omega) (bindS (c_Rf_old (c := k) hr A B hrow ⟨hk.1, by omega⟩) (bindS (c_RisWide hvl) (iteF hv ?_)))
  rw [hz, if_pos rfl]
  refine iteT (by show w32 (x + 1) ≤ w; omega) (iteT ⟨?_, ?_⟩ (iteT (by decide) ?_))
  · show 0 ≤ w32 (w32 (24 * o) + x)
    omega
  · show w32 (w32 (24 * o) + x) < r.1 14 0
    omega
  refine inl6 (ite_hit (c1 := 0) (by omega) H ?_ ?_) rfl e2 rfl (w32i (by show -2147483648 ≤ k + 1; omega) (by show k + 1 ≤ 2147483647; omega)) ?_
  · rw [hH]
    show _ ↔ (d ≠ 0 ∨ (row = w32 (r.1 0 7 + cr0) ∧ k = cc))
    rw [w32i (by omega) (by omega)]
  · show w32 (w32 (24 * o) + (if ¬ zC r row k = -2 then w32 (w32 (x + 1) - 1) else _)) = _
    rw [if_pos hv, e2, show x + 1 - 1 = x by omega, w32i (x := x) (by omega) (by omega), e1]
  · show uE (zTr r A B) 14 (w32 (w32 (24 * o) + x)) (zC r row k) = _
    rw [zTr_14, e1]
theorem c_181W {H : Prop} [Decidable H] (hr : zNr r) (hrow : 0 ≤ row ∧ row < r.1 0 7 + 12) (hcr : 0 ≤ cr0 ∧ cr0 < 12) (hk : 0 ≤ k ∧ k < m) (hm : m ≤ 24) (ho : 0 ≤ o ∧ o < 499) (hx : 0 ≤ x ∧ x + 2 ≤ w) (hw : w ≤ 24) (hvl : zVl (zC r row k)) (hz : zwd (zC r row k) = 1) (hH : H ↔ (d ≠ 0 ∨ (row = r.1 0 7 + cr0 ∧ k = cc))) :
    f_Rf_lays_l181 cr0 cc w N row ins m (pl, o, x, d, k, zTr r A B) = some (.inl (if H then 24 * o + x else pl, o, x + 2, 0, k + 1, zTr r (zup (zup A (24 * o + x) (zC r row k)) (24 * o + x + 1) (-2)) B)) := by
  have hv : zC r row k ≠ -2 := fun e => by rw [e, zwd_t] at hz; cases hz
  have hp := hr.2.2.2.1
  have h14 : r.1 14 0 = 12000 := hr.1.2.2.2.2.2.2.2.2.2.2.2.2.2.1
  have e1 : w32 (w32 (24 * o) + x) = 24 * o + x := by rw [w32i (x := 24 * o) (by omega) (by omega), w32i (by omega) (by omega)]
  have e2 : w32 (x + 2) = x + 2 := w32i (by omega) (by omega)
  have e3 : w32 (w32 (w32 (24 * o) + x) + 1) = 24 * o + x + 1 := by rw [e1, w32i (by omega) (by omega)]
  unfold f_Rf_lays_l181
  refine iteF (by show ¬ m ≤ k; omega) (bindS (c_Rf_old (c := k) hr A B hrow ⟨hk.1, by omega⟩) (bindS (c_RisWide hvl) (iteF hv ?_)))
  rw [hz, if_neg (show ¬ ((1 : Int) = 0) by decide)]
  refine iteT (by show w32 (x + 2) ≤ w; omega) (iteT ⟨?_, ?_⟩ (iteF (by decide) (iteT ⟨?_, ?_⟩ ?_)))
  · show 0 ≤ w32 (w32 (24 * o) + x)
    omega
  · show w32 (w32 (24 * o) + x) < r.1 14 0
    omega
  · show 0 ≤ w32 (w32 (w32 (24 * o) + x) + 1)
    omega
  · show w32 (w32 (w32 (24 * o) + x) + 1) < r.1 14 0
    omega
  refine inl6 (ite_hit (c1 := 0) (by omega) H ?_ ?_) rfl e2 rfl (w32i (by show -2147483648 ≤ k + 1; omega) (by show k + 1 ≤ 2147483647; omega)) ?_
  · rw [hH]
    show _ ↔ (d ≠ 0 ∨ (row = w32 (r.1 0 7 + cr0) ∧ k = cc))
    rw [w32i (by omega) (by omega)]
  · show w32 (w32 (24 * o) + (if ¬ zC r row k = -2 then w32 (w32 (x + 2) - 2) else _)) = _
    rw [if_pos hv, e2, show x + 2 - 2 = x by omega, w32i (x := x) (by omega) (by omega), e1]
  · show uE (uE (zTr r A B) 14 (w32 (w32 (24 * o) + x)) (zC r row k)) 14 (w32 (w32 (w32 (24 * o) + x) + 1)) (-2) = _
    rw [zTr_14, zTr_14, e3, e1]
theorem c_181N' {H : Prop} [Decidable H] (hr : zNr r) (hrow : 0 ≤ row ∧ row < r.1 0 7 + 12) (hcr : 0 ≤ cr0 ∧ cr0 < 12) (hk : 0 ≤ k ∧ k < m) (hm : m ≤ 24) (ho : 0 ≤ o ∧ o < 499) (hx : 0 ≤ x ∧ x ≤ 24 ∧ w < x + 1) (hw : w ≤ 24) (hvl : zVl (zC r row k)) (hv : zC r row k ≠ -2) (hz : zwd (zC r row k) = 0) (hH : H ↔ (d ≠ 0 ∨ (row = r.1 0 7 + cr0 ∧ k = cc))) :
    f_Rf_lays_l181 cr0 cc w N row ins m (pl, o, x, d, k, zTr r A B) = some (.inl (if H then 24 * (o + 1) + 0 else pl, o + 1, 0 + 1, 0, k + 1, zTr r (zup (zFl A (24 * (o + 1)) (24 * (o + 1) + 24) 0) (24 * (o + 1) + 0) (zC r row k)) (zup (zup B o 1) (o + 1) 0))) := by
  have hp := hr.2.2.2.1
  have h14 : r.1 14 0 = 12000 := hr.1.2.2.2.2.2.2.2.2.2.2.2.2.2.1
  have h15 : r.1 15 0 = 500 := hr.1.2.2.2.2.2.2.2.2.2.2.2.2.2.2
  have e0 : w32 (o + 1) = o + 1 := w32i (by omega) (by omega)
  have e1 : w32 (w32 (24 * w32 (o + 1)) + 0) = 24 * (o + 1) + 0 := by rw [e0, w32i (x := 24 * (o + 1)) (by omega) (by omega), w32i (by omega) (by omega)]
  have e2 : w32 (x + 1) = x + 1 := w32i (by omega) (by omega)
  unfold f_Rf_lays_l181
  refine iteF (by show ¬ m ≤ k; omega) (bindS (c_Rf_old (c := k) hr A B hrow ⟨hk.1, by omega⟩) (bindS (c_RisWide hvl) (iteF hv ?_)))
  rw [hz, if_pos rfl]
  refine iteF (by show ¬ w32 (x + 1) ≤ w; omega) (iteT ⟨ho.1, by show o < r.1 15 0; omega⟩ ?_)
  show (f_Rf_emptiesLaid (w32 (o + 1)) (uE (zTr r A B) 15 o 1)).bind _ = _
  rw [zTr_15]
  refine bindS (x := (0, zTr r (zFl A (24 * (o + 1)) (24 * (o + 1) + 24) 0) (zup (zup B o 1) (o + 1) 0))) (by rw [e0]; exact c_emptiesLaid h14 h15 ⟨by omega, by omega⟩) ?_
  refine iteT ⟨?_, ?_⟩ (iteT (by decide) ?_)
  · show 0 ≤ w32 (w32 (24 * w32 (o + 1)) + 0)
    omega
  · show w32 (w32 (24 * w32 (o + 1)) + 0) < r.1 14 0
    omega
  refine inl6 (ite_hit (c1 := 0) (by omega) H ?_ ?_) e0 (by decide) rfl (w32i (by show -2147483648 ≤ k + 1; omega) (by show k + 1 ≤ 2147483647; omega)) ?_
  · rw [hH]
    show _ ↔ (d ≠ 0 ∨ (row = w32 (r.1 0 7 + cr0) ∧ k = cc))
    rw [w32i (by omega) (by omega)]
  · show w32 (w32 (24 * w32 (o + 1)) + (if ¬ zC r row k = -2 then w32 (w32 (0 + 1) - 1) else _)) = _
    rw [if_pos hv, show w32 (w32 (0 + 1) - 1) = 0 by decide, e1]
  · show uE (zTr r _ _) 14 (w32 (w32 (24 * w32 (o + 1)) + 0)) (zC r row k) = _
    rw [zTr_14, e1]
theorem c_181W' {H : Prop} [Decidable H] (hr : zNr r) (hrow : 0 ≤ row ∧ row < r.1 0 7 + 12) (hcr : 0 ≤ cr0 ∧ cr0 < 12) (hk : 0 ≤ k ∧ k < m) (hm : m ≤ 24) (ho : 0 ≤ o ∧ o < 499) (hx : 0 ≤ x ∧ x ≤ 24 ∧ w < x + 2) (hw : w ≤ 24) (hvl : zVl (zC r row k)) (hz : zwd (zC r row k) = 1) (hH : H ↔ (d ≠ 0 ∨ (row = r.1 0 7 + cr0 ∧ k = cc))) :
    f_Rf_lays_l181 cr0 cc w N row ins m (pl, o, x, d, k, zTr r A B) = some (.inl (if H then 24 * (o + 1) + 0 else pl, o + 1, 0 + 2, 0, k + 1, zTr r (zup (zup (zFl A (24 * (o + 1)) (24 * (o + 1) + 24) 0) (24 * (o + 1) + 0) (zC r row k)) (24 * (o + 1) + 0 + 1) (-2)) (zup (zup B o 1) (o + 1) 0))) := by
  have hv : zC r row k ≠ -2 := fun e => by rw [e, zwd_t] at hz; cases hz
  have hp := hr.2.2.2.1
  have h14 : r.1 14 0 = 12000 := hr.1.2.2.2.2.2.2.2.2.2.2.2.2.2.1
  have h15 : r.1 15 0 = 500 := hr.1.2.2.2.2.2.2.2.2.2.2.2.2.2.2
  have e0 : w32 (o + 1) = o + 1 := w32i (by omega) (by omega)
  have e1 : w32 (w32 (24 * w32 (o + 1)) + 0) = 24 * (o + 1) + 0 := by rw [e0, w32i (x := 24 * (o + 1)) (by omega) (by omega), w32i (by omega) (by omega)]
  have e2 : w32 (x + 2) = x + 2 := w32i (by omega) (by omega)
  have e3 : w32 (w32 (w32 (24 * w32 (o + 1)) + 0) + 1) = 24 * (o + 1) + 0 + 1 := by rw [e1, w32i (by omega) (by omega)]
  unfold f_Rf_lays_l181
  refine iteF (by show ¬ m ≤ k; omega) (bindS (c_Rf_old (c := k) hr A B hrow ⟨hk.1, by omega⟩) (bindS (c_RisWide hvl) (iteF hv ?_)))
  rw [hz, if_neg (show ¬ ((1 : Int) = 0) by decide)]
  refine iteF (by show ¬ w32 (x + 2) ≤ w; omega) (iteT ⟨ho.1, by show o < r.1 15 0; omega⟩ ?_)
  show (f_Rf_emptiesLaid (w32 (o + 1)) (uE (zTr r A B) 15 o 1)).bind _ = _
  rw [zTr_15]
  refine bindS (x := (0, zTr r (zFl A (24 * (o + 1)) (24 * (o + 1) + 24) 0) (zup (zup B o 1) (o + 1) 0))) (by rw [e0]; exact c_emptiesLaid h14 h15 ⟨by omega, by omega⟩) ?_
  refine iteT ⟨?_, ?_⟩ (iteF (by decide) (iteT ⟨?_, ?_⟩ ?_))
  · show 0 ≤ w32 (w32 (24 * w32 (o + 1)) + 0)
    omega
  · show w32 (w32 (24 * w32 (o + 1)) + 0) < r.1 14 0
    omega
  · show 0 ≤ w32 (w32 (w32 (24 * w32 (o + 1)) + 0) + 1)
    omega
  · show w32 (w32 (w32 (24 * w32 (o + 1)) + 0) + 1) < r.1 14 0
    omega
  refine inl6 (ite_hit (c1 := 0) (by omega) H ?_ ?_) e0 (by decide) rfl (w32i (by show -2147483648 ≤ k + 1; omega) (by show k + 1 ≤ 2147483647; omega)) ?_
  · rw [hH]
    show _ ↔ (d ≠ 0 ∨ (row = w32 (r.1 0 7 + cr0) ∧ k = cc))
    rw [w32i (by omega) (by omega)]
  · show w32 (w32 (24 * w32 (o + 1)) + (if ¬ zC r row k = -2 then w32 (w32 (0 + 2) - 2) else _)) = _
    rw [if_pos hv, show w32 (w32 (0 + 2) - 2) = 0 by decide, e1]
  · show uE (uE (zTr r _ _) 14 (w32 (w32 (24 * w32 (o + 1)) + 0)) (zC r row k)) 14 (w32 (w32 (w32 (24 * w32 (o + 1)) + 0) + 1)) (-2) = _
    rw [zTr_14, zTr_14, e3, e1]
end ZROW
