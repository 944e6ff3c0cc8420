/-! ===== one row poured into another; the reference's lists ===== -/
def zBf2 (s t : zSt) : Prop := (∀ i k, ¬ ((i = 0 ∨ i = 2) ∧ (k = 1 ∨ k = 2)) → t.1 i k = s.1 i k) ∧ ∀ i, i ≠ 1 → i ≠ 3 → t.2 i = s.2 i
theorem zBf2.trans {p q r : zSt} (h : zBf2 p q) (k : zBf2 q r) : zBf2 p r := ⟨fun i j a => (k.1 i j a).trans (h.1 i j a), fun i a b => (k.2 i a b).trans (h.2 i a b)⟩
theorem zBf2.step {s p q : zSt} (h : zBf (zsb (zsh 2) s) p) (k : zBf (zsb (zsh 0) (zpb (zsh 2) 2 s p)) q) : zBf2 s (zpb (zsh 0) 2 (zpb (zsh 2) 2 s p) q) := by
  refine ⟨fun i j a => ?_, fun i a b => ?_⟩
  · rw [zpb1]
    by_cases q1 : 0 ≤ i ∧ i < 0 + 2
    · rw [if_pos q1, k.1 _ _ (by omega)]
      show (zpb (zsh 2) 2 s p).1 (i - 0 + 0) j = _
      rw [zpb1, if_neg (by omega)]
      rfl
    · rw [if_neg q1, zpb1]
      by_cases q2 : 2 ≤ i ∧ i < 2 + 2
      · rw [if_pos q2, h.1 _ _ (by omega)]
        show s.1 (i - 2 + 2) j = _
        rw [show i - 2 + 2 = i by omega]
      · rw [if_neg q2]
  · rw [zpb2]
    by_cases q1 : 0 ≤ i ∧ i < 0 + 2
    · rw [if_pos q1, k.2 _ (by omega)]
      show (zpb (zsh 2) 2 s p).2 (i - 0 + 0) = _
      rw [zpb2, if_neg (by omega)]
      rfl
    · rw [if_neg q1, zpb2]
      by_cases q2 : 2 ≤ i ∧ i < 2 + 2
      · rw [if_pos q2, h.2 _ (by omega)]
        show s.2 (i - 2 + 2) = _
        rw [show i - 2 + 2 = i by omega]
      · rw [if_neg q2]
theorem By_addAllL {n m : Nat} (hn : n < 1000) (hm : m < 1000) (C : Int) (hC : C < 2000) : ∀ (l2 l1 : List Int) (f : Nat) (i : Int) (s : zSt), 0 ≤ i → C = i + l2.length → l2.length < f → zBy s n l1 → zBy (zsb (zsh 2) s) m l2 → ∃ s1, zloop (f_By_addAll_l7 C) f (i, s) = some s1 ∧ zBy s1 n ((l1 ++ l2).take n) ∧ zBy (zsb (zsh 2) s1) m [] ∧ zBf2 s s1
  | _, _, 0, _, _, _, _, h, _, _ => absurd h (Nat.not_lt_zero _)
  | [], l1, f + 1, i, s, h0, h1, h2, h3, h4 => by
    refine ⟨s, ?_, by rw [List.append_nil, List.take_of_length_le h3.2.2.2.1]; exact h3, h4, fun _ _ _ => rfl, fun _ _ _ => rfl⟩
    unfold zloop f_By_addAll_l7
    rw [if_pos (by show C ≤ i; simp at h1; omega)]
    rfl
  | b :: l2, l1, f + 1, i, s, h0, h1, h2, h3, h4 => by
    simp only [List.length_cons] at h1 h2
    obtain ⟨p, a1, a2, a3⟩ := By_removeFirst h4 hm
    have c1 : zBy (zsb (zsh 0) (zpb (zsh 2) 2 s p)) n l1 := zBy_cg h3 rfl rfl rfl rfl
    obtain ⟨x, q, b1, b2, b3⟩ := By_add c1 hn b
    have c2 : zBy (zpb (zsh 0) 2 (zpb (zsh 2) 2 s p) q) n ((l1 ++ [b]).take n) := zBy_cg b2 rfl rfl rfl rfl
    have c3 : zBy (zsb (zsh 2) (zpb (zsh 0) 2 (zpb (zsh 2) 2 s p) q)) m l2 := zBy_cg a2 rfl rfl rfl rfl
    obtain ⟨s1, d1, d2, d3, d4⟩ := By_addAllL hn hm C hC l2 _ f (i + 1) _ (by omega) (by omega) (by omega) c2 c3
    rw [take_app, List.append_assoc] at d2
    refine ⟨s1, ?_, d2, d3, (zBf2.step a3 b3).trans d4⟩
    unfold zloop
    rw [show f_By_addAll_l7 C (i, s) = some (.inl (i + 1, zpb (zsh 0) 2 (zpb (zsh 2) 2 s p) q)) from ?_]
    · exact d1
    · unfold f_By_addAll_l7
      refine iteF (by show ¬ C ≤ i; omega) (bindS a1 (bindS b1 ?_))
      show some (Sum.inl (w32 (i + 1), _)) = _
      rw [w32i (by omega) (by omega)]
theorem By_addAll {n m : Nat} (hn : n < 1000) (hm : m < 1000) {s : zSt} {l1 l2 : List Int} (h1 : zBy s n l1) (h2 : zBy (zsb (zsh 2) s) m l2) : ∃ s1, f_By_addAll s = some (0, s1) ∧ zBy s1 n ((l1 ++ l2).take n) ∧ zBy (zsb (zsh 2) s1) m [] ∧ zBf2 s s1 := by
  have hl := h2.2.2.2.1
  obtain ⟨s1, e1, e2⟩ := By_addAllL hn hm (l2.length : Int) (by omega) l2 l1 zfu 0 s (by decide) (by omega) (by unfold zfu; omega) h1 h2
  exact ⟨s1, bindS (By_count h2) (bindS e1 rfl), e2⟩
/-! the reference's row of a place -/
def zLs (g : Int → Int) (c : Int) (l : List Int) : Prop := c = l.length ∧ ∀ i : Nat, i < l.length → g i = l.getD i 0
theorem zLs.add {g : Int → Int} {c b : Int} {l : List Int} (h : zLs g c l) : zLs (zup g c b) (c + 1) (l ++ [b]) := by
  obtain ⟨h1, h2⟩ := h
  refine ⟨by simp; omega, fun i hi => ?_⟩
  simp only [List.length_append, List.length_cons, List.length_nil] at hi
  rw [getD_app]
  unfold zup
  by_cases q : i < l.length
  · rw [if_neg (by omega), if_pos q]
    exact h2 i q
  · obtain rfl : i = l.length := by omega
    rw [if_pos (by omega), if_neg q, Nat.sub_self]
    rfl
/-- only what the program gets changed -/
def zSf (r r1 : zSt) : Prop := (∀ i k, ¬ (i = 0 ∧ k = 48) → r1.1 i k = r.1 i k) ∧ ∀ i, i ≠ 10 → r1.2 i = r.2 i
theorem zSf.rf (r : zSt) : zSf r r := ⟨fun _ _ _ => rfl, fun _ _ => rfl⟩
theorem zSf.trans {p q r : zSt} (h : zSf p q) (k : zSf q r) : zSf p r := ⟨fun i j a => (k.1 i j a).trans (h.1 i j a), fun i a => (k.2 i a).trans (h.2 i a)⟩
theorem Rf_sends {r : zSt} (h10 : r.1 10 0 = 200) {l : List Int} (h : zLs (r.2 10) (r.1 0 48) l) (hl : l.length ≤ 200) (b : Int) : ∃ r1, f_Rf_sends b r = some (0, r1) ∧ zLs (r1.2 10) (r1.1 0 48) ((l ++ [b]).take 200) ∧ zSf r r1 := by
  have e1 := h.1
  by_cases q : 200 ≤ l.length
  · refine ⟨r, ?_, ?_, zSf.rf r⟩
    · unfold f_Rf_sends
      exact iteT (by omega) rfl
    · rw [List.take_append_of_le_length (by omega), List.take_of_length_le hl]
      exact h
  · refine ⟨uS (uE r 10 (r.1 0 48) b) 0 48 (r.1 0 48 + 1), ?_, ?_, fun i k q => ?_, fun i q => uA_a q⟩
    · unfold f_Rf_sends
      refine iteF (by omega) (iteT (by omega) ?_)
      rw [w32i (by omega) (by omega)]
    · rw [List.take_of_length_le (by simp; omega)]
      exact h.add (b := b)
    · show (if i = 0 then (if k = 48 then _ else r.1 i k) else r.1 i k) = r.1 i k
      grind
theorem Rf_sendsNumber {r : zSt} (h10 : r.1 10 0 = 200) {l : List Int} (h : zLs (r.2 10) (r.1 0 48) l) (hl : l.length ≤ 200) {x : Int} (hx : 0 ≤ x ∧ x ≤ 99) : ∃ r1, f_Rf_sendsNumber x r = some (0, r1) ∧ zLs (r1.2 10) (r1.1 0 48) ((l ++ zdg x).take 200) ∧ zSf r r1 := by
  have e1 : wRem x 10 = x % 10 := wRem_e hx.1 (by decide)
  have e2 : wDiv x 10 = x / 10 := wDiv_e (by omega) (by decide)
  have w1 : w32 (48 + x % 10) = 48 + x % 10 := w32i (by omega) (by omega)
  have w2 : w32 (48 + x / 10) = 48 + x / 10 := w32i (by omega) (by omega)
  unfold f_Rf_sendsNumber
  rw [e1, e2, w1, w2]
  by_cases q : x ≤ 9
  · obtain ⟨r1, a1, a2, a3⟩ := Rf_sends h10 h hl (48 + x % 10)
    refine ⟨r1, iteT q (bindS a1 rfl), ?_, a3⟩
    rw [show zdg x = [48 + x % 10] by unfold zdg; rw [if_pos (by omega), show 48 + x = 48 + x % 10 by omega]]
    exact a2
  · obtain ⟨r1, a1, a2, a3⟩ := Rf_sends h10 h hl (48 + x / 10)
    obtain ⟨r2, b1, b2, b3⟩ := Rf_sends (r := r1) (by rw [a3.1 10 0 (by omega)]; exact h10) a2 (List.length_take_le 200 _) (48 + x % 10)
    refine ⟨r2, iteF q (bindS a1 (bindS b1 rfl)), ?_, a3.trans b3⟩
    rw [show zdg x = [48 + x / 10, 48 + x % 10] by unfold zdg; rw [if_neg (by omega), if_pos (by omega)]]
    rw [take_app, List.append_assoc] at b2
    exact b2
