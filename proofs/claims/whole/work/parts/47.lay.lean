/-! ===== laying rows anew: rows of starts and lengths beside rows of 24 ===== -/
theorem zloop_pair {σ τ ρ κ : Type} {f : σ → Option (σ ⊕ ρ)} {g : τ → Option (τ ⊕ κ)} (Q : Nat → σ → τ → Prop) (E : ρ → κ → Prop) (K : Nat)
    (hs : ∀ k x y, k < K → Q k x y → ∃ x' y', f x = some (.inl x') ∧ g y = some (.inl y') ∧ Q (k + 1) x' y')
    (he : ∀ x y, Q K x y → ∃ u v, f x = some (.inr u) ∧ g y = some (.inr v) ∧ E u v) : ∀ (d k n m : Nat) (x : σ) (y : τ), K = k + d → d < n → d < m → Q k x y → ∃ u v, zloop f n x = some u ∧ zloop g m y = some v ∧ E u v
  | d, k, 0, m, x, y, _, h, _, _ => absurd h (Nat.not_lt_zero _)
  | d, k, n + 1, 0, x, y, _, _, h, _ => absurd h (Nat.not_lt_zero _)
  | 0, k, n + 1, m + 1, x, y, hk, _, _, hq => by
    obtain rfl : K = k := hk
    obtain ⟨u, v, e1, e2, e3⟩ := he x y hq
    refine ⟨u, v, ?_, ?_, e3⟩
    · unfold zloop; rw [e1]; rfl
    · unfold zloop; rw [e2]; rfl
  | d + 1, k, n + 1, m + 1, x, y, hk, h1, h2, hq => by
    obtain ⟨x', y', e1, e2, e3⟩ := hs k x y (by omega) hq
    obtain ⟨u, v, g1, g2, g3⟩ := zloop_pair Q E K hs he d (k + 1) n m x' y' (by omega) (by omega) (by omega) e3
    refine ⟨u, v, ?_, ?_, g3⟩
    · unfold zloop; rw [e1]; exact g1
    · unfold zloop; rw [e2]; exact g2
def zLq (w u o : Int) (F S L G A B : Int → Int) : Prop := ∀ i, 0 ≤ i → i < o → ((0 ≤ L i ∧ L i ≤ w) ∧ 0 ≤ S i ∧ S i + L i ≤ u) ∧ (∀ k, 0 ≤ k → k < L i → F (S i + k) = A (24 * i + k)) ∧ (∀ k, L i ≤ k → k < 24 → A (24 * i + k) = 0) ∧ (G i = B i ∧ z01 (B i)) ∧ zRwf A (24 * i) w
def zLl (w u o x e : Int) (F S L G A B : Int → Int) : Prop := (S o + L o = u ∧ 0 ≤ S o ∧ L o = x - e ∧ 0 ≤ L o ∧ x ≤ w) ∧ (∀ k, 0 ≤ k → k < L o → F (S o + k) = A (24 * o + k)) ∧ (∀ k, x ≤ k → k < 24 → A (24 * o + k) = 0) ∧ (e = 1 → A (24 * o + L o) = -2) ∧ (G o = 0 ∧ B o = 0) ∧ zRwf A (24 * o) w ∧ (e = 0 ∨ e = 1)
def zLp (w u o x e : Int) (F S L G A B : Int → Int) : Prop := zLq w u o F S L G A B ∧ zLl w u o x e F S L G A B
/-- a row begins -/
theorem zLq.begin {w u o : Int} {F S L G A B : Int → Int} (h : zLq w u o F S L G A B) (ho : 0 ≤ o) (hu : 0 ≤ u) (hw : 0 ≤ w ∧ w ≤ 24) : zLp w u o 0 0 F (zup S o u) (zup L o 0) (zup G o 0) (zFl A (24 * o) (24 * o + 24) 0) (zup B o 0) := by
  refine ⟨fun i a b => ?_, ⟨?_, ?_, ?_, ?_, ?_, ?_, Or.inl rfl⟩⟩
  · obtain ⟨h1, h2, h3, h4, h5⟩ := h i a b
    have e1 : ∀ (f : Int → Int) (v : Int), zup f o v i = f i := fun f v => by unfold zup; rw [if_neg (by omega)]
    have e2 : ∀ k, 0 ≤ k → k < 24 → zFl A (24 * o) (24 * o + 24) 0 (24 * i + k) = A (24 * i + k) := fun k c d => by unfold zFl; rw [if_neg (by omega)]
    rw [e1, e1, e1, e1]
    refine ⟨h1, fun k c d => ?_, fun k c d => ?_, h4, h5.cg (fun c d e => e2 c d e) hw⟩
    · rw [e2 k c (by omega)]; exact h2 k c d
    · rw [e2 k (by omega) d]; exact h3 k c d
  · unfold zup
    simp only [if_true]
    omega
  · intro k a b
    unfold zup at b
    simp only [if_true] at b
    omega
  · intro k a b
    unfold zFl
    rw [if_pos (by omega)]
  · intro q; cases q
  · unfold zup
    simp
  · exact zRwf_0 (fun c a b => by unfold zFl; rw [if_pos (by omega)]) hw
/-- a row ends -/
theorem zLp.close {w u o x : Int} {F S L G A B : Int → Int} (h : zLp w u o x 0 F S L G A B) (ho : 0 ≤ o) : zLq w u (o + 1) F S L G A B := by
  intro i a b
  by_cases q : i < o
  · exact h.1 i a q
  · obtain rfl : i = o := by omega
    obtain ⟨⟨h1, h2, h3, h4, h5⟩, k1, k2, k3, k4, k5, k6⟩ := h.2
    exact ⟨⟨⟨h4, by omega⟩, h2, by omega⟩, k1, fun k c d => k2 k (by omega) d, ⟨by rw [k4.1, k4.2], Or.inl k4.2⟩, k5⟩
theorem zLp.goOn {w u o x : Int} {F S L G A B : Int → Int} (h : zLp w u o x 0 F S L G A B) (ho : 0 ≤ o) : zLq w u (o + 1) F S L (zup G o 1) A (zup B o 1) := by
  intro i a b
  obtain ⟨h1, h2, h3, h4, h5⟩ := h.close ho i a b
  refine ⟨h1, h2, h3, ?_, h5⟩
  unfold zup
  by_cases q : i = o
  · rw [if_pos q, if_pos q]; exact ⟨rfl, Or.inr rfl⟩
  · rw [if_neg q, if_neg q]; exact h4
theorem zLq.lay {w u o v : Int} {F S L G A A' B : Int → Int} {z : Int} (h : zLq w u o F S L G A B) (hA : ∀ i, 0 ≤ i → i < 24 * o → A' i = A i) (hw : 0 ≤ w ∧ w ≤ 24) : zLq w (u + 1) o (zup F u v) S (zup L o z) G A' B := by
  intro i a b
  obtain ⟨h1, h2, h3, h4, h5⟩ := h i a b
  have e1 : zup L o z i = L i := by unfold zup; rw [if_neg (by omega)]
  rw [e1]
  refine ⟨⟨h1.1, h1.2.1, by omega⟩, fun k c d => ?_, fun k c d => ?_, h4, h5.cg (fun c d e => hA _ (by omega) (by omega)) hw⟩
  · rw [hA _ (by omega) (by omega), ← h2 k c d]
    unfold zup
    rw [if_neg (by omega)]
  · rw [hA _ (by omega) (by omega)]
    exact h3 k c d
theorem zLp.lay1 {w u o x v : Int} {F S L G A B : Int → Int} (h : zLp w u o x 0 F S L G A B) (ho : 0 ≤ o) (hw : 0 ≤ w ∧ w ≤ 24) (hx : x + 1 ≤ w) (hv : zVl v ∧ v ≠ -2 ∧ ¬ zWd v) :
    zLp w (u + 1) o (x + 1) 0 (zup F u v) S (zup L o (L o + 1)) G (zup A (24 * o + x) v) B := by
  obtain ⟨⟨h1, h2, h3, h4, h5⟩, k1, k2, k3, k4, k5, k6⟩ := h.2
  have hL : zup L o (L o + 1) o = L o + 1 := by unfold zup; rw [if_pos rfl]
  refine ⟨h.1.lay (fun i a b => by unfold zup; rw [if_neg (by omega)]) hw, ⟨?_, ?_, ?_, ?_, k4, ?_, Or.inl rfl⟩⟩
  · rw [hL]; omega
  · rw [hL]
    intro k a b
    unfold zup
    by_cases q : k = L o
    · rw [if_pos (by omega), if_pos (by omega)]
    · rw [if_neg (by omega), if_neg (by omega)]
      exact k1 k a (by omega)
  · intro k a b
    unfold zup
    rw [if_neg (by omega)]
    exact k2 k (by omega) b
  · intro q; cases q
  · exact k5.put1 ⟨by omega, by omega⟩ (k2 x (by omega) (by omega)) hv
theorem zLp.lay2 {w u o x v : Int} {F S L G A B : Int → Int} (h : zLp w u o x 0 F S L G A B) (ho : 0 ≤ o) (hw : 0 ≤ w ∧ w ≤ 24) (hx : x + 2 ≤ w) (hv : zVl v ∧ v ≠ -2 ∧ zWd v) :
    zLp w (u + 1) o (x + 2) 1 (zup F u v) S (zup L o (L o + 1)) G (zup (zup A (24 * o + x) v) (24 * o + x + 1) (-2)) B := by
  obtain ⟨⟨h1, h2, h3, h4, h5⟩, k1, k2, k3, k4, k5, k6⟩ := h.2
  have hL : zup L o (L o + 1) o = L o + 1 := by unfold zup; rw [if_pos rfl]
  refine ⟨h.1.lay (fun i a b => by unfold zup; rw [if_neg (by omega), if_neg (by omega)]) hw, ⟨?_, ?_, ?_, ?_, k4, ?_, Or.inr rfl⟩⟩
  · rw [hL]; omega
  · rw [hL]
    intro k a b
    unfold zup
    by_cases q : k = L o
    · rw [if_pos (by omega), if_neg (by omega), if_pos (by omega)]
    · rw [if_neg (by omega), if_neg (by omega), if_neg (by omega)]
      exact k1 k a (by omega)
  · intro k a b
    unfold zup
    rw [if_neg (by omega), if_neg (by omega)]
    exact k2 k (by omega) b
  · intro _
    rw [hL]
    unfold zup
    rw [if_pos (by omega)]
  · have := k5.put2 (c := x) (v := v) ⟨by omega, by omega⟩ (k2 x (by omega) (by omega)) (k2 (x + 1) (by omega) (by omega)) hv
    rw [← Int.add_assoc] at this
    exact this
theorem zLp.layT {w u o x : Int} {F S L G A B : Int → Int} (h : zLp w u o x 1 F S L G A B) (ho : 0 ≤ o) (hw : 0 ≤ w ∧ w ≤ 24) :
    zLp w (u + 1) o x 0 (zup F u (-2)) S (zup L o (L o + 1)) G A B := by
  obtain ⟨⟨h1, h2, h3, h4, h5⟩, k1, k2, k3, k4, k5, k6⟩ := h.2
  have hL : zup L o (L o + 1) o = L o + 1 := by unfold zup; rw [if_pos rfl]
  refine ⟨h.1.lay (fun _ _ _ => rfl) hw, ⟨?_, ?_, ?_, ?_, k4, k5, Or.inl rfl⟩⟩
  · rw [hL]; omega
  · rw [hL]
    intro k a b
    unfold zup
    by_cases q : k = L o
    · rw [if_pos (by omega), q]
      exact (k3 rfl).symm
    · rw [if_neg (by omega)]
      exact k1 k a (by omega)
  · intro k a b
    exact k2 k a b
  · intro q; cases q
