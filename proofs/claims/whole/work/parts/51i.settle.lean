/-! ===== the record of what came, and settling ===== -/
def zCp (c : Int) : Prop := c = 1024 ∨ c = 2048 ∨ c = 4096 ∨ c = 8192 ∨ c = 16384 ∨ c = 32768 ∨ c = 65536
def zTp (p : zSt) (N : List Int) : Prop := p.1 0 1 = N.length ∧ (∀ i : Nat, i < N.length → p.2 1 i = N.getD i 0) ∧ zCp (p.1 1 0) ∧ (N.length : Int) ≤ p.1 1 0
theorem zTp.cg {p q : zSt} {N : List Int} (h : zTp p N) (h1 : q.1 0 1 = p.1 0 1) (h2 : q.2 1 = p.2 1) (h3 : q.1 1 0 = p.1 1 0) : zTp q N := by
  unfold zTp
  rw [h1, h2, h3]
  exact h
theorem zpot_le {v : Nat} {s t : zSt} (h : s.1 v 0 ≤ t.1 v 0) : zpot v t ≤ zpot v s := by
  unfold zpot
  omega
theorem zmn_i {v : Nat} {s s1 : zSt} {o : Option (Int × zSt)} {x : Int × zSt} (h1 : s.1 v 0 ≤ s1.1 v 0) (h2 : o = some x) (h3 : s1.1 v 0 ≤ x.2.1 v 0) : zmn v s s1 o = some x := by
  unfold zmn
  rw [if_pos (zpot_le h1), h2]
  exact iteT (zpot_le h3) rfl
theorem zmnL_i {v : Nat} {s s1 : zSt} {o : Option zRS} {x : zRS} (h1 : s.1 v 0 ≤ s1.1 v 0) (h2 : o = some x) (h3 : s1.1 v 0 ≤ (zg2 x).1 v 0) : zmnL v s s1 zg2 o = some x := by
  unfold zmnL
  rw [if_pos (zpot_le h1), h2]
  exact iteT (zpot_le h3) rfl
/-- the record alone changed -/
def zTq (p q : zSt) : Prop := (∀ i k, ¬ ((i = 0 ∧ k = 1) ∨ (i = 1 ∧ k = 0)) → q.1 i k = p.1 i k) ∧ (∀ i, i ≠ 1 → q.2 i = p.2 i) ∧ p.1 1 0 ≤ q.1 1 0
theorem Ta_note {p : zSt} {N : List Int} (h : zTp p N) (hN : N.length < 65536) (x : Int) : ∃ q, f_Ta_note x p = some (0, q) ∧ zTp q (N ++ [x]) ∧ zTq p q := by
  obtain ⟨h1, h2, h3, h4⟩ := h
  have key : ∀ p' : zSt, p'.1 0 1 = N.length → (∀ i : Nat, i < N.length → p'.2 1 i = N.getD i 0) → zCp (p'.1 1 0) → (N.length : Int) < p'.1 1 0 → zTq p p' → ∃ q, f_Ta_note_j40 x p' = some (0, q) ∧ zTp q (N ++ [x]) ∧ zTq p q := by
    intro p' e1 e2 e3 e4 e5
    have ew : w32 (p'.1 0 1 + 1) = p'.1 0 1 + 1 := by unfold zCp at e3; exact w32i (by omega) (by omega)
    refine ⟨uS (uE p' 1 (p'.1 0 1) x) 0 1 (p'.1 0 1 + 1), ?_, ⟨?_, fun i hi => ?_, e3, ?_⟩, ⟨fun i k y => ?_, fun i y => ?_, e5.2.2⟩⟩
    · unfold f_Ta_note_j40
      rw [ew]
      exact iteT (by unfold zCp at e3; omega) (iteF (by omega) (iteF (by omega) rfl))
    · show p'.1 0 1 + 1 = _
      simp; omega
    · show zup (p'.2 1) (p'.1 0 1) x i = _
      simp only [List.length_append, List.length_cons, List.length_nil] at hi
      rw [getD_app, e1]
      unfold zup
      by_cases q2 : i < N.length
      · rw [if_neg (by omega), if_pos q2]
        exact e2 i q2
      · obtain rfl : i = N.length := by omega
        rw [if_pos rfl, if_neg q2, Nat.sub_self]
        rfl
    · show _ ≤ p'.1 1 0
      simp; omega
    · rw [uS1]
      by_cases z : i = 0
      · rw [if_pos z, if_neg (by omega), ← z]
        exact e5.1 i k y
      · rw [if_neg z]
        exact e5.1 i k y
    · exact (uA_a (by omega)).trans (e5.2.1 i y)
  by_cases z : (N.length : Int) < p.1 1 0
  · obtain ⟨q, k1, k2, k3⟩ := key p h1 h2 h3 z ⟨fun _ _ _ => rfl, fun _ _ => rfl, Int.le_refl _⟩
    refine ⟨q, ?_, k2, k3⟩
    unfold f_Ta_note
    exact iteT (by unfold zCp at h3; omega) (iteT (by omega) k1)
  · have h3' := h3
    unfold zCp at h3
    have u1 : ∀ i : Nat, i < N.length → (uS (uA p 1 (zcpy (p.2 1) (fun _ => 0) 0 0 (p.1 1 0))) 1 0 ((p.1 1 0) * 2)).2 1 i = N.getD i 0 := fun i hi => by
      show zcpy (p.2 1) (fun _ => 0) 0 0 (p.1 1 0) i = _
      unfold zcpy
      rw [if_pos (by omega), show (0 : Int) + ((i : Int) - 0) = i by omega]
      exact h2 i hi
    have u2 : ∀ i k, ¬ ((i = 0 ∧ k = 1) ∨ (i = 1 ∧ k = 0)) → (uS (uA p 1 (zcpy (p.2 1) (fun _ => 0) 0 0 (p.1 1 0))) 1 0 ((p.1 1 0) * 2)).1 i k = p.1 i k := fun i k y => by
      rw [uS1]
      by_cases z : i = 1
      · rw [if_pos z, if_neg (by omega), z]; rfl
      · rw [if_neg z]; rfl
    obtain ⟨q, k1, k2, k3⟩ := key (uS (uA p 1 (zcpy (p.2 1) (fun _ => 0) 0 0 (p.1 1 0))) 1 0 ((p.1 1 0) * 2)) h1 u1 (by show zCp (p.1 1 0 * 2); unfold zCp; omega) (by show _ < p.1 1 0 * 2; omega) ⟨u2, fun i y => uA_a (by omega), by show _ ≤ p.1 1 0 * 2; omega⟩
    refine ⟨q, ?_, k2, k3⟩
    unfold f_Ta_note
    exact iteT (by omega) (iteF (by omega) (iteF (by omega) (iteT (by omega) k1)))
theorem Ta_noteByte {p : zSt} {N : List Int} (h : zTp p N) (hN : N.length < 65536) (x : Int) : ∃ q, f_Ta_noteByte x p = some (0, q) ∧ zTp q (N ++ [x]) ∧ zTq p q := by
  obtain ⟨q, a, b, c⟩ := Ta_note h hN x
  refine ⟨q, ?_, b, c⟩
  unfold f_Ta_noteByte
  exact bindS a (zmn_i c.2.2 rfl (Int.le_refl _))
theorem Ta_noteSize {p : zSt} {N : List Int} (h : zTp p N) (hN : N.length < 65536) (R w : Int) : ∃ q, f_Ta_noteSize R w p = some (0, q) ∧ zTp q (N ++ [zsz R w]) ∧ zTq p q := by
  obtain ⟨q, a, b, c⟩ := Ta_note h hN (zsz R w)
  refine ⟨q, ?_, b, c⟩
  unfold f_Ta_noteSize
  exact bindS a (zmn_i c.2.2 rfl (Int.le_refl _))
/-- the record's place in the whole -/
def zA41 (C D : zSt) : Prop := (∀ i k, ¬ ((i = 41 ∧ k = 1) ∨ (i = 42 ∧ k = 0)) → D.1 i k = C.1 i k) ∧ (∀ i, i ≠ 42 → D.2 i = C.2 i) ∧ C.1 42 0 ≤ D.1 42 0
theorem zTq.at {C q : zSt} (h : zTq (zsb (zsh 41) C) q) : zA41 C (zpb (zsh 41) 2 C q) := by
  refine ⟨fun i k y => ?_, fun i y => ?_, ?_⟩
  · rw [zpb1]
    by_cases z : 41 ≤ i ∧ i < 41 + 2
    · rw [if_pos z, h.1 (i - 41) k (by omega)]
      show C.1 (i - 41 + 41) k = _
      rw [Nat.sub_add_cancel z.1]
    · rw [if_neg z]
  · rw [zpb2]
    by_cases z : 41 ≤ i ∧ i < 41 + 2
    · rw [if_pos z, h.2.1 (i - 41) (by omega)]
      show C.2 (i - 41 + 41) = _
      rw [Nat.sub_add_cancel z.1]
    · rw [if_neg z]
  · rw [zpb1, if_pos ⟨by decide, by decide⟩]
    exact h.2.2
theorem zTp.pb {C q : zSt} {N : List Int} (h : zTp q N) : zTp (zsb (zsh 41) (zpb (zsh 41) 2 C q)) N := by
  refine h.cg ?_ ?_ ?_
  · show (zpb (zsh 41) 2 C q).1 41 1 = _
    rw [zpb1, if_pos ⟨by decide, by decide⟩]
  · show (zpb (zsh 41) 2 C q).2 42 = _
    rw [zpb2, if_pos ⟨by decide, by decide⟩]
  · show (zpb (zsh 41) 2 C q).1 42 0 = _
    rw [zpb1, if_pos ⟨by decide, by decide⟩]
