/-! ===== the class's laying, method by method ===== -/
def zTm (p : zSt) (u l a b d : Int) (F S L G : Int → Int) : zSt := uA (uA (uA (uA (uS (uS (uS (uS (uS p 0 7 u) 0 8 l) 0 9 a) 0 10 b) 0 11 d) 7 F) 8 S) 9 L) 10 G
theorem zTm_1 (p : zSt) (u l a b d : Int) (F S L G : Int → Int) (i k : Nat) : (zTm p u l a b d F S L G).1 i k = if i = 0 then (if k = 11 then d else if k = 10 then b else if k = 9 then a else if k = 8 then l else if k = 7 then u else p.1 0 k) else p.1 i k := by
  simp only [zTm, uA1, uS1]
  grind
theorem zTm_2 (p : zSt) (u l a b d : Int) (F S L G : Int → Int) (i : Nat) : (zTm p u l a b d F S L G).2 i = if i = 10 then G else if i = 9 then L else if i = 8 then S else if i = 7 then F else p.2 i := by
  simp only [zTm, uA2]
  rfl
theorem zTm_ext {p q : zSt} {u l a b d : Int} {F S L G : Int → Int} (h1 : ∀ i k, q.1 i k = if i = 0 then (if k = 11 then d else if k = 10 then b else if k = 9 then a else if k = 8 then l else if k = 7 then u else p.1 0 k) else p.1 i k) (h2 : ∀ i, q.2 i = if i = 10 then G else if i = 9 then L else if i = 8 then S else if i = 7 then F else p.2 i) : q = zTm p u l a b d F S L G :=
  zst_ext (fun i k => by rw [h1, zTm_1]) (fun i => by rw [h2, zTm_2])
def zTr (r : zSt) (A B : Int → Int) : zSt := uA (uA r 14 A) 15 B
theorem zTr_14 (r : zSt) (A B : Int → Int) (i v : Int) : uE (zTr r A B) 14 i v = zTr r (zup A i v) B := by
  refine zst_ext (fun _ _ => rfl) (fun i => ?_)
  simp only [zTr, uE, uA2]
  grind
theorem zTr_15 (r : zSt) (A B : Int → Int) (i v : Int) : uE (zTr r A B) 15 i v = zTr r A (zup B i v) := by
  refine zst_ext (fun _ _ => rfl) (fun i => ?_)
  simp only [zTr, uE, uA2]
  grind
def zMz (p : zSt) : Prop := p.1 7 0 = 1248 ∧ p.1 8 0 = 512 ∧ p.1 9 0 = 512 ∧ p.1 10 0 = 512
section ZMA
variable {p : zSt} {u l a b d : Int} {F S L G : Int → Int}
theorem c_lol (h : zMz p) (hl : 1 ≤ l ∧ l ≤ 512) : f_Ma_lengthOfLast (zTm p u l a b d F S L G) = some (L (l - 1)) := by
  unfold f_Ma_lengthOfLast
  rw [show (zTm p u l a b d F S L G).1 0 8 = l from rfl, show (zTm p u l a b d F S L G).1 9 0 = p.1 9 0 from rfl, show (zTm p u l a b d F S L G).2 9 = L from rfl, w32i (by omega) (by omega), h.2.2.1]
  exact iteF (by omega) (iteF (by omega) (iteT ⟨by omega, by omega⟩ rfl))
theorem c_beg (h : zMz p) (hl : 0 ≤ l ∧ l < 512) : f_Ma_beginRow (zTm p u l a b d F S L G) = some (0, zTm p u (l + 1) a b d F (zup S l u) (zup L l 0) (zup G l 0)) := by
  unfold f_Ma_beginRow
  rw [show (zTm p u l a b d F S L G).1 0 8 = l from rfl, show (zTm p u l a b d F S L G).1 9 0 = p.1 9 0 from rfl, show (zTm p u l a b d F S L G).1 8 0 = p.1 8 0 from rfl, show (zTm p u l a b d F S L G).1 10 0 = p.1 10 0 from rfl, show (zTm p u l a b d F S L G).1 0 7 = u from rfl, w32i (by omega) (by omega), h.2.1, h.2.2.1, h.2.2.2]
  refine iteF (by omega) (iteT (by omega) (iteT ⟨by omega, by omega⟩ (iteT ⟨by omega, by omega⟩ (iteT ⟨by omega, by omega⟩ ?_))))
  congr 2
  refine zTm_ext (fun i k => ?_) (fun i => ?_)
  · simp only [uE, uS1, uA1, zTm_1]
    grind
  · simp only [uE, uS2, uA2, zTm_2]
    grind
theorem c_goOn (h : zMz p) (hl : 1 ≤ l ∧ l < 512) : f_Ma_goOn (zTm p u l a b d F S L G) = some (0, zTm p u (l + 1) a b d F (zup S l u) (zup L l 0) (zup (zup G (l - 1) 1) l 0)) := by
  have e : uE (zTm p u l a b d F S L G) 10 (l - 1) 1 = zTm p u l a b d F S L (zup G (l - 1) 1) := by
    refine zTm_ext (fun i k => ?_) (fun i => ?_)
    · simp only [uE, uA1, zTm_1]
    · simp only [uE, uA2, zTm_2]
      grind
  unfold f_Ma_goOn
  rw [show (zTm p u l a b d F S L G).1 0 8 = l from rfl, show (zTm p u l a b d F S L G).1 10 0 = p.1 10 0 from rfl, w32i (by omega) (by omega), h.2.2.2, e]
  exact iteF (by omega) (iteF (by omega) (iteT ⟨by omega, by omega⟩ (bindS (c_beg h ⟨by omega, hl.2⟩) rfl)))
theorem c_lay (h : zMz p) (hl : 1 ≤ l ∧ l ≤ 512) (hu : 0 ≤ u ∧ u < 1248) (hL : 0 ≤ L (l - 1) ∧ L (l - 1) ≤ 24) (v : Int) : f_Ma_lay v (zTm p u l a b d F S L G) = some (0, zTm p (u + 1) l a b d (zup F u v) S (zup L (l - 1) (L (l - 1) + 1)) G) := by
  unfold f_Ma_lay
  rw [show (zTm p u l a b d F S L G).1 0 8 = l from rfl, show (zTm p u l a b d F S L G).1 9 0 = p.1 9 0 from rfl, show (zTm p u l a b d F S L G).1 7 0 = p.1 7 0 from rfl, show (zTm p u l a b d F S L G).1 0 7 = u from rfl, show (zTm p u l a b d F S L G).2 9 = L from rfl, w32i (x := l - 1) (by omega) (by omega), w32i (x := u + 1) (by omega) (by omega), w32i (x := L (l - 1) + 1) (by omega) (by omega), h.1, h.2.2.1]
  refine iteF (by omega) (iteF (by omega) (iteF (by omega) (iteT (by omega) (iteT ⟨by omega, by omega⟩ (iteT ⟨by omega, by omega⟩ (iteT ⟨by omega, by omega⟩ ?_))))))
  congr 2
  refine zTm_ext (fun i k => ?_) (fun i => ?_)
  · simp only [uE, uS1, uA1, zTm_1]
    grind
  · simp only [uE, uS2, uA2, zTm_2]
    grind
theorem c_mark (h : zMz p) (hl : 1 ≤ l ∧ l ≤ 512) : uS (zTm p u l a b d F S L G) 0 9 (w32 ((zTm p u l a b d F S L G).1 0 8 - 1)) = zTm p u l (l - 1) b d F S L G := by
  rw [show (zTm p u l a b d F S L G).1 0 8 = l from rfl, w32i (by omega) (by omega)]
  refine zTm_ext (fun i k => ?_) (fun i => ?_)
  · simp only [uS1, zTm_1]
    grind
  · simp only [uS2, zTm_2]
theorem c_mark2 (x : Int) : uS (uS (zTm p u l a b d F S L G) 0 10 x) 0 11 0 = zTm p u l a x 0 F S L G := by
  refine zTm_ext (fun i k => ?_) (fun i => ?_)
  · simp only [uS1, zTm_1]
    grind
  · simp only [uS2, zTm_2]
/-- a cell is laid, the cursor's place told, if it is there -/
theorem c_l11put (h : zMz p) (hl : 1 ≤ l ∧ l ≤ 512) (hu : 0 ≤ u ∧ u < 1248) (hL : 0 ≤ L (l - 1) ∧ L (l - 1) ≤ 24) (v c mk : Int) (hc : 0 ≤ c ∧ c < 100) :
    (if c = mk then (f_Ma_lengthOfLast (uS (zTm p u l a b d F S L G) 0 9 (w32 ((zTm p u l a b d F S L G).1 0 8 - 1)))).bind fun x9 => (f_Ma_lay v (uS (uS (uS (zTm p u l a b d F S L G) 0 9 (w32 ((zTm p u l a b d F S L G).1 0 8 - 1))) 0 10 x9) 0 11 0)).bind fun x10 => some ((.inl (w32 (c + 1), x10.2)) : (Int × zSt) ⊕ zSt)
      else if (zTm p u l a b d F S L G).1 0 11 = 0 then (f_Ma_lay v (zTm p u l a b d F S L G)).bind fun x12 => some (.inl (w32 (c + 1), x12.2))
      else (f_Ma_lengthOfLast (uS (zTm p u l a b d F S L G) 0 9 (w32 ((zTm p u l a b d F S L G).1 0 8 - 1)))).bind fun x13 => (f_Ma_lay v (uS (uS (uS (zTm p u l a b d F S L G) 0 9 (w32 ((zTm p u l a b d F S L G).1 0 8 - 1))) 0 10 x13) 0 11 0)).bind fun x14 => some (.inl (w32 (c + 1), x14.2)))
    = some (.inl (c + 1, zTm p (u + 1) l (if c = mk ∨ d ≠ 0 then l - 1 else a) (if c = mk ∨ d ≠ 0 then L (l - 1) else b) 0 (zup F u v) S (zup L (l - 1) (L (l - 1) + 1)) G)) := by
  rw [c_mark h hl, w32i (x := c + 1) (by omega) (by omega), show (zTm p u l a b d F S L G).1 0 11 = d from rfl]
  by_cases q : c = mk
  · refine iteT q (bindS (c_lol h hl) ?_)
    rw [c_mark2, if_pos (Or.inl q), if_pos (Or.inl q)]
    exact bindS (c_lay h hl hu hL v) rfl
  · refine iteF q ?_
    by_cases q2 : d = 0
    · refine iteT q2 (bindS (c_lay h hl hu hL v) ?_)
      rw [if_neg (by omega), if_neg (by omega), q2]
    · refine iteF q2 (bindS (c_lol h hl) ?_)
      rw [c_mark2, if_pos (Or.inr q2), if_pos (Or.inr q2)]
      exact bindS (c_lay h hl hu hL v) rfl
end ZMA
theorem c_emptiesLaid {r : zSt} (h14 : r.1 14 0 = 12000) (h15 : r.1 15 0 = 500) {A B : Int → Int} {o : Int} (ho : 0 ≤ o ∧ o < 500) : f_Rf_emptiesLaid o (zTr r A B) = some (0, zTr r (zFl A (24 * o) (24 * o + 24) 0) (zup B o 0)) := by
  have hl := zloop_up (step := f_Rf_emptiesLaid_l2 o) (r := zTr r (zFl A (24 * o) (24 * o + 24) 0) B) 24 (n := zfu) (fun j => ((j : Int), zTr r (zFl A (24 * o) (24 * o + (j : Int)) 0) B)) (fun j hj => ?_) ?_ ?_
  · simp only [Int.natCast_zero, Int.add_zero, zFl_self] at hl
    unfold f_Rf_emptiesLaid
    refine bindS hl (iteT ⟨ho.1, ?_⟩ ?_)
    · show o < r.1 15 0
      omega
    · rw [zTr_15]
  · unfold f_Rf_emptiesLaid_l2
    have e : w32 (w32 (24 * o) + (j : Int)) = 24 * o + (j : Int) := by rw [w32i (x := 24 * o) (by omega) (by omega), w32i (by omega) (by omega)]
    refine iteF (by show ¬ (24 : Int) ≤ (j : Int); omega) ?_
    show (if 0 ≤ w32 (w32 (24 * o) + (j : Int)) ∧ w32 (w32 (24 * o) + (j : Int)) < r.1 14 0 then _ else _) = _
    rw [e]
    refine iteT ⟨by omega, by omega⟩ ?_
    show some (Sum.inl (w32 ((j : Int) + 1), uE (zTr r (zFl A (24 * o) (24 * o + (j : Int)) 0) B) 14 (24 * o + (j : Int)) 0)) = _
    rw [zTr_14, zup_zFl (by omega), w32i (by omega) (by omega), Int.natCast_add, Int.add_assoc]
    rfl
  · rfl
  · unfold zfu; omega
