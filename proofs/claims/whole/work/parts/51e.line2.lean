/-! ===== the line rule: bytes taken away ===== -/
section ZJK
variable {X : List Int → List Int → zSt → List Int → Prop} {q r : zSt} {ln hd l : List Int}
/-- the reference changes what is not the screen's, and the class the same: the line -/
theorem J_line (hX : zXok X) (h : zJ X q r ln hd l) {q' r' : zSt} {ln' : List Int} (hq : zAo 1 q q') (h1 : zBy (zsb (zsh 1) q') 30 ln') (h2 : zLs (r'.2 9) (r'.1 0 46) ln') (hr : ∀ k, k ≠ 46 → k ≠ 53 → r'.1 0 k = r.1 0 k) (hr2 : ∀ i, i ≠ 0 → r'.1 i = r.1 i) (hr3 : ∀ i, i ≠ 9 → r'.2 i = r.2 i) (hb : zbs ln') : zJ X q' r' ln' hd l := by
  obtain ⟨⟨⟨a1, a2⟩, ⟨b1, b2⟩, c, d, e, f⟩, hO, pg, m, x1, x3, x4, x5, x6, x7⟩ := h
  have hl : zLin r r' := ⟨fun k x y => hr k (by omega) (by omega), hr2, fun i x => hr3 i (by omega)⟩
  refine ⟨⟨⟨h1, h2⟩, ⟨zBy_ao hq (by decide) (by decide) b1, by rw [hr 44 (by decide) (by decide), hr3 8 (by decide)]; exact b2⟩, ?_, ?_, hb, f⟩, hO.lin hl (by rw [hr 48 (by decide) (by decide)]; exact hO.2), pg, m, hX.1 _ _ _ _ _ x1 hl, zBy_ao hq (by decide) (by decide) x3, by rw [hr 48 (by decide) (by decide), hr3 10 (by decide)]; exact x4, zBy_ao hq (by decide) (by decide) x5, x6, x7⟩
  · rw [hq.1 0 4 (by omega), hq.1 0 5 (by omega), hq.1 0 6 (by omega), hq.1 0 7 (by omega), hq.1 0 8 (by omega), hr 40 (by decide) (by decide), hr 41 (by decide) (by decide), hr 42 (by decide) (by decide), hr 49 (by decide) (by decide), hr 50 (by decide) (by decide)]
    exact c
  · rw [hr 40 (by decide) (by decide), hr 41 (by decide) (by decide), hr 42 (by decide) (by decide)]
    exact d
theorem zbs.init {ln : List Int} {c : Int} (h : zbs (ln ++ [c])) : zbs ln ∧ 0 ≤ c ∧ c ≤ 127 := ⟨fun b hb => h b (List.mem_append_left _ hb), h c (by simp)⟩
theorem J_echo3 (hX : zXok X) (h : zJ X q r ln hd l) (hl : l.length + 3 ≤ 256) :
    ∃ qa qb qc ra rb rc hd' l', (f_Li_echo 8 q = some (0, qa) ∧ f_Li_echo 32 qa = some (0, qb) ∧ f_Li_echo 8 qb = some (0, qc)) ∧ (f_Rf_echo 8 r = some (0, ra) ∧ f_Rf_echo 32 ra = some (0, rb) ∧ f_Rf_echo 8 rb = some (0, rc)) ∧ zJ X qc rc ln hd' l' ∧ l'.length ≤ l.length + 3 ∧ hd'.length + l'.length ≤ hd.length + l.length + 3 ∧ zEk r rc := by
  obtain ⟨qa, ra, hda, la, a1, a2, a3, a4, a5, a6⟩ := J_echo hX h (by omega) (b := 8) (by decide)
  obtain ⟨qb, rb, hdb, lb, b1, b2, b3, b4, b5, b6⟩ := J_echo hX a3 (by omega) (b := 32) (by decide)
  obtain ⟨qc, rc, hdc, lc, c1, c2, c3, c4, c5, c6⟩ := J_echo hX b3 (by omega) (b := 8) (by decide)
  exact ⟨qa, qb, qc, ra, rb, rc, hdc, lc, ⟨a1, b1, c1⟩, ⟨a2, b2, c2⟩, c3, by omega, by omega, (a6.trans b6).trans c6⟩
/-- the last byte of the line is taken away -/
theorem J_take (hX : zXok X) {c : Int} (h : zJ X q r (ln ++ [c]) hd l) (hl : l.length + 6 ≤ 256) :
    ∃ q' r' hd' l', f_Li_takeAway q = some (0, q') ∧ f_Rf_takesLast r = some (0, r') ∧ zJ X q' r' ln hd' l' ∧ l'.length ≤ l.length + 6 ∧ hd'.length + l'.length ≤ hd.length + l.length + 6 ∧ zEk (uS r 0 46 (r.1 0 46 - 1)) r' := by
  have h' := h
  obtain ⟨⟨⟨a1, a2⟩, ⟨b1, b2⟩, ⟨c1, c2, c3, c4, c5⟩, d, e, f⟩, hO, -⟩ := h
  have hRL := hO.rl
  have h9 : r.1 9 0 = 30 := hRL.2.2.2.2.2.2.2.2.1
  have a21 := a2.1
  have a14 := a1.2.2.2.1
  simp only [List.length_append, List.length_cons, List.length_nil] at a21 a14
  obtain ⟨eb, ec⟩ := e.init
  obtain ⟨p, g1, g2, g3⟩ := Bo_removeLast (o := 1) a1 (by decide)
  have ev : r.2 9 (ln.length : Int) = c := by
    have := a2.2 ln.length (by simp)
    rw [this]
    simp [List.getD_eq_getElem?_getD]
  have hJ0 : zJ X (zpb (zsh 1) 2 q p) (uS r 0 46 (r.1 0 46 - 1)) ln hd l := by
    refine J_line hX h' g3 g2 ⟨?_, fun i hi => ?_⟩ (fun k k1 k2 => ?_) (fun i i1 => ?_) (fun _ _ => rfl) eb
    · show r.1 0 46 - 1 = _
      omega
    · have := a2.2 i (by simp; omega)
      rw [show (uS r 0 46 (r.1 0 46 - 1)).2 9 = r.2 9 from rfl, this]
      simp [List.getD_eq_getElem?_getD, List.getElem?_append_left hi]
    · rw [uS1, if_pos rfl, if_neg k1]
    · funext k
      rw [uS1, if_neg i1]
  obtain ⟨t, ht⟩ : ∃ t, t = (if 32 ≤ c then (1 : Int) else 2) := ⟨_, rfl⟩
  have ht' : 1 ≤ t ∧ t ≤ 2 := by rw [ht]; split <;> omega
  have hp := zloop_pair (f := f_Li_takeAway_l31 t) (g := f_Rf_takesLast_l12)
    (fun k A B => ∃ q1 r1 hd1 l1, A = ((k : Int), q1) ∧ B = ((k : Int), r1) ∧ zJ X q1 r1 ln hd1 l1 ∧ l1.length ≤ l.length + 3 * k ∧ hd1.length + l1.length ≤ hd.length + l.length + 3 * k ∧ zEk (uS r 0 46 (r.1 0 46 - 1)) r1)
    (fun A B => ∃ hd1 l1, zJ X A B ln hd1 l1 ∧ l1.length ≤ l.length + 6 ∧ hd1.length + l1.length ≤ hd.length + l.length + 6 ∧ zEk (uS r 0 46 (r.1 0 46 - 1)) B) t.toNat ?_ ?_ t.toNat 0 zfu zfu (0, zpb (zsh 1) 2 q p) (0, uS r 0 46 (r.1 0 46 - 1)) (by omega) (by unfold zfu; omega) (by unfold zfu; omega) ⟨_, _, hd, l, rfl, rfl, hJ0, by omega, by omega, zEk.rf _⟩
  · obtain ⟨A, B, p1, p2, hd1, l1, p3, p4, p5, p6⟩ := hp
    refine ⟨A, B, hd1, l1, ?_, ?_, p3, p4, p5, p6⟩
    · unfold f_Li_takeAway
      refine bindS (By_count a1) (iteT (by simp; omega) (bindS g1 ?_))
      dsimp only
      rw [← ht]
      exact bindS p1 rfl
    · unfold f_Rf_takesLast
      rw [w32i (by omega) (by omega)]
      exact bindS p2 rfl
  · rintro k A B hk ⟨q1, r1, hd1, l1, rfl, rfl, k1, k2, k3, k4⟩
    obtain ⟨qa, qb, qc, ra, rb, rc, hd', l', ⟨u1, u2, u3⟩, ⟨v1, v2, v3⟩, w1, w2, w3, w4⟩ := J_echo3 hX k1 (by omega)
    have ew : w32 ((k : Int) + 1) = ((k + 1 : Nat) : Int) := by rw [w32i (by omega) (by omega)]; omega
    have e46 : r1.1 0 46 = (ln.length : Int) := by
      rw [k4.1 46 (by decide) (by decide)]
      show r.1 0 46 - 1 = _
      omega
    have e9 : r1.2 9 = r.2 9 := k4.2.2 9 (by decide) (by decide) (by decide)
    have e90 : r1.1 9 0 = 30 := k1.2.1.rl.2.2.2.2.2.2.2.2.1
    refine ⟨(((k + 1 : Nat) : Int), qc), (((k + 1 : Nat) : Int), rc), ?_, ?_, qc, rc, hd', l', rfl, rfl, w1, by omega, by omega, k4.trans w4⟩
    · unfold f_Li_takeAway_l31
      refine iteF (by show ¬ t ≤ (k : Int); omega) (bindS u1 (bindS u2 (bindS u3 ?_)))
      exact inl2 ew rfl
    · unfold f_Rf_takesLast_l12
      dsimp only
      rw [e46, e9, e90, ev, ← ht]
      refine iteT (by omega) (iteF (by omega) (bindS v1 (bindS v2 (bindS v3 ?_))))
      exact inl2 ew rfl
  · rintro A B ⟨q1, r1, hd1, l1, rfl, rfl, k1, k2, k3, k4⟩
    have e46 : r1.1 0 46 = (ln.length : Int) := by
      rw [k4.1 46 (by decide) (by decide)]
      show r.1 0 46 - 1 = _
      omega
    have e9 : r1.2 9 = r.2 9 := k4.2.2 9 (by decide) (by decide) (by decide)
    have e90 : r1.1 9 0 = 30 := k1.2.1.rl.2.2.2.2.2.2.2.2.1
    refine ⟨q1, r1, ?_, ?_, hd1, l1, k1, by omega, by omega, k4⟩
    · unfold f_Li_takeAway_l31
      exact iteT (by show t ≤ ((t.toNat : Nat) : Int); omega) rfl
    · unfold f_Rf_takesLast_l12
      dsimp only
      rw [e46, e9, e90, ev, ← ht]
      exact iteT (by omega) (iteT (by omega) rfl)
/-- what typing leaves alone -/
def zYp (r r' : zSt) : Prop := (∀ k, k = 0 ∨ k = 1 ∨ k = 2 ∨ k = 40 ∨ k = 41 ∨ k = 49 ∨ k = 50 ∨ (52 ≤ k ∧ k ≠ 58) → r'.1 0 k = r.1 0 k) ∧ ∀ i, i = 9 ∨ i = 11 ∨ i = 12 → r'.2 i = r.2 i
theorem zYp.rf (r : zSt) : zYp r r := ⟨fun _ _ => rfl, fun _ _ => rfl⟩
theorem zYp.trans {r r1 r2 : zSt} (h : zYp r r1) (k : zYp r1 r2) : zYp r r2 := ⟨fun i a => (k.1 i a).trans (h.1 i a), fun i a => (k.2 i a).trans (h.2 i a)⟩
theorem zEk.ty {r r1 : zSt} (h : zEk r r1) : zYp r r1 := ⟨fun k a => by
  rcases (by omega : (45 ≤ k ∧ k ≠ 48) ∨ (k = 0 ∨ k = 1 ∨ k = 2 ∨ (40 ≤ k ∧ k ≤ 43))) with x | x
  · exact h.1 k x.1 x.2
  · exact h.2.1 k x, fun i a => h.2.2 i (by omega) (by omega) (by omega)⟩
theorem zYp.u46 (r : zSt) (x : Int) : zYp r (uS r 0 46 x) := ⟨fun k a => by rw [uS1, if_pos rfl, if_neg (by omega)], fun _ _ => rfl⟩
/-- bytes are taken away, as long as something holds of the last one -/
theorem J_while (hX : zXok X) {fc : Int × zSt → Option ((Int × zSt) ⊕ zSt)} {fr : zSt → Option (zSt ⊕ zSt)} {C : Int → Prop}
    (h0 : ∀ i q r hd l, zJ X q r [] hd l → 0 ≤ i → fc (i, q) = some (.inr q) ∧ fr r = some (.inr r))
    (h1 : ∀ i q r ln c hd l, zJ X q r (ln ++ [c]) hd l → 0 ≤ i → i < 30 → ¬ C c → fc (i, q) = some (.inr q) ∧ fr r = some (.inr r))
    (h2 : ∀ i q r ln c hd l, zJ X q r (ln ++ [c]) hd l → 0 ≤ i → i < 30 → C c → fc (i, q) = (f_Li_takeAway q).bind (fun x => some (.inl (w32 (i + 1), x.2))) ∧ fr r = (f_Rf_takesLast r).bind fun x => some (.inl x.2)) :
    ∀ (n : Nat) (ln : List Int) (i : Int) (q r : zSt) (hd l : List Int) (f1 f2 : Nat), ln.length = n → 0 ≤ i → i + n ≤ 30 → n < f1 → n < f2 → l.length + 6 * n ≤ 256 → zJ X q r ln hd l →
      ∃ q' r' ln' hd' l', zloop fc f1 (i, q) = some q' ∧ zloop fr f2 r = some r' ∧ zJ X q' r' ln' hd' l' ∧ ln'.length ≤ ln.length ∧ l'.length + 6 * ln'.length ≤ l.length + 6 * ln.length ∧ hd'.length + l'.length + 6 * ln'.length ≤ hd.length + l.length + 6 * ln.length ∧ zYp r r'
  | 0, ln, i, q, r, hd, l, f1, f2, e, i0, _, f1', f2', _, h => by
    obtain rfl : ln = [] := List.length_eq_zero_iff.mp e
    obtain ⟨f1, rfl⟩ : ∃ j, f1 = j + 1 := ⟨f1 - 1, by omega⟩
    obtain ⟨f2, rfl⟩ : ∃ j, f2 = j + 1 := ⟨f2 - 1, by omega⟩
    obtain ⟨a, b⟩ := h0 i q r hd l h i0
    refine ⟨q, r, [], hd, l, ?_, ?_, h, by omega, by omega, by omega, zYp.rf r⟩
    · unfold zloop; rw [a]; rfl
    · unfold zloop; rw [b]; rfl
  | n + 1, ln, i, q, r, hd, l, f1, f2, e, i0, i1, f1', f2', hl, h => by
    obtain ⟨ln0, c, rfl⟩ : ∃ ln0 c, ln = ln0 ++ [c] := ⟨ln.dropLast, ln.getLast (by intro x; rw [x] at e; cases e), (List.dropLast_concat_getLast _).symm⟩
    have e' : ln0.length = n := by simp at e; exact e
    obtain ⟨f1, rfl⟩ : ∃ j, f1 = j + 1 := ⟨f1 - 1, by omega⟩
    obtain ⟨f2, rfl⟩ : ∃ j, f2 = j + 1 := ⟨f2 - 1, by omega⟩
    by_cases hc : C c
    · obtain ⟨a, b⟩ := h2 i q r ln0 c hd l h i0 (by omega) hc
      obtain ⟨q1, r1, hd1, l1, t1, t2, t3, t4, t5, t6⟩ := J_take hX h (by omega)
      obtain ⟨q2, r2, ln2, hd2, l2, s1, s2, s3, s4, s5, s6, s7⟩ := J_while hX h0 h1 h2 n ln0 (i + 1) q1 r1 hd1 l1 f1 f2 e' (by omega) (by omega) (by omega) (by omega) (by omega) t3
      refine ⟨q2, r2, ln2, hd2, l2, ?_, ?_, s3, by simp; omega, by simp; omega, by simp; omega, ((zYp.u46 r _).trans t6.ty).trans s7⟩
      · unfold zloop
        rw [a, t1]
        simp only [Option.bind_some]
        rw [w32i (by omega) (by omega)]
        exact s1
      · unfold zloop
        rw [b, t2]
        exact s2
    · obtain ⟨a, b⟩ := h1 i q r ln0 c hd l h i0 (by omega) hc
      refine ⟨q, r, ln0 ++ [c], hd, l, ?_, ?_, h, by omega, by omega, by omega, zYp.rf r⟩
      · unfold zloop; rw [a]; rfl
      · unfold zloop; rw [b]; rfl
/-- the line's last byte, in class and reference -/
theorem zJ.last {c : Int} (h : zJ X q r (ln ++ [c]) hd l) : f_By_count (zsb (zsh 1) q) = some ((ln.length : Int) + 1) ∧ f_By_last (zsb (zsh 1) q) = some c ∧ r.1 0 46 = (ln.length : Int) + 1 ∧ r.2 9 (ln.length : Int) = c ∧ r.1 9 0 = 30 ∧ ln.length < 30 := by
  obtain ⟨⟨⟨a1, a2⟩, -⟩, hO, -⟩ := h
  have a21 := a2.1
  have a14 := a1.2.2.2.1
  simp only [List.length_append, List.length_cons, List.length_nil] at a21 a14
  refine ⟨?_, ?_, by omega, ?_, hO.rl.2.2.2.2.2.2.2.2.1, by omega⟩
  · rw [By_count a1]
    simp
  · unfold f_By_last
    have e : (zsb (zsh 1) q).1 0 2 = (ln.length : Int) + 1 := by rw [a1.2.2.1]; simp
    rw [e, w32i (by omega) (by omega), show (ln.length : Int) + 1 - 1 = ln.length by omega]
    rw [By_at a1 (by decide) (by omega), if_pos (by simp; omega)]
    simp [List.getD_eq_getElem?_getD]
  · have := a2.2 ln.length (by simp)
    rw [this]
    simp [List.getD_eq_getElem?_getD]
theorem zJ.none (h : zJ X q r [] hd l) : f_By_count (zsb (zsh 1) q) = some 0 ∧ f_By_last (zsb (zsh 1) q) = some (-1) ∧ r.1 0 46 = 0 := by
  obtain ⟨⟨⟨a1, a2⟩, -⟩, -⟩ := h
  refine ⟨By_count a1, ?_, a2.1⟩
  unfold f_By_last
  have e : (zsb (zsh 1) q).1 0 2 = 0 := a1.2.2.1
  rw [e, show w32 (0 - 1) = -1 by decide, By_at a1 (by decide) (by decide), if_neg (by omega)]
  rfl
theorem J_takeLine (hX : zXok X) (h : zJ X q r ln hd []) :
    ∃ q' r' ln' hd' l', f_Li_takeLineAway q = some (0, q') ∧ zloop f_Rf_edits_l158 zfu r = some r' ∧ zJ X q' r' ln' hd' l' ∧ l'.length ≤ 180 ∧ hd'.length + l'.length + 6 * ln'.length ≤ hd.length + 6 * ln.length ∧ zYp r r' := by
  have hn : ln.length ≤ 30 := h.1.1.1.2.2.2.1
  obtain ⟨q', r', ln', hd', l', e1, e2, e3, e4, e5, e6, e7⟩ := J_while (fc := f_Li_takeLineAway_l2) (fr := f_Rf_edits_l158) (C := fun _ => True) hX
    (fun i q r hd l h i0 => by
      obtain ⟨a, b, c⟩ := h.none
      constructor
      · unfold f_Li_takeLineAway_l2
        by_cases y : 30 ≤ i
        · exact iteT y rfl
        · exact iteF y (bindS a (iteT (by decide) rfl))
      · unfold f_Rf_edits_l158
        exact iteT (by omega) rfl)
    (fun i q r ln c hd l h i0 i1 hc => absurd trivial hc)
    (fun i q r ln c hd l h i0 i1 hc => by
      obtain ⟨a, b, d, e, f, g⟩ := h.last
      constructor
      · unfold f_Li_takeLineAway_l2
        exact iteF (by show ¬ 30 ≤ i; omega) (bindS a (iteF (by omega) rfl))
      · unfold f_Rf_edits_l158
        exact iteF (by omega) rfl) ln.length ln 0 q r hd [] zfu zfu rfl (by decide) (by omega) (by unfold zfu; omega) (by unfold zfu; omega) (by simp; omega) h
  refine ⟨q', r', ln', hd', l', ?_, e2, e3, by simp at e5; omega, by simp at e6; omega, e7⟩
  unfold f_Li_takeLineAway
  exact bindS e1 rfl
theorem J_takeWord (hX : zXok X) (h : zJ X q r ln hd []) :
    ∃ q' r1 r' ln' hd' l', f_Li_takeWordAway q = some (0, q') ∧ zloop f_Rf_edits_l98 zfu r = some r1 ∧ zloop f_Rf_edits_l128 zfu r1 = some r' ∧ zJ X q' r' ln' hd' l' ∧ l'.length ≤ 180 ∧ hd'.length + l'.length + 6 * ln'.length ≤ hd.length + 6 * ln.length ∧ zYp r r' := by
  have hn : ln.length ≤ 30 := h.1.1.1.2.2.2.1
  obtain ⟨q1, r1, ln1, hd1, l1, e1, e2, e3, e4, e5, e6, e7⟩ := J_while (fc := f_Li_takeWordAway_l2) (fr := f_Rf_edits_l98) (C := fun c => c = 32) hX
    (fun i q r hd l h i0 => by
      obtain ⟨a, b, c⟩ := h.none
      constructor
      · unfold f_Li_takeWordAway_l2
        by_cases y : 30 ≤ i
        · exact iteT y rfl
        · exact iteF y (bindS b (iteT (by decide) rfl))
      · unfold f_Rf_edits_l98
        exact iteT (by omega) rfl)
    (fun i q r ln c hd l h i0 i1 hc => by
      obtain ⟨a, b, d, e, f, g⟩ := h.last
      constructor
      · unfold f_Li_takeWordAway_l2
        exact iteF (by show ¬ 30 ≤ i; omega) (bindS b (iteT hc rfl))
      · unfold f_Rf_edits_l98
        rw [d, w32i (by omega) (by omega), show (ln.length : Int) + 1 - 1 = ln.length by omega, e]
        exact iteF (by omega) (iteT (by omega) (iteT hc rfl)))
    (fun i q r ln c hd l h i0 i1 hc => by
      obtain ⟨a, b, d, e, f, g⟩ := h.last
      constructor
      · unfold f_Li_takeWordAway_l2
        exact iteF (by show ¬ 30 ≤ i; omega) (bindS b (iteF (by simpa using hc) rfl))
      · unfold f_Rf_edits_l98
        rw [d, w32i (by omega) (by omega), show (ln.length : Int) + 1 - 1 = ln.length by omega, e]
        exact iteF (by omega) (iteT (by omega) (iteF (by simpa using hc) rfl))) ln.length ln 0 q r hd [] zfu zfu rfl (by decide) (by omega) (by unfold zfu; omega) (by unfold zfu; omega) (by simp; omega) h
  have hn1 : ln1.length ≤ 30 := e3.1.1.1.2.2.2.1
  simp only [List.length_nil] at e5 e6
  obtain ⟨q', r', ln', hd', l', g1, g2, g3, g4, g5, g6, g7⟩ := J_while (fc := f_Li_takeWordAway_l32) (fr := f_Rf_edits_l128) (C := fun c => c ≠ 32) hX
    (fun i q r hd l h i0 => by
      obtain ⟨a, b, c⟩ := h.none
      constructor
      · unfold f_Li_takeWordAway_l32
        by_cases y : 30 ≤ i
        · exact iteT y rfl
        · exact iteF y (bindS a (iteT (by decide) rfl))
      · unfold f_Rf_edits_l128
        exact iteT (by omega) rfl)
    (fun i q r ln c hd l h i0 i1 hc => by
      have hc' : c = 32 := by simpa using hc
      obtain ⟨a, b, d, e, f, g⟩ := h.last
      constructor
      · unfold f_Li_takeWordAway_l32
        exact iteF (by show ¬ 30 ≤ i; omega) (bindS a (iteF (by omega) (bindS b (iteT hc' rfl))))
      · unfold f_Rf_edits_l128
        rw [d, w32i (by omega) (by omega), show (ln.length : Int) + 1 - 1 = ln.length by omega, e]
        exact iteF (by omega) (iteT (by omega) (iteT hc' rfl)))
    (fun i q r ln c hd l h i0 i1 hc => by
      obtain ⟨a, b, d, e, f, g⟩ := h.last
      constructor
      · unfold f_Li_takeWordAway_l32
        exact iteF (by show ¬ 30 ≤ i; omega) (bindS a (iteF (by omega) (bindS b (iteF hc rfl))))
      · unfold f_Rf_edits_l128
        rw [d, w32i (by omega) (by omega), show (ln.length : Int) + 1 - 1 = ln.length by omega, e]
        exact iteF (by omega) (iteT (by omega) (iteF hc rfl))) ln1.length ln1 0 q1 r1 hd1 l1 zfu zfu rfl (by decide) (by omega) (by unfold zfu; omega) (by unfold zfu; omega) (by omega) e3
  refine ⟨q', r1, r', ln', hd', l', ?_, e2, g2, g3, by omega, by omega, e7.trans g7⟩
  unfold f_Li_takeWordAway f_Li_takeWordAway_j30
  exact bindS e1 (bindS g1 rfl)
end ZJK
