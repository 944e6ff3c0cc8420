/-! ===== a row of bytes at a place ===== -/
def zAo (o : Nat) (s t : zSt) : Prop := (∀ i k, ¬ (i = o ∧ (k = 1 ∨ k = 2)) → t.1 i k = s.1 i k) ∧ ∀ i, i ≠ o + 1 → t.2 i = s.2 i
theorem zAo.rf (o : Nat) (s : zSt) : zAo o s s := ⟨fun _ _ _ => rfl, fun _ _ => rfl⟩
theorem zAo.trans {o : Nat} {s t u : zSt} (h : zAo o s t) (k : zAo o t u) : zAo o s u := ⟨fun i j a => (k.1 i j a).trans (h.1 i j a), fun i a => (k.2 i a).trans (h.2 i a)⟩
theorem zBf.at {o : Nat} {s p : zSt} (h : zBf (zsb (zsh o) s) p) : zAo o s (zpb (zsh o) 2 s p) := by
  refine ⟨fun i k q => ?_, fun i q => ?_⟩
  · rw [zpb1]
    by_cases q1 : o ≤ i ∧ i < o + 2
    · rw [if_pos q1, h.1 _ _ (by omega)]
      show s.1 (i - o + o) k = _
      rw [show i - o + o = i by omega]
    · rw [if_neg q1]
  · rw [zpb2]
    by_cases q1 : o ≤ i ∧ i < o + 2
    · rw [if_pos q1, h.2 _ (by omega)]
      show s.2 (i - o + o) = _
      rw [show i - o + o = i by omega]
    · rw [if_neg q1]
theorem zBy.pb {o n : Nat} {s p : zSt} {l : List Int} (h : zBy p n l) : zBy (zsb (zsh o) (zpb (zsh o) 2 s p)) n l := by
  have e : ∀ a, a < 2 → (∀ k, (zsb (zsh o) (zpb (zsh o) 2 s p)).1 a k = p.1 a k) ∧ (zsb (zsh o) (zpb (zsh o) 2 s p)).2 a = p.2 a := by
    intro a ha
    refine ⟨fun k => ?_, ?_⟩
    · show (zpb (zsh o) 2 s p).1 (a + o) k = _
      rw [zpb1, if_pos (by omega), show a + o - o = a by omega]
    · show (zpb (zsh o) 2 s p).2 (a + o) = _
      rw [zpb2, if_pos (by omega), show a + o - o = a by omega]
  exact zBy_cg h ((e 0 (by decide)).1 1) ((e 0 (by decide)).1 2) ((e 1 (by decide)).1 0) (e 1 (by decide)).2
theorem Bo_add {o n : Nat} {s : zSt} {l : List Int} (h : zBy (zsb (zsh o) s) n l) (hn : n < 1000) (b : Int) : ∃ x p, f_By_add b (zsb (zsh o) s) = some (x, p) ∧ zBy (zsb (zsh o) (zpb (zsh o) 2 s p)) n ((l ++ [b]).take n) ∧ zAo o s (zpb (zsh o) 2 s p) := by
  obtain ⟨x, p, a1, a2, a3⟩ := By_add h hn b
  exact ⟨x, p, a1, a2.pb, a3.at⟩
theorem Bo_addNumber {o n : Nat} {s : zSt} {l : List Int} (h : zBy (zsb (zsh o) s) n l) (hn : n < 1000) {x : Int} (hx : 0 ≤ x ∧ x ≤ 999) : ∃ y p, f_By_addNumber x (zsb (zsh o) s) = some (y, p) ∧ zBy (zsb (zsh o) (zpb (zsh o) 2 s p)) n ((l ++ zdg x).take n) ∧ zAo o s (zpb (zsh o) 2 s p) := by
  obtain ⟨x, p, a1, a2, a3⟩ := By_addNumber h hn hx
  exact ⟨x, p, a1, a2.pb, a3.at⟩
theorem Bo_clear {o n : Nat} {s : zSt} {l : List Int} (h : zBy (zsb (zsh o) s) n l) : ∃ p, f_By_clear (zsb (zsh o) s) = some (0, p) ∧ zBy (zsb (zsh o) (zpb (zsh o) 2 s p)) n [] ∧ zAo o s (zpb (zsh o) 2 s p) := by
  obtain ⟨p, a1, a2, a3⟩ := By_clear h
  exact ⟨p, a1, a2.pb, a3.at⟩
theorem Bo_removeFirst {o n : Nat} {s : zSt} {b : Int} {l : List Int} (h : zBy (zsb (zsh o) s) n (b :: l)) (hn : n < 1000) : ∃ p, f_By_removeFirst (zsb (zsh o) s) = some (b, p) ∧ zBy (zsb (zsh o) (zpb (zsh o) 2 s p)) n l ∧ zAo o s (zpb (zsh o) 2 s p) := by
  obtain ⟨p, a1, a2, a3⟩ := By_removeFirst h hn
  exact ⟨p, a1, a2.pb, a3.at⟩
theorem Bo_removeLast {o n : Nat} {s : zSt} {b : Int} {l : List Int} (h : zBy (zsb (zsh o) s) n (l ++ [b])) (hn : n < 1000) : ∃ p, f_By_removeLast (zsb (zsh o) s) = some (b, p) ∧ zBy (zsb (zsh o) (zpb (zsh o) 2 s p)) n l ∧ zAo o s (zpb (zsh o) 2 s p) := by
  obtain ⟨p, a1, a2, a3⟩ := By_removeLast h hn
  exact ⟨p, a1, a2.pb, a3.at⟩
/-! ===== answers ===== -/
theorem zRel.ans {s r : zSt} (h : zRel s r) {F G : Int → Int} {x y z : Int} (hx : 0 ≤ x ∧ x < 8) (hy : 0 ≤ y ∧ y ≤ 8) : zRel (uS (uS (uA s 21 F) 20 1 x) 20 2 y) (uS (uA r 10 G) 0 48 z) := by
  obtain ⟨hL, ⟨hZ, hg, hs, hm, hv, hr, hk, hh⟩, p0, p1, xh, xu, xm, xv, xz, xt, xr⟩ := h
  exact ⟨hL, ⟨hZ, hg, hs, hm, hv, hr, hk, hh⟩, p0, p1, xh, xu, xm, xv, xz, xt, ⟨⟨xr.1.1, xr.1.2.1, xr.1.2.2.1, ⟨hx, hy⟩⟩, xr.2⟩⟩
theorem zRel.an {s r t r1 : zSt} {l : List Int} (h : zRel s r) (h1 : zAo 20 s t) (h2 : zBy (zsb (zsh 20) t) 8 l) (h3 : zSf r r1) : zRel t r1 := by
  obtain ⟨a1, a2, a3, a4, a5⟩ := h2
  have k := h.ans (F := t.2 21) (G := r1.2 10) (x := t.1 20 1) (y := t.1 20 2) (z := r1.1 0 48) a2 ⟨by show 0 ≤ (zsb (zsh 20) t).1 0 2; omega, by show (zsb (zsh 20) t).1 0 2 ≤ 8; omega⟩
  have e1 : uS (uS (uA s 21 (t.2 21)) 20 1 (t.1 20 1)) 20 2 (t.1 20 2) = t := by
    refine zst_ext (fun i j => ?_) (fun i => ?_)
    · have := h1.1 i j
      simp only [uS1, uA1]
      grind
    · have := h1.2 i
      show (if i = 21 then t.2 21 else s.2 i) = _
      grind
  have e2 : uS (uA r 10 (r1.2 10)) 0 48 (r1.1 0 48) = r1 := by
    refine zst_ext (fun i j => ?_) (fun i => ?_)
    · have := h3.1 i j
      simp only [uS1, uA1]
      grind
    · have := h3.2 i
      show (if i = 10 then r1.2 10 else r.2 i) = _
      grind
  rw [e1, e2] at k
  exact k
def zanR (r : zSt) : Int := if 1 ≤ (if r.1 0 17 = 0 then r.1 0 9 + 1 else r.1 0 9 - r.1 0 13 + 1) then (if r.1 0 17 = 0 then r.1 0 9 + 1 else r.1 0 9 - r.1 0 13 + 1) else 1
/-- what is answered -/
def zan (n : Int) (r : zSt) : List Int := if n = 5 then [27, 91, 48, 110] else if n = 6 then [27, 91] ++ (zdg (zanR r) ++ [59] ++ zdg (r.1 0 10 + 1) ++ [82]) else []
theorem S_answer {s r : zSt} (h : zRel s r) (ht : 1 ≤ r.1 0 31) {l m : List Int} (hl : zBy (zsb (zsh 20) s) 8 l) (hm : zLs (r.2 10) (r.1 0 48) m) (hm2 : m.length ≤ 200) :
    ∃ s1 r1, f_Sc_answer (r.2 5 0) s = some (0, s1) ∧ f_Rf_tells r = some (0, r1) ∧ zRel s1 r1 ∧ zSf r r1 ∧ zBy (zsb (zsh 20) s1) 8 ((l ++ zan (r.2 5 0) r).take 8) ∧ zLs (r1.2 10) (r1.1 0 48) ((m ++ zan (r.2 5 0) r).take 200) := by
  have z := h.size
  have hn := h.nums
  obtain ⟨c1, c2, c3, c4, c5⟩ := h.cu
  obtain ⟨d1, d2, d3, d4, d5, d6⟩ := h.zz
  obtain ⟨_, _, _, hq, _, h50⟩ := h.fst ht
  have h10 : r.1 10 0 = 200 := h.2.1.1.1.2.2.2.2.2.2.2.2.2.1
  have hin : (0 : Int) ≤ 0 ∧ 0 < r.1 5 0 := ⟨by decide, h50⟩
  have hreg := hn.2.2.2.2.1
  have hrow := hn.1
  have hcol := hn.2.1
  unfold f_Sc_answer f_Rf_tells
  by_cases q5 : r.2 5 0 = 5
  · have ez : zan (r.2 5 0) r = [27, 91, 48, 110] := by unfold zan; rw [if_pos q5]
    obtain ⟨x1, p1, a1, a2, a3⟩ := Bo_add hl (by decide) 27
    obtain ⟨x2, p2, b1, b2, b3⟩ := Bo_add a2 (by decide) 91
    obtain ⟨x3, p3, e1, e2, e3⟩ := Bo_add b2 (by decide) 48
    obtain ⟨x4, p4, f1, f2, f3⟩ := Bo_add e2 (by decide) 110
    obtain ⟨r1, g1, g2, g3⟩ := Rf_sends h10 hm hm2 27
    obtain ⟨r2, i1, i2, i3⟩ := Rf_sends (by rw [g3.1 10 0 (by omega)]; exact h10) g2 (List.length_take_le 200 _) 91
    have s2 := g3.trans i3
    obtain ⟨r3, j1, j2, j3⟩ := Rf_sends (by rw [s2.1 10 0 (by omega)]; exact h10) i2 (List.length_take_le 200 _) 48
    have s3 := s2.trans j3
    obtain ⟨r4, k1, k2, k3⟩ := Rf_sends (by rw [s3.1 10 0 (by omega)]; exact h10) j2 (List.length_take_le 200 _) 110
    have s4 := s3.trans k3
    have sA := ((a3.trans b3).trans e3).trans f3
    rw [take_app, List.append_assoc, take_app, List.append_assoc, take_app, List.append_assoc] at f2 k2
    rw [ez]
    refine ⟨_, r4, iteT q5 ?_, iteT hin (iteF (by simpa using q5) (bindS g1 (bindS i1 (bindS j1 (bindS k1 rfl))))), h.an sA f2 s4, s4, f2, k2⟩
    unfold f_Sc_answer_j12
    exact bindS a1 (bindS b1 (iteF (by simpa using q5) (bindS e1 (bindS f1 rfl))))
  by_cases q6 : r.2 5 0 = 6
  · have ez : zan (r.2 5 0) r = [27, 91] ++ (zdg (zanR r) ++ [59] ++ zdg (r.1 0 10 + 1) ++ [82]) := by unfold zan; rw [if_neg q5, if_pos q6]
    have hR : 1 ≤ zanR r ∧ zanR r ≤ 99 := by
      unfold zanR
      by_cases q : r.1 0 17 = 0
      · simp only [if_pos q]
        split <;> omega
      · simp only [if_neg q]
        split <;> omega
    have hC : 0 ≤ r.1 0 10 + 1 ∧ r.1 0 10 + 1 ≤ 99 := by omega
    have eR : (if w32 (w32 (s.1 12 0 - (if s.1 12 4 = 0 then 0 else s.1 0 12)) + 1) < 1 then 1 else w32 (w32 (s.1 12 0 - (if s.1 12 4 = 0 then 0 else s.1 0 12)) + 1)) = zanR r := by
      rw [c1, c5, d5]
      unfold zanR
      by_cases q : r.1 0 17 = 0
      · simp only [if_pos q]
        rw [w32i (x := r.1 0 9 - 0) (by omega) (by omega), w32i (by omega) (by omega), Int.sub_zero]
        split <;> split <;> omega
      · simp only [if_neg q]
        rw [w32i (x := r.1 0 9 - r.1 0 13) (by omega) (by omega), w32i (by omega) (by omega)]
        split <;> split <;> omega
    have eR2 : (if 1 ≤ ((if r.1 0 17 = 0 then w32 (r.1 0 9 + 1) else w32 (w32 (r.1 0 9 - r.1 0 13) + 1)) : Int) then (if r.1 0 17 = 0 then w32 (r.1 0 9 + 1) else w32 (w32 (r.1 0 9 - r.1 0 13) + 1)) else 1) = zanR r := by
      unfold zanR
      rw [w32i (x := r.1 0 9 + 1) (by omega) (by omega), w32i (x := r.1 0 9 - r.1 0 13) (by omega) (by omega), w32i (x := r.1 0 9 - r.1 0 13 + 1) (by omega) (by omega)]
    have eC : w32 (s.1 12 1 + 1) = r.1 0 10 + 1 := by rw [c2, w32i (by omega) (by omega)]
    obtain ⟨x1, p1, a1, a2, a3⟩ := Bo_add hl (by decide) 27
    obtain ⟨x2, p2, b1, b2, b3⟩ := Bo_add a2 (by decide) 91
    obtain ⟨x3, p3, e1, e2, e3⟩ := Bo_addNumber b2 (by decide) (x := zanR r) (by omega)
    obtain ⟨x4, p4, f1, f2, f3⟩ := Bo_add e2 (by decide) 59
    obtain ⟨x5, p5, m1, m2, m3⟩ := Bo_addNumber f2 (by decide) (x := r.1 0 10 + 1) (by omega)
    obtain ⟨x6, p6, n1, n2, n3⟩ := Bo_add m2 (by decide) 82
    obtain ⟨r1, g1, g2, g3⟩ := Rf_sends h10 hm hm2 27
    obtain ⟨r2, i1, i2, i3⟩ := Rf_sends (by rw [g3.1 10 0 (by omega)]; exact h10) g2 (List.length_take_le 200 _) 91
    have s2 := g3.trans i3
    obtain ⟨r3, j1, j2, j3⟩ := Rf_sendsNumber (by rw [s2.1 10 0 (by omega)]; exact h10) i2 (List.length_take_le 200 _) (x := zanR r) (by omega)
    have s3 := s2.trans j3
    obtain ⟨r4, k1, k2, k3⟩ := Rf_sends (by rw [s3.1 10 0 (by omega)]; exact h10) j2 (List.length_take_le 200 _) 59
    have s4 := s3.trans k3
    obtain ⟨r5, o1, o2, o3⟩ := Rf_sendsNumber (by rw [s4.1 10 0 (by omega)]; exact h10) k2 (List.length_take_le 200 _) (x := r.1 0 10 + 1) hC
    have s5 := s4.trans o3
    obtain ⟨r6, q1, q2, q3⟩ := Rf_sends (by rw [s5.1 10 0 (by omega)]; exact h10) o2 (List.length_take_le 200 _) 82
    have s6 := s5.trans q3
    have sA := ((((a3.trans b3).trans e3).trans f3).trans m3).trans n3
    have eC2 : w32 (r4.1 0 10 + 1) = r.1 0 10 + 1 := by rw [s4.1 0 10 (by omega), w32i (by omega) (by omega)]
    simp only [take_app, List.append_assoc] at n2 q2
    rw [ez]
    simp only [List.append_assoc]
    refine ⟨_, r6, iteF q5 (iteT q6 ?_), iteT hin (iteT q5 (iteT hin (iteF (by simpa using q6) (bindS g1 (bindS i1 ?_))))), h.an sA n2 s6, s6, n2, q2⟩
    · unfold f_Sc_answer_j12
      refine bindS a1 (bindS b1 (iteT q5 ?_))
      rw [eR, eC]
      exact bindS e1 (bindS f1 (bindS m1 (bindS n1 rfl)))
    · rw [eR2]
      refine bindS j1 (bindS k1 ?_)
      rw [eC2]
      exact bindS o1 (bindS q1 rfl)
  · have ez : zan (r.2 5 0) r = [] := by unfold zan; rw [if_neg q5, if_neg q6]
    rw [ez, List.append_nil, List.append_nil, List.take_of_length_le hl.2.2.2.1, List.take_of_length_le hm2]
    exact ⟨s, r, iteF q5 (iteF q6 rfl), iteT hin (iteT q5 (iteT hin (iteT q6 rfl))), h, zSf.rf r, hl, hm⟩
