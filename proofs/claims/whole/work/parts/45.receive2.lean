/-! ===== a byte of a title; the end of a code; any byte ===== -/
theorem uS_zsb (s : zSt) (b i k : Nat) (x : Int) : uS (zsb (zsh b) s) i k x = zsb (zsh b) (uS s (i + b) k x) := by
  refine zst_ext (fun a j => ?_) (fun _ => rfl)
  rw [uS1, zsb1, zsb1, uS1]
  show _ = if a + b = i + b then (if j = k then x else s.1 (a + b) j) else s.1 (a + b) j
  by_cases h : a = i
  · rw [if_pos h, if_pos (c := a + b = i + b) (by omega)]
  · rw [if_neg h, if_neg (c := a + b = i + b) (by omega)]
theorem zpb_cg {b n : Nat} {s s' t : zSt} (h1 : ∀ i k, i < b ∨ b + n ≤ i → s.1 i k = s'.1 i k) (h2 : ∀ i, i < b ∨ b + n ≤ i → s.2 i = s'.2 i) : zpb (zsh b) n s t = zpb (zsh b) n s' t := by
  refine zst_ext (fun i k => ?_) (fun i => ?_)
  · rw [zpb1, zpb1]
    by_cases q : b ≤ i ∧ i < b + n
    · rw [if_pos q, if_pos q]
    · rw [if_neg q, if_neg q, h1 i k (by omega)]
  · rw [zpb2, zpb2]
    by_cases q : b ≤ i ∧ i < b + n
    · rw [if_pos q, if_pos q]
    · rw [if_neg q, if_neg q, h2 i (by omega)]
def zAo2 (o : Nat) (s t : zSt) : Prop := (∀ i k, ¬ ((i = o ∨ i = o + 2) ∧ (k = 1 ∨ k = 2)) → t.1 i k = s.1 i k) ∧ ∀ i, i ≠ o + 1 → i ≠ o + 3 → t.2 i = s.2 i
theorem zBf2.at {o : Nat} {s p : zSt} (h : zBf2 (zsb (zsh o) s) p) : zAo2 o s (zpb (zsh o) 4 s p) := by
  refine ⟨fun i k q => ?_, fun i q1 q2 => ?_⟩
  · rw [zpb1]
    by_cases c : o ≤ i ∧ i < o + 4
    · rw [if_pos c, h.1 (i - o) k (by omega)]
      show s.1 (i - o + o) k = _
      rw [show i - o + o = i by omega]
    · rw [if_neg c]
  · rw [zpb2]
    by_cases c : o ≤ i ∧ i < o + 4
    · rw [if_pos c, h.2 (i - o) (by omega) (by omega)]
      show s.2 (i - o + o) = _
      rw [show i - o + o = i by omega]
    · rw [if_neg c]
theorem zBy.pb4 {o n : Nat} {s p : zSt} {l : List Int} (h : zBy p n l) : zBy (zsb (zsh o) (zpb (zsh o) 4 s p)) n l := by
  refine zBy_cg h ?_ ?_ ?_ ?_
  · show (zpb (zsh o) 4 s p).1 (0 + o) 1 = _
    rw [zpb1, if_pos (by omega), show 0 + o - o = 0 by omega]
  · show (zpb (zsh o) 4 s p).1 (0 + o) 2 = _
    rw [zpb1, if_pos (by omega), show 0 + o - o = 0 by omega]
  · show (zpb (zsh o) 4 s p).1 (1 + o) 0 = _
    rw [zpb1, if_pos (by omega), show 1 + o - o = 1 by omega]
  · show (zpb (zsh o) 4 s p).2 (1 + o) = _
    rw [zpb2, if_pos (by omega), show 1 + o - o = 1 by omega]
theorem zBy.pb42 {o n : Nat} {s p : zSt} {l : List Int} (h : zBy (zsb (zsh 2) p) n l) : zBy (zsb (zsh (o + 2)) (zpb (zsh o) 4 s p)) n l := by
  refine zBy_cg h ?_ ?_ ?_ ?_
  · show (zpb (zsh o) 4 s p).1 (0 + (o + 2)) 1 = p.1 (0 + 2) 1
    rw [zpb1, if_pos (by omega), show 0 + (o + 2) - o = 0 + 2 by omega]
  · show (zpb (zsh o) 4 s p).1 (0 + (o + 2)) 2 = p.1 (0 + 2) 2
    rw [zpb1, if_pos (by omega), show 0 + (o + 2) - o = 0 + 2 by omega]
  · show (zpb (zsh o) 4 s p).1 (1 + (o + 2)) 0 = p.1 (1 + 2) 0
    rw [zpb1, if_pos (by omega), show 1 + (o + 2) - o = 1 + 2 by omega]
  · show (zpb (zsh o) 4 s p).2 (1 + (o + 2)) = p.2 (1 + 2)
    rw [zpb2, if_pos (by omega), show 1 + (o + 2) - o = 1 + 2 by omega]
theorem zBy_ao {o o' n : Nat} {s t : zSt} {l : List Int} (h : zAo o s t) (ho : o' ≠ o) (ho2 : o' + 1 ≠ o) (k : zBy (zsb (zsh o') s) n l) : zBy (zsb (zsh o') t) n l := by
  refine zBy_cg k ?_ ?_ ?_ ?_
  · exact h.1 _ _ (by show ¬ (0 + o' = o ∧ _); omega)
  · exact h.1 _ _ (by show ¬ (0 + o' = o ∧ _); omega)
  · exact h.1 _ _ (by omega)
  · exact h.2 _ (by show 1 + o' ≠ o + 1; omega)
theorem S_title {s r : zSt} (h : zRel s r) (h3 : r.1 0 29 = 3) {b : Int} (hb : 0 ≤ b ∧ b ≤ 127) : ∃ p r1, f_Re_readTitle b (zsb (zsh 14) s) = some (0, p) ∧ f_Rf_titles b r = some (0, r1) ∧ zFin s r (zpb (zsh 14) 6 s p) r1 [] := by
  obtain ⟨xr, hr⟩ := h.xr
  obtain ⟨lt, t1, t2⟩ := h.tl
  obtain ⟨ld, d1, d2'⟩ := h.dl
  have d2 := d2' h3
  have hn := hr.2.2.2.2.1
  have hL := h.2.1.1.1
  have es : s.1 14 3 = 3 := xr.1.1.trans h3
  unfold f_Re_readTitle f_Rf_titles
  by_cases q7 : b = 7
  · -- the title is what was read
    have hz := c_titles (r := r) hn hL.2.2.2.2.2.1 hL.2.2.2.2.2.2.1
    have k0 : ∀ o, 15 ≤ o → ∀ n l, zBy (zsb (zsh o) s) n l → zBy (zsb (zsh o) (uS s 14 3 0)) n l := fun o ho n l k => by
      refine zBy_cg k ?_ ?_ ?_ rfl
      · rw [zsb1, zsb1, uS1, if_neg (by show ¬ (0 + o = 14); omega)]
      · rw [zsb1, zsb1, uS1, if_neg (by show ¬ (0 + o = 14); omega)]
      · rw [zsb1, zsb1, uS1, if_neg (by show ¬ (1 + o = 14); omega)]
    obtain ⟨p7, a1, a2, a3⟩ := Bo_clear (o := 15) (k0 15 (by decide) _ _ t1)
    have d3' : zBy (zsb (zsh 17) (zpb (zsh 15) 2 (uS s 14 3 0) p7)) 16 ld := zBy_ao (o := 15) (o' := 17) a3 (by decide) (by decide) (k0 17 (by decide) _ _ d1)
    have d3 : zBy (zsb (zsh 2) (zsb (zsh 15) (zpb (zsh 15) 2 (uS s 14 3 0) p7))) 16 ld := d3'
    obtain ⟨p8, b1, b2, b3, b4⟩ := By_addAll (n := 16) (m := 16) (by decide) (by decide) a2 d3
    have a4 := zBf2.at b4
    generalize hs1 : zpb (zsh 15) 2 (uS s 14 3 0) p7 = s1 at *
    have c2 := zBy.pb4 (o := 15) (s := s1) b2
    have c3 := zBy.pb42 (o := 15) (s := s1) b3
    generalize hs2 : zpb (zsh 15) 4 s1 p8 = s2 at *
    have ep : uS (zsb (zsh 14) s) 0 3 0 = zsb (zsh 14) (uS s 14 3 0) := uS_zsb s 14 0 3 0
    have e1 : zpb (zsh 14) 6 (uS s 14 3 0) (zpb (zsh 1) 2 (zsb (zsh 14) (uS s 14 3 0)) p7) = s1 := (zpb_in (by decide)).trans hs1
    have e1' : zsb (zsh 1) (zpb (zsh 1) 2 (zsb (zsh 14) (uS s 14 3 0)) p7) = zsb (zsh 15) s1 := by
      rw [← e1]
      refine zst_ext (fun i k => ?_) (fun i => ?_)
      · show _ = (zpb (zsh 14) 6 _ _).1 (i + 15) k
        rw [zpb1]
        by_cases q : 14 ≤ i + 15 ∧ i + 15 < 14 + 6
        · rw [if_pos q]
          rfl
        · rw [if_neg q]
          show (zpb (zsh 1) 2 _ _).1 (i + 1) k = _
          rw [zpb1, if_neg (by omega)]
          rfl
      · show _ = (zpb (zsh 14) 6 _ _).2 (i + 15)
        rw [zpb2]
        by_cases q : 14 ≤ i + 15 ∧ i + 15 < 14 + 6
        · rw [if_pos q]
          rfl
        · rw [if_neg q]
          show (zpb (zsh 1) 2 _ _).2 (i + 1) = _
          rw [zpb2, if_neg (by omega)]
          rfl
    refine ⟨zpb (zsh 1) 4 (zpb (zsh 1) 2 (zsb (zsh 14) (uS s 14 3 0)) p7) p8, uS (uA (uS r 0 38 (r.1 0 36)) 7 (fun i => if 0 ≤ i ∧ i < r.1 0 36 then r.2 6 i else r.2 7 i)) 0 29 0, iteF (by simpa using q7) ?_, iteF (by simpa using q7) (bindS hz rfl), ?_⟩
    · rw [ep]
      refine bindS a1 ?_
      show (f_By_addAll (zsb (zsh 1) (zpb (zsh 1) 2 (zsb (zsh 14) (uS s 14 3 0)) p7))).bind _ = _
      rw [e1']
      exact bindS b1 rfl
    · have e2 : zpb (zsh 14) 6 s (zpb (zsh 1) 4 (zpb (zsh 1) 2 (zsb (zsh 14) (uS s 14 3 0)) p7) p8) = s2 := by
        rw [← hs2, ← e1]
        refine zst_ext (fun i k => ?_) (fun i => ?_)
        · simp only [zpb1, uS1, zsb1]
          by_cases q : 14 ≤ i ∧ i < 14 + 6
          · rw [if_pos q]
            by_cases q2 : 15 ≤ i ∧ i < 15 + 4
            · rw [if_pos (by omega), if_pos q2, show i - 14 - 1 = i - 15 by omega]
            · rw [if_neg (by omega), if_neg q2, if_pos q]
          · rw [if_neg q, if_neg (by omega), if_neg q, if_neg (by omega)]
        · simp only [zpb2, zsb2]
          by_cases q : 14 ≤ i ∧ i < 14 + 6
          · rw [if_pos q]
            by_cases q2 : 15 ≤ i ∧ i < 15 + 4
            · rw [if_pos (by omega), if_pos q2, show i - 14 - 1 = i - 15 by omega]
            · rw [if_neg (by omega), if_neg q2, if_pos q]
          · rw [if_neg q, if_neg (by omega), if_neg q]
            rfl
      rw [e2]
      have f1 : ∀ i k, ¬ (i = 14 ∧ k = 3) → ¬ (i = 15 ∧ (k = 1 ∨ k = 2)) → ¬ (i = 17 ∧ (k = 1 ∨ k = 2)) → s2.1 i k = s.1 i k := fun i k x1 x2 x3 => by
        rw [a4.1 i k (by omega), a3.1 i k (by omega), uS1]
        grind
      have f2 : ∀ i, i ≠ 16 → i ≠ 18 → s2.2 i = s.2 i := fun i x1 x2 => by
        rw [a4.2 i (by omega) (by omega), a3.2 i (by omega)]
        rfl
      have g : s2.1 14 3 = 0 := by
        rw [a4.1 14 3 (by omega), a3.1 14 3 (by omega)]
        rfl
      have rel : zRel s2 (uS (uA (uS r 0 38 (r.1 0 36)) 7 (fun i => if 0 ≤ i ∧ i < r.1 0 36 then r.2 6 i else r.2 7 i)) 0 29 0) := by
        refine h.ttlE f1 f2 (fun i k x => ?_) (fun i x1 x2 => uA_a x2) ⟨g, (by show (0 : Int) ≤ 0 ∧ (0 : Int) ≤ 3; decide), (by show (0 : Int) ≠ 2; decide)⟩ ⟨(([] : List Int) ++ ld).take 16, c2, ?_, fun i hi => ?_⟩ ⟨[], c3, fun e => absurd (show (0 : Int) = 3 from e) (by decide)⟩ hn
        · simp only [uA1, uS1]
          grind
        · show r.1 0 36 = _
          have := d2.1
          simp
          omega
        · have hi' : i < ld.length := by
            simp at hi
            omega
          show (if 0 ≤ (i : Int) ∧ (i : Int) < r.1 0 36 then r.2 6 i else r.2 7 i) = _
          have := d2.1
          rw [if_pos (by omega), d2.2 i hi', List.nil_append, List.take_of_length_le (by omega)]
      refine zFin.of0 rel ⟨fun k => f1 20 k (by omega) (by omega) (by omega), fun k => f1 21 k (by omega) (by omega) (by omega), f2 21 (by decide) (by decide)⟩ (fun k q => ?_) (fun i x y => ?_)
      · simp only [uA1, uS1]
        grind
      · exact uA_a (by omega)
  have stE : ∀ x : Int, (0 ≤ x ∧ x ≤ 3) ∧ x ≠ 2 → zFin s r (zpb (zsh 14) 6 s (uS (zsb (zsh 14) s) 0 3 x)) (uS r 0 29 x) [] := fun x hx => by
    rw [zpb_r3]
    refine zFin.of0 (h.ttlE (fun i k q _ _ => ?_) (fun _ _ _ => rfl) (fun i k q => ?_) (fun _ _ _ => rfl) ⟨rfl, hx⟩ ⟨lt, ?_, t2⟩ ⟨ld, ?_, fun e => d2⟩ hn) ⟨fun _ => rfl, fun _ => rfl, rfl⟩ (fun k q => ?_) (fun _ _ _ => rfl)
    · rw [uS1]
      grind
    · rw [uS1]
      grind
    · exact zBy_cg t1 rfl rfl rfl rfl
    · exact zBy_cg d1 rfl rfl rfl rfl
    · rw [uS1]
      grind
  by_cases q27 : b = 27
  · exact ⟨_, _, iteT q7 (iteF (by simpa using q27) rfl), iteT q7 (iteF (by simpa using q27) rfl), stE 1 (by decide)⟩
  by_cases q24 : b = 24
  · exact ⟨_, _, iteT q7 (iteT q27 (iteF (by simpa using q24) rfl)), iteT q7 (iteT q27 (iteF (by simpa using q24) rfl)), stE 0 (by decide)⟩
  have same : zFin s r (zpb (zsh 14) 6 s (zsb (zsh 14) s)) r [] := by
    rw [zpb_same]
    exact zFin.of0 h (zAn.rf s) (fun _ _ => rfl) (fun _ _ _ => rfl)
  by_cases q32 : b < 32
  · exact ⟨_, _, iteT q7 (iteT q27 (iteT q24 (iteT q32 rfl))), iteT q7 (iteT q27 (iteT q24 (bindS (c_Rf_in _ _ _) (iteT (by rw [if_pos q32]) rfl)))), same⟩
  by_cases q127 : 127 ≤ b
  · exact ⟨_, _, iteT q7 (iteT q27 (iteT q24 (iteF q32 (iteT q127 rfl)))), iteT q7 (iteT q27 (iteT q24 (bindS (c_Rf_in _ _ _) (iteT (by rw [if_neg q32, if_pos (by omega)]) rfl)))), same⟩
  · obtain ⟨x, p, a1, a2, a3⟩ := Bo_add (o := 17) d1 (by decide) b
    have e1 : zpb (zsh 14) 6 s (zpb (zsh 3) 2 (zsb (zsh 14) s) p) = zpb (zsh 17) 2 s p := zpb_in (by decide)
    have ea : f_By_add b (zsb (zsh 3) (zsb (zsh 14) s)) = some (x, p) := a1
    have d4 := d2.1
    have f1 : ∀ i k, ¬ (i = 14 ∧ k = 3) → ¬ (i = 15 ∧ (k = 1 ∨ k = 2)) → ¬ (i = 17 ∧ (k = 1 ∨ k = 2)) → (zpb (zsh 17) 2 s p).1 i k = s.1 i k := fun i k _ _ q => a3.1 i k q
    have f2 : ∀ i, i ≠ 16 → i ≠ 18 → (zpb (zsh 17) 2 s p).2 i = s.2 i := fun i _ q => a3.2 i q
    have an : zAn s (zpb (zsh 17) 2 s p) := ⟨fun k => a3.1 20 k (by omega), fun k => a3.1 21 k (by omega), a3.2 21 (by decide)⟩
    have tl' : zBy (zsb (zsh 15) (zpb (zsh 17) 2 s p)) 16 lt := zBy_ao (o' := 15) a3 (by decide) (by decide) t1
    have st' : (zpb (zsh 17) 2 s p).1 14 3 = 3 := (a3.1 14 3 (by omega)).trans es
    by_cases q16 : 16 ≤ r.1 0 36
    · refine ⟨_, r, iteT q7 (iteT q27 (iteT q24 (iteF q32 (iteF q127 (bindS ea rfl))))), iteT q7 (iteT q27 (iteT q24 (bindS (c_Rf_in _ _ _) (iteF (by rw [if_neg q32, if_neg (by omega)]; decide) (iteT q16 rfl))))), ?_⟩
      rw [e1]
      refine zFin.of0 (h.ttlE f1 f2 (fun _ _ _ => rfl) (fun _ _ _ => rfl) ⟨st'.trans h3.symm, by omega, by omega⟩ ⟨lt, tl', t2⟩ ⟨_, a2, fun _ => ?_⟩ hn) an (fun _ _ => rfl) (fun _ _ _ => rfl)
      rw [List.take_append_of_le_length (by omega), List.take_of_length_le (by omega)]
      exact d2
    · have ew : w32 (r.1 0 36 + 1) = r.1 0 36 + 1 := w32i (by omega) (by omega)
      refine ⟨_, uS (uE r 6 (r.1 0 36) b) 0 36 (r.1 0 36 + 1), iteT q7 (iteT q27 (iteT q24 (iteF q32 (iteF q127 (bindS ea rfl))))), iteT q7 (iteT q27 (iteT q24 (bindS (c_Rf_in _ _ _) (iteF (by rw [if_neg q32, if_neg (by omega)]; decide) (iteF q16 (iteT ⟨hn.1, by have := hL.2.2.2.2.2.1; omega⟩ (by rw [ew]))))))), ?_⟩
      rw [e1]
      refine zFin.of0 (h.ttlE f1 f2 (fun i k q => ?_) (fun i q _ => uA_a q) ⟨st'.trans h3.symm, ⟨by show (0 : Int) ≤ r.1 0 29; omega, by show r.1 0 29 ≤ 3; omega⟩, by show r.1 0 29 ≠ 2; omega⟩ ⟨lt, tl', t2⟩ ⟨_, a2, fun _ => ?_⟩ (by show 0 ≤ r.1 0 36 + 1 ∧ r.1 0 36 + 1 ≤ 16; omega)) an (fun k q => ?_) (fun i q _ => uA_a (by omega))
      · simp only [uE, uA1, uS1]
        grind
      · rw [List.take_of_length_le (by simp; omega)]
        exact d2.add
      · simp only [uE, uA1, uS1]
        grind
