/-! ===== bytes that have still to arrive, and notes still to be played ===== -/
def zcu (s : zSt) : zSt := (fun i => if i < 27 then s.1 i else fun _ => 0, fun i => if i < 27 then s.2 i else fun _ => 0)
theorem zRel.cut {s r : zSt} : zRel s r ↔ zRel (zcu s) r := Iff.rfl
def zAg (s t : zSt) : Prop := ∀ i, i < 27 → t.1 i = s.1 i ∧ t.2 i = s.2 i
theorem zAg.rf (s : zSt) : zAg s s := fun _ _ => ⟨rfl, rfl⟩
theorem zAg.trans {s t u : zSt} (h : zAg s t) (k : zAg t u) : zAg s u := fun i a => ⟨(k i a).1.trans (h i a).1, (k i a).2.trans (h i a).2⟩
theorem zAg.sy {s t : zSt} (h : zAg s t) : zAg t s := fun i a => ⟨(h i a).1.symm, (h i a).2.symm⟩
theorem zRel.cg {s s' r : zSt} (h : zRel s r) (k : zAg s s') : zRel s' r := by
  have e : zcu s' = zcu s := by
    refine Prod.ext (funext fun i => ?_) (funext fun i => ?_)
    · show (if i < 27 then s'.1 i else _) = if i < 27 then s.1 i else _
      by_cases q : i < 27
      · rw [if_pos q, if_pos q, (k i q).1]
      · rw [if_neg q, if_neg q]
    · show (if i < 27 then s'.2 i else _) = if i < 27 then s.2 i else _
      by_cases q : i < 27
      · rw [if_pos q, if_pos q, (k i q).2]
      · rw [if_neg q, if_neg q]
  rw [zRel.cut] at h ⊢
  rw [e]
  exact h
theorem zBy_ag {s t : zSt} {l : List Int} (h : zBy (zsb (zsh 20) s) 8 l) (k : zAg s t) : zBy (zsb (zsh 20) t) 8 l := by
  refine zBy_cg h ?_ ?_ ?_ ?_
  · exact congrFun (k 20 (by decide)).1 1
  · exact congrFun (k 20 (by decide)).1 2
  · exact congrFun (k 21 (by decide)).1 0
  · exact (k 21 (by decide)).2
def zPd : List Int → zSt → List Int → zSt → List Int → Prop
  | [], s, pg, r, m => zRel s r ∧ pg = m ∧ zBy (zsb (zsh 20) s) 8 []
  | b :: l, s, pg, r, m => ∀ s', zAg s s' → ∃ s1 a, f_Sc_receive b s' = some (0, s1) ∧ zBy (zsb (zsh 20) s1) 8 a ∧ ∀ s2, zAo 20 s1 s2 → zBy (zsb (zsh 20) s2) 8 [] → zPd l s2 ((pg ++ a).take 200) r m
theorem zPd.cg {s s' r : zSt} {pg m l : List Int} (h : zPd l s pg r m) (k : zAg s s') : zPd l s' pg r m := by
  cases l with
  | nil => exact ⟨zRel.cg h.1 k, h.2.1, zBy_ag h.2.2 k⟩
  | cons b l => exact fun t w => h t (k.trans w)
theorem zPd.lin {r r' : zSt} (k : zLin r r') {m : List Int} : ∀ {l pg : List Int} {s : zSt}, zPd l s pg r m → zPd l s pg r' m
  | [], pg, s, h => ⟨h.1.lin k.1 k.2.1 k.2.2, h.2⟩
  | b :: l, pg, s, h => fun t w => by
    obtain ⟨s1, a, a1, a2, a3⟩ := h t w
    exact ⟨s1, a, a1, a2, fun s2 y1 y2 => zPd.lin k (a3 s2 y1 y2)⟩
theorem zPd.add {r r1 : zSt} {m m1 : List Int} {b : Int} (hp : 0 ≤ r.1 0 48 ∧ r.1 0 48 ≤ 200) (hb : 0 ≤ b ∧ b ≤ 127) (hm : zLs (r.2 10) (r.1 0 48) m) (e : f_Rf_comes b r = some (0, r1)) (hm1 : zLs (r1.2 10) (r1.1 0 48) m1) : ∀ {l pg : List Int} {s : zSt}, zPd l s pg r m → zPd (l ++ [b]) s pg r1 m1
  | [], pg, s, ⟨h1, h2, h3⟩ => fun t w => by
    obtain ⟨s1, r2, a, a1, a2, a3⟩ := S_receive (h1.cg w) hp hb
    rw [e] at a2
    obtain rfl : r1 = r2 := by injection a2 with a2; injection a2
    obtain ⟨b1, b2, b3, b4, b5⟩ := a3
    have b6 := b4 [] (zBy_ag h3 w)
    rw [List.nil_append, List.take_of_length_le b3] at b6
    refine ⟨s1, a, a1, b6, fun s2 y1 y2 => ⟨b1.an y1 y2 (zSf.rf r1), ?_, y2⟩⟩
    rw [h2]
    exact (b5 m (by have := hm.1; omega) hm).uniq hm1
  | c :: l, pg, s, h => fun t w => by
    obtain ⟨s1, a, a1, a2, a3⟩ := h t w
    exact ⟨s1, a, a1, a2, fun s2 y1 y2 => zPd.add hp hb hm e hm1 (a3 s2 y1 y2)⟩
def zPy : List Int → zSt → zSt → Prop
  | [], A, r => zRel A r
  | x :: l, A, r => ∀ A', zAg A A' → ∃ A1, (if x < 128 then f_Sc_receive x A' else f_Sc_resize (wDiv (w32 (x - 128)) 32) (wRem (w32 (x - 128)) 32) A') = some (0, A1) ∧ zPy l A1 r
theorem zPy.cg {A A' r : zSt} {l : List Int} (h : zPy l A r) (k : zAg A A') : zPy l A' r := by
  cases l with
  | nil => exact zRel.cg h k
  | cons b l => exact fun t w => h t (k.trans w)
theorem zPy.lin {r r' : zSt} (k : zLin r r') : ∀ {l : List Int} {A : zSt}, zPy l A r → zPy l A r'
  | [], A, h => zRel.lin h k.1 k.2.1 k.2.2
  | b :: l, A, h => fun t w => by
    obtain ⟨A1, a1, a2⟩ := h t w
    exact ⟨A1, a1, zPy.lin k a2⟩
theorem zPy.add {r r1 : zSt} {b : Int} (hp : 0 ≤ r.1 0 48 ∧ r.1 0 48 ≤ 200) (hb : 0 ≤ b ∧ b ≤ 127) (e : f_Rf_comes b r = some (0, r1)) : ∀ {l : List Int} {A : zSt}, zPy l A r → zPy (l ++ [b]) A r1
  | [], A, h => fun t w => by
    obtain ⟨s1, r2, a, a1, a2, a3⟩ := S_receive (zRel.cg h w) hp hb
    rw [e] at a2
    obtain rfl : r1 = r2 := by injection a2 with a2; injection a2
    exact ⟨s1, by rw [if_pos (by omega)]; exact a1, a3.1⟩
  | c :: l, A, h => fun t w => by
    obtain ⟨A1, a1, a2⟩ := h t w
    exact ⟨A1, a1, zPy.add hp hb e a2⟩
/-- a size, as a note -/
def zsz (R w : Int) : Int := w32 (w32 (128 + w32 (R * 32)) + w)
theorem zsz_v {R w : Int} (hR : 2 ≤ R ∧ R ≤ 12) (hw : 4 ≤ w ∧ w ≤ 24) : 128 ≤ zsz R w ∧ wDiv (w32 (zsz R w - 128)) 32 = R ∧ wRem (w32 (zsz R w - 128)) 32 = w := by
  have e : zsz R w = 128 + R * 32 + w := by
    unfold zsz
    rw [w32i (x := R * 32) (by omega) (by omega), w32i (x := 128 + R * 32) (by omega) (by omega), w32i (by omega) (by omega)]
  rw [e, w32i (by omega) (by omega)]
  refine ⟨by omega, ?_, ?_⟩
  · unfold wDiv
    rw [Int.tdiv_eq_ediv_of_nonneg (by omega), w32i (by omega) (by omega)]
    omega
  · unfold wRem
    rw [Int.tmod_eq_emod_of_nonneg (by omega)]
    first
      | omega
      | (rw [w32i (by omega) (by omega)]; omega)
theorem zPy.size {r r1 : zSt} {R w n : Int} (hR : 2 ≤ R ∧ R ≤ 12) (hw : 4 ≤ w ∧ w ≤ 24) (e : f_Rf_size R w r = some (n, r1)) : ∀ {l : List Int} {A : zSt}, zPy l A r → zPy (l ++ [zsz R w]) A r1
  | [], A, h => fun t w' => by
    obtain ⟨s1, r2, n', a1, a2, -, a3, -⟩ := S_resize (zRel.cg h w') hR hw
    rw [e] at a2
    obtain rfl : r1 = r2 := by injection a2 with a2; injection a2
    obtain ⟨u1, u2, u3⟩ := zsz_v hR hw
    exact ⟨s1, by rw [if_neg (by omega), u2, u3]; exact a1, a3⟩
  | c :: l, A, h => fun t w' => by
    obtain ⟨A1, a1, a2⟩ := h t w'
    exact ⟨A1, a1, zPy.size hR hw e a2⟩
/-- the rest of the class, beside its line rule -/
def zXX (s A : zSt) (N : List Int) : List Int → List Int → zSt → List Int → Prop := fun pg l r m => zPd l s pg r m ∧ zPy (N ++ l) A r
theorem zXX.ok (s A : zSt) (N : List Int) : zXok (zXX s A N) := by
  refine ⟨fun pg l r r' m h k => ⟨h.1.lin k, h.2.lin k⟩, fun pg l r r1 m m1 b h hO hb h1 e h2 => ⟨h.1.add hO.2 hb h1 e h2, ?_⟩, fun pg pg' r r' h k => ⟨⟨(h.1.lin k).1, rfl, h.1.2.2⟩, h.2.lin k⟩⟩
  rw [← List.append_assoc]
  exact h.2.add hO.2 hb e
