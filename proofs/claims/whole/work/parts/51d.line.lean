/-! ===== the line rule: what is echoed comes later in the class, at once in the reference ===== -/
theorem zRel.lin {s r r' : zSt} (h : zRel s r) (e1 : ∀ k, 1 ≤ k → k < 40 → r'.1 0 k = r.1 0 k) (e2 : ∀ i, i ≠ 0 → r'.1 i = r.1 i) (e3 : ∀ i, i ≤ 7 → r'.2 i = r.2 i) : zRel s r' := by
  obtain ⟨hL, ⟨hZ, hg, hs, hm, hv, hr, hk, hh⟩, p0, p1, xh, xu, xm, xv, xz, xt, xr⟩ := h
  have f := fun k (a : 1 ≤ k) (b : k < 40) => e1 k a b
  refine ⟨hL, ⟨⟨?_, by rw [f 1 (by decide) (by decide)]; exact hZ.2.1, by rw [f 2 (by decide) (by decide)]; exact hZ.2.2.1, by rw [f 8 (by decide) (by decide)]; exact hZ.2.2.2⟩, ?_, ?_, ?_, ?_, ?_, ?_, ?_⟩, ?_, ?_, ?_, ?_, ?_, ?_, ?_, ?_, ?_⟩
  · unfold zRL
    rw [e2 1 (by decide), e2 2 (by decide), e2 3 (by decide), e2 4 (by decide), e2 5 (by decide), e2 6 (by decide), e2 7 (by decide), e2 8 (by decide), e2 9 (by decide), e2 10 (by decide), e2 11 (by decide), e2 12 (by decide), e2 13 (by decide), e2 14 (by decide), e2 15 (by decide)]
    exact hZ.1
  · unfold zGb; rw [e3 2 (by decide)]; exact hg
  · unfold zRs; rw [f 1 (by decide) (by decide), f 2 (by decide) (by decide), f 9 (by decide) (by decide), f 10 (by decide) (by decide), f 11 (by decide) (by decide), f 12 (by decide) (by decide), f 13 (by decide) (by decide), f 14 (by decide) (by decide), f 7 (by decide) (by decide)]; exact hs
  · unfold zRm; rw [f 16 (by decide) (by decide), f 17 (by decide) (by decide), f 18 (by decide) (by decide), f 19 (by decide) (by decide), f 20 (by decide) (by decide), f 21 (by decide) (by decide), f 22 (by decide) (by decide)]; exact hm
  · unfold zRv; rw [f 1 (by decide) (by decide), f 2 (by decide) (by decide), f 8 (by decide) (by decide), f 23 (by decide) (by decide), f 24 (by decide) (by decide), f 25 (by decide) (by decide), f 26 (by decide) (by decide), f 27 (by decide) (by decide), f 28 (by decide) (by decide)]; exact hv
  · unfold zRr; rw [f 29 (by decide) (by decide), f 31 (by decide) (by decide), f 32 (by decide) (by decide), f 33 (by decide) (by decide), f 34 (by decide) (by decide), f 36 (by decide) (by decide), f 38 (by decide) (by decide), e3 5 (by decide)]; exact hr
  · unfold zRk; rw [f 1 (by decide) (by decide), f 2 (by decide) (by decide), e3 1 (by decide)]; exact hk
  · unfold zRh; rw [f 2 (by decide) (by decide), f 7 (by decide) (by decide), e3 3 (by decide), e3 4 (by decide)]; exact hh
  · unfold zXp0; rw [f 1 (by decide) (by decide), f 2 (by decide) (by decide), e3 1 (by decide), e3 2 (by decide)]; exact p0
  · unfold zXp1; rw [f 1 (by decide) (by decide), f 2 (by decide) (by decide), e3 1 (by decide), e3 2 (by decide)]; exact p1
  · unfold zXh; rw [f 7 (by decide) (by decide), e3 3 (by decide), e3 4 (by decide)]; exact xh
  · unfold zXu; rw [f 9 (by decide) (by decide), f 10 (by decide) (by decide), f 11 (by decide) (by decide), f 12 (by decide) (by decide), f 17 (by decide) (by decide)]; exact xu
  · unfold zXm; rw [f 16 (by decide) (by decide), f 18 (by decide) (by decide), f 19 (by decide) (by decide), f 20 (by decide) (by decide), f 21 (by decide) (by decide), f 22 (by decide) (by decide)]; exact xm
  · unfold zXv; rw [f 23 (by decide) (by decide), f 24 (by decide) (by decide), f 25 (by decide) (by decide), f 26 (by decide) (by decide), f 27 (by decide) (by decide), f 28 (by decide) (by decide)]; exact xv
  · unfold zXz; rw [f 1 (by decide) (by decide), f 2 (by decide) (by decide), f 8 (by decide) (by decide), f 13 (by decide) (by decide), f 14 (by decide) (by decide), f 39 (by decide) (by decide)]; exact xz
  · unfold zXt; rw [f 2 (by decide) (by decide), f 15 (by decide) (by decide)]; exact xt
  · unfold zXr; rw [f 29 (by decide) (by decide), f 31 (by decide) (by decide), f 32 (by decide) (by decide), f 33 (by decide) (by decide), f 34 (by decide) (by decide), f 36 (by decide) (by decide), f 38 (by decide) (by decide), e3 5 (by decide), e3 6 (by decide), e3 7 (by decide)]; exact xr
/-- only what is not the screen's changes -/
def zLin (r r' : zSt) : Prop := (∀ k, 1 ≤ k → k < 40 → r'.1 0 k = r.1 0 k) ∧ (∀ i, i ≠ 0 → r'.1 i = r.1 i) ∧ ∀ i, i ≤ 7 → r'.2 i = r.2 i
theorem zLin.rf (r : zSt) : zLin r r := ⟨fun _ _ _ => rfl, fun _ _ => rfl, fun _ _ => rfl⟩
theorem zLin.trans {r r1 r2 : zSt} (h : zLin r r1) (k : zLin r1 r2) : zLin r r2 := ⟨fun i a b => (k.1 i a b).trans (h.1 i a b), fun i a => (k.2.1 i a).trans (h.2.1 i a), fun i a => (k.2.2 i a).trans (h.2.2 i a)⟩
theorem zLin.uS {r : zSt} {k : Nat} {x : Int} (hk : k = 0 ∨ 40 ≤ k) : zLin r (uS r 0 k x) := by
  refine ⟨fun i a b => ?_, fun i a => funext fun j => ?_, fun _ _ => rfl⟩
  · rw [uS1, if_pos rfl, if_neg (by omega)]
  · rw [uS1, if_neg a]
theorem zLin.uA {r : zSt} {i : Nat} {f : Int → Int} (hi : 8 ≤ i) : zLin r (uA r i f) := ⟨fun _ _ _ => rfl, fun _ _ => rfl, fun j a => uA_a (by omega)⟩
theorem zSf.lin {r r1 : zSt} (h : zSf r r1) : zLin r r1 := ⟨fun k a b => h.1 0 k (by omega), fun i a => funext fun k => h.1 i k (by omega), fun i a => h.2 i (by omega)⟩
/-- a reference that stands beside some screen, and whose program has room or is full -/
def zOk (r : zSt) : Prop := (∃ s, zRel s r) ∧ 0 ≤ r.1 0 48 ∧ r.1 0 48 ≤ 200
theorem zOk.lin {r r' : zSt} (h : zOk r) (k : zLin r r') (hp : 0 ≤ r'.1 0 48 ∧ r'.1 0 48 ≤ 200) : zOk r' := by
  obtain ⟨⟨s, hs⟩, -⟩ := h
  exact ⟨⟨s, hs.lin k.1 k.2.1 k.2.2⟩, hp⟩
theorem zFin.p48 {s r s1 r1 : zSt} {a : List Int} (h : zFin s r s1 r1 a) (hp : 0 ≤ r.1 0 48 ∧ r.1 0 48 ≤ 200) : 0 ≤ r1.1 0 48 ∧ r1.1 0 48 ≤ 200 := by
  obtain ⟨m, m1, m2⟩ := zLs.ex (r.2 10) hp
  have := (h.2.2.2.2 m m2 m1).1
  rw [this]
  simp
  omega
theorem zOk.comes {r : zSt} (h : zOk r) {b : Int} (hb : 0 ≤ b ∧ b ≤ 127) : ∃ r1, f_Rf_comes b r = some (0, r1) ∧ zOk r1 ∧ zKr r r1 := by
  obtain ⟨⟨s, hs⟩, hp⟩ := h
  obtain ⟨s1, r1, a, e1, e2, e3⟩ := S_receive hs hp hb
  exact ⟨r1, e2, ⟨⟨s1, e3.1⟩, e3.p48 hp⟩, e3.2.1⟩
theorem zOk.rl {r : zSt} (h : zOk r) : zRL r := by
  obtain ⟨⟨s, hs⟩, -⟩ := h
  exact hs.2.1.1.1
def zbs (l : List Int) : Prop := ∀ b ∈ l, 0 ≤ b ∧ b ≤ 127
theorem zbs.nil : zbs [] := fun b h => absurd h List.not_mem_nil
theorem zbs.app {l m : List Int} (h : zbs l) (k : zbs m) : zbs (l ++ m) := fun b hb => (List.mem_append.mp hb).elim (h b) (k b)
theorem zbs.one {b : Int} (h : 0 ≤ b ∧ b ≤ 127) : zbs [b] := fun c hc => by
  rw [List.mem_singleton.mp hc]; exact h
theorem zbs.take {l : List Int} (h : zbs l) (n : Nat) : zbs (l.take n) := fun b hb => h b (List.mem_of_mem_take hb)
/-- the line rule's numbers and bytes on both sides -/
def zLR (q r : zSt) (ln hd : List Int) : Prop := (zBy (zsb (zsh 1) q) 30 ln ∧ zLs (r.2 9) (r.1 0 46) ln) ∧ (zBy (zsb (zsh 3) q) 100 hd ∧ zLs (r.2 8) (r.1 0 44) hd) ∧ (q.1 0 4 = r.1 0 40 ∧ q.1 0 5 = r.1 0 41 ∧ q.1 0 6 = r.1 0 42 ∧ q.1 0 7 = r.1 0 49 ∧ q.1 0 8 = r.1 0 50) ∧ (z01 (r.1 0 40) ∧ z01 (r.1 0 41) ∧ z01 (r.1 0 42)) ∧ zbs ln ∧ zbs hd
/-- what is known of the rest of the class, when bytes l have still to arrive, and the reference r, where they have come: pg is for the program in the class, m in the reference -/
def zXok (X : List Int → List Int → zSt → List Int → Prop) : Prop := (∀ pg l r r' m, X pg l r m → zLin r r' → X pg l r' m) ∧ (∀ pg l r r1 m m1 b, X pg l r m → zOk r → 0 ≤ b ∧ b ≤ 127 → zLs (r.2 10) (r.1 0 48) m → f_Rf_comes b r = some (0, r1) → zLs (r1.2 10) (r1.1 0 48) m1 → X pg (l ++ [b]) r1 m1) ∧ ∀ pg pg' r r', X pg [] r pg → zLin r r' → X pg' [] r' pg'
/-- the class's line rule q, with bytes l still to arrive, beside the reference r, where they have come -/
def zJ (X : List Int → List Int → zSt → List Int → Prop) (q r : zSt) (ln hd l : List Int) : Prop := zLR q r ln hd ∧ zOk r ∧ ∃ pg m, X pg l r m ∧ zBy (zsb (zsh 5) q) 200 pg ∧ zLs (r.2 10) (r.1 0 48) m ∧ zBy (zsb (zsh 7) q) 256 l ∧ zbs l ∧ (l = [] → m = pg)
theorem zLR.kr {q r r1 : zSt} {ln hd : List Int} (h : zLR q r ln hd) (k : zKr r r1) : zLR q r1 ln hd := by
  unfold zLR
  rw [k.1 46 (by decide), k.1 44 (by decide), k.1 40 (by decide), k.1 41 (by decide), k.1 42 (by decide), k.1 49 (by decide), k.1 50 (by decide), k.2 9 (by decide) (by decide) (by decide), k.2 8 (by decide) (by decide) (by decide)]
  exact h
/-- what an echo leaves alone -/
def zEk (r r' : zSt) : Prop := (∀ k, 45 ≤ k → k ≠ 48 → r'.1 0 k = r.1 0 k) ∧ (∀ k, k = 0 ∨ k = 1 ∨ k = 2 ∨ (40 ≤ k ∧ k ≤ 43) → r'.1 0 k = r.1 0 k) ∧ ∀ i, 9 ≤ i → i ≤ 12 → i ≠ 10 → r'.2 i = r.2 i
theorem zEk.rf (r : zSt) : zEk r r := ⟨fun _ _ _ => rfl, fun _ _ => rfl, fun _ _ _ _ => rfl⟩
theorem zEk.trans {r r1 r2 : zSt} (h : zEk r r1) (k : zEk r1 r2) : zEk r r2 := ⟨fun i a b => (k.1 i a b).trans (h.1 i a b), fun i a => (k.2.1 i a).trans (h.2.1 i a), fun i a b c => (k.2.2 i a b c).trans (h.2.2 i a b c)⟩
theorem zKr.ek {r r1 : zSt} (h : zKr r r1) : zEk r r1 := ⟨fun k a b => h.1 k (by omega), fun k a => h.1 k (by omega), fun i a b c => h.2 i (by omega) b c⟩
/-- parts of the line rule beside the one that is changed -/
theorem zLR.q3 {q q' r : zSt} {ln hd : List Int} {o : Nat} (h : zLR q r ln hd) (k : zAo o q q') (ho : o = 5 ∨ o = 7) : zLR q' r ln hd := by
  obtain ⟨⟨a1, a2⟩, ⟨b1, b2⟩, c, d⟩ := h
  refine ⟨⟨zBy_ao k (by omega) (by omega) a1, a2⟩, ⟨zBy_ao k (by omega) (by omega) b1, b2⟩, ?_, d⟩
  rw [k.1 0 4 (by omega), k.1 0 5 (by omega), k.1 0 6 (by omega), k.1 0 7 (by omega), k.1 0 8 (by omega)]
  exact c
section ZJJ
variable {X : List Int → List Int → zSt → List Int → Prop} {q r : zSt} {ln hd l : List Int}
theorem J_puts (hX : zXok X) (h : zJ X q r ln hd l) (hl : l.length < 256) {b : Int} (hb : 0 ≤ b ∧ b ≤ 127) :
    ∃ q' r' hd' l', f_Li_bring b q = some (0, q') ∧ f_Rf_puts b r = some (0, r') ∧ zJ X q' r' ln hd' l' ∧ l'.length ≤ l.length + 1 ∧ hd'.length + l'.length ≤ hd.length + l.length + 1 ∧ zEk r r' ∧ (r.1 0 42 = 0 → hd' = hd) ∧ (r.1 0 42 ≠ 0 → l' = l ∧ (hd.length < 100 → hd' = hd ++ [b])) := by
  obtain ⟨hR, hO, pg, m, x1, x3, x4, x5, x6, x7⟩ := h
  have hR' := hR
  obtain ⟨⟨a1, a2⟩, ⟨b1, b2⟩, ⟨c1, c2, c3, c4, c5⟩, d, e, f⟩ := hR
  unfold f_Li_bring f_Rf_puts
  rw [c3]
  by_cases z : r.1 0 42 = 0
  · obtain ⟨x, p, g1, g2, g3⟩ := Bo_add (o := 7) x5 (by decide) b
    obtain ⟨r1, k1, k2, k3⟩ := hO.comes hb
    obtain ⟨m1, n1, n2⟩ := zLs.ex (r1.2 10) k2.2
    refine ⟨_, r1, hd, l ++ [b], iteT z (bindS g1 rfl), iteF (by simpa using z) (bindS k1 rfl), ⟨(hR'.q3 g3 (Or.inr rfl)).kr k3, k2, pg, m1, hX.2.1 _ _ _ _ _ _ _ x1 hO hb x4 k1 n1, zBy_ao g3 (by decide) (by decide) x3, n1, ?_, x6.app (zbs.one hb), fun y => absurd y (by simp)⟩, by simp, by simp; omega, k3.ek, fun _ => rfl, fun y => absurd z y⟩
    rw [List.take_of_length_le (by simp; omega)] at g2
    exact g2
  · have hRL := hO.rl
    have h8 : r.1 8 0 = 100 := hRL.2.2.2.2.2.2.2.1
    obtain ⟨x, p, g1, g2, g3⟩ := Bo_add (o := 3) b1 (by decide) b
    have b21 := b2.1
    have b4 := b1.2.2.2.1
    have hq : ∀ r' hd', zLin r r' → r'.1 0 48 = r.1 0 48 → r'.2 10 = r.2 10 → (∀ k, 40 ≤ k → k ≠ 44 → r'.1 0 k = r.1 0 k) → r'.2 9 = r.2 9 → zBy (zsb (zsh 3) (zpb (zsh 3) 2 q p)) 100 hd' → zLs (r'.2 8) (r'.1 0 44) hd' → zbs hd' → zJ X (zpb (zsh 3) 2 q p) r' ln hd' l := by
      intro r' hd' m1 m2 m2' m3 m5 m6 m7 m8
      refine ⟨⟨⟨zBy_ao g3 (by decide) (by decide) a1, by rw [m5, m3 46 (by decide) (by decide)]; exact a2⟩, ⟨m6, m7⟩, ?_, ?_, e, m8⟩, hO.lin m1 (by rw [m2]; exact hO.2), pg, m, hX.1 _ _ _ _ _ x1 m1, zBy_ao g3 (by decide) (by decide) x3, by rw [m2, m2']; exact x4, zBy_ao g3 (by decide) (by decide) x5, x6, x7⟩
      · rw [g3.1 0 4 (by omega), g3.1 0 5 (by omega), g3.1 0 6 (by omega), g3.1 0 7 (by omega), g3.1 0 8 (by omega), m3 40 (by decide) (by decide), m3 41 (by decide) (by decide), m3 42 (by decide) (by decide), m3 49 (by decide) (by decide), m3 50 (by decide) (by decide)]
        exact ⟨c1, c2, c3, c4, c5⟩
      · rw [m3 40 (by decide) (by decide), m3 41 (by decide) (by decide), m3 42 (by decide) (by decide)]
        exact d
    by_cases y : 100 ≤ r.1 0 44
    · refine ⟨_, r, hd, l, iteF z (bindS g1 rfl), iteT z (iteT y rfl), hq r hd (zLin.rf r) rfl rfl (fun _ _ _ => rfl) rfl ?_ b2 f, by omega, by omega, zEk.rf r, fun _ => rfl, fun _ => ⟨rfl, fun w => by omega⟩⟩
      rw [List.take_append_of_le_length (by omega), List.take_of_length_le (by omega)] at g2
      exact g2
    · have ew : w32 (r.1 0 44 + 1) = r.1 0 44 + 1 := w32i (by omega) (by omega)
      refine ⟨_, uS (uE r 8 (r.1 0 44) b) 0 44 (r.1 0 44 + 1), hd ++ [b], l, iteF z (bindS g1 rfl), iteT z (iteF y (iteT ⟨by omega, by omega⟩ (by rw [ew]))), hq _ (hd ++ [b]) ((zLin.uA (by decide)).trans (zLin.uS (Or.inr (by decide)))) rfl rfl (fun k k1 k2 => ?_) rfl ?_ (b2.add (b := b)) (f.app (zbs.one hb)), by omega, by simp; omega, ⟨fun k k1 k2 => ?_, fun k k1 => ?_, fun i i1 i2 i3 => ?_⟩, fun w => absurd w z, fun _ => ⟨rfl, fun _ => rfl⟩⟩
      · rw [uS1, if_pos rfl, if_neg k2]
        rfl
      · rw [List.take_of_length_le (by simp; omega)] at g2
        exact g2
      · rw [uS1, if_pos rfl, if_neg (by omega)]
        rfl
      · rw [uS1, if_pos rfl, if_neg (by omega)]
        rfl
      · exact uA_a (by omega)
theorem J_echo (hX : zXok X) (h : zJ X q r ln hd l) (hl : l.length < 256) {b : Int} (hb : 0 ≤ b ∧ b ≤ 127) :
    ∃ q' r' hd' l', f_Li_echo b q = some (0, q') ∧ f_Rf_echo b r = some (0, r') ∧ zJ X q' r' ln hd' l' ∧ l'.length ≤ l.length + 1 ∧ hd'.length + l'.length ≤ hd.length + l.length + 1 ∧ zEk r r' := by
  have c := h.1.2.2.1
  by_cases z : r.1 0 41 = 0
  · refine ⟨q, r, hd, l, ?_, ?_, h, by omega, by omega, zEk.rf r⟩
    · unfold f_Li_echo f_Li_echo_j18 f_Li_echo_j18_1
      rw [c.2.1]
      by_cases y : q.1 0 6 = 0
      · exact iteT y (iteT z rfl)
      · exact iteF y (iteT z rfl)
    · unfold f_Rf_echo
      exact iteT z rfl
  · obtain ⟨q', r', hd', l', e1, e2, e3, e4, e5, e6, -⟩ := J_puts hX h hl hb
    refine ⟨q', r', hd', l', ?_, ?_, e3, e4, e5, e6⟩
    · unfold f_Li_bring at e1
      unfold f_Li_echo f_Li_echo_j18 f_Li_echo_j18_1
      rw [c.2.1]
      by_cases y : q.1 0 6 = 0
      · rw [if_pos y] at e1
        exact iteT y (iteF z e1)
      · rw [if_neg y] at e1
        exact iteF y (iteF z e1)
    · unfold f_Rf_echo
      exact iteF z (bindS e2 rfl)
end ZJJ
