/-! ===== the reader ===== -/
/-- what is not the line's stays, the program's list aside -/
def zKr (r r1 : zSt) : Prop := (∀ k, k = 0 ∨ k = 1 ∨ k = 2 ∨ (40 ≤ k ∧ k ≠ 48) → r1.1 0 k = r.1 0 k) ∧ ∀ i, 8 ≤ i → i ≤ 12 → i ≠ 10 → r1.2 i = r.2 i
theorem zKq.r {r r1 : zSt} (h : zKq r r1) : zKr r r1 := ⟨fun k a => h.1 k (by omega), h.2⟩
theorem zKr.trans {r r1 r2 : zSt} (h : zKr r r1) (k : zKr r1 r2) : zKr r r2 := ⟨fun i q => (k.1 i q).trans (h.1 i q), fun i a b c => (k.2 i a b c).trans (h.2 i a b c)⟩
def zFin (s r s1 r1 : zSt) (a : List Int) : Prop := zRel s1 r1 ∧ zKr r r1 ∧ a.length ≤ 8 ∧ (∀ l, zBy (zsb (zsh 20) s) 8 l → zBy (zsb (zsh 20) s1) 8 ((l ++ a).take 8)) ∧ ∀ m : List Int, m.length ≤ 200 → zLs (r.2 10) (r.1 0 48) m → zLs (r1.2 10) (r1.1 0 48) ((m ++ a).take 200)
theorem zEnd.fin {s r s1 r1 : zSt} {a : List Int} (h : zEnd s r s1 r1 a) : zFin s r s1 r1 a := ⟨h.1, h.2.1.r, h.2.2⟩
/-- a first step that answers nothing -/
theorem zFin.pre {s r s0 r0 s1 r1 : zSt} {a : List Int} (h : zFin s0 r0 s1 r1 a) (hs : zAn s s0) (h1 : ∀ k, k = 0 ∨ k = 1 ∨ k = 2 ∨ 40 ≤ k → r0.1 0 k = r.1 0 k) (h2 : ∀ i, 8 ≤ i → i ≤ 12 → r0.2 i = r.2 i) : zFin s r s1 r1 a := by
  obtain ⟨a1, a2, a3, a4, a5⟩ := h
  refine ⟨a1, ⟨fun k q => (a2.1 k q).trans (h1 k (by omega)), fun i p q o => (a2.2 i p q o).trans (h2 i p q)⟩, a3, fun l hl => a4 l (hs.by hl), fun m b1 b2 => a5 m b1 ?_⟩
  rw [h1 48 (by omega), h2 10 (by decide) (by decide)]
  exact b2
theorem zFin.of0 {s r s1 r1 : zSt} (h : zRel s1 r1) (hs : zAn s s1) (h1 : ∀ k, k = 0 ∨ k = 1 ∨ k = 2 ∨ 40 ≤ k → r1.1 0 k = r.1 0 k) (h2 : ∀ i, 8 ≤ i → i ≤ 12 → r1.2 i = r.2 i) : zFin s r s1 r1 [] := by
  refine ⟨h, ⟨fun k q => h1 k (by omega), fun i p q o => h2 i p q⟩, Nat.zero_le _, fun l hl => ?_, fun m b1 b2 => ?_⟩
  · rw [List.append_nil, List.take_of_length_le hl.2.2.2.1]
    exact hs.by hl
  · rw [List.append_nil, List.take_of_length_le b1, h1 48 (by omega), h2 10 (by decide) (by decide)]
    exact b2
theorem zFin.post {s r s1 r1 s2 r2 : zSt} {a : List Int} (h : zFin s r s1 r1 a) (hr : zRel s2 r2) (hs : zAn s1 s2) (h1 : ∀ k, k = 0 ∨ k = 1 ∨ k = 2 ∨ 40 ≤ k → r2.1 0 k = r1.1 0 k) (h2 : ∀ i, 8 ≤ i → i ≤ 12 → r2.2 i = r1.2 i) : zFin s r s2 r2 a := by
  obtain ⟨a1, a2, a3, a4, a5⟩ := h
  refine ⟨hr, ⟨fun k q => (h1 k (by omega)).trans (a2.1 k q), fun i p q o => (h2 i p q).trans (a2.2 i p q o)⟩, a3, fun l hl => hs.by (a4 l hl), fun m b1 b2 => ?_⟩
  rw [h1 48 (by omega), h2 10 (by decide) (by decide)]
  exact a5 m b1 b2
theorem zRel.xr {s r : zSt} (h : zRel s r) : zXr s r ∧ zRr r := ⟨h.2.2.2.2.2.2.2.2.2.2, h.2.1.2.2.2.2.2.1⟩
/-! states 0 and 1 -/
theorem zRel.st {s r : zSt} (h : zRel s r) {x : Int} (hx : x = 0 ∨ x = 1) : zRel (uS s 14 3 x) (uS r 0 29 x) := by
  obtain ⟨hL, ⟨hZ, hg, hs, hm, hv, hr, hk, hh⟩, p0, p1, xh, xu, xm, xv, xz, xt, xr⟩ := h
  exact ⟨hL, ⟨hZ, hg, hs, hm, hv, ⟨by show 0 ≤ x ∧ x ≤ 3; omega, hr.2.1, hr.2.2.1, hr.2.2.2.1, hr.2.2.2.2.1, hr.2.2.2.2.2.1, fun q => absurd (show x = 2 from q) (by omega), hr.2.2.2.2.2.2.2⟩, hk, hh⟩, p0, p1, xh, xu, xm, xv, xz, xt, ⟨⟨rfl, xr.1.2⟩, xr.2.1, fun q => absurd (show x = 3 from q) (by omega), xr.2.2.2.1, fun q => absurd (show x = 2 from q) (by omega)⟩⟩
/-- a code begins -/
theorem zRel.toCode {s r : zSt} (h : zRel s r) : zRel (uA (uS (uS (uS (uS (uS s 14 3 2) 14 4 1) 14 5 0) 14 6 0) 14 7 0) 19 (zFl (s.2 19) 0 4 0)) (uS (uS (uS (uS (uE (uS (uS r 0 29 0) 0 29 2) 5 0 0) 0 31 1) 0 32 1) 0 33 0) 0 34 0) := by
  obtain ⟨hL, ⟨hZ, hg, hs, hm, hv, hr, hk, hh⟩, p0, p1, xh, xu, xm, xv, xz, xt, xr⟩ := h
  refine ⟨hL, ⟨hZ, hg, hs, hm, hv, ⟨by show (0 : Int) ≤ 2 ∧ (2 : Int) ≤ 3; decide, Or.inr rfl, Or.inl rfl, Or.inl rfl, hr.2.2.2.2.1, hr.2.2.2.2.2.1, fun _ => by show (1 : Int) ≤ 1; decide, by show (0 : Int) ≤ 1 ∧ (1 : Int) ≤ 5; decide, fun i a b c => ?_⟩, hk, hh⟩, p0, p1, xh, xu, xm, xv, xz, xt, ⟨⟨rfl, xr.1.2⟩, xr.2.1, fun q => absurd (show (2 : Int) = 3 from q) (by decide), ⟨rfl, fun i a b c => ?_, fun i a b => ?_⟩, fun _ => ⟨rfl, rfl, rfl⟩⟩⟩
  · have b' : i < 1 := b
    show 0 ≤ zup (r.2 5) 0 0 i ∧ zup (r.2 5) 0 0 i ≤ 999
    unfold zup
    rw [if_pos (by omega)]
    decide
  · have b' : i < 1 := b
    show zFl (s.2 19) 0 4 0 i = zup (r.2 5) 0 0 i
    unfold zup zFl
    rw [if_pos (by omega), if_pos (by omega)]
  · have a' : 1 ≤ i := a
    show zFl (s.2 19) 0 4 0 i = 0
    unfold zFl
    rw [if_pos (by omega)]
theorem c_beginCode {p : zSt} (h5 : p.1 5 0 = 4) : f_Re_beginCode p = some (0, uA (uS (uS (uS (uS (uS p 0 3 2) 0 4 1) 0 5 0) 0 6 0) 0 7 0) 5 (zFl (p.2 5) 0 4 0)) := by
  have hl := zloop_up (step := f_Re_beginCode_l27) (r := uA (uS (uS (uS (uS (uS p 0 3 2) 0 4 1) 0 5 0) 0 6 0) 0 7 0) 5 (zFl (p.2 5) 0 4 0)) 4 (n := zfu) (fun j => ((j : Int), uA (uS (uS (uS (uS (uS p 0 3 2) 0 4 1) 0 5 0) 0 6 0) 0 7 0) 5 (zFl (p.2 5) 0 (j : Int) 0))) (fun j hj => ?_) ?_ ?_
  · simp only [Int.natCast_zero, zFl_self] at hl
    rw [show p.2 5 = (uS (uS (uS (uS (uS p 0 3 2) 0 4 1) 0 5 0) 0 6 0) 0 7 0).2 5 from rfl, uA_id] at hl
    exact bindS hl rfl
  · unfold f_Re_beginCode_l27
    refine iteF (by show ¬ (4 : Int) ≤ (j : Int); omega) (iteT (by show (0 : Int) ≤ (j : Int) ∧ (j : Int) < p.1 5 0; omega) ?_)
    refine stepE (by show w32 ((j : Int) + 1) = _; rw [w32i] <;> omega) (fun i => ?_)
    unfold zup zFl
    grind
  · rfl
  · unfold zfu; omega
theorem S_toCode {s r : zSt} (h : zRel s r) : ∃ p, f_Re_beginCode (zsb (zsh 14) s) = some (0, p) ∧ zpb (zsh 14) 6 s p = uA (uS (uS (uS (uS (uS s 14 3 2) 14 4 1) 14 5 0) 14 6 0) 14 7 0) 19 (zFl (s.2 19) 0 4 0) := by
  have h19 : s.1 19 0 = 4 := h.nu.2.2.2.1
  refine ⟨_, c_beginCode (p := zsb (zsh 14) s) h19, ?_⟩
  rw [zpb_uA _ _ _ _ _ _ (by omega), zpb_uS _ _ _ _ _ _ _ (by omega), zpb_uS _ _ _ _ _ _ _ (by omega), zpb_uS _ _ _ _ _ _ _ (by omega), zpb_uS _ _ _ _ _ _ _ (by omega), zpb_uS _ _ _ _ _ _ _ (by omega), zpb_same]
  rfl
/-- a title begins -/
theorem zRel.toTitle {s r : zSt} (h : zRel s r) : zRel (uS (uS (uS s 14 3 3) 17 1 0) 17 2 0) (uS (uS (uS r 0 29 0) 0 29 3) 0 36 0) := by
  obtain ⟨hL, ⟨hZ, hg, hs, hm, hv, hr, hk, hh⟩, p0, p1, xh, xu, xm, xv, xz, xt, xr⟩ := h
  exact ⟨hL, ⟨hZ, hg, hs, hm, hv, ⟨by show (0 : Int) ≤ 3 ∧ (3 : Int) ≤ 3; decide, hr.2.1, hr.2.2.1, hr.2.2.2.1, by show (0 : Int) ≤ 0 ∧ (0 : Int) ≤ 16; decide, hr.2.2.2.2.2.1, fun q => absurd (show (3 : Int) = 2 from q) (by decide), hr.2.2.2.2.2.2.2⟩, hk, hh⟩, p0, p1, xh, xu, xm, xv, xz, xt, ⟨⟨rfl, xr.1.2.1, ⟨by show (0 : Int) ≤ 0 ∧ (0 : Int) < 16; decide, by show (0 : Int) ≤ 0 ∧ (0 : Int) ≤ 16; decide⟩, xr.1.2.2.2⟩, xr.2.1, fun _ => ⟨rfl, fun i a b => absurd (show i < 0 from b) (by omega)⟩, xr.2.2.2.1, fun q => absurd (show (3 : Int) = 2 from q) (by decide)⟩⟩
/-! numbers of a code -/
/-- a code goes on: its parameters' marks -/
theorem zRel.cd {s r : zSt} (h : zRel s r) (h2 : r.1 0 29 = 2) {t c q x y : Int} {N M : Int → Int} (ht : 1 ≤ t ∧ t ≤ 5) (hc : z01 c) (hq : z01 q) (hx : z01 x)
    (h5 : ∀ i, 0 ≤ i → i < t → i < 4 → (0 ≤ M i ∧ M i ≤ 999) ∧ N i = M i) (h6 : ∀ i, t ≤ i → i < 4 → N i = 0) (hy : y = 1 - c) :
    zRel (uA (uS (uS (uS (uS s 14 4 t) 14 5 q) 14 6 x) 14 7 y) 19 N) (uA (uS (uS (uS (uS r 0 31 t) 0 32 c) 0 33 q) 0 34 x) 5 M) := by
  obtain ⟨hL, ⟨hZ, hg, hs, hm, hv, hr, hk, hh⟩, p0, p1, xh, xu, xm, xv, xz, xt, xr⟩ := h
  refine ⟨hL, ⟨hZ, hg, hs, hm, hv, ⟨hr.1, hc, hq, hx, hr.2.2.2.2.1, hr.2.2.2.2.2.1, fun _ => ht.1, by show 0 ≤ t ∧ t ≤ 5; omega, fun i a b d => (h5 i a b d).1⟩, hk, hh⟩, p0, p1, xh, xu, xm, xv, xz, xt, ⟨xr.1, xr.2.1, fun e => absurd (h2.symm.trans (show r.1 0 29 = 3 from e)) (by decide), ⟨rfl, fun i a b d => (h5 i a b d).2, h6⟩, fun _ => ⟨rfl, rfl, hy⟩⟩⟩
