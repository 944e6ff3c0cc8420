/-! ===== the cursor, the modes: single numbers ===== -/
/-- the reference's other parts stay -/
def zKp (r r1 : zSt) : Prop := (∀ k, k = 0 ∨ k = 1 ∨ k = 2 ∨ k = 31 ∨ k = 29 ∨ 40 ≤ k → r1.1 0 k = r.1 0 k) ∧ ∀ i, 8 ≤ i → i ≤ 12 → r1.2 i = r.2 i
theorem zKp.rf (r : zSt) : zKp r r := ⟨fun _ _ => rfl, fun _ _ _ => rfl⟩
theorem zKp.trans {r r1 r2 : zSt} (h : zKp r r1) (k : zKp r1 r2) : zKp r r2 := ⟨fun i q => (k.1 i q).trans (h.1 i q), fun i a b => (k.2 i a b).trans (h.2 i a b)⟩
theorem zFr.kp {s r s1 r1 : zSt} (h : zFr s r s1 r1) : zKp r r1 := ⟨fun k q => h.2.2.1 k (by omega), fun i a _ => h.2.2.2 i (by omega)⟩
theorem zKp.uS {r : zSt} {k : Nat} {x : Int} (hk : 2 < k ∧ k < 40 ∧ k ≠ 31 ∧ k ≠ 29) : zKp r (uS r 0 k x) := ⟨fun i q => by
  show (if (0 : Nat) = 0 then (if i = k then x else r.1 0 i) else r.1 0 i) = r.1 0 i
  rw [if_pos rfl, if_neg (by omega)], fun _ _ _ => rfl⟩
theorem zKp.uA {r : zSt} {i : Nat} {f : Int → Int} (hi : i < 8 ∨ 12 < i) : zKp r (uA r i f) := ⟨fun _ _ => rfl, fun j a b => uA_a (by omega)⟩
theorem zst_ext {s t : zSt} (h1 : ∀ i k, s.1 i k = t.1 i k) (h2 : ∀ i, s.2 i = t.2 i) : s = t := Prod.ext (funext fun i => funext fun k => h1 i k) (funext h2)
theorem uS_comm (s : zSt) (i k j l : Nat) (x y : Int) (h : ¬ (i = j ∧ k = l)) : uS (uS s i k x) j l y = uS (uS s j l y) i k x := by
  refine zst_ext (fun a b => ?_) (fun _ => rfl)
  simp only [uS1]
  grind
theorem uS_uS (s : zSt) (i k : Nat) (x y : Int) : uS (uS s i k x) i k y = uS s i k y := by
  refine zst_ext (fun a b => ?_) (fun _ => rfl)
  simp only [uS1]
  grind
theorem zRel.row {s r : zSt} (h : zRel s r) {x : Int} (hx : 0 ≤ x ∧ x < r.1 0 1) : zRel (uS s 12 0 x) (uS r 0 9 x) := by
  obtain ⟨hL, ⟨hZ, hg, hs, hm, hv, hr, hk, hh⟩, p0, p1, xh, xu, xm, xv, xz, xt, xr⟩ := h
  exact ⟨hL, ⟨hZ, hg, ⟨hx, hs.2⟩, hm, hv, hr, hk, hh⟩, p0, p1, xh, ⟨rfl, xu.2⟩, xm, xv, xz, xt, xr⟩
theorem zRel.col {s r : zSt} (h : zRel s r) {x : Int} (hx : 0 ≤ x ∧ x < r.1 0 2) : zRel (uS s 12 1 x) (uS r 0 10 x) := by
  obtain ⟨hL, ⟨hZ, hg, hs, hm, hv, hr, hk, hh⟩, p0, p1, xh, xu, xm, xv, xz, xt, xr⟩ := h
  exact ⟨hL, ⟨hZ, hg, ⟨hs.1, hx, hs.2.2⟩, hm, hv, hr, hk, hh⟩, p0, p1, xh, ⟨xu.1, rfl, xu.2.2⟩, xm, xv, xz, xt, xr⟩
theorem zRel.late {s r : zSt} (h : zRel s r) {x : Int} (hx : x = 0 ∨ x = 1) : zRel (uS s 12 2 x) (uS r 0 11 x) := by
  obtain ⟨hL, ⟨hZ, hg, hs, hm, hv, hr, hk, hh⟩, p0, p1, xh, xu, xm, xv, xz, xt, xr⟩ := h
  exact ⟨hL, ⟨hZ, hg, ⟨hs.1, hs.2.1, hx, hs.2.2.2⟩, hm, hv, hr, hk, hh⟩, p0, p1, xh, ⟨xu.1, xu.2.1, rfl, xu.2.2.2⟩, xm, xv, xz, xt, xr⟩
theorem zRel.attr {s r : zSt} (h : zRel s r) {x : Int} (hx : 0 ≤ x ∧ x < 16) : zRel (uS s 12 3 x) (uS r 0 12 x) := by
  obtain ⟨hL, ⟨hZ, hg, hs, hm, hv, hr, hk, hh⟩, p0, p1, xh, xu, xm, xv, xz, xt, xr⟩ := h
  exact ⟨hL, ⟨hZ, hg, ⟨hs.1, hs.2.1, hs.2.2.1, hx, hs.2.2.2.2⟩, hm, hv, hr, hk, hh⟩, p0, p1, xh, ⟨xu.1, xu.2.1, xu.2.2.1, rfl, xu.2.2.2.2⟩, xm, xv, xz, xt, xr⟩
theorem zRel.orig {s r : zSt} (h : zRel s r) {x : Int} (hx : x = 0 ∨ x = 1) : zRel (uS s 12 4 x) (uS r 0 17 x) := by
  obtain ⟨hL, ⟨hZ, hg, hs, hm, hv, hr, hk, hh⟩, p0, p1, xh, xu, xm, xv, xz, xt, xr⟩ := h
  exact ⟨hL, ⟨hZ, hg, hs, ⟨hm.1, hx, hm.2.2⟩, hv, hr, hk, hh⟩, p0, p1, xh, ⟨xu.1, xu.2.1, xu.2.2.1, xu.2.2.2.1, rfl⟩, xm, xv, xz, xt, xr⟩
theorem zRel.keys {s r : zSt} (h : zRel s r) {x : Int} (hx : x = 0 ∨ x = 1) : zRel (uS s 13 0 x) (uS r 0 16 x) := by
  obtain ⟨hL, ⟨hZ, hg, hs, hm, hv, hr, hk, hh⟩, p0, p1, xh, xu, xm, xv, xz, xt, xr⟩ := h
  exact ⟨hL, ⟨hZ, hg, hs, ⟨hx, hm.2.1, hm.2.2.1, hm.2.2.2.1, hm.2.2.2.2.1, hm.2.2.2.2.2.1, hm.2.2.2.2.2.2⟩, hv, hr, hk, hh⟩, p0, p1, xh, xu, ⟨rfl, xm.2.1, xm.2.2.1, xm.2.2.2.1, xm.2.2.2.2.1, xm.2.2.2.2.2⟩, xv, xz, xt, xr⟩
theorem zRel.wrap {s r : zSt} (h : zRel s r) {x : Int} (hx : x = 0 ∨ x = 1) : zRel (uS s 13 1 x) (uS r 0 18 x) := by
  obtain ⟨hL, ⟨hZ, hg, hs, hm, hv, hr, hk, hh⟩, p0, p1, xh, xu, xm, xv, xz, xt, xr⟩ := h
  exact ⟨hL, ⟨hZ, hg, hs, ⟨hm.1, hm.2.1, hx, hm.2.2.2.1, hm.2.2.2.2.1, hm.2.2.2.2.2.1, hm.2.2.2.2.2.2⟩, hv, hr, hk, hh⟩, p0, p1, xh, xu, ⟨xm.1, rfl, xm.2.2.1, xm.2.2.2.1, xm.2.2.2.2.1, xm.2.2.2.2.2⟩, xv, xz, xt, xr⟩
theorem zRel.show {s r : zSt} (h : zRel s r) {x : Int} (hx : x = 0 ∨ x = 1) : zRel (uS s 13 2 x) (uS r 0 19 x) := by
  obtain ⟨hL, ⟨hZ, hg, hs, hm, hv, hr, hk, hh⟩, p0, p1, xh, xu, xm, xv, xz, xt, xr⟩ := h
  exact ⟨hL, ⟨hZ, hg, hs, ⟨hm.1, hm.2.1, hm.2.2.1, hx, hm.2.2.2.2.1, hm.2.2.2.2.2.1, hm.2.2.2.2.2.2⟩, hv, hr, hk, hh⟩, p0, p1, xh, xu, ⟨xm.1, xm.2.1, rfl, xm.2.2.2.1, xm.2.2.2.2.1, xm.2.2.2.2.2⟩, xv, xz, xt, xr⟩
theorem zRel.mous {s r : zSt} (h : zRel s r) {x : Int} (hx : x = 0 ∨ x = 1) : zRel (uS s 13 3 x) (uS r 0 20 x) := by
  obtain ⟨hL, ⟨hZ, hg, hs, hm, hv, hr, hk, hh⟩, p0, p1, xh, xu, xm, xv, xz, xt, xr⟩ := h
  exact ⟨hL, ⟨hZ, hg, hs, ⟨hm.1, hm.2.1, hm.2.2.1, hm.2.2.2.1, hx, hm.2.2.2.2.2.1, hm.2.2.2.2.2.2⟩, hv, hr, hk, hh⟩, p0, p1, xh, xu, ⟨xm.1, xm.2.1, xm.2.2.1, rfl, xm.2.2.2.2.1, xm.2.2.2.2.2⟩, xv, xz, xt, xr⟩
theorem zRel.pste {s r : zSt} (h : zRel s r) {x : Int} (hx : x = 0 ∨ x = 1) : zRel (uS s 13 4 x) (uS r 0 21 x) := by
  obtain ⟨hL, ⟨hZ, hg, hs, hm, hv, hr, hk, hh⟩, p0, p1, xh, xu, xm, xv, xz, xt, xr⟩ := h
  exact ⟨hL, ⟨hZ, hg, hs, ⟨hm.1, hm.2.1, hm.2.2.1, hm.2.2.2.1, hm.2.2.2.2.1, hx, hm.2.2.2.2.2.2⟩, hv, hr, hk, hh⟩, p0, p1, xh, xu, ⟨xm.1, xm.2.1, xm.2.2.1, xm.2.2.2.1, rfl, xm.2.2.2.2.2⟩, xv, xz, xt, xr⟩
theorem zRel.insr {s r : zSt} (h : zRel s r) {x : Int} (hx : x = 0 ∨ x = 1) : zRel (uS s 13 5 x) (uS r 0 22 x) := by
  obtain ⟨hL, ⟨hZ, hg, hs, hm, hv, hr, hk, hh⟩, p0, p1, xh, xu, xm, xv, xz, xt, xr⟩ := h
  exact ⟨hL, ⟨hZ, hg, hs, ⟨hm.1, hm.2.1, hm.2.2.1, hm.2.2.2.1, hm.2.2.2.2.1, hm.2.2.2.2.2.1, hx⟩, hv, hr, hk, hh⟩, p0, p1, xh, xu, ⟨xm.1, xm.2.1, xm.2.2.1, xm.2.2.2.1, xm.2.2.2.2.1, rfl⟩, xv, xz, xt, xr⟩
theorem zRel.ring {s r : zSt} (h : zRel s r) {x : Int}  : zRel (uS s 0 11 x) (uS r 0 39 x) := by
  obtain ⟨hL, ⟨hZ, hg, hs, hm, hv, hr, hk, hh⟩, p0, p1, xh, xu, xm, xv, xz, xt, xr⟩ := h
  exact ⟨hL, ⟨hZ, hg, hs, hm, hv, hr, hk, hh⟩, p0, p1, xh, xu, xm, xv, ⟨xz.1, xz.2.1, xz.2.2.1, rfl, xz.2.2.2.2.1, xz.2.2.2.2.2⟩, xt, xr⟩
theorem zRel.regn {s r : zSt} (h : zRel s r) {x y : Int} (hx : 0 ≤ x ∧ x < y ∧ y < r.1 0 1) : zRel (uS (uS s 0 12 x) 0 13 y) (uS (uS r 0 13 x) 0 14 y) := by
  obtain ⟨hL, ⟨hZ, hg, hs, hm, hv, hr, hk, hh⟩, p0, p1, xh, xu, xm, xv, xz, xt, xr⟩ := h
  exact ⟨hL, ⟨hZ, hg, ⟨hs.1, hs.2.1, hs.2.2.1, hs.2.2.2.1, hx, hs.2.2.2.2.2⟩, hm, hv, hr, hk, hh⟩, p0, p1, xh, xu, xm, xv, ⟨xz.1, xz.2.1, xz.2.2.1, xz.2.2.2.1, rfl, rfl⟩, xt, xr⟩
theorem zRel.cu {s r : zSt} (h : zRel s r) : s.1 12 0 = r.1 0 9 ∧ s.1 12 1 = r.1 0 10 ∧ s.1 12 2 = r.1 0 11 ∧ s.1 12 3 = r.1 0 12 ∧ s.1 12 4 = r.1 0 17 := h.2.2.2.2.2.1
theorem zRel.mo {s r : zSt} (h : zRel s r) : s.1 13 0 = r.1 0 16 ∧ s.1 13 1 = r.1 0 18 ∧ s.1 13 2 = r.1 0 19 ∧ s.1 13 3 = r.1 0 20 ∧ s.1 13 4 = r.1 0 21 ∧ s.1 13 5 = r.1 0 22 := h.2.2.2.2.2.2.1
theorem zRel.zz {s r : zSt} (h : zRel s r) : s.1 0 8 = r.1 0 8 ∧ s.1 0 9 = r.1 0 1 ∧ s.1 0 10 = r.1 0 2 ∧ s.1 0 11 = r.1 0 39 ∧ s.1 0 12 = r.1 0 13 ∧ s.1 0 13 = r.1 0 14 := h.2.2.2.2.2.2.2.2.1
theorem zRel.mode {s r : zSt} (h : zRel s r) : zRm r := h.2.1.2.2.2.1
/-! a line down, a line up -/
def zFd (s r s1 r1 : zSt) : Prop := zRel s1 r1 ∧ (∀ i k, ¬ (i = 5 ∧ k = 2) → ¬ (i = 12 ∧ k = 0) → s1.1 i k = s.1 i k) ∧ (∀ k, k ≠ 7 → k ≠ 9 → r1.1 0 k = r.1 0 k) ∧ ∀ i, 5 ≤ i → r1.2 i = r.2 i
theorem zFr.fd {s r s1 r1 : zSt} (h : zFr s r s1 r1) : zFd s r s1 r1 := ⟨h.1, fun i k a _ => h.2.1 i k a, fun k a _ => h.2.2.1 k a, h.2.2.2⟩
theorem zFd.kp {s r s1 r1 : zSt} (h : zFd s r s1 r1) : zKp r r1 := ⟨fun k q => h.2.2.1 k (by omega) (by omega), fun i a _ => h.2.2.2 i (by omega)⟩
theorem zFd.row {s r : zSt} (h : zRel s r) {x : Int} (hx : 0 ≤ x ∧ x < r.1 0 1) : zFd s r (uS s 12 0 x) (uS r 0 9 x) := ⟨h.row hx, fun i k _ q => by simp only [uS1]; grind, fun k _ q => by simp only [uS1]; grind, fun _ _ => rfl⟩
theorem S_feed {s r : zSt} (h : zRel s r) : ∃ s1 r1, f_Sc_feed s = some (0, s1) ∧ f_Rf_feeds r = some (0, r1) ∧ zFd s r s1 r1 := by
  have z1 := h.size
  have hn := h.nums
  obtain ⟨c1, c2, c3, c4, c5⟩ := h.cu
  obtain ⟨d1, d2, d3, d4, d5, d6⟩ := h.zz
  unfold f_Sc_feed f_Rf_feeds
  rw [c1, d2, d5, d6]
  by_cases q : r.1 0 9 = r.1 0 14
  · obtain ⟨s1, r1, e1, e2, e3⟩ := S_scrollUp h (a := r.1 0 13) (b := r.1 0 14) (k := 1) (by have := hn.2.2.2.2.1; omega)
    exact ⟨s1, r1, iteF (by simpa using q) (bindS e1 rfl), iteF (by simpa using q) (bindS e2 rfl), e3.fd⟩
  · have e : w32 (r.1 0 1 - 1) = r.1 0 1 - 1 := w32i (by omega) (by omega)
    by_cases q2 : w32 (r.1 0 1 - 1) ≤ r.1 0 9
    · exact ⟨s, r, iteT q (iteT q2 rfl), iteT q (iteT q2 rfl), (zFr.rf h).fd⟩
    · have e2 : w32 (r.1 0 9 + 1) = r.1 0 9 + 1 := w32i (by have := hn.1; omega) (by have := hn.1; omega)
      refine ⟨_, _, iteT q (iteF q2 rfl), iteT q (iteF q2 rfl), ?_⟩
      rw [e2]
      exact zFd.row h (by have := hn.1; omega)
theorem S_feedBack {s r : zSt} (h : zRel s r) : ∃ s1 r1, f_Sc_feedBack s = some (0, s1) ∧ (if ¬ r.1 0 9 = r.1 0 13 then some ((0 : Int), uS r 0 9 (w32 (r.1 0 9 - (if r.1 0 9 ≤ 0 then 0 else 1)))) else f_Rf_scrollsDown (r.1 0 13) (r.1 0 14) r) = some (0, r1) ∧ zFd s r s1 r1 := by
  have z1 := h.size
  have hn := h.nums
  obtain ⟨c1, c2, c3, c4, c5⟩ := h.cu
  obtain ⟨d1, d2, d3, d4, d5, d6⟩ := h.zz
  unfold f_Sc_feedBack
  rw [c1, d5, d6]
  by_cases q : r.1 0 9 = r.1 0 13
  · obtain ⟨s1, r1, e1, e2, e3⟩ := S_scrollDown h (a := r.1 0 13) (b := r.1 0 14) (by have := hn.2.2.2.2.1; omega)
    exact ⟨s1, r1, iteF (by simpa using q) (bindS e1 rfl), iteF (by simpa using q) e2, e3.fd⟩
  · by_cases q2 : r.1 0 9 ≤ 0
    · refine ⟨s, r, iteT q (iteT q2 rfl), iteT q ?_, (zFr.rf h).fd⟩
      rw [if_pos q2, Int.sub_zero, w32i (by have := hn.1; omega) (by have := hn.1; omega), uS_id]
    · have e2 : w32 (r.1 0 9 - 1) = r.1 0 9 - 1 := w32i (by have := hn.1; omega) (by have := hn.1; omega)
      refine ⟨_, _, iteT q (iteF q2 rfl), iteT q (by rw [if_neg q2]), ?_⟩
      rw [e2]
      exact zFd.row h (by have := hn.1; omega)
/-! the codes that move lines, and that scroll -/
theorem S_moveLines {s r : zSt} (h : zRel s r) {n d : Int} (hn : 1 ≤ n ∧ n ≤ 999) (hd : d = 0 ∨ d = 1) (hf : f_Rf_first r = some n) :
    ∃ s1 r1, f_Sc_moveLines n d s = some (0, s1) ∧ f_Rf_linesMove (1 - d) r = some (0, r1) ∧ zRel (uS s1 12 2 0) r1 ∧ zKp r r1 ∧ s1.1 12 2 = s.1 12 2 := by
  have z1 := h.size
  have hs := h.nums
  obtain ⟨c1, c2, c3, c4, c5⟩ := h.cu
  obtain ⟨d1, d2, d3, d4, d5, d6⟩ := h.zz
  have hreg := hs.2.2.2.2.1
  unfold f_Sc_moveLines f_Rf_linesMove
  rw [c1, d5, d6]
  by_cases q : r.1 0 13 ≤ r.1 0 9 ∧ r.1 0 9 ≤ r.1 0 14
  · have ew : w32 (w32 (r.1 0 14 - r.1 0 9) + 1) = r.1 0 14 + 1 - r.1 0 9 := by rw [w32i (x := r.1 0 14 - r.1 0 9) (by omega) (by omega), w32i (by omega) (by omega)]; omega
    obtain ⟨m, hm⟩ : ∃ m, m = (if (12 : Int) < n then 12 else n) := ⟨_, rfl⟩
    obtain ⟨k, hk⟩ : ∃ k, k = (if n < r.1 0 14 + 1 - r.1 0 9 then n else r.1 0 14 + 1 - r.1 0 9) := ⟨_, rfl⟩
    have el : f_Rf_lesser n (w32 (w32 (r.1 0 14 - r.1 0 9) + 1)) = some k := by
      rw [ew, hk]
      unfold f_Rf_lesser
      grind
    have e1 : (if r.1 0 9 < r.1 0 13 then (0 : Int) else if r.1 0 14 < r.1 0 9 then 0 else 1) = 1 := by grind
    rcases hd with rfl | rfl
    · obtain ⟨s1, r1, a1, a2, a3⟩ := S_downMany h (a := r.1 0 9) (b := r.1 0 14) (by have := hs.1; omega) (F := fun t => f_Sc_scrollDown (t.1 12 0) (t.1 0 13) t) (G := fun t => f_Rf_scrollsDown (t.1 0 9) (t.1 0 14) t) (fun t ht => by rw [ht 12 0 (by decide), ht 0 13 (by decide), c1, d6]) (fun t ht => by rw [ht 9 (by decide), ht 14 (by decide)]) (m := m.toNat) (n := k.toNat) (by grind)
      have b1 := zit_up (f := fun t => f_Sc_scrollDown (t.1 12 0) (t.1 0 13) t) (step := f_Sc_moveLines_l39 0 m) (K := m) (fun i t hi => by unfold f_Sc_moveLines_l39; exact iteF (by show ¬ m ≤ i; omega) (iteT rfl rfl)) (fun i t hi => by unfold f_Sc_moveLines_l39; exact iteT hi rfl) (by grind) m.toNat zfu 0 s s1 (by decide) (by omega) (by unfold zfu; grind) a1
      have b2 := zit_dn (f := fun t => f_Rf_scrollsDown (t.1 0 9) (t.1 0 14) t) (step := f_Rf_linesMove_l37 (1 - 0)) (fun i t hi => by unfold f_Rf_linesMove_l37; exact iteF (by show ¬ i ≤ 0; omega) (iteF (by decide) rfl)) (fun i t hi => by unfold f_Rf_linesMove_l37; exact iteT hi rfl) k.toNat zfu k r r1 (by grind) (by grind) rfl (by unfold zfu; grind) a2
      refine ⟨_, _, iteF (by omega) (iteT (by omega) (bindS (by rw [← hm]; exact b1) rfl)), bindS (c_Rf_in _ _ _) (iteF (by rw [e1]; decide) (bindS hf (bindS el (bindS b2 rfl)))), ?_, ?_, a3.2.1 12 2 (by decide)⟩
      · exact (a3.1.col (x := 0) (by rw [a3.2.2.1 2 (by decide)]; omega)).late (Or.inl rfl)
      · exact (a3.kp.trans (zKp.uS (by decide))).trans (zKp.uS (by decide))
    · obtain ⟨s1, r1, a1, a2, a3⟩ := S_upMany h (a := r.1 0 9) (b := r.1 0 14) (k := 0) (by have := hs.1; omega) (Or.inl rfl) (F := fun t => f_Sc_scrollUp (t.1 12 0) (t.1 0 13) 0 t) (G := fun t => f_Rf_scrollsUp (t.1 0 9) (t.1 0 14) 0 t) (fun t ht => by rw [ht 12 0 (by decide), ht 0 13 (by decide), c1, d6]) (fun t ht => by rw [ht 9 (by decide), ht 14 (by decide)]) (m := m.toNat) (n := k.toNat) (by grind)
      have b1 := zit_up (f := fun t => f_Sc_scrollUp (t.1 12 0) (t.1 0 13) 0 t) (step := f_Sc_moveLines_l39 1 m) (K := m) (fun i t hi => by unfold f_Sc_moveLines_l39; exact iteF (by show ¬ m ≤ i; omega) (iteF (by decide) rfl)) (fun i t hi => by unfold f_Sc_moveLines_l39; exact iteT hi rfl) (by grind) m.toNat zfu 0 s s1 (by decide) (by omega) (by unfold zfu; grind) a1
      have b2 := zit_dn (f := fun t => f_Rf_scrollsUp (t.1 0 9) (t.1 0 14) 0 t) (step := f_Rf_linesMove_l37 (1 - 1)) (fun i t hi => by unfold f_Rf_linesMove_l37; exact iteF (by show ¬ i ≤ 0; omega) (iteT (by decide) rfl)) (fun i t hi => by unfold f_Rf_linesMove_l37; exact iteT hi rfl) k.toNat zfu k r r1 (by grind) (by grind) rfl (by unfold zfu; grind) a2
      refine ⟨_, _, iteF (by omega) (iteT (by omega) (bindS (by rw [← hm]; exact b1) rfl)), bindS (c_Rf_in _ _ _) (iteF (by rw [e1]; decide) (bindS hf (bindS el (bindS b2 rfl)))), ?_, ?_, a3.2.1 12 2 (by decide)⟩
      · exact (a3.1.col (x := 0) (by rw [a3.2.2.1 2 (by decide)]; omega)).late (Or.inl rfl)
      · exact (a3.kp.trans (zKp.uS (by decide))).trans (zKp.uS (by decide))
  · have e1 : (if r.1 0 9 < r.1 0 13 then (0 : Int) else if r.1 0 14 < r.1 0 9 then 0 else 1) = 0 := by grind
    refine ⟨s, _, ?_, bindS (c_Rf_in _ _ _) (iteT e1 rfl), h.late (Or.inl rfl), zKp.uS (by decide), rfl⟩
    by_cases q1 : r.1 0 9 < r.1 0 13
    · exact iteT q1 rfl
    · exact iteF q1 (iteF (by omega) rfl)
theorem S_scrollS {s r : zSt} (h : zRel s r) {n : Int} (hn : 1 ≤ n ∧ n ≤ 999) :
    ∃ s1 r1, f_Sc_scroll n 1 s = some (0, s1) ∧ zloop (f_Rf_meansMore_l62 n) zfu (0, r) = some r1 ∧ zRel s1 r1 ∧ zKp r r1 := by
  have hs := h.nums
  obtain ⟨d1, d2, d3, d4, d5, d6⟩ := h.zz
  have hreg := hs.2.2.2.2.1
  obtain ⟨m, hm⟩ : ∃ m, m = (if (52 : Int) < n then 52 else n) := ⟨_, rfl⟩
  obtain ⟨s1, r1, a1, a2, a3⟩ := S_upMany h (a := r.1 0 13) (b := r.1 0 14) (k := 1) (by omega) (Or.inr rfl) (F := fun t => f_Sc_scrollUp (t.1 0 12) (t.1 0 13) 1 t) (G := fun t => f_Rf_scrollsUp (t.1 0 13) (t.1 0 14) 1 t) (fun t ht => by rw [ht 0 12 (by decide), ht 0 13 (by decide), d5, d6]) (fun t ht => by rw [ht 13 (by decide), ht 14 (by decide)]) (m := m.toNat) (n := n.toNat) (by grind)
  have b1 := zit_up (f := fun t => f_Sc_scrollUp (t.1 0 12) (t.1 0 13) 1 t) (step := f_Sc_scroll_l10 1 m) (K := m) (fun i t hi => by unfold f_Sc_scroll_l10; exact iteF (by show ¬ m ≤ i; omega) (iteF (by decide) rfl)) (fun i t hi => by unfold f_Sc_scroll_l10; exact iteT hi rfl) (by grind) m.toNat zfu 0 s s1 (by decide) (by omega) (by unfold zfu; grind) a1
  have b2 := zit_up (f := fun t => f_Rf_scrollsUp (t.1 0 13) (t.1 0 14) 1 t) (step := f_Rf_meansMore_l62 n) (K := n) (fun i t hi => by unfold f_Rf_meansMore_l62; exact iteF (by show ¬ n ≤ i; omega) rfl) (fun i t hi => by unfold f_Rf_meansMore_l62; exact iteT hi rfl) (by omega) n.toNat zfu 0 r r1 (by decide) (by omega) (by unfold zfu; omega) a2
  refine ⟨s1, r1, ?_, b2, a3.1, a3.kp⟩
  unfold f_Sc_scroll
  exact bindS (by rw [← hm]; exact b1) rfl
theorem S_scrollT {s r : zSt} (h : zRel s r) {n : Int} (hn : 1 ≤ n ∧ n ≤ 999) :
    ∃ s1 r1, f_Sc_scroll n 0 s = some (0, s1) ∧ zloop (f_Rf_meansMore_l91 n) zfu (0, r) = some r1 ∧ zRel s1 r1 ∧ zKp r r1 := by
  have hs := h.nums
  have z1 := h.size
  obtain ⟨d1, d2, d3, d4, d5, d6⟩ := h.zz
  have hreg := hs.2.2.2.2.1
  obtain ⟨m, hm⟩ : ∃ m, m = (if (52 : Int) < n then 52 else n) := ⟨_, rfl⟩
  obtain ⟨s1, r1, a1, a2, a3⟩ := S_downMany h (a := r.1 0 13) (b := r.1 0 14) (by omega) (F := fun t => f_Sc_scrollDown (t.1 0 12) (t.1 0 13) t) (G := fun t => f_Rf_scrollsDown (t.1 0 13) (t.1 0 14) t) (fun t ht => by rw [ht 0 12 (by decide), ht 0 13 (by decide), d5, d6]) (fun t ht => by rw [ht 13 (by decide), ht 14 (by decide)]) (m := m.toNat) (n := n.toNat) (by grind)
  have b1 := zit_up (f := fun t => f_Sc_scrollDown (t.1 0 12) (t.1 0 13) t) (step := f_Sc_scroll_l10 0 m) (K := m) (fun i t hi => by unfold f_Sc_scroll_l10; exact iteF (by show ¬ m ≤ i; omega) (iteT rfl rfl)) (fun i t hi => by unfold f_Sc_scroll_l10; exact iteT hi rfl) (by grind) m.toNat zfu 0 s s1 (by decide) (by omega) (by unfold zfu; grind) a1
  have b2 := zit_up (f := fun t => f_Rf_scrollsDown (t.1 0 13) (t.1 0 14) t) (step := f_Rf_meansMore_l91 n) (K := n) (fun i t hi => by unfold f_Rf_meansMore_l91; exact iteF (by show ¬ n ≤ i; omega) rfl) (fun i t hi => by unfold f_Rf_meansMore_l91; exact iteT hi rfl) (by omega) n.toNat zfu 0 r r1 (by decide) (by omega) (by unfold zfu; omega) a2
  refine ⟨s1, r1, ?_, b2, a3.1, a3.kp⟩
  unfold f_Sc_scroll
  exact bindS (by rw [← hm]; exact b1) rfl
