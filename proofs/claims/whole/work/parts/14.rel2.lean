/-! ===== the screen beside the reference ===== -/
/-- lengths of the screen's arrays -/
def zSL (s : zSt) : Prop := (s.1 3 0 = 288 ∧ s.1 4 0 = 12 ∧ s.1 6 0 = 960 ∧ s.1 7 0 = 40 ∧ s.1 8 0 = 1248 ∧ s.1 9 0 = 512 ∧ s.1 10 0 = 512 ∧ s.1 11 0 = 512) ∧ (s.1 16 0 = 16 ∧ s.1 18 0 = 16 ∧ s.1 19 0 = 4 ∧ s.1 21 0 = 8 ∧ s.1 23 0 = 288 ∧ s.1 24 0 = 12 ∧ s.1 26 0 = 24) ∧ True
def z01 (x : Int) : Prop := x = 0 ∨ x = 1
/-- the reference's numbers -/
def zRs (r : zSt) : Prop := (0 ≤ r.1 0 9 ∧ r.1 0 9 < r.1 0 1) ∧ (0 ≤ r.1 0 10 ∧ r.1 0 10 < r.1 0 2) ∧ z01 (r.1 0 11) ∧ (0 ≤ r.1 0 12 ∧ r.1 0 12 < 16) ∧ (0 ≤ r.1 0 13 ∧ r.1 0 13 < r.1 0 14 ∧ r.1 0 14 < r.1 0 1) ∧ (0 ≤ r.1 0 7 ∧ r.1 0 7 ≤ 40)
def zRm (r : zSt) : Prop := z01 (r.1 0 16) ∧ z01 (r.1 0 17) ∧ z01 (r.1 0 18) ∧ z01 (r.1 0 19) ∧ z01 (r.1 0 20) ∧ z01 (r.1 0 21) ∧ z01 (r.1 0 22)
def zRv (r : zSt) : Prop := z01 (r.1 0 23) ∧ (r.1 0 8 = 1 → r.1 0 23 = 1 ∧ r.1 0 24 < r.1 0 1 ∧ r.1 0 25 < r.1 0 2) ∧ (r.1 0 23 = 1 → (0 ≤ r.1 0 24 ∧ r.1 0 24 < 12) ∧ (0 ≤ r.1 0 25 ∧ r.1 0 25 < 24) ∧ z01 (r.1 0 26) ∧ (0 ≤ r.1 0 27 ∧ r.1 0 27 < 16) ∧ z01 (r.1 0 28))
def zRr (r : zSt) : Prop := (0 ≤ r.1 0 29 ∧ r.1 0 29 ≤ 3) ∧ z01 (r.1 0 32) ∧ z01 (r.1 0 33) ∧ z01 (r.1 0 34) ∧ (0 ≤ r.1 0 36 ∧ r.1 0 36 ≤ 16) ∧ (0 ≤ r.1 0 38 ∧ r.1 0 38 ≤ 16) ∧ (r.1 0 29 = 2 → 1 ≤ r.1 0 31) ∧ (0 ≤ r.1 0 31 ∧ r.1 0 31 ≤ 5) ∧ ∀ i, 0 ≤ i → i < r.1 0 31 → i < 4 → 0 ≤ r.2 5 i ∧ r.2 5 i ≤ 999
/-- the reference's cells -/
def zRk (r : zSt) : Prop := zKwf (r.2 1) 0 (r.1 0 1) (r.1 0 2) ∧ zKwf (r.2 1) 288 (r.1 0 1) (r.1 0 2)
def zRh (r : zSt) : Prop := (∀ i, r.2 4 i = 0 ∨ r.2 4 i = 1) ∧ ∀ k, 0 ≤ k → k < r.1 0 7 → zRwf (r.2 3) (k * 24) (r.1 0 2)
def zRI (r : zSt) : Prop := zRZ r ∧ zGb r ∧ zRs r ∧ zRm r ∧ zRv r ∧ zRr r ∧ zRk r ∧ zRh r
def zXp0 (s r : zSt) : Prop := zRC (s.2 3) (r.2 1) 0 ∧ (∀ i, 0 ≤ i → i < 12 → s.2 4 i = r.2 2 (0 + i)) ∧ (∀ i, s.2 4 i = 0 ∨ s.2 4 i = 1) ∧ s.1 2 2 = r.1 0 1 ∧ s.1 2 3 = r.1 0 2 ∧ ∀ k, r.1 0 1 ≤ k → k < 12 → s.2 4 k = 0
def zXp1 (s r : zSt) : Prop := zRC (s.2 23) (r.2 1) 288 ∧ (∀ i, 0 ≤ i → i < 12 → s.2 24 i = r.2 2 (12 + i)) ∧ (∀ i, s.2 24 i = 0 ∨ s.2 24 i = 1) ∧ s.1 22 2 = r.1 0 1 ∧ s.1 22 3 = r.1 0 2 ∧ ∀ k, r.1 0 1 ≤ k → k < 12 → s.2 24 k = 0
def zXh (s r : zSt) : Prop := s.1 5 2 = r.1 0 7 ∧ (∀ i, 0 ≤ i → i < 24 * r.1 0 7 → s.2 6 i = r.2 3 i) ∧ (∀ i, 0 ≤ i → i < r.1 0 7 → s.2 7 i = r.2 4 i) ∧ ∀ i, s.2 7 i = 0 ∨ s.2 7 i = 1
def zXu (s r : zSt) : Prop := s.1 12 0 = r.1 0 9 ∧ s.1 12 1 = r.1 0 10 ∧ s.1 12 2 = r.1 0 11 ∧ s.1 12 3 = r.1 0 12 ∧ s.1 12 4 = r.1 0 17
def zXm (s r : zSt) : Prop := s.1 13 0 = r.1 0 16 ∧ s.1 13 1 = r.1 0 18 ∧ s.1 13 2 = r.1 0 19 ∧ s.1 13 3 = r.1 0 20 ∧ s.1 13 4 = r.1 0 21 ∧ s.1 13 5 = r.1 0 22
def zXv (s r : zSt) : Prop := (r.1 0 23 = 1 → s.1 25 0 = r.1 0 24 ∧ s.1 25 1 = r.1 0 25 ∧ s.1 25 2 = r.1 0 26 ∧ s.1 25 3 = r.1 0 27 ∧ s.1 25 4 = r.1 0 28) ∧ (r.1 0 23 = 0 → s.1 25 0 = 0 ∧ s.1 25 1 = 0 ∧ s.1 25 2 = 0 ∧ s.1 25 3 = 0 ∧ s.1 25 4 = 0)
def zXz (s r : zSt) : Prop := s.1 0 8 = r.1 0 8 ∧ s.1 0 9 = r.1 0 1 ∧ s.1 0 10 = r.1 0 2 ∧ s.1 0 11 = r.1 0 39 ∧ s.1 0 12 = r.1 0 13 ∧ s.1 0 13 = r.1 0 14
def zXt (s r : zSt) : Prop := (∀ i, s.2 26 i = 0 ∨ s.2 26 i = 1) ∧ (0 ≤ r.1 0 15 ∧ r.1 0 15 < 16777216) ∧ (∀ c, 0 ≤ c → c < 24 → s.2 26 c = r.1 0 15 / 2 ^ c.toNat % 2) ∧ ∀ c, r.1 0 2 ≤ c → c < 24 → s.2 26 c = 0
/-- a row of bytes that goes round: its i-th -/
def zbt (s : zSt) (o a : Nat) (len : Int) (i : Int) : Int := s.2 a (if s.1 o 1 + i < len then s.1 o 1 + i else s.1 o 1 + i - len)
def zbw (s : zSt) (o : Nat) (len : Int) : Prop := (0 ≤ s.1 o 1 ∧ s.1 o 1 < len) ∧ (0 ≤ s.1 o 2 ∧ s.1 o 2 ≤ len)
def zXr (s r : zSt) : Prop := (s.1 14 3 = r.1 0 29 ∧ zbw s 15 16 ∧ zbw s 17 16 ∧ zbw s 20 8) ∧ (s.1 15 2 = r.1 0 38 ∧ ∀ i, 0 ≤ i → i < r.1 0 38 → zbt s 15 16 16 i = r.2 7 i) ∧ (r.1 0 29 = 3 → s.1 17 2 = r.1 0 36 ∧ ∀ i, 0 ≤ i → i < r.1 0 36 → zbt s 17 18 16 i = r.2 6 i) ∧ (s.1 14 4 = r.1 0 31 ∧ (∀ i, 0 ≤ i → i < r.1 0 31 → i < 4 → s.2 19 i = r.2 5 i) ∧ ∀ i, r.1 0 31 ≤ i → i < 4 → s.2 19 i = 0) ∧ (r.1 0 29 = 2 → s.1 14 5 = r.1 0 33 ∧ s.1 14 6 = r.1 0 34 ∧ s.1 14 7 = 1 - r.1 0 32)
def zRel (s r : zSt) : Prop := zSL s ∧ zRI r ∧ zXp0 s r ∧ zXp1 s r ∧ zXh s r ∧ zXu s r ∧ zXm s r ∧ zXv s r ∧ zXz s r ∧ zXt s r ∧ zXr s r
/-- only pictures changed -/
def zPo (s r s1 r1 : zSt) : Prop := zRel s1 r1 ∧ s1.1 = s.1 ∧ r1.1 = r.1 ∧ ∀ i, 3 ≤ i → r1.2 i = r.2 i
theorem zPo.trans {s r s1 r1 s2 r2 : zSt} (h : zPo s r s1 r1) (k : zPo s1 r1 s2 r2) : zPo s r s2 r2 := ⟨k.1, k.2.1.trans h.2.1, k.2.2.1.trans h.2.2.1, fun i hi => (k.2.2.2 i hi).trans (h.2.2.2 i hi)⟩
/-! picture 0 -/
theorem zRel.pw0 {s r : zSt} (h : zRel s r) : zPW (zsb (zsh 2) s) := by
  obtain ⟨hL, hI, h0, h1, -⟩ := h
  exact ⟨hL.1.1, hL.1.2.1, by show 2 ≤ s.1 2 2 ∧ s.1 2 2 ≤ 12; rw [h0.2.2.2.1]; exact hI.1.2.1, by show 4 ≤ s.1 2 3 ∧ s.1 2 3 ≤ 24; rw [h0.2.2.2.2.1]; exact hI.1.2.2.1, h0.2.2.1⟩
theorem zRel.c0 {s r : zSt} (h : zRel s r) {F F' : Int → Int} (h1 : zRC F F' 0) (h2 : zOut (r.2 1) F' 0) (h3 : zKwf F' 0 (r.1 0 1) (r.1 0 2)) : zPo s r (uA s 3 F) (uA r 1 F') := by
  obtain ⟨hL, ⟨hZ, hg, hs, hm, hv, hr, hk, hh⟩, p0, p1, xh, xu, xm, xv, xz, xt, xr⟩ := h
  refine ⟨⟨hL, ⟨hZ, hg, hs, hm, hv, hr, ⟨h3, ⟨fun q a b => (hk.2.1 q a b).cg (fun c x y => h2 _ (by omega)) ⟨by have := hZ.2.2.1; omega, hZ.2.2.1.2⟩, fun i a b => (h2 i (by have a2 : 288 + r.1 0 1 * 24 ≤ i := a; have := hZ.2.1; omega)).trans (hk.2.2 i a b)⟩⟩, hh⟩, ⟨h1, p0.2⟩, ⟨p1.1.ot h2 (by decide), p1.2⟩, xh, xu, xm, xv, xz, xt, xr⟩, rfl, rfl, fun i hi => uA_a (by omega)⟩
theorem zRel.g0 {s r : zSt} (h : zRel s r) {F F' : Int → Int} (h1 : ∀ i, 0 ≤ i → i < 12 → F i = F' (0 + i)) (h2 : ∀ i, i < 0 ∨ 0 + 12 ≤ i → F' i = r.2 2 i) (h3 : ∀ i, F i = 0 ∨ F i = 1) (h4 : ∀ i, F' i = 0 ∨ F' i = 1) (h5 : ∀ k, r.1 0 1 ≤ k → k < 12 → F k = 0) : zPo s r (uA s 4 F) (uA r 2 F') := by
  obtain ⟨hL, ⟨hZ, hg, hs, hm, hv, hr, hk, hh⟩, p0, p1, xh, xu, xm, xv, xz, xt, xr⟩ := h
  refine ⟨⟨hL, ⟨hZ, h4, hs, hm, hv, hr, hk, hh⟩, ⟨p0.1, h1, h3, p0.2.2.2.1, p0.2.2.2.2.1, h5⟩, ⟨p1.1, fun i a b => by show s.2 24 i = F' (12 + i); rw [h2 _ (by omega)]; exact p1.2.1 i a b, p1.2.2⟩, xh, xu, xm, xv, xz, xt, xr⟩, rfl, rfl, fun i hi => uA_a (by omega)⟩
theorem zRel.nt0 {s r : zSt} (h : zRel s r) {a : Int} (ha : 0 ≤ a ∧ a < r.1 0 1) : zNT (s.2 3) (a * 24) (r.1 0 2) := by
  obtain ⟨hL, ⟨hZ, hg, hs, hm, hv, hr, hk, hh⟩, p0, p1, -⟩ := h
  have e := (hk.1.1 a ha.1 (by have := hZ.2.1; omega)).nt (by have := hZ.2.2.1; omega)
  have q := p0.1
  have z := hZ.2.1
  have z2 := hZ.2.2.1
  refine ⟨?_, fun c x y => ?_⟩
  · rw [q (a * 24) (by omega) (by omega)]
    exact e.1
  · rw [q (a * 24 + c) (by omega) (by omega), ← Int.add_assoc]
    exact e.2 c x y
theorem P0_erase {s r : zSt} (h : zRel s r) (hsh : r.1 0 8 = 0) {a x y : Int} (ha : 0 ≤ a ∧ a < r.1 0 1) (hx : 0 ≤ x ∧ x ≤ r.1 0 2) (hy : x ≤ y ∧ y < 100000) :
    ∃ p1 r1, f_Pi_erase a x y (zsb (zsh 2) s) = some (0, p1) ∧ f_Rf_erases a x (if r.1 0 2 < y then r.1 0 2 else y) r = some (0, r1) ∧ zPo s r (zpb (zsh 2) 3 s p1) r1 := by
  have hZ := h.2.1.1
  have hp := h.2.2.1
  have e := c_Pi_erase (p := zsb (zsh 2) s) h.pw0 (r := a) (a := x) (b := y) (by show 0 ≤ a ∧ a < s.1 2 2; rw [hp.2.2.2.1]; exact ha) (by show 0 ≤ x ∧ x ≤ s.1 2 3; rw [hp.2.2.2.2.1]; exact hx) hy (by show zNT (s.2 3) (a * 24) (s.1 2 3); rw [hp.2.2.2.2.1]; exact h.nt0 ha)
  have z1 := hZ.2.1
  have z2 := hZ.2.2.1
  have hy2 : x ≤ (if r.1 0 2 < y then r.1 0 2 else y) ∧ (if r.1 0 2 < y then r.1 0 2 else y) ≤ r.1 0 2 := by split <;> omega
  have e2 := c_Rf_erases (s := r) hZ (r := a) (a := x) (b := if r.1 0 2 < y then r.1 0 2 else y) ⟨ha.1, by omega⟩ hx hy2
  rw [show zRo r a = 0 + a * 24 by unfold zRo; rw [hsh]; rfl] at e2
  have e3 : (zsb (zsh 2) s).1 0 3 = r.1 0 2 := hp.2.2.2.2.1
  rw [e3] at e
  refine ⟨_, _, e, e2, ?_⟩
  rw [zpb_uA _ _ _ _ _ _ (by omega), zpb_same]
  exact h.c0 (hp.1.er ⟨ha.1, by omega⟩ hx.1 (by omega) z2.2) (zOut.er ⟨ha.1, by omega⟩ hx.1 hy2.2 z2.2) ((h.2.1.2.2.2.2.2.2.1.1).er ha z1.2 ⟨by omega, z2.2⟩ ⟨hx.1, hy2.1⟩ hy2.2)
theorem P0_insert {s r : zSt} (h : zRel s r) (hsh : r.1 0 8 = 0) {a x k : Int} (ha : 0 ≤ a ∧ a < r.1 0 1) (hx : 0 ≤ x ∧ x < r.1 0 2) (hk : 1 ≤ k ∧ k < 90000) :
    ∃ p1 r1, f_Pi_insert a x k (zsb (zsh 2) s) = some (0, p1) ∧ f_Rf_movesRight a x k r = some (0, r1) ∧ zPo s r (zpb (zsh 2) 3 s p1) r1 := by
  have hZ := h.2.1.1
  have hp := h.2.2.1
  have e := c_Pi_insert (p := zsb (zsh 2) s) h.pw0 (r := a) (a := x) (k := k) (by show 0 ≤ a ∧ a < s.1 2 2; rw [hp.2.2.2.1]; exact ha) (by show 0 ≤ x ∧ x < s.1 2 3; rw [hp.2.2.2.2.1]; exact hx) ⟨hk.1, by omega⟩ (by show zNT (s.2 3) (a * 24) (s.1 2 3); rw [hp.2.2.2.2.1]; exact h.nt0 ha)
  have z1 := hZ.2.1
  have z2 := hZ.2.2.1
  have e2 := c_Rf_movesRight (s := r) hZ (r := a) (a := x) (k := k) ⟨ha.1, by omega⟩ hx ⟨hk.1, by omega⟩
  rw [show zRo r a = 0 + a * 24 by unfold zRo; rw [hsh]; rfl] at e2
  have e3 : (zsb (zsh 2) s).1 0 3 = r.1 0 2 := hp.2.2.2.2.1
  rw [e3] at e
  have hm : 1 ≤ (if k < r.1 0 2 - x then k else r.1 0 2 - x) ∧ (if k < r.1 0 2 - x then k else r.1 0 2 - x) ≤ r.1 0 2 - x := by split <;> omega
  refine ⟨_, _, e, e2, ?_⟩
  rw [zpb_uA _ _ _ _ _ _ (by omega), zpb_same]
  exact h.c0 (hp.1.ins ⟨ha.1, by omega⟩ hx hm z2.2) (zOut.ins ⟨ha.1, by omega⟩ hx.1 z2.2) ((h.2.1.2.2.2.2.2.2.1.1).ins ha z1.2 ⟨by omega, z2.2⟩ hx hm)
theorem P0_delete {s r : zSt} (h : zRel s r) (hsh : r.1 0 8 = 0) {a x k : Int} (ha : 0 ≤ a ∧ a < r.1 0 1) (hx : 0 ≤ x ∧ x < r.1 0 2) (hk : 1 ≤ k ∧ k < 90000) :
    ∃ p1 r1, f_Pi_delete a x k (zsb (zsh 2) s) = some (0, p1) ∧ f_Rf_movesLeft a x k r = some (0, r1) ∧ zPo s r (zpb (zsh 2) 3 s p1) r1 := by
  have hZ := h.2.1.1
  have hp := h.2.2.1
  have e := c_Pi_delete (p := zsb (zsh 2) s) h.pw0 (r := a) (a := x) (k := k) (by show 0 ≤ a ∧ a < s.1 2 2; rw [hp.2.2.2.1]; exact ha) (by show 0 ≤ x ∧ x < s.1 2 3; rw [hp.2.2.2.2.1]; exact hx) hk (by show zNT (s.2 3) (a * 24) (s.1 2 3); rw [hp.2.2.2.2.1]; exact h.nt0 ha)
  have z1 := hZ.2.1
  have z2 := hZ.2.2.1
  have e2 := c_Rf_movesLeft (s := r) hZ (r := a) (a := x) (k := k) ⟨ha.1, by omega⟩ hx ⟨hk.1, by omega⟩
  rw [show zRo r a = 0 + a * 24 by unfold zRo; rw [hsh]; rfl] at e2
  have e3 : (zsb (zsh 2) s).1 0 3 = r.1 0 2 := hp.2.2.2.2.1
  rw [e3] at e
  have hm : 1 ≤ (if k < r.1 0 2 - x then k else r.1 0 2 - x) ∧ (if k < r.1 0 2 - x then k else r.1 0 2 - x) ≤ r.1 0 2 - x := by split <;> omega
  refine ⟨_, _, e, e2, ?_⟩
  rw [zpb_uA _ _ _ _ _ _ (by omega), zpb_same]
  exact h.c0 (hp.1.del ⟨ha.1, by omega⟩ hx hm z2.2) (zOut.del ⟨ha.1, by omega⟩ hx.1 z2.2) ((h.2.1.2.2.2.2.2.2.1.1).del ha z1.2 ⟨by omega, z2.2⟩ hx hm)
theorem P0_sign1 {s r : zSt} (h : zRel s r) (hsh : r.1 0 8 = 0) {a c v : Int} (ha : 0 ≤ a ∧ a < r.1 0 1) (hc : 0 ≤ c ∧ c < r.1 0 2) (hv : zVl v ∧ v ≠ -2 ∧ ¬ zWd v) :
    ∃ p1 p2 r1 r2, f_Pi_erase a c (c + 1) (zsb (zsh 2) s) = some (0, p1) ∧ f_Pi_put a c v (zsb (zsh 2) (zpb (zsh 2) 3 s p1)) = some (0, p2) ∧ f_Rf_parts a c r = some (0, r1) ∧ f_Rf_parts a (c + 1) r1 = some (0, r2) ∧ r2.1 = r.1 ∧
      zPo s r (zpb (zsh 2) 3 (zpb (zsh 2) 3 s p1) p2) (uE r2 1 (zRo r a + c) v) := by
  have hZ := h.2.1.1
  have hp := h.2.2.1
  have z1 := hZ.2.1
  have z2 := hZ.2.2.1
  obtain ⟨p1, r1, e1, e2, e3⟩ := P0_erase h hsh ha (x := c) (y := c + 1) (by omega) (by omega)
  have hL := e3.1
  have hs1 := e3.2.1
  have hk := hL.2.1.2.2.2.2.2.2.1.1
  rw [e3.2.2.1] at hk
  have q1 := c_Rf_parts (s := r) hZ (r := a) (c := c) ⟨ha.1, by omega⟩ (by omega)
  have q2 := c_Rf_parts (s := uA r 1 (zPt (r.2 1) (zRo r a) c (r.1 0 2))) (hZ.uA _ _) (r := a) (c := c + 1) ⟨ha.1, by omega⟩ (by omega)
  have q3 := c_Rf_erases (s := r) hZ (r := a) (a := c) (b := if r.1 0 2 < c + 1 then r.1 0 2 else c + 1) ⟨ha.1, by omega⟩ (by omega) (by omega)
  rw [e2] at q3
  have er := (Prod.mk.inj (Option.some.inj q3)).2
  rw [if_neg (by omega)] at er
  have ec := c_put (p := zsb (zsh 2) (zpb (zsh 2) 3 s p1)) hL.pw0 (r := a) (c := c) (v := v) (by show 0 ≤ a ∧ a < (zpb (zsh 2) 3 s p1).1 2 2; rw [hs1, hp.2.2.2.1]; exact ha) (by show 0 ≤ c ∧ c < (zpb (zsh 2) 3 s p1).1 2 3; rw [hs1, hp.2.2.2.2.1]; exact hc)
  refine ⟨p1, _, _, _, e1, ec, q1, q2, rfl, e3.trans ?_⟩
  have ezo : zRo r a = 0 + a * 24 := by unfold zRo; rw [hsh]; rfl
  have e0 : r1.2 1 (0 + a * 24 + c) = 0 := by
    rw [er, uA2, if_pos rfl, ezo]
    unfold zEr zFl
    rw [if_pos (by omega)]
  have er2 : uE (uA (uA r 1 (zPt (r.2 1) (zRo r a) c (r.1 0 2))) 1 (zPt ((uA r 1 (zPt (r.2 1) (zRo r a) c (r.1 0 2))).2 1) (zRo (uA r 1 (zPt (r.2 1) (zRo r a) c (r.1 0 2))) a) (c + 1) ((uA r 1 (zPt (r.2 1) (zRo r a) c (r.1 0 2))).1 0 2))) 1 (zRo r a + c) v = uA r1 1 (zup (r1.2 1) (0 + a * 24 + c) v) := by
    rw [er]
    unfold uE
    simp only [uA_uA, uA2, if_true, uA1, zRo_uA]
    refine uA_cg (fun i => ?_)
    rw [ezo]
    unfold zup zEr zFl
    grind
  rw [er2]
  unfold uE
  rw [zpb_uA _ _ _ _ _ _ (by omega), zpb_same]
  have hrow := hk.1 a ha.1 (by omega)
  have hC : zRC ((zpb (zsh 2) 3 s p1).2 3) (r1.2 1) 0 := hL.2.2.1.1
  refine hL.c0 (F := zup ((zpb (zsh 2) 3 s p1).2 3) (a * 24 + c) v) ?_ ?_ ?_
  · intro i x y
    have := hC i x y
    unfold zup
    grind
  · intro i x
    unfold zup
    rw [if_neg (by omega)]
  · rw [e3.2.2.1]
    exact hk.row ha z1.2 ⟨by omega, z2.2⟩ (hrow.put1 hc e0 hv) (fun i x => by unfold zup; rw [if_neg (by omega)])
theorem P0_sign2 {s r : zSt} (h : zRel s r) (hsh : r.1 0 8 = 0) {a c v : Int} (ha : 0 ≤ a ∧ a < r.1 0 1) (hc : 0 ≤ c ∧ c + 1 < r.1 0 2) (hv : zVl v ∧ v ≠ -2 ∧ zWd v) :
    ∃ p1 p2 p3 r1 r2, f_Pi_erase a c (c + 2) (zsb (zsh 2) s) = some (0, p1) ∧ f_Pi_put a c v (zsb (zsh 2) (zpb (zsh 2) 3 s p1)) = some (0, p2) ∧ f_Pi_put a (c + 1) (-2) (zsb (zsh 2) (zpb (zsh 2) 3 (zpb (zsh 2) 3 s p1) p2)) = some (0, p3) ∧ f_Rf_parts a c r = some (0, r1) ∧ f_Rf_parts a (c + 2) r1 = some (0, r2) ∧ r2.1 = r.1 ∧ (zpb (zsh 2) 3 (zpb (zsh 2) 3 s p1) p2).1 = s.1 ∧
      zPo s r (zpb (zsh 2) 3 (zpb (zsh 2) 3 (zpb (zsh 2) 3 s p1) p2) p3) (uE (uE r2 1 (zRo r a + c) v) 1 (zRo r a + (c + 1)) (-2)) := by
  have hZ := h.2.1.1
  have hp := h.2.2.1
  have z1 := hZ.2.1
  have z2 := hZ.2.2.1
  obtain ⟨p1, r1, e1, e2, e3⟩ := P0_erase h hsh ha (x := c) (y := c + 2) (by omega) (by omega)
  have hL := e3.1
  have hs1 := e3.2.1
  have hk := hL.2.1.2.2.2.2.2.2.1.1
  rw [e3.2.2.1] at hk
  have q1 := c_Rf_parts (s := r) hZ (r := a) (c := c) ⟨ha.1, by omega⟩ (by omega)
  have q2 := c_Rf_parts (s := uA r 1 (zPt (r.2 1) (zRo r a) c (r.1 0 2))) (hZ.uA _ _) (r := a) (c := c + 2) ⟨ha.1, by omega⟩ (by omega)
  have q3 := c_Rf_erases (s := r) hZ (r := a) (a := c) (b := if r.1 0 2 < c + 2 then r.1 0 2 else c + 2) ⟨ha.1, by omega⟩ (by omega) (by omega)
  rw [e2] at q3
  have er := (Prod.mk.inj (Option.some.inj q3)).2
  rw [if_neg (by omega)] at er
  have ec := c_put (p := zsb (zsh 2) (zpb (zsh 2) 3 s p1)) hL.pw0 (r := a) (c := c) (v := v) (by show 0 ≤ a ∧ a < (zpb (zsh 2) 3 s p1).1 2 2; rw [hs1, hp.2.2.2.1]; exact ha) (by show 0 ≤ c ∧ c < (zpb (zsh 2) 3 s p1).1 2 3; rw [hs1, hp.2.2.2.2.1]; omega)
  have hb : zpb (zsh 2) 3 (zpb (zsh 2) 3 s p1) (uE (zsb (zsh 2) (zpb (zsh 2) 3 s p1)) 1 (a * 24 + c) v) = uA (zpb (zsh 2) 3 s p1) 3 (zup ((zpb (zsh 2) 3 s p1).2 3) (a * 24 + c) v) := by
    unfold uE
    rw [zpb_uA _ _ _ _ _ _ (by omega), zpb_same]
    rfl
  have hw2 : zPW (zsb (zsh 2) (uA (zpb (zsh 2) 3 s p1) 3 (zup ((zpb (zsh 2) 3 s p1).2 3) (a * 24 + c) v))) := hL.pw0
  have ed := c_put hw2 (r := a) (c := c + 1) (v := -2) (by show 0 ≤ a ∧ a < (zpb (zsh 2) 3 s p1).1 2 2; rw [hs1, hp.2.2.2.1]; exact ha) (by show 0 ≤ c + 1 ∧ c + 1 < (zpb (zsh 2) 3 s p1).1 2 3; rw [hs1, hp.2.2.2.2.1]; omega)
  refine ⟨p1, _, _, _, _, e1, ec, by rw [hb]; exact ed, q1, q2, rfl, by rw [hb]; exact hs1, e3.trans ?_⟩
  rw [hb]
  have ezo : zRo r a = 0 + a * 24 := by unfold zRo; rw [hsh]; rfl
  have e0 : r1.2 1 (0 + a * 24 + c) = 0 := by
    rw [er, uA2, if_pos rfl, ezo]
    unfold zEr zFl
    rw [if_pos (by omega)]
  have e01 : r1.2 1 (0 + a * 24 + (c + 1)) = 0 := by
    rw [er, uA2, if_pos rfl, ezo]
    unfold zEr zFl
    rw [if_pos (by omega)]
  have er2 : uE (uE (uA (uA r 1 (zPt (r.2 1) (zRo r a) c (r.1 0 2))) 1 (zPt ((uA r 1 (zPt (r.2 1) (zRo r a) c (r.1 0 2))).2 1) (zRo (uA r 1 (zPt (r.2 1) (zRo r a) c (r.1 0 2))) a) (c + 2) ((uA r 1 (zPt (r.2 1) (zRo r a) c (r.1 0 2))).1 0 2))) 1 (zRo r a + c) v) 1 (zRo r a + (c + 1)) (-2) = uA r1 1 (zup (zup (r1.2 1) (0 + a * 24 + c) v) (0 + a * 24 + (c + 1)) (-2)) := by
    rw [er]
    unfold uE
    simp only [uA_uA, uA2, if_true, uA1, zRo_uA]
    refine uA_cg (fun i => ?_)
    rw [ezo]
    unfold zup zEr zFl
    grind
  rw [er2]
  unfold uE
  rw [zpb_uA _ _ _ _ _ _ (by omega), zpb_same, uA_uA]
  have hrow := hk.1 a ha.1 (by omega)
  have hC : zRC ((zpb (zsh 2) 3 s p1).2 3) (r1.2 1) 0 := hL.2.2.1.1
  refine hL.c0 (F := zup (zup ((zpb (zsh 2) 3 s p1).2 3) (a * 24 + c) v) (a * 24 + (c + 1)) (-2)) ?_ ?_ ?_
  · intro i x y
    have := hC i x y
    unfold zup
    grind
  · intro i x
    unfold zup
    rw [if_neg (by omega), if_neg (by omega)]
  · rw [e3.2.2.1]
    exact hk.row ha z1.2 ⟨by omega, z2.2⟩ (hrow.put2 hc e0 e01 hv) (fun i x => by unfold zup; rw [if_neg (by omega), if_neg (by omega)])
theorem P0_mark {s r : zSt} (h : zRel s r) (hsh : r.1 0 8 = 0) {a c : Int} (ha : 0 ≤ a ∧ a < r.1 0 1) (hc : 0 ≤ c ∧ c < r.1 0 2) (hv : 0 < r.2 1 (zRo r a + c) ∧ r.2 1 (zRo r a + c) < 300000) :
    ∃ p1, f_Pi_put a c (r.2 1 (zRo r a + c) + 100000) (zsb (zsh 2) s) = some (0, p1) ∧ zPo s r (zpb (zsh 2) 3 s p1) (uE r 1 (zRo r a + c) (r.2 1 (zRo r a + c) + 100000)) := by
  have hZ := h.2.1.1
  have hp := h.2.2.1
  have z1 := hZ.2.1
  have z2 := hZ.2.2.1
  have hk := h.2.1.2.2.2.2.2.2.1.1
  have ec := c_put (p := zsb (zsh 2) s) h.pw0 (r := a) (c := c) (v := r.2 1 (zRo r a + c) + 100000) (by show 0 ≤ a ∧ a < s.1 2 2; rw [hp.2.2.2.1]; exact ha) (by show 0 ≤ c ∧ c < s.1 2 3; rw [hp.2.2.2.2.1]; exact hc)
  refine ⟨_, ec, ?_⟩
  have ezo : zRo r a = 0 + a * 24 := by unfold zRo; rw [hsh]; rfl
  rw [ezo] at hv ⊢
  unfold uE
  rw [zpb_uA _ _ _ _ _ _ (by omega), zpb_same]
  have hC : zRC (s.2 3) (r.2 1) 0 := hp.1
  refine h.c0 (F := zup (s.2 3) (a * 24 + c) (r.2 1 (0 + a * 24 + c) + 100000)) ?_ ?_ ?_
  · intro i x y
    have := hC i x y
    unfold zup
    grind
  · intro i x
    unfold zup
    rw [if_neg (by omega)]
  · exact hk.row ha z1.2 ⟨by omega, z2.2⟩ ((hk.1 a ha.1 (by omega)).mark hc hv) (fun i x => by unfold zup; rw [if_neg (by omega)])
theorem P0_going {s r : zSt} (h : zRel s r) (hsh : r.1 0 8 = 0) {a v : Int} (ha : 0 ≤ a ∧ a < 12) (hv : v = 0 ∨ (v = 1 ∧ a < r.1 0 1)) :
    ∃ p1, f_Pi_setGoing a v (zsb (zsh 2) s) = some (0, p1) ∧ zPo s r (zpb (zsh 2) 3 s p1) (uE r 2 (zGo r a) v) := by
  have hp := h.2.2.1
  have hg := h.2.1.2.1
  have hv' : v = 0 ∨ v = 1 := hv.imp id And.left
  have ezo : zGo r a = 0 + a := by unfold zGo; rw [hsh]; rfl
  refine ⟨uE (zsb (zsh 2) s) 2 a v, ?_, ?_⟩
  · unfold f_Pi_setGoing
    refine iteF (by omega) (iteF (by omega) (iteT ⟨⟨ha.1, ?_⟩, hv'⟩ rfl))
    have := h.pw0.2.1
    omega
  · unfold uE
    rw [zpb_uA _ _ _ _ _ _ (by omega), zpb_same, ezo]
    refine h.g0 (F := zup (s.2 4) a v) (fun i x y => ?_) (fun i x => ?_) (fun i => ?_) (fun i => ?_) (fun k y z => ?_)
    · have := hp.2.1 i x y
      unfold zup
      grind
    · unfold zup
      rw [if_neg (by omega)]
    · have := hp.2.2.1 i
      unfold zup
      grind
    · have := hg i
      unfold zup
      grind
    · have := hp.2.2.2.2.2 k y z
      unfold zup
      grind
theorem P0_clearRow {s r : zSt} (h : zRel s r) (hsh : r.1 0 8 = 0) {a : Int} (ha : 0 ≤ a ∧ a < r.1 0 1) :
    ∃ p1 r1, f_Pi_clearRow a (zsb (zsh 2) s) = some (0, p1) ∧ f_Rf_emptiesRow a r = some (0, r1) ∧ zPo s r (zpb (zsh 2) 3 s p1) r1 := by
  have hZ := h.2.1.1
  have hp := h.2.2.1
  have hg := h.2.1.2.1
  have z1 := hZ.2.1
  have z2 := hZ.2.2.1
  have hk := h.2.1.2.2.2.2.2.2.1.1
  have e1 := c_Pi_clearRow h.pw0 (r := a) ⟨ha.1, by omega⟩
  have e2 := c_Rf_emptiesRow hZ (a := a) ⟨ha.1, by omega⟩
  rw [show zRo r a = 0 + a * 24 by unfold zRo; rw [hsh]; rfl, show zGo r a = 0 + a by unfold zGo; rw [hsh]; rfl] at e2
  refine ⟨_, _, e1, e2, ?_⟩
  have hC : zRC (s.2 3) (r.2 1) 0 := hp.1
  have k1 := h.c0 (F := zFl (s.2 3) (a * 24) (a * 24 + 24) 0) (F' := zFl (r.2 1) (0 + a * 24) (0 + a * 24 + 24) 0) (by
    have := hC.fl (lo := a * 24) (hi := a * 24 + 24) (v := 0)
    rw [← Int.add_assoc] at this
    exact this) (fun i x => by unfold zFl; rw [if_neg (by omega)]) (hk.row ha z1.2 ⟨by omega, z2.2⟩ (zRwf_0 (fun c x y => by unfold zFl; rw [if_pos (by omega)]) ⟨by omega, z2.2⟩) (fun i x => by unfold zFl; rw [if_neg (by omega)]))
  have k2 := k1.1.g0 (F := zup (s.2 4) a 0) (F' := zup (r.2 2) (0 + a) 0) (fun i x y => by
      have := hp.2.1 i x y
      unfold zup
      grind) (fun i x => by unfold zup; rw [if_neg (by omega)]; rfl) (fun i => by
      have := hp.2.2.1 i
      unfold zup
      grind) (fun i => by
      have := hg i
      unfold zup
      grind) (fun k y z => by
      have := hp.2.2.2.2.2 k y z
      have y' : r.1 0 1 ≤ k := y
      unfold zup
      grind)
  have k3 := k1.trans k2
  unfold uB
  rw [zpb_uA _ _ _ _ _ _ (by omega), zpb_uA _ _ _ _ _ _ (by omega), zpb_same]
  exact k3
theorem P0_up {s r : zSt} (h : zRel s r) (hsh : r.1 0 8 = 0) {a b v : Int} (hab : 0 ≤ a ∧ a ≤ b ∧ b < r.1 0 1) :
    ∃ p1 r1 r2, f_Pi_moveUp a b (zsb (zsh 2) s) = some (0, p1) ∧ zloop (f_Rf_scrollsUp_l34 a b v) zfu (a, r) = some r1 ∧ f_Rf_emptiesRow b r1 = some (0, r2) ∧ zPo s r (zpb (zsh 2) 3 s p1) r2 := by
  have hZ := h.2.1.1
  have hp := h.2.2.1
  have hg := h.2.1.2.1
  have z1 := hZ.2.1
  have z2 := hZ.2.2.1
  have hk := h.2.1.2.2.2.2.2.2.1.1
  have e1 := c_Pi_moveUp h.pw0 (a := a) (b := b) ⟨hab.1, hab.2.1, by omega⟩
  obtain ⟨r1, e2, e3⟩ := c_Rf_up hZ hg (a := a) (b := b) (v := v) ⟨hab.1, hab.2.1, by omega⟩
  rw [show 288 * r.1 0 8 = 0 by rw [hsh]; rfl, show 12 * r.1 0 8 = 0 by rw [hsh]; rfl] at e3
  refine ⟨_, _, _, e1, e2, e3, ?_⟩
  have hC : zRC (s.2 3) (r.2 1) 0 := hp.1
  have k1 := h.c0 (hC.up ⟨hab.1, hab.2.1, by omega⟩) (zOut.up ⟨hab.1, hab.2.1, by omega⟩) (hk.up hab z1.2 ⟨by omega, z2.2⟩)
  have k2 := k1.1.g0 (F := zUg (s.2 4) 0 a b) (F' := zUg (r.2 2) 0 a b) (fun i x y => by
      have := hp.2.1 i x y
      have := hp.2.1 (i + 1)
      unfold zUg
      grind) (fun i x => by unfold zUg; rw [if_neg (by omega), if_neg (by omega)]; rfl) (fun i => by
      have := hp.2.2.1 i
      have := hp.2.2.1 (i + 1)
      unfold zUg
      grind) (fun i => by
      have := hg i
      have := hg (i + 1)
      unfold zUg
      grind) (fun k y z => by
      have := hp.2.2.2.2.2 k y z
      have y' : r.1 0 1 ≤ k := y
      unfold zUg
      grind)
  have k3 := k1.trans k2
  unfold uB
  rw [zpb_uA _ _ _ _ _ _ (by omega), zpb_uA _ _ _ _ _ _ (by omega), zpb_same]
  exact k3
theorem P0_dn {s r : zSt} (h : zRel s r) (hsh : r.1 0 8 = 0) {a b : Int} (hab : 0 ≤ a ∧ a ≤ b ∧ b < r.1 0 1) :
    ∃ p1 r1 r2, f_Pi_moveDown a b (zsb (zsh 2) s) = some (0, p1) ∧ zloop (f_Rf_scrollsDown_l2 a b) zfu (b, r) = some r1 ∧ f_Rf_emptiesRow a r1 = some (0, r2) ∧ r2.1 = r.1 ∧ zPo s r (zpb (zsh 2) 3 s p1) (uE r2 2 (zGo r b) 0) := by
  have hZ := h.2.1.1
  have hp := h.2.2.1
  have hg := h.2.1.2.1
  have z1 := hZ.2.1
  have z2 := hZ.2.2.1
  have hk := h.2.1.2.2.2.2.2.2.1.1
  have e1 := c_Pi_moveDown h.pw0 (a := a) (b := b) ⟨hab.1, hab.2.1, by omega⟩
  obtain ⟨r1, r2, e2, e3, e4, e5⟩ := c_Rf_dn hZ hg (a := a) (b := b) ⟨hab.1, hab.2.1, by omega⟩
  rw [show 288 * r.1 0 8 = 0 by rw [hsh]; rfl, show 12 * r.1 0 8 = 0 by rw [hsh]; rfl] at e5
  refine ⟨_, _, _, e1, e2, e3, e4, ?_⟩
  rw [e5]
  have hC : zRC (s.2 3) (r.2 1) 0 := hp.1
  have k1 := h.c0 (hC.dn ⟨hab.1, hab.2.1, by omega⟩) (zOut.dn ⟨hab.1, hab.2.1, by omega⟩) (hk.dn hab z1.2 ⟨by omega, z2.2⟩)
  have k2 := k1.1.g0 (F := zDg (s.2 4) 0 a b) (F' := zDg (r.2 2) 0 a b) (fun i x y => by
      have := hp.2.1 i x y
      have := hp.2.1 (i - 1)
      unfold zDg
      grind) (fun i x => by unfold zDg; rw [if_neg (by omega), if_neg (by omega)]; rfl) (fun i => by
      have := hp.2.2.1 i
      have := hp.2.2.1 (i - 1)
      unfold zDg
      grind) (fun i => by
      have := hg i
      have := hg (i - 1)
      unfold zDg
      grind) (fun k y z => by
      have := hp.2.2.2.2.2 k y z
      have y' : r.1 0 1 ≤ k := y
      unfold zDg
      grind)
  have k3 := k1.trans k2
  unfold uB
  rw [zpb_uA _ _ _ _ _ _ (by omega), zpb_uA _ _ _ _ _ _ (by omega), zpb_same]
  exact k3
/-! picture 1 -/
theorem zRel.pw1 {s r : zSt} (h : zRel s r) : zPW (zsb (zsh 22) s) := by
  obtain ⟨hL, hI, h0, h1, -⟩ := h
  exact ⟨hL.2.1.2.2.2.2.1, hL.2.1.2.2.2.2.2.1, by show 2 ≤ s.1 22 2 ∧ s.1 22 2 ≤ 12; rw [h1.2.2.2.1]; exact hI.1.2.1, by show 4 ≤ s.1 22 3 ∧ s.1 22 3 ≤ 24; rw [h1.2.2.2.2.1]; exact hI.1.2.2.1, h1.2.2.1⟩
theorem zRel.c1 {s r : zSt} (h : zRel s r) {F F' : Int → Int} (h1 : zRC F F' 288) (h2 : zOut (r.2 1) F' 288) (h3 : zKwf F' 288 (r.1 0 1) (r.1 0 2)) : zPo s r (uA s 23 F) (uA r 1 F') := by
  obtain ⟨hL, ⟨hZ, hg, hs, hm, hv, hr, hk, hh⟩, p0, p1, xh, xu, xm, xv, xz, xt, xr⟩ := h
  refine ⟨⟨hL, ⟨hZ, hg, hs, hm, hv, hr, ⟨⟨fun q a b => (hk.1.1 q a b).cg (fun c x y => h2 _ (by omega)) ⟨by have := hZ.2.2.1; omega, hZ.2.2.1.2⟩, fun i a b => by show F' i = 0; rw [h2 i (by omega)]; exact hk.1.2 i a b⟩, h3⟩, hh⟩, ⟨p0.1.ot h2 (by decide), p0.2⟩, ⟨h1, p1.2⟩, xh, xu, xm, xv, xz, xt, xr⟩, rfl, rfl, fun i hi => uA_a (by omega)⟩
theorem zRel.g1 {s r : zSt} (h : zRel s r) {F F' : Int → Int} (h1 : ∀ i, 0 ≤ i → i < 12 → F i = F' (12 + i)) (h2 : ∀ i, i < 12 ∨ 12 + 12 ≤ i → F' i = r.2 2 i) (h3 : ∀ i, F i = 0 ∨ F i = 1) (h4 : ∀ i, F' i = 0 ∨ F' i = 1) (h5 : ∀ k, r.1 0 1 ≤ k → k < 12 → F k = 0) : zPo s r (uA s 24 F) (uA r 2 F') := by
  obtain ⟨hL, ⟨hZ, hg, hs, hm, hv, hr, hk, hh⟩, p0, p1, xh, xu, xm, xv, xz, xt, xr⟩ := h
  refine ⟨⟨hL, ⟨hZ, h4, hs, hm, hv, hr, hk, hh⟩, ⟨p0.1, fun i a b => by show s.2 4 i = F' (0 + i); rw [h2 _ (by omega)]; exact p0.2.1 i a b, p0.2.2⟩, ⟨p1.1, h1, h3, p1.2.2.2.1, p1.2.2.2.2.1, h5⟩, xh, xu, xm, xv, xz, xt, xr⟩, rfl, rfl, fun i hi => uA_a (by omega)⟩
theorem zRel.nt1 {s r : zSt} (h : zRel s r) {a : Int} (ha : 0 ≤ a ∧ a < r.1 0 1) : zNT (s.2 23) (a * 24) (r.1 0 2) := by
  obtain ⟨hL, ⟨hZ, hg, hs, hm, hv, hr, hk, hh⟩, p0, p1, -⟩ := h
  have e := (hk.2.1 a ha.1 (by have := hZ.2.1; omega)).nt (by have := hZ.2.2.1; omega)
  have q := p1.1
  have z := hZ.2.1
  have z2 := hZ.2.2.1
  refine ⟨?_, fun c x y => ?_⟩
  · rw [q (a * 24) (by omega) (by omega)]
    exact e.1
  · rw [q (a * 24 + c) (by omega) (by omega), ← Int.add_assoc]
    exact e.2 c x y
theorem P1_erase {s r : zSt} (h : zRel s r) (hsh : r.1 0 8 = 1) {a x y : Int} (ha : 0 ≤ a ∧ a < r.1 0 1) (hx : 0 ≤ x ∧ x ≤ r.1 0 2) (hy : x ≤ y ∧ y < 100000) :
    ∃ p1 r1, f_Pi_erase a x y (zsb (zsh 22) s) = some (0, p1) ∧ f_Rf_erases a x (if r.1 0 2 < y then r.1 0 2 else y) r = some (0, r1) ∧ zPo s r (zpb (zsh 22) 3 s p1) r1 := by
  have hZ := h.2.1.1
  have hp := h.2.2.2.1
  have e := c_Pi_erase (p := zsb (zsh 22) s) h.pw1 (r := a) (a := x) (b := y) (by show 0 ≤ a ∧ a < s.1 22 2; rw [hp.2.2.2.1]; exact ha) (by show 0 ≤ x ∧ x ≤ s.1 22 3; rw [hp.2.2.2.2.1]; exact hx) hy (by show zNT (s.2 23) (a * 24) (s.1 22 3); rw [hp.2.2.2.2.1]; exact h.nt1 ha)
  have z1 := hZ.2.1
  have z2 := hZ.2.2.1
  have hy2 : x ≤ (if r.1 0 2 < y then r.1 0 2 else y) ∧ (if r.1 0 2 < y then r.1 0 2 else y) ≤ r.1 0 2 := by split <;> omega
  have e2 := c_Rf_erases (s := r) hZ (r := a) (a := x) (b := if r.1 0 2 < y then r.1 0 2 else y) ⟨ha.1, by omega⟩ hx hy2
  rw [show zRo r a = 288 + a * 24 by unfold zRo; rw [hsh]; rfl] at e2
  have e3 : (zsb (zsh 22) s).1 0 3 = r.1 0 2 := hp.2.2.2.2.1
  rw [e3] at e
  refine ⟨_, _, e, e2, ?_⟩
  rw [zpb_uA _ _ _ _ _ _ (by omega), zpb_same]
  exact h.c1 (hp.1.er ⟨ha.1, by omega⟩ hx.1 (by omega) z2.2) (zOut.er ⟨ha.1, by omega⟩ hx.1 hy2.2 z2.2) ((h.2.1.2.2.2.2.2.2.1.2).er ha z1.2 ⟨by omega, z2.2⟩ ⟨hx.1, hy2.1⟩ hy2.2)
theorem P1_insert {s r : zSt} (h : zRel s r) (hsh : r.1 0 8 = 1) {a x k : Int} (ha : 0 ≤ a ∧ a < r.1 0 1) (hx : 0 ≤ x ∧ x < r.1 0 2) (hk : 1 ≤ k ∧ k < 90000) :
    ∃ p1 r1, f_Pi_insert a x k (zsb (zsh 22) s) = some (0, p1) ∧ f_Rf_movesRight a x k r = some (0, r1) ∧ zPo s r (zpb (zsh 22) 3 s p1) r1 := by
  have hZ := h.2.1.1
  have hp := h.2.2.2.1
  have e := c_Pi_insert (p := zsb (zsh 22) s) h.pw1 (r := a) (a := x) (k := k) (by show 0 ≤ a ∧ a < s.1 22 2; rw [hp.2.2.2.1]; exact ha) (by show 0 ≤ x ∧ x < s.1 22 3; rw [hp.2.2.2.2.1]; exact hx) ⟨hk.1, by omega⟩ (by show zNT (s.2 23) (a * 24) (s.1 22 3); rw [hp.2.2.2.2.1]; exact h.nt1 ha)
  have z1 := hZ.2.1
  have z2 := hZ.2.2.1
  have e2 := c_Rf_movesRight (s := r) hZ (r := a) (a := x) (k := k) ⟨ha.1, by omega⟩ hx ⟨hk.1, by omega⟩
  rw [show zRo r a = 288 + a * 24 by unfold zRo; rw [hsh]; rfl] at e2
  have e3 : (zsb (zsh 22) s).1 0 3 = r.1 0 2 := hp.2.2.2.2.1
  rw [e3] at e
  have hm : 1 ≤ (if k < r.1 0 2 - x then k else r.1 0 2 - x) ∧ (if k < r.1 0 2 - x then k else r.1 0 2 - x) ≤ r.1 0 2 - x := by split <;> omega
  refine ⟨_, _, e, e2, ?_⟩
  rw [zpb_uA _ _ _ _ _ _ (by omega), zpb_same]
  exact h.c1 (hp.1.ins ⟨ha.1, by omega⟩ hx hm z2.2) (zOut.ins ⟨ha.1, by omega⟩ hx.1 z2.2) ((h.2.1.2.2.2.2.2.2.1.2).ins ha z1.2 ⟨by omega, z2.2⟩ hx hm)
theorem P1_delete {s r : zSt} (h : zRel s r) (hsh : r.1 0 8 = 1) {a x k : Int} (ha : 0 ≤ a ∧ a < r.1 0 1) (hx : 0 ≤ x ∧ x < r.1 0 2) (hk : 1 ≤ k ∧ k < 90000) :
    ∃ p1 r1, f_Pi_delete a x k (zsb (zsh 22) s) = some (0, p1) ∧ f_Rf_movesLeft a x k r = some (0, r1) ∧ zPo s r (zpb (zsh 22) 3 s p1) r1 := by
  have hZ := h.2.1.1
  have hp := h.2.2.2.1
  have e := c_Pi_delete (p := zsb (zsh 22) s) h.pw1 (r := a) (a := x) (k := k) (by show 0 ≤ a ∧ a < s.1 22 2; rw [hp.2.2.2.1]; exact ha) (by show 0 ≤ x ∧ x < s.1 22 3; rw [hp.2.2.2.2.1]; exact hx) hk (by show zNT (s.2 23) (a * 24) (s.1 22 3); rw [hp.2.2.2.2.1]; exact h.nt1 ha)
  have z1 := hZ.2.1
  have z2 := hZ.2.2.1
  have e2 := c_Rf_movesLeft (s := r) hZ (r := a) (a := x) (k := k) ⟨ha.1, by omega⟩ hx ⟨hk.1, by omega⟩
  rw [show zRo r a = 288 + a * 24 by unfold zRo; rw [hsh]; rfl] at e2
  have e3 : (zsb (zsh 22) s).1 0 3 = r.1 0 2 := hp.2.2.2.2.1
  rw [e3] at e
  have hm : 1 ≤ (if k < r.1 0 2 - x then k else r.1 0 2 - x) ∧ (if k < r.1 0 2 - x then k else r.1 0 2 - x) ≤ r.1 0 2 - x := by split <;> omega
  refine ⟨_, _, e, e2, ?_⟩
  rw [zpb_uA _ _ _ _ _ _ (by omega), zpb_same]
  exact h.c1 (hp.1.del ⟨ha.1, by omega⟩ hx hm z2.2) (zOut.del ⟨ha.1, by omega⟩ hx.1 z2.2) ((h.2.1.2.2.2.2.2.2.1.2).del ha z1.2 ⟨by omega, z2.2⟩ hx hm)
theorem P1_sign1 {s r : zSt} (h : zRel s r) (hsh : r.1 0 8 = 1) {a c v : Int} (ha : 0 ≤ a ∧ a < r.1 0 1) (hc : 0 ≤ c ∧ c < r.1 0 2) (hv : zVl v ∧ v ≠ -2 ∧ ¬ zWd v) :
    ∃ p1 p2 r1 r2, f_Pi_erase a c (c + 1) (zsb (zsh 22) s) = some (0, p1) ∧ f_Pi_put a c v (zsb (zsh 22) (zpb (zsh 22) 3 s p1)) = some (0, p2) ∧ f_Rf_parts a c r = some (0, r1) ∧ f_Rf_parts a (c + 1) r1 = some (0, r2) ∧ r2.1 = r.1 ∧
      zPo s r (zpb (zsh 22) 3 (zpb (zsh 22) 3 s p1) p2) (uE r2 1 (zRo r a + c) v) := by
  have hZ := h.2.1.1
  have hp := h.2.2.2.1
  have z1 := hZ.2.1
  have z2 := hZ.2.2.1
  obtain ⟨p1, r1, e1, e2, e3⟩ := P1_erase h hsh ha (x := c) (y := c + 1) (by omega) (by omega)
  have hL := e3.1
  have hs1 := e3.2.1
  have hk := hL.2.1.2.2.2.2.2.2.1.2
  rw [e3.2.2.1] at hk
  have q1 := c_Rf_parts (s := r) hZ (r := a) (c := c) ⟨ha.1, by omega⟩ (by omega)
  have q2 := c_Rf_parts (s := uA r 1 (zPt (r.2 1) (zRo r a) c (r.1 0 2))) (hZ.uA _ _) (r := a) (c := c + 1) ⟨ha.1, by omega⟩ (by omega)
  have q3 := c_Rf_erases (s := r) hZ (r := a) (a := c) (b := if r.1 0 2 < c + 1 then r.1 0 2 else c + 1) ⟨ha.1, by omega⟩ (by omega) (by omega)
  rw [e2] at q3
  have er := (Prod.mk.inj (Option.some.inj q3)).2
  rw [if_neg (by omega)] at er
  have ec := c_put (p := zsb (zsh 22) (zpb (zsh 22) 3 s p1)) hL.pw1 (r := a) (c := c) (v := v) (by show 0 ≤ a ∧ a < (zpb (zsh 22) 3 s p1).1 22 2; rw [hs1, hp.2.2.2.1]; exact ha) (by show 0 ≤ c ∧ c < (zpb (zsh 22) 3 s p1).1 22 3; rw [hs1, hp.2.2.2.2.1]; exact hc)
  refine ⟨p1, _, _, _, e1, ec, q1, q2, rfl, e3.trans ?_⟩
  have ezo : zRo r a = 288 + a * 24 := by unfold zRo; rw [hsh]; rfl
  have e0 : r1.2 1 (288 + a * 24 + c) = 0 := by
    rw [er, uA2, if_pos rfl, ezo]
    unfold zEr zFl
    rw [if_pos (by omega)]
  have er2 : uE (uA (uA r 1 (zPt (r.2 1) (zRo r a) c (r.1 0 2))) 1 (zPt ((uA r 1 (zPt (r.2 1) (zRo r a) c (r.1 0 2))).2 1) (zRo (uA r 1 (zPt (r.2 1) (zRo r a) c (r.1 0 2))) a) (c + 1) ((uA r 1 (zPt (r.2 1) (zRo r a) c (r.1 0 2))).1 0 2))) 1 (zRo r a + c) v = uA r1 1 (zup (r1.2 1) (288 + a * 24 + c) v) := by
    rw [er]
    unfold uE
    simp only [uA_uA, uA2, if_true, uA1, zRo_uA]
    refine uA_cg (fun i => ?_)
    rw [ezo]
    unfold zup zEr zFl
    grind
  rw [er2]
  unfold uE
  rw [zpb_uA _ _ _ _ _ _ (by omega), zpb_same]
  have hrow := hk.1 a ha.1 (by omega)
  have hC : zRC ((zpb (zsh 22) 3 s p1).2 23) (r1.2 1) 288 := hL.2.2.2.1.1
  refine hL.c1 (F := zup ((zpb (zsh 22) 3 s p1).2 23) (a * 24 + c) v) ?_ ?_ ?_
  · intro i x y
    have := hC i x y
    unfold zup
    grind
  · intro i x
    unfold zup
    rw [if_neg (by omega)]
  · rw [e3.2.2.1]
    exact hk.row ha z1.2 ⟨by omega, z2.2⟩ (hrow.put1 hc e0 hv) (fun i x => by unfold zup; rw [if_neg (by omega)])
theorem P1_sign2 {s r : zSt} (h : zRel s r) (hsh : r.1 0 8 = 1) {a c v : Int} (ha : 0 ≤ a ∧ a < r.1 0 1) (hc : 0 ≤ c ∧ c + 1 < r.1 0 2) (hv : zVl v ∧ v ≠ -2 ∧ zWd v) :
    ∃ p1 p2 p3 r1 r2, f_Pi_erase a c (c + 2) (zsb (zsh 22) s) = some (0, p1) ∧ f_Pi_put a c v (zsb (zsh 22) (zpb (zsh 22) 3 s p1)) = some (0, p2) ∧ f_Pi_put a (c + 1) (-2) (zsb (zsh 22) (zpb (zsh 22) 3 (zpb (zsh 22) 3 s p1) p2)) = some (0, p3) ∧ f_Rf_parts a c r = some (0, r1) ∧ f_Rf_parts a (c + 2) r1 = some (0, r2) ∧ r2.1 = r.1 ∧ (zpb (zsh 22) 3 (zpb (zsh 22) 3 s p1) p2).1 = s.1 ∧
      zPo s r (zpb (zsh 22) 3 (zpb (zsh 22) 3 (zpb (zsh 22) 3 s p1) p2) p3) (uE (uE r2 1 (zRo r a + c) v) 1 (zRo r a + (c + 1)) (-2)) := by
  have hZ := h.2.1.1
  have hp := h.2.2.2.1
  have z1 := hZ.2.1
  have z2 := hZ.2.2.1
  obtain ⟨p1, r1, e1, e2, e3⟩ := P1_erase h hsh ha (x := c) (y := c + 2) (by omega) (by omega)
  have hL := e3.1
  have hs1 := e3.2.1
  have hk := hL.2.1.2.2.2.2.2.2.1.2
  rw [e3.2.2.1] at hk
  have q1 := c_Rf_parts (s := r) hZ (r := a) (c := c) ⟨ha.1, by omega⟩ (by omega)
  have q2 := c_Rf_parts (s := uA r 1 (zPt (r.2 1) (zRo r a) c (r.1 0 2))) (hZ.uA _ _) (r := a) (c := c + 2) ⟨ha.1, by omega⟩ (by omega)
  have q3 := c_Rf_erases (s := r) hZ (r := a) (a := c) (b := if r.1 0 2 < c + 2 then r.1 0 2 else c + 2) ⟨ha.1, by omega⟩ (by omega) (by omega)
  rw [e2] at q3
  have er := (Prod.mk.inj (Option.some.inj q3)).2
  rw [if_neg (by omega)] at er
  have ec := c_put (p := zsb (zsh 22) (zpb (zsh 22) 3 s p1)) hL.pw1 (r := a) (c := c) (v := v) (by show 0 ≤ a ∧ a < (zpb (zsh 22) 3 s p1).1 22 2; rw [hs1, hp.2.2.2.1]; exact ha) (by show 0 ≤ c ∧ c < (zpb (zsh 22) 3 s p1).1 22 3; rw [hs1, hp.2.2.2.2.1]; omega)
  have hb : zpb (zsh 22) 3 (zpb (zsh 22) 3 s p1) (uE (zsb (zsh 22) (zpb (zsh 22) 3 s p1)) 1 (a * 24 + c) v) = uA (zpb (zsh 22) 3 s p1) 23 (zup ((zpb (zsh 22) 3 s p1).2 23) (a * 24 + c) v) := by
    unfold uE
    rw [zpb_uA _ _ _ _ _ _ (by omega), zpb_same]
    rfl
  have hw2 : zPW (zsb (zsh 22) (uA (zpb (zsh 22) 3 s p1) 23 (zup ((zpb (zsh 22) 3 s p1).2 23) (a * 24 + c) v))) := hL.pw1
  have ed := c_put hw2 (r := a) (c := c + 1) (v := -2) (by show 0 ≤ a ∧ a < (zpb (zsh 22) 3 s p1).1 22 2; rw [hs1, hp.2.2.2.1]; exact ha) (by show 0 ≤ c + 1 ∧ c + 1 < (zpb (zsh 22) 3 s p1).1 22 3; rw [hs1, hp.2.2.2.2.1]; omega)
  refine ⟨p1, _, _, _, _, e1, ec, by rw [hb]; exact ed, q1, q2, rfl, by rw [hb]; exact hs1, e3.trans ?_⟩
  rw [hb]
  have ezo : zRo r a = 288 + a * 24 := by unfold zRo; rw [hsh]; rfl
  have e0 : r1.2 1 (288 + a * 24 + c) = 0 := by
    rw [er, uA2, if_pos rfl, ezo]
    unfold zEr zFl
    rw [if_pos (by omega)]
  have e01 : r1.2 1 (288 + a * 24 + (c + 1)) = 0 := by
    rw [er, uA2, if_pos rfl, ezo]
    unfold zEr zFl
    rw [if_pos (by omega)]
  have er2 : uE (uE (uA (uA r 1 (zPt (r.2 1) (zRo r a) c (r.1 0 2))) 1 (zPt ((uA r 1 (zPt (r.2 1) (zRo r a) c (r.1 0 2))).2 1) (zRo (uA r 1 (zPt (r.2 1) (zRo r a) c (r.1 0 2))) a) (c + 2) ((uA r 1 (zPt (r.2 1) (zRo r a) c (r.1 0 2))).1 0 2))) 1 (zRo r a + c) v) 1 (zRo r a + (c + 1)) (-2) = uA r1 1 (zup (zup (r1.2 1) (288 + a * 24 + c) v) (288 + a * 24 + (c + 1)) (-2)) := by
    rw [er]
    unfold uE
    simp only [uA_uA, uA2, if_true, uA1, zRo_uA]
    refine uA_cg (fun i => ?_)
    rw [ezo]
    unfold zup zEr zFl
    grind
  rw [er2]
  unfold uE
  rw [zpb_uA _ _ _ _ _ _ (by omega), zpb_same, uA_uA]
  have hrow := hk.1 a ha.1 (by omega)
  have hC : zRC ((zpb (zsh 22) 3 s p1).2 23) (r1.2 1) 288 := hL.2.2.2.1.1
  refine hL.c1 (F := zup (zup ((zpb (zsh 22) 3 s p1).2 23) (a * 24 + c) v) (a * 24 + (c + 1)) (-2)) ?_ ?_ ?_
  · intro i x y
    have := hC i x y
    unfold zup
    grind
  · intro i x
    unfold zup
    rw [if_neg (by omega), if_neg (by omega)]
  · rw [e3.2.2.1]
    exact hk.row ha z1.2 ⟨by omega, z2.2⟩ (hrow.put2 hc e0 e01 hv) (fun i x => by unfold zup; rw [if_neg (by omega), if_neg (by omega)])
theorem P1_mark {s r : zSt} (h : zRel s r) (hsh : r.1 0 8 = 1) {a c : Int} (ha : 0 ≤ a ∧ a < r.1 0 1) (hc : 0 ≤ c ∧ c < r.1 0 2) (hv : 0 < r.2 1 (zRo r a + c) ∧ r.2 1 (zRo r a + c) < 300000) :
    ∃ p1, f_Pi_put a c (r.2 1 (zRo r a + c) + 100000) (zsb (zsh 22) s) = some (0, p1) ∧ zPo s r (zpb (zsh 22) 3 s p1) (uE r 1 (zRo r a + c) (r.2 1 (zRo r a + c) + 100000)) := by
  have hZ := h.2.1.1
  have hp := h.2.2.2.1
  have z1 := hZ.2.1
  have z2 := hZ.2.2.1
  have hk := h.2.1.2.2.2.2.2.2.1.2
  have ec := c_put (p := zsb (zsh 22) s) h.pw1 (r := a) (c := c) (v := r.2 1 (zRo r a + c) + 100000) (by show 0 ≤ a ∧ a < s.1 22 2; rw [hp.2.2.2.1]; exact ha) (by show 0 ≤ c ∧ c < s.1 22 3; rw [hp.2.2.2.2.1]; exact hc)
  refine ⟨_, ec, ?_⟩
  have ezo : zRo r a = 288 + a * 24 := by unfold zRo; rw [hsh]; rfl
  rw [ezo] at hv ⊢
  unfold uE
  rw [zpb_uA _ _ _ _ _ _ (by omega), zpb_same]
  have hC : zRC (s.2 23) (r.2 1) 288 := hp.1
  refine h.c1 (F := zup (s.2 23) (a * 24 + c) (r.2 1 (288 + a * 24 + c) + 100000)) ?_ ?_ ?_
  · intro i x y
    have := hC i x y
    unfold zup
    grind
  · intro i x
    unfold zup
    rw [if_neg (by omega)]
  · exact hk.row ha z1.2 ⟨by omega, z2.2⟩ ((hk.1 a ha.1 (by omega)).mark hc hv) (fun i x => by unfold zup; rw [if_neg (by omega)])
theorem P1_going {s r : zSt} (h : zRel s r) (hsh : r.1 0 8 = 1) {a v : Int} (ha : 0 ≤ a ∧ a < 12) (hv : v = 0 ∨ (v = 1 ∧ a < r.1 0 1)) :
    ∃ p1, f_Pi_setGoing a v (zsb (zsh 22) s) = some (0, p1) ∧ zPo s r (zpb (zsh 22) 3 s p1) (uE r 2 (zGo r a) v) := by
  have hp := h.2.2.2.1
  have hg := h.2.1.2.1
  have hv' : v = 0 ∨ v = 1 := hv.imp id And.left
  have ezo : zGo r a = 12 + a := by unfold zGo; rw [hsh]; rfl
  refine ⟨uE (zsb (zsh 22) s) 2 a v, ?_, ?_⟩
  · unfold f_Pi_setGoing
    refine iteF (by omega) (iteF (by omega) (iteT ⟨⟨ha.1, ?_⟩, hv'⟩ rfl))
    have := h.pw1.2.1
    omega
  · unfold uE
    rw [zpb_uA _ _ _ _ _ _ (by omega), zpb_same, ezo]
    refine h.g1 (F := zup (s.2 24) a v) (fun i x y => ?_) (fun i x => ?_) (fun i => ?_) (fun i => ?_) (fun k y z => ?_)
    · have := hp.2.1 i x y
      unfold zup
      grind
    · unfold zup
      rw [if_neg (by omega)]
    · have := hp.2.2.1 i
      unfold zup
      grind
    · have := hg i
      unfold zup
      grind
    · have := hp.2.2.2.2.2 k y z
      unfold zup
      grind
theorem P1_clearRow {s r : zSt} (h : zRel s r) (hsh : r.1 0 8 = 1) {a : Int} (ha : 0 ≤ a ∧ a < r.1 0 1) :
    ∃ p1 r1, f_Pi_clearRow a (zsb (zsh 22) s) = some (0, p1) ∧ f_Rf_emptiesRow a r = some (0, r1) ∧ zPo s r (zpb (zsh 22) 3 s p1) r1 := by
  have hZ := h.2.1.1
  have hp := h.2.2.2.1
  have hg := h.2.1.2.1
  have z1 := hZ.2.1
  have z2 := hZ.2.2.1
  have hk := h.2.1.2.2.2.2.2.2.1.2
  have e1 := c_Pi_clearRow h.pw1 (r := a) ⟨ha.1, by omega⟩
  have e2 := c_Rf_emptiesRow hZ (a := a) ⟨ha.1, by omega⟩
  rw [show zRo r a = 288 + a * 24 by unfold zRo; rw [hsh]; rfl, show zGo r a = 12 + a by unfold zGo; rw [hsh]; rfl] at e2
  refine ⟨_, _, e1, e2, ?_⟩
  have hC : zRC (s.2 23) (r.2 1) 288 := hp.1
  have k1 := h.c1 (F := zFl (s.2 23) (a * 24) (a * 24 + 24) 0) (F' := zFl (r.2 1) (288 + a * 24) (288 + a * 24 + 24) 0) (by
    have := hC.fl (lo := a * 24) (hi := a * 24 + 24) (v := 0)
    rw [← Int.add_assoc] at this
    exact this) (fun i x => by unfold zFl; rw [if_neg (by omega)]) (hk.row ha z1.2 ⟨by omega, z2.2⟩ (zRwf_0 (fun c x y => by unfold zFl; rw [if_pos (by omega)]) ⟨by omega, z2.2⟩) (fun i x => by unfold zFl; rw [if_neg (by omega)]))
  have k2 := k1.1.g1 (F := zup (s.2 24) a 0) (F' := zup (r.2 2) (12 + a) 0) (fun i x y => by
      have := hp.2.1 i x y
      unfold zup
      grind) (fun i x => by unfold zup; rw [if_neg (by omega)]; rfl) (fun i => by
      have := hp.2.2.1 i
      unfold zup
      grind) (fun i => by
      have := hg i
      unfold zup
      grind) (fun k y z => by
      have := hp.2.2.2.2.2 k y z
      have y' : r.1 0 1 ≤ k := y
      unfold zup
      grind)
  have k3 := k1.trans k2
  unfold uB
  rw [zpb_uA _ _ _ _ _ _ (by omega), zpb_uA _ _ _ _ _ _ (by omega), zpb_same]
  exact k3
theorem P1_up {s r : zSt} (h : zRel s r) (hsh : r.1 0 8 = 1) {a b v : Int} (hab : 0 ≤ a ∧ a ≤ b ∧ b < r.1 0 1) :
    ∃ p1 r1 r2, f_Pi_moveUp a b (zsb (zsh 22) s) = some (0, p1) ∧ zloop (f_Rf_scrollsUp_l34 a b v) zfu (a, r) = some r1 ∧ f_Rf_emptiesRow b r1 = some (0, r2) ∧ zPo s r (zpb (zsh 22) 3 s p1) r2 := by
  have hZ := h.2.1.1
  have hp := h.2.2.2.1
  have hg := h.2.1.2.1
  have z1 := hZ.2.1
  have z2 := hZ.2.2.1
  have hk := h.2.1.2.2.2.2.2.2.1.2
  have e1 := c_Pi_moveUp h.pw1 (a := a) (b := b) ⟨hab.1, hab.2.1, by omega⟩
  obtain ⟨r1, e2, e3⟩ := c_Rf_up hZ hg (a := a) (b := b) (v := v) ⟨hab.1, hab.2.1, by omega⟩
  rw [show 288 * r.1 0 8 = 288 by rw [hsh]; rfl, show 12 * r.1 0 8 = 12 by rw [hsh]; rfl] at e3
  refine ⟨_, _, _, e1, e2, e3, ?_⟩
  have hC : zRC (s.2 23) (r.2 1) 288 := hp.1
  have k1 := h.c1 (hC.up ⟨hab.1, hab.2.1, by omega⟩) (zOut.up ⟨hab.1, hab.2.1, by omega⟩) (hk.up hab z1.2 ⟨by omega, z2.2⟩)
  have k2 := k1.1.g1 (F := zUg (s.2 24) 0 a b) (F' := zUg (r.2 2) 12 a b) (fun i x y => by
      have := hp.2.1 i x y
      have := hp.2.1 (i + 1)
      unfold zUg
      grind) (fun i x => by unfold zUg; rw [if_neg (by omega), if_neg (by omega)]; rfl) (fun i => by
      have := hp.2.2.1 i
      have := hp.2.2.1 (i + 1)
      unfold zUg
      grind) (fun i => by
      have := hg i
      have := hg (i + 1)
      unfold zUg
      grind) (fun k y z => by
      have := hp.2.2.2.2.2 k y z
      have y' : r.1 0 1 ≤ k := y
      unfold zUg
      grind)
  have k3 := k1.trans k2
  unfold uB
  rw [zpb_uA _ _ _ _ _ _ (by omega), zpb_uA _ _ _ _ _ _ (by omega), zpb_same]
  exact k3
theorem P1_dn {s r : zSt} (h : zRel s r) (hsh : r.1 0 8 = 1) {a b : Int} (hab : 0 ≤ a ∧ a ≤ b ∧ b < r.1 0 1) :
    ∃ p1 r1 r2, f_Pi_moveDown a b (zsb (zsh 22) s) = some (0, p1) ∧ zloop (f_Rf_scrollsDown_l2 a b) zfu (b, r) = some r1 ∧ f_Rf_emptiesRow a r1 = some (0, r2) ∧ r2.1 = r.1 ∧ zPo s r (zpb (zsh 22) 3 s p1) (uE r2 2 (zGo r b) 0) := by
  have hZ := h.2.1.1
  have hp := h.2.2.2.1
  have hg := h.2.1.2.1
  have z1 := hZ.2.1
  have z2 := hZ.2.2.1
  have hk := h.2.1.2.2.2.2.2.2.1.2
  have e1 := c_Pi_moveDown h.pw1 (a := a) (b := b) ⟨hab.1, hab.2.1, by omega⟩
  obtain ⟨r1, r2, e2, e3, e4, e5⟩ := c_Rf_dn hZ hg (a := a) (b := b) ⟨hab.1, hab.2.1, by omega⟩
  rw [show 288 * r.1 0 8 = 288 by rw [hsh]; rfl, show 12 * r.1 0 8 = 12 by rw [hsh]; rfl] at e5
  refine ⟨_, _, _, e1, e2, e3, e4, ?_⟩
  rw [e5]
  have hC : zRC (s.2 23) (r.2 1) 288 := hp.1
  have k1 := h.c1 (hC.dn ⟨hab.1, hab.2.1, by omega⟩) (zOut.dn ⟨hab.1, hab.2.1, by omega⟩) (hk.dn hab z1.2 ⟨by omega, z2.2⟩)
  have k2 := k1.1.g1 (F := zDg (s.2 24) 0 a b) (F' := zDg (r.2 2) 12 a b) (fun i x y => by
      have := hp.2.1 i x y
      have := hp.2.1 (i - 1)
      unfold zDg
      grind) (fun i x => by unfold zDg; rw [if_neg (by omega), if_neg (by omega)]; rfl) (fun i => by
      have := hp.2.2.1 i
      have := hp.2.2.1 (i - 1)
      unfold zDg
      grind) (fun i => by
      have := hg i
      have := hg (i - 1)
      unfold zDg
      grind) (fun k y z => by
      have := hp.2.2.2.2.2 k y z
      have y' : r.1 0 1 ≤ k := y
      unfold zDg
      grind)
  have k3 := k1.trans k2
  unfold uB
  rw [zpb_uA _ _ _ _ _ _ (by omega), zpb_uA _ _ _ _ _ _ (by omega), zpb_same]
  exact k3
