/-! ===== scrolling many times ===== -/
/-- the reference's rows after one scroll -/
def zkp (r : zSt) : zSt := if r.1 0 7 = 40 then uS (uA (uA r 3 (zHp (zHs (r.2 3)) 39 (r.2 1) 24)) 4 (zup (zHg (r.2 4)) 39 (r.2 2 0))) 0 7 40 else uS (uA (uA r 3 (zHp (r.2 3) (r.1 0 7) (r.2 1) 24)) 4 (zup (r.2 4) (r.1 0 7) (r.2 2 0))) 0 7 (r.1 0 7 + 1)
def zstp (a : Int) (r : zSt) : zSt := if a ≤ 0 then (if ¬ r.1 0 8 = 0 then r else if r.1 0 7 ≤ 0 then r else uE r 4 (r.1 0 7 - 1) 0) else uE r 2 (12 * r.1 0 8 + a - 1) 0
theorem c_Rf_stops {r : zSt} (hZ : zRZ r) (hn : 0 ≤ r.1 0 7 ∧ r.1 0 7 ≤ 40) {a : Int} (ha : 0 ≤ a ∧ a < 12) : f_Rf_stopsAbove a r = some (0, zstp a r) := by
  have e4 : r.1 4 0 = 40 := hZ.1.2.2.2.1
  have e24 : r.1 2 0 = 24 := hZ.1.2.1
  have h8 := hZ.2.2.2
  unfold f_Rf_stopsAbove zstp
  grind [w32i]
def zup1 (r : zSt) (a b : Int) : zSt := uB r (zUp (r.2 1) (288 * r.1 0 8) a b) (zUg (r.2 2) (12 * r.1 0 8) a b)
def zdn1 (r : zSt) (a b : Int) : zSt := uB r (zDn (r.2 1) (288 * r.1 0 8) a b) (zDg (r.2 2) (12 * r.1 0 8) a b)
theorem c_Rf_scrollsUp {r : zSt} (hI : zRI r) {a b k : Int} (hab : 0 ≤ a ∧ a ≤ b ∧ b < r.1 0 1) :
    f_Rf_scrollsUp a b k r = some (0, if (if k = 0 then (0 : Int) else if ¬ a = 0 then 0 else if ¬ r.1 0 8 = 0 then 0 else 1) = 0 then zstp a (zup1 r a b) else zup1 (zkp r) a b) := by
  have hZ := hI.1
  have hg := hI.2.1
  have hn := hI.2.2.1.2.2.2.2.2
  have z1 := hZ.2.1
  unfold f_Rf_scrollsUp
  generalize hK : (if k = 0 then (0 : Int) else if ¬ a = 0 then 0 else if ¬ r.1 0 8 = 0 then 0 else 1) = K
  by_cases q : K = 0
  · refine iteT q ?_
    rw [if_pos q]
    obtain ⟨r1, e1, e2⟩ := c_Rf_up hZ hg (a := a) (b := b) (v := K) ⟨hab.1, hab.2.1, by omega⟩
    unfold f_Rf_scrollsUp_j31
    refine bindS e1 (bindS e2 (iteF (by omega) (bindS (x := (0, zstp a (zup1 r a b))) ?_ rfl)))
    exact c_Rf_stops (r := zup1 r a b) hZ hn ⟨hab.1, by omega⟩
  · refine iteF q ?_
    rw [if_neg q]
    have ek := c_Rf_keepsRow hZ.1 hn (hg 0) hI.2.2.2.2.2.2.2.1
    refine bindS ek ?_
    show f_Rf_scrollsUp_j31 a b K (zkp r) = _
    have hk1 : zRZ (zkp r) ∧ zGb (zkp r) := by
      unfold zkp
      split
      · exact ⟨hZ, hg⟩
      · exact ⟨hZ, hg⟩
    obtain ⟨r1, e1, e2⟩ := c_Rf_up hk1.1 hk1.2 (a := a) (b := b) (v := K) ⟨hab.1, hab.2.1, by omega⟩
    unfold f_Rf_scrollsUp_j31
    exact bindS e1 (bindS e2 (iteT q rfl))
theorem c_Rf_scrollsDown {r : zSt} (hI : zRI r) {a b : Int} (hab : 0 ≤ a ∧ a ≤ b ∧ b < r.1 0 1) : f_Rf_scrollsDown a b r = some (0, zstp a (zdn1 r a b)) := by
  have hZ := hI.1
  have hg := hI.2.1
  have hn := hI.2.2.1.2.2.2.2.2
  have z1 := hZ.2.1
  obtain ⟨r1, r2, e1, e2, e3, e4⟩ := c_Rf_dn hZ hg (a := a) (b := b) ⟨hab.1, hab.2.1, by omega⟩
  have ew : w32 (w32 (12 * r2.1 0 8) + b) = zGo r b := by
    rw [e3]
    exact zGo_w hZ (by omega)
  have hb := zGo_in hZ (r := b) (by omega)
  unfold f_Rf_scrollsDown
  refine bindS e1 (bindS e2 (iteT (by show 0 ≤ w32 (w32 (12 * r2.1 0 8) + b) ∧ w32 (w32 (12 * r2.1 0 8) + b) < r2.1 2 0; rw [ew, e3]; exact hb) (bindS (x := (0, zstp a (zdn1 r a b))) ?_ rfl)))
  show f_Rf_stopsAbove a (uE r2 2 (w32 (w32 (12 * r2.1 0 8) + b)) 0) = _
  rw [ew, e4]
  exact c_Rf_stops (r := zdn1 r a b) hZ hn ⟨hab.1, by omega⟩
/-- references that no screen tells apart -/
def zQv (r r' : zSt) : Prop := r'.1 = r.1 ∧ (∀ i, 0 ≤ i → i < 576 → r'.2 1 i = r.2 1 i) ∧ (∀ i, 0 ≤ i → i < 24 → r'.2 2 i = r.2 2 i) ∧ (∀ i, r'.2 2 i = 0 ∨ r'.2 2 i = 1) ∧ (∀ i, 0 ≤ i → i < 24 * r.1 0 7 → r'.2 3 i = r.2 3 i) ∧ (∀ i, 0 ≤ i → i < r.1 0 7 → r'.2 4 i = r.2 4 i) ∧ (∀ i, r'.2 4 i = 0 ∨ r'.2 4 i = 1) ∧ ∀ i, 5 ≤ i → r'.2 i = r.2 i
theorem zQv.rel {s r r' : zSt} (h : zRel s r) (e : zQv r r') : zRel s r' := by
  obtain ⟨hL, ⟨hZ, hg, hs, hm, hv, hr, hk, hh⟩, p0, p1, xh, xu, xm, xv, xz, xt, xr⟩ := h
  obtain ⟨e1, e2, e3, e4, e5, e6, e7, e8⟩ := e
  have z1 := hZ.2.1
  have z2 := hZ.2.2.1
  have e5' := e8 5 (by decide)
  have e6' := e8 6 (by decide)
  have e7' := e8 7 (by decide)
  refine ⟨hL, ⟨?_, e4, ?_, ?_, ?_, ?_, ⟨?_, ?_⟩, ⟨e7, ?_⟩⟩, ⟨?_, ?_, p0.2.2.1, ?_⟩, ⟨?_, ?_, p1.2.2.1, ?_⟩, ⟨?_, ?_, ?_, xh.2.2.2⟩, ?_, ?_, ?_, ?_, ?_, ?_⟩
  · unfold zRZ zRL; rw [e1]; exact hZ
  · unfold zRs; rw [e1]; exact hs
  · unfold zRm; rw [e1]; exact hm
  · unfold zRv; rw [e1]; exact hv
  · unfold zRr; rw [e1, e5']; exact hr
  · rw [e1]
    refine ⟨fun q a b => (hk.1.1 q a b).cg (fun c x y => e2 _ (by omega) (by omega)) ⟨by omega, z2.2⟩, fun i a b => ?_⟩
    rw [e2 i (by omega) (by omega)]
    exact hk.1.2 i a b
  · rw [e1]
    refine ⟨fun q a b => (hk.2.1 q a b).cg (fun c x y => e2 _ (by omega) (by omega)) ⟨by omega, z2.2⟩, fun i a b => ?_⟩
    rw [e2 i (by omega) (by omega)]
    exact hk.2.2 i a b
  · rw [e1]
    intro k a b
    exact (hh.2 k a b).cg (fun c x y => e5 _ (by omega) (by omega)) ⟨by omega, z2.2⟩
  · intro i a b
    rw [p0.1 i a b, e2 (0 + i) (by omega) (by omega)]
  · intro i a b
    rw [p0.2.1 i a b, e3 _ (by omega) (by omega)]
  · rw [e1]; exact p0.2.2.2
  · intro i a b
    rw [p1.1 i a b, e2 _ (by omega) (by omega)]
  · intro i a b
    rw [p1.2.1 i a b, e3 _ (by omega) (by omega)]
  · rw [e1]; exact p1.2.2.2
  · rw [e1]; exact xh.1
  · rw [e1]
    intro i a b
    rw [xh.2.1 i a b, e5 i a b]
  · rw [e1]
    intro i a b
    rw [xh.2.2.1 i a b, e6 i a b]
  · unfold zXu; rw [e1]; exact xu
  · unfold zXm; rw [e1]; exact xm
  · unfold zXv; rw [e1]; exact xv
  · unfold zXz; rw [e1]; exact xz
  · unfold zXt; rw [e1]; exact xt
  · unfold zXr; rw [e1, e5', e6', e7']; exact xr
/-! what is empty after j scrolls -/
def zEu (a b : Int) (K : Int) (j : Int) (r : zSt) : Prop :=
  (∀ i, 288 * r.1 0 8 + a * 24 ≤ i → i < 288 * r.1 0 8 + b * 24 + 24 → 288 * r.1 0 8 + (b + 1 - j) * 24 ≤ i → r.2 1 i = 0) ∧ (∀ q, a ≤ q → q ≤ b → b - j < q → r.2 2 (12 * r.1 0 8 + q) = 0) ∧
  (K = 0 → 1 ≤ j → zQv r (zstp a r)) ∧
  (K ≠ 0 → (j ≤ r.1 0 7 ∨ r.1 0 7 = 40) ∧ (∀ i, 24 * (r.1 0 7 - (j - (b + 1 - a))) ≤ i → 0 ≤ i → i < 24 * r.1 0 7 → r.2 3 i = 0) ∧ ∀ q, r.1 0 7 - (j - (b + 1 - a)) ≤ q → 0 ≤ q → q < r.1 0 7 → r.2 4 q = 0)
theorem zstp_1 (a : Int) (r : zSt) : (zstp a r).1 = r.1 := by
  unfold zstp
  split
  · split
    · rfl
    · split
      · rfl
      · rfl
  · rfl
theorem zstp_c (a : Int) (r : zSt) : (zstp a r).2 1 = r.2 1 := by
  unfold zstp
  split
  · split
    · rfl
    · split
      · rfl
      · rfl
  · rfl
theorem zstp_h (a : Int) (r : zSt) : (zstp a r).2 3 = r.2 3 := by
  unfold zstp
  split
  · split
    · rfl
    · split
      · rfl
      · rfl
  · rfl
theorem zstp_5 (a : Int) (r : zSt) (i : Nat) (hi : 5 ≤ i) : (zstp a r).2 i = r.2 i := by
  unfold zstp
  split
  · split
    · rfl
    · split
      · rfl
      · exact uA_a (by omega)
  · exact uA_a (by omega)
theorem zstp_g (a : Int) (r : zSt) (i : Int) : (zstp a r).2 2 i = if 0 < a ∧ i = 12 * r.1 0 8 + a - 1 then 0 else r.2 2 i := by
  unfold zstp
  by_cases q : a ≤ 0
  · have e : (if 0 < a ∧ i = 12 * r.1 0 8 + a - 1 then (0 : Int) else r.2 2 i) = r.2 2 i := if_neg (by omega)
    rw [if_pos q, e]
    split
    · rfl
    · split
      · rfl
      · rfl
  · rw [if_neg q]
    show zup (r.2 2) (12 * r.1 0 8 + a - 1) 0 i = _
    unfold zup
    grind
theorem zstp_p (a : Int) (r : zSt) (i : Int) : (zstp a r).2 4 i = if a ≤ 0 ∧ r.1 0 8 = 0 ∧ 0 < r.1 0 7 ∧ i = r.1 0 7 - 1 then 0 else r.2 4 i := by
  unfold zstp
  by_cases q : a ≤ 0
  · rw [if_pos q]
    by_cases q2 : r.1 0 8 = 0
    · rw [if_neg (by simpa using q2)]
      by_cases q3 : r.1 0 7 ≤ 0
      · rw [if_pos q3, if_neg (by omega)]
      · rw [if_neg q3]
        show zup (r.2 4) (r.1 0 7 - 1) 0 i = _
        unfold zup
        grind
    · rw [if_pos q2, if_neg (by omega)]
  · rw [if_neg q, if_neg (by omega)]
    rfl
theorem zstp_id {a : Int} {r : zSt} (hg : zGb r) (hp : ∀ i, r.2 4 i = 0 ∨ r.2 4 i = 1) : zQv (zstp a r) (zstp a (zstp a r)) := by
  refine ⟨zstp_1 _ _, fun i _ _ => by rw [zstp_c], fun i _ _ => ?_, fun i => ?_, fun i _ _ => by rw [zstp_h], fun i _ _ => ?_, fun i => ?_, fun i hi => zstp_5 _ _ i hi⟩
  · rw [zstp_g, zstp_g, zstp_1]
    split <;> rfl
  · rw [zstp_g, zstp_g, zstp_1]
    have := hg i
    grind
  · rw [zstp_p, zstp_p, zstp_1]
    split <;> rfl
  · rw [zstp_p, zstp_p, zstp_1]
    have := hp i
    grind
theorem zEu_0 {a b j : Int} {r : zSt} (hI : zRI r) (hab : 0 ≤ a ∧ a ≤ b ∧ b < r.1 0 1) (hj : 0 ≤ j) (h : zEu a b 0 j r) : zEu a b 0 (j + 1) (zstp a (zup1 r a b)) := by
  obtain ⟨h1, h2, h3, h4⟩ := h
  have hg := hI.2.1
  have hp := hI.2.2.2.2.2.2.2.1
  unfold zEu
  rw [zstp_1, zstp_c]
  refine ⟨fun i x y z => ?_, fun q x y z => ?_, fun _ _ => ?_, fun q => absurd rfl q⟩
  · show zUp (r.2 1) (288 * r.1 0 8) a b i = 0
    have z' : 288 * r.1 0 8 + (b + 1 - (j + 1)) * 24 ≤ i := z
    have x' : 288 * r.1 0 8 + a * 24 ≤ i := x
    have y' : i < 288 * r.1 0 8 + b * 24 + 24 := y
    have := h1 (i + 24)
    unfold zUp
    grind
  · rw [zstp_g]
    show (if 0 < a ∧ 12 * r.1 0 8 + q = 12 * r.1 0 8 + a - 1 then 0 else zUg (r.2 2) (12 * r.1 0 8) a b (12 * r.1 0 8 + q)) = 0
    have := h2 (q + 1)
    unfold zUg
    grind
  · refine zstp_id (r := zup1 r a b) (fun i => ?_) hp
    show zUg (r.2 2) (12 * r.1 0 8) a b i = 0 ∨ zUg (r.2 2) (12 * r.1 0 8) a b i = 1
    have := hg i
    have := hg (i + 1)
    unfold zUg
    grind
theorem zEu_0s {a b j : Int} {r : zSt} (hI : zRI r) (hab : 0 ≤ a ∧ a ≤ b ∧ b < r.1 0 1) (hj : b + 1 - a ≤ j) (h : zEu a b 0 j r) : zQv r (zstp a (zup1 r a b)) := by
  obtain ⟨h1, h2, h3, h4⟩ := h
  have hg := hI.2.1
  have hp := hI.2.2.2.2.2.2.2.1
  obtain ⟨k1, k2, k3, k4, k5, k6, k7, k8⟩ := h3 rfl (by omega)
  refine ⟨zstp_1 _ _, fun i x y => ?_, fun i x y => ?_, fun i => ?_, fun i x y => by rw [zstp_h]; rfl, fun i x y => ?_, fun i => ?_, fun i hi => (zstp_5 _ _ i hi).trans ?_⟩
  · rw [zstp_c]
    show zUp (r.2 1) (288 * r.1 0 8) a b i = r.2 1 i
    have := h1 i
    have := h1 (i + 24)
    unfold zUp
    grind
  · rw [zstp_g]
    show (if 0 < a ∧ i = 12 * r.1 0 8 + a - 1 then 0 else zUg (r.2 2) (12 * r.1 0 8) a b i) = r.2 2 i
    have := k3 i x y
    rw [zstp_g] at this
    have := h2 (i - 12 * r.1 0 8)
    have := h2 (i + 1 - 12 * r.1 0 8)
    rw [show 12 * r.1 0 8 + (i - 12 * r.1 0 8) = i by omega] at *
    rw [show 12 * r.1 0 8 + (i + 1 - 12 * r.1 0 8) = i + 1 by omega] at *
    unfold zUg
    grind
  · rw [zstp_g]
    show (if 0 < a ∧ i = 12 * r.1 0 8 + a - 1 then 0 else zUg (r.2 2) (12 * r.1 0 8) a b i) = 0 ∨ (if 0 < a ∧ i = 12 * r.1 0 8 + a - 1 then 0 else zUg (r.2 2) (12 * r.1 0 8) a b i) = 1
    have := hg i
    have := hg (i + 1)
    unfold zUg
    grind
  · have := k6 i x y
    rw [zstp_p] at this
    rw [zstp_p]
    exact this
  · have := hp i
    rw [zstp_p]
    show (if a ≤ 0 ∧ r.1 0 8 = 0 ∧ 0 < r.1 0 7 ∧ i = r.1 0 7 - 1 then 0 else r.2 4 i) = 0 ∨ (if a ≤ 0 ∧ r.1 0 8 = 0 ∧ 0 < r.1 0 7 ∧ i = r.1 0 7 - 1 then 0 else r.2 4 i) = 1
    grind
  · show (if i = 2 then _ else (if i = 1 then _ else r.2 i)) = r.2 i
    rw [if_neg (by omega), if_neg (by omega)]
theorem zkp_1 (r : zSt) (k : Nat) (hk : k ≠ 7) : (zkp r).1 0 k = r.1 0 k := by
  unfold zkp
  split
  · show (if (0 : Nat) = 0 then (if k = 7 then (40 : Int) else r.1 0 k) else r.1 0 k) = _
    rw [if_pos rfl, if_neg hk]
  · show (if (0 : Nat) = 0 then (if k = 7 then (r.1 0 7 + 1) else r.1 0 k) else r.1 0 k) = _
    rw [if_pos rfl, if_neg hk]
theorem zkp_7 (r : zSt) : (zkp r).1 0 7 = if r.1 0 7 = 40 then 40 else r.1 0 7 + 1 := by
  unfold zkp
  split <;> rfl
theorem zkp_c (r : zSt) : (zkp r).2 1 = r.2 1 ∧ (zkp r).2 2 = r.2 2 := by
  unfold zkp
  split <;> exact ⟨rfl, rfl⟩
theorem zkp_h (r : zSt) : (zkp r).2 3 = if r.1 0 7 = 40 then zHp (zHs (r.2 3)) 39 (r.2 1) 24 else zHp (r.2 3) (r.1 0 7) (r.2 1) 24 := by
  unfold zkp
  split <;> rfl
theorem zkp_p (r : zSt) : (zkp r).2 4 = if r.1 0 7 = 40 then zup (zHg (r.2 4)) 39 (r.2 2 0) else zup (r.2 4) (r.1 0 7) (r.2 2 0) := by
  unfold zkp
  split <;> rfl
theorem zkp_5 (r : zSt) (i : Nat) (hi : 5 ≤ i) : (zkp r).2 i = r.2 i := by
  unfold zkp
  split
  · show (if i = 4 then _ else (if i = 3 then _ else r.2 i)) = r.2 i
    rw [if_neg (by omega), if_neg (by omega)]
  · show (if i = 4 then _ else (if i = 3 then _ else r.2 i)) = r.2 i
    rw [if_neg (by omega), if_neg (by omega)]
theorem zEu_1 {b j : Int} {r : zSt} (hI : zRI r) (hsh : r.1 0 8 = 0) (hb : 0 ≤ b ∧ b < r.1 0 1) (hj : 0 ≤ j) (h : zEu 0 b 1 j r) : zEu 0 b 1 (j + 1) (zup1 (zkp r) 0 b) := by
  obtain ⟨h1, h2, h3, h4⟩ := h
  obtain ⟨f1, f2, f3⟩ := h4 (by decide)
  have hn := hI.2.2.1.2.2.2.2.2
  have e8 : (zup1 (zkp r) 0 b).1 0 8 = 0 := (zkp_1 r 8 (by decide)).trans hsh
  have e7 : (zup1 (zkp r) 0 b).1 0 7 = if r.1 0 7 = 40 then 40 else r.1 0 7 + 1 := zkp_7 r
  have k8 : (zkp r).1 0 8 = 0 := (zkp_1 r 8 (by decide)).trans hsh
  have ec : (zup1 (zkp r) 0 b).2 1 = zUp (r.2 1) 0 0 b := by
    show zUp ((zkp r).2 1) (288 * (zkp r).1 0 8) 0 b = _
    rw [k8, (zkp_c r).1]
    rfl
  have eg : (zup1 (zkp r) 0 b).2 2 = zUg (r.2 2) 0 0 b := by
    show zUg ((zkp r).2 2) (12 * (zkp r).1 0 8) 0 b = _
    rw [k8, (zkp_c r).2]
    rfl
  have eh : (zup1 (zkp r) 0 b).2 3 = if r.1 0 7 = 40 then zHp (zHs (r.2 3)) 39 (r.2 1) 24 else zHp (r.2 3) (r.1 0 7) (r.2 1) 24 := zkp_h r
  have ep : (zup1 (zkp r) 0 b).2 4 = if r.1 0 7 = 40 then zup (zHg (r.2 4)) 39 (r.2 2 0) else zup (r.2 4) (r.1 0 7) (r.2 2 0) := zkp_p r
  rw [hsh] at h1 h2
  unfold zEu
  rw [e8, ec, eg, e7, eh, ep]
  refine ⟨fun i x y z => ?_, fun q x y z => ?_, fun q => absurd q (by decide), fun _ => ⟨?_, fun i x y z => ?_, fun q x y z => ?_⟩⟩
  · have := h1 (i + 24)
    unfold zUp
    grind
  · have := h2 (q + 1)
    unfold zUg
    grind
  · grind
  · have := h1 (i - 24 * r.1 0 7)
    have := h1 (i - 936)
    have := f2 i
    have := f2 (i + 24)
    by_cases q : r.1 0 7 = 40
    · rw [if_pos q] at x z ⊢
      unfold zHp zHs
      grind
    · rw [if_neg q] at x z ⊢
      unfold zHp
      grind
  · have := h2 0
    have := f3 q
    have := f3 (q + 1)
    by_cases q : r.1 0 7 = 40
    · rw [if_pos q] at x z ⊢
      unfold zup zHg
      grind
    · rw [if_neg q] at x z ⊢
      unfold zup
      grind
theorem zEu_1s {b j : Int} {r : zSt} (hI : zRI r) (hsh : r.1 0 8 = 0) (hb : 0 ≤ b ∧ b < r.1 0 1) (hj : b + 1 + 40 ≤ j) (h : zEu 0 b 1 j r) : zQv r (zup1 (zkp r) 0 b) := by
  obtain ⟨h1, h2, h3, h4⟩ := h
  obtain ⟨f1, f2, f3⟩ := h4 (by decide)
  have hn := hI.2.2.1.2.2.2.2.2
  have hg := hI.2.1
  have hp := hI.2.2.2.2.2.2.2.1
  have h40 : r.1 0 7 = 40 := by omega
  have k8 : (zkp r).1 0 8 = 0 := (zkp_1 r 8 (by decide)).trans hsh
  have ec : (zup1 (zkp r) 0 b).2 1 = zUp (r.2 1) 0 0 b := by
    show zUp ((zkp r).2 1) (288 * (zkp r).1 0 8) 0 b = _
    rw [k8, (zkp_c r).1]
    rfl
  have eg : (zup1 (zkp r) 0 b).2 2 = zUg (r.2 2) 0 0 b := by
    show zUg ((zkp r).2 2) (12 * (zkp r).1 0 8) 0 b = _
    rw [k8, (zkp_c r).2]
    rfl
  have eh : (zup1 (zkp r) 0 b).2 3 = zHp (zHs (r.2 3)) 39 (r.2 1) 24 := by
    have := zkp_h r
    rw [if_pos h40] at this
    exact this
  have ep : (zup1 (zkp r) 0 b).2 4 = zup (zHg (r.2 4)) 39 (r.2 2 0) := by
    have := zkp_p r
    rw [if_pos h40] at this
    exact this
  rw [hsh] at h1 h2
  refine ⟨?_, fun i x y => ?_, fun i x y => ?_, fun i => ?_, fun i x y => ?_, fun i x y => ?_, fun i => ?_, fun i hi => ?_⟩
  · funext x k
    show (zkp r).1 x k = r.1 x k
    unfold zkp
    rw [if_pos h40]
    show (if x = 0 then (if k = 7 then 40 else r.1 x k) else r.1 x k) = r.1 x k
    grind
  · rw [ec]
    have := h1 i
    have := h1 (i + 24)
    unfold zUp
    grind
  · rw [eg]
    have := h2 i
    have := h2 (i + 1)
    unfold zUg
    grind
  · rw [eg]
    have := hg i
    have := hg (i + 1)
    unfold zUg
    grind
  · rw [eh]
    have := f2 i
    have := f2 (i + 24)
    have := h1 (i - 936)
    unfold zHp zHs
    grind
  · rw [ep]
    have := f3 i
    have := f3 (i + 1)
    have := h2 0
    unfold zup zHg
    grind
  · rw [ep]
    have := hp i
    have := hp (i + 1)
    have := hg 0
    unfold zup zHg
    grind
  · show (if i = 2 then _ else (if i = 1 then _ else (zkp r).2 i)) = r.2 i
    rw [if_neg (by omega), if_neg (by omega)]
    exact zkp_5 r i hi
/-! down -/
def zEd (a b : Int) (j : Int) (r : zSt) : Prop :=
  (∀ i, 288 * r.1 0 8 + a * 24 ≤ i → i < 288 * r.1 0 8 + b * 24 + 24 → i < 288 * r.1 0 8 + (a + j) * 24 → r.2 1 i = 0) ∧ (∀ q, a ≤ q → q ≤ b → q < a + j → r.2 2 (12 * r.1 0 8 + q) = 0) ∧
  (1 ≤ j → r.2 2 (12 * r.1 0 8 + b) = 0 ∧ zQv r (zstp a r))
theorem zEd_1 {a b j : Int} {r : zSt} (hI : zRI r) (hab : 0 ≤ a ∧ a ≤ b ∧ b < r.1 0 1) (hj : 0 ≤ j) (h : zEd a b j r) : zEd a b (j + 1) (zstp a (zdn1 r a b)) := by
  obtain ⟨h1, h2, h3⟩ := h
  have hg := hI.2.1
  have hp := hI.2.2.2.2.2.2.2.1
  unfold zEd
  rw [zstp_1, zstp_c]
  refine ⟨fun i x y z => ?_, fun q x y z => ?_, fun _ => ⟨?_, ?_⟩⟩
  · show zDn (r.2 1) (288 * r.1 0 8) a b i = 0
    have z' : i < 288 * r.1 0 8 + (a + (j + 1)) * 24 := z
    have x' : 288 * r.1 0 8 + a * 24 ≤ i := x
    have y' : i < 288 * r.1 0 8 + b * 24 + 24 := y
    have := h1 (i - 24)
    unfold zDn
    grind
  · rw [zstp_g]
    show (if 0 < a ∧ 12 * r.1 0 8 + q = 12 * r.1 0 8 + a - 1 then 0 else zDg (r.2 2) (12 * r.1 0 8) a b (12 * r.1 0 8 + q)) = 0
    have := h2 (q - 1)
    unfold zDg
    grind
  · rw [zstp_g]
    show (if 0 < a ∧ 12 * r.1 0 8 + b = 12 * r.1 0 8 + a - 1 then 0 else zDg (r.2 2) (12 * r.1 0 8) a b (12 * r.1 0 8 + b)) = 0
    unfold zDg
    grind
  · refine zstp_id (r := zdn1 r a b) (fun i => ?_) hp
    show zDg (r.2 2) (12 * r.1 0 8) a b i = 0 ∨ zDg (r.2 2) (12 * r.1 0 8) a b i = 1
    have := hg i
    have := hg (i - 1)
    unfold zDg
    grind
theorem zEd_s {a b j : Int} {r : zSt} (hI : zRI r) (hab : 0 ≤ a ∧ a ≤ b ∧ b < r.1 0 1) (hj : b + 1 - a ≤ j) (h : zEd a b j r) : zQv r (zstp a (zdn1 r a b)) := by
  obtain ⟨h1, h2, h3⟩ := h
  have hg := hI.2.1
  have hp := hI.2.2.2.2.2.2.2.1
  obtain ⟨h5, k1, k2, k3, k4, k5, k6, k7, k8⟩ := h3 (by omega)
  refine ⟨zstp_1 _ _, fun i x y => ?_, fun i x y => ?_, fun i => ?_, fun i x y => by rw [zstp_h]; rfl, fun i x y => ?_, fun i => ?_, fun i hi => (zstp_5 _ _ i hi).trans ?_⟩
  · rw [zstp_c]
    show zDn (r.2 1) (288 * r.1 0 8) a b i = r.2 1 i
    have := h1 i
    have := h1 (i - 24)
    unfold zDn
    grind
  · rw [zstp_g]
    show (if 0 < a ∧ i = 12 * r.1 0 8 + a - 1 then 0 else zDg (r.2 2) (12 * r.1 0 8) a b i) = r.2 2 i
    have := k3 i x y
    rw [zstp_g] at this
    have := h2 (i - 12 * r.1 0 8)
    have := h2 (i - 1 - 12 * r.1 0 8)
    rw [show 12 * r.1 0 8 + (i - 12 * r.1 0 8) = i by omega] at *
    rw [show 12 * r.1 0 8 + (i - 1 - 12 * r.1 0 8) = i - 1 by omega] at *
    unfold zDg
    grind
  · rw [zstp_g]
    show (if 0 < a ∧ i = 12 * r.1 0 8 + a - 1 then 0 else zDg (r.2 2) (12 * r.1 0 8) a b i) = 0 ∨ (if 0 < a ∧ i = 12 * r.1 0 8 + a - 1 then 0 else zDg (r.2 2) (12 * r.1 0 8) a b i) = 1
    have := hg i
    have := hg (i - 1)
    unfold zDg
    grind
  · have := k6 i x y
    rw [zstp_p] at this
    rw [zstp_p]
    exact this
  · have := hp i
    rw [zstp_p]
    show (if a ≤ 0 ∧ r.1 0 8 = 0 ∧ 0 < r.1 0 7 ∧ i = r.1 0 7 - 1 then 0 else r.2 4 i) = 0 ∨ (if a ≤ 0 ∧ r.1 0 8 = 0 ∧ 0 < r.1 0 7 ∧ i = r.1 0 7 - 1 then 0 else r.2 4 i) = 1
    grind
  · show (if i = 2 then _ else (if i = 1 then _ else r.2 i)) = r.2 i
    rw [if_neg (by omega), if_neg (by omega)]
