/-! ===== codes that erase ===== -/
def zex (n : Int) (r : zSt) : Int := if n = 0 then r.1 0 10 else 0
def zey (n : Int) (r : zSt) : Int := if n = 1 then r.1 0 10 + 1 else r.1 0 2
def zeG (n : Int) (r : zSt) : Int → Int := if n = 1 ∧ ¬ r.1 0 10 = r.1 0 2 - 1 then r.2 2 else zup (r.2 2) (zGo r (r.1 0 9)) 0
/-- the reference's row of the cursor erased -/
def zeR (n : Int) (r : zSt) : zSt := uB r (zEr (r.2 1) (zRo r (r.1 0 9)) (zex n r) (zey n r) (r.1 0 2)) (zeG n r)
def zcR (i : Int) (r : zSt) : zSt := uB r (zFl (r.2 1) (zRo r i) (zRo r i + 24) 0) (zup (r.2 2) (zGo r i) 0)
theorem zex_in {n : Int} {r : zSt} (hs : zRs r) (hn : 0 ≤ n ∧ n ≤ 2) : (0 ≤ zex n r ∧ zex n r ≤ r.1 0 2) ∧ zex n r ≤ zey n r ∧ zey n r ≤ r.1 0 2 := by
  have := hs.2.1
  unfold zex zey
  grind
theorem c_Rf_erasesRow {r : zSt} (hZ : zRZ r) (hs : zRs r) {n : Int} (hn : 0 ≤ n ∧ n ≤ 2) : f_Rf_erasesRow (r.1 0 9) n r = some (0, zeR n r) := by
  have hc := hs.2.1
  have ha := hs.1
  have z1 := hZ.2.1
  have z2 := hZ.2.2.1
  have ex := zex_in hs hn
  have e := c_Rf_erases hZ (r := r.1 0 9) (a := zex n r) (b := zey n r) (by omega) ex.1 ex.2
  have e1 : (if ¬ n = 0 then 0 else r.1 0 10) = zex n r := by unfold zex; grind
  have e2 : (if ¬ n = 1 then r.1 0 2 else w32 (r.1 0 10 + 1)) = zey n r := by unfold zey; rw [w32i (by omega) (by omega)]; grind
  have e3 : w32 (w32 (12 * r.1 0 8) + r.1 0 9) = zGo r (r.1 0 9) := by
    have := hZ.2.2.2
    unfold zGo
    rw [w32i (x := 12 * r.1 0 8) (by omega) (by omega), w32i (by omega) (by omega)]
  have e4 : 0 ≤ zGo r (r.1 0 9) ∧ zGo r (r.1 0 9) < r.1 2 0 := zGo_in hZ (by omega)
  unfold f_Rf_erasesRow
  rw [e1, e2]
  refine bindS e ?_
  show (if ¬ n = 1 then (if 0 ≤ w32 (w32 (12 * r.1 0 8) + r.1 0 9) ∧ w32 (w32 (12 * r.1 0 8) + r.1 0 9) < r.1 2 0 then some ((0 : Int), uE (uA r 1 (zEr (r.2 1) (zRo r (r.1 0 9)) (zex n r) (zey n r) (r.1 0 2))) 2 (w32 (w32 (12 * r.1 0 8) + r.1 0 9)) 0) else none) else (if ¬ r.1 0 10 = w32 (r.1 0 2 - 1) then some (0, _) else (if 0 ≤ w32 (w32 (12 * r.1 0 8) + r.1 0 9) ∧ w32 (w32 (12 * r.1 0 8) + r.1 0 9) < r.1 2 0 then some ((0 : Int), uE (uA r 1 (zEr (r.2 1) (zRo r (r.1 0 9)) (zex n r) (zey n r) (r.1 0 2))) 2 (w32 (w32 (12 * r.1 0 8) + r.1 0 9)) 0) else none))) = _
  rw [e3, w32i (x := r.1 0 2 - 1) (by omega) (by omega)]
  unfold zeR zeG uB
  by_cases q1 : n = 1
  · by_cases q2 : r.1 0 10 = r.1 0 2 - 1
    · rw [if_neg (by simpa using q1), if_neg (by simpa using q2), if_pos e4, if_neg (fun q => q.2 q2)]
      rfl
    · rw [if_neg (by simpa using q1), if_pos q2, if_pos ⟨q1, q2⟩]
      exact congrArg (fun x => some ((0 : Int), x)) (uA_id (uA r 1 (zEr (r.2 1) (zRo r (r.1 0 9)) (zex n r) (zey n r) (r.1 0 2))) 2).symm
  · rw [if_pos q1, if_pos e4, if_neg (fun q => q1 q.1)]
    rfl
theorem S_eraseRow0 {s r : zSt} (h : zRel s r) (hsh : r.1 0 8 = 0) {n : Int} (hn : 0 ≤ n ∧ n ≤ 2) : ∃ s1, f_Sc_eraseRow n s = some (0, s1) ∧ zPo s r s1 (zeR n r) := by
  have hZ := h.2.1.1
  have hs := h.nums
  have hc := hs.2.1
  have ha := hs.1
  have z1 := hZ.2.1
  have z2 := hZ.2.2.1
  obtain ⟨c1, c2, c3, c4, c5⟩ := h.cu
  obtain ⟨d1, d2, d3, d4, d5, d6⟩ := h.zz
  have ex := zex_in hs hn
  obtain ⟨p1, r1, b1, b2, b3⟩ := P0_erase h hsh (a := r.1 0 9) (x := zex n r) (y := zey n r) ha ex.1 ⟨ex.2.1, by omega⟩
  rw [if_neg (by omega)] at b2
  have e := c_Rf_erases hZ (r := r.1 0 9) (a := zex n r) (b := zey n r) (by omega) ex.1 ex.2
  have er1 := (Prod.mk.inj (Option.some.inj (b2.symm.trans e))).2
  have e1 : (if ¬ n = 0 then 0 else s.1 12 1) = zex n r := by rw [c2]; unfold zex; grind
  have e2 : (if ¬ n = 1 then s.1 0 10 else w32 (s.1 12 1 + 1)) = zey n r := by rw [c2, d3]; unfold zey; rw [w32i (by omega) (by omega)]; grind
  have e8 : s.1 0 8 = 0 := by rw [d1, hsh]
  unfold f_Sc_eraseRow
  rw [e1, e2, c1, d3]
  by_cases q : zey n r < r.1 0 2
  · refine ⟨_, iteF (by omega) (iteT hn.2 (iteT e8 (bindS b1 (iteT q rfl)))), ?_⟩
    have ez : zeR n r = r1 := by
      have q2 : n = 1 ∧ ¬ r.1 0 10 = r.1 0 2 - 1 := by unfold zey at q; grind
      rw [er1]
      unfold zeR zeG uB
      rw [if_pos q2]
      exact uA_id (uA r 1 (zEr (r.2 1) (zRo r (r.1 0 9)) (zex n r) (zey n r) (r.1 0 2))) 2
    rw [ez]
    exact b3
  · have h81 : r1.1 0 8 = 0 := by rw [b3.2.2.1]; exact hsh
    obtain ⟨p2, g1, g2⟩ := P0_going b3.1 h81 (a := r.1 0 9) (v := 0) (by omega) (Or.inl rfl)
    refine ⟨_, iteF (by omega) (iteT hn.2 (iteT e8 (bindS b1 (iteF q (iteT e8 (bindS g1 rfl)))))), ?_⟩
    have ez : zeR n r = uE r1 2 (zGo r1 (r.1 0 9)) 0 := by
      have q2 : ¬ (n = 1 ∧ ¬ r.1 0 10 = r.1 0 2 - 1) := by unfold zey at q; grind
      rw [er1]
      unfold zeR zeG uB
      rw [if_neg q2]
      rfl
    rw [ez]
    exact b3.trans g2
theorem S_eraseRow1 {s r : zSt} (h : zRel s r) (hsh : r.1 0 8 = 1) {n : Int} (hn : 0 ≤ n ∧ n ≤ 2) : ∃ s1, f_Sc_eraseRow n s = some (0, s1) ∧ zPo s r s1 (zeR n r) := by
  have hZ := h.2.1.1
  have hs := h.nums
  have hc := hs.2.1
  have ha := hs.1
  have z1 := hZ.2.1
  have z2 := hZ.2.2.1
  obtain ⟨c1, c2, c3, c4, c5⟩ := h.cu
  obtain ⟨d1, d2, d3, d4, d5, d6⟩ := h.zz
  have ex := zex_in hs hn
  obtain ⟨p1, r1, b1, b2, b3⟩ := P1_erase h hsh (a := r.1 0 9) (x := zex n r) (y := zey n r) ha ex.1 ⟨ex.2.1, by omega⟩
  rw [if_neg (by omega)] at b2
  have e := c_Rf_erases hZ (r := r.1 0 9) (a := zex n r) (b := zey n r) (by omega) ex.1 ex.2
  have er1 := (Prod.mk.inj (Option.some.inj (b2.symm.trans e))).2
  have e1 : (if ¬ n = 0 then 0 else s.1 12 1) = zex n r := by rw [c2]; unfold zex; grind
  have e2 : (if ¬ n = 1 then s.1 0 10 else w32 (s.1 12 1 + 1)) = zey n r := by rw [c2, d3]; unfold zey; rw [w32i (by omega) (by omega)]; grind
  have e8 : ¬ s.1 0 8 = 0 := by rw [d1, hsh]; decide
  unfold f_Sc_eraseRow
  rw [e1, e2, c1, d3]
  by_cases q : zey n r < r.1 0 2
  · refine ⟨_, iteF (by omega) (iteT hn.2 (iteF e8 (bindS b1 (iteT q rfl)))), ?_⟩
    have ez : zeR n r = r1 := by
      have q2 : n = 1 ∧ ¬ r.1 0 10 = r.1 0 2 - 1 := by unfold zey at q; grind
      rw [er1]
      unfold zeR zeG uB
      rw [if_pos q2]
      exact uA_id (uA r 1 (zEr (r.2 1) (zRo r (r.1 0 9)) (zex n r) (zey n r) (r.1 0 2))) 2
    rw [ez]
    exact b3
  · have h81 : r1.1 0 8 = 1 := by rw [b3.2.2.1]; exact hsh
    obtain ⟨p2, g1, g2⟩ := P1_going b3.1 h81 (a := r.1 0 9) (v := 0) (by omega) (Or.inl rfl)
    refine ⟨_, iteF (by omega) (iteT hn.2 (iteF e8 (bindS b1 (iteF q (iteF e8 (bindS g1 rfl)))))), ?_⟩
    have ez : zeR n r = uE r1 2 (zGo r1 (r.1 0 9)) 0 := by
      have q2 : ¬ (n = 1 ∧ ¬ r.1 0 10 = r.1 0 2 - 1) := by unfold zey at q; grind
      rw [er1]
      unfold zeR zeG uB
      rw [if_neg q2]
      rfl
    rw [ez]
    exact b3.trans g2
theorem S_eraseRow {s r : zSt} (h : zRel s r) {n : Int} (hn : 0 ≤ n ∧ n ≤ 2) : ∃ s1, f_Sc_eraseRow n s = some (0, s1) ∧ zPo s r s1 (zeR n r) := by
  rcases h.sh with q | q
  · exact S_eraseRow0 h q hn
  · exact S_eraseRow1 h q hn
/-! other rows -/
theorem pair_upI {cS cR : Int × zSt → Option ((Int × zSt) ⊕ zSt)} {Q : Int → zSt → zSt → Prop} {N : Int}
    (hstep : ∀ i s r, 0 ≤ i → i < N → Q i s r → ∃ s1 r1, cS (i, s) = some (.inl (i + 1, s1)) ∧ cR (i, r) = some (.inl (i + 1, r1)) ∧ Q (i + 1) s1 r1)
    (hend : ∀ s r, Q N s r → cS (N, s) = some (.inr s) ∧ cR (N, r) = some (.inr r)) :
    ∀ (m n : Nat) (i : Int) (s r : zSt), 0 ≤ i → i ≤ N → m = (N - i).toNat → m < n → Q i s r → ∃ s1 r1, zloop cS n (i, s) = some s1 ∧ zloop cR n (i, r) = some r1 ∧ Q N s1 r1
  | _, 0, _, _, _, _, _, _, h, _ => absurd h (Nat.not_lt_zero _)
  | 0, n + 1, i, s, r, h0, h1, hm, hn, hq => by
    obtain rfl : i = N := by omega
    obtain ⟨e1, e2⟩ := hend s r hq
    refine ⟨s, r, ?_, ?_, hq⟩
    · unfold zloop
      rw [e1]
      rfl
    · unfold zloop
      rw [e2]
      rfl
  | m + 1, n + 1, i, s, r, h0, h1, hm, hn, hq => by
    obtain ⟨s1, r1, e1, e2, e3⟩ := hstep i s r h0 (by omega) hq
    obtain ⟨s2, r2, f1, f2, f3⟩ := pair_upI hstep hend m n (i + 1) s1 r1 (by omega) (by omega) (by omega) (by omega) e3
    refine ⟨s2, r2, ?_, ?_, f3⟩
    · unfold zloop
      rw [e1]
      exact f1
    · unfold zloop
      rw [e2]
      exact f2
theorem zPt_zFl {g : Int → Int} {o oi c n : Int} (h : oi + 24 ≤ o ∨ o + 24 ≤ oi) (hn : n ≤ 24) : zPt (zFl g oi (oi + 24) 0) o c n = zFl (zPt g o c n) oi (oi + 24) 0 := by
  funext j
  unfold zPt zFl
  by_cases q : 0 < c ∧ c < n
  · rw [if_neg (show ¬ (oi ≤ o + c ∧ o + c < oi + 24) by omega)]
    grind
  · rw [if_neg (fun x => q ⟨x.1.1, x.1.2.1⟩)]
    simp only [if_neg (fun x => q ⟨x.1.1, x.1.2.1⟩ : ¬ ((0 < c ∧ c < n ∧ g (o + c) = -2) ∧ (j = o + c ∨ j = o + c - 1)))]
theorem zEr_zFl {g : Int → Int} {o oi a b n : Int} (h : oi + 24 ≤ o ∨ o + 24 ≤ oi) (hn : n ≤ 24) (ha : 0 ≤ a) (hb : b ≤ n) : zEr (zFl g oi (oi + 24) 0) o a b n = zFl (zEr g o a b n) oi (oi + 24) 0 := by
  unfold zEr
  rw [zPt_zFl h hn, zPt_zFl h hn]
  funext j
  unfold zFl
  grind
theorem L_cR_eR {r : zSt} (hZ : zRZ r) (hs : zRs r) {n i : Int} (hn : 0 ≤ n ∧ n ≤ 2) (hi : i ≠ r.1 0 9) : zcR i (zeR n r) = zeR n (zcR i r) := by
  have ex := zex_in hs hn
  have z2 := hZ.2.2.1
  have e1 : (288 * r.1 0 8 + i * 24) + 24 ≤ 288 * r.1 0 8 + r.1 0 9 * 24 ∨ (288 * r.1 0 8 + r.1 0 9 * 24) + 24 ≤ 288 * r.1 0 8 + i * 24 := by omega
  have hx : zex n (zcR i r) = zex n r := rfl
  have hy : zey n (zcR i r) = zey n r := rfl
  have eL : zcR i (zeR n r) = uB (zeR n r) (zFl (zEr (r.2 1) (zRo r (r.1 0 9)) (zex n r) (zey n r) (r.1 0 2)) (zRo r i) (zRo r i + 24) 0) (zup (zeG n r) (zGo r i) 0) := rfl
  have eR : zeR n (zcR i r) = uB (zcR i r) (zEr (zFl (r.2 1) (zRo r i) (zRo r i + 24) 0) (zRo r (r.1 0 9)) (zex n r) (zey n r) (r.1 0 2)) (zeG n (zcR i r)) := rfl
  have eG : zeG n (zcR i r) = if n = 1 ∧ ¬ r.1 0 10 = r.1 0 2 - 1 then zup (r.2 2) (zGo r i) 0 else zup (zup (r.2 2) (zGo r i) 0) (zGo r (r.1 0 9)) 0 := rfl
  rw [eL, eR]
  show uB (uB r _ _) _ _ = uB (uB r _ _) _ _
  rw [uB_uB, uB_uB]
  refine uB_cg (fun j => ?_) (fun j => ?_)
  · rw [zEr_zFl (o := zRo r (r.1 0 9)) (oi := zRo r i) e1 z2.2 ex.1.1 ex.2.2]
  · rw [eG]
    have eg : zGo r i ≠ zGo r (r.1 0 9) := by unfold zGo; omega
    unfold zeG
    clear eL eR eG hx hy hs hZ
    by_cases q : n = 1 ∧ ¬ r.1 0 10 = r.1 0 2 - 1
    · rw [if_pos q, if_pos q]
    · rw [if_neg q, if_neg q]
      unfold zup
      grind
theorem L_eR_cR {r : zSt} (hZ : zRZ r) (hw : zRwf (r.2 1) (zRo r (r.1 0 9)) (r.1 0 2)) : zeR 2 (zcR (r.1 0 9) r) = zeR 2 r := by
  have hw1 := hw.1
  have z2 := hZ.2.2.1
  have eR : zeR 2 (zcR (r.1 0 9) r) = uB (zcR (r.1 0 9) r) (zEr (zFl (r.2 1) (zRo r (r.1 0 9)) (zRo r (r.1 0 9) + 24) 0) (zRo r (r.1 0 9)) 0 (r.1 0 2) (r.1 0 2)) (zup (zup (r.2 2) (zGo r (r.1 0 9)) 0) (zGo r (r.1 0 9)) 0) := rfl
  have eL : zeR 2 r = uB r (zEr (r.2 1) (zRo r (r.1 0 9)) 0 (r.1 0 2) (r.1 0 2)) (zup (r.2 2) (zGo r (r.1 0 9)) 0) := rfl
  rw [eR, eL]
  show uB (uB r _ _) _ _ = _
  rw [uB_uB]
  refine uB_cg (fun j => ?_) (fun j => ?_)
  · generalize zRo r (r.1 0 9) = o at *
    have := hw1 (j - o)
    rw [show o + (j - o) = j by omega] at this
    unfold zEr zFl zPt
    clear eL eR hw1 hw hZ
    grind
  · unfold zup
    grind
