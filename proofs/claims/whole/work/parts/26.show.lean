/-! ===== emptied pictures, tabs anew ===== -/
theorem zRel.shwn {s r : zSt} (h : zRel s r) {x : Int} (hx : x = 0 ∨ x = 1) (h1 : x = 1 → r.1 0 23 = 1 ∧ r.1 0 24 < r.1 0 1 ∧ r.1 0 25 < r.1 0 2) : zRel (uS s 0 8 x) (uS r 0 8 x) := by
  obtain ⟨hL, ⟨hZ, hg, hs, hm, hv, hr, hk, hh⟩, p0, p1, xh, xu, xm, xv, xz, xt, xr⟩ := h
  exact ⟨hL, ⟨⟨hZ.1, hZ.2.1, hZ.2.2.1, by show 0 ≤ x ∧ x ≤ 1; omega⟩, hg, hs, hm, ⟨hv.1, h1, hv.2.2⟩, hr, hk, hh⟩, p0, p1, xh, xu, xm, xv, ⟨rfl, xz.2⟩, xt, xr⟩
theorem c_Rf_empties {r : zSt} (hL : zRL r) {k : Int} (hk : k = 0 ∨ k = 1) : f_Rf_empties k r = some (0, uB r (zFl (r.2 1) (288 * k) (288 * k + 288) 0) (zFl (r.2 2) (12 * k) (12 * k + 12) 0)) := by
  obtain ⟨h1, h2, -⟩ := hL
  unfold f_Rf_empties
  have hl := zloop_up (step := f_Rf_empties_l2 k) (r := uA r 1 (zFl (r.2 1) (288 * k) (288 * k + 288) 0)) 288 (n := zfu) (fun j => ((j : Int), uA r 1 (zFl (r.2 1) (288 * k) (288 * k + j) 0))) (fun j hj => ?_) ?_ ?_
  · simp only [Int.natCast_zero, Int.add_zero, zFl_self, uA_id] at hl
    refine bindS hl ?_
    have hl2 := zloop_up (step := f_Rf_empties_l30 k) (r := uA (uA r 1 (zFl (r.2 1) (288 * k) (288 * k + 288) 0)) 2 (zFl (r.2 2) (12 * k) (12 * k + 12) 0)) 12 (n := zfu) (fun j => ((j : Int), uA (uA r 1 (zFl (r.2 1) (288 * k) (288 * k + 288) 0)) 2 (zFl (r.2 2) (12 * k) (12 * k + j) 0))) (fun j hj => ?_) ?_ ?_
    · simp only [Int.natCast_zero, Int.add_zero, zFl_self] at hl2
      rw [show r.2 2 = (uA r 1 (zFl (r.2 1) (288 * k) (288 * k + 288) 0)).2 2 from rfl, uA_id] at hl2
      exact bindS hl2 rfl
    · unfold f_Rf_empties_l30
      have ew : w32 (w32 (12 * k) + (j : Int)) = 12 * k + j := by rw [w32i (x := 12 * k) (by omega) (by omega), w32i (by omega) (by omega)]
      refine iteF (by show ¬ (12 : Int) ≤ (j : Int); omega) (iteT (by show 0 ≤ w32 (w32 (12 * k) + (j : Int)) ∧ w32 (w32 (12 * k) + (j : Int)) < r.1 2 0; omega) ?_)
      refine stepE (by show w32 ((j : Int) + 1) = _; rw [w32i] <;> omega) (fun i => ?_)
      show zup (zFl (r.2 2) (12 * k) (12 * k + j) 0) (w32 (w32 (12 * k) + (j : Int))) 0 i = _
      rw [ew]
      unfold zup zFl
      grind
    · rfl
    · unfold zfu; omega
  · unfold f_Rf_empties_l2
    have ew : w32 (w32 (288 * k) + (j : Int)) = 288 * k + j := by rw [w32i (x := 288 * k) (by omega) (by omega), w32i (by omega) (by omega)]
    refine iteF (by show ¬ (288 : Int) ≤ (j : Int); omega) (iteT (by show 0 ≤ w32 (w32 (288 * k) + (j : Int)) ∧ w32 (w32 (288 * k) + (j : Int)) < r.1 1 0; omega) ?_)
    refine stepE (by show w32 ((j : Int) + 1) = _; rw [w32i] <;> omega) (fun i => ?_)
    show zup (zFl (r.2 1) (288 * k) (288 * k + j) 0) (w32 (w32 (288 * k) + (j : Int))) 0 i = _
    rw [ew]
    unfold zup zFl
    grind
  · rfl
  · unfold zfu; omega
theorem zKwf_0 {g : Int → Int} {B R n : Int} (h : ∀ i, B ≤ i → i < B + 288 → g i = 0) (hR : 0 ≤ R) (hn : 0 ≤ n ∧ n ≤ 24) : zKwf g B R n := ⟨fun q a b => zRwf_0 (fun c x y => h _ (by omega) (by omega)) hn, fun i a b => h i (by omega) b⟩
theorem P0_clear {s r : zSt} (h : zRel s r) : ∃ p1 r1, f_Pi_clear (zsb (zsh 2) s) = some (0, p1) ∧ f_Rf_empties 0 r = some (0, r1) ∧ zPo s r (zpb (zsh 2) 3 s p1) r1 := by
  have hp := h.2.2.1
  have hg := h.2.1.2.1
  have z := h.size
  have e1 := c_Pi_clear h.pw0
  have e2 := c_Rf_empties h.2.1.1.1 (k := 0) (by decide)
  refine ⟨_, _, e1, e2, ?_⟩
  have k1 := h.c0 (F := zFl (s.2 3) 0 288 0) (F' := zFl (r.2 1) (288 * 0) (288 * 0 + 288) 0) (fun i x y => by unfold zFl; rw [if_pos (by omega), if_pos (by omega)]) (fun i x => by unfold zFl; rw [if_neg (by omega)]) (zKwf_0 (fun i x y => by unfold zFl; rw [if_pos (by omega)]) (by omega) ⟨by omega, z.2.2⟩)
  have k2 := k1.1.g0 (F := zFl (s.2 4) 0 12 0) (F' := zFl (r.2 2) (12 * 0) (12 * 0 + 12) 0) (fun i x y => by unfold zFl; rw [if_pos (by omega), if_pos (by omega)]) (fun i x => by unfold zFl; rw [if_neg (by omega)]; rfl) (fun i => by
      have := hp.2.2.1 i
      unfold zFl
      grind) (fun i => by
      have := hg i
      unfold zFl
      grind) (fun k y z => by
      have y' : r.1 0 1 ≤ k := y
      unfold zFl
      rw [if_pos (by omega)])
  have k3 := k1.trans k2
  unfold uB
  rw [zpb_uA _ _ _ _ _ _ (by omega), zpb_uA _ _ _ _ _ _ (by omega), zpb_same]
  exact k3
theorem P1_clear {s r : zSt} (h : zRel s r) : ∃ p1 r1, f_Pi_clear (zsb (zsh 22) s) = some (0, p1) ∧ f_Rf_empties 1 r = some (0, r1) ∧ zPo s r (zpb (zsh 22) 3 s p1) r1 := by
  have hp := h.2.2.2.1
  have hg := h.2.1.2.1
  have z := h.size
  have e1 := c_Pi_clear h.pw1
  have e2 := c_Rf_empties h.2.1.1.1 (k := 1) (by decide)
  refine ⟨_, _, e1, e2, ?_⟩
  have k1 := h.c1 (F := zFl (s.2 23) 0 288 0) (F' := zFl (r.2 1) (288 * 1) (288 * 1 + 288) 0) (fun i x y => by unfold zFl; rw [if_pos (by omega), if_pos (by omega)]) (fun i x => by unfold zFl; rw [if_neg (by omega)]) (zKwf_0 (fun i x y => by unfold zFl; rw [if_pos (by omega)]) (by omega) ⟨by omega, z.2.2⟩)
  have k2 := k1.1.g1 (F := zFl (s.2 24) 0 12 0) (F' := zFl (r.2 2) (12 * 1) (12 * 1 + 12) 0) (fun i x y => by unfold zFl; rw [if_pos (by omega), if_pos (by omega)]) (fun i x => by unfold zFl; rw [if_neg (by omega)]; rfl) (fun i => by
      have := hp.2.2.1 i
      unfold zFl
      grind) (fun i => by
      have := hg i
      unfold zFl
      grind) (fun k y z => by
      have y' : r.1 0 1 ≤ k := y
      unfold zFl
      rw [if_pos (by omega)])
  have k3 := k1.trans k2
  unfold uB
  rw [zpb_uA _ _ _ _ _ _ (by omega), zpb_uA _ _ _ _ _ _ (by omega), zpb_same]
  exact k3
theorem S_showOn {s r : zSt} (h : zRel s r) (hsh : r.1 0 8 = 0) : ∃ s1 r1, f_Sc_showOther 1 s = some (0, s1) ∧ ((f_Rf_saves r).bind fun x25 => (f_Rf_empties 1 (uS x25.2 0 8 1)).bind fun x26 => some ((0 : Int), x26.2)) = some (0, r1) ∧ zRel s1 r1 ∧ zKp r r1 := by
  have hn := h.nums
  have hm := h.mode
  obtain ⟨c1, c2, c3, c4, c5⟩ := h.cu
  obtain ⟨p, r1, e1, e2, e3, e4, e5, e6, e7⟩ := S_save h
  have k := e3.shwn (x := 1) (Or.inr rfl) (fun _ => e5)
  obtain ⟨p2, r2, f1, f2, f3⟩ := P1_clear k
  obtain ⟨q, g1, g2, g3⟩ := c_copy (s := uS s 0 8 1) (a := 25) (b := 12) (by decide) (by show s.1 12 2 = 0 ∨ s.1 12 2 = 1; rw [c3]; exact hn.2.2.1) (by show s.1 12 4 = 0 ∨ s.1 12 4 = 1; rw [c5]; exact hm.2.1)
  obtain ⟨p', g1', g2', g3'⟩ := c_copy (s := s) (a := 25) (b := 12) (by decide) (by rw [c3]; exact hn.2.2.1) (by rw [c5]; exact hm.2.1)
  have epp : p' = p := (Prod.mk.inj (Option.some.inj (g1'.symm.trans e1))).2
  have est : zpb (zsl [25, 12]) 2 (uS s 0 8 1) q = uS (zpb (zsl [25, 12]) 2 s p) 0 8 1 := by
    rw [g2, ← epp, g2']
    unfold uC
    refine zst_ext (fun i j => ?_) (fun _ => rfl)
    simp only [uS1]
    grind
  unfold f_Sc_showOther
  rw [h.s8, hsh]
  refine ⟨_, r2, iteT (by decide) (iteT (Or.inr rfl) (iteF (by decide) (bindS g1 (bindS (x := (0, p2)) ?_ rfl)))), bindS e2 (bindS f2 rfl), ?_, (e4.trans (zKp.uS (by decide))).trans f3.fr.kp⟩
  · show f_Pi_clear (zsb (zsh 22) (zpb (zsl [25, 12]) 2 (uS s 0 8 1) q)) = _
    rw [est]
    exact f1
  · show zRel (zpb (zsh 22) 3 (zpb (zsl [25, 12]) 2 (uS s 0 8 1) q) p2) r2
    rw [est]
    exact f3.1
theorem S_showOff {s r : zSt} (h : zRel s r) (hsh : r.1 0 8 = 1) : ∃ s1 r1, f_Sc_showOther 0 s = some (0, s1) ∧ f_Rf_bringsBack (uS r 0 8 0) = some (0, r1) ∧ zRel s1 r1 ∧ zKp r r1 := by
  have k := h.shwn (x := 0) (Or.inl rfl) (fun q => absurd q (by decide))
  obtain ⟨s1, r1, e1, e2, e3, e4, e5⟩ := S_bring k
  unfold f_Sc_showOther
  rw [h.s8, hsh]
  exact ⟨s1, r1, iteT (by decide) (iteT (Or.inl rfl) (iteT rfl (bindS e1 rfl))), e2, e3, (zKp.uS (by decide)).trans e4⟩
theorem S_setMarked {s r : zSt} (h : zRel s r) {m v : Int} (hv : v = 0 ∨ v = 1) (hm4 : m ≠ -4) : ∃ s1 r1, f_Sc_setMarkedMode m v s = some (0, s1) ∧ f_Rf_setsMode m v r = some (0, r1) ∧ zRel s1 r1 ∧ zKp r r1 := by
  have hn := h.nums
  have z := h.size
  have hm := h.mode
  obtain ⟨c1, c2, c3, c4, c5⟩ := h.cu
  obtain ⟨d1, d2, d3, d4, d5, d6⟩ := h.zz
  unfold f_Sc_setMarkedMode f_Rf_setsMode
  by_cases m1 : m = 1
  · exact ⟨_, _, iteT m1 (iteT hv rfl), iteF hm4 (iteT m1 (iteT hv rfl)), h.keys hv, zKp.uS (by decide)⟩
  by_cases m6 : m = 6
  · have k := ((h.orig hv).row (x := if v = 0 then 0 else r.1 0 13) (by show 0 ≤ (if v = 0 then 0 else r.1 0 13) ∧ (if v = 0 then 0 else r.1 0 13) < r.1 0 1; have := hn.2.2.2.2.1; grind)).col (x := 0) (by show 0 ≤ (0 : Int) ∧ (0 : Int) < r.1 0 2; omega)
    have k2 := k.late (x := 0) (Or.inl rfl)
    refine ⟨_, _, iteF m1 (iteT m6 (iteT hv (bindS (x := (0, uS (uS (uS (uS s 12 4 v) 12 0 (if v = 0 then 0 else r.1 0 13)) 12 1 0) 12 2 0)) ?_ rfl))), iteF hm4 (iteF m1 (iteT m6 (iteT hv rfl))), k2, (((zKp.uS (by decide)).trans (zKp.uS (by decide))).trans (zKp.uS (by decide))).trans (zKp.uS (by decide))⟩
    unfold f_Sc_goTo
    refine bindS (x := (0, uS (uS (uS (zsb (zsh 12) (uS s 12 4 v)) 0 0 (if v = 0 then 0 else r.1 0 13)) 0 1 0) 0 2 0)) ?_ ?_
    · unfold f_Cu_goTo
      have e1 : (if (if (uS s 12 4 v).1 12 4 = 0 then w32 ((uS s 12 4 v).1 0 9 - 1) else (uS s 12 4 v).1 0 13) < w32 (w32 ((if (uS s 12 4 v).1 12 4 = 0 then 0 else (uS s 12 4 v).1 0 12) + 1) - 1) then (if (uS s 12 4 v).1 12 4 = 0 then w32 ((uS s 12 4 v).1 0 9 - 1) else (uS s 12 4 v).1 0 13) else w32 (w32 ((if (uS s 12 4 v).1 12 4 = 0 then 0 else (uS s 12 4 v).1 0 12) + 1) - 1)) = if v = 0 then 0 else r.1 0 13 := by
        show (if (if v = 0 then w32 (s.1 0 9 - 1) else s.1 0 13) < w32 (w32 ((if v = 0 then 0 else s.1 0 12) + 1) - 1) then (if v = 0 then w32 (s.1 0 9 - 1) else s.1 0 13) else w32 (w32 ((if v = 0 then 0 else s.1 0 12) + 1) - 1)) = _
        rw [d2, d5, d6]
        have := hn.2.2.2.2.1
        rcases hv with rfl | rfl
        · simp only [if_true]
          rw [w32i (x := r.1 0 1 - 1) (by omega) (by omega), w32i (x := 0 + 1) (by omega) (by omega), w32i (by omega) (by omega)]
          grind
        · simp only [show ¬ ((1 : Int) = 0) by decide, if_false]
          rw [w32i (x := r.1 0 13 + 1) (by omega) (by omega), w32i (by omega) (by omega)]
          grind
      have e2 : w32 ((if (uS s 12 4 v).1 0 10 < 1 then (uS s 12 4 v).1 0 10 else 1) - 1) = 0 := by
        show w32 ((if s.1 0 10 < 1 then s.1 0 10 else 1) - 1) = 0
        rw [d3, if_neg (by omega)]
        decide
      rw [e1, e2]
    · show some ((0 : Int), zpb (zsh 12) 1 (uS s 12 4 v) (uS (uS (uS (zsb (zsh 12) (uS s 12 4 v)) 0 0 _) 0 1 0) 0 2 0)) = _
      rw [zpb_uS _ _ _ _ _ _ _ (by omega), zpb_uS _ _ _ _ _ _ _ (by omega), zpb_uS _ _ _ _ _ _ _ (by omega), zpb_same]
  by_cases m7 : m = 7
  · have hl2 : (if r.1 0 11 = 0 then (0 : Int) else if v = 0 then 0 else 1) = 0 ∨ (if r.1 0 11 = 0 then (0 : Int) else if v = 0 then 0 else 1) = 1 := by grind
    refine ⟨_, _, iteF m1 (iteF m6 (iteT m7 (iteT hv rfl))), iteF hm4 (iteF m1 (iteF m6 (iteT m7 (iteT hv rfl)))), ?_, (zKp.uS (by decide)).trans (zKp.uS (by decide))⟩
    rw [c3]
    exact (h.wrap hv).late hl2
  by_cases m25 : m = 25
  · exact ⟨_, _, iteF m1 (iteF m6 (iteF m7 (iteT m25 (iteT hv rfl)))), iteF hm4 (iteF m1 (iteF m6 (iteF m7 (iteT m25 (iteT hv rfl))))), h.show hv, zKp.uS (by decide)⟩
  by_cases m47 : m = 47
  · rcases hv with rfl | rfl
    · rcases h.sh with q | q
      · refine ⟨s, r, iteF m1 (iteF m6 (iteF m7 (iteF m25 (iteT m47 (bindS (x := (0, s)) ?_ rfl))))), iteF hm4 (iteF m1 (iteF m6 (iteF m7 (iteF m25 (iteT m47 (iteT rfl ?_)))))), h, zKp.rf r⟩
        · unfold f_Sc_showOther
          exact iteF (by rw [h.s8, q]; decide) rfl
        · unfold f_Rf_setsMode_j190
          exact iteF (by decide) (iteT (by omega) rfl)
      · obtain ⟨s1, r1, e1, e2, e3, e4⟩ := S_showOff h q
        refine ⟨s1, r1, iteF m1 (iteF m6 (iteF m7 (iteF m25 (iteT m47 (bindS e1 rfl))))), iteF hm4 (iteF m1 (iteF m6 (iteF m7 (iteF m25 (iteT m47 (iteT rfl ?_)))))), e3, e4⟩
        unfold f_Rf_setsMode_j190
        exact iteF (by decide) (iteF (by simpa using q) (bindS e2 rfl))
    · rcases h.sh with q | q
      · obtain ⟨s1, r1, e1, e2, e3, e4⟩ := S_showOn h q
        exact ⟨s1, r1, iteF m1 (iteF m6 (iteF m7 (iteF m25 (iteT m47 (bindS e1 rfl))))), iteF hm4 (iteF m1 (iteF m6 (iteF m7 (iteF m25 (iteT m47 (iteF (by decide) (iteF (by simpa using q) e2))))))), e3, e4⟩
      · refine ⟨s, r, iteF m1 (iteF m6 (iteF m7 (iteF m25 (iteT m47 (bindS (x := (0, s)) ?_ rfl))))), iteF hm4 (iteF m1 (iteF m6 (iteF m7 (iteF m25 (iteT m47 (iteF (by decide) (iteT (by omega) ?_))))))), h, zKp.rf r⟩
        · unfold f_Sc_showOther
          exact iteF (by rw [h.s8, q]; decide) rfl
        · unfold f_Rf_setsMode_j190
          exact iteT (by decide) rfl
  by_cases m100 : m = 100
  · exact ⟨_, _, iteF m1 (iteF m6 (iteF m7 (iteF m25 (iteF m47 (iteT m100 (iteT hv rfl)))))), iteF hm4 (iteF m1 (iteF m6 (iteF m7 (iteF m25 (iteF m47 (iteT m100 (iteT hv rfl))))))), h.mous hv, zKp.uS (by decide)⟩
  by_cases m204 : m = 204
  · exact ⟨_, _, iteF m1 (iteF m6 (iteF m7 (iteF m25 (iteF m47 (iteF m100 (iteT m204 (iteT hv rfl))))))), iteF hm4 (iteF m1 (iteF m6 (iteF m7 (iteF m25 (iteF m47 (iteF m100 (iteT m204 (iteT hv rfl)))))))), h.pste hv, zKp.uS (by decide)⟩
  · exact ⟨s, r, iteF m1 (iteF m6 (iteF m7 (iteF m25 (iteF m47 (iteF m100 (iteF m204 rfl)))))), iteF hm4 (iteF m1 (iteF m6 (iteF m7 (iteF m25 (iteF m47 (iteF m100 (iteF m204 rfl))))))), h, zKp.rf r⟩
