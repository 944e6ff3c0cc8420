/-! ===== codes with several numbers ===== -/
theorem pair_up {cS cR : Int × zSt → Option ((Int × zSt) ⊕ zSt)} {Q : zSt → zSt → Prop} {N : Int}
    (hstep : ∀ i s r, 0 ≤ i → i < N → Q s r → ∃ s1 r1, cS (i, s) = some (.inl (i + 1, s1)) ∧ cR (i, r) = some (.inl (i + 1, r1)) ∧ Q s1 r1)
    (hend : ∀ i s r, N ≤ i → Q s r → cS (i, s) = some (.inr s) ∧ cR (i, r) = some (.inr r)) :
    ∀ (m n : Nat) (i : Int) (s r : zSt), 0 ≤ i → m = (N - i).toNat → m < n → Q s r → ∃ s1 r1, zloop cS n (i, s) = some s1 ∧ zloop cR n (i, r) = some r1 ∧ Q s1 r1
  | _, 0, _, _, _, _, _, h, _ => absurd h (Nat.not_lt_zero _)
  | 0, n + 1, i, s, r, h0, hm, hn, hq => by
    obtain ⟨e1, e2⟩ := hend i s r (by omega) hq
    refine ⟨s, r, ?_, ?_, hq⟩
    · unfold zloop
      rw [e1]
      rfl
    · unfold zloop
      rw [e2]
      rfl
  | m + 1, n + 1, i, s, r, h0, hm, hn, hq => by
    obtain ⟨s1, r1, e1, e2, e3⟩ := hstep i s r h0 (by omega) hq
    obtain ⟨s2, r2, f1, f2, f3⟩ := pair_up hstep hend m n (i + 1) s1 r1 (by omega) (by omega) (by omega) e3
    refine ⟨s2, r2, ?_, ?_, f3⟩
    · unfold zloop
      rw [e1]
      exact f1
    · unfold zloop
      rw [e2]
      exact f2
theorem zRel.nu {s r : zSt} (h : zRel s r) : (s.1 14 4 = r.1 0 31 ∧ (∀ i, 0 ≤ i → i < r.1 0 31 → i < 4 → s.2 19 i = r.2 5 i) ∧ ∀ i, r.1 0 31 ≤ i → i < 4 → s.2 19 i = 0) ∧ (0 ≤ r.1 0 31 ∧ r.1 0 31 ≤ 5) ∧ (∀ i, 0 ≤ i → i < r.1 0 31 → i < 4 → 0 ≤ r.2 5 i ∧ r.2 5 i ≤ 999) ∧ s.1 19 0 = 4 ∧ r.1 5 0 = 4 := by
  obtain ⟨hL, ⟨hZ, hg, hs, hm, hv, hr, hk, hh⟩, p0, p1, xh, xu, xm, xv, xz, xt, xr⟩ := h
  exact ⟨xr.2.2.2.1, hr.2.2.2.2.2.2.2.1, hr.2.2.2.2.2.2.2.2, hL.2.1.2.2.1, hZ.1.2.2.2.2.1⟩
theorem zRel.num {s r : zSt} (h : zRel s r) {i : Int} (hi : 0 ≤ i ∧ i < 4) : f_Re_number i (zsb (zsh 14) s) = some (if i < r.1 0 31 then r.2 5 i else 0) := by
  obtain ⟨⟨h1, h2, h3⟩, h4, h5, h6, h7⟩ := h.nu
  unfold f_Re_number
  refine iteF (by omega) (iteF (by omega) (iteT ⟨hi.1, by show i < s.1 19 0; omega⟩ ?_))
  show some (s.2 19 i) = _
  by_cases q : i < r.1 0 31
  · rw [if_pos q, h2 i hi.1 q hi.2]
  · rw [if_neg q, h3 i (by omega) hi.2]
theorem S_codedMark {s r : zSt} (h : zRel s r) (ht : r.1 0 31 ≤ 4) (b : Int) : ∃ s1 r1, f_Sc_codedWithMark b s = some (0, s1) ∧ f_Rf_modes b 1 r = some (0, r1) ∧ zRel s1 r1 ∧ zKp r r1 := by
  obtain ⟨⟨h1, h2, h3⟩, h4, h5, h6, h7⟩ := h.nu
  obtain ⟨v, hv⟩ : ∃ v : Int, v = (if ¬ b = 104 then 0 else 1) := ⟨_, rfl⟩
  have hv01 : v = 0 ∨ v = 1 := by grind
  by_cases q : b = 104 ∨ b = 108
  · have k := pair_up (cS := f_Sc_codedWithMark_l15 b) (cR := f_Rf_modes_l2 b 1) (Q := fun s1 r1 => zRel s1 r1 ∧ zKp r r1) (N := r.1 0 31) (fun i s2 r2 a1 a2 a3 => ?_) (fun i s2 r2 a1 a2 => ?_) (r.1 0 31).toNat zfu 0 s r (by decide) (by omega) (by unfold zfu; omega) ⟨h, zKp.rf r⟩
    · obtain ⟨s1, r1, e1, e2, e3, e4⟩ := k
      refine ⟨s1, r1, ?_, bindS e2 rfl, e3, e4⟩
      unfold f_Sc_codedWithMark f_Sc_codedWithMark_j13
      by_cases q1 : b = 104
      · exact iteT q1 (bindS e1 rfl)
      · exact iteF q1 (iteT (q.resolve_left q1) (bindS e1 rfl))
    · obtain ⟨g1, g2⟩ := a3
      have e31 : r2.1 0 31 = r.1 0 31 := g2.1 31 (by omega)
      obtain ⟨⟨k1, k2, k3⟩, k4, k5, k6, k7⟩ := g1.nu
      have en := g1.num (i := i) (by omega)
      rw [if_pos (by omega)] at en
      have hr := k5 i a1 (by omega) (by omega)
      obtain ⟨s3, r3, f1, f2, f3, f4⟩ := S_setMarked g1 (m := r2.2 5 i) (v := v) hv01 (by omega)
      have ew : w32 (i + 1) = i + 1 := w32i (by omega) (by omega)
      refine ⟨s3, r3, ?_, ?_, f3, g2.trans f4⟩
      · unfold f_Sc_codedWithMark_l15
        refine iteF (by show ¬ s2.1 14 4 ≤ i; omega) (bindS en ?_)
        rw [← hv]
        refine bindS f1 ?_
        show some (Sum.inl (w32 (i + 1), s3)) = _
        rw [ew]
      · unfold f_Rf_modes_l2
        refine iteF (by show ¬ r2.1 0 31 ≤ i; omega) ?_
        rw [← hv]
        have e9 : ((f_Rf_setsMode (r2.2 5 i) v r2).bind fun x17 => (some (Sum.inl (w32 (i + 1), x17.2)) : Option ((Int × zSt) ⊕ zSt))) = some (Sum.inl (i + 1, r3)) := bindS f2 (by rw [ew])
        by_cases q1 : b = 104
        · exact iteT q1 (iteF (by decide) (iteT ⟨a1, by show i < r2.1 5 0; omega⟩ e9))
        · exact iteF q1 (iteF (by simpa using q.resolve_left q1) (iteF (by decide) (iteT ⟨a1, by show i < r2.1 5 0; omega⟩ e9)))
    · obtain ⟨g1, g2⟩ := a2
      have e31 : r2.1 0 31 = r.1 0 31 := g2.1 31 (by omega)
      have k1 := g1.nu.1.1
      refine ⟨?_, ?_⟩
      · unfold f_Sc_codedWithMark_l15
        exact iteT (by show s2.1 14 4 ≤ i; omega) rfl
      · unfold f_Rf_modes_l2
        exact iteT (by show r2.1 0 31 ≤ i; omega) rfl
  · refine ⟨s, r, ?_, ?_, h, zKp.rf r⟩
    · unfold f_Sc_codedWithMark
      exact iteF (by omega) (iteF (by omega) rfl)
    · unfold f_Rf_modes
      refine bindS (x := r) ?_ rfl
      show zloop (f_Rf_modes_l2 b 1) (999999 + 1) (0, r) = some r
      unfold zloop f_Rf_modes_l2
      by_cases q0 : r.1 0 31 ≤ 0
      · rw [if_pos (show (0, r).2.1 0 31 ≤ (0, r).1 from q0)]
        rfl
      · rw [if_neg (show ¬ (0, r).2.1 0 31 ≤ (0, r).1 from q0), if_neg (by omega), if_pos (by omega)]
        rfl
theorem S_setInsert {s r : zSt} (h : zRel s r) (ht : r.1 0 31 ≤ 4) {b : Int} (hb : b = 104 ∨ b = 108) : ∃ s1 r1, f_Sc_setInsert (if ¬ b = 104 then 0 else 1) s = some (0, s1) ∧ f_Rf_modes b 0 r = some (0, r1) ∧ zRel s1 r1 ∧ zKp r r1 := by
  obtain ⟨⟨h1, h2, h3⟩, h4, h5, h6, h7⟩ := h.nu
  obtain ⟨v, hv⟩ : ∃ v : Int, v = (if ¬ b = 104 then 0 else 1) := ⟨_, rfl⟩
  have hv01 : v = 0 ∨ v = 1 := by grind
  rw [← hv]
  have k := pair_up (cS := f_Sc_setInsert_l2 v) (cR := f_Rf_modes_l2 b 0) (Q := fun s1 r1 => zRel s1 r1 ∧ zKp r r1) (N := r.1 0 31) (fun i s2 r2 a1 a2 a3 => ?_) (fun i s2 r2 a1 a2 => ?_) (r.1 0 31).toNat zfu 0 s r (by decide) (by omega) (by unfold zfu; omega) ⟨h, zKp.rf r⟩
  · obtain ⟨s1, r1, e1, e2, e3, e4⟩ := k
    exact ⟨s1, r1, bindS e1 rfl, bindS e2 rfl, e3, e4⟩
  · obtain ⟨g1, g2⟩ := a3
    have e31 : r2.1 0 31 = r.1 0 31 := g2.1 31 (by omega)
    obtain ⟨⟨k1, k2, k3⟩, k4, k5, k6, k7⟩ := g1.nu
    have en := g1.num (i := i) (by omega)
    rw [if_pos (by omega)] at en
    have ew : w32 (i + 1) = i + 1 := w32i (by omega) (by omega)
    have hin : 0 ≤ i ∧ i < r2.1 5 0 := ⟨a1, by omega⟩
    by_cases q : r2.2 5 i = 4
    · refine ⟨uS s2 13 5 v, uS r2 0 22 v, ?_, ?_, g1.insr hv01, g2.trans (zKp.uS (by decide))⟩
      · unfold f_Sc_setInsert_l2
        refine iteF (by show ¬ s2.1 14 4 ≤ i; omega) (bindS en (iteF (by simpa using q) (iteT hv01 ?_)))
        show some (Sum.inl (w32 (i + 1), _)) = _
        rw [ew]
      · unfold f_Rf_modes_l2
        refine iteF (by show ¬ r2.1 0 31 ≤ i; omega) ?_
        rw [← hv]
        have f2 : f_Rf_setsMode (if ¬ r2.2 5 i = 4 then (-1) else (-4)) v r2 = some (0, uS r2 0 22 v) := by
          rw [if_neg (by simpa using q)]
          unfold f_Rf_setsMode
          exact iteT rfl (iteT hv01 rfl)
        have e9 : ((f_Rf_setsMode (if ¬ r2.2 5 i = 4 then (-1) else (-4)) v r2).bind fun x17 => (some (Sum.inl (w32 (i + 1), x17.2)) : Option ((Int × zSt) ⊕ zSt))) = some (Sum.inl (i + 1, uS r2 0 22 v)) := bindS f2 (by rw [ew])
        rcases hb with q1 | q1
        · exact iteT q1 (iteT rfl (iteT hin e9))
        · exact iteF (by omega) (iteF (by simpa using q1) (iteT rfl (iteT hin e9)))
    · refine ⟨s2, r2, ?_, ?_, g1, g2⟩
      · unfold f_Sc_setInsert_l2
        refine iteF (by show ¬ s2.1 14 4 ≤ i; omega) (bindS en (iteT q ?_))
        show some (Sum.inl (w32 (i + 1), _)) = _
        rw [ew]
      · unfold f_Rf_modes_l2
        refine iteF (by show ¬ r2.1 0 31 ≤ i; omega) ?_
        rw [← hv]
        have f2 : f_Rf_setsMode (if ¬ r2.2 5 i = 4 then (-1) else (-4)) v r2 = some (0, r2) := by
          rw [if_pos q]
          unfold f_Rf_setsMode
          rfl
        have e9 : ((f_Rf_setsMode (if ¬ r2.2 5 i = 4 then (-1) else (-4)) v r2).bind fun x17 => (some (Sum.inl (w32 (i + 1), x17.2)) : Option ((Int × zSt) ⊕ zSt))) = some (Sum.inl (i + 1, r2)) := bindS f2 (by rw [ew])
        rcases hb with q1 | q1
        · exact iteT q1 (iteT rfl (iteT hin e9))
        · exact iteF (by omega) (iteF (by simpa using q1) (iteT rfl (iteT hin e9)))
  · obtain ⟨g1, g2⟩ := a2
    have e31 : r2.1 0 31 = r.1 0 31 := g2.1 31 (by omega)
    have k1 := g1.nu.1.1
    refine ⟨?_, ?_⟩
    · unfold f_Sc_setInsert_l2
      exact iteT (by show s2.1 14 4 ≤ i; omega) rfl
    · unfold f_Rf_modes_l2
      exact iteT (by show r2.1 0 31 ≤ i; omega) rfl
