/-! ===== escaped bytes ===== -/
theorem S_escape {s r : zSt} (h : zRel s r) {b : Int} (hb : b ≠ 91 ∧ b ≠ 93) : ∃ s1 r1, f_Sc_escaped b (uS s 14 3 0) = some (0, s1) ∧ f_Rf_escapes b r = some (0, r1) ∧ zFin (uS s 14 3 0) (uS r 0 29 0) s1 r1 [] := by
  have h0 := h.st (x := 0) (Or.inl rfl)
  have key : (∃ s1 r1, f_Sc_escaped b (uS s 14 3 0) = some (0, s1) ∧ f_Rf_escapes b r = some (0, r1) ∧ zRel s1 r1 ∧ zKp (uS r 0 29 0) r1) → ∃ s1 r1, f_Sc_escaped b (uS s 14 3 0) = some (0, s1) ∧ f_Rf_escapes b r = some (0, r1) ∧ zFin (uS s 14 3 0) (uS r 0 29 0) s1 r1 [] := by
    intro ⟨s1, r1, e1, e2, e3, e4⟩
    exact ⟨s1, r1, e1, e2, (zEnd.of e3 e4 (K_Sc_escaped (zAn.rf _) _ e1)).fin⟩
  apply key
  have z := h.size
  unfold f_Sc_escaped f_Rf_escapes
  by_cases q1 : b = 55
  · obtain ⟨p, r1, e1, e2, e3, e4, _⟩ := S_save h0
    exact ⟨_, r1, iteT q1 (bindS e1 rfl), iteT q1 (bindS e2 rfl), e3, e4⟩
  by_cases q2 : b = 56
  · obtain ⟨s1, r1, e1, e2, e3, e4, _⟩ := S_bring h0
    exact ⟨_, r1, iteF q1 (iteT q2 (bindS e1 rfl)), iteF q1 (iteT q2 (bindS e2 rfl)), e3, e4⟩
  by_cases q3 : b = 68
  · obtain ⟨s1, r2, e1, e2, e3, e4, e5⟩ := S_feed0 h0
    exact ⟨_, _, iteF q1 (iteF q2 (iteT q3 (bindS e1 rfl))), iteF q1 (iteF q2 (iteT q3 (bindS e2 rfl))), e3, e4.trans (zKp.uS (by decide))⟩
  by_cases q4 : b = 69
  · obtain ⟨s1, r2, e1, e2, e3, e4, e5⟩ := S_feed0 h0
    refine ⟨_, _, iteF q1 (iteF q2 (iteF q3 (iteT q4 (bindS e1 rfl)))), iteF q1 (iteF q2 (iteF q3 (iteT q4 (bindS e2 rfl)))), ?_, (e4.trans (zKp.uS (by decide))).trans (zKp.uS (by decide))⟩
    rw [uS_comm r2 0 10 0 11 _ _ (by decide)]
    have e6 : r2.1 0 2 = r.1 0 2 := e5
    exact e3.col (x := 0) (by show (0 : Int) ≤ 0 ∧ 0 < r2.1 0 2; omega)
  by_cases q5 : b = 72
  · obtain ⟨s1, e1, e2⟩ := S_setTab h0
    exact ⟨_, _, iteF q1 (iteF q2 (iteF q3 (iteF q4 (iteT q5 (bindS e1 rfl))))), iteF q1 (iteF q2 (iteF q3 (iteF q4 (iteT q5 rfl)))), e2, zKp.uS (by decide)⟩
  by_cases q6 : b = 77
  · obtain ⟨s1, r1, e1, e2, e3, e4⟩ := S_feedBack0 h0
    exact ⟨s1, r1, iteF q1 (iteF q2 (iteF q3 (iteF q4 (iteF q5 (iteT q6 (bindS e1 rfl)))))), iteF q1 (iteF q2 (iteF q3 (iteF q4 (iteF q5 (iteT q6 e4))))), e2, e3⟩
  by_cases q7 : b = 99
  · obtain ⟨s1, r1, e1, e2, e3, e4⟩ := S_reset h0
    exact ⟨s1, r1, iteF q1 (iteF q2 (iteF q3 (iteF q4 (iteF q5 (iteF q6 (iteT q7 (bindS e1 rfl))))))), iteF q1 (iteF q2 (iteF q3 (iteF q4 (iteF q5 (iteF q6 (iteF hb.1 (iteF hb.2 (iteT q7 (bindS e2 rfl))))))))), e3, e4⟩
  · exact ⟨_, _, iteF q1 (iteF q2 (iteF q3 (iteF q4 (iteF q5 (iteF q6 (iteF q7 rfl)))))), iteF q1 (iteF q2 (iteF q3 (iteF q4 (iteF q5 (iteF q6 (iteF hb.1 (iteF hb.2 (iteF q7 rfl)))))))), h0, zKp.rf _⟩
/-! ===== bytes of a code ===== -/
theorem zRel.cds {s r : zSt} (h : zRel s r) (h2 : r.1 0 29 = 2) : s.1 14 3 = 2 ∧ s.1 14 4 = r.1 0 31 ∧ s.1 14 5 = r.1 0 33 ∧ s.1 14 6 = r.1 0 34 ∧ s.1 14 7 = 1 - r.1 0 32 ∧ (1 ≤ r.1 0 31 ∧ r.1 0 31 ≤ 5) ∧ z01 (r.1 0 32) ∧ z01 (r.1 0 33) ∧ z01 (r.1 0 34) := by
  obtain ⟨xr, hr⟩ := h.xr
  obtain ⟨a1, a2, a3⟩ := xr.2.2.2.2 h2
  exact ⟨xr.1.1.trans h2, xr.2.2.2.1.1, a1, a2, a3, ⟨hr.2.2.2.2.2.2.1 h2, hr.2.2.2.2.2.2.2.1.2⟩, hr.2.1, hr.2.2.1, hr.2.2.2.1⟩
theorem zpb_r3 {s : zSt} {k : Nat} {x : Int} : zpb (zsh 14) 6 s (uS (zsb (zsh 14) s) 0 k x) = uS s 14 k x := by
  rw [zpb_uS _ _ _ _ _ _ _ (by omega), zpb_same, Nat.zero_add]
/-- a code goes on -/
theorem S_codeOn {s r : zSt} (h : zRel s r) (h2 : r.1 0 29 = 2) {b : Int} (hb : 32 ≤ b ∧ b < 64) : ∃ p r1, f_Re_readCode b (zsb (zsh 14) s) = some (0, p) ∧ f_Rf_codes b r = some (0, r1) ∧ zFin s r (zpb (zsh 14) 6 s p) r1 [] := by
  obtain ⟨a3, a4, a5, a6, a7, at', a32, a33, a34⟩ := h.cds h2
  obtain ⟨⟨k1, k2, k3⟩, k4, k5, k6, k7⟩ := h.nu
  have done : ∀ {p r1 : zSt} {t c q x y : Int} {N M : Int → Int}, zpb (zsh 14) 6 s p = uA (uS (uS (uS (uS s 14 4 t) 14 5 q) 14 6 x) 14 7 y) 19 N → r1 = uA (uS (uS (uS (uS r 0 31 t) 0 32 c) 0 33 q) 0 34 x) 5 M → (1 ≤ t ∧ t ≤ 5) → z01 c → z01 q → z01 x → (∀ i, 0 ≤ i → i < t → i < 4 → (0 ≤ M i ∧ M i ≤ 999) ∧ N i = M i) → (∀ i, t ≤ i → i < 4 → N i = 0) → y = 1 - c → zFin s r (zpb (zsh 14) 6 s p) r1 [] := by
    intro p r1 t c q x y N M e1 e2 ht hc hq hx h5 h6 hy
    rw [e1, e2]
    refine zFin.of0 (h.cd h2 ht hc hq hx h5 h6 hy) ⟨fun _ => rfl, fun _ => rfl, rfl⟩ (fun k q => ?_) (fun i a b => uA_a (by omega))
    simp only [uA1, uS1]
    grind
  have hN : ∀ i, 0 ≤ i → i < r.1 0 31 → i < 4 → (0 ≤ r.2 5 i ∧ r.2 5 i ≤ 999) ∧ s.2 19 i = r.2 5 i := fun i a b c => ⟨k5 i a b c, k2 i a b c⟩
  have ei : f_Rf_in b 48 57 = some (if b < 48 then 0 else if 57 < b then 0 else 1) := c_Rf_in _ _ _
  have sSame : uA (uS (uS (uS (uS s 14 4 (r.1 0 31)) 14 5 (r.1 0 33)) 14 6 (r.1 0 34)) 14 7 1) 19 (s.2 19) = uS s 14 7 1 := by
    rw [← a4, ← a5, ← a6, uS_id, uS_id, uS_id]
    exact uA_id (uS s 14 7 1) 19
  by_cases q1 : 48 ≤ b ∧ b ≤ 57
  · -- a digit
    rw [if_neg (by omega), if_neg (by omega)] at ei
    have ed : w32 (b - 48) = b - 48 := w32i (by omega) (by omega)
    have et : w32 (r.1 0 31 - 1) = r.1 0 31 - 1 := w32i (by omega) (by omega)
    by_cases q4 : 4 < r.1 0 31
    · refine ⟨uS (zsb (zsh 14) s) 0 7 1, uS r 0 32 0, ?_, ?_, ?_⟩
      · unfold f_Re_readCode
        refine iteT (by omega) (iteF (by omega) (iteF (by omega) (bindS (x := (0, zsb (zsh 14) s)) ?_ rfl)))
        unfold f_Re_addDigit
        rw [show (zsb (zsh 14) s).1 0 4 = r.1 0 31 from a4, et]
        exact iteF (by omega) (iteT (by omega) rfl)
      · unfold f_Rf_codes
        exact bindS ei (iteF (by decide) (iteT q4 rfl))
      · refine done (t := r.1 0 31) (c := 0) (q := r.1 0 33) (x := r.1 0 34) (y := 1) (N := s.2 19) (M := r.2 5) ?_ ?_ at' (Or.inl rfl) a33 a34 hN k3 (by decide)
        · rw [zpb_r3, sSame]
        · refine zst_ext (fun i j => ?_) (fun i => ?_)
          · simp only [uA1, uS1]
            grind
          · rw [uA2]
            show r.2 i = _
            split
            · rename_i q; rw [q]
            · rfl
    · -- the number grows
      obtain ⟨v, hv⟩ : ∃ v, v = (if 999 < r.2 5 (r.1 0 31 - 1) * 10 + (b - 48) then 999 else r.2 5 (r.1 0 31 - 1) * 10 + (b - 48)) := ⟨_, rfl⟩
      have hm := k5 (r.1 0 31 - 1) (by omega) (by omega) (by omega)
      have hm2 := k2 (r.1 0 31 - 1) (by omega) (by omega) (by omega)
      have ew : w32 (w32 (r.2 5 (r.1 0 31 - 1) * 10) + (b - 48)) = r.2 5 (r.1 0 31 - 1) * 10 + (b - 48) := by rw [w32i (x := r.2 5 (r.1 0 31 - 1) * 10) (by omega) (by omega), w32i (by omega) (by omega)]
      have ew2 : w32 (w32 (w32 (10 * r.2 5 (r.1 0 31 - 1)) + b) - 48) = r.2 5 (r.1 0 31 - 1) * 10 + (b - 48) := by
        rw [w32i (x := 10 * r.2 5 (r.1 0 31 - 1)) (by omega) (by omega), w32i (x := 10 * r.2 5 (r.1 0 31 - 1) + b) (by omega) (by omega), w32i (by omega) (by omega)]
        omega
      have hv0 : 0 ≤ v ∧ v ≤ 999 := by rw [hv]; split <;> omega
      refine ⟨uS (uE (zsb (zsh 14) s) 5 (r.1 0 31 - 1) v) 0 7 1, uS (uE r 5 (r.1 0 31 - 1) v) 0 32 0, ?_, ?_, ?_⟩
      · unfold f_Re_readCode
        refine iteT (by omega) (iteF (by omega) (iteF (by omega) (bindS (x := (0, uE (zsb (zsh 14) s) 5 (r.1 0 31 - 1) v)) ?_ rfl)))
        unfold f_Re_addDigit
        rw [show (zsb (zsh 14) s).1 0 4 = r.1 0 31 from a4, et, ed]
        refine iteF (by omega) (iteF (by omega) (iteT ⟨by omega, by show r.1 0 31 - 1 < s.1 19 0; omega⟩ (iteT ⟨by omega, by show r.1 0 31 - 1 < s.1 19 0; omega⟩ ?_)))
        rw [show (zsb (zsh 14) s).2 5 (r.1 0 31 - 1) = r.2 5 (r.1 0 31 - 1) from hm2, ew, ← hv]
      · unfold f_Rf_codes
        refine bindS ei (iteF (by decide) (iteF q4 ?_))
        rw [et, ew2]
        refine iteT ⟨by omega, by omega⟩ (iteT ⟨by omega, by omega⟩ ?_)
        rw [show (if r.2 5 (r.1 0 31 - 1) * 10 + (b - 48) ≤ 999 then r.2 5 (r.1 0 31 - 1) * 10 + (b - 48) else 999) = v by rw [hv]; split <;> split <;> omega]
      · refine done (t := r.1 0 31) (c := 0) (q := r.1 0 33) (x := r.1 0 34) (y := 1) (N := zup (s.2 19) (r.1 0 31 - 1) v) (M := zup (r.2 5) (r.1 0 31 - 1) v) ?_ ?_ at' (Or.inl rfl) a33 a34 (fun i c d e => ?_) (fun i c d => ?_) (by decide)
        · rw [zpb_uS _ _ _ _ _ _ _ (by omega)]
          unfold uE
          rw [zpb_uA _ _ _ _ _ _ (by omega), zpb_same]
          show uS (uA s 19 (zup (s.2 19) (r.1 0 31 - 1) v)) 14 7 1 = _
          refine (zst_ext (fun i j => ?_) (fun i => ?_))
          · simp only [uA1, uS1]
            grind
          · rfl
        · refine zst_ext (fun i j => ?_) (fun i => ?_)
          · simp only [uE, uA1, uS1]
            grind
          · rfl
        · have := hN i c d e
          unfold zup
          grind
        · have := k3 i c d
          unfold zup
          rw [if_neg (by omega)]
          exact this
  have ein : f_Rf_in b 48 57 = some 0 := by rw [ei]; grind
  have hj : ∀ {p r1 : zSt}, f_Re_readCode_j69 b (zsb (zsh 14) s) = some (0, p) → f_Re_readCode b (zsb (zsh 14) s) = some (0, p) := by
    intro p _ e
    unfold f_Re_readCode
    by_cases q : b < 48
    · exact iteT (by omega) (iteT q e)
    · exact iteT (by omega) (iteF q (iteT (by omega) e))
  by_cases q59 : b = 59
  · obtain ⟨t, ht⟩ : ∃ t, t = (if 4 < r.1 0 31 then 4 else r.1 0 31) + 1 := ⟨_, rfl⟩
    have ht2 : 1 ≤ t ∧ t ≤ 5 ∧ (t = r.1 0 31 + 1 ∨ (t = 5 ∧ r.1 0 31 = 5)) := by rw [ht]; split <;> omega
    have e1 : w32 ((if 4 < r.1 0 31 then 4 else r.1 0 31) + 1) = t := by rw [ht]; exact w32i (by split <;> omega) (by split <;> omega)
    have e2 : w32 (r.1 0 31 + (if 4 < r.1 0 31 then 0 else 1)) = t := by rw [ht, w32i (by split <;> omega) (by split <;> omega)]; split <;> omega
    have cP : f_Re_readCode b (zsb (zsh 14) s) = some (0, uS (uS (zsb (zsh 14) s) 0 4 t) 0 7 1) := by
      refine hj (r1 := r) ?_
      unfold f_Re_readCode_j69
      rw [show (zsb (zsh 14) s).1 0 4 = r.1 0 31 from a4, e1]
      exact iteF (by simpa using q59) rfl
    have pb : zpb (zsh 14) 6 s (uS (uS (zsb (zsh 14) s) 0 4 t) 0 7 1) = uA (uS (uS (uS (uS s 14 4 t) 14 5 (r.1 0 33)) 14 6 (r.1 0 34)) 14 7 1) 19 (s.2 19) := by
      rw [zpb_uS _ _ _ _ _ _ _ (by omega), zpb_uS _ _ _ _ _ _ _ (by omega), zpb_same]
      refine zst_ext (fun i j => ?_) (fun i => ?_)
      · simp only [uA1, uS1]
        grind
      · rw [uA2]
        show s.2 i = _
        split
        · rename_i q; rw [q]
        · rfl
    by_cases q4 : 4 < t
    · refine ⟨_, uS (uS r 0 31 t) 0 32 0, cP, ?_, done pb (M := r.2 5) (c := 0) ?_ (by omega) (Or.inl rfl) a33 a34 (fun i c d e => hN i c (by omega) e) (fun i c d => by omega) (by decide)⟩
      · unfold f_Rf_codes
        refine bindS ein (iteT rfl (iteF (by simpa using q59) ?_))
        rw [e2]
        exact iteT q4 rfl
      · refine zst_ext (fun i j => ?_) (fun i => ?_)
        · simp only [uA1, uS1]
          grind
        · rw [uA2]
          show r.2 i = _
          split
          · rename_i q; rw [q]
          · rfl
    · have e3 : w32 (t - 1) = t - 1 := w32i (by omega) (by omega)
      refine ⟨_, uS (uE (uS r 0 31 t) 5 (t - 1) 0) 0 32 0, cP, ?_, done pb (M := zup (r.2 5) (t - 1) 0) (c := 0) ?_ (by omega) (Or.inl rfl) a33 a34 (fun i c d e => ?_) (fun i c d => k3 i (by omega) d) (by decide)⟩
      · unfold f_Rf_codes
        refine bindS ein (iteT rfl (iteF (by simpa using q59) ?_))
        rw [e2, e3]
        exact iteF q4 (iteT ⟨by omega, by omega⟩ rfl)
      · refine zst_ext (fun i j => ?_) (fun i => ?_)
        · simp only [uE, uA1, uS1]
          grind
        · rfl
      · unfold zup
        by_cases q : i = t - 1
        · rw [if_pos q]
          exact ⟨by decide, k3 i (by omega) e⟩
        · rw [if_neg q]
          exact hN i c (by omega) e
  have other : ∀ r1, f_Rf_codes b r = some (0, r1) → r1 = uS (uS r 0 34 1) 0 32 0 → f_Re_readCode_j69 b (zsb (zsh 14) s) = some (0, uS (uS (zsb (zsh 14) s) 0 6 1) 0 7 1) → ∃ p r1, f_Re_readCode b (zsb (zsh 14) s) = some (0, p) ∧ f_Rf_codes b r = some (0, r1) ∧ zFin s r (zpb (zsh 14) 6 s p) r1 [] := by
    intro r1 e1 e2 e3
    refine ⟨_, r1, hj (r1 := r) e3, e1, done (t := r.1 0 31) (c := 0) (q := r.1 0 33) (x := 1) (y := 1) (N := s.2 19) (M := r.2 5) ?_ ?_ at' (Or.inl rfl) a33 (Or.inr rfl) hN k3 (by decide)⟩
    · rw [zpb_uS _ _ _ _ _ _ _ (by omega), zpb_uS _ _ _ _ _ _ _ (by omega), zpb_same]
      refine zst_ext (fun i j => ?_) (fun i => ?_)
      · simp only [uA1, uS1]
        grind
      · rw [uA2]
        show s.2 i = _
        split
        · rename_i q; rw [q]
        · rfl
    · rw [e2]
      refine zst_ext (fun i j => ?_) (fun i => ?_)
      · simp only [uA1, uS1]
        grind
      · rw [uA2]
        show r.2 i = _
        split
        · rename_i q; rw [q]
        · rfl
  have j139 : f_Rf_codes_j139 b r = some (0, uS (uS r 0 34 1) 0 32 0) := by
    unfold f_Rf_codes_j139
    exact iteF (by omega) rfl
  by_cases q63 : b = 63
  · by_cases qc : r.1 0 32 = 0
    · refine other _ (bindS ein (iteT rfl (iteT q59 (iteF (by simpa using q63) (iteT qc j139))))) rfl ?_
      unfold f_Re_readCode_j69
      exact iteT q59 (iteF (by simpa using q63) (iteT (by show ¬ s.1 14 7 = 0; omega) rfl))
    · have qc1 : r.1 0 32 = 1 := a32.resolve_left qc
      refine ⟨_, uS (uS r 0 33 1) 0 32 0, hj (r1 := r) (p := uS (uS (zsb (zsh 14) s) 0 5 1) 0 7 1) ?_, bindS ein (iteT rfl (iteT q59 (iteF (by simpa using q63) (iteF qc rfl)))), done (t := r.1 0 31) (c := 0) (q := 1) (x := r.1 0 34) (y := 1) (N := s.2 19) (M := r.2 5) ?_ ?_ at' (Or.inl rfl) (Or.inr rfl) a34 hN k3 (by decide)⟩
      · unfold f_Re_readCode_j69
        exact iteT q59 (iteF (by simpa using q63) (iteF (by show ¬ ¬ s.1 14 7 = 0; omega) rfl))
      · rw [zpb_uS _ _ _ _ _ _ _ (by omega), zpb_uS _ _ _ _ _ _ _ (by omega), zpb_same]
        refine zst_ext (fun i j => ?_) (fun i => ?_)
        · simp only [uA1, uS1]
          grind
        · rw [uA2]
          show s.2 i = _
          split
          · rename_i q; rw [q]
          · rfl
      · refine zst_ext (fun i j => ?_) (fun i => ?_)
        · simp only [uA1, uS1]
          grind
        · rw [uA2]
          show r.2 i = _
          split
          · rename_i q; rw [q]
          · rfl
  · refine other _ (bindS ein (iteT rfl (iteT q59 (iteT q63 j139)))) rfl ?_
    unfold f_Re_readCode_j69
    exact iteT q59 (iteT q63 rfl)
