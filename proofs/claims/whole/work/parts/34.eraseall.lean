/-! ===== all erased ===== -/
theorem S_clearHist {s r : zSt} (h : zRel s r) : f_Hi_clear (zsb (zsh 5) s) = some (0, uS (zsb (zsh 5) s) 0 2 0) ∧ zpb (zsh 5) 3 s (uS (zsb (zsh 5) s) 0 2 0) = uS s 5 2 0 ∧ zFr s r (uS s 5 2 0) (uS r 0 7 0) := by
  refine ⟨rfl, ?_, ?_⟩
  · rw [zpb_uS _ _ _ _ _ _ _ (by omega), zpb_same]
  · have k := h.h (H := s.2 6) (G := s.2 7) (P := r.2 3) (Q := r.2 4) (n := 0) (by decide) (fun i a b => absurd a (by omega)) (fun i a b => absurd a (by omega)) h.2.2.2.2.1.2.2.2 h.2.1.2.2.2.2.2.2.2.1 (fun k a b => absurd a (by omega))
    have e1 : uA (uA s 6 (s.2 6)) 7 (s.2 7) = s := by rw [uA_id, uA_id]
    have e2 : uA (uA r 3 (r.2 3)) 4 (r.2 4) = r := by rw [uA_id, uA_id]
    rw [e1, e2] at k
    exact k.fr
theorem c_othersBig {s : zSt} {n N : Int} (hn : 3 ≤ n) (hN : s.1 0 9 = N) (hN2 : 2 ≤ N ∧ N ≤ 12) (f : Int → Int × zSt → Option ((Int × zSt) ⊕ zSt)) (hf : f = f_Sc_eraseOtherRows_l22 ∨ f = f_Sc_eraseOtherRows_l22_1) : zloop (f n) zfu (0, s) = some s := by
  have key : ∀ i : Int, 0 ≤ i → i < N → f n (i, s) = some (.inl (i + 1, s)) := by
    intro i a b
    have ew : w32 (i + 1) = i + 1 := w32i (by omega) (by omega)
    have e9 : (some (Sum.inl (w32 (i + 1), s)) : Option ((Int × zSt) ⊕ zSt)) = some (.inl (i + 1, s)) := by rw [ew]
    rcases hf with rfl | rfl
    · unfold f_Sc_eraseOtherRows_l22
      exact iteF (by show ¬ s.1 0 9 ≤ i; omega) (iteF (by omega) (iteT (by omega) (iteT (by omega) e9)))
    · unfold f_Sc_eraseOtherRows_l22_1
      exact iteF (by show ¬ s.1 0 9 ≤ i; omega) (iteF (by omega) (iteT (by omega) (iteT (by omega) e9)))
  refine zloop_up (step := f n) (r := s) N.toNat (n := zfu) (fun j => ((j : Int), s)) (fun j hj => ?_) ?_ ?_
  · exact key (j : Int) (by omega) (by omega)
  · rcases hf with rfl | rfl
    · unfold f_Sc_eraseOtherRows_l22
      exact iteT (by show s.1 0 9 ≤ (N.toNat : Int); omega) rfl
    · unfold f_Sc_eraseOtherRows_l22_1
      exact iteT (by show s.1 0 9 ≤ (N.toNat : Int); omega) rfl
  · unfold zfu; omega
theorem S_eraseAll {s r : zSt} (h : zRel s r) {n : Int} (hn : 0 ≤ n) : ∃ s1 s2 r1 r0, f_Sc_eraseOtherRows n s = some (0, s1) ∧ zFr s r s1 r0 ∧ f_Sc_eraseRow n s1 = some (0, s2) ∧ f_Rf_erasesAll n r = some (0, r1) ∧ zRel s2 r1 ∧ zKp r r1 := by
  have z := h.size
  obtain ⟨d1, d2, d3, d4, d5, d6⟩ := h.zz
  by_cases q : n ≤ 2
  · have key : ∃ s1 r0, f_Sc_eraseOtherRows n s = some (0, s1) ∧ f_Rf_erasesAll n r = some (0, zeR n r0) ∧ zPo s r s1 r0 := by
      unfold f_Sc_eraseOtherRows f_Rf_erasesAll f_Rf_erasesAll_j10 f_Sc_eraseOtherRows_j15
      rcases h.sh with q8 | q8
      · obtain ⟨s1, r0, a1, a2, a3⟩ := S_others0 h q8 ⟨hn, q⟩
        exact ⟨s1, r0, iteT (by omega) (iteT (by omega) (bindS a1 rfl)), iteT (by omega) (bindS a2 rfl), a3⟩
      · obtain ⟨s1, r0, a1, a2, a3⟩ := S_others1 h q8 ⟨hn, q⟩
        exact ⟨s1, r0, iteT (by omega) (iteF (by omega) (bindS a1 rfl)), iteT (by omega) (bindS a2 rfl), a3⟩
    obtain ⟨s1, r0, a1, a2, a3⟩ := key
    obtain ⟨s2, b1, b2⟩ := S_eraseRow a3.1 ⟨hn, q⟩
    exact ⟨s1, s2, _, r0, a1, a3.fr, b1, a2, b2.1, a3.fr.kp.trans b2.fr.kp⟩
  · have hbig : ∀ r : zSt, 2 ≤ r.1 0 1 → zloop (f_Rf_erasesAll_l12 n) zfu (0, r) = some r := by
      intro r hr
      show zloop (f_Rf_erasesAll_l12 n) (999999 + 1) (0, r) = _
      unfold zloop f_Rf_erasesAll_l12
      rw [if_neg (show ¬ (0, r).2.1 0 1 ≤ (0, r).1 by show ¬ r.1 0 1 ≤ 0; omega), if_pos (by omega)]
      rfl
    have herase : ∀ s : zSt, f_Sc_eraseRow n s = some (0, s) := by
      intro s
      unfold f_Sc_eraseRow
      exact iteF (by omega) (iteF (by omega) rfl)
    have hoth : ∀ s : zSt, s.1 0 9 = r.1 0 1 → f_Sc_eraseOtherRows_j15 n s = some (0, s) := by
      intro s hs
      unfold f_Sc_eraseOtherRows_j15
      have e1 := c_othersBig (s := s) (n := n) (by omega) hs z.1 _ (Or.inl rfl)
      have e2 := c_othersBig (s := s) (n := n) (by omega) hs z.1 _ (Or.inr rfl)
      by_cases q8 : s.1 0 8 = 0
      · exact iteT q8 (bindS e1 rfl)
      · exact iteF q8 (bindS e2 rfl)
    unfold f_Sc_eraseOtherRows f_Rf_erasesAll f_Rf_erasesAll_j10
    by_cases q3 : n = 3
    · obtain ⟨e1, e2, e3⟩ := S_clearHist h
      refine ⟨_, _, _, _, iteF (by omega) (bindS e1 ?_), e3, herase _, iteF (by omega) (bindS (hbig (uS r 0 7 0) z.1.1) rfl), e3.1, e3.kp⟩
      show f_Sc_eraseOtherRows_j15 n (zpb (zsh 5) 3 s (uS (zsb (zsh 5) s) 0 2 0)) = _
      rw [e2]
      exact hoth _ d2
    · exact ⟨_, _, _, _, iteT q3 (hoth s d2), zFr.rf h, herase _, iteT q3 (bindS (hbig r z.1.1) rfl), h, zKp.rf r⟩
