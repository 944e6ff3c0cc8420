/-! ===== the end of a code; any byte ===== -/
theorem zRel.isF {s r : zSt} (h : zRel s r) {x : Int} (hx : z01 x) (h2 : r.1 0 29 ≠ 2) : zRel s (uS r 0 32 x) := by
  obtain ⟨hL, ⟨hZ, hg, hs, hm, hv, hr, hk, hh⟩, p0, p1, xh, xu, xm, xv, xz, xt, xr⟩ := h
  exact ⟨hL, ⟨hZ, hg, hs, hm, hv, ⟨hr.1, hx, hr.2.2⟩, hk, hh⟩, p0, p1, xh, xu, xm, xv, xz, xt, ⟨xr.1, xr.2.1, xr.2.2.1, xr.2.2.2.1, fun q => absurd q h2⟩⟩
/-- a code ends: the state, and how many numbers count -/
theorem zRel.cdEnd {s r : zSt} (h : zRel s r) (h2 : r.1 0 29 = 2) {m : Int} (hm1 : 1 ≤ m ∧ m ≤ 4) (hm2 : m ≤ r.1 0 31) (hm3 : r.1 0 31 ≤ 4 → m = r.1 0 31) (hm4 : 4 < r.1 0 31 → m = 4) : zRel (uS (uS s 14 3 0) 14 4 m) (uS (uS r 0 29 0) 0 31 m) := by
  obtain ⟨hL, ⟨hZ, hg, hs, hm, hv, hr, hk, hh⟩, p0, p1, xh, xu, xm, xv, xz, xt, xr⟩ := h
  refine ⟨hL, ⟨hZ, hg, hs, hm, hv, ⟨(by show (0 : Int) ≤ 0 ∧ (0 : Int) ≤ 3; decide), hr.2.1, hr.2.2.1, hr.2.2.2.1, hr.2.2.2.2.1, hr.2.2.2.2.2.1, fun q => absurd (show (0 : Int) = 2 from q) (by decide), (by show 0 ≤ m ∧ m ≤ 5; omega), fun i a b c => hr.2.2.2.2.2.2.2.2 i a (by have b' : i < m := b; omega) c⟩, hk, hh⟩, p0, p1, xh, xu, xm, xv, xz, xt, ⟨⟨rfl, xr.1.2⟩, xr.2.1, fun q => absurd (show (0 : Int) = 3 from q) (by decide), ⟨rfl, fun i a b c => xr.2.2.2.1.2.1 i a (by have b' : i < m := b; omega) c, fun i a b => xr.2.2.2.1.2.2 i (by have a' : m ≤ i := a; omega) b⟩, fun q => absurd (show (0 : Int) = 2 from q) (by decide)⟩⟩
theorem zKr.rf (r : zSt) : zKr r r := ⟨fun _ _ => rfl, fun _ _ _ _ => rfl⟩
/-- what a byte does to the screen, when the reader has told what it is -/
def zTail (b x : Int) (t : zSt) : Option (Int × zSt) :=
  if x = 1 then f_Sc_drawSign b t else if x = 2 then f_Sc_addMark t else if x = 3 then f_Sc_control b t else if x = 4 then f_Sc_escaped b t else if x = 5 then f_Sc_coded b t else if x = 6 then f_Sc_codedWithMark b t else some (0, t)
theorem c_receive {b x : Int} {s p s1 : zSt} (h1 : f_Re_read b (zsb (zsh 14) s) = some (x, p)) (h2 : zTail b x (zpb (zsh 14) 6 s p) = some (0, s1)) : f_Sc_receive b s = some (0, s1) := by
  unfold zTail at h2
  unfold f_Sc_receive
  refine bindS h1 ?_
  by_cases q1 : x = 1
  · rw [if_pos q1] at h2
    exact iteT q1 (bindS h2 rfl)
  rw [if_neg q1] at h2
  refine iteF q1 ?_
  by_cases q2 : x = 2
  · rw [if_pos q2] at h2
    exact iteT q2 (bindS h2 rfl)
  rw [if_neg q2] at h2
  refine iteF q2 ?_
  by_cases q3 : x = 3
  · rw [if_pos q3] at h2
    exact iteT q3 (bindS h2 rfl)
  rw [if_neg q3] at h2
  refine iteF q3 ?_
  by_cases q4 : x = 4
  · rw [if_pos q4] at h2
    exact iteT q4 (bindS h2 rfl)
  rw [if_neg q4] at h2
  refine iteF q4 ?_
  by_cases q5 : x = 5
  · rw [if_pos q5] at h2
    exact iteT q5 (bindS h2 rfl)
  rw [if_neg q5] at h2
  refine iteF q5 ?_
  by_cases q6 : x = 6
  · rw [if_pos q6] at h2
    exact iteT q6 (bindS h2 rfl)
  rw [if_neg q6] at h2
  exact iteF q6 h2
theorem S_codeEnd {s r : zSt} (h : zRel s r) (h2 : r.1 0 29 = 2) (hp : 0 ≤ r.1 0 48 ∧ r.1 0 48 ≤ 200) {b : Int} (hb : 64 ≤ b ∧ b ≤ 126) :
    ∃ x p s1 r1 a, f_Re_readCode b (zsb (zsh 14) s) = some (x, p) ∧ zTail b x (zpb (zsh 14) 6 s p) = some (0, s1) ∧ f_Rf_codes b r = some (0, r1) ∧ zFin s r s1 r1 a := by
  obtain ⟨a3, a4, a5, a6, a7, at', a32, a33, a34⟩ := h.cds h2
  obtain ⟨m, hm⟩ : ∃ m, m = (if 4 < r.1 0 31 then 4 else r.1 0 31) := ⟨_, rfl⟩
  have hm' : m = (if r.1 0 31 ≤ 4 then r.1 0 31 else 4) := by rw [hm]; split <;> split <;> omega
  have hmb : (1 ≤ m ∧ m ≤ 4) ∧ m ≤ r.1 0 31 ∧ (r.1 0 31 ≤ 4 → m = r.1 0 31) ∧ (4 < r.1 0 31 → m = 4) := by rw [hm]; split <;> omega
  have h0 := h.cdEnd h2 hmb.1 hmb.2.1 hmb.2.2.1 hmb.2.2.2
  have pb : zpb (zsh 14) 6 s (uS (uS (zsb (zsh 14) s) 0 3 0) 0 4 m) = uS (uS s 14 3 0) 14 4 m := by
    rw [zpb_uS _ _ _ _ _ _ _ (by omega), zpb_uS _ _ _ _ _ _ _ (by omega), zpb_same]
  have an0 : zAn s (uS (uS s 14 3 0) 14 4 m) := ⟨fun _ => rfl, fun _ => rfl, rfl⟩
  generalize hs0 : uS (uS s 14 3 0) 14 4 m = s0 at *
  have fr : ∀ k, k = 0 ∨ k = 1 ∨ k = 2 ∨ 40 ≤ k → (uS (uS r 0 29 0) 0 31 m).1 0 k = r.1 0 k := fun k q => by
    simp only [uS1]
    grind
  have st0 : (uS (uS r 0 29 0) 0 31 m).1 0 29 = 0 := rfl
  have tl0 : (uS (uS r 0 29 0) 0 31 m).1 0 31 = m := rfl
  have pg0 : 0 ≤ (uS (uS r 0 29 0) 0 31 m).1 0 48 ∧ (uS (uS r 0 29 0) 0 31 m).1 0 48 ≤ 200 := hp
  have e34 : (uS (uS r 0 29 0) 0 31 m).1 0 34 = r.1 0 34 := rfl
  generalize hr0 : uS (uS r 0 29 0) 0 31 m = r0 at *
  have rd : r0.2 = r.2 := by rw [← hr0]; rfl
  have ei : f_Rf_in b 48 57 = some 0 := by rw [c_Rf_in, if_neg (by omega), if_pos (by omega)]
  have er : ∀ {r1 : zSt}, (if ¬ r.1 0 34 = 0 then f_Rf_codes_j201 b r0 else if r.1 0 33 = 0 then f_Rf_codes_j201 b r0 else (f_Rf_modes b 1 r0).bind fun x6 => some (0, uS x6.2 0 32 0)) = some (0, r1) → f_Rf_codes b r = some (0, r1) := by
    intro r1 e
    unfold f_Rf_codes
    refine bindS ei (iteT rfl (iteT (by omega) (iteT (by omega) ?_)))
    unfold f_Rf_codes_j139
    refine iteT hb.1 ?_
    rw [← hm', hr0]
    exact e
  have ec : f_Re_readCode b (zsb (zsh 14) s) = some (if r.1 0 34 = 0 then (if r.1 0 33 = 0 then 5 else 6) else 0, uS (uS (zsb (zsh 14) s) 0 3 0) 0 4 m) := by
    unfold f_Re_readCode
    rw [show (zsb (zsh 14) s).1 0 6 = r.1 0 34 from a6, show (zsb (zsh 14) s).1 0 5 = r.1 0 33 from a5, show (zsb (zsh 14) s).1 0 4 = r.1 0 31 from a4, ← hm]
    refine iteF (by omega) ?_
    by_cases q : r.1 0 34 = 0
    · rw [if_pos q, if_pos q]
    · rw [if_neg q, if_neg q]
  have fin : ∀ {s1 r1 : zSt} {a : List Int}, zFin s0 r0 s1 r1 a → r1.1 0 29 = 0 → zFin s r s1 (uS r1 0 32 0) a := by
    intro s1 r1 a f e
    refine (f.pre an0 fr (fun i _ _ => by rw [rd])).post (f.1.isF (Or.inl rfl) (by rw [e]; decide)) (zAn.rf s1) (fun k q => ?_) (fun _ _ _ => rfl)
    rw [uS1]
    grind
  by_cases q34 : r.1 0 34 = 0
  · by_cases q33 : r.1 0 33 = 0
    · obtain ⟨s1, r1, a, c1, c2, c3, -⟩ := S_coded h0 (by rw [tl0]; omega) (by rw [tl0]; omega) pg0 b
      refine ⟨5, _, s1, _, a, by rw [ec, if_pos q34, if_pos q33], ?_, er ?_, fin c3.fin ((c3.2.1.1 29 (by decide)).trans st0)⟩
      · rw [pb]
        unfold zTail
        exact iteF (by decide) (iteF (by decide) (iteF (by decide) (iteF (by decide) (iteT rfl c1))))
      · refine iteF (by omega) (iteT q33 ?_)
        unfold f_Rf_codes_j201
        rw [e34]
        exact iteF (by omega) (bindS c2 rfl)
    · obtain ⟨s1, r1, c1, c2, c3, c4⟩ := S_codedMark h0 (by rw [tl0]; omega) b
      refine ⟨6, _, s1, _, [], by rw [ec, if_pos q34, if_neg q33], ?_, er ?_, fin (zEnd.of c3 c4 (K_Sc_codedWithMark (zAn.rf _) _ c1)).fin ((c4.1 29 (by decide)).trans st0)⟩
      · rw [pb]
        unfold zTail
        exact iteF (by decide) (iteF (by decide) (iteF (by decide) (iteF (by decide) (iteF (by decide) (iteT rfl c1)))))
      · exact iteF (by omega) (iteF q33 (bindS c2 rfl))
  · refine ⟨0, _, s0, _, [], by rw [ec, if_neg q34], ?_, er ?_, fin (zFin.of0 h0 (zAn.rf _) (fun _ _ => rfl) (fun _ _ _ => rfl)) st0⟩
    · rw [pb]
      unfold zTail
      exact iteF (by decide) (iteF (by decide) (iteF (by decide) (iteF (by decide) (iteF (by decide) (iteF (by decide) rfl)))))
    · refine iteT q34 ?_
      unfold f_Rf_codes_j201
      rw [e34]
      exact iteT q34 rfl
theorem S_receive {s r : zSt} (h : zRel s r) (hp : 0 ≤ r.1 0 48 ∧ r.1 0 48 ≤ 200) {b : Int} (hb : 0 ≤ b ∧ b ≤ 127) : ∃ s1 r1 a, f_Sc_receive b s = some (0, s1) ∧ f_Rf_comes b r = some (0, r1) ∧ zFin s r s1 r1 a := by
  obtain ⟨xr, hr⟩ := h.xr
  have es : (zsb (zsh 14) s).1 0 3 = r.1 0 29 := xr.1.1
  have t0 : ∀ t : zSt, zTail b 0 t = some (0, t) := fun t => by
    unfold zTail
    exact iteF (by decide) (iteF (by decide) (iteF (by decide) (iteF (by decide) (iteF (by decide) (iteF (by decide) rfl)))))
  by_cases q3 : r.1 0 29 = 3
  · obtain ⟨p, r1, a1, a2, a3⟩ := S_title h q3 hb
    refine ⟨_, r1, [], c_receive (x := 0) (p := p) ?_ (t0 _), ?_, a3⟩
    · unfold f_Re_read
      rw [es]
      exact iteF (by simpa using q3) (bindS a1 rfl)
    · unfold f_Rf_comes
      exact iteF (by simpa using q3) (bindS a2 rfl)
  -- controls, in the other states
  have ctl : ∃ x p s1 r1, f_Re_readControl b (zsb (zsh 14) s) = some (x, p) ∧ zTail b x (zpb (zsh 14) 6 s p) = some (0, s1) ∧ f_Rf_controls b r = some (0, r1) ∧ zFin s r s1 r1 [] := by
    unfold f_Re_readControl
    by_cases q24 : b = 24
    · refine ⟨0, _, _, uS r 0 29 0, iteF (by simpa using q24) rfl, t0 _, ?_, ?_⟩
      · unfold f_Rf_controls
        rw [q24]
        exact iteF (by decide) (iteF (by decide) (iteF (by decide) (iteF (by decide) (iteF (by decide) (iteT rfl rfl)))))
      · rw [zpb_r3]
        exact zFin.of0 (h.st (Or.inl rfl)) ⟨fun _ => rfl, fun _ => rfl, rfl⟩ (fun k q => by rw [uS1]; grind) (fun _ _ _ => rfl)
    by_cases q27 : b = 27
    · refine ⟨0, _, _, uS r 0 29 1, iteT q24 (iteF (by simpa using q27) rfl), t0 _, ?_, ?_⟩
      · unfold f_Rf_controls
        rw [q27]
        exact iteF (by decide) (iteF (by decide) (iteF (by decide) (iteF (by decide) (iteF (by decide) (iteF (by decide) (iteT rfl rfl))))))
      · rw [zpb_r3]
        exact zFin.of0 (h.st (Or.inr rfl)) ⟨fun _ => rfl, fun _ => rfl, rfl⟩ (fun k q => by rw [uS1]; grind) (fun _ _ _ => rfl)
    · obtain ⟨s1, r1, a1, a2, a3, a4⟩ := S_control h ⟨q24, q27⟩
      refine ⟨3, zsb (zsh 14) s, s1, r1, iteT q24 (iteT q27 rfl), ?_, a2, (zEnd.of a3 a4 (K_Sc_control (zAn.rf _) _ a1)).fin⟩
      rw [zpb_same]
      unfold zTail
      exact iteF (by decide) (iteF (by decide) (iteT rfl a1))
  by_cases q32 : b < 32
  · obtain ⟨x, p, s1, r1, a1, a2, a3, a4⟩ := ctl
    refine ⟨s1, r1, [], c_receive (x := x) (p := p) ?_ a2, ?_, a4⟩
    · unfold f_Re_read
      rw [es]
      exact iteT q3 (iteT q32 (bindS a1 rfl))
    · unfold f_Rf_comes
      exact iteT q3 (iteT q32 (bindS a3 rfl))
  by_cases q127 : b = 127
  · obtain ⟨x, p, s1, r1, a1, a2, a3, a4⟩ := ctl
    refine ⟨s1, r1, [], c_receive (x := x) (p := p) ?_ a2, ?_, a4⟩
    · unfold f_Re_read
      rw [es]
      exact iteT q3 (iteF q32 (iteF (by simpa using q127) (bindS a1 rfl)))
    · unfold f_Rf_comes
      exact iteT q3 (iteF q32 (iteF (by simpa using q127) (bindS a3 rfl)))
  by_cases q1 : r.1 0 29 = 1
  · -- escaped
    have goal : ∀ x p s1 r1, f_Re_readEscape b (zsb (zsh 14) s) = some (x, p) → zTail b x (zpb (zsh 14) 6 s p) = some (0, s1) → f_Rf_escapes b r = some (0, r1) → zFin s r s1 r1 [] → ∃ s1 r1 a, f_Sc_receive b s = some (0, s1) ∧ f_Rf_comes b r = some (0, r1) ∧ zFin s r s1 r1 a := by
      intro x p s1 r1 a1 a2 a3 a4
      refine ⟨s1, r1, [], c_receive (x := x) (p := p) ?_ a2, ?_, a4⟩
      · unfold f_Re_read
        rw [es]
        exact iteT q3 (iteF q32 (iteT q127 (iteF (by simpa using q1) (bindS a1 rfl))))
      · unfold f_Rf_comes
        exact iteT q3 (iteF q32 (iteT q127 (iteF (by simpa using q1) (bindS a3 rfl))))
    by_cases q91 : b = 91
    · obtain ⟨p, b1, b2⟩ := S_toCode h
      refine goal 0 p _ (uS (uS (uS (uS (uE (uS (uS r 0 29 0) 0 29 2) 5 0 0) 0 31 1) 0 32 1) 0 33 0) 0 34 0) ?_ (t0 _) ?_ ?_
      · unfold f_Re_readEscape
        exact iteF (by simpa using q91) (bindS b1 rfl)
      · unfold f_Rf_escapes
        have h5 : r.1 5 0 = 4 := h.nu.2.2.2.2
        subst q91
        exact iteF (by decide) (iteF (by decide) (iteF (by decide) (iteF (by decide) (iteF (by decide) (iteF (by decide) (iteT rfl (iteT ⟨by decide, by omega⟩ rfl)))))))
      · rw [b2]
        refine zFin.of0 h.toCode ⟨fun _ => rfl, fun _ => rfl, rfl⟩ (fun k q => ?_) (fun i x y => uA_a (by omega))
        simp only [uE, uA1, uS1]
        grind
    by_cases q93 : b = 93
    · obtain ⟨ld, d1, -⟩ := h.dl
      obtain ⟨p, b1, b2, b3⟩ := By_clear d1
      have ef : ∀ q : zSt, f_By_clear q = some (0, uS (uS q 0 1 0) 0 2 0) := fun _ => rfl
      have ep : p = uS (uS (zsb (zsh 17) s) 0 1 0) 0 2 0 := (Prod.mk.inj (Option.some.inj (b1.symm.trans (ef _)))).2
      have eu : uS (zsb (zsh 14) s) 0 3 3 = zsb (zsh 14) (uS s 14 3 3) := uS_zsb s 14 0 3 3
      refine goal 0 (zpb (zsh 3) 2 (uS (zsb (zsh 14) s) 0 3 3) (uS (uS (zsb (zsh 3) (uS (zsb (zsh 14) s) 0 3 3)) 0 1 0) 0 2 0)) _ (uS (uS (uS r 0 29 0) 0 29 3) 0 36 0) ?_ (t0 _) ?_ ?_
      · unfold f_Re_readEscape
        exact iteT q91 (iteF (by simpa using q93) rfl)
      · unfold f_Rf_escapes
        subst q93
        exact iteF (by decide) (iteF (by decide) (iteF (by decide) (iteF (by decide) (iteF (by decide) (iteF (by decide) (iteF (by decide) (iteT rfl rfl)))))))
      · have e : zpb (zsh 14) 6 s (zpb (zsh 3) 2 (uS (zsb (zsh 14) s) 0 3 3) (uS (uS (zsb (zsh 3) (uS (zsb (zsh 14) s) 0 3 3)) 0 1 0) 0 2 0)) = uS (uS (uS s 14 3 3) 17 1 0) 17 2 0 := by
          rw [zpb_uS _ _ _ _ _ _ _ (by omega), zpb_uS _ _ _ _ _ _ _ (by omega), zpb_uS _ _ _ _ _ _ _ (by omega), zpb_uS _ _ _ _ _ _ _ (by omega), zpb_same, zpb_uS _ _ _ _ _ _ _ (by omega), zpb_same]
        rw [e]
        refine zFin.of0 h.toTitle ⟨fun _ => rfl, fun _ => rfl, rfl⟩ (fun k q => ?_) (fun _ _ _ => rfl)
        simp only [uS1]
        grind
    · obtain ⟨s1, r1, a1, a2, a3⟩ := S_escape h (b := b) ⟨q91, q93⟩
      refine goal 4 (uS (zsb (zsh 14) s) 0 3 0) s1 r1 ?_ ?_ a2 (a3.pre ⟨fun _ => rfl, fun _ => rfl, rfl⟩ (fun k q => by rw [uS1]; grind) (fun _ _ _ => rfl))
      · unfold f_Re_readEscape
        exact iteT q91 (iteT q93 rfl)
      · rw [zpb_r3]
        unfold zTail
        exact iteF (by decide) (iteF (by decide) (iteF (by decide) (iteT rfl a1)))
  by_cases q2 : r.1 0 29 = 2
  · have goal : ∀ x p s1 r1 a, f_Re_readCode b (zsb (zsh 14) s) = some (x, p) → zTail b x (zpb (zsh 14) 6 s p) = some (0, s1) → f_Rf_codes b r = some (0, r1) → zFin s r s1 r1 a → ∃ s1 r1 a, f_Sc_receive b s = some (0, s1) ∧ f_Rf_comes b r = some (0, r1) ∧ zFin s r s1 r1 a := by
      intro x p s1 r1 a a1 a2 a3 a4
      refine ⟨s1, r1, a, c_receive (x := x) (p := p) ?_ a2, ?_, a4⟩
      · unfold f_Re_read
        rw [es]
        exact iteT q3 (iteF q32 (iteT q127 (iteT q1 (iteF (by simpa using q2) (bindS a1 rfl)))))
      · unfold f_Rf_comes
        exact iteT q3 (iteF q32 (iteT q127 (iteT q1 (iteF (by simpa using q2) (bindS a3 rfl)))))
    by_cases q64 : b < 64
    · obtain ⟨p, r1, a1, a2, a3⟩ := S_codeOn h q2 (b := b) ⟨by omega, q64⟩
      exact goal 0 p _ r1 [] a1 (t0 _) a2 a3
    · obtain ⟨x, p, s1, r1, a, a1, a2, a3, a4⟩ := S_codeEnd h q2 hp (b := b) ⟨by omega, by omega⟩
      exact goal x p s1 r1 a a1 a2 a3 a4
  · by_cases q96 : b = 96
    · obtain ⟨s1, r1, a1, a2, a3, a4⟩ := S_marks h
      refine ⟨s1, r1, [], c_receive (x := 2) (p := zsb (zsh 14) s) ?_ ?_, ?_, (zEnd.of a3 a4 (K_Sc_addMark (zAn.rf _) _ a1)).fin⟩
      · unfold f_Re_read
        rw [es]
        exact iteT q3 (iteF q32 (iteT q127 (iteT q1 (iteT q2 (by rw [if_neg (by simpa using q96)])))))
      · rw [zpb_same]
        unfold zTail
        exact iteF (by decide) (iteT rfl a1)
      · unfold f_Rf_comes
        exact iteT q3 (iteF q32 (iteT q127 (iteT q1 (iteT q2 (iteF (by simpa using q96) (bindS a2 rfl))))))
    · obtain ⟨s1, r1, a1, a2, a3, a4⟩ := S_draw h (b := b) ⟨by omega, by omega⟩
      refine ⟨s1, r1, [], c_receive (x := 1) (p := zsb (zsh 14) s) ?_ ?_, ?_, (zEnd.of a3 a4 (K_Sc_drawSign (zAn.rf _) _ a1)).fin⟩
      · unfold f_Re_read
        rw [es]
        exact iteT q3 (iteF q32 (iteT q127 (iteT q1 (iteT q2 (by rw [if_pos q96])))))
      · rw [zpb_same]
        unfold zTail
        exact iteT rfl a1
      · unfold f_Rf_comes
        exact iteT q3 (iteF q32 (iteT q127 (iteT q1 (iteT q2 (iteT q96 (bindS a2 rfl))))))
