/-! ===== any code ===== -/
theorem zK.iteC {s : zSt} {c : Prop} [Decidable c] {a b : Option (Int × zSt)} (h : c → zK s a) (k : ¬ c → zK s b) : zK s (if c then a else b) := by
  split
  · exact h (by assumption)
  · exact k (by assumption)
theorem K_Sc_coded_j15 {s t : zSt} {b : Int} (hb : b ≠ 110) (h : zAn s t) : zK s (f_Sc_coded_j15 b t) := by
  unfold f_Sc_coded_j15
  repeat' (first | exact h | assumption | exact zK.no | refine zK.so ?_ | with_reducible refine zK.bd (K_Sc_goTo ?_) (fun x hx => ?_) | with_reducible refine zK.bd (K_Sc_eraseOtherRows ?_) (fun x hx => ?_) | with_reducible refine zK.bd (K_Sc_eraseRow ?_) (fun x hx => ?_) | with_reducible refine zK.bd (K_Sc_moveLines ?_) (fun x hx => ?_) | with_reducible refine zK.bd (K_Sc_scroll ?_) (fun x hx => ?_) | with_reducible refine zK.bd (K_Sc_clearTabs ?_) (fun x hx => ?_) | with_reducible refine zK.bd (K_Sc_setInsert ?_) (fun x hx => ?_) | with_reducible refine zK.bd (K_Sc_setAttribute ?_) (fun x hx => ?_) | with_reducible refine zK.bd (K_Sc_setRegion ?_) (fun x hx => ?_) | exact absurd hc hb | with_reducible refine zK.iteC (fun hc => ?_) (fun hc => ?_) | with_reducible refine zK.bx (fun x => ?_) | refine zAn.uS ?_ (by decide) (by decide) | refine zAn.pb ?_ (by decide))
theorem K_Sc_coded {s t : zSt} {b : Int} (hb : b ≠ 110) (h : zAn s t) : zK s (f_Sc_coded b t) := by
  unfold f_Sc_coded
  refine zK.bx (fun x => zK.ite (K_Sc_coded_j15 hb h) (K_Sc_coded_j15 hb (zAn.uS h (by decide) (by decide))))
/-- the reference's other parts stay, but for what the program gets -/
def zKq (r r1 : zSt) : Prop := (∀ k, k = 0 ∨ k = 1 ∨ k = 2 ∨ k = 31 ∨ k = 29 ∨ (40 ≤ k ∧ k ≠ 48) → r1.1 0 k = r.1 0 k) ∧ ∀ i, 8 ≤ i → i ≤ 12 → i ≠ 10 → r1.2 i = r.2 i
theorem zKp.q {r r1 : zSt} (h : zKp r r1) : zKq r r1 := ⟨fun k a => h.1 k (by omega), fun i a b _ => h.2 i a b⟩
theorem zSf.q {r r1 : zSt} (h : zSf r r1) : zKq r r1 := ⟨fun k a => h.1 0 k (by omega), fun i _ _ a => h.2 i a⟩
theorem zKq.trans {r r1 r2 : zSt} (h : zKq r r1) (k : zKq r1 r2) : zKq r r2 := ⟨fun i q => (k.1 i q).trans (h.1 i q), fun i a b c => (k.2 i a b c).trans (h.2 i a b c)⟩
/-- class and reference after a step: how they stand, what they answered -/
def zEnd (s r s1 r1 : zSt) (a : List Int) : Prop := zRel s1 r1 ∧ zKq r r1 ∧ a.length ≤ 8 ∧ (∀ l, zBy (zsb (zsh 20) s) 8 l → zBy (zsb (zsh 20) s1) 8 ((l ++ a).take 8)) ∧ ∀ m : List Int, m.length ≤ 200 → zLs (r.2 10) (r.1 0 48) m → zLs (r1.2 10) (r1.1 0 48) ((m ++ a).take 200)
theorem zKp.ls {r r1 : zSt} (h : zKp r r1) {m : List Int} (hm2 : m.length ≤ 200) (hm : zLs (r.2 10) (r.1 0 48) m) : zLs (r1.2 10) (r1.1 0 48) ((m ++ []).take 200) := by
  rw [List.append_nil, List.take_of_length_le hm2, h.1 48 (by omega), h.2 10 (by decide) (by decide)]
  exact hm
theorem zEnd.of {s r s1 r1 : zSt} (h : zRel s1 r1) (k : zKp r r1) (a : zAn s s1) : zEnd s r s1 r1 [] := ⟨h, k.q, Nat.zero_le _, fun l hl => by
  rw [List.append_nil, List.take_of_length_le hl.2.2.2.1]
  exact a.by hl, fun m h1 h2 => k.ls h1 h2⟩
theorem zdg_2 {x : Int} (hx : x ≤ 99) : (zdg x).length ≤ 2 := by
  unfold zdg
  split
  · simp
  · rw [if_pos (by omega)]
    simp
theorem zan_len {s r : zSt} (h : zRel s r) (n : Int) : (zan n r).length ≤ 8 := by
  have z := h.size
  have hs := h.nums
  have hrow := hs.1
  have hcol := hs.2.1
  have hreg := hs.2.2.2.2.1
  have h1 := zdg_2 (x := r.1 0 10 + 1) (by omega)
  have h2 := zdg_2 (x := zanR r) (by
    unfold zanR
    by_cases q : r.1 0 17 = 0
    · simp only [if_pos q]
      split <;> omega
    · simp only [if_neg q]
      split <;> omega)
  unfold zan
  split
  · simp
  · split
    · simp only [List.length_append, List.length_cons, List.length_nil]
      omega
    · simp
theorem c_late0 {b : Int} (hb : b ≠ 64 ∧ b ≠ 65 ∧ b ≠ 66 ∧ b ≠ 67 ∧ b ≠ 68 ∧ b ≠ 72 ∧ b ≠ 74 ∧ b ≠ 75 ∧ b ≠ 76 ∧ b ≠ 77 ∧ b ≠ 80 ∧ b ≠ 88 ∧ b ≠ 114) : f_Sc_endsLate b = some 0 := by
  unfold f_Sc_endsLate
  obtain ⟨h64, h65, h66, h67, h68, h72, h74, h75, h76, h77, h80, h88, h114⟩ := hb
  exact iteF h64 (iteF h65 (iteF h66 (iteF h67 (iteF h68 (iteF h72 (iteF h74 (iteF h75 (iteF h76 (iteF h77 (iteF h80 (iteF h88 (iteF h114 (rfl)))))))))))))
/-- the answers, whatever they are -/
theorem zRel.ansl {s r : zSt} (h : zRel s r) : ∃ l, zBy (zsb (zsh 20) s) 8 l := by
  obtain ⟨hL, ⟨hZ, hg, hs, hm, hv, hr, hk, hh⟩, p0, p1, xh, xu, xm, xv, xz, xt, xr⟩ := h
  have hw := xr.1.2.2.2
  refine ⟨(List.range (s.1 20 2).toNat).map (fun i : Nat => s.2 21 (zwr (s.1 20 1 + (i : Int)) 8)), hL.2.1.2.2.2.1, hw.1, ?_, ?_, fun i hi => ?_⟩
  · show s.1 20 2 = _
    have := hw.2
    simp
    omega
  · have := hw.2
    simp
    omega
  · simp only [List.length_map, List.length_range] at hi
    simp [List.getD_eq_getElem?_getD, hi]
    rfl
/-- the program's bytes, whatever they are -/
theorem zLs.ex (g : Int → Int) {c : Int} (hc : 0 ≤ c ∧ c ≤ 200) : ∃ m : List Int, zLs g c m ∧ m.length ≤ 200 := by
  refine ⟨(List.range c.toNat).map (fun i : Nat => g (i : Int)), ⟨?_, fun i hi => ?_⟩, ?_⟩
  · simp
    omega
  · simp only [List.length_map, List.length_range] at hi
    simp [List.getD_eq_getElem?_getD, hi]
  · simp
    omega
/-- what is sent is there, whatever the program has -/
theorem S_answerE {s r : zSt} (h : zRel s r) (ht : 1 ≤ r.1 0 31) (hp : 0 ≤ r.1 0 48 ∧ r.1 0 48 ≤ 200) : ∃ s1 r1, f_Sc_answer (r.2 5 0) s = some (0, s1) ∧ f_Rf_tells r = some (0, r1) ∧ zRel s1 r1 ∧ zSf r r1 ∧ (∀ l, zBy (zsb (zsh 20) s) 8 l → zBy (zsb (zsh 20) s1) 8 ((l ++ zan (r.2 5 0) r).take 8)) ∧ ∀ m : List Int, m.length ≤ 200 → zLs (r.2 10) (r.1 0 48) m → zLs (r1.2 10) (r1.1 0 48) ((m ++ zan (r.2 5 0) r).take 200) := by
  obtain ⟨l, hl⟩ := h.ansl
  obtain ⟨m, hm, hm2⟩ := zLs.ex (r.2 10) hp
  obtain ⟨s1, r1, a1, a2, a3, a4, a5, a6⟩ := S_answer h ht hl hm hm2
  refine ⟨s1, r1, a1, a2, a3, a4, fun l' hl' => ?_, fun m' h1 h2 => ?_⟩
  · obtain ⟨s2, r2, b1, b2, b3, b4, b5, b6⟩ := S_answer h ht hl' hm hm2
    obtain rfl : s2 = s1 := (Prod.mk.inj (Option.some.inj (b1.symm.trans a1))).2
    exact b5
  · obtain ⟨s2, r2, b1, b2, b3, b4, b5, b6⟩ := S_answer h ht hl h2 h1
    obtain rfl : r2 = r1 := (Prod.mk.inj (Option.some.inj (b2.symm.trans a2))).2
    exact b6
theorem S_coded {s r : zSt} (h : zRel s r) (ht : 1 ≤ r.1 0 31) (ht4 : r.1 0 31 ≤ 4) (hp : 0 ≤ r.1 0 48 ∧ r.1 0 48 ≤ 200) (b : Int) : ∃ s1 r1 a, f_Sc_coded b s = some (0, s1) ∧ f_Rf_means b r = some (0, r1) ∧ zEnd s r s1 r1 a ∧ (b ≠ 110 → a = []) := by
  have key : b ≠ 110 → (∃ s1 r1, f_Sc_coded b s = some (0, s1) ∧ f_Rf_means b r = some (0, r1) ∧ zRel s1 r1 ∧ zKp r r1) → ∃ s1 r1 a, f_Sc_coded b s = some (0, s1) ∧ f_Rf_means b r = some (0, r1) ∧ zEnd s r s1 r1 a ∧ (b ≠ 110 → a = []) := by
    intro hb ⟨s1, r1, e1, e2, e3, e4⟩
    exact ⟨s1, r1, [], e1, e2, zEnd.of e3 e4 (K_Sc_coded hb (zAn.rf s) _ e1), fun _ => rfl⟩
  obtain ⟨f0, g0, k1, k2, k3, k5⟩ := h.fst ht
  by_cases q64 : b = 64
  · subst q64
    obtain ⟨s1, r1, e1, e2, e3⟩ := C_64 h ht ht4
    exact key (by decide) ⟨s1, r1, bindS (x := 1) rfl (iteF (by decide) e1), e2, e3⟩
  by_cases q65 : b = 65
  · subst q65
    obtain ⟨s1, r1, e1, e2, e3⟩ := C_65 h ht ht4
    exact key (by decide) ⟨s1, r1, bindS (x := 1) rfl (iteF (by decide) e1), e2, e3⟩
  by_cases q66 : b = 66
  · subst q66
    obtain ⟨s1, r1, e1, e2, e3⟩ := C_66 h ht ht4
    exact key (by decide) ⟨s1, r1, bindS (x := 1) rfl (iteF (by decide) e1), e2, e3⟩
  by_cases q67 : b = 67
  · subst q67
    obtain ⟨s1, r1, e1, e2, e3⟩ := C_67 h ht ht4
    exact key (by decide) ⟨s1, r1, bindS (x := 1) rfl (iteF (by decide) e1), e2, e3⟩
  by_cases q68 : b = 68
  · subst q68
    obtain ⟨s1, r1, e1, e2, e3⟩ := C_68 h ht ht4
    exact key (by decide) ⟨s1, r1, bindS (x := 1) rfl (iteF (by decide) e1), e2, e3⟩
  by_cases q72 : b = 72
  · subst q72
    obtain ⟨s1, r1, e1, e2, e3⟩ := C_72 h ht ht4
    exact key (by decide) ⟨s1, r1, bindS (x := 1) rfl (iteF (by decide) e1), e2, e3⟩
  by_cases q74 : b = 74
  · subst q74
    obtain ⟨s1, r1, e1, e2, e3⟩ := C_74 h ht ht4
    exact key (by decide) ⟨s1, r1, bindS (x := 1) rfl (iteF (by decide) e1), e2, e3⟩
  by_cases q75 : b = 75
  · subst q75
    obtain ⟨s1, r1, e1, e2, e3⟩ := C_75 h ht ht4
    exact key (by decide) ⟨s1, r1, bindS (x := 1) rfl (iteF (by decide) e1), e2, e3⟩
  by_cases q76 : b = 76
  · subst q76
    obtain ⟨s1, r1, e1, e2, e3⟩ := C_76 h ht ht4
    exact key (by decide) ⟨s1, r1, bindS (x := 1) rfl (iteF (by decide) e1), e2, e3⟩
  by_cases q77 : b = 77
  · subst q77
    obtain ⟨s1, r1, e1, e2, e3⟩ := C_77 h ht ht4
    exact key (by decide) ⟨s1, r1, bindS (x := 1) rfl (iteF (by decide) e1), e2, e3⟩
  by_cases q80 : b = 80
  · subst q80
    obtain ⟨s1, r1, e1, e2, e3⟩ := C_80 h ht ht4
    exact key (by decide) ⟨s1, r1, bindS (x := 1) rfl (iteF (by decide) e1), e2, e3⟩
  by_cases q83 : b = 83
  · subst q83
    obtain ⟨s1, r1, e1, e2, e3⟩ := C_83 h ht ht4
    exact key (by decide) ⟨s1, r1, bindS (x := 0) rfl (iteT rfl e1), e2, e3⟩
  by_cases q84 : b = 84
  · subst q84
    obtain ⟨s1, r1, e1, e2, e3⟩ := C_84 h ht ht4
    exact key (by decide) ⟨s1, r1, bindS (x := 0) rfl (iteT rfl e1), e2, e3⟩
  by_cases q88 : b = 88
  · subst q88
    obtain ⟨s1, r1, e1, e2, e3⟩ := C_88 h ht ht4
    exact key (by decide) ⟨s1, r1, bindS (x := 1) rfl (iteF (by decide) e1), e2, e3⟩
  by_cases q103 : b = 103
  · subst q103
    obtain ⟨s1, r1, e1, e2, e3⟩ := C_103 h ht ht4
    exact key (by decide) ⟨s1, r1, bindS (x := 0) rfl (iteT rfl e1), e2, e3⟩
  by_cases q104 : b = 104
  · subst q104
    obtain ⟨s1, r1, e1, e2, e3⟩ := C_104 h ht ht4
    exact key (by decide) ⟨s1, r1, bindS (x := 0) rfl (iteT rfl e1), e2, e3⟩
  by_cases q108 : b = 108
  · subst q108
    obtain ⟨s1, r1, e1, e2, e3⟩ := C_108 h ht ht4
    exact key (by decide) ⟨s1, r1, bindS (x := 0) rfl (iteT rfl e1), e2, e3⟩
  by_cases q109 : b = 109
  · subst q109
    obtain ⟨s1, r1, e1, e2, e3⟩ := C_109 h ht ht4
    exact key (by decide) ⟨s1, r1, bindS (x := 0) rfl (iteT rfl e1), e2, e3⟩
  by_cases q114 : b = 114
  · subst q114
    obtain ⟨s1, r1, e1, e2, e3⟩ := C_114 h ht ht4
    exact key (by decide) ⟨s1, r1, bindS (x := 1) rfl (iteF (by decide) e1), e2, e3⟩
  by_cases q110 : b = 110
  · subst q110
    obtain ⟨s1, r1, a1, a2, a3, a4, a5⟩ := S_answerE h ht hp
    refine ⟨s1, r1, zan (r.2 5 0) r, bindS (x := 0) rfl (iteT rfl (bindS g0 (iteF (by decide) (iteF (by decide) (iteF (by decide) (iteF (by decide) (iteF (by decide) (iteF (by decide) (iteF (by decide) (iteF (by decide) (iteF (by decide) (iteF (by decide) (iteF (by decide) (iteF (by decide) (iteF (by decide) (iteF (by decide) (iteF (by decide) (iteF (by decide) (iteF (by decide) (iteF (by decide) (iteT rfl (bindS g0 (bindS a1 rfl))))))))))))))))))))))), bindS f0 (iteF (by decide) (iteF (by decide) (iteF (by decide) (iteF (by decide) (iteF (by decide) (iteF (by decide) (iteF (by decide) (iteF (by decide) (iteF (by decide) (iteF (by decide) (iteF (by decide) (iteF (by decide) (bindS (x := (0, r1)) (iteF (by decide) (iteF (by decide) (iteF (by decide) (iteF (by decide) (iteT rfl (bindS a2 rfl)))))) rfl))))))))))))), ⟨a3, a4.q, zan_len h _, a5⟩, fun q => absurd rfl q⟩
  · refine key q110 ⟨s, r, bindS (c_late0 ⟨q64, q65, q66, q67, q68, q72, q74, q75, q76, q77, q80, q88, q114⟩) (iteT rfl (bindS g0 (iteF q64 (iteF q65 (iteF q66 (iteF q67 (iteF q68 (iteF q72 (iteF q74 (iteF q75 (iteF q76 (iteF q77 (iteF q80 (iteF q83 (iteF q84 (iteF q88 (iteF q103 (iteF q104 (iteF q108 (iteF q109 (iteF q110 (iteF q114 rfl)))))))))))))))))))))), bindS f0 (iteF q64 (iteF q65 (iteF q66 (iteF q67 (iteF q68 (iteF q72 (iteF q74 (iteF q75 (iteF q76 (iteF q77 (iteF q80 (iteF q88 (bindS (x := (0, r)) (iteF q83 (iteF q84 (iteF q103 (iteF q109 (iteF q110 (iteF q114 (bindS (x := (0, r)) ?_ rfl))))))) rfl))))))))))))), h, zKp.rf r⟩
    unfold f_Rf_modes
    refine bindS (x := r) ?_ rfl
    show zloop (f_Rf_modes_l2 b 0) (999999 + 1) (0, r) = some r
    unfold zloop f_Rf_modes_l2
    rw [if_neg (show ¬ (0, r).2.1 0 31 ≤ (0, r).1 by show ¬ r.1 0 31 ≤ 0; omega), if_neg q104, if_pos q108]
    rfl
