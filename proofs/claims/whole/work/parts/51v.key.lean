/-! ===== public methods: key ===== -/
/-- what the table of letters holds -/
def zLet (a : Int) : Int := if a = 0 then 65 else if a = 1 then 66 else if a = 2 then 67 else if a = 3 then 68 else if a = 4 then 72 else 70
/-- the class's key, as it would be printed -/
def f_Co_key_j133 (v1 : Int) (s : zSt) : Option (Int × zSt) :=
  (f_By_add (if v1 < 6 then zLet v1 else 126) (zsb (zsh 1) s)).bind fun x1 =>
  (f_By_count (zsb (zsh 1) (zpb (zsh 1) 2 s x1.2))).bind fun x2 =>
  (f_Co_settle (zpb (zsh 1) 2 s x1.2)).bind fun x3 =>
  zmn 42 (zpb (zsh 1) 2 s x1.2) x3.2 (some (x2, x3.2))
def f_Co_key (a1 a2 : Int) (s : zSt) : Option (Int × zSt) :=
  if a1 < 0 then
    none
  else
    if 6 < a1 then
      none
    else
      if a2 < 0 then
        none
      else
        if a2 ≤ 7 then
          (f_By_add 27 (zsb (zsh 1) s)).bind fun x5 =>
          (f_By_add (if a1 < 6 then (if a2 = 0 then (if (s.1 27 0) = 0 then 91 else 79) else 91) else 91) (zsb (zsh 1) (zpb (zsh 1) 2 s x5.2))).bind fun x6 =>
          if ¬ a2 = 0 then
            (f_By_add (if a1 < 6 then 49 else 51) (zsb (zsh 1) (zpb (zsh 1) 2 (zpb (zsh 1) 2 s x5.2) x6.2))).bind fun x7 =>
            (f_By_add 59 (zsb (zsh 1) (zpb (zsh 1) 2 (zpb (zsh 1) 2 (zpb (zsh 1) 2 s x5.2) x6.2) x7.2))).bind fun x8 =>
            (f_By_addNumber (w32 (a2 + 1)) (zsb (zsh 1) (zpb (zsh 1) 2 (zpb (zsh 1) 2 (zpb (zsh 1) 2 (zpb (zsh 1) 2 s x5.2) x6.2) x7.2) x8.2))).bind fun x9 =>
            f_Co_key_j133 a1 (zpb (zsh 1) 2 (zpb (zsh 1) 2 (zpb (zsh 1) 2 (zpb (zsh 1) 2 (zpb (zsh 1) 2 s x5.2) x6.2) x7.2) x8.2) x9.2)
          else
            if a1 < 6 then
              f_Co_key_j133 a1 (zpb (zsh 1) 2 (zpb (zsh 1) 2 s x5.2) x6.2)
            else
              (f_By_add 51 (zsb (zsh 1) (zpb (zsh 1) 2 (zpb (zsh 1) 2 s x5.2) x6.2))).bind fun x10 =>
              f_Co_key_j133 a1 (zpb (zsh 1) 2 (zpb (zsh 1) 2 (zpb (zsh 1) 2 s x5.2) x6.2) x10.2)
        else
          none
def e_Co_key (a1 a2 : Int) : Option Int := if a1 < 0 then some 1 else if 6 < a1 then some 1 else if a2 < 0 then some 1 else if a2 ≤ 7 then none else some 1
theorem zLet_in {a : Int} (h : 0 ≤ a ∧ a ≤ 5) : f_Rf_letter a = some (zLet a) ∧ 65 ≤ zLet a ∧ zLet a ≤ 72 := by
  rcases (by omega : a = 0 ∨ a = 1 ∨ a = 2 ∨ a = 3 ∨ a = 4 ∨ a = 5) with q | q | q | q | q | q <;> subst q <;> decide
theorem M_key {B : Nat} {C r : zSt} (h : zWh B C r) (hB : B + 100 < 65536) (a b : Int) : zMok (B + 100) C (f_Co_key a b C) (f_Rf_key a b r) ∨ zMth (B + 100) C (e_Co_key a b) (f_Rf_key a b r) 1 1 := by
  have h0 := h
  obtain ⟨k, ln, hd, N, dr, a1, a2, a3⟩ := h
  have hR := a1.rel.1
  have xm : C.1 27 0 = r.1 0 16 := hR.2.2.2.2.2.2.1.1
  by_cases y : (0 ≤ a ∧ a ≤ 6) ∧ (0 ≤ b ∧ b ≤ 7)
  · refine Or.inl ?_
    have h1 := (a1.f0 (Or.inl rfl) (0 : Int)).f0 (j := 53) (Or.inr (by decide)) (0 : Int)
    have d1 := (a3.f0 (Or.inl rfl) (0 : Int)).f0 (j := 53) (Or.inr (by decide)) (0 : Int)
    obtain ⟨m, hm⟩ : ∃ m : Int, m = (if a < 6 then (if b = 0 then (if r.1 0 16 = 0 then 91 else 79) else 91) else 91) := ⟨_, rfl⟩
    have hm' : m = 91 ∨ m = 79 := by
      rw [hm]
      split
      · split
        · split
          · exact Or.inl rfl
          · exact Or.inr rfl
        · exact Or.inl rfl
      · exact Or.inl rfl
    have er : (if ((if (r.1 0 16) = 0 then 0 else (if 6 ≤ a then 0 else (if ¬ b = 0 then 0 else 1))) : Int) = 0 then 91 else 79) = m := by
      rw [hm]
      by_cases q1 : r.1 0 16 = 0
      · rw [if_pos (show (if (r.1 0 16) = 0 then 0 else (if 6 ≤ a then 0 else (if ¬ b = 0 then 0 else 1)) : Int) = 0 by rw [if_pos q1]), if_pos q1]
        split
        · split <;> rfl
        · rfl
      · rw [if_neg q1, if_neg q1]
        by_cases q2 : a < 6
        · rw [if_pos q2, if_neg (show ¬ 6 ≤ a by omega)]
          by_cases q3 : b = 0
          · rw [if_pos q3, if_neg (show ¬ ¬ b = 0 from fun w => w q3), if_neg (by decide)]
          · rw [if_neg q3, if_pos q3, if_pos rfl]
        · rw [if_neg q2, if_pos (show 6 ≤ a by omega), if_pos rfl]
    obtain ⟨t, ht⟩ : ∃ t : Int, t = (if a < 6 then zLet a else 126) := ⟨_, rfl⟩
    have ht' : 0 ≤ t ∧ t ≤ 127 := by
      rw [ht]
      split
      · have := (zLet_in (a := a) (by omega)).2; omega
      · omega
    obtain ⟨x1, p1, b1, h2, g1⟩ := Co_tb h1 (by decide) (b := 27) (by decide)
    obtain ⟨x2, p2, b2, h3, g2⟩ := Co_tb h2 (by simp) (b := m) (by omega)
    -- the last byte, and settling
    have fin : ∀ (D : zSt) (ty : List Int), zCo D (uS (uS r 0 0 0) 0 53 0) k ty ln hd [] N → ty.length ≤ 6 → zDS D (uS (uS r 0 0 0) 0 53 0) dr →
        ∃ v C' r', f_Co_key_j133 a D = some (v, C') ∧ zTys (ty ++ [t]) (uS (uS r 0 0 0) 0 53 0) = some r' ∧ v = r'.1 0 53 ∧ r'.1 0 0 = 0 ∧ zWh (B + 100) C' r' ∧ D.1 42 0 ≤ C'.1 42 0 := by
      intro D ty k1 k2 k3
      obtain ⟨x, p, c1, c2, c3⟩ := Co_tb k1 (by omega) (b := t) ht'
      obtain ⟨C', r', t1, t2, t3, t4, t5⟩ := Co_done (B := B + 100) hB c2 (by simp; omega) (k3.ao c3)
      have n53 := t4.2.2 (by show (0 : Int) ≤ 0; decide) (by show (0 : Int) + _ ≤ 1000; simp; omega)
      rw [show (uS (uS r 0 0 0) 0 53 0).1 0 53 = 0 from rfl, Int.zero_add] at n53
      refine ⟨_, C', r', ?_, t2, n53.symm, (t4.1 0 (by omega)).trans rfl, t3, ?_⟩
      · unfold f_Co_key_j133
        rw [← ht]
        exact bindS c1 (bindS (By_count c2.1.1) (bindS t1 (zmn_i t5 rfl (Int.le_refl _))))
      · have : (zpb (zsh 1) 2 D p).1 42 0 = D.1 42 0 := c3.1 42 0 (by omega)
        rw [← this]; exact t5
    -- the reference's last byte
    have rfin : ∀ (s r' : zSt), zTys [t] s = some r' → f_Rf_key_j130 a s = some (r'.1 0 53, r') := by
      intro s r' e
      obtain ⟨v, e⟩ := zTys_one e
      unfold f_Rf_key_j130
      by_cases q : a = 6
      · rw [ht, if_neg (by omega)] at e
        exact iteF (fun w => w q) (bindS e rfl)
      · rw [ht, if_pos (by omega)] at e
        exact iteT q (bindS (zLet_in (by omega)).1 (bindS e rfl))
    have cpre : ∀ {o : Option (Int × zSt)}, (if ¬ b = 0 then
            (f_By_add (if a < 6 then 49 else 51) (zsb (zsh 1) (zpb (zsh 1) 2 (zpb (zsh 1) 2 C p1) p2))).bind fun x7 =>
            (f_By_add 59 (zsb (zsh 1) (zpb (zsh 1) 2 (zpb (zsh 1) 2 (zpb (zsh 1) 2 C p1) p2) x7.2))).bind fun x8 =>
            (f_By_addNumber (w32 (b + 1)) (zsb (zsh 1) (zpb (zsh 1) 2 (zpb (zsh 1) 2 (zpb (zsh 1) 2 (zpb (zsh 1) 2 C p1) p2) x7.2) x8.2))).bind fun x9 =>
            f_Co_key_j133 a (zpb (zsh 1) 2 (zpb (zsh 1) 2 (zpb (zsh 1) 2 (zpb (zsh 1) 2 (zpb (zsh 1) 2 C p1) p2) x7.2) x8.2) x9.2)
          else
            if a < 6 then
              f_Co_key_j133 a (zpb (zsh 1) 2 (zpb (zsh 1) 2 C p1) p2)
            else
              (f_By_add 51 (zsb (zsh 1) (zpb (zsh 1) 2 (zpb (zsh 1) 2 C p1) p2))).bind fun x10 =>
              f_Co_key_j133 a (zpb (zsh 1) 2 (zpb (zsh 1) 2 (zpb (zsh 1) 2 C p1) p2) x10.2)) = o → f_Co_key a b C = o := by
      intro o e
      unfold f_Co_key
      rw [xm, ← hm]
      exact iteF (by omega) (iteF (by omega) (iteF (by omega) (iteT y.2.2 (bindS b1 (bindS b2 e)))))
    have rpre : ∀ {s1 s2 : zSt} {v1 v2 : Int} {o : Option (Int × zSt)}, f_Rf_types 27 (uS (uS r 0 0 0) 0 53 0) = some (v1, s1) → f_Rf_types m s1 = some (v2, s2) → (if ¬ a = 6 then
              if b ≤ 0 then
                f_Rf_key_j112 a b s2
              else
                (f_Rf_types 49 s2).bind fun x15 =>
                f_Rf_key_j112 a b x15.2
            else
              (f_Rf_types 51 s2).bind fun x16 =>
              f_Rf_key_j112 a b x16.2) = o → f_Rf_key a b r = o := by
      intro s1 s2 v1 v2 o e1 e2 e3
      unfold f_Rf_key
      refine bindS (in_1 y.1) (iteF (by decide) (bindS (in_1 y.2) ?_))
      rw [one_1, er]
      exact iteT (by decide) (bindS e1 (bindS e2 e3))
    by_cases q : b = 0
    · by_cases w : a < 6
      · obtain ⟨v, C', r', f1, f2, f3, f4, f5, f6⟩ := fin _ _ h3 (by simp) ((d1.ao g1).ao g2)
        refine ⟨v, C', r', cpre (iteF (fun z => z q) (iteT w f1)), ?_, f4, f5⟩
        simp only [List.append_assoc, List.nil_append, List.cons_append] at f2
        obtain ⟨v1, s1, u1, f2⟩ := zTys_cons f2
        obtain ⟨v2, s2, u2, f2⟩ := zTys_cons f2
        refine rpre u1 u2 (iteT (by omega) (iteT (by omega) ?_))
        unfold f_Rf_key_j112
        rw [f3]
        exact iteT (by omega) (rfin _ _ f2)
      · obtain ⟨x3, p3, b3, h4, g3⟩ := Co_tb h3 (by simp) (b := 51) (by decide)
        obtain ⟨v, C', r', f1, f2, f3, f4, f5, f6⟩ := fin _ _ h4 (by simp) (((d1.ao g1).ao g2).ao g3)
        refine ⟨v, C', r', cpre (iteF (fun z => z q) (iteF w (bindS b3 f1))), ?_, f4, f5⟩
        simp only [List.append_assoc, List.nil_append, List.cons_append] at f2
        obtain ⟨v1, s1, u1, f2⟩ := zTys_cons f2
        obtain ⟨v2, s2, u2, f2⟩ := zTys_cons f2
        obtain ⟨v3, s3, u3, f2⟩ := zTys_cons f2
        refine rpre u1 u2 (iteF (by omega) (bindS u3 ?_))
        unfold f_Rf_key_j112
        rw [f3]
        exact iteT (by omega) (rfin _ _ f2)
    · obtain ⟨n, hn⟩ : ∃ n : Int, n = (if a < 6 then 49 else 51) := ⟨_, rfl⟩
      have hn' : n = 49 ∨ n = 51 := by rw [hn]; split <;> simp
      obtain ⟨x3, p3, b3, h4, g3⟩ := Co_tb h3 (by simp) (b := n) (by omega)
      obtain ⟨x4, p4, b4, h5, g4⟩ := Co_tb h4 (by simp) (b := 59) (by decide)
      obtain ⟨x5, p5, b5, h6, g5⟩ := Co_tn h5 (by simp) (b := b + 1) (by omega)
      have ez : zdg (b + 1) = [49 + b] := by
        unfold zdg
        rw [if_pos (by omega), show 48 + (b + 1) = 49 + b by omega]
      obtain ⟨v, C', r', f1, f2, f3, f4, f5, f6⟩ := fin _ _ h6 (by rw [ez]; simp) (((((d1.ao g1).ao g2).ao g3).ao g4).ao g5)
      have ew : w32 (b + 1) = b + 1 := w32i (by omega) (by omega)
      have ew2 : w32 (49 + b) = 49 + b := w32i (by omega) (by omega)
      refine ⟨v, C', r', cpre (iteT q (by rw [← hn, ew]; exact bindS b3 (bindS b4 (bindS b5 f1)))), ?_, f4, f5⟩
      rw [ez] at f2
      simp only [List.append_assoc, List.nil_append, List.cons_append] at f2
      obtain ⟨v1, s1, u1, f2⟩ := zTys_cons f2
      obtain ⟨v2, s2, u2, f2⟩ := zTys_cons f2
      obtain ⟨v3, s3, u3, f2⟩ := zTys_cons f2
      obtain ⟨v4, s4, u4, f2⟩ := zTys_cons f2
      obtain ⟨v5, s5, u5, f2⟩ := zTys_cons f2
      have e112 : f_Rf_key_j112 a b s3 = some (v, r') := by
        unfold f_Rf_key_j112
        rw [ew2, f3]
        exact iteF (by omega) (bindS u4 (bindS u5 (rfin _ _ f2)))
      by_cases w : a < 6
      · rw [hn, if_pos w] at u3
        exact rpre u1 u2 (iteT (by omega) (iteF (by omega) (bindS u3 e112)))
      · rw [hn, if_neg w] at u3
        exact rpre u1 u2 (iteF (by omega) (bindS u3 e112))
  · refine Or.inr ⟨0, uS r 0 0 1, ?_, ?_, rfl, (h0.f0 (Or.inl rfl) 1).mono (by omega)⟩
    · unfold e_Co_key
      by_cases z1 : a < 0
      · exact iteT z1 rfl
      refine iteF z1 ?_
      by_cases z2 : 6 < a
      · exact iteT z2 rfl
      refine iteF z2 ?_
      by_cases z3 : b < 0
      · exact iteT z3 rfl
      exact iteF z3 (iteF (by omega) rfl)
    · unfold f_Rf_key
      by_cases z1 : 0 ≤ a ∧ a ≤ 6
      · refine bindS (in_1 z1) (iteF (by decide) (bindS (in_0 (by omega)) ?_))
        rw [one_0]
        exact iteF (by decide) rfl
      · refine bindS (in_0 z1) (iteT rfl ?_)
        unfold f_Rf_key_j25 f_Rf_key_j26
        exact iteF (by decide) rfl
