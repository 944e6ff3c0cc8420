/-! ===== public methods: code ===== -/
def zPts : List Int → zSt → Option zSt
  | [], r => some r
  | b :: l, r => (f_Rf_puts b r).bind fun x => zPts l x.2
theorem zPts_cons {b : Int} {l : List Int} {r r' : zSt} (h : zPts (b :: l) r = some r') : ∃ v r1, f_Rf_puts b r = some (v, r1) ∧ zPts l r1 = some r' := by
  obtain ⟨x, h1, h2⟩ := Option.bind_eq_some_iff.mp (show (f_Rf_puts b r).bind (fun x => zPts l x.2) = some r' from h)
  exact ⟨x.1, x.2, h1, h2⟩
theorem zPts_one {b : Int} {r r' : zSt} (h : zPts [b] r = some r') : ∃ v, f_Rf_puts b r = some (v, r') := by
  obtain ⟨v, r1, h1, h2⟩ := zPts_cons h
  injection h2 with h2
  exact ⟨v, by rw [h1, h2]⟩
theorem c_putsNumber {x : Int} (hx : 0 ≤ x ∧ x ≤ 999) {r r' : zSt} (h : zPts (zdg x) r = some r') : ∃ v, f_Rf_putsNumber x r = some (v, r') := by
  have e1 : wRem x 10 = x % 10 := wRem_e hx.1 (by decide)
  have e2 : wDiv x 10 = x / 10 := wDiv_e (by omega) (by decide)
  have e3 : wRem (x / 10) 10 = x / 10 % 10 := wRem_e (by omega) (by decide)
  have e4 : wDiv x 100 = x / 100 := wDiv_e (by omega) (by decide)
  have w1 : w32 (48 + x % 10) = 48 + x % 10 := w32i (by omega) (by omega)
  have w2 : w32 (48 + x / 10 % 10) = 48 + x / 10 % 10 := w32i (by omega) (by omega)
  have w3 : w32 (48 + x / 100) = 48 + x / 100 := w32i (by omega) (by omega)
  unfold zdg at h
  unfold f_Rf_putsNumber f_Rf_putsNumber_j17
  rw [e1, e2, e3, e4, w1, w2, w3]
  by_cases q : x < 10
  · rw [if_pos q] at h
    obtain ⟨v, e⟩ := zPts_one h
    rw [show 48 + x = 48 + x % 10 by omega] at e
    exact ⟨0, iteT (by omega) (iteT (by omega) (bindS e rfl))⟩
  rw [if_neg q] at h
  by_cases q2 : x < 100
  · rw [if_pos q2] at h
    obtain ⟨v, r1, h1, h2⟩ := zPts_cons h
    obtain ⟨v2, e⟩ := zPts_one h2
    rw [show 48 + x / 10 = 48 + x / 10 % 10 by omega] at h1
    exact ⟨0, iteT (by omega) (iteF (by omega) (bindS h1 (bindS e rfl)))⟩
  · rw [if_neg q2] at h
    obtain ⟨v, r1, h1, h2⟩ := zPts_cons h
    obtain ⟨v2, r2, h3, h4⟩ := zPts_cons h2
    obtain ⟨v3, e⟩ := zPts_one h4
    exact ⟨0, iteF (by omega) (bindS h1 (iteF (by omega) (bindS h3 (bindS e rfl))))⟩
section ZPT
variable {X : List Int → List Int → zSt → List Int → Prop} {q r : zSt} {ln hd l : List Int}
theorem J_comes (hX : zXok X) {pg : List Int} : ∀ (ds : List Int) (r : zSt) (l m : List Int), zbs ds → zOk r → X pg l r m → zLs (r.2 10) (r.1 0 48) m → r.1 0 42 = 0 → ∃ r' m', zPts ds r = some r' ∧ zOk r' ∧ X pg (l ++ ds) r' m' ∧ zLs (r'.2 10) (r'.1 0 48) m' ∧ zKr r r'
  | [], r, l, m, hb, hO, hx, hm, hz => ⟨r, m, rfl, hO, by rw [List.append_nil]; exact hx, hm, zKr.rf r⟩
  | b :: ds, r, l, m, hb, hO, hx, hm, hz => by
    have hb0 := hb b List.mem_cons_self
    obtain ⟨r1, k1, k2, k3⟩ := hO.comes hb0
    obtain ⟨m1, n1, n2⟩ := zLs.ex (r1.2 10) k2.2
    obtain ⟨r', m', u1, u2, u3, u4, u5⟩ := J_comes hX ds r1 (l ++ [b]) m1 (fun c hc => hb c (List.mem_cons_of_mem _ hc)) k2 (hX.2.1 _ _ _ _ _ _ _ hx hO hb0 hm k1 n1) n1 (by rw [k3.1 42 (by omega)]; exact hz)
    refine ⟨r', m', ?_, u2, by rw [List.append_assoc] at u3; exact u3, u4, k3.trans u5⟩
    unfold zPts
    refine bindS (x := (0, r1)) ?_ u1
    unfold f_Rf_puts
    exact iteF (by simpa using hz) (bindS k1 rfl)
theorem J_holds : ∀ (ds : List Int) (r : zSt) (hd : List Int), zLs (r.2 8) (r.1 0 44) hd → r.1 8 0 = 100 → ¬ r.1 0 42 = 0 → hd.length + ds.length ≤ 100 → ∃ r', zPts ds r = some r' ∧ zLs (r'.2 8) (r'.1 0 44) (hd ++ ds) ∧ (∀ i k, ¬ (i = 0 ∧ k = 44) → r'.1 i k = r.1 i k) ∧ ∀ i, i ≠ 8 → r'.2 i = r.2 i
  | [], r, hd, h, h8, hz, hl => ⟨r, rfl, by rw [List.append_nil]; exact h, fun _ _ _ => rfl, fun _ _ => rfl⟩
  | b :: ds, r, hd, h, h8, hz, hl => by
    simp only [List.length_cons] at hl
    have h1 := h.1
    have ew : w32 (r.1 0 44 + 1) = r.1 0 44 + 1 := w32i (by omega) (by omega)
    obtain ⟨r', u1, u2, u3, u4⟩ := J_holds ds (uS (uE r 8 (r.1 0 44) b) 0 44 (r.1 0 44 + 1)) (hd ++ [b]) (h.add (b := b)) h8 hz (by simp; omega)
    refine ⟨r', ?_, by rw [List.append_assoc] at u2; exact u2, fun i k y => ?_, fun i y => (u4 i y).trans (uA_a y)⟩
    · unfold zPts
      refine bindS (x := (0, uS (uE r 8 (r.1 0 44) b) 0 44 (r.1 0 44 + 1))) ?_ u1
      unfold f_Rf_puts
      exact iteT hz (iteF (by omega) (iteT ⟨by omega, by omega⟩ (by rw [ew])))
    · rw [u3 i k y, uS1]
      by_cases z : i = 0
      · rw [if_pos z, if_neg (by omega), z]; rfl
      · rw [if_neg z]; rfl
theorem J_putsN (hX : zXok X) (h : zJ X q r ln hd l) (hl : l.length + 3 ≤ 256) {v : Int} (hv : 0 ≤ v ∧ v ≤ 999) (hh : r.1 0 42 ≠ 0 → hd.length + (zdg v).length ≤ 100) :
    ∃ q' r' hd' l' x, f_Li_bringNumber v q = some (0, q') ∧ f_Rf_putsNumber v r = some (x, r') ∧ zJ X q' r' ln hd' l' ∧ l'.length ≤ l.length + (zdg v).length ∧ hd'.length + l'.length = hd.length + l.length + (zdg v).length ∧ zEk r r' := by
  obtain ⟨hR, hO, pg, m, x1, x3, x4, x5, x6, x7⟩ := h
  have hR' := hR
  obtain ⟨⟨a1, a2⟩, ⟨b1, b2⟩, ⟨c1, c2, c3, c4, c5⟩, d, e, f⟩ := hR
  have hz := zdg_ln v
  have hzb := zdg_bs hv
  by_cases z : r.1 0 42 = 0
  · obtain ⟨x, p, g1, g2, g3⟩ := Bo_addNumber (o := 7) x5 (by decide) hv
    rw [List.take_of_length_le (by simp; omega)] at g2
    obtain ⟨r', m', u1, u2, u3, u4, u5⟩ := J_comes hX (zdg v) r l m hzb hO x1 x4 z
    obtain ⟨w, e1⟩ := c_putsNumber hv u1
    refine ⟨zpb (zsh 7) 2 q p, r', hd, l ++ zdg v, w, ?_, e1, ⟨(hR'.q3 g3 (Or.inr rfl)).kr u5, u2, pg, m', u3, zBy_ao g3 (by decide) (by decide) x3, u4, g2, x6.app hzb, fun y => ?_⟩, by simp, by simp; omega, u5.ek⟩
    · unfold f_Li_bringNumber
      rw [c3]
      exact iteT z (bindS g1 rfl)
    · have := congrArg List.length y
      rw [List.length_append, List.length_nil] at this
      omega
  · have hh := hh z
    have h8 : r.1 8 0 = 100 := hO.rl.2.2.2.2.2.2.2.1
    obtain ⟨x, p, g1, g2, g3⟩ := Bo_addNumber (o := 3) b1 (by decide) hv
    rw [List.take_of_length_le (by simp; omega)] at g2
    obtain ⟨r', u1, u2, u3, u4⟩ := J_holds (zdg v) r hd b2 h8 z hh
    obtain ⟨w, e1⟩ := c_putsNumber hv u1
    have hlin : zLin r r' := ⟨fun k y1 y2 => u3 0 k (by omega), fun i y => funext fun k => u3 i k (by omega), fun i y => u4 i (by omega)⟩
    refine ⟨zpb (zsh 3) 2 q p, r', hd ++ zdg v, l, w, ?_, e1, ⟨⟨⟨zBy_ao g3 (by decide) (by decide) a1, ?_⟩, ⟨g2, u2⟩, ?_, ?_, e, f.app hzb⟩, hO.lin hlin (by rw [u3 0 48 (by omega)]; exact hO.2), pg, m, hX.1 _ _ _ _ _ x1 hlin, zBy_ao g3 (by decide) (by decide) x3, ?_, zBy_ao g3 (by decide) (by decide) x5, x6, x7⟩, by omega, by simp; omega, ⟨fun k y1 y2 => u3 0 k (by omega), fun k y => u3 0 k (by omega), fun i y1 y2 y3 => u4 i (by omega)⟩⟩
    · unfold f_Li_bringNumber
      rw [c3]
      exact iteF z (bindS g1 rfl)
    · rw [u4 9 (by decide), u3 0 46 (by omega)]; exact a2
    · rw [g3.1 0 4 (by omega), g3.1 0 5 (by omega), g3.1 0 6 (by omega), g3.1 0 7 (by omega), g3.1 0 8 (by omega), u3 0 40 (by omega), u3 0 41 (by omega), u3 0 42 (by omega), u3 0 49 (by omega), u3 0 50 (by omega)]
      exact ⟨c1, c2, c3, c4, c5⟩
    · rw [u3 0 40 (by omega), u3 0 41 (by omega), u3 0 42 (by omega)]
      exact d
    · rw [u4 10 (by decide), u3 0 48 (by omega)]; exact x4
end ZPT
/-- n bytes put, since C0 and r0 -/
def zPn (k : Nat) (ln N : List Int) (h0 : Nat) (C0 r0 : zSt) (n : Nat) (C r : zSt) : Prop := ∃ hd l, zCo C r k [] ln hd l N ∧ l.length ≤ n ∧ hd.length + l.length ≤ h0 + n ∧ zEk r0 r ∧ zSx C0 C
section ZPC
variable {k : Nat} {ln N : List Int} {h0 n : Nat} {C0 r0 C r : zSt}
theorem zPn.byte (h : zPn k ln N h0 C0 r0 n C r) (hn : n < 256) {b : Int} (hb : 0 ≤ b ∧ b ≤ 127) : ∃ q' r', f_Li_bring b (zsb (zsh 5) C) = some (0, q') ∧ f_Rf_puts b r = some (0, r') ∧ zPn k ln N h0 C0 r0 (n + 1) (zpb (zsh 5) 9 C q') r' := by
  obtain ⟨hd, l, a1, a2, a3, a4, a5⟩ := h
  obtain ⟨q', r', hd', l', e1, e2, e3, e4, e5, e6, -⟩ := J_puts (zXX.ok _ _ _) a1.2.2.1 (by omega) hb
  obtain ⟨u1, u2⟩ := a1.li e3 (by rw [e6.1 49 (by decide) (by decide), e6.2.1 40 (by omega)]; exact a1.2.2.2)
  exact ⟨q', r', e1, e2, hd', l', u1, by omega, by omega, a4.trans e6, a5.trans u2⟩
theorem zPn.num (h : zPn k ln N h0 C0 r0 n C r) (hn : n + 3 ≤ 256) {v : Int} (hv : 0 ≤ v ∧ v ≤ 999) (hh : r0.1 0 42 ≠ 0 → h0 + n + (zdg v).length ≤ 100) : ∃ q' r' x, f_Li_bringNumber v (zsb (zsh 5) C) = some (0, q') ∧ f_Rf_putsNumber v r = some (x, r') ∧ zPn k ln N h0 C0 r0 (n + (zdg v).length) (zpb (zsh 5) 9 C q') r' := by
  obtain ⟨hd, l, a1, a2, a3, a4, a5⟩ := h
  obtain ⟨q', r', hd', l', x, e1, e2, e3, e4, e5, e6⟩ := J_putsN (zXX.ok _ _ _) a1.2.2.1 (by omega) hv (fun y => by rw [a4.2.1 42 (by omega)] at y; have := hh y; omega)
  obtain ⟨u1, u2⟩ := a1.li e3 (by rw [e6.1 49 (by decide) (by decide), e6.2.1 40 (by omega)]; exact a1.2.2.2)
  exact ⟨q', r', x, e1, e2, hd', l', u1, by omega, by omega, a4.trans e6, a5.trans u2⟩
end ZPC
theorem c_digitsOf {x : Int} : f_Co_digitsOf x = some ((zdg x).length : Int) ∧ f_Rf_digits x = some ((zdg x).length : Int) := by
  unfold f_Co_digitsOf f_Rf_digits zdg
  by_cases q : x < 10
  · rw [if_pos q, if_pos (show x < 100 by omega), if_pos q, if_pos (show x ≤ 99 by omega), if_pos (show x ≤ 9 by omega)]
    exact ⟨rfl, rfl⟩
  by_cases q2 : x < 100
  · rw [if_neg q, if_pos q2, if_neg q, if_pos (show x ≤ 99 by omega), if_neg (show ¬ x ≤ 9 by omega), if_pos q2]
    exact ⟨rfl, rfl⟩
  · rw [if_neg (show ¬ x < 100 from q2), if_neg (show ¬ x ≤ 99 by omega), if_neg q, if_neg q2]
    exact ⟨rfl, rfl⟩
def e_Co_code_j86 (k0 k1 : Int) (s : zSt) : Option Int :=
  (f_Li_hasRoomFor (w32 (k1 + k0)) (zsb (zsh 5) s)).bind fun x1 => if ¬ x1 = 0 then none else some 2
def e_Co_code (a1 a2 a3 a4 : Int) (s : zSt) : Option Int :=
  if a2 < 0 then
    some 1
  else
    if 999 < a2 then
      some 1
    else
      if a3 < 0 then
        some 1
      else
        if a3 ≤ 999 then
          if a4 < 64 then
            some 1
          else
            if a4 ≤ 126 then
              (f_Co_digitsOf a2).bind fun x9 =>
                if ¬ a3 = 0 then
                  (f_Co_digitsOf a3).bind fun x11 =>
                  e_Co_code_j86 (w32 (1 + x11)) (w32 ((w32 (3 + (if a1 = 0 then 0 else 1))) + x9)) s
                else
                  e_Co_code_j86 0 (w32 ((w32 (3 + (if a1 = 0 then 0 else 1))) + x9)) s
            else
              some 1
        else
          some 1
theorem M_code {B : Nat} {C r : zSt} (h : zWh B C r) (hB : B + 100 < 65536) {a : Int} (ha : a = 0 ∨ a = 1) (b c d : Int) : zMok (B + 100) C (f_Co_code a b c d C) (f_Rf_code a b c d r) ∨ (∃ j, zMth (B + 100) C (e_Co_code a b c d C) (f_Rf_code a b c d r) j j ∧ (j = 1 ∨ j = 2)) := by
  have h0 := h
  obtain ⟨k, ln, hd, N, dr, a1, a2, a3⟩ := h
  obtain ⟨k0, hk0⟩ : ∃ k0 : Nat, k0 = if c = 0 then 0 else 1 + (zdg c).length := ⟨_, rfl⟩
  obtain ⟨m, hm⟩ : ∃ m : Nat, m = if a = 0 then 0 else 1 := ⟨_, rfl⟩
  have hm1 : m ≤ 1 := by rw [hm]; split <;> omega
  have lb := zdg_ln b
  have lc := zdg_ln c
  have hk01 : k0 ≤ 4 := by rw [hk0]; split <;> omega
  have em : (if a = 0 then 0 else 1 : Int) = (m : Int) := by rw [hm]; split <;> rfl
  have ek1 : w32 ((w32 (3 + (if a = 0 then 0 else 1))) + ((zdg b).length : Int)) = 3 + m + (zdg b).length := by rw [em, w32i (x := 3 + (m : Int)) (by omega) (by omega), w32i (by omega) (by omega)]
  have ek : w32 ((3 + m + (zdg b).length : Int) + k0) = ((3 + m + (zdg b).length + k0 : Nat) : Int) := by rw [w32i (by omega) (by omega)]; omega
  have e40 : c = 0 → k0 = 0 := fun z => by rw [hk0, if_pos z]
  have e41 : ¬ c = 0 → k0 = 1 + (zdg c).length ∧ w32 (1 + ((zdg c).length : Int)) = (k0 : Int) := fun z => by
    rw [hk0, if_neg z]
    exact ⟨rfl, by rw [w32i (by omega) (by omega)]; omega⟩
  -- the reference's first steps
  have rst : ∀ o, f_Rf_code_j30 a b c d k0 (3 + m + (zdg b).length) r = o → f_Rf_code a b c d r = o := by
    intro o e
    unfold f_Rf_code
    refine bindS c_digitsOf.2 ?_
    rw [ek1]
    by_cases z : c = 0
    · rw [e40 z] at e
      exact iteF (fun w => w z) e
    · refine iteT z (bindS c_digitsOf.2 ?_)
      rw [(e41 z).2]
      exact e
  by_cases y : ((0 ≤ b ∧ b ≤ 999) ∧ (0 ≤ c ∧ c ≤ 999)) ∧ (64 ≤ d ∧ d ≤ 126)
  · have hr := c_hasRoom a1 (a := ((3 + m + (zdg b).length + k0 : Nat) : Int)) (by omega)
    have hh := a1.held
    have est : ∀ o, e_Co_code_j86 k0 (3 + m + (zdg b).length) C = o → e_Co_code a b c d C = o := by
      intro o e
      unfold e_Co_code
      refine iteF (by omega) (iteF (by omega) (iteF (by omega) (iteT (by omega) (iteF (by omega) (iteT (by omega) (bindS c_digitsOf.1 ?_))))))
      rw [ek1]
      by_cases z : c = 0
      · rw [e40 z] at e
        exact iteF (fun w => w z) e
      · refine iteT z (bindS c_digitsOf.1 ?_)
        rw [(e41 z).2]
        exact e
    have cst : ∀ o, f_Co_code_j86 a b c d k0 (3 + m + (zdg b).length) C = o → f_Co_code a b c d C = o := by
      intro o e
      unfold f_Co_code
      refine iteF (by omega) (iteF (by omega) (iteF (by omega) (iteT (by omega) (iteF (by omega) (iteT (by omega) (bindS c_digitsOf.1 ?_))))))
      rw [ek1]
      by_cases z : c = 0
      · rw [e40 z] at e
        exact iteF (fun w => w z) e
      · refine iteT z (bindS c_digitsOf.1 ?_)
        rw [(e41 z).2]
        exact e
    have e44 : w32 (r.1 0 44 + w32 ((3 + m + (zdg b).length : Int) + k0)) = r.1 0 44 + ((3 + m + (zdg b).length + k0 : Nat) : Int) := by rw [ek, w32i (by omega) (by omega)]
    by_cases w : r.1 0 42 ≠ 0 ∧ 100 < r.1 0 44 + ((3 + m + (zdg b).length + k0 : Nat) : Int)
    · refine Or.inr ⟨2, ⟨0, uS r 0 0 2, est _ ?_, rst _ ?_, rfl, (h0.f0 (Or.inl rfl) 2).mono (by omega)⟩, Or.inr rfl⟩
      · unfold e_Co_code_j86
        rw [ek]
        refine bindS hr (iteF ?_ rfl)
        rw [if_neg w.1, if_pos w.2]
        decide
      · unfold f_Rf_code_j30
        refine bindS (in_1 y.1.1) (iteF (by decide) (bindS (in_1 y.1.2) (iteF (by decide) (bindS (in_1 y.2) ?_))))
        have ec : (if ¬ ((1 : Int) = 0) then (if (r.1 0 42) = 0 then 0 else (if (w32 ((r.1 0 44) + (w32 ((3 + m + (zdg b).length : Int) + k0)))) ≤ 100 then 0 else 2)) else 1 : Int) = 2 := by
          rw [if_pos (by decide), if_neg w.1, e44, if_neg (by omega)]
        rw [ec]
        exact iteF (by decide) rfl
    · have hroom : r.1 0 42 ≠ 0 → hd.length + (3 + m + (zdg b).length + k0) ≤ 100 := fun v => by
        have : ¬ 100 < r.1 0 44 + ((3 + m + (zdg b).length + k0 : Nat) : Int) := fun u => w ⟨v, u⟩
        omega
      have z0 : zPn k ln N hd.length C (uS r 0 0 0) 0 C (uS r 0 0 0) := ⟨hd, [], a1.f0 (Or.inl rfl) 0, by simp, by simp, zEk.rf _, zSx.rf _⟩
      obtain ⟨q1, r1, c1, d1, z1⟩ := z0.byte (by decide) (b := 27) (by decide)
      obtain ⟨q2, r2, c2, d2, z2⟩ := z1.byte (by decide) (b := 91) (by decide)
      -- the end: after the marks, from any state
      have tail : ∀ (D s : zSt), zPn k ln N hd.length C (uS r 0 0 0) (2 + m) D s → ∃ v C' r', f_Co_code_j142 b c d D = some (v, C') ∧ f_Rf_code_j130 b c d s = some (v, r') ∧ r'.1 0 0 = 0 ∧ zWh (B + 100) C' r' := by
        intro D s zz
        obtain ⟨q4, r4, x4, c4, d4, z4⟩ := zz.num (by omega) y.1.1 (fun v => by have := hroom v; omega)
        -- the last byte, and settling
        have last : ∀ (E t : zSt) (n : Nat), zPn k ln N hd.length C (uS r 0 0 0) n E t → n ≤ 12 → ∃ C' r', f_Co_code_j171 d E = some (r'.1 0 44, C') ∧ f_Rf_puts d t = some (0, r') ∧ r'.1 0 0 = 0 ∧ zWh (B + 100) C' r' := by
          intro E t n zt hn
          obtain ⟨q7, r7, c7, d7, z7⟩ := zt.byte (by omega) (b := d) (by omega)
          obtain ⟨hd7, l7, u1, u2, u3, u4, u5⟩ := z7
          have dd : zDS (zpb (zsh 5) 9 E q7) r7 dr := (a3.f0 (Or.inl rfl) (0 : Int)).cg (fun i y => u5.1 i (by omega)) ⟨u4.1 52 (by decide) (by decide), u4.2.1 1 (by omega), u4.2.1 2 (by omega)⟩ ⟨u4.2.2 11 (by decide) (by decide) (by decide), u4.2.2 12 (by decide) (by decide) (by decide)⟩
          obtain ⟨C', r2, t1, t2, t3, t4, t5⟩ := Co_done (B := B + 100) hB u1 (by simp; omega) dd
          obtain rfl : r7 = r2 := by injection t2
          refine ⟨C', r7, ?_, d7, (u4.2.1 0 (by omega)).trans rfl, t3⟩
          unfold f_Co_code_j171
          exact bindS c7 (bindS t1 (zmn_i t5 (bindS t3.held rfl) (Int.le_refl _)))
        by_cases z : c = 0
        · obtain ⟨C', r', t1, t2, t3, t4⟩ := last _ _ _ z4 (by omega)
          refine ⟨r'.1 0 44, C', r', ?_, ?_, t3, t4⟩
          · unfold f_Co_code_j142
            exact bindS c4 (iteT z t1)
          · unfold f_Rf_code_j130
            exact bindS d4 (iteT z (bindS t2 rfl))
        · have ek0 := (e41 z).1
          obtain ⟨q5, r5, c5, d5, z5⟩ := z4.byte (by omega) (b := 59) (by decide)
          obtain ⟨q6, r6, x6, c6, d6, z6⟩ := z5.num (by omega) y.1.2 (fun v => by have := hroom v; omega)
          obtain ⟨C', r', t1, t2, t3, t4⟩ := last _ _ _ z6 (by omega)
          refine ⟨r'.1 0 44, C', r', ?_, ?_, t3, t4⟩
          · unfold f_Co_code_j142
            exact bindS c4 (iteF z (bindS c5 (bindS c6 t1)))
          · unfold f_Rf_code_j130
            exact bindS d4 (iteF z (bindS d5 (bindS d6 (bindS t2 rfl))))
      have hroom1 : (if r.1 0 42 = 0 then (1 : Int) else if 100 < r.1 0 44 + ((3 + m + (zdg b).length + k0 : Nat) : Int) then 0 else 1) = 1 := by
        by_cases v : r.1 0 42 = 0
        · rw [if_pos v]
        · rw [if_neg v, if_neg (fun u => w ⟨v, u⟩)]
      rw [hroom1] at hr
      have ec : (if ¬ ((1 : Int) = 0) then (if (r.1 0 42) = 0 then 0 else (if (w32 ((r.1 0 44) + (w32 ((3 + m + (zdg b).length : Int) + k0)))) ≤ 100 then 0 else 2)) else 1 : Int) = 0 := by
        rw [if_pos (by decide)]
        by_cases v : r.1 0 42 = 0
        · rw [if_pos v]
        · have : ¬ 100 < r.1 0 44 + ((3 + m + (zdg b).length + k0 : Nat) : Int) := fun u => w ⟨v, u⟩
          rw [if_neg v, e44, if_pos (by omega)]
      refine Or.inl ?_
      by_cases v : a = 0
      · rw [if_pos v] at hm
        obtain ⟨x, C', r', t1, t2, t3, t4⟩ := tail _ _ (by rw [hm]; exact z2)
        refine ⟨x, C', r', cst _ ?_, rst _ ?_, t3, t4⟩
        · unfold f_Co_code_j86
          rw [ek]
          exact bindS hr (iteT (by decide) (bindS c1 (bindS c2 (iteT v t1))))
        · unfold f_Rf_code_j30
          refine bindS (in_1 y.1.1) (iteF (by decide) (bindS (in_1 y.1.2) (iteF (by decide) (bindS (in_1 y.2) ?_))))
          rw [ec]
          exact iteT (by decide) (bindS d1 (bindS d2 (iteT v t2)))
      · rw [if_neg v] at hm
        obtain ⟨q3, r3, c3, d3, z3⟩ := z2.byte (by decide) (b := 63) (by decide)
        obtain ⟨x, C', r', t1, t2, t3, t4⟩ := tail _ _ (by rw [hm]; exact z3)
        refine ⟨x, C', r', cst _ ?_, rst _ ?_, t3, t4⟩
        · unfold f_Co_code_j86
          rw [ek]
          exact bindS hr (iteT (by decide) (bindS c1 (bindS c2 (iteF v (bindS c3 t1)))))
        · unfold f_Rf_code_j30
          refine bindS (in_1 y.1.1) (iteF (by decide) (bindS (in_1 y.1.2) (iteF (by decide) (bindS (in_1 y.2) ?_))))
          rw [ec]
          exact iteT (by decide) (bindS d1 (bindS d2 (iteF v (bindS d3 t2))))
  · refine Or.inr ⟨1, ⟨0, uS r 0 0 1, ?_, rst _ ?_, rfl, (h0.f0 (Or.inl rfl) 1).mono (by omega)⟩, Or.inl rfl⟩
    · unfold e_Co_code
      by_cases z1 : b < 0
      · exact iteT z1 rfl
      refine iteF z1 ?_
      by_cases z2 : 999 < b
      · exact iteT z2 rfl
      refine iteF z2 ?_
      by_cases z3 : c < 0
      · exact iteT z3 rfl
      refine iteF z3 ?_
      by_cases z4 : c ≤ 999
      · refine iteT z4 ?_
        by_cases z5 : d < 64
        · exact iteT z5 rfl
        exact iteF z5 (iteF (by omega) rfl)
      · exact iteF z4 rfl
    · unfold f_Rf_code_j30
      have j68 : f_Rf_code_j68 a b c d r = some (0, uS r 0 0 1) := by
        unfold f_Rf_code_j68 f_Rf_code_j96
        exact iteF (by decide) rfl
      by_cases z1 : 0 ≤ b ∧ b ≤ 999
      · refine bindS (in_1 z1) (iteF (by decide) ?_)
        by_cases z2 : 0 ≤ c ∧ c ≤ 999
        · refine bindS (in_1 z2) (iteF (by decide) (bindS (in_0 (by omega)) ?_))
          have ec : (if ¬ ((0 : Int) = 0) then (if (r.1 0 42) = 0 then 0 else (if (w32 ((r.1 0 44) + (w32 ((3 + m + (zdg b).length : Int) + k0)))) ≤ 100 then 0 else 2)) else 1 : Int) = 1 := if_neg (fun u => u rfl)
          rw [ec]
          exact iteF (by decide) rfl
        · exact bindS (in_0 z2) (iteT rfl j68)
      · exact bindS (in_0 z1) (iteT rfl j68)
