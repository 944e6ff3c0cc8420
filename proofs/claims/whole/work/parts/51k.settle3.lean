/-! ===== settling: the whole ===== -/
theorem zJ.cg {X : List Int → List Int → zSt → List Int → Prop} {q q' r : zSt} {ln hd l : List Int} (h : zJ X q r ln hd l) (k : ∀ i, i < 9 → q'.1 i = q.1 i ∧ q'.2 i = q.2 i) : zJ X q' r ln hd l := by
  obtain ⟨hR, hO, pg, m, x1, x3, x4, x5, x6⟩ := h
  refine ⟨hR.cg (fun i hi => k i (by omega)), hO, pg, m, x1, zBy_cg x3 ?_ ?_ ?_ ?_, x4, zBy_cg x5 ?_ ?_ ?_ ?_, x6⟩
  · exact congrFun (k 5 (by decide)).1 1
  · exact congrFun (k 5 (by decide)).1 2
  · exact congrFun (k 6 (by decide)).1 0
  · exact (k 6 (by decide)).2
  · exact congrFun (k 7 (by decide)).1 1
  · exact congrFun (k 7 (by decide)).1 2
  · exact congrFun (k 8 (by decide)).1 0
  · exact (k 8 (by decide)).2
theorem zsb_ext {b : Nat} {C D : zSt} (h : ∀ i, D.1 (i + b) = C.1 (i + b) ∧ D.2 (i + b) = C.2 (i + b)) : zsb (zsh b) D = zsb (zsh b) C := Prod.ext (funext fun i => (h i).1) (funext fun i => (h i).2)
/-- the line rule is put back -/
theorem zCo.li {C r r' q' : zSt} {k : Nat} {ty ln hd l N ln' hd' l' : List Int} (h : zCo C r k ty ln hd l N) (hJ : zJ (zXX (zsb (zsh 14) C) (zsb (zsh 43) C) (N.drop k)) q' r' ln' hd' l') (hw : w32 (r'.1 0 49) = r'.1 0 49 ∧ (r'.1 0 40 ≠ 0 → ln' = [])) : zCo (zpb (zsh 5) 9 C q') r' k ty ln' hd' l' N ∧ zSx C (zpb (zsh 5) 9 C q') := by
  have c : ∀ i j, (zpb (zsh 5) 9 C q').1 i j = if 5 ≤ i ∧ i < 5 + 9 then q'.1 (i - 5) j else C.1 i j := fun i j => zpb1 5 9 C q' i j
  have d : ∀ i, (zpb (zsh 5) 9 C q').2 i = if 5 ≤ i ∧ i < 5 + 9 then q'.2 (i - 5) else C.2 i := fun i => zpb2 5 9 C q' i
  generalize zpb (zsh 5) 9 C q' = D at *
  have o : ∀ i, (i < 5 ∨ 14 ≤ i) → D.1 i = C.1 i ∧ D.2 i = C.2 i := fun i y => by
    constructor
    · funext j
      rw [c, if_neg (by omega)]
    · rw [d, if_neg (by omega)]
  obtain ⟨⟨hty, hbt⟩, ⟨hT, hk, hkN⟩, -, -⟩ := h
  have e1 : zsb (zsh 14) D = zsb (zsh 14) C := zsb_ext fun i => o _ (by omega)
  have e2 : zsb (zsh 43) D = zsb (zsh 43) C := zsb_ext fun i => o _ (by omega)
  refine ⟨⟨⟨zBy_cg hty ?_ ?_ ?_ ?_, hbt⟩, ⟨hT.cg ?_ ?_ ?_, ?_, hkN⟩, ?_, hw⟩, ⟨fun i y => o i (by omega), ?_⟩⟩
  · exact congrFun (o 1 (by decide)).1 1
  · exact congrFun (o 1 (by decide)).1 2
  · exact congrFun (o 2 (by decide)).1 0
  · exact (o 2 (by decide)).2
  · exact congrFun (o 41 (by decide)).1 1
  · exact (o 42 (by decide)).2
  · exact congrFun (o 42 (by decide)).1 0
  · rw [(o 41 (by decide)).1]; exact hk
  · rw [e1, e2]
    refine hJ.cg (fun i hi => ⟨?_, ?_⟩)
    · funext j
      show D.1 (i + 5) j = _
      rw [c, if_pos (by omega), Nat.add_sub_cancel]
    · show D.2 (i + 5) = _
      rw [d, if_pos (by omega), Nat.add_sub_cancel]
  · rw [(o 42 (by decide)).1]; exact Int.le_refl _
/-- bytes are added to those typed, or taken -/
theorem zCo.ty {C D r : zSt} {k : Nat} {ty ty' ln hd l N : List Int} (h : zCo C r k ty ln hd l N) (ha : zAo 1 C D) (h1 : zBy (zsb (zsh 1) D) 64 ty') (h2 : zbs ty') : zCo D r k ty' ln hd l N ∧ zSx C D ∧ zsb (zsh 5) D = zsb (zsh 5) C ∧ D.1 42 0 = C.1 42 0 := by
  have o : ∀ i, i ≠ 1 → i ≠ 2 → D.1 i = C.1 i ∧ D.2 i = C.2 i := fun i y1 y2 => by
    constructor
    · funext j
      exact ha.1 i j (by omega)
    · exact ha.2 i (by omega)
  obtain ⟨-, ⟨hT, hk, hkN⟩, hJ, hw⟩ := h
  have e0 : zsb (zsh 5) D = zsb (zsh 5) C := zsb_ext fun i => o _ (by omega) (by omega)
  have e1 : zsb (zsh 14) D = zsb (zsh 14) C := zsb_ext fun i => o _ (by omega) (by omega)
  have e2 : zsb (zsh 43) D = zsb (zsh 43) C := zsb_ext fun i => o _ (by omega) (by omega)
  refine ⟨⟨⟨h1, h2⟩, ⟨hT.cg ?_ ?_ ?_, ?_, hkN⟩, ?_, hw⟩, ⟨fun i y => o i (by omega) (by omega), ?_⟩, e0, ha.1 42 0 (by omega)⟩
  · exact congrFun (o 41 (by decide) (by decide)).1 1
  · exact (o 42 (by decide) (by decide)).2
  · exact congrFun (o 42 (by decide) (by decide)).1 0
  · rw [(o 41 (by decide) (by decide)).1]; exact hk
  · rw [e0, e1, e2]; exact hJ
  · rw [(o 42 (by decide) (by decide)).1]; exact Int.le_refl _
/-- one typed byte is taken in -/
theorem Co_types {C r : zSt} {k : Nat} {ty ln hd N : List Int} {c : Int} (h : zCo C r k (c :: ty) ln hd [] N) :
    ∃ p q' r' ln' hd' l', f_By_removeFirst (zsb (zsh 1) C) = some (c, p) ∧ f_Li_accept c (zsb (zsh 5) (zpb (zsh 1) 2 C p)) = some (0, q') ∧ f_Rf_types c r = some (0, r') ∧ (zCo (zpb (zsh 5) 9 (zpb (zsh 1) 2 C p) q') r' k ty ln' hd' l' N ∧ zSx C (zpb (zsh 5) 9 (zpb (zsh 1) 2 C p) q')) ∧ l'.length ≤ 256 ∧ l'.length + hd'.length + 6 * ln'.length ≤ hd.length + 6 * ln.length + 8 ∧ zTf (uS r 0 53 (w32 (r.1 0 53 + 1))) r' := by
  have hc : 0 ≤ c ∧ c ≤ 127 := h.1.2 c List.mem_cons_self
  obtain ⟨p, g1, g2, g3⟩ := Bo_removeFirst (o := 1) h.1.1 (by decide)
  obtain ⟨h1, h2, h3, h4⟩ := h.ty g3 g2 (fun b hb => h.1.2 b (List.mem_cons_of_mem _ hb))
  obtain ⟨q', r', ln', hd', l', a1, a2, a3, a4, a5, a6, a7⟩ := J_accept (zXX.ok _ _ _) h1.2.2.1 h1.2.2.2.1 hc
  obtain ⟨b1, b2⟩ := h1.li a3 ⟨a6.2.2 h1.2.2.2.1, fun y => by have e := (a6.1 40 (by omega)).trans (show (uS r 0 53 (w32 (r.1 0 53 + 1))).1 0 40 = r.1 0 40 from rfl); rw [e] at y; rw [a7 y]; exact h1.2.2.2.2 y⟩
  exact ⟨p, q', r', ln', hd', l', g1, a1, a2, ⟨b1, h2.trans b2⟩, a4, a5, a6⟩
/-- typed bytes, one after another, in the reference -/
def zTys : List Int → zSt → Option zSt
  | [], r => some r
  | b :: l, r => (f_Rf_types b r).bind fun x => zTys l x.2
/-- what n typed bytes leave alone -/
def zTn (n : Nat) (r r' : zSt) : Prop := (∀ k, k = 0 ∨ k = 1 ∨ k = 2 ∨ k = 40 ∨ k = 41 ∨ k = 52 ∨ (54 ≤ k ∧ k ≠ 58) → r'.1 0 k = r.1 0 k) ∧ (∀ i, i = 11 ∨ i = 12 → r'.2 i = r.2 i) ∧ (0 ≤ r.1 0 53 → r.1 0 53 + n ≤ 1000 → r'.1 0 53 = r.1 0 53 + n)
theorem zTn.rf (r : zSt) : zTn 0 r r := ⟨fun _ _ => rfl, fun _ _ => rfl, fun _ _ => (Int.add_zero _).symm⟩
theorem zTn.cons {n : Nat} {r r1 r2 : zSt} (h : zTf (uS r 0 53 (w32 (r.1 0 53 + 1))) r1) (k : zTn n r1 r2) : zTn (n + 1) r r2 := by
  refine ⟨fun i a => ?_, fun i a => (k.2.1 i a).trans (h.2.1 i a), fun a b => ?_⟩
  · rw [k.1 i a, h.1 i (by omega), uS1, if_pos rfl, if_neg (by omega)]
  · have e : r1.1 0 53 = r.1 0 53 + 1 := by
      rw [h.1 53 (by omega), uS1, if_pos rfl, if_pos rfl, w32i (by omega) (by omega)]
    rw [k.2.2 (by omega) (by omega), e]
    omega
/-- the same, step by step -/
def zTyF : List Int → zSt → zSt → Prop
  | [], r, r' => r' = r
  | b :: l, r, r' => ∃ v r1, f_Rf_types b r = some (v, r1) ∧ zTf (uS r 0 53 (w32 (r.1 0 53 + 1))) r1 ∧ r1.1 11 0 = 40 ∧ zTyF l r1 r'
theorem zTyF.tys : ∀ {l : List Int} {r r' : zSt}, zTyF l r r' → zTys l r = some r'
  | [], r, r', h => congrArg some (show r' = r from h).symm
  | b :: l, r, r', ⟨v, r1, h1, h2, h3, h4⟩ => by
    unfold zTys
    exact bindS h1 h4.tys
theorem zTyF.app {m : List Int} : ∀ {l : List Int} {r r' : zSt}, zTyF (l ++ m) r r' → ∃ r1, zTyF l r r1 ∧ zTyF m r1 r'
  | [], r, r', h => ⟨r, rfl, h⟩
  | b :: l, r, r', ⟨v, r1, h1, h2, h3, h4⟩ => by
    obtain ⟨r2, k1, k2⟩ := zTyF.app h4
    exact ⟨r2, ⟨v, r1, h1, h2, h3, k1⟩, k2⟩
theorem zTyF.fr : ∀ {l : List Int} {r r' : zSt}, zTyF l r r' → r.1 11 0 = 40 → r'.1 11 0 = 40 ∧ r'.1 0 52 = r.1 0 52 ∧ r'.2 11 = r.2 11
  | [], r, r', h, h0 => by
    obtain rfl : r' = r := h
    exact ⟨h0, rfl, rfl⟩
  | b :: l, r, r', ⟨v, r1, h1, h2, h3, h4⟩, h0 => by
    obtain ⟨k1, k2, k3⟩ := h4.fr h3
    exact ⟨k1, k2.trans (h2.1 52 (by omega)), k3.trans (h2.2.1 11 (by omega))⟩
theorem Co_settle_key {B : Nat} (hB : B < 65536) : ∀ (n f : Nat) (C r : zSt) (k : Nat) (ty ln hd l N : List Int) (i : Int), 257 * ty.length + l.length = n → n < f → 0 ≤ i → i + n < 1000000 → zCo C r k ty ln hd l N → N.length + l.length + hd.length + 6 * ln.length + 8 * ty.length ≤ B →
    ∃ C' r' ln' hd' N', zloop f_Co_settle_l2 f (i, C) = some (0, C') ∧ zTyF ty r r' ∧ zCo C' r' k [] ln' hd' [] N' ∧ N'.length + hd'.length + 6 * ln'.length ≤ B ∧ zSx C C' ∧ zTn ty.length r r' := by
  intro n
  induction n using Nat.strongRecOn with
  | ind n ih =>
    intro f C r k ty ln hd l N i hn hf hi0 hi h hb
    obtain ⟨f, rfl⟩ : ∃ j, f = j + 1 := ⟨f - 1, by omega⟩
    have hl : zBy (zsb (zsh 12) C) 256 l := by
      obtain ⟨-, -, ⟨-, -, pg, m, -, -, -, x5, -⟩, -⟩ := h
      exact x5
    cases l with
    | cons b l =>
      obtain ⟨p, t, s1, p2, a1, a2, a3, a4, ⟨e1, e2, e3⟩, a6, a7⟩ := Co_arrives h (by simp at hb; omega)
      simp only [List.length_cons] at hn hb
      obtain ⟨C', r', ln', hd', N', b1, b2, b3, b4, b5, b6⟩ := ih (n - 1) (by omega) f _ r k ty ln hd l (N ++ [b]) (i + 1) (by omega) (by omega) (by omega) (by omega) a6 (by simp; omega)
      refine ⟨C', r', ln', hd', N', ?_, b2, b3, b4, a7.trans b5, b6⟩
      have es : f_Co_settle_l2 (i, C) = some (.inl (i + 1, zpb (zsl [10, 11, 34, 35]) 4 (zpb (zsh 14) 27 (zpb (zsh 41) 2 (zpb (zsh 12) 2 C p) t) s1) p2)) := by
        unfold f_Co_settle_l2
        refine zmnL_i (Int.le_refl _) (iteF (by show ¬ 1000000 ≤ i; omega) (bindS (By_count hl) (iteF (by simp) (bindS a1 (bindS a2 (zmnL_i ?_ (bindS a3 (bindS a4 ?_)) ?_)))))) ?_
        · show (zpb (zsh 12) 2 C p).1 42 0 ≤ _
          rw [e3]; exact e1
        · show some (Sum.inl (w32 (i + 1), _)) = _
          rw [w32i (by omega) (by omega)]
        · show _ ≤ (zpb (zsl [10, 11, 34, 35]) 4 (zpb (zsh 14) 27 (zpb (zsh 41) 2 (zpb (zsh 12) 2 C p) t) s1) p2).1 42 0
          rw [e2]; exact Int.le_refl _
        · show C.1 42 0 ≤ (zpb (zsl [10, 11, 34, 35]) 4 (zpb (zsh 14) 27 (zpb (zsh 41) 2 (zpb (zsh 12) 2 C p) t) s1) p2).1 42 0
          rw [e2]; exact e1
      unfold zloop
      rw [es]
      exact b1
    | nil =>
      cases ty with
      | nil =>
        refine ⟨C, r, ln, hd, N, ?_, rfl, h, by simpa using hb, zSx.rf C, zTn.rf r⟩
        have es : f_Co_settle_l2 (i, C) = some (.inr (0, C)) := by
          unfold f_Co_settle_l2
          exact zmnL_i (Int.le_refl _) (iteF (by show ¬ 1000000 ≤ i; omega) (bindS (By_count hl) (iteT (by simp) (bindS (By_count h.1.1) (iteT (by simp) rfl))))) (Int.le_refl _)
        unfold zloop
        rw [es]
        rfl
      | cons c ty =>
        obtain ⟨p, q', r1, ln1, hd1, l1, a1, a2, a3, ⟨a4, a5⟩, a6, a7, a8⟩ := Co_types h
        simp only [List.length_cons, List.length_nil] at hn hb
        obtain ⟨C', r', ln', hd', N', b1, b2, b3, b4, b5, b6⟩ := ih (257 * ty.length + l1.length) (by omega) f _ r1 k ty ln1 hd1 l1 N (i + 1) rfl (by omega) (by omega) (by omega) a4 (by omega)
        refine ⟨C', r', ln', hd', N', ?_, ?_, b3, b4, a5.trans b5, zTn.cons a8 b6⟩
        · have es : f_Co_settle_l2 (i, C) = some (.inl (i + 1, zpb (zsh 5) 9 (zpb (zsh 1) 2 C p) q')) := by
            unfold f_Co_settle_l2
            refine zmnL_i (Int.le_refl _) (iteF (by show ¬ 1000000 ≤ i; omega) (bindS (By_count hl) (iteT (by simp) (bindS (By_count h.1.1) (iteF (by simp) (bindS a1 (bindS a2 ?_))))))) a5.2
            show some (Sum.inl (w32 (i + 1), _)) = _
            rw [w32i (by omega) (by omega)]
          unfold zloop
          rw [es]
          exact b1
        · exact ⟨_, r1, a3, a8, a4.2.2.1.2.1.rl.2.2.2.2.2.2.2.2.2.2.1, b2⟩
theorem Co_settle {B : Nat} (hB : B < 65536) {C r : zSt} {k : Nat} {ty ln hd l N : List Int} (h : zCo C r k ty ln hd l N) (hb : N.length + l.length + hd.length + 6 * ln.length + 8 * ty.length ≤ B) :
    ∃ C' r' ln' hd' N', f_Co_settle C = some (0, C') ∧ zTyF ty r r' ∧ zCo C' r' k [] ln' hd' [] N' ∧ N'.length + hd'.length + 6 * ln'.length ≤ B ∧ zSx C C' ∧ zTn ty.length r r' := by
  have h1 : ty.length ≤ 64 := h.1.1.2.2.2.1
  have h2 : l.length ≤ 256 := by
    obtain ⟨-, -, ⟨-, -, pg, m, -, -, -, x5, -⟩, -⟩ := h
    exact x5.2.2.2.1
  obtain ⟨C', r', ln', hd', N', b⟩ := Co_settle_key hB _ zfu C r k ty ln hd l N 0 rfl (by unfold zfu; omega) (by decide) (by omega) h hb
  exact ⟨C', r', ln', hd', N', b⟩
