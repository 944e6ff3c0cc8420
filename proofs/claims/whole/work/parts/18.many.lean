/-! ===== loops that do one thing n times ===== -/
def zit (f : zSt → Option (Int × zSt)) : Nat → zSt → Option zSt
  | 0, s => some s
  | m + 1, s => (f s).bind fun x => zit f m x.2
theorem zit_up {f : zSt → Option (Int × zSt)} {step : Int × zSt → Option ((Int × zSt) ⊕ zSt)} {K : Int} (hs : ∀ i s, i < K → step (i, s) = (f s).bind fun x => some (.inl (w32 (i + 1), x.2))) (he : ∀ i s, K ≤ i → step (i, s) = some (.inr s)) (hK : K < 100000) :
    ∀ (m n : Nat) (i : Int) (s s' : zSt), 0 ≤ i → m = (K - i).toNat → m < n → zit f m s = some s' → zloop step n (i, s) = some s'
  | _, 0, _, _, _, _, _, h, _ => absurd h (Nat.not_lt_zero _)
  | 0, n + 1, i, s, s', h0, hm, hn, h => by
    unfold zloop
    rw [he i s (by omega)]
    exact h
  | m + 1, n + 1, i, s, s', h0, hm, hn, h => by
    unfold zloop
    rw [hs i s (by omega)]
    unfold zit at h
    cases e : f s with
    | none => rw [e] at h; cases h
    | some x =>
      rw [e] at h
      simp only [Option.bind_some] at h ⊢
      rw [w32i (by omega) (by omega)]
      exact zit_up hs he hK m n (i + 1) x.2 s' (by omega) (by omega) (by omega) h
theorem zit_dn {f : zSt → Option (Int × zSt)} {step : Int × zSt → Option ((Int × zSt) ⊕ zSt)} (hs : ∀ i s, 0 < i → step (i, s) = (f s).bind fun x => some (.inl (w32 (i + (-1)), x.2))) (he : ∀ i s, i ≤ 0 → step (i, s) = some (.inr s)) :
    ∀ (m n : Nat) (i : Int) (s s' : zSt), i < 100000 → 0 ≤ i → m = i.toNat → m < n → zit f m s = some s' → zloop step n (i, s) = some s'
  | _, 0, _, _, _, _, _, _, h, _ => absurd h (Nat.not_lt_zero _)
  | 0, n + 1, i, s, s', hK, h0, hm, hn, h => by
    unfold zloop
    rw [he i s (by omega)]
    exact h
  | m + 1, n + 1, i, s, s', hK, h0, hm, hn, h => by
    unfold zloop
    rw [hs i s (by omega)]
    unfold zit at h
    cases e : f s with
    | none => rw [e] at h; cases h
    | some x =>
      rw [e] at h
      simp only [Option.bind_some] at h ⊢
      rw [w32i (by omega) (by omega)]
      exact zit_dn hs he m n (i + -1) x.2 s' (by omega) (by omega) (by omega) (by omega) h
/-- both do it j times more; E j: what holds after j times; from N times on nothing changes -/
theorem zit_both {f g : zSt → Option (Int × zSt)} {N : Nat} {C : zSt → zSt → Prop} {E : Nat → zSt → Prop}
    (hC : ∀ s r s1 r1, zFr s r s1 r1 → C s r → C s1 r1) (h1 : ∀ s r, zRel s r → C s r → ∃ s1 r1, f s = some (0, s1) ∧ g r = some (0, r1) ∧ zFr s r s1 r1) (hE : ∀ j s r r1, zRel s r → C s r → E j r → g r = some (0, r1) → E (j + 1) r1) :
    ∀ (m j : Nat) (s r : zSt), zRel s r → C s r → E j r → ∃ s1 r1, zit f m s = some s1 ∧ zit g m r = some r1 ∧ zFr s r s1 r1 ∧ C s1 r1 ∧ E (j + m) r1
  | 0, j, s, r, h, hc, he => ⟨s, r, rfl, rfl, zFr.rf h, hc, he⟩
  | m + 1, j, s, r, h, hc, he => by
    obtain ⟨s1, r1, e1, e2, e3⟩ := h1 s r h hc
    have c1 := hC _ _ _ _ e3 hc
    obtain ⟨s2, r2, f1, f2, f3, f4, f5⟩ := zit_both (N := N) hC h1 hE m (j + 1) s1 r1 e3.1 c1 (hE j s r r1 h hc he e2)
    refine ⟨s2, r2, by unfold zit; rw [e1]; exact f1, by unfold zit; rw [e2]; exact f2, e3.trans f3, f4, ?_⟩
    rw [show j + (m + 1) = j + 1 + m by omega]
    exact f5
theorem zQv.fr {s r r1 : zSt} (h : zRel s r) (e : zQv r r1) : zFr s r s r1 := ⟨e.rel h, fun _ _ _ => rfl, fun k _ => by rw [e.1], e.2.2.2.2.2.2.2⟩
/-- the reference goes on, the class stands -/
theorem zit_ref {f g : zSt → Option (Int × zSt)} {N : Nat} {C : zSt → zSt → Prop} {E : Nat → zSt → Prop}
    (hC : ∀ s r s1 r1, zFr s r s1 r1 → C s r → C s1 r1) (h1 : ∀ s r, zRel s r → C s r → ∃ s1 r1, f s = some (0, s1) ∧ g r = some (0, r1) ∧ zFr s r s1 r1) (hE : ∀ j s r r1, zRel s r → C s r → E j r → g r = some (0, r1) → E (j + 1) r1)
    (hN : ∀ j s r r1, N ≤ j → zRel s r → C s r → E j r → g r = some (0, r1) → zQv r r1) :
    ∀ (m j : Nat) (s r : zSt), N ≤ j → zRel s r → C s r → E j r → ∃ r1, zit g m r = some r1 ∧ zFr s r s r1
  | 0, j, s, r, hj, h, hc, he => ⟨r, rfl, zFr.rf h⟩
  | m + 1, j, s, r, hj, h, hc, he => by
    obtain ⟨s1, r1, e1, e2, e3⟩ := h1 s r h hc
    have hq := zQv.fr h (hN j s r r1 hj h hc he e2)
    have c1 := hC _ _ _ _ hq hc
    obtain ⟨r2, f2, f3⟩ := zit_ref hC h1 hE hN m (j + 1) s r1 (by omega) hq.1 c1 (hE j s r r1 h hc he e2)
    exact ⟨r2, by unfold zit; rw [e2]; exact f2, hq.trans f3⟩
/-- the class goes on, the reference stands -/
theorem zit_cls {f g : zSt → Option (Int × zSt)} {N : Nat} {C : zSt → zSt → Prop} {E : Nat → zSt → Prop}
    (hC : ∀ s r s1 r1, zFr s r s1 r1 → C s r → C s1 r1) (h1 : ∀ s r, zRel s r → C s r → ∃ s1 r1, f s = some (0, s1) ∧ g r = some (0, r1) ∧ zFr s r s1 r1)
    (hN : ∀ s r r1, zRel s r → C s r → E N r → g r = some (0, r1) → zQv r r1) (hE : ∀ s r r1, zRel s r → C s r → E N r → zQv r r1 → zQv r1 r) :
    ∀ (m : Nat) (s r : zSt), zRel s r → C s r → E N r → ∃ s1, zit f m s = some s1 ∧ zFr s r s1 r
  | 0, s, r, h, hc, he => ⟨s, rfl, zFr.rf h⟩
  | m + 1, s, r, h, hc, he => by
    obtain ⟨s1, r1, e1, e2, e3⟩ := h1 s r h hc
    have q := hN s r r1 h hc he e2
    have hq := zQv.fr e3.1 (hE s r r1 h hc he q)
    have e4 : zFr s r s1 r := e3.trans hq
    obtain ⟨s2, f2, f3⟩ := zit_cls hC h1 hN hE m s1 r e4.1 (hC _ _ _ _ e4 hc) he
    exact ⟨s2, by unfold zit; rw [e1]; exact f2, e4.trans f3⟩
theorem zit_add (f : zSt → Option (Int × zSt)) : ∀ (m k : Nat) (s s1 : zSt), zit f m s = some s1 → zit f (m + k) s = zit f k s1
  | 0, k, s, s1, h => by
    cases h
    rw [Nat.zero_add]
  | m + 1, k, s, s1, h => by
    rw [show m + 1 + k = m + k + 1 by omega]
    have h' : (f s).bind (fun x => zit f m x.2) = some s1 := h
    show (f s).bind (fun x => zit f (m + k) x.2) = zit f k s1
    cases e : f s with
    | none => rw [e] at h'; cases h'
    | some x =>
      rw [e] at h'
      exact zit_add f m k x.2 s1 h'
/-- class m times, reference n times: alike, or both at least N -/
theorem zit_sim {f g : zSt → Option (Int × zSt)} {N : Nat} {C : zSt → zSt → Prop} {E : Nat → zSt → Prop}
    (hC : ∀ s r s1 r1, zFr s r s1 r1 → C s r → C s1 r1) (h1 : ∀ s r, zRel s r → C s r → ∃ s1 r1, f s = some (0, s1) ∧ g r = some (0, r1) ∧ zFr s r s1 r1) (hE : ∀ j s r r1, zRel s r → C s r → E j r → g r = some (0, r1) → E (j + 1) r1)
    (hN : ∀ j s r r1, N ≤ j → zRel s r → C s r → E j r → g r = some (0, r1) → zQv r r1) (hQ : ∀ s r r1, zRel s r → zQv r r1 → zQv r1 r)
    {m n : Nat} {s r : zSt} (h : zRel s r) (hc : C s r) (h0 : E 0 r) (hmn : m = n ∨ (N ≤ m ∧ N ≤ n)) : ∃ s1 r1, zit f m s = some s1 ∧ zit g n r = some r1 ∧ zFr s r s1 r1 := by
  rcases hmn with rfl | ⟨h2, h3⟩
  · obtain ⟨s1, r1, e1, e2, e3, -⟩ := zit_both (N := N) hC h1 hE m 0 s r h hc h0
    exact ⟨s1, r1, e1, e2, e3⟩
  · obtain ⟨s1, r1, e1, e2, e3, e4, e5⟩ := zit_both (N := N) hC h1 hE N 0 s r h hc h0
    rw [Nat.zero_add] at e5
    obtain ⟨s2, g1, g2⟩ := zit_cls (N := N) (E := E) hC h1 (fun s r r1 a b c d => hN N s r r1 (Nat.le_refl _) a b c d) (fun s r r1 a _ _ q => hQ s r r1 a q) (m - N) s1 r1 e3.1 e4 e5
    obtain ⟨r2, f1, f2⟩ := zit_ref hC h1 hE hN (n - N) N s2 r1 (Nat.le_refl _) g2.1 (hC _ _ _ _ g2 e4) e5
    have k1 := zit_add f N (m - N) s s1 e1
    have k2 := zit_add g N (n - N) r r1 e2
    rw [show N + (m - N) = m by omega, g1] at k1
    rw [show N + (n - N) = n by omega, f1] at k2
    exact ⟨s2, r2, k1, k2, (e3.trans g2).trans f2⟩
theorem zQv.symm {s r r1 : zSt} (h : zRel s r) (e : zQv r r1) : zQv r1 r := by
  obtain ⟨e1, e2, e3, e4, e5, e6, e7, e8⟩ := e
  refine ⟨e1.symm, fun i a b => (e2 i a b).symm, fun i a b => (e3 i a b).symm, h.2.1.2.1, fun i a b => (e5 i a (by rw [e1] at b; exact b)).symm, fun i a b => (e6 i a (by rw [e1] at b; exact b)).symm, h.2.1.2.2.2.2.2.2.2.1, fun i a => (e8 i a).symm⟩
/-! the four kinds -/
def zCk (s r : zSt) (a b : Int) : Prop := (0 ≤ a ∧ a ≤ b ∧ b < r.1 0 1)
theorem S_upMany {s r : zSt} (h : zRel s r) {a b k : Int} (hab : 0 ≤ a ∧ a ≤ b ∧ b < r.1 0 1) (hk : k = 0 ∨ k = 1) {F G : zSt → Option (Int × zSt)}
    (hF : ∀ t, (∀ i j, ¬ (i = 5 ∧ j = 2) → t.1 i j = s.1 i j) → F t = f_Sc_scrollUp a b k t) (hG : ∀ t, (∀ j, j ≠ 7 → t.1 0 j = r.1 0 j) → G t = f_Rf_scrollsUp a b k t) {m n : Nat} (hmn : m = n ∨ (52 ≤ m ∧ 52 ≤ n) ∨ (k = 0 ∧ b + 1 - a ≤ m ∧ b + 1 - a ≤ n)) :
    ∃ s1 r1, zit F m s = some s1 ∧ zit G n r = some r1 ∧ zFr s r s1 r1 := by
  obtain ⟨K, hK⟩ : ∃ K, K = (if k = 0 then (0 : Int) else if ¬ a = 0 then 0 else if ¬ r.1 0 8 = 0 then 0 else 1) := ⟨_, rfl⟩
  have hK01 : K = 0 ∨ (K = 1 ∧ a = 0 ∧ r.1 0 8 = 0) := by grind
  have z1 := h.size
  refine zit_sim (N := if K = 0 then (b + 1 - a).toNat else 52) (C := fun s2 r2 => (∀ i j, ¬ (i = 5 ∧ j = 2) → s2.1 i j = s.1 i j) ∧ ∀ j, j ≠ 7 → r2.1 0 j = r.1 0 j) (E := fun j r2 => zEu a b K j r2) ?_ ?_ ?_ ?_ (fun s r r1 => zQv.symm) h ⟨fun _ _ _ => rfl, fun _ _ => rfl⟩ ?_ ?_
  · intro s1 r1 s2 r2 hf hc
    exact ⟨fun i j q => (hf.2.1 i j q).trans (hc.1 i j q), fun j q => (hf.2.2.1 j q).trans (hc.2 j q)⟩
  · intro s1 r1 h1 hc
    obtain ⟨s2, r2, e1, e2, e3⟩ := S_scrollUp h1 (a := a) (b := b) (k := k) (by rw [hc.2 1 (by decide)]; exact hab)
    exact ⟨s2, r2, by rw [hF s1 hc.1]; exact e1, by rw [hG r1 hc.2]; exact e2, e3⟩
  · intro j s1 r1 r2 h1 hc he hg
    rw [hG r1 hc.2, c_Rf_scrollsUp h1.2.1 (by rw [hc.2 1 (by decide)]; exact hab), hc.2 8 (by decide), ← hK] at hg
    have e := (Prod.mk.inj (Option.some.inj hg)).2
    rw [← e]
    have hab1 : 0 ≤ a ∧ a ≤ b ∧ b < r1.1 0 1 := by rw [hc.2 1 (by decide)]; exact hab
    rcases hK01 with q | ⟨q, q1, q2⟩
    · rw [if_pos q]
      rw [q] at he ⊢
      exact zEu_0 h1.2.1 hab1 (by omega) he
    · rw [if_neg (by omega)]
      rw [q, q1] at he ⊢
      exact zEu_1 h1.2.1 ((hc.2 8 (by decide)).trans q2) ⟨by omega, by rw [hc.2 1 (by decide)]; exact hab.2.2⟩ (by omega) he
  · intro j s1 r1 r2 hj h1 hc he hg
    rw [hG r1 hc.2, c_Rf_scrollsUp h1.2.1 (by rw [hc.2 1 (by decide)]; exact hab), hc.2 8 (by decide), ← hK] at hg
    have e := (Prod.mk.inj (Option.some.inj hg)).2
    rw [← e]
    have hab1 : 0 ≤ a ∧ a ≤ b ∧ b < r1.1 0 1 := by rw [hc.2 1 (by decide)]; exact hab
    rcases hK01 with q | ⟨q, q1, q2⟩
    · rw [if_pos q] at hj ⊢
      rw [q] at he
      exact zEu_0s h1.2.1 hab1 (by omega) he
    · rw [if_neg (by omega)] at hj ⊢
      rw [q, q1] at he
      rw [q1]
      exact zEu_1s h1.2.1 ((hc.2 8 (by decide)).trans q2) ⟨by omega, by rw [hc.2 1 (by decide)]; exact hab.2.2⟩ (by omega) he
  · refine ⟨fun i x y z => ?_, fun q x y z => ?_, fun _ q => ?_, fun q => ⟨?_, fun i x y z => ?_, fun q x y z => ?_⟩⟩
    · exfalso
      have z' : 288 * r.1 0 8 + (b + 1 - 0) * 24 ≤ i := z
      omega
    · exfalso
      have z' : b - 0 < q := z
      omega
    · exact absurd q (by decide)
    · left
      have := h.nums.2.2.2.2.2
      show (0 : Int) ≤ r.1 0 7
      omega
    · exfalso
      have x' : 24 * (r.1 0 7 - (0 - (b + 1 - a))) ≤ i := x
      omega
    · exfalso
      have x' : r.1 0 7 - (0 - (b + 1 - a)) ≤ q := x
      omega
  · rcases hmn with q | q | q
    · exact Or.inl q
    · right
      split
      · omega
      · exact q
    · right
      have : K = 0 := by rw [hK, if_pos q.1]
      rw [if_pos this]
      omega
theorem S_downMany {s r : zSt} (h : zRel s r) {a b : Int} (hab : 0 ≤ a ∧ a ≤ b ∧ b < r.1 0 1) {F G : zSt → Option (Int × zSt)}
    (hF : ∀ t, (∀ i j, ¬ (i = 5 ∧ j = 2) → t.1 i j = s.1 i j) → F t = f_Sc_scrollDown a b t) (hG : ∀ t, (∀ j, j ≠ 7 → t.1 0 j = r.1 0 j) → G t = f_Rf_scrollsDown a b t) {m n : Nat} (hmn : m = n ∨ (b + 1 - a ≤ m ∧ b + 1 - a ≤ n)) :
    ∃ s1 r1, zit F m s = some s1 ∧ zit G n r = some r1 ∧ zFr s r s1 r1 := by
  have z1 := h.size
  refine zit_sim (N := (b + 1 - a).toNat) (C := fun s2 r2 => (∀ i j, ¬ (i = 5 ∧ j = 2) → s2.1 i j = s.1 i j) ∧ ∀ j, j ≠ 7 → r2.1 0 j = r.1 0 j) (E := fun j r2 => zEd a b j r2) ?_ ?_ ?_ ?_ (fun s r r1 => zQv.symm) h ⟨fun _ _ _ => rfl, fun _ _ => rfl⟩ ?_ (by omega)
  · intro s1 r1 s2 r2 hf hc
    exact ⟨fun i j q => (hf.2.1 i j q).trans (hc.1 i j q), fun j q => (hf.2.2.1 j q).trans (hc.2 j q)⟩
  · intro s1 r1 h1 hc
    obtain ⟨s2, r2, e1, e2, e3⟩ := S_scrollDown h1 (a := a) (b := b) (by rw [hc.2 1 (by decide)]; exact hab)
    exact ⟨s2, r2, by rw [hF s1 hc.1]; exact e1, by rw [hG r1 hc.2]; exact e2, e3⟩
  · intro j s1 r1 r2 h1 hc he hg
    have hab1 : 0 ≤ a ∧ a ≤ b ∧ b < r1.1 0 1 := by rw [hc.2 1 (by decide)]; exact hab
    rw [hG r1 hc.2, c_Rf_scrollsDown h1.2.1 hab1] at hg
    have e := (Prod.mk.inj (Option.some.inj hg)).2
    rw [← e]
    exact zEd_1 h1.2.1 hab1 (by omega) he
  · intro j s1 r1 r2 hj h1 hc he hg
    have hab1 : 0 ≤ a ∧ a ≤ b ∧ b < r1.1 0 1 := by rw [hc.2 1 (by decide)]; exact hab
    rw [hG r1 hc.2, c_Rf_scrollsDown h1.2.1 hab1] at hg
    have e := (Prod.mk.inj (Option.some.inj hg)).2
    rw [← e]
    exact zEd_s h1.2.1 hab1 (by omega) he
  · refine ⟨fun i x y z => ?_, fun q x y z => ?_, fun q => ?_⟩
    · exfalso
      have z' : i < 288 * r.1 0 8 + (a + 0) * 24 := z
      omega
    · exfalso
      have z' : q < a + 0 := z
      omega
    · exact absurd q (by decide)
