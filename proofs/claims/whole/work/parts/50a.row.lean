/-! ===== both lay one row ===== -/
def zLr (w cr cc row c e u o x d pl a b : Int) (F S L G A B : Int → Int) : Prop := 0 ≤ o ∧ zLp w u o x e F S L G A B ∧ (0 ≤ u ∧ u ≤ 24 * row + c) ∧ 3 * (o + 1) ≤ 3 * (row + 1) + (u - L o) ∧ z01 d ∧ (d = 0 → (cr < row ∨ (cr = row ∧ cc < c)) → pl = 24 * a + b ∧ (0 ≤ a ∧ a ≤ o) ∧ 0 ≤ b ∧ b < w)
theorem zKc {w cr cc row k o o' pl a b pos d mk : Int} {H : Prop} [Decidable H] (h : d = 0 → (cr < row ∨ (cr = row ∧ cc < k)) → pl = 24 * a + b ∧ (0 ≤ a ∧ a ≤ o) ∧ 0 ≤ b ∧ b < w) (ho : 0 ≤ o' ∧ o ≤ o') (hp : 0 ≤ pos ∧ pos < w) (hmk : mk = if row = cr then cc else -1) (hk : 0 ≤ k) (hH : H ↔ (k = mk ∨ d ≠ 0)) :
    (0 : Int) = 0 → (cr < row ∨ (cr = row ∧ cc < k + 1)) → (if H then 24 * o' + pos else pl) = 24 * (if H then o' else a) + (if H then pos else b) ∧ (0 ≤ (if H then o' else a) ∧ (if H then o' else a) ≤ o') ∧ 0 ≤ (if H then pos else b) ∧ (if H then pos else b) < w := by
  intro _ hs
  by_cases q : H
  · rw [if_pos q, if_pos q, if_pos q]
    omega
  · rw [if_neg q, if_neg q, if_neg q]
    have hn : ¬ (k = mk ∨ d ≠ 0) := fun e => q (hH.mpr e)
    have hd : d = 0 := by omega
    have := h hd (by
      rcases hs with hs | hs
      · exact Or.inl hs
      · refine Or.inr ⟨hs.1, ?_⟩
        rw [if_pos hs.1.symm] at hmk
        omega)
    omega
section ZRW
variable {p r : zSt} {row ins m u o a b d w k mk : Int} {F S L G : Int → Int}
theorem c_l11a (hp : zMp p r) (hr : zNr r) (hw6 : p.1 0 6 = w) (hw : w ≤ 24) (hrow : 0 ≤ row ∧ row < r.1 0 7 + 12) (hk : 0 ≤ k ∧ k < m) (hm : m ≤ 24) (ho : 0 ≤ o ∧ o < 499) (hu : 0 ≤ u ∧ u < 1248) (hL : 0 ≤ L o) (hf : L o + (if zwd (zC r row k) = 0 then 1 else 2) ≤ w) :
    f_Ma_layRow_l11 row ins mk m (k, zTm p u (o + 1) a b d F S L G) = some (.inl (k + 1, zTm p (u + 1) (o + 1) (if k = mk ∨ d ≠ 0 then o else a) (if k = mk ∨ d ≠ 0 then L o else b) 0 (zup F u (zC r row k)) S (zup L o (L o + 1)) G)) := by
  have eo : o + 1 - 1 = o := by omega
  have hL2 : 0 ≤ L (o + 1 - 1) ∧ L (o + 1 - 1) ≤ 24 := by
    rw [eo]
    split at hf <;> omega
  have key := c_l11put (p := p) (u := u) (l := o + 1) (a := a) (b := b) (d := d) (F := F) (S := S) (L := L) (G := G) hp.2.2.1 (by omega) hu hL2 (zC r row k) k mk (by omega)
  rw [eo] at key
  unfold f_Ma_layRow_l11
  refine iteF (by show ¬ m ≤ k; omega) (bindS (c_Ma_at (c := k) (hp.tm u (o + 1) a b d F S L G) hr hrow ⟨hk.1, by omega⟩) (bindS (c_lol hp.2.2.1 (by omega)) (bindS (c_isWide _) (iteT ?_ key))))
  rw [eo]
  show w32 (L o + (if zwd (zC r row k) = 0 then 1 else 2)) ≤ p.1 0 6
  rw [hw6, w32i (by split <;> omega) (by omega)]
  exact hf
theorem c_l11b (hp : zMp p r) (hr : zNr r) (hw6 : p.1 0 6 = w) (hw : 0 ≤ w ∧ w ≤ 24) (hrow : 0 ≤ row ∧ row < r.1 0 7 + 12) (hk : 0 ≤ k ∧ k < m) (hm : m ≤ 24) (ho : 0 ≤ o ∧ o < 499) (hu : 0 ≤ u ∧ u < 1248) (hL : 0 ≤ L o ∧ L o ≤ 24) (hf : w < L o + (if zwd (zC r row k) = 0 then 1 else 2)) :
    f_Ma_layRow_l11 row ins mk m (k, zTm p u (o + 1) a b d F S L G) = some (.inl (k + 1, zTm p (u + 1) (o + 1 + 1) (if k = mk ∨ d ≠ 0 then o + 1 else a) (if k = mk ∨ d ≠ 0 then zup L (o + 1) 0 (o + 1) else b) 0 (zup F u (zC r row k)) (zup S (o + 1) u) (zup (zup L (o + 1) 0) (o + 1) (zup L (o + 1) 0 (o + 1) + 1)) (zup (zup G o 1) (o + 1) 0))) := by
  have eo : o + 1 - 1 = o := by omega
  have eo2 : o + 1 + 1 - 1 = o + 1 := by omega
  have z0 : zup L (o + 1) 0 (o + 1) = 0 := by unfold zup; rw [if_pos rfl]
  have key := c_l11put (p := p) (u := u) (l := o + 1 + 1) (a := a) (b := b) (d := d) (F := F) (S := zup S (o + 1) u) (L := zup L (o + 1) 0) (G := zup (zup G o 1) (o + 1) 0) hp.2.2.1 (by omega) hu (by rw [eo2, z0]; omega) (zC r row k) k mk (by omega)
  rw [eo2] at key
  have hg := c_goOn (p := p) (u := u) (l := o + 1) (a := a) (b := b) (d := d) (F := F) (S := S) (L := L) (G := G) hp.2.2.1 (by omega)
  rw [eo] at hg
  unfold f_Ma_layRow_l11
  refine iteF (by show ¬ m ≤ k; omega) (bindS (c_Ma_at (c := k) (hp.tm u (o + 1) a b d F S L G) hr hrow ⟨hk.1, by omega⟩) (bindS (c_lol hp.2.2.1 (by omega)) (bindS (c_isWide _) (iteF ?_ (bindS hg key)))))
  rw [eo]
  show ¬ w32 (L o + (if zwd (zC r row k) = 0 then 1 else 2)) ≤ p.1 0 6
  rw [hw6, w32i (by split <;> omega) (by split <;> omega)]
  omega
end ZRW
/-- all cells of a row -/
theorem P_row {p r : zSt} (hp : zMp p r) (hr : zNr r) {w cr0 cr cc row ins m N mk : Int} (hw6 : p.1 0 6 = w) (hw : 4 ≤ w ∧ w ≤ 24) (hrow : 0 ≤ row ∧ row < r.1 0 7 + 12) (hwf : zRow (zC r row) (r.1 0 2)) (hm : 0 ≤ m ∧ m ≤ r.1 0 2) (hm0 : ∀ c, m ≤ c → c < r.1 0 2 → zC r row c = 0)
    (hcr0 : 0 ≤ cr0 ∧ cr0 < 12) (hcr : cr = r.1 0 7 + cr0) (hcc : 0 ≤ cc) (hmk : mk = if row = cr then cc else -1)
    {u o x d pl a b : Int} {F S L G A B : Int → Int} (h : zLr w cr cc row 0 0 u o x d pl a b F S L G A B) :
    ∃ u' o' x' d' pl' a' b' F' S' L' G' A' B', zloop (f_Ma_layRow_l11 row ins mk m) zfu (0, zTm p u (o + 1) a b d F S L G) = some (zTm p u' (o' + 1) a' b' d' F' S' L' G') ∧ zloop (f_Rf_lays_l181 cr0 cc w N row ins m) zfu (pl, o, x, d, 0, zTr r A B) = some (pl', o', x', d', zTr r A' B') ∧ zLr w cr cc row m 0 u' o' x' d' pl' a' b' F' S' L' G' A' B' ∧ (0 < m → d' = 0) ∧ (m = 0 → d' = d) := by
  have hn := hr.2.2.1
  have hpp := hr.2.2.2.1
  have key := zloop_pair (f := f_Ma_layRow_l11 row ins mk m) (g := f_Rf_lays_l181 cr0 cc w N row ins m)
    (fun k X Y => ∃ u o x d' pl a b F S L G A B, X = ((k : Int), zTm p u (o + 1) a b d' F S L G) ∧ Y = (pl, o, x, d', (k : Int), zTr r A B) ∧ zLr w cr cc row k (if (k : Int) < m ∧ zC r row k = -2 then 1 else 0) u o x d' pl a b F S L G A B ∧ (0 < k → d' = 0) ∧ (k = 0 → d' = d))
    (fun X Y => ∃ u o x d' pl a b F S L G A B, X = zTm p u (o + 1) a b d' F S L G ∧ Y = (pl, o, x, d', zTr r A B) ∧ zLr w cr cc row m 0 u o x d' pl a b F S L G A B ∧ (0 < m → d' = 0) ∧ (m = 0 → d' = d)) m.toNat ?_ ?_ m.toNat 0 zfu zfu (0, zTm p u (o + 1) a b d F S L G) (pl, o, x, d, 0, zTr r A B) (by omega) (by unfold zfu; omega) (by unfold zfu; omega) ?_
  · obtain ⟨X, Y, e1, e2, u', o', x', d', pl', a', b', F', S', L', G', A', B', rfl, rfl, e3, e4, e5⟩ := key
    exact ⟨u', o', x', d', pl', a', b', F', S', L', G', A', B', e1, e2, e3, e4, e5⟩
  · rintro k X Y hk ⟨u, o, x, d', pl, a, b, F, S, L, G, A, B, rfl, rfl, ⟨ho, hlp, hu, hb, hd, hc⟩, -, -⟩
    have hkm : (k : Int) < m := by omega
    obtain ⟨v1, v2, v3⟩ := hwf.2 k (by omega) (by omega)
    obtain ⟨⟨l1, l2, l3, l4, l5⟩, -, -, -, -, -, l6⟩ := hlp.2
    have hlo : L o ≤ 24 := by rcases l6 with q | q <;> rw [q] at l3 <;> omega
    have ob : o < 499 := by omega
    have ub : u < 1248 := by omega
    have en : (if ((k + 1 : Nat) : Int) < m ∧ zC r row ((k + 1 : Nat) : Int) = -2 then (1 : Int) else 0) = zwd (zC r row k) := by
      have e1 : ((k + 1 : Nat) : Int) = (k : Int) + 1 := by omega
      rw [e1]
      have hs : ((k : Int) + 1 < r.1 0 2) → (zC r row ((k : Int) + 1) = -2 ↔ zWd (zC r row k)) := fun q => by
        have := (hwf.2 ((k : Int) + 1) (by omega) q).2.1
        rw [show (k : Int) + 1 - 1 = k by omega] at this
        rw [this]
        exact ⟨fun e => e.2, fun e => ⟨by omega, e⟩⟩
      rcases zwd_01 (zC r row k) with q | q
      · rw [q, if_neg]
        rintro ⟨c1, c2⟩
        have := zwd_1.mpr ((hs (by omega)).mp c2)
        omega
      · rw [q, if_pos]
        have hW := zwd_1.mp q
        have c1 := v3 hW
        have c2 := (hs c1).mpr hW
        refine ⟨?_, c2⟩
        by_cases c3 : (k : Int) + 1 < m
        · exact c3
        · have := hm0 ((k : Int) + 1) (by omega) c1
          rw [this] at c2
          cases c2
    have hH : ((k : Int) = mk ∨ d' ≠ 0) ↔ (d' ≠ 0 ∨ (row = r.1 0 7 + cr0 ∧ (k : Int) = cc)) := by
      rw [hmk, ← hcr]
      by_cases q : row = cr
      · rw [if_pos q]; constructor <;> intro e <;> omega
      · rw [if_neg q]; constructor <;> intro e <;> omega
    have push : ((k + 1 : Nat) : Int) = (k : Int) + 1 := by omega
    have hLo : ∀ (f : Int → Int) (i z : Int), zup f i z i = z := fun f i z => by unfold zup; rw [if_pos rfl]
    by_cases vt : zC r row k = -2
    · -- a tail
      rw [if_pos ⟨hkm, vt⟩] at hlp
      have l3' : L o = x - 1 := hlp.2.1.2.2.1
      have zt : zwd (zC r row k) = 0 := by rw [vt]; exact zwd_t
      refine ⟨_, _, c_l11a (ins := ins) (mk := mk) hp hr hw6 hw.2 hrow ⟨by omega, hkm⟩ (by omega) ⟨ho, ob⟩ ⟨hu.1, ub⟩ l4 (by rw [zt, if_pos rfl]; omega), c_181T hr hrow hcr0 ⟨by omega, hkm⟩ (by omega) ⟨ho, ob⟩ (by omega) vt hH, _, _, _, _, _, _, _, _, _, _, _, _, _, by rw [push], by rw [push], ⟨ho, ?_, ?_, ?_, Or.inl rfl, ?_⟩, fun _ => rfl, fun e => by omega⟩
      · rw [en, zt, vt]
        exact hlp.layT ho (by omega)
      · rw [push]; omega
      · rw [hLo]; omega
      · rw [push, l3']
        exact zKc hc ⟨ho, Int.le_refl _⟩ (by omega) hmk (by omega) Iff.rfl
    · rw [if_neg (fun e => vt e.2)] at hlp
      have l3' : L o = x := by have := hlp.2.1.2.2.1; omega
      rcases zwd_01 (zC r row k) with zw | zw
      · have nw : ¬ zWd (zC r row k) := fun e => by rw [zwd_1.mpr e] at zw; cases zw
        by_cases fit : x + 1 ≤ w
        · refine ⟨_, _, c_l11a (ins := ins) (mk := mk) hp hr hw6 hw.2 hrow ⟨by omega, hkm⟩ (by omega) ⟨ho, ob⟩ ⟨hu.1, ub⟩ l4 (by rw [zw, if_pos rfl]; omega), c_181N hr hrow hcr0 ⟨by omega, hkm⟩ (by omega) ⟨ho, ob⟩ (by omega) hw.2 v1 vt zw hH, _, _, _, _, _, _, _, _, _, _, _, _, _, by rw [push], by rw [push], ⟨ho, ?_, ?_, ?_, Or.inl rfl, ?_⟩, fun _ => rfl, fun e => by omega⟩
          · rw [en, zw]
            exact hlp.lay1 ho (by omega) fit ⟨v1, vt, nw⟩
          · rw [push]; omega
          · rw [hLo]; omega
          · rw [push, l3']
            exact zKc hc ⟨ho, Int.le_refl _⟩ (by omega) hmk (by omega) Iff.rfl
        · refine ⟨_, _, c_l11b (ins := ins) (mk := mk) hp hr hw6 (by omega) hrow ⟨by omega, hkm⟩ (by omega) ⟨ho, ob⟩ ⟨hu.1, ub⟩ ⟨l4, hlo⟩ (by rw [zw, if_pos rfl]; omega), c_181N' hr hrow hcr0 ⟨by omega, hkm⟩ (by omega) ⟨ho, ob⟩ (by omega) hw.2 v1 vt zw hH, _, _, _, _, _, _, _, _, _, _, _, _, _, by rw [push], by rw [push], ⟨by omega, ?_, ?_, ?_, Or.inl rfl, ?_⟩, fun _ => rfl, fun e => by omega⟩
          · rw [en, zw]
            exact ((hlp.goOn ho).begin (by omega) hu.1 (by omega)).lay1 (by omega) (by omega) (by omega) ⟨v1, vt, nw⟩
          · rw [push]; omega
          · rw [hLo, hLo]; omega
          · rw [push, hLo]
            exact zKc hc ⟨by omega, by omega⟩ (by omega) hmk (by omega) Iff.rfl
      · have ww := zwd_1.mp zw
        by_cases fit : x + 2 ≤ w
        · refine ⟨_, _, c_l11a (ins := ins) (mk := mk) hp hr hw6 hw.2 hrow ⟨by omega, hkm⟩ (by omega) ⟨ho, ob⟩ ⟨hu.1, ub⟩ l4 (by rw [zw, if_neg (by decide)]; omega), c_181W hr hrow hcr0 ⟨by omega, hkm⟩ (by omega) ⟨ho, ob⟩ (by omega) hw.2 v1 zw hH, _, _, _, _, _, _, _, _, _, _, _, _, _, by rw [push], by rw [push], ⟨ho, ?_, ?_, ?_, Or.inl rfl, ?_⟩, fun _ => rfl, fun e => by omega⟩
          · rw [en, zw]
            exact hlp.lay2 ho (by omega) fit ⟨v1, vt, ww⟩
          · rw [push]; omega
          · rw [hLo]; omega
          · rw [push, l3']
            exact zKc hc ⟨ho, Int.le_refl _⟩ (by omega) hmk (by omega) Iff.rfl
        · refine ⟨_, _, c_l11b (ins := ins) (mk := mk) hp hr hw6 (by omega) hrow ⟨by omega, hkm⟩ (by omega) ⟨ho, ob⟩ ⟨hu.1, ub⟩ ⟨l4, hlo⟩ (by rw [zw, if_neg (by decide)]; omega), c_181W' hr hrow hcr0 ⟨by omega, hkm⟩ (by omega) ⟨ho, ob⟩ (by omega) hw.2 v1 zw hH, _, _, _, _, _, _, _, _, _, _, _, _, _, by rw [push], by rw [push], ⟨by omega, ?_, ?_, ?_, Or.inl rfl, ?_⟩, fun _ => rfl, fun e => by omega⟩
          · rw [en, zw]
            exact ((hlp.goOn ho).begin (by omega) hu.1 (by omega)).lay2 (by omega) (by omega) (by omega) ⟨v1, vt, ww⟩
          · rw [push]; omega
          · rw [hLo, hLo]; omega
          · rw [push, hLo]
            exact zKc hc ⟨by omega, by omega⟩ (by omega) hmk (by omega) Iff.rfl
  · rintro X Y ⟨u, o, x, d', pl, a, b, F, S, L, G, A, B, rfl, rfl, h1, h2, h3⟩
    have em : ((m.toNat : Nat) : Int) = m := by omega
    rw [em] at h1
    rw [if_neg (by omega)] at h1
    refine ⟨_, _, iteT (by show m ≤ ((m.toNat : Nat) : Int); omega) rfl, iteT (by show m ≤ ((m.toNat : Nat) : Int); omega) rfl, u, o, x, d', pl, a, b, F, S, L, G, A, B, rfl, rfl, h1, fun q => h2 (by omega), fun q => h3 (by omega)⟩
  · refine ⟨u, o, x, d, pl, a, b, F, S, L, G, A, B, rfl, rfl, ?_, fun e => by omega, fun _ => rfl⟩
    have : ¬ (((0 : Nat) : Int) < m ∧ zC r row ((0 : Nat) : Int) = -2) := by
      rintro ⟨c1, c2⟩
      have := (hwf.2 0 (Int.le_refl _) (by omega)).2.1.mp c2
      omega
    rw [if_neg this]
    exact h
