/-! ===== all rows are laid ===== -/
theorem zpb_tm (p : zSt) (u l a b d u' l' a' b' d' : Int) (F S L G F' S' L' G' : Int → Int) : zpb (zsh 0) 11 (zTm p u l a b d F S L G) (zTm p u' l' a' b' d' F' S' L' G') = zTm p u' l' a' b' d' F' S' L' G' := by
  refine zst_ext (fun i k => ?_) (fun i => ?_)
  · rw [zpb1, zTm_1, zTm_1, zTm_1]
    by_cases q : 0 ≤ i ∧ i < 0 + 11
    · rw [if_pos q, show i - 0 = i by omega]
    · rw [if_neg q, if_neg (by omega), if_neg (by omega)]
  · rw [zpb2, zTm_2, zTm_2, zTm_2]
    by_cases q : 0 ≤ i ∧ i < 0 + 11
    · rw [if_pos q, show i - 0 = i by omega]
    · rw [if_neg q]
      grind
def zA0 (p r : zSt) (w cr row : Int) (X : Int × Int × zSt) (Y : Int × Int × Int × zSt) : Prop := ∃ u o pl a b F S L G A B, X = (0, row, zTm p u o a b 0 F S L G) ∧ Y = (pl, o, row, zTr r A B) ∧ 0 ≤ o ∧ zLq w u o F S L G A B ∧ (0 ≤ u ∧ u ≤ 24 * row) ∧ 3 * o ≤ 3 * row + u ∧ (cr < row → pl = 24 * a + b ∧ (0 ≤ a ∧ a < o) ∧ 0 ≤ b ∧ b < w)
def zA1 (p r : zSt) (w cr cc row : Int) (X : Int × Int × zSt) (Y : Int × Int × Int × Int × Int × Int × zSt) : Prop := ∃ u o x d pl a b F S L G A B, X = (1, row, zTm p u (o + 1) a b d F S L G) ∧ Y = (pl, o, row, x, 1, d, zTr r A B) ∧ zLr w cr cc row 0 0 u o x d pl a b F S L G A B ∧ (d = 1 → zWd (zC r row 0))
section ZALL
variable {p r : zSt} {w cr0 cr cc N : Int}
/-- a row, laid from where a row of it is begun -/
theorem P_next (hp : zMp p r) (hr : zNr r) (hw6 : p.1 0 6 = w) (hw : 4 ≤ w ∧ w ≤ 24) (hwfA : ∀ a, 0 ≤ a → a < r.1 0 7 + 12 → zRow (zC r a) (r.1 0 2)) (hN : N ≤ r.1 0 7 + 12)
    (hcr0 : 0 ≤ cr0 ∧ cr0 < 12) (hcr : cr = r.1 0 7 + cr0) (hcc : 0 ≤ cc ∧ cc < r.1 0 2) {row ins mk : Int} (hrow : 0 ≤ row ∧ row < N) (hmk : mk = if row = cr then cc else -1) (hins : ins = if zCg r row = 0 then 0 else if N ≤ row + 1 then 0 else 1)
    {u o x d pl a b : Int} {F S L G A B : Int → Int} (h : zLr w cr cc row 0 0 u o x d pl a b F S L G A B) (hd : d = 1 → zWd (zC r row 0)) :
    ∃ T Y', f_Ma_layRow row ins mk (zTm p u (o + 1) a b d F S L G) = some (0, T) ∧ zpb (zsh 0) 11 (zTm p u (o + 1) a b d F S L G) T = T ∧ f_Rf_lays_l72 cr0 cc w N (pl, o, row, x, 1, d, zTr r A B) = some (.inl Y') ∧
      ((ins = 1 ∧ row + 1 < N ∧ zA1 p r w cr cc (row + 1) (1, row + 1, T) Y') ∨ (ins = 0 ∧ ∃ Z, (∀ k, zloop (f_Rf_lays_l72 cr0 cc w N) (k + 1) Y' = some Z) ∧ zA0 p r w cr (row + 1) (0, row + 1, T) (Z.1, w32 (Z.2.1 + 1), Z.2.2.1, Z.2.2.2))) := by
  have hpp := hr.2.2.2.1
  obtain ⟨u', o', x', d', pl', a', b', F', S', L', G', A', B', e1, e2, e3, e4, e5, e6⟩ := P_rowAll (N := N) hp hr hw6 hw ⟨hrow.1, by omega⟩ hwfA hN hcr0 hcr hcc hmk hins h hd
  refine ⟨_, _, e1, zpb_tm _ _ _ _ _ _ _ _ _ _ _ _ _ _ _ _ _ _ _, e2, ?_⟩
  by_cases q : ins = 0
  · refine Or.inr ⟨q, (pl', o', row + 1, zTr r A' B'), fun k => ?_, u', o' + 1, pl', a', b', F', S', L', G', A', B', ?_, ?_, ?_, ?_, ?_, ?_, fun z => ?_⟩
    · unfold zloop f_Rf_lays_l72
      rw [if_pos (show (pl', o', row + 1, x', ins, d', zTr r A' B').2.2.2.2.1 = 0 from q)]
      rfl
    · rw [e5 q]
    · have ob : o' < 1000 := by
        have := e3.2.2.2.1
        have := e3.2.2.1
        have := e3.2.1.2.1.2.2.2.1
        omega
      have := e3.1
      rw [show w32 (o' + 1) = o' + 1 from w32i (by omega) (by omega)]
    · have := e3.1; omega
    · exact e3.2.1.close e3.1
    · have := e3.2.2.1; omega
    · have := e3.2.1.2.1.2.2.2.1
      omega
    · have := e3.2.2.2.2.2 (e5 q) (Or.inl z)
      omega
  · have q1 : ins = 1 ∧ row + 1 < N := by
      rw [hins] at q ⊢
      by_cases y1 : zCg r row = 0
      · rw [if_pos y1] at q; exact absurd rfl q
      · rw [if_neg y1] at q ⊢
        by_cases y2 : N ≤ row + 1
        · rw [if_pos y2] at q; exact absurd rfl q
        · rw [if_neg y2]; exact ⟨rfl, by omega⟩
    refine Or.inl ⟨q1.1, q1.2, u', o', x', d', pl', a', b', F', S', L', G', A', B', rfl, by rw [q1.1], e3, fun z => (e4 z).2⟩
theorem c_wrapIn (hp : zMp p r) (hr : zNr r) (hN : N ≤ r.1 0 7 + 12) (hcr0 : 0 ≤ cr0 ∧ cr0 < 12) (hcr : cr = r.1 0 7 + cr0) (hcu : p.1 11 0 = cr0 ∧ p.1 11 1 = cc) {row ins mk c2 c3 : Int} (hrow : 0 ≤ row ∧ row < N) (hmk : mk = if row = cr then cc else -1) (hins : ins = if zCg r row = 0 then 0 else if N ≤ row + 1 then 0 else 1)
    {u l a b d : Int} {F S L G : Int → Int} {T : zSt} (hT : f_Ma_layRow row ins mk (zTm p u l a b d F S L G) = some (0, T)) (hT2 : zpb (zsh 0) 11 (zTm p u l a b d F S L G) T = T) :
    f_Ma_wrap_l48 c2 c3 (r.1 0 7) N (1, row, zTm p u l a b d F S L G) = some (.inl (ins, row + 1, T)) := by
  have hpp := hr.2.2.2.1
  have er : w32 (row + 1) = row + 1 := w32i (by omega) (by omega)
  have em : (if ¬ row = w32 (r.1 0 7 + (zTm p u l a b d F S L G).1 11 0) then (-1) else (zTm p u l a b d F S L G).1 11 1) = mk := by
    show (if ¬ row = w32 (r.1 0 7 + p.1 11 0) then (-1) else p.1 11 1) = mk
    rw [hcu.1, hcu.2, w32i (by omega) (by omega), ← hcr, hmk]
    by_cases q : row = cr
    · rw [if_neg (by simpa using q), if_pos q]
    · rw [if_pos q, if_neg q]
  unfold f_Ma_wrap_l48
  refine iteF (by show ¬ N ≤ row; omega) (iteT (show ¬ (1 : Int) = 0 by decide) ?_)
  dsimp only
  rw [er, em]
  by_cases q : N ≤ row + 1
  · have hi : ins = 0 := by rw [hins, if_pos q]; split <;> rfl
    rw [hi] at hT ⊢
    refine iteT q (bindS hT ?_)
    rw [hT2]
  · refine iteF q (bindS (c_Ma_isGoing (a := row) (hp.tm u l a b d F S L G) hr ⟨hrow.1, by omega⟩) ?_)
    rw [if_neg q] at hins
    rw [← hins]
    refine bindS hT ?_
    rw [hT2]
theorem c_wrapOut (hp : zMp p r) (hr : zNr r) (hN : N ≤ r.1 0 7 + 12) (hcr0 : 0 ≤ cr0 ∧ cr0 < 12) (hcr : cr = r.1 0 7 + cr0) (hcu : p.1 11 0 = cr0 ∧ p.1 11 1 = cc) {row ins mk c2 c3 : Int} (hrow : 0 ≤ row ∧ row < N) (hmk : mk = if row = cr then cc else -1) (hins : ins = if zCg r row = 0 then 0 else if N ≤ row + 1 then 0 else 1)
    {u o a b d : Int} {F S L G : Int → Int} {T : zSt} (ho : 0 ≤ o ∧ o < 499) (hT : f_Ma_layRow row ins mk (zTm p u (o + 1) a b d F (zup S o u) (zup L o 0) (zup G o 0)) = some (0, T)) (hT2 : zpb (zsh 0) 11 (zTm p u (o + 1) a b d F (zup S o u) (zup L o 0) (zup G o 0)) T = T) :
    f_Ma_wrap_l48 c2 c3 (r.1 0 7) N (0, row, zTm p u o a b d F S L G) = some (.inl (ins, row + 1, T)) := by
  have hpp := hr.2.2.2.1
  have er : w32 (row + 1) = row + 1 := w32i (by omega) (by omega)
  have em : (if ¬ row = w32 (r.1 0 7 + (zTm p u o a b d F S L G).1 11 0) then (-1) else (zTm p u o a b d F S L G).1 11 1) = mk := by
    show (if ¬ row = w32 (r.1 0 7 + p.1 11 0) then (-1) else p.1 11 1) = mk
    rw [hcu.1, hcu.2, w32i (by omega) (by omega), ← hcr, hmk]
    by_cases q : row = cr
    · rw [if_neg (by simpa using q), if_pos q]
    · rw [if_pos q, if_neg q]
  have hb := c_beg (p := p) (u := u) (l := o) (a := a) (b := b) (d := d) (F := F) (S := S) (L := L) (G := G) hp.2.2.1 (by omega)
  unfold f_Ma_wrap_l48
  refine iteF (by show ¬ N ≤ row; omega) (iteF (show ¬ ¬ (0 : Int) = 0 by decide) (bindS hb ?_))
  dsimp only
  rw [zpb_tm]
  rw [er, em]
  by_cases q : N ≤ row + 1
  · have hi : ins = 0 := by rw [hins, if_pos q]; split <;> rfl
    rw [hi] at hT ⊢
    refine iteT q (bindS hT ?_)
    rw [hT2]
  · refine iteF q (bindS (c_Ma_isGoing (a := row) (hp.tm u (o + 1) a b d F (zup S o u) (zup L o 0) (zup G o 0)) hr ⟨hrow.1, by omega⟩) ?_)
    rw [if_neg q] at hins
    rw [← hins]
    refine bindS hT ?_
    rw [hT2]
/-- the ends of both -/
def zAe (p r : zSt) (w cr N : Int) (U : zSt) (V : Int × Int × zSt) : Prop := ∃ X Y, zA0 p r w cr N X Y ∧ U = X.2.2 ∧ V = (Y.1, Y.2.1, Y.2.2.2)
theorem P_all (hp : zMp p r) (hr : zNr r) (hw6 : p.1 0 6 = w) (hw : 4 ≤ w ∧ w ≤ 24) (hwfA : ∀ a, 0 ≤ a → a < r.1 0 7 + 12 → zRow (zC r a) (r.1 0 2)) (hN : N ≤ r.1 0 7 + 12)
    (hcr0 : 0 ≤ cr0 ∧ cr0 < 12) (hcr : cr = r.1 0 7 + cr0) (hcc : 0 ≤ cc ∧ cc < r.1 0 2) (hcu : p.1 11 0 = cr0 ∧ p.1 11 1 = cc) (c2 c3 : Int) :
    ∀ (D : Nat) (row : Int), row + D = N → 0 ≤ row →
      (∀ n m X Y, D < n → D < m → zA0 p r w cr row X Y → ∃ U V, zloop (f_Ma_wrap_l48 c2 c3 (r.1 0 7) N) n X = some U ∧ zloop (f_Rf_lays_l50 cr0 cc w N) m Y = some V ∧ zAe p r w cr N U V) ∧
      (∀ n k m X Y, 0 < D → D < n → D < k → D < m → zA1 p r w cr cc row X Y → ∃ U Z V, zloop (f_Ma_wrap_l48 c2 c3 (r.1 0 7) N) n X = some U ∧ zloop (f_Rf_lays_l72 cr0 cc w N) k Y = some Z ∧ zloop (f_Rf_lays_l50 cr0 cc w N) m (Z.1, w32 (Z.2.1 + 1), Z.2.2.1, Z.2.2.2) = some V ∧ zAe p r w cr N U V) := by
  have hpp := hr.2.2.2.1
  have h14 : r.1 14 0 = 12000 := hr.1.2.2.2.2.2.2.2.2.2.2.2.2.2.1
  have h15 : r.1 15 0 = 500 := hr.1.2.2.2.2.2.2.2.2.2.2.2.2.2.2
  obtain ⟨K, hK, hK2⟩ : ∃ K, zfu = K + 2 ∧ 100 < K := ⟨999998, rfl, by decide⟩
  intro D
  induction D with
  | zero =>
    intro row hrow h0
    refine ⟨fun n m X Y hn hm hA => ?_, fun n k m X Y q => absurd q (Nat.lt_irrefl 0)⟩
    obtain ⟨n, rfl⟩ : ∃ j, n = j + 1 := ⟨n - 1, by omega⟩
    obtain ⟨m, rfl⟩ : ∃ j, m = j + 1 := ⟨m - 1, by omega⟩
    have hA' := hA
    obtain ⟨u, o, pl, a, b, F, S, L, G, A, B, rfl, rfl, -⟩ := hA
    refine ⟨zTm p u o a b 0 F S L G, (pl, o, zTr r A B), ?_, ?_, _, _, (by rw [show N = row by omega]; exact hA'), rfl, rfl⟩
    · unfold zloop f_Ma_wrap_l48
      rw [if_pos (show N ≤ row by omega)]
      rfl
    · unfold zloop f_Rf_lays_l50
      rw [if_pos (show N ≤ row by omega)]
      rfl
  | succ D ih =>
    intro row hrow h0
    obtain ⟨ih0, ih1⟩ := ih (row + 1) (by omega) (by omega)
    refine ⟨fun n m X Y hn hm hA => ?_, fun n k m X Y _ hn hk hm hA => ?_⟩
    · obtain ⟨n, rfl⟩ : ∃ j, n = j + 1 := ⟨n - 1, by omega⟩
      obtain ⟨m, rfl⟩ : ∃ j, m = j + 1 := ⟨m - 1, by omega⟩
      obtain ⟨u, o, pl, a, b, F, S, L, G, A, B, rfl, rfl, g1, g2, g3, g4, g5⟩ := hA
      have ob : o < 499 := by omega
      have hb : zLr w cr cc row 0 0 u o 0 0 pl a b F (zup S o u) (zup L o 0) (zup G o 0) (zFl A (24 * o) (24 * o + 24) 0) (zup B o 0) := by
        refine ⟨g1, g2.begin g1 g3.1 (by omega), by omega, ?_, Or.inl rfl, fun _ q => ?_⟩
        · rw [show zup L o 0 o = 0 by unfold zup; rw [if_pos rfl]]
          omega
        · have := g5 (by omega)
          omega
      obtain ⟨ins, hins⟩ : ∃ z : Int, z = if zCg r row = 0 then 0 else if N ≤ row + 1 then 0 else 1 := ⟨_, rfl⟩
      obtain ⟨T, Y', t1, t2, t3, t4⟩ := P_next (row := row) hp hr hw6 hw hwfA hN hcr0 hcr hcc ⟨h0, by omega⟩ rfl hins hb (fun q => by cases q)
      have hc := c_wrapOut (c2 := c2) (c3 := c3) hp hr hN hcr0 hcr hcu ⟨h0, by omega⟩ rfl hins ⟨g1, ob⟩ t1 t2
      have hl : ∀ Z m', zloop (f_Rf_lays_l72 cr0 cc w N) zfu (pl, o, row, 0, 1, 0, zTr r (zFl A (24 * o) (24 * o + 24) 0) (zup B o 0)) = some Z → zloop (f_Rf_lays_l50 cr0 cc w N) (m' + 1) (pl, o, row, zTr r A B) = zloop (f_Rf_lays_l50 cr0 cc w N) m' (Z.1, w32 (Z.2.1 + 1), Z.2.2.1, Z.2.2.2) := by
        intro Z m' hZ
        have hs : f_Rf_lays_l50 cr0 cc w N (pl, o, row, zTr r A B) = some (.inl (Z.1, w32 (Z.2.1 + 1), Z.2.2.1, Z.2.2.2)) := by
          unfold f_Rf_lays_l50
          exact iteF (by show ¬ N ≤ row; omega) (bindS (c_emptiesLaid (o := o) h14 h15 ⟨g1, by omega⟩) (bindS hZ rfl))
        rw [zloop, hs]
        rfl
      have hcl : ∀ n', zloop (f_Ma_wrap_l48 c2 c3 (r.1 0 7) N) (n' + 1) (0, row, zTm p u o a b 0 F S L G) = zloop (f_Ma_wrap_l48 c2 c3 (r.1 0 7) N) n' (ins, row + 1, T) := by
        intro n'
        rw [zloop, hc]
        rfl
      rcases t4 with ⟨i1, i2, i3⟩ | ⟨i1, Z, i2, i3⟩
      · rw [i1] at hcl
        obtain ⟨U, Z, V, j1, j2, j3, j4⟩ := ih1 n (K + 1) m _ _ (by omega) (by omega) (by omega) (by omega) i3
        refine ⟨U, V, (hcl n).trans j1, (hl Z m ?_).trans j3, j4⟩
        rw [hK, show K + 2 = (K + 1) + 1 from rfl, zloop, t3]
        exact j2
      · rw [i1] at hcl
        obtain ⟨U, V, j1, j2, j3⟩ := ih0 n m _ _ (by omega) (by omega) i3
        refine ⟨U, V, (hcl n).trans j1, (hl Z m ?_).trans j2, j3⟩
        rw [hK, show K + 2 = (K + 1) + 1 from rfl, zloop, t3]
        exact i2 K
    · obtain ⟨n, rfl⟩ : ∃ j, n = j + 1 := ⟨n - 1, by omega⟩
      obtain ⟨k, rfl⟩ : ∃ j, k = j + 2 := ⟨k - 2, by omega⟩
      obtain ⟨u, o, x, d, pl, a, b, F, S, L, G, A, B, rfl, rfl, g1, g2⟩ := hA
      obtain ⟨ins, hins⟩ : ∃ z : Int, z = if zCg r row = 0 then 0 else if N ≤ row + 1 then 0 else 1 := ⟨_, rfl⟩
      obtain ⟨T, Y', t1, t2, t3, t4⟩ := P_next (row := row) hp hr hw6 hw hwfA hN hcr0 hcr hcc ⟨h0, by omega⟩ rfl hins g1 g2
      have hc := c_wrapIn (c2 := c2) (c3 := c3) hp hr hN hcr0 hcr hcu ⟨h0, by omega⟩ rfl hins t1 t2
      have hcl : ∀ n', zloop (f_Ma_wrap_l48 c2 c3 (r.1 0 7) N) (n' + 1) (1, row, zTm p u (o + 1) a b d F S L G) = zloop (f_Ma_wrap_l48 c2 c3 (r.1 0 7) N) n' (ins, row + 1, T) := by
        intro n'
        rw [zloop, hc]
        rfl
      rcases t4 with ⟨i1, i2, i3⟩ | ⟨i1, Z, i2, i3⟩
      · rw [i1] at hcl
        obtain ⟨U, Z, V, j1, j2, j3, j4⟩ := ih1 n (k + 1) m _ _ (by omega) (by omega) (by omega) (by omega) i3
        refine ⟨U, Z, V, (hcl n).trans j1, ?_, j3, j4⟩
        rw [zloop, t3]
        exact j2
      · rw [i1] at hcl
        obtain ⟨U, V, j1, j2, j3⟩ := ih0 n m _ _ (by omega) (by omega) i3
        refine ⟨U, Z, V, (hcl n).trans j1, ?_, j2, j3⟩
        rw [zloop, t3]
        exact i2 k
end ZALL
