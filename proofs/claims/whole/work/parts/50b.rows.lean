/-! ===== a row, with what the cursor does at its end ===== -/
def zcn (r : zSt) (ins a : Int) : Int := if ins = 0 then zfl (zC r a) (r.1 0 2).toNat else (if zC r a (r.1 0 2 - 1) = 0 ∧ zwd (zC r (a + 1) 0) = 1 then r.1 0 2 - 1 else r.1 0 2)
theorem zcn_in {r : zSt} (hn : 4 ≤ r.1 0 2 ∧ r.1 0 2 ≤ 24) (ins a : Int) : (0 ≤ zcn r ins a ∧ zcn r ins a ≤ r.1 0 2) ∧ (∀ c, zcn r ins a ≤ c → c < r.1 0 2 → zC r a c = 0) ∧ (ins = 0 → zWd (zC r a 0) → 0 < zcn r ins a) ∧ (ins ≠ 0 → 0 < zcn r ins a) ∧ (ins ≠ 0 → ∀ c, zcn r ins a ≤ c → c < r.1 0 2 → zWd (zC r (a + 1) 0)) := by
  unfold zcn
  obtain ⟨h1, h2, h3⟩ := zfl_spec (zC r a) (r.1 0 2).toNat
  have e : (((r.1 0 2).toNat : Nat) : Int) = r.1 0 2 := by omega
  rw [e] at h1 h2
  by_cases q : ins = 0
  · rw [if_pos q]
    refine ⟨h1, h2, fun _ hw => ?_, fun e => absurd q e, fun e => absurd q e⟩
    by_cases z : 0 < zfl (zC r a) (r.1 0 2).toNat
    · exact z
    · have := h2 0 (by omega) (by omega)
      rw [this] at hw
      exact absurd hw zWd_0
  · rw [if_neg q]
    by_cases z : zC r a (r.1 0 2 - 1) = 0 ∧ zwd (zC r (a + 1) 0) = 1
    · rw [if_pos z]
      refine ⟨by omega, fun c x y => ?_, fun e => absurd e q, fun _ => by omega, fun _ _ _ _ => zwd_1.mp z.2⟩
      rw [show c = r.1 0 2 - 1 by omega]
      exact z.1
    · rw [if_neg z]
      exact ⟨by omega, fun c x y => by omega, fun e => absurd e q, fun _ => by omega, fun _ c x y => by omega⟩
theorem c_cellsOf {p r : zSt} (h : zMp p r) (hr : zNr r) {a ins : Int} (ha : 0 ≤ a ∧ a < r.1 0 7 + 12) (hi : ins ≠ 0 → a + 1 < r.1 0 7 + 12) : f_Ma_cellsOf a ins p = some (zcn r ins a) := by
  have hn := hr.2.2.1
  have hpp := hr.2.2.2.1
  have e3 : p.1 1 3 = r.1 0 2 := h.2.2.2.1.2.1
  have ew : w32 (r.1 0 2 - 1) = r.1 0 2 - 1 := w32i (by omega) (by omega)
  unfold f_Ma_cellsOf zcn
  refine bindS (x := r.1 0 2) (by unfold f_Pi_columns; exact congrArg some e3) ?_
  by_cases q : ins = 0
  · rw [if_pos q, if_pos q]
    have := c_cellsUp h hr ha (r.1 0 2).toNat zfu 0 (by unfold zfu; omega) (by omega) (by omega)
    rw [show (((r.1 0 2).toNat : Nat) : Int) = r.1 0 2 by omega] at this
    exact bindS this rfl
  · rw [if_neg q, if_neg q, ew]
    refine bindS (c_Ma_at h hr ha ⟨by omega, by omega⟩) ?_
    by_cases z : zC r a (r.1 0 2 - 1) = 0
    · rw [if_neg (by simpa using z)]
      have := hi q
      refine bindS (x := zC r (a + 1) 0) (by rw [w32i (by omega) (by omega)]; exact c_Ma_at h hr ⟨by omega, by omega⟩ ⟨by omega, by omega⟩) (bindS (c_isWide _) ?_)
      rcases zwd_01 (zC r (a + 1) 0) with y | y
      · rw [y, if_pos (by decide), if_neg (by omega)]
      · rw [y, if_neg (by decide), if_pos ⟨z, rfl⟩]
    · rw [if_pos z, if_pos rfl, if_neg (fun e => z e.1)]
theorem inl7 {α β γ δ ε ζ η κ : Type} {a a' : α} {b b' : β} {c c' : γ} {d d' : δ} {e e' : ε} {f f' : ζ} {g g' : η} (h1 : a = a') (h2 : b = b') (h3 : c = c') (h4 : d = d') (h5 : e = e') (h6 : f = f') (h7 : g = g') : (some (Sum.inl (a, b, c, d, e, f, g)) : Option ((α × β × γ × δ × ε × ζ × η) ⊕ κ)) = some (.inl (a', b', c', d', e', f', g')) := by rw [h1, h2, h3, h4, h5, h6, h7]
theorem c_lesser (a b : Int) : f_Rf_lesser a b = some (if a < b then a else b) := by
  unfold f_Rf_lesser
  grind
/-- the reference's row ends -/
theorem c_72t {r : zSt} (hr : zNr r) {cr0 cr cc row w m ins pl o x d : Int} {A B : Int → Int} (hcr0 : 0 ≤ cr0 ∧ cr0 < 12) (hcr : cr = r.1 0 7 + cr0) (hrow : 0 ≤ row ∧ row < r.1 0 7 + 12) (hcc : 0 ≤ cc ∧ cc < 24) (hw : 4 ≤ w ∧ w ≤ 24) (ho : 0 ≤ o ∧ o < 499) (hx : 0 ≤ x ∧ x ≤ 24) (hm : 0 ≤ m ∧ m ≤ 24) :
    (if ¬ row = (w32 ((zTr r A B).1 0 7 + cr0)) then (some (.inl (pl, o, w32 (row + 1), x, ins, d, zTr r A B)) : Option ((Int × Int × Int × Int × Int × Int × zSt) ⊕ (Int × Int × Int × zSt)))
      else if cc < m then some (.inl (pl, o, w32 (row + 1), x, ins, d, zTr r A B))
      else if ins = 0 then (f_Rf_lesser (w32 ((w32 (x + cc)) - m)) (w32 (w - 1))).bind fun x12 => some (.inl (w32 ((w32 (24 * o)) + x12), o, w32 (row + 1), x, ins, ins, zTr r A B))
      else some (.inl (pl, o, w32 (row + 1), x, ins, ins, zTr r A B)))
    = some (.inl (if row = cr ∧ m ≤ cc ∧ ins = 0 then 24 * o + (if x + cc - m < w - 1 then x + cc - m else w - 1) else pl, o, row + 1, x, ins, if row = cr ∧ m ≤ cc then ins else d, zTr r A B)) := by
  have hpp := hr.2.2.2.1
  have e1 : w32 ((zTr r A B).1 0 7 + cr0) = cr := by rw [hcr]; exact w32i (by show _ ≤ r.1 0 7 + cr0; omega) (by show r.1 0 7 + cr0 ≤ _; omega)
  have e2 : w32 (row + 1) = row + 1 := w32i (by omega) (by omega)
  rw [e1, e2]
  by_cases q : row = cr
  · refine iteF (by simpa using q) ?_
    by_cases q2 : cc < m
    · rw [if_pos q2, if_neg (by omega), if_neg (by omega)]
    · rw [if_neg q2]
      by_cases q3 : ins = 0
      · refine iteT q3 (bindS (c_lesser _ _) ?_)
        rw [if_pos (⟨q, by omega, q3⟩ : row = cr ∧ m ≤ cc ∧ ins = 0), if_pos (⟨q, by omega⟩ : row = cr ∧ m ≤ cc)]
        refine inl7 ?_ rfl rfl rfl rfl rfl rfl
        rw [w32i (x := x + cc) (by omega) (by omega), w32i (x := x + cc - m) (by omega) (by omega), w32i (x := w - 1) (by omega) (by omega), w32i (x := 24 * o) (by omega) (by omega), w32i (by split <;> omega) (by split <;> omega)]
      · rw [if_neg q3, if_neg (by omega), if_pos ⟨q, by omega⟩]
  · rw [if_pos q, if_neg (by omega), if_neg (by omega)]
theorem P_rowAll {p r : zSt} (hp : zMp p r) (hr : zNr r) {w cr0 cr cc row ins N mk : Int} (hw6 : p.1 0 6 = w) (hw : 4 ≤ w ∧ w ≤ 24) (hrow : 0 ≤ row ∧ row < r.1 0 7 + 12) (hwfA : ∀ a, 0 ≤ a → a < r.1 0 7 + 12 → zRow (zC r a) (r.1 0 2)) (hN : N ≤ r.1 0 7 + 12)
    (hcr0 : 0 ≤ cr0 ∧ cr0 < 12) (hcr : cr = r.1 0 7 + cr0) (hcc : 0 ≤ cc ∧ cc < r.1 0 2) (hmk : mk = if row = cr then cc else -1) (hins : ins = if zCg r row = 0 then 0 else if N ≤ row + 1 then 0 else 1)
    {u o x d pl a b : Int} {F S L G A B : Int → Int} (h : zLr w cr cc row 0 0 u o x d pl a b F S L G A B) (hd : d = 1 → zWd (zC r row 0)) :
    ∃ u' o' x' d' pl' a' b' F' S' L' G' A' B', f_Ma_layRow row ins mk (zTm p u (o + 1) a b d F S L G) = some (0, zTm p u' (o' + 1) a' b' d' F' S' L' G') ∧ f_Rf_lays_l72 cr0 cc w N (pl, o, row, x, 1, d, zTr r A B) = some (.inl (pl', o', row + 1, x', ins, d', zTr r A' B')) ∧ zLr w cr cc (row + 1) 0 0 u' o' x' d' pl' a' b' F' S' L' G' A' B' ∧ (d' = 1 → ins = 1 ∧ zWd (zC r (row + 1) 0)) ∧ (ins = 0 → d' = 0) ∧ 3 * (o' + 1) ≤ 3 * (row + 1) + (u' - L' o') := by
  have hn := hr.2.2.1
  have hpp := hr.2.2.2.1
  have hwf := hwfA row hrow.1 hrow.2
  have hi01 : ins = 0 ∨ (ins = 1 ∧ row + 1 < N) := by
    rw [hins]
    by_cases q1 : zCg r row = 0
    · rw [if_pos q1]; exact Or.inl rfl
    · rw [if_neg q1]
      by_cases q2 : N ≤ row + 1
      · rw [if_pos q2]; exact Or.inl rfl
      · rw [if_neg q2]; exact Or.inr ⟨rfl, by omega⟩
  obtain ⟨m, hm⟩ : ∃ m, m = zcn r ins row := ⟨_, rfl⟩
  obtain ⟨m1, m2, m3, m4, m5⟩ := zcn_in hn ins row
  rw [← hm] at m1 m2 m3 m4 m5
  obtain ⟨u', o', x', d', pl', a', b', F', S', L', G', A', B', e1, e2, ⟨g1, g2, g3, g4, g5, g6⟩, k1, k2⟩ := P_row (ins := ins) (m := m) (N := N) hp hr hw6 hw hrow hwf m1 m2 hcr0 hcr hcc.1 hmk h
  have hd0 : d' = 0 := by
    by_cases q : 0 < m
    · exact k1 q
    · have q0 : m = 0 := by omega
      rw [k2 q0]
      rcases h.2.2.2.2.1 with z | z
      · exact z
      · exfalso
        rcases hi01 with y | y
        · have := m3 y (hd z)
          omega
        · have := m4 (by omega)
          omega
  obtain ⟨⟨l1, l2, l3, l4, l5⟩, -, -, -, -, -, -⟩ := g2.2
  have ob : o' < 499 := by omega
  have hcond : ∀ ins', zLr w cr cc (row + 1) 0 0 u' o' x' (if row = cr ∧ m ≤ cc then ins' else d') (if row = cr ∧ m ≤ cc ∧ ins' = 0 then 24 * o' + (if x' + cc - m < w - 1 then x' + cc - m else w - 1) else pl') (if row = cr ∧ m ≤ cc ∧ ins' = 0 then o' else a') (if row = cr ∧ m ≤ cc ∧ ins' = 0 then (if x' + cc - m < w - 1 then x' + cc - m else w - 1) else b') F' S' L' G' A' B' ∨ (ins' ≠ 0 ∧ ins' ≠ 1) := by
    intro ins'
    by_cases q : ins' ≠ 0 ∧ ins' ≠ 1
    · exact Or.inr q
    · refine Or.inl ⟨g1, g2, by omega, by omega, ?_, fun z hs => ?_⟩
      · unfold z01 at *
        split <;> omega
      · by_cases y : row = cr ∧ m ≤ cc
        · rw [if_pos y] at z
          have y3 : row = cr ∧ m ≤ cc ∧ ins' = 0 := ⟨y.1, y.2, z⟩
          rw [if_pos y3, if_pos y3, if_pos y3]
          refine ⟨rfl, by omega, ?_, ?_⟩
          · split <;> omega
          · split <;> omega
        · rw [if_neg (fun e => y ⟨e.1, e.2.1⟩), if_neg (fun e => y ⟨e.1, e.2.1⟩), if_neg (fun e => y ⟨e.1, e.2.1⟩)]
          exact g6 hd0 (by omega)
  have hL := (hcond ins).resolve_right (by omega)
  have eL : L' o' = x' := by omega
  -- the class
  have hclass : f_Ma_layRow row ins mk (zTm p u (o + 1) a b d F S L G) = some (0, zTm p u' (o' + 1) (if row = cr ∧ m ≤ cc ∧ ins = 0 then o' else a') (if row = cr ∧ m ≤ cc ∧ ins = 0 then (if x' + cc - m < w - 1 then x' + cc - m else w - 1) else b') (if row = cr ∧ m ≤ cc then ins else d') F' S' L' G') := by
    unfold f_Ma_layRow
    refine bindS (c_cellsOf (hp.tm u (o + 1) a b d F S L G) hr hrow (fun q => by omega)) ?_
    rw [← hm]
    refine bindS e1 ?_
    by_cases q : row = cr ∧ m ≤ cc
    · rw [if_pos q.1] at hmk
      rw [if_neg (by omega), if_pos q]
      by_cases q3 : ins = 0
      · have q4 : row = cr ∧ m ≤ cc ∧ ins = 0 := ⟨q.1, q.2, q3⟩
        rw [if_pos q3, if_pos q4, if_pos q4]
        unfold f_Ma_layRow_j122
        refine iteF (by omega) ?_
        rw [c_mark hp.2.2.1 (by omega)]
        refine bindS (c_lol hp.2.2.1 (by omega)) ?_
        rw [show o' + 1 - 1 = o' by omega, eL]
        congr 2
        have ew : w32 (w32 (x' + mk) - m) = x' + cc - m := by rw [hmk, w32i (x := x' + cc) (by omega) (by omega), w32i (by omega) (by omega)]
        have ew2 : w32 ((zTm p u' (o' + 1) a' b' d' F' S' L' G').1 0 6 - 1) = w - 1 := by
          show w32 (p.1 0 6 - 1) = _
          rw [hw6, w32i (by omega) (by omega)]
        rw [ew, ew2, hd0, q3]
        refine zTm_ext (fun i k => ?_) (fun i => ?_)
        · simp only [uS1, zTm_1]
          grind
        · simp only [uS2, zTm_2]
      · rw [if_neg q3, if_neg (fun e => q3 e.2.2), if_neg (fun e => q3 e.2.2), show ins = 1 by omega]
        congr 2
        refine zTm_ext (fun i k => ?_) (fun i => ?_)
        · simp only [uS1, zTm_1]
          grind
        · simp only [uS2, zTm_2]
    · have q2 : mk < m ∨ ¬ row = cr := by
        by_cases z : row = cr
        · rw [if_pos z] at hmk; omega
        · exact Or.inr z
      have q5 : mk < m := by
        rcases q2 with z | z
        · exact z
        · rw [if_neg z] at hmk; omega
      rw [if_pos q5, if_neg q, if_neg (fun e => q ⟨e.1, e.2.1⟩), if_neg (fun e => q ⟨e.1, e.2.1⟩)]
      unfold f_Ma_layRow_j122
      exact iteT q5 rfl
  have tail := c_72t (ins := ins) (pl := pl') (d := d') (A := A') (B := B') hr hcr0 hcr hrow ⟨hcc.1, by omega⟩ hw ⟨g1, ob⟩ (x := x') ⟨by omega, by omega⟩ (m := m) ⟨m1.1, by omega⟩
  refine ⟨u', o', x', _, _, _, _, F', S', L', G', A', B', hclass, ?_, hL, fun z => ?_, fun z => ?_, g4⟩
  · have er : w32 (row + 1) = row + 1 := w32i (by omega) (by omega)
    have en1 : w32 (r.1 0 2 - 1) = r.1 0 2 - 1 := w32i (by omega) (by omega)
    have ei : (if zCg r row = 0 then (0 : Int) else if N ≤ w32 (row + 1) then 0 else 1) = ins := by rw [er, hins]
    unfold f_Rf_lays_l72
    refine iteF (show ¬ ((1 : Int) = 0) by decide) (bindS (c_Rf_oldGoes (a := row) hr A B hrow) ?_)
    dsimp only
    rw [ei, show (zTr r A B).1 0 2 = r.1 0 2 from rfl, en1]
    by_cases q : ins = 0
    · rw [if_pos q, if_pos q]
      refine bindS (c_fullOf hr A B hrow) ?_
      rw [show zfl (zC r row) (r.1 0 2).toNat = m by rw [hm]; unfold zcn; rw [if_pos q]]
      exact bindS e2 tail
    · rw [if_neg q]
      refine bindS (c_Rf_old (c := r.1 0 2 - 1) hr A B hrow ⟨by omega, by omega⟩) ?_
      by_cases z : zC r row (r.1 0 2 - 1) = 0
      · rw [if_neg (by simpa using z)]
        refine bindS (x := zC r (row + 1) 0) (by rw [er]; exact c_Rf_old hr A B ⟨by omega, by omega⟩ ⟨by omega, by omega⟩) ?_
        have vl : zVl (zC r (row + 1) 0) := ((hwfA (row + 1) (by omega) (by omega)).2 0 (by omega) (by omega)).1
        refine bindS (c_RisWide vl) ?_
        rw [if_neg q]
        rw [show (if (if zwd (zC r (row + 1) 0) = 0 then (0 : Int) else 1) = 0 then r.1 0 2 else r.1 0 2 - 1) = m by
          rw [hm]
          unfold zcn
          rw [if_neg q]
          rcases zwd_01 (zC r (row + 1) 0) with y | y
          · rw [y, if_pos (by decide), if_neg (by omega)]
          · rw [y, if_neg (by decide), if_pos ⟨z, rfl⟩]]
        exact bindS e2 tail
      · rw [if_pos z, if_neg q]
        rw [show (if (0 : Int) = 0 then r.1 0 2 else r.1 0 2 - 1) = m by rw [if_pos rfl, hm]; unfold zcn; rw [if_neg q, if_neg (fun e => z e.1)]]
        exact bindS e2 tail
  · by_cases y : row = cr ∧ m ≤ cc
    · rw [if_pos y] at z
      exact ⟨z, m5 (by omega) cc y.2 hcc.2⟩
    · rw [if_neg y] at z
      omega
  · by_cases y : row = cr ∧ m ≤ cc
    · rw [if_pos y, z]
    · rw [if_neg y, hd0]
