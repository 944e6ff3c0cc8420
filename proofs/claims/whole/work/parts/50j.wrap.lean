/-! ===== MAIN wrapped anew ===== -/
def zst0 (o R a : Int) : Int := if a < (if o - R < 0 then 0 else o - R) then a else (if o - R < 0 then 0 else o - R)
/-- MAIN behind it, with the cursor that stays at its cell -/
def zWf (p W : zSt) (R w hc x y lt : Int) (H HG P PG : Int → Int) : Prop := (∀ i k, i ≠ 0 → ¬ (i = 1 ∧ (k = 2 ∨ k = 3)) → ¬ (i = 4 ∧ k = 2) → ¬ (i = 11 ∧ (k = 0 ∨ k = 1 ∨ k = 2)) → W.1 i k = p.1 i k) ∧ (W.1 1 2 = R ∧ W.1 1 3 = w ∧ W.1 4 2 = hc) ∧ (W.1 11 0 = x ∧ W.1 11 1 = y ∧ W.1 11 2 = lt) ∧ (W.2 2 = P ∧ W.2 3 = PG ∧ W.2 5 = H ∧ W.2 6 = HG) ∧ ∀ i, 11 ≤ i → W.2 i = p.2 i
theorem P_wrap {p r : zSt} {w R cr0 cc : Int} (hp : zMp p r) (hr : zNr r) (hR : 2 ≤ R ∧ R ≤ 12) (hw : 4 ≤ w ∧ w ≤ 24) (hwfA : ∀ a, 0 ≤ a → a < r.1 0 7 + 12 → zRow (zC r a) (r.1 0 2)) (hcr0 : 0 ≤ cr0 ∧ cr0 < r.1 0 1) (hcc : 0 ≤ cc ∧ cc < r.1 0 2) (hcu : p.1 11 0 = cr0 ∧ p.1 11 1 = cc) :
    ∃ W u o pl a b F S L G A B hc H HG P PG, f_Ma_wrap R w p = some (0, W) ∧ f_Rf_lays cr0 cc w r = some (pl, uS (zTr r A B) 0 58 o) ∧ (pl = 24 * a + b ∧ (0 ≤ a ∧ a < o) ∧ 0 ≤ b ∧ b < w) ∧ (1 ≤ o ∧ o ≤ 480) ∧ zJk R (zst0 o R a) (if zst0 o R a - 40 < 0 then 0 else zst0 o R a - 40) o hc H HG P PG A B ∧ zLq w u o F S L G A B ∧
      zWf p W R w hc (a - zst0 o R a) b (if p.1 11 2 = 0 then 0 else (if ¬ b = w - 1 then 0 else 1)) H HG P PG := by
  obtain ⟨N, u, o, pl, a, b, F, S, L, G, A, B, e1, e2, e3, e4, e5, e6, e7, e8, e9, e10, e11, e12⟩ := P_lays (w := w) (cr := r.1 0 7 + cr0) hp hr hw hwfA hcr0 rfl hcc hcu R w
  obtain ⟨st, hst⟩ : ∃ z, z = zst0 o R a := ⟨_, rfl⟩
  have hst' : 0 ≤ st ∧ st ≤ a := by rw [hst]; unfold zst0; split <;> split <;> omega
  have hp6 : zMp (uS p 0 6 w) r := hp.rz (by decide)
  obtain ⟨hc, H, HG, P, PG, b1, b2⟩ := P_putBack (p := uS p 0 6 w) (R := R) (start := st) (a := a) (b := b) hp6.1 hp6.2.1 hp6.2.2.1 e6 e7 hR hw e8.2 ⟨hst'.1, by omega⟩
  refine ⟨uS (uS (uS (zTb (uS (uS (zTm (uS p 0 6 w) u o a b 0 F S L G) 1 2 R) 1 3 w) hc H HG P PG) 11 0 (a - zst0 o R a)) 11 1 b) 11 2 (if p.1 11 2 = 0 then 0 else (if ¬ b = w - 1 then 0 else 1)), u, o, pl, a, b, F, S, L, G, A, B, hc, H, HG, P, PG, ?_, e5, ⟨e9, e10, e11, e12⟩, e8, by rw [← hst]; exact b2, e6, ?_⟩
  · have ez : zpb (zsh 0) 11 (zTm (uS p 0 6 w) u o a b 0 F S L G) (zTb (uS (uS (zTm (uS p 0 6 w) u o a b 0 F S L G) 1 2 R) 1 3 w) hc H HG P PG) = zTb (uS (uS (zTm (uS p 0 6 w) u o a b 0 F S L G) 1 2 R) 1 3 w) hc H HG P PG := by
      refine zst_ext (fun i k => ?_) (fun i => ?_)
      · rw [zpb1]
        by_cases q : 0 ≤ i ∧ i < 0 + 11
        · rw [if_pos q, show i - 0 = i by omega]
        · rw [if_neg q, zTb_1, uS1, uS1]
          grind
      · rw [zpb2]
        by_cases q : 0 ≤ i ∧ i < 0 + 11
        · rw [if_pos q, show i - 0 = i by omega]
        · rw [if_neg q, zTb_2, uS2, uS2]
          grind
    have eo : w32 (o - R) = o - R := w32i (by omega) (by omega)
    unfold f_Ma_wrap
    refine bindS e1 (bindS (by rw [hcu.1]; exact e2) ?_)
    rw [e3]
    refine bindS e4 ?_
    rw [show (zTm (uS p 0 6 w) u o a b 0 F S L G).1 0 9 = a from rfl, show (zTm (uS p 0 6 w) u o a b 0 F S L G).1 0 8 = o from rfl, eo]
    rw [show (if a < (if o - R < 0 then 0 else o - R) then a else (if o - R < 0 then 0 else o - R)) = st from hst.symm]
    refine bindS b1 ?_
    dsimp only
    rw [ez, show (zTb (uS (uS (zTm (uS p 0 6 w) u o a b 0 F S L G) 1 2 R) 1 3 w) hc H HG P PG).1 0 9 = a from rfl, show (zTb (uS (uS (zTm (uS p 0 6 w) u o a b 0 F S L G) 1 2 R) 1 3 w) hc H HG P PG).1 0 10 = b from rfl, show (zTb (uS (uS (zTm (uS p 0 6 w) u o a b 0 F S L G) 1 2 R) 1 3 w) hc H HG P PG).1 0 6 = w from rfl, show (zTm (uS p 0 6 w) u o a b 0 F S L G).1 11 2 = p.1 11 2 from rfl]
    rw [w32i (x := a - st) (by omega) (by omega), w32i (x := w - 1) (by omega) (by omega), hst]
  · refine ⟨fun i k x1 x2 x3 x4 => ?_, ⟨rfl, rfl, rfl⟩, ⟨rfl, rfl, rfl⟩, ⟨rfl, rfl, rfl, rfl⟩, fun i x => ?_⟩
    · simp only [uS1, zTb_1, zTm_1]
      grind
    · simp only [uS2, zTb_2, zTm_2]
      grind
/-- what a changed width does to MAIN, in the whole screen: u is the cursor's place -/
def zWs (s t : zSt) (u : Nat) (R w hc x y lt : Int) (H HG P PG : Int → Int) : Prop := (∀ i k, i ≠ 1 → ¬ (i = 2 ∧ (k = 2 ∨ k = 3)) → ¬ (i = 5 ∧ k = 2) → ¬ (i = u ∧ (k = 0 ∨ k = 1 ∨ k = 2)) → t.1 i k = s.1 i k) ∧ (t.1 2 2 = R ∧ t.1 2 3 = w ∧ t.1 5 2 = hc) ∧ (t.1 u 0 = x ∧ t.1 u 1 = y ∧ t.1 u 2 = lt) ∧ (t.2 3 = P ∧ t.2 4 = PG ∧ t.2 6 = H ∧ t.2 7 = HG) ∧ ∀ i, 13 ≤ i → t.2 i = s.2 i
theorem zWf.main {s W : zSt} {R w hc x y lt : Int} {H HG P PG : Int → Int} (h : zWf (zsb (zsh 1) s) W R w hc x y lt H HG P PG) : zWs s (zpb (zsh 1) 12 s W) 12 R w hc x y lt H HG P PG := by
  obtain ⟨h1, ⟨h2, h3, h4⟩, ⟨h5, h6, h7⟩, ⟨h8, h9, h10, h11⟩, h12⟩ := h
  refine ⟨fun i k x1 x2 x3 x4 => ?_, ⟨?_, ?_, ?_⟩, ⟨?_, ?_, ?_⟩, ⟨?_, ?_, ?_, ?_⟩, fun i a => ?_⟩
  · rw [zpb1]
    by_cases q : 1 ≤ i ∧ i < 1 + 12
    · rw [if_pos q, h1 (i - 1) k (by omega) (by omega) (by omega) (by omega)]
      show s.1 (i - 1 + 1) k = _
      rw [show i - 1 + 1 = i by omega]
    · rw [if_neg q]
  · rw [zpb1, if_pos (by decide)]; exact h2
  · rw [zpb1, if_pos (by decide)]; exact h3
  · rw [zpb1, if_pos (by decide)]; exact h4
  · rw [zpb1, if_pos (by decide)]; exact h5
  · rw [zpb1, if_pos (by decide)]; exact h6
  · rw [zpb1, if_pos (by decide)]; exact h7
  · rw [zpb2, if_pos (by decide)]; exact h8
  · rw [zpb2, if_pos (by decide)]; exact h9
  · rw [zpb2, if_pos (by decide)]; exact h10
  · rw [zpb2, if_pos (by decide)]; exact h11
  · rw [zpb2, if_neg (by omega)]
theorem zfind_o (i : Nat) {a : Nat} (h : zfind (zsl [1, 2, 3, 4, 5, 6, 7, 8, 9, 10, 11, 25]) i 12 = some a) : a < 12 ∧ ((a = 11 ∧ i = 25) ∨ (a < 11 ∧ i = a + 1)) := by
  obtain ⟨h1, h2⟩ := zfind_some h
  refine ⟨h1, ?_⟩
  have : a = 0 ∨ a = 1 ∨ a = 2 ∨ a = 3 ∨ a = 4 ∨ a = 5 ∨ a = 6 ∨ a = 7 ∨ a = 8 ∨ a = 9 ∨ a = 10 ∨ a = 11 := by omega
  rcases this with rfl | rfl | rfl | rfl | rfl | rfl | rfl | rfl | rfl | rfl | rfl | rfl <;> first | exact Or.inr ⟨by decide, h2.symm⟩ | exact Or.inl ⟨rfl, h2.symm⟩
theorem zsb_o1 (s : zSt) {a : Nat} (k : Nat) (h : a < 11) : (zsb (zsl [1, 2, 3, 4, 5, 6, 7, 8, 9, 10, 11, 25]) s).1 a k = s.1 (a + 1) k := by
  have : a = 0 ∨ a = 1 ∨ a = 2 ∨ a = 3 ∨ a = 4 ∨ a = 5 ∨ a = 6 ∨ a = 7 ∨ a = 8 ∨ a = 9 ∨ a = 10 := by omega
  rcases this with rfl | rfl | rfl | rfl | rfl | rfl | rfl | rfl | rfl | rfl | rfl <;> rfl
theorem zWf.other {s W : zSt} {R w hc x y lt : Int} {H HG P PG : Int → Int} (h : zWf (zsb (zsl [1, 2, 3, 4, 5, 6, 7, 8, 9, 10, 11, 25]) s) W R w hc x y lt H HG P PG) : zWs s (zpb (zsl [1, 2, 3, 4, 5, 6, 7, 8, 9, 10, 11, 25]) 12 s W) 25 R w hc x y lt H HG P PG := by
  obtain ⟨h1, ⟨h2, h3, h4⟩, ⟨h5, h6, h7⟩, ⟨h8, h9, h10, h11⟩, h12⟩ := h
  refine ⟨fun i k x1 x2 x3 x4 => ?_, ⟨h2, h3, h4⟩, ⟨h5, h6, h7⟩, ⟨h8, h9, h10, h11⟩, fun i a => ?_⟩
  · unfold zpb
    cases hz : zfind (zsl [1, 2, 3, 4, 5, 6, 7, 8, 9, 10, 11, 25]) i 12 with
    | none => simp [hz]
    | some a =>
      simp only [hz]
      obtain ⟨y1, y2⟩ := zfind_o i hz
      rcases y2 with ⟨rfl, rfl⟩ | ⟨y2, rfl⟩
      · rw [h1 11 k (by decide) (by omega) (by omega) (by omega)]
        rfl
      · rw [h1 a k (by omega) (by omega) (by omega) (by omega), zsb_o1 s k y2]
  · unfold zpb
    cases hz : zfind (zsl [1, 2, 3, 4, 5, 6, 7, 8, 9, 10, 11, 25]) i 12 with
    | none => simp [hz]
    | some b =>
      simp only [hz]
      obtain ⟨y1, y2⟩ := zfind_o i hz
      rcases y2 with ⟨rfl, rfl⟩ | ⟨y2, rfl⟩
      · exact h12 11 (by decide)
      · omega
/-- MAIN of the class beside the reference's, out of the relation -/
theorem zRel.mp {s r : zSt} (h : zRel s r) : zMp (zsb (zsh 1) s) r := by
  obtain ⟨hL, ⟨hZ, hg, hs, hm, hv, hr, hk, hh⟩, p0, p1, xh, xu, xm, xv, xz, xt, xr⟩ := h
  refine ⟨⟨hL.1.1, hL.1.2.1, by show 2 ≤ s.1 2 2 ∧ s.1 2 2 ≤ 12; rw [p0.2.2.2.1]; exact hZ.2.1, by show 4 ≤ s.1 2 3 ∧ s.1 2 3 ≤ 24; rw [p0.2.2.2.2.1]; exact hZ.2.2.1, p0.2.2.1⟩, ⟨hL.1.2.2.1, hL.1.2.2.2.1, by show 0 ≤ s.1 5 2 ∧ s.1 5 2 ≤ 40; rw [xh.1]; exact hs.2.2.2.2.2, xh.2.2.2⟩, hL.1.2.2.2.2, ⟨p0.2.2.2.1, p0.2.2.2.2.1, xh.1⟩, fun i a b => ?_, fun i a b => ?_, fun i a b => xh.2.1 i a b, fun i a b => xh.2.2.1 i a b⟩
  · have := p0.1 i a b
    rw [Int.zero_add] at this
    exact this
  · have := p0.2.1 i a b
    rw [Int.zero_add] at this
    exact this
theorem zRel.mpo {s r : zSt} (h : zRel s r) : zMp (zsb (zsl [1, 2, 3, 4, 5, 6, 7, 8, 9, 10, 11, 25]) s) r := h.mp
