/-! ===== the laid rows go back into history and picture ===== -/
theorem zpb_uE (b n : Nat) (s : zSt) (i : Nat) (j v : Int) (hi : i < n) : zpb (zsh b) n s (uE (zsb (zsh b) s) i j v) = uE s (i + b) j v := by
  unfold uE
  rw [zpb_uA _ _ _ _ _ _ hi, zpb_same]
  rfl
def zTb (t : zSt) (hc : Int) (H HG P PG : Int → Int) : zSt := uA (uA (uA (uA (uS t 4 2 hc) 5 H) 6 HG) 2 P) 3 PG
theorem zTb_1 (t : zSt) (hc : Int) (H HG P PG : Int → Int) (i k : Nat) : (zTb t hc H HG P PG).1 i k = if i = 4 ∧ k = 2 then hc else t.1 i k := by
  simp only [zTb, uA1, uS1]
  grind
theorem zTb_2 (t : zSt) (hc : Int) (H HG P PG : Int → Int) (i : Nat) : (zTb t hc H HG P PG).2 i = if i = 3 then PG else if i = 2 then P else if i = 6 then HG else if i = 5 then H else t.2 i := by
  simp only [zTb, uA2]
  rfl
theorem zTb_ext {t q : zSt} {hc : Int} {H HG P PG : Int → Int} (h1 : ∀ i k, q.1 i k = if i = 4 ∧ k = 2 then hc else t.1 i k) (h2 : ∀ i, q.2 i = if i = 3 then PG else if i = 2 then P else if i = 6 then HG else if i = 5 then H else t.2 i) : q = zTb t hc H HG P PG :=
  zst_ext (fun i k => by rw [h1, zTb_1]) (fun i => by rw [h2, zTb_2])
section ZTB
variable {t : zSt} {hc : Int} {H HG P PG : Int → Int}
theorem zTb_h (j v : Int) : uE (zTb t hc H HG P PG) 5 j v = zTb t hc (zup H j v) HG P PG := by
  refine zTb_ext (fun i k => ?_) (fun i => ?_)
  · simp only [uE, uA1, zTb_1]
  · simp only [uE, uA2, zTb_2]
    grind
theorem zTb_p (j v : Int) : uE (zTb t hc H HG P PG) 2 j v = zTb t hc H HG (zup P j v) PG := by
  refine zTb_ext (fun i k => ?_) (fun i => ?_)
  · simp only [uE, uA1, zTb_1]
  · simp only [uE, uA2, zTb_2]
    grind
theorem zTb_g (j v : Int) : uE (zTb t hc H HG P PG) 3 j v = zTb t hc H HG P (zup PG j v) := by
  refine zTb_ext (fun i k => ?_) (fun i => ?_)
  · simp only [uE, uA1, zTb_1]
  · simp only [uE, uA2, zTb_2]
    grind
end ZTB
def zRw (H : Int → Int) (q : Int) (F : Int → Int) (s n : Int) : Int → Int := fun j => if q ≤ j ∧ j < q + n then F (s + (j - q)) else H j
theorem zRw_0 (H : Int → Int) (q : Int) (F : Int → Int) (s : Int) : zRw H q F s 0 = H := by
  funext j
  unfold zRw
  rw [if_neg (by omega)]
theorem zRw_s (H : Int → Int) (q : Int) (F : Int → Int) (s : Int) {n : Int} (hn : 0 ≤ n) : zup (zRw H q F s n) (q + n) (F (s + n)) = zRw H q F s (n + 1) := by
  funext j
  unfold zup zRw
  by_cases e : j = q + n
  · rw [if_pos e, if_pos (by omega), show s + (j - q) = s + n by omega]
  · rw [if_neg e]
    by_cases e2 : q ≤ j ∧ j < q + n
    · rw [if_pos e2, if_pos (by omega)]
    · rw [if_neg e2, if_neg (by omega)]
/-- what putting back reads -/
def zBk (t : zSt) (R C o : Int) (F S L G : Int → Int) : Prop := (t.1 9 0 = 512 ∧ t.1 8 0 = 512 ∧ t.1 7 0 = 1248 ∧ t.1 10 0 = 512) ∧ (t.1 2 0 = 288 ∧ t.1 3 0 = 12 ∧ t.1 5 0 = 960 ∧ t.1 6 0 = 40) ∧ t.1 0 8 = o ∧ (t.1 1 2 = R ∧ t.1 1 3 = C) ∧ (t.2 7 = F ∧ t.2 8 = S ∧ t.2 9 = L ∧ t.2 10 = G)
section ZBK
variable {t : zSt} {hc R C o start i : Int} {F S L G H HG P PG : Int → Int}
theorem c_105h (hb : zBk t R C o F S L G) (hi : 0 ≤ i ∧ i < start ∧ i < 512) (hs : start < 600) (hh : 1 ≤ hc ∧ hc ≤ 40) (h1 : 0 ≤ L i ∧ L i ≤ 24) (h2 : 0 ≤ S i ∧ S i + L i ≤ 1248) :
    zloop (f_Ma_putBack_l105 R start i) zfu (0, zTb t hc H HG P PG) = some (zTb t hc (zRw H (24 * (hc - 1)) F (S i) (L i)) HG P PG) := by
  obtain ⟨⟨b1, b2, b3, b4⟩, ⟨b5, b6, b7, b8⟩, b9, ⟨b10, b11⟩, b12, b13, b14, b15⟩ := hb
  have hl := zloop_up (step := f_Ma_putBack_l105 R start i) (r := zTb t hc (zRw H (24 * (hc - 1)) F (S i) (L i)) HG P PG) (L i).toNat (n := zfu) (fun j => ((j : Int), zTb t hc (zRw H (24 * (hc - 1)) F (S i) (j : Int)) HG P PG)) (fun j hj => ?_) ?_ ?_
  · simp only [Int.natCast_zero, zRw_0] at hl
    exact hl
  · have e1 : w32 (S i + (j : Int)) = S i + j := w32i (by omega) (by omega)
    have e2 : w32 (hc - 1) = hc - 1 := w32i (by omega) (by omega)
    have e3 : w32 (w32 ((hc - 1) * 24) + (j : Int)) = 24 * (hc - 1) + j := by rw [w32i (x := (hc - 1) * 24) (by omega) (by omega), w32i (by omega) (by omega)]; omega
    have ep : f_Hi_putLatest (j : Int) (F (S i + j)) (zsb (zsh 4) (zTb t hc (zRw H (24 * (hc - 1)) F (S i) (j : Int)) HG P PG)) = some (0, uE (zsb (zsh 4) (zTb t hc (zRw H (24 * (hc - 1)) F (S i) (j : Int)) HG P PG)) 1 (24 * (hc - 1) + j) (F (S i + j))) := by
      unfold f_Hi_putLatest
      rw [show (zsb (zsh 4) (zTb t hc (zRw H (24 * (hc - 1)) F (S i) (j : Int)) HG P PG)).1 0 2 = hc from rfl, e2, e3]
      exact iteF (by omega) (iteF (by omega) (iteF (by omega) (iteF (by omega) (iteT ⟨by omega, by show _ < t.1 5 0; omega⟩ rfl))))
    unfold f_Ma_putBack_l105
    refine iteT (by show 0 ≤ i ∧ i < t.1 9 0; omega) (iteF (by show ¬ t.2 9 i ≤ (j : Int); rw [b14]; omega) (iteF (by show ¬ (24 : Int) ≤ (j : Int); omega) (iteT (by show 0 ≤ i ∧ i < t.1 8 0; omega) ?_)))
    show (if w32 (t.2 8 i + (j : Int)) < 0 then _ else _) = _
    rw [b13]
    dsimp only
    rw [show (zTb t hc (zRw H (24 * (hc - 1)) F (S i) (j : Int)) HG P PG).2 8 = S from b13, show (zTb t hc (zRw H (24 * (hc - 1)) F (S i) (j : Int)) HG P PG).2 7 = F from b12, e1]
    refine iteF (by omega) (iteF (by omega) (iteT (by show 0 ≤ S i + (j : Int) ∧ S i + (j : Int) < t.1 7 0; omega) (iteF (by omega) (bindS ep ?_))))
    dsimp only
    rw [zpb_uE _ _ _ _ _ _ (by omega)]
    show some (Sum.inl (w32 ((j : Int) + 1), uE (zTb t hc (zRw H (24 * (hc - 1)) F (S i) (j : Int)) HG P PG) 5 (24 * (hc - 1) + (j : Int)) (F (S i + (j : Int))))) = _
    rw [zTb_h, zRw_s _ _ _ _ (by omega), w32i (by omega) (by omega)]
    rfl
  · unfold f_Ma_putBack_l105
    have em : (((L i).toNat : Nat) : Int) = L i := by omega
    refine iteT (by show 0 ≤ i ∧ i < t.1 9 0; omega) (iteT (by show t.2 9 i ≤ (((L i).toNat : Nat) : Int); rw [b14]; omega) ?_)
    rw [em]
  · unfold zfu; omega
theorem c_105p (hb : zBk t R C o F S L G) (hi : 0 ≤ i ∧ start ≤ i ∧ i < 512) (hs : 0 ≤ start) (hR : 2 ≤ R ∧ R ≤ 12) (hC : 4 ≤ C ∧ C ≤ 24) (hPG : ∀ j, PG j = 0 ∨ PG j = 1) (h1 : 0 ≤ L i ∧ L i ≤ C) (h2 : 0 ≤ S i ∧ S i + L i ≤ 1248) :
    zloop (f_Ma_putBack_l105 R start i) zfu (0, zTb t hc H HG P PG) = some (zTb t hc H HG (if i - start < R then zRw P (24 * (i - start)) F (S i) (L i) else P) PG) := by
  obtain ⟨⟨b1, b2, b3, b4⟩, ⟨b5, b6, b7, b8⟩, b9, ⟨b10, b11⟩, b12, b13, b14, b15⟩ := hb
  have hl := zloop_up (step := f_Ma_putBack_l105 R start i) (r := zTb t hc H HG (if i - start < R then zRw P (24 * (i - start)) F (S i) (L i) else P) PG) (L i).toNat (n := zfu) (fun j => ((j : Int), zTb t hc H HG (if i - start < R then zRw P (24 * (i - start)) F (S i) (j : Int) else P) PG)) (fun j hj => ?_) ?_ ?_
  · simp only [Int.natCast_zero, zRw_0, ite_self] at hl
    exact hl
  · have e1 : w32 (S i + (j : Int)) = S i + j := w32i (by omega) (by omega)
    have e2 : w32 (i - start) = i - start := w32i (by omega) (by omega)
    generalize hQ : (if i - start < R then zRw P (24 * (i - start)) F (S i) (j : Int) else P) = Q
    have hpw : zPW (zsb (zsh 1) (zTb t hc H HG Q PG)) := ⟨b5, b6, (by show 2 ≤ t.1 1 2 ∧ t.1 1 2 ≤ 12; omega), (by show 4 ≤ t.1 1 3 ∧ t.1 1 3 ≤ 24; omega), hPG⟩
    unfold f_Ma_putBack_l105
    refine iteT (by show 0 ≤ i ∧ i < t.1 9 0; omega) (iteF (by show ¬ t.2 9 i ≤ (j : Int); rw [b14]; omega) (iteF (by show ¬ (24 : Int) ≤ (j : Int); omega) (iteT (by show 0 ≤ i ∧ i < t.1 8 0; omega) ?_)))
    dsimp only
    rw [show (zTb t hc H HG Q PG).2 8 = S from b13, show (zTb t hc H HG Q PG).2 7 = F from b12, e1, e2]
    refine iteF (by omega) (iteF (by omega) (iteT (by show 0 ≤ S i + (j : Int) ∧ S i + (j : Int) < t.1 7 0; omega) (iteT hi.2.1 (bindS (c_Pi_put hpw _ _ _) ?_))))
    dsimp only
    have er : (zsb (zsh 1) (zTb t hc H HG Q PG)).1 0 2 = R := b10
    have ec : (zsb (zsh 1) (zTb t hc H HG Q PG)).1 0 3 = C := b11
    rw [er, ec]
    by_cases q : i - start < R
    · rw [if_pos q] at hQ
      rw [if_pos q, if_pos (by omega), zpb_uE _ _ _ _ _ _ (by omega)]
      show some (Sum.inl (w32 ((j : Int) + 1), uE (zTb t hc H HG Q PG) 2 ((i - start) * 24 + (j : Int)) (F (S i + (j : Int))))) = _
      rw [zTb_p, ← hQ, show (i - start) * 24 + (j : Int) = 24 * (i - start) + j by omega, zRw_s _ _ _ _ (by omega), w32i (by omega) (by omega)]
      rfl
    · rw [if_neg q] at hQ
      rw [if_neg q, if_neg (by omega), zpb_same, hQ, w32i (by omega) (by omega)]
      rfl
  · unfold f_Ma_putBack_l105
    have em : (((L i).toNat : Nat) : Int) = L i := by omega
    refine iteT (by show 0 ≤ i ∧ i < t.1 9 0; omega) (iteT (by show t.2 9 i ≤ (((L i).toNat : Nat) : Int); rw [b14]; omega) ?_)
    rw [em]
  · unfold zfu; omega
/-- how far putting back has come -/
def zJk (R start i0 i hc : Int) (H HG P PG A B : Int → Int) : Prop := (hc = (if i < start then i else start) - i0) ∧ (∀ k c, 0 ≤ k → k < hc → 0 ≤ c → c < 24 → H (24 * k + c) = A (24 * (i0 + k) + c)) ∧ (∀ k, 0 ≤ k → k < hc → HG k = B (i0 + k)) ∧ (∀ k c, 0 ≤ k → k < 12 → 0 ≤ c → c < 24 → P (24 * k + c) = if k < R ∧ start + k < i then A (24 * (start + k) + c) else 0) ∧ (∀ k, 0 ≤ k → k < 12 → PG k = if start + k < i ∧ k < R - 1 then B (start + k) else 0) ∧ (∀ j, HG j = 0 ∨ HG j = 1) ∧ ∀ j, PG j = 0 ∨ PG j = 1
theorem c_26 {u i0 : Int} {A B : Int → Int} (hb : zBk t R C o F S L G) (hq : zLq C u o F S L G A B) (hu : 0 ≤ u ∧ u ≤ 1248) (hR : 2 ≤ R ∧ R ≤ 12) (hC : 4 ≤ C ∧ C ≤ 24) (ho : o ≤ 480) (hs : 0 ≤ start ∧ start < o) (hi0 : 0 ≤ i0 ∧ i0 ≤ start ∧ start - i0 ≤ 40) (hi : i0 ≤ i ∧ i < o) (h : zJk R start i0 i hc H HG P PG A B) :
    ∃ hc' H' HG' P' PG', f_Ma_putBack_l26 R start (i, zTb t hc H HG P PG) = some (.inl (i + 1, zTb t hc' H' HG' P' PG')) ∧ zJk R start i0 (i + 1) hc' H' HG' P' PG' A B := by
  have hb' := hb
  obtain ⟨⟨b1, b2, b3, b4⟩, ⟨b5, b6, b7, b8⟩, b9, ⟨b10, b11⟩, b12, b13, b14, b15⟩ := hb
  obtain ⟨j1, j2, j3, j4, j5, j6, j7⟩ := h
  obtain ⟨⟨q1, q1'⟩, q2, q3, ⟨q4, q5⟩, q6⟩ := hq i (by omega) hi.2
  have ew : w32 (i + 1) = i + 1 := w32i (by omega) (by omega)
  have eG : ∀ z : Int, (zTb t hc H HG P PG).2 10 z = G z := fun z => by rw [show (zTb t hc H HG P PG).2 10 = G from b15]
  by_cases q : start ≤ i
  · -- into the picture
    have ek : w32 (i - start) = i - start := w32i (by omega) (by omega)
    have eR : w32 (R - 1) = R - 1 := w32i (by omega) (by omega)
    obtain ⟨v, hv⟩ : ∃ v, v = (if G i = 0 then (0 : Int) else if R - 1 ≤ i - start then 0 else 1) := ⟨_, rfl⟩
    have hv01 : v = 0 ∨ v = 1 := by rw [hv]; split; exact Or.inl rfl; split; exact Or.inl rfl; exact Or.inr rfl
    obtain ⟨PG', hPG'⟩ : ∃ g, g = (if i - start < 12 then zup PG (i - start) v else PG) := ⟨_, rfl⟩
    have hb01 : ∀ j, PG' j = 0 ∨ PG' j = 1 := by
      intro j
      rw [hPG']
      split
      · unfold zup
        split
        · exact hv01
        · exact j7 j
      · exact j7 j
    have e1 : ∃ x, f_Pi_setGoing (i - start) v (zsb (zsh 1) (zTb t hc H HG P PG)) = some (0, x) ∧ zpb (zsh 1) 3 (zTb t hc H HG P PG) x = zTb t hc H HG P PG' := by
      unfold f_Pi_setGoing
      by_cases z : i - start < 12
      · refine ⟨_, iteF (by omega) (iteF (by omega) (iteT ⟨⟨by omega, by show i - start < t.1 3 0; omega⟩, hv01⟩ rfl)), ?_⟩
        rw [zpb_uE _ _ _ _ _ _ (by omega), hPG', if_pos z]
        exact zTb_g _ _
      · refine ⟨_, iteF (by omega) (iteT (by omega) rfl), ?_⟩
        rw [zpb_same, hPG', if_neg z]
    obtain ⟨x, x1, x2⟩ := e1
    have e2 := c_105p (hc := hc) (H := H) (HG := HG) (P := P) (PG := PG') hb' (i := i) (start := start) ⟨by omega, q, by omega⟩ hs.1 hR hC hb01 ⟨q1.1, q1.2⟩ ⟨q1'.1, by omega⟩
    refine ⟨hc, H, HG, (if i - start < R then zRw P (24 * (i - start)) F (S i) (L i) else P), PG', ?_, ?_, j2, j3, ?_, ?_, j6, hb01⟩
    · unfold f_Ma_putBack_l26
      refine iteF (by show ¬ t.1 0 8 ≤ i; omega) (iteF (by show ¬ (512 : Int) ≤ i; omega) (iteT q (iteT (by show 0 ≤ i ∧ i < t.1 10 0; omega) ?_)))
      dsimp only
      rw [ek, eR, eG, ← hv]
      refine bindS x1 ?_
      dsimp only
      rw [x2]
      refine bindS e2 ?_
      rw [ew]
    · rw [if_neg (by omega)] at j1
      rw [if_neg (by omega)]
      exact j1
    · intro k c a b d e
      have := j4 k c a b d e
      by_cases z : i - start < R
      · rw [if_pos z]
        unfold zRw
        by_cases y : k = i - start
        · rw [if_pos (show k < R ∧ start + k < i + 1 by omega)]
          by_cases y2 : c < L i
          · rw [if_pos (by omega), show S i + (24 * k + c - 24 * (i - start)) = S i + c by omega, q2 c d y2, show start + k = i by omega]
          · rw [if_neg (by omega), this, if_neg (by omega), show start + k = i by omega, q3 c (by omega) e]
        · rw [if_neg (by omega), this]
          by_cases y3 : k < R ∧ start + k < i
          · rw [if_pos y3, if_pos (by omega)]
          · rw [if_neg y3, if_neg (by omega)]
      · rw [if_neg z, this]
        by_cases y3 : k < R ∧ start + k < i
        · rw [if_pos y3, if_pos (by omega)]
        · rw [if_neg y3, if_neg (by omega)]
    · intro k a b
      have := j5 k a b
      rw [hPG']
      by_cases y : k = i - start
      · rw [if_pos (by omega)]
        unfold zup
        rw [if_pos y, hv, q4, show start + k = i by omega]
        rcases q5 with y2 | y2
        · rw [y2, if_pos rfl]
          split <;> rfl
        · rw [y2, if_neg (by decide)]
          by_cases y3 : R - 1 ≤ i - start
          · rw [if_pos y3, if_neg (by omega)]
          · rw [if_neg y3, if_pos (by omega)]
      · have hz : (if i - start < 12 then zup PG (i - start) v else PG) k = PG k := by
          split
          · unfold zup; rw [if_neg y]
          · rfl
        rw [hz, this]
        by_cases y3 : start + k < i ∧ k < R - 1
        · rw [if_pos y3, if_pos (by omega)]
        · rw [if_neg y3, if_neg (by omega)]
  · -- into the history
    have hcv : hc = i - i0 := by rw [if_pos (by omega)] at j1; exact j1
    have hG01 : G i = 0 ∨ G i = 1 := by rw [q4]; exact q5
    have e1 : f_Hi_add (G i) (zsb (zsh 4) (zTb t hc H HG P PG)) = some (0, uS (uB (zsb (zsh 4) (zTb t hc H HG P PG)) (zFl H (24 * hc) (24 * hc + 24) 0) (zup HG hc (G i))) 0 2 (hc + 1)) := by
      unfold f_Hi_add
      exact iteT (by show hc < 40; omega) (c_Hi_j60 (p := zsb (zsh 4) (zTb t hc H HG P PG)) b7 b8 (by show 0 ≤ hc ∧ hc < 40; omega) hG01)
    have e2 : zpb (zsh 4) 3 (zTb t hc H HG P PG) (uS (uB (zsb (zsh 4) (zTb t hc H HG P PG)) (zFl H (24 * hc) (24 * hc + 24) 0) (zup HG hc (G i))) 0 2 (hc + 1)) = zTb t (hc + 1) (zFl H (24 * hc) (24 * hc + 24) 0) (zup HG hc (G i)) P PG := by
      unfold uB
      rw [zpb_uS _ _ _ _ _ _ _ (by omega), zpb_uA _ _ _ _ _ _ (by omega), zpb_uA _ _ _ _ _ _ (by omega), zpb_same]
      refine zTb_ext (fun i k => ?_) (fun i => ?_)
      · simp only [uS1, uA1, zTb_1]
        grind
      · simp only [uS2, uA2, zTb_2]
        grind
    have e3 := c_105h (hc := hc + 1) (H := zFl H (24 * hc) (24 * hc + 24) 0) (HG := zup HG hc (G i)) (P := P) (PG := PG) hb' (i := i) (start := start) ⟨by omega, by omega, by omega⟩ (by omega) (by omega) ⟨q1.1, by omega⟩ ⟨q1'.1, by omega⟩
    refine ⟨hc + 1, zRw (zFl H (24 * hc) (24 * hc + 24) 0) (24 * (hc + 1 - 1)) F (S i) (L i), zup HG hc (G i), P, PG, ?_, ?_, ?_, ?_, ?_, ?_, ?_, j7⟩
    · unfold f_Ma_putBack_l26
      refine iteF (by show ¬ t.1 0 8 ≤ i; omega) (iteF (by show ¬ (512 : Int) ≤ i; omega) (iteF q (iteT (by show 0 ≤ i ∧ i < t.1 10 0; omega) ?_)))
      dsimp only
      rw [eG]
      refine bindS e1 ?_
      dsimp only
      rw [e2]
      refine bindS e3 ?_
      rw [ew]
    · by_cases z : i + 1 < start
      · rw [if_pos z]; omega
      · rw [if_neg z]; omega
    · intro k c a b d e
      unfold zRw zFl
      by_cases y : k = hc
      · by_cases y2 : c < L i
        · rw [if_pos (by omega), show S i + (24 * k + c - 24 * (hc + 1 - 1)) = S i + c by omega, q2 c d y2, show i0 + k = i by omega]
        · rw [if_neg (by omega), if_pos (by omega), show i0 + k = i by omega, q3 c (by omega) e]
      · rw [if_neg (by omega), if_neg (by omega)]
        exact j2 k c a (by omega) d e
    · intro k a b
      unfold zup
      by_cases y : k = hc
      · rw [if_pos y, q4, show i0 + k = i by omega]
      · rw [if_neg y]
        exact j3 k a (by omega)
    · intro k c a b d e
      rw [j4 k c a b d e, if_neg (by omega), if_neg (by omega)]
    · intro k a b
      rw [j5 k a b, if_neg (by omega), if_neg (by omega)]
    · intro j
      unfold zup
      split
      · exact hG01
      · exact j6 j
end ZBK
theorem P_putBack {p : zSt} {u o a b R w start : Int} {F S L G A B : Int → Int} (hp : zPW (zsb (zsh 1) p)) (hh : zHW (zsb (zsh 4) p)) (hm : zMz p) (hq : zLq w u o F S L G A B) (hu : 0 ≤ u ∧ u ≤ 1248) (hR : 2 ≤ R ∧ R ≤ 12) (hw : 4 ≤ w ∧ w ≤ 24) (ho : o ≤ 480) (hs : 0 ≤ start ∧ start < o) :
    ∃ hc H HG P PG, f_Ma_putBack R w start (zTm p u o a b 0 F S L G) = some (0, zTb (uS (uS (zTm p u o a b 0 F S L G) 1 2 R) 1 3 w) hc H HG P PG) ∧ zJk R start (if start - 40 < 0 then 0 else start - 40) o hc H HG P PG A B := by
  obtain ⟨i0, hi0⟩ : ∃ z, z = (if start - 40 < 0 then (0 : Int) else start - 40) := ⟨_, rfl⟩
  have hi0' : 0 ≤ i0 ∧ i0 ≤ start ∧ start - i0 ≤ 40 := by rw [hi0]; split <;> omega
  obtain ⟨t, ht⟩ : ∃ t, t = uS (uS (zTm p u o a b 0 F S L G) 1 2 R) 1 3 w := ⟨_, rfl⟩
  have hb : zBk t R w o F S L G := by
    rw [ht]
    exact ⟨⟨hm.2.2.1, hm.2.1, hm.1, hm.2.2.2⟩, ⟨hp.1, hp.2.1, hh.1, hh.2.1⟩, rfl, ⟨rfl, rfl⟩, rfl, rfl, rfl, rfl⟩
  have h0 : zJk R start i0 i0 0 (p.2 5) (p.2 6) (zFl (p.2 2) 0 288 0) (zFl (p.2 3) 0 12 0) A B := by
    refine ⟨?_, fun k c x y => by omega, fun k x y => by omega, fun k c x y z v => ?_, fun k x y => ?_, hh.2.2.2, fun j => ?_⟩
    · split <;> omega
    · unfold zFl
      rw [if_pos (by omega), if_neg (by omega)]
    · unfold zFl
      rw [if_pos (by omega), if_neg (by omega)]
    · unfold zFl
      split
      · exact Or.inl rfl
      · exact hp.2.2.2.2 j
  have hz := zH_loop (step := f_Ma_putBack_l26 R start) (Q := fun s => ∃ hc H HG P PG, s = zTb t hc H HG P PG ∧ zJk R start i0 o hc H HG P PG A B)
    (fun X => ∃ hc H HG P PG, X = (X.1, zTb t hc H HG P PG) ∧ (i0 ≤ X.1 ∧ X.1 ≤ o) ∧ zJk R start i0 X.1 hc H HG P PG A B) (fun X => (o - X.1).toNat) (fun X hX => ?_) (n := zfu) (x := (i0, zTb t 0 (p.2 5) (p.2 6) (zFl (p.2 2) 0 288 0) (zFl (p.2 3) 0 12 0))) ⟨_, _, _, _, _, rfl, ⟨Int.le_refl _, by omega⟩, h0⟩ (by show (o - i0).toNat < zfu; unfold zfu; omega)
  · obtain ⟨s, e1, hc, H, HG, P, PG, rfl, e2⟩ := hz
    refine ⟨hc, H, HG, P, PG, ?_, by rw [← hi0]; exact e2⟩
    rw [← ht]
    have c1 : f_Hi_clear (zsb (zsh 4) (zTm p u o a b 0 F S L G)) = some (0, uS (zsb (zsh 4) (zTm p u o a b 0 F S L G)) 0 2 0) := rfl
    have z1 : zpb (zsh 4) 3 (zTm p u o a b 0 F S L G) (uS (zsb (zsh 4) (zTm p u o a b 0 F S L G)) 0 2 0) = uS (zTm p u o a b 0 F S L G) 4 2 0 := by
      rw [zpb_uS _ _ _ _ _ _ _ (by omega), zpb_same]
    have c2 : f_Pi_begin R w (zsb (zsh 1) (uS (zTm p u o a b 0 F S L G) 4 2 0)) = some (0, uS (uS (uB (zsb (zsh 1) (uS (zTm p u o a b 0 F S L G) 4 2 0)) (zFl (p.2 2) 0 288 0) (zFl (p.2 3) 0 12 0)) 0 2 R) 0 3 w) := by
      unfold f_Pi_begin
      exact bindS (c_Pi_clear (p := zsb (zsh 1) (uS (zTm p u o a b 0 F S L G) 4 2 0)) hp) rfl
    have z2 : zpb (zsh 1) 3 (uS (zTm p u o a b 0 F S L G) 4 2 0) (uS (uS (uB (zsb (zsh 1) (uS (zTm p u o a b 0 F S L G) 4 2 0)) (zFl (p.2 2) 0 288 0) (zFl (p.2 3) 0 12 0)) 0 2 R) 0 3 w) = zTb t 0 (p.2 5) (p.2 6) (zFl (p.2 2) 0 288 0) (zFl (p.2 3) 0 12 0) := by
      unfold uB
      rw [zpb_uS _ _ _ _ _ _ _ (by omega), zpb_uS _ _ _ _ _ _ _ (by omega), zpb_uA _ _ _ _ _ _ (by omega), zpb_uA _ _ _ _ _ _ (by omega), zpb_same, ht]
      refine zTb_ext (fun i k => ?_) (fun i => ?_)
      · simp only [uS1, uA1]
        grind
      · simp only [uS2, uA2, zTm_2]
        grind
    unfold f_Ma_putBack
    refine bindS c1 ?_
    dsimp only
    rw [z1]
    refine bindS c2 ?_
    dsimp only
    rw [z2, w32i (by omega) (by omega), ← hi0]
    exact bindS e1 rfl
  · obtain ⟨i, X2⟩ := X
    obtain ⟨hc, H, HG, P, PG, hX1, hX2, hX3⟩ := hX
    dsimp only at hX1 hX2 hX3
    obtain rfl : X2 = zTb t hc H HG P PG := (Prod.mk.inj hX1).2
    by_cases q : o ≤ i
    · have eo : i = o := by omega
      refine ⟨.inr (zTb t hc H HG P PG), ?_, hc, H, HG, P, PG, rfl, by rw [← eo]; exact hX3⟩
      unfold f_Ma_putBack_l26
      exact iteT (by show t.1 0 8 ≤ i; rw [hb.2.2.1]; exact q) rfl
    · obtain ⟨hc', H', HG', P', PG', e1, e2⟩ := c_26 hb hq hu hR hw ho hs hi0' ⟨hX2.1, by omega⟩ hX3
      refine ⟨_, e1, ⟨hc', H', HG', P', PG', rfl, ⟨by show i0 ≤ i + 1; omega, by show i + 1 ≤ o; omega⟩, e2⟩, ?_⟩
      show (o - (i + 1)).toNat < (o - i).toNat
      omega
