/-! ===== how many rows are laid ===== -/
theorem zTr_id (r : zSt) : zTr r (r.2 14) (r.2 15) = r := by
  refine zst_ext (fun _ _ => rfl) (fun i => ?_)
  simp only [zTr, uA2]
  grind
def zkr (r : zSt) (c : Int) : Nat → Int
  | 0 => 0
  | k + 1 => if (k : Int) ≤ c then (k : Int) + 1 else if zfl (zC r (r.1 0 7 + k)) (r.1 0 2).toNat = 0 then zkr r c k else (k : Int) + 1
theorem zkr_in (r : zSt) {c : Int} (hc : 0 ≤ c) : ∀ k : Nat, (0 ≤ zkr r c k ∧ zkr r c k ≤ k) ∧ (c < k → c < zkr r c k)
  | 0 => ⟨by simp [zkr], fun q => by omega⟩
  | k + 1 => by
    obtain ⟨h1, h2⟩ := zkr_in r hc k
    unfold zkr
    by_cases q : (k : Int) ≤ c
    · rw [if_pos q]; exact ⟨by omega, fun z => by omega⟩
    · rw [if_neg q]
      by_cases q2 : zfl (zC r (r.1 0 7 + k)) (r.1 0 2).toNat = 0
      · rw [if_pos q2]; exact ⟨by omega, fun z => by have := h2 (by omega); omega⟩
      · rw [if_neg q2]; exact ⟨by omega, fun z => by omega⟩
theorem c_keptR {r : zSt} (hr : zNr r) {cr0 cc w : Int} (hcr0 : 0 ≤ cr0 ∧ cr0 < 12) : ∀ (k n : Nat), k < n → k ≤ 12 → zloop (f_Rf_lays_l11 cr0 cc w) n (r.1 0 7 + (k : Int), r) = some (r.1 0 7 + zkr r cr0 k, r) := by
  have hpp := hr.2.2.2.1
  have hn := hr.2.2.1
  have e0 : w32 (w32 (r.1 0 7 + cr0) + 1) = r.1 0 7 + cr0 + 1 := by rw [w32i (x := r.1 0 7 + cr0) (by omega) (by omega), w32i (by omega) (by omega)]
  intro k
  induction k with
  | zero =>
    intro n hn _
    obtain ⟨m, rfl⟩ : ∃ m, n = m + 1 := ⟨n - 1, by omega⟩
    unfold zloop f_Rf_lays_l11
    dsimp only
    rw [e0, if_pos (by omega)]
    rfl
  | succ k ih =>
    intro n hn h12
    obtain ⟨m, rfl⟩ : ∃ m, n = m + 1 := ⟨n - 1, by omega⟩
    unfold zloop f_Rf_lays_l11
    dsimp only
    rw [e0]
    unfold zkr
    by_cases q : (k : Int) ≤ cr0
    · rw [if_pos (by omega), if_pos q]
      simp only [Option.bind_some]
      congr 2
    · rw [if_neg (by omega), if_neg q]
      have e1 : w32 (r.1 0 7 + ((k + 1 : Nat) : Int) - 1) = r.1 0 7 + k := by rw [w32i (by omega) (by omega)]; omega
      have e2 : w32 (r.1 0 7 + ((k + 1 : Nat) : Int) + (-1)) = r.1 0 7 + k := by rw [w32i (by omega) (by omega)]; omega
      have ef := c_fullOf hr (r.2 14) (r.2 15) (a := r.1 0 7 + k) ⟨by omega, by omega⟩
      rw [zTr_id] at ef
      rw [e1, e2, ef]
      simp only [Option.bind_some]
      by_cases q2 : zfl (zC r (r.1 0 7 + k)) (r.1 0 2).toNat = 0
      · rw [if_neg (by simpa using q2), if_pos q2]
        exact ih m (by omega) (by omega)
      · rw [if_pos q2, if_neg q2]
        simp only [Option.bind_some]
        congr 2
theorem c_keptC {p r : zSt} (h : zMp p r) (hr : zNr r) {cr0 : Int} (hcr0 : 0 ≤ cr0 ∧ cr0 < 12) : ∀ (k n : Nat) (i : Int), k < n → i + k ≤ 12 → 0 ≤ i → zloop (f_Ma_keptRows_l12 cr0 p) n ((k : Int) - 1, i) = some (zkr r cr0 k - 1) := by
  have hpp := hr.2.2.2.1
  have hn := hr.2.2.1
  intro k
  induction k with
  | zero =>
    intro n i hn _ _
    obtain ⟨m, rfl⟩ : ∃ m, n = m + 1 := ⟨n - 1, by omega⟩
    unfold zloop f_Ma_keptRows_l12
    dsimp only
    by_cases q : 12 ≤ i
    · rw [if_pos q]; rfl
    · rw [if_neg q, if_pos (by omega)]; rfl
  | succ k ih =>
    intro n i hn h12 hi
    obtain ⟨m, rfl⟩ : ∃ m, n = m + 1 := ⟨n - 1, by omega⟩
    unfold zloop f_Ma_keptRows_l12
    dsimp only
    have e0 : ((k + 1 : Nat) : Int) - 1 = k := by omega
    rw [if_neg (by omega), e0]
    unfold zkr
    by_cases q : (k : Int) ≤ cr0
    · rw [if_pos q, if_pos q]
      simp only [Option.bind_some]
      congr 1
      omega
    · rw [if_neg q, if_neg q]
      have ef := c_filled h.1 (a := (k : Int)) ⟨by omega, by omega⟩
      have ec : ((zsb (zsh 1) p).1 0 3).toNat = (r.1 0 2).toNat := congrArg Int.toNat h.2.2.2.1.2.1
      have eg : zfl (fun c => (zsb (zsh 1) p).2 1 ((k : Int) * 24 + c)) (r.1 0 2).toNat = zfl (zC r (r.1 0 7 + k)) (r.1 0 2).toNat := by
        refine zfl_cg _ (fun c a b => ?_)
        show p.2 2 ((k : Int) * 24 + c) = _
        unfold zC
        rw [if_pos (by omega), h.2.2.2.2.1 _ (by omega) (by omega), show 24 * (r.1 0 7 + (k : Int) - r.1 0 7) + (c : Int) = (k : Int) * 24 + c by omega]
      rw [ec, eg] at ef
      rw [ef]
      simp only [Option.bind_some]
      by_cases q2 : zfl (zC r (r.1 0 7 + k)) (r.1 0 2).toNat = 0
      · rw [if_neg (by simpa using q2), if_pos q2]
        simp only [Option.bind_some]
        rw [w32i (x := (k : Int) + -1) (by omega) (by omega), w32i (x := i + 1) (by omega) (by omega)]
        exact ih m (i + 1) (by omega) (by omega) (by omega)
      · rw [if_pos q2, if_neg q2]
        simp only [Option.bind_some]
        congr 1
        omega
/-- both, from the beginning to where all rows are laid -/
theorem P_lays {p r : zSt} {w cr0 cr cc : Int} (hp : zMp p r) (hr : zNr r) (hw : 4 ≤ w ∧ w ≤ 24) (hwfA : ∀ a, 0 ≤ a → a < r.1 0 7 + 12 → zRow (zC r a) (r.1 0 2))
    (hcr0 : 0 ≤ cr0 ∧ cr0 < r.1 0 1) (hcr : cr = r.1 0 7 + cr0) (hcc : 0 ≤ cc ∧ cc < r.1 0 2) (hcu : p.1 11 0 = cr0 ∧ p.1 11 1 = cc) (c2 c3 : Int) :
    ∃ N u o pl a b F S L G A B, f_Hi_count (zsb (zsh 4) (uS (uS (uS (uS p 0 6 w) 0 7 0) 0 8 0) 0 11 0)) = some (r.1 0 7) ∧ f_Ma_keptRows cr0 (zsb (zsh 0) (uS (uS (uS (uS p 0 6 w) 0 7 0) 0 8 0) 0 11 0)) = some (N - r.1 0 7) ∧ w32 (r.1 0 7 + (N - r.1 0 7)) = N ∧
      zloop (f_Ma_wrap_l48 c2 c3 (r.1 0 7) N) zfu (0, 0, uS (uS (uS (uS p 0 6 w) 0 7 0) 0 8 0) 0 11 0) = some (zTm (uS p 0 6 w) u o a b 0 F S L G) ∧ f_Rf_lays cr0 cc w r = some (pl, uS (zTr r A B) 0 58 o) ∧
      zLq w u o F S L G A B ∧ (0 ≤ u ∧ u ≤ 1248) ∧ (1 ≤ o ∧ o ≤ 480) ∧ pl = 24 * a + b ∧ (0 ≤ a ∧ a < o) ∧ 0 ≤ b ∧ b < w := by
  have hpp := hr.2.2.2.1
  have hrr := hr.2.1
  obtain ⟨N, hN⟩ : ∃ N, N = r.1 0 7 + zkr r cr0 (r.1 0 1).toNat := ⟨_, rfl⟩
  obtain ⟨n1, n2⟩ := zkr_in r hcr0.1 (r.1 0 1).toNat
  have n3 := n2 (by omega)
  have e0 : uS (uS (uS (uS p 0 6 w) 0 7 0) 0 8 0) 0 11 0 = zTm (uS p 0 6 w) 0 0 (p.1 0 9) (p.1 0 10) 0 (p.2 7) (p.2 8) (p.2 9) (p.2 10) := by
    refine zTm_ext (fun i k => ?_) (fun i => ?_)
    · simp only [uS1]
      grind
    · show p.2 i = if i = 10 then p.2 10 else if i = 9 then p.2 9 else if i = 8 then p.2 8 else if i = 7 then p.2 7 else p.2 i
      grind
  have hp6 : zMp (uS p 0 6 w) r := hp.rz (by decide)
  have hpT := hp6.tm 0 0 (p.1 0 9) (p.1 0 10) 0 (p.2 7) (p.2 8) (p.2 9) (p.2 10)
  rw [← e0] at hpT
  have hA : zA0 (uS p 0 6 w) r w cr 0 (0, 0, uS (uS (uS (uS p 0 6 w) 0 7 0) 0 8 0) 0 11 0) (-1, 0, 0, r) := by
    refine ⟨0, 0, -1, p.1 0 9, p.1 0 10, p.2 7, p.2 8, p.2 9, p.2 10, r.2 14, r.2 15, by rw [e0], by rw [zTr_id], by omega, fun i a b => by omega, by omega, by omega, fun q => by omega⟩
  obtain ⟨ih, -⟩ := P_all (N := N) hp6 hr (w := w) rfl hw hwfA (by omega) ⟨hcr0.1, by omega⟩ hcr hcc hcu c2 c3 N.toNat 0 (by omega) (by omega)
  obtain ⟨U, V, a1, a2, X, Y, ⟨u, o, pl, a, b, F, S, L, G, A, B, rfl, rfl, g1, g2, g3, g4, g5⟩, rfl, rfl⟩ := ih zfu zfu _ _ (by unfold zfu; omega) (by unfold zfu; omega) hA
  obtain ⟨g6, g7, g8⟩ := g5 (by omega)
  have hk := c_keptR hr (cc := cc) (w := w) (cr0 := cr0) ⟨hcr0.1, by omega⟩ (r.1 0 1).toNat zfu (by unfold zfu; omega) (by omega)
  rw [← hN, show r.1 0 7 + (((r.1 0 1).toNat : Nat) : Int) = w32 (r.1 0 7 + r.1 0 1) by rw [w32i (by omega) (by omega)]; omega] at hk
  refine ⟨N, u, o, pl, a, b, F, S, L, G, A, B, congrArg some hp.2.2.2.1.2.2, ?_, by rw [w32i (by omega) (by omega)]; omega, a1, ?_, g2, by omega, by omega, g6, g7, g8⟩
  · unfold f_Ma_keptRows
    refine bindS (x := r.1 0 1) (congrArg some hp.2.2.2.1.1) ?_
    have := c_keptC hpT hr (cr0 := cr0) ⟨hcr0.1, by omega⟩ (r.1 0 1).toNat zfu 0 (by unfold zfu; omega) (by omega) (by omega)
    rw [show (((r.1 0 1).toNat : Nat) : Int) - 1 = w32 (r.1 0 1 - 1) by rw [w32i (by omega) (by omega)]; omega] at this
    refine bindS this ?_
    rw [w32i (by omega) (by omega), hN]
    congr 1
    omega
  · unfold f_Rf_lays
    refine bindS hk ?_
    unfold f_Rf_lays_j41
    exact bindS a2 rfl
