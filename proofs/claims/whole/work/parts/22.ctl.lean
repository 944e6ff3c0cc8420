/-! ===== controls, tabs, marks ===== -/
theorem zRI.late {r : zSt} (h : zRI r) {v : Int} (hv : v = 0 ∨ v = 1) : zRI (uS r 0 11 v) := by
  obtain ⟨hZ, hg, hs, hm, hv1, hr, hk, hh⟩ := h
  exact ⟨hZ, hg, ⟨hs.1, hs.2.1, hv, hs.2.2.2⟩, hm, hv1, hr, hk, hh⟩
theorem L_zstp (a : Int) (r : zSt) (v : Int) : zstp a (uS r 0 11 v) = uS (zstp a r) 0 11 v := by
  unfold zstp
  show (if a ≤ 0 then (if ¬ r.1 0 8 = 0 then uS r 0 11 v else if r.1 0 7 ≤ 0 then uS r 0 11 v else uE (uS r 0 11 v) 4 (r.1 0 7 - 1) 0) else uE (uS r 0 11 v) 2 (12 * r.1 0 8 + a - 1) 0) = _
  split
  · split
    · rfl
    · split
      · rfl
      · rfl
  · rfl
theorem L_zkp (r : zSt) (v : Int) : zkp (uS r 0 11 v) = uS (zkp r) 0 11 v := by
  unfold zkp
  show (if r.1 0 7 = 40 then uS (uA (uA (uS r 0 11 v) 3 (zHp (zHs (r.2 3)) 39 (r.2 1) 24)) 4 (zup (zHg (r.2 4)) 39 (r.2 2 0))) 0 7 40 else uS (uA (uA (uS r 0 11 v) 3 (zHp (r.2 3) (r.1 0 7) (r.2 1) 24)) 4 (zup (r.2 4) (r.1 0 7) (r.2 2 0))) 0 7 (r.1 0 7 + 1)) = _
  split
  · exact uS_comm (uA (uA r 3 _) 4 _) 0 11 0 7 v 40 (by decide)
  · exact uS_comm (uA (uA r 3 _) 4 _) 0 11 0 7 v _ (by decide)
theorem L_scrollsUp {r r1 : zSt} (hI : zRI r) {a b k v : Int} (hab : 0 ≤ a ∧ a ≤ b ∧ b < r.1 0 1) (hv : v = 0 ∨ v = 1) (h : f_Rf_scrollsUp a b k r = some (0, r1)) : f_Rf_scrollsUp a b k (uS r 0 11 v) = some (0, uS r1 0 11 v) := by
  rw [c_Rf_scrollsUp hI hab] at h
  have e := (Prod.mk.inj (Option.some.inj h)).2
  rw [c_Rf_scrollsUp (hI.late hv) hab, ← e]
  show some ((0 : Int), if (if k = 0 then (0 : Int) else if ¬ a = 0 then 0 else if ¬ r.1 0 8 = 0 then 0 else 1) = 0 then zstp a (uS (zup1 r a b) 0 11 v) else zup1 (zkp (uS r 0 11 v)) a b) = _
  by_cases q : (if k = 0 then (0 : Int) else if ¬ a = 0 then 0 else if ¬ r.1 0 8 = 0 then 0 else 1) = 0
  · rw [if_pos q, if_pos q, L_zstp]
  · rw [if_neg q, if_neg q, L_zkp]
    rfl
theorem L_scrollsDown {r r1 : zSt} (hI : zRI r) {a b v : Int} (hab : 0 ≤ a ∧ a ≤ b ∧ b < r.1 0 1) (hv : v = 0 ∨ v = 1) (h : f_Rf_scrollsDown a b r = some (0, r1)) : f_Rf_scrollsDown a b (uS r 0 11 v) = some (0, uS r1 0 11 v) := by
  rw [c_Rf_scrollsDown hI hab] at h
  have e := (Prod.mk.inj (Option.some.inj h)).2
  rw [c_Rf_scrollsDown (hI.late hv) hab, ← e]
  show some ((0 : Int), zstp a (uS (zdn1 r a b) 0 11 v)) = _
  rw [L_zstp]
theorem L_feeds {r r1 : zSt} (hI : zRI r) {v : Int} (hv : v = 0 ∨ v = 1) (h : f_Rf_feeds r = some (0, r1)) : f_Rf_feeds (uS r 0 11 v) = some (0, uS r1 0 11 v) := by
  unfold f_Rf_feeds at h ⊢
  show (if ¬ r.1 0 9 = r.1 0 14 then (if w32 (r.1 0 1 - 1) ≤ r.1 0 9 then some ((0 : Int), uS r 0 11 v) else some (0, uS (uS r 0 11 v) 0 9 (w32 (r.1 0 9 + 1)))) else (f_Rf_scrollsUp (r.1 0 13) (r.1 0 14) 1 (uS r 0 11 v)).bind fun x3 => some (0, x3.2)) = _
  by_cases q : r.1 0 9 = r.1 0 14
  · rw [if_neg (by simpa using q)] at h ⊢
    obtain ⟨x, e1, e2⟩ := zbind h
    obtain ⟨x1, x2⟩ := x
    have e3 : x2 = r1 := (Prod.mk.inj (Option.some.inj e2)).2
    have hreg := hI.2.2.1.2.2.2.2.1
    have ec := c_Rf_scrollsUp hI (a := r.1 0 13) (b := r.1 0 14) (k := 1) (by omega)
    rw [ec] at e1
    have e5 := (Prod.mk.inj (Option.some.inj e1))
    rw [e5.2, e3] at ec
    exact bindS (L_scrollsUp hI (by omega) hv ec) rfl
  · rw [if_pos q] at h ⊢
    by_cases q2 : w32 (r.1 0 1 - 1) ≤ r.1 0 9
    · rw [if_pos q2] at h ⊢
      rw [← (Prod.mk.inj (Option.some.inj h)).2]
    · rw [if_neg q2] at h ⊢
      rw [← (Prod.mk.inj (Option.some.inj h)).2, uS_comm r 0 11 0 9 v _ (by decide)]
theorem zlate_id (r : zSt) (v : Int) : uS (uS r 0 11 v) 0 11 (r.1 0 11) = r := by
  rw [uS_uS, uS_id]
theorem S_feed0 {s r : zSt} (h : zRel s r) : ∃ s1 r2, f_Sc_feed (uS s 12 2 0) = some (0, s1) ∧ f_Rf_feeds r = some (0, r2) ∧ zRel s1 (uS r2 0 11 0) ∧ zKp r r2 ∧ r2.1 0 2 = r.1 0 2 := by
  have h' := h.late (x := 0) (Or.inl rfl)
  obtain ⟨s1, r1, e1, e2, e3⟩ := S_feed h'
  have hl : r1.1 0 11 = 0 := e3.2.2.1 11 (by decide) (by decide)
  have k := L_feeds h'.2.1 (v := r.1 0 11) h.nums.2.2.1 e2
  rw [zlate_id] at k
  refine ⟨s1, _, e1, k, ?_, ?_, ?_⟩
  · rw [uS_uS]
    have e : uS r1 0 11 0 = r1 := by
      conv => rhs; rw [← uS_id r1 0 11, hl]
    rw [e]
    exact e3.1
  · exact (zKp.uS (by decide)).trans (e3.kp.trans (zKp.uS (by decide)))
  · exact e3.2.2.1 2 (by decide) (by decide)
theorem S_feedBack0 {s r : zSt} (h : zRel s r) : ∃ s1 r1, f_Sc_feedBack (uS s 12 2 0) = some (0, s1) ∧ zRel s1 r1 ∧ zKp r r1 ∧ (if ¬ r.1 0 9 = r.1 0 13 then some ((0 : Int), uS (uS r 0 9 (w32 (r.1 0 9 - (if r.1 0 9 ≤ 0 then 0 else 1)))) 0 11 0) else (f_Rf_scrollsDown (r.1 0 13) (r.1 0 14) r).bind fun x => some (0, uS x.2 0 11 0)) = some (0, r1) := by
  have h' := h.late (x := 0) (Or.inl rfl)
  obtain ⟨s1, r1, e1, e2, e3⟩ := S_feedBack h'
  have hl : r1.1 0 11 = 0 := e3.2.2.1 11 (by decide) (by decide)
  have hreg := h.nums.2.2.2.2.1
  refine ⟨s1, r1, e1, e3.1, (zKp.uS (by decide)).trans e3.kp, ?_⟩
  have e2' : (if ¬ r.1 0 9 = r.1 0 13 then some ((0 : Int), uS (uS r 0 11 0) 0 9 (w32 (r.1 0 9 - (if r.1 0 9 ≤ 0 then 0 else 1)))) else f_Rf_scrollsDown (r.1 0 13) (r.1 0 14) (uS r 0 11 0)) = some (0, r1) := e2
  by_cases q : r.1 0 9 = r.1 0 13
  · rw [if_neg (by simpa using q)] at e2' ⊢
    have k := L_scrollsDown h'.2.1 (v := r.1 0 11) (show 0 ≤ r.1 0 13 ∧ r.1 0 13 ≤ r.1 0 14 ∧ r.1 0 14 < r.1 0 1 by omega) h.nums.2.2.1 e2'
    rw [zlate_id] at k
    refine bindS k ?_
    show some ((0 : Int), uS (uS r1 0 11 (r.1 0 11)) 0 11 0) = _
    rw [uS_uS]
    have e : uS r1 0 11 0 = r1 := by
      conv => rhs; rw [← uS_id r1 0 11, hl]
    rw [e]
  · rw [if_pos q] at e2' ⊢
    rw [← e2', uS_comm r 0 9 0 11 _ _ (by decide)]
/-! tabs -/
def zntab (t : Int → Int) (n : Int) : Nat → Int → Int
  | 0, _ => -1
  | m + 1, c => if n ≤ c then -1 else if t c = 0 then zntab t n m (c + 1) else c
theorem zntab_spec (t : Int → Int) (n : Int) : ∀ (m : Nat) (c : Int), n - c ≤ m → (zntab t n m c = -1 ∧ ∀ d, c ≤ d → d < n → t d = 0) ∨ (c ≤ zntab t n m c ∧ zntab t n m c < n ∧ ¬ t (zntab t n m c) = 0 ∧ ∀ d, c ≤ d → d < zntab t n m c → t d = 0)
  | 0, c, h => Or.inl ⟨rfl, fun d a b => by omega⟩
  | m + 1, c, h => by
    unfold zntab
    by_cases q : n ≤ c
    · rw [if_pos q]
      exact Or.inl ⟨rfl, fun d a b => by omega⟩
    · rw [if_neg q]
      by_cases q2 : t c = 0
      · rw [if_pos q2]
        rcases zntab_spec t n m (c + 1) (by omega) with ⟨a1, a2⟩ | ⟨a1, a2, a3, a4⟩
        · refine Or.inl ⟨a1, fun d x y => ?_⟩
          by_cases e : d = c
          · rw [e]; exact q2
          · exact a2 d (by omega) y
        · refine Or.inr ⟨by omega, a2, a3, fun d x y => ?_⟩
          by_cases e : d = c
          · rw [e]; exact q2
          · exact a4 d (by omega) y
      · rw [if_neg q2]
        exact Or.inr ⟨Int.le_refl _, by omega, q2, fun d x y => by omega⟩
theorem c_Sc_nextTab {s : zSt} (h26 : s.1 26 0 = 24) (hn : 4 ≤ s.1 0 10 ∧ s.1 0 10 ≤ 24) (hc : 0 ≤ s.1 12 1 ∧ s.1 12 1 < 24) : f_Sc_nextTab s = some (zntab (s.2 26) (s.1 0 10) 30 (s.1 12 1 + 1)) := by
  unfold f_Sc_nextTab
  rw [w32i (by omega) (by omega)]
  have key : ∀ (m n : Nat) (c : Int), 0 ≤ c → c ≤ 24 → s.1 0 10 - c < m → m < n → zloop (f_Sc_nextTab_l10 s) n c = some (zntab (s.2 26) (s.1 0 10) m c) := by
    intro m
    induction m with
    | zero =>
      intro n c a b d e
      cases n with
      | zero => omega
      | succ n =>
        unfold zloop f_Sc_nextTab_l10
        rw [if_pos (by omega)]
        rfl
    | succ m ih =>
      intro n c a b d e
      cases n with
      | zero => omega
      | succ n =>
        unfold zloop f_Sc_nextTab_l10 zntab
        by_cases q : s.1 0 10 ≤ c
        · rw [if_pos q, if_pos q]
          rfl
        · rw [if_neg q, if_neg q, if_neg (by omega), if_neg (by omega), if_pos (by omega)]
          by_cases q2 : s.2 26 c = 0
          · rw [if_pos q2, if_pos q2, w32i (by omega) (by omega)]
            exact ih n (c + 1) (by omega) (by omega) (by omega) (by omega)
          · rw [if_neg q2, if_neg q2]
            rfl
  exact key 30 zfu _ (by omega) (by omega) (by omega) (by unfold zfu; omega)
theorem c_Rf_nextTab {r : zSt} (hn : 4 ≤ r.1 0 2 ∧ r.1 0 2 ≤ 24) (hc : 0 ≤ r.1 0 10 ∧ r.1 0 10 < r.1 0 2) (ht : 0 ≤ r.1 0 15 ∧ r.1 0 15 < 16777216) : f_Rf_nextTab r = some (zntab (zbit (r.1 0 15)) (r.1 0 2) 30 (r.1 0 10 + 1)) := by
  unfold f_Rf_nextTab
  rw [w32i (by omega) (by omega)]
  have hl := zH_loop (step := f_Rf_nextTab_l9 r) (Q := fun y => y = zntab (zbit (r.1 0 15)) (r.1 0 2) 30 (r.1 0 10 + 1)) (fun x => r.1 0 10 ≤ x.2 ∧ x.2 < r.1 0 2 ∧ ((x.1 = -1 ∧ ∀ d, x.2 < d → d < r.1 0 2 → zbit (r.1 0 15) d = 0) ∨ (x.2 < x.1 ∧ x.1 < r.1 0 2 ∧ zbit (r.1 0 15) x.1 = 1 ∧ ∀ d, x.2 < d → d < x.1 → zbit (r.1 0 15) d = 0))) (fun x => (x.2 - r.1 0 10).toNat) (fun x hx => ?_) (n := zfu) (x := (-1, r.1 0 2 - 1)) ?_ ?_
  · obtain ⟨y, hy, rfl⟩ := hl
    exact bindS hy rfl
  · obtain ⟨x1, x2⟩ := x
    obtain ⟨a1, a2, a3⟩ := hx
    simp only [] at a1 a2 a3
    unfold f_Rf_nextTab_l9
    by_cases q : x2 ≤ r.1 0 10
    · rw [if_pos (show (x1, x2).2 ≤ r.1 0 10 from q)]
      refine zH_some ?_
      show x1 = _
      have e : x2 = r.1 0 10 := by omega
      subst e
      rcases zntab_spec (zbit (r.1 0 15)) (r.1 0 2) 30 (r.1 0 10 + 1) (by omega) with ⟨b1, b2⟩ | ⟨b1, b2, b3, b4⟩
      · rcases a3 with ⟨c1, c2⟩ | ⟨c1, c2, c3, c4⟩
        · rw [b1, c1]
        · have := b2 x1 (by omega) c2
          omega
      · rcases a3 with ⟨c1, c2⟩ | ⟨c1, c2, c3, c4⟩
        · exact absurd (c2 _ (by omega) b2) b3
        · by_cases e1 : x1 < zntab (zbit (r.1 0 15)) (r.1 0 2) 30 (r.1 0 10 + 1)
          · have := b4 x1 (by omega) e1
            omega
          · by_cases e2 : zntab (zbit (r.1 0 15)) (r.1 0 2) 30 (r.1 0 10 + 1) < x1
            · exact absurd (c4 _ (by omega) e2) b3
            · omega
    · rw [if_neg (show ¬ (x1, x2).2 ≤ r.1 0 10 from q)]
      refine zH_some ?_
      have ew : w32 (x2 + -1) = x2 - 1 := by rw [w32i] <;> omega
      have eb : wAnd (wShr (r.1 0 15) x2) 1 = zbit (r.1 0 15) x2 := wBit ht (by omega)
      show (r.1 0 10 ≤ w32 (x2 + -1) ∧ w32 (x2 + -1) < r.1 0 2 ∧ (((if ¬ wAnd (wShr (r.1 0 15) x2) 1 = 1 then x1 else x2) = -1 ∧ _) ∨ _)) ∧ (w32 (x2 + -1) - r.1 0 10).toNat < (x2 - r.1 0 10).toNat
      simp only []
      rw [ew, eb]
      have h01 : zbit (r.1 0 15) x2 = 0 ∨ zbit (r.1 0 15) x2 = 1 := by
        rw [zbit_n ht.1]
        split
        · exact Or.inr rfl
        · exact Or.inl rfl
      refine ⟨⟨by omega, by omega, ?_⟩, by omega⟩
      rcases h01 with z | z
      · rw [if_pos (by omega)]
        rcases a3 with ⟨c1, c2⟩ | ⟨c1, c2, c3, c4⟩
        · refine Or.inl ⟨c1, fun d x y => ?_⟩
          by_cases e : d = x2
          · rw [e]; exact z
          · exact c2 d (by omega) y
        · refine Or.inr ⟨by omega, c2, c3, fun d x y => ?_⟩
          by_cases e : d = x2
          · rw [e]; exact z
          · exact c4 d (by omega) y
      · rw [if_neg (by omega)]
        exact Or.inr ⟨by omega, a2, z, fun d x y => by omega⟩
  · exact ⟨by show r.1 0 10 ≤ r.1 0 2 - 1; omega, by show r.1 0 2 - 1 < r.1 0 2; omega, Or.inl ⟨rfl, fun d a b => by have a' : r.1 0 2 - 1 < d := a; omega⟩⟩
  · show (r.1 0 2 - 1 - r.1 0 10).toNat < zfu
    unfold zfu
    omega
