/-! ===== tabs anew, resets ===== -/
def zft (n : Int) (c : Int) : Int := if n ≤ c then 0 else if c % 4 = 0 then 1 else 0
theorem c_firstTabs {s : zSt} (h26 : s.1 26 0 = 24) {a : Int} (ha : 0 ≤ a ∧ a ≤ 24) : f_Sc_setFirstTabs a s = some (0, uA s 26 (fun c => if a ≤ c ∧ c < 24 then zft (s.1 0 10) c else s.2 26 c)) := by
  unfold f_Sc_setFirstTabs
  rw [if_neg (by omega)]
  have hl := zloop_up (step := f_Sc_setFirstTabs_l6) (r := uA s 26 (fun c => if a ≤ c ∧ c < 24 then zft (s.1 0 10) c else s.2 26 c)) (24 - a).toNat (n := zfu) (fun j => (a + j, uA s 26 (fun c => if a ≤ c ∧ c < a + (j : Int) then zft (s.1 0 10) c else s.2 26 c))) (fun j hj => ?_) ?_ ?_
  · refine bindS (x := uA s 26 (fun c => if a ≤ c ∧ c < 24 then zft (s.1 0 10) c else s.2 26 c)) ?_ rfl
    rw [← hl]
    simp only [Int.natCast_zero, Int.add_zero]
    rw [show (fun c => if a ≤ c ∧ c < a then zft (s.1 0 10) c else s.2 26 c) = s.2 26 from funext fun c => if_neg (by omega), uA_id]
  · unfold f_Sc_setFirstTabs_l6
    refine iteF (by show ¬ (24 : Int) ≤ a + j; omega) (iteT (by show (0 : Int) ≤ a + j ∧ a + (j : Int) < s.1 26 0; omega) ?_)
    refine stepE (by show w32 (a + (j : Int) + 1) = _; rw [w32i] <;> omega) (fun i => ?_)
    show zup _ _ (if s.1 0 10 ≤ a + (j : Int) then 0 else if ¬ wRem (a + (j : Int)) 4 = 0 then 0 else 1) i = _
    rw [wRem_e (by omega) (by decide)]
    unfold zup zft
    grind
  · unfold f_Sc_setFirstTabs_l6
    refine iteT (by show 24 ≤ a + (((24 - a).toNat : Nat) : Int); omega) ?_
    show some (Sum.inr (uA s 26 _)) = _
    rw [show a + (((24 - a).toNat : Nat) : Int) = 24 by omega]
  · unfold zfu; omega
theorem wOr_0 {x : Int} (hx : 0 ≤ x ∧ x < 16777216) : wOr x 0 = x := by
  rw [wOr_n (by omega) (by decide)]
  simp only [Int.toNat_zero, Nat.or_zero]
  omega
def zlayt (a : Int) (x : Int) : Nat → Int
  | 0 => x
  | k + 1 => wOr (zlayt a x k) (if ¬ wRem (a + k) 4 = 0 then 0 else wShl 1 (a + k))
theorem zlayt_spec {a x : Int} (ha : 0 ≤ a) (hx : 0 ≤ x ∧ x < 16777216) : ∀ k : Nat, a + k ≤ 24 → (0 ≤ zlayt a x k ∧ zlayt a x k < 16777216) ∧ ∀ c, 0 ≤ c → c < 24 → zbit (zlayt a x k) c = if a ≤ c ∧ c < a + k ∧ c % 4 = 0 then 1 else zbit x c
  | 0, _ => ⟨hx, fun c _ _ => by rw [if_neg (by omega)]; rfl⟩
  | k + 1, hk => by
    obtain ⟨h1, h2⟩ := zlayt_spec ha hx k (by omega)
    have er := wRem_e (x := a + (k : Int)) (y := 4) (by omega) (by decide)
    unfold zlayt
    rw [er]
    by_cases q : (a + (k : Int)) % 4 = 0
    · rw [if_neg (by simpa using q)]
      refine ⟨(zbit_or h1 (by omega) (d := 0) (by decide)).2, fun c c0 c1 => ?_⟩
      rw [(zbit_or h1 (by omega) ⟨c0, c1⟩).1, h2 c c0 c1]
      clear h1 h2 er
      grind
    · rw [if_pos q, wOr_0 h1]
      refine ⟨h1, fun c c0 c1 => ?_⟩
      rw [h2 c c0 c1]
      clear h1 h2 er
      grind
theorem c_laysTabs {r : zSt} {a : Int} (ha : 0 ≤ a ∧ a ≤ r.1 0 2) (hn : r.1 0 2 ≤ 24) (hx : 0 ≤ r.1 0 15 ∧ r.1 0 15 < 16777216) : ∃ x, f_Rf_laysTabs a r = some (0, uS r 0 15 x) ∧ (0 ≤ x ∧ x < 16777216) ∧ ∀ c, 0 ≤ c → c < 24 → zbit x c = if a ≤ c ∧ c < r.1 0 2 ∧ c % 4 = 0 then 1 else zbit (r.1 0 15) c := by
  obtain ⟨x, e⟩ : ∃ x, x = zlayt a (r.1 0 15) (r.1 0 2 - a).toNat := ⟨_, rfl⟩
  have hs := zlayt_spec ha.1 hx (r.1 0 2 - a).toNat (by omega)
  rw [← e] at hs
  refine ⟨x, ?_, hs.1, fun c c0 c1 => ?_⟩
  · unfold f_Rf_laysTabs
    have hl := zloop_up (step := f_Rf_laysTabs_l2) (r := uS r 0 15 x) (r.1 0 2 - a).toNat (n := zfu) (fun j => (a + j, uS r 0 15 (zlayt a (r.1 0 15) j))) (fun j hj => ?_) ?_ ?_
    · refine bindS (x := uS r 0 15 x) ?_ rfl
      rw [← hl]
      simp only [Int.natCast_zero, Int.add_zero]
      rw [show zlayt a (r.1 0 15) 0 = r.1 0 15 from rfl, uS_id]
    · unfold f_Rf_laysTabs_l2
      refine iteF (by show ¬ r.1 0 2 ≤ a + j; omega) ?_
      show some (Sum.inl (w32 (a + (j : Int) + 1), uS (uS r 0 15 _) 0 15 (zlayt a (r.1 0 15) (j + 1)))) = _
      rw [uS_uS, w32i (by omega) (by omega), Int.natCast_add, Int.add_assoc]
      rfl
    · unfold f_Rf_laysTabs_l2
      refine iteT (by show r.1 0 2 ≤ a + (((r.1 0 2 - a).toNat : Nat) : Int); omega) ?_
      rw [e]
    · unfold zfu; omega
  · rw [hs.2 c c0 c1, show a + (((r.1 0 2 - a).toNat : Nat) : Int) = r.1 0 2 by omega]
theorem zbit_0 (c : Int) : zbit 0 c = 0 := by
  rw [zbit_n (by decide)]
  simp
/-- both lay their first tabs -/
theorem S_firstTabs {s r : zSt} (h : zRel s r) : ∃ r1, f_Sc_setFirstTabs 0 s = some (0, uA s 26 (fun c => if 0 ≤ c ∧ c < 24 then zft (s.1 0 10) c else s.2 26 c)) ∧ f_Rf_laysTabs 0 (uS r 0 15 0) = some (0, r1) ∧ zRel (uA s 26 (fun c => if 0 ≤ c ∧ c < 24 then zft (s.1 0 10) c else s.2 26 c)) r1 ∧ ∃ x, r1 = uS r 0 15 x := by
  have z := h.size
  have h26 : s.1 26 0 = 24 := h.1.2.1.2.2.2.2.2.2
  obtain ⟨d1, d2, d3, d4, d5, d6⟩ := h.zz
  have e1 := c_firstTabs h26 (a := 0) (by decide)
  obtain ⟨x, e2, e3, e4⟩ := c_laysTabs (r := uS r 0 15 0) (a := 0) (by show 0 ≤ 0 ∧ 0 ≤ r.1 0 2; omega) z.2.2 (by decide : (0 : Int) ≤ 0 ∧ (0 : Int) < 16777216)
  rw [uS_uS] at e2
  refine ⟨_, e1, e2, h.tab (fun i => ?_) e3 (fun c a b => ?_) (fun c a b => ?_), x, rfl⟩
  · have := h.tb.1 i
    unfold zft
    clear e1 e2 e3 e4
    grind
  · rw [e4 c a b]
    show (if 0 ≤ c ∧ c < 24 then zft (s.1 0 10) c else s.2 26 c) = (if 0 ≤ c ∧ c < r.1 0 2 ∧ c % 4 = 0 then 1 else zbit 0 c)
    rw [zbit_0, d3]
    unfold zft
    clear e1 e2 e3 e4
    grind
  · unfold zft
    rw [d3, if_pos (by omega), if_pos a]
theorem c_cuReset {s : zSt} {a : Nat} : f_Cu_reset (zsb (zsh a) s) = some (0, uC (zsb (zsh a) s) 0 0 0 0 0 0) := rfl
theorem zpb_uC (s : zSt) (a : Nat) (x0 x1 x2 x3 x4 : Int) : zpb (zsh a) 1 s (uC (zsb (zsh a) s) 0 x0 x1 x2 x3 x4) = uC s a x0 x1 x2 x3 x4 := by
  unfold uC
  rw [zpb_uS _ _ _ _ _ _ _ (by omega), zpb_uS _ _ _ _ _ _ _ (by omega), zpb_uS _ _ _ _ _ _ _ (by omega), zpb_uS _ _ _ _ _ _ _ (by omega), zpb_uS _ _ _ _ _ _ _ (by omega), zpb_same, Nat.zero_add]
/-- nothing is saved any more -/
theorem zRel.unsaved {s r : zSt} (h : zRel s r) (hsh : r.1 0 8 = 0) : zRel (uC s 25 0 0 0 0 0) (uS r 0 23 0) := by
  obtain ⟨hL, ⟨hZ, hg, hs, hm, hv, hr, hk, hh⟩, p0, p1, xh, xu, xm, xv, xz, xt, xr⟩ := h
  exact ⟨hL, ⟨hZ, hg, hs, hm, ⟨Or.inl rfl, fun q => absurd (hsh.symm.trans (show r.1 0 8 = 1 from q)) (by decide), fun q => absurd (show (0 : Int) = 1 from q) (by decide)⟩, hr, hk, hh⟩, p0, p1, xh, xu, xm, ⟨fun q => absurd (show (0 : Int) = 1 from q) (by decide), fun _ => ⟨rfl, rfl, rfl, rfl, rfl⟩⟩, xz, xt, xr⟩
