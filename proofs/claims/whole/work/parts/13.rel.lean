/-! ===== the class's pictures beside the reference's ===== -/
def zRC (g h : Int → Int) (B : Int) : Prop := ∀ i, 0 ≤ i → i < 288 → g i = h (B + i)
def zOut (h h' : Int → Int) (B : Int) : Prop := ∀ i, i < B ∨ B + 288 ≤ i → h' i = h i
theorem zRC.pt {g h : Int → Int} {B r c n : Int} (H : zRC g h B) (hr : 0 ≤ r ∧ r < 12) (hc : 0 ≤ c) (hn : n ≤ 24) : zRC (zPt g (r * 24) c n) (zPt h (B + r * 24) c n) B := by
  intro i h1 h2
  have e1 := H i h1 h2
  have e2 := H (r * 24 + c)
  unfold zPt
  grind
theorem zRC.fl {g h : Int → Int} {B lo hi v : Int} (H : zRC g h B) : zRC (zFl g lo hi v) (zFl h (B + lo) (B + hi) v) B := by
  intro i h1 h2
  have e1 := H i h1 h2
  unfold zFl
  grind
theorem zRC.er {g h : Int → Int} {B r a b n : Int} (H : zRC g h B) (hr : 0 ≤ r ∧ r < 12) (ha : 0 ≤ a) (hb : 0 ≤ b) (hn : n ≤ 24) : zRC (zEr g (r * 24) a b n) (zEr h (B + r * 24) a b n) B := by
  unfold zEr
  have := ((H.pt (c := a) hr ha hn).pt (c := b) hr hb hn).fl (lo := r * 24 + a) (hi := r * 24 + b) (v := 0)
  rw [← Int.add_assoc, ← Int.add_assoc] at this
  exact this
theorem zRC.ins {g h : Int → Int} {B r a m n : Int} (H : zRC g h B) (hr : 0 ≤ r ∧ r < 12) (ha : 0 ≤ a ∧ a < n) (hm : 1 ≤ m ∧ m ≤ n - a) (hn : n ≤ 24) : zRC (zIn g (r * 24) a m n) (zIn h (B + r * 24) a m n) B := by
  have H2 := (H.pt (c := a) hr ha.1 hn).pt (c := n - m) hr (by omega) hn
  intro i h1 h2
  have e1 := H2 i h1 h2
  have e2 := H2 (i - m)
  unfold zIn
  generalize zPt (zPt g (r * 24) a n) (r * 24) (n - m) n = G at *
  generalize zPt (zPt h (B + r * 24) a n) (B + r * 24) (n - m) n = K at *
  grind
theorem zRC.del {g h : Int → Int} {B r a m n : Int} (H : zRC g h B) (hr : 0 ≤ r ∧ r < 12) (ha : 0 ≤ a ∧ a < n) (hm : 1 ≤ m ∧ m ≤ n - a) (hn : n ≤ 24) : zRC (zDl g (r * 24) a m n) (zDl h (B + r * 24) a m n) B := by
  have H2 := (H.pt (c := a) hr ha.1 hn).pt (c := a + m) hr (by omega) hn
  intro i h1 h2
  have e1 := H2 i h1 h2
  have e2 := H2 (i + m)
  unfold zDl
  generalize zPt (zPt g (r * 24) a n) (r * 24) (a + m) n = G at *
  generalize zPt (zPt h (B + r * 24) a n) (B + r * 24) (a + m) n = K at *
  grind
theorem zOut.pt {h : Int → Int} {B r c n : Int} (hr : 0 ≤ r ∧ r < 12) (hn : n ≤ 24) : zOut h (zPt h (B + r * 24) c n) B := by
  intro i hi
  unfold zPt
  grind
theorem zOut.trans {h h' h'' : Int → Int} {B : Int} (a : zOut h h' B) (b : zOut h' h'' B) : zOut h h'' B := fun i hi => (b i hi).trans (a i hi)
theorem zOut.er {h : Int → Int} {B r a b n : Int} (hr : 0 ≤ r ∧ r < 12) (ha : 0 ≤ a) (hb : b ≤ n) (hn : n ≤ 24) : zOut h (zEr h (B + r * 24) a b n) B := by
  have h1 := zOut.pt (h := h) (B := B) (c := a) hr hn
  have h2 := zOut.pt (h := zPt h (B + r * 24) (a) n) (B := B) (c := b) hr hn
  refine (h1.trans h2).trans ?_
  intro i hi
  unfold zEr zFl
  grind
theorem zOut.ins {h : Int → Int} {B r a m n : Int} (hr : 0 ≤ r ∧ r < 12) (ha : 0 ≤ a) (hn : n ≤ 24) : zOut h (zIn h (B + r * 24) a m n) B := by
  have h1 := zOut.pt (h := h) (B := B) (c := a) hr hn
  have h2 := zOut.pt (h := zPt h (B + r * 24) (a) n) (B := B) (c := n - m) hr hn
  refine (h1.trans h2).trans ?_
  intro i hi
  unfold zIn
  grind
theorem zOut.del {h : Int → Int} {B r a m n : Int} (hr : 0 ≤ r ∧ r < 12) (ha : 0 ≤ a) (hn : n ≤ 24) : zOut h (zDl h (B + r * 24) a m n) B := by
  have h1 := zOut.pt (h := h) (B := B) (c := a) hr hn
  have h2 := zOut.pt (h := zPt h (B + r * 24) (a) n) (B := B) (c := a + m) hr hn
  refine (h1.trans h2).trans ?_
  intro i hi
  unfold zDl
  grind
theorem zRC.ot {g h h' : Int → Int} {B B' : Int} (H : zRC g h B) (ho : zOut h h' B') (hB : B + 288 ≤ B' ∨ B' + 288 ≤ B) : zRC g h' B := fun i h1 h2 => by
  rw [ho (B + i) (by omega)]
  exact H i h1 h2
/-! rows that are well formed: a wide sign has its end behind it, and no end stands alone -/
def zWd (v : Int) : Prop := 65 ≤ wRem v 1000 ∧ wRem v 1000 ≤ 90
def zVl (v : Int) : Prop := v = -2 ∨ (0 ≤ v ∧ v < 400000 ∧ v % 100000 < 16000)
def zRwf (g : Int → Int) (o n : Int) : Prop := (∀ c, n ≤ c → c < 24 → g (o + c) = 0) ∧ (∀ c, 0 ≤ c → c < n → zVl (g (o + c)) ∧ (g (o + c) = -2 ↔ 0 < c ∧ zWd (g (o + c - 1))) ∧ (zWd (g (o + c)) → c + 1 < n))
theorem zWd_0 : ¬ zWd 0 := by unfold zWd wRem; decide
theorem zWd_t : ¬ zWd (-2) := by unfold zWd wRem; decide
theorem zRwf.nt {g : Int → Int} {o n : Int} (h : zRwf g o n) (hn : 0 < n) : zNT g o n := by
  refine ⟨fun e => ?_, fun c h1 h2 e => ?_⟩
  · have h1 := (h.2 0 (Int.le_refl _) hn).2.1
    rw [Int.add_zero] at h1
    exact absurd (h1.mp e).1 (by decide)
  · rw [h.1 c h1 h2] at e
    cases e
theorem zRwf.pt {g : Int → Int} {o n c : Int} (h : zRwf g o n) : zRwf (zPt g o c n) o n := by
  obtain ⟨h1, h2⟩ := h
  have k0 := zWd_0
  have kt := zWd_t
  refine ⟨fun d a b => ?_, fun d a b => ?_⟩
  · have := h1 d a b
    unfold zPt
    grind
  · have e1 := h2 d a b
    have e2 := h2 (d - 1)
    have e3 := h2 (d + 1)
    have e4 := h2 c
    have v0 : zVl 0 := Or.inr (by decide)
    unfold zPt
    by_cases q : 0 < c ∧ c < n ∧ g (o + c) = -2
    · have e5 := e4 (by omega) q.2.1
      simp only [q, true_and, and_self]
      by_cases q1 : d = c
      · subst q1
        rw [if_pos (by omega), if_pos (by omega)]
        grind
      · by_cases q2 : d = c - 1
        · rw [if_pos (by omega), if_neg (by omega)]
          grind
        · rw [if_neg (by omega)]
          by_cases q3 : d = c + 1
          · rw [if_pos (by omega)]
            grind
          · rw [if_neg (by omega)]
            exact e1
    · grind
theorem zRwf.er {g : Int → Int} {o a b n : Int} (h : zRwf g o n) (ha : 0 ≤ a ∧ a ≤ b) (hb : b ≤ n) : zRwf (zEr g o a b n) o n := by
  have hA := (h.pt (c := a)).pt (c := b)
  have ta : zPt (zPt g o a n) o b n (o + a) ≠ -2 ∨ a = 0 ∨ a = n := by
    unfold zPt
    grind
  have tb : zPt (zPt g o a n) o b n (o + b) ≠ -2 ∨ b = 0 ∨ b = n := by
    unfold zPt
    grind
  unfold zEr
  generalize zPt (zPt g o a n) o b n = G at *
  obtain ⟨h1, h2⟩ := hA
  have k0 := zWd_0
  have v0 : zVl 0 := Or.inr (by decide)
  refine ⟨fun d p q => ?_, fun d p q => ?_⟩
  · have := h1 d p q
    unfold zFl
    grind
  · have e1 := h2 d p q
    have e2 := h2 (d - 1)
    have e3 := h2 (d + 1)
    unfold zFl
    by_cases q1 : a ≤ d ∧ d < b
    · rw [if_pos (by omega)]
      by_cases q2 : a ≤ d - 1
      · rw [if_pos (by omega)]
        grind
      · rw [if_neg (by omega)]
        grind
    · rw [if_neg (by omega)]
      by_cases q2 : a ≤ d - 1 ∧ d - 1 < b
      · rw [if_pos (by omega)]
        grind
      · rw [if_neg (by omega)]
        exact e1
theorem zRwf.ins {g : Int → Int} {o a m n : Int} (h : zRwf g o n) (ha : 0 ≤ a ∧ a < n) (hm : 1 ≤ m ∧ m ≤ n - a) (hn : n ≤ 24) : zRwf (zIn g o a m n) o n := by
  have hA := (h.pt (c := a)).pt (c := n - m)
  have ta : zPt (zPt g o a n) o (n - m) n (o + a) ≠ -2 ∨ a = 0 ∨ a = n := by
    unfold zPt
    grind
  have tb : zPt (zPt g o a n) o (n - m) n (o + (n - m)) ≠ -2 ∨ n - m = 0 := by
    unfold zPt
    grind
  unfold zIn
  generalize zPt (zPt g o a n) o (n - m) n = G at *
  obtain ⟨h1, h2⟩ := hA
  have k0 := zWd_0
  have v0 : zVl 0 := Or.inr (by decide)
  refine ⟨fun d p q => ?_, fun d p q => ?_⟩
  · have := h1 d p q
    grind
  · have e1 := h2 d p q
    have e2 := h2 (d - 1)
    have e3 := h2 (d + 1)
    have f1 := h2 (d - m)
    have f2 := h2 (d - m - 1)
    have f3 := h2 (d - m + 1)
    have f4 := h2 (n - m)
    have f5 := h2 a
    have x1 : o + (d - 1) - m = o + (d - m - 1) := by omega
    have x2 : o + d - m = o + (d - m) := by omega
    have x3 : o + (d - m) - 1 = o + (d - m - 1) := by omega
    have x4 : o + d - 1 = o + (d - 1) := by omega
    have x5 : o + (d - m + 1) - 1 = o + (d - m) := by omega
    simp only [x1, x2, x4]
    rw [x3] at f1
    rw [x5] at f3
    rw [x4] at e1
    by_cases q1 : a ≤ d
    · rw [if_pos (by omega)]
      by_cases q2 : a ≤ d - m
      · rw [if_pos (by omega), if_pos (by omega)]
        refine ⟨(f1 (by omega) (by omega)).1, ?_, fun hw => ?_⟩
        · rw [(f1 (by omega) (by omega)).2.1]
          by_cases q4 : a ≤ d - 1 - m
          · rw [if_pos (by omega)]
            exact ⟨fun z => ⟨by omega, z.2⟩, fun z => ⟨by omega, z.2⟩⟩
          · rw [if_neg (by omega)]
            refine ⟨fun z => ?_, fun z => absurd z.2 k0⟩
            have hA : d - m = a := by omega
            rw [show d - m - 1 = a - 1 by omega] at z
            have := (f5 (by omega) (by omega)).2.1.mpr ⟨by omega, by rw [show o + a - 1 = o + (a - 1) by omega]; exact z.2⟩
            grind
        · by_cases e : d + 1 < n
          · exact e
          · exfalso
            have := (f4 (by omega) (by omega)).2.1.mpr ⟨by omega, by rw [show o + (n - m) - 1 = o + (d - m) by omega]; exact hw⟩
            rcases tb with tb | tb
            · exact tb this
            · omega
      · rw [if_neg (by omega)]
        refine ⟨v0, ⟨fun z => (by cases z), fun z => ?_⟩, fun z => absurd z k0⟩
        exfalso
        have z2 := z.2
        by_cases q3 : a ≤ d - 1
        · rw [if_pos (by omega), if_neg (by omega)] at z2
          exact k0 z2
        · rw [if_neg (by omega)] at z2
          have hA : d = a := by omega
          have := (f5 (by omega) (by omega)).2.1.mpr ⟨by omega, by rw [show o + a - 1 = o + (d - 1) by omega]; exact z2⟩
          grind
    · rw [if_neg (by omega), if_neg (by omega)]
      exact e1
theorem zRwf.del {g : Int → Int} {o a m n : Int} (h : zRwf g o n) (ha : 0 ≤ a ∧ a < n) (hm : 1 ≤ m ∧ m ≤ n - a) (hn : n ≤ 24) : zRwf (zDl g o a m n) o n := by
  have hA := (h.pt (c := a)).pt (c := a + m)
  have ta : zPt (zPt g o a n) o (a + m) n (o + a) ≠ -2 ∨ a = 0 ∨ a = n := by
    unfold zPt
    grind
  have tb : zPt (zPt g o a n) o (a + m) n (o + (a + m)) ≠ -2 ∨ a + m = n := by
    unfold zPt
    grind
  unfold zDl
  generalize zPt (zPt g o a n) o (a + m) n = G at *
  obtain ⟨h1, h2⟩ := hA
  have k0 := zWd_0
  have v0 : zVl 0 := Or.inr (by decide)
  refine ⟨fun d p q => ?_, fun d p q => ?_⟩
  · have := h1 d p q
    grind
  · have e1 := h2 d p q
    have e2 := h2 (d - 1)
    have f1 := h2 (d + m)
    have f2 := h2 (d + m - 1)
    have f4 := h2 (a + m)
    have f5 := h2 a
    have x1 : o + (d - 1) + m = o + (d + m - 1) := by omega
    have x2 : o + d + m = o + (d + m) := by omega
    have x3 : o + (d + m) - 1 = o + (d + m - 1) := by omega
    have x4 : o + d - 1 = o + (d - 1) := by omega
    simp only [x1, x2, x4]
    rw [x3] at f1
    rw [x4] at e1
    by_cases q1 : a ≤ d
    · rw [if_pos (by omega)]
      by_cases q2 : d + m < n
      · rw [if_pos (by omega)]
        refine ⟨(f1 (by omega) (by omega)).1, ?_, fun hw => by have := (f1 (by omega) (by omega)).2.2 hw; omega⟩
        by_cases q3 : a ≤ d - 1
        · rw [if_pos (by omega), if_pos (by omega), (f1 (by omega) (by omega)).2.1]
          exact ⟨fun z => ⟨by omega, z.2⟩, fun z => ⟨by omega, z.2⟩⟩
        · rw [if_neg (by omega)]
          have hA : d = a := by omega
          refine ⟨fun z => ?_, fun z => ?_⟩
          · exfalso
            rw [hA] at z
            rcases tb with tb | tb
            · exact tb z
            · omega
          · exfalso
            have := (f5 (by omega) (by omega)).2.1.mpr ⟨by omega, by rw [show o + a - 1 = o + (d - 1) by omega]; exact z.2⟩
            grind
      · rw [if_neg (by omega)]
        refine ⟨v0, ⟨fun z => (by cases z), fun z => ?_⟩, fun z => absurd z k0⟩
        exfalso
        have z2 := z.2
        by_cases q3 : a ≤ d - 1
        · rw [if_pos (by omega)] at z2
          by_cases q4 : d + m - 1 < n
          · rw [if_pos (by omega)] at z2
            have := (f2 (by omega) (by omega)).2.2 z2
            omega
          · rw [if_neg (by omega)] at z2
            exact k0 z2
        · rw [if_neg (by omega)] at z2
          have := (f5 (by omega) (by omega)).2.1.mpr ⟨by omega, by rw [show o + a - 1 = o + (d - 1) by omega]; exact z2⟩
          grind
    · rw [if_neg (by omega), if_neg (by omega)]
      exact e1
/-! a picture's rows -/
def zKwf (g : Int → Int) (B R n : Int) : Prop := (∀ r, 0 ≤ r → r < 12 → zRwf g (B + r * 24) n) ∧ ∀ i, B + R * 24 ≤ i → i < B + 288 → g i = 0
theorem zRwf.cg {g g' : Int → Int} {o n : Int} (h : zRwf g o n) (e : ∀ c, 0 ≤ c → c < 24 → g' (o + c) = g (o + c)) (hn : 0 ≤ n ∧ n ≤ 24) : zRwf g' o n := by
  refine ⟨fun c a b => by rw [e c (by omega) b]; exact h.1 c a b, fun c a b => ?_⟩
  have h1 := h.2 c a b
  rw [e c a (by omega)]
  by_cases q : 0 < c
  · rw [show o + c - 1 = o + (c - 1) by omega] at h1 ⊢
    rw [e (c - 1) (by omega) (by omega)]
    exact h1
  · grind
theorem zKwf.row {g g' : Int → Int} {B R n r : Int} (h : zKwf g B R n) (hr : 0 ≤ r ∧ r < R) (hR : R ≤ 12) (hn : 0 ≤ n ∧ n ≤ 24) (h1 : zRwf g' (B + r * 24) n) (h2 : ∀ i, i < B + r * 24 ∨ B + r * 24 + 24 ≤ i → g' i = g i) : zKwf g' B R n := by
  refine ⟨fun q a b => ?_, fun i a b => ?_⟩
  · by_cases e : q = r
    · rw [e]; exact h1
    · exact (h.1 q a b).cg (fun c x y => h2 _ (by omega)) hn
  · rw [h2 i (by omega)]
    exact h.2 i a b
theorem zPt_out {g : Int → Int} {o c n : Int} (hn : n ≤ 24) (i : Int) (h : i < o ∨ o + 24 ≤ i) : zPt g o c n i = g i := by
  unfold zPt
  grind
theorem zEr_out {g : Int → Int} {o a b n : Int} (ha : 0 ≤ a) (hb : b ≤ n) (hn : n ≤ 24) (i : Int) (h : i < o ∨ o + 24 ≤ i) : zEr g o a b n i = g i := by
  unfold zEr zFl
  rw [if_neg (by omega), zPt_out hn i h, zPt_out hn i h]
theorem zIn_out {g : Int → Int} {o a m n : Int} (ha : 0 ≤ a) (hn : n ≤ 24) (i : Int) (h : i < o ∨ o + 24 ≤ i) : zIn g o a m n i = g i := by
  unfold zIn
  rw [if_neg (by omega), zPt_out hn i h, zPt_out hn i h]
theorem zDl_out {g : Int → Int} {o a m n : Int} (ha : 0 ≤ a) (hn : n ≤ 24) (i : Int) (h : i < o ∨ o + 24 ≤ i) : zDl g o a m n i = g i := by
  unfold zDl
  rw [if_neg (by omega), zPt_out hn i h, zPt_out hn i h]
theorem zKwf.er {g : Int → Int} {B R n r a b : Int} (h : zKwf g B R n) (hr : 0 ≤ r ∧ r < R) (hR : R ≤ 12) (hn : 0 ≤ n ∧ n ≤ 24) (ha : 0 ≤ a ∧ a ≤ b) (hb : b ≤ n) : zKwf (zEr g (B + r * 24) a b n) B R n :=
  h.row hr hR hn ((h.1 r hr.1 (by omega)).er ha hb) (zEr_out ha.1 hb hn.2)
theorem zKwf.ins {g : Int → Int} {B R n r a m : Int} (h : zKwf g B R n) (hr : 0 ≤ r ∧ r < R) (hR : R ≤ 12) (hn : 0 ≤ n ∧ n ≤ 24) (ha : 0 ≤ a ∧ a < n) (hm : 1 ≤ m ∧ m ≤ n - a) : zKwf (zIn g (B + r * 24) a m n) B R n :=
  h.row hr hR hn ((h.1 r hr.1 (by omega)).ins ha hm hn.2) (zIn_out ha.1 hn.2)
theorem zKwf.del {g : Int → Int} {B R n r a m : Int} (h : zKwf g B R n) (hr : 0 ≤ r ∧ r < R) (hR : R ≤ 12) (hn : 0 ≤ n ∧ n ≤ 24) (ha : 0 ≤ a ∧ a < n) (hm : 1 ≤ m ∧ m ≤ n - a) : zKwf (zDl g (B + r * 24) a m n) B R n :=
  h.row hr hR hn ((h.1 r hr.1 (by omega)).del ha hm hn.2) (zDl_out ha.1 hn.2)
theorem zRwf_0 {g : Int → Int} {o n : Int} (h : ∀ c, 0 ≤ c → c < 24 → g (o + c) = 0) (hn : 0 ≤ n ∧ n ≤ 24) : zRwf g o n := by
  have k0 := zWd_0
  have v0 : zVl 0 := Or.inr (by decide)
  refine ⟨fun c a b => h c (by omega) b, fun c a b => ?_⟩
  have e1 := h c a (by omega)
  have e2 := h (c - 1)
  rw [show o + c - 1 = o + (c - 1) by omega]
  grind
theorem zKwf.up {g : Int → Int} {B R n a b : Int} (h : zKwf g B R n) (hab : 0 ≤ a ∧ a ≤ b ∧ b < R) (hR : R ≤ 12) (hn : 0 ≤ n ∧ n ≤ 24) : zKwf (zUp g B a b) B R n := by
  refine ⟨fun q x y => ?_, fun i x y => ?_⟩
  · by_cases q1 : q < a ∨ b < q
    · exact (h.1 q x y).cg (fun c u v => by unfold zUp; rw [if_neg (by omega), if_neg (by omega)]) hn
    · by_cases q2 : q = b
      · exact zRwf_0 (fun c u v => by unfold zUp; rw [if_neg (by omega), if_pos (by omega)]) hn
      · have h1 := h.1 (q + 1) (by omega) (by omega)
        have e : ∀ c, 0 ≤ c → c < 24 → zUp g B a b (B + q * 24 + c) = g (B + (q + 1) * 24 + c) := fun c u v => by
          unfold zUp
          rw [if_pos (by omega)]
          congr 1
          omega
        refine ⟨fun c u v => by rw [e c (by omega) v]; exact h1.1 c u v, fun c u v => ?_⟩
        have h2 := h1.2 c u v
        rw [e c u (by omega)]
        by_cases qc : 0 < c
        · rw [show B + (q + 1) * 24 + c - 1 = B + (q + 1) * 24 + (c - 1) by omega] at h2
          rw [show B + q * 24 + c - 1 = B + q * 24 + (c - 1) by omega, e (c - 1) (by omega) (by omega)]
          exact h2
        · grind
  · have := h.2 i x y
    unfold zUp
    rw [if_neg (by omega), if_neg (by omega)]
    exact this
theorem zKwf.dn {g : Int → Int} {B R n a b : Int} (h : zKwf g B R n) (hab : 0 ≤ a ∧ a ≤ b ∧ b < R) (hR : R ≤ 12) (hn : 0 ≤ n ∧ n ≤ 24) : zKwf (zDn g B a b) B R n := by
  refine ⟨fun q x y => ?_, fun i x y => ?_⟩
  · by_cases q1 : q < a ∨ b < q
    · exact (h.1 q x y).cg (fun c u v => by unfold zDn; rw [if_neg (by omega), if_neg (by omega)]) hn
    · by_cases q2 : q = a
      · exact zRwf_0 (fun c u v => by unfold zDn; rw [if_neg (by omega), if_pos (by omega)]) hn
      · have h1 := h.1 (q - 1) (by omega) (by omega)
        have e : ∀ c, 0 ≤ c → c < 24 → zDn g B a b (B + q * 24 + c) = g (B + (q - 1) * 24 + c) := fun c u v => by
          unfold zDn
          rw [if_pos (by omega)]
          congr 1
          omega
        refine ⟨fun c u v => by rw [e c (by omega) v]; exact h1.1 c u v, fun c u v => ?_⟩
        have h2 := h1.2 c u v
        rw [e c u (by omega)]
        by_cases qc : 0 < c
        · rw [show B + (q - 1) * 24 + c - 1 = B + (q - 1) * 24 + (c - 1) by omega] at h2
          rw [show B + q * 24 + c - 1 = B + q * 24 + (c - 1) by omega, e (c - 1) (by omega) (by omega)]
          exact h2
        · grind
  · have := h.2 i x y
    unfold zDn
    rw [if_neg (by omega), if_neg (by omega)]
    exact this
theorem zRC.up {g h : Int → Int} {B a b : Int} (H : zRC g h B) (hab : 0 ≤ a ∧ a ≤ b ∧ b < 12) : zRC (zUp g 0 a b) (zUp h B a b) B := by
  intro i h1 h2
  have e1 := H i h1 h2
  have e2 := H (i + 24)
  unfold zUp
  grind
theorem zRC.dn {g h : Int → Int} {B a b : Int} (H : zRC g h B) (hab : 0 ≤ a ∧ a ≤ b ∧ b < 12) : zRC (zDn g 0 a b) (zDn h B a b) B := by
  intro i h1 h2
  have e1 := H i h1 h2
  have e2 := H (i - 24)
  unfold zDn
  grind
theorem zOut.up {h : Int → Int} {B a b : Int} (hab : 0 ≤ a ∧ a ≤ b ∧ b < 12) : zOut h (zUp h B a b) B := by
  intro i hi
  unfold zUp
  grind
theorem zOut.dn {h : Int → Int} {B a b : Int} (hab : 0 ≤ a ∧ a ≤ b ∧ b < 12) : zOut h (zDn h B a b) B := by
  intro i hi
  unfold zDn
  grind
theorem zRwf.put1 {g : Int → Int} {o n c v : Int} (h : zRwf g o n) (hc : 0 ≤ c ∧ c < n) (h0 : g (o + c) = 0) (hv : zVl v ∧ v ≠ -2 ∧ ¬ zWd v) : zRwf (zup g (o + c) v) o n := by
  obtain ⟨h1, h2⟩ := h
  have k0 := zWd_0
  refine ⟨fun d p q => ?_, fun d p q => ?_⟩
  · have := h1 d p q
    unfold zup
    grind
  · have e1 := h2 d p q
    have e2 := h2 (d - 1)
    unfold zup
    by_cases q1 : d = c
    · subst q1
      rw [if_pos rfl, if_neg (by omega)]
      grind
    · rw [if_neg (by omega)]
      by_cases q2 : d = c + 1
      · rw [if_pos (by omega)]
        grind
      · rw [if_neg (by omega)]
        exact e1
theorem zRwf.put2 {g : Int → Int} {o n c v : Int} (h : zRwf g o n) (hc : 0 ≤ c ∧ c + 1 < n) (h0 : g (o + c) = 0) (h01 : g (o + (c + 1)) = 0) (hv : zVl v ∧ v ≠ -2 ∧ zWd v) : zRwf (zup (zup g (o + c) v) (o + (c + 1)) (-2)) o n := by
  obtain ⟨h1, h2⟩ := h
  have k0 := zWd_0
  have kt := zWd_t
  have vt : zVl (-2) := Or.inl rfl
  refine ⟨fun d p q => ?_, fun d p q => ?_⟩
  · have := h1 d p q
    unfold zup
    grind
  · have e1 := h2 d p q
    have e2 := h2 (d - 1)
    unfold zup
    by_cases q1 : d = c
    · subst q1
      rw [if_neg (by omega), if_pos rfl, if_neg (by omega), if_neg (by omega)]
      grind
    · by_cases q2 : d = c + 1
      · subst q2
        rw [if_pos rfl, if_neg (by omega), if_pos (by omega)]
        grind
      · rw [if_neg (by omega), if_neg (by omega)]
        by_cases q3 : d = c + 2
        · rw [if_pos (by omega)]
          grind
        · rw [if_neg (by omega), if_neg (by omega)]
          exact e1
theorem wRem_e {x y : Int} (hx : 0 ≤ x) (hy : 0 < y) : wRem x y = x % y := by
  unfold wRem
  rw [Int.tmod_eq_emod_of_nonneg hx]
theorem zWd_m {v : Int} (hv : 0 ≤ v) : zWd (v + 100000) ↔ zWd v := by
  unfold zWd
  rw [wRem_e hv (by decide), wRem_e (by omega) (by decide)]
  omega
theorem zRwf.mark {g : Int → Int} {o n c : Int} (h : zRwf g o n) (hc : 0 ≤ c ∧ c < n) (h0 : 0 < g (o + c) ∧ g (o + c) < 300000) : zRwf (zup g (o + c) (g (o + c) + 100000)) o n := by
  obtain ⟨h1, h2⟩ := h
  have kw := zWd_m (v := g (o + c)) (by omega)
  have f := h2 c hc.1 hc.2
  have vv : zVl (g (o + c) + 100000) := by
    have := f.1
    unfold zVl at *
    omega
  refine ⟨fun d p q => ?_, fun d p q => ?_⟩
  · have := h1 d p q
    unfold zup
    grind
  · have e1 := h2 d p q
    have e2 := h2 (d - 1)
    unfold zup
    by_cases q1 : d = c
    · subst q1
      rw [if_pos rfl, if_neg (by omega)]
      grind
    · rw [if_neg (by omega)]
      by_cases q2 : d = c + 1
      · subst q2
        rw [if_pos (by omega), kw]
        rw [show o + (c + 1) - 1 = o + c by omega] at e1
        exact e1
      · rw [if_neg (by omega)]
        exact e1
