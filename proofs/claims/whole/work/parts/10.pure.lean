/-! ===== the pure side: what holds of a run of a printed function ===== -/
def zH {α : Type} (o : Option α) (Q : α → Prop) : Prop := ∃ x, o = some x ∧ Q x
theorem zH_some {α : Type} {x : α} {Q : α → Prop} (h : Q x) : zH (some x) Q := ⟨x, rfl, h⟩
theorem zH_bind {α β : Type} {o : Option α} {f : α → Option β} {P : α → Prop} {Q : β → Prop} (h : zH o P) (k : ∀ x, P x → zH (f x) Q) : zH (o.bind f) Q := by
  obtain ⟨x, rfl, hx⟩ := h
  exact k x hx
theorem zH_eq {α β : Type} {o : Option α} {x : α} {f : α → Option β} {Q : β → Prop} (h : o = some x) (k : zH (f x) Q) : zH (o.bind f) Q := by rw [h]; exact k
theorem zH_if {α : Type} {c : Prop} [Decidable c] {a b : Option α} {Q : α → Prop} (h1 : c → zH a Q) (h2 : ¬ c → zH b Q) : zH (if c then a else b) Q := by
  by_cases h : c
  · rw [if_pos h]; exact h1 h
  · rw [if_neg h]; exact h2 h
theorem zH_t {α : Type} {c : Prop} [Decidable c] {a b : Option α} {Q : α → Prop} (h : c) (k : zH a Q) : zH (if c then a else b) Q := by rw [if_pos h]; exact k
theorem zH_f {α : Type} {c : Prop} [Decidable c] {a b : Option α} {Q : α → Prop} (h : ¬ c) (k : zH b Q) : zH (if c then a else b) Q := by rw [if_neg h]; exact k
theorem zH_mono {α : Type} {o : Option α} {P Q : α → Prop} (h : zH o P) (k : ∀ x, P x → Q x) : zH o Q := by
  obtain ⟨x, e, hx⟩ := h
  exact ⟨x, e, k x hx⟩
theorem zH_loop {σ ρ : Type} {step : σ → Option (σ ⊕ ρ)} {Q : ρ → Prop} (I : σ → Prop) (μ : σ → Nat) (hs : ∀ x, I x → zH (step x) (fun o => match o with | .inl y => I y ∧ μ y < μ x | .inr r => Q r)) : ∀ {n : Nat} {x : σ}, I x → μ x < n → zH (zloop step n x) Q
  | 0, _, _, h => absurd h (Nat.not_lt_zero _)
  | n + 1, x, h0, hn => by
    obtain ⟨o, ho, hq⟩ := hs x h0
    unfold zloop
    rw [ho]
    cases o with
    | inl y => exact zH_loop I μ hs (n := n) hq.1 (by have := hq.2; omega)
    | inr r => exact ⟨r, rfl, hq⟩
/-- a loop whose steps are known one by one -/
theorem zloop_up {σ ρ : Type} {step : σ → Option (σ ⊕ ρ)} {r : ρ} : ∀ (K : Nat) {n : Nat} (g : Nat → σ), (∀ k, k < K → step (g k) = some (.inl (g (k + 1)))) → step (g K) = some (.inr r) → K < n → zloop step n (g 0) = some r
  | _, 0, _, _, _, h => absurd h (Nat.not_lt_zero _)
  | 0, n + 1, g, _, he, _ => by
    unfold zloop
    rw [he]
    rfl
  | K + 1, n + 1, g, hs, he, hn => by
    unfold zloop
    rw [hs 0 (Nat.succ_pos _)]
    exact zloop_up K (fun k => g (k + 1)) (fun k hk => hs (k + 1) (by omega)) he (by omega)
theorem iteT {α : Type} {c : Prop} [Decidable c] {x y z : α} (h : c) (k : x = z) : (if c then x else y) = z := by rw [if_pos h]; exact k
theorem iteF {α : Type} {c : Prop} [Decidable c] {x y z : α} (h : ¬ c) (k : y = z) : (if c then x else y) = z := by rw [if_neg h]; exact k
theorem bindS {α β : Type} {o : Option α} {x : α} {f : α → Option β} {z : Option β} (h : o = some x) (k : f x = z) : o.bind f = z := by rw [h]; exact k
theorem w32i {x : Int} (h1 : -2147483648 ≤ x) (h2 : x ≤ 2147483647) : w32 x = x := w32_of ⟨by omega, by omega⟩
/-! pictures -/
theorem uA1 (s : zSt) (i : Nat) (f : Int → Int) : (uA s i f).1 = s.1 := rfl
theorem uA2 (s : zSt) (i a : Nat) (f : Int → Int) : (uA s i f).2 a = if a = i then f else s.2 a := rfl
theorem uS1 (s : zSt) (i k a b : Nat) (x : Int) : (uS s i k x).1 a b = if a = i then (if b = k then x else s.1 a b) else s.1 a b := rfl
theorem uS2 (s : zSt) (i k : Nat) (x : Int) : (uS s i k x).2 = s.2 := rfl
theorem uA_uA (s : zSt) (i : Nat) (f g : Int → Int) : uA (uA s i f) i g = uA s i g := by
  unfold uA
  congr 1
  funext a
  show (if a = i then g else (if a = i then f else s.2 a)) = _
  by_cases h : a = i
  · simp [h]
  · simp [h]
theorem uA_id (s : zSt) (i : Nat) : uA s i (s.2 i) = s := by
  obtain ⟨a, b⟩ := s
  unfold uA
  congr 1
  funext c
  by_cases h : c = i
  · simp [h]
  · simp [h]
theorem uS_id (s : zSt) (i k : Nat) : uS s i k (s.1 i k) = s := by
  obtain ⟨a, b⟩ := s
  unfold uS
  congr 1
  funext c d
  by_cases h : c = i
  · by_cases h2 : d = k
    · simp [h, h2]
    · simp [h2]
  · simp [h]
theorem zsb1 (f : Nat → Nat) (s : zSt) (a k : Nat) : (zsb f s).1 a k = s.1 (f a) k := rfl
theorem zsb2 (f : Nat → Nat) (s : zSt) (a : Nat) : (zsb f s).2 a = s.2 (f a) := rfl
theorem zfind_sh (b i : Nat) : ∀ n, zfind (zsh b) i n = if b ≤ i ∧ i < b + n then some (i - b) else none
  | 0 => by rw [if_neg (by omega)]; rfl
  | n + 1 => by
    unfold zfind
    rw [zfind_sh b i n]
    show (if n + b = i then some n else _) = _
    by_cases h : n + b = i
    · rw [if_pos h, if_pos (by omega)]; congr 1; omega
    · rw [if_neg h]
      by_cases h2 : b ≤ i ∧ i < b + n
      · rw [if_pos h2, if_pos (by omega)]
      · rw [if_neg h2, if_neg (by omega)]
theorem zpb1 (b n : Nat) (s t : zSt) (i k : Nat) : (zpb (zsh b) n s t).1 i k = if b ≤ i ∧ i < b + n then t.1 (i - b) k else s.1 i k := by
  unfold zpb
  simp only [zfind_sh]
  by_cases h : b ≤ i ∧ i < b + n
  · simp [h]
  · simp [h]
theorem zpb2 (b n : Nat) (s t : zSt) (i : Nat) : (zpb (zsh b) n s t).2 i = if b ≤ i ∧ i < b + n then t.2 (i - b) else s.2 i := by
  unfold zpb
  simp only [zfind_sh]
  by_cases h : b ≤ i ∧ i < b + n
  · simp [h]
  · simp [h]
/-- what is changed in a part is changed in the whole -/
theorem zpb_uA (b n : Nat) (s t : zSt) (i : Nat) (f : Int → Int) (hi : i < n) : zpb (zsh b) n s (uA t i f) = uA (zpb (zsh b) n s t) (i + b) f := by
  refine Prod.ext (funext fun a => funext fun k => ?_) (funext fun a => ?_)
  · rw [zpb1, uA1, uA1, zpb1]
  · rw [zpb2, uA2, uA2, zpb2]
    by_cases h : b ≤ a ∧ a < b + n
    · by_cases h2 : a = i + b
      · rw [if_pos h, if_pos (by omega), if_pos h2]
      · rw [if_pos h, if_neg (by omega), if_neg h2, if_pos h]
    · rw [if_neg h, if_neg (by omega), if_neg h]
theorem zpb_uS (b n : Nat) (s t : zSt) (i k : Nat) (x : Int) (hi : i < n) : zpb (zsh b) n s (uS t i k x) = uS (zpb (zsh b) n s t) (i + b) k x := by
  refine Prod.ext (funext fun a => funext fun j => ?_) (funext fun a => ?_)
  · rw [zpb1, uS1, uS1, zpb1]
    by_cases h : b ≤ a ∧ a < b + n
    · by_cases h2 : a = i + b
      · rw [if_pos h, if_pos (by omega), if_pos h2, if_pos h]
      · rw [if_pos h, if_neg (by omega), if_neg h2, if_pos h]
    · rw [if_neg h, if_neg (by omega), if_neg h]
  · rw [zpb2, uS2, uS2, zpb2]
/-! rows of cells: o is a row's first place, n how many cells it has -/
def zFl (g : Int → Int) (lo hi v : Int) : Int → Int := fun i => if lo ≤ i ∧ i < hi then v else g i
def zPt (g : Int → Int) (o c n : Int) : Int → Int := fun i => if (0 < c ∧ c < n ∧ g (o + c) = -2) ∧ (i = o + c ∨ i = o + c - 1) then 0 else g i
def zEr (g : Int → Int) (o a b n : Int) : Int → Int := zFl (zPt (zPt g o a n) o b n) (o + a) (o + b) 0
def zIn (g : Int → Int) (o a m n : Int) : Int → Int := fun i => if o + a ≤ i ∧ i < o + n then (if o + a ≤ i - m then zPt (zPt g o a n) o (n - m) n (i - m) else 0) else zPt (zPt g o a n) o (n - m) n i
def zDl (g : Int → Int) (o a m n : Int) : Int → Int := fun i => if o + a ≤ i ∧ i < o + n then (if i + m < o + n then zPt (zPt g o a n) o (a + m) n (i + m) else 0) else zPt (zPt g o a n) o (a + m) n i
theorem zFl_self (g : Int → Int) (lo v : Int) : zFl g lo lo v = g := by
  funext i
  unfold zFl
  rw [if_neg (by omega)]
theorem zup_zFl {g : Int → Int} {lo hi v : Int} (h : lo ≤ hi) : zup (zFl g lo hi v) hi v = zFl g lo (hi + 1) v := by
  funext i
  unfold zup zFl
  by_cases h1 : i = hi
  · rw [if_pos h1, if_pos (by omega)]
  · rw [if_neg h1]
    by_cases h2 : lo ≤ i ∧ i < hi
    · rw [if_pos h2, if_pos (by omega)]
    · rw [if_neg h2, if_neg (by omega)]
/-! Arrays.fill -/
theorem c_fill {s : zSt} {a b v : Int} (h0 : 0 ≤ a) (h1 : a ≤ b) (h2 : b ≤ s.1 0 0) (h3 : s.1 0 0 ≤ 100000) : f_Ja_fill_fda19 a b v s = some (0, uA s 0 (zFl (s.2 0) a b v)) := by
  unfold f_Ja_fill_fda19 f_Ja_rangeCheck_23922
  simp (disch := omega) only [if_pos, Option.bind_some]
  have h := zloop_up (step := f_Ja_fill_fda19_l10 b v) (r := uA s 0 (zFl (s.2 0) a b v)) (b - a).toNat (n := zfu) (fun k => (a + k, uA s 0 (zFl (s.2 0) a (a + k) v))) (fun k hk => ?_) ?_ ?_
  · simp only [Int.natCast_zero, Int.add_zero, zFl_self, uA_id] at h
    rw [h]
    rfl
  · unfold f_Ja_fill_fda19_l10
    simp only [uA1]
    simp (disch := omega) only [if_neg, if_pos, w32i]
    unfold uE
    rw [uA_uA, uA2, if_pos rfl, zup_zFl (by omega), Int.natCast_add, Int.add_assoc]
    rfl
  · unfold f_Ja_fill_fda19_l10
    rw [if_pos (by omega)]
    simp only [show a + ((b - a).toNat : Int) = b by omega]
  · unfold zfu; omega
