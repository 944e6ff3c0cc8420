/-! ===== calls by lists of cells; facts that go on into calls ===== -/
theorem zrn_id (v : zAV) : zrn zid v = v := by
  match v with
  | .inl _ => rfl
  | .inr (.inl none) => rfl
  | .inr (.inl (some k)) => rfl
  | .inr (.inr _) => rfl
theorem zrS_id (l : List zAV) : l.map (zrn zid) = l := by
  rw [show zrn zid = id from funext zrn_id, List.map_id]
theorem zrC_id (c : zAC) : zrC zid c = c := by
  cases c with
  | inl o => simp only [zrC]; rw [zrS_id]
  | inr a => rfl
theorem zrS_lt {n : Nat} {f : Nat → Nat} (hf : ∀ k, k < n → f k = k) : ∀ {l : List zAV}, zlS n l = true → l.map (zrn f) = l
  | [], _ => rfl
  | v :: l, h => by
    simp only [zlS, Bool.and_eq_true] at h
    rw [List.map_cons, zrS_lt hf (l := l) h.2]
    congr 1
    match v, h.1 with
    | .inl _, _ => rfl
    | .inr (.inl none), _ => rfl
    | .inr (.inl (some k)), h1 =>
      have h2 : k < n := by simpa [zlV] using h1
      simp only [zrn, hf k h2]
    | .inr (.inr _), _ => rfl
theorem zrC_lt {n : Nat} {f : Nat → Nat} (hf : ∀ k, k < n → f k = k) {c : zAC} (h : zlC n c = true) : zrC f c = c := by
  cases c with
  | inl o => simp only [zrC]; rw [zrS_lt hf (l := o.2) h]
  | inr a => rfl
theorem zfS_lt {n v : Nat} (hv : n ≤ v) : ∀ {l : List zAV}, zlS n l = true → zfS v l = true
  | [], _ => rfl
  | x :: l, h => by
    simp only [zlS, Bool.and_eq_true] at h
    simp only [zfS, Bool.and_eq_true]
    refine ⟨?_, zfS_lt hv h.2⟩
    match x, h.1 with
    | .inl _, _ => rfl
    | .inr (.inl none), _ => rfl
    | .inr (.inl (some k)), h1 =>
      have h2 : k < n := by simpa [zlV] using h1
      have h3 : k ≠ v := by omega
      simpa [zfV] using h3
    | .inr (.inr _), _ => rfl
theorem zfC_lt {n v : Nat} (hv : n ≤ v) {c : zAC} (h : zlC n c = true) : zfC v c = true := by
  cases c with
  | inl o => exact zfS_lt hv (l := o.2) h
  | inr a => rfl
theorem zfS_sh {n v : Nat} (hv : v < n) : ∀ (l : List zAV), zfS v (l.map (zrn (zsh n))) = true
  | [] => rfl
  | x :: l => by
    simp only [List.map_cons, zfS, Bool.and_eq_true]
    refine ⟨?_, zfS_sh hv l⟩
    match x with
    | .inl _ => rfl
    | .inr (.inl none) => rfl
    | .inr (.inl (some k)) =>
      have h3 : k + n ≠ v := by omega
      simpa [zfV, zrn] using h3
    | .inr (.inr _) => rfl
theorem zfC_sh {n v : Nat} (hv : v < n) (c : zAC) : zfC v (zrC (zsh n) c) = true := by
  cases c with
  | inl o => exact zfS_sh hv o.2
  | inr a => rfl
theorem zlS_sh {n m v : Nat} (hv : m + n ≤ v) : ∀ {l : List zAV}, zlS m l = true → zfS v (l.map (zrn (zsh n))) = true
  | [], _ => rfl
  | x :: l, h => by
    simp only [zlS, Bool.and_eq_true] at h
    simp only [List.map_cons, zfS, Bool.and_eq_true]
    refine ⟨?_, zlS_sh hv h.2⟩
    match x, h.1 with
    | .inl _, _ => rfl
    | .inr (.inl none), _ => rfl
    | .inr (.inl (some k)), h1 =>
      have h2 : k < m := by simpa [zlV] using h1
      have h3 : k + n ≠ v := by omega
      simpa [zfV, zrn] using h3
    | .inr (.inr _), _ => rfl
def zlO (n : Nat) : Option Nat → Bool
  | none => true
  | some k => decide (k < n)
def zlTb (n : Nat) : zTC → Bool
  | .inl o => o.2.all (zlO n)
  | .inr _ => true
theorem zlS_ziF {s : zSt} {i n : Nat} : ∀ {fs : List (Option Nat)} {k : Nat}, fs.all (zlO n) = true → zlS n (ziF s i k fs) = true
  | [], _, _ => rfl
  | none :: fs, k, h => by
    simp only [List.all_cons, Bool.and_eq_true] at h
    simp only [ziF, zlS, zlV, Bool.true_and]
    exact zlS_ziF h.2
  | some r :: fs, k, h => by
    simp only [List.all_cons, Bool.and_eq_true] at h
    simp only [ziF, zlS, zlV, Bool.and_eq_true]
    exact ⟨h.1, zlS_ziF h.2⟩
theorem zlC_ziT {s : zSt} {n : Nat} {T : List zTC} (h : T.all (zlTb n) = true) : ∀ c ∈ ziT s 0 T, zlC n c = true := by
  intro c hc
  obtain ⟨i, hi⟩ := List.getElem?_of_mem hc
  rw [ziT_get] at hi
  cases hq : T[i]? with
  | none => rw [hq] at hi; simp at hi
  | some q =>
    rw [hq] at hi
    simp only [Option.map_some, Nat.zero_add, Option.some.injEq] at hi
    have h1 := List.all_eq_true.mp h q (List.mem_of_getElem? hq)
    rw [← hi]
    cases q with
    | inl o => exact zlS_ziF (fs := o.2) h1
    | inr a => rfl
/-- a world w with a part wc laid by f; the same world with wc' in its place; v: the one place that may be laid anew -/
def zFrm (w wc wc' w' : List zAC) (f : Nat → Nat) (v : Nat) : Prop :=
  (∀ a c, wc[a]? = some c → w[f a]? = some (zrC f c)) ∧ (∀ a b, a < wc.length → b < wc.length → f a = f b → a = b) ∧ (∀ a, f a = f v → a = v) ∧ wc'.length = wc.length ∧ w'.length = w.length ∧ (∀ a c, wc'[a]? = some c → w'[f a]? = some (zrC f c)) ∧ (∀ i, (∀ a, a < wc.length → f a ≠ i) → w'[i]? = w[i]?) ∧ ∀ i c, w[i]? = some c → (∀ a, a < wc.length → f a ≠ i) → zfC (f v) c = true ∧ i ≠ f v
theorem zFr_pre {wc wc' wr : List zAC} {v : Nat} (hl : wc'.length = wc.length) (hv : v < wc.length) (hr : ∀ c ∈ wr, zfC v c = true) : zFrm (wc ++ wr) wc wc' (wc' ++ wr) zid v := by
  have hge : ∀ i, (∀ a, a < wc.length → zid a ≠ i) → wc.length ≤ i := fun i h => Nat.not_lt.mp fun q => h i q rfl
  refine ⟨fun a c h => ?_, fun a b _ _ h => h, fun a h => h, hl, by simp [hl], fun a c h => ?_, fun i h => ?_, fun i c h hi => ?_⟩
  · rw [zrC_id]
    show (wc ++ wr)[a]? = some c
    rw [List.getElem?_append_left (List.getElem?_eq_some_iff.mp h).1]
    exact h
  · rw [zrC_id]
    show (wc' ++ wr)[a]? = some c
    rw [List.getElem?_append_left (List.getElem?_eq_some_iff.mp h).1]
    exact h
  · have h1 := hge i h
    rw [List.getElem?_append_right (by omega), List.getElem?_append_right h1, hl]
  · have h1 := hge i hi
    rw [List.getElem?_append_right h1] at h
    refine ⟨hr c (List.mem_of_getElem? h), fun q => ?_⟩
    have q : i = v := q
    omega
theorem zFr_mid {wa wc wc' wr : List zAC} {n v : Nat} (hn : wa.length = n) (hl : wc'.length = wc.length) (hv : wc.length + wr.length ≤ v) (ha : ∀ c ∈ wa, zfC (v + n) c = true) (hr : ∀ c ∈ wr, zfC (v + n) c = true) :
    zFrm (wa ++ (wc.map (zrC (zsh n)) ++ wr)) wc wc' (wa ++ (wc'.map (zrC (zsh n)) ++ wr)) (zsh n) v := by
  have get : ∀ (wx : List zAC) a c, wx[a]? = some c → (wa ++ (wx.map (zrC (zsh n)) ++ wr))[zsh n a]? = some (zrC (zsh n) c) := by
    intro wx a c h
    have h1 := (List.getElem?_eq_some_iff.mp h).1
    show (wa ++ (wx.map (zrC (zsh n)) ++ wr))[a + n]? = _
    rw [List.getElem?_append_right (by omega), List.getElem?_append_left (by rw [List.length_map]; omega), show a + n - wa.length = a by omega, List.getElem?_map, h]
    rfl
  have out : ∀ i, (∀ a, a < wc.length → zsh n a ≠ i) → i < n ∨ n + wc.length ≤ i := by
    intro i h
    by_cases q : i < n
    · exact Or.inl q
    · refine Or.inr (Nat.not_lt.mp fun q2 => h (i - n) (by omega) (by show i - n + n = i; omega))
  refine ⟨get wc, fun a b _ _ h => by have h : a + n = b + n := h; omega, fun a h => by have h : a + n = v + n := h; omega, hl, by simp [hl], get wc', fun i h => ?_, fun i c h hi => ?_⟩
  · rcases out i h with q | q
    · rw [List.getElem?_append_left (by omega), List.getElem?_append_left (by omega)]
    · rw [List.getElem?_append_right (l₁ := wa) (by omega), List.getElem?_append_right (l₁ := wa) (by omega), List.getElem?_append_right (l₁ := wc'.map (zrC (zsh n))) (by rw [List.length_map]; omega), List.getElem?_append_right (l₁ := wc.map (zrC (zsh n))) (by rw [List.length_map]; omega), List.length_map, List.length_map, hl]
  · rcases out i hi with q | q
    · rw [List.getElem?_append_left (by omega)] at h
      exact ⟨ha c (List.mem_of_getElem? h), by show i ≠ v + n; omega⟩
    · have hlt := (List.getElem?_eq_some_iff.mp h).1
      rw [List.length_append, List.length_append, List.length_map] at hlt
      rw [List.getElem?_append_right (by omega), List.getElem?_append_right (by rw [List.length_map]; omega)] at h
      exact ⟨hr c (List.mem_of_getElem? h), by show i ≠ v + n; omega⟩
def zf92 : Nat → Nat := fun k => if k < 76 then k else k + 16
theorem zf92_lt {k : Nat} (h : k < 76) : zf92 k = k := if_pos h
theorem zf92_ge {k : Nat} (h : ¬ k < 76) : zf92 k = k + 16 := if_neg h
theorem zf92_inj {a b : Nat} (h : zf92 a = zf92 b) : a = b := by
  unfold zf92 at h
  split at h <;> split at h <;> omega
theorem zFr_ends {wa wa' wm : List zAC} {c0 c0' : zAC} (h1 : wa.length = 76) (h2 : wa'.length = 76) (h3 : wm.length = 16) (ha : ∀ c ∈ wa, zlC 76 c = true) (ha' : ∀ c ∈ wa', zlC 76 c = true) (hc0 : zrC zf92 c0 = c0) (hc0' : zrC zf92 c0' = c0') (hm : ∀ c ∈ wm, zfC 42 c = true) :
    zFrm (wa ++ (wm ++ [c0])) (wa ++ [c0]) (wa' ++ [c0']) (wa' ++ (wm ++ [c0'])) zf92 42 := by
  have get : ∀ (wx : List zAC) (cx : zAC), wx.length = 76 → (∀ c ∈ wx, zlC 76 c = true) → zrC zf92 cx = cx → ∀ a c, (wx ++ [cx])[a]? = some c → (wx ++ (wm ++ [cx]))[zf92 a]? = some (zrC zf92 c) := by
    intro wx cx g1 g2 g3 a c h
    by_cases q : a < 76
    · rw [List.getElem?_append_left (by omega)] at h
      rw [zf92_lt q, List.getElem?_append_left (by omega), h, zrC_lt (fun k hk => zf92_lt hk) (g2 c (List.mem_of_getElem? h))]
    · have hlt := (List.getElem?_eq_some_iff.mp h).1
      rw [List.length_append, List.length_singleton] at hlt
      have e : a = 76 := by omega
      subst e
      rw [List.getElem?_append_right (by omega), g1] at h
      have h : some cx = some c := h
      cases h
      rw [zf92_ge q, List.getElem?_append_right (by omega), List.getElem?_append_right (by omega), g1, h3, g3]
      rfl
  have out : ∀ i, (∀ a, a < (wa ++ [c0]).length → zf92 a ≠ i) → 76 ≤ i ∧ i ≠ 92 := by
    intro i h
    rw [List.length_append, List.length_singleton, h1] at h
    refine ⟨Nat.not_lt.mp fun q => h i (by omega) (zf92_lt q), fun q => h 76 (by omega) (by rw [q]; rfl)⟩
  refine ⟨get wa c0 h1 ha hc0, fun a b _ _ h => zf92_inj h, fun a h => zf92_inj h, by simp [h1, h2], by simp [h1, h2], get wa' c0' h2 ha' hc0', fun i h => ?_, fun i c h hi => ?_⟩
  · obtain ⟨q1, q2⟩ := out i h
    rw [List.getElem?_append_right (l₁ := wa') (by omega), List.getElem?_append_right (l₁ := wa) (by omega), h1, h2]
    by_cases q : i < 92
    · rw [List.getElem?_append_left (by omega), List.getElem?_append_left (by omega)]
    · rw [List.getElem?_eq_none (by simp; omega), List.getElem?_eq_none (by simp; omega)]
  · obtain ⟨q1, q2⟩ := out i hi
    have hlt := (List.getElem?_eq_some_iff.mp h).1
    rw [List.length_append, List.length_append, List.length_singleton, h1, h3] at hlt
    rw [List.getElem?_append_right (by omega), List.getElem?_append_left (by omega)] at h
    exact ⟨hm c (List.mem_of_getElem? h), fun q => by have q : i = 42 := q; omega⟩
/-- what a part of a world brings along -/
theorem zsubW {G : zG} {A : Nat → Prop} {ad f : Nat → Nat} {w wc : List zAC} {H : Heap} (hP : va_P (zD G) zCl (zeW G.2.2 ad 0 w) H) (hD : va_D A (zeW G.2.2 ad 0 w)) (hW : zokW w) (hs : ∀ a c, wc[a]? = some c → w[f a]? = some (zrC f c)) (hnd : ∀ a b, a < wc.length → b < wc.length → f a = f b → a = b) :
    zokW wc ∧ va_P (zD G) zCl (zeW G.2.2 (fun k => ad (f k)) 0 wc) H ∧ va_D (fun _ => True) (zeW G.2.2 (fun k => ad (f k)) 0 wc) ∧ ((∀ q : Nat, H.size ≤ q → A q) → ∀ q : Nat, va_A (zeW G.2.2 (fun k => ad (f k)) 0 wc) H.size q → A q) ∧ ∀ i, i < w.length → (∀ a, a < wc.length → f a ≠ i) → ad i < H.size ∧ ¬ va_A (zeW G.2.2 (fun k => ad (f k)) 0 wc) H.size (ad i) := by
  obtain ⟨hD1, hD2⟩ := va_D_zeW.mp hD
  have hfT : ∀ a, a < wc.length → f a < w.length := fun a ha => (List.getElem?_eq_some_iff.mp (hs a _ (List.getElem?_eq_getElem ha))).1
  refine ⟨fun x hx => ?_, va_P_zeW.mpr fun i x hi => ?_, va_D_zeW.mpr ⟨fun i j hi hj hij => hnd i j hi hj (hD1 _ _ (hfT i hi) (hfT j hj) hij), fun _ _ => True.intro⟩, fun hA q hq => ?_, fun i hi hne => ?_⟩
  · obtain ⟨a, ha⟩ := List.getElem?_of_mem hx
    exact zokC_rC.mp (hW.at (hs a x ha))
  · have h1 := va_P_zeW.mp hP (f i) _ (hs i x hi)
    rw [zeC_rC] at h1
    exact h1
  · rcases va_A_zeW.mp hq with ⟨i, hi, rfl⟩ | hq
    · exact hD2 (f i) (hfT i hi)
    · exact hA q hq
  · have hlt := (va_P_zeW.mp hP i _ (List.getElem?_eq_getElem hi)).lt
    refine ⟨hlt, fun h => ?_⟩
    rcases va_A_zeW.mp h with ⟨a, ha, he⟩ | h
    · exact hne a ha (hD1 _ _ (hfT a ha) hi he.symm)
    · exact absurd hlt (Nat.not_lt.mpr h)
/-- a call of a method that stands on facts -/
def zRunQ (Φ : zFc) (M : zM) (R : Room) (mcc msc pc : Nat) (w wc : List zAC) (L : List (Option zAV)) (st rest : List zAV) (f : Nat → Nat) (P1 : Nat → Prop) (Q1 : zQ) : Prop :=
  ∀ (G : zG) (p : Program) (l : Launch) (e : Env) (S : State) (m : MethodId) (args : Array Value) (below : List Frame) (meth : Method) (c : Code) (A : Nat → Prop) (P : Nat → Prop) (ad0 ad : Nat → Nat) (H : Heap) (locs : List Loc) (ls : Array Slot) (uc us : Nat),
    zHd M G P p S m args meth c A ad0 ad H locs ls L st w → Φ l A S → uc + mcc ≤ R.cells → us + msc ≤ R.slots →
    ∃ a : Array Value, va_Run p l e R S m args below meth c H locs uc us mcc msc (F0 m pc ls (st.map (zeV ad))) (rest.map (zeV ad)) (zQc G (va_A (zeW G.2.2 (fun k => ad (f k)) 0 wc) H.size) (fun k => ad (f k)) P1 Q1 a) (va_A (zeW G.2.2 (fun k => ad (f k)) 0 wc) H.size)
set_option maxHeartbeats 1000000 in
theorem zg_callW {Φ : zFc} {M : zM} {R : Room} {mcc msc v pc uc us : Nat} {F : zF} {P P1 : Nat → Prop} {L : List (Option zAV)} {st rest : List zAV} {w wc wc' w' : List zAC} {f : Nat → Nat} {r : Option zAV}
    (hrun : zRunQ Φ M R mcc msc pc w wc L st rest f P1 (fun r' w1 => r' = r ∧ w1 = wc')) (hfr : zFrm w wc wc' w' f v) (hP1 : ∀ k, k ≠ v → P1 k) (hsub : ∀ x ∈ rest, x ∈ st)
    (hPv : ∀ k, P k → k ≠ f v) (hL0 : zfL (f v) L = true) (hR0 : zfS (f v) rest = true) (huc : uc + mcc ≤ R.cells) (hus : us + msc ≤ R.slots)
    (kk : zB M R (zFE Φ F) P (pc + 3) L ((r.map (zrn f)).toList ++ rest) w' (uc + mcc) (us + msc)) : zB M R (zFE Φ F) P pc L st w uc us := by
  refine zr_with fun G p l e S m args below meth c A ad0 ad H locs ls hf hh => ?_
  have hh0 := hh
  obtain ⟨hcx, hag, hL, hSt, hW, hv, hP, hD, hSS⟩ := hh
  obtain ⟨g1, g2, g3, g4, g5, g6, g7, g8⟩ := hfr
  have hcx0 := hcx
  obtain ⟨hx1, hb, -, -, -, hown, hts, hmi, hK, hA, hNk⟩ := hcx
  obtain ⟨-, -, -, hfree, hapart⟩ := zsubW hP hD hW g1 g2
  obtain ⟨hD1, hD2⟩ := va_D_zeW.mp hD
  have hfree := hfree (fun q hq => hA q (Nat.le_trans hSS.1 hq))
  obtain ⟨a0, hrun⟩ := hrun G p l e S m args below meth c A P ad0 ad H locs ls uc us hh0 hf huc hus
  refine zw_call hrun hSS hfree ?_
  intro r1 w1 ad1 t H1 locs1 ht hal hq hrok hwok hag1 hP2 hDD1 hsz hkeep hSS1
  obtain ⟨rfl, rfl⟩ := hq
  obtain ⟨hE1, hE2⟩ := va_D_zeW.mp hDD1
  have h2f : ∀ a, zad ad (f v) (ad1 v) (f a) = ad1 a := by
    intro a
    show (if f a = f v then ad1 v else ad (f a)) = ad1 a
    by_cases h : f a = f v
    · rw [if_pos h, g3 a h]
    · rw [if_neg h, hag1 a (hP1 a (fun q => h (by rw [q])))]
  have h2n : ∀ i, i ≠ f v → zad ad (f v) (ad1 v) i = ad i := fun i h => if_neg h
  have e2f : (fun k => zad ad (f v) (ad1 v) (f k)) = ad1 := funext h2f
  have hcs : ∀ i, (∃ a, a < wc.length ∧ f a = i) ∨ ∀ a, a < wc.length → f a ≠ i := by
    intro i
    by_cases h : ∃ a, a < wc.length ∧ f a = i
    · exact Or.inl h
    · exact Or.inr fun a q1 q2 => h ⟨a, q1, q2⟩
  have hcase : ∀ i, i < w.length → (∃ a, a < wc.length ∧ f a = i ∧ zad ad (f v) (ad1 v) i = ad1 a) ∨ ((∀ a, a < wc.length → f a ≠ i) ∧ zad ad (f v) (ad1 v) i = ad i) := by
    intro i hi
    rcases hcs i with ⟨a, h1, h2⟩ | h
    · exact Or.inl ⟨a, h1, h2, by rw [← h2]; exact h2f a⟩
    · exact Or.inr ⟨h, h2n i (g8 i _ (List.getElem?_eq_getElem hi) h).2⟩
  have hE2' : ∀ a, a < wc.length → va_A (zeW G.2.2 (fun k => ad (f k)) 0 wc) H.size (ad1 a) := fun a ha => hE2 a (by rw [g4]; exact ha)
  have hget : ∀ i x, w'[i]? = some x → (∃ a c1, f a = i ∧ w1[a]? = some c1 ∧ x = zrC f c1) ∨ ((∀ a, a < wc.length → f a ≠ i) ∧ w[i]? = some x) := by
    intro i x hi
    rcases hcs i with ⟨a, h1, h2⟩ | h
    · have h3 := g6 a _ (List.getElem?_eq_getElem (show a < w1.length by rw [g4]; exact h1))
      rw [h2, hi] at h3
      exact Or.inl ⟨a, w1[a], h2, List.getElem?_eq_getElem _, Option.some.inj h3⟩
    · exact Or.inr ⟨h, by rw [← g7 i h]; exact hi⟩
  have k1 := kk G p l e S m args below meth c A ad0 (zad ad (f v) (ad1 v)) H1 locs1 ls ⟨hcx0, fun k hk => by rw [h2n k (hPv k hk)]; exact hag k hk, hL, ?_, ?_, by rw [zeL_fr hL0]; exact hv, ?_, ?_, hSS1⟩
  · have e1 : (r1.map (zeV ad1)).toList ++ rest.map (zeV ad) = ((r1.map (zrn f)).toList ++ rest).map (zeV (zad ad (f v) (ad1 v))) := by
      rw [List.map_append, zeS_fr hR0]
      cases r1 with
      | none => rfl
      | some x =>
        simp only [Option.map_some, Option.toList_some, List.map_cons, List.map_nil]
        rw [zeV_rn, e2f]
    rw [e1]
    exact k1
  · intro x hx2
    rcases List.mem_append.mp hx2 with h | h
    · cases r1 with
      | none => cases h
      | some u =>
        simp only [Option.map_some, Option.toList_some, List.mem_singleton] at h
        rw [h]
        exact zokV_rn.mpr (hrok u rfl).v
    · exact hSt x (hsub x h)
  · intro x hx
    obtain ⟨i, hi⟩ := List.getElem?_of_mem hx
    rcases hget i x hi with ⟨a, c1, -, h2, rfl⟩ | ⟨-, h⟩
    · exact zokC_rC.mpr (hwok.at h2)
    · exact hW.at h
  · refine va_P_zeW.mpr fun i x hi => ?_
    rcases hget i x hi with ⟨a, c1, rfl, h2, rfl⟩ | ⟨h1, h⟩
    · rw [h2f, zeC_rC, e2f]
      exact va_P_zeW.mp hP2 a c1 h2
    · obtain ⟨q1, q2⟩ := g8 i x h h1
      rw [h2n i q2, zeC_fr q1]
      obtain ⟨q3, q4⟩ := hapart i (List.getElem?_eq_some_iff.mp h).1 h1
      exact (va_P_zeW.mp hP i x h).kept (hkeep _ q3 q4)
  · refine va_D_zeW.mpr ⟨fun i j hi hj hij => ?_, fun i hi => ?_⟩
    · rw [g5] at hi hj
      rcases hcase i hi with ⟨a, a1, a2, a3⟩ | ⟨a1, a2⟩
      · rcases hcase j hj with ⟨b0, b1, b2, b3⟩ | ⟨b1, b2⟩
        · rw [a3, b3] at hij
          have := hE1 a b0 (by rw [g4]; exact a1) (by rw [g4]; exact b1) hij
          rw [← a2, ← b2, this]
        · rw [a3, b2] at hij
          have h9 := hE2' a a1
          rw [hij] at h9
          exact absurd h9 (hapart j hj b1).2
      · rcases hcase j hj with ⟨b0, b1, b2, b3⟩ | ⟨b1, b2⟩
        · rw [a2, b3] at hij
          have h9 := hE2' b0 b1
          rw [← hij] at h9
          exact absurd h9 (hapart i hi a1).2
        · rw [a2, b2] at hij
          exact hD1 i j hi hj hij
    · rw [g5] at hi
      rcases hcase i hi with ⟨a, a1, a2, a3⟩ | ⟨a1, a2⟩
      · rw [a3]
        exact hfree _ (hE2' a a1)
      · rw [a2]
        exact hD2 i hi
/-! facts that go on -/
def zMv (Φ φ : zFc) : Prop := ∀ (l : Launch) (A A' : Nat → Prop) (s U : State) (H : Heap) (locs : List Loc), Φ l A s → va_S A s.heap H locs → s.WarmedH U.vm → U.heap = H → (∀ q, A' q → A q) → φ l A' U
def zTrv : zFc := fun _ _ _ => True
theorem zMv_tr {Φ : zFc} : zMv Φ zTrv := fun _ _ _ _ _ _ _ _ _ _ _ _ => True.intro
theorem zMv.bl {φ : zFc} (h : zMv φ φ) {l : Launch} {A : Nat → Prop} {U : State} {g : JFrame} {mk : MethodId} {a : Array Value} (hU : φ l A U) : φ l A (U.calling g mk a) :=
  h l A A U (U.calling g mk a) U.heap [] hU va_S.rf (State.WarmedH.refl U) rfl (fun _ q => q)
theorem zpre_bl {φ : zFc} (h : zMv φ φ) {G : zG} {ad : Nat → Nat} {w : List zAC} {sz : Nat} {av : List Value} {l : Launch} {A : Nat → Prop} : FrameBlind (va_Pc av (fun U => zPre G ad w sz U ∧ φ l A U)) := by
  intro a U g mk q
  obtain ⟨q0, q1, q2⟩ := q
  exact ⟨q0, (zPre_blind (av := av) a U g mk ⟨q0, q1⟩).2, h.bl q2⟩
theorem zSpec.F {d mc ms : Nat} {P : Nat → Prop} {M : zM} {av : List zAV} {w : List zAC} {Q : zQ} (h : zSpec d P mc ms M av w Q) : zSpecF zTrv d P mc ms M av w Q := by
  intro h1 h2 G l ad sz
  have e : (fun U => zPre G ad w sz U ∧ zTrv l (va_A (zeW G.2.2 ad 0 w) sz) U) = zPre G ad w sz := funext fun U => propext ⟨fun q => q.1, fun q => ⟨q, True.intro⟩⟩
  rw [e]
  exact h h1 h2 G l ad sz
theorem zRunQ_of {Φ φ : zFc} {M Mc : zM} {R : Room} {d' mcc msc pc : Nat} {w wc : List zAC} {L : List (Option zAV)} {st rest : List zAV} {f : Nat → Nat} {av : List zAV} {P1 : Nat → Prop} {Q1 : zQ}
    (hrun : zRunW M Mc R d' mcc msc pc w L st rest f av) (hS : zSpecF φ d' P1 mcc msc Mc av wc Q1) (hΦ : zMv Φ φ) (hφ : zMv φ φ) (hs : ∀ a c, wc[a]? = some c → w[f a]? = some (zrC f c)) (hnd : ∀ a b, a < wc.length → b < wc.length → f a = f b → a = b)
    (hst : (av.map (zrn f)).reverse ++ rest = st) (hnl : znlb av = true) : zRunQ Φ M R mcc msc pc w wc L st rest f P1 Q1 := by
  intro G p l e S m args below meth c A P ad0 ad H locs ls uc us hh hf huc hus
  have hh0 := hh
  obtain ⟨⟨hx1, hb, -, -, -, hown, hts, hmi, hK, hA, hNk⟩, hag, hL, hSt, hW, hv, hP, hD, hSS⟩ := hh
  obtain ⟨k1, k2, k3, k4, -⟩ := zsubW hP hD hW hs hnd
  have hav : ∀ x ∈ av, zokN x := by
    intro x hx2
    refine znl hnl x hx2 ((zokV_rn (f := f)).mp (hSt (zrn f x) ?_))
    rw [← hst]
    exact List.mem_append_left _ (List.mem_reverse.mpr (List.mem_map_of_mem hx2))
  exact ⟨_, hrun G p l e S m args below meth c A P ad0 ad H locs ls uc us _ _ _ hh0 (hS hav k1 G l (fun k => ad (f k)) H.size) (zpre_bl hφ) (fun U hU hWm => ⟨rfl, ⟨by rw [hU], by rw [hU]; exact k2, va_K.moved hWm.alike hK, k3, hNk.warm hWm⟩, hΦ l A _ S U H locs hf hSS hWm hU (k4 fun q hq => hA q (Nat.le_trans hSS.1 hq))⟩) huc hus⟩
theorem zrun_VW {M Mc : zM} {d d' mc ms mcc msc pc : Nat} {w : List zAC} {L : List (Option zAV)} {st rest : List zAV} {f : Nat → Nat} {as : List zAV} {idx ci n a0 : Nat} {fs : List zAV} (hdg : decode M.2.1 pc = .ok (.invokevirtual idx, 3)) (hl : zLV M.1.cls idx ci n Mc) (hi : w[f a0]? = some (.inl (ci, fs))) (hn : as.length = n) (hd : d' + 1 ≤ d) (hml : Mc.2.2.1 ≤ 20) (hst : ((.inr (.inl (some a0)) :: as).map (zrn f)).reverse ++ rest = st) (hrest : (rest.map zcat).sum ≤ 8) :
    zRunW M Mc (zR d mc ms) d' mcc msc pc w L st rest f (.inr (.inl (some a0)) :: as) := by
  intro G p l e S m args below meth c A P ad0 ad H locs ls uc us Pc Qc free hh hM hbl hpc huc hus
  obtain ⟨C, T1, N, hc, hw, hcode, hcl⟩ := hl
  obtain ⟨hcx, hag, hL, hSt, hW, hv, hP, hD, hSS⟩ := hh
  obtain ⟨hx1, hb, hmlx, -, -, hown, hts, hmi, hK, hA, hNk⟩ := hcx
  have e1 := zeW_at (cA := G.2.2) (ad := ad) hi
  have hr := va_recv hK hP hc e1
  have hgood : GoodIn zGW (wsV M.1.cls idx C Mc.1 (zws Mc)) := goodIn_app (fun x hx => zGW_good x (hw x hx)) (zws_in hcode)
  exact va_runV (b := ad (f a0)) (As := as.map (zeV (fun k => ad (f k)))) (rest := rest.map (zeV ad)) ⟨hx1, hb, hmlx, hown, hts⟩ hM (cwV n hts hgood rfl rfl rfl hcl (zroom hd hml)) ⟨hbl, hr, hpc⟩ rfl (by rw [List.length_map]; exact hn) hv.1 (by rw [← hst, zst_map]; simp [zeV]) (lv_room (by rw [zcat_sum]; exact hrest)) hdg ⟨huc, hus⟩
theorem zMv_lw : zMv zLw zLw := fun _ _ _ _ _ _ _ h hS hW hU hA => zLw_go h hS hW hU hA
