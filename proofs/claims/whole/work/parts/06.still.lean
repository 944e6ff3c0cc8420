/-! ===== a still picture: objects and arrays by their places; s.1 i k: the number in field k of object i (s.1 i 0 of an array: its length), s.2 i: what array i holds ===== -/
abbrev zSt : Type := (Nat → Nat → Int) × (Nat → Int → Int)
abbrev zTC : Type := (Nat × List (Option Nat)) ⊕ Nat
def ziF (s : zSt) (i : Nat) : Nat → List (Option Nat) → List zAV
  | _, [] => []
  | k, none :: fs => .inl (s.1 i k) :: ziF s i (k + 1) fs
  | k, some r :: fs => .inr (.inl (some r)) :: ziF s i (k + 1) fs
def ziC (s : zSt) (i : Nat) : zTC → zAC
  | .inl o => .inl (o.1, ziF s i 0 o.2)
  | .inr tk => .inr (tk, (s.1 i 0).toNat, s.2 i)
def ziT (s : zSt) : Nat → List zTC → List zAC
  | _, [] => []
  | i, c :: T => ziC s i c :: ziT s (i + 1) T
def uS (s : zSt) (i k : Nat) (x : Int) : zSt := (fun a b => if a = i then (if b = k then x else s.1 a b) else s.1 a b, s.2)
def uA (s : zSt) (i : Nat) (f : Int → Int) : zSt := (s.1, fun a => if a = i then f else s.2 a)
abbrev uE (s : zSt) (i : Nat) (x v : Int) : zSt := uA s i (zup (s.2 i) x v)
theorem ziT_get (s : zSt) : ∀ (T : List zTC) (i k : Nat), (ziT s i T)[k]? = (T[k]?).map (ziC s (i + k))
  | [], i, k => by simp [ziT]
  | c :: T, i, 0 => by simp [ziT]
  | c :: T, i, k + 1 => by
    simp only [ziT, List.getElem?_cons_succ]
    rw [ziT_get s T (i + 1) k, show i + 1 + k = i + (k + 1) by omega]
theorem ziT_at {s : zSt} {T : List zTC} {k : Nat} {c : zTC} (h : T[k]? = some c) : (ziT s 0 T)[k]? = some (ziC s k c) := by
  rw [ziT_get, h]; simp
theorem ziT_len (s : zSt) : ∀ (T : List zTC) (i : Nat), (ziT s i T).length = T.length
  | [], i => rfl
  | c :: T, i => by simp [ziT, ziT_len s T (i + 1)]
theorem ziF_get (s : zSt) (i : Nat) : ∀ (fs : List (Option Nat)) (k j : Nat), (ziF s i k fs)[j]? = (fs[j]?).map (fun o => match o with | none => .inl (s.1 i (k + j)) | some r => .inr (.inl (some r)))
  | [], k, j => by simp [ziF]
  | none :: fs, k, 0 => by simp [ziF]
  | some r :: fs, k, 0 => by simp [ziF]
  | none :: fs, k, j + 1 => by
    simp only [ziF, List.getElem?_cons_succ]
    rw [ziF_get s i fs (k + 1) j, show k + 1 + j = k + (j + 1) by omega]
  | some r :: fs, k, j + 1 => by
    simp only [ziF, List.getElem?_cons_succ]
    rw [ziF_get s i fs (k + 1) j, show k + 1 + j = k + (j + 1) by omega]
theorem ziF_len (s : zSt) (i : Nat) : ∀ (fs : List (Option Nat)) (k : Nat), (ziF s i k fs).length = fs.length
  | [], k => rfl
  | none :: fs, k => by simp [ziF, ziF_len s i fs (k + 1)]
  | some r :: fs, k => by simp [ziF, ziF_len s i fs (k + 1)]
/-- pictures that agree on an object's numbers -/
theorem ziC_cong {s t : zSt} {i : Nat} {c : zTC} (h1 : ∀ k, s.1 i k = t.1 i k) (h2 : s.2 i = t.2 i) : ziC s i c = ziC t i c := by
  cases c with
  | inl o =>
    simp only [ziC]
    congr 2
    refine List.ext_getElem? fun j => ?_
    rw [ziF_get, ziF_get]
    cases o.2[j]? with
    | none => rfl
    | some q => cases q <;> simp [h1]
  | inr tk => simp only [ziC]; rw [h1, h2]
theorem ziT_set {s t : zSt} {T : List zTC} {i : Nat} {c : zTC} (hi : T[i]? = some c) (ho : ∀ a, a ≠ i → (∀ k, s.1 a k = t.1 a k) ∧ s.2 a = t.2 a) : (ziT s 0 T).set i (ziC t i c) = ziT t 0 T := by
  refine List.ext_getElem? fun j => ?_
  by_cases hj : j = i
  · subst hj
    have hlt : j < (ziT s 0 T).length := by rw [ziT_len]; exact (List.getElem?_eq_some_iff.mp hi).1
    rw [List.getElem?_set_self hlt, ziT_at hi]
  · rw [List.getElem?_set_ne (Ne.symm hj), ziT_get, ziT_get]
    cases T[j]? with
    | none => rfl
    | some q =>
      simp only [Option.map_some, Nat.zero_add]
      rw [ziC_cong (ho j hj).1 (ho j hj).2]
theorem uS_self (s : zSt) (i k : Nat) (x : Int) : (uS s i k x).1 i k = x := by simp [uS]
theorem uS_k {s : zSt} {i k b : Nat} {x : Int} (h : b ≠ k) : (uS s i k x).1 i b = s.1 i b := by simp [uS, h]
theorem uS_a {s : zSt} {i k a : Nat} {x : Int} (h : a ≠ i) (b : Nat) : (uS s i k x).1 a b = s.1 a b := by simp [uS, h]
theorem uA_self (s : zSt) (i : Nat) (f : Int → Int) : (uA s i f).2 i = f := by simp [uA]
theorem uA_a {s : zSt} {i a : Nat} {f : Int → Int} (h : a ≠ i) : (uA s i f).2 a = s.2 a := by simp [uA, h]
theorem ziT_uS {s : zSt} {T : List zTC} {i ci k : Nat} {fs : List (Option Nat)} {x : Int} (hi : T[i]? = some (.inl (ci, fs))) (hk : fs[k]? = some none) : (ziT s 0 T).set i (.inl (ci, (ziF s i 0 fs).set k (.inl x))) = ziT (uS s i k x) 0 T := by
  rw [← ziT_set (s := s) (t := uS s i k x) hi (fun a ha => ⟨fun b => (uS_a ha b).symm, rfl⟩)]
  congr 1
  simp only [ziC]
  congr 2
  refine List.ext_getElem? fun j => ?_
  by_cases hj : j = k
  · subst hj
    have hlt : j < (ziF s i 0 fs).length := by rw [ziF_len]; exact (List.getElem?_eq_some_iff.mp hk).1
    rw [List.getElem?_set_self hlt, ziF_get, hk]
    simp [uS_self]
  · rw [List.getElem?_set_ne (Ne.symm hj), ziF_get, ziF_get]
    cases fs[j]? with
    | none => rfl
    | some q => cases q <;> simp [uS_k hj]
theorem ziT_uE {s : zSt} {T : List zTC} {i tk : Nat} {f : Int → Int} (hi : T[i]? = some (.inr tk)) : (ziT s 0 T).set i (.inr (tk, (s.1 i 0).toNat, f)) = ziT (uA s i f) 0 T := by
  rw [← ziT_set (s := s) (t := uA s i f) hi (fun a ha => ⟨fun b => rfl, (uA_a ha).symm⟩)]
  congr 1
  simp only [ziC]
  rw [uA_self]
  rfl
abbrev zall : Nat → Prop := fun _ => True
section ZT
variable {M : zM} {R : Room} {F : zF} {P : Nat → Prop} {pc uc us : Nat} {L : List (Option zAV)} {st : List zAV} {T : List zTC} {s : zSt}
theorem zt_get {idx ci k i : Nat} {d : String} {fin : Bool} {fs : List (Option Nat)} (hdg : decode M.2.1 pc = .ok (.getfield idx, 3)) (hl : zFL M.1.cls idx ci k d fin) (hi : T[i]? = some (.inl (ci, fs))) (hk : fs[k]? = some none)
    (kk : zB M R F P (pc + 3) L (.inl (s.1 i k) :: st) (ziT s 0 T) uc us) : zB M R F P pc L (.inr (.inl (some i)) :: st) (ziT s 0 T) uc us :=
  zr_get hdg hl (ziT_at hi) (by rw [ziF_get, hk]; simp) kk
theorem zt_getr {idx ci k i r : Nat} {d : String} {fin : Bool} {fs : List (Option Nat)} (hdg : decode M.2.1 pc = .ok (.getfield idx, 3)) (hl : zFL M.1.cls idx ci k d fin) (hi : T[i]? = some (.inl (ci, fs))) (hk : fs[k]? = some (some r))
    (kk : zB M R F P (pc + 3) L (.inr (.inl (some r)) :: st) (ziT s 0 T) uc us) : zB M R F P pc L (.inr (.inl (some i)) :: st) (ziT s 0 T) uc us :=
  zr_get hdg hl (ziT_at hi) (by rw [ziF_get, hk]; simp) kk
theorem zin_of_st {x : Int} {w : List zAC} (kk : zin x → zB M R F P pc L (.inl x :: st) w uc us) : zB M R F P pc L (.inl x :: st) w uc us :=
  fun G p l e s m args below meth c A ad0 ad H locs ls hh => kk hh.2.2.2.1.hd G p l e s m args below meth c A ad0 ad H locs ls hh
theorem zt_put {idx ci k i : Nat} {fs : List (Option Nat)} {x : Int} (hdg : decode M.2.1 pc = .ok (.putfield idx, 3)) (hl : zFL M.1.cls idx ci k "I" false) (hi : T[i]? = some (.inl (ci, fs))) (hk : fs[k]? = some none)
    (kk : zB M R F P (pc + 3) L st (ziT (uS s i k x) 0 T) uc us) : zB M R F P pc L (.inl x :: .inr (.inl (some i)) :: st) (ziT s 0 T) uc us :=
  zin_of_st fun hx => zr_put (ty := .int) hdg hl (ziT_at hi) (by rw [ziF_len]; exact (List.getElem?_eq_some_iff.mp hk).1) (by decide +kernel) hx (fun ad => ⟨rfl, rfl⟩) (ziT_uS hi hk) kk
theorem zt_putz {idx ci k i : Nat} {fs : List (Option Nat)} {x : Int} (hdg : decode M.2.1 pc = .ok (.putfield idx, 3)) (hl : zFL M.1.cls idx ci k "Z" false) (hi : T[i]? = some (.inl (ci, fs))) (hk : fs[k]? = some none) (hx : x = 0 ∨ x = 1)
    (kk : zB M R F P (pc + 3) L st (ziT (uS s i k x) 0 T) uc us) : zB M R F P pc L (.inl x :: .inr (.inl (some i)) :: st) (ziT s 0 T) uc us :=
  zr_put (ty := .boolean) hdg hl (ziT_at hi) (by rw [ziF_len]; exact (List.getElem?_eq_some_iff.mp hk).1) (by decide +kernel) (show zin x by rcases hx with rfl | rfl <;> decide) (fun ad => by rcases hx with rfl | rfl <;> exact ⟨rfl, rfl⟩) (ziT_uS hi hk) kk
theorem zlen_of {i : Nat} {x : Int} (h : 0 ≤ x ∧ x < s.1 i 0) : 0 ≤ x ∧ x < ((s.1 i 0).toNat : Int) := ⟨h.1, by omega⟩
theorem zt_iaload {i : Nat} {x : Int} (hdg : decode M.2.1 pc = .ok (.iaload, 1)) (hi : T[i]? = some (.inr 0)) (h0 : 0 ≤ x ∧ x < s.1 i 0)
    (kk : zB M R F P (pc + 1) L (.inl (s.2 i x) :: st) (ziT s 0 T) uc us) : zB M R F P pc L (.inl x :: .inr (.inl (some i)) :: st) (ziT s 0 T) uc us :=
  zr_iaload hdg (ziT_at hi) (zlen_of h0) kk
theorem zt_baload {i : Nat} {x : Int} (hdg : decode M.2.1 pc = .ok (.baload, 1)) (hi : T[i]? = some (.inr 1)) (h0 : 0 ≤ x ∧ x < s.1 i 0)
    (kk : zB M R F P (pc + 1) L (.inl (s.2 i x) :: st) (ziT s 0 T) uc us) : zB M R F P pc L (.inl x :: .inr (.inl (some i)) :: st) (ziT s 0 T) uc us :=
  zr_baload hdg (ziT_at hi) (zlen_of h0) kk
theorem zt_iastore {i : Nat} {x v : Int} (hdg : decode M.2.1 pc = .ok (.iastore, 1)) (hi : T[i]? = some (.inr 0)) (h0 : 0 ≤ x ∧ x < s.1 i 0)
    (kk : zB M R F P (pc + 1) L st (ziT (uE s i x v) 0 T) uc us) : zB M R F P pc L (.inl v :: .inl x :: .inr (.inl (some i)) :: st) (ziT s 0 T) uc us :=
  zr_iastore hdg (ziT_at hi) (zlen_of h0) (ziT_uE hi) kk
theorem zt_bastore {i : Nat} {x v : Int} (hdg : decode M.2.1 pc = .ok (.bastore, 1)) (hi : T[i]? = some (.inr 1)) (h0 : 0 ≤ x ∧ x < s.1 i 0) (hb : v = 0 ∨ v = 1)
    (kk : zB M R F P (pc + 1) L st (ziT (uE s i x v) 0 T) uc us) : zB M R F P pc L (.inl v :: .inl x :: .inr (.inl (some i)) :: st) (ziT s 0 T) uc us :=
  zr_bastore hdg (ziT_at hi) (zlen_of h0) hb (ziT_uE hi) kk
theorem zt_alen {i tk : Nat} (hdg : decode M.2.1 pc = .ok (.arraylength, 1)) (hi : T[i]? = some (.inr tk)) (htk : tk < 2) (h0 : 0 ≤ s.1 i 0)
    (kk : zB M R F P (pc + 1) L (.inl (s.1 i 0) :: st) (ziT s 0 T) uc us) : zB M R F P pc L (.inr (.inl (some i)) :: st) (ziT s 0 T) uc us :=
  zr_alen hdg (ziT_at hi) htk (by rw [Int.toNat_of_nonneg h0]; exact kk)
end ZT
/-! a method over a still picture -/
def zSpecT (d : Nat) (M : zM) (av : List zAV) (T : List zTC) (s : zSt) (r : Option zAV) (s' : zSt) : Prop := zSpec d zall 0 0 M av (ziT s 0 T) (fun r' w' => r' = r ∧ w' = ziT s' 0 T)
abbrev zFt (T : List zTC) (r : Option zAV) (s' : zSt) : zF := zFq 0 0 zall (fun r' w' => r' = r ∧ w' = ziT s' 0 T)
abbrev zBT (d : Nat) (M : zM) (T : List zTC) (r : Option zAV) (s' : zSt) (pc : Nat) (L : List (Option zAV)) (st : List zAV) (s : zSt) : Prop := zB M (zR d 0 0) (zFt T r s') zall pc L st (ziT s 0 T) 0 0
theorem zt_iret {d : Nat} {M : zM} {T : List zTC} {s : zSt} {pc : Nat} {L : List (Option zAV)} {x : Int} (hdg : decode M.2.1 pc = .ok (.ireturn, 1)) (hret : M.2.2.2 = some .int) : zBT d M T (some (.inl x)) s pc L [.inl x] s := zr_iret hdg hret (Nat.le_refl _) (Nat.le_refl _) ⟨rfl, rfl⟩
theorem zt_zret {d : Nat} {M : zM} {T : List zTC} {s : zSt} {pc : Nat} {L : List (Option zAV)} {x : Int} (hdg : decode M.2.1 pc = .ok (.ireturn, 1)) (hret : M.2.2.2 = some .boolean) (hx : x = 0 ∨ x = 1) : zBT d M T (some (.inl x)) s pc L [.inl x] s := zr_zret hdg hret hx (Nat.le_refl _) (Nat.le_refl _) ⟨rfl, rfl⟩
theorem zt_vret {d : Nat} {M : zM} {T : List zTC} {s : zSt} {pc : Nat} {L : List (Option zAV)} (hdg : decode M.2.1 pc = .ok (.return_, 1)) (hret : M.2.2.2 = none) : zBT d M T none s pc L [] s := zr_vret hdg hret (Nat.le_refl _) (Nat.le_refl _) ⟨rfl, rfl⟩
/-! a call's picture out of its caller's: place a of the callee is place f a of the caller -/
def zrn (f : Nat → Nat) : zAV → zAV
  | .inr (.inl (some k)) => .inr (.inl (some (f k)))
  | v => v
def zrT (f : Nat → Nat) : zTC → zTC
  | .inl o => .inl (o.1, o.2.map (Option.map f))
  | .inr tk => .inr tk
def zsb (f : Nat → Nat) (s : zSt) : zSt := (fun a k => s.1 (f a) k, fun a => s.2 (f a))
/-- back: the first n places of the callee's are the caller's f 0 .. f (n - 1) -/
def zfind (f : Nat → Nat) (i : Nat) : Nat → Option Nat
  | 0 => none
  | n + 1 => if f n = i then some n else zfind f i n
def zpb (f : Nat → Nat) (n : Nat) (s t : zSt) : zSt := (fun i k => match zfind f i n with | some a => t.1 a k | none => s.1 i k, fun i => match zfind f i n with | some a => t.2 a | none => s.2 i)
theorem zfind_some {f : Nat → Nat} {i : Nat} : ∀ {n a : Nat}, zfind f i n = some a → a < n ∧ f a = i
  | 0, a, h => by cases h
  | n + 1, a, h => by
    unfold zfind at h
    by_cases hn : f n = i
    · rw [if_pos hn] at h; cases h; exact ⟨Nat.lt_succ_self _, hn⟩
    · rw [if_neg hn] at h
      have := zfind_some h
      exact ⟨Nat.lt_succ_of_lt this.1, this.2⟩
theorem zfind_none {f : Nat → Nat} {i : Nat} : ∀ {n : Nat}, zfind f i n = none → ∀ a, a < n → f a ≠ i
  | 0, h, a, ha => by omega
  | n + 1, h, a, ha => by
    unfold zfind at h
    by_cases hn : f n = i
    · rw [if_pos hn] at h; cases h
    · rw [if_neg hn] at h
      rcases Nat.lt_succ_iff_lt_or_eq.mp ha with h2 | h2
      · exact zfind_none h a h2
      · rw [h2]; exact hn
