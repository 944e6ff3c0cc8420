/-! ===== GLUE for the printed walks ===== -/
theorem zpos {ρ : Type} {c : Prop} [Decidable c] {x y : Option ρ} {r : ρ} (h : (if c then x else y) = some r) (hc : c) : x = some r := by rw [if_pos hc] at h; exact h
theorem zneg {ρ : Type} {c : Prop} [Decidable c] {x y : Option ρ} {r : ρ} (h : (if c then x else y) = some r) (hc : ¬ c) : y = some r := by rw [if_neg hc] at h; exact h
theorem zchk {ρ : Type} {c : Prop} [Decidable c] {x : Option ρ} {r : ρ} (h : (if c then x else none) = some r) : c ∧ x = some r := by
  by_cases hc : c
  · rw [if_pos hc] at h; exact ⟨hc, h⟩
  · rw [if_neg hc] at h; cases h
theorem zbind {σ ρ : Type} {o : Option σ} {f : σ → Option ρ} {r : ρ} (h : o.bind f = some r) : ∃ x, o = some x ∧ f x = some r := Option.bind_eq_some_iff.mp h
theorem zall3 {P : Cond → Prop} {a b c : Cond} (h1 : P a) (h2 : P b) (h3 : P c) : ∀ x ∈ [a, b, c], P x := by
  intro x hx
  simp only [List.mem_cons, List.not_mem_nil, or_false] at hx
  rcases hx with rfl | rfl | rfl <;> assumption
theorem zall4 {P : Cond → Prop} {a b c d : Cond} (h1 : P a) (h2 : P b) (h3 : P c) (h4 : P d) : ∀ x ∈ [a, b, c, d], P x := by
  intro x hx
  simp only [List.mem_cons, List.not_mem_nil, or_false] at hx
  rcases hx with rfl | rfl | rfl | rfl <;> assumption
def zSub (T Tc : List zTC) (f : Nat → Nat) : Prop := (∀ a c, Tc[a]? = some c → T[f a]? = some (zrT f c)) ∧ ∀ a b, a < Tc.length → b < Tc.length → f a = f b → a = b
theorem zSub_of {T Tc : List zTC} {f : Nat → Nat} (h : (List.range Tc.length).all (fun a => decide (T[f a]? = (Tc[a]?).map (zrT f))) = true) (h2 : va_nd ((List.range Tc.length).map f) = true) : zSub T Tc f := by
  refine ⟨fun a c hc => ?_, fun a b ha hb hab => ?_⟩
  · have ha := (List.getElem?_eq_some_iff.mp hc).1
    have h1 := List.all_eq_true.mp h a (List.mem_range.mpr ha)
    rw [decide_eq_true_eq] at h1
    rw [h1, hc]; rfl
  · refine va_nd_inj _ h2 a b (f a) ?_ ?_
    · simp [ha]
    · simp [hb, hab]
def znlb : List zAV → Bool
  | [] => true
  | .inr (.inr _) :: _ => false
  | .inl _ :: l => znlb l
  | .inr (.inl _) :: l => znlb l
theorem znl : ∀ {av : List zAV}, znlb av = true → ∀ v ∈ av, zokV v → zokN v
  | [], _, v, hv, _ => absurd hv List.not_mem_nil
  | .inr (.inr _) :: l, h, v, hv, ho => by cases h
  | .inl x :: l, h, v, hv, ho => by
    rcases List.mem_cons.mp hv with rfl | hv
    · exact ho
    · exact znl (av := l) h v hv ho
  | .inr (.inl x) :: l, h, v, hv, ho => by
    rcases List.mem_cons.mp hv with rfl | hv
    · exact True.intro
    · exact znl (av := l) h v hv ho
section ZY
variable {M Mc : zM} {d d' mc ms : Nat} {F : zF} {P : Nat → Prop} {pc uc us : Nat} {L : List (Option zAV)} {st rest : List zAV} {T Tc : List zTC} {s s' : zSt} {f : Nat → Nat} {av : List zAV}
theorem zt_calli {x : Int} (hS : zSpecT d' Mc av Tc (zsb f s) (some (.inl x)) s') (hrun : zRunOf M Mc (zR d mc ms) d' 0 0 pc T s L st rest (fun ad k => ad (f k)) av) (hst : (av.map (zrn f)).reverse ++ rest = st) (hnl : znlb av = true)
    (hT : zSub T Tc f) (huc : uc ≤ mc) (hus : us ≤ ms)
    (kk : zB M (zR d mc ms) F P (pc + 3) L (.inl x :: rest) (ziT (zpb f Tc.length s s') 0 T) uc us) : zB M (zR d mc ms) F P pc L st (ziT s 0 T) uc us :=
  zt_call hrun hS hst (znl hnl) hT.1 hT.2 huc hus kk
theorem zt_callv (hS : zSpecT d' Mc av Tc (zsb f s) none s') (hrun : zRunOf M Mc (zR d mc ms) d' 0 0 pc T s L st rest (fun ad k => ad (f k)) av) (hst : (av.map (zrn f)).reverse ++ rest = st) (hnl : znlb av = true)
    (hT : zSub T Tc f) (huc : uc ≤ mc) (hus : us ≤ ms)
    (kk : zB M (zR d mc ms) F P (pc + 3) L rest (ziT (zpb f Tc.length s s') 0 T) uc us) : zB M (zR d mc ms) F P pc L st (ziT s 0 T) uc us :=
  zt_call hrun hS hst (znl hnl) hT.1 hT.2 huc hus kk
theorem zt_callr {x : Nat} (hS : zSpecT d' Mc av Tc (zsb f s) (some (.inr (.inl (some x)))) s') (hrun : zRunOf M Mc (zR d mc ms) d' 0 0 pc T s L st rest (fun ad k => ad (f k)) av) (hst : (av.map (zrn f)).reverse ++ rest = st) (hnl : znlb av = true)
    (hT : zSub T Tc f) (huc : uc ≤ mc) (hus : us ≤ ms)
    (kk : zB M (zR d mc ms) F P (pc + 3) L (.inr (.inl (some (f x))) :: rest) (ziT (zpb f Tc.length s s') 0 T) uc us) : zB M (zR d mc ms) F P pc L st (ziT s 0 T) uc us :=
  zt_call hrun hS hst (znl hnl) hT.1 hT.2 huc hus kk
def zid : Nat → Nat := fun k => k
theorem zfind_id (i : Nat) : ∀ n, zfind zid i n = if i < n then some i else none
  | 0 => rfl
  | n + 1 => by
    unfold zfind
    rw [zfind_id i n]
    unfold zid
    by_cases h : n = i
    · rw [if_pos h, if_pos (by omega), h]
    · rw [if_neg h]
      by_cases h2 : i < n
      · rw [if_pos h2, if_pos (by omega)]
      · rw [if_neg h2, if_neg (by omega)]
theorem zpb_id (T : List zTC) (s t : zSt) : ziT (zpb zid T.length s t) 0 T = ziT t 0 T := by
  refine List.ext_getElem? fun j => ?_
  rw [ziT_get, ziT_get]
  cases hj : T[j]? with
  | none => rfl
  | some q =>
    have hlt := (List.getElem?_eq_some_iff.mp hj).1
    simp only [Option.map_some, Nat.zero_add]
    rw [ziC_cong (s := zpb zid T.length s t) (t := t) (fun k => ?_) ?_]
    · simp [zpb, zfind_id, hlt]
    · simp [zpb, zfind_id, hlt]
theorem zrT_id (c : zTC) : zrT zid c = c := by
  cases c with
  | inl o =>
    simp only [zrT]
    have : (fun x : Option Nat => Option.map zid x) = fun x => x := by
      funext x; cases x <;> rfl
    have h2 : o.2.map (Option.map zid) = o.2 := by
      rw [show (Option.map zid : Option Nat → Option Nat) = id from this, List.map_id]
    rw [h2]
  | inr tk => rfl
theorem zSub_id (T : List zTC) : zSub T T zid := ⟨fun a c h => by rw [zrT_id]; exact h, fun a b _ _ h => h⟩
/-- calls on the very same picture -/
theorem zt_callii {x : Int} (hS : zSpecT d' Mc av T s (some (.inl x)) s') (hrun : zRunOf M Mc (zR d mc ms) d' 0 0 pc T s L st rest (fun ad k => ad (zid k)) av) (hst : (av.map (zrn zid)).reverse ++ rest = st) (hnl : znlb av = true) (huc : uc ≤ mc) (hus : us ≤ ms)
    (kk : zB M (zR d mc ms) F P (pc + 3) L (.inl x :: rest) (ziT s' 0 T) uc us) : zB M (zR d mc ms) F P pc L st (ziT s 0 T) uc us :=
  zt_call (f := zid) hrun hS hst (znl hnl) (zSub_id T).1 (zSub_id T).2 huc hus (by rw [zpb_id]; exact kk)
theorem zt_calliv (hS : zSpecT d' Mc av T s none s') (hrun : zRunOf M Mc (zR d mc ms) d' 0 0 pc T s L st rest (fun ad k => ad (zid k)) av) (hst : (av.map (zrn zid)).reverse ++ rest = st) (hnl : znlb av = true) (huc : uc ≤ mc) (hus : us ≤ ms)
    (kk : zB M (zR d mc ms) F P (pc + 3) L rest (ziT s' 0 T) uc us) : zB M (zR d mc ms) F P pc L st (ziT s 0 T) uc us :=
  zt_call (f := zid) hrun hS hst (znl hnl) (zSub_id T).1 (zSub_id T).2 huc hus (by rw [zpb_id]; exact kk)
theorem zt_callir {x : Nat} (hS : zSpecT d' Mc av T s (some (.inr (.inl (some x)))) s') (hrun : zRunOf M Mc (zR d mc ms) d' 0 0 pc T s L st rest (fun ad k => ad (zid k)) av) (hst : (av.map (zrn zid)).reverse ++ rest = st) (hnl : znlb av = true) (huc : uc ≤ mc) (hus : us ≤ ms)
    (kk : zB M (zR d mc ms) F P (pc + 3) L (.inr (.inl (some x)) :: rest) (ziT s' 0 T) uc us) : zB M (zR d mc ms) F P pc L st (ziT s 0 T) uc us :=
  zt_call (f := zid) hrun hS hst (znl hnl) (zSub_id T).1 (zSub_id T).2 huc hus (by rw [zpb_id]; exact kk)
/-- calls that touch no object: numbers alone -/
theorem zt_call0 {x : Int} (hS : ∀ s0 : zSt, zSpecT d' Mc av [] s0 (some (.inl x)) s0) (hrun : zRunOf M Mc (zR d mc ms) d' 0 0 pc T s L st rest (fun ad k => ad (zid k)) av) (hst : (av.map (zrn zid)).reverse ++ rest = st) (hnl : znlb av = true) (huc : uc ≤ mc) (hus : us ≤ ms)
    (kk : zB M (zR d mc ms) F P (pc + 3) L (.inl x :: rest) (ziT s 0 T) uc us) : zB M (zR d mc ms) F P pc L st (ziT s 0 T) uc us :=
  zt_call (f := zid) (Tc := []) hrun (hS _) hst (znl hnl) (fun a c h => by simp at h) (fun a b h => absurd h (Nat.not_lt_zero a)) huc hus kk
theorem zt_call0v (hS : ∀ s0 : zSt, zSpecT d' Mc av [] s0 none s0) (hrun : zRunOf M Mc (zR d mc ms) d' 0 0 pc T s L st rest (fun ad k => ad (zid k)) av) (hst : (av.map (zrn zid)).reverse ++ rest = st) (hnl : znlb av = true) (huc : uc ≤ mc) (hus : us ≤ ms)
    (kk : zB M (zR d mc ms) F P (pc + 3) L rest (ziT s 0 T) uc us) : zB M (zR d mc ms) F P pc L st (ziT s 0 T) uc us :=
  zt_call (f := zid) (Tc := []) hrun (hS _) hst (znl hnl) (fun a c h => by simp at h) (fun a b h => absurd h (Nat.not_lt_zero a)) huc hus kk
end ZY
abbrev zsh (b : Nat) : Nat → Nat := fun k => k + b
abbrev zsl (l : List Nat) : Nat → Nat := fun k => l.getD k k
/-- the switches' ways -/
def zlk : List (Int × Int) → Int → Int → Int
  | [], dflt, _ => dflt
  | (a, o) :: l, dflt, x => if x = a then o else zlk l dflt x
theorem zlk_eq (dflt x : Int) : ∀ (ps : List (Int × Int)), Op.lookupswitch.offset ps dflt x = zlk ps dflt x
  | [] => rfl
  | (a, o) :: l => by
    rw [Op.lookupswitch.offset_cons, zlk_eq dflt x l]
    show _ = (if x = a then o else zlk l dflt x)
    by_cases h : x = a
    · rw [if_pos h, if_pos h.symm]
    · rw [if_neg h, if_neg (fun q => h q.symm)]
def zlkin (lo hi : Int) (l : List (Int × Int)) : Bool := l.all fun q => decide (lo ≤ q.1) && decide (q.1 ≤ hi)
theorem zlk_out {lo hi dflt x : Int} (h : x < lo ∨ hi < x) : ∀ {l : List (Int × Int)}, zlkin lo hi l = true → zlk l dflt x = dflt
  | [], _ => rfl
  | (a, o) :: l, hl => by
    unfold zlkin at hl
    rw [List.all_cons, Bool.and_eq_true] at hl
    simp only [Bool.and_eq_true, decide_eq_true_eq] at hl
    unfold zlk
    rw [if_neg (by omega)]
    exact zlk_out h hl.2
def ztok (lo hi dflt : Int) (offs : Array Int) (l : List (Int × Int)) : Bool := zlkin lo hi l && (decide (hi = lo + offs.size - 1) && (List.range offs.size).all fun k => decide (offs[k]? = some (zlk l dflt (lo + k))))
section ZSW
variable {M : zM} {R : Room} {F : zF} {P : Nat → Prop} {pc uc us : Nat} {L : List (Option zAV)} {st : List zAV} {w : List zAC} {x dflt : Int}
def zSw (M : zM) (R : Room) (F : zF) (P : Nat → Prop) (pc : Nat) (L : List (Option zAV)) (st : List zAV) (w : List zAC) (uc us : Nat) (l : List (Int × Int)) (dflt x : Int) : Prop := ∃ tgt : Nat, (pc : Int) + zlk l dflt x = (tgt : Int) ∧ zB M R F P tgt L st w uc us
theorem zr_lsw {ps : Array (Int × Int)} {l : List (Int × Int)} {len : Nat} (hdg : decode M.2.1 pc = .ok (.lookupswitch dflt ps, len)) (hp : (ps.toList.zip (ps.toList.drop 1)).all (fun (a, next) => a.1 < next.1) = true) (hl : ps.toList = l) (kk : zSw M R F P pc L st w uc us l dflt x) : zB M R F P pc L (.inl x :: st) w uc us := by
  intro G p l2 e s m args below meth c A ad0 ad H locs ls hh
  obtain ⟨tgt, ht, k⟩ := kk
  have hx := hh.2.2.2.1.hd
  refine lv_lookup (x := Int32.ofInt x) hh.1.1 hh.1.2.1 hdg hp (off := zlk l dflt x) (by rw [zti hx, zlk_eq, hl]) ht (k G p l2 e s m args below meth c A ad0 ad H locs ls ⟨hh.1, hh.2.1, hh.2.2.1, hh.2.2.2.1.tl, hh.2.2.2.2⟩)
theorem zr_tsw {lo hi : Int} {offs : Array Int} {l : List (Int × Int)} {len : Nat} (hdg : decode M.2.1 pc = .ok (.tableswitch dflt lo hi offs, len)) (hl : ztok lo hi dflt offs l = true) (kk : zSw M R F P pc L st w uc us l dflt x) : zB M R F P pc L (.inl x :: st) w uc us := by
  intro G p l2 e s m args below meth c A ad0 ad H locs ls hh
  obtain ⟨tgt, ht, k⟩ := kk
  have hx := hh.2.2.2.1.hd
  have k1 := k G p l2 e s m args below meth c A ad0 ad H locs ls ⟨hh.1, hh.2.1, hh.2.2.1, hh.2.2.2.1.tl, hh.2.2.2.2⟩
  unfold ztok at hl
  simp only [Bool.and_eq_true, decide_eq_true_eq, List.all_eq_true, List.mem_range] at hl
  obtain ⟨h1, h2, h3⟩ := hl
  by_cases ho : x < lo ∨ hi < x
  · rw [zlk_out ho h1] at ht
    exact lv_tableOut (x := Int32.ofInt x) hh.1.1 hh.1.2.1 hdg (by rw [zti hx]; exact ho) ht k1
  · have e := h3 (x - lo).toNat (by omega)
    rw [show lo + ((x - lo).toNat : Int) = x by omega] at e
    exact lv_tableIn (x := Int32.ofInt x) hh.1.1 hh.1.2.1 hdg (by rw [zti hx]; omega) (by rw [zti hx]; omega) (by rw [zti hx]; exact e) ht k1
theorem zr_swc {v o : Int} {l : List (Int × Int)} {tgt : Nat} (ht : (pc : Int) + o = (tgt : Int)) (k1 : x = v → zB M R F P tgt L st w uc us) (k2 : ¬ x = v → zSw M R F P pc L st w uc us l dflt x) : zSw M R F P pc L st w uc us ((v, o) :: l) dflt x := by
  by_cases h : x = v
  · exact ⟨tgt, by unfold zlk; rw [if_pos h]; exact ht, k1 h⟩
  · obtain ⟨t2, h2, k⟩ := k2 h
    exact ⟨t2, by unfold zlk; rw [if_neg h]; exact h2, k⟩
theorem zr_swd {tgt : Nat} (ht : (pc : Int) + dflt = (tgt : Int)) (kk : zB M R F P tgt L st w uc us) : zSw M R F P pc L st w uc us [] dflt x := ⟨tgt, ht, kk⟩
end ZSW
def zfu : Nat := 1000000
theorem z01i {c : Prop} [Decidable c] {x y : Int} (hx : x = 0 ∨ x = 1) (hy : y = 0 ∨ y = 1) : (if c then x else y) = 0 ∨ (if c then x else y) = 1 := by
  by_cases h : c
  · rw [if_pos h]; exact hx
  · rw [if_neg h]; exact hy
def zmask : List Bool → List (Option zAV) → List (Option zAV)
  | true :: m, v :: l => v :: zmask m l
  | false :: m, _ :: l => none :: zmask m l
  | _, _ => []
theorem zmask_at : ∀ (mk : List Bool) (L : List (Option zAV)) (k : Nat) (v : zAV), (zmask mk L)[k]? = some (some v) → L[k]? = some (some v)
  | [], L, k, v, h => by simp [zmask] at h
  | true :: m, [], k, v, h => by simp [zmask] at h
  | false :: m, [], k, v, h => by simp [zmask] at h
  | true :: m, u :: l, 0, v, h => by simpa [zmask] using h
  | false :: m, u :: l, 0, v, h => by simp [zmask] at h
  | true :: m, u :: l, k + 1, v, h => by
    simp only [zmask, List.getElem?_cons_succ] at h
    rw [List.getElem?_cons_succ]
    exact zmask_at m l k v h
  | false :: m, u :: l, k + 1, v, h => by
    simp only [zmask, List.getElem?_cons_succ] at h
    rw [List.getElem?_cons_succ]
    exact zmask_at m l k v h
theorem zr_mask {M : zM} {R : Room} {F : zF} {P : Nat → Prop} {pc uc us : Nat} {L L' : List (Option zAV)} {st : List zAV} {w : List zAC} (mk : List Bool) (hL : zmask mk L = L') (kk : zB M R F P pc L' st w uc us) : zB M R F P pc L st w uc us := by
  intro G p l e s m args below meth c A ad0 ad H locs ls hh
  subst hL
  obtain ⟨h1, h2, h3, h4, h5, h6, h7⟩ := hh
  refine kk G p l e s m args below meth c A ad0 ad H locs ls ⟨h1, h2, fun v hv => ?_, h4, h5, ⟨h6.1, h6.2.1, fun q hq => ?_⟩, h7⟩
  · obtain ⟨k, hk⟩ := List.getElem?_of_mem hv
    exact h3 v (List.mem_of_getElem? (zmask_at mk L k v hk))
  · obtain ⟨k, v, rfl, hk⟩ := zeL_of ad _ 0 q hq
    exact h6.2.2 _ (zeL_mem ad L 0 k v (zmask_at mk L k v hk))
theorem zpb_same (f : Nat → Nat) (n : Nat) (s : zSt) : zpb f n s (zsb f s) = s := by
  obtain ⟨s1, s2⟩ := s
  unfold zpb zsb
  simp only [Prod.mk.injEq]
  constructor
  · funext i k
    split
    · rename_i a h
      rw [(zfind_some h).2]
    · rfl
  · funext i
    split
    · rename_i a h
      rw [(zfind_some h).2]
    · rfl
section ZZ
variable {M Mc : zM} {d d' mc ms : Nat} {F : zF} {P : Nat → Prop} {pc uc us : Nat} {L : List (Option zAV)} {st rest : List zAV} {T Tc : List zTC} {s : zSt} {f : Nat → Nat} {av : List zAV}
/-- calls that only read -/
theorem zt_callis {x : Int} (hS : zSpecT d' Mc av Tc (zsb f s) (some (.inl x)) (zsb f s)) (hrun : zRunOf M Mc (zR d mc ms) d' 0 0 pc T s L st rest (fun ad k => ad (f k)) av) (hst : (av.map (zrn f)).reverse ++ rest = st) (hnl : znlb av = true)
    (hT : zSub T Tc f) (huc : uc ≤ mc) (hus : us ≤ ms)
    (kk : zB M (zR d mc ms) F P (pc + 3) L (.inl x :: rest) (ziT s 0 T) uc us) : zB M (zR d mc ms) F P pc L st (ziT s 0 T) uc us :=
  zt_call hrun hS hst (znl hnl) hT.1 hT.2 huc hus (by rw [zpb_same]; exact kk)
theorem zt_callrs {x : Nat} (hS : zSpecT d' Mc av Tc (zsb f s) (some (.inr (.inl (some x)))) (zsb f s)) (hrun : zRunOf M Mc (zR d mc ms) d' 0 0 pc T s L st rest (fun ad k => ad (f k)) av) (hst : (av.map (zrn f)).reverse ++ rest = st) (hnl : znlb av = true)
    (hT : zSub T Tc f) (huc : uc ≤ mc) (hus : us ≤ ms)
    (kk : zB M (zR d mc ms) F P (pc + 3) L (.inr (.inl (some (f x))) :: rest) (ziT s 0 T) uc us) : zB M (zR d mc ms) F P pc L st (ziT s 0 T) uc us :=
  zt_call hrun hS hst (znl hnl) hT.1 hT.2 huc hus (by rw [zpb_same]; exact kk)
theorem zif_t {c : Prop} [Decidable c] {x y : Int} {w : List zAC} {R : Room} (h : zB M R F P pc L (.inl (if c then x else y) :: st) w uc us) (hc : c) : zB M R F P pc L (.inl x :: st) w uc us := by rw [if_pos hc] at h; exact h
theorem zif_f {c : Prop} [Decidable c] {x y : Int} {w : List zAC} {R : Room} (h : zB M R F P pc L (.inl (if c then x else y) :: st) w uc us) (hc : ¬ c) : zB M R F P pc L (.inl y :: st) w uc us := by rw [if_neg hc] at h; exact h
end ZZ
/-! loops by their steps -/
def zloop {σ ρ : Type} (step : σ → Option (σ ⊕ ρ)) : Nat → σ → Option ρ
  | 0, _ => none
  | n + 1, x => (step x).bind fun o => match o with
    | .inl y => zloop step n y
    | .inr r => some r
def zcont {σ ρ : Type} (B : σ → ρ → Prop) (r : ρ) : σ ⊕ ρ → Prop
  | .inl y => B y r
  | .inr v => v = r
theorem zloop_B {σ ρ : Type} {step : σ → Option (σ ⊕ ρ)} {B : σ → ρ → Prop} (hs : ∀ x o r, step x = some o → zcont B r o → B x r) : ∀ n x r, zloop step n x = some r → B x r
  | 0, x, r, h => by cases h
  | n + 1, x, r, h => by
    obtain ⟨o, ho, h2⟩ := zbind h
    refine hs x o r ho ?_
    cases o with
    | inl y => exact zloop_B hs n y r h2
    | inr v => exact Option.some.inj h2
section ZX
variable {M Mc : zM} {d d' mc ms : Nat} {F : zF} {P : Nat → Prop} {pc uc us : Nat} {L : List (Option zAV)} {st rest : List zAV} {T Tc : List zTC} {s : zSt} {f : Nat → Nat} {av : List zAV}
theorem zt_callisi {x : Int} (hS : zSpecT d' Mc av T s (some (.inl x)) s) (hrun : zRunOf M Mc (zR d mc ms) d' 0 0 pc T s L st rest (fun ad k => ad (zid k)) av) (hst : (av.map (zrn zid)).reverse ++ rest = st) (hnl : znlb av = true) (huc : uc ≤ mc) (hus : us ≤ ms)
    (kk : zB M (zR d mc ms) F P (pc + 3) L (.inl x :: rest) (ziT s 0 T) uc us) : zB M (zR d mc ms) F P pc L st (ziT s 0 T) uc us :=
  zt_callii hS hrun hst hnl huc hus kk
theorem zt_callirs {x : Nat} (hS : zSpecT d' Mc av T s (some (.inr (.inl (some x)))) s) (hrun : zRunOf M Mc (zR d mc ms) d' 0 0 pc T s L st rest (fun ad k => ad (zid k)) av) (hst : (av.map (zrn zid)).reverse ++ rest = st) (hnl : znlb av = true) (huc : uc ≤ mc) (hus : us ≤ ms)
    (kk : zB M (zR d mc ms) F P (pc + 3) L (.inr (.inl (some x)) :: rest) (ziT s 0 T) uc us) : zB M (zR d mc ms) F P pc L st (ziT s 0 T) uc us :=
  zt_callir hS hrun hst hnl huc hus kk
end ZX
/-! copying a stretch of numbers -/
def zcpy (f g : Int → Int) (sp dp n : Int) : Int → Int := fun k => if dp ≤ k ∧ k < dp + n then f (sp + (k - dp)) else g k
abbrev zMc (own : String) (idx : Nat) : Prop := ∀ x ∈ [Cond.methodLink own idx arraycopyName, Cond.native arraycopyName, Cond.static arraycopyName, Cond.initialized "java/lang/System"], x ∈ zGW
theorem zcpy_enc {f g : Int → Int} {sp dp n : Int} (h0 : 0 ≤ sp) (h1 : 0 ≤ dp) (h2 : 0 ≤ n) : (fun k : Nat => Int32.ofInt (zcpy f g sp dp n k)) = va_cpy (fun k : Nat => Int32.ofInt (f k)) (fun k : Nat => Int32.ofInt (g k)) sp.toNat dp.toNat n.toNat := by
  funext k
  unfold zcpy va_cpy
  by_cases hk : dp ≤ (k : Int) ∧ (k : Int) < dp + n
  · rw [if_pos hk, if_pos (by omega), show sp + ((k : Int) - dp) = ((sp.toNat + (k - dp.toNat) : Nat) : Int) by omega]
  · rw [if_neg hk, if_neg (by omega)]
theorem zt_copy {M : zM} {d mc ms : Nat} {F : zF} {P : Nat → Prop} {pc uc us idx i j : Nat} {L : List (Option zAV)} {st : List zAV} {T : List zTC} {s : zSt} {sp dp n : Int} (hdg : decode M.2.1 pc = .ok (.invokestatic idx, 3)) (hl : zMc M.1.cls idx) (hi : T[i]? = some (.inr 0)) (hj : T[j]? = some (.inr 0))
    (hb : (0 ≤ sp ∧ 0 ≤ dp ∧ 0 ≤ n) ∧ sp + n ≤ s.1 i 0 ∧ dp + n ≤ s.1 j 0) (hd : 2 ≤ d) (huc : uc ≤ mc) (hus : us ≤ ms) (hrest : (st.map zcat).sum ≤ 8)
    (kk : zB M (zR d mc ms) F P (pc + 3) L st (ziT (uA s j (zcpy (s.2 i) (s.2 j) sp dp n)) 0 T) uc us) : zB M (zR d mc ms) F P pc L (.inl n :: .inl dp :: .inr (.inl (some j)) :: .inl sp :: .inr (.inl (some i)) :: st) (ziT s 0 T) uc us := by
  intro G p l e S m args below meth c A ad0 ad H locs ls hh
  obtain ⟨hcx, hag, hL, hSt, hW, hv, hP, hD, hSS⟩ := hh
  have hcx0 := hcx
  obtain ⟨hx1, hb1, hmlx, -, -, hown, hts, hmi, hK, hA, hNk⟩ := hcx
  obtain ⟨⟨b1, b2, b3⟩, b4, b5⟩ := hb
  have zn := hSt.hd
  have zdp := hSt.tl.hd
  have zsp := hSt.tl.tl.tl.hd
  have ei := zeW_at (cA := G.2.2) (ad := ad) (ziT_at (s := s) hi)
  have ej := zeW_at (cA := G.2.2) (ad := ad) (ziT_at (s := s) hj)
  have nn : ∀ {z : Int}, zin z → 0 ≤ z → ¬ Int32.ofInt z < 0 := fun hz h0 q => by
    rw [← zof0, zlt hz zin0] at q; omega
  have okf := hW.at (ziT_at (s := s) hi)
  have okg := hW.at (ziT_at (s := s) hj)
  have e2 : (zeW G.2.2 ad 0 (ziT s 0 T)).set j (ad j, .inl (G.2.2 0, (s.1 j 0).toNat, .inl (va_cpy (fun k : Nat => Int32.ofInt (s.2 i k)) (fun k : Nat => Int32.ofInt (s.2 j k)) (Int32.ofInt sp).toNatClampNeg (Int32.ofInt dp).toNatClampNeg (Int32.ofInt n).toNatClampNeg))) = zeW G.2.2 ad 0 (ziT (uA s j (zcpy (s.2 i) (s.2 j) sp dp n)) 0 T) := by
    rw [← ziT_uE hj]
    have := zeW_set G.2.2 ad (.inr (0, (s.1 j 0).toNat, zcpy (s.2 i) (s.2 j) sp dp n)) (ziT s 0 T) 0 j
    rw [Nat.zero_add] at this
    rw [← this, zclamp zsp, zclamp zdp, zclamp zn, ← zcpy_enc b1 b2 b3]
    rfl
  refine va_copyi (D := zD G) hx1 hb1 (hmlx.trans hv.1.symm) hown (hts _ (hl _ (by simp))) (hts _ (hl _ (by simp))) (hts _ (hl _ (by simp))) (hts _ (hl _ (by simp))) hK hP hD hSS i j 0 0 ei ej rfl rfl rfl (nn zsp b1) (nn zdp b2) (nn zn b3) (by rw [zclamp zsp, zclamp zn]; show sp.toNat + n.toNat ≤ (s.1 i 0).toNat; omega) (by rw [zclamp zdp, zclamp zn]; show dp.toNat + n.toNat ≤ (s.1 j 0).toNat; omega) (fun _ _ => rfl) (by show 1 ≤ d; omega) ?_ hdg (fun H1 locs1 hP1 hD1 hS1 => ?_)
  · have := zcat_sum ad st
    have e : nativeFrameWords "java/lang/System" "arraycopy" 5 + 11 ≤ 60 := by decide +kernel
    show _ + _ ≤ 40 * d
    omega
  · rw [e2] at hP1 hD1
    refine kk G p l e S m args below meth c A ad0 ad H1 locs1 ls ⟨hcx0, hag, hL, hSt.tl.tl.tl.tl.tl, ?_, hv, hP1, hD1, hS1⟩
    rw [← ziT_uE hj]
    refine hW.set ⟨okg.1, fun x h0 h1 => ?_⟩
    show zin (if dp ≤ x ∧ x < dp + n then s.2 i (sp + (x - dp)) else s.2 j x)
    by_cases hk : dp ≤ x ∧ x < dp + n
    · rw [if_pos hk]; exact okf.2 _ (by omega) (by show _ < ((s.1 i 0).toNat : Int); omega)
    · rw [if_neg hk]; exact okg.2 x h0 h1
theorem zall2 {P : Cond → Prop} {a b : Cond} (h1 : P a) (h2 : P b) : ∀ x ∈ [a, b], P x := by
  intro x hx
  simp only [List.mem_cons, List.not_mem_nil, or_false] at hx
  rcases hx with rfl | rfl <;> assumption
