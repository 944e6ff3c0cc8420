/-! ===== the law's world ===== -/
def zLwld (C r : zSt) (g : Int → Int) : List zAC := ziT C 0 TCo ++ ((ziT r 0 TRf).map (zrC (zsh 76)) ++ [.inr (2, 1, g)])
theorem zup_same {f : Int → Int} {x v : Int} : zup f x v x = v := if_pos rfl
theorem zFr_Cl {C C' r : zSt} {g : Int → Int} : zFrm (zLwld C r g) (ziT C 0 TCo) (ziT C' 0 TCo) (zLwld C' r g) zid 42 :=
  zFr_pre (by rw [ziT_len, ziT_len]) (by rw [ziT_len, TCo_len]; omega) (fun c hc => by
    rcases List.mem_append.mp hc with h | h
    · obtain ⟨c0, -, rfl⟩ := List.mem_map.mp h
      exact zfC_sh (by decide) c0
    · rw [List.mem_singleton] at h; rw [h]; rfl)
theorem zFr_Rl {C r r' : zSt} {g : Int → Int} : zFrm (zLwld C r g) (ziT r 0 TRf) (ziT r' 0 TRf) (zLwld C r' g) (zsh 76) 500 :=
  zFr_mid (by rw [ziT_len]; rfl) (by rw [ziT_len, ziT_len]) (by rw [ziT_len, TRf_len, List.length_singleton]; omega) (fun c hc => zfC_lt (n := 76) (by decide) (zlC_ziT TCo_lt c hc)) (fun c hc => by rw [List.mem_singleton] at hc; rw [hc]; rfl)
theorem zFr_Ll {C C' r : zSt} {g g' : Int → Int} : zFrm (zLwld C r g) (zCow C g) (zCow C' g') (zLwld C' r g') zf92 42 :=
  zFr_ends (by rw [ziT_len]; rfl) (by rw [ziT_len]; rfl) (by rw [List.length_map, ziT_len]; rfl) (zlC_ziT TCo_lt) (zlC_ziT TCo_lt) rfl rfl (fun c hc => by
    obtain ⟨c0, -, rfl⟩ := List.mem_map.mp hc
    exact zfC_sh (by decide) c0)
theorem zLw_0 {C r : zSt} {g : Int → Int} : (zLwld C r g)[zid 0]? = some (.inl (11, ziF C 0 0 [some 1, some 3, some 5, some 14, some 41, some 43, some 70])) := rfl
theorem zLw_76 {C r : zSt} {g : Int → Int} : (zLwld C r g)[zsh 76 0]? = some (.inl (12, (ziF r 0 0 [none, none, none, some 1, some 2, some 3, some 4, none, none, none, none, none, none, none, none, none, none, none, none, none, none, none, none, none, none, none, none, none, none, none, some 5, none, none, none, none, some 6, none, some 7, none, none, none, none, none, some 8, none, some 9, none, some 10, none, none, none, some 11, none, none, some 12, some 13, some 14, some 15, none]).map (zrn (zsh 76)))) :=
  (zFr_Rl (C := C) (r := r) (r' := r) (g := g)).1 0 (.inl (12, ziF r 0 0 [none, none, none, some 1, some 2, some 3, some 4, none, none, none, none, none, none, none, none, none, none, none, none, none, none, none, none, none, none, none, none, none, none, none, some 5, none, none, none, none, some 6, none, some 7, none, none, none, none, none, some 8, none, some 9, none, some 10, none, none, none, some 11, none, none, some 12, some 13, some 14, some 15, none])) (by rw [ziT_get]; rfl)
theorem zLw_92 {C r : zSt} {g : Int → Int} : (zLwld C r g)[92]? = some (.inr (2, 1, g)) := by
  unfold zLwld
  rw [List.getElem?_append_right (by rw [ziT_len, TCo_len]; omega), ziT_len, List.getElem?_append_right (by rw [List.length_map, ziT_len, TRf_len, TCo_len]; omega), List.length_map, ziT_len]
  rfl
/-! the script; the law's facts -/
def zxs (xs : Nat → Int32) (x : Int) : Int := (xs x.toNat).toInt
def zLaw (b L : Nat) (xs : Nat → Int32) : zFc := fun l A s => zLw l A s ∧ va_X b L xs s s.heap ∧ b < s.heap.size ∧ ∀ q, A q → s.heap.size ≤ q
theorem zMv_law {b L : Nat} {xs : Nat → Int32} : zMv (zLaw b L xs) zLw := fun _ _ _ _ _ _ _ h hS hW hU hA => zLw_go h.1 hS hW hU hA
def zFA (b : Nat) : zF := fun _ _ _ ad0 below args s t => ad0 999 = b → lw_Z below args s t
abbrev RLw : Room := zR 2000 601024 7293034
abbrev FLw (b L : Nat) (xs : Nat → Int32) : zF := zFE (zLaw b L xs) (zFA b)
abbrev PLw : Nat → Prop := fun k => k = 999
abbrev zLL (i : Int) (k b : Option zAV) : List (Option zAV) := [some (.inr (.inl (some 999))), some (.inr (.inl (some 0))), some (.inr (.inl (some 76))), some (.inr (.inl (some 92))), some (.inl i), k, b]
theorem zofN (n : Nat) : Int32.ofNat n = Int32.ofInt (n : Int) := rfl
section ZLWR
variable {M : zM} {R : Room} {P : Nat → Prop} {pc uc us b L : Nat} {xs : Nat → Int32} {LL : List (Option zAV)} {st : List zAV} {w : List zAC}
theorem zr_slen (hdg : decode M.2.1 pc = .ok (.arraylength, 1)) (hL : L ≤ 2560) (hP9 : P 999) (kk : zB M R (FLw b L xs) P (pc + 1) LL (.inl (L : Int) :: st) w uc us) : zB M R (FLw b L xs) P pc LL (.inr (.inl (some 999)) :: st) w uc us := by
  refine zr_with fun G p l e s m args below meth c A ad0 ad H locs ls hf hh => ?_
  by_cases hb9 : ad0 999 = b
  · have had : ad 999 = b := (hh.2.1 999 hP9).trans hb9
    obtain ⟨h1, h2, h3, h4⟩ := hf
    have k1 := kk G p l e s m args below meth c A ad0 ad H locs ls ⟨hh.1, hh.2.1, hh.2.2.1, hh.2.2.2.1.tl.cons (v := .inl (L : Int)) (show zin (L : Int) from ⟨by omega, by omega⟩), hh.2.2.2.2⟩
    obtain ⟨⟨hx, hb, -, -, -, hown, hts, -, hK, hA⟩, -, -, -, -, -, hP, hD, hS⟩ := hh
    show W p l e R s m args below meth c H locs uc us _ (F0 m pc ls (.ref (ad 999) :: st.map (zeV ad)))
    rw [had]
    refine va_slen hx hb h2 h3 (fun q => absurd (h4 b q) (by omega)) hS hdg ?_
    rw [zofN]
    exact k1
  · exact zW_none fun t _ q => absurd q hb9
theorem zr_sld {x : Int} (hdg : decode M.2.1 pc = .ok (.iaload, 1)) (h0 : 0 ≤ x ∧ x < L) (hP9 : P 999) (kk : zB M R (FLw b L xs) P (pc + 1) LL (.inl (zxs xs x) :: st) w uc us) : zB M R (FLw b L xs) P pc LL (.inl x :: .inr (.inl (some 999)) :: st) w uc us := by
  refine zr_with fun G p l e s m args below meth c A ad0 ad H locs ls hf hh => ?_
  by_cases hb9 : ad0 999 = b
  · have had : ad 999 = b := (hh.2.1 999 hP9).trans hb9
    have hx1 : zin x := hh.2.2.2.1.hd
    obtain ⟨h1, h2, h3, h4⟩ := hf
    have k1 := kk G p l e s m args below meth c A ad0 ad H locs ls ⟨hh.1, hh.2.1, hh.2.2.1, hh.2.2.2.1.tl.tl.cons (v := .inl (zxs xs x)) (zin_toInt _), hh.2.2.2.2⟩
    obtain ⟨⟨hx, hb, -, -, -, hown, hts, -, hK, hA⟩, -, -, -, -, -, hP, hD, hS⟩ := hh
    show W p l e R s m args below meth c H locs uc us _ (F0 m pc ls (.int (Int32.ofInt x) :: .ref (ad 999) :: st.map (zeV ad)))
    rw [had]
    refine va_sld hx hb h2 h3 (fun q => absurd (h4 b q) (by omega)) hS (zvp_in hx1 h0.1 h0.2) hdg ?_
    rw [zclamp hx1]
    have e : Value.int (xs x.toNat) = zeV ad (.inl (zxs xs x)) := by
      show _ = Value.int (Int32.ofInt (xs x.toNat).toInt)
      rw [Int32.ofInt_toInt]
    rw [e]
    exact k1
  · exact zW_none fun t _ q => absurd q hb9
theorem zlw_ret {p : Program} {l : Launch} {e : Env} {s : State} {m : MethodId} {args : Array Value} {below : List Frame} {meth : Method} {c : Code} (hx : p.tables.exec = Jvm.exec) (hb : c.code = code) (hr : meth.sig.returnType = ret) (hlocks : meth.locks = false) {H : Heap} {ls : Array Slot} (hdg : decode code pc = .ok (.ireturn, 1)) : W p l e R s m args below meth c H [] 601024 7293034 (lw_Z below args s) (F0 m pc ls [.int 1]) := by
  intro T hT X
  obtain ⟨fs, hret, hrun, hended, hW, hframe⟩ := X.leave (v := some (.int 1)) (hlocks := hlocks) (fun h => by rw [hr] at h; cases h)
  have hmeth' : T.vm.method? m = some meth := X.method'
  refine ⟨T.setFrames fs, ?_, .returned (some (.int 1)), hrun, hended, rfl, ⟨_, rfl⟩, hW, hframe⟩
  jvm_step X.here [X.here.top, hx, hb, hdg, hmeth', hr, ret, narrow_b1]
  (try refine ⟨rfl, ?_⟩); (try refine ⟨rfl, ?_⟩)
  first | (intro acts; rw [hret _ acts rfl rfl rfl]) | rw [hret _ _ rfl rfl rfl]
  exact Steps.refl _
theorem zr_lawret (hdg : decode m_L_law.2.1 pc = .ok (.ireturn, 1)) (huc : uc ≤ 601024) (hus : us ≤ 7293034) : zB m_L_law R (FLw b L xs) P pc LL [.inl 1] w uc us := by
  refine zr_with fun G p l e s m args below meth c A ad0 ad H locs ls hf hh => ?_
  obtain ⟨⟨hx, hb, hml, hr, hlk, hown, hts, -, hK, hA⟩, -, -, -, -, -, hP, hD, hS⟩ := hh
  refine zW_imp (Q := lw_Z below args s) (fun t y _ _ => y) ?_
  refine va_forget (fun q hq => hf.2.2.2 _ (hS.2.2 q hq)) ?_
  refine W.widen huc hus ?_
  exact zlw_ret hx hb hr hlk hdg
end ZLWR
theorem zW_sub {p : Program} {l : Launch} {e : Env} {R R' : Room} {s : State} {m : MethodId} {args : Array Value} {below : List Frame} {meth : Method} {c : Code} {H : Heap} {locs : List Loc} {uc us : Nat} {Q : State → Prop} {g : JFrame} (hf : R'.frames ≤ R.frames) (hl : R'.locals ≤ R.locals) (hc : R'.cells ≤ R.cells) (hs : R'.slots ≤ R.slots) (k : W p l e R' s m args below meth c H locs uc us Q g) : W p l e R s m args below meth c H locs uc us Q g := by
  intro T hT X
  refine k T hT { X with room := ?_ }
  have h := X.room
  simp only [State.hasRoom, Bool.and_eq_true, decide_eq_true_eq] at h ⊢
  obtain ⟨⟨⟨⟨h1, h2, h3, h4, h5, h6⟩, h7⟩, h8⟩, h9⟩ := h
  exact ⟨⟨⟨⟨by omega, by omega, by omega, by omega, by omega, h6⟩, by omega⟩, by omega⟩, h9⟩
