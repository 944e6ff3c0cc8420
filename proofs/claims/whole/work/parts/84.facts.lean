/-! ===== methods that stand on more of the state: facts of the entry, assumed in what is to be shown at the end ===== -/
theorem zW_none {p : Program} {l : Launch} {e : Env} {R : Room} {s : State} {m : MethodId} {args : Array Value} {below : List Frame} {meth : Method} {c : Code} {H : Heap} {locs : List Loc} {uc us : Nat} {Q : State → Prop} {g : JFrame} (h : ∀ t, Q t) : W p l e R s m args below meth c H locs uc us Q g :=
  fun T _ _ => ⟨_, Steps.refl _, h _⟩
theorem zW_imp {p : Program} {l : Launch} {e : Env} {R : Room} {s : State} {m : MethodId} {args : Array Value} {below : List Frame} {meth : Method} {c : Code} {H : Heap} {locs : List Loc} {uc us : Nat} {Q Q' : State → Prop} {g : JFrame} (h : ∀ t, Q t → Q' t) (k : W p l e R s m args below meth c H locs uc us Q g) : W p l e R s m args below meth c H locs uc us Q' g := fun T hT X => by
  obtain ⟨t, h1, h2⟩ := k T hT X
  exact ⟨t, h1, h t h2⟩
abbrev zFc : Type := Launch → (Nat → Prop) → State → Prop
def zFE (φ : zFc) (F : zF) : zF := fun l G A ad0 below args s t => φ l A s → F l G A ad0 below args s t
section ZFE
variable {M : zM} {R : Room} {F : zF} {φ : zFc} {P : Nat → Prop} {pc uc us : Nat} {L : List (Option zAV)} {st : List zAV} {w : List zAC}
theorem zB_fe (k : zB M R F P pc L st w uc us) : zB M R (zFE φ F) P pc L st w uc us :=
  fun G p l e s m args below meth c A ad0 ad H locs ls hh => zW_imp (fun _ h _ => h) (k G p l e s m args below meth c A ad0 ad H locs ls hh)
/-- a row that stands on the facts -/
theorem zr_with (k : ∀ (G : zG) (p : Program) (l : Launch) (e : Env) (s : State) (m : MethodId) (args : Array Value) (below : List Frame) (meth : Method) (c : Code) (A : Nat → Prop) (ad0 ad : Nat → Nat) (H : Heap) (locs : List Loc) (ls : Array Slot), φ l A s → zHd M G P p s m args meth c A ad0 ad H locs ls L st w → W p l e R s m args below meth c H locs uc us (zFE φ F l G A ad0 below args s) (F0 m pc ls (st.map (zeV ad)))) : zB M R (zFE φ F) P pc L st w uc us := by
  intro G p l e s m args below meth c A ad0 ad H locs ls hh
  by_cases h : φ l A s
  · exact k G p l e s m args below meth c A ad0 ad H locs ls h hh
  · exact zW_none fun t y => absurd y h
/-- the table of letters -/
def zKL : Nat → Value := fun j => .int (Int32.ofInt (zLet j))
def zKt (A : Nat → Prop) (s : State) : Prop := ∃ t : Nat, va_Z RX11 "KEY_LETTERS" "[C" (.ref t) A s s.heap ∧ va_T .char t 6 zKL A s s.heap
theorem zr_keyLen {idx : Nat} (hφ : ∀ l A s, φ l A s → zKt A s) (hlk : Cond.fieldLink M.1.cls idx RX11 "KEY_LETTERS" "[C" ∈ zGW) (h1 : decode M.2.1 pc = .ok (.getstatic idx, 3)) (h2 : decode M.2.1 (pc + 3) = .ok (.arraylength, 1))
    (kk : zB M R (zFE φ F) P (pc + 4) L (.inl 6 :: st) w uc us) : zB M R (zFE φ F) P pc L st w uc us := by
  refine zr_with fun G p l e s m args below meth c A ad0 ad H locs ls hf hh => ?_
  have hh0 := hh
  obtain ⟨⟨hx, hb, -, -, -, hown, hts, -, hK, hA⟩, -, -, -, -, -, hP, hD, hS⟩ := hh
  obtain ⟨t, hZ, hT⟩ := hφ l A s hf
  refine va_gets hx hb hZ hS hown (hts _ hlk) (fun _ h => h) h1 ?_
  refine va_tlen hx hb hT hS (v := Int32.ofInt 6) rfl h2 ?_
  obtain ⟨g1, g2, g3, g4, g5⟩ := hh0
  exact kk G p l e s m args below meth c A ad0 ad H locs ls ⟨g1, g2, g3, g4.cons (v := .inl 6) (by show zin 6; decide), g5⟩
theorem zr_keyAt {idx i : Nat} {x : Int} (hφ : ∀ l A s, φ l A s → zKt A s) (hlk : Cond.fieldLink M.1.cls idx RX11 "KEY_LETTERS" "[C" ∈ zGW) (h1 : decode M.2.1 pc = .ok (.getstatic idx, 3)) (h2 : ∃ k : Fin 4, decode M.2.1 (pc + 3) = .ok (.iload_n k, 1) ∧ (k : Nat) = i) (h3 : decode M.2.1 (pc + 4) = .ok (.caload, 1)) (hl : L[i]? = some (some (.inl x))) (hx0 : 0 ≤ x ∧ x < 6)
    (kk : zB M R (zFE φ F) P (pc + 5) L (.inl (zLet x) :: st) w uc us) : zB M R (zFE φ F) P pc L st w uc us := by
  refine zr_with fun G p l e s m args below meth c A ad0 ad H locs ls hf hh => ?_
  have hh0 := hh
  obtain ⟨⟨hx, hb, -, -, -, hown, hts, -, hK, hA⟩, -, hLL, hSt, -, hv, hP, hD, hS⟩ := hh
  obtain ⟨t, hZ, hT⟩ := hφ l A s hf
  obtain ⟨k, h2, hki⟩ := h2
  have hxin : zin x := hLL.at hl
  have hcl := zclamp hxin
  refine va_gets hx hb hZ hS hown (hts _ hlk) (fun _ h => h) h1 ?_
  refine lv_iload_n hx hb h2 hki (zhas_at hv hl) ?_
  refine va_tc hx hb hT hS (zvp_in hxin hx0.1 (by omega)) (v := .int (Int32.ofInt (zLet x))) ?_ h3 ?_
  · show Value.int (Int32.ofInt (zLet ((Int32.ofInt x).toNatClampNeg : Nat))) = _
    rw [hcl, Int.toNat_of_nonneg hx0.1]
  · obtain ⟨g1, g2, g3, g4, g5⟩ := hh0
    exact kk G p l e s m args below meth c A ad0 ad H locs ls ⟨g1, g2, g3, g4.cons (v := .inl (zLet x)) (by have := (zLet_in (a := x) (by omega)).2; show zin (zLet x); exact ⟨by omega, by omega⟩), g5⟩
end ZFE
