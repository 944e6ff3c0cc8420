/-! ===== ROWS: one instruction, over the judgement zB ===== -/
section ZR
variable {M : zM} {R : Room} {F : zF} {P : Nat → Prop} {pc uc us : Nat} {L : List (Option zAV)} {st : List zAV} {w : List zAC}
theorem zr_load {i : Nat} {x : Int} (hdg : (∃ k : Fin 4, decode M.2.1 pc = .ok (.iload_n k, 1) ∧ (k : Nat) = i)) (hl : L[i]? = some (some (.inl x))) (kk : zB M R F P (pc + 1) L (.inl x :: st) w uc us) : zB M R F P pc L st w uc us := by
  intro G p l e s m args below meth c A ad0 ad H locs ls hh
  have hh0 := hh
  obtain ⟨⟨hx, hb, -⟩, -, hL, hS, -, hv, -⟩ := hh
  obtain ⟨k, hdg, hki⟩ := hdg
  refine lv_iload_n hx hb hdg hki (zhas_at hv hl) (kk G p l e s m args below meth c A ad0 ad H locs ls ?_)
  obtain ⟨h1, h2, h3, h4, h5⟩ := hh0
  exact ⟨h1, h2, h3, h4.cons (h3.at hl).v, h5⟩
theorem zr_loadw {i : Nat} {x : Int} (hdg : decode M.2.1 pc = .ok (.iload i, 2)) (hl : L[i]? = some (some (.inl x))) (kk : zB M R F P (pc + 2) L (.inl x :: st) w uc us) : zB M R F P pc L st w uc us := by
  intro G p l e s m args below meth c A ad0 ad H locs ls hh
  have hh0 := hh
  obtain ⟨⟨hx, hb, -⟩, -, hL, hS, -, hv, -⟩ := hh
  refine lv_iload hx hb hdg (zhas_at hv hl) (kk G p l e s m args below meth c A ad0 ad H locs ls ?_)
  obtain ⟨h1, h2, h3, h4, h5⟩ := hh0
  exact ⟨h1, h2, h3, h4.cons (h3.at hl).v, h5⟩
theorem zr_aload {i : Nat} {x : Nat} (hdg : (∃ k : Fin 4, decode M.2.1 pc = .ok (.aload_n k, 1) ∧ (k : Nat) = i)) (hl : L[i]? = some (some (.inr (.inl (some x))))) (kk : zB M R F P (pc + 1) L (.inr (.inl (some x)) :: st) w uc us) : zB M R F P pc L st w uc us := by
  intro G p l e s m args below meth c A ad0 ad H locs ls hh
  have hh0 := hh
  obtain ⟨⟨hx, hb, -⟩, -, hL, hS, -, hv, -⟩ := hh
  obtain ⟨k, hdg, hki⟩ := hdg
  refine lv_aload_n hx hb hdg hki (zhas_at hv hl) (kk G p l e s m args below meth c A ad0 ad H locs ls ?_)
  obtain ⟨h1, h2, h3, h4, h5⟩ := hh0
  exact ⟨h1, h2, h3, h4.cons (h3.at hl).v, h5⟩
theorem zr_aloadw {i : Nat} {x : Nat} (hdg : decode M.2.1 pc = .ok (.aload i, 2)) (hl : L[i]? = some (some (.inr (.inl (some x))))) (kk : zB M R F P (pc + 2) L (.inr (.inl (some x)) :: st) w uc us) : zB M R F P pc L st w uc us := by
  intro G p l e s m args below meth c A ad0 ad H locs ls hh
  have hh0 := hh
  obtain ⟨⟨hx, hb, -⟩, -, hL, hS, -, hv, -⟩ := hh
  refine lv_aload hx hb hdg (zhas_at hv hl) (kk G p l e s m args below meth c A ad0 ad H locs ls ?_)
  obtain ⟨h1, h2, h3, h4, h5⟩ := hh0
  exact ⟨h1, h2, h3, h4.cons (h3.at hl).v, h5⟩
theorem zr_store {i : Nat} {x : Int} {L' : List (Option zAV)} (hdg : (∃ k : Fin 4, decode M.2.1 pc = .ok (.istore_n k, 1) ∧ (k : Nat) = i)) (hi : i < M.2.2.1) (hL' : L.set i (some (.inl x)) = L') (kk : zB M R F P (pc + 1) L' st w uc us) : zB M R F P pc L (.inl x :: st) w uc us := by
  intro G p l e s m args below meth c A ad0 ad H locs ls hh
  obtain ⟨h1, h2, h3, h4, h5, h6, h7⟩ := hh
  obtain ⟨k, hdg, hki⟩ := hdg
  refine lv_istore_n h1.1 h1.2.1 hdg hki h6 hi rfl (fun ls' hls => kk G p l e s m args below meth c A ad0 ad H locs ls' ?_)
  subst hL'
  exact ⟨h1, h2, h3.set (v := .inl x) h4.hd, h4.tl, h5, zhas_set h3 hls, h7⟩
theorem zr_storew {i : Nat} {x : Int} {L' : List (Option zAV)} (hdg : decode M.2.1 pc = .ok (.istore i, 2)) (hi : i < M.2.2.1) (hL' : L.set i (some (.inl x)) = L') (kk : zB M R F P (pc + 2) L' st w uc us) : zB M R F P pc L (.inl x :: st) w uc us := by
  intro G p l e s m args below meth c A ad0 ad H locs ls hh
  obtain ⟨h1, h2, h3, h4, h5, h6, h7⟩ := hh
  refine lv_istore h1.1 h1.2.1 hdg h6 hi rfl (fun ls' hls => kk G p l e s m args below meth c A ad0 ad H locs ls' ?_)
  subst hL'
  exact ⟨h1, h2, h3.set (v := .inl x) h4.hd, h4.tl, h5, zhas_set h3 hls, h7⟩
theorem zr_astore {i : Nat} {x : Nat} {L' : List (Option zAV)} (hdg : (∃ k : Fin 4, decode M.2.1 pc = .ok (.astore_n k, 1) ∧ (k : Nat) = i)) (hi : i < M.2.2.1) (hL' : L.set i (some (.inr (.inl (some x)))) = L') (kk : zB M R F P (pc + 1) L' st w uc us) : zB M R F P pc L (.inr (.inl (some x)) :: st) w uc us := by
  intro G p l e s m args below meth c A ad0 ad H locs ls hh
  obtain ⟨h1, h2, h3, h4, h5, h6, h7⟩ := hh
  obtain ⟨k, hdg, hki⟩ := hdg
  refine lv_astore_n h1.1 h1.2.1 hdg hki h6 hi rfl (fun ls' hls => kk G p l e s m args below meth c A ad0 ad H locs ls' ?_)
  subst hL'
  exact ⟨h1, h2, h3.set (v := .inr (.inl (some x))) True.intro, h4.tl, h5, zhas_set h3 hls, h7⟩
theorem zr_astorew {i : Nat} {x : Nat} {L' : List (Option zAV)} (hdg : decode M.2.1 pc = .ok (.astore i, 2)) (hi : i < M.2.2.1) (hL' : L.set i (some (.inr (.inl (some x)))) = L') (kk : zB M R F P (pc + 2) L' st w uc us) : zB M R F P pc L (.inr (.inl (some x)) :: st) w uc us := by
  intro G p l e s m args below meth c A ad0 ad H locs ls hh
  obtain ⟨h1, h2, h3, h4, h5, h6, h7⟩ := hh
  refine lv_astore h1.1 h1.2.1 hdg h6 hi rfl (fun ls' hls => kk G p l e s m args below meth c A ad0 ad H locs ls' ?_)
  subst hL'
  exact ⟨h1, h2, h3.set (v := .inr (.inl (some x))) True.intro, h4.tl, h5, zhas_set h3 hls, h7⟩
theorem zeL_place (ad : Nat → Nat) : ∀ (L : List (Option zAV)) (i k : Nat) (v : zAV), L[k]? = some (some v) → ∃ j : Nat, (zeL ad i L)[j]? = some (i + k, zeV ad v) := fun L i k v h => List.getElem?_of_mem (zeL_mem ad L i k v h)
theorem zr_iinc {i : Nat} {n x : Int} {L' : List (Option zAV)} (hdg : decode M.2.1 pc = .ok (.iinc i n, 3)) (hl : L[i]? = some (some (.inl x))) (hi : i < M.2.2.1) (hL' : L.set i (some (.inl (w32 (x + n)))) = L') (kk : zB M R F P (pc + 3) L' st w uc us) : zB M R F P pc L st w uc us := by
  intro G p l e s m args below meth c A ad0 ad H locs ls hh
  obtain ⟨h1, h2, h3, h4, h5, h6, h7⟩ := hh
  obtain ⟨j, hj⟩ := zeL_place ad L 0 i _ hl
  rw [Nat.zero_add] at hj
  refine lv_iinc (x := Int32.ofInt x) (v := Int32.ofInt (w32 (x + n))) h1.1 h1.2.1 hdg h6 hj (by rw [zofw, Int32.ofInt_add]) hi rfl (fun ls' hls => kk G p l e s m args below meth c A ad0 ad H locs ls' ?_)
  subst hL'
  exact ⟨h1, h2, h3.set (v := .inl (w32 (x + n))) (zin_w32 _), h4, h5, zhas_set h3 hls, h7⟩
/-- a row that puts a whole number on the stack -/
theorem zr_push {pc' : Nat} {x : Int} (hx : zin x)
    (row : ∀ (G : zG) (p : Program) (l : Launch) (e : Env) (s : State) (m : MethodId) (args : Array Value) (below : List Frame) (meth : Method) (c : Code) (A : Nat → Prop) (ad0 ad : Nat → Nat) (H : Heap) (locs : List Loc) (ls : Array Slot), zHd M G P p s m args meth c A ad0 ad H locs ls L st w →
      W p l e R s m args below meth c H locs uc us (F l G A ad0 below args s) (F0 m pc' ls (.int (Int32.ofInt x) :: st.map (zeV ad))) → W p l e R s m args below meth c H locs uc us (F l G A ad0 below args s) (F0 m pc ls (st.map (zeV ad))))
    (kk : zB M R F P pc' L (.inl x :: st) w uc us) : zB M R F P pc L st w uc us := by
  intro G p l e s m args below meth c A ad0 ad H locs ls hh
  refine row G p l e s m args below meth c A ad0 ad H locs ls hh (kk G p l e s m args below meth c A ad0 ad H locs ls ?_)
  obtain ⟨h1, h2, h3, h4, h5⟩ := hh
  exact ⟨h1, h2, h3, h4.cons (v := .inl x) hx, h5⟩
theorem zr_iconst {n : Int} (hdg : decode M.2.1 pc = .ok (.iconst n, 1)) (hn : zin n) (kk : zB M R F P (pc + 1) L (.inl n :: st) w uc us) : zB M R F P pc L st w uc us :=
  zr_push hn (fun G p l e s m args below meth c A ad0 ad H locs ls hh k => lv_iconst hh.1.1 hh.1.2.1 hdg rfl k) kk
theorem zr_bipush {n : Int} (hdg : decode M.2.1 pc = .ok (.bipush n, 2)) (hv : (Int8.ofInt n).toInt32 = Int32.ofInt n) (hn : zin n) (kk : zB M R F P (pc + 2) L (.inl n :: st) w uc us) : zB M R F P pc L st w uc us :=
  zr_push hn (fun G p l e s m args below meth c A ad0 ad H locs ls hh k => lv_bipush hh.1.1 hh.1.2.1 hdg hv k) kk
theorem zr_sipush {n : Int} (hdg : decode M.2.1 pc = .ok (.sipush n, 3)) (hv : (Int16.ofInt n).toInt32 = Int32.ofInt n) (hn : zin n) (kk : zB M R F P (pc + 3) L (.inl n :: st) w uc us) : zB M R F P pc L st w uc us :=
  zr_push hn (fun G p l e s m args below meth c A ad0 ad H locs ls hh k => lv_sipush hh.1.1 hh.1.2.1 hdg hv k) kk
theorem zr_ldc {n : Int} {index : Nat} (hdg : decode M.2.1 pc = .ok (.ldc index, 2)) (hm : Cond.constant M.1.cls index (Int32.ofInt n) ∈ zGW) (hn : zin n) (kk : zB M R F P (pc + 2) L (.inl n :: st) w uc us) : zB M R F P pc L st w uc us :=
  zr_push hn (fun G p l e s m args below meth c A ad0 ad H locs ls hh k => lv_ldc hh.1.1 hh.1.2.1 hh.1.2.2.2.2.2.1 (hh.1.2.2.2.2.2.2.1 _ hm) hdg k) kk
/-- a row of two whole numbers -/
theorem zr_two {x y z : Int} (hz : zin x → zin y → zin z)
    (row : zin x → zin y → ∀ (G : zG) (p : Program) (l : Launch) (e : Env) (s : State) (m : MethodId) (args : Array Value) (below : List Frame) (meth : Method) (c : Code) (A : Nat → Prop) (ad0 ad : Nat → Nat) (H : Heap) (locs : List Loc) (ls : Array Slot), zHd M G P p s m args meth c A ad0 ad H locs ls L (.inl y :: .inl x :: st) w →
      W p l e R s m args below meth c H locs uc us (F l G A ad0 below args s) (F0 m (pc + 1) ls (.int (Int32.ofInt z) :: st.map (zeV ad))) → W p l e R s m args below meth c H locs uc us (F l G A ad0 below args s) (F0 m pc ls (.int (Int32.ofInt y) :: .int (Int32.ofInt x) :: st.map (zeV ad))))
    (kk : zB M R F P (pc + 1) L (.inl z :: st) w uc us) : zB M R F P pc L (.inl y :: .inl x :: st) w uc us := by
  intro G p l e s m args below meth c A ad0 ad H locs ls hh
  refine row hh.2.2.2.1.tl.hd hh.2.2.2.1.hd G p l e s m args below meth c A ad0 ad H locs ls hh (kk G p l e s m args below meth c A ad0 ad H locs ls ?_)
  obtain ⟨h1, h2, h3, h4, h5⟩ := hh
  exact ⟨h1, h2, h3, h4.tl.tl.cons (v := .inl z) (hz h4.tl.hd h4.hd), h5⟩
theorem zr_iadd {x y : Int} (hdg : decode M.2.1 pc = .ok (.iadd, 1)) (kk : zB M R F P (pc + 1) L (.inl (w32 (x + y)) :: st) w uc us) : zB M R F P pc L (.inl y :: .inl x :: st) w uc us :=
  zr_two (fun _ _ => zin_w32 _) (fun _ _ G p l e s m args below meth c A ad0 ad H locs ls hh k => lv_iadd hh.1.1 hh.1.2.1 hdg (by rw [zofw, Int32.ofInt_add] at k; exact k)) kk
theorem zr_isub {x y : Int} (hdg : decode M.2.1 pc = .ok (.isub, 1)) (kk : zB M R F P (pc + 1) L (.inl (w32 (x - y)) :: st) w uc us) : zB M R F P pc L (.inl y :: .inl x :: st) w uc us :=
  zr_two (fun _ _ => zin_w32 _) (fun _ _ G p l e s m args below meth c A ad0 ad H locs ls hh k => lv_isub hh.1.1 hh.1.2.1 hdg (by rw [zofw, Int32.ofInt_sub] at k; exact k)) kk
theorem zr_imul {x y : Int} (hdg : decode M.2.1 pc = .ok (.imul, 1)) (kk : zB M R F P (pc + 1) L (.inl (w32 (x * y)) :: st) w uc us) : zB M R F P pc L (.inl y :: .inl x :: st) w uc us :=
  zr_two (fun _ _ => zin_w32 _) (fun _ _ G p l e s m args below meth c A ad0 ad H locs ls hh k => lv_imul hh.1.1 hh.1.2.1 hdg (by rw [zofw, Int32.ofInt_mul] at k; exact k)) kk
theorem zdiv_eq {x y : Int} (hx : zin x) (hy : zin y) : Int32.ofInt (wDiv x y) = Int32.ofInt x / Int32.ofInt y := by
  rw [← Int32.toInt_inj, Int32.toInt_div, zti hx, zti hy]
  unfold wDiv
  rw [zofw]
  exact Int32.toInt_ofInt
theorem zr_idiv {x y : Int} (hdg : decode M.2.1 pc = .ok (.idiv, 1)) (hy0 : y ≠ 0) (kk : zB M R F P (pc + 1) L (.inl (wDiv x y) :: st) w uc us) : zB M R F P pc L (.inl y :: .inl x :: st) w uc us :=
  zr_two (z := wDiv x y) (fun _ _ => zin_w32 _) (fun hx hy G p l e s m args below meth c A ad0 ad H locs ls hh k => lv_idiv hh.1.1 hh.1.2.1 hdg (by rw [← zof0, zeq hy zin0]; exact hy0) (by rw [zdiv_eq hx hy] at k; exact k)) kk
theorem zrem_eq {x y : Int} (hx : zin x) (hy : zin y) : Int32.ofInt (wRem x y) = Int32.ofInt x - Int32.ofInt x / Int32.ofInt y * Int32.ofInt y := by
  rw [← zdiv_eq hx hy]
  unfold wRem wDiv
  rw [zofw, ← Int32.ofInt_mul, ← Int32.ofInt_sub, Int.tmod_def, Int.mul_comm]
theorem zin_rem {x y : Int} (hx : zin x) (hy0 : y ≠ 0) : zin (wRem x y) := by
  unfold wRem
  have h1 := Int.natAbs_tmod x y
  have h2 := Nat.mod_le x.natAbs y.natAbs
  obtain ⟨a, b⟩ := hx
  rcases Int.le_total 0 x with h | h
  · have h3 : 0 ≤ x.tmod y := Int.tmod_nonneg y h
    constructor <;> omega
  · have h3 : 0 ≤ (-x).tmod y := Int.tmod_nonneg y (by omega)
    rw [Int.neg_tmod] at h3
    constructor <;> omega
theorem zr_irem {x y : Int} (hdg : decode M.2.1 pc = .ok (.irem, 1)) (hy0 : y ≠ 0) (kk : zB M R F P (pc + 1) L (.inl (wRem x y) :: st) w uc us) : zB M R F P pc L (.inl y :: .inl x :: st) w uc us :=
  zr_two (z := wRem x y) (fun hx _ => zin_rem hx hy0) (fun hx hy G p l e s m args below meth c A ad0 ad H locs ls hh k => lv_irem hh.1.1 hh.1.2.1 hdg (by rw [← zof0, zeq hy zin0]; exact hy0) (by rw [zrem_eq hx hy] at k; exact k)) kk
theorem zr_iand {x y : Int} (hdg : decode M.2.1 pc = .ok (.iand, 1)) (kk : zB M R F P (pc + 1) L (.inl (wAnd x y) :: st) w uc us) : zB M R F P pc L (.inl y :: .inl x :: st) w uc us :=
  zr_two (z := wAnd x y) (fun _ _ => zin_toInt _) (fun _ _ G p l e s m args below meth c A ad0 ad H locs ls hh k => lv_iand hh.1.1 hh.1.2.1 hdg (by unfold wAnd at k; rw [Int32.ofInt_toInt] at k; exact k)) kk
theorem zr_ior {x y : Int} (hdg : decode M.2.1 pc = .ok (.ior, 1)) (kk : zB M R F P (pc + 1) L (.inl (wOr x y) :: st) w uc us) : zB M R F P pc L (.inl y :: .inl x :: st) w uc us :=
  zr_two (z := wOr x y) (fun _ _ => zin_toInt _) (fun _ _ G p l e s m args below meth c A ad0 ad H locs ls hh k => lv_ior hh.1.1 hh.1.2.1 hdg (by unfold wOr at k; rw [Int32.ofInt_toInt] at k; exact k)) kk
theorem zr_ixor {x y : Int} (hdg : decode M.2.1 pc = .ok (.ixor, 1)) (kk : zB M R F P (pc + 1) L (.inl (wXor x y) :: st) w uc us) : zB M R F P pc L (.inl y :: .inl x :: st) w uc us :=
  zr_two (z := wXor x y) (fun _ _ => zin_toInt _) (fun _ _ G p l e s m args below meth c A ad0 ad H locs ls hh k => lv_ixor hh.1.1 hh.1.2.1 hdg (by unfold wXor at k; rw [Int32.ofInt_toInt] at k; exact k)) kk
theorem zr_ishl {x y : Int} (hdg : decode M.2.1 pc = .ok (.ishl, 1)) (kk : zB M R F P (pc + 1) L (.inl (wShl x y) :: st) w uc us) : zB M R F P pc L (.inl y :: .inl x :: st) w uc us :=
  zr_two (z := wShl x y) (fun _ _ => zin_toInt _) (fun _ _ G p l e s m args below meth c A ad0 ad H locs ls hh k => lv_ishl hh.1.1 hh.1.2.1 hdg (by unfold wShl at k; rw [Int32.ofInt_toInt] at k; exact k)) kk
theorem zr_ishr {x y : Int} (hdg : decode M.2.1 pc = .ok (.ishr, 1)) (kk : zB M R F P (pc + 1) L (.inl (wShr x y) :: st) w uc us) : zB M R F P pc L (.inl y :: .inl x :: st) w uc us :=
  zr_two (z := wShr x y) (fun _ _ => zin_toInt _) (fun _ _ G p l e s m args below meth c A ad0 ad H locs ls hh k => lv_ishr hh.1.1 hh.1.2.1 hdg (by unfold wShr at k; rw [Int32.ofInt_toInt] at k; exact k)) kk
theorem zr_ineg {x : Int} (hdg : decode M.2.1 pc = .ok (.ineg, 1)) (kk : zB M R F P (pc + 1) L (.inl (w32 (-x)) :: st) w uc us) : zB M R F P pc L (.inl x :: st) w uc us := by
  intro G p l e s m args below meth c A ad0 ad H locs ls hh
  have k := kk G p l e s m args below meth c A ad0 ad H locs ls ⟨hh.1, hh.2.1, hh.2.2.1, hh.2.2.2.1.tl.cons (v := .inl (w32 (-x))) (zin_w32 _), hh.2.2.2.2⟩
  refine lv_ineg hh.1.1 hh.1.2.1 hdg ?_
  simp only [List.map_cons, zeV, zofw, Int32.ofInt_neg] at k
  exact k
theorem zr_goto {off : Int} {tgt : Nat} (hdg : decode M.2.1 pc = .ok (.goto off, 3)) (ht : (pc : Int) + off = (tgt : Int)) (kk : zB M R F P tgt L st w uc us) : zB M R F P pc L st w uc us :=
  fun G p l e s m args below meth c A ad0 ad H locs ls hh => lv_goto hh.1.1 hh.1.2.1 hdg ht (kk G p l e s m args below meth c A ad0 ad H locs ls hh)
theorem zr_pop {v : zAV} (hdg : decode M.2.1 pc = .ok (.pop, 1)) (hv : zokN v ∨ ∃ x, v = .inl x) (kk : zB M R F P (pc + 1) L st w uc us) : zB M R F P pc L (v :: st) w uc us := by
  intro G p l e s m args below meth c A ad0 ad H locs ls hh
  refine lv_pop hh.1.1 hh.1.2.1 hdg ?_ (kk G p l e s m args below meth c A ad0 ad H locs ls ⟨hh.1, hh.2.1, hh.2.2.1, hh.2.2.2.1.tl, hh.2.2.2.2⟩)
  rcases hv with h | ⟨x, rfl⟩
  · exact zeV_cat ad h
  · rfl
theorem zr_dup {v : zAV} (hdg : decode M.2.1 pc = .ok (.dup, 1)) (hv : zokN v ∨ ∃ x, v = .inl x) (kk : zB M R F P (pc + 1) L (v :: v :: st) w uc us) : zB M R F P pc L (v :: st) w uc us := by
  intro G p l e s m args below meth c A ad0 ad H locs ls hh
  refine lv_dup hh.1.1 hh.1.2.1 hdg ?_ (kk G p l e s m args below meth c A ad0 ad H locs ls ⟨hh.1, hh.2.1, hh.2.2.1, hh.2.2.2.1.cons hh.2.2.2.1.hd, hh.2.2.2.2⟩)
  rcases hv with h | ⟨x, rfl⟩
  · exact zeV_cat ad h
  · rfl
theorem zr_dup2 {v u : zAV} (hdg : decode M.2.1 pc = .ok (.dup2, 1)) (hv : ∃ x, v = .inl x) (hu : zokN u) (kk : zB M R F P (pc + 1) L (v :: u :: v :: u :: st) w uc us) : zB M R F P pc L (v :: u :: st) w uc us := by
  intro G p l e s m args below meth c A ad0 ad H locs ls hh
  obtain ⟨x, rfl⟩ := hv
  exact lv_dup2_11 hh.1.1 hh.1.2.1 hdg rfl (zeV_cat ad hu) (kk G p l e s m args below meth c A ad0 ad H locs ls ⟨hh.1, hh.2.1, hh.2.2.1, (hh.2.2.2.1.cons hh.2.2.2.1.tl.hd).cons hh.2.2.2.1.hd, hh.2.2.2.2⟩)
/-! branches -/
theorem zr_if1 {x : Int} {c1 : Prop} {tgt : Nat}
    (row : zin x → ∀ (G : zG) (p : Program) (l : Launch) (e : Env) (s : State) (m : MethodId) (args : Array Value) (below : List Frame) (meth : Method) (c : Code) (A : Nat → Prop) (ad0 ad : Nat → Nat) (H : Heap) (locs : List Loc) (ls : Array Slot), zHd M G P p s m args meth c A ad0 ad H locs ls L (.inl x :: st) w →
      (c1 → W p l e R s m args below meth c H locs uc us (F l G A ad0 below args s) (F0 m tgt ls (st.map (zeV ad)))) → (¬ c1 → W p l e R s m args below meth c H locs uc us (F l G A ad0 below args s) (F0 m (pc + 3) ls (st.map (zeV ad)))) → W p l e R s m args below meth c H locs uc us (F l G A ad0 below args s) (F0 m pc ls (.int (Int32.ofInt x) :: st.map (zeV ad))))
    (kt : c1 → zB M R F P tgt L st w uc us) (kf : ¬ c1 → zB M R F P (pc + 3) L st w uc us) : zB M R F P pc L (.inl x :: st) w uc us := by
  intro G p l e s m args below meth c A ad0 ad H locs ls hh
  have hh2 : zHd M G P p s m args meth c A ad0 ad H locs ls L st w := ⟨hh.1, hh.2.1, hh.2.2.1, hh.2.2.2.1.tl, hh.2.2.2.2⟩
  exact row hh.2.2.2.1.hd G p l e s m args below meth c A ad0 ad H locs ls hh (fun h => kt h G p l e s m args below meth c A ad0 ad H locs ls hh2) (fun h => kf h G p l e s m args below meth c A ad0 ad H locs ls hh2)
theorem zr_if2 {x y : Int} {c1 : Prop} {tgt : Nat}
    (row : zin x → zin y → ∀ (G : zG) (p : Program) (l : Launch) (e : Env) (s : State) (m : MethodId) (args : Array Value) (below : List Frame) (meth : Method) (c : Code) (A : Nat → Prop) (ad0 ad : Nat → Nat) (H : Heap) (locs : List Loc) (ls : Array Slot), zHd M G P p s m args meth c A ad0 ad H locs ls L (.inl y :: .inl x :: st) w →
      (c1 → W p l e R s m args below meth c H locs uc us (F l G A ad0 below args s) (F0 m tgt ls (st.map (zeV ad)))) → (¬ c1 → W p l e R s m args below meth c H locs uc us (F l G A ad0 below args s) (F0 m (pc + 3) ls (st.map (zeV ad)))) → W p l e R s m args below meth c H locs uc us (F l G A ad0 below args s) (F0 m pc ls (.int (Int32.ofInt y) :: .int (Int32.ofInt x) :: st.map (zeV ad))))
    (kt : c1 → zB M R F P tgt L st w uc us) (kf : ¬ c1 → zB M R F P (pc + 3) L st w uc us) : zB M R F P pc L (.inl y :: .inl x :: st) w uc us := by
  intro G p l e s m args below meth c A ad0 ad H locs ls hh
  have hh2 : zHd M G P p s m args meth c A ad0 ad H locs ls L st w := ⟨hh.1, hh.2.1, hh.2.2.1, hh.2.2.2.1.tl.tl, hh.2.2.2.2⟩
  exact row hh.2.2.2.1.tl.hd hh.2.2.2.1.hd G p l e s m args below meth c A ad0 ad H locs ls hh (fun h => kt h G p l e s m args below meth c A ad0 ad H locs ls hh2) (fun h => kf h G p l e s m args below meth c A ad0 ad H locs ls hh2)
theorem zr_if_eq {x : Int} {off : Int} {tgt : Nat} (hdg : decode M.2.1 pc = .ok (.ifCond .eq off, 3)) (ht : (pc : Int) + off = (tgt : Int)) (kt : x = 0 → zB M R F P tgt L st w uc us) (kf : ¬ (x = 0) → zB M R F P (pc + 3) L st w uc us) : zB M R F P pc L (.inl x :: st) w uc us :=
  zr_if1 (c1 := x = 0) (fun hx G p l e s m args below meth c A ad0 ad H locs ls hh k1 k2 => by
    have e : Int32.ofInt x = 0 ↔ x = 0 := by
      have h := zeq hx zin0
      rw [zof0] at h
      exact h
    exact lv_if_eq hh.1.1 hh.1.2.1 hdg ht (fun h => k1 (e.mp h)) (fun h => k2 (fun z => h (e.mpr z)))) kt kf
theorem zr_if_ne {x : Int} {off : Int} {tgt : Nat} (hdg : decode M.2.1 pc = .ok (.ifCond .ne off, 3)) (ht : (pc : Int) + off = (tgt : Int)) (kt : ¬ x = 0 → zB M R F P tgt L st w uc us) (kf : ¬ (¬ x = 0) → zB M R F P (pc + 3) L st w uc us) : zB M R F P pc L (.inl x :: st) w uc us :=
  zr_if1 (c1 := ¬ x = 0) (fun hx G p l e s m args below meth c A ad0 ad H locs ls hh k1 k2 => by
    have e : Int32.ofInt x = 0 ↔ x = 0 := by
      have h := zeq hx zin0
      rw [zof0] at h
      exact h
    exact lv_if_ne hh.1.1 hh.1.2.1 hdg ht (fun h => k1 (fun z => h (e.mpr z))) (fun h => k2 (fun z => z (e.mp h)))) kt kf
theorem zr_if_lt {x : Int} {off : Int} {tgt : Nat} (hdg : decode M.2.1 pc = .ok (.ifCond .lt off, 3)) (ht : (pc : Int) + off = (tgt : Int)) (kt : x < 0 → zB M R F P tgt L st w uc us) (kf : ¬ (x < 0) → zB M R F P (pc + 3) L st w uc us) : zB M R F P pc L (.inl x :: st) w uc us :=
  zr_if1 (c1 := x < 0) (fun hx G p l e s m args below meth c A ad0 ad H locs ls hh k1 k2 => by
    have e : Int32.ofInt x < 0 ↔ x < 0 := by
      have h := zlt hx zin0
      rw [zof0] at h
      exact h
    exact lv_if_lt hh.1.1 hh.1.2.1 hdg ht (fun h => k1 (e.mp h)) (fun h => k2 (fun z => h (e.mpr z)))) kt kf
theorem zr_if_ge {x : Int} {off : Int} {tgt : Nat} (hdg : decode M.2.1 pc = .ok (.ifCond .ge off, 3)) (ht : (pc : Int) + off = (tgt : Int)) (kt : 0 ≤ x → zB M R F P tgt L st w uc us) (kf : ¬ (0 ≤ x) → zB M R F P (pc + 3) L st w uc us) : zB M R F P pc L (.inl x :: st) w uc us :=
  zr_if1 (c1 := 0 ≤ x) (fun hx G p l e s m args below meth c A ad0 ad H locs ls hh k1 k2 => by
    have e : 0 ≤ Int32.ofInt x ↔ 0 ≤ x := by
      have h := zle zin0 hx
      rw [zof0] at h
      exact h
    exact lv_if_ge hh.1.1 hh.1.2.1 hdg ht (fun h => k1 (e.mp h)) (fun h => k2 (fun z => h (e.mpr z)))) kt kf
theorem zr_if_gt {x : Int} {off : Int} {tgt : Nat} (hdg : decode M.2.1 pc = .ok (.ifCond .gt off, 3)) (ht : (pc : Int) + off = (tgt : Int)) (kt : 0 < x → zB M R F P tgt L st w uc us) (kf : ¬ (0 < x) → zB M R F P (pc + 3) L st w uc us) : zB M R F P pc L (.inl x :: st) w uc us :=
  zr_if1 (c1 := 0 < x) (fun hx G p l e s m args below meth c A ad0 ad H locs ls hh k1 k2 => by
    have e : 0 < Int32.ofInt x ↔ 0 < x := by
      have h := zlt zin0 hx
      rw [zof0] at h
      exact h
    exact lv_if_gt hh.1.1 hh.1.2.1 hdg ht (fun h => k1 (e.mp h)) (fun h => k2 (fun z => h (e.mpr z)))) kt kf
theorem zr_if_le {x : Int} {off : Int} {tgt : Nat} (hdg : decode M.2.1 pc = .ok (.ifCond .le off, 3)) (ht : (pc : Int) + off = (tgt : Int)) (kt : x ≤ 0 → zB M R F P tgt L st w uc us) (kf : ¬ (x ≤ 0) → zB M R F P (pc + 3) L st w uc us) : zB M R F P pc L (.inl x :: st) w uc us :=
  zr_if1 (c1 := x ≤ 0) (fun hx G p l e s m args below meth c A ad0 ad H locs ls hh k1 k2 => by
    have e : Int32.ofInt x ≤ 0 ↔ x ≤ 0 := by
      have h := zle hx zin0
      rw [zof0] at h
      exact h
    exact lv_if_le hh.1.1 hh.1.2.1 hdg ht (fun h => k1 (e.mp h)) (fun h => k2 (fun z => h (e.mpr z)))) kt kf
theorem zr_ic_eq {x y : Int} {off : Int} {tgt : Nat} (hdg : decode M.2.1 pc = .ok (.if_icmp .eq off, 3)) (ht : (pc : Int) + off = (tgt : Int)) (kt : x = y → zB M R F P tgt L st w uc us) (kf : ¬ (x = y) → zB M R F P (pc + 3) L st w uc us) : zB M R F P pc L (.inl y :: .inl x :: st) w uc us :=
  zr_if2 (c1 := x = y) (fun hx hy G p l e s m args below meth c A ad0 ad H locs ls hh k1 k2 => by
    have e := zeq hx hy
    exact lv_icmp_eq hh.1.1 hh.1.2.1 hdg ht (fun h => k1 (e.mp h)) (fun h => k2 (fun z => h (e.mpr z)))) kt kf
theorem zr_ic_ne {x y : Int} {off : Int} {tgt : Nat} (hdg : decode M.2.1 pc = .ok (.if_icmp .ne off, 3)) (ht : (pc : Int) + off = (tgt : Int)) (kt : ¬ x = y → zB M R F P tgt L st w uc us) (kf : ¬ (¬ x = y) → zB M R F P (pc + 3) L st w uc us) : zB M R F P pc L (.inl y :: .inl x :: st) w uc us :=
  zr_if2 (c1 := ¬ x = y) (fun hx hy G p l e s m args below meth c A ad0 ad H locs ls hh k1 k2 => by
    have e := zeq hx hy
    exact lv_icmp_ne hh.1.1 hh.1.2.1 hdg ht (fun h => k1 (fun z => h (e.mpr z))) (fun h => k2 (fun z => z (e.mp h)))) kt kf
theorem zr_ic_lt {x y : Int} {off : Int} {tgt : Nat} (hdg : decode M.2.1 pc = .ok (.if_icmp .lt off, 3)) (ht : (pc : Int) + off = (tgt : Int)) (kt : x < y → zB M R F P tgt L st w uc us) (kf : ¬ (x < y) → zB M R F P (pc + 3) L st w uc us) : zB M R F P pc L (.inl y :: .inl x :: st) w uc us :=
  zr_if2 (c1 := x < y) (fun hx hy G p l e s m args below meth c A ad0 ad H locs ls hh k1 k2 => by
    have e := zlt hx hy
    exact lv_icmp_lt hh.1.1 hh.1.2.1 hdg ht (fun h => k1 (e.mp h)) (fun h => k2 (fun z => h (e.mpr z)))) kt kf
theorem zr_ic_ge {x y : Int} {off : Int} {tgt : Nat} (hdg : decode M.2.1 pc = .ok (.if_icmp .ge off, 3)) (ht : (pc : Int) + off = (tgt : Int)) (kt : y ≤ x → zB M R F P tgt L st w uc us) (kf : ¬ (y ≤ x) → zB M R F P (pc + 3) L st w uc us) : zB M R F P pc L (.inl y :: .inl x :: st) w uc us :=
  zr_if2 (c1 := y ≤ x) (fun hx hy G p l e s m args below meth c A ad0 ad H locs ls hh k1 k2 => by
    have e := zle hy hx
    exact lv_icmp_ge hh.1.1 hh.1.2.1 hdg ht (fun h => k1 (e.mp h)) (fun h => k2 (fun z => h (e.mpr z)))) kt kf
theorem zr_ic_gt {x y : Int} {off : Int} {tgt : Nat} (hdg : decode M.2.1 pc = .ok (.if_icmp .gt off, 3)) (ht : (pc : Int) + off = (tgt : Int)) (kt : y < x → zB M R F P tgt L st w uc us) (kf : ¬ (y < x) → zB M R F P (pc + 3) L st w uc us) : zB M R F P pc L (.inl y :: .inl x :: st) w uc us :=
  zr_if2 (c1 := y < x) (fun hx hy G p l e s m args below meth c A ad0 ad H locs ls hh k1 k2 => by
    have e := zlt hy hx
    exact lv_icmp_gt hh.1.1 hh.1.2.1 hdg ht (fun h => k1 (e.mp h)) (fun h => k2 (fun z => h (e.mpr z)))) kt kf
theorem zr_ic_le {x y : Int} {off : Int} {tgt : Nat} (hdg : decode M.2.1 pc = .ok (.if_icmp .le off, 3)) (ht : (pc : Int) + off = (tgt : Int)) (kt : x ≤ y → zB M R F P tgt L st w uc us) (kf : ¬ (x ≤ y) → zB M R F P (pc + 3) L st w uc us) : zB M R F P pc L (.inl y :: .inl x :: st) w uc us :=
  zr_if2 (c1 := x ≤ y) (fun hx hy G p l e s m args below meth c A ad0 ad H locs ls hh k1 k2 => by
    have e := zle hx hy
    exact lv_icmp_le hh.1.1 hh.1.2.1 hdg ht (fun h => k1 (e.mp h)) (fun h => k2 (fun z => h (e.mpr z)))) kt kf
end ZR
