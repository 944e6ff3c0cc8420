/-! ===== ROWS of the heap ===== -/
/-- a field's link: class own, pool place idx, kind ci, place k, descriptor d, final or not -/
def zFL (own : String) (idx ci k : Nat) (d : String) (fin : Bool) : Prop := ∃ (C : String) (T : u_T) (N : Nat), zCl[ci]? = some (C, T, N) ∧ k < N ∧ (T k).2.2.1 = d ∧ (T k).2.2.2 = fin ∧ Cond.fieldLink own idx (T k).1 (T k).2.1 d ∈ zGW
theorem zokS.setC {ci : Nat} {fs : List zAV} {k : Nat} {v : zAV} (h : zokC (.inl (ci, fs))) (hv : zokN v) : zokC (.inl (ci, fs.set k v)) := fun u hu => by
  rcases List.mem_or_eq_of_mem_set hu with hu | rfl
  · exact h u hu
  · exact hv
section ZH
variable {M : zM} {R : Room} {F : zF} {P : Nat → Prop} {pc uc us : Nat} {L : List (Option zAV)} {st : List zAV} {w : List zAC}
theorem zr_get {idx ci k i : Nat} {d : String} {fin : Bool} {fs : List zAV} {v : zAV} (hdg : decode M.2.1 pc = .ok (.getfield idx, 3)) (hl : zFL M.1.cls idx ci k d fin) (hi : w[i]? = some (.inl (ci, fs))) (hv : fs[k]? = some v)
    (kk : zB M R F P (pc + 3) L (v :: st) w uc us) : zB M R F P pc L (.inr (.inl (some i)) :: st) w uc us := by
  intro G p l e s m args below meth c A ad0 ad H locs ls hh
  obtain ⟨C, T, N, hc, hk, hd, hf, hm⟩ := hl
  have hok := (hh.2.2.2.2.1.at hi) v (List.mem_of_getElem? hv)
  have k1 := kk G p l e s m args below meth c A ad0 ad H locs ls ⟨hh.1, hh.2.1, hh.2.2.1, hh.2.2.2.1.tl.cons hok.v, hh.2.2.2.2⟩
  obtain ⟨⟨hx, hb, -, -, -, hown, hts, -, hK, hA⟩, -, -, -, -, -, hP, hD, hS⟩ := hh
  have e1 := zeW_at (cA := G.2.2) (ad := ad) hi
  exact va_get (D := zD G) (ref := (T k).1) hx hb hts (zcl_in ci C T N hc) hown hK hP i e1 hc k hk (by rw [hd]; exact hts _ hm) (fun _ h => h) (by rw [List.getElem?_map, hv]; rfl) hdg k1
theorem zr_put {idx ci k i : Nat} {d : String} {fs : List zAV} {v : zAV} {ty : FieldType} {w' : List zAC} (hdg : decode M.2.1 pc = .ok (.putfield idx, 3)) (hl : zFL M.1.cls idx ci k d false) (hi : w[i]? = some (.inl (ci, fs))) (hk2 : k < fs.length)
    (hd2 : parseFieldDescriptor d = some ty) (hN : zokN v) (hn : ∀ ad : Nat → Nat, narrow ty (zeV ad v) = zeV ad v ∧ fits ty (zeV ad v) = true) (hw' : w.set i (.inl (ci, fs.set k v)) = w')
    (kk : zB M R F P (pc + 3) L st w' uc us) : zB M R F P pc L (v :: .inr (.inl (some i)) :: st) w uc us := by
  intro G p l e s m args below meth c A ad0 ad H locs ls hh
  obtain ⟨C, T, N, hc, hk, hd, hf, hm⟩ := hl
  subst hw'
  have hokc := hh.2.2.2.2.1.at hi
  obtain ⟨hcx, hag, hL, hSt, hW, hv, hP, hD, hS⟩ := hh
  have hcx0 := hcx
  obtain ⟨hx, hb, -, -, -, hown, hts, -, hK, hA, hNk⟩ := hcx
  obtain ⟨⟨tyf, htyf⟩, hnm⟩ := zcl_ok ci C T N hc
  have e1 := zeW_at (cA := G.2.2) (ad := ad) hi
  refine va_put (D := zD G) (ref := (T k).1) hx hb hts (zcl_in ci C T N hc) tyf htyf hnm hown hK hP hD hS i e1 hc k hk (by rw [hd]; exact hts _ hm) (fun _ h => h) hf (by rw [hd]; exact hd2) (hn ad).1 (hn ad).2 (by rw [List.length_map]; exact hk2) hdg (fun H1 locs1 hP1 hD1 hS1 => ?_)
  have e2 : (zeW G.2.2 ad 0 w).set i (ad i, .inr (ci, (fs.map (zeV ad)).set k (zeV ad v))) = zeW G.2.2 ad 0 (w.set i (.inl (ci, fs.set k v))) := by
    have := zeW_set G.2.2 ad (.inl (ci, fs.set k v)) w 0 i
    rw [Nat.zero_add] at this
    rw [← this]
    simp [zeC, List.map_set]
  rw [e2] at hP1 hD1
  exact kk G p l e s m args below meth c A ad0 ad H1 locs1 ls ⟨hcx0, hag, hL, hSt.tl.tl, hW.set (zokS.setC hokc hN), hv, hP1, hD1, hS1⟩
theorem zr_putF {idx ci k i : Nat} {d : String} {fs : List zAV} {v : zAV} {ty : FieldType} {w' : List zAC} (hdg : decode M.2.1 pc = .ok (.putfield idx, 3)) (hl : zFL M.1.cls idx ci k d true) (hini : M.1.name = "<init>") (hdc : ∀ C T N, zCl[ci]? = some (C, T, N) → (T k).1 = M.1.cls) (hi : w[i]? = some (.inl (ci, fs))) (hk2 : k < fs.length)
    (hd2 : parseFieldDescriptor d = some ty) (hN : zokN v) (hn : ∀ ad : Nat → Nat, narrow ty (zeV ad v) = zeV ad v ∧ fits ty (zeV ad v) = true) (hw' : w.set i (.inl (ci, fs.set k v)) = w')
    (kk : zB M R F P (pc + 3) L st w' uc us) : zB M R F P pc L (v :: .inr (.inl (some i)) :: st) w uc us := by
  intro G p l e s m args below meth c A ad0 ad H locs ls hh
  obtain ⟨C, T, N, hc, hk, hd, hf, hm⟩ := hl
  subst hw'
  have hokc := hh.2.2.2.2.1.at hi
  obtain ⟨hcx, hag, hL, hSt, hW, hv, hP, hD, hS⟩ := hh
  have hcx0 := hcx
  obtain ⟨hx, hb, -, -, -, hown, hts, hmi, hK, hA, hNk⟩ := hcx
  obtain ⟨⟨tyf, htyf⟩, hnm⟩ := zcl_ok ci C T N hc
  have e1 := zeW_at (cA := G.2.2) (ad := ad) hi
  refine va_putF (D := zD G) (ref := (T k).1) hx hb hts (zcl_in ci C T N hc) tyf htyf hnm hown hK hP hD hS i e1 hc k hk (by rw [hd]; exact hts _ hm) (fun _ h => h) hf (hmi.1 hini) (hdc C T N hc) (by rw [hd]; exact hd2) (hn ad).1 (hn ad).2 (by rw [List.length_map]; exact hk2) hdg (fun H1 locs1 hP1 hD1 hS1 => ?_)
  have e2 : (zeW G.2.2 ad 0 w).set i (ad i, .inr (ci, (fs.map (zeV ad)).set k (zeV ad v))) = zeW G.2.2 ad 0 (w.set i (.inl (ci, fs.set k v))) := by
    have := zeW_set G.2.2 ad (.inl (ci, fs.set k v)) w 0 i
    rw [Nat.zero_add] at this
    rw [← this]
    simp [zeC, List.map_set]
  rw [e2] at hP1 hD1
  exact kk G p l e s m args below meth c A ad0 ad H1 locs1 ls ⟨hcx0, hag, hL, hSt.tl.tl, hW.set (zokS.setC hokc hN), hv, hP1, hD1, hS1⟩
/-! arrays of ints (kind 0) and of booleans (kind 1) -/
theorem zvp_in {x : Int} {n : Nat} (hx : zin x) (h0 : 0 ≤ x) (h1 : x < n) : vp_in (Int32.ofInt x) n := by
  rw [vp_in_iff, zti hx]
  exact ⟨h0, h1⟩
theorem zr_iaload {i n : Nat} {f : Int → Int} {x : Int} (hdg : decode M.2.1 pc = .ok (.iaload, 1)) (hi : w[i]? = some (.inr (0, n, f))) (h0 : 0 ≤ x ∧ x < n)
    (kk : zB M R F P (pc + 1) L (.inl (f x) :: st) w uc us) : zB M R F P pc L (.inl x :: .inr (.inl (some i)) :: st) w uc us := by
  intro G p l e s m args below meth c A ad0 ad H locs ls hh
  have hx := hh.2.2.2.1.hd
  have hok := (hh.2.2.2.2.1.at hi).2 x h0.1 h0.2
  have k1 := kk G p l e s m args below meth c A ad0 ad H locs ls ⟨hh.1, hh.2.1, hh.2.2.1, hh.2.2.2.1.tl.tl.cons (v := .inl (f x)) hok, hh.2.2.2.2⟩
  obtain ⟨⟨hx1, hb, -, -, -, hown, hts, -, hK, hA⟩, -, -, -, -, -, hP, hD, hS⟩ := hh
  have e1 := zeW_at (cA := G.2.2) (ad := ad) hi
  refine va_iald (D := zD G) hx1 hb hK hP i 0 e1 rfl (zvp_in hx h0.1 h0.2) hdg ?_
  rw [zclamp hx, Int.toNat_of_nonneg h0.1]
  exact k1
theorem zr_baload {i n : Nat} {f : Int → Int} {x : Int} (hdg : decode M.2.1 pc = .ok (.baload, 1)) (hi : w[i]? = some (.inr (1, n, f))) (h0 : 0 ≤ x ∧ x < n)
    (kk : zB M R F P (pc + 1) L (.inl (f x) :: st) w uc us) : zB M R F P pc L (.inl x :: .inr (.inl (some i)) :: st) w uc us := by
  intro G p l e s m args below meth c A ad0 ad H locs ls hh
  have hx := hh.2.2.2.1.hd
  have hok := (hh.2.2.2.2.1.at hi).2 x h0.1 h0.2
  have k1 := kk G p l e s m args below meth c A ad0 ad H locs ls ⟨hh.1, hh.2.1, hh.2.2.1, hh.2.2.2.1.tl.tl.cons (v := .inl (f x)) hok, hh.2.2.2.2⟩
  obtain ⟨⟨hx1, hb, -, -, -, hown, hts, -, hK, hA⟩, -, -, -, -, -, hP, hD, hS⟩ := hh
  have e1 := zeW_at (cA := G.2.2) (ad := ad) hi
  refine va_zald (D := zD G) hx1 hb hK hP i 1 e1 rfl (zvp_in hx h0.1 h0.2) hdg ?_
  rw [zclamp hx, Int.toNat_of_nonneg h0.1]
  exact k1
def zup (f : Int → Int) (i v : Int) : Int → Int := fun j => if j = i then v else f j
theorem zup_enc {f : Int → Int} {x v : Int} (h : 0 ≤ x) : (fun k : Nat => Int32.ofInt (zup f x v k)) = upd (fun k : Nat => Int32.ofInt (f k)) x.toNat (Int32.ofInt v) := by
  funext k
  unfold zup upd
  by_cases hk : (k : Int) = x
  · rw [if_pos hk, if_pos (by omega)]
  · rw [if_neg hk, if_neg (by omega)]
theorem zok_up {n : Nat} {f : Int → Int} {x v : Int} (h : (n : Int) < 2147483648 ∧ ∀ i : Int, 0 ≤ i → i < n → zin (f i)) (hv : zin v) : (n : Int) < 2147483648 ∧ ∀ i : Int, 0 ≤ i → i < n → zin (zup f x v i) := by
  refine ⟨h.1, fun i h0 h1 => ?_⟩
  unfold zup
  by_cases hi : i = x
  · rw [if_pos hi]; exact hv
  · rw [if_neg hi]; exact h.2 i h0 h1
theorem zr_iastore {i n : Nat} {f : Int → Int} {x v : Int} {w' : List zAC} (hdg : decode M.2.1 pc = .ok (.iastore, 1)) (hi : w[i]? = some (.inr (0, n, f))) (h0 : 0 ≤ x ∧ x < n) (hw' : w.set i (.inr (0, n, zup f x v)) = w')
    (kk : zB M R F P (pc + 1) L st w' uc us) : zB M R F P pc L (.inl v :: .inl x :: .inr (.inl (some i)) :: st) w uc us := by
  intro G p l e s m args below meth c A ad0 ad H locs ls hh
  subst hw'
  obtain ⟨hcx, hag, hL, hSt, hW, hv, hP, hD, hS⟩ := hh
  have hcx0 := hcx
  obtain ⟨hx1, hb, -, -, -, hown, hts, hmi, hK, hA, hNk⟩ := hcx
  have hx := hSt.tl.hd
  have e1 := zeW_at (cA := G.2.2) (ad := ad) hi
  refine va_iast (D := zD G) hx1 hb hK hP hD hS i 0 e1 rfl (zvp_in hx h0.1 h0.2) hdg (fun H1 locs1 hP1 hD1 hS1 => ?_)
  have e2 : (zeW G.2.2 ad 0 w).set i (ad i, .inl (G.2.2 0, n, .inl (upd (fun k : Nat => Int32.ofInt (f k)) (Int32.ofInt x).toNatClampNeg (Int32.ofInt v)))) = zeW G.2.2 ad 0 (w.set i (.inr (0, n, zup f x v))) := by
    have := zeW_set G.2.2 ad (.inr (0, n, zup f x v)) w 0 i
    rw [Nat.zero_add] at this
    rw [← this, zclamp hx, ← zup_enc h0.1]
    rfl
  rw [e2] at hP1 hD1
  exact kk G p l e s m args below meth c A ad0 ad H1 locs1 ls ⟨hcx0, hag, hL, hSt.tl.tl.tl, hW.set (zok_up (hW.at hi) hSt.hd), hv, hP1, hD1, hS1⟩
theorem zr_bastore {i n : Nat} {f : Int → Int} {x v : Int} {w' : List zAC} (hdg : decode M.2.1 pc = .ok (.bastore, 1)) (hi : w[i]? = some (.inr (1, n, f))) (h0 : 0 ≤ x ∧ x < n) (hb01 : v = 0 ∨ v = 1) (hw' : w.set i (.inr (1, n, zup f x v)) = w')
    (kk : zB M R F P (pc + 1) L st w' uc us) : zB M R F P pc L (.inl v :: .inl x :: .inr (.inl (some i)) :: st) w uc us := by
  intro G p l e s m args below meth c A ad0 ad H locs ls hh
  subst hw'
  obtain ⟨hcx, hag, hL, hSt, hW, hv, hP, hD, hS⟩ := hh
  have hcx0 := hcx
  obtain ⟨hx1, hb, -, -, -, hown, hts, hmi, hK, hA, hNk⟩ := hcx
  have hx := hSt.tl.hd
  have e1 := zeW_at (cA := G.2.2) (ad := ad) hi
  refine va_zast (D := zD G) hx1 hb hK hP hD hS i 1 e1 rfl (zvp_in hx h0.1 h0.2) hdg (fun H1 locs1 hP1 hD1 hS1 => ?_)
  have e3 : vp_nar .boolean (Int32.ofInt v) = Int32.ofInt v := by rcases hb01 with rfl | rfl <;> decide
  have e2 : (zeW G.2.2 ad 0 w).set i (ad i, .inl (G.2.2 1, n, .inl (upd (fun k : Nat => Int32.ofInt (f k)) (Int32.ofInt x).toNatClampNeg (vp_nar .boolean (Int32.ofInt v))))) = zeW G.2.2 ad 0 (w.set i (.inr (1, n, zup f x v))) := by
    have := zeW_set G.2.2 ad (.inr (1, n, zup f x v)) w 0 i
    rw [Nat.zero_add] at this
    rw [← this, zclamp hx, e3, ← zup_enc h0.1]
    rfl
  rw [e2] at hP1 hD1
  exact kk G p l e s m args below meth c A ad0 ad H1 locs1 ls ⟨hcx0, hag, hL, hSt.tl.tl.tl, hW.set (zok_up (hW.at hi) hSt.hd), hv, hP1, hD1, hS1⟩
theorem zeA_fst (tk n : Nat) (f : Int → Int) : (zeA tk n f).1 = n := by
  unfold zeA
  split <;> rfl
theorem zr_alen {i n tk : Nat} {f : Int → Int} (hdg : decode M.2.1 pc = .ok (.arraylength, 1)) (hi : w[i]? = some (.inr (tk, n, f))) (htk : tk < 2)
    (kk : zB M R F P (pc + 1) L (.inl n :: st) w uc us) : zB M R F P pc L (.inr (.inl (some i)) :: st) w uc us := by
  intro G p l e s m args below meth c A ad0 ad H locs ls hh
  have hn : (n : Int) < 2147483648 := by
    have h1 := hh.2.2.2.2.1.at hi
    rcases (show tk = 0 ∨ tk = 1 by omega) with rfl | rfl <;> exact h1.1
  have k1 := kk G p l e s m args below meth c A ad0 ad H locs ls ⟨hh.1, hh.2.1, hh.2.2.1, hh.2.2.2.1.tl.cons (v := .inl (n : Int)) ⟨by omega, hn⟩, hh.2.2.2.2⟩
  obtain ⟨⟨hx1, hb, -, -, -, hown, hts, -, hK, hA⟩, -, -, -, -, -, hP, hD, hS⟩ := hh
  have e1 := zeW_at (cA := G.2.2) (ad := ad) hi
  rcases (show tk = 0 ∨ tk = 1 by omega) with rfl | rfl
  · exact va_alen (D := zD G) hx1 hb hK hP i 0 e1 rfl (v := Int32.ofInt n) rfl hdg k1
  · exact va_alen (D := zD G) hx1 hb hK hP i 1 e1 rfl (v := Int32.ofInt n) rfl hdg k1
/-! ends -/
theorem zq_end {Q : zQ} {G : zG} {p : Program} {s : State} {m : MethodId} {args : Array Value} {meth : Method} {c : Code} {A : Nat → Prop} {ad0 ad : Nat → Nat} {H : Heap} {locs : List Loc} {ls : Array Slot} {st' : List zAV}
    (hh : zHd M G P p s m args meth c A ad0 ad H locs ls L st' w) {r : Option zAV} (hr : ∀ v, r = some v → zokN v) (hq : Q r w) {t : State} (ht : t.heap = H) (hW : s.WarmedH t.vm) : zQc G A ad0 P Q args s (.returned (r.map (zeV ad))) t := by
  obtain ⟨⟨hx1, hb, -, -, -, hown, hts, -, hK, hA⟩, hag, -, -, hokW, -, hP, hD, hS⟩ := hh
  exact ⟨⟨r, w, ad, rfl, hq, hr, hokW, hag, by rw [ht]; exact hP, va_K.moved hW.alike hK, hD⟩, hS.F ht⟩
theorem zr_iret {mc ms : Nat} {Q : zQ} {x : Int} (hdg : decode M.2.1 pc = .ok (.ireturn, 1)) (hret : M.2.2.2 = some .int) (huc : uc ≤ mc) (hus : us ≤ ms) (hq : Q (some (.inl x)) w) : zB M R (zFq mc ms P Q) P pc L [.inl x] w uc us := by
  intro G p l e s m args below meth c A ad0 ad H locs ls hh
  refine W.widen (k := mc) (n := ms) huc hus ?_
  have hcx := hh.1
  refine W.iret (v := Int32.ofInt x) hcx.1 hcx.2.1 (hcx.2.2.2.1.trans hret) (fun t ht hW => ?_) hh.2.2.2.2.2.2.2.2.2.2 hdg hcx.2.2.2.2.1
  exact zq_end hh (r := some (.inl x)) (fun v hv => by cases hv; exact hh.2.2.2.1.hd) hq ht hW
theorem zr_zret {mc ms : Nat} {Q : zQ} {x : Int} (hdg : decode M.2.1 pc = .ok (.ireturn, 1)) (hret : M.2.2.2 = some .boolean) (hb01 : x = 0 ∨ x = 1) (huc : uc ≤ mc) (hus : us ≤ ms) (hq : Q (some (.inl x)) w) : zB M R (zFq mc ms P Q) P pc L [.inl x] w uc us := by
  intro G p l e s m args below meth c A ad0 ad H locs ls hh
  refine W.widen (k := mc) (n := ms) huc hus ?_
  have hcx := hh.1
  refine W.zret (v := Int32.ofInt x) hcx.1 hcx.2.1 (hcx.2.2.2.1.trans hret) (by rcases hb01 with rfl | rfl <;> decide) (fun t ht hW => ?_) hh.2.2.2.2.2.2.2.2.2.2 hdg hcx.2.2.2.2.1
  exact zq_end hh (r := some (.inl x)) (fun v hv => by cases hv; exact hh.2.2.2.1.hd) hq ht hW
theorem zr_vret {mc ms : Nat} {Q : zQ} (hdg : decode M.2.1 pc = .ok (.return_, 1)) (hret : M.2.2.2 = none) (huc : uc ≤ mc) (hus : us ≤ ms) (hq : Q none w) : zB M R (zFq mc ms P Q) P pc L [] w uc us := by
  intro G p l e s m args below meth c A ad0 ad H locs ls hh
  refine W.widen (k := mc) (n := ms) huc hus ?_
  have hcx := hh.1
  refine W.vret hcx.1 hcx.2.1 (hcx.2.2.2.1.trans hret) (fun t ht hW => ?_) hh.2.2.2.2.2.2.2.2.2.2 hdg hcx.2.2.2.2.1
  exact zq_end hh (r := none) (fun v hv => by cases hv) hq ht hW
theorem zr_aret {mc ms : Nat} {Q : zQ} {x : Nat} {C : String} (hdg : decode M.2.1 pc = .ok (.areturn, 1)) (hret : M.2.2.2 = some (.object C) ∨ M.2.2.2 = some (.array .int)) (huc : uc ≤ mc) (hus : us ≤ ms) (hq : Q (some (.inr (.inl (some x)))) w) : zB M R (zFq mc ms P Q) P pc L [.inr (.inl (some x))] w uc us := by
  intro G p l e s m args below meth c A ad0 ad H locs ls hh
  refine W.widen (k := mc) (n := ms) huc hus ?_
  have hcx := hh.1
  rcases hret with hret | hret
  · refine W.aret (v := .ref (ad x)) hcx.1 hcx.2.1 (hcx.2.2.2.1.trans hret) (Or.inl ⟨C, rfl⟩) (Or.inr ⟨_, rfl⟩) (fun t ht hW => ?_) hh.2.2.2.2.2.2.2.2.2.2 hdg hcx.2.2.2.2.1
    exact zq_end hh (r := some (.inr (.inl (some x)))) (fun v hv => by cases hv; exact True.intro) hq ht hW
  · refine W.aret (v := .ref (ad x)) hcx.1 hcx.2.1 (hcx.2.2.2.1.trans hret) (Or.inr ⟨_, rfl⟩) (Or.inr ⟨_, rfl⟩) (fun t ht hW => ?_) hh.2.2.2.2.2.2.2.2.2.2 hdg hcx.2.2.2.2.1
    exact zq_end hh (r := some (.inr (.inl (some x)))) (fun v hv => by cases hv; exact True.intro) hq ht hW
end ZH
