/-! ===== new objects and arrays ===== -/
def zad (ad : Nat → Nat) (v q : Nat) : Nat → Nat := fun k => if k = v then q else ad k
def zfV (v : Nat) : zAV → Bool
  | .inr (.inl (some k)) => k != v
  | _ => true
def zfS (v : Nat) : List zAV → Bool
  | [] => true
  | x :: l => zfV v x && zfS v l
def zfL (v : Nat) : List (Option zAV) → Bool
  | [] => true
  | none :: l => zfL v l
  | some x :: l => zfV v x && zfL v l
def zfC (v : Nat) : zAC → Bool
  | .inl o => zfS v o.2
  | .inr _ => true
def zfW (v : Nat) : List zAC → Bool
  | [] => true
  | c :: w => zfC v c && zfW v w
theorem zeV_fr {ad : Nat → Nat} {v q : Nat} {x : zAV} (h : zfV v x = true) : zeV (zad ad v q) x = zeV ad x := by
  match x, h with
  | .inl x, _ => rfl
  | .inr (.inl none), _ => rfl
  | .inr (.inl (some k)), h =>
    have h1 : k ≠ v := by simpa [zfV] using h
    simp [zeV, zad, h1]
  | .inr (.inr x), _ => rfl
theorem zeS_fr {ad : Nat → Nat} {v q : Nat} : ∀ {st : List zAV}, zfS v st = true → st.map (zeV (zad ad v q)) = st.map (zeV ad)
  | [], _ => rfl
  | x :: l, h => by
    simp only [zfS, Bool.and_eq_true] at h
    rw [List.map_cons, List.map_cons, zeV_fr h.1, zeS_fr h.2]
theorem zeL_fr {ad : Nat → Nat} {v q : Nat} : ∀ {L : List (Option zAV)} {i : Nat}, zfL v L = true → zeL (zad ad v q) i L = zeL ad i L
  | [], _, _ => rfl
  | none :: l, i, h => by
    simp only [zeL]
    exact zeL_fr (L := l) h
  | some x :: l, i, h => by
    simp only [zfL, Bool.and_eq_true] at h
    simp only [zeL]
    rw [zeV_fr h.1, zeL_fr (L := l) h.2]
theorem zeC_fr {cA : Nat → ClassId} {ad : Nat → Nat} {v q : Nat} {c : zAC} (h : zfC v c = true) : zeC cA (zad ad v q) c = zeC cA ad c := by
  match c, h with
  | .inl o, h => simp only [zeC]; rw [zeS_fr (st := o.2) h]
  | .inr a, _ => rfl
theorem zeW_fr {cA : Nat → ClassId} {ad : Nat → Nat} {v q : Nat} : ∀ {w : List zAC} {i : Nat}, i + w.length ≤ v → zfW v w = true → zeW cA (zad ad v q) i w = zeW cA ad i w
  | [], _, _, _ => rfl
  | c :: w, i, hl, h => by
    simp only [zfW, Bool.and_eq_true] at h
    rw [List.length_cons] at hl
    simp only [zeW]
    rw [zeC_fr h.1, zeW_fr (w := w) (by omega) h.2]
    congr 2
    unfold zad
    rw [if_neg (by omega)]
section ZNEW
variable {M : zM} {R : Room} {F : zF} {P : Nat → Prop} {pc uc us : Nat} {L : List (Option zAV)} {st : List zAV} {w : List zAC}
theorem zr_newa {aty : ArrayType} {ty : FieldType} {tk len v : Nat} {n : Int} (hdg : decode M.2.1 pc = .ok (.newarray aty, 2)) (hat : newarray.typeOf aty = ty) (hk : ∀ G : zG, (zTy G)[tk]? = some (G.2.2 tk, ty)) (hra : ∀ (U : State) (cA : ClassId), va_RA U cA ty → U.vm.findClass ("[" ++ ty.toString) = some cA)
    (hz : ∀ cA : ClassId, vp_cell cA (zeA tk len (fun _ => 0)) = arrV cA len (fun _ => defaultValue ty)) (hzo : zokA tk len (fun _ => 0)) (hm : Cond.arrayClass ty ∈ zGW) (hn0 : 0 ≤ n) (hn : n.toNat = len) (hby : len * componentBytes ty ≤ 536870912)
    (hv : w.length = v) (hPv : ¬ P v) (hL : zfL v L = true) (hS : zfS v st = true) (hw : zfW v w = true) (huc : uc + 1 ≤ R.cells) (hus : us + len ≤ R.slots)
    (kk : zB M R F P (pc + 2) L (.inr (.inl (some v)) :: st) (w ++ [.inr (tk, len, fun _ => 0)]) (uc + 1) (us + len)) : zB M R F P pc L (.inl n :: st) w uc us := by
  intro G p l e s m args below meth c A ad0 ad H locs ls hh
  obtain ⟨hcx, hag, hL', hSt, hW, hv', hP, hD, hSS⟩ := hh
  have hcx0 := hcx
  obtain ⟨hx1, hb, hmlx, -, -, hown, hts, hmi, hK, hA, hNk⟩ := hcx
  have hx : zin n := hSt.hd
  refine va_newa (ws := zeW G.2.2 ad 0 w) (a0 := zeA tk len (fun _ => 0)) hx1 hb (by rw [hat]; exact hts _ hm) hat hK hP hD hSS hA hz ?_ ?_ hby huc hus hdg ?_
  · rw [← zof0, zlt hx zin0]; omega
  · rw [zclamp hx]; exact hn
  · intro q cA H1 hK1 hP1 hD1 hS1
    have e1 := hra _ _ (hK1.2 (zTy G).length (cA, ty) (by simp)).2
    have e2 := hra _ _ (hK.2 tk _ (hk G)).2
    have e3 : cA = G.2.2 tk := Option.some.inj (e1.symm.trans e2)
    subst e3
    have ew : zeW G.2.2 (zad ad v q) 0 (w ++ [.inr (tk, len, fun _ => 0)]) = zeW G.2.2 ad 0 w ++ [(q, .inl (G.2.2 tk, zeA tk len fun _ => 0))] := by
      rw [zeW_app, Nat.zero_add, hv, zeW_fr (by omega) hw]
      simp [zeW, zad, zeC]
    have k1 := kk G p l e s m args below meth c A ad0 (zad ad v q) H1 locs ls ⟨hcx0, fun k hk => ?_, hL', hSt.tl.cons (v := .inr (.inl (some v))) True.intro, hW.app ?_, by rw [zeL_fr hL]; exact hv', by rw [ew]; exact hP1, by rw [ew]; exact hD1, hS1⟩
    · rw [List.map_cons, zeS_fr hS] at k1
      simpa [zeV, zad] using k1
    · rw [← hag k hk]
      unfold zad
      rw [if_neg]
      intro h
      rw [h] at hk
      exact hPv hk
    · intro x hx
      rw [List.mem_singleton] at hx
      rw [hx]
      exact hzo
theorem zr_new {index ci N v : Nat} {C : String} {T : u_T} {fs : List zAV} (hdg : decode M.2.1 pc = .ok (.new index, 3)) (hc : zCl[ci]? = some (C, T, N)) (hm : ∀ x ∈ [Cond.classLink M.1.cls index C, Cond.instantiable C N, Cond.initialized C], x ∈ zGW)
    (hfs : ∀ (ad : Nat → Nat) (ty : Nat → FieldType), (∀ k, k < N → parseFieldDescriptor (T k).2.2.1 = some (ty k)) → ∀ j, j < N → defaultValue (ty j) = vp_V (fs.map (zeV ad)) j) (hok : ∀ v ∈ fs, zokN v)
    (hv : w.length = v) (hPv : ¬ P v) (hL : zfL v L = true) (hS : zfS v st = true) (hw : zfW v w = true) (hf : zfS v fs = true) (huc : uc + 1 ≤ R.cells) (hus : us + N ≤ R.slots)
    (kk : zB M R F P (pc + 3) L (.inr (.inl (some v)) :: st) (w ++ [.inl (ci, fs)]) (uc + 1) (us + N)) : zB M R F P pc L st w uc us := by
  intro G p l e s m args below meth c A ad0 ad H locs ls hh
  obtain ⟨hcx, hag, hL', hSt, hW, hv', hP, hD, hSS⟩ := hh
  have hcx0 := hcx
  obtain ⟨hx1, hb, hmlx, -, -, hown, hts, hmi, hK, hA, hNk⟩ := hcx
  obtain ⟨⟨ty, hty⟩, -⟩ := zcl_ok ci C T N hc
  refine va_new (ws := zeW G.2.2 ad 0 w) (fs := fs.map (zeV ad)) hx1 hb hts (zcl_in ci C T N hc) ty hty hown (hts _ (hm _ (by simp))) (hts _ (hm _ (by simp))) (hts _ (hm _ (by simp))) hK hP hD hSS hA hc (hfs ad ty hty) huc hus hdg ?_
  intro q H1 hP1 hD1 hS1
  have ew : zeW G.2.2 (zad ad v q) 0 (w ++ [.inl (ci, fs)]) = zeW G.2.2 ad 0 w ++ [(q, .inr (ci, fs.map (zeV ad)))] := by
    rw [zeW_app, Nat.zero_add, hv, zeW_fr (by omega) hw]
    simp only [zeW, zeC]
    rw [zeS_fr hf]
    simp [zad]
  have k1 := kk G p l e s m args below meth c A ad0 (zad ad v q) H1 locs ls ⟨hcx0, fun k hk => ?_, hL', hSt.cons (v := .inr (.inl (some v))) True.intro, hW.app ?_, by rw [zeL_fr hL]; exact hv', by rw [ew]; exact hP1, by rw [ew]; exact hD1, hS1⟩
  · rw [List.map_cons, zeS_fr hS] at k1
    simpa [zeV, zad] using k1
  · rw [← hag k hk]
    unfold zad
    rw [if_neg]
    intro h
    rw [h] at hk
    exact hPv hk
  · intro x hx
    rw [List.mem_singleton] at hx
    rw [hx]
    exact hok
/-- Object's own constructor -/
theorem zr_obj {d mc ms index a : Nat} (hdg : decode M.2.1 pc = .ok (.invokespecial index, 3)) (hm : ∀ x ∈ [Cond.methodLink M.1.cls index Lib.objectInit, Cond.instanceMethod Lib.objectInit, Cond.code Lib.objectInit ⟨#[0xb1]⟩ 1 none], x ∈ zGW) (hd : 1 ≤ d) (hrest : (st.map zcat).sum ≤ 8)
    (kk : zB M (zR d mc ms) F P (pc + 3) L st w uc us) : zB M (zR d mc ms) F P pc L (.inr (.inl (some a)) :: st) w uc us := by
  intro G p l e s m args below meth c A ad0 ad H locs ls hh
  obtain ⟨hcx, hag, hL', hSt, hW, hv', hP, hD, hSS⟩ := hh
  have hcx0 := hcx
  obtain ⟨hx1, hb, hmlx, -, -, hown, hts, hmi, hK, hA, hNk⟩ := hcx
  refine W.objInit (a := ad a) (rest := st.map (zeV ad)) hx1 hb hown (hts _ (hm _ (by simp))) (hts _ (hm _ (by simp))) (hts _ (hm _ (by simp))) rfl (hv'.1.trans hmlx.symm) rfl hdg hd ?_ ?_
  · have := zcat_sum ad st
    show 2 * 0 + _ + 12 ≤ 40 * d
    omega
  · exact kk G p l e s m args below meth c A ad0 ad H locs ls ⟨hcx0, hag, hL', hSt.tl, hW, hv', hP, hD, hSS⟩
end ZNEW
/-! ===== a constructor's call: its picture is laid behind the others ===== -/
def zrC (f : Nat → Nat) : zAC → zAC
  | .inl o => .inl (o.1, o.2.map (zrn f))
  | .inr a => .inr a
theorem zeC_rC (cA : Nat → ClassId) (ad : Nat → Nat) (f : Nat → Nat) (c : zAC) : zeC cA ad (zrC f c) = zeC cA (fun k => ad (f k)) c := by
  cases c with
  | inl o =>
    simp only [zrC, zeC, List.map_map]
    congr 2
    exact List.map_congr_left fun v _ => zeV_rn ad f v
  | inr a => rfl
theorem zokC_rC {f : Nat → Nat} {c : zAC} : zokC (zrC f c) ↔ zokC c := by
  cases c with
  | inl o =>
    simp only [zrC, zokC]
    constructor
    · intro h v hv
      exact zokN_rn.mp (h (zrn f v) (List.mem_map_of_mem hv))
    · intro h v hv
      obtain ⟨u, hu, rfl⟩ := List.mem_map.mp hv
      exact zokN_rn.mpr (h u hu)
  | inr a => exact Iff.rfl
def zlV (n : Nat) : zAV → Bool
  | .inr (.inl (some k)) => decide (k < n)
  | _ => true
def zlS (n : Nat) : List zAV → Bool
  | [] => true
  | x :: l => zlV n x && zlS n l
def zlL (n : Nat) : List (Option zAV) → Bool
  | [] => true
  | none :: l => zlL n l
  | some x :: l => zlV n x && zlL n l
def zlC (n : Nat) : zAC → Bool
  | .inl o => zlS n o.2
  | .inr _ => true
def zlW (n : Nat) : List zAC → Bool
  | [] => true
  | c :: w => zlC n c && zlW n w
section ZCG
variable {ad ad2 : Nat → Nat} {n : Nat} (hag : ∀ k, k < n → ad2 k = ad k)
theorem zeV_lt {x : zAV} (hag : ∀ k, k < n → ad2 k = ad k) (h : zlV n x = true) : zeV ad2 x = zeV ad x := by
  match x, h with
  | .inl x, _ => rfl
  | .inr (.inl none), _ => rfl
  | .inr (.inl (some k)), h =>
    have h1 : k < n := by simpa [zlV] using h
    simp [zeV, hag k h1]
  | .inr (.inr x), _ => rfl
theorem zeS_lt (hag : ∀ k, k < n → ad2 k = ad k) : ∀ {st : List zAV}, zlS n st = true → st.map (zeV ad2) = st.map (zeV ad)
  | [], _ => rfl
  | x :: l, h => by
    simp only [zlS, Bool.and_eq_true] at h
    rw [List.map_cons, List.map_cons, zeV_lt hag h.1, zeS_lt hag h.2]
theorem zeL_lt (hag : ∀ k, k < n → ad2 k = ad k) : ∀ {L : List (Option zAV)} {i : Nat}, zlL n L = true → zeL ad2 i L = zeL ad i L
  | [], _, _ => rfl
  | none :: l, i, h => by
    simp only [zeL]
    exact zeL_lt hag (L := l) h
  | some x :: l, i, h => by
    simp only [zlL, Bool.and_eq_true] at h
    simp only [zeL]
    rw [zeV_lt hag h.1, zeL_lt hag (L := l) h.2]
theorem zeC_lt {cA : Nat → ClassId} {c : zAC} (hag : ∀ k, k < n → ad2 k = ad k) (h : zlC n c = true) : zeC cA ad2 c = zeC cA ad c := by
  match c, h with
  | .inl o, h => simp only [zeC]; rw [zeS_lt hag (st := o.2) h]
  | .inr a, _ => rfl
theorem zlW_at : ∀ {w : List zAC} {k : Nat} {c : zAC}, zlW n w = true → w[k]? = some c → zlC n c = true
  | [], k, c, _, h => by simp at h
  | c0 :: w, 0, c, hw, h => by
    simp only [zlW, Bool.and_eq_true] at hw
    simp only [List.getElem?_cons_zero, Option.some.injEq] at h
    rw [← h]; exact hw.1
  | c0 :: w, k + 1, c, hw, h => by
    simp only [zlW, Bool.and_eq_true] at hw
    rw [List.getElem?_cons_succ] at h
    exact zlW_at hw.2 h
end ZCG
def zRunW (M Mc : zM) (R : Room) (d' mc ms : Nat) (pc : Nat) (w : List zAC) (L : List (Option zAV)) (st rest : List zAV) (f : Nat → Nat) (av : List zAV) : Prop :=
  ∀ (G : zG) (p : Program) (l : Launch) (e : Env) (S : State) (m : MethodId) (args : Array Value) (below : List Frame) (meth : Method) (c : Code) (A : Nat → Prop) (P : Nat → Prop) (ad0 ad : Nat → Nat) (H : Heap) (locs : List Loc) (ls : Array Slot) (uc us : Nat) (Pc : Array Value → State → Prop) (Qc : Array Value → State → Outcome → State → Prop) (free : Addr → Prop),
    zHd M G P p S m args meth c A ad0 ad H locs ls L st w → Met l Mc.1 (zws Mc) (zR d' mc ms) Pc Qc mc ms free → FrameBlind Pc → (∀ U : State, U.heap = H → S.WarmedH U.vm → Pc (av.map (zeV (fun k => ad (f k)))).toArray U) → uc + mc ≤ R.cells → us + ms ≤ R.slots →
    va_Run p l e R S m args below meth c H locs uc us mc ms (F0 m pc ls (st.map (zeV ad))) (rest.map (zeV ad)) (Qc (av.map (zeV (fun k => ad (f k)))).toArray) free
def zLI (own : String) (idx n : Nat) (Mc : zM) : Prop := (∀ x ∈ [Cond.methodLink own idx Mc.1, Cond.instanceMethod Mc.1, Cond.initialized Mc.1.cls], x ∈ zGW) ∧ Cond.code Mc.1 Mc.2.1 Mc.2.2.1 none ∈ zGW ∧ Mc.2.2.2 = none ∧ Mc.1.name = "<init>" ∧ (Mc.1.cls ≠ "java/lang/invoke/MethodHandle" ∧ Mc.1.cls ≠ "java/lang/invoke/VarHandle" ∧ (parseMethodDescriptor Mc.1.desc).map (fun d => d.parameters.length) = some n)
def zLIN (own : String) (idx n : Nat) (host : String) (Mc : zM) : Prop := Cond.methodLinkNest own idx Mc.1 host ∈ zNW ∧ (∀ x ∈ [Cond.instanceMethod Mc.1, Cond.initialized Mc.1.cls], x ∈ zGW) ∧ Cond.code Mc.1 Mc.2.1 Mc.2.2.1 none ∈ zGW ∧ Mc.2.2.2 = none ∧ Mc.1.name = "<init>" ∧ (Mc.1.cls ≠ "java/lang/invoke/MethodHandle" ∧ Mc.1.cls ≠ "java/lang/invoke/VarHandle" ∧ (parseMethodDescriptor Mc.1.desc).map (fun d => d.parameters.length) = some n)
section ZLI
variable {M Mc : zM} {d d' mc ms mcc msc pc : Nat} {w : List zAC} {L : List (Option zAV)} {st rest : List zAV} {f : Nat → Nat} {as : List zAV}
theorem zws_none {Mc : zM} (hret : Mc.2.2.2 = none) : zws Mc = Cond.code Mc.1 Mc.2.1 Mc.2.2.1 none :: zGW := by show Cond.code Mc.1 Mc.2.1 Mc.2.2.1 Mc.2.2.2 :: zGW = _; rw [hret]
theorem zrun_I {idx n a0 : Nat} (hdg : decode M.2.1 pc = .ok (.invokespecial idx, 3)) (hl : zLI M.1.cls idx n Mc) (hn : as.length = n) (hd : d' + 1 ≤ d) (hml : Mc.2.2.1 ≤ 20) (hst : ((.inr (.inl (some a0)) :: as).map (zrn f)).reverse ++ rest = st) (hrest : (rest.map zcat).sum ≤ 8) :
    zRunW M Mc (zR d mc ms) d' mcc msc pc w L st rest f (.inr (.inl (some a0)) :: as) := by
  intro G p l e S m args below meth c A P ad0 ad H locs ls uc us Pc Qc free hh hM hbl hpc huc hus
  obtain ⟨hw, hcode, hret, hnm, hcl⟩ := hl
  obtain ⟨hcx, hag, hL, hSt, hW, hv, hP, hD, hSS⟩ := hh
  obtain ⟨hx1, hb, hmlx, -, -, hown, hts, hmi, hK, hA, hNk⟩ := hcx
  rw [zws_none hret] at hM
  have hgood : GoodIn zGW (Cond.code Mc.1 Mc.2.1 Mc.2.2.1 none :: zGW) := fun x hx => by
    rcases List.mem_cons.mp hx with rfl | hx
    · exact zGW_good _ hcode
    · exact zGW_good _ hx
  exact va_runI (b := ad (f a0)) (As := as.map (zeV (fun k => ad (f k)))) (rest := rest.map (zeV ad)) ⟨hx1, hb, hmlx, hown, hts⟩ hM (cwI n hts hgood rfl rfl rfl (hts _ (hw _ (by simp))) (hts _ (hw _ (by simp))) (hts _ (hw _ (by simp))) hnm hcl (zroom hd hml)) ⟨hbl, hpc⟩ rfl (by rw [List.length_map]; exact hn) hv.1 (by rw [← hst, zst_map]; simp [zeV]) (lv_room (by rw [zcat_sum]; exact hrest)) hdg ⟨huc, hus⟩
theorem zrun_IN {idx n a0 : Nat} {host : String} (hdg : decode M.2.1 pc = .ok (.invokespecial idx, 3)) (hl : zLIN M.1.cls idx n host Mc) (hn : as.length = n) (hd : d' + 1 ≤ d) (hml : Mc.2.2.1 ≤ 20) (hst : ((.inr (.inl (some a0)) :: as).map (zrn f)).reverse ++ rest = st) (hrest : (rest.map zcat).sum ≤ 8) :
    zRunW M Mc (zR d mc ms) d' mcc msc pc w L st rest f (.inr (.inl (some a0)) :: as) := by
  intro G p l e S m args below meth c A P ad0 ad H locs ls uc us Pc Qc free hh hM hbl hpc huc hus
  obtain ⟨hw0, hw, hcode, hret, hnm, hcl⟩ := hl
  obtain ⟨hcx, hag, hL, hSt, hW, hv, hP, hD, hSS⟩ := hh
  obtain ⟨hx1, hb, hmlx, -, -, hown, hts, hmi, hK, hA, hNk⟩ := hcx
  rw [zws_none hret] at hM
  have hgood : GoodIn zGW (Cond.code Mc.1 Mc.2.1 Mc.2.2.1 none :: zGW) := fun x hx => by
    rcases List.mem_cons.mp hx with rfl | hx
    · exact zGW_good _ hcode
    · exact zGW_good _ hx
  exact va_runIN (b := ad (f a0)) (As := as.map (zeV (fun k => ad (f k)))) (rest := rest.map (zeV ad)) ⟨hx1, hb, hmlx, hown, hts⟩ hM ⟨va_cnB n hts hgood rfl rfl rfl (hNk _ hw0) (hts _ (hw _ (by simp))) hcl (zroom hd hml), hnm, hts _ (hw _ (by simp))⟩ ⟨hbl, hpc⟩ rfl (by rw [List.length_map]; exact hn) hv.1 (by rw [← hst, zst_map]; simp [zeV]) (lv_room (by rw [zcat_sum]; exact hrest)) hdg ⟨huc, hus⟩
end ZLI
set_option maxHeartbeats 1000000 in
theorem zt_ctor {M Mc : zM} {d d' mc ms mcc msc : Nat} {F : zF} {P : Nat → Prop} {pc uc us v : Nat} {L : List (Option zAV)} {st rest : List zAV} {w0 : List zAC} {c0 : zAC} {as : List zAV} {W' : List zAC}
    (hrun : zRunW M Mc (zR d mc ms) d' mcc msc pc (w0 ++ [c0]) L st rest (zsh v) (.inr (.inl (some 0)) :: as))
    (hS : zSpec d' (fun k => k = 0) mcc msc Mc (.inr (.inl (some 0)) :: as) [c0] (fun r' w' => r' = none ∧ w' = W'))
    (hst : ((.inr (.inl (some 0)) :: as).map (zrn (zsh v))).reverse ++ rest = st) (hai : znlb as = true) (hv : w0.length = v) (hPv : ∀ k, P k → k ≤ v) (hL : zlL (v + 1) L = true) (hS2 : zlS (v + 1) rest = true) (hw : zlW (v + 1) w0 = true) (hc0 : zlC 0 c0 = true) (huc : uc + mcc ≤ mc) (hus : us + msc ≤ ms)
    (kk : zB M (zR d mc ms) F P (pc + 3) L rest (w0 ++ W'.map (zrC (zsh v))) (uc + mcc) (us + msc)) : zB M (zR d mc ms) F P pc L st (w0 ++ [c0]) uc us := by
  intro G p l e S m args below meth c A ad0 ad H locs ls hh
  have hh0 := hh
  obtain ⟨hcx, hag, hL', hSt, hW, hv', hP, hD, hSS⟩ := hh
  have hcx0 := hcx
  obtain ⟨hx1, hb, -, -, -, hown, hts, hmi, hK, hA, hNk⟩ := hcx
  have hlen : (w0 ++ [c0]).length = v + 1 := by rw [List.length_append, hv]; rfl
  have hav : ∀ x ∈ (.inr (.inl (some 0)) :: as : List zAV), zokN x := by
    intro x hx
    rcases List.mem_cons.mp hx with rfl | hx
    · exact True.intro
    · refine znl hai x hx ((zokV_rn (f := zsh v)).mp (hSt (zrn (zsh v) x) ?_))
      rw [← hst]
      exact List.mem_append_left _ (List.mem_reverse.mpr (List.mem_map_of_mem (List.mem_cons_of_mem _ hx)))
  have hW1 : zokW [c0] := fun x hx => by
    rw [List.mem_singleton] at hx
    rw [hx]
    exact hW c0 (List.mem_append_right _ List.mem_cons_self)
  obtain ⟨hD1, hD2⟩ := va_D_zeW.mp hD
  have hgetv : (w0 ++ [c0])[v]? = some c0 := by
    rw [← hv, List.getElem?_append_right (Nat.le_refl _)]
    simp
  have hadc : ad (zsh v 0) = ad v := by rw [show zsh v 0 = v from Nat.zero_add v]
  have hPc : va_P (zD G) zCl (zeW G.2.2 (fun k => ad (zsh v k)) 0 [c0]) H := by
    refine va_P_zeW.mpr fun i x hi => ?_
    have hi0 : i = 0 := by
      have h9 := (List.getElem?_eq_some_iff.mp hi).1
      simpa using h9
    subst hi0
    cases hi
    have h1 := va_P_zeW.mp hP v c0 hgetv
    rw [hadc, zeC_lt (n := 0) (ad := ad) (fun k hk => absurd hk (Nat.not_lt_zero k)) hc0]
    exact h1
  have hDc : va_D (fun _ => True) (zeW G.2.2 (fun k => ad (zsh v k)) 0 [c0]) := va_D_zeW.mpr ⟨fun i j hi hj _ => by simp at hi hj; omega, fun _ _ => True.intro⟩
  have hM := hS hav hW1 G l (fun k => ad (zsh v k)) H.size
  have hfree : ∀ q, va_A (zeW G.2.2 (fun k => ad (zsh v k)) 0 [c0]) H.size q → A q := by
    intro q hq
    rcases va_A_zeW.mp hq with ⟨i, hi, rfl⟩ | hq
    · have h9 : i = 0 := by simpa using hi
      subst h9
      show A (ad (zsh v 0))
      rw [hadc]
      exact hD2 v (by rw [hlen]; omega)
    · exact hA q (Nat.le_trans hSS.1 hq)
  refine zw_call (hrun G p l e S m args below meth c A P ad0 ad H locs ls uc us _ _ _ hh0 hM zPre_blind (fun U hU hWm => ⟨rfl, by rw [hU], by rw [hU]; exact hPc, va_K.moved hWm.alike hK, hDc, hNk.warm hWm⟩) huc hus) hSS hfree ?_
  intro r1 w1 ad1 t H1 locs1 ht hal hq hrok hwok hag1 hP1 hDD1 hsz hkeep hSS1
  obtain ⟨rfl, rfl⟩ := hq
  have had1 : ad1 0 = ad v := by
    rw [hag1 0 rfl]
    exact hadc
  obtain ⟨hE1, hE2⟩ := va_D_zeW.mp hDD1
  obtain ⟨ad2, had2⟩ : ∃ ad2 : Nat → Nat, ∀ i, ad2 i = if i < v then ad i else ad1 (i - v) := ⟨_, fun _ => rfl⟩
  have h2lt : ∀ k, k < v + 1 → ad2 k = ad k := fun k hk => by
    rw [had2]
    by_cases h : k < v
    · rw [if_pos h]
    · rw [if_neg h, show k - v = 0 by omega, had1, show k = v by omega]
  have h2ge : ∀ k, ad2 (zsh v k) = ad1 k := fun k => by
    rw [had2]
    show (if k + v < v then _ else ad1 (k + v - v)) = _
    rw [if_neg (by omega), Nat.add_sub_cancel]
  have hget : ∀ i c, (w0 ++ w1.map (zrC (zsh v)))[i]? = some c → (i < v ∧ w0[i]? = some c) ∨ (∃ k c1, i = zsh v k ∧ w1[k]? = some c1 ∧ c = zrC (zsh v) c1) := by
    intro i c hi
    by_cases h : i < v
    · left
      rw [List.getElem?_append_left (by omega)] at hi
      exact ⟨h, hi⟩
    · right
      rw [List.getElem?_append_right (by omega), List.getElem?_map] at hi
      cases hq : w1[i - w0.length]? with
      | none => rw [hq] at hi; simp at hi
      | some c1 =>
        rw [hq] at hi
        simp only [Option.map_some, Option.some.injEq] at hi
        exact ⟨i - w0.length, c1, by show i = i - w0.length + v; omega, hq, hi.symm⟩
  have hw0P : ∀ i, i < v → ad i < H.size ∧ ¬ va_A (zeW G.2.2 (fun k => ad (zsh v k)) 0 [c0]) H.size (ad i) := by
    intro i hi
    have hlt := (va_P_zeW.mp hP i _ (List.getElem?_eq_getElem (by rw [hlen]; omega))).lt
    refine ⟨hlt, fun h => ?_⟩
    rcases va_A_zeW.mp h with ⟨a, ha, he⟩ | h
    · have h9 : a = 0 := by simpa using ha
      subst h9
      have he2 : ad i = ad (zsh v 0) := he
      rw [hadc] at he2
      have := hD1 i v (by rw [hlen]; omega) (by rw [hlen]; omega) he2
      omega
    · exact absurd hlt (Nat.not_lt.mpr h)
  have hln : (w0 ++ w1.map (zrC (zsh v))).length = v + w1.length := by rw [List.length_append, List.length_map, hv]
  have k1 := kk G p l e S m args below meth c A ad0 ad2 H1 locs1 ls ⟨hcx0, fun k hk => ?_, hL', fun x hx => hSt x (by rw [← hst]; exact List.mem_append_right _ hx), ?_, by rw [zeL_lt h2lt hL]; exact hv', ?_, ?_, hSS1⟩
  · rw [zeS_lt h2lt hS2] at k1
    exact k1
  · rw [h2lt k (by have := hPv k hk; omega)]
    exact hag k hk
  · intro x hx
    rcases List.mem_append.mp hx with h | h
    · exact hW x (List.mem_append_left _ h)
    · obtain ⟨c1, hc1, rfl⟩ := List.mem_map.mp h
      exact zokC_rC.mpr (hwok c1 hc1)
  · refine va_P_zeW.mpr fun i x hi => ?_
    rcases hget i x hi with ⟨h1, h2⟩ | ⟨k, c1, rfl, h2, rfl⟩
    · rw [h2lt i (by omega), zeC_lt h2lt (zlW_at hw h2)]
      obtain ⟨g1, g2⟩ := hw0P i h1
      exact (va_P_zeW.mp hP i x (by rw [List.getElem?_append_left (by omega)]; exact h2)).kept (hkeep _ g1 g2)
    · rw [h2ge, zeC_rC]
      have e : (fun k => ad2 (zsh v k)) = ad1 := funext h2ge
      rw [e]
      exact va_P_zeW.mp hP1 k c1 h2
  · have hin : ∀ i, ¬ i < v → i < v + w1.length → ad2 i = ad1 (i - v) ∧ i - v < w1.length := fun i h1 h2 => ⟨by rw [had2, if_neg h1], by omega⟩
    refine va_D_zeW.mpr ⟨fun i j hi hj hij => ?_, fun i hi => ?_⟩
    · rw [hln] at hi hj
      by_cases h1 : i < v
      · rw [h2lt i (by omega)] at hij
        by_cases h2 : j < v
        · rw [h2lt j (by omega)] at hij
          exact hD1 i j (by rw [hlen]; omega) (by rw [hlen]; omega) hij
        · obtain ⟨e1, e2⟩ := hin j h2 hj
          rw [e1] at hij
          have := hE2 _ e2
          rw [← hij] at this
          exact absurd this (hw0P i h1).2
      · obtain ⟨e1, e2⟩ := hin i h1 hi
        rw [e1] at hij
        by_cases h2 : j < v
        · rw [h2lt j (by omega)] at hij
          have := hE2 _ e2
          rw [hij] at this
          exact absurd this (hw0P j h2).2
        · obtain ⟨e3, e4⟩ := hin j h2 hj
          rw [e3] at hij
          have := hE1 _ _ e2 e4 hij
          omega
    · rw [hln] at hi
      by_cases h1 : i < v
      · rw [h2lt i (by omega)]
        exact hD2 i (by rw [hlen]; omega)
      · obtain ⟨e1, e2⟩ := hin i h1 hi
        rw [e1]
        exact hfree _ (hE2 _ e2)
/-! ===== a call that may lay another array at place v of its picture ===== -/
def zfT (v : Nat) : zTC → Bool
  | .inl o => o.2.all (fun r => r != some v)
  | .inr _ => true
theorem zfS_ziF {s : zSt} {i v : Nat} : ∀ {fs : List (Option Nat)} {k : Nat}, fs.all (fun r => r != some v) = true → zfS v (ziF s i k fs) = true
  | [], _, _ => rfl
  | none :: fs, k, h => by
    simp only [List.all_cons, Bool.and_eq_true] at h
    simp only [ziF, zfS, zfV, Bool.true_and]
    exact zfS_ziF h.2
  | some r :: fs, k, h => by
    simp only [List.all_cons, Bool.and_eq_true] at h
    simp only [ziF, zfS, zfV, Bool.and_eq_true]
    refine ⟨?_, zfS_ziF h.2⟩
    simpa using h.1
theorem zfC_ziC {s : zSt} {i v : Nat} {c : zTC} (h : zfT v c = true) : zfC v (ziC s i c) = true := by
  cases c with
  | inl o => exact zfS_ziF (fs := o.2) h
  | inr a => rfl
def zfTo (v b n : Nat) (T : List zTC) : Bool := (List.range T.length).all fun i => (decide (b ≤ i) && decide (i < b + n)) || (match T[i]? with | some c => zfT v c | none => true)
set_option maxHeartbeats 1000000 in
theorem zg_call {M Mc : zM} {d d' mc ms kc v b : Nat} {F : zF} {P : Nat → Prop} {pc uc us : Nat} {L : List (Option zAV)} {st rest : List zAV} {T Tc : List zTC} {s s' : zSt} {av : List zAV} {r : Option zAV}
    (hrun : zRunOf M Mc (zR d mc ms) d' kc kc pc T s L st rest (fun ad k => ad (zsh b k)) av) (hS : zSpec d' (fun k => k ≠ v) kc kc Mc av (ziT (zsb (zsh b) s) 0 Tc) (fun r' w' => r' = r ∧ w' = ziT s' 0 Tc))
    (hst : (av.map (zrn (zsh b))).reverse ++ rest = st) (hnl : znlb av = true) (hTT : zSub T Tc (zsh b)) (hvT : v < Tc.length) (hPv : ∀ k, P k → k ≠ v + b) (hL0 : zfL (v + b) L = true) (hR0 : zfS (v + b) rest = true) (hr0 : ∀ x, r = some x → zfV v x = true) (hTo : zfTo (v + b) b Tc.length T = true) (huc : uc + kc ≤ mc) (hus : us + kc ≤ ms)
    (kk : zB M (zR d mc ms) F P (pc + 3) L ((r.map (zrn (zsh b))).toList ++ rest) (ziT (zpb (zsh b) Tc.length s s') 0 T) (uc + kc) (us + kc)) : zB M (zR d mc ms) F P pc L st (ziT s 0 T) uc us := by
  intro G p l e S m args below meth c A ad0 ad H locs ls hh
  have hh0 := hh
  obtain ⟨hcx, hag, hL, hSt, hW, hv, hP, hD, hSS⟩ := hh
  obtain ⟨hT, hnd⟩ := hTT
  have hcx0 := hcx
  obtain ⟨hx1, hb, -, -, -, hown, hts, hmi, hK, hA, hNk⟩ := hcx
  have hW' : zokW (ziT (zsb (zsh b) s) 0 Tc) := by
    intro x hx
    obtain ⟨a, ha⟩ := List.getElem?_of_mem hx
    rw [ziT_get] at ha
    cases hc : Tc[a]? with
    | none => rw [hc] at ha; simp at ha
    | some q =>
      rw [hc] at ha
      simp only [Option.map_some, Nat.zero_add, Option.some.injEq] at ha
      rw [← ha]
      exact (zokC_rn (s := s) (t := zsb (zsh b) s) (fun _ => rfl) rfl).mp (hW.at (ziT_at (hT a q hc)))
  have hav : ∀ x ∈ av, zokN x := by
    intro x hx2
    refine znl hnl x hx2 ((zokV_rn (f := zsh b)).mp (hSt (zrn (zsh b) x) ?_))
    rw [← hst]
    exact List.mem_append_left _ (List.mem_reverse.mpr (List.mem_map_of_mem hx2))
  have hlenT : (ziT s 0 T).length = T.length := ziT_len s T 0
  have hfT : ∀ a, a < Tc.length → zsh b a < T.length := fun a ha => (List.getElem?_eq_some_iff.mp (hT a _ (List.getElem?_eq_getElem ha))).1
  obtain ⟨hD1, hD2⟩ := va_D_zeW.mp hD
  have hM := hS hav hW' G l (fun k => ad (zsh b k)) H.size
  have hPc : va_P (zD G) zCl (zeW G.2.2 (fun k => ad (zsh b k)) 0 (ziT (zsb (zsh b) s) 0 Tc)) H := by
    refine va_P_zeW.mpr fun i x hi => ?_
    rw [ziT_get] at hi
    cases hc : Tc[i]? with
    | none => rw [hc] at hi; simp at hi
    | some q =>
      rw [hc] at hi
      simp only [Option.map_some, Nat.zero_add, Option.some.injEq] at hi
      have h1 := va_P_zeW.mp hP (zsh b i) _ (ziT_at (hT i q hc))
      rw [zeC_rn G.2.2 ad (zsh b) (t := zsb (zsh b) s) (fun _ => rfl) rfl, hi] at h1
      exact h1
  have hDc : va_D (fun _ => True) (zeW G.2.2 (fun k => ad (zsh b k)) 0 (ziT (zsb (zsh b) s) 0 Tc)) := by
    refine va_D_zeW.mpr ⟨fun i j hi hj hij => ?_, fun _ _ => True.intro⟩
    rw [ziT_len] at hi hj
    exact hnd i j hi hj (hD1 _ _ (by rw [hlenT]; exact hfT i hi) (by rw [hlenT]; exact hfT j hj) hij)
  have hfree : ∀ q, va_A (zeW G.2.2 (fun k => ad (zsh b k)) 0 (ziT (zsb (zsh b) s) 0 Tc)) H.size q → A q := by
    intro q hq
    rcases va_A_zeW.mp hq with ⟨i, hi, rfl⟩ | hq
    · rw [ziT_len] at hi
      exact hD2 (zsh b i) (by rw [hlenT]; exact hfT i hi)
    · exact hA q (Nat.le_trans hSS.1 hq)
  refine zw_call (hrun G p l e S m args below meth c A P ad0 ad H locs ls uc us _ _ _ hh0 hM zPre_blind (fun U hU hWm => ⟨rfl, by rw [hU], by rw [hU]; exact hPc, va_K.moved hWm.alike hK, hDc, hNk.warm hWm⟩) huc hus) hSS hfree ?_
  intro r1 w1 ad1 t H1 locs1 ht hal hq hrok hwok hag1 hP1 hDD1 hsz hkeep hSS1
  obtain ⟨rfl, rfl⟩ := hq
  obtain ⟨hE1, hE2⟩ := va_D_zeW.mp hDD1
  have h2f : ∀ a, zad ad (v + b) (ad1 v) (zsh b a) = ad1 a := by
    intro a
    show (if a + b = v + b then ad1 v else ad (a + b)) = ad1 a
    by_cases h : a = v
    · rw [h, if_pos rfl]
    · rw [if_neg (by omega), hag1 a h]
  have h2n : ∀ i, i ≠ v + b → zad ad (v + b) (ad1 v) i = ad i := fun i h => if_neg h
  have hlen2 : (ziT (zpb (zsh b) Tc.length s s') 0 T).length = T.length := ziT_len _ T 0
  have hget : ∀ i q, T[i]? = some q → (∃ a c, Tc[a]? = some c ∧ zsh b a = i ∧ q = zrT (zsh b) c ∧ (∀ k, (zpb (zsh b) Tc.length s s').1 i k = s'.1 a k) ∧ (zpb (zsh b) Tc.length s s').2 i = s'.2 a) ∨ ((∀ a, a < Tc.length → zsh b a ≠ i) ∧ (∀ k, (zpb (zsh b) Tc.length s s').1 i k = s.1 i k) ∧ (zpb (zsh b) Tc.length s s').2 i = s.2 i) := by
    intro i q hi
    cases hz : zfind (zsh b) i Tc.length with
    | none => exact Or.inr ⟨zfind_none hz, fun k => by simp [zpb, hz], by simp [zpb, hz]⟩
    | some a =>
      obtain ⟨h1, h2⟩ := zfind_some hz
      refine Or.inl ⟨a, Tc[a], List.getElem?_eq_getElem h1, h2, ?_, fun k => by simp [zpb, hz], by simp [zpb, hz]⟩
      have h3 := hT a _ (List.getElem?_eq_getElem h1)
      rw [h2, hi] at h3
      exact Option.some.inj h3
  have hapart : ∀ i, i < T.length → (∀ a, a < Tc.length → zsh b a ≠ i) → ad i < H.size ∧ ¬ va_A (zeW G.2.2 (fun k => ad (zsh b k)) 0 (ziT (zsb (zsh b) s) 0 Tc)) H.size (ad i) := by
    intro i hi hne
    have hlt := (va_P_zeW.mp hP i _ (ziT_at (List.getElem?_eq_getElem hi))).lt
    refine ⟨hlt, fun h => ?_⟩
    rcases va_A_zeW.mp h with ⟨a, ha, he⟩ | h
    · rw [ziT_len] at ha
      exact hne a ha (hD1 _ _ (by rw [hlenT]; exact hfT a ha) (by rw [hlenT]; exact hi) he.symm)
    · exact absurd hlt (Nat.not_lt.mpr h)
  have hout : ∀ i q, T[i]? = some q → (∀ a, a < Tc.length → zsh b a ≠ i) → zfT (v + b) q = true := by
    intro i q hi hne
    have h1 := List.all_eq_true.mp hTo i (List.mem_range.mpr (List.getElem?_eq_some_iff.mp hi).1)
    rw [hi] at h1
    simp only [Bool.or_eq_true, Bool.and_eq_true, decide_eq_true_eq] at h1
    rcases h1 with h1 | h1
    · exact absurd (show zsh b (i - b) = i by show i - b + b = i; omega) (hne (i - b) (by omega))
    · exact h1
  have hcase : ∀ i, i < T.length → (∃ a, a < Tc.length ∧ zsh b a = i ∧ zad ad (v + b) (ad1 v) i = ad1 a) ∨ ((∀ a, a < Tc.length → zsh b a ≠ i) ∧ zad ad (v + b) (ad1 v) i = ad i) := by
    intro i hi
    cases hz : zfind (zsh b) i Tc.length with
    | none =>
      have h1 := zfind_none hz
      exact Or.inr ⟨h1, h2n i (fun h => h1 v hvT h.symm)⟩
    | some a =>
      obtain ⟨h1, h2⟩ := zfind_some hz
      exact Or.inl ⟨a, h1, h2, by rw [← h2]; exact h2f a⟩
  have hE2' : ∀ a, a < Tc.length → va_A (zeW G.2.2 (fun k => ad (zsh b k)) 0 (ziT (zsb (zsh b) s) 0 Tc)) H.size (ad1 a) := fun a ha => hE2 a (by rw [ziT_len]; exact ha)
  have k1 := kk G p l e S m args below meth c A ad0 (zad ad (v + b) (ad1 v)) H1 locs1 ls ⟨hcx0, fun k hk => by rw [h2n k (hPv k hk)]; exact hag k hk, hL, ?_, ?_, by rw [zeL_fr hL0]; exact hv, ?_, ?_, hSS1⟩
  · have e1 : (r1.map (zeV ad1)).toList ++ rest.map (zeV ad) = ((r1.map (zrn (zsh b))).toList ++ rest).map (zeV (zad ad (v + b) (ad1 v))) := by
      rw [List.map_append, zeS_fr hR0]
      cases r1 with
      | none => rfl
      | some x =>
        simp only [Option.map_some, Option.toList_some, List.map_cons, List.map_nil]
        rw [zeV_rn]
        have e : (fun k => zad ad (v + b) (ad1 v) (zsh b k)) = ad1 := funext h2f
        rw [e]
    rw [e1]
    exact k1
  · intro x hx2
    rcases List.mem_append.mp hx2 with h | h
    · cases r1 with
      | none => cases h
      | some u =>
        simp only [Option.map_some, Option.toList_some, List.mem_singleton] at h
        rw [h]
        exact zokV_rn.mpr (hrok u rfl).v
    · exact hSt x (by rw [← hst]; exact List.mem_append_right _ h)
  · intro x hx
    obtain ⟨i, hi⟩ := List.getElem?_of_mem hx
    rw [ziT_get] at hi
    cases hc : T[i]? with
    | none => rw [hc] at hi; simp at hi
    | some q =>
      rw [hc] at hi
      simp only [Option.map_some, Nat.zero_add, Option.some.injEq] at hi
      rw [← hi]
      rcases hget i q hc with ⟨a, c1, h1, h2, h3, h4, h5⟩ | ⟨h1, h2, h3⟩
      · subst h2
        rw [h3]
        exact (zokC_rn (t := s') h4 h5).mpr (hwok.at (ziT_at h1))
      · rw [ziC_cong h2 h3]
        exact hW.at (ziT_at hc)
  · refine va_P_zeW.mpr fun i x hi => ?_
    rw [ziT_get] at hi
    cases hc : T[i]? with
    | none => rw [hc] at hi; simp at hi
    | some q =>
      rw [hc] at hi
      simp only [Option.map_some, Nat.zero_add, Option.some.injEq] at hi
      rw [← hi]
      rcases hget i q hc with ⟨a, c1, h1, h2, h3, h4, h5⟩ | ⟨h1, h2, h3⟩
      · subst h2
        rw [h3, zeC_rn G.2.2 _ (zsh b) (t := s') h4 h5, h2f]
        have e : (fun k => zad ad (v + b) (ad1 v) (zsh b k)) = ad1 := funext h2f
        rw [e]
        exact va_P_zeW.mp hP1 a _ (ziT_at h1)
      · rw [ziC_cong h2 h3, zeC_fr (zfC_ziC (hout i q hc h1)), h2n i (fun h => h1 v hvT h.symm)]
        obtain ⟨g1, g2⟩ := hapart i (List.getElem?_eq_some_iff.mp hc).1 h1
        exact (va_P_zeW.mp hP i _ (ziT_at hc)).kept (hkeep _ g1 g2)
  · refine va_D_zeW.mpr ⟨fun i j hi hj hij => ?_, fun i hi => ?_⟩
    · rw [hlen2] at hi hj
      rcases hcase i hi with ⟨a, a1, a2, a3⟩ | ⟨a1, a2⟩
      · rcases hcase j hj with ⟨b0, b1, b2, b3⟩ | ⟨b1, b2⟩
        · rw [a3, b3] at hij
          have := hE1 a b0 (by rw [ziT_len]; exact a1) (by rw [ziT_len]; exact b1) hij
          rw [← a2, ← b2, this]
        · rw [a3, b2] at hij
          have h9 := hE2' a a1
          rw [hij] at h9
          exact absurd h9 (hapart j hj b1).2
      · rcases hcase j hj with ⟨b0, b1, b2, b3⟩ | ⟨b1, b2⟩
        · rw [a2, b3] at hij
          have h9 := hE2' b0 b1
          rw [← hij] at h9
          exact absurd h9 (hapart i hi a1).2
        · rw [a2, b2] at hij
          exact hD1 i j (by rw [hlenT]; exact hi) (by rw [hlenT]; exact hj) hij
    · rw [hlen2] at hi
      rcases hcase i hi with ⟨a, a1, a2, a3⟩ | ⟨a1, a2⟩
      · rw [a3]
        exact hfree _ (hE2' a a1)
      · rw [a2]
        exact hD2 i (by rw [hlenT]; exact hi)
/-! ===== a call that gives a new array, and an array put in another one's place ===== -/
theorem zrun_SW {M Mc : zM} {d d' mc ms mcc msc pc : Nat} {w : List zAC} {L : List (Option zAV)} {st rest : List zAV} {f : Nat → Nat} {as : List zAV} {idx n : Nat} (hdg : decode M.2.1 pc = .ok (.invokestatic idx, 3)) (hl : zLS M.1.cls idx n Mc) (hn : as.length = n) (hd : d' + 1 ≤ d) (hml : Mc.2.2.1 ≤ 20) (hst : (as.map (zrn f)).reverse ++ rest = st) (hrest : (rest.map zcat).sum ≤ 8) :
    zRunW M Mc (zR d mc ms) d' mcc msc pc w L st rest f as := by
  intro G p l e S m args below meth c A P ad0 ad H locs ls uc us Pc Qc free hh hM hbl hpc huc hus
  obtain ⟨hw, hcode, hcl⟩ := hl
  obtain ⟨hcx, hag, hL, hSt, hW, hv, hP, hD, hSS⟩ := hh
  obtain ⟨hx1, hb, hmlx, -, -, hown, hts, hmi, hK, hA, hNk⟩ := hcx
  have hgood : GoodIn zGW (va_wsS M.1.cls idx Mc.1 (zws Mc)) := goodIn_app (fun x hx => zGW_good x (hw x hx)) (zws_in hcode)
  exact va_runS (As := as.map (zeV (fun k => ad (f k)))) (rest := rest.map (zeV ad)) ⟨hx1, hb, hmlx, hown, hts⟩ hM (va_cwS n hts hgood rfl rfl rfl hcl (zroom hd hml)) ⟨hbl, hpc⟩ rfl (by rw [List.length_map]; exact hn) hv.1 (by rw [← hst, zst_map]) (lv_room (by rw [zcat_sum]; exact hrest)) hdg ⟨huc, hus⟩
set_option maxHeartbeats 1000000 in
theorem zt_fresh {M Mc : zM} {d d' mc ms mcc msc i v : Nat} {F : zF} {P : Nat → Prop} {pc uc us : Nat} {L : List (Option zAV)} {st rest : List zAV} {w : List zAC} {as : List zAV} {a0 a1 : Nat × Nat × (Int → Int)}
    (hrun : zRunW M Mc (zR d mc ms) d' mcc msc pc w L st rest (zsh i) (.inr (.inl (some 0)) :: as))
    (hS : zSpec d' (fun k => k = 0) mcc msc Mc (.inr (.inl (some 0)) :: as) [.inr a0] (fun r' w' => r' = some (.inr (.inl (some 1))) ∧ w' = [.inr a0, .inr a1]))
    (hst : ((.inr (.inl (some 0)) :: as).map (zrn (zsh i))).reverse ++ rest = st) (hai : znlb as = true) (hi0 : w[i]? = some (.inr a0)) (hv : w.length = v) (hPv : ¬ P v) (hL : zfL v L = true) (hS2 : zfS v rest = true) (hw : zfW v w = true) (huc : uc + mcc ≤ mc) (hus : us + msc ≤ ms)
    (kk : zB M (zR d mc ms) F P (pc + 3) L (.inr (.inl (some v)) :: rest) (w ++ [.inr a1]) (uc + mcc) (us + msc)) : zB M (zR d mc ms) F P pc L st w uc us := by
  intro G p l e S m args below meth c A ad0 ad H locs ls hh
  have hh0 := hh
  obtain ⟨hcx, hag, hL', hSt, hW, hv', hP, hD, hSS⟩ := hh
  have hcx0 := hcx
  obtain ⟨hx1, hb, -, -, -, hown, hts, hmi, hK, hA, hNk⟩ := hcx
  have hil : i < w.length := (List.getElem?_eq_some_iff.mp hi0).1
  have hav : ∀ x ∈ (.inr (.inl (some 0)) :: as : List zAV), zokN x := by
    intro x hx
    rcases List.mem_cons.mp hx with rfl | hx
    · exact True.intro
    · refine znl hai x hx ((zokV_rn (f := zsh i)).mp (hSt (zrn (zsh i) x) ?_))
      rw [← hst]
      exact List.mem_append_left _ (List.mem_reverse.mpr (List.mem_map_of_mem (List.mem_cons_of_mem _ hx)))
  have hW1 : zokW [.inr a0] := fun x hx => by
    rw [List.mem_singleton] at hx
    rw [hx]
    exact hW _ (List.mem_of_getElem? hi0)
  obtain ⟨hD1, hD2⟩ := va_D_zeW.mp hD
  have hadc : ad (zsh i 0) = ad i := by rw [show zsh i 0 = i from Nat.zero_add i]
  have hPc : va_P (zD G) zCl (zeW G.2.2 (fun k => ad (zsh i k)) 0 [.inr a0]) H := by
    refine va_P_zeW.mpr fun j x hj => ?_
    have hj0 : j = 0 := by
      have h9 := (List.getElem?_eq_some_iff.mp hj).1
      simpa using h9
    subst hj0
    cases hj
    have h1 := va_P_zeW.mp hP i _ hi0
    rw [hadc]
    exact h1
  have hDc : va_D (fun _ => True) (zeW G.2.2 (fun k => ad (zsh i k)) 0 [.inr a0]) := va_D_zeW.mpr ⟨fun i j hi hj _ => by simp at hi hj; omega, fun _ _ => True.intro⟩
  have hM := hS hav hW1 G l (fun k => ad (zsh i k)) H.size
  have hfree : ∀ q, va_A (zeW G.2.2 (fun k => ad (zsh i k)) 0 [.inr a0]) H.size q → A q := by
    intro q hq
    rcases va_A_zeW.mp hq with ⟨j, hj, rfl⟩ | hq
    · have h9 : j = 0 := by simpa using hj
      subst h9
      show A (ad (zsh i 0))
      rw [hadc]
      exact hD2 i hil
    · exact hA q (Nat.le_trans hSS.1 hq)
  refine zw_call (hrun G p l e S m args below meth c A P ad0 ad H locs ls uc us _ _ _ hh0 hM zPre_blind (fun U hU hWm => ⟨rfl, by rw [hU], by rw [hU]; exact hPc, va_K.moved hWm.alike hK, hDc, hNk.warm hWm⟩) huc hus) hSS hfree ?_
  intro r1 w1 ad1 t H1 locs1 ht hal hq hrok hwok hag1 hP1 hDD1 hsz hkeep hSS1
  obtain ⟨rfl, rfl⟩ := hq
  have had1 : ad1 0 = ad i := by
    rw [hag1 0 rfl]
    exact hadc
  obtain ⟨hE1, hE2⟩ := va_D_zeW.mp hDD1
  have h01 : ad1 1 ≠ ad i := by
    intro h
    have := hE1 1 0 (by simp) (by simp) (by rw [had1]; exact h)
    omega
  have hA1 : A (ad1 1) := hfree _ (hE2 1 (by simp))
  have hnew : ∀ j, j < w.length → ad j < H.size ∧ ad j ≠ ad1 1 := by
    intro j hj
    have hlt := (va_P_zeW.mp hP j _ (List.getElem?_eq_getElem hj)).lt
    refine ⟨hlt, fun h => ?_⟩
    have h9 := hE2 1 (by simp)
    rw [← h] at h9
    rcases va_A_zeW.mp h9 with ⟨a, ha, he⟩ | h
    · have h8 : a = 0 := by simpa using ha
      subst h8
      have he2 : ad j = ad (zsh i 0) := he
      rw [hadc] at he2
      rw [he2] at h
      exact h01 h.symm
    · exact absurd hlt (Nat.not_lt.mpr h)
  have hkeep2 : ∀ j x, w[j]? = some x → va_at (zD G) zCl (ad j, zeC G.2.2 ad x) H1 := by
    intro j x hj
    have hjl := (List.getElem?_eq_some_iff.mp hj).1
    by_cases hji : j = i
    · subst hji
      rw [hi0] at hj
      cases hj
      have := va_P_zeW.mp hP1 0 (.inr a0) rfl
      rw [had1] at this
      exact this
    · refine (va_P_zeW.mp hP j x hj).kept (hkeep _ (hnew j hjl).1 (fun h => ?_))
      rcases va_A_zeW.mp h with ⟨a, ha, he⟩ | h
      · have h8 : a = 0 := by simpa using ha
        subst h8
        have he2 : ad j = ad (zsh i 0) := he
        rw [hadc] at he2
        exact hji (hD1 j i hjl hil he2)
      · exact absurd (hnew j hjl).1 (Nat.not_lt.mpr h)
  have hlt : ∀ k, k ≠ v → zad ad v (ad1 1) k = ad k := fun k h => if_neg h
  have hvv : zad ad v (ad1 1) v = ad1 1 := if_pos rfl
  have hln : (w ++ [(.inr a1 : zAC)]).length = v + 1 := by rw [List.length_append, hv]; rfl
  have k1 := kk G p l e S m args below meth c A ad0 (zad ad v (ad1 1)) H1 locs1 ls ⟨hcx0, fun k hk => ?_, hL', ?_, ?_, by rw [zeL_fr hL]; exact hv', ?_, ?_, hSS1⟩
  · rw [List.map_cons, zeS_fr hS2] at k1
    simpa [zeV, hvv] using k1
  · rw [hlt k (fun h => hPv (by rw [← h]; exact hk))]
    exact hag k hk
  · exact zokS.cons (v := .inr (.inl (some v))) True.intro (fun x hx => hSt x (by rw [← hst]; exact List.mem_append_right _ hx))
  · refine hW.app (fun x hx => ?_)
    rw [List.mem_singleton] at hx
    rw [hx]
    exact hwok _ (by simp)
  · refine va_P_zeW.mpr fun j x hj => ?_
    by_cases h : j < v
    · rw [List.getElem?_append_left (by omega)] at hj
      rw [hlt j (by omega), zeC_fr (c := x) ?_]
      · exact hkeep2 j x hj
      · clear hkeep2
        have : ∀ {w : List zAC} {k : Nat} {c : zAC}, zfW v w = true → w[k]? = some c → zfC v c = true := by
          intro w
          induction w with
          | nil => intro k c _ h; simp at h
          | cons c0 w ih =>
            intro k c hw h
            simp only [zfW, Bool.and_eq_true] at hw
            cases k with
            | zero =>
              simp only [List.getElem?_cons_zero, Option.some.injEq] at h
              rw [← h]; exact hw.1
            | succ k =>
              rw [List.getElem?_cons_succ] at h
              exact ih hw.2 h
        exact this hw hj
    · have hl := (List.getElem?_eq_some_iff.mp hj).1
      rw [hln] at hl
      have hjv : j = v := by omega
      subst hjv
      rw [← hv, List.getElem?_append_right (Nat.le_refl _)] at hj
      simp only [Nat.sub_self, List.getElem?_cons_zero, Option.some.injEq] at hj
      rw [hvv, ← hj]
      exact va_P_zeW.mp hP1 1 (.inr a1) rfl
  · refine va_D_zeW.mpr ⟨fun j k hj hk hjk => ?_, fun j hj => ?_⟩
    · rw [hln] at hj hk
      by_cases h1 : j = v
      · by_cases h2 : k = v
        · rw [h1, h2]
        · rw [h1, hvv, hlt k h2] at hjk
          exact absurd hjk.symm (hnew k (by omega)).2
      · rw [hlt j h1] at hjk
        by_cases h2 : k = v
        · rw [h2, hvv] at hjk
          exact absurd hjk (hnew j (by omega)).2
        · rw [hlt k h2] at hjk
          exact hD1 j k (by omega) (by omega) hjk
    · rw [hln] at hj
      by_cases h1 : j = v
      · rw [h1, hvv]; exact hA1
      · rw [hlt j h1]
        exact hD2 j (by omega)
theorem zr_weakP {M : zM} {R : Room} {F : zF} {P P1 : Nat → Prop} {pc uc us : Nat} {L : List (Option zAV)} {st : List zAV} {w : List zAC} (hP : ∀ k, P1 k → P k) (kk : zB M R F P1 pc L st w uc us) : zB M R F P pc L st w uc us :=
  fun G p l e s m args below meth c A ad0 ad H locs ls hh => kk G p l e s m args below meth c A ad0 ad H locs ls ⟨hh.1, fun k hk => hh.2.1 k (hP k hk), hh.2.2⟩
theorem zr_reloc {M : zM} {R : Room} {F : zF} {P P1 : Nat → Prop} {pc uc us ci : Nat} {L : List (Option zAV)} {st : List zAV} {f1 f2 : List zAV} {a1 a2 : Nat × Nat × (Int → Int)}
    (hf : ∀ (ad : Nat → Nat) (x : Nat), f1.map (zeV (zad (zad ad 2 x) 1 (ad 2))) = f2.map (zeV ad)) (hok : (∀ v ∈ f2, zokN v) → ∀ v ∈ f1, zokN v) (hP1 : ∀ k, P k → k ≠ 1 ∧ (k = 2 ∨ P1 k)) (hL : zfL 1 L = true) (hS : zfS 1 st = true) (hL2 : zfL 2 L = true) (hS2 : zfS 2 st = true)
    (kk : zB M R F P pc L st [.inl (ci, f1), .inr a2] uc us) : zB M R F P1 pc L st [.inl (ci, f2), .inr a1, .inr a2] uc us := by
  intro G p l e s m args below meth c A ad0 ad H locs ls hh
  obtain ⟨hcx, hag, hL', hSt, hW, hv', hP, hD, hSS⟩ := hh
  obtain ⟨hD1, hD2⟩ := va_D_zeW.mp hD
  obtain ⟨ad', had⟩ : ∃ z, z = zad (zad ad 2 (ad0 2)) 1 (ad 2) := ⟨_, rfl⟩
  have e0 : ad' 0 = ad 0 := by rw [had]; rfl
  have e1 : ad' 1 = ad 2 := by rw [had]; rfl
  have e2 : ad' 2 = ad0 2 := by rw [had]; rfl
  have en : ∀ k, k ≠ 1 → k ≠ 2 → ad' k = ad k := fun k h1 h2 => by
    rw [had]
    show (if k = 1 then ad 2 else (if k = 2 then ad0 2 else ad k)) = ad k
    rw [if_neg h1, if_neg h2]
  have k1 := kk G p l e s m args below meth c A ad0 ad' H locs ls ⟨hcx, fun k hk => ?_, hL', hSt, ?_, by rw [had, zeL_fr hL, zeL_fr hL2]; exact hv', ?_, ?_, hSS⟩
  · rw [had, zeS_fr hS, zeS_fr hS2] at k1
    exact k1
  · obtain ⟨h1, h2⟩ := hP1 k hk
    by_cases q : k = 2
    · rw [q, e2]
    · rw [en k h1 q]
      exact hag k (h2.resolve_left q)
  · intro x hx
    rcases List.mem_cons.mp hx with rfl | hx
    · exact hok (hW (.inl (ci, f2)) List.mem_cons_self)
    · rw [List.mem_singleton] at hx
      rw [hx]
      exact hW _ (by simp)
  · refine va_P_zeW.mpr fun j x hj => ?_
    match j, hj with
    | 0, hj =>
      cases hj
      have h1 := va_P_zeW.mp hP 0 _ rfl
      rw [e0]
      show va_at (zD G) zCl (ad 0, .inr (ci, f1.map (zeV ad'))) H
      rw [had, hf]
      exact h1
    | 1, hj =>
      cases hj
      rw [e1]
      exact va_P_zeW.mp hP 2 _ rfl
    | j + 2, hj => simp at hj
  · refine va_D_zeW.mpr ⟨fun j k hj hk hjk => ?_, fun j hj => ?_⟩
    · have hj' : j < 2 := hj
      have hk' : k < 2 := hk
      match j, k, hj', hk', hjk with
      | 0, 0, _, _, _ => rfl
      | 0, 1, _, _, h =>
        rw [e0, e1] at h
        exact absurd (hD1 0 2 (by simp) (by simp) h) (by decide)
      | 1, 0, _, _, h =>
        rw [e0, e1] at h
        exact absurd (hD1 2 0 (by simp) (by simp) h) (by decide)
      | 1, 1, _, _, _ => rfl
    · have hj' : j < 2 := hj
      match j, hj' with
      | 0, _ => rw [e0]; exact hD2 0 (by simp)
      | 1, _ => rw [e1]; exact hD2 2 (by simp)
