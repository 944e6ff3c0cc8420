/-! ===== longs; methods with handlers ===== -/
theorem zin8_of {x : Int} (h : zin x) : zin8 x := by
  obtain ⟨h1, h2⟩ := h
  exact ⟨by omega, by omega⟩
theorem zi2l {x : Int} (h : zin x) : (Int32.ofInt x).toInt64 = Int64.ofInt x := by
  have h8 := zin8_of h
  rw [← Int64.toInt_inj, Int32.toInt_toInt64, zti h, Int64.toInt_ofInt_of_le h8.1 h8.2]
theorem zup_encL {f : Int → Int} {x v : Int} (h : 0 ≤ x) : (fun k : Nat => Int64.ofInt (zup f x v k)) = vp_updL (fun k : Nat => Int64.ofInt (f k)) x.toNat (Int64.ofInt v) := by
  funext k
  unfold zup vp_updL
  by_cases hk : (k : Int) = x
  · rw [if_pos hk, if_pos (by omega)]
  · rw [if_neg hk, if_neg (by omega)]
section ZLG
variable {M : zM} {R : Room} {F : zF} {P : Nat → Prop} {pc uc us : Nat} {L : List (Option zAV)} {st : List zAV} {w : List zAC}
theorem zr_i2l {x : Int} (hdg : decode M.2.1 pc = .ok (.i2l, 1)) (kk : zB M R F P (pc + 1) L (.inr (.inr x) :: st) w uc us) : zB M R F P pc L (.inl x :: st) w uc us := by
  intro G p l e s m args below meth c A ad0 ad H locs ls hh
  have hx : zin x := hh.2.2.2.1.hd
  have k1 := kk G p l e s m args below meth c A ad0 ad H locs ls ⟨hh.1, hh.2.1, hh.2.2.1, hh.2.2.2.1.tl.cons (v := .inr (.inr x)) (zin8_of hx), hh.2.2.2.2⟩
  exact lv_i2l hh.1.1 hh.1.2.1 hdg (zi2l hx) k1
theorem zr_lconst {n : Fin 2} {x : Int} (hdg : decode M.2.1 pc = .ok (.lconst n, 1)) (hv : Int64.ofNat (n : Nat) = Int64.ofInt x) (hx : zin8 x) (kk : zB M R F P (pc + 1) L (.inr (.inr x) :: st) w uc us) : zB M R F P pc L st w uc us := by
  intro G p l e s m args below meth c A ad0 ad H locs ls hh
  have k1 := kk G p l e s m args below meth c A ad0 ad H locs ls ⟨hh.1, hh.2.1, hh.2.2.1, hh.2.2.2.1.cons (v := .inr (.inr x)) hx, hh.2.2.2.2⟩
  exact lv_lconst hh.1.1 hh.1.2.1 hdg hv k1
theorem zr_lastore {i n : Nat} {f : Int → Int} {x v : Int} {w' : List zAC} (hdg : decode M.2.1 pc = .ok (.lastore, 1)) (hi : w[i]? = some (.inr (2, n, f))) (h0 : 0 ≤ x ∧ x < n) (hw' : w.set i (.inr (2, n, zup f x v)) = w')
    (kk : zB M R F P (pc + 1) L st w' uc us) : zB M R F P pc L (.inr (.inr v) :: .inl x :: .inr (.inl (some i)) :: st) w uc us := by
  intro G p l e s m args below meth c A ad0 ad H locs ls hh
  subst hw'
  obtain ⟨hcx, hag, hL, hSt, hW, hv, hP, hD, hS⟩ := hh
  have hcx0 := hcx
  obtain ⟨hx1, hb, -, -, -, hown, hts, hmi, hK, hA, hNk⟩ := hcx
  have hx : zin x := hSt.tl.hd
  have hv8 : zin8 v := hSt.hd
  have e1 := zeW_at (cA := G.2.2) (ad := ad) hi
  refine va_last (D := zD G) hx1 hb hK hP hD hS i 2 e1 rfl (zvp_in hx h0.1 h0.2) hdg (fun H1 locs1 hP1 hD1 hS1 => ?_)
  have e2 : (zeW G.2.2 ad 0 w).set i (ad i, .inl (G.2.2 2, n, .inr (.inl (vp_updL (fun k : Nat => Int64.ofInt (f k)) (Int32.ofInt x).toNatClampNeg (Int64.ofInt v))))) = zeW G.2.2 ad 0 (w.set i (.inr (2, n, zup f x v))) := by
    have := zeW_set G.2.2 ad (.inr (2, n, zup f x v)) w 0 i
    rw [Nat.zero_add] at this
    rw [← this, zclamp hx, ← zup_encL h0.1]
    rfl
  rw [e2] at hP1 hD1
  refine kk G p l e s m args below meth c A ad0 ad H1 locs1 ls ⟨hcx0, hag, hL, hSt.tl.tl.tl, hW.set ?_, hv, hP1, hD1, hS1⟩
  have h1 : (n : Int) < 2147483648 ∧ ∀ j : Int, 0 ≤ j → j < n → zin8 (f j) := hW.at hi
  show (n : Int) < 2147483648 ∧ ∀ j : Int, 0 ≤ j → j < n → zin8 (zup f x v j)
  refine ⟨h1.1, fun j q1 q2 => ?_⟩
  unfold zup
  by_cases q : j = x
  · rw [if_pos q]; exact hv8
  · rw [if_neg q]; exact h1.2 j q1 q2
theorem zr_laload {i n : Nat} {f : Int → Int} {x : Int} (hdg : decode M.2.1 pc = .ok (.laload, 1)) (hi : w[i]? = some (.inr (2, n, f))) (h0 : 0 ≤ x ∧ x < n)
    (kk : zB M R F P (pc + 1) L (.inr (.inr (f x)) :: st) w uc us) : zB M R F P pc L (.inl x :: .inr (.inl (some i)) :: st) w uc us := by
  intro G p l e s m args below meth c A ad0 ad H locs ls hh
  have hx : zin x := hh.2.2.2.1.hd
  have h1 : (n : Int) < 2147483648 ∧ ∀ j : Int, 0 ≤ j → j < n → zin8 (f j) := hh.2.2.2.2.1.at hi
  have k1 := kk G p l e s m args below meth c A ad0 ad H locs ls ⟨hh.1, hh.2.1, hh.2.2.1, hh.2.2.2.1.tl.tl.cons (v := .inr (.inr (f x))) (h1.2 x h0.1 h0.2), hh.2.2.2.2⟩
  obtain ⟨⟨hx1, hb, -, -, -, hown, hts, -, hK, hA⟩, -, -, -, -, -, hP, hD, hS⟩ := hh
  have e1 := zeW_at (cA := G.2.2) (ad := ad) hi
  refine va_lald (D := zD G) hx1 hb hK hP i 2 e1 rfl (zvp_in hx h0.1 h0.2) hdg ?_
  rw [zclamp hx, Int.toNat_of_nonneg h0.1]
  exact k1
theorem zr_lcmpS {v : Int} (hdg : decode M.2.1 pc = .ok (.lcmp, 1)) (kk : zB M R F P (pc + 1) L (.inl 0 :: st) w uc us) : zB M R F P pc L (.inr (.inr v) :: .inr (.inr v) :: st) w uc us := by
  intro G p l e s m args below meth c A ad0 ad H locs ls hh
  have k1 := kk G p l e s m args below meth c A ad0 ad H locs ls ⟨hh.1, hh.2.1, hh.2.2.1, hh.2.2.2.1.tl.tl.cons (v := .inl 0) zin0, hh.2.2.2.2⟩
  refine W.lcmp hh.1.1 hh.1.2.1 hdg ?_
  rw [(lg_cmp_eq _ _).mpr rfl]
  exact k1
end ZLG
/-! methods with handlers -/
def zNm (y : MethodName) (s : State) : Prop := ∀ (m : MethodId) (args : Array Value) (below : List Frame), s.frames = .invoking m args :: below → s.methodNamed? y = some m
def zwsH (M : zM) (hh : List (Nat × Nat × Nat × Nat)) : List Cond := Cond.codeWith M.1 M.2.1 M.2.2.1 M.2.2.2 hh :: zGW
def zSpecH (φ : zFc) (hh : List (Nat × Nat × Nat × Nat)) (d : Nat) (P : Nat → Prop) (mc ms : Nat) (M : zM) (av : List zAV) (w : List zAC) (Q : zQ) : Prop :=
  (∀ v ∈ av, zokN v) → zokW w → ∀ (G : zG) (l : Launch) (ad : Nat → Nat) (sz : Nat), Met l M.1 (zwsH M hh) (zR d mc ms) (va_Pc (av.map (zeV ad)) (fun U => zPre G ad w sz U ∧ φ l (va_A (zeW G.2.2 ad 0 w) sz) U)) (zQc G (va_A (zeW G.2.2 ad 0 w) sz) ad P Q) mc ms (va_A (zeW G.2.2 ad 0 w) sz)
theorem zMet_ofWH {l : Launch} {y : MethodName} {ws ws' : List Cond} {rm : Room} {Pc : Array Value → State → Prop} {Qc : Array Value → State → Outcome → State → Prop} {mc ms : Nat} {free : Addr → Prop} {cc : ByteArray} {maxL : Nat} {ret : Option FieldType} {hh : List (Nat × Nat × Nat × Nat)}
    (hy : plainName y.cls = true) (hw : ws = Cond.codeWith y cc maxL ret hh :: ws')
    (body : ∀ p e s m args below meth c s₁, BodyLoose p l y (headSpec ws rm) cc maxL ret e s m args below meth c s₁ → c.maxLocals = maxL → Pc args s →
      W p l e (headSpec ws rm).room s m args below meth c s.heap [] 0 0 (MQ below Qc args s mc ms free) (entryFrame m args maxL)) : Met l y ws rm Pc Qc mc ms free := by
  refine MetFree.of_bodyS (code := cc) (maxLocals := maxL) (ret := ret) hy ?_ ?_
  · intro args s m h hn
    obtain ⟨m9, meth, c, hn9, h1, h2, h3, h4, -, h5, h6, -⟩ := Cond.codeWith_spec (atoms_spec (ws := ws) h _ (by rw [hw]; exact List.mem_cons_self))
    cases hn.symm.trans hn9
    exact ⟨meth, c, h1, h2, h3, h4, h5, h6⟩
  · intro p e s m args below meth c s₁ B hml hP _
    have hh0 : s₁.heap = s.heap := by rw [B.state]; rfl
    obtain ⟨t, a1, o, b1, b2, b3⟩ := body p e s m args below meth c s₁ B hml hP s₁ hh0 (Stand.of_body B)
    exact ⟨t, o, a1, b1, b2, ⟨b3.1, b3.2⟩⟩
set_option maxHeartbeats 1000000 in
theorem zSpecH_of {φ : zFc} {hh : List (Nat × Nat × Nat × Nat)} {d mc ms : Nat} {P : Nat → Prop} {M : zM} {av : List zAV} {w : List zAC} {Q : zQ} (hp : plainName M.1.cls = true) (hlaw : M.1.cls = "InputrowConsoleLaw") (hn : av.length ≤ M.2.2.1)
    (h : zB M (zR d mc ms) (zFE (fun l A s => φ l A s ∧ zNm M.1 s) (zFq mc ms P Q)) P 0 (zaL M.2.2.1 av) [] w 0 0) : zSpecH φ hh d P mc ms M av w Q := by
  intro ho hw G l ad sz
  refine zMet_ofWH (cc := M.2.1) (maxL := M.2.2.1) (ret := M.2.2.2) (ws' := zGW) (hh := hh) hp rfl ?_
  intro p e s m args below meth c s₁ B hml hv
  obtain ⟨rfl, ⟨hsz, hP, hK, hD0, hNk⟩, hφ⟩ := hv
  have hts := atoms_spec (ws := zwsH M hh) B.pre
  have hown : s.vm.findClass M.1.cls = some m.cls := findClass_of_methodNamed B.named
  have hnm : zNm M.1 s := fun m' args' below' q => by
    rw [B.frames] at q
    injection q with q1 q2
    injection q1 with q3 q4
    rw [← q3]
    exact B.named
  subst hsz
  have hD := hD0.self (sz := s.heap.size)
  rw [lg_entry_eq]
  refine zW_imp (fun t k => k ⟨hφ, hnm⟩) (h G p l e s m _ below meth c (va_A (zeW G.2.2 ad 0 w) s.heap.size) ad ad s.heap [] _ ⟨⟨B.exec, B.bytes, hml, B.returns, B.notSynchronized, hown, fun x hx => hts x (List.mem_cons_of_mem _ hx), ⟨fun hi => ((name_of_methodNamed B.named B.method).1).trans hi, fun q => absurd hlaw q⟩, hK, fun q hq => Or.inr hq, hNk⟩, fun _ _ => rfl, fun v hv => ?_, zokS.nil, hw, zhas_entry ho hn, hP, hD, va_S.rf⟩)
  obtain ⟨k, hk⟩ := List.getElem?_of_mem hv
  exact ho v (List.mem_of_getElem? (zaL_at hk))
theorem zRunQ_H {Φ φ : zFc} {hh : List (Nat × Nat × Nat × Nat)} {M Mc : zM} {d d' mc ms mcc msc pc idx n : Nat} {w wc : List zAC} {L : List (Option zAV)} {st rest : List zAV} {f : Nat → Nat} {av : List zAV} {P1 : Nat → Prop} {Q1 : zQ}
    (hS : zSpecH φ hh d' P1 mcc msc Mc av wc Q1) (hdg : decode M.2.1 pc = .ok (.invokestatic idx, 3)) (hlk : ∀ x ∈ [Cond.methodLink M.1.cls idx Mc.1, Cond.static Mc.1, Cond.initialized Mc.1.cls], x ∈ zGW) (hcw : Cond.codeWith Mc.1 Mc.2.1 Mc.2.2.1 Mc.2.2.2 hh ∈ zGW)
    (hcl : Mc.1.cls ≠ "java/lang/invoke/MethodHandle" ∧ Mc.1.cls ≠ "java/lang/invoke/VarHandle" ∧ (parseMethodDescriptor Mc.1.desc).map (fun d => d.parameters.length) = some n) (hn : av.length = n) (hd : d' + 1 ≤ d) (hml : Mc.2.2.1 ≤ 20) (hrest : (rest.map zcat).sum ≤ 8)
    (hΦ : zMv Φ φ) (hφ : zMv φ φ) (hs : ∀ a c, wc[a]? = some c → w[f a]? = some (zrC f c)) (hnd : ∀ a b, a < wc.length → b < wc.length → f a = f b → a = b)
    (hst : (av.map (zrn f)).reverse ++ rest = st) (hnl : znlb av = true) : zRunQ Φ M (zR d mc ms) mcc msc pc w wc L st rest f P1 Q1 := by
  intro G p l e S m args below meth c A P ad0 ad H locs ls uc us hh1 hf huc hus
  obtain ⟨⟨hx1, hb, hmlx, -, -, hown, hts, hmi, hK, hA, hNk⟩, hag, hL, hSt, hW, hv, hP, hD, hSS⟩ := hh1
  obtain ⟨k1, k2, k3, k4, -⟩ := zsubW hP hD hW hs hnd
  have hav : ∀ x ∈ av, zokN x := by
    intro x hx2
    refine znl hnl x hx2 ((zokV_rn (f := f)).mp (hSt (zrn f x) ?_))
    rw [← hst]
    exact List.mem_append_left _ (List.mem_reverse.mpr (List.mem_map_of_mem hx2))
  have hgood : GoodIn zGW (va_wsS M.1.cls idx Mc.1 (zwsH Mc hh)) := goodIn_app (fun x hx => zGW_good x (hlk x hx)) (fun x hx => by
    rcases List.mem_cons.mp hx with rfl | hx
    · exact zGW_good _ hcw
    · exact zGW_good _ hx)
  exact ⟨_, vx_runSW (As := av.map (zeV (fun k => ad (f k)))) (rest := rest.map (zeV ad)) ⟨hx1, hb, hmlx, hown, hts⟩ (hS hav k1 G l (fun k => ad (f k)) H.size) (vx_cwSW n hts hgood rfl rfl rfl hcl (zroom hd hml)) ⟨zpre_bl hφ, fun U hU hWm => ⟨rfl, ⟨by rw [hU], by rw [hU]; exact k2, va_K.moved hWm.alike hK, k3, hNk.warm hWm⟩, hΦ l A _ S U H locs hf hSS hWm hU (k4 fun q hq => hA q (Nat.le_trans hSS.1 hq))⟩⟩ rfl (by rw [List.length_map]; exact hn) hv.1 (by rw [← hst, zst_map]) (lv_room (by rw [zcat_sum]; exact hrest)) hdg ⟨huc, hus⟩⟩
theorem zhas_none {ad : Nat → Nat} {L : List (Option zAV)} {ls : Array Slot} {nL i : Nat} {v : Value} (hL : zokL L) (h : lv_has ls nL ((i, v) :: (zeL ad 0 L).filter (fun q => !(q.1 == i) && !(q.1 + 1 == i && q.2.category == 2)))) : lv_has ls nL (zeL ad 0 (L.set i none)) := by
  refine ⟨h.1, h.2.1, fun q hq => ?_⟩
  obtain ⟨k, u, rfl, hk⟩ := zeL_of ad _ 0 q hq
  rw [Nat.zero_add]
  by_cases hki : k = i
  · subst hki
    have hlt : k < (L.set k none).length := (List.getElem?_eq_some_iff.mp hk).1
    rw [List.length_set] at hlt
    rw [List.getElem?_set_self hlt] at hk
    cases hk
  · rw [List.getElem?_set_ne (Ne.symm hki)] at hk
    refine h.2.2 (k, zeV ad u) (List.mem_cons_of_mem _ (List.mem_filter.mpr ⟨?_, ?_⟩))
    · have := zeL_mem ad L 0 k u hk
      rwa [Nat.zero_add] at this
    · simp [hki, zeV_cat ad (hL u (List.mem_of_getElem? hk))]
theorem zokL.none {L : List (Option zAV)} (h : zokL L) {k : Nat} : zokL (L.set k none) := fun u hu => by
  rcases List.mem_or_eq_of_mem_set hu with hu | hu
  · exact h u hu
  · cases hu
set_option maxHeartbeats 2000000 in
/-- a call that throws E, caught by the row x of the method's table; the rows ahead don't take it -/
theorem zr_thrown {Φ : zFc} {M Mc : zM} {d d' mc ms pc uc us idx ci n a0 : Nat} {F : zF} {P : Nat → Prop} {L L' : List (Option zAV)} {st rest as : List zAV} {wc wr : List zAC} {fs : List zAV} {E name : String} {hh : List (Nat × Nat × Nat × Nat)} {pre suf : List ExceptionTableEntry} {x : ExceptionTableEntry} {i len : Nat}
    (hS : zSpecX zLw d' 1 6 Mc (.inr (.inl (some a0)) :: as) wc E) (hΦ : zMv Φ zLw) (hN : ∀ l A s, Φ l A s → zLw l A s ∧ zNm M.1 s)
    (hdg : decode M.2.1 pc = .ok (.invokevirtual idx, 3)) (hl : zLV M.1.cls idx ci n Mc) (hi : wc[a0]? = some (.inl (ci, fs))) (hn : as.length = n) (hd : d' + 1 ≤ d) (hml : Mc.2.2.1 ≤ 20) (hst : (.inr (.inl (some a0)) :: as).reverse ++ rest = st) (hnl : znlb as = true) (hrest : (rest.map zcat).sum ≤ 8)
    (hcw : Cond.codeWith M.1 M.2.1 M.2.2.1 M.2.2.2 hh ∈ zGW) (hsplit : hh.map (fun q => (⟨q.1, q.2.1, q.2.2.1, q.2.2.2⟩ : ExceptionTableEntry)) = pre ++ x :: suf)
    (hpass : ∀ z ∈ pre, z.catchType ≠ 0 ∧ ∃ nm : String, Cond.classLink M.1.cls z.catchType nm ∈ zGW ∧ (E, nm) ∈ zNp)
    (hcov : covers x pc = true) (h0 : x.catchType ≠ 0) (hlk : Cond.classLink M.1.cls x.catchType name ∈ zGW) (hca : Cond.castable E name ∈ zXW)
    (has : (∃ k : Fin 4, decode M.2.1 x.handlerPc = .ok (.astore_n k, 1) ∧ (k : Nat) = i ∧ len = 1) ∨ (decode M.2.1 x.handlerPc = .ok (.astore i, 2) ∧ len = 2)) (hil : i < M.2.2.1) (hL' : L.set i none = L')
    (huc : uc + 1 ≤ mc) (hus : us + 6 ≤ ms)
    (kk : zB M (zR d mc ms) (zFE Φ F) P (x.handlerPc + len) L' [] (wc ++ wr) (uc + 1) (us + 6)) : zB M (zR d mc ms) (zFE Φ F) P pc L st (wc ++ wr) uc us := by
  refine zr_with fun G p l e S m args below meth c A ad0 ad H locs ls hf hh1 => ?_
  obtain ⟨hcx, hag, hL, hSt, hW, hv, hP, hD, hSS⟩ := hh1
  have hcx0 := hcx
  obtain ⟨hx1, hb, hmlx, -, -, hown, hts, hmi, hK, hA, hNk⟩ := hcx
  obtain ⟨hLw, hNm⟩ := hN _ _ _ hf
  subst hL'
  have hs : ∀ a c, wc[a]? = some c → (wc ++ wr)[zid a]? = some (zrC zid c) := fun a c h => by
    rw [zrC_id]
    show (wc ++ wr)[a]? = some c
    rw [List.getElem?_append_left (List.getElem?_eq_some_iff.mp h).1]
    exact h
  obtain ⟨k1, k2, k3, k4, k5⟩ := zsubW (f := zid) hP hD hW hs (fun a b _ _ h => h)
  have k4 := k4 (fun q hq => hA q (Nat.le_trans hSS.1 hq))
  have hav : ∀ y ∈ (.inr (.inl (some a0)) :: as : List zAV), zokN y := by
    intro y hy
    rcases List.mem_cons.mp hy with rfl | hy2
    · exact True.intro
    · refine znl hnl y hy2 (hSt y ?_)
      rw [← hst]
      exact List.mem_append_left _ (List.mem_reverse.mpr hy)
  have hM := hS hav k1 G l ad H.size
  obtain ⟨C, T1, N, hc, hw, hcode, hcl⟩ := hl
  have e1 := zeW_at (cA := G.2.2) (ad := ad) (w := wc ++ wr) (k := a0) (c := .inl (ci, fs)) (by rw [List.getElem?_append_left (List.getElem?_eq_some_iff.mp hi).1]; exact hi)
  have hr := va_recv hK hP hc e1
  have hgood : GoodIn zGW (wsV M.1.cls idx C Mc.1 (zws Mc)) := goodIn_app (fun y hy => zGW_good y (hw y hy)) (zws_in hcode)
  have hrun : vx_Run p l e (zR d mc ms) S m args below meth c H locs uc us 1 6 (F0 m pc ls (st.map (zeV ad))) (rest.map (zeV ad)) (fun _ _ _ => False) (zXC G (va_A (zeW G.2.2 ad 0 wc) H.size) ad E wc) (va_A (zeW G.2.2 ad 0 wc) H.size) :=
    vx_runV (b := ad a0) (As := as.map (zeV ad)) (rest := rest.map (zeV ad)) ⟨hx1, hb, hmlx, hown, hts⟩ hM (cwV n hts hgood rfl rfl rfl hcl (zroom hd hml)) ⟨zpre_bl zMv_lw, hr, fun U hU hWm => ⟨rfl, ⟨by rw [hU], by rw [hU]; exact k2, va_K.moved hWm.alike hK, k3, hNk.warm hWm⟩, hΦ l A _ S U H locs hf hSS hWm hU k4⟩⟩ rfl (by rw [List.length_map]; exact hn) hv.1 (by rw [← hst]; simp [zeV]) (lv_room (by rw [zcat_sum]; exact hrest)) hdg ⟨huc, hus⟩
  intro T hT X
  rcases hrun T hT X with ⟨v, st₀, t, T', L9, -, -, -, -, -, hq, -⟩ | ⟨q, st₀, t, T', L9, E', ce, h0', X', hLf, e3, e2, hXC, hce, hcv, hcl2, hst2⟩
  · exact hq.elim
  · obtain ⟨rfl, hP1, hK1, hD1, hF1⟩ := hXC
    obtain ⟨m1, m2, m3⟩ := vx_keep h0' e3 hSS (fun q _ h => k4 q h) k4 hLf hF1
    have hnm := hNm m args below X.frames
    obtain ⟨m9, meth9, c9, hn9, q1, q2, -, -, q6, -⟩ := Cond.codeWith_spec (hts _ hcw)
    cases Option.some.inj (hn9.symm.trans hnm)
    cases Option.some.inj (q1.symm.trans X.method)
    cases Option.some.inj (q2.symm.trans X.code)
    have htab : c.exceptionTable.toList = pre ++ x :: suf := by
      rw [← hsplit, ← q6, List.map_map]
      exact (List.map_id _).symm
    have hP9 : va_P (zD G) zCl (zeW G.2.2 ad 0 (wc ++ wr)) T'.heap := by
      refine va_P_zeW.mpr fun j y hj => ?_
      by_cases q9 : j < wc.length
      · rw [List.getElem?_append_left q9] at hj
        rw [e3]
        exact va_P_zeW.mp hP1 j y hj
      · obtain ⟨r1, r2⟩ := k5 j (List.getElem?_eq_some_iff.mp hj).1 (fun a ha he => q9 (by have he : a = j := he; omega))
        exact (va_P_zeW.mp hP j y hj).kept (m2 _ r1 r2)
    have kW : W p l e (zR d mc ms) S m args below meth c T'.heap (locs ++ L9) (uc + 1) (us + 6) (zFE Φ F l G A ad0 below args S) (F0 m x.handlerPc ls [.ref q]) := by
      rcases has with ⟨k, hd1, hk, rfl⟩ | ⟨hd1, rfl⟩
      · exact lv_astore_n hx1 hb hd1 hk hv hil rfl (fun ls' hls => kk G p l e S m args below meth c A ad0 ad T'.heap (locs ++ L9) ls' ⟨hcx0, hag, hL.none, zokS.nil, hW, zhas_none hL hls, hP9, hD, m3⟩)
      · exact lv_astore hx1 hb hd1 hv hil rfl (fun ls' hls => kk G p l e S m args below meth c A ad0 ad T'.heap (locs ++ L9) ls' ⟨hcx0, hag, hL.none, zokS.nil, hW, zhas_none hL hls, hP9, hD, m3⟩)
    have hcast : (Cond.castable E' name).before args S = true := vx_ot_at (State.WarmedH.refl S) rfl (zot_vx (List.mem_filter.mp hca).2) (hLw.1.2.2.2 _ hca)
    have hcatch := vx_catch (rest := rest.map (zeV ad)) (name := name) hown pre x suf htab (fun z hz => by
      obtain ⟨z1, nm, z2, z3⟩ := hpass z hz
      exact Or.inr ⟨z1, nm, hts _ z2, hLw.2.2.2 _ z3⟩) hcov h0 (hts _ hlk) hcast (by rw [e3]; exact hce) hcv hcl2 kW
    obtain ⟨t2, a1, b1⟩ := hcatch T' rfl X'
    exact ⟨t2, hst2.trans a1, b1⟩
