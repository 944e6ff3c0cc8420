/-! ===== THE CORE: an abstract machine over a static picture of objects; whole numbers for ints ===== -/
abbrev zAV : Type := Int ⊕ (Option Nat ⊕ Int)
abbrev zAC : Type := (Nat × List zAV) ⊕ (Nat × Nat × (Int → Int))
abbrev zin (x : Int) : Prop := -2147483648 ≤ x ∧ x < 2147483648
abbrev zin8 (x : Int) : Prop := -9223372036854775808 ≤ x ∧ x < 9223372036854775808
abbrev zCl : List vw_C := [(RX0, TX0, 3), (RX1, TX1, 5), (RX2, TX2, 3), (RX3, TX3, 9), (RX4, TX4, 12), (RX5, TX5, 6), (RX6, TX6, 4), (RX7, TX7, 8), (RX8, TX8, 14), (RX9, TX9, 3), (RX10, TX10, 3), (RX11, TX11, 7), (RX12, TX12, 59)]
def zGW : List Cond := lw_tbl.filter goodWord
def zeV (ad : Nat → Nat) : zAV → Value
  | .inl x => .int (Int32.ofInt x)
  | .inr (.inl none) => .null
  | .inr (.inl (some k)) => .ref (ad k)
  | .inr (.inr x) => .long (Int64.ofInt x)
def zeA : Nat → Nat → (Int → Int) → vp_A
  | 2, n, f => (n, .inr (.inl fun k => Int64.ofInt (f k)))
  | _, n, f => (n, .inl fun k => Int32.ofInt (f k))
def zeC (cA : Nat → ClassId) (ad : Nat → Nat) : zAC → va_E
  | .inl o => .inr (o.1, o.2.map (zeV ad))
  | .inr a => .inl (cA a.1, zeA a.1 a.2.1 a.2.2)
def zeW (cA : Nat → ClassId) (ad : Nat → Nat) : Nat → List zAC → va_W
  | _, [] => []
  | i, c :: w => (ad i, zeC cA ad c) :: zeW cA ad (i + 1) w
theorem zeW_get (cA : Nat → ClassId) (ad : Nat → Nat) : ∀ (w : List zAC) (i k : Nat), (zeW cA ad i w)[k]? = (w[k]?).map (fun c => (ad (i + k), zeC cA ad c))
  | [], i, k => by simp [zeW]
  | c :: w, i, 0 => by simp [zeW]
  | c :: w, i, k + 1 => by
    simp only [zeW, List.getElem?_cons_succ]
    rw [zeW_get cA ad w (i + 1) k, show i + 1 + k = i + (k + 1) by omega]
theorem zeW_at {cA : Nat → ClassId} {ad : Nat → Nat} {w : List zAC} {k : Nat} {c : zAC} (h : w[k]? = some c) : (zeW cA ad 0 w)[k]? = some (ad k, zeC cA ad c) := by
  rw [zeW_get, h]; simp
theorem zeW_set (cA : Nat → ClassId) (ad : Nat → Nat) (c : zAC) : ∀ (w : List zAC) (i k : Nat), (zeW cA ad i w).set k (ad (i + k), zeC cA ad c) = zeW cA ad i (w.set k c)
  | [], i, k => by simp [zeW]
  | c0 :: w, i, 0 => by simp [zeW]
  | c0 :: w, i, k + 1 => by
    simp only [zeW, List.set_cons_succ]
    rw [show i + (k + 1) = i + 1 + k by omega, zeW_set cA ad c w (i + 1) k]
theorem zeW_app (cA : Nat → ClassId) (ad : Nat → Nat) (v : List zAC) : ∀ (w : List zAC) (i : Nat), zeW cA ad i (w ++ v) = zeW cA ad i w ++ zeW cA ad (i + w.length) v
  | [], i => by simp [zeW]
  | c :: w, i => by
    simp only [List.cons_append, zeW, List.length_cons]
    rw [zeW_app cA ad v w (i + 1), show i + 1 + w.length = i + (w.length + 1) by omega]
theorem zeW_len (cA : Nat → ClassId) (ad : Nat → Nat) : ∀ (w : List zAC) (i : Nat), (zeW cA ad i w).length = w.length
  | [], i => rfl
  | c :: w, i => by simp [zeW, zeW_len cA ad w (i + 1)]
/-! what is well formed -/
def zokV : zAV → Prop
  | .inl x => zin x
  | .inr (.inl _) => True
  | .inr (.inr x) => zin8 x
def zokN : zAV → Prop
  | .inl x => zin x
  | .inr (.inl _) => True
  | .inr (.inr _) => False
def zokA : Nat → Nat → (Int → Int) → Prop
  | 2, n, f => (n : Int) < 2147483648 ∧ ∀ i : Int, 0 ≤ i → i < n → zin8 (f i)
  | _, n, f => (n : Int) < 2147483648 ∧ ∀ i : Int, 0 ≤ i → i < n → zin (f i)
def zokC : zAC → Prop
  | .inl o => ∀ v ∈ o.2, zokN v
  | .inr a => zokA a.1 a.2.1 a.2.2
def zokL (L : List (Option zAV)) : Prop := ∀ v, some v ∈ L → zokN v
def zokS (st : List zAV) : Prop := ∀ v ∈ st, zokV v
def zokW (w : List zAC) : Prop := ∀ c ∈ w, zokC c
theorem zokN.v {v : zAV} (h : zokN v) : zokV v := by
  match v, h with
  | .inl _, h => exact h
  | .inr (.inl _), _ => exact True.intro
theorem zokS.nil : zokS [] := fun _ h => absurd h List.not_mem_nil
theorem zokS.cons {v : zAV} {st : List zAV} (hv : zokV v) (h : zokS st) : zokS (v :: st) := fun u hu => by
  rcases List.mem_cons.mp hu with rfl | hu
  · exact hv
  · exact h u hu
theorem zokS.tl {v : zAV} {st : List zAV} (h : zokS (v :: st)) : zokS st := fun u hu => h u (List.mem_cons_of_mem _ hu)
theorem zokS.hd {v : zAV} {st : List zAV} (h : zokS (v :: st)) : zokV v := h v List.mem_cons_self
theorem zokL.at {L : List (Option zAV)} (h : zokL L) {k : Nat} {v : zAV} (hk : L[k]? = some (some v)) : zokN v := h v (List.mem_of_getElem? hk)
theorem zokL.set {L : List (Option zAV)} (h : zokL L) {k : Nat} {v : zAV} (hv : zokN v) : zokL (L.set k (some v)) := fun u hu => by
  rcases List.mem_or_eq_of_mem_set hu with hu | hu
  · exact h u hu
  · cases hu; exact hv
theorem zokW.at {w : List zAC} (h : zokW w) {k : Nat} {c : zAC} (hk : w[k]? = some c) : zokC c := h c (List.mem_of_getElem? hk)
theorem zokW.set {w : List zAC} (h : zokW w) {k : Nat} {c : zAC} (hc : zokC c) : zokW (w.set k c) := fun u hu => by
  rcases List.mem_or_eq_of_mem_set hu with hu | rfl
  · exact h u hu
  · exact hc
theorem zokW.app {w v : List zAC} (h : zokW w) (h2 : zokW v) : zokW (w ++ v) := fun u hu => (List.mem_append.mp hu).elim (h u) (h2 u)
/-! whole numbers of 32 bits -/
def w32 (x : Int) : Int := (Int32.ofInt x).toInt
theorem zin_toInt (z : Int32) : zin z.toInt := ⟨z.le_toInt, z.toInt_lt⟩
theorem zin_w32 (x : Int) : zin (w32 x) := zin_toInt _
theorem w32_of {x : Int} (h : zin x) : w32 x = x := Int32.toInt_ofInt_of_le h.1 h.2
theorem zti {x : Int} (h : zin x) : (Int32.ofInt x).toInt = x := Int32.toInt_ofInt_of_le h.1 h.2
theorem zofw (x : Int) : Int32.ofInt (w32 x) = Int32.ofInt x := Int32.ofInt_toInt _
theorem zeq {x y : Int} (hx : zin x) (hy : zin y) : Int32.ofInt x = Int32.ofInt y ↔ x = y := by
  rw [← Int32.toInt_inj, zti hx, zti hy]
theorem zlt {x y : Int} (hx : zin x) (hy : zin y) : Int32.ofInt x < Int32.ofInt y ↔ x < y := by
  rw [Int32.lt_iff_toInt_lt, zti hx, zti hy]
theorem zle {x y : Int} (hx : zin x) (hy : zin y) : Int32.ofInt x ≤ Int32.ofInt y ↔ x ≤ y := by
  rw [Int32.le_iff_toInt_le, zti hx, zti hy]
theorem zof0 : Int32.ofInt 0 = 0 := by decide
theorem zin0 : zin 0 := by decide
theorem zclamp {x : Int} (h : zin x) : (Int32.ofInt x).toNatClampNeg = x.toNat := Int32.toNatClampNeg_ofInt_of_le h.1 h.2
/-! the two bit words as whole numbers -/
def wAnd (x y : Int) : Int := (Int32.ofInt x &&& Int32.ofInt y).toInt
def wOr (x y : Int) : Int := (Int32.ofInt x ||| Int32.ofInt y).toInt
def wXor (x y : Int) : Int := (Int32.ofInt x ^^^ Int32.ofInt y).toInt
def wShl (x y : Int) : Int := (Int32.ofInt x <<< (Int32.ofInt y &&& 31)).toInt
def wShr (x y : Int) : Int := (Int32.ofInt x >>> (Int32.ofInt y &&& 31)).toInt
def wDiv (x y : Int) : Int := w32 (x.tdiv y)
def wRem (x y : Int) : Int := x.tmod y
/-! locals -/
def zeL (ad : Nat → Nat) : Nat → List (Option zAV) → List (Nat × Value)
  | _, [] => []
  | i, none :: l => zeL ad (i + 1) l
  | i, some v :: l => (i, zeV ad v) :: zeL ad (i + 1) l
theorem zeL_mem (ad : Nat → Nat) : ∀ (L : List (Option zAV)) (i k : Nat) (v : zAV), L[k]? = some (some v) → (i + k, zeV ad v) ∈ zeL ad i L
  | [], i, k, v, h => by simp at h
  | none :: l, i, 0, v, h => by simp at h
  | some u :: l, i, 0, v, h => by
    simp only [List.getElem?_cons_zero, Option.some.injEq] at h
    subst h
    exact List.mem_cons_self
  | none :: l, i, k + 1, v, h => by
    rw [List.getElem?_cons_succ] at h
    have h2 := zeL_mem ad l (i + 1) k v h
    rw [show i + 1 + k = i + (k + 1) by omega] at h2
    exact h2
  | some u :: l, i, k + 1, v, h => by
    rw [List.getElem?_cons_succ] at h
    have h2 := zeL_mem ad l (i + 1) k v h
    rw [show i + 1 + k = i + (k + 1) by omega] at h2
    exact List.mem_cons_of_mem _ h2
theorem zeL_of (ad : Nat → Nat) : ∀ (L : List (Option zAV)) (i : Nat) (q : Nat × Value), q ∈ zeL ad i L → ∃ (k : Nat) (v : zAV), q = (i + k, zeV ad v) ∧ L[k]? = some (some v)
  | [], i, q, h => absurd h List.not_mem_nil
  | none :: l, i, q, h => by
    obtain ⟨k, v, h1, h2⟩ := zeL_of ad l (i + 1) q h
    exact ⟨k + 1, v, by rw [h1, show i + 1 + k = i + (k + 1) by omega], by rw [List.getElem?_cons_succ]; exact h2⟩
  | some u :: l, i, q, h => by
    rcases List.mem_cons.mp h with rfl | h
    · exact ⟨0, u, rfl, rfl⟩
    · obtain ⟨k, v, h1, h2⟩ := zeL_of ad l (i + 1) q h
      exact ⟨k + 1, v, by rw [h1, show i + 1 + k = i + (k + 1) by omega], by rw [List.getElem?_cons_succ]; exact h2⟩
theorem zeV_cat {v : zAV} (ad : Nat → Nat) (h : zokN v) : (zeV ad v).category = 1 := by
  match v, h with
  | .inl x, _ => rfl
  | .inr (.inl none), _ => rfl
  | .inr (.inl (some k)), _ => rfl
theorem zhas_at {ad : Nat → Nat} {L : List (Option zAV)} {ls : Array Slot} {nL k : Nat} {v : zAV} (h : lv_has ls nL (zeL ad 0 L)) (hk : L[k]? = some (some v)) : ls[k]? = some (.val (zeV ad v)) := by
  have h1 := h.2.2 _ (zeL_mem ad L 0 k v hk)
  rwa [Nat.zero_add] at h1
theorem zhas_set {ad : Nat → Nat} {L : List (Option zAV)} {ls : Array Slot} {nL i : Nat} {v : zAV} (hL : zokL L) (h : lv_has ls nL ((i, zeV ad v) :: (zeL ad 0 L).filter (fun q => !(q.1 == i) && !(q.1 + 1 == i && q.2.category == 2)))) : lv_has ls nL (zeL ad 0 (L.set i (some v))) := by
  refine ⟨h.1, h.2.1, fun q hq => ?_⟩
  obtain ⟨k, u, rfl, hk⟩ := zeL_of ad _ 0 q hq
  rw [Nat.zero_add]
  by_cases hki : k = i
  · subst hki
    have hlt : k < (L.set k (some v)).length := (List.getElem?_eq_some_iff.mp hk).1
    rw [List.length_set] at hlt
    rw [List.getElem?_set_self hlt] at hk
    cases hk
    exact h.2.2 _ List.mem_cons_self
  · rw [List.getElem?_set_ne (Ne.symm hki)] at hk
    refine h.2.2 (k, zeV ad u) (List.mem_cons_of_mem _ (List.mem_filter.mpr ⟨?_, ?_⟩))
    · have := zeL_mem ad L 0 k u hk
      rwa [Nat.zero_add] at this
    · simp [hki, zeV_cat ad (hL u (List.mem_of_getElem? hk))]
/-! the judgement -/
abbrev zG : Type := (Nat → ClassId) × (Nat → Nat → Nat) × (Nat → ClassId)
abbrev zD (G : zG) : va_G := (G.1, G.2.1)
abbrev zTy (G : zG) : List (ClassId × FieldType) := [(G.2.2 0, .int), (G.2.2 1, .boolean), (G.2.2 2, .long)]
def zNestb : Cond → Bool
  | .methodLinkNest _ _ _ _ => true
  | _ => false
def zNW : List Cond := lw_tbl.filter zNestb
def zNk (s : State) : Prop := ∀ w ∈ zNW, va_Nw w s
theorem zNestb_spec {w : Cond} (h : zNestb w = true) : ∃ (a : String) (i : Nat) (x : MethodName) (b : String), w = .methodLinkNest a i x b := by
  cases w <;> first | exact ⟨_, _, _, _, rfl⟩ | cases h
theorem zNk.warm {s U : State} (hW : s.WarmedH U.vm) (h : zNk s) : zNk U := fun w hw => by
  obtain ⟨a, i, x, b, rfl⟩ := zNestb_spec (List.mem_filter.mp hw).2
  exact va_Nw.warmM hW (h _ hw)
theorem zNk.same {s U : State} (e : s.vm = U.vm) (h : zNk s) : zNk U := fun w hw => by
  obtain ⟨a, i, x, b, rfl⟩ := zNestb_spec (List.mem_filter.mp hw).2
  exact va_Nw.same rfl e (h _ hw)
theorem znest {i : Nat} {x : Cond} (h : lw_tbl[i]? = some x) (hg : zNestb x = true) : x ∈ zNW := List.mem_filter.mpr ⟨List.mem_of_getElem? h, hg⟩
abbrev zM : Type := MethodName × ByteArray × Nat × Option FieldType
abbrev zF : Type := Launch → zG → (Nat → Prop) → (Nat → Nat) → List Frame → Array Value → State → State → Prop
def zCX (M : zM) (G : zG) (p : Program) (s : State) (m : MethodId) (args : Array Value) (meth : Method) (c : Code) (A : Nat → Prop) : Prop :=
  p.tables.exec = Jvm.exec ∧ c.code = M.2.1 ∧ c.maxLocals = M.2.2.1 ∧ meth.sig.returnType = M.2.2.2 ∧ meth.locks = false ∧ s.vm.findClass M.1.cls = some m.cls ∧ (∀ w ∈ zGW, w.before args s = true) ∧ ((M.1.name = "<init>" → meth.name = "<init>") ∧ (M.1.cls ≠ "InputrowConsoleLaw" → ∀ x ∈ c.exceptionTable.toList, False)) ∧ va_K (zD G) zCl (zTy G) s ∧ (∀ q : Nat, s.heap.size ≤ q → A q) ∧ zNk s
def zHd (M : zM) (G : zG) (P : Nat → Prop) (p : Program) (s : State) (m : MethodId) (args : Array Value) (meth : Method) (c : Code) (A : Nat → Prop) (ad0 ad : Nat → Nat) (H : Heap) (locs : List Loc) (ls : Array Slot) (L : List (Option zAV)) (st : List zAV) (w : List zAC) : Prop :=
  zCX M G p s m args meth c A ∧ (∀ k, P k → ad k = ad0 k) ∧ zokL L ∧ zokS st ∧ zokW w ∧ lv_has ls M.2.2.1 (zeL ad 0 L) ∧ va_P (zD G) zCl (zeW G.2.2 ad 0 w) H ∧ va_D A (zeW G.2.2 ad 0 w) ∧ va_S A s.heap H locs
def zB (M : zM) (R : Room) (F : zF) (P : Nat → Prop) (pc : Nat) (L : List (Option zAV)) (st : List zAV) (w : List zAC) (uc us : Nat) : Prop :=
  ∀ (G : zG) (p : Program) (l : Launch) (e : Env) (s : State) (m : MethodId) (args : Array Value) (below : List Frame) (meth : Method) (c : Code) (A : Nat → Prop) (ad0 ad : Nat → Nat) (H : Heap) (locs : List Loc) (ls : Array Slot),
    zHd M G P p s m args meth c A ad0 ad H locs ls L st w → W p l e R s m args below meth c H locs uc us (F l G A ad0 below args s) (F0 m pc ls (st.map (zeV ad)))
abbrev zR (d mc ms : Nat) : Room := { frames := d, cells := mc, slots := ms, locals := 40 * d }
abbrev zQ : Type := Option zAV → List zAC → Prop
def zQc (G : zG) (A : Nat → Prop) (ad0 : Nat → Nat) (P : Nat → Prop) (Q : zQ) : Array Value → State → Outcome → State → Prop := fun _ st oc t =>
  (∃ (r : Option zAV) (w : List zAC) (ad : Nat → Nat), oc = .returned (r.map (zeV ad)) ∧ Q r w ∧ (∀ v, r = some v → zokN v) ∧ zokW w ∧ (∀ k, P k → ad k = ad0 k) ∧ va_P (zD G) zCl (zeW G.2.2 ad 0 w) t.heap ∧ va_K (zD G) zCl (zTy G) t ∧ va_D A (zeW G.2.2 ad 0 w)) ∧ va_F A st t
def zFq (mc ms : Nat) (P : Nat → Prop) (Q : zQ) : zF := fun _ G A ad0 below args s => MQ below (zQc G A ad0 P Q) args s mc ms A
def zPre (G : zG) (ad : Nat → Nat) (w : List zAC) (sz : Nat) : State → Prop := fun U => U.heap.size = sz ∧ va_P (zD G) zCl (zeW G.2.2 ad 0 w) U.heap ∧ va_K (zD G) zCl (zTy G) U ∧ va_D (fun _ => True) (zeW G.2.2 ad 0 w) ∧ zNk U
abbrev zws (M : zM) : List Cond := Cond.code M.1 M.2.1 M.2.2.1 M.2.2.2 :: zGW
def zSpec (d : Nat) (P : Nat → Prop) (mc ms : Nat) (M : zM) (av : List zAV) (w : List zAC) (Q : zQ) : Prop :=
  (∀ v ∈ av, zokN v) → zokW w → ∀ (G : zG) (l : Launch) (ad : Nat → Nat) (sz : Nat), Met l M.1 (zws M) (zR d mc ms) (va_Pc (av.map (zeV ad)) (zPre G ad w sz)) (zQc G (va_A (zeW G.2.2 ad 0 w) sz) ad P Q) mc ms (va_A (zeW G.2.2 ad 0 w) sz)
theorem zargs_sl (ad : Nat → Nat) : ∀ (av : List zAV), (∀ v ∈ av, zokN v) → (lg_sl (av.map (zeV ad))).length = av.length
  | [], _ => rfl
  | v :: av, h => by
    have h1 := zeV_cat ad (h v List.mem_cons_self)
    have h2 := zargs_sl ad av (fun u hu => h u (List.mem_cons_of_mem _ hu))
    simp only [lg_sl] at h2
    simp [lg_sl, h1, h2]
theorem zargs_in (ad : Nat → Nat) : ∀ (av : List zAV) (i k : Nat) (v : zAV), (∀ v ∈ av, zokN v) → av[k]? = some v → (i + k, zeV ad v) ∈ lv_args i (av.map (zeV ad))
  | [], i, k, v, _, h => by simp at h
  | u :: av, i, 0, v, _, h => by
    simp only [List.getElem?_cons_zero, Option.some.injEq] at h
    subst h
    exact List.mem_cons_self
  | u :: av, i, k + 1, v, ho, h => by
    rw [List.getElem?_cons_succ] at h
    have h1 := zeV_cat ad (ho u List.mem_cons_self)
    have h2 := zargs_in ad av (i + 1) k v (fun u hu => ho u (List.mem_cons_of_mem _ hu)) h
    simp only [List.map_cons, lv_args, h1]
    rw [if_neg (by decide), show i + (k + 1) = i + 1 + k by omega]
    exact List.mem_cons_of_mem _ h2
def zaL (nL : Nat) (av : List zAV) : List (Option zAV) := av.map some ++ List.replicate (nL - av.length) none
theorem zaL_at {nL : Nat} {av : List zAV} {k : Nat} {v : zAV} (h : (zaL nL av)[k]? = some (some v)) : av[k]? = some v := by
  unfold zaL at h
  by_cases hk : k < (av.map some).length
  · rw [List.getElem?_append_left hk, List.getElem?_map] at h
    cases hx : av[k]? with
    | none => rw [hx] at h; simp at h
    | some u => rw [hx] at h; simpa using h
  · rw [List.getElem?_append_right (by omega)] at h
    have := List.mem_of_getElem? h
    simp [List.mem_replicate] at this
theorem zhas_entry {ad : Nat → Nat} {av : List zAV} {nL : Nat} (ho : ∀ v ∈ av, zokN v) (hn : av.length ≤ nL) : lv_has ((lg_sl (av.map (zeV ad)) ++ List.replicate (nL - (lg_sl (av.map (zeV ad))).length) Slot.unset).toArray) nL (zeL ad 0 (zaL nL av)) := by
  have h := lv_entry (av.map (zeV ad)) (n := nL) (by rw [zargs_sl ad av ho]; exact hn)
  refine ⟨h.1, h.2.1, fun q hq => ?_⟩
  obtain ⟨k, v, rfl, hk⟩ := zeL_of ad _ 0 q hq
  have h2 := zargs_in ad av 0 k v ho (zaL_at hk)
  exact h.2.2 _ h2
set_option maxHeartbeats 1000000 in
theorem zSpec_of {d mc ms : Nat} {P : Nat → Prop} {M : zM} {av : List zAV} {w : List zAC} {Q : zQ} (hp : plainName M.1.cls = true) (hn : av.length ≤ M.2.2.1)
    (h : zB M (zR d mc ms) (zFq mc ms P Q) P 0 (zaL M.2.2.1 av) [] w 0 0) : zSpec d P mc ms M av w Q := by
  intro ho hw G l ad sz
  refine Met.ofW (cc := M.2.1) (maxL := M.2.2.1) (ret := M.2.2.2) (ws' := zGW) hp rfl ?_
  intro p e s m args below meth c s₁ B hml hv
  obtain ⟨rfl, hsz, hP, hK, hD0, hNk⟩ := hv
  have hts := atoms_spec (ws := zws M) B.pre
  have hown : s.vm.findClass M.1.cls = some m.cls := findClass_of_methodNamed B.named
  have htab : ∀ x ∈ c.exceptionTable.toList, False := by
    obtain ⟨meth9, c9, h1, h2, -, -, -, -, h7, -⟩ := Cond.code_spec B.named (atoms_spec (ws := zws M) B.pre _ List.mem_cons_self)
    cases Option.some.inj (h1.symm.trans B.method)
    cases Option.some.inj (h2.symm.trans (Stand.of_body B).code)
    intro x hx
    rw [Array.isEmpty_iff.mp h7] at hx
    cases hx
  subst hsz
  have hD := hD0.self (sz := s.heap.size)
  rw [lg_entry_eq]
  refine h G p l e s m _ below meth c (va_A (zeW G.2.2 ad 0 w) s.heap.size) ad ad s.heap [] _ ⟨⟨B.exec, B.bytes, hml, B.returns, B.notSynchronized, hown, fun x hx => hts x (List.mem_cons_of_mem _ hx), ⟨fun hi => ((name_of_methodNamed B.named B.method).1).trans hi, fun _ => htab⟩, hK, fun q hq => Or.inr hq, hNk⟩, fun _ _ => rfl, fun v hv => ?_, zokS.nil, hw, zhas_entry ho hn, hP, hD, va_S.rf⟩
  obtain ⟨k, hk⟩ := List.getElem?_of_mem hv
  exact ho v (List.mem_of_getElem? (zaL_at hk))
