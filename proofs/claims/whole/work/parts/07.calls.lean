/-! ===== CALLS over a still picture ===== -/
theorem zeV_rn (ad : Nat → Nat) (f : Nat → Nat) (v : zAV) : zeV ad (zrn f v) = zeV (fun k => ad (f k)) v := by
  match v with
  | .inl x => rfl
  | .inr (.inl none) => rfl
  | .inr (.inl (some k)) => rfl
  | .inr (.inr x) => rfl
theorem zokN_rn {f : Nat → Nat} {v : zAV} : zokN (zrn f v) ↔ zokN v := by
  match v with
  | .inl x => exact Iff.rfl
  | .inr (.inl none) => exact Iff.rfl
  | .inr (.inl (some k)) => exact Iff.rfl
  | .inr (.inr x) => exact Iff.rfl
theorem zokV_rn {f : Nat → Nat} {v : zAV} : zokV (zrn f v) ↔ zokV v := by
  match v with
  | .inl x => exact Iff.rfl
  | .inr (.inl none) => exact Iff.rfl
  | .inr (.inl (some k)) => exact Iff.rfl
  | .inr (.inr x) => exact Iff.rfl
/-- a cell of the callee's picture and the same cell in its caller's -/
theorem zeC_rn (cA : Nat → ClassId) (ad : Nat → Nat) (f : Nat → Nat) {s t : zSt} {a : Nat} (h1 : ∀ k, s.1 (f a) k = t.1 a k) (h2 : s.2 (f a) = t.2 a) (c : zTC) : zeC cA ad (ziC s (f a) (zrT f c)) = zeC cA (fun k => ad (f k)) (ziC t a c) := by
  cases c with
  | inl o =>
    simp only [zrT, ziC, zeC]
    congr 2
    refine List.ext_getElem? fun j => ?_
    rw [List.getElem?_map, List.getElem?_map, ziF_get, ziF_get, List.getElem?_map]
    cases o.2[j]? with
    | none => rfl
    | some q => cases q with
      | none => simp [h1, zeV]
      | some r => simp [zeV]
  | inr tk => simp only [zrT, ziC, zeC]; rw [h1, h2]
theorem zokC_rn {f : Nat → Nat} {s t : zSt} {a : Nat} (h1 : ∀ k, s.1 (f a) k = t.1 a k) (h2 : s.2 (f a) = t.2 a) {c : zTC} : zokC (ziC s (f a) (zrT f c)) ↔ zokC (ziC t a c) := by
  cases c with
  | inl o =>
    simp only [zrT, ziC, zokC]
    constructor
    · intro h v hv
      obtain ⟨j, hj⟩ := List.getElem?_of_mem hv
      rw [ziF_get] at hj
      cases hq : o.2[j]? with
      | none => rw [hq] at hj; simp at hj
      | some q =>
        rw [hq] at hj
        cases q with
        | none =>
          simp only [Option.map_some, Nat.zero_add, Option.some.injEq] at hj
          subst hj
          refine h (.inl (t.1 a j)) (List.mem_of_getElem? (i := j) ?_)
          rw [ziF_get, List.getElem?_map, hq]; simp [h1]
        | some r =>
          simp only [Option.map_some, Option.some.injEq] at hj
          subst hj
          exact True.intro
    · intro h v hv
      obtain ⟨j, hj⟩ := List.getElem?_of_mem hv
      rw [ziF_get, List.getElem?_map] at hj
      cases hq : o.2[j]? with
      | none => rw [hq] at hj; simp at hj
      | some q =>
        rw [hq] at hj
        cases q with
        | none =>
          simp only [Option.map_some, Option.map_none, Nat.zero_add, Option.some.injEq] at hj
          subst hj
          refine h (.inl (s.1 (f a) j)) (List.mem_of_getElem? (i := j) ?_)
          rw [ziF_get, hq]; simp [h1]
        | some r =>
          simp only [Option.map_some, Option.some.injEq] at hj
          subst hj
          exact True.intro
  | inr tk => simp only [zrT, ziC]; rw [h1, h2]
theorem va_D_zeW {A : Nat → Prop} {cA : Nat → ClassId} {ad : Nat → Nat} {w : List zAC} : va_D A (zeW cA ad 0 w) ↔ (∀ i j, i < w.length → j < w.length → ad i = ad j → i = j) ∧ ∀ i, i < w.length → A (ad i) := by
  constructor
  · intro h
    refine ⟨fun i j hi hj hij => ?_, fun i hi => ?_⟩
    · exact h.1 i j (ad i, zeC cA ad w[i]) (ad j, zeC cA ad w[j]) (zeW_at (List.getElem?_eq_getElem hi)) (zeW_at (List.getElem?_eq_getElem hj)) hij
    · exact h.2 i (ad i, zeC cA ad w[i]) (zeW_at (List.getElem?_eq_getElem hi))
  · intro h
    have key : ∀ (k : Nat) (q : Nat × va_E), (zeW cA ad 0 w)[k]? = some q → k < w.length ∧ q.1 = ad k := by
      intro k q hk
      rw [zeW_get] at hk
      cases hw : w[k]? with
      | none => rw [hw] at hk; simp at hk
      | some c =>
        rw [hw] at hk
        simp only [Option.map_some, Nat.zero_add, Option.some.injEq] at hk
        exact ⟨(List.getElem?_eq_some_iff.mp hw).1, by rw [← hk]⟩
    refine ⟨fun i j p q hi hj hpq => ?_, fun k q hk => ?_⟩
    · obtain ⟨a1, a2⟩ := key i p hi
      obtain ⟨b1, b2⟩ := key j q hj
      exact h.1 i j a1 b1 (by rw [← a2, ← b2]; exact hpq)
    · obtain ⟨a1, a2⟩ := key k q hk
      rw [a2]; exact h.2 k a1
theorem va_P_zeW {D : va_G} {cl : List vw_C} {cA : Nat → ClassId} {ad : Nat → Nat} {w : List zAC} {H : Heap} : va_P D cl (zeW cA ad 0 w) H ↔ ∀ i c, w[i]? = some c → va_at D cl (ad i, zeC cA ad c) H := by
  constructor
  · intro h i c hi
    exact h i _ (zeW_at hi)
  · intro h k q hk
    rw [zeW_get] at hk
    cases hw : w[k]? with
    | none => rw [hw] at hk; simp at hk
    | some c =>
      rw [hw] at hk
      simp only [Option.map_some, Nat.zero_add, Option.some.injEq] at hk
      rw [← hk]
      exact h k c hw
theorem va_A_zeW {cA : Nat → ClassId} {ad : Nat → Nat} {w : List zAC} {sz q : Nat} : va_A (zeW cA ad 0 w) sz q ↔ (∃ i, i < w.length ∧ q = ad i) ∨ sz ≤ q := by
  unfold va_A
  constructor
  · rintro (⟨k, e, h⟩ | h)
    · rw [zeW_get] at h
      cases hw : w[k]? with
      | none => rw [hw] at h; simp at h
      | some c =>
        rw [hw] at h
        simp only [Option.map_some, Nat.zero_add, Option.some.injEq, Prod.mk.injEq] at h
        exact Or.inl ⟨k, (List.getElem?_eq_some_iff.mp hw).1, h.1.symm⟩
    · exact Or.inr h
  · rintro (⟨i, hi, rfl⟩ | h)
    · exact Or.inl ⟨i, _, zeW_at (List.getElem?_eq_getElem hi)⟩
    · exact Or.inr h
section ZW
variable {p : Program} {l : Launch} {e : Env} {R : Room} {s : State} {m : MethodId} {args : Array Value} {below : List Frame} {meth : Method} {c : Code} {H : Heap} {locs : List Loc} {cells slots : Nat} {Z : State → Prop}
theorem zw_call {G : zG} {A0 A1 P1 : Nat → Prop} {adc : Nat → Nat} {Q1 : zQ} {a : Array Value} {H0 : Heap} {mc ms pc : Nat} {ls : Array Slot} {rest st0 : List Value}
    (hr : va_Run p l e R s m args below meth c H locs cells slots mc ms (F0 m pc ls st0) rest (zQc G A1 adc P1 Q1 a) A1) (hS : va_S A0 H0 H locs) (hf : ∀ q, A1 q → A0 q)
    (kk : ∀ (r : Option zAV) (w' : List zAC) (ad' : Nat → Nat) (t : State) (H1 : Heap) (locs1 : List Loc), t.heap = H1 → s.vm.Alike t.vm → Q1 r w' → (∀ v, r = some v → zokN v) → zokW w' → (∀ k, P1 k → ad' k = adc k) → va_P (zD G) zCl (zeW G.2.2 ad' 0 w') H1 → va_D A1 (zeW G.2.2 ad' 0 w') → H.size ≤ H1.size → (∀ q : Nat, q < H.size → ¬ A1 q → H1[q]? = H[q]?) → va_S A0 H0 H1 locs1 →
      W p l e R s m args below meth c H1 locs1 (cells + mc) (slots + ms) Z (F0 m (pc + 3) ls ((r.map (zeV ad')).toList ++ rest))) : W p l e R s m args below meth c H locs cells slots Z (F0 m pc ls st0) := by
  intro T hT X
  obtain ⟨v, st₀, t, T', L, h0, X', hL, e1, e2, ⟨⟨r, w', ad', hv, hq, hrok, hwok, hag, hP, hK, hD⟩, hz, hk⟩, st⟩ := hr T hT X
  cases hv
  rw [h0] at hz hk
  obtain ⟨t2, a1, b1⟩ := kk r w' ad' t T'.heap (locs ++ L) e1.symm (by rw [← e2]; exact X'.warmed.alike) hq hrok hwok hag (by rw [e1]; exact hP) hD (by rw [e1]; exact hz) (fun q h1 h2 => by rw [e1]; exact hk q h1 h2)
    ⟨Nat.le_trans hS.1 (by rw [e1]; exact hz), fun q h1 h2 => by rw [e1, hk q (Nat.lt_of_lt_of_le h1 hS.1) (fun z => h2 (hf q z))]; exact hS.2.1 q h1 h2, fun q hq => by
      rcases List.mem_append.mp hq with h | h
      · exact hS.2.2 q h
      · exact hf _ (hL q h)⟩ T' rfl X'
  exact ⟨t2, st t2 a1, b1⟩
end ZW
/-- a call's way to its run -/
def zRunOf (M Mc : zM) (R : Room) (d' mc ms : Nat) (pc : Nat) (T : List zTC) (s : zSt) (L : List (Option zAV)) (st rest : List zAV) (adr : (Nat → Nat) → (Nat → Nat)) (av : List zAV) : Prop :=
  ∀ (G : zG) (p : Program) (l : Launch) (e : Env) (S : State) (m : MethodId) (args : Array Value) (below : List Frame) (meth : Method) (c : Code) (A : Nat → Prop) (P : Nat → Prop) (ad0 ad : Nat → Nat) (H : Heap) (locs : List Loc) (ls : Array Slot) (uc us : Nat) (Pc : Array Value → State → Prop) (Qc : Array Value → State → Outcome → State → Prop) (free : Addr → Prop),
    zHd M G P p S m args meth c A ad0 ad H locs ls L st (ziT s 0 T) → Met l Mc.1 (zws Mc) (zR d' mc ms) Pc Qc mc ms free → FrameBlind Pc → (∀ U : State, U.heap = H → S.WarmedH U.vm → Pc (av.map (zeV (adr ad))).toArray U) → uc + mc ≤ R.cells → us + ms ≤ R.slots →
    va_Run p l e R S m args below meth c H locs uc us mc ms (F0 m pc ls (st.map (zeV ad))) (rest.map (zeV ad)) (Qc (av.map (zeV (adr ad))).toArray) free
theorem zPre_blind {G : zG} {ad : Nat → Nat} {w : List zAC} {sz : Nat} {av : List Value} : FrameBlind (va_Pc av (zPre G ad w sz)) := by
  intro a U g mk q
  obtain ⟨q0, q1, qP, qK, qD, qN⟩ := q
  exact ⟨q0, q1, qP, va_K.moved (u := U) (U := U.calling g mk a) (Vm.Alike.refl U.vm) qK, qD, zNk.same (s := U) (U := U.calling g mk a) rfl qN⟩
set_option maxHeartbeats 1000000 in
theorem zt_call {M Mc : zM} {d d' : Nat} {mc ms : Nat} {F : zF} {P : Nat → Prop} {pc uc us : Nat} {L : List (Option zAV)} {st rest : List zAV} {T Tc : List zTC} {s s' : zSt} {f : Nat → Nat} {av : List zAV} {r : Option zAV}
    (hrun : zRunOf M Mc (zR d mc ms) d' 0 0 pc T s L st rest (fun ad k => ad (f k)) av) (hS : zSpecT d' Mc av Tc (zsb f s) r s') (hst : (av.map (zrn f)).reverse ++ rest = st) (hnl : ∀ v ∈ av, zokV v → zokN v)
    (hT : ∀ a c, Tc[a]? = some c → T[f a]? = some (zrT f c)) (hnd : ∀ a b, a < Tc.length → b < Tc.length → f a = f b → a = b) (huc : uc ≤ mc) (hus : us ≤ ms)
    (kk : zB M (zR d mc ms) F P (pc + 3) L ((r.map (zrn f)).toList ++ rest) (ziT (zpb f Tc.length s s') 0 T) uc us) : zB M (zR d mc ms) F P pc L st (ziT s 0 T) uc us := by
  intro G p l e S m args below meth c A ad0 ad H locs ls hh
  have hh0 := hh
  obtain ⟨hcx, hag, hL, hSt, hW, hv, hP, hD, hSS⟩ := hh
  have hcx0 := hcx
  obtain ⟨hx1, hb, -, -, -, hown, hts, hmi, hK, hA, hNk⟩ := hcx
  have hW' : zokW (ziT (zsb f s) 0 Tc) := by
    intro x hx
    obtain ⟨a, ha⟩ := List.getElem?_of_mem hx
    rw [ziT_get] at ha
    cases hc : Tc[a]? with
    | none => rw [hc] at ha; simp at ha
    | some q =>
      rw [hc] at ha
      simp only [Option.map_some, Nat.zero_add, Option.some.injEq] at ha
      rw [← ha]
      exact (zokC_rn (s := s) (t := zsb f s) (fun _ => rfl) rfl).mp (hW.at (ziT_at (hT a q hc)))
  have hav : ∀ v ∈ av, zokN v := by
    intro v hv2
    refine hnl v hv2 (zokV_rn.mp (hSt (zrn f v) ?_))
    rw [← hst]
    exact List.mem_append_left _ (List.mem_reverse.mpr (List.mem_map_of_mem hv2))
  have hlenT : (ziT s 0 T).length = T.length := ziT_len s T 0
  have hfT : ∀ a, a < Tc.length → f a < T.length := fun a ha => (List.getElem?_eq_some_iff.mp (hT a _ (List.getElem?_eq_getElem ha))).1
  obtain ⟨hD1, hD2⟩ := va_D_zeW.mp hD
  have hM := hS hav hW' G l (fun k => ad (f k)) H.size
  have hPc : va_P (zD G) zCl (zeW G.2.2 (fun k => ad (f k)) 0 (ziT (zsb f s) 0 Tc)) H := by
    refine va_P_zeW.mpr fun i x hi => ?_
    rw [ziT_get] at hi
    cases hc : Tc[i]? with
    | none => rw [hc] at hi; simp at hi
    | some q =>
      rw [hc] at hi
      simp only [Option.map_some, Nat.zero_add, Option.some.injEq] at hi
      have h1 := va_P_zeW.mp hP (f i) _ (ziT_at (hT i q hc))
      rw [zeC_rn G.2.2 ad f (t := zsb f s) (fun _ => rfl) rfl, hi] at h1
      exact h1
  have hDc : va_D (fun _ => True) (zeW G.2.2 (fun k => ad (f k)) 0 (ziT (zsb f s) 0 Tc)) := by
    refine va_D_zeW.mpr ⟨fun i j hi hj hij => ?_, fun _ _ => True.intro⟩
    rw [ziT_len] at hi hj
    exact hnd i j hi hj (hD1 _ _ (by rw [hlenT]; exact hfT i hi) (by rw [hlenT]; exact hfT j hj) hij)
  have hfree : ∀ q, va_A (zeW G.2.2 (fun k => ad (f k)) 0 (ziT (zsb f s) 0 Tc)) H.size q → A q := by
    intro q hq
    rcases va_A_zeW.mp hq with ⟨i, hi, rfl⟩ | hq
    · rw [ziT_len] at hi
      exact hD2 (f i) (by rw [hlenT]; exact hfT i hi)
    · exact hA q (Nat.le_trans hSS.1 hq)
  refine zw_call (hrun G p l e S m args below meth c A P ad0 ad H locs ls uc us _ _ _ hh0 hM zPre_blind (fun U hU hWm => ⟨rfl, by rw [hU], by rw [hU]; exact hPc, va_K.moved hWm.alike hK, hDc, hNk.warm hWm⟩) (by show uc + 0 ≤ mc; omega) (by show us + 0 ≤ ms; omega)) hSS hfree ?_
  intro r1 w1 ad1 t H1 locs1 ht hal hq hrok hwok hag1 hP1 hDD1 hsz hkeep hSS1
  obtain ⟨rfl, rfl⟩ := hq
  have hade : ad1 = fun k => ad (f k) := funext fun k => hag1 k True.intro
  subst hade
  have hlen2 : (ziT (zpb f Tc.length s s') 0 T).length = T.length := ziT_len _ T 0
  have hget : ∀ i q, T[i]? = some q → (∃ a c, Tc[a]? = some c ∧ f a = i ∧ q = zrT f c ∧ (∀ k, (zpb f Tc.length s s').1 i k = s'.1 a k) ∧ (zpb f Tc.length s s').2 i = s'.2 a) ∨ ((∀ a, a < Tc.length → f a ≠ i) ∧ (∀ k, (zpb f Tc.length s s').1 i k = s.1 i k) ∧ (zpb f Tc.length s s').2 i = s.2 i) := by
    intro i q hi
    cases hz : zfind f i Tc.length with
    | none => exact Or.inr ⟨zfind_none hz, fun k => by simp [zpb, hz], by simp [zpb, hz]⟩
    | some a =>
      obtain ⟨h1, h2⟩ := zfind_some hz
      refine Or.inl ⟨a, Tc[a], List.getElem?_eq_getElem h1, h2, ?_, fun k => by simp [zpb, hz], by simp [zpb, hz]⟩
      have h3 := hT a _ (List.getElem?_eq_getElem h1)
      rw [h2, hi] at h3
      exact Option.some.inj h3
  have hapart : ∀ i, i < T.length → (∀ a, a < Tc.length → f a ≠ i) → ad i < H.size ∧ ¬ va_A (zeW G.2.2 (fun k => ad (f k)) 0 (ziT (zsb f s) 0 Tc)) H.size (ad i) := by
    intro i hi hne
    have hlt := (va_P_zeW.mp hP i _ (ziT_at (List.getElem?_eq_getElem hi))).lt
    refine ⟨hlt, fun h => ?_⟩
    rcases va_A_zeW.mp h with ⟨a, ha, he⟩ | h
    · rw [ziT_len] at ha
      exact hne a ha (hD1 _ _ (by rw [hlenT]; exact hfT a ha) (by rw [hlenT]; exact hi) he.symm)
    · exact absurd hlt (Nat.not_lt.mpr h)
  have k1 := kk G p l e S m args below meth c A ad0 ad H1 locs1 ls ⟨hcx0, hag, hL, ?_, ?_, hv, ?_, ?_, hSS1⟩
  · have e1 : (r1.map (zeV (fun k => ad (f k)))).toList ++ rest.map (zeV ad) = ((r1.map (zrn f)).toList ++ rest).map (zeV ad) := by
      cases r1 with
      | none => rfl
      | some v => simp [zeV_rn]
    rw [Nat.add_zero, Nat.add_zero, e1]
    exact k1
  · intro v hv2
    rcases List.mem_append.mp hv2 with h | h
    · cases r1 with
      | none => cases h
      | some u =>
        simp only [Option.map_some, Option.toList_some, List.mem_singleton] at h
        rw [h]
        exact zokV_rn.mpr (hrok u rfl).v
    · exact hSt v (by rw [← hst]; exact List.mem_append_right _ h)
  · intro x hx
    obtain ⟨i, hi⟩ := List.getElem?_of_mem hx
    rw [ziT_get] at hi
    cases hc : T[i]? with
    | none => rw [hc] at hi; simp at hi
    | some q =>
      rw [hc] at hi
      simp only [Option.map_some, Nat.zero_add, Option.some.injEq] at hi
      rw [← hi]
      rcases hget i q hc with ⟨a, c1, h1, h2, h3, h4, h5⟩ | ⟨h1, h2, h3⟩
      · subst h2
        rw [h3]
        exact (zokC_rn (t := s') h4 h5).mpr (hwok.at (ziT_at h1))
      · rw [ziC_cong h2 h3]
        exact hW.at (ziT_at hc)
  · refine va_P_zeW.mpr fun i x hi => ?_
    rw [ziT_get] at hi
    cases hc : T[i]? with
    | none => rw [hc] at hi; simp at hi
    | some q =>
      rw [hc] at hi
      simp only [Option.map_some, Nat.zero_add, Option.some.injEq] at hi
      rw [← hi]
      rcases hget i q hc with ⟨a, c1, h1, h2, h3, h4, h5⟩ | ⟨h1, h2, h3⟩
      · subst h2
        rw [h3, zeC_rn G.2.2 ad f (t := s') h4 h5]
        exact va_P_zeW.mp hP1 a _ (ziT_at h1)
      · rw [ziC_cong h2 h3]
        obtain ⟨g1, g2⟩ := hapart i (List.getElem?_eq_some_iff.mp hc).1 h1
        exact (va_P_zeW.mp hP i _ (ziT_at hc)).kept (hkeep _ g1 g2)
  · refine va_D_zeW.mpr ⟨fun i j hi hj hij => ?_, fun i hi => ?_⟩
    · rw [hlen2] at hi hj
      exact hD1 i j (by rw [hlenT]; exact hi) (by rw [hlenT]; exact hj) hij
    · rw [hlen2] at hi
      exact hD2 i (by rw [hlenT]; exact hi)
/-! the links of calls -/
def zLV (own : String) (idx ci n : Nat) (Mc : zM) : Prop := ∃ (C : String) (T : u_T) (N : Nat), zCl[ci]? = some (C, T, N) ∧ (∀ x ∈ [Cond.methodLink own idx Mc.1, Cond.instanceMethod Mc.1, Cond.selects C Mc.1 Mc.1, Cond.initialized C], x ∈ zGW) ∧ Cond.code Mc.1 Mc.2.1 Mc.2.2.1 Mc.2.2.2 ∈ zGW ∧ (Mc.1.cls = C ∧ Mc.1.cls ≠ "java/lang/invoke/MethodHandle" ∧ Mc.1.cls ≠ "java/lang/invoke/VarHandle" ∧ (parseMethodDescriptor Mc.1.desc).map (fun d => d.parameters.length) = some n)
def zLS (own : String) (idx n : Nat) (Mc : zM) : Prop := (∀ x ∈ [Cond.methodLink own idx Mc.1, Cond.static Mc.1, Cond.initialized Mc.1.cls], x ∈ zGW) ∧ Cond.code Mc.1 Mc.2.1 Mc.2.2.1 Mc.2.2.2 ∈ zGW ∧ (Mc.1.cls ≠ "java/lang/invoke/MethodHandle" ∧ Mc.1.cls ≠ "java/lang/invoke/VarHandle" ∧ (parseMethodDescriptor Mc.1.desc).map (fun d => d.parameters.length) = some n)
def zLSN (own : String) (idx n : Nat) (host : String) (Mc : zM) : Prop := Cond.methodLinkNest own idx Mc.1 host ∈ zNW ∧ (∀ x ∈ [Cond.static Mc.1, Cond.initialized Mc.1.cls], x ∈ zGW) ∧ Cond.code Mc.1 Mc.2.1 Mc.2.2.1 Mc.2.2.2 ∈ zGW ∧ (Mc.1.cls ≠ "java/lang/invoke/MethodHandle" ∧ Mc.1.cls ≠ "java/lang/invoke/VarHandle" ∧ (parseMethodDescriptor Mc.1.desc).map (fun d => d.parameters.length) = some n)
theorem zws_in {Mc : zM} (h : Cond.code Mc.1 Mc.2.1 Mc.2.2.1 Mc.2.2.2 ∈ zGW) : GoodIn zGW (zws Mc) := fun x hx => by
  rcases List.mem_cons.mp hx with rfl | hx
  · exact zGW_good _ h
  · exact zGW_good _ hx
theorem zroom {d d' nL : Nat} (h : d' + 1 ≤ d) (h2 : nL ≤ 20) : (zR d' 0 0).frames + 1 ≤ d ∧ 8 + (nL + 11) + (40 * d') ≤ 40 * d := ⟨h, by omega⟩
section ZL
variable {M Mc : zM} {d d' mc ms mcc msc pc : Nat} {T : List zTC} {s : zSt} {L : List (Option zAV)} {st rest : List zAV} {f : Nat → Nat} {as : List zAV}
def zcat : zAV → Nat
  | .inr (.inr _) => 2
  | _ => 1
theorem zcat_eq (ad : Nat → Nat) (v : zAV) : (zeV ad v).category = zcat v := by
  match v with
  | .inl x => rfl
  | .inr (.inl none) => rfl
  | .inr (.inl (some k)) => rfl
  | .inr (.inr x) => rfl
theorem zcat_sum (ad : Nat → Nat) (rest : List zAV) : ((rest.map (zeV ad)).map fun v => v.category).sum = (rest.map zcat).sum := by
  rw [List.map_map]
  congr 1
  exact List.map_congr_left fun v _ => zcat_eq ad v
theorem zst_map (ad : Nat → Nat) (f : Nat → Nat) (av rest : List zAV) : ((av.map (zrn f)).reverse ++ rest).map (zeV ad) = (av.map (zeV (fun k => ad (f k)))).reverse ++ rest.map (zeV ad) := by
  rw [List.map_append, List.map_reverse, List.map_map]
  congr 3
  exact funext fun v => zeV_rn ad f v
theorem zrun_V {idx ci n a0 : Nat} {fs : List (Option Nat)} (hdg : decode M.2.1 pc = .ok (.invokevirtual idx, 3)) (hl : zLV M.1.cls idx ci n Mc) (hi : T[f a0]? = some (.inl (ci, fs))) (hn : as.length = n) (hd : d' + 1 ≤ d) (hml : Mc.2.2.1 ≤ 20) (hst : ((.inr (.inl (some a0)) :: as).map (zrn f)).reverse ++ rest = st) (hrest : (rest.map zcat).sum ≤ 8) :
    zRunOf M Mc (zR d mc ms) d' mcc msc pc T s L st rest (fun ad k => ad (f k)) (.inr (.inl (some a0)) :: as) := by
  intro G p l e S m args below meth c A P ad0 ad H locs ls uc us Pc Qc free hh hM hbl hpc huc hus
  obtain ⟨C, T1, N, hc, hw, hcode, hcl⟩ := hl
  obtain ⟨hcx, hag, hL, hSt, hW, hv, hP, hD, hSS⟩ := hh
  obtain ⟨hx1, hb, hmlx, -, -, hown, hts, hmi, hK, hA, hNk⟩ := hcx
  have e1 := zeW_at (cA := G.2.2) (ad := ad) (ziT_at (s := s) hi)
  have hr := va_recv hK hP hc e1
  have hgood : GoodIn zGW (wsV M.1.cls idx C Mc.1 (zws Mc)) := goodIn_app (fun x hx => zGW_good x (hw x hx)) (zws_in hcode)
  exact va_runV (b := ad (f a0)) (As := as.map (zeV (fun k => ad (f k)))) (rest := rest.map (zeV ad)) ⟨hx1, hb, hmlx, hown, hts⟩ hM (cwV n hts hgood rfl rfl rfl hcl (zroom hd hml)) ⟨hbl, hr, hpc⟩ rfl (by rw [List.length_map]; exact hn) hv.1 (by rw [← hst, zst_map]; simp [zeV]) (lv_room (by rw [zcat_sum]; exact hrest)) hdg ⟨huc, hus⟩
theorem zrun_S {idx n : Nat} (hdg : decode M.2.1 pc = .ok (.invokestatic idx, 3)) (hl : zLS M.1.cls idx n Mc) (hn : as.length = n) (hd : d' + 1 ≤ d) (hml : Mc.2.2.1 ≤ 20) (hst : (as.map (zrn f)).reverse ++ rest = st) (hrest : (rest.map zcat).sum ≤ 8) :
    zRunOf M Mc (zR d mc ms) d' mcc msc pc T s L st rest (fun ad k => ad (f k)) as := by
  intro G p l e S m args below meth c A P ad0 ad H locs ls uc us Pc Qc free hh hM hbl hpc huc hus
  obtain ⟨hw, hcode, hcl⟩ := hl
  obtain ⟨hcx, hag, hL, hSt, hW, hv, hP, hD, hSS⟩ := hh
  obtain ⟨hx1, hb, hmlx, -, -, hown, hts, hmi, hK, hA, hNk⟩ := hcx
  have hgood : GoodIn zGW (va_wsS M.1.cls idx Mc.1 (zws Mc)) := goodIn_app (fun x hx => zGW_good x (hw x hx)) (zws_in hcode)
  exact va_runS (As := as.map (zeV (fun k => ad (f k)))) (rest := rest.map (zeV ad)) ⟨hx1, hb, hmlx, hown, hts⟩ hM (va_cwS n hts hgood rfl rfl rfl hcl (zroom hd hml)) ⟨hbl, hpc⟩ rfl (by rw [List.length_map]; exact hn) hv.1 (by rw [← hst, zst_map]) (lv_room (by rw [zcat_sum]; exact hrest)) hdg ⟨huc, hus⟩
theorem zrun_SN {idx n : Nat} {host : String} (hdg : decode M.2.1 pc = .ok (.invokestatic idx, 3)) (hl : zLSN M.1.cls idx n host Mc) (hn : as.length = n) (hd : d' + 1 ≤ d) (hml : Mc.2.2.1 ≤ 20) (hst : (as.map (zrn f)).reverse ++ rest = st) (hrest : (rest.map zcat).sum ≤ 8) :
    zRunOf M Mc (zR d mc ms) d' mcc msc pc T s L st rest (fun ad k => ad (f k)) as := by
  intro G p l e S m args below meth c A P ad0 ad H locs ls uc us Pc Qc free hh hM hbl hpc huc hus
  obtain ⟨hw0, hw, hcode, hcl⟩ := hl
  obtain ⟨hcx, hag, hL, hSt, hW, hv, hP, hD, hSS⟩ := hh
  obtain ⟨hx1, hb, hmlx, -, -, hown, hts, hmi, hK, hA, hNk⟩ := hcx
  have h2 := hts _ (hw (Cond.static Mc.1) (by simp))
  have h3 := hts _ (hw (Cond.initialized Mc.1.cls) (by simp))
  exact va_runSN (As := as.map (zeV (fun k => ad (f k)))) (rest := rest.map (zeV ad)) ⟨hx1, hb, hmlx, hown, hts⟩ hM ⟨va_cnB n hts (zws_in hcode) rfl rfl rfl (hNk _ hw0) h3 hcl (zroom hd hml), h2, True.intro⟩ ⟨hbl, hpc⟩ rfl (by rw [List.length_map]; exact hn) hv.1 (by rw [← hst, zst_map]) (lv_room (by rw [zcat_sum]; exact hrest)) hdg ⟨huc, hus⟩
end ZL
/-! the lesser and the greater of two -/
abbrev zMx (own : String) (idx : Nat) : Prop := ∀ x ∈ [Cond.methodLink own idx Lib.Math.max.name, Cond.static Lib.Math.max.name, Cond.initialized "java/lang/Math", Cond.code Lib.Math.max.name Lib.Math.max.code 2 (some .int)], x ∈ zGW
abbrev zMn (own : String) (idx : Nat) : Prop := ∀ x ∈ [Cond.methodLink own idx Lib.Math.min.name, Cond.static Lib.Math.min.name, Cond.initialized "java/lang/Math", Cond.code Lib.Math.min.name Lib.Math.min.code 2 (some .int)], x ∈ zGW
theorem zr_max {M : zM} {d mc ms : Nat} {F : zF} {P : Nat → Prop} {pc uc us idx : Nat} {L : List (Option zAV)} {st : List zAV} {w : List zAC} {x y : Int} (hdg : decode M.2.1 pc = .ok (.invokestatic idx, 3)) (hl : zMx M.1.cls idx) (hd : 1 ≤ d) (huc : uc ≤ mc) (hus : us ≤ ms) (hrest : (st.map zcat).sum ≤ 8)
    (kk : zB M (zR d mc ms) F P (pc + 3) L (.inl (if x < y then y else x) :: st) w uc us) : zB M (zR d mc ms) F P pc L (.inl y :: .inl x :: st) w uc us := by
  intro G p l e s m args below meth c A ad0 ad H locs ls hh
  have hh0 := hh
  obtain ⟨hcx, hag, hL, hSt, hW, hv, hP, hD, hSS⟩ := hh
  obtain ⟨hx1, hb, hmlx, -, -, hown, hts, hmi, hK, hA, hNk⟩ := hcx
  have hy := hSt.hd
  have hx := hSt.tl.hd
  have k1 := kk G p l e s m args below meth c A ad0 ad H locs ls ⟨hh0.1, hag, hL, hSt.tl.tl.cons (v := .inl (if x < y then y else x)) (show zin _ by split <;> assumption), hW, hv, hP, hD, hSS⟩
  refine va_mmax hx1 hb (hmlx.trans hv.1.symm) hown (hts _ (hl _ (by simp))) (hts _ (hl _ (by simp))) (hts _ (hl _ (by simp))) (hts _ (hl _ (by simp))) hd (by have := zcat_sum ad st; show _ + 13 ≤ 40 * d; omega) huc hus hdg ?_
  have e : (if Int32.ofInt x < Int32.ofInt y then Int32.ofInt y else Int32.ofInt x) = Int32.ofInt (if x < y then y else x) := by
    by_cases h : x < y
    · rw [if_pos h, if_pos ((zlt hx hy).mpr h)]
    · rw [if_neg h, if_neg (fun q => h ((zlt hx hy).mp q))]
  rw [e]
  exact k1
theorem zr_min {M : zM} {d mc ms : Nat} {F : zF} {P : Nat → Prop} {pc uc us idx : Nat} {L : List (Option zAV)} {st : List zAV} {w : List zAC} {x y : Int} (hdg : decode M.2.1 pc = .ok (.invokestatic idx, 3)) (hl : zMn M.1.cls idx) (hd : 1 ≤ d) (huc : uc ≤ mc) (hus : us ≤ ms) (hrest : (st.map zcat).sum ≤ 8)
    (kk : zB M (zR d mc ms) F P (pc + 3) L (.inl (if y < x then y else x) :: st) w uc us) : zB M (zR d mc ms) F P pc L (.inl y :: .inl x :: st) w uc us := by
  intro G p l e s m args below meth c A ad0 ad H locs ls hh
  have hh0 := hh
  obtain ⟨hcx, hag, hL, hSt, hW, hv, hP, hD, hSS⟩ := hh
  obtain ⟨hx1, hb, hmlx, -, -, hown, hts, hmi, hK, hA, hNk⟩ := hcx
  have hy := hSt.hd
  have hx := hSt.tl.hd
  have k1 := kk G p l e s m args below meth c A ad0 ad H locs ls ⟨hh0.1, hag, hL, hSt.tl.tl.cons (v := .inl (if y < x then y else x)) (show zin _ by split <;> assumption), hW, hv, hP, hD, hSS⟩
  refine va_mmin hx1 hb (hmlx.trans hv.1.symm) hown (hts _ (hl _ (by simp))) (hts _ (hl _ (by simp))) (hts _ (hl _ (by simp))) (hts _ (hl _ (by simp))) hd (by have := zcat_sum ad st; show _ + 13 ≤ 40 * d; omega) huc hus hdg ?_
  have e : (if Int32.ofInt y < Int32.ofInt x then Int32.ofInt y else Int32.ofInt x) = Int32.ofInt (if y < x then y else x) := by
    by_cases h : y < x
    · rw [if_pos h, if_pos ((zlt hy hx).mpr h)]
    · rw [if_neg h, if_neg (fun q => h ((zlt hy hx).mp q))]
  rw [e]
  exact k1
