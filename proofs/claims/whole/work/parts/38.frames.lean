/-! ===== answers are left alone ===== -/
def zAn (s t : zSt) : Prop := (∀ k, t.1 20 k = s.1 20 k) ∧ (∀ k, t.1 21 k = s.1 21 k) ∧ t.2 21 = s.2 21
def zK (s : zSt) (o : Option (Int × zSt)) : Prop := ∀ x, o = some x → zAn s x.2
def zKz (s : zSt) (o : Option zSt) : Prop := ∀ x, o = some x → zAn s x
def zKs (s : zSt) (o : Option ((Int × zSt) ⊕ zSt)) : Prop := (∀ x, o = some (.inl x) → zAn s x.2) ∧ ∀ x, o = some (.inr x) → zAn s x
theorem zAn.rf (s : zSt) : zAn s s := ⟨fun _ => rfl, fun _ => rfl, rfl⟩
theorem zAn.trans {s t u : zSt} (h : zAn s t) (k : zAn t u) : zAn s u := ⟨fun i => (k.1 i).trans (h.1 i), fun i => (k.2.1 i).trans (h.2.1 i), k.2.2.trans h.2.2⟩
theorem zAn.by {s t : zSt} {n : Nat} {l : List Int} (h : zAn s t) (k : zBy (zsb (zsh 20) s) n l) : zBy (zsb (zsh 20) t) n l := zBy_cg k (h.1 1) (h.1 2) (h.2.1 0) h.2.2
theorem zAn.uS {s t : zSt} (h : zAn s t) {i k : Nat} {v : Int} (hi : i ≠ 20) (hj : i ≠ 21) : zAn s (uS t i k v) := ⟨fun j => by rw [uS1, if_neg (fun e => hi e.symm)]; exact h.1 j, fun j => by rw [uS1, if_neg (fun e => hj e.symm)]; exact h.2.1 j, h.2.2⟩
theorem zAn.uA {s t : zSt} (h : zAn s t) {i : Nat} {f : Int → Int} (hj : i ≠ 21) : zAn s (uA t i f) := ⟨h.1, h.2.1, by rw [uA_a (fun e => hj e.symm)]; exact h.2.2⟩
theorem zAn.uE {s t : zSt} (h : zAn s t) {i : Nat} {j v : Int} (hj : i ≠ 21) : zAn s (uE t i j v) := h.uA hj
theorem zAn.pb {s t p : zSt} (h : zAn s t) {b n : Nat} (hb : b + n ≤ 20 ∨ 22 ≤ b) : zAn s (zpb (zsh b) n t p) := ⟨fun j => by rw [zpb1, if_neg (by omega)]; exact h.1 j, fun j => by rw [zpb1, if_neg (by omega)]; exact h.2.1 j, by rw [zpb2, if_neg (by omega)]; exact h.2.2⟩
theorem zAn.ps {s t p : zSt} (h : zAn s t) : zAn s (zpb (zsl [25, 12]) 2 t p) := ⟨h.1, h.2.1, h.2.2⟩
theorem zK.no {s : zSt} : zK s none := fun _ e => by cases e
theorem zK.so {s t : zSt} {a : Int} (h : zAn s t) : zK s (some (a, t)) := fun _ e => by cases e; exact h
theorem zK.ite {s : zSt} {c : Prop} [Decidable c] {a b : Option (Int × zSt)} (h : zK s a) (k : zK s b) : zK s (if c then a else b) := by
  split
  · exact h
  · exact k
theorem zK.bd {s : zSt} {o : Option (Int × zSt)} {f : Int × zSt → Option (Int × zSt)} (h : zK s o) (k : ∀ x, zAn s x.2 → zK s (f x)) : zK s (o.bind f) := by
  cases o with
  | none => exact zK.no
  | some x => exact k x (h x rfl)
theorem zK.bx {α : Type} {s : zSt} {o : Option α} {f : α → Option (Int × zSt)} (k : ∀ x, zK s (f x)) : zK s (o.bind f) := by
  cases o with
  | none => exact zK.no
  | some x => exact k x
theorem zK.bz {s : zSt} {o : Option zSt} {f : zSt → Option (Int × zSt)} (h : zKz s o) (k : ∀ x, zAn s x → zK s (f x)) : zK s (o.bind f) := by
  cases o with
  | none => exact zK.no
  | some x => exact k x (h x rfl)
theorem zKs.no {s : zSt} : zKs s none := ⟨fun _ e => (by cases e), fun _ e => (by cases e)⟩
theorem zKs.il {s t : zSt} {a : Int} (h : zAn s t) : zKs s (some (.inl (a, t))) := ⟨fun _ e => (by cases e; exact h), fun _ e => (by cases e)⟩
theorem zKs.ir {s t : zSt} (h : zAn s t) : zKs s (some (.inr t)) := ⟨fun _ e => (by cases e), fun _ e => (by cases e; exact h)⟩
theorem zKs.ite {s : zSt} {c : Prop} [Decidable c] {a b : Option ((Int × zSt) ⊕ zSt)} (h : zKs s a) (k : zKs s b) : zKs s (if c then a else b) := by
  split
  · exact h
  · exact k
theorem zKs.bd {s : zSt} {o : Option (Int × zSt)} {f : Int × zSt → Option ((Int × zSt) ⊕ zSt)} (h : zK s o) (k : ∀ x, zAn s x.2 → zKs s (f x)) : zKs s (o.bind f) := by
  cases o with
  | none => exact zKs.no
  | some x => exact k x (h x rfl)
theorem zKs.bx {α : Type} {s : zSt} {o : Option α} {f : α → Option ((Int × zSt) ⊕ zSt)} (k : ∀ x, zKs s (f x)) : zKs s (o.bind f) := by
  cases o with
  | none => exact zKs.no
  | some x => exact k x
theorem zKz.lp {s : zSt} {step : Int × zSt → Option ((Int × zSt) ⊕ zSt)} (hs : ∀ i t, zAn s t → zKs s (step (i, t))) : ∀ (n : Nat) (i : Int) (t : zSt), zAn s t → zKz s (zloop step n (i, t))
  | 0, _, _, _ => fun _ e => by cases e
  | n + 1, i, t, h => by
    intro x e
    unfold zloop at e
    have k := hs i t h
    match ho : step (i, t) with
    | none => rw [ho] at e; cases e
    | some (.inr r) =>
      rw [ho] at e
      cases e
      exact k.2 _ ho
    | some (.inl y) =>
      rw [ho] at e
      exact zKz.lp hs n y.1 y.2 (k.1 _ ho) x e
theorem K_Sc_drawSign_j259 {s t : zSt} {v3 : Int} {v4 : Int} (h : zAn s t) : zK s (f_Sc_drawSign_j259 v3 v4 t) := by
  unfold f_Sc_drawSign_j259
  repeat' (first | exact h | assumption | exact zK.no | refine zK.so ?_ | with_reducible refine zK.ite ?_ ?_ | with_reducible refine zK.bx (fun x => ?_) | refine zAn.uS ?_ (by decide) (by decide) | refine zAn.uA ?_ (by decide) | refine zAn.uE ?_ (by decide) | refine zAn.pb ?_ (by decide) | refine zAn.ps ?_)
theorem K_Sc_drawSign_j174 {s t : zSt} {v1 : Int} {v3 : Int} {v4 : Int} (h : zAn s t) : zK s (f_Sc_drawSign_j174 v1 v3 v4 t) := by
  unfold f_Sc_drawSign_j174
  repeat' (first | exact h | assumption | exact zK.no | refine zK.so ?_ | with_reducible refine K_Sc_drawSign_j259 ?_ | with_reducible refine zK.bd (K_Sc_drawSign_j259 ?_) (fun x hx => ?_) | with_reducible refine zK.ite ?_ ?_ | with_reducible refine zK.bx (fun x => ?_) | refine zAn.uS ?_ (by decide) (by decide) | refine zAn.uA ?_ (by decide) | refine zAn.uE ?_ (by decide) | refine zAn.pb ?_ (by decide) | refine zAn.ps ?_)
theorem K_Sc_drawSign_j145 {s t : zSt} {v1 : Int} {v3 : Int} {v4 : Int} (h : zAn s t) : zK s (f_Sc_drawSign_j145 v1 v3 v4 t) := by
  unfold f_Sc_drawSign_j145
  repeat' (first | exact h | assumption | exact zK.no | refine zK.so ?_ | with_reducible refine K_Sc_drawSign_j174 ?_ | with_reducible refine zK.bd (K_Sc_drawSign_j174 ?_) (fun x hx => ?_) | with_reducible refine zK.ite ?_ ?_ | with_reducible refine zK.bx (fun x => ?_) | refine zAn.uS ?_ (by decide) (by decide) | refine zAn.uA ?_ (by decide) | refine zAn.uE ?_ (by decide) | refine zAn.pb ?_ (by decide) | refine zAn.ps ?_)
theorem K_Sc_drawSign_j129 {s t : zSt} {v1 : Int} {v3 : Int} {v4 : Int} {v5 : Int} (h : zAn s t) : zK s (f_Sc_drawSign_j129 v1 v3 v4 v5 t) := by
  unfold f_Sc_drawSign_j129
  repeat' (first | exact h | assumption | exact zK.no | refine zK.so ?_ | with_reducible refine K_Sc_drawSign_j145 ?_ | with_reducible refine zK.bd (K_Sc_drawSign_j145 ?_) (fun x hx => ?_) | with_reducible refine zK.ite ?_ ?_ | with_reducible refine zK.bx (fun x => ?_) | refine zAn.uS ?_ (by decide) (by decide) | refine zAn.uA ?_ (by decide) | refine zAn.uE ?_ (by decide) | refine zAn.pb ?_ (by decide) | refine zAn.ps ?_)
theorem K_Sc_endAbove {s t : zSt} {a1 : Int} (h : zAn s t) : zK s (f_Sc_endAbove a1 t) := by
  unfold f_Sc_endAbove
  repeat' (first | exact h | assumption | exact zK.no | refine zK.so ?_ | with_reducible refine zK.ite ?_ ?_ | with_reducible refine zK.bx (fun x => ?_) | refine zAn.uS ?_ (by decide) (by decide) | refine zAn.uA ?_ (by decide) | refine zAn.uE ?_ (by decide) | refine zAn.pb ?_ (by decide) | refine zAn.ps ?_)
theorem K_Sc_scrollUp_j87 {s t : zSt} {v1 : Int} {v2 : Int} {v5 : Int} (h : zAn s t) : zK s (f_Sc_scrollUp_j87 v1 v2 v5 t) := by
  unfold f_Sc_scrollUp_j87
  repeat' (first | exact h | assumption | exact zK.no | refine zK.so ?_ | with_reducible refine K_Sc_endAbove ?_ | with_reducible refine zK.bd (K_Sc_endAbove ?_) (fun x hx => ?_) | with_reducible refine zK.ite ?_ ?_ | with_reducible refine zK.bx (fun x => ?_) | refine zAn.uS ?_ (by decide) (by decide) | refine zAn.uA ?_ (by decide) | refine zAn.uE ?_ (by decide) | refine zAn.pb ?_ (by decide) | refine zAn.ps ?_)
theorem K_Sc_scrollUp_l52 {s t : zSt} {i : Int} {c1 : Int} {c2 : Int} {c5 : Int} (h : zAn s t) : zKs s (f_Sc_scrollUp_l52 c1 c2 c5 (i, t)) := by
  unfold f_Sc_scrollUp_l52
  repeat' (first | exact h | assumption | exact zKs.no | refine zKs.il ?_ | refine zKs.ir ?_ | with_reducible refine zKs.ite ?_ ?_ | with_reducible refine zKs.bx (fun x => ?_) | refine zAn.uS ?_ (by decide) (by decide) | refine zAn.uA ?_ (by decide) | refine zAn.uE ?_ (by decide) | refine zAn.pb ?_ (by decide) | refine zAn.ps ?_)
theorem K_Sc_scrollUp_j87_1 {s t : zSt} {v1 : Int} {v2 : Int} {v5 : Int} (h : zAn s t) : zK s (f_Sc_scrollUp_j87_1 v1 v2 v5 t) := by
  unfold f_Sc_scrollUp_j87_1
  repeat' (first | exact h | assumption | exact zK.no | refine zK.so ?_ | with_reducible refine K_Sc_endAbove ?_ | with_reducible refine zK.bd (K_Sc_endAbove ?_) (fun x hx => ?_) | with_reducible refine zK.ite ?_ ?_ | with_reducible refine zK.bx (fun x => ?_) | refine zAn.uS ?_ (by decide) (by decide) | refine zAn.uA ?_ (by decide) | refine zAn.uE ?_ (by decide) | refine zAn.pb ?_ (by decide) | refine zAn.ps ?_)
theorem K_Sc_scrollUp_l52_1 {s t : zSt} {i : Int} {c1 : Int} {c2 : Int} {c5 : Int} (h : zAn s t) : zKs s (f_Sc_scrollUp_l52_1 c1 c2 c5 (i, t)) := by
  unfold f_Sc_scrollUp_l52_1
  repeat' (first | exact h | assumption | exact zKs.no | refine zKs.il ?_ | refine zKs.ir ?_ | with_reducible refine zKs.ite ?_ ?_ | with_reducible refine zKs.bx (fun x => ?_) | refine zAn.uS ?_ (by decide) (by decide) | refine zAn.uA ?_ (by decide) | refine zAn.uE ?_ (by decide) | refine zAn.pb ?_ (by decide) | refine zAn.ps ?_)
theorem K_Sc_scrollUp {s t : zSt} {a1 : Int} {a2 : Int} {a3 : Int} (h : zAn s t) : zK s (f_Sc_scrollUp a1 a2 a3 t) := by
  unfold f_Sc_scrollUp
  repeat' (first | exact h | assumption | exact zK.no | refine zK.so ?_ | with_reducible refine K_Sc_scrollUp_j87 ?_ | with_reducible refine zK.bd (K_Sc_scrollUp_j87 ?_) (fun x hx => ?_) | with_reducible refine zK.bz (zKz.lp (fun i t ht => K_Sc_scrollUp_l52 ht) _ _ _ ?_) (fun x hx => ?_) | with_reducible refine zK.bz (zKz.lp (fun i t ht => K_Sc_scrollUp_l52 ht) _ _ _ h) (fun x hx => ?_) | with_reducible refine K_Sc_scrollUp_j87_1 ?_ | with_reducible refine zK.bd (K_Sc_scrollUp_j87_1 ?_) (fun x hx => ?_) | with_reducible refine zK.bz (zKz.lp (fun i t ht => K_Sc_scrollUp_l52_1 ht) _ _ _ ?_) (fun x hx => ?_) | with_reducible refine zK.bz (zKz.lp (fun i t ht => K_Sc_scrollUp_l52_1 ht) _ _ _ h) (fun x hx => ?_) | with_reducible refine zK.ite ?_ ?_ | with_reducible refine zK.bx (fun x => ?_) | refine zAn.uS ?_ (by decide) (by decide) | refine zAn.uA ?_ (by decide) | refine zAn.uE ?_ (by decide) | refine zAn.pb ?_ (by decide) | refine zAn.ps ?_)
theorem K_Sc_feed {s t : zSt}  (h : zAn s t) : zK s (f_Sc_feed t) := by
  unfold f_Sc_feed
  repeat' (first | exact h | assumption | exact zK.no | refine zK.so ?_ | with_reducible refine K_Sc_scrollUp ?_ | with_reducible refine zK.bd (K_Sc_scrollUp ?_) (fun x hx => ?_) | with_reducible refine zK.ite ?_ ?_ | with_reducible refine zK.bx (fun x => ?_) | refine zAn.uS ?_ (by decide) (by decide) | refine zAn.uA ?_ (by decide) | refine zAn.uE ?_ (by decide) | refine zAn.pb ?_ (by decide) | refine zAn.ps ?_)
theorem K_Sc_drawSign_j102 {s t : zSt} {v1 : Int} {v3 : Int} {v4 : Int} (h : zAn s t) : zK s (f_Sc_drawSign_j102 v1 v3 v4 t) := by
  unfold f_Sc_drawSign_j102
  repeat' (first | exact h | assumption | exact zK.no | refine zK.so ?_ | with_reducible refine K_Sc_feed ?_ | with_reducible refine zK.bd (K_Sc_feed ?_) (fun x hx => ?_) | with_reducible refine K_Sc_drawSign_j145 ?_ | with_reducible refine zK.bd (K_Sc_drawSign_j145 ?_) (fun x hx => ?_) | with_reducible refine zK.ite ?_ ?_ | with_reducible refine zK.bx (fun x => ?_) | refine zAn.uS ?_ (by decide) (by decide) | refine zAn.uA ?_ (by decide) | refine zAn.uE ?_ (by decide) | refine zAn.pb ?_ (by decide) | refine zAn.ps ?_)
theorem K_Sc_drawSign_j75 {s t : zSt} {v1 : Int} {v3 : Int} {v4 : Int} (h : zAn s t) : zK s (f_Sc_drawSign_j75 v1 v3 v4 t) := by
  unfold f_Sc_drawSign_j75
  repeat' (first | exact h | assumption | exact zK.no | refine zK.so ?_ | with_reducible refine K_Sc_drawSign_j102 ?_ | with_reducible refine zK.bd (K_Sc_drawSign_j102 ?_) (fun x hx => ?_) | with_reducible refine zK.ite ?_ ?_ | with_reducible refine zK.bx (fun x => ?_) | refine zAn.uS ?_ (by decide) (by decide) | refine zAn.uA ?_ (by decide) | refine zAn.uE ?_ (by decide) | refine zAn.pb ?_ (by decide) | refine zAn.ps ?_)
theorem K_Sc_drawSign_j174_8 {s t : zSt} {v1 : Int} {v3 : Int} {v4 : Int} (h : zAn s t) : zK s (f_Sc_drawSign_j174_8 v1 v3 v4 t) := by
  unfold f_Sc_drawSign_j174_8
  repeat' (first | exact h | assumption | exact zK.no | refine zK.so ?_ | with_reducible refine K_Sc_drawSign_j259 ?_ | with_reducible refine zK.bd (K_Sc_drawSign_j259 ?_) (fun x hx => ?_) | with_reducible refine zK.ite ?_ ?_ | with_reducible refine zK.bx (fun x => ?_) | refine zAn.uS ?_ (by decide) (by decide) | refine zAn.uA ?_ (by decide) | refine zAn.uE ?_ (by decide) | refine zAn.pb ?_ (by decide) | refine zAn.ps ?_)
theorem K_Sc_drawSign_j145_7 {s t : zSt} {v1 : Int} {v3 : Int} {v4 : Int} (h : zAn s t) : zK s (f_Sc_drawSign_j145_7 v1 v3 v4 t) := by
  unfold f_Sc_drawSign_j145_7
  repeat' (first | exact h | assumption | exact zK.no | refine zK.so ?_ | with_reducible refine K_Sc_drawSign_j174_8 ?_ | with_reducible refine zK.bd (K_Sc_drawSign_j174_8 ?_) (fun x hx => ?_) | with_reducible refine zK.ite ?_ ?_ | with_reducible refine zK.bx (fun x => ?_) | refine zAn.uS ?_ (by decide) (by decide) | refine zAn.uA ?_ (by decide) | refine zAn.uE ?_ (by decide) | refine zAn.pb ?_ (by decide) | refine zAn.ps ?_)
theorem K_Sc_drawSign_j129_6 {s t : zSt} {v1 : Int} {v3 : Int} {v4 : Int} {v5 : Int} (h : zAn s t) : zK s (f_Sc_drawSign_j129_6 v1 v3 v4 v5 t) := by
  unfold f_Sc_drawSign_j129_6
  repeat' (first | exact h | assumption | exact zK.no | refine zK.so ?_ | with_reducible refine K_Sc_drawSign_j145_7 ?_ | with_reducible refine zK.bd (K_Sc_drawSign_j145_7 ?_) (fun x hx => ?_) | with_reducible refine zK.ite ?_ ?_ | with_reducible refine zK.bx (fun x => ?_) | refine zAn.uS ?_ (by decide) (by decide) | refine zAn.uA ?_ (by decide) | refine zAn.uE ?_ (by decide) | refine zAn.pb ?_ (by decide) | refine zAn.ps ?_)
theorem K_Sc_drawSign_j102_10 {s t : zSt} {v1 : Int} {v3 : Int} {v4 : Int} (h : zAn s t) : zK s (f_Sc_drawSign_j102_10 v1 v3 v4 t) := by
  unfold f_Sc_drawSign_j102_10
  repeat' (first | exact h | assumption | exact zK.no | refine zK.so ?_ | with_reducible refine K_Sc_feed ?_ | with_reducible refine zK.bd (K_Sc_feed ?_) (fun x hx => ?_) | with_reducible refine K_Sc_drawSign_j145_7 ?_ | with_reducible refine zK.bd (K_Sc_drawSign_j145_7 ?_) (fun x hx => ?_) | with_reducible refine zK.ite ?_ ?_ | with_reducible refine zK.bx (fun x => ?_) | refine zAn.uS ?_ (by decide) (by decide) | refine zAn.uA ?_ (by decide) | refine zAn.uE ?_ (by decide) | refine zAn.pb ?_ (by decide) | refine zAn.ps ?_)
theorem K_Sc_drawSign_j75_9 {s t : zSt} {v1 : Int} {v3 : Int} {v4 : Int} (h : zAn s t) : zK s (f_Sc_drawSign_j75_9 v1 v3 v4 t) := by
  unfold f_Sc_drawSign_j75_9
  repeat' (first | exact h | assumption | exact zK.no | refine zK.so ?_ | with_reducible refine K_Sc_drawSign_j102_10 ?_ | with_reducible refine zK.bd (K_Sc_drawSign_j102_10 ?_) (fun x hx => ?_) | with_reducible refine zK.ite ?_ ?_ | with_reducible refine zK.bx (fun x => ?_) | refine zAn.uS ?_ (by decide) (by decide) | refine zAn.uA ?_ (by decide) | refine zAn.uE ?_ (by decide) | refine zAn.pb ?_ (by decide) | refine zAn.ps ?_)
theorem K_Sc_drawSign {s t : zSt} {a1 : Int} (h : zAn s t) : zK s (f_Sc_drawSign a1 t) := by
  unfold f_Sc_drawSign
  repeat' (first | exact h | assumption | exact zK.no | refine zK.so ?_ | with_reducible refine K_Sc_drawSign_j129 ?_ | with_reducible refine zK.bd (K_Sc_drawSign_j129 ?_) (fun x hx => ?_) | with_reducible refine K_Sc_drawSign_j75 ?_ | with_reducible refine zK.bd (K_Sc_drawSign_j75 ?_) (fun x hx => ?_) | with_reducible refine K_Sc_drawSign_j129_6 ?_ | with_reducible refine zK.bd (K_Sc_drawSign_j129_6 ?_) (fun x hx => ?_) | with_reducible refine K_Sc_drawSign_j75_9 ?_ | with_reducible refine zK.bd (K_Sc_drawSign_j75_9 ?_) (fun x hx => ?_) | with_reducible refine zK.ite ?_ ?_ | with_reducible refine zK.bx (fun x => ?_) | refine zAn.uS ?_ (by decide) (by decide) | refine zAn.uA ?_ (by decide) | refine zAn.uE ?_ (by decide) | refine zAn.pb ?_ (by decide) | refine zAn.ps ?_)
theorem K_Sc_addMark_j55 {s t : zSt} {v2 : Int} (h : zAn s t) : zK s (f_Sc_addMark_j55 v2 t) := by
  unfold f_Sc_addMark_j55
  repeat' (first | exact h | assumption | exact zK.no | refine zK.so ?_ | with_reducible refine zK.ite ?_ ?_ | with_reducible refine zK.bx (fun x => ?_) | refine zAn.uS ?_ (by decide) (by decide) | refine zAn.uA ?_ (by decide) | refine zAn.uE ?_ (by decide) | refine zAn.pb ?_ (by decide) | refine zAn.ps ?_)
theorem K_Sc_addMark_j55_1 {s t : zSt} {v2 : Int} (h : zAn s t) : zK s (f_Sc_addMark_j55_1 v2 t) := by
  unfold f_Sc_addMark_j55_1
  repeat' (first | exact h | assumption | exact zK.no | refine zK.so ?_ | with_reducible refine zK.ite ?_ ?_ | with_reducible refine zK.bx (fun x => ?_) | refine zAn.uS ?_ (by decide) (by decide) | refine zAn.uA ?_ (by decide) | refine zAn.uE ?_ (by decide) | refine zAn.pb ?_ (by decide) | refine zAn.ps ?_)
theorem K_Sc_addMark {s t : zSt}  (h : zAn s t) : zK s (f_Sc_addMark t) := by
  unfold f_Sc_addMark
  repeat' (first | exact h | assumption | exact zK.no | refine zK.so ?_ | with_reducible refine K_Sc_addMark_j55 ?_ | with_reducible refine zK.bd (K_Sc_addMark_j55 ?_) (fun x hx => ?_) | with_reducible refine K_Sc_addMark_j55_1 ?_ | with_reducible refine zK.bd (K_Sc_addMark_j55_1 ?_) (fun x hx => ?_) | with_reducible refine zK.ite ?_ ?_ | with_reducible refine zK.bx (fun x => ?_) | refine zAn.uS ?_ (by decide) (by decide) | refine zAn.uA ?_ (by decide) | refine zAn.uE ?_ (by decide) | refine zAn.pb ?_ (by decide) | refine zAn.ps ?_)
theorem K_Sc_control_j42 {s t : zSt} {v1 : Int} (h : zAn s t) : zK s (f_Sc_control_j42 v1 t) := by
  unfold f_Sc_control_j42
  repeat' (first | exact h | assumption | exact zK.no | refine zK.so ?_ | with_reducible refine K_Sc_feed ?_ | with_reducible refine zK.bd (K_Sc_feed ?_) (fun x hx => ?_) | with_reducible refine zK.ite ?_ ?_ | with_reducible refine zK.bx (fun x => ?_) | refine zAn.uS ?_ (by decide) (by decide) | refine zAn.uA ?_ (by decide) | refine zAn.uE ?_ (by decide) | refine zAn.pb ?_ (by decide) | refine zAn.ps ?_)
theorem K_Sc_control {s t : zSt} {a1 : Int} (h : zAn s t) : zK s (f_Sc_control a1 t) := by
  unfold f_Sc_control
  repeat' (first | exact h | assumption | exact zK.no | refine zK.so ?_ | with_reducible refine K_Sc_control_j42 ?_ | with_reducible refine zK.bd (K_Sc_control_j42 ?_) (fun x hx => ?_) | with_reducible refine zK.ite ?_ ?_ | with_reducible refine zK.bx (fun x => ?_) | refine zAn.uS ?_ (by decide) (by decide) | refine zAn.uA ?_ (by decide) | refine zAn.uE ?_ (by decide) | refine zAn.pb ?_ (by decide) | refine zAn.ps ?_)
theorem K_Sc_bringBack {s t : zSt}  (h : zAn s t) : zK s (f_Sc_bringBack t) := by
  unfold f_Sc_bringBack
  repeat' (first | exact h | assumption | exact zK.no | refine zK.so ?_ | with_reducible refine zK.ite ?_ ?_ | with_reducible refine zK.bx (fun x => ?_) | refine zAn.uS ?_ (by decide) (by decide) | refine zAn.uA ?_ (by decide) | refine zAn.uE ?_ (by decide) | refine zAn.pb ?_ (by decide) | refine zAn.ps ?_)
theorem K_Sc_setTab {s t : zSt} {a1 : Int} {a2 : Int} (h : zAn s t) : zK s (f_Sc_setTab a1 a2 t) := by
  unfold f_Sc_setTab
  repeat' (first | exact h | assumption | exact zK.no | refine zK.so ?_ | with_reducible refine zK.ite ?_ ?_ | with_reducible refine zK.bx (fun x => ?_) | refine zAn.uS ?_ (by decide) (by decide) | refine zAn.uA ?_ (by decide) | refine zAn.uE ?_ (by decide) | refine zAn.pb ?_ (by decide) | refine zAn.ps ?_)
theorem K_Sc_scrollDown {s t : zSt} {a1 : Int} {a2 : Int} (h : zAn s t) : zK s (f_Sc_scrollDown a1 a2 t) := by
  unfold f_Sc_scrollDown
  repeat' (first | exact h | assumption | exact zK.no | refine zK.so ?_ | with_reducible refine K_Sc_endAbove ?_ | with_reducible refine zK.bd (K_Sc_endAbove ?_) (fun x hx => ?_) | with_reducible refine zK.ite ?_ ?_ | with_reducible refine zK.bx (fun x => ?_) | refine zAn.uS ?_ (by decide) (by decide) | refine zAn.uA ?_ (by decide) | refine zAn.uE ?_ (by decide) | refine zAn.pb ?_ (by decide) | refine zAn.ps ?_)
theorem K_Sc_feedBack {s t : zSt}  (h : zAn s t) : zK s (f_Sc_feedBack t) := by
  unfold f_Sc_feedBack
  repeat' (first | exact h | assumption | exact zK.no | refine zK.so ?_ | with_reducible refine K_Sc_scrollDown ?_ | with_reducible refine zK.bd (K_Sc_scrollDown ?_) (fun x hx => ?_) | with_reducible refine zK.ite ?_ ?_ | with_reducible refine zK.bx (fun x => ?_) | refine zAn.uS ?_ (by decide) (by decide) | refine zAn.uA ?_ (by decide) | refine zAn.uE ?_ (by decide) | refine zAn.pb ?_ (by decide) | refine zAn.ps ?_)
theorem K_Sc_setFirstTabs_l6 {s t : zSt} {i : Int}  (h : zAn s t) : zKs s (f_Sc_setFirstTabs_l6 (i, t)) := by
  unfold f_Sc_setFirstTabs_l6
  repeat' (first | exact h | assumption | exact zKs.no | refine zKs.il ?_ | refine zKs.ir ?_ | with_reducible refine zKs.ite ?_ ?_ | with_reducible refine zKs.bx (fun x => ?_) | refine zAn.uS ?_ (by decide) (by decide) | refine zAn.uA ?_ (by decide) | refine zAn.uE ?_ (by decide) | refine zAn.pb ?_ (by decide) | refine zAn.ps ?_)
theorem K_Sc_setFirstTabs {s t : zSt} {a1 : Int} (h : zAn s t) : zK s (f_Sc_setFirstTabs a1 t) := by
  unfold f_Sc_setFirstTabs
  repeat' (first | exact h | assumption | exact zK.no | refine zK.so ?_ | with_reducible refine zK.bz (zKz.lp (fun i t ht => K_Sc_setFirstTabs_l6 ht) _ _ _ ?_) (fun x hx => ?_) | with_reducible refine zK.bz (zKz.lp (fun i t ht => K_Sc_setFirstTabs_l6 ht) _ _ _ h) (fun x hx => ?_) | with_reducible refine zK.ite ?_ ?_ | with_reducible refine zK.bx (fun x => ?_) | refine zAn.uS ?_ (by decide) (by decide) | refine zAn.uA ?_ (by decide) | refine zAn.uE ?_ (by decide) | refine zAn.pb ?_ (by decide) | refine zAn.ps ?_)
theorem K_Sc_reset {s t : zSt}  (h : zAn s t) : zK s (f_Sc_reset t) := by
  unfold f_Sc_reset
  repeat' (first | exact h | assumption | exact zK.no | refine zK.so ?_ | with_reducible refine K_Sc_setFirstTabs ?_ | with_reducible refine zK.bd (K_Sc_setFirstTabs ?_) (fun x hx => ?_) | with_reducible refine zK.ite ?_ ?_ | with_reducible refine zK.bx (fun x => ?_) | refine zAn.uS ?_ (by decide) (by decide) | refine zAn.uA ?_ (by decide) | refine zAn.uE ?_ (by decide) | refine zAn.pb ?_ (by decide) | refine zAn.ps ?_)
theorem K_Sc_escaped {s t : zSt} {a1 : Int} (h : zAn s t) : zK s (f_Sc_escaped a1 t) := by
  unfold f_Sc_escaped
  repeat' (first | exact h | assumption | exact zK.no | refine zK.so ?_ | with_reducible refine K_Sc_bringBack ?_ | with_reducible refine zK.bd (K_Sc_bringBack ?_) (fun x hx => ?_) | with_reducible refine K_Sc_feed ?_ | with_reducible refine zK.bd (K_Sc_feed ?_) (fun x hx => ?_) | with_reducible refine K_Sc_setTab ?_ | with_reducible refine zK.bd (K_Sc_setTab ?_) (fun x hx => ?_) | with_reducible refine K_Sc_feedBack ?_ | with_reducible refine zK.bd (K_Sc_feedBack ?_) (fun x hx => ?_) | with_reducible refine K_Sc_reset ?_ | with_reducible refine zK.bd (K_Sc_reset ?_) (fun x hx => ?_) | with_reducible refine zK.ite ?_ ?_ | with_reducible refine zK.bx (fun x => ?_) | refine zAn.uS ?_ (by decide) (by decide) | refine zAn.uA ?_ (by decide) | refine zAn.uE ?_ (by decide) | refine zAn.pb ?_ (by decide) | refine zAn.ps ?_)
theorem K_Sc_goTo {s t : zSt} {a1 : Int} {a2 : Int} (h : zAn s t) : zK s (f_Sc_goTo a1 a2 t) := by
  unfold f_Sc_goTo
  repeat' (first | exact h | assumption | exact zK.no | refine zK.so ?_ | with_reducible refine zK.ite ?_ ?_ | with_reducible refine zK.bx (fun x => ?_) | refine zAn.uS ?_ (by decide) (by decide) | refine zAn.uA ?_ (by decide) | refine zAn.uE ?_ (by decide) | refine zAn.pb ?_ (by decide) | refine zAn.ps ?_)
theorem K_Sc_showOther {s t : zSt} {a1 : Int} (h : zAn s t) : zK s (f_Sc_showOther a1 t) := by
  unfold f_Sc_showOther
  repeat' (first | exact h | assumption | exact zK.no | refine zK.so ?_ | with_reducible refine K_Sc_bringBack ?_ | with_reducible refine zK.bd (K_Sc_bringBack ?_) (fun x hx => ?_) | with_reducible refine zK.ite ?_ ?_ | with_reducible refine zK.bx (fun x => ?_) | refine zAn.uS ?_ (by decide) (by decide) | refine zAn.uA ?_ (by decide) | refine zAn.uE ?_ (by decide) | refine zAn.pb ?_ (by decide) | refine zAn.ps ?_)
theorem K_Sc_setMarkedMode {s t : zSt} {a1 : Int} {a2 : Int} (h : zAn s t) : zK s (f_Sc_setMarkedMode a1 a2 t) := by
  unfold f_Sc_setMarkedMode
  repeat' (first | exact h | assumption | exact zK.no | refine zK.so ?_ | with_reducible refine K_Sc_goTo ?_ | with_reducible refine zK.bd (K_Sc_goTo ?_) (fun x hx => ?_) | with_reducible refine K_Sc_showOther ?_ | with_reducible refine zK.bd (K_Sc_showOther ?_) (fun x hx => ?_) | with_reducible refine zK.ite ?_ ?_ | with_reducible refine zK.bx (fun x => ?_) | refine zAn.uS ?_ (by decide) (by decide) | refine zAn.uA ?_ (by decide) | refine zAn.uE ?_ (by decide) | refine zAn.pb ?_ (by decide) | refine zAn.ps ?_)
theorem K_Sc_codedWithMark_l15 {s t : zSt} {i : Int} {c1 : Int} (h : zAn s t) : zKs s (f_Sc_codedWithMark_l15 c1 (i, t)) := by
  unfold f_Sc_codedWithMark_l15
  repeat' (first | exact h | assumption | exact zKs.no | refine zKs.il ?_ | refine zKs.ir ?_ | with_reducible refine K_Sc_setMarkedMode ?_ | with_reducible refine zKs.bd (K_Sc_setMarkedMode ?_) (fun x hx => ?_) | with_reducible refine zKs.ite ?_ ?_ | with_reducible refine zKs.bx (fun x => ?_) | refine zAn.uS ?_ (by decide) (by decide) | refine zAn.uA ?_ (by decide) | refine zAn.uE ?_ (by decide) | refine zAn.pb ?_ (by decide) | refine zAn.ps ?_)
theorem K_Sc_codedWithMark_j13 {s t : zSt} {v1 : Int} (h : zAn s t) : zK s (f_Sc_codedWithMark_j13 v1 t) := by
  unfold f_Sc_codedWithMark_j13
  repeat' (first | exact h | assumption | exact zK.no | refine zK.so ?_ | with_reducible refine zK.bz (zKz.lp (fun i t ht => K_Sc_codedWithMark_l15 ht) _ _ _ ?_) (fun x hx => ?_) | with_reducible refine zK.bz (zKz.lp (fun i t ht => K_Sc_codedWithMark_l15 ht) _ _ _ h) (fun x hx => ?_) | with_reducible refine zK.ite ?_ ?_ | with_reducible refine zK.bx (fun x => ?_) | refine zAn.uS ?_ (by decide) (by decide) | refine zAn.uA ?_ (by decide) | refine zAn.uE ?_ (by decide) | refine zAn.pb ?_ (by decide) | refine zAn.ps ?_)
theorem K_Sc_codedWithMark {s t : zSt} {a1 : Int} (h : zAn s t) : zK s (f_Sc_codedWithMark a1 t) := by
  unfold f_Sc_codedWithMark
  repeat' (first | exact h | assumption | exact zK.no | refine zK.so ?_ | with_reducible refine K_Sc_codedWithMark_j13 ?_ | with_reducible refine zK.bd (K_Sc_codedWithMark_j13 ?_) (fun x hx => ?_) | with_reducible refine zK.ite ?_ ?_ | with_reducible refine zK.bx (fun x => ?_) | refine zAn.uS ?_ (by decide) (by decide) | refine zAn.uA ?_ (by decide) | refine zAn.uE ?_ (by decide) | refine zAn.pb ?_ (by decide) | refine zAn.ps ?_)
theorem K_Sc_setAttribute_l2 {s t : zSt} {i : Int}  (h : zAn s t) : zKs s (f_Sc_setAttribute_l2 (i, t)) := by
  unfold f_Sc_setAttribute_l2
  repeat' (first | exact h | assumption | exact zKs.no | refine zKs.il ?_ | refine zKs.ir ?_ | with_reducible refine zKs.ite ?_ ?_ | with_reducible refine zKs.bx (fun x => ?_) | refine zAn.uS ?_ (by decide) (by decide) | refine zAn.uA ?_ (by decide) | refine zAn.uE ?_ (by decide) | refine zAn.pb ?_ (by decide) | refine zAn.ps ?_)
theorem K_Sc_setAttribute {s t : zSt}  (h : zAn s t) : zK s (f_Sc_setAttribute t) := by
  unfold f_Sc_setAttribute
  repeat' (first | exact h | assumption | exact zK.no | refine zK.so ?_ | with_reducible refine zK.bz (zKz.lp (fun i t ht => K_Sc_setAttribute_l2 ht) _ _ _ ?_) (fun x hx => ?_) | with_reducible refine zK.bz (zKz.lp (fun i t ht => K_Sc_setAttribute_l2 ht) _ _ _ h) (fun x hx => ?_) | with_reducible refine zK.ite ?_ ?_ | with_reducible refine zK.bx (fun x => ?_) | refine zAn.uS ?_ (by decide) (by decide) | refine zAn.uA ?_ (by decide) | refine zAn.uE ?_ (by decide) | refine zAn.pb ?_ (by decide) | refine zAn.ps ?_)
theorem K_Sc_eraseOtherRows_l22 {s t : zSt} {i : Int} {c1 : Int} (h : zAn s t) : zKs s (f_Sc_eraseOtherRows_l22 c1 (i, t)) := by
  unfold f_Sc_eraseOtherRows_l22
  repeat' (first | exact h | assumption | exact zKs.no | refine zKs.il ?_ | refine zKs.ir ?_ | with_reducible refine zKs.ite ?_ ?_ | with_reducible refine zKs.bx (fun x => ?_) | refine zAn.uS ?_ (by decide) (by decide) | refine zAn.uA ?_ (by decide) | refine zAn.uE ?_ (by decide) | refine zAn.pb ?_ (by decide) | refine zAn.ps ?_)
theorem K_Sc_eraseOtherRows_l22_1 {s t : zSt} {i : Int} {c1 : Int} (h : zAn s t) : zKs s (f_Sc_eraseOtherRows_l22_1 c1 (i, t)) := by
  unfold f_Sc_eraseOtherRows_l22_1
  repeat' (first | exact h | assumption | exact zKs.no | refine zKs.il ?_ | refine zKs.ir ?_ | with_reducible refine zKs.ite ?_ ?_ | with_reducible refine zKs.bx (fun x => ?_) | refine zAn.uS ?_ (by decide) (by decide) | refine zAn.uA ?_ (by decide) | refine zAn.uE ?_ (by decide) | refine zAn.pb ?_ (by decide) | refine zAn.ps ?_)
theorem K_Sc_eraseOtherRows_j15 {s t : zSt} {v1 : Int} (h : zAn s t) : zK s (f_Sc_eraseOtherRows_j15 v1 t) := by
  unfold f_Sc_eraseOtherRows_j15
  repeat' (first | exact h | assumption | exact zK.no | refine zK.so ?_ | with_reducible refine zK.bz (zKz.lp (fun i t ht => K_Sc_eraseOtherRows_l22 ht) _ _ _ ?_) (fun x hx => ?_) | with_reducible refine zK.bz (zKz.lp (fun i t ht => K_Sc_eraseOtherRows_l22 ht) _ _ _ h) (fun x hx => ?_) | with_reducible refine zK.bz (zKz.lp (fun i t ht => K_Sc_eraseOtherRows_l22_1 ht) _ _ _ ?_) (fun x hx => ?_) | with_reducible refine zK.bz (zKz.lp (fun i t ht => K_Sc_eraseOtherRows_l22_1 ht) _ _ _ h) (fun x hx => ?_) | with_reducible refine zK.ite ?_ ?_ | with_reducible refine zK.bx (fun x => ?_) | refine zAn.uS ?_ (by decide) (by decide) | refine zAn.uA ?_ (by decide) | refine zAn.uE ?_ (by decide) | refine zAn.pb ?_ (by decide) | refine zAn.ps ?_)
theorem K_Sc_eraseOtherRows {s t : zSt} {a1 : Int} (h : zAn s t) : zK s (f_Sc_eraseOtherRows a1 t) := by
  unfold f_Sc_eraseOtherRows
  repeat' (first | exact h | assumption | exact zK.no | refine zK.so ?_ | with_reducible refine K_Sc_eraseOtherRows_j15 ?_ | with_reducible refine zK.bd (K_Sc_eraseOtherRows_j15 ?_) (fun x hx => ?_) | with_reducible refine zK.ite ?_ ?_ | with_reducible refine zK.bx (fun x => ?_) | refine zAn.uS ?_ (by decide) (by decide) | refine zAn.uA ?_ (by decide) | refine zAn.uE ?_ (by decide) | refine zAn.pb ?_ (by decide) | refine zAn.ps ?_)
theorem K_Sc_eraseRow {s t : zSt} {a1 : Int} (h : zAn s t) : zK s (f_Sc_eraseRow a1 t) := by
  unfold f_Sc_eraseRow
  repeat' (first | exact h | assumption | exact zK.no | refine zK.so ?_ | with_reducible refine zK.ite ?_ ?_ | with_reducible refine zK.bx (fun x => ?_) | refine zAn.uS ?_ (by decide) (by decide) | refine zAn.uA ?_ (by decide) | refine zAn.uE ?_ (by decide) | refine zAn.pb ?_ (by decide) | refine zAn.ps ?_)
theorem K_Sc_moveLines_l39 {s t : zSt} {i : Int} {c2 : Int} {c3 : Int} (h : zAn s t) : zKs s (f_Sc_moveLines_l39 c2 c3 (i, t)) := by
  unfold f_Sc_moveLines_l39
  repeat' (first | exact h | assumption | exact zKs.no | refine zKs.il ?_ | refine zKs.ir ?_ | with_reducible refine K_Sc_scrollDown ?_ | with_reducible refine zKs.bd (K_Sc_scrollDown ?_) (fun x hx => ?_) | with_reducible refine K_Sc_scrollUp ?_ | with_reducible refine zKs.bd (K_Sc_scrollUp ?_) (fun x hx => ?_) | with_reducible refine zKs.ite ?_ ?_ | with_reducible refine zKs.bx (fun x => ?_) | refine zAn.uS ?_ (by decide) (by decide) | refine zAn.uA ?_ (by decide) | refine zAn.uE ?_ (by decide) | refine zAn.pb ?_ (by decide) | refine zAn.ps ?_)
theorem K_Sc_moveLines {s t : zSt} {a1 : Int} {a2 : Int} (h : zAn s t) : zK s (f_Sc_moveLines a1 a2 t) := by
  unfold f_Sc_moveLines
  repeat' (first | exact h | assumption | exact zK.no | refine zK.so ?_ | with_reducible refine zK.bz (zKz.lp (fun i t ht => K_Sc_moveLines_l39 ht) _ _ _ ?_) (fun x hx => ?_) | with_reducible refine zK.bz (zKz.lp (fun i t ht => K_Sc_moveLines_l39 ht) _ _ _ h) (fun x hx => ?_) | with_reducible refine zK.ite ?_ ?_ | with_reducible refine zK.bx (fun x => ?_) | refine zAn.uS ?_ (by decide) (by decide) | refine zAn.uA ?_ (by decide) | refine zAn.uE ?_ (by decide) | refine zAn.pb ?_ (by decide) | refine zAn.ps ?_)
theorem K_Sc_scroll_l10 {s t : zSt} {i : Int} {c2 : Int} {c3 : Int} (h : zAn s t) : zKs s (f_Sc_scroll_l10 c2 c3 (i, t)) := by
  unfold f_Sc_scroll_l10
  repeat' (first | exact h | assumption | exact zKs.no | refine zKs.il ?_ | refine zKs.ir ?_ | with_reducible refine K_Sc_scrollDown ?_ | with_reducible refine zKs.bd (K_Sc_scrollDown ?_) (fun x hx => ?_) | with_reducible refine K_Sc_scrollUp ?_ | with_reducible refine zKs.bd (K_Sc_scrollUp ?_) (fun x hx => ?_) | with_reducible refine zKs.ite ?_ ?_ | with_reducible refine zKs.bx (fun x => ?_) | refine zAn.uS ?_ (by decide) (by decide) | refine zAn.uA ?_ (by decide) | refine zAn.uE ?_ (by decide) | refine zAn.pb ?_ (by decide) | refine zAn.ps ?_)
theorem K_Sc_scroll {s t : zSt} {a1 : Int} {a2 : Int} (h : zAn s t) : zK s (f_Sc_scroll a1 a2 t) := by
  unfold f_Sc_scroll
  repeat' (first | exact h | assumption | exact zK.no | refine zK.so ?_ | with_reducible refine zK.bz (zKz.lp (fun i t ht => K_Sc_scroll_l10 ht) _ _ _ ?_) (fun x hx => ?_) | with_reducible refine zK.bz (zKz.lp (fun i t ht => K_Sc_scroll_l10 ht) _ _ _ h) (fun x hx => ?_) | with_reducible refine zK.ite ?_ ?_ | with_reducible refine zK.bx (fun x => ?_) | refine zAn.uS ?_ (by decide) (by decide) | refine zAn.uA ?_ (by decide) | refine zAn.uE ?_ (by decide) | refine zAn.pb ?_ (by decide) | refine zAn.ps ?_)
theorem K_Sc_clearTabs_l26 {s t : zSt} {i : Int}  (h : zAn s t) : zKs s (f_Sc_clearTabs_l26 (i, t)) := by
  unfold f_Sc_clearTabs_l26
  repeat' (first | exact h | assumption | exact zKs.no | refine zKs.il ?_ | refine zKs.ir ?_ | with_reducible refine zKs.ite ?_ ?_ | with_reducible refine zKs.bx (fun x => ?_) | refine zAn.uS ?_ (by decide) (by decide) | refine zAn.uA ?_ (by decide) | refine zAn.uE ?_ (by decide) | refine zAn.pb ?_ (by decide) | refine zAn.ps ?_)
theorem K_Sc_clearTabs {s t : zSt} {a1 : Int} (h : zAn s t) : zK s (f_Sc_clearTabs a1 t) := by
  unfold f_Sc_clearTabs
  repeat' (first | exact h | assumption | exact zK.no | refine zK.so ?_ | with_reducible refine zK.bz (zKz.lp (fun i t ht => K_Sc_clearTabs_l26 ht) _ _ _ ?_) (fun x hx => ?_) | with_reducible refine zK.bz (zKz.lp (fun i t ht => K_Sc_clearTabs_l26 ht) _ _ _ h) (fun x hx => ?_) | with_reducible refine K_Sc_setTab ?_ | with_reducible refine zK.bd (K_Sc_setTab ?_) (fun x hx => ?_) | with_reducible refine zK.ite ?_ ?_ | with_reducible refine zK.bx (fun x => ?_) | refine zAn.uS ?_ (by decide) (by decide) | refine zAn.uA ?_ (by decide) | refine zAn.uE ?_ (by decide) | refine zAn.pb ?_ (by decide) | refine zAn.ps ?_)
theorem K_Sc_setInsert_l2 {s t : zSt} {i : Int} {c1 : Int} (h : zAn s t) : zKs s (f_Sc_setInsert_l2 c1 (i, t)) := by
  unfold f_Sc_setInsert_l2
  repeat' (first | exact h | assumption | exact zKs.no | refine zKs.il ?_ | refine zKs.ir ?_ | with_reducible refine zKs.ite ?_ ?_ | with_reducible refine zKs.bx (fun x => ?_) | refine zAn.uS ?_ (by decide) (by decide) | refine zAn.uA ?_ (by decide) | refine zAn.uE ?_ (by decide) | refine zAn.pb ?_ (by decide) | refine zAn.ps ?_)
theorem K_Sc_setInsert {s t : zSt} {a1 : Int} (h : zAn s t) : zK s (f_Sc_setInsert a1 t) := by
  unfold f_Sc_setInsert
  repeat' (first | exact h | assumption | exact zK.no | refine zK.so ?_ | with_reducible refine zK.bz (zKz.lp (fun i t ht => K_Sc_setInsert_l2 ht) _ _ _ ?_) (fun x hx => ?_) | with_reducible refine zK.bz (zKz.lp (fun i t ht => K_Sc_setInsert_l2 ht) _ _ _ h) (fun x hx => ?_) | with_reducible refine zK.ite ?_ ?_ | with_reducible refine zK.bx (fun x => ?_) | refine zAn.uS ?_ (by decide) (by decide) | refine zAn.uA ?_ (by decide) | refine zAn.uE ?_ (by decide) | refine zAn.pb ?_ (by decide) | refine zAn.ps ?_)
theorem K_Sc_setRegion_j39 {s t : zSt} {v1 : Int} {k0 : Int} (h : zAn s t) : zK s (f_Sc_setRegion_j39 v1 k0 t) := by
  unfold f_Sc_setRegion_j39
  repeat' (first | exact h | assumption | exact zK.no | refine zK.so ?_ | with_reducible refine K_Sc_goTo ?_ | with_reducible refine zK.bd (K_Sc_goTo ?_) (fun x hx => ?_) | with_reducible refine zK.ite ?_ ?_ | with_reducible refine zK.bx (fun x => ?_) | refine zAn.uS ?_ (by decide) (by decide) | refine zAn.uA ?_ (by decide) | refine zAn.uE ?_ (by decide) | refine zAn.pb ?_ (by decide) | refine zAn.ps ?_)
theorem K_Sc_setRegion {s t : zSt}  (h : zAn s t) : zK s (f_Sc_setRegion t) := by
  unfold f_Sc_setRegion
  repeat' (first | exact h | assumption | exact zK.no | refine zK.so ?_ | with_reducible refine K_Sc_setRegion_j39 ?_ | with_reducible refine zK.bd (K_Sc_setRegion_j39 ?_) (fun x hx => ?_) | with_reducible refine zK.ite ?_ ?_ | with_reducible refine zK.bx (fun x => ?_) | refine zAn.uS ?_ (by decide) (by decide) | refine zAn.uA ?_ (by decide) | refine zAn.uE ?_ (by decide) | refine zAn.pb ?_ (by decide) | refine zAn.ps ?_)
