/-! ===== no call of the class makes the record's row shorter ===== -/
def zmo (s : zSt) (o : Option (Int × zSt)) : Prop := ∀ v t, o = some (v, t) → zpot 42 t ≤ zpot 42 s
theorem zifs {ρ : Type} {c : Prop} [Decidable c] {x y : Option ρ} {r : ρ} (h : (if c then x else y) = some r) : (c ∧ x = some r) ∨ (¬ c ∧ y = some r) := by
  by_cases hc : c
  · rw [if_pos hc] at h; exact Or.inl ⟨hc, h⟩
  · rw [if_neg hc] at h; exact Or.inr ⟨hc, h⟩
theorem zmo_none {s : zSt} : zmo s none := fun v t h => by cases h
theorem zmo_some {s t : zSt} {v : Int} (h : zpot 42 t ≤ zpot 42 s) : zmo s (some (v, t)) := fun v t q => by cases q; exact h
theorem zmo_if {s : zSt} {c : Prop} [Decidable c] {x y : Option (Int × zSt)} (hx : zmo s x) (hy : zmo s y) : zmo s (if c then x else y) := by
  by_cases h : c
  · rw [if_pos h]; exact hx
  · rw [if_neg h]; exact hy
theorem zmo_bind {σ : Type} {s : zSt} {o : Option σ} {f : σ → Option (Int × zSt)} (h : ∀ x, zmo s (f x)) : zmo s (o.bind f) := fun v t q => by
  obtain ⟨x, -, q⟩ := zbind q
  exact h x v t q
theorem zmo_bind2 {σ : Type} {s : zSt} {o : Option σ} {f : σ → Option (Int × zSt)} (h : ∀ x, o = some x → zmo s (f x)) : zmo s (o.bind f) := fun v t q => by
  obtain ⟨x, hx, q⟩ := zbind q
  exact h x hx v t q
theorem zmo_zmn {s s0 s1 : zSt} {o : Option (Int × zSt)} (h : zpot 42 s0 = zpot 42 s) : zmo s (zmn 42 s0 s1 o) := fun v t q => by
  obtain ⟨q1, -, q2⟩ := zmn_some q
  rw [← h]
  exact Nat.le_trans q2 q1
theorem zmo_eq {s s' : zSt} {o : Option (Int × zSt)} (h : zpot 42 s' = zpot 42 s) (k : zmo s' o) : zmo s o := fun v t q => by
  rw [← h]
  exact k v t q
theorem mo_draft {a : Int} {s t : zSt} {v : Int} : f_Co_draft a s = some (v, t) → zpot 42 t ≤ zpot 42 s := by
  have h : zmo s (f_Co_draft a s) := by
    unfold f_Co_draft
    refine zmo_if zmo_none (zmo_if (zmo_bind fun _ => zmo_if (zmo_bind fun _ => zmo_bind fun _ => zmo_some (Nat.le_of_eq rfl)) zmo_none) zmo_none)
  exact h v t
theorem mo_take {s t : zSt} {v : Int} : f_Co_take s = some (v, t) → zpot 42 t ≤ zpot 42 s := by
  have h : zmo s (f_Co_take s) := by
    unfold f_Co_take
    exact zmo_bind fun _ => zmo_some (Nat.le_of_eq rfl)
  exact h v t
theorem mo_rule {a b : Int} {s t : zSt} {v : Int} : f_Co_rule a b s = some (v, t) → zpot 42 t ≤ zpot 42 s := by
  have h : zmo s (f_Co_rule a b s) := by
    unfold f_Co_rule
    exact zmo_bind fun _ => zmo_if (zmo_some (Nat.le_of_eq rfl)) zmo_none
  exact h v t
theorem mo_draw_l12 : ∀ (n : Nat) (x : Int × Int × zSt) (out : Int × zSt), zloop f_Co_draw_l12 n x = some out → zpot 42 out.2 = zpot 42 x.2.2 := by
  refine zloop_B (B := fun (x : Int × Int × zSt) (out : Int × zSt) => zpot 42 out.2 = zpot 42 x.2.2) ?_
  intro x o r h hk
  unfold f_Co_draw_l12 at h
  obtain ⟨x1, -, h⟩ := zbind h
  by_cases q : x1 ≤ x.2.1
  · rw [if_pos q] at h
    obtain rfl := Option.some.inj h
    obtain rfl := hk
    rfl
  · rw [if_neg q] at h
    obtain ⟨x3, -, h⟩ := zbind h
    obtain rfl := Option.some.inj h
    exact hk
theorem mo_draw_l12_1 : ∀ (n : Nat) (x : Int × Int × zSt) (out : Int × zSt), zloop f_Co_draw_l12_1 n x = some out → zpot 42 out.2 = zpot 42 x.2.2 := by
  refine zloop_B (B := fun (x : Int × Int × zSt) (out : Int × zSt) => zpot 42 out.2 = zpot 42 x.2.2) ?_
  intro x o r h hk
  unfold f_Co_draw_l12_1 at h
  obtain ⟨x1, -, h⟩ := zbind h
  by_cases q : x1 ≤ x.2.1
  · rw [if_pos q] at h
    obtain rfl := Option.some.inj h
    obtain rfl := hk
    rfl
  · rw [if_neg q] at h
    obtain ⟨x3, -, h⟩ := zbind h
    obtain rfl := Option.some.inj h
    exact hk
theorem mo_draw {s t : zSt} {v : Int} : f_Co_draw s = some (v, t) → zpot 42 t ≤ zpot 42 s := by
  have h : zmo s (f_Co_draw s) := by
    unfold f_Co_draw
    exact zmo_if (zmo_bind2 fun y hy => zmo_bind fun _ => zmo_some (Nat.le_of_eq (mo_draw_l12 _ _ _ hy))) (zmo_bind2 fun y hy => zmo_bind fun _ => zmo_some (Nat.le_of_eq (mo_draw_l12_1 _ _ _ hy)))
  exact h v t
theorem mo_least {a : Int} {s t : zSt} {v : Int} : f_Co_least a s = some (v, t) → zpot 42 t ≤ zpot 42 s := by
  have h : zmo s (f_Co_least a s) := by
    unfold f_Co_least
    exact zmo_if zmo_none (zmo_if (zmo_if (zmo_bind fun _ => zmo_some (Nat.le_of_eq rfl)) (zmo_bind fun _ => zmo_some (Nat.le_of_eq rfl))) zmo_none)
  exact h v t
theorem mo_playOn_l9 : ∀ (n : Nat) (x : Int × zSt) (out : zSt), zloop f_Ta_playOn_l9 n x = some out → zpot 1 out = zpot 1 x.2 := by
  refine zloop_B (B := fun (x : Int × zSt) (out : zSt) => zpot 1 out = zpot 1 x.2) ?_
  intro x o r h hk
  unfold f_Ta_playOn_l9 at h
  rcases zifs h with ⟨-, h⟩ | ⟨-, h⟩
  · obtain rfl := Option.some.inj h
    obtain rfl := hk
    rfl
  obtain ⟨-, h⟩ := zchk h
  rcases zifs h with ⟨-, h⟩ | ⟨-, h⟩
  · obtain rfl := Option.some.inj h
    obtain rfl := hk
    rfl
  obtain ⟨-, h⟩ := zchk h
  rcases zifs h with ⟨-, h⟩ | ⟨-, h⟩
  · obtain ⟨x6, -, h⟩ := zbind h
    obtain rfl := Option.some.inj h
    exact hk
  · obtain ⟨x6, -, h⟩ := zbind h
    obtain rfl := Option.some.inj h
    exact hk
theorem mo_playOn {s : zSt} {res : Int × zSt} (h : f_Ta_playOn s = some res) : zpot 1 res.2 = zpot 1 s := by
  unfold f_Ta_playOn at h
  obtain ⟨y, hy, h⟩ := zbind h
  have e : zpot 1 y = zpot 1 s := mo_playOn_l9 _ _ _ hy
  obtain rfl := Option.some.inj h
  exact e
theorem mo_cellAnew {a b : Int} {s t : zSt} {v : Int} : f_Co_cellAnew a b s = some (v, t) → zpot 42 t ≤ zpot 42 s := by
  have h : zmo s (f_Co_cellAnew a b s) := by
    unfold f_Co_cellAnew
    refine zmo_bind fun _ => zmo_if (zmo_bind2 fun y hy => ?_) zmo_none
    have e : zpot 1 y.2 = zpot 1 (zsb (zsh 41) s) := mo_playOn hy
    exact zmo_if (zmo_bind fun _ => zmo_some (Nat.le_of_eq e)) (zmo_bind fun _ => zmo_some (Nat.le_of_eq e))
  exact h v t
theorem mo_size {a b : Int} {s t : zSt} {v : Int} : f_Co_size a b s = some (v, t) → zpot 42 t ≤ zpot 42 s := by
  have h : zmo s (f_Co_size a b s) := by
    unfold f_Co_size
    exact zmo_if zmo_none (zmo_if zmo_none (zmo_if zmo_none (zmo_if (zmo_bind fun _ => zmo_zmn rfl) zmo_none)))
  exact h v t
theorem mo_paste_j78 {s : zSt} : zmo s (f_Co_paste_j78 s) := by
  unfold f_Co_paste_j78
  exact zmo_bind fun _ => zmo_bind fun _ => zmo_zmn rfl
theorem mo_paste_j21 {a : Int} {s : zSt} : zmo s (f_Co_paste_j21 a s) := by
  unfold f_Co_paste_j21
  exact zmo_bind fun _ => zmo_bind fun _ => zmo_zmn rfl
theorem mo_paste {s t : zSt} {v : Int} : f_Co_paste s = some (v, t) → zpot 42 t ≤ zpot 42 s := by
  have h : zmo s (f_Co_paste s) := by
    unfold f_Co_paste
    exact zmo_if mo_paste_j21 (zmo_bind fun _ => zmo_zmn rfl)
  exact h v t
theorem mo_type {a : Int} {s t : zSt} {v : Int} : f_Co_type a s = some (v, t) → zpot 42 t ≤ zpot 42 s := by
  have h : zmo s (f_Co_type a s) := by
    unfold f_Co_type
    exact zmo_if zmo_none (zmo_if (zmo_bind fun _ => zmo_bind fun _ => zmo_zmn rfl) zmo_none)
  exact h v t
theorem mo_write {a : Int} {s t : zSt} {v : Int} : f_Co_write a s = some (v, t) → zpot 42 t ≤ zpot 42 s := by
  have h : zmo s (f_Co_write a s) := by
    unfold f_Co_write
    exact zmo_if zmo_none (zmo_if (zmo_bind fun _ => zmo_if (zmo_bind fun _ => zmo_bind fun _ => zmo_zmn rfl) zmo_none) zmo_none)
  exact h v t
theorem mo_mouse {a b c : Int} {s t : zSt} {v : Int} : f_Co_mouse a b c s = some (v, t) → zpot 42 t ≤ zpot 42 s := by
  have h : zmo s (f_Co_mouse a b c s) := by
    unfold f_Co_mouse
    refine zmo_bind fun _ => zmo_if (zmo_if zmo_none (zmo_if (zmo_if ?_ (zmo_some (Nat.le_refl _))) zmo_none)) zmo_none
    exact zmo_bind fun _ => zmo_bind fun _ => zmo_bind fun _ => zmo_bind fun _ => zmo_bind fun _ => zmo_bind fun _ => zmo_bind fun _ => zmo_bind fun _ => zmo_bind fun _ => zmo_bind fun _ => zmo_bind fun _ => zmo_zmn rfl
  exact h v t
theorem mo_key_j {a : Int} {s : zSt} : zmo s (f_Co_key_j133 a s) := by
  unfold f_Co_key_j133
  exact zmo_bind fun _ => zmo_bind fun _ => zmo_bind fun _ => zmo_zmn rfl
theorem mo_key {a b : Int} {s t : zSt} {v : Int} : f_Co_key a b s = some (v, t) → zpot 42 t ≤ zpot 42 s := by
  have h : zmo s (f_Co_key a b s) := by
    unfold f_Co_key
    exact zmo_if zmo_none (zmo_if zmo_none (zmo_if zmo_none (zmo_if (zmo_bind fun _ => zmo_bind fun _ => zmo_if (zmo_bind fun _ => zmo_bind fun _ => zmo_bind fun _ => zmo_eq rfl mo_key_j) (zmo_if (zmo_eq rfl mo_key_j) (zmo_bind fun _ => zmo_eq rfl mo_key_j))) zmo_none)))
  exact h v t
theorem mo_code_1 {a : Int} {s : zSt} : zmo s (f_Co_code_j171 a s) := by
  unfold f_Co_code_j171
  exact zmo_bind fun _ => zmo_bind fun _ => zmo_zmn rfl
theorem mo_code_2 {a b c : Int} {s : zSt} : zmo s (f_Co_code_j142 a b c s) := by
  unfold f_Co_code_j142
  exact zmo_bind fun _ => zmo_if (zmo_eq rfl mo_code_1) (zmo_bind fun _ => zmo_bind fun _ => zmo_eq rfl mo_code_1)
theorem mo_code_3 {a b c d e f : Int} {s : zSt} : zmo s (f_Co_code_j86 a b c d e f s) := by
  unfold f_Co_code_j86
  exact zmo_bind fun _ => zmo_if (zmo_bind fun _ => zmo_bind fun _ => zmo_if (zmo_eq rfl mo_code_2) (zmo_bind fun _ => zmo_eq rfl mo_code_2)) zmo_none
theorem mo_code {a b c d : Int} {s t : zSt} {v : Int} : f_Co_code a b c d s = some (v, t) → zpot 42 t ≤ zpot 42 s := by
  have h : zmo s (f_Co_code a b c d s) := by
    unfold f_Co_code
    exact zmo_if zmo_none (zmo_if zmo_none (zmo_if zmo_none (zmo_if (zmo_if zmo_none (zmo_if (zmo_bind fun _ => zmo_if (zmo_bind fun _ => mo_code_3) mo_code_3) zmo_none)) zmo_none)))
  exact h v t
