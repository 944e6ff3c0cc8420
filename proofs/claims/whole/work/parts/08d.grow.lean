/-! ===== what a growing row costs; calls of methods that may grow it, as printed ===== -/
def zpot (v : Nat) (s : zSt) : Nat := 2 * (65536 - (s.1 v 0).toNat)
def zmn (v : Nat) (s s1 : zSt) (o : Option (Int × zSt)) : Option (Int × zSt) := if zpot v s1 ≤ zpot v s then o.bind (fun r => if zpot v r.2 ≤ zpot v s1 then some r else none) else none
theorem zmn_some {v : Nat} {s s1 : zSt} {o : Option (Int × zSt)} {r : Int × zSt} (h : zmn v s s1 o = some r) : zpot v s1 ≤ zpot v s ∧ o = some r ∧ zpot v r.2 ≤ zpot v s1 := by
  obtain ⟨h1, h⟩ := zchk h
  obtain ⟨x, hx, h⟩ := zbind h
  obtain ⟨h2, h⟩ := zchk h
  cases h
  exact ⟨h1, hx, h2⟩
abbrev zRS : Type := (Int × zSt) ⊕ (Int × zSt)
def zg2 : zRS → zSt
  | .inl y => y.2
  | .inr y => y.2
def zmnL (v : Nat) (s s1 : zSt) (g : zRS → zSt) (o : Option zRS) : Option zRS := if zpot v s1 ≤ zpot v s then o.bind (fun r => if zpot v (g r) ≤ zpot v s1 then some r else none) else none
theorem zmnL_some {v : Nat} {s s1 : zSt} {g : zRS → zSt} {o : Option zRS} {r : zRS} (h : zmnL v s s1 g o = some r) : zpot v s1 ≤ zpot v s ∧ o = some r ∧ zpot v (g r) ≤ zpot v s1 := by
  obtain ⟨h1, h⟩ := zchk h
  obtain ⟨x, hx, h⟩ := zbind h
  obtain ⟨h2, h⟩ := zchk h
  cases h
  exact ⟨h1, hx, h2⟩
theorem zcontm (v : Nat) {B : (Int × zSt) → (Int × zSt) → Prop} {o : zRS} {r : Int × zSt} (hk : zcont B r o) (hB : ∀ y r, B y r → zpot v r.2 ≤ zpot v y.2) : zpot v r.2 ≤ zpot v (zg2 o) := by
  cases o with
  | inl y => exact hB y r hk
  | inr y =>
    have e : y = r := hk
    rw [← e]
    exact Nat.le_refl _
/-- the record takes a note: its row is laid anew, twice as long, when it is full -/
def f_Ta_note_j40 (a1 : Int) (s : zSt) : Option (Int × zSt) :=
  if 0 ≤ s.1 1 0 then
    if (s.1 0 1) < 0 then
      some (0, s)
    else
      if (s.1 1 0) ≤ (s.1 0 1) then
        some (0, s)
      else
        some (0, (uS (uE s 1 (s.1 0 1) a1) 0 1 (w32 ((s.1 0 1) + 1))))
  else none
def f_Ta_note (a1 : Int) (s : zSt) : Option (Int × zSt) :=
  if 0 ≤ s.1 1 0 then
    if (s.1 0 1) < (s.1 1 0) then
      f_Ta_note_j40 a1 s
    else
      if 65536 ≤ (s.1 1 0) then
        f_Ta_note_j40 a1 s
      else
        if 1 ≤ s.1 1 0 ∧ s.1 1 0 ≤ 32768 then
          f_Ta_note_j40 a1 (uS (uA s 1 (zcpy (s.2 1) (fun _ => 0) 0 0 (s.1 1 0))) 1 0 ((s.1 1 0) * 2))
        else none
  else none
