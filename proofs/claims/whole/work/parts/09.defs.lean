def f_Ja_rangeCheck_23922 (a0 a1 a2 : Int)  : Option Int :=
  if a1 ≤ a2 then
    if 0 ≤ a1 then
      if a2 ≤ a0 then
        some 0
      else
        none
    else
      none
  else
    none
def f_Ja_fill_fda19_l10 (c2 c3 : Int)  (x : Int × zSt) : Option ((Int × zSt) ⊕ (zSt)) :=
  if c2 ≤ x.1 then
    some (.inr x.2)
  else
    if 0 ≤ x.1 ∧ x.1 < x.2.1 0 0 then some (.inl (w32 (x.1 + 1), (uE x.2 0 x.1 c3))) else none
def f_Ja_fill_fda19 (a1 a2 a3 : Int) (s : zSt) : Option (Int × zSt) :=
  if 0 ≤ s.1 0 0 then 
  (f_Ja_rangeCheck_23922 (s.1 0 0) a1 a2).bind fun x2 =>
  (zloop (f_Ja_fill_fda19_l10 a2 a3) zfu (a1, s)).bind fun y3 =>
  some (0, y3)
   else none
def f_Co_digitsOf (a0 : Int)  : Option Int :=
  if a0 < 100 then
    some (if a0 < 10 then 1 else 2)
  else
    some 3
def f_Co_isWide (a0 : Int)  : Option Int :=
  some (if (wRem a0 1000) < 65 then 0 else (if 90 < (wRem a0 1000) then 0 else 1))
def f_Co_attributeOf (a0 : Int)  : Option Int :=
  some (if a0 ≤ 0 then 0 else (wDiv (wRem a0 100000) 1000))
def f_Co_marksOf (a0 : Int)  : Option Int :=
  some (if a0 ≤ 0 then 0 else (wDiv a0 100000))
def f_By_count  (s : zSt) : Option Int :=
  some (s.1 0 2)
def f_By_room  (s : zSt) : Option Int :=
  if 0 ≤ s.1 1 0 then some (w32 ((s.1 1 0) - (s.1 0 2))) else none
def f_By_placeOf (a1 : Int) (s : zSt) : Option Int :=
  if 0 ≤ s.1 1 0 then 
  if (w32 ((s.1 0 1) + a1)) < (s.1 1 0) then
    some (w32 ((s.1 0 1) + a1))
  else
    if 0 ≤ s.1 1 0 then some (w32 ((w32 ((s.1 0 1) + a1)) - (s.1 1 0))) else none
   else none
def f_By_clear  (s : zSt) : Option (Int × zSt) :=
  some (0, (uS (uS s 0 1 0) 0 2 0))
def f_By_add (a1 : Int) (s : zSt) : Option (Int × zSt) :=
  (f_By_placeOf (s.1 0 2) s).bind fun x1 =>
  if 0 ≤ s.1 1 0 then 
  if (s.1 1 0) ≤ (s.1 0 2) then
    some (0, s)
  else
    if x1 < 0 then
      some (0, s)
    else
      if 0 ≤ s.1 1 0 then 
      if x1 < (s.1 1 0) then
        if 0 ≤ x1 ∧ x1 < s.1 1 0 then some (1, (uS (uE s 1 x1 a1) 0 2 (w32 ((s.1 0 2) + 1)))) else none
      else
        some (0, s)
       else none
   else none
def f_By_at (a1 : Int) (s : zSt) : Option Int :=
  (f_By_placeOf a1 s).bind fun x1 =>
  if a1 < 0 then
    some (-1)
  else
    if (s.1 0 2) ≤ a1 then
      some (-1)
    else
      if x1 < 0 then
        some (-1)
      else
        if 0 ≤ s.1 1 0 then 
        if x1 < (s.1 1 0) then
          if 0 ≤ x1 ∧ x1 < s.1 1 0 then some ((s.2 1) x1) else none
        else
          some (-1)
         else none
def f_By_removeFirst  (s : zSt) : Option (Int × zSt) :=
  if (s.1 0 2) ≤ 0 then
    some ((-1), s)
  else
    if (s.1 0 1) < 0 then
      some ((-1), s)
    else
      if 0 ≤ s.1 1 0 then 
      if (s.1 0 1) < (s.1 1 0) then
        if 0 ≤ (s.1 0 1) ∧ (s.1 0 1) < s.1 1 0 then 
        (f_By_placeOf 1 s).bind fun x6 =>
        some ((s.2 1) (s.1 0 1), (uS (uS s 0 1 x6) 0 2 (w32 ((s.1 0 2) - 1))))
         else none
      else
        some ((-1), s)
       else none
def f_By_addNumber_j18 (v1 : Int) (s : zSt) : Option (Int × zSt) :=
  if v1 < 10 then
    (f_By_add (w32 (48 + (wRem v1 10))) s).bind fun x2 =>
    some (0, x2.2)
  else
    (f_By_add (w32 (48 + (wRem (wDiv v1 10) 10))) s).bind fun x3 =>
    (f_By_add (w32 (48 + (wRem v1 10))) x3.2).bind fun x4 =>
    some (0, x4.2)
def f_By_addNumber (a1 : Int) (s : zSt) : Option (Int × zSt) :=
  if a1 < 100 then
    f_By_addNumber_j18 a1 s
  else
    (f_By_add (w32 (48 + (wDiv a1 100))) s).bind fun x2 =>
    f_By_addNumber_j18 a1 x2.2
def f_By_last  (s : zSt) : Option Int :=
  (f_By_at (w32 ((s.1 0 2) - 1)) s).bind fun x1 =>
  some x1
def f_By_removeLast  (s : zSt) : Option (Int × zSt) :=
  (f_By_at (w32 ((s.1 0 2) - 1)) s).bind fun x1 =>
  if (s.1 0 2) ≤ 0 then
    some (x1, s)
  else
    some (x1, (uS s 0 2 (w32 ((s.1 0 2) - 1))))
def f_By_addAll_l7 (c2 : Int)  (x : Int × zSt) : Option ((Int × zSt) ⊕ (zSt)) :=
  if c2 ≤ x.1 then
    some (.inr x.2)
  else
    (f_By_removeFirst (zsb (zsh 2) x.2)).bind fun x2 =>
    (f_By_add x2.1 (zsb (zsh 0) (zpb (zsh 2) 2 x.2 x2.2))).bind fun x3 =>
    some (.inl (w32 (x.1 + 1), (zpb (zsh 0) 2 (zpb (zsh 2) 2 x.2 x2.2) x3.2)))
def f_By_addAll  (s : zSt) : Option (Int × zSt) :=
  (f_By_count (zsb (zsh 2) s)).bind fun x1 =>
  (zloop (f_By_addAll_l7 x1) zfu (0, s)).bind fun y2 =>
  some (0, y2)
def f_Cu_copy  (s : zSt) : Option (Int × zSt) :=
  if (s.1 1 2) = 0 ∨ (s.1 1 2) = 1 then (if (s.1 1 4) = 0 ∨ (s.1 1 4) = 1 then some (0, (uS (uS (uS (uS (uS s 0 0 (s.1 1 0)) 0 1 (s.1 1 1)) 0 2 (s.1 1 2)) 0 3 (s.1 1 3)) 0 4 (s.1 1 4))) else none) else none
def f_Cu_goTo (a1 a2 : Int) (s : zSt) : Option (Int × zSt) :=
  some (0, (uS (uS (uS s 0 0 a1) 0 1 a2) 0 2 0))
def f_Cu_reset  (s : zSt) : Option (Int × zSt) :=
  (f_Cu_goTo 0 0 s).bind fun x1 =>
  some (0, (uS (uS x1.2 0 3 0) 0 4 0))
def f_Md_reset  (s : zSt) : Option (Int × zSt) :=
  some (0, (uS (uS (uS (uS (uS (uS s 0 0 0) 0 1 1) 0 2 1) 0 3 0) 0 4 0) 0 5 0))
def f_Li_hasRoomFor (a1 : Int) (s : zSt) : Option Int :=
  if (s.1 0 6) = 0 then
    some 1
  else
    (f_By_room (zsb (zsh 3) s)).bind fun x2 =>
    some (if x2 < a1 then 0 else 1)
def f_Li_bring (a1 : Int) (s : zSt) : Option (Int × zSt) :=
  if (s.1 0 6) = 0 then
    (f_By_add a1 (zsb (zsh 7) s)).bind fun x2 =>
    some (0, (zpb (zsh 7) 2 s x2.2))
  else
    (f_By_add a1 (zsb (zsh 3) s)).bind fun x3 =>
    some (0, (zpb (zsh 3) 2 s x3.2))
def f_Li_echo_j18 (v1 : Int) (s : zSt) : Option (Int × zSt) :=
  if (s.1 0 5) = 0 then
    some (0, s)
  else
    (f_By_add v1 (zsb (zsh 7) s)).bind fun x2 =>
    some (0, (zpb (zsh 7) 2 s x2.2))
def f_Li_echo_j18_1 (v1 : Int) (s : zSt) : Option (Int × zSt) :=
  if (s.1 0 5) = 0 then
    some (0, s)
  else
    (f_By_add v1 (zsb (zsh 3) s)).bind fun x2 =>
    some (0, (zpb (zsh 3) 2 s x2.2))
def f_Li_echo (a1 : Int) (s : zSt) : Option (Int × zSt) :=
  if (s.1 0 6) = 0 then
    f_Li_echo_j18 a1 s
  else
    f_Li_echo_j18_1 a1 s
def f_Li_bringNumber (a1 : Int) (s : zSt) : Option (Int × zSt) :=
  if (s.1 0 6) = 0 then
    (f_By_addNumber a1 (zsb (zsh 7) s)).bind fun x2 =>
    some (0, (zpb (zsh 7) 2 s x2.2))
  else
    (f_By_addNumber a1 (zsb (zsh 3) s)).bind fun x3 =>
    some (0, (zpb (zsh 3) 2 s x3.2))
def f_Li_takeAway_l31 (c1 : Int)  (x : Int × zSt) : Option ((Int × zSt) ⊕ (zSt)) :=
  if c1 ≤ x.1 then
    some (.inr x.2)
  else
    (f_Li_echo 8 x.2).bind fun x2 =>
    (f_Li_echo 32 x2.2).bind fun x3 =>
    (f_Li_echo 8 x3.2).bind fun x4 =>
    some (.inl (w32 (x.1 + 1), x4.2))
def f_Li_takeAway  (s : zSt) : Option (Int × zSt) :=
  (f_By_count (zsb (zsh 1) s)).bind fun x1 =>
  if ¬ x1 = 0 then
    (f_By_removeLast (zsb (zsh 1) s)).bind fun x3 =>
    (zloop (f_Li_takeAway_l31 (if 32 ≤ x3.1 then 1 else 2)) zfu (0, (zpb (zsh 1) 2 s x3.2))).bind fun y6 =>
      some (0, y6)
  else
    some (0, s)
def f_Li_sendLine  (s : zSt) : Option (Int × zSt) :=
  (f_By_addAll (zsb (zsl [5, 6, 1, 2]) s)).bind fun x1 =>
  some (0, (zpb (zsl [5, 6, 1, 2]) 4 s x1.2))
def f_Li_start  (s : zSt) : Option (Int × zSt) :=
  (f_By_addAll (zsb (zsl [7, 8, 3, 4]) (uS s 0 6 0))).bind fun x1 =>
  some (0, (zpb (zsl [7, 8, 3, 4]) 4 (uS s 0 6 0) x1.2))
def f_Li_addToLine (a1 : Int) (s : zSt) : Option (Int × zSt) :=
  (f_By_add a1 (zsb (zsh 1) s)).bind fun x1 =>
  if ¬ x1.1 = 0 then
    if 32 ≤ a1 then
      (f_Li_echo a1 (zpb (zsh 1) 2 s x1.2)).bind fun x4 =>
      some (0, x4.2)
    else
      (f_Li_echo 94 (zpb (zsh 1) 2 s x1.2)).bind fun x5 =>
      (f_Li_echo (w32 (a1 + 64)) x5.2).bind fun x6 =>
      some (0, x6.2)
  else
    (f_Li_echo 7 (zpb (zsh 1) 2 s x1.2)).bind fun x7 =>
    some (0, x7.2)
def f_Li_change (a1 a2 : Int) (s : zSt) : Option (Int × zSt) :=
  if ¬ (s.1 0 4) = 0 then
    if a1 = 0 ∨ a1 = 1 then (if a2 = 0 ∨ a2 = 1 then (if (s.1 0 4) = 0 ∨ (s.1 0 4) = 1 then some (s.1 0 4, (uS (uS s 0 4 a1) 0 5 a2)) else none) else none) else none
  else
    if a1 = 0 then
      if a1 = 0 ∨ a1 = 1 then (if a2 = 0 ∨ a2 = 1 then (if (s.1 0 4) = 0 ∨ (s.1 0 4) = 1 then some (s.1 0 4, (uS (uS s 0 4 a1) 0 5 a2)) else none) else none) else none
    else
      (f_Li_sendLine s).bind fun x9 =>
      if a1 = 0 ∨ a1 = 1 then (if a2 = 0 ∨ a2 = 1 then (if (s.1 0 4) = 0 ∨ (s.1 0 4) = 1 then some (s.1 0 4, (uS (uS x9.2 0 4 a1) 0 5 a2)) else none) else none) else none
def f_Li_takeWordAway_l2   (x : Int × zSt) : Option ((Int × zSt) ⊕ (zSt)) :=
  if 30 ≤ x.1 then
    some (.inr x.2)
  else
    (f_By_last (zsb (zsh 1) x.2)).bind fun x2 =>
    if ¬ x2 = 32 then
      some (.inr x.2)
    else
      (f_Li_takeAway x.2).bind fun x4 =>
      some (.inl (w32 (x.1 + 1), x4.2))
def f_Li_takeWordAway_l32   (x : Int × zSt) : Option ((Int × zSt) ⊕ (zSt)) :=
  if 30 ≤ x.1 then
    some (.inr x.2)
  else
    (f_By_count (zsb (zsh 1) x.2)).bind fun x2 =>
    if x2 ≤ 0 then
      some (.inr x.2)
    else
      (f_By_last (zsb (zsh 1) x.2)).bind fun x4 =>
      if x4 = 32 then
        some (.inr x.2)
      else
        (f_Li_takeAway x.2).bind fun x6 =>
        some (.inl (w32 (x.1 + 1), x6.2))
def f_Li_takeWordAway_j30  (s : zSt) : Option (Int × zSt) :=
  (zloop (f_Li_takeWordAway_l32) zfu (0, s)).bind fun y1 =>
  some (0, y1)
def f_Li_takeWordAway  (s : zSt) : Option (Int × zSt) :=
  (zloop (f_Li_takeWordAway_l2) zfu (0, s)).bind fun y1 =>
  f_Li_takeWordAway_j30 y1
def f_Li_takeLineAway_l2   (x : Int × zSt) : Option ((Int × zSt) ⊕ (zSt)) :=
  if 30 ≤ x.1 then
    some (.inr x.2)
  else
    (f_By_count (zsb (zsh 1) x.2)).bind fun x2 =>
    if x2 ≤ 0 then
      some (.inr x.2)
    else
      (f_Li_takeAway x.2).bind fun x4 =>
      some (.inl (w32 (x.1 + 1), x4.2))
def f_Li_takeLineAway  (s : zSt) : Option (Int × zSt) :=
  (zloop (f_Li_takeLineAway_l2) zfu (0, s)).bind fun y1 =>
  some (0, y1)
def f_Li_endLine  (s : zSt) : Option (Int × zSt) :=
  (f_Li_sendLine s).bind fun x1 =>
  (f_By_add 10 (zsb (zsh 5) x1.2)).bind fun x2 =>
  (f_Li_echo 13 (zpb (zsh 5) 2 x1.2 x2.2)).bind fun x3 =>
  (f_Li_echo 10 x3.2).bind fun x4 =>
  some (0, x4.2)
def f_Li_endInput  (s : zSt) : Option (Int × zSt) :=
  (f_By_count (zsb (zsh 1) s)).bind fun x1 =>
  if ¬ x1 = 0 then
    (f_Li_sendLine s).bind fun x3 =>
    some (0, x3.2)
  else
    (f_Li_sendLine (uS s 0 7 (w32 ((s.1 0 7) + 1)))).bind fun x4 =>
    some (0, x4.2)
def f_Li_accept (a1 : Int) (s : zSt) : Option (Int × zSt) :=
  if (s.1 0 4) = 0 then
    if a1 = 3 then
      (f_By_clear (zsb (zsh 1) s)).bind fun x3 =>
      some (0, (uS (zpb (zsh 1) 2 s x3.2) 0 8 (w32 ((s.1 0 8) + 1))))
    else if a1 = 4 then
      (f_Li_endInput s).bind fun x5 =>
      some (0, x5.2)
    else if a1 = 10 then
      (f_Li_endLine s).bind fun x7 =>
      some (0, x7.2)
    else if a1 = 13 then
      (f_Li_endLine s).bind fun x9 =>
      some (0, x9.2)
    else if a1 = 17 then
      (f_Li_start s).bind fun x11 =>
      some (0, x11.2)
    else if a1 = 19 then
      some (0, (uS s 0 6 1))
    else if a1 = 21 then
      (f_Li_takeLineAway s).bind fun x14 =>
      some (0, x14.2)
    else if a1 = 23 then
      (f_Li_takeWordAway s).bind fun x16 =>
      some (0, x16.2)
    else if a1 = 127 then
      (f_Li_takeAway s).bind fun x18 =>
      some (0, x18.2)
    else (f_Li_addToLine a1 s).bind fun x19 =>
    some (0, x19.2)
  else
    (f_By_add a1 (zsb (zsh 5) s)).bind fun x20 =>
    (f_Li_echo a1 (zpb (zsh 5) 2 s x20.2)).bind fun x21 =>
    some (0, x21.2)
def f_Pi_rows  (s : zSt) : Option Int :=
  some (s.1 0 2)
def f_Pi_columns  (s : zSt) : Option Int :=
  some (s.1 0 3)
def f_Pi_at (a1 a2 : Int) (s : zSt) : Option Int :=
  if a1 < 0 then
    some 0
  else
    if 12 ≤ a1 then
      some 0
    else
      if a2 < 0 then
        some 0
      else
        if a2 < 24 then
          if 0 ≤ (w32 ((w32 (a1 * 24)) + a2)) ∧ (w32 ((w32 (a1 * 24)) + a2)) < s.1 1 0 then some ((s.2 1) (w32 ((w32 (a1 * 24)) + a2))) else none
        else
          some 0
def f_Pi_put (a1 a2 a3 : Int) (s : zSt) : Option (Int × zSt) :=
  if a1 < 0 then
    some (0, s)
  else
    if (s.1 0 2) ≤ a1 then
      some (0, s)
    else
      if a2 < 0 then
        some (0, s)
      else
        if a2 < (s.1 0 3) then
          if 12 ≤ a1 then
            some (0, s)
          else
            if 24 ≤ a2 then
              some (0, s)
            else
              if 0 ≤ (w32 ((w32 (a1 * 24)) + a2)) ∧ (w32 ((w32 (a1 * 24)) + a2)) < s.1 1 0 then some (0, (uE s 1 (w32 ((w32 (a1 * 24)) + a2)) a3)) else none
        else
          some (0, s)
def f_Pi_isGoing (a1 : Int) (s : zSt) : Option Int :=
  if a1 < 0 then
    some 0
  else
    if 12 ≤ a1 then
      some 0
    else
      if 0 ≤ a1 ∧ a1 < s.1 2 0 then some (if ((s.2 2) a1) = 0 then 0 else 1) else none
def f_Pi_setGoing (a1 a2 : Int) (s : zSt) : Option (Int × zSt) :=
  if a1 < 0 then
    some (0, s)
  else
    if 12 ≤ a1 then
      some (0, s)
    else
      if (0 ≤ a1 ∧ a1 < s.1 2 0) ∧ (a2 = 0 ∨ a2 = 1) then some (0, (uE s 2 a1 a2)) else none
def f_Pi_filled_l7 (c1 : Int) (s : zSt) (x : Int) : Option ((Int) ⊕ (Int)) :=
  if x < 0 then
    some (.inr 0)
  else
    (f_Pi_at c1 x s).bind fun x2 =>
    if x2 = 0 then
      some (.inl (w32 (x + (-1))))
    else
      some (.inr (w32 (x + 1)))
def f_Pi_filled (a1 : Int) (s : zSt) : Option Int :=
  zloop (f_Pi_filled_l7 a1 s) zfu (w32 ((s.1 0 3) - 1))
def f_Pi_part (a1 a2 : Int) (s : zSt) : Option (Int × zSt) :=
  (f_Pi_at a1 a2 s).bind fun x1 =>
  if ¬ x1 = (-2) then
    some (0, s)
  else
    (f_Pi_put a1 (w32 (a2 - 1)) 0 s).bind fun x3 =>
    (f_Pi_put a1 a2 0 x3.2).bind fun x4 =>
    some (0, x4.2)
def f_Pi_copyCells_l12 (c2 : Int)  (x : Int × zSt) : Option ((Int × zSt) ⊕ (zSt)) :=
  if (x.2.1 0 3) ≤ x.1 then
    some (.inr x.2)
  else
    (f_Pi_at c2 x.1 (zsb (zsh 3) x.2)).bind fun x2 =>
    (f_Pi_put c2 x.1 x2 (zsb (zsh 0) x.2)).bind fun x3 =>
    some (.inl (w32 (x.1 + 1), (zpb (zsh 0) 3 x.2 x3.2)))
def f_Pi_copyCells_l2   (x : Int × zSt) : Option ((Int × zSt) ⊕ (zSt)) :=
  if (x.2.1 0 2) ≤ x.1 then
    some (.inr x.2)
  else
    (zloop (f_Pi_copyCells_l12 x.1) zfu (0, x.2)).bind fun y2 =>
    some (.inl (w32 (x.1 + 1), y2))
def f_Pi_copyCells  (s : zSt) : Option (Int × zSt) :=
  (zloop (f_Pi_copyCells_l2) zfu (0, s)).bind fun y1 =>
  some (0, y1)
def f_Pi_erase_l29 (c1 c4 : Int)  (x : Int × zSt) : Option ((Int × zSt) ⊕ (zSt)) :=
  if c4 ≤ x.1 then
    some (.inr x.2)
  else
    (f_Pi_put c1 x.1 0 x.2).bind fun x2 =>
    some (.inl (w32 (x.1 + 1), x2.2))
def f_Pi_erase (a1 a2 a3 : Int) (s : zSt) : Option (Int × zSt) :=
  (f_Pi_part a1 a2 s).bind fun x1 =>
  (f_Pi_part a1 a3 x1.2).bind fun x2 =>
  (zloop (f_Pi_erase_l29 a1 (if (x2.2.1 0 3) < a3 then (x2.2.1 0 3) else a3)) zfu (if a2 < 0 then 0 else a2, x2.2)).bind fun y3 =>
  some (0, y3)
def f_Pi_insert_l29 (c1 c2 c3 : Int)  (x : Int × zSt) : Option ((Int × zSt) ⊕ (zSt)) :=
  if x.1 < c2 then
    some (.inr x.2)
  else
    if (w32 (x.1 - c3)) < c2 then
      (f_Pi_put c1 x.1 0 x.2).bind fun x3 =>
      some (.inl (w32 (x.1 + (-1)), x3.2))
    else
      (f_Pi_at c1 (w32 (x.1 - c3)) x.2).bind fun x4 =>
      (f_Pi_put c1 x.1 x4 x.2).bind fun x5 =>
      some (.inl (w32 (x.1 + (-1)), x5.2))
def f_Pi_insert (a1 a2 a3 : Int) (s : zSt) : Option (Int × zSt) :=
  (f_Pi_part a1 a2 s).bind fun x1 =>
  (f_Pi_part a1 (if (w32 ((x1.2.1 0 3) - a3)) < a2 then a2 else (w32 ((x1.2.1 0 3) - a3))) x1.2).bind fun x2 =>
  (zloop (f_Pi_insert_l29 a1 a2 a3) zfu (w32 ((x2.2.1 0 3) - 1), x2.2)).bind fun y3 =>
  some (0, y3)
def f_Pi_delete_l17 (c1 c3 : Int)  (x : Int × zSt) : Option ((Int × zSt) ⊕ (zSt)) :=
  if (x.2.1 0 3) ≤ x.1 then
    some (.inr x.2)
  else
    if (x.2.1 0 3) ≤ (w32 (x.1 + c3)) then
      (f_Pi_put c1 x.1 0 x.2).bind fun x3 =>
      some (.inl (w32 (x.1 + 1), x3.2))
    else
      (f_Pi_at c1 (w32 (x.1 + c3)) x.2).bind fun x4 =>
      (f_Pi_put c1 x.1 x4 x.2).bind fun x5 =>
      some (.inl (w32 (x.1 + 1), x5.2))
def f_Pi_delete (a1 a2 a3 : Int) (s : zSt) : Option (Int × zSt) :=
  (f_Pi_part a1 a2 s).bind fun x1 =>
  (f_Pi_part a1 (w32 (a2 + a3)) x1.2).bind fun x2 =>
  (zloop (f_Pi_delete_l17 a1 a3) zfu (a2, x2.2)).bind fun y3 =>
  some (0, y3)
def f_Pi_clearRow (a1 : Int) (s : zSt) : Option (Int × zSt) :=
  if a1 < 0 then
    some (0, s)
  else
    if a1 < 12 then
      (f_Ja_fill_fda19 (w32 (a1 * 24)) (w32 ((w32 (a1 + 1)) * 24)) 0 (zsb (zsh 1) s)).bind fun x3 =>
      if 0 ≤ a1 ∧ a1 < s.1 2 0 then some (0, (uE (zpb (zsh 1) 1 s x3.2) 2 a1 0)) else none
    else
      some (0, s)
def f_Pi_moveUp_l48 (c2 : Int)  (x : Int × zSt) : Option ((Int × zSt) ⊕ (zSt)) :=
  if c2 ≤ x.1 then
    some (.inr x.2)
  else
    if 0 ≤ (w32 (x.1 + 1)) ∧ (w32 (x.1 + 1)) < x.2.1 2 0 then (if (0 ≤ x.1 ∧ x.1 < x.2.1 2 0) ∧ (((x.2.2 2) (w32 (x.1 + 1))) = 0 ∨ ((x.2.2 2) (w32 (x.1 + 1))) = 1) then some (.inl (w32 (x.1 + 1), (uE x.2 2 x.1 ((x.2.2 2) (w32 (x.1 + 1)))))) else none) else none
def f_Pi_moveUp (a1 a2 : Int) (s : zSt) : Option (Int × zSt) :=
  if a1 < 0 then
    some (0, s)
  else
    if 12 ≤ a2 then
      some (0, s)
    else
      if a1 ≤ a2 then
        if ((0 : Int) ≤ (w32 ((w32 (a1 + 1)) * 24)) ∧ (0 : Int) ≤ (w32 (a1 * 24)) ∧ (0 : Int) ≤ (w32 ((w32 (a2 - a1)) * 24))) ∧ (w32 ((w32 (a1 + 1)) * 24)) + (w32 ((w32 (a2 - a1)) * 24)) ≤ s.1 1 0 ∧ (w32 (a1 * 24)) + (w32 ((w32 (a2 - a1)) * 24)) ≤ s.1 1 0 then
        (zloop (f_Pi_moveUp_l48 a2) zfu (a1, (uA s 1 (zcpy (s.2 1) (s.2 1) (w32 ((w32 (a1 + 1)) * 24)) (w32 (a1 * 24)) (w32 ((w32 (a2 - a1)) * 24)))))).bind fun y5 =>
        (f_Pi_clearRow a2 y5).bind fun x6 =>
        some (0, x6.2)
        else none
      else
        some (0, s)
def f_Pi_moveDown_l46 (c1 c2 : Int)  (x : Int × zSt) : Option ((Int × zSt) ⊕ (zSt)) :=
  if x.1 ≤ c1 then
    some (.inr x.2)
  else
    if 0 ≤ (w32 (x.1 - 1)) ∧ (w32 (x.1 - 1)) < x.2.1 2 0 then (if (0 ≤ x.1 ∧ x.1 < x.2.1 2 0) ∧ (((x.2.2 2) (w32 (x.1 - 1))) = 0 ∨ ((x.2.2 2) (w32 (x.1 - 1))) = 1) then some (.inl (w32 (x.1 + (-1)), (uE x.2 2 x.1 ((x.2.2 2) (w32 (x.1 - 1)))))) else none) else none
def f_Pi_moveDown (a1 a2 : Int) (s : zSt) : Option (Int × zSt) :=
  if a1 < 0 then
    some (0, s)
  else
    if 12 ≤ a2 then
      some (0, s)
    else
      if a1 ≤ a2 then
        if ((0 : Int) ≤ (w32 (a1 * 24)) ∧ (0 : Int) ≤ (w32 ((w32 (a1 * 24)) + 24)) ∧ (0 : Int) ≤ (w32 ((w32 (a2 - a1)) * 24))) ∧ (w32 (a1 * 24)) + (w32 ((w32 (a2 - a1)) * 24)) ≤ s.1 1 0 ∧ (w32 ((w32 (a1 * 24)) + 24)) + (w32 ((w32 (a2 - a1)) * 24)) ≤ s.1 1 0 then
        (zloop (f_Pi_moveDown_l46 a1 a2) zfu (a2, (uA s 1 (zcpy (s.2 1) (s.2 1) (w32 (a1 * 24)) (w32 ((w32 (a1 * 24)) + 24)) (w32 ((w32 (a2 - a1)) * 24)))))).bind fun y5 =>
        (f_Pi_clearRow a1 y5).bind fun x6 =>
        if 0 ≤ a2 ∧ a2 < x6.2.1 2 0 then some (0, (uE x6.2 2 a2 0)) else none
        else none
      else
        some (0, s)
def f_Pi_clear_l2   (x : Int × zSt) : Option ((Int × zSt) ⊕ (zSt)) :=
  if 12 ≤ x.1 then
    some (.inr x.2)
  else
    (f_Pi_clearRow x.1 x.2).bind fun x2 =>
    some (.inl (w32 (x.1 + 1), x2.2))
def f_Pi_clear  (s : zSt) : Option (Int × zSt) :=
  (zloop (f_Pi_clear_l2) zfu (0, s)).bind fun y1 =>
  some (0, y1)
def f_Pi_cut_l19 (c1 c2 c3 : Int)  (x : Int × zSt) : Option ((Int × zSt) ⊕ (zSt)) :=
  if (x.2.1 0 3) ≤ x.1 then
    some (.inr x.2)
  else
    (f_Pi_put c3 x.1 0 x.2).bind fun x2 =>
    some (.inl (w32 (x.1 + 1), x2.2))
def f_Pi_cut_l2 (c1 c2 : Int)  (x : Int × zSt) : Option ((Int × zSt) ⊕ (zSt)) :=
  if (x.2.1 0 2) ≤ x.1 then
    some (.inr x.2)
  else
    (f_Pi_part x.1 c2 x.2).bind fun x2 =>
    (zloop (f_Pi_cut_l19 c1 c2 x.1) zfu (c2, x2.2)).bind fun y3 =>
    some (.inl (w32 (x.1 + 1), y3))
def f_Pi_cut_l50 (c1 c2 : Int)  (x : Int × zSt) : Option ((Int × zSt) ⊕ (zSt)) :=
  if (x.2.1 0 2) ≤ x.1 then
    some (.inr x.2)
  else
    (f_Pi_clearRow x.1 x.2).bind fun x2 =>
    some (.inl (w32 (x.1 + 1), x2.2))
def f_Pi_cut (a1 a2 : Int) (s : zSt) : Option (Int × zSt) :=
  (zloop (f_Pi_cut_l2 a1 a2) zfu (0, s)).bind fun y1 =>
  (zloop (f_Pi_cut_l50 a1 a2) zfu (a1, y1)).bind fun y2 =>
  (f_Pi_setGoing (w32 (a1 - 1)) 0 (uS (uS y2 0 2 a1) 0 3 a2)).bind fun x3 =>
  some (0, x3.2)
def f_Pi_begin (a1 a2 : Int) (s : zSt) : Option (Int × zSt) :=
  (f_Pi_clear s).bind fun x1 =>
  some (0, (uS (uS x1.2 0 2 a1) 0 3 a2))
def f_Hi_count  (s : zSt) : Option Int :=
  some (s.1 0 2)
def f_Hi_putLatest (a1 a2 : Int) (s : zSt) : Option (Int × zSt) :=
  if (w32 ((s.1 0 2) - 1)) < 0 then
    some (0, s)
  else
    if 40 ≤ (w32 ((s.1 0 2) - 1)) then
      some (0, s)
    else
      if a1 < 0 then
        some (0, s)
      else
        if 24 ≤ a1 then
          some (0, s)
        else
          if 0 ≤ (w32 ((w32 ((w32 ((s.1 0 2) - 1)) * 24)) + a1)) ∧ (w32 ((w32 ((w32 ((s.1 0 2) - 1)) * 24)) + a1)) < s.1 1 0 then some (0, (uE s 1 (w32 ((w32 ((w32 ((s.1 0 2) - 1)) * 24)) + a1)) a2)) else none
def f_Hi_at (a1 a2 : Int) (s : zSt) : Option Int :=
  if a1 < 0 then
    some 0
  else
    if (s.1 0 2) ≤ a1 then
      some 0
    else
      if 40 ≤ a1 then
        some 0
      else
        if a2 < 0 then
          some 0
        else
          if a2 < 24 then
            if 0 ≤ (w32 ((w32 (a1 * 24)) + a2)) ∧ (w32 ((w32 (a1 * 24)) + a2)) < s.1 1 0 then some ((s.2 1) (w32 ((w32 (a1 * 24)) + a2))) else none
          else
            some 0
def f_Hi_isGoing (a1 : Int) (s : zSt) : Option Int :=
  if a1 < 0 then
    some 0
  else
    if (s.1 0 2) ≤ a1 then
      some 0
    else
      if 40 ≤ a1 then
        some 0
      else
        if 0 ≤ a1 ∧ a1 < s.1 2 0 then some (if ((s.2 2) a1) = 0 then 0 else 1) else none
def f_Hi_endLatest  (s : zSt) : Option (Int × zSt) :=
  if (s.1 0 2) ≤ 0 then
    some (0, s)
  else
    if 40 < (s.1 0 2) then
      some (0, s)
    else
      if 0 ≤ (w32 ((s.1 0 2) - 1)) ∧ (w32 ((s.1 0 2) - 1)) < s.1 2 0 then some (0, (uE s 2 (w32 ((s.1 0 2) - 1)) 0)) else none
def f_Hi_clear  (s : zSt) : Option (Int × zSt) :=
  some (0, (uS s 0 2 0))
def f_Hi_add_j60 (v1 : Int) (s : zSt) : Option (Int × zSt) :=
  if 0 ≤ (s.1 0 2) then
    (f_Ja_fill_fda19 (w32 ((s.1 0 2) * 24)) (w32 ((w32 ((s.1 0 2) + 1)) * 24)) 0 (zsb (zsh 1) s)).bind fun x2 =>
    if (0 ≤ (s.1 0 2) ∧ (s.1 0 2) < s.1 2 0) ∧ (v1 = 0 ∨ v1 = 1) then some (0, (uS (uE (zpb (zsh 1) 1 s x2.2) 2 (s.1 0 2) v1) 0 2 (w32 ((s.1 0 2) + 1)))) else none
  else
    some (0, s)
def f_Hi_add_l28 (c1 : Int)  (x : Int × zSt) : Option ((Int × zSt) ⊕ (zSt)) :=
  if 40 ≤ x.1 then
    some (.inr x.2)
  else
    if 0 ≤ x.1 ∧ x.1 < x.2.1 2 0 then (if (0 ≤ (w32 (x.1 - 1)) ∧ (w32 (x.1 - 1)) < x.2.1 2 0) ∧ (((x.2.2 2) x.1) = 0 ∨ ((x.2.2 2) x.1) = 1) then some (.inl (w32 (x.1 + 1), (uE x.2 2 (w32 (x.1 - 1)) ((x.2.2 2) x.1)))) else none) else none
def f_Hi_add (a1 : Int) (s : zSt) : Option (Int × zSt) :=
  if (s.1 0 2) < 40 then
    f_Hi_add_j60 a1 s
  else
    if ((0 : Int) ≤ 24 ∧ (0 : Int) ≤ 0 ∧ (0 : Int) ≤ 936) ∧ 24 + 936 ≤ s.1 1 0 ∧ 0 + 936 ≤ s.1 1 0 then
    (zloop (f_Hi_add_l28 a1) zfu (1, (uA s 1 (zcpy (s.2 1) (s.2 1) 24 0 936)))).bind fun y3 =>
    f_Hi_add_j60 a1 (uS y3 0 2 39)
    else none
def f_Re_number (a1 : Int) (s : zSt) : Option Int :=
  if a1 < 0 then
    some 0
  else
    if 4 ≤ a1 then
      some 0
    else
      if 0 ≤ a1 ∧ a1 < s.1 5 0 then some ((s.2 5) a1) else none
def f_Re_readControl (a1 : Int) (s : zSt) : Option (Int × zSt) :=
  if ¬ a1 = 24 then
    if ¬ a1 = 27 then
      some (3, s)
    else
      some (0, (uS s 0 3 1))
  else
    some (0, (uS s 0 3 0))
def f_Re_beginCode_l27   (x : Int × zSt) : Option ((Int × zSt) ⊕ (zSt)) :=
  if 4 ≤ x.1 then
    some (.inr x.2)
  else
    if 0 ≤ x.1 ∧ x.1 < x.2.1 5 0 then some (.inl (w32 (x.1 + 1), (uE x.2 5 x.1 0))) else none
def f_Re_beginCode  (s : zSt) : Option (Int × zSt) :=
  (zloop (f_Re_beginCode_l27) zfu (0, (uS (uS (uS (uS (uS s 0 3 2) 0 4 1) 0 5 0) 0 6 0) 0 7 0))).bind fun y1 =>
  some (0, y1)
def f_Re_readEscape (a1 : Int) (s : zSt) : Option (Int × zSt) :=
  if ¬ a1 = 91 then
    if ¬ a1 = 93 then
      some (4, (uS s 0 3 0))
    else
      (f_By_clear (zsb (zsh 3) (uS s 0 3 3))).bind fun x3 =>
      some (0, (zpb (zsh 3) 2 (uS s 0 3 3) x3.2))
  else
    (f_Re_beginCode s).bind fun x4 =>
    some (0, x4.2)
def f_Re_addDigit (a1 : Int) (s : zSt) : Option (Int × zSt) :=
  if (w32 ((s.1 0 4) - 1)) < 0 then
    some (0, s)
  else
    if 4 ≤ (w32 ((s.1 0 4) - 1)) then
      some (0, s)
    else
      if 0 ≤ (w32 ((s.1 0 4) - 1)) ∧ (w32 ((s.1 0 4) - 1)) < s.1 5 0 then (if 0 ≤ (w32 ((s.1 0 4) - 1)) ∧ (w32 ((s.1 0 4) - 1)) < s.1 5 0 then some (0, (uE s 5 (w32 ((s.1 0 4) - 1)) (if 999 < (w32 ((w32 (((s.2 5) (w32 ((s.1 0 4) - 1))) * 10)) + a1)) then 999 else (w32 ((w32 (((s.2 5) (w32 ((s.1 0 4) - 1))) * 10)) + a1))))) else none) else none
def f_Re_readCode_j69 (v1 : Int) (s : zSt) : Option (Int × zSt) :=
  if ¬ v1 = 59 then
    if ¬ v1 = 63 then
      some (0, (uS (uS s 0 6 1) 0 7 1))
    else
      if ¬ (s.1 0 7) = 0 then
        some (0, (uS (uS s 0 6 1) 0 7 1))
      else
        some (0, (uS (uS s 0 5 1) 0 7 1))
  else
    some (0, (uS (uS s 0 4 (w32 ((if 4 < (s.1 0 4) then 4 else (s.1 0 4)) + 1))) 0 7 1))
def f_Re_readCode (a1 : Int) (s : zSt) : Option (Int × zSt) :=
  if a1 < 64 then
    if a1 < 48 then
      f_Re_readCode_j69 a1 s
    else
      if 57 < a1 then
        f_Re_readCode_j69 a1 s
      else
        (f_Re_addDigit (w32 (a1 - 48)) s).bind fun x4 =>
        some (0, (uS x4.2 0 7 1))
  else
    if (s.1 0 6) = 0 then
      some (if (s.1 0 5) = 0 then 5 else 6, (uS (uS s 0 3 0) 0 4 (if 4 < (s.1 0 4) then 4 else (s.1 0 4))))
    else
      some (0, (uS (uS s 0 3 0) 0 4 (if 4 < (s.1 0 4) then 4 else (s.1 0 4))))
def f_Re_readTitle (a1 : Int) (s : zSt) : Option (Int × zSt) :=
  if ¬ a1 = 7 then
    if ¬ a1 = 27 then
      if ¬ a1 = 24 then
        if a1 < 32 then
          some (0, s)
        else
          if 127 ≤ a1 then
            some (0, s)
          else
            (f_By_add a1 (zsb (zsh 3) s)).bind fun x6 =>
            some (0, (zpb (zsh 3) 2 s x6.2))
      else
        some (0, (uS s 0 3 0))
    else
      some (0, (uS s 0 3 1))
  else
    (f_By_clear (zsb (zsh 1) (uS s 0 3 0))).bind fun x7 =>
    (f_By_addAll (zsb (zsh 1) (zpb (zsh 1) 2 (uS s 0 3 0) x7.2))).bind fun x8 =>
    some (0, (zpb (zsh 1) 4 (zpb (zsh 1) 2 (uS s 0 3 0) x7.2) x8.2))
def f_Re_read (a1 : Int) (s : zSt) : Option (Int × zSt) :=
  if ¬ (s.1 0 3) = 3 then
    if a1 < 32 then
      (f_Re_readControl a1 s).bind fun x3 =>
      some (x3.1, x3.2)
    else
      if ¬ a1 = 127 then
        if ¬ (s.1 0 3) = 1 then
          if ¬ (s.1 0 3) = 2 then
            some (if ¬ a1 = 96 then 1 else 2, s)
          else
            (f_Re_readCode a1 s).bind fun x11 =>
            some (x11.1, x11.2)
        else
          (f_Re_readEscape a1 s).bind fun x12 =>
          some (x12.1, x12.2)
      else
        (f_Re_readControl a1 s).bind fun x13 =>
        some (x13.1, x13.2)
  else
    (f_Re_readTitle a1 s).bind fun x14 =>
    some (0, x14.2)
def f_Ma_lengthOfLast  (s : zSt) : Option Int :=
  if (w32 ((s.1 0 8) - 1)) < 0 then
    some 0
  else
    if 512 ≤ (w32 ((s.1 0 8) - 1)) then
      some 0
    else
      if 0 ≤ (w32 ((s.1 0 8) - 1)) ∧ (w32 ((s.1 0 8) - 1)) < s.1 9 0 then some ((s.2 9) (w32 ((s.1 0 8) - 1))) else none
def f_Ma_beginRow  (s : zSt) : Option (Int × zSt) :=
  if (s.1 0 8) < 0 then
    some (0, s)
  else
    if (s.1 0 8) < 512 then
      if 0 ≤ (s.1 0 8) ∧ (s.1 0 8) < s.1 8 0 then (if 0 ≤ (s.1 0 8) ∧ (s.1 0 8) < s.1 9 0 then (if 0 ≤ (s.1 0 8) ∧ (s.1 0 8) < s.1 10 0 then some (0, (uS (uE (uE (uE s 8 (s.1 0 8) (s.1 0 7)) 9 (s.1 0 8) 0) 10 (s.1 0 8) 0) 0 8 (w32 ((s.1 0 8) + 1)))) else none) else none) else none
    else
      some (0, s)
def f_Ma_lay (a1 : Int) (s : zSt) : Option (Int × zSt) :=
  if (s.1 0 7) < 0 then
    some (0, s)
  else
    if 1248 ≤ (s.1 0 7) then
      some (0, s)
    else
      if (w32 ((s.1 0 8) - 1)) < 0 then
        some (0, s)
      else
        if (w32 ((s.1 0 8) - 1)) < 512 then
          if 0 ≤ (s.1 0 7) ∧ (s.1 0 7) < s.1 7 0 then (if 0 ≤ (w32 ((s.1 0 8) - 1)) ∧ (w32 ((s.1 0 8) - 1)) < s.1 9 0 then (if 0 ≤ (w32 ((s.1 0 8) - 1)) ∧ (w32 ((s.1 0 8) - 1)) < s.1 9 0 then some (0, (uE (uS (uE s 7 (s.1 0 7) a1) 0 7 (w32 ((s.1 0 7) + 1))) 9 (w32 ((s.1 0 8) - 1)) (w32 (((s.2 9) (w32 ((s.1 0 8) - 1))) + 1)))) else none) else none) else none
        else
          some (0, s)
def f_Ma_isGoing (a1 : Int) (s : zSt) : Option Int :=
  (f_Hi_count (zsb (zsh 4) s)).bind fun x1 =>
  if x1 ≤ a1 then
    (f_Pi_isGoing (w32 (a1 - x1)) (zsb (zsh 1) s)).bind fun x3 =>
    if x3 = 0 ∨ x3 = 1 then some x3 else none
  else
    (f_Hi_isGoing a1 (zsb (zsh 4) s)).bind fun x5 =>
    if x5 = 0 ∨ x5 = 1 then some x5 else none
def f_Ma_at (a1 a2 : Int) (s : zSt) : Option Int :=
  (f_Hi_count (zsb (zsh 4) s)).bind fun x1 =>
  if x1 ≤ a1 then
    (f_Pi_at (w32 (a1 - x1)) a2 (zsb (zsh 1) s)).bind fun x3 =>
    some x3
  else
    (f_Hi_at a1 a2 (zsb (zsh 4) s)).bind fun x4 =>
    some x4
def f_Ma_goOn  (s : zSt) : Option (Int × zSt) :=
  if (w32 ((s.1 0 8) - 1)) < 0 then
    (f_Ma_beginRow s).bind fun x2 =>
    some (0, x2.2)
  else
    if 512 ≤ (w32 ((s.1 0 8) - 1)) then
      (f_Ma_beginRow s).bind fun x4 =>
      some (0, x4.2)
    else
      if 0 ≤ (w32 ((s.1 0 8) - 1)) ∧ (w32 ((s.1 0 8) - 1)) < s.1 10 0 then 
      (f_Ma_beginRow (uE s 10 (w32 ((s.1 0 8) - 1)) 1)).bind fun x6 =>
      some (0, x6.2)
       else none
def f_Ma_keptRows_l12 (c1 : Int) (s : zSt) (x : Int × Int) : Option ((Int × Int) ⊕ (Int)) :=
  if 12 ≤ x.2 then
    some (.inr x.1)
  else
    if x.1 ≤ c1 then
      some (.inr x.1)
    else
      (f_Pi_filled x.1 (zsb (zsh 1) s)).bind fun x3 =>
      if ¬ x3 = 0 then
        some (.inr x.1)
      else
        some (.inl (w32 (x.1 + (-1)), w32 (x.2 + 1)))
def f_Ma_keptRows (a1 : Int) (s : zSt) : Option Int :=
  (f_Pi_rows (zsb (zsh 1) s)).bind fun x1 =>
  (zloop (f_Ma_keptRows_l12 a1 s) zfu (w32 (x1 - 1), 0)).bind fun y2 =>
  some (w32 (y2 + 1))
def f_Ma_cellsOf_l60 (c1 : Int) (s : zSt) (x : Int × Int) : Option ((Int × Int) ⊕ (Int)) :=
  if 24 ≤ x.2 then
    some (.inr x.1)
  else
    if x.1 ≤ 0 then
      some (.inr x.1)
    else
      (f_Ma_at c1 (w32 (x.1 - 1)) s).bind fun x3 =>
      if ¬ x3 = 0 then
        some (.inr x.1)
      else
        some (.inl (w32 (x.1 + (-1)), w32 (x.2 + 1)))
def f_Ma_cellsOf (a1 a2 : Int) (s : zSt) : Option Int :=
  (f_Pi_columns (zsb (zsh 1) s)).bind fun x1 =>
  if a2 = 0 then
    (zloop (f_Ma_cellsOf_l60 a1 s) zfu (x1, 0)).bind fun y3 =>
    some y3
  else
    (f_Ma_at a1 (w32 (x1 - 1)) s).bind fun x4 =>
    if ¬ x4 = 0 then
      some (if (0 : Int) = 0 then x1 else (w32 (x1 - 1)))
    else
      (f_Ma_at (w32 (a1 + 1)) 0 s).bind fun x10 =>
      (f_Co_isWide x10).bind fun x11 =>
      some (if ((if x11 = 0 then 0 else 1) : Int) = 0 then x1 else (w32 (x1 - 1)))
def f_Ma_layRow_l11 (c1 c2 c3 c4 : Int)  (x : Int × zSt) : Option ((Int × zSt) ⊕ (zSt)) :=
  if c4 ≤ x.1 then
    some (.inr x.2)
  else
    (f_Ma_at c1 x.1 x.2).bind fun x2 =>
    (f_Ma_lengthOfLast x.2).bind fun x3 =>
    (f_Co_isWide x2).bind fun x4 =>
    if (w32 (x3 + (if x4 = 0 then 1 else 2))) ≤ (x.2.1 0 6) then
        if x.1 = c3 then
          (f_Ma_lengthOfLast (uS x.2 0 9 (w32 ((x.2.1 0 8) - 1)))).bind fun x9 =>
          (f_Ma_lay x2 (uS (uS (uS x.2 0 9 (w32 ((x.2.1 0 8) - 1))) 0 10 x9) 0 11 0)).bind fun x10 =>
          some (.inl (w32 (x.1 + 1), x10.2))
        else
          if (x.2.1 0 11) = 0 then
            (f_Ma_lay x2 x.2).bind fun x12 =>
            some (.inl (w32 (x.1 + 1), x12.2))
          else
            (f_Ma_lengthOfLast (uS x.2 0 9 (w32 ((x.2.1 0 8) - 1)))).bind fun x13 =>
            (f_Ma_lay x2 (uS (uS (uS x.2 0 9 (w32 ((x.2.1 0 8) - 1))) 0 10 x13) 0 11 0)).bind fun x14 =>
            some (.inl (w32 (x.1 + 1), x14.2))
      else
        (f_Ma_goOn x.2).bind fun x15 =>
        if x.1 = c3 then
          (f_Ma_lengthOfLast (uS x15.2 0 9 (w32 ((x15.2.1 0 8) - 1)))).bind fun x17 =>
          (f_Ma_lay x2 (uS (uS (uS x15.2 0 9 (w32 ((x15.2.1 0 8) - 1))) 0 10 x17) 0 11 0)).bind fun x18 =>
          some (.inl (w32 (x.1 + 1), x18.2))
        else
          if (x15.2.1 0 11) = 0 then
            (f_Ma_lay x2 x15.2).bind fun x20 =>
            some (.inl (w32 (x.1 + 1), x20.2))
          else
            (f_Ma_lengthOfLast (uS x15.2 0 9 (w32 ((x15.2.1 0 8) - 1)))).bind fun x21 =>
            (f_Ma_lay x2 (uS (uS (uS x15.2 0 9 (w32 ((x15.2.1 0 8) - 1))) 0 10 x21) 0 11 0)).bind fun x22 =>
            some (.inl (w32 (x.1 + 1), x22.2))
def f_Ma_layRow_j122 (v3 v4 : Int) (s : zSt) : Option (Int × zSt) :=
  if v3 < v4 then
    some (0, s)
  else
    (f_Ma_lengthOfLast (uS s 0 9 (w32 ((s.1 0 8) - 1)))).bind fun x2 =>
    some (0, (uS (uS s 0 9 (w32 ((s.1 0 8) - 1))) 0 10 (if (w32 ((s.1 0 6) - 1)) < (w32 ((w32 (x2 + v3)) - v4)) then (w32 ((s.1 0 6) - 1)) else (w32 ((w32 (x2 + v3)) - v4)))))
def f_Ma_layRow (a1 a2 a3 : Int) (s : zSt) : Option (Int × zSt) :=
  (f_Ma_cellsOf a1 a2 s).bind fun x1 =>
  (zloop (f_Ma_layRow_l11 a1 a2 a3 x1) zfu (0, s)).bind fun y2 =>
  if a3 < x1 then
    f_Ma_layRow_j122 a3 x1 y2
  else
    if a2 = 0 then
      f_Ma_layRow_j122 a3 x1 y2
    else
      some (0, (uS y2 0 11 1))
def f_Ma_putBack_l105 (c1 c3 c4 : Int)  (x : Int × zSt) : Option ((Int × zSt) ⊕ (zSt)) :=
  if 0 ≤ c4 ∧ c4 < x.2.1 9 0 then 
  if ((x.2.2 9) c4) ≤ x.1 then
    some (.inr x.2)
  else
    if 24 ≤ x.1 then
      some (.inr x.2)
    else
      if 0 ≤ c4 ∧ c4 < x.2.1 8 0 then 
      if (w32 (((x.2.2 8) c4) + x.1)) < 0 then
        if c3 ≤ c4 then
          (f_Pi_put (w32 (c4 - c3)) x.1 0 (zsb (zsh 1) x.2)).bind fun x7 =>
          some (.inl (w32 (x.1 + 1), (zpb (zsh 1) 3 x.2 x7.2)))
        else
          (f_Hi_putLatest x.1 0 (zsb (zsh 4) x.2)).bind fun x8 =>
          some (.inl (w32 (x.1 + 1), (zpb (zsh 4) 3 x.2 x8.2)))
      else
        if 1248 ≤ (w32 (((x.2.2 8) c4) + x.1)) then
          if c3 ≤ c4 then
            (f_Pi_put (w32 (c4 - c3)) x.1 0 (zsb (zsh 1) x.2)).bind fun x11 =>
            some (.inl (w32 (x.1 + 1), (zpb (zsh 1) 3 x.2 x11.2)))
          else
            (f_Hi_putLatest x.1 0 (zsb (zsh 4) x.2)).bind fun x12 =>
            some (.inl (w32 (x.1 + 1), (zpb (zsh 4) 3 x.2 x12.2)))
        else
          if 0 ≤ (w32 (((x.2.2 8) c4) + x.1)) ∧ (w32 (((x.2.2 8) c4) + x.1)) < x.2.1 7 0 then 
          if c3 ≤ c4 then
            (f_Pi_put (w32 (c4 - c3)) x.1 ((x.2.2 7) (w32 (((x.2.2 8) c4) + x.1))) (zsb (zsh 1) x.2)).bind fun x15 =>
            some (.inl (w32 (x.1 + 1), (zpb (zsh 1) 3 x.2 x15.2)))
          else
            (f_Hi_putLatest x.1 ((x.2.2 7) (w32 (((x.2.2 8) c4) + x.1))) (zsb (zsh 4) x.2)).bind fun x16 =>
            some (.inl (w32 (x.1 + 1), (zpb (zsh 4) 3 x.2 x16.2)))
           else none
       else none
   else none
def f_Ma_putBack_l26 (c1 c3 : Int)  (x : Int × zSt) : Option ((Int × zSt) ⊕ (zSt)) :=
  if (x.2.1 0 8) ≤ x.1 then
    some (.inr x.2)
  else
    if 512 ≤ x.1 then
      some (.inr x.2)
    else
      if c3 ≤ x.1 then
        if 0 ≤ x.1 ∧ x.1 < x.2.1 10 0 then 
        (f_Pi_setGoing (w32 (x.1 - c3)) (if ((x.2.2 10) x.1) = 0 then 0 else (if (w32 (c1 - 1)) ≤ (w32 (x.1 - c3)) then 0 else 1)) (zsb (zsh 1) x.2)).bind fun x7 =>
          (zloop (f_Ma_putBack_l105 c1 c3 x.1) zfu (0, (zpb (zsh 1) 3 x.2 x7.2))).bind fun y8 =>
          some (.inl (w32 (x.1 + 1), y8))
         else none
      else
        if 0 ≤ x.1 ∧ x.1 < x.2.1 10 0 then 
        (f_Hi_add ((x.2.2 10) x.1) (zsb (zsh 4) x.2)).bind fun x15 =>
        (zloop (f_Ma_putBack_l105 c1 c3 x.1) zfu (0, (zpb (zsh 4) 3 x.2 x15.2))).bind fun y16 =>
        some (.inl (w32 (x.1 + 1), y16))
         else none
def f_Ma_putBack (a1 a2 a3 : Int) (s : zSt) : Option (Int × zSt) :=
  (f_Hi_clear (zsb (zsh 4) s)).bind fun x1 =>
  (f_Pi_begin a1 a2 (zsb (zsh 1) (zpb (zsh 4) 3 s x1.2))).bind fun x2 =>
  (zloop (f_Ma_putBack_l26 a1 a3) zfu (if (w32 (a3 - 40)) < 0 then 0 else (w32 (a3 - 40)), (zpb (zsh 1) 3 (zpb (zsh 4) 3 s x1.2) x2.2))).bind fun y3 =>
  some (0, y3)
def f_Ma_wrap_l48 (c2 c3 c4 c5 : Int)  (x : Int × Int × zSt) : Option ((Int × Int × zSt) ⊕ (zSt)) :=
  if c5 ≤ x.2.1 then
    some (.inr x.2.2)
  else
    if ¬ x.1 = 0 then
      if c5 ≤ (w32 (x.2.1 + 1)) then
        (f_Ma_layRow x.2.1 0 (if ¬ x.2.1 = (w32 (c4 + (x.2.2.1 11 0))) then (-1) else (x.2.2.1 11 1)) (zsb (zsh 0) x.2.2)).bind fun x6 =>
          some (.inl (0, w32 (x.2.1 + 1), (zpb (zsh 0) 11 x.2.2 x6.2)))
      else
        (f_Ma_isGoing x.2.1 (zsb (zsh 0) x.2.2)).bind fun x9 =>
        (f_Ma_layRow x.2.1 (if x9 = 0 then 0 else 1) (if ¬ x.2.1 = (w32 (c4 + (x.2.2.1 11 0))) then (-1) else (x.2.2.1 11 1)) (zsb (zsh 0) x.2.2)).bind fun x14 =>
            some (.inl (if x9 = 0 then 0 else 1, w32 (x.2.1 + 1), (zpb (zsh 0) 11 x.2.2 x14.2)))
    else
      (f_Ma_beginRow (zsb (zsh 0) x.2.2)).bind fun x19 =>
      if c5 ≤ (w32 (x.2.1 + 1)) then
        (f_Ma_layRow x.2.1 0 (if ¬ x.2.1 = (w32 (c4 + (x.2.2.1 11 0))) then (-1) else (x.2.2.1 11 1)) (zsb (zsh 0) (zpb (zsh 0) 11 x.2.2 x19.2))).bind fun x23 =>
          some (.inl (0, w32 (x.2.1 + 1), (zpb (zsh 0) 11 (zpb (zsh 0) 11 x.2.2 x19.2) x23.2)))
      else
        (f_Ma_isGoing x.2.1 (zsb (zsh 0) (zpb (zsh 0) 11 x.2.2 x19.2))).bind fun x26 =>
        (f_Ma_layRow x.2.1 (if x26 = 0 then 0 else 1) (if ¬ x.2.1 = (w32 (c4 + (x.2.2.1 11 0))) then (-1) else (x.2.2.1 11 1)) (zsb (zsh 0) (zpb (zsh 0) 11 x.2.2 x19.2))).bind fun x31 =>
            some (.inl (if x26 = 0 then 0 else 1, w32 (x.2.1 + 1), (zpb (zsh 0) 11 (zpb (zsh 0) 11 x.2.2 x19.2) x31.2)))
def f_Ma_wrap (a2 a3 : Int) (s : zSt) : Option (Int × zSt) :=
  (f_Hi_count (zsb (zsh 4) (uS (uS (uS (uS s 0 6 a3) 0 7 0) 0 8 0) 0 11 0))).bind fun x1 =>
  (f_Ma_keptRows (s.1 11 0) (zsb (zsh 0) (uS (uS (uS (uS s 0 6 a3) 0 7 0) 0 8 0) 0 11 0))).bind fun x2 =>
  (zloop (f_Ma_wrap_l48 a2 a3 x1 (w32 (x1 + x2))) zfu (0, 0, (uS (uS (uS (uS s 0 6 a3) 0 7 0) 0 8 0) 0 11 0))).bind fun y3 =>
  (f_Ma_putBack a2 a3 (if (y3.1 0 9) < (if (w32 ((y3.1 0 8) - a2)) < 0 then 0 else (w32 ((y3.1 0 8) - a2))) then (y3.1 0 9) else (if (w32 ((y3.1 0 8) - a2)) < 0 then 0 else (w32 ((y3.1 0 8) - a2)))) (zsb (zsh 0) y3)).bind fun x4 =>
  some (0, (uS (uS (uS (zpb (zsh 0) 11 y3 x4.2) 11 0 (w32 ((x4.2.1 0 9) - (if (y3.1 0 9) < (if (w32 ((y3.1 0 8) - a2)) < 0 then 0 else (w32 ((y3.1 0 8) - a2))) then (y3.1 0 9) else (if (w32 ((y3.1 0 8) - a2)) < 0 then 0 else (w32 ((y3.1 0 8) - a2))))))) 11 1 (x4.2.1 0 10)) 11 2 (if (y3.1 11 2) = 0 then 0 else (if ¬ (x4.2.1 0 10) = (w32 ((x4.2.1 0 6) - 1)) then 0 else 1))))
def f_Sc_has (a1 a2 : Int) (s : zSt) : Option Int :=
  some (if a1 < 0 then 0 else (if (s.1 0 9) ≤ a1 then 0 else (if a2 < 0 then 0 else (if (s.1 0 10) ≤ a2 then 0 else 1))))
def f_Sc_nextTab_l10  (s : zSt) (x : Int) : Option ((Int) ⊕ (Int)) :=
  if (s.1 0 10) ≤ x then
    some (.inr (-1))
  else
    if x < 0 then
      some (.inl (w32 (x + 1)))
    else
      if 24 ≤ x then
        some (.inl (w32 (x + 1)))
      else
        if 0 ≤ x ∧ x < s.1 26 0 then 
        if ((s.2 26) x) = 0 then
          some (.inl (w32 (x + 1)))
        else
          some (.inr x)
         else none
def f_Sc_nextTab  (s : zSt) : Option Int :=
  zloop (f_Sc_nextTab_l10 s) zfu (w32 ((s.1 12 1) + 1))
def f_Sc_setTab (a1 a2 : Int) (s : zSt) : Option (Int × zSt) :=
  if a1 < 0 then
    some (0, s)
  else
    if 24 ≤ a1 then
      some (0, s)
    else
      if (0 ≤ a1 ∧ a1 < s.1 26 0) ∧ (a2 = 0 ∨ a2 = 1) then some (0, (uE s 26 a1 a2)) else none
def f_Sc_endsLate (a0 : Int)  : Option Int :=
  if a0 = 64 then
    some 1
  else if a0 = 65 then
    some 1
  else if a0 = 66 then
    some 1
  else if a0 = 67 then
    some 1
  else if a0 = 68 then
    some 1
  else if a0 = 72 then
    some 1
  else if a0 = 74 then
    some 1
  else if a0 = 75 then
    some 1
  else if a0 = 76 then
    some 1
  else if a0 = 77 then
    some 1
  else if a0 = 80 then
    some 1
  else if a0 = 88 then
    some 1
  else if a0 = 114 then
    some 1
  else some 0
def f_Sc_tellPlaces (a1 : Int) (s : zSt) : Option Int :=
  if a1 = 0 then
    some (s.1 12 0)
  else if a1 = 1 then
    some (s.1 12 1)
  else if a1 = 2 then
    some (if (s.1 12 2) = 0 then 0 else 1)
  else if a1 = 3 then
    some (s.1 14 3)
  else if a1 = 4 then
    some (s.1 12 3)
  else if a1 = 5 then
    some (s.1 0 12)
  else if a1 = 6 then
    some (s.1 0 13)
  else if a1 = 7 then
    some (s.1 0 9)
  else if a1 = 8 then
    some (s.1 0 10)
  else if a1 = 9 then
    (f_Hi_count (zsb (zsh 5) s)).bind fun x15 =>
    some x15
  else some (-1)
def f_Sc_setFirstTabs_l6   (x : Int × zSt) : Option ((Int × zSt) ⊕ (zSt)) :=
  if 24 ≤ x.1 then
    some (.inr x.2)
  else
    if 0 ≤ x.1 ∧ x.1 < x.2.1 26 0 then some (.inl (w32 (x.1 + 1), (uE x.2 26 x.1 (if (x.2.1 0 10) ≤ x.1 then 0 else (if ¬ (wRem x.1 4) = 0 then 0 else 1))))) else none
def f_Sc_setFirstTabs (a1 : Int) (s : zSt) : Option (Int × zSt) :=
  (zloop (f_Sc_setFirstTabs_l6) zfu (if a1 < 0 then 0 else a1, s)).bind fun y1 =>
  some (0, y1)
def f_Sc_addMark_j55 (v2 : Int) (s : zSt) : Option (Int × zSt) :=
  (f_Pi_at (s.1 12 0) v2 (zsb (zsh 2) s)).bind fun x1 =>
  if x1 ≤ 0 then
    some (0, s)
  else
    (f_Co_marksOf x1).bind fun x3 =>
    if 3 ≤ x3 then
      some (0, s)
    else
      (f_Pi_put (s.1 12 0) v2 (w32 (x1 + 100000)) (zsb (zsh 2) s)).bind fun x5 =>
      some (0, (zpb (zsh 2) 3 s x5.2))
def f_Sc_addMark_j55_1 (v2 : Int) (s : zSt) : Option (Int × zSt) :=
  (f_Pi_at (s.1 12 0) v2 (zsb (zsh 22) s)).bind fun x1 =>
  if x1 ≤ 0 then
    some (0, s)
  else
    (f_Co_marksOf x1).bind fun x3 =>
    if 3 ≤ x3 then
      some (0, s)
    else
      (f_Pi_put (s.1 12 0) v2 (w32 (x1 + 100000)) (zsb (zsh 22) s)).bind fun x5 =>
      some (0, (zpb (zsh 22) 3 s x5.2))
def f_Sc_addMark  (s : zSt) : Option (Int × zSt) :=
  if s.1 0 8 = 0 then
    (f_Pi_at (s.1 12 0) (if (s.1 12 2) = 0 then (w32 ((s.1 12 1) - 1)) else (s.1 12 1)) (zsb (zsh 2) s)).bind fun x4 =>
      if ¬ x4 = (-2) then
        f_Sc_addMark_j55 (if (s.1 12 2) = 0 then (w32 ((s.1 12 1) - 1)) else (s.1 12 1)) s
      else
        f_Sc_addMark_j55 (w32 ((if (s.1 12 2) = 0 then (w32 ((s.1 12 1) - 1)) else (s.1 12 1)) + (-1))) s
  else
    (f_Pi_at (s.1 12 0) (if (s.1 12 2) = 0 then (w32 ((s.1 12 1) - 1)) else (s.1 12 1)) (zsb (zsh 22) s)).bind fun x10 =>
      if ¬ x10 = (-2) then
        f_Sc_addMark_j55_1 (if (s.1 12 2) = 0 then (w32 ((s.1 12 1) - 1)) else (s.1 12 1)) s
      else
        f_Sc_addMark_j55_1 (w32 ((if (s.1 12 2) = 0 then (w32 ((s.1 12 1) - 1)) else (s.1 12 1)) + (-1))) s
def f_Sc_endAbove (a1 : Int) (s : zSt) : Option (Int × zSt) :=
  if a1 ≤ 0 then
    if ¬ (s.1 0 8) = 0 then
      some (0, s)
    else
      (f_Hi_endLatest (zsb (zsh 5) s)).bind fun x3 =>
      some (0, (zpb (zsh 5) 3 s x3.2))
  else
    if s.1 0 8 = 0 then
      (f_Pi_setGoing (w32 (a1 - 1)) 0 (zsb (zsh 2) s)).bind fun x5 =>
      some (0, (zpb (zsh 2) 3 s x5.2))
    else
      (f_Pi_setGoing (w32 (a1 - 1)) 0 (zsb (zsh 22) s)).bind fun x6 =>
      some (0, (zpb (zsh 22) 3 s x6.2))
def f_Sc_bringBack  (s : zSt) : Option (Int × zSt) :=
  (f_Cu_copy (zsb (zsl [12, 25]) s)).bind fun x1 =>
  some (0, (uS (uS (uS (zpb (zsl [12, 25]) 2 s x1.2) 12 0 (if (w32 ((s.1 0 9) - 1)) < (x1.2.1 0 0) then (w32 ((s.1 0 9) - 1)) else (x1.2.1 0 0))) 12 1 (if (w32 ((s.1 0 10) - 1)) < (x1.2.1 0 1) then (w32 ((s.1 0 10) - 1)) else (x1.2.1 0 1))) 12 2 (if (x1.2.1 0 2) = 0 then 0 else (if ¬ ((if (w32 ((s.1 0 10) - 1)) < (x1.2.1 0 1) then (w32 ((s.1 0 10) - 1)) else (x1.2.1 0 1)) : Int) = (w32 ((s.1 0 10) - 1)) then 0 else (if (s.1 13 1) = 0 then 0 else 1)))))
def f_Sc_goTo (a1 a2 : Int) (s : zSt) : Option (Int × zSt) :=
  (f_Cu_goTo (if (if (s.1 12 4) = 0 then (w32 ((s.1 0 9) - 1)) else (s.1 0 13)) < (w32 ((w32 ((if (s.1 12 4) = 0 then 0 else (s.1 0 12)) + a1)) - 1)) then (if (s.1 12 4) = 0 then (w32 ((s.1 0 9) - 1)) else (s.1 0 13)) else (w32 ((w32 ((if (s.1 12 4) = 0 then 0 else (s.1 0 12)) + a1)) - 1))) (w32 ((if (s.1 0 10) < a2 then (s.1 0 10) else a2) - 1)) (zsb (zsh 12) s)).bind fun x5 =>
      some (0, (zpb (zsh 12) 1 s x5.2))
def f_Sc_setAttribute_l2   (x : Int × zSt) : Option ((Int × zSt) ⊕ (zSt)) :=
  if (x.2.1 14 4) ≤ x.1 then
    some (.inr x.2)
  else
    (f_Re_number x.1 (zsb (zsh 14) x.2)).bind fun x2 =>
    if ¬ x2 = 0 then
      if x2 < 1 then
        if x2 < 21 then
          some (.inl (w32 (x.1 + 1), x.2))
        else
          if 24 < x2 then
            some (.inl (w32 (x.1 + 1), x.2))
          else
            some (.inl (w32 (x.1 + 1), (uS x.2 12 3 (wAnd (x.2.1 12 3) (wXor (wShl 1 (w32 (x2 - 21))) (-1))))))
      else
        if 4 < x2 then
          if x2 < 21 then
            some (.inl (w32 (x.1 + 1), x.2))
          else
            if 24 < x2 then
              some (.inl (w32 (x.1 + 1), x.2))
            else
              some (.inl (w32 (x.1 + 1), (uS x.2 12 3 (wAnd (x.2.1 12 3) (wXor (wShl 1 (w32 (x2 - 21))) (-1))))))
        else
          some (.inl (w32 (x.1 + 1), (uS x.2 12 3 (wOr (x.2.1 12 3) (wShl 1 (w32 (x2 - 1)))))))
    else
      some (.inl (w32 (x.1 + 1), (uS x.2 12 3 0)))
def f_Sc_setAttribute  (s : zSt) : Option (Int × zSt) :=
  (zloop (f_Sc_setAttribute_l2) zfu (0, s)).bind fun y1 =>
  some (0, y1)
def f_Sc_clearTabs_l26   (x : Int × zSt) : Option ((Int × zSt) ⊕ (zSt)) :=
  if 24 ≤ x.1 then
    some (.inr x.2)
  else
    if 0 ≤ x.1 ∧ x.1 < x.2.1 26 0 then some (.inl (w32 (x.1 + 1), (uE x.2 26 x.1 0))) else none
def f_Sc_clearTabs (a1 : Int) (s : zSt) : Option (Int × zSt) :=
  if ¬ a1 = 0 then
    if ¬ a1 = 3 then
      some (0, s)
    else
      (zloop (f_Sc_clearTabs_l26) zfu (0, s)).bind fun y3 =>
      some (0, y3)
  else
    (f_Sc_setTab (s.1 12 1) 0 s).bind fun x4 =>
    some (0, x4.2)
def f_Sc_setInsert_l2 (c1 : Int)  (x : Int × zSt) : Option ((Int × zSt) ⊕ (zSt)) :=
  if (x.2.1 14 4) ≤ x.1 then
    some (.inr x.2)
  else
    (f_Re_number x.1 (zsb (zsh 14) x.2)).bind fun x2 =>
    if ¬ x2 = 4 then
      some (.inl (w32 (x.1 + 1), x.2))
    else
      if c1 = 0 ∨ c1 = 1 then some (.inl (w32 (x.1 + 1), (uS x.2 13 5 c1))) else none
def f_Sc_setInsert (a1 : Int) (s : zSt) : Option (Int × zSt) :=
  (zloop (f_Sc_setInsert_l2 a1) zfu (0, s)).bind fun y1 =>
  some (0, y1)
def f_Sc_setRegion_j39 (v1 k0 : Int) (s : zSt) : Option (Int × zSt) :=
  if k0 ≤ v1 then
    some (0, s)
  else
    if k0 ≤ (s.1 0 9) then
      (f_Sc_goTo 1 1 (uS (uS s 0 12 (w32 (v1 - 1))) 0 13 (w32 (k0 - 1)))).bind fun x3 =>
      some (0, x3.2)
    else
      some (0, s)
def f_Sc_setRegion  (s : zSt) : Option (Int × zSt) :=
  (f_Re_number 0 (zsb (zsh 14) s)).bind fun x1 =>
  (f_Re_number 1 (zsb (zsh 14) s)).bind fun x2 =>
  if ¬ x2 = 0 then
    (f_Re_number 1 (zsb (zsh 14) s)).bind fun x4 =>
    f_Sc_setRegion_j39 (if x1 < 1 then 1 else x1) x4 s
  else
    f_Sc_setRegion_j39 (if x1 < 1 then 1 else x1) (s.1 0 9) s
def f_Sc_eraseOtherRows_l22 (c1 : Int)  (x : Int × zSt) : Option ((Int × zSt) ⊕ (zSt)) :=
  if (x.2.1 0 9) ≤ x.1 then
    some (.inr x.2)
  else
    if c1 = 2 then
      (f_Pi_clearRow x.1 (zsb (zsh 2) x.2)).bind fun x3 =>
      some (.inl (w32 (x.1 + 1), (zpb (zsh 2) 3 x.2 x3.2)))
    else
      if ¬ c1 = 0 then
        if ¬ c1 = 1 then
          some (.inl (w32 (x.1 + 1), x.2))
        else
          if (x.2.1 12 0) ≤ x.1 then
            some (.inl (w32 (x.1 + 1), x.2))
          else
            (f_Pi_clearRow x.1 (zsb (zsh 2) x.2)).bind fun x7 =>
            some (.inl (w32 (x.1 + 1), (zpb (zsh 2) 3 x.2 x7.2)))
      else
        if (x.2.1 12 0) < x.1 then
          (f_Pi_clearRow x.1 (zsb (zsh 2) x.2)).bind fun x9 =>
          some (.inl (w32 (x.1 + 1), (zpb (zsh 2) 3 x.2 x9.2)))
        else
          if ¬ c1 = 1 then
            some (.inl (w32 (x.1 + 1), x.2))
          else
            if (x.2.1 12 0) ≤ x.1 then
              some (.inl (w32 (x.1 + 1), x.2))
            else
              (f_Pi_clearRow x.1 (zsb (zsh 2) x.2)).bind fun x12 =>
              some (.inl (w32 (x.1 + 1), (zpb (zsh 2) 3 x.2 x12.2)))
def f_Sc_eraseOtherRows_l22_1 (c1 : Int)  (x : Int × zSt) : Option ((Int × zSt) ⊕ (zSt)) :=
  if (x.2.1 0 9) ≤ x.1 then
    some (.inr x.2)
  else
    if c1 = 2 then
      (f_Pi_clearRow x.1 (zsb (zsh 22) x.2)).bind fun x3 =>
      some (.inl (w32 (x.1 + 1), (zpb (zsh 22) 3 x.2 x3.2)))
    else
      if ¬ c1 = 0 then
        if ¬ c1 = 1 then
          some (.inl (w32 (x.1 + 1), x.2))
        else
          if (x.2.1 12 0) ≤ x.1 then
            some (.inl (w32 (x.1 + 1), x.2))
          else
            (f_Pi_clearRow x.1 (zsb (zsh 22) x.2)).bind fun x7 =>
            some (.inl (w32 (x.1 + 1), (zpb (zsh 22) 3 x.2 x7.2)))
      else
        if (x.2.1 12 0) < x.1 then
          (f_Pi_clearRow x.1 (zsb (zsh 22) x.2)).bind fun x9 =>
          some (.inl (w32 (x.1 + 1), (zpb (zsh 22) 3 x.2 x9.2)))
        else
          if ¬ c1 = 1 then
            some (.inl (w32 (x.1 + 1), x.2))
          else
            if (x.2.1 12 0) ≤ x.1 then
              some (.inl (w32 (x.1 + 1), x.2))
            else
              (f_Pi_clearRow x.1 (zsb (zsh 22) x.2)).bind fun x12 =>
              some (.inl (w32 (x.1 + 1), (zpb (zsh 22) 3 x.2 x12.2)))
def f_Sc_eraseOtherRows_j15 (v1 : Int) (s : zSt) : Option (Int × zSt) :=
  if s.1 0 8 = 0 then
    (zloop (f_Sc_eraseOtherRows_l22 v1) zfu (0, s)).bind fun y2 =>
    some (0, y2)
  else
    (zloop (f_Sc_eraseOtherRows_l22_1 v1) zfu (0, s)).bind fun y3 =>
    some (0, y3)
def f_Sc_eraseOtherRows (a1 : Int) (s : zSt) : Option (Int × zSt) :=
  if ¬ a1 = 3 then
    f_Sc_eraseOtherRows_j15 a1 s
  else
    (f_Hi_clear (zsb (zsh 5) s)).bind fun x2 =>
    f_Sc_eraseOtherRows_j15 a1 (zpb (zsh 5) 3 s x2.2)
def f_Sc_eraseRow (a1 : Int) (s : zSt) : Option (Int × zSt) :=
  if a1 < 0 then
    some (0, s)
  else
    if a1 ≤ 2 then
      if s.1 0 8 = 0 then
            (f_Pi_erase (s.1 12 0) (if ¬ a1 = 0 then 0 else (s.1 12 1)) (if ¬ a1 = 1 then (s.1 0 10) else (w32 ((s.1 12 1) + 1))) (zsb (zsh 2) s)).bind fun x8 =>
            if ((if ¬ a1 = 1 then (s.1 0 10) else (w32 ((s.1 12 1) + 1))) : Int) < (s.1 0 10) then
              some (0, (zpb (zsh 2) 3 s x8.2))
            else
              if s.1 0 8 = 0 then
                (f_Pi_setGoing (s.1 12 0) 0 (zsb (zsh 2) (zpb (zsh 2) 3 s x8.2))).bind fun x11 =>
                some (0, (zpb (zsh 2) 3 (zpb (zsh 2) 3 s x8.2) x11.2))
              else
                (f_Pi_setGoing (s.1 12 0) 0 (zsb (zsh 22) (zpb (zsh 2) 3 s x8.2))).bind fun x12 =>
                some (0, (zpb (zsh 22) 3 (zpb (zsh 2) 3 s x8.2) x12.2))
          else
            (f_Pi_erase (s.1 12 0) (if ¬ a1 = 0 then 0 else (s.1 12 1)) (if ¬ a1 = 1 then (s.1 0 10) else (w32 ((s.1 12 1) + 1))) (zsb (zsh 22) s)).bind fun x13 =>
            if ((if ¬ a1 = 1 then (s.1 0 10) else (w32 ((s.1 12 1) + 1))) : Int) < (s.1 0 10) then
              some (0, (zpb (zsh 22) 3 s x13.2))
            else
              if s.1 0 8 = 0 then
                (f_Pi_setGoing (s.1 12 0) 0 (zsb (zsh 2) (zpb (zsh 22) 3 s x13.2))).bind fun x16 =>
                some (0, (zpb (zsh 2) 3 (zpb (zsh 22) 3 s x13.2) x16.2))
              else
                (f_Pi_setGoing (s.1 12 0) 0 (zsb (zsh 22) (zpb (zsh 22) 3 s x13.2))).bind fun x17 =>
                some (0, (zpb (zsh 22) 3 (zpb (zsh 22) 3 s x13.2) x17.2))
    else
      some (0, s)
def f_Sc_answer_j12 (v1 : Int) (s : zSt) : Option (Int × zSt) :=
  (f_By_add 27 (zsb (zsh 20) s)).bind fun x1 =>
  (f_By_add 91 (zsb (zsh 20) (zpb (zsh 20) 2 s x1.2))).bind fun x2 =>
  if ¬ v1 = 5 then
    (f_By_addNumber (if (w32 ((w32 ((s.1 12 0) - (if (s.1 12 4) = 0 then 0 else (s.1 0 12)))) + 1)) < 1 then 1 else (w32 ((w32 ((s.1 12 0) - (if (s.1 12 4) = 0 then 0 else (s.1 0 12)))) + 1))) (zsb (zsh 20) (zpb (zsh 20) 2 (zpb (zsh 20) 2 s x1.2) x2.2))).bind fun x6 =>
      (f_By_add 59 (zsb (zsh 20) (zpb (zsh 20) 2 (zpb (zsh 20) 2 (zpb (zsh 20) 2 s x1.2) x2.2) x6.2))).bind fun x7 =>
      (f_By_addNumber (w32 ((s.1 12 1) + 1)) (zsb (zsh 20) (zpb (zsh 20) 2 (zpb (zsh 20) 2 (zpb (zsh 20) 2 (zpb (zsh 20) 2 s x1.2) x2.2) x6.2) x7.2))).bind fun x8 =>
      (f_By_add 82 (zsb (zsh 20) (zpb (zsh 20) 2 (zpb (zsh 20) 2 (zpb (zsh 20) 2 (zpb (zsh 20) 2 (zpb (zsh 20) 2 s x1.2) x2.2) x6.2) x7.2) x8.2))).bind fun x9 =>
      some (0, (zpb (zsh 20) 2 (zpb (zsh 20) 2 (zpb (zsh 20) 2 (zpb (zsh 20) 2 (zpb (zsh 20) 2 (zpb (zsh 20) 2 s x1.2) x2.2) x6.2) x7.2) x8.2) x9.2))
  else
    (f_By_add 48 (zsb (zsh 20) (zpb (zsh 20) 2 (zpb (zsh 20) 2 s x1.2) x2.2))).bind fun x12 =>
    (f_By_add 110 (zsb (zsh 20) (zpb (zsh 20) 2 (zpb (zsh 20) 2 (zpb (zsh 20) 2 s x1.2) x2.2) x12.2))).bind fun x13 =>
    some (0, (zpb (zsh 20) 2 (zpb (zsh 20) 2 (zpb (zsh 20) 2 (zpb (zsh 20) 2 s x1.2) x2.2) x12.2) x13.2))
def f_Sc_answer (a1 : Int) (s : zSt) : Option (Int × zSt) :=
  if a1 = 5 then
    f_Sc_answer_j12 a1 s
  else
    if a1 = 6 then
      f_Sc_answer_j12 a1 s
    else
      some (0, s)
def f_Sc_scrollUp_j87 (v1 v2 v5 : Int) (s : zSt) : Option (Int × zSt) :=
  (f_Pi_moveUp v1 v2 (zsb (zsh 2) s)).bind fun x1 =>
  if ¬ v5 = 0 then
    some (0, (zpb (zsh 2) 3 s x1.2))
  else
    (f_Sc_endAbove v1 (zpb (zsh 2) 3 s x1.2)).bind fun x3 =>
    some (0, x3.2)
def f_Sc_scrollUp_l52 (c1 c2 c5 : Int)  (x : Int × zSt) : Option ((Int × zSt) ⊕ (zSt)) :=
  if (x.2.1 0 10) ≤ x.1 then
    some (.inr x.2)
  else
    (f_Pi_at 0 x.1 (zsb (zsh 2) x.2)).bind fun x2 =>
    (f_Hi_putLatest x.1 x2 (zsb (zsh 5) x.2)).bind fun x3 =>
    some (.inl (w32 (x.1 + 1), (zpb (zsh 5) 3 x.2 x3.2)))
def f_Sc_scrollUp_j87_1 (v1 v2 v5 : Int) (s : zSt) : Option (Int × zSt) :=
  (f_Pi_moveUp v1 v2 (zsb (zsh 22) s)).bind fun x1 =>
  if ¬ v5 = 0 then
    some (0, (zpb (zsh 22) 3 s x1.2))
  else
    (f_Sc_endAbove v1 (zpb (zsh 22) 3 s x1.2)).bind fun x3 =>
    some (0, x3.2)
def f_Sc_scrollUp_l52_1 (c1 c2 c5 : Int)  (x : Int × zSt) : Option ((Int × zSt) ⊕ (zSt)) :=
  if (x.2.1 0 10) ≤ x.1 then
    some (.inr x.2)
  else
    (f_Pi_at 0 x.1 (zsb (zsh 22) x.2)).bind fun x2 =>
    (f_Hi_putLatest x.1 x2 (zsb (zsh 5) x.2)).bind fun x3 =>
    some (.inl (w32 (x.1 + 1), (zpb (zsh 5) 3 x.2 x3.2)))
def f_Sc_scrollUp (a1 a2 a3 : Int) (s : zSt) : Option (Int × zSt) :=
  if s.1 0 8 = 0 then
    if ((if a3 = 0 then 0 else (if ¬ a1 = 0 then 0 else (if ¬ (s.1 0 8) = 0 then 0 else 1))) : Int) = 0 then
        f_Sc_scrollUp_j87 a1 a2 (if a3 = 0 then 0 else (if ¬ a1 = 0 then 0 else (if ¬ (s.1 0 8) = 0 then 0 else 1))) s
      else
        (f_Pi_isGoing 0 (zsb (zsh 2) s)).bind fun x5 =>
        (f_Hi_add x5 (zsb (zsh 5) s)).bind fun x6 =>
        (zloop (f_Sc_scrollUp_l52 a1 a2 (if a3 = 0 then 0 else (if ¬ a1 = 0 then 0 else (if ¬ (s.1 0 8) = 0 then 0 else 1)))) zfu (0, (zpb (zsh 5) 3 s x6.2))).bind fun y7 =>
        f_Sc_scrollUp_j87 a1 a2 (if a3 = 0 then 0 else (if ¬ a1 = 0 then 0 else (if ¬ (s.1 0 8) = 0 then 0 else 1))) y7
  else
    if ((if a3 = 0 then 0 else (if ¬ a1 = 0 then 0 else (if ¬ (s.1 0 8) = 0 then 0 else 1))) : Int) = 0 then
        f_Sc_scrollUp_j87_1 a1 a2 (if a3 = 0 then 0 else (if ¬ a1 = 0 then 0 else (if ¬ (s.1 0 8) = 0 then 0 else 1))) s
      else
        (f_Pi_isGoing 0 (zsb (zsh 22) s)).bind fun x19 =>
        (f_Hi_add x19 (zsb (zsh 5) s)).bind fun x20 =>
        (zloop (f_Sc_scrollUp_l52_1 a1 a2 (if a3 = 0 then 0 else (if ¬ a1 = 0 then 0 else (if ¬ (s.1 0 8) = 0 then 0 else 1)))) zfu (0, (zpb (zsh 5) 3 s x20.2))).bind fun y21 =>
        f_Sc_scrollUp_j87_1 a1 a2 (if a3 = 0 then 0 else (if ¬ a1 = 0 then 0 else (if ¬ (s.1 0 8) = 0 then 0 else 1))) y21
def f_Sc_scrollDown (a1 a2 : Int) (s : zSt) : Option (Int × zSt) :=
  if s.1 0 8 = 0 then
    (f_Pi_moveDown a1 a2 (zsb (zsh 2) s)).bind fun x2 =>
    (f_Sc_endAbove a1 (zpb (zsh 2) 3 s x2.2)).bind fun x3 =>
    some (0, x3.2)
  else
    (f_Pi_moveDown a1 a2 (zsb (zsh 22) s)).bind fun x4 =>
    (f_Sc_endAbove a1 (zpb (zsh 22) 3 s x4.2)).bind fun x5 =>
    some (0, x5.2)
def f_Sc_reset  (s : zSt) : Option (Int × zSt) :=
  (f_Pi_clear (zsb (zsh 2) (uS s 0 8 0))).bind fun x1 =>
  (f_Pi_clear (zsb (zsh 22) (zpb (zsh 2) 3 (uS s 0 8 0) x1.2))).bind fun x2 =>
  (f_Cu_reset (zsb (zsh 12) (zpb (zsh 22) 3 (zpb (zsh 2) 3 (uS s 0 8 0) x1.2) x2.2))).bind fun x3 =>
  (f_Cu_reset (zsb (zsh 25) (zpb (zsh 12) 1 (zpb (zsh 22) 3 (zpb (zsh 2) 3 (uS s 0 8 0) x1.2) x2.2) x3.2))).bind fun x4 =>
  (f_Md_reset (zsb (zsh 13) (zpb (zsh 25) 1 (zpb (zsh 12) 1 (zpb (zsh 22) 3 (zpb (zsh 2) 3 (uS s 0 8 0) x1.2) x2.2) x3.2) x4.2))).bind fun x5 =>
  (f_Sc_setFirstTabs 0 (uS (uS (zpb (zsh 13) 1 (zpb (zsh 25) 1 (zpb (zsh 12) 1 (zpb (zsh 22) 3 (zpb (zsh 2) 3 (uS s 0 8 0) x1.2) x2.2) x3.2) x4.2) x5.2) 0 12 0) 0 13 (w32 ((s.1 0 9) - 1)))).bind fun x6 =>
  (f_Hi_endLatest (zsb (zsh 5) x6.2)).bind fun x7 =>
  some (0, (zpb (zsh 5) 3 x6.2 x7.2))
def f_Sc_showOther (a1 : Int) (s : zSt) : Option (Int × zSt) :=
  if ¬ a1 = (s.1 0 8) then
    if a1 = 0 ∨ a1 = 1 then 
    if a1 = 0 then
      (f_Sc_bringBack (uS s 0 8 a1)).bind fun x4 =>
      some (0, x4.2)
    else
      (f_Cu_copy (zsb (zsl [25, 12]) (uS s 0 8 a1))).bind fun x5 =>
      (f_Pi_clear (zsb (zsh 22) (zpb (zsl [25, 12]) 2 (uS s 0 8 a1) x5.2))).bind fun x6 =>
      some (0, (zpb (zsh 22) 3 (zpb (zsl [25, 12]) 2 (uS s 0 8 a1) x5.2) x6.2))
     else none
  else
    some (0, s)
def f_Sc_feed  (s : zSt) : Option (Int × zSt) :=
  if ¬ (s.1 12 0) = (s.1 0 13) then
    if (w32 ((s.1 0 9) - 1)) ≤ (s.1 12 0) then
      some (0, s)
    else
      some (0, (uS s 12 0 (w32 ((s.1 12 0) + 1))))
  else
    (f_Sc_scrollUp (s.1 0 12) (s.1 0 13) 1 s).bind fun x3 =>
    some (0, x3.2)
def f_Sc_feedBack  (s : zSt) : Option (Int × zSt) :=
  if ¬ (s.1 12 0) = (s.1 0 12) then
    if (s.1 12 0) ≤ 0 then
      some (0, s)
    else
      some (0, (uS s 12 0 (w32 ((s.1 12 0) - 1))))
  else
    (f_Sc_scrollDown (s.1 0 12) (s.1 0 13) s).bind fun x3 =>
    some (0, x3.2)
def f_Sc_moveLines_l39 (c2 c3 : Int)  (x : Int × zSt) : Option ((Int × zSt) ⊕ (zSt)) :=
  if c3 ≤ x.1 then
    some (.inr x.2)
  else
    if c2 = 0 then
      (f_Sc_scrollDown (x.2.1 12 0) (x.2.1 0 13) x.2).bind fun x3 =>
      some (.inl (w32 (x.1 + 1), x3.2))
    else
      (f_Sc_scrollUp (x.2.1 12 0) (x.2.1 0 13) 0 x.2).bind fun x4 =>
      some (.inl (w32 (x.1 + 1), x4.2))
def f_Sc_moveLines (a1 a2 : Int) (s : zSt) : Option (Int × zSt) :=
  if (s.1 12 0) < (s.1 0 12) then
    some (0, s)
  else
    if (s.1 12 0) ≤ (s.1 0 13) then
      (zloop (f_Sc_moveLines_l39 a2 (if 12 < a1 then 12 else a1)) zfu (0, s)).bind fun y3 =>
      some (0, (uS y3 12 1 0))
    else
      some (0, s)
def f_Sc_scroll_l10 (c2 c3 : Int)  (x : Int × zSt) : Option ((Int × zSt) ⊕ (zSt)) :=
  if c3 ≤ x.1 then
    some (.inr x.2)
  else
    if c2 = 0 then
      (f_Sc_scrollDown (x.2.1 0 12) (x.2.1 0 13) x.2).bind fun x3 =>
      some (.inl (w32 (x.1 + 1), x3.2))
    else
      (f_Sc_scrollUp (x.2.1 0 12) (x.2.1 0 13) 1 x.2).bind fun x4 =>
      some (.inl (w32 (x.1 + 1), x4.2))
def f_Sc_scroll (a1 a2 : Int) (s : zSt) : Option (Int × zSt) :=
  (zloop (f_Sc_scroll_l10 a2 (if 52 < a1 then 52 else a1)) zfu (0, s)).bind fun y1 =>
  some (0, y1)
def f_Sc_setMarkedMode (a1 a2 : Int) (s : zSt) : Option (Int × zSt) :=
  if a1 = 1 then
    if a2 = 0 ∨ a2 = 1 then some (0, (uS s 13 0 a2)) else none
  else if a1 = 6 then
    if a2 = 0 ∨ a2 = 1 then 
    (f_Sc_goTo 1 1 (uS s 12 4 a2)).bind fun x5 =>
    some (0, x5.2)
     else none
  else if a1 = 7 then
    if a2 = 0 ∨ a2 = 1 then some (0, (uS (uS s 13 1 a2) 12 2 (if (s.1 12 2) = 0 then 0 else (if a2 = 0 then 0 else 1)))) else none
  else if a1 = 25 then
    if a2 = 0 ∨ a2 = 1 then some (0, (uS s 13 2 a2)) else none
  else if a1 = 47 then
    (f_Sc_showOther a2 s).bind fun x18 =>
    some (0, x18.2)
  else if a1 = 100 then
    if a2 = 0 ∨ a2 = 1 then some (0, (uS s 13 3 a2)) else none
  else if a1 = 204 then
    if a2 = 0 ∨ a2 = 1 then some (0, (uS s 13 4 a2)) else none
  else some (0, s)
def f_Sc_drawSign_j259 (v3 v4 : Int) (s : zSt) : Option (Int × zSt) :=
  some (0, (uS (uS (uS s 12 1 (w32 ((s.1 12 1) + v3))) 12 2 (if (w32 ((s.1 12 1) + v3)) ≤ v4 then 0 else (if (s.1 13 1) = 0 then 0 else 1))) 12 1 (if v4 < (w32 ((s.1 12 1) + v3)) then v4 else (w32 ((s.1 12 1) + v3)))))
def f_Sc_drawSign_j174 (v1 v3 v4 : Int) (s : zSt) : Option (Int × zSt) :=
  (f_Pi_erase (s.1 12 0) (s.1 12 1) (w32 ((s.1 12 1) + v3)) (zsb (zsh 2) s)).bind fun x1 =>
  (f_Pi_put (s.1 12 0) (s.1 12 1) (w32 (v1 + (w32 (1000 * (s.1 12 3))))) (zsb (zsh 2) (zpb (zsh 2) 3 s x1.2))).bind fun x2 =>
  if ¬ v3 = 2 then
    f_Sc_drawSign_j259 v3 v4 (zpb (zsh 2) 3 (zpb (zsh 2) 3 s x1.2) x2.2)
  else
    (f_Pi_put (s.1 12 0) (w32 ((s.1 12 1) + 1)) (-2) (zsb (zsh 2) (zpb (zsh 2) 3 (zpb (zsh 2) 3 s x1.2) x2.2))).bind fun x4 =>
    f_Sc_drawSign_j259 v3 v4 (zpb (zsh 2) 3 (zpb (zsh 2) 3 (zpb (zsh 2) 3 s x1.2) x2.2) x4.2)
def f_Sc_drawSign_j145 (v1 v3 v4 : Int) (s : zSt) : Option (Int × zSt) :=
  if (s.1 13 5) = 0 then
    f_Sc_drawSign_j174 v1 v3 v4 s
  else
    (f_Pi_insert (s.1 12 0) (s.1 12 1) v3 (zsb (zsh 2) s)).bind fun x2 =>
    f_Sc_drawSign_j174 v1 v3 v4 (zpb (zsh 2) 3 s x2.2)
def f_Sc_drawSign_j129 (v1 v3 v4 v5 : Int) (s : zSt) : Option (Int × zSt) :=
  if v5 = 0 then
    f_Sc_drawSign_j145 v1 v3 v4 s
  else
    f_Sc_drawSign_j145 v1 v3 v4 (uS s 12 1 (w32 (v4 - 1)))
def f_Sc_drawSign_j102 (v1 v3 v4 : Int) (s : zSt) : Option (Int × zSt) :=
  (f_Pi_setGoing (s.1 12 0) 1 (zsb (zsh 2) s)).bind fun x1 =>
  (f_Sc_feed (zpb (zsh 2) 3 s x1.2)).bind fun x2 =>
  f_Sc_drawSign_j145 v1 v3 v4 (uS x2.2 12 1 0)
def f_Sc_drawSign_j75 (v1 v3 v4 : Int) (s : zSt) : Option (Int × zSt) :=
  if ¬ (s.1 12 2) = 0 then
    f_Sc_drawSign_j102 v1 v3 v4 s
  else
    (f_Pi_erase (s.1 12 0) v4 (s.1 0 10) (zsb (zsh 2) s)).bind fun x2 =>
    f_Sc_drawSign_j102 v1 v3 v4 (zpb (zsh 2) 3 s x2.2)
def f_Sc_drawSign_j174_8 (v1 v3 v4 : Int) (s : zSt) : Option (Int × zSt) :=
  (f_Pi_erase (s.1 12 0) (s.1 12 1) (w32 ((s.1 12 1) + v3)) (zsb (zsh 22) s)).bind fun x1 =>
  (f_Pi_put (s.1 12 0) (s.1 12 1) (w32 (v1 + (w32 (1000 * (s.1 12 3))))) (zsb (zsh 22) (zpb (zsh 22) 3 s x1.2))).bind fun x2 =>
  if ¬ v3 = 2 then
    f_Sc_drawSign_j259 v3 v4 (zpb (zsh 22) 3 (zpb (zsh 22) 3 s x1.2) x2.2)
  else
    (f_Pi_put (s.1 12 0) (w32 ((s.1 12 1) + 1)) (-2) (zsb (zsh 22) (zpb (zsh 22) 3 (zpb (zsh 22) 3 s x1.2) x2.2))).bind fun x4 =>
    f_Sc_drawSign_j259 v3 v4 (zpb (zsh 22) 3 (zpb (zsh 22) 3 (zpb (zsh 22) 3 s x1.2) x2.2) x4.2)
def f_Sc_drawSign_j145_7 (v1 v3 v4 : Int) (s : zSt) : Option (Int × zSt) :=
  if (s.1 13 5) = 0 then
    f_Sc_drawSign_j174_8 v1 v3 v4 s
  else
    (f_Pi_insert (s.1 12 0) (s.1 12 1) v3 (zsb (zsh 22) s)).bind fun x2 =>
    f_Sc_drawSign_j174_8 v1 v3 v4 (zpb (zsh 22) 3 s x2.2)
def f_Sc_drawSign_j129_6 (v1 v3 v4 v5 : Int) (s : zSt) : Option (Int × zSt) :=
  if v5 = 0 then
    f_Sc_drawSign_j145_7 v1 v3 v4 s
  else
    f_Sc_drawSign_j145_7 v1 v3 v4 (uS s 12 1 (w32 (v4 - 1)))
def f_Sc_drawSign_j102_10 (v1 v3 v4 : Int) (s : zSt) : Option (Int × zSt) :=
  (f_Pi_setGoing (s.1 12 0) 1 (zsb (zsh 22) s)).bind fun x1 =>
  (f_Sc_feed (zpb (zsh 22) 3 s x1.2)).bind fun x2 =>
  f_Sc_drawSign_j145_7 v1 v3 v4 (uS x2.2 12 1 0)
def f_Sc_drawSign_j75_9 (v1 v3 v4 : Int) (s : zSt) : Option (Int × zSt) :=
  if ¬ (s.1 12 2) = 0 then
    f_Sc_drawSign_j102_10 v1 v3 v4 s
  else
    (f_Pi_erase (s.1 12 0) v4 (s.1 0 10) (zsb (zsh 22) s)).bind fun x2 =>
    f_Sc_drawSign_j102_10 v1 v3 v4 (zpb (zsh 22) 3 s x2.2)
def f_Sc_drawSign (a1 : Int) (s : zSt) : Option (Int × zSt) :=
  if s.1 0 8 = 0 then
    (f_Co_isWide a1).bind fun x2 =>
    if (s.1 13 1) = 0 then
          f_Sc_drawSign_j129 a1 (if x2 = 0 then 1 else 2) (w32 ((s.1 0 10) - 1)) (if ¬ ((if x2 = 0 then 1 else 2) : Int) = 2 then 0 else (if ¬ (s.1 12 1) = (w32 ((s.1 0 10) - 1)) then 0 else 1)) s
        else
          if ¬ (s.1 12 2) = 0 then
            f_Sc_drawSign_j75 a1 (if x2 = 0 then 1 else 2) (w32 ((s.1 0 10) - 1)) s
          else
            if ((if ¬ ((if x2 = 0 then 1 else 2) : Int) = 2 then 0 else (if ¬ (s.1 12 1) = (w32 ((s.1 0 10) - 1)) then 0 else 1)) : Int) = 0 then
              f_Sc_drawSign_j129 a1 (if x2 = 0 then 1 else 2) (w32 ((s.1 0 10) - 1)) (if ¬ ((if x2 = 0 then 1 else 2) : Int) = 2 then 0 else (if ¬ (s.1 12 1) = (w32 ((s.1 0 10) - 1)) then 0 else 1)) s
            else
              f_Sc_drawSign_j75 a1 (if x2 = 0 then 1 else 2) (w32 ((s.1 0 10) - 1)) s
  else
    (f_Co_isWide a1).bind fun x17 =>
    if (s.1 13 1) = 0 then
          f_Sc_drawSign_j129_6 a1 (if x17 = 0 then 1 else 2) (w32 ((s.1 0 10) - 1)) (if ¬ ((if x17 = 0 then 1 else 2) : Int) = 2 then 0 else (if ¬ (s.1 12 1) = (w32 ((s.1 0 10) - 1)) then 0 else 1)) s
        else
          if ¬ (s.1 12 2) = 0 then
            f_Sc_drawSign_j75_9 a1 (if x17 = 0 then 1 else 2) (w32 ((s.1 0 10) - 1)) s
          else
            if ((if ¬ ((if x17 = 0 then 1 else 2) : Int) = 2 then 0 else (if ¬ (s.1 12 1) = (w32 ((s.1 0 10) - 1)) then 0 else 1)) : Int) = 0 then
              f_Sc_drawSign_j129_6 a1 (if x17 = 0 then 1 else 2) (w32 ((s.1 0 10) - 1)) (if ¬ ((if x17 = 0 then 1 else 2) : Int) = 2 then 0 else (if ¬ (s.1 12 1) = (w32 ((s.1 0 10) - 1)) then 0 else 1)) s
            else
              f_Sc_drawSign_j75_9 a1 (if x17 = 0 then 1 else 2) (w32 ((s.1 0 10) - 1)) s
def f_Sc_control_j42 (v1 : Int) (s : zSt) : Option (Int × zSt) :=
  if ¬ v1 = 8 then
    if ¬ v1 = 9 then
      if ¬ v1 = 10 then
        some (0, (uS (uS s 12 2 0) 12 1 0))
      else
        (f_Sc_feed (uS s 12 2 0)).bind fun x4 =>
        some (0, x4.2)
    else
      (f_Sc_nextTab (uS s 12 2 0)).bind fun x5 =>
      some (0, (uS (uS s 12 2 0) 12 1 (if ¬ x5 = (-1) then x5 else (w32 ((s.1 0 10) - 1)))))
  else
    some (0, (uS (uS s 12 2 0) 12 1 (if (w32 ((s.1 12 1) - 1)) < 0 then 0 else (w32 ((s.1 12 1) - 1)))))
def f_Sc_control (a1 : Int) (s : zSt) : Option (Int × zSt) :=
  if ¬ a1 = 7 then
    if a1 = 8 then
      f_Sc_control_j42 a1 s
    else
      if a1 = 9 then
        f_Sc_control_j42 a1 s
      else
        if a1 = 10 then
          f_Sc_control_j42 a1 s
        else
          if a1 = 13 then
            f_Sc_control_j42 a1 s
          else
            some (0, s)
  else
    some (0, (uS s 0 11 (w32 ((s.1 0 11) + 1))))
def f_Sc_escaped (a1 : Int) (s : zSt) : Option (Int × zSt) :=
  if a1 = 55 then
    (f_Cu_copy (zsb (zsl [25, 12]) s)).bind fun x2 =>
    some (0, (zpb (zsl [25, 12]) 2 s x2.2))
  else if a1 = 56 then
    (f_Sc_bringBack s).bind fun x4 =>
    some (0, x4.2)
  else if a1 = 68 then
    (f_Sc_feed (uS s 12 2 0)).bind fun x6 =>
    some (0, x6.2)
  else if a1 = 69 then
    (f_Sc_feed (uS s 12 2 0)).bind fun x8 =>
    some (0, (uS x8.2 12 1 0))
  else if a1 = 72 then
    (f_Sc_setTab (s.1 12 1) 1 s).bind fun x10 =>
    some (0, x10.2)
  else if a1 = 77 then
    (f_Sc_feedBack (uS s 12 2 0)).bind fun x12 =>
    some (0, x12.2)
  else if a1 = 99 then
    (f_Sc_reset s).bind fun x14 =>
    some (0, x14.2)
  else some (0, s)
def f_Sc_coded_j15 (v1 : Int) (s : zSt) : Option (Int × zSt) :=
  (f_Re_number 0 (zsb (zsh 14) s)).bind fun x1 =>
  if v1 = 64 then
    if s.1 0 8 = 0 then
      (f_Pi_insert (s.1 12 0) (s.1 12 1) (if x1 < 1 then 1 else x1) (zsb (zsh 2) s)).bind fun x4 =>
      some (0, (zpb (zsh 2) 3 s x4.2))
    else
      (f_Pi_insert (s.1 12 0) (s.1 12 1) (if x1 < 1 then 1 else x1) (zsb (zsh 22) s)).bind fun x5 =>
      some (0, (zpb (zsh 22) 3 s x5.2))
  else if v1 = 65 then
    some (0, (uS s 12 0 (if (w32 ((s.1 12 0) - (if x1 < 1 then 1 else x1))) < 0 then 0 else (w32 ((s.1 12 0) - (if x1 < 1 then 1 else x1))))))
  else if v1 = 66 then
    some (0, (uS s 12 0 (if (w32 ((s.1 0 9) - 1)) < (w32 ((s.1 12 0) + (if x1 < 1 then 1 else x1))) then (w32 ((s.1 0 9) - 1)) else (w32 ((s.1 12 0) + (if x1 < 1 then 1 else x1))))))
  else if v1 = 67 then
    some (0, (uS s 12 1 (if (w32 ((s.1 0 10) - 1)) < (w32 ((s.1 12 1) + (if x1 < 1 then 1 else x1))) then (w32 ((s.1 0 10) - 1)) else (w32 ((s.1 12 1) + (if x1 < 1 then 1 else x1))))))
  else if v1 = 68 then
    some (0, (uS s 12 1 (if (w32 ((s.1 12 1) - (if x1 < 1 then 1 else x1))) < 0 then 0 else (w32 ((s.1 12 1) - (if x1 < 1 then 1 else x1))))))
  else if v1 = 72 then
    (f_Re_number 1 (zsb (zsh 14) s)).bind fun x11 =>
    (f_Sc_goTo (if x1 < 1 then 1 else x1) (if x11 < 1 then 1 else x11) s).bind fun x12 =>
    some (0, x12.2)
  else if v1 = 74 then
    (f_Re_number 0 (zsb (zsh 14) s)).bind fun x14 =>
    (f_Sc_eraseOtherRows x14 s).bind fun x15 =>
    (f_Re_number 0 (zsb (zsh 14) x15.2)).bind fun x16 =>
    (f_Sc_eraseRow x16 x15.2).bind fun x17 =>
    some (0, x17.2)
  else if v1 = 75 then
    (f_Re_number 0 (zsb (zsh 14) s)).bind fun x19 =>
    (f_Sc_eraseRow x19 s).bind fun x20 =>
    some (0, x20.2)
  else if v1 = 76 then
    (f_Sc_moveLines (if x1 < 1 then 1 else x1) (if ¬ v1 = 77 then 0 else 1) s).bind fun x24 =>
      some (0, x24.2)
  else if v1 = 77 then
    (f_Sc_moveLines (if x1 < 1 then 1 else x1) (if ¬ v1 = 77 then 0 else 1) s).bind fun x30 =>
      some (0, x30.2)
  else if v1 = 80 then
    if s.1 0 8 = 0 then
      (f_Pi_delete (s.1 12 0) (s.1 12 1) (if x1 < 1 then 1 else x1) (zsb (zsh 2) s)).bind fun x35 =>
      some (0, (zpb (zsh 2) 3 s x35.2))
    else
      (f_Pi_delete (s.1 12 0) (s.1 12 1) (if x1 < 1 then 1 else x1) (zsb (zsh 22) s)).bind fun x36 =>
      some (0, (zpb (zsh 22) 3 s x36.2))
  else if v1 = 83 then
    (f_Sc_scroll (if x1 < 1 then 1 else x1) (if ¬ v1 = 83 then 0 else 1) s).bind fun x40 =>
      some (0, x40.2)
  else if v1 = 84 then
    (f_Sc_scroll (if x1 < 1 then 1 else x1) (if ¬ v1 = 83 then 0 else 1) s).bind fun x46 =>
      some (0, x46.2)
  else if v1 = 88 then
    if s.1 0 8 = 0 then
      (f_Pi_erase (s.1 12 0) (s.1 12 1) (w32 ((s.1 12 1) + (if x1 < 1 then 1 else x1))) (zsb (zsh 2) s)).bind fun x51 =>
      some (0, (zpb (zsh 2) 3 s x51.2))
    else
      (f_Pi_erase (s.1 12 0) (s.1 12 1) (w32 ((s.1 12 1) + (if x1 < 1 then 1 else x1))) (zsb (zsh 22) s)).bind fun x52 =>
      some (0, (zpb (zsh 22) 3 s x52.2))
  else if v1 = 103 then
    (f_Re_number 0 (zsb (zsh 14) s)).bind fun x54 =>
    (f_Sc_clearTabs x54 s).bind fun x55 =>
    some (0, x55.2)
  else if v1 = 104 then
    (f_Sc_setInsert (if ¬ v1 = 104 then 0 else 1) s).bind fun x59 =>
      some (0, x59.2)
  else if v1 = 108 then
    (f_Sc_setInsert (if ¬ v1 = 104 then 0 else 1) s).bind fun x65 =>
      some (0, x65.2)
  else if v1 = 109 then
    (f_Sc_setAttribute s).bind fun x69 =>
    some (0, x69.2)
  else if v1 = 110 then
    (f_Re_number 0 (zsb (zsh 14) s)).bind fun x71 =>
    (f_Sc_answer x71 s).bind fun x72 =>
    some (0, x72.2)
  else if v1 = 114 then
    (f_Sc_setRegion s).bind fun x74 =>
    some (0, x74.2)
  else some (0, s)
def f_Sc_coded (a1 : Int) (s : zSt) : Option (Int × zSt) :=
  (f_Sc_endsLate a1).bind fun x1 =>
  if x1 = 0 then
    f_Sc_coded_j15 a1 s
  else
    f_Sc_coded_j15 a1 (uS s 12 2 0)
def f_Sc_codedWithMark_l15 (c1 : Int)  (x : Int × zSt) : Option ((Int × zSt) ⊕ (zSt)) :=
  if (x.2.1 14 4) ≤ x.1 then
    some (.inr x.2)
  else
    (f_Re_number x.1 (zsb (zsh 14) x.2)).bind fun x2 =>
    (f_Sc_setMarkedMode x2 (if ¬ c1 = 104 then 0 else 1) x.2).bind fun x5 =>
      some (.inl (w32 (x.1 + 1), x5.2))
def f_Sc_codedWithMark_j13 (v1 : Int) (s : zSt) : Option (Int × zSt) :=
  (zloop (f_Sc_codedWithMark_l15 v1) zfu (0, s)).bind fun y1 =>
  some (0, y1)
def f_Sc_codedWithMark (a1 : Int) (s : zSt) : Option (Int × zSt) :=
  if a1 = 104 then
    f_Sc_codedWithMark_j13 a1 s
  else
    if a1 = 108 then
      f_Sc_codedWithMark_j13 a1 s
    else
      some (0, s)
def f_Sc_receive (a1 : Int) (s : zSt) : Option (Int × zSt) :=
  (f_Re_read a1 (zsb (zsh 14) s)).bind fun x1 =>
  if x1.1 = 1 then
    (f_Sc_drawSign a1 (zpb (zsh 14) 6 s x1.2)).bind fun x3 =>
    some (0, x3.2)
  else if x1.1 = 2 then
    (f_Sc_addMark (zpb (zsh 14) 6 s x1.2)).bind fun x5 =>
    some (0, x5.2)
  else if x1.1 = 3 then
    (f_Sc_control a1 (zpb (zsh 14) 6 s x1.2)).bind fun x7 =>
    some (0, x7.2)
  else if x1.1 = 4 then
    (f_Sc_escaped a1 (zpb (zsh 14) 6 s x1.2)).bind fun x9 =>
    some (0, x9.2)
  else if x1.1 = 5 then
    (f_Sc_coded a1 (zpb (zsh 14) 6 s x1.2)).bind fun x11 =>
    some (0, x11.2)
  else if x1.1 = 6 then
    (f_Sc_codedWithMark a1 (zpb (zsh 14) 6 s x1.2)).bind fun x13 =>
    some (0, x13.2)
  else some (0, (zpb (zsh 14) 6 s x1.2))
def f_Sc_resize_j27 (v1 v2 v3 : Int) (s : zSt) : Option (Int × zSt) :=
  (f_Ma_wrap v1 v2 (zsb (zsh 1) s)).bind fun x1 =>
  (f_Pi_cut v1 v2 (zsb (zsh 22) (zpb (zsh 1) 12 s x1.2))).bind fun x2 =>
  (f_Sc_setFirstTabs (if v2 < v3 then v2 else v3) (uS (uS (uS (uS (zpb (zsh 22) 3 (zpb (zsh 1) 12 s x1.2) x2.2) 0 9 v1) 0 10 v2) 0 12 0) 0 13 (w32 (v1 - 1)))).bind fun x3 =>
  if (x3.2.1 0 8) = 0 then
    some (0, x3.2)
  else
    (f_Cu_goTo (if (w32 ((x3.2.1 0 9) - 1)) < (x3.2.1 12 0) then (w32 ((x3.2.1 0 9) - 1)) else (x3.2.1 12 0)) (if (w32 ((x3.2.1 0 10) - 1)) < (x3.2.1 12 1) then (w32 ((x3.2.1 0 10) - 1)) else (x3.2.1 12 1)) (zsb (zsh 12) x3.2)).bind fun x5 =>
    some (0, (zpb (zsh 12) 1 x3.2 x5.2))
def f_Sc_resize_j27_1 (v1 v2 v3 : Int) (s : zSt) : Option (Int × zSt) :=
  (f_Ma_wrap v1 v2 (zsb (zsl [1, 2, 3, 4, 5, 6, 7, 8, 9, 10, 11, 25]) s)).bind fun x1 =>
  (f_Pi_cut v1 v2 (zsb (zsh 22) (zpb (zsl [1, 2, 3, 4, 5, 6, 7, 8, 9, 10, 11, 25]) 12 s x1.2))).bind fun x2 =>
  (f_Sc_setFirstTabs (if v2 < v3 then v2 else v3) (uS (uS (uS (uS (zpb (zsh 22) 3 (zpb (zsl [1, 2, 3, 4, 5, 6, 7, 8, 9, 10, 11, 25]) 12 s x1.2) x2.2) 0 9 v1) 0 10 v2) 0 12 0) 0 13 (w32 (v1 - 1)))).bind fun x3 =>
  if (x3.2.1 0 8) = 0 then
    some (0, x3.2)
  else
    (f_Cu_goTo (if (w32 ((x3.2.1 0 9) - 1)) < (x3.2.1 12 0) then (w32 ((x3.2.1 0 9) - 1)) else (x3.2.1 12 0)) (if (w32 ((x3.2.1 0 10) - 1)) < (x3.2.1 12 1) then (w32 ((x3.2.1 0 10) - 1)) else (x3.2.1 12 1)) (zsb (zsh 12) x3.2)).bind fun x5 =>
    some (0, (zpb (zsh 12) 1 x3.2 x5.2))
def f_Sc_resize (a1 a2 : Int) (s : zSt) : Option (Int × zSt) :=
  if (s.1 0 8) = 0 then
    f_Sc_resize_j27 a1 a2 (s.1 0 10) s
  else
    f_Sc_resize_j27_1 a1 a2 (s.1 0 10) s
def f_Sl_isLikeAt (a1 : Int) (s : zSt) : Option Int :=
  if a1 < 0 then
    some 0
  else
    if 24 ≤ a1 then
      some 0
    else
      if 0 ≤ a1 ∧ a1 < s.1 5 0 then some (if ((s.2 5) a1) = 0 then 0 else 1) else none
def f_Sl_keepCosts (a1 a2 a3 : Int) (s : zSt) : Option (Int × zSt) :=
  if (w32 ((w32 (a1 * 16)) + a2)) < 0 then
    some (0, s)
  else
    if 0 ≤ s.1 4 0 then 
    if (s.1 4 0) ≤ (w32 ((w32 (a1 * 16)) + a2)) then
      some (0, s)
    else
      if 0 ≤ (w32 ((w32 (a1 * 16)) + a2)) ∧ (w32 ((w32 (a1 * 16)) + a2)) < s.1 4 0 then some (0, (uE s 4 (w32 ((w32 (a1 * 16)) + a2)) a3)) else none
     else none
def f_Sl_costsFrom (a1 a2 : Int) (s : zSt) : Option Int :=
  if (w32 ((w32 (a1 * 16)) + a2)) < 0 then
    some 1000000
  else
    if 0 ≤ s.1 4 0 then 
    if (s.1 4 0) ≤ (w32 ((w32 (a1 * 16)) + a2)) then
      some 1000000
    else
      if 0 ≤ (w32 ((w32 (a1 * 16)) + a2)) ∧ (w32 ((w32 (a1 * 16)) + a2)) < s.1 4 0 then some ((s.2 4) (w32 ((w32 (a1 * 16)) + a2))) else none
     else none
def f_Sl_compare_l5 (c2 : Int)  (x : Int × Int × zSt) : Option ((Int × Int × zSt) ⊕ (Int × zSt)) :=
  (f_Pi_columns (zsb (zsh 6) x.2.2)).bind fun x1 =>
  if x1 ≤ x.2.1 then
    some (.inr (x.1, x.2.2))
  else
    if 24 ≤ x.2.1 then
      some (.inr (x.1, x.2.2))
    else
      (f_Pi_at c2 x.2.1 (zsb (zsh 6) x.2.2)).bind fun x4 =>
      (f_Pi_at c2 x.2.1 (zsb (zsh 1) x.2.2)).bind fun x5 =>
      if 0 ≤ x.2.1 ∧ x.2.1 < x.2.2.1 5 0 then (if 0 ≤ x.2.1 ∧ x.2.1 < x.2.2.1 5 0 then some (.inl (if ((zup (x.2.2.2 5) x.2.1 (if ¬ x4 = x5 then 0 else 1)) x.2.1) = 0 then (w32 (x.2.1 + 1)) else x.1, w32 (x.2.1 + 1), (uE x.2.2 5 x.2.1 (if ¬ x4 = x5 then 0 else 1)))) else none) else none
def f_Sl_compare (a2 : Int) (s : zSt) : Option (Int × zSt) :=
  (zloop (f_Sl_compare_l5 a2) zfu (0, 0, s)).bind fun y1 =>
  some (y1.1, y1.2)
def f_Sl_writing (a1 a2 a3 : Int) (s : zSt) : Option Int :=
  (f_Co_isWide a1).bind fun x1 =>
  (f_Co_attributeOf a1).bind fun x4 =>
    (f_Co_marksOf a1).bind fun x7 =>
      (f_Co_attributeOf a1).bind fun x8 =>
      (f_Sl_costsFrom (w32 (a2 + (if x1 = 0 then 1 else 2))) x8 s).bind fun x9 =>
      some (w32 ((w32 ((w32 (1 + x7)) + (if ¬ x4 = a3 then 4 else 0))) + x9))
def f_Sl_passing_l9 (c2 c4 : Int) (s : zSt) (x : Int × Int) : Option ((Int × Int) ⊕ (Int)) :=
  (f_Pi_columns (zsb (zsh 6) s)).bind fun x1 =>
  if x1 ≤ x.2 then
    some (.inr x.1)
  else
    (f_Sl_isLikeAt (w32 (x.2 - 1)) (zsb (zsh 0) s)).bind fun x3 =>
    if x3 = 0 then
      some (.inr x.1)
    else
      (f_Pi_at c2 x.2 (zsb (zsh 6) s)).bind fun x5 =>
      if x5 = (-2) then
        some (.inl (x.1, w32 (x.2 + 1)))
      else
        (f_Sl_costsFrom x.2 c4 (zsb (zsh 0) s)).bind fun x7 =>
        some (.inl (if (w32 (4 + x7)) < x.1 then (w32 (4 + x7)) else x.1, w32 (x.2 + 1)))
def f_Sl_passing (a2 a3 a4 : Int) (s : zSt) : Option Int :=
  (zloop (f_Sl_passing_l9 a2 a4 s) zfu (1000000, w32 (a3 + 1))).bind fun y1 =>
  some y1
def f_Sl_beginning_l5 (c1 : Int) (s : zSt) (x : Int × Int) : Option ((Int × Int) ⊕ (Int)) :=
  if c1 ≤ x.2 then
    some (.inr x.1)
  else
    (f_Sl_costsFrom x.2 0 s).bind fun x2 =>
    (f_Sl_isLikeAt x.2 s).bind fun x3 =>
    if ¬ x3 = 0 then
      some (.inl (if x2 < x.1 then x2 else x.1, w32 (x.2 + 1)))
    else
      some (.inr (if x2 < x.1 then x2 else x.1))
def f_Sl_beginning (a1 : Int) (s : zSt) : Option Int :=
  zloop (f_Sl_beginning_l5 a1 s) zfu (1000000, 0)
def f_Sl_costsOf_l38 (c2 c3 c4 c5 c6 : Int)  (x : Int × zSt) : Option ((Int × zSt) ⊕ (zSt)) :=
  if 16 ≤ x.1 then
    some (.inr x.2)
  else
    if c6 < c4 then
      (f_Pi_at c2 c6 (zsb (zsh 6) x.2)).bind fun x3 =>
      if x3 = (-2) then
        (f_Sl_keepCosts c6 x.1 1000000 (zsb (zsh 0) x.2)).bind fun x5 =>
        some (.inl (w32 (x.1 + 1), (zpb (zsh 0) 6 x.2 x5.2)))
      else
        (f_Pi_at c2 c6 (zsb (zsh 6) x.2)).bind fun x6 =>
        (f_Sl_writing x6 c6 x.1 (zsb (zsh 0) x.2)).bind fun x7 =>
        (f_Sl_passing c2 c6 x.1 x.2).bind fun x8 =>
        if c6 < c5 then
          (f_Sl_keepCosts c6 x.1 (if x8 < x7 then x8 else x7) (zsb (zsh 0) x.2)).bind fun x10 =>
          some (.inl (w32 (x.1 + 1), (zpb (zsh 0) 6 x.2 x10.2)))
        else
          (f_Sl_keepCosts c6 x.1 (if 3 < (if x8 < x7 then x8 else x7) then 3 else (if x8 < x7 then x8 else x7)) (zsb (zsh 0) x.2)).bind fun x11 =>
          some (.inl (w32 (x.1 + 1), (zpb (zsh 0) 6 x.2 x11.2)))
    else
      (f_Sl_keepCosts c6 x.1 0 (zsb (zsh 0) x.2)).bind fun x12 =>
      some (.inl (w32 (x.1 + 1), (zpb (zsh 0) 6 x.2 x12.2)))
def f_Sl_costsOf_l30 (c2 c3 c4 c5 : Int)  (x : Int × zSt) : Option ((Int × zSt) ⊕ (zSt)) :=
  if x.1 < 0 then
    some (.inr x.2)
  else
    (zloop (f_Sl_costsOf_l38 c2 c3 c4 c5 x.1) zfu (0, x.2)).bind fun y2 =>
    some (.inl (w32 (x.1 + (-1)), y2))
def f_Sl_costsOf (a2 : Int) (s : zSt) : Option (Int × zSt) :=
  (f_Pi_columns (zsb (zsh 6) s)).bind fun x1 =>
  (f_Sl_compare a2 s).bind fun x2 =>
  if ¬ x2.1 = 0 then
    (f_Pi_filled a2 (zsb (zsh 6) x2.2)).bind fun x4 =>
    (zloop (f_Sl_costsOf_l30 a2 x1 x2.1 x4) zfu (x1, x2.2)).bind fun y5 =>
    (f_Sl_beginning x1 (zsb (zsh 0) y5)).bind fun x6 =>
    some (w32 (6 + x6), y5)
  else
    some (0, x2.2)
def f_Sl_begin (a1 a2 : Int) (s : zSt) : Option (Int × zSt) :=
  (f_Pi_begin a1 a2 (zsb (zsh 1) s)).bind fun x1 =>
  some (0, (zpb (zsh 1) 3 s x1.2))
def f_Ta_playOn_l9   (x : Int × zSt) : Option ((Int × zSt) ⊕ (zSt)) :=
  if (x.2.1 0 1) ≤ x.1 then
    some (.inr x.2)
  else
    if 0 ≤ x.2.1 1 0 then 
    if (x.2.1 1 0) ≤ x.1 then
      some (.inr x.2)
    else
      if 0 ≤ x.1 ∧ x.1 < x.2.1 1 0 then 
      if 128 ≤ ((x.2.2 1) x.1) then
        (f_Sc_resize (wDiv (w32 (((x.2.2 1) x.1) - 128)) 32) (wRem (w32 (((x.2.2 1) x.1) - 128)) 32) (zsb (zsh 2) x.2)).bind fun x6 =>
        some (.inl (w32 (x.1 + 1), (zpb (zsh 2) 27 x.2 x6.2)))
      else
        (f_Sc_receive ((x.2.2 1) x.1) (zsb (zsh 2) x.2)).bind fun x7 =>
        some (.inl (w32 (x.1 + 1), (zpb (zsh 2) 27 x.2 x7.2)))
       else none
     else none
def f_Ta_playOn  (s : zSt) : Option (Int × zSt) :=
  (zloop (f_Ta_playOn_l9) zfu (if (s.1 0 2) < 0 then 0 else (s.1 0 2), s)).bind fun y1 =>
  some (0, (uS y1 0 2 (y1.1 0 1)))
def f_Co_cell (a1 a2 : Int) (s : zSt) : Option Int :=
  (f_Sc_has a1 a2 (zsb (zsh 14) s)).bind fun x1 =>
  if ¬ x1 = 0 then
    if s.1 14 8 = 0 then
      (f_Pi_at a1 a2 (zsb (zsh 16) s)).bind fun x4 =>
      some x4
    else
      (f_Pi_at a1 a2 (zsb (zsh 36) s)).bind fun x5 =>
      some x5
  else
    none
def f_Co_past (a1 a2 : Int) (s : zSt) : Option Int :=
  if a1 < 0 then
    none
  else
    (f_Hi_count (zsb (zsh 19) s)).bind fun x2 =>
    if x2 ≤ a1 then
      none
    else
      if a2 < 0 then
        none
      else
        if a2 < (s.1 14 10) then
          (f_Hi_at a1 a2 (zsb (zsh 19) s)).bind fun x6 =>
          some x6
        else
          none
def f_Co_goesOn (a1 : Int) (s : zSt) : Option Int :=
  (f_Hi_count (zsb (zsh 19) s)).bind fun x1 =>
  if a1 < (w32 (-x1)) then
    none
  else
    if a1 < (s.1 14 9) then
      if 0 ≤ a1 then
        if s.1 14 8 = 0 then
          (f_Pi_isGoing a1 (zsb (zsh 16) s)).bind fun x6 =>
          if x6 = 0 ∨ x6 = 1 then some x6 else none
        else
          (f_Pi_isGoing a1 (zsb (zsh 36) s)).bind fun x8 =>
          if x8 = 0 ∨ x8 = 1 then some x8 else none
      else
        (f_Hi_isGoing (w32 (x1 + a1)) (zsb (zsh 19) s)).bind fun x10 =>
        if x10 = 0 ∨ x10 = 1 then some x10 else none
    else
      none
def f_Co_draft (a1 : Int) (s : zSt) : Option (Int × zSt) :=
  if a1 < 1 then
    none
  else
    if a1 < 127 then
      (f_By_room (zsb (zsh 3) s)).bind fun x3 =>
      if 1 ≤ x3 then
        (f_By_add a1 (zsb (zsh 3) s)).bind fun x5 =>
        (f_By_count (zsb (zsh 3) (zpb (zsh 3) 2 s x5.2))).bind fun x6 =>
        some (x6, (zpb (zsh 3) 2 s x5.2))
      else
        none
    else
      none
def f_Co_take  (s : zSt) : Option (Int × zSt) :=
  (f_By_removeFirst (zsb (zsh 10) s)).bind fun x1 =>
  some (x1.1, (zpb (zsh 10) 2 s x1.2))
def f_Co_title (a1 : Int) (s : zSt) : Option Int :=
  if a1 < 0 then
    none
  else
    (f_By_count (zsb (zsh 29) s)).bind fun x2 =>
    if a1 < x2 then
      (f_By_at a1 (zsb (zsh 29) s)).bind fun x4 =>
      some x4
    else
      none
def f_Co_told (a1 : Int) (s : zSt) : Option Int :=
  if a1 < 0 then
    none
  else
    if a1 ≤ 20 then
      if a1 = 10 then
        some (s.1 14 11)
      else if a1 = 11 then
        some (if (s.1 14 8) = 0 then 0 else 1)
      else if a1 = 12 then
        some (if (s.1 5 6) = 0 then 0 else 1)
      else if a1 = 13 then
        (f_By_count (zsb (zsh 8) s)).bind fun x15 =>
        some x15
      else if a1 = 14 then
        (f_By_count (zsb (zsh 6) s)).bind fun x17 =>
        some x17
      else if a1 = 15 then
        (f_By_count (zsb (zsh 10) s)).bind fun x19 =>
        some x19
      else if a1 = 16 then
        some (s.1 5 7)
      else if a1 = 17 then
        some (s.1 5 8)
      else if a1 = 18 then
        some (if (s.1 27 2) = 0 then 0 else 1)
      else if a1 = 19 then
        (f_By_count (zsb (zsh 29) s)).bind fun x28 =>
        some x28
      else if a1 = 20 then
        (f_Sc_nextTab (zsb (zsh 14) s)).bind fun x30 =>
        some x30
      else (f_Sc_tellPlaces a1 (zsb (zsh 14) s)).bind fun x31 =>
      some x31
    else
      none
def f_Co_addBracket (a1 : Int) (s : zSt) : Option (Int × zSt) :=
  (f_By_add 27 (zsb (zsh 1) s)).bind fun x1 =>
  (f_By_add 91 (zsb (zsh 1) (zpb (zsh 1) 2 s x1.2))).bind fun x2 =>
  (f_By_add 50 (zsb (zsh 1) (zpb (zsh 1) 2 (zpb (zsh 1) 2 s x1.2) x2.2))).bind fun x3 =>
  (f_By_add 48 (zsb (zsh 1) (zpb (zsh 1) 2 (zpb (zsh 1) 2 (zpb (zsh 1) 2 s x1.2) x2.2) x3.2))).bind fun x4 =>
  (f_By_add a1 (zsb (zsh 1) (zpb (zsh 1) 2 (zpb (zsh 1) 2 (zpb (zsh 1) 2 (zpb (zsh 1) 2 s x1.2) x2.2) x3.2) x4.2))).bind fun x5 =>
  (f_By_add 126 (zsb (zsh 1) (zpb (zsh 1) 2 (zpb (zsh 1) 2 (zpb (zsh 1) 2 (zpb (zsh 1) 2 (zpb (zsh 1) 2 s x1.2) x2.2) x3.2) x4.2) x5.2))).bind fun x6 =>
  some (0, (zpb (zsh 1) 2 (zpb (zsh 1) 2 (zpb (zsh 1) 2 (zpb (zsh 1) 2 (zpb (zsh 1) 2 (zpb (zsh 1) 2 s x1.2) x2.2) x3.2) x4.2) x5.2) x6.2))
def f_Co_draw_l12   (x : Int × Int × zSt) : Option ((Int × Int × zSt) ⊕ (Int × zSt)) :=
  (f_Pi_rows (zsb (zsh 16) x.2.2)).bind fun x1 =>
  if x1 ≤ x.2.1 then
    some (.inr (x.1, x.2.2))
  else
    (f_Sl_costsOf x.2.1 (zsb (zsl [70, 71, 72, 73, 74, 75, 16, 17, 18]) x.2.2)).bind fun x3 =>
    some (.inl (w32 (x.1 + x3.1), w32 (x.2.1 + 1), (zpb (zsl [70, 71, 72, 73, 74, 75, 16, 17, 18]) 9 x.2.2 x3.2)))
def f_Co_draw_l12_1   (x : Int × Int × zSt) : Option ((Int × Int × zSt) ⊕ (Int × zSt)) :=
  (f_Pi_rows (zsb (zsh 36) x.2.2)).bind fun x1 =>
  if x1 ≤ x.2.1 then
    some (.inr (x.1, x.2.2))
  else
    (f_Sl_costsOf x.2.1 (zsb (zsl [70, 71, 72, 73, 74, 75, 36, 37, 38]) x.2.2)).bind fun x3 =>
    some (.inl (w32 (x.1 + x3.1), w32 (x.2.1 + 1), (zpb (zsl [70, 71, 72, 73, 74, 75, 36, 37, 38]) 9 x.2.2 x3.2)))
def f_Co_draw  (s : zSt) : Option (Int × zSt) :=
  if s.1 14 8 = 0 then
    (zloop (f_Co_draw_l12) zfu (0, 0, s)).bind fun y2 =>
    (f_Pi_copyCells (zsb (zsl [71, 72, 73, 16, 17, 18]) y2.2)).bind fun x3 =>
    some (y2.1, (zpb (zsl [71, 72, 73, 16, 17, 18]) 6 y2.2 x3.2))
  else
    (zloop (f_Co_draw_l12_1) zfu (0, 0, s)).bind fun y4 =>
    (f_Pi_copyCells (zsb (zsl [71, 72, 73, 36, 37, 38]) y4.2)).bind fun x5 =>
    some (y4.1, (zpb (zsl [71, 72, 73, 36, 37, 38]) 6 y4.2 x5.2))
def f_Co_least (a1 : Int) (s : zSt) : Option (Int × zSt) :=
  if a1 < 0 then
    none
  else
    if a1 < (s.1 14 9) then
      if s.1 14 8 = 0 then
        (f_Sl_costsOf a1 (zsb (zsl [70, 71, 72, 73, 74, 75, 16, 17, 18]) s)).bind fun x4 =>
        some (x4.1, (zpb (zsl [70, 71, 72, 73, 74, 75, 16, 17, 18]) 9 s x4.2))
      else
        (f_Sl_costsOf a1 (zsb (zsl [70, 71, 72, 73, 74, 75, 36, 37, 38]) s)).bind fun x5 =>
        some (x5.1, (zpb (zsl [70, 71, 72, 73, 74, 75, 36, 37, 38]) 9 s x5.2))
    else
      none
def f_Co_rule (a1 a2 : Int) (s : zSt) : Option (Int × zSt) :=
  (f_Li_change a1 a2 (zsb (zsh 5) s)).bind fun x1 =>
  if x1.1 = 0 ∨ x1.1 = 1 then some (x1.1, (zpb (zsh 5) 9 s x1.2)) else none
def f_Co_cellAnew (a1 a2 : Int) (s : zSt) : Option (Int × zSt) :=
  (f_Sc_has a1 a2 (zsb (zsh 14) s)).bind fun x1 =>
  if ¬ x1 = 0 then
    (f_Ta_playOn (zsb (zsh 41) s)).bind fun x3 =>
    if x3.2.1 2 8 = 0 then
      (f_Pi_at a1 a2 (zsb (zsh 45) (zpb (zsh 41) 29 s x3.2))).bind fun x5 =>
      some (x5, (zpb (zsh 41) 29 s x3.2))
    else
      (f_Pi_at a1 a2 (zsb (zsh 65) (zpb (zsh 41) 29 s x3.2))).bind fun x6 =>
      some (x6, (zpb (zsh 41) 29 s x3.2))
  else
    none
def f_Rf_thrown  (s : zSt) : Option Int :=
  some (s.1 0 0)
def f_Rf_in (a0 a1 a2 : Int)  : Option Int :=
  some (if a0 < a1 then 0 else (if a2 < a0 then 0 else 1))
def f_Rf_at (a1 a2 : Int) (s : zSt) : Option Int :=
  some (w32 ((w32 ((w32 (288 * (s.1 0 8))) + (w32 (24 * a1)))) + a2))
def f_Rf_stopsAbove (a1 : Int) (s : zSt) : Option (Int × zSt) :=
  if a1 ≤ 0 then
    if ¬ (s.1 0 8) = 0 then
      some (0, s)
    else
      if (s.1 0 7) ≤ 0 then
        some (0, s)
      else
        if 0 ≤ (w32 ((s.1 0 7) - 1)) ∧ (w32 ((s.1 0 7) - 1)) < s.1 4 0 then some (0, (uE s 4 (w32 ((s.1 0 7) - 1)) 0)) else none
  else
    if 0 ≤ (w32 ((w32 ((w32 (12 * (s.1 0 8))) + a1)) - 1)) ∧ (w32 ((w32 ((w32 (12 * (s.1 0 8))) + a1)) - 1)) < s.1 2 0 then some (0, (uE s 2 (w32 ((w32 ((w32 (12 * (s.1 0 8))) + a1)) - 1)) 0)) else none
def f_Rf_keepsRow_l79   (x : Int × zSt) : Option ((Int × zSt) ⊕ (zSt)) :=
  if 24 ≤ x.1 then
    some (.inr x.2)
  else
    if 0 ≤ x.1 ∧ x.1 < x.2.1 1 0 then (if 0 ≤ (w32 ((w32 (24 * (x.2.1 0 7))) + x.1)) ∧ (w32 ((w32 (24 * (x.2.1 0 7))) + x.1)) < x.2.1 3 0 then some (.inl (w32 (x.1 + 1), (uE x.2 3 (w32 ((w32 (24 * (x.2.1 0 7))) + x.1)) ((x.2.2 1) x.1)))) else none) else none
def f_Rf_keepsRow_j77  (s : zSt) : Option (Int × zSt) :=
  (zloop (f_Rf_keepsRow_l79) zfu (0, s)).bind fun y1 =>
  if (0 : Int) ≤ 0 ∧ 0 < y1.1 2 0 then (if (0 ≤ (y1.1 0 7) ∧ (y1.1 0 7) < y1.1 4 0) ∧ (((y1.2 2) 0) = 0 ∨ ((y1.2 2) 0) = 1) then some (0, (uS (uE y1 4 (y1.1 0 7) ((y1.2 2) 0)) 0 7 (w32 ((y1.1 0 7) + 1)))) else none) else none
def f_Rf_keepsRow_l11   (x : Int × zSt) : Option ((Int × zSt) ⊕ (zSt)) :=
  if 936 ≤ x.1 then
    some (.inr x.2)
  else
    if 0 ≤ (w32 (x.1 + 24)) ∧ (w32 (x.1 + 24)) < x.2.1 3 0 then (if 0 ≤ x.1 ∧ x.1 < x.2.1 3 0 then some (.inl (w32 (x.1 + 1), (uE x.2 3 x.1 ((x.2.2 3) (w32 (x.1 + 24)))))) else none) else none
def f_Rf_keepsRow_l41   (x : Int × zSt) : Option ((Int × zSt) ⊕ (zSt)) :=
  if 39 ≤ x.1 then
    some (.inr x.2)
  else
    if 0 ≤ (w32 (x.1 + 1)) ∧ (w32 (x.1 + 1)) < x.2.1 4 0 then (if (0 ≤ x.1 ∧ x.1 < x.2.1 4 0) ∧ (((x.2.2 4) (w32 (x.1 + 1))) = 0 ∨ ((x.2.2 4) (w32 (x.1 + 1))) = 1) then some (.inl (w32 (x.1 + 1), (uE x.2 4 x.1 ((x.2.2 4) (w32 (x.1 + 1)))))) else none) else none
def f_Rf_keepsRow  (s : zSt) : Option (Int × zSt) :=
  if ¬ (s.1 0 7) = 40 then
    f_Rf_keepsRow_j77 s
  else
    (zloop (f_Rf_keepsRow_l11) zfu (0, s)).bind fun y2 =>
    (zloop (f_Rf_keepsRow_l41) zfu (0, y2)).bind fun y3 =>
    f_Rf_keepsRow_j77 (uS y3 0 7 (w32 ((y3.1 0 7) - 1)))
def f_Rf_nextTab_l9  (s : zSt) (x : Int × Int) : Option ((Int × Int) ⊕ (Int)) :=
  if x.2 ≤ (s.1 0 10) then
    some (.inr x.1)
  else
    some (.inl (if ¬ (wAnd (wShr (s.1 0 15) x.2) 1) = 1 then x.1 else x.2, w32 (x.2 + (-1))))
def f_Rf_nextTab  (s : zSt) : Option Int :=
  (zloop (f_Rf_nextTab_l9 s) zfu ((-1), w32 ((s.1 0 2) - 1))).bind fun y1 =>
  some y1
def f_Rf_laysTabs_l2   (x : Int × zSt) : Option ((Int × zSt) ⊕ (zSt)) :=
  if (x.2.1 0 2) ≤ x.1 then
    some (.inr x.2)
  else
    some (.inl (w32 (x.1 + 1), (uS x.2 0 15 (wOr (x.2.1 0 15) (if ¬ (wRem x.1 4) = 0 then 0 else (wShl 1 x.1))))))
def f_Rf_laysTabs (a1 : Int) (s : zSt) : Option (Int × zSt) :=
  (zloop (f_Rf_laysTabs_l2) zfu (a1, s)).bind fun y1 =>
  some (0, y1)
def f_Rf_saves  (s : zSt) : Option (Int × zSt) :=
  if (s.1 0 11) = 0 ∨ (s.1 0 11) = 1 then (if (s.1 0 17) = 0 ∨ (s.1 0 17) = 1 then some (0, (uS (uS (uS (uS (uS (uS s 0 23 1) 0 24 (s.1 0 9)) 0 25 (s.1 0 10)) 0 26 (s.1 0 11)) 0 27 (s.1 0 12)) 0 28 (s.1 0 17))) else none) else none
def f_Rf_lesser (a0 a1 : Int)  : Option Int :=
  some (if a1 ≤ a0 then a1 else a0)
def f_Rf_empties_l2 (c1 : Int)  (x : Int × zSt) : Option ((Int × zSt) ⊕ (zSt)) :=
  if 288 ≤ x.1 then
    some (.inr x.2)
  else
    if 0 ≤ (w32 ((w32 (288 * c1)) + x.1)) ∧ (w32 ((w32 (288 * c1)) + x.1)) < x.2.1 1 0 then some (.inl (w32 (x.1 + 1), (uE x.2 1 (w32 ((w32 (288 * c1)) + x.1)) 0))) else none
def f_Rf_empties_l30 (c1 : Int)  (x : Int × zSt) : Option ((Int × zSt) ⊕ (zSt)) :=
  if 12 ≤ x.1 then
    some (.inr x.2)
  else
    if 0 ≤ (w32 ((w32 (12 * c1)) + x.1)) ∧ (w32 ((w32 (12 * c1)) + x.1)) < x.2.1 2 0 then some (.inl (w32 (x.1 + 1), (uE x.2 2 (w32 ((w32 (12 * c1)) + x.1)) 0))) else none
def f_Rf_empties (a1 : Int) (s : zSt) : Option (Int × zSt) :=
  (zloop (f_Rf_empties_l2 a1) zfu (0, s)).bind fun y1 =>
  (zloop (f_Rf_empties_l30 a1) zfu (0, y1)).bind fun y2 =>
  some (0, y2)
def f_Rf_first  (s : zSt) : Option Int :=
  if (0 : Int) ≤ 0 ∧ 0 < s.1 5 0 then 
  if ¬ ((s.2 5) 0) = 0 then
    if (0 : Int) ≤ 0 ∧ 0 < s.1 5 0 then some ((s.2 5) 0) else none
  else
    some 1
   else none
def f_Rf_second  (s : zSt) : Option Int :=
  if (s.1 0 31) ≤ 1 then
    some 0
  else
    if (0 : Int) ≤ 1 ∧ 1 < s.1 5 0 then some ((s.2 5) 1) else none
def f_Rf_sends (a1 : Int) (s : zSt) : Option (Int × zSt) :=
  if 200 ≤ (s.1 0 48) then
    some (0, s)
  else
    if 0 ≤ (s.1 0 48) ∧ (s.1 0 48) < s.1 10 0 then some (0, (uS (uE s 10 (s.1 0 48) a1) 0 48 (w32 ((s.1 0 48) + 1)))) else none
def f_Rf_digits (a0 : Int)  : Option Int :=
  some (if a0 ≤ 99 then (if a0 ≤ 9 then 1 else 2) else 3)
def f_Rf_letter (a0 : Int)  : Option Int :=
  some (if 4 ≤ a0 then (if ¬ a0 = 4 then 70 else 72) else (w32 (65 + a0)))
def f_Rf_take_l33 (c1 : Int)  (x : Int × zSt) : Option ((Int × zSt) ⊕ (zSt)) :=
  if (x.2.1 0 48) ≤ x.1 then
    some (.inr x.2)
  else
    if 0 ≤ (w32 (x.1 + 1)) ∧ (w32 (x.1 + 1)) < x.2.1 10 0 then (if 0 ≤ x.1 ∧ x.1 < x.2.1 10 0 then some (.inl (w32 (x.1 + 1), (uE x.2 10 x.1 ((x.2.2 10) (w32 (x.1 + 1)))))) else none) else none
def f_Rf_take  (s : zSt) : Option (Int × zSt) :=
  if ¬ (s.1 0 48) = 0 then
    if (0 : Int) ≤ 0 ∧ 0 < s.1 10 0 then 
    (zloop (f_Rf_take_l33 ((s.2 10) 0)) zfu (0, (uS (uS s 0 0 0) 0 48 (w32 ((s.1 0 48) - 1))))).bind fun y3 =>
    some ((s.2 10) 0, y3)
     else none
  else
    some ((-1), (uS s 0 0 0))
def f_Rf_old (a1 a2 : Int) (s : zSt) : Option Int :=
  if (s.1 0 7) ≤ a1 then
    if 0 ≤ (w32 ((w32 (24 * (w32 (a1 - (s.1 0 7))))) + a2)) ∧ (w32 ((w32 (24 * (w32 (a1 - (s.1 0 7))))) + a2)) < s.1 1 0 then some ((s.2 1) (w32 ((w32 (24 * (w32 (a1 - (s.1 0 7))))) + a2))) else none
  else
    if 0 ≤ (w32 ((w32 (24 * a1)) + a2)) ∧ (w32 ((w32 (24 * a1)) + a2)) < s.1 3 0 then some ((s.2 3) (w32 ((w32 (24 * a1)) + a2))) else none
def f_Rf_oldGoes (a1 : Int) (s : zSt) : Option Int :=
  if (s.1 0 7) ≤ a1 then
    if 0 ≤ (w32 (a1 - (s.1 0 7))) ∧ (w32 (a1 - (s.1 0 7))) < s.1 2 0 then (if ((s.2 2) (w32 (a1 - (s.1 0 7)))) = 0 ∨ ((s.2 2) (w32 (a1 - (s.1 0 7)))) = 1 then some ((s.2 2) (w32 (a1 - (s.1 0 7)))) else none) else none
  else
    if 0 ≤ a1 ∧ a1 < s.1 4 0 then (if ((s.2 4) a1) = 0 ∨ ((s.2 4) a1) = 1 then some ((s.2 4) a1) else none) else none
def f_Rf_emptiesLaid_l2 (c1 : Int)  (x : Int × zSt) : Option ((Int × zSt) ⊕ (zSt)) :=
  if 24 ≤ x.1 then
    some (.inr x.2)
  else
    if 0 ≤ (w32 ((w32 (24 * c1)) + x.1)) ∧ (w32 ((w32 (24 * c1)) + x.1)) < x.2.1 14 0 then some (.inl (w32 (x.1 + 1), (uE x.2 14 (w32 ((w32 (24 * c1)) + x.1)) 0))) else none
def f_Rf_emptiesLaid (a1 : Int) (s : zSt) : Option (Int × zSt) :=
  (zloop (f_Rf_emptiesLaid_l2 a1) zfu (0, s)).bind fun y1 =>
  if 0 ≤ a1 ∧ a1 < y1.1 15 0 then some (0, (uE y1 15 a1 0)) else none
def f_Rf_isWide (a0 : Int)  : Option Int :=
  (f_Rf_in (wRem a0 1000) 65 90).bind fun x1 =>
  some (if x1 = 0 then 0 else (if a0 ≤ 0 then 0 else 1))
def f_Rf_parts (a1 a2 : Int) (s : zSt) : Option (Int × zSt) :=
  (f_Rf_in a2 1 (w32 ((s.1 0 2) - 1))).bind fun x1 =>
  if x1 = 0 then
    some (0, s)
  else
    (f_Rf_at a1 a2 s).bind fun x3 =>
    if 0 ≤ x3 ∧ x3 < s.1 1 0 then 
    if ¬ ((s.2 1) x3) = (-2) then
      some (0, s)
    else
      (f_Rf_at a1 a2 s).bind fun x6 =>
      if 0 ≤ x6 ∧ x6 < s.1 1 0 then 
      (f_Rf_at a1 (w32 (a2 - 1)) (uE s 1 x6 0)).bind fun x8 =>
      if 0 ≤ x8 ∧ x8 < s.1 1 0 then some (0, (uE (uE s 1 x6 0) 1 x8 0)) else none
       else none
     else none
def f_Rf_copiesRow_l2 (c1 c2 : Int)  (x : Int × zSt) : Option ((Int × zSt) ⊕ (zSt)) :=
  if 24 ≤ x.1 then
    some (.inr x.2)
  else
    (f_Rf_at c2 x.1 x.2).bind fun x2 =>
    (f_Rf_at c1 x.1 x.2).bind fun x3 =>
    if 0 ≤ x3 ∧ x3 < x.2.1 1 0 then (if 0 ≤ x2 ∧ x2 < x.2.1 1 0 then some (.inl (w32 (x.1 + 1), (uE x.2 1 x2 ((x.2.2 1) x3)))) else none) else none
def f_Rf_copiesRow (a1 a2 : Int) (s : zSt) : Option (Int × zSt) :=
  (zloop (f_Rf_copiesRow_l2 a1 a2) zfu (0, s)).bind fun y1 =>
  if 0 ≤ (w32 ((w32 (12 * (y1.1 0 8))) + a1)) ∧ (w32 ((w32 (12 * (y1.1 0 8))) + a1)) < y1.1 2 0 then (if (0 ≤ (w32 ((w32 (12 * (y1.1 0 8))) + a2)) ∧ (w32 ((w32 (12 * (y1.1 0 8))) + a2)) < y1.1 2 0) ∧ (((y1.2 2) (w32 ((w32 (12 * (y1.1 0 8))) + a1))) = 0 ∨ ((y1.2 2) (w32 ((w32 (12 * (y1.1 0 8))) + a1))) = 1) then some (0, (uE y1 2 (w32 ((w32 (12 * (y1.1 0 8))) + a2)) ((y1.2 2) (w32 ((w32 (12 * (y1.1 0 8))) + a1))))) else none) else none
def f_Rf_emptiesRow_l2 (c1 : Int)  (x : Int × zSt) : Option ((Int × zSt) ⊕ (zSt)) :=
  if 24 ≤ x.1 then
    some (.inr x.2)
  else
    (f_Rf_at c1 x.1 x.2).bind fun x2 =>
    if 0 ≤ x2 ∧ x2 < x.2.1 1 0 then some (.inl (w32 (x.1 + 1), (uE x.2 1 x2 0))) else none
def f_Rf_emptiesRow (a1 : Int) (s : zSt) : Option (Int × zSt) :=
  (zloop (f_Rf_emptiesRow_l2 a1) zfu (0, s)).bind fun y1 =>
  if 0 ≤ (w32 ((w32 (12 * (y1.1 0 8))) + a1)) ∧ (w32 ((w32 (12 * (y1.1 0 8))) + a1)) < y1.1 2 0 then some (0, (uE y1 2 (w32 ((w32 (12 * (y1.1 0 8))) + a1)) 0)) else none
def f_Rf_marks  (s : zSt) : Option (Int × zSt) :=
  if ((if (s.1 0 11) = 0 then (w32 ((s.1 0 10) - 1)) else (s.1 0 10)) : Int) < 0 then
      some (0, s)
    else
      (f_Rf_at (s.1 0 9) (if (s.1 0 11) = 0 then (w32 ((s.1 0 10) - 1)) else (s.1 0 10)) s).bind fun x4 =>
      if 0 ≤ x4 ∧ x4 < s.1 1 0 then 
      (f_Rf_at (s.1 0 9) (if ¬ ((s.2 1) x4) = (-2) then (if (s.1 0 11) = 0 then (w32 ((s.1 0 10) - 1)) else (s.1 0 10)) else (w32 ((if (s.1 0 11) = 0 then (w32 ((s.1 0 10) - 1)) else (s.1 0 10)) - 1))) s).bind fun x8 =>
        if 0 ≤ x8 ∧ x8 < s.1 1 0 then 
        (f_Rf_at (s.1 0 9) (if ¬ ((s.2 1) x4) = (-2) then (if (s.1 0 11) = 0 then (w32 ((s.1 0 10) - 1)) else (s.1 0 10)) else (w32 ((if (s.1 0 11) = 0 then (w32 ((s.1 0 10) - 1)) else (s.1 0 10)) - 1))) s).bind fun x10 =>
        if 0 ≤ x10 ∧ x10 < s.1 1 0 then (if 0 ≤ x10 ∧ x10 < s.1 1 0 then some (0, (uE s 1 x10 (w32 (((s.2 1) x10) + (if ((s.2 1) x8) ≤ 0 then 0 else (if 3 ≤ (wDiv ((s.2 1) x8) 100000) then 0 else 100000)))))) else none) else none
         else none
       else none
def f_Rf_bringsBack_j53 (k0 : Int) (s : zSt) : Option (Int × zSt) :=
  some (0, (uS (uS (uS (uS s 0 10 k0) 0 11 (if (s.1 0 23) = 0 then 0 else (if (s.1 0 26) = 0 then 0 else (if ¬ k0 = (w32 ((s.1 0 2) - 1)) then 0 else (if (s.1 0 18) = 0 then 0 else 1))))) 0 12 (if (s.1 0 23) = 0 then 0 else (s.1 0 27))) 0 17 (if (s.1 0 23) = 0 then 0 else (if (s.1 0 28) = 0 then 0 else 1))))
def f_Rf_bringsBack_j25 (k0 : Int) (s : zSt) : Option (Int × zSt) :=
  if (s.1 0 23) = 0 then
    f_Rf_bringsBack_j53 0 (uS s 0 9 k0)
  else
    (f_Rf_lesser (s.1 0 25) (w32 ((s.1 0 2) - 1))).bind fun x2 =>
    f_Rf_bringsBack_j53 x2 (uS s 0 9 k0)
def f_Rf_bringsBack  (s : zSt) : Option (Int × zSt) :=
  if (s.1 0 23) = 0 then
    f_Rf_bringsBack_j25 0 s
  else
    (f_Rf_lesser (s.1 0 24) (w32 ((s.1 0 1) - 1))).bind fun x2 =>
    f_Rf_bringsBack_j25 x2 s
def f_Rf_resets  (s : zSt) : Option (Int × zSt) :=
  (f_Rf_empties 0 (uS s 0 8 0)).bind fun x1 =>
  (f_Rf_empties 1 x1.2).bind fun x2 =>
  (f_Rf_laysTabs 0 (uS (uS (uS (uS (uS (uS (uS (uS (uS (uS (uS (uS (uS (uS (uS x2.2 0 9 0) 0 10 0) 0 11 0) 0 23 0) 0 12 0) 0 13 0) 0 14 (w32 ((x2.2.1 0 1) - 1))) 0 16 0) 0 17 0) 0 18 1) 0 19 1) 0 20 0) 0 21 0) 0 22 0) 0 15 0)).bind fun x3 =>
  if (x3.2.1 0 7) ≤ 0 then
    some (0, x3.2)
  else
    if 0 ≤ (w32 ((x3.2.1 0 7) - 1)) ∧ (w32 ((x3.2.1 0 7) - 1)) < x3.2.1 4 0 then some (0, (uE x3.2 4 (w32 ((x3.2.1 0 7) - 1)) 0)) else none
def f_Rf_titles_l16   (x : Int × zSt) : Option ((Int × zSt) ⊕ (zSt)) :=
  if (x.2.1 0 36) ≤ x.1 then
    some (.inr x.2)
  else
    if 0 ≤ x.1 ∧ x.1 < x.2.1 6 0 then (if 0 ≤ x.1 ∧ x.1 < x.2.1 7 0 then some (.inl (w32 (x.1 + 1), (uE x.2 7 x.1 ((x.2.2 6) x.1)))) else none) else none
def f_Rf_titles (a1 : Int) (s : zSt) : Option (Int × zSt) :=
  if ¬ a1 = 7 then
    if ¬ a1 = 27 then
      if ¬ a1 = 24 then
        (f_Rf_in a1 32 126).bind fun x4 =>
        if x4 = 0 then
          some (0, s)
        else
          if 16 ≤ (s.1 0 36) then
            some (0, s)
          else
            if 0 ≤ (s.1 0 36) ∧ (s.1 0 36) < s.1 6 0 then some (0, (uS (uE s 6 (s.1 0 36) a1) 0 36 (w32 ((s.1 0 36) + 1)))) else none
      else
        some (0, (uS s 0 29 0))
    else
      some (0, (uS s 0 29 1))
  else
    (zloop (f_Rf_titles_l16) zfu (0, (uS s 0 38 (s.1 0 36)))).bind fun y8 =>
    some (0, (uS y8 0 29 0))
def f_Rf_setsRegion_j23 (v1 k0 : Int) (s : zSt) : Option (Int × zSt) :=
  if k0 ≤ v1 then
    some (0, (uS s 0 11 0))
  else
    if (s.1 0 1) < k0 then
      some (0, (uS s 0 11 0))
    else
      some (0, (uS (uS (uS (uS (uS s 0 13 (w32 (v1 - 1))) 0 14 (w32 (k0 - 1))) 0 9 (if (s.1 0 17) = 0 then 0 else (w32 (v1 - 1)))) 0 10 0) 0 11 0))
def f_Rf_setsRegion  (s : zSt) : Option (Int × zSt) :=
  (f_Rf_first s).bind fun x1 =>
  (f_Rf_second s).bind fun x2 =>
  if ¬ x2 = 0 then
    (f_Rf_second s).bind fun x4 =>
    f_Rf_setsRegion_j23 x1 x4 s
  else
    f_Rf_setsRegion_j23 x1 (s.1 0 1) s
def f_Rf_colours_l2   (x : Int × zSt) : Option ((Int × zSt) ⊕ (zSt)) :=
  if (x.2.1 0 31) ≤ x.1 then
    some (.inr x.2)
  else
    if 0 ≤ x.1 ∧ x.1 < x.2.1 5 0 then 
    if ¬ ((x.2.2 5) x.1) = 0 then
      (f_Rf_in ((x.2.2 5) x.1) 1 4).bind fun x4 =>
      if x4 = 0 then
        (f_Rf_in ((x.2.2 5) x.1) 21 24).bind fun x6 =>
        some (.inl (w32 (x.1 + 1), (uS x.2 0 12 (if x6 = 0 then (x.2.1 0 12) else (wAnd (x.2.1 0 12) (wXor (wShl 1 (w32 (((x.2.2 5) x.1) - 21))) (-1)))))))
      else
        some (.inl (w32 (x.1 + 1), (uS x.2 0 12 (wOr (x.2.1 0 12) (wShl 1 (w32 (((x.2.2 5) x.1) - 1)))))))
    else
      some (.inl (w32 (x.1 + 1), (uS x.2 0 12 0)))
     else none
def f_Rf_colours  (s : zSt) : Option (Int × zSt) :=
  (zloop (f_Rf_colours_l2) zfu (0, s)).bind fun y1 =>
  some (0, y1)
def f_Rf_sendsNumber (a1 : Int) (s : zSt) : Option (Int × zSt) :=
  if a1 ≤ 9 then
    (f_Rf_sends (w32 (48 + (wRem a1 10))) s).bind fun x2 =>
    some (0, x2.2)
  else
    (f_Rf_sends (w32 (48 + (wDiv a1 10))) s).bind fun x3 =>
    (f_Rf_sends (w32 (48 + (wRem a1 10))) x3.2).bind fun x4 =>
    some (0, x4.2)
def f_Rf_givesLine_l2   (x : Int × zSt) : Option ((Int × zSt) ⊕ (zSt)) :=
  if (x.2.1 0 46) ≤ x.1 then
    some (.inr x.2)
  else
    if 0 ≤ x.1 ∧ x.1 < x.2.1 9 0 then 
    (f_Rf_sends ((x.2.2 9) x.1) x.2).bind fun x3 =>
    some (.inl (w32 (x.1 + 1), x3.2))
     else none
def f_Rf_givesLine  (s : zSt) : Option (Int × zSt) :=
  (zloop (f_Rf_givesLine_l2) zfu (0, s)).bind fun y1 =>
  some (0, (uS y1 0 46 0))
def f_Rf_draft (a1 : Int) (s : zSt) : Option (Int × zSt) :=
  (f_Rf_in a1 1 126).bind fun x1 =>
  if ((if ¬ x1 = 0 then (if ¬ (s.1 0 52) = 40 then 0 else 2) else 1) : Int) ≤ 0 then
      if 0 ≤ (s.1 0 52) ∧ (s.1 0 52) < s.1 11 0 then some (w32 ((s.1 0 52) + 1), (uS (uE (uS s 0 0 (if ¬ x1 = 0 then (if ¬ (s.1 0 52) = 40 then 0 else 2) else 1)) 11 (s.1 0 52) a1) 0 52 (w32 ((s.1 0 52) + 1)))) else none
    else
      some (0, (uS s 0 0 (if ¬ x1 = 0 then (if ¬ (s.1 0 52) = 40 then 0 else 2) else 1)))
def f_Rf_fullOf_l5 (c1 : Int) (s : zSt) (x : Int) : Option ((Int) ⊕ (Int)) :=
  if x ≤ 0 then
    some (.inr x)
  else
    (f_Rf_old c1 (w32 (x - 1)) s).bind fun x2 =>
    if ¬ x2 = 0 then
      some (.inr x)
    else
      some (.inl (w32 (x + (-1))))
def f_Rf_fullOf (a1 : Int) (s : zSt) : Option Int :=
  (zloop (f_Rf_fullOf_l5 a1 s) zfu (s.1 0 2)).bind fun y1 =>
  some y1
def f_Rf_isLike (a1 a2 : Int) (s : zSt) : Option Int :=
  (f_Rf_at a1 a2 s).bind fun x1 =>
  if 0 ≤ x1 ∧ x1 < s.1 1 0 then (if 0 ≤ (w32 ((w32 (24 * a1)) + a2)) ∧ (w32 ((w32 (24 * a1)) + a2)) < s.1 12 0 then some (if ¬ ((s.2 1) x1) = ((s.2 12) (w32 ((w32 (24 * a1)) + a2))) then 0 else 1) else none) else none
def f_Rf_isCell (a1 a2 : Int) (s : zSt) : Option Int :=
  (f_Rf_in a1 0 (w32 ((s.1 0 1) - 1))).bind fun x1 =>
  if x1 = 0 then
    some 0
  else
    (f_Rf_in a2 0 (w32 ((s.1 0 2) - 1))).bind fun x3 =>
    some (if x3 = 0 then 0 else 1)
def f_Rf_past_j34 (v1 v2 k0 : Int) (s : zSt) : Option (Int × zSt) :=
  if k0 ≤ 0 then
    if 0 ≤ (w32 ((w32 (24 * v1)) + v2)) ∧ (w32 ((w32 (24 * v1)) + v2)) < s.1 3 0 then some ((s.2 3) (w32 ((w32 (24 * v1)) + v2)), (uS s 0 0 k0)) else none
  else
    some (0, (uS s 0 0 k0))
def f_Rf_past_j33 (v1 v2 : Int) (s : zSt) : Option (Int × zSt) :=
  f_Rf_past_j34 v1 v2 1 s
def f_Rf_past (a1 a2 : Int) (s : zSt) : Option (Int × zSt) :=
  (f_Rf_in a1 0 (w32 ((s.1 0 7) - 1))).bind fun x1 =>
  if x1 = 0 then
    f_Rf_past_j33 a1 a2 s
  else
    (f_Rf_in a2 0 (w32 ((s.1 0 2) - 1))).bind fun x3 =>
    if ((if x3 = 0 then 1 else 0) : Int) ≤ 0 then
        if 0 ≤ (w32 ((w32 (24 * a1)) + a2)) ∧ (w32 ((w32 (24 * a1)) + a2)) < s.1 3 0 then some ((s.2 3) (w32 ((w32 (24 * a1)) + a2)), (uS s 0 0 (if x3 = 0 then 1 else 0))) else none
      else
        some (0, (uS s 0 0 (if x3 = 0 then 1 else 0)))
def f_Rf_goesOn (a1 : Int) (s : zSt) : Option (Int × zSt) :=
  (f_Rf_in a1 (w32 (-(s.1 0 7))) (w32 ((s.1 0 1) - 1))).bind fun x1 =>
  if ¬ ((if x1 = 0 then 1 else 0) : Int) = 0 then
      some (0, (uS s 0 0 (if x1 = 0 then 1 else 0)))
    else
      if 0 ≤ a1 then
        if 0 ≤ (w32 ((w32 (12 * (s.1 0 8))) + a1)) ∧ (w32 ((w32 (12 * (s.1 0 8))) + a1)) < s.1 2 0 then some (if ((s.2 2) (w32 ((w32 (12 * (s.1 0 8))) + a1))) = 0 then 0 else 1, (uS s 0 0 (if x1 = 0 then 1 else 0))) else none
      else
        if 0 ≤ (w32 ((s.1 0 7) + a1)) ∧ (w32 ((s.1 0 7) + a1)) < s.1 4 0 then some (if ((s.2 4) (w32 ((s.1 0 7) + a1))) = 0 then 0 else 1, (uS s 0 0 (if x1 = 0 then 1 else 0))) else none
def f_Rf_title (a1 : Int) (s : zSt) : Option (Int × zSt) :=
  (f_Rf_in a1 0 (w32 ((s.1 0 38) - 1))).bind fun x1 =>
  if ((if x1 = 0 then 1 else 0) : Int) ≤ 0 then
      if 0 ≤ a1 ∧ a1 < s.1 7 0 then some ((s.2 7) a1, (uS s 0 0 (if x1 = 0 then 1 else 0))) else none
    else
      some (0, (uS s 0 0 (if x1 = 0 then 1 else 0)))
def f_Rf_toldMore (a1 : Int) (s : zSt) : Option (Int × zSt) :=
  if a1 = 10 then
    some (s.1 0 39, s)
  else if a1 = 11 then
    some (s.1 0 8, s)
  else if a1 = 12 then
    some (if (s.1 0 42) = 0 then 0 else 1, s)
  else if a1 = 13 then
    some (s.1 0 44, s)
  else if a1 = 14 then
    some (s.1 0 46, s)
  else if a1 = 15 then
    some (s.1 0 48, s)
  else if a1 = 16 then
    some (s.1 0 49, s)
  else if a1 = 17 then
    some (s.1 0 50, s)
  else if a1 = 18 then
    some (if (s.1 0 19) = 0 then 0 else 1, s)
  else if a1 = 19 then
    some (s.1 0 38, s)
  else if a1 = 20 then
    (f_Rf_nextTab s).bind fun x20 =>
    some (x20, s)
  else some (0, (uS s 0 0 1))
def f_Rf_erases_l15 (c1 c3 : Int)  (x : Int × zSt) : Option ((Int × zSt) ⊕ (zSt)) :=
  if c3 ≤ x.1 then
    some (.inr x.2)
  else
    (f_Rf_at c1 x.1 x.2).bind fun x2 =>
    if 0 ≤ x2 ∧ x2 < x.2.1 1 0 then some (.inl (w32 (x.1 + 1), (uE x.2 1 x2 0))) else none
def f_Rf_erases (a1 a2 a3 : Int) (s : zSt) : Option (Int × zSt) :=
  (f_Rf_parts a1 a2 s).bind fun x1 =>
  (f_Rf_parts a1 a3 x1.2).bind fun x2 =>
  (zloop (f_Rf_erases_l15 a1 a3) zfu (a2, x2.2)).bind fun y3 =>
  some (0, y3)
def f_Rf_movesRight_l59 (c1 c2 c4 : Int)  (x : Int × zSt) : Option ((Int × zSt) ⊕ (zSt)) :=
  if x.1 < c2 then
    some (.inr x.2)
  else
    (f_Rf_at c1 x.1 x.2).bind fun x2 =>
    if (w32 (x.1 - c4)) < c2 then
      if 0 ≤ x2 ∧ x2 < x.2.1 1 0 then some (.inl (w32 (x.1 + (-1)), (uE x.2 1 x2 0))) else none
    else
      (f_Rf_at c1 (w32 (x.1 - c4)) x.2).bind fun x5 =>
      if 0 ≤ x5 ∧ x5 < x.2.1 1 0 then (if 0 ≤ x2 ∧ x2 < x.2.1 1 0 then some (.inl (w32 (x.1 + (-1)), (uE x.2 1 x2 ((x.2.2 1) x5)))) else none) else none
def f_Rf_movesRight_j51 (v1 v2 v4 : Int) (s : zSt) : Option (Int × zSt) :=
  (zloop (f_Rf_movesRight_l59 v1 v2 v4) zfu (w32 ((s.1 0 2) - 1), s)).bind fun y1 =>
  some (0, y1)
def f_Rf_movesRight (a1 a2 a3 : Int) (s : zSt) : Option (Int × zSt) :=
  (f_Rf_parts a1 a2 s).bind fun x3 =>
    if (w32 ((x3.2.1 0 2) - (if (w32 ((s.1 0 2) - a2)) ≤ a3 then (w32 ((s.1 0 2) - a2)) else a3))) ≤ a2 then
      f_Rf_movesRight_j51 a1 a2 (if (w32 ((s.1 0 2) - a2)) ≤ a3 then (w32 ((s.1 0 2) - a2)) else a3) x3.2
    else
      (f_Rf_parts a1 (w32 ((x3.2.1 0 2) - (if (w32 ((s.1 0 2) - a2)) ≤ a3 then (w32 ((s.1 0 2) - a2)) else a3))) x3.2).bind fun x5 =>
      f_Rf_movesRight_j51 a1 a2 (if (w32 ((s.1 0 2) - a2)) ≤ a3 then (w32 ((s.1 0 2) - a2)) else a3) x5.2
def f_Rf_movesLeft_l40 (c1 c4 : Int)  (x : Int × zSt) : Option ((Int × zSt) ⊕ (zSt)) :=
  if (x.2.1 0 2) ≤ x.1 then
    some (.inr x.2)
  else
    (f_Rf_at c1 x.1 x.2).bind fun x2 =>
    if (x.2.1 0 2) ≤ (w32 (x.1 + c4)) then
      if 0 ≤ x2 ∧ x2 < x.2.1 1 0 then some (.inl (w32 (x.1 + 1), (uE x.2 1 x2 0))) else none
    else
      (f_Rf_at c1 (w32 (x.1 + c4)) x.2).bind fun x5 =>
      if 0 ≤ x5 ∧ x5 < x.2.1 1 0 then (if 0 ≤ x2 ∧ x2 < x.2.1 1 0 then some (.inl (w32 (x.1 + 1), (uE x.2 1 x2 ((x.2.2 1) x5)))) else none) else none
def f_Rf_movesLeft (a1 a2 a3 : Int) (s : zSt) : Option (Int × zSt) :=
  (f_Rf_parts a1 a2 s).bind fun x3 =>
    (f_Rf_parts a1 (w32 (a2 + (if (w32 ((s.1 0 2) - a2)) ≤ a3 then (w32 ((s.1 0 2) - a2)) else a3))) x3.2).bind fun x4 =>
    (zloop (f_Rf_movesLeft_l40 a1 (if (w32 ((s.1 0 2) - a2)) ≤ a3 then (w32 ((s.1 0 2) - a2)) else a3)) zfu (a2, x4.2)).bind fun y5 =>
    some (0, y5)
def f_Rf_scrollsUp_l34 (c1 c2 c4 : Int)  (x : Int × zSt) : Option ((Int × zSt) ⊕ (zSt)) :=
  if c2 ≤ x.1 then
    some (.inr x.2)
  else
    (f_Rf_copiesRow (w32 (x.1 + 1)) x.1 x.2).bind fun x2 =>
    some (.inl (w32 (x.1 + 1), x2.2))
def f_Rf_scrollsUp_j31 (v1 v2 v4 : Int) (s : zSt) : Option (Int × zSt) :=
  (zloop (f_Rf_scrollsUp_l34 v1 v2 v4) zfu (v1, s)).bind fun y1 =>
  (f_Rf_emptiesRow v2 y1).bind fun x2 =>
  if ¬ v4 = 0 then
    some (0, x2.2)
  else
    (f_Rf_stopsAbove v1 x2.2).bind fun x4 =>
    some (0, x4.2)
def f_Rf_scrollsUp (a1 a2 a3 : Int) (s : zSt) : Option (Int × zSt) :=
  if ((if a3 = 0 then 0 else (if ¬ a1 = 0 then 0 else (if ¬ (s.1 0 8) = 0 then 0 else 1))) : Int) = 0 then
      f_Rf_scrollsUp_j31 a1 a2 (if a3 = 0 then 0 else (if ¬ a1 = 0 then 0 else (if ¬ (s.1 0 8) = 0 then 0 else 1))) s
    else
      (f_Rf_keepsRow s).bind fun x4 =>
      f_Rf_scrollsUp_j31 a1 a2 (if a3 = 0 then 0 else (if ¬ a1 = 0 then 0 else (if ¬ (s.1 0 8) = 0 then 0 else 1))) x4.2
def f_Rf_scrollsDown_l2 (c1 c2 : Int)  (x : Int × zSt) : Option ((Int × zSt) ⊕ (zSt)) :=
  if x.1 ≤ c1 then
    some (.inr x.2)
  else
    (f_Rf_copiesRow (w32 (x.1 - 1)) x.1 x.2).bind fun x2 =>
    some (.inl (w32 (x.1 + (-1)), x2.2))
def f_Rf_scrollsDown (a1 a2 : Int) (s : zSt) : Option (Int × zSt) :=
  (zloop (f_Rf_scrollsDown_l2 a1 a2) zfu (a2, s)).bind fun y1 =>
  (f_Rf_emptiesRow a1 y1).bind fun x2 =>
  if 0 ≤ (w32 ((w32 (12 * (x2.2.1 0 8))) + a2)) ∧ (w32 ((w32 (12 * (x2.2.1 0 8))) + a2)) < x2.2.1 2 0 then 
  (f_Rf_stopsAbove a1 (uE x2.2 2 (w32 ((w32 (12 * (x2.2.1 0 8))) + a2)) 0)).bind fun x4 =>
  some (0, x4.2)
   else none
def f_Rf_setsMode_j190 (v2 : Int) (s : zSt) : Option (Int × zSt) :=
  if ¬ v2 = 0 then
    some (0, s)
  else
    if ¬ (s.1 0 8) = 1 then
      some (0, s)
    else
      (f_Rf_bringsBack (uS s 0 8 0)).bind fun x3 =>
      some (0, x3.2)
def f_Rf_setsMode (a1 a2 : Int) (s : zSt) : Option (Int × zSt) :=
  if a1 = (-4) then
    if a2 = 0 ∨ a2 = 1 then some (0, (uS s 0 22 a2)) else none
  else if a1 = 1 then
    if a2 = 0 ∨ a2 = 1 then some (0, (uS s 0 16 a2)) else none
  else if a1 = 6 then
    if a2 = 0 ∨ a2 = 1 then some (0, (uS (uS (uS (uS s 0 17 a2) 0 9 (if a2 = 0 then 0 else (s.1 0 13))) 0 10 0) 0 11 0)) else none
  else if a1 = 7 then
    if a2 = 0 ∨ a2 = 1 then some (0, (uS (uS s 0 18 a2) 0 11 (if (s.1 0 11) = 0 then 0 else (if a2 = 0 then 0 else 1)))) else none
  else if a1 = 25 then
    if a2 = 0 ∨ a2 = 1 then some (0, (uS s 0 19 a2)) else none
  else if a1 = 47 then
    if a2 = 0 then
      f_Rf_setsMode_j190 a2 s
    else
      if ¬ (s.1 0 8) = 0 then
        f_Rf_setsMode_j190 a2 s
      else
        (f_Rf_saves s).bind fun x25 =>
        (f_Rf_empties 1 (uS x25.2 0 8 1)).bind fun x26 =>
        some (0, x26.2)
  else if a1 = 100 then
    if a2 = 0 ∨ a2 = 1 then some (0, (uS s 0 20 a2)) else none
  else if a1 = 204 then
    if a2 = 0 ∨ a2 = 1 then some (0, (uS s 0 21 a2)) else none
  else some (0, s)
def f_Rf_tells  (s : zSt) : Option (Int × zSt) :=
  if (0 : Int) ≤ 0 ∧ 0 < s.1 5 0 then 
  if ¬ ((s.2 5) 0) = 5 then
    if (0 : Int) ≤ 0 ∧ 0 < s.1 5 0 then 
    if ¬ ((s.2 5) 0) = 6 then
      some (0, s)
    else
      (f_Rf_sends 27 s).bind fun x7 =>
        (f_Rf_sends 91 x7.2).bind fun x8 =>
        (f_Rf_sendsNumber (if 1 ≤ ((if (s.1 0 17) = 0 then (w32 ((s.1 0 9) + 1)) else (w32 ((w32 ((s.1 0 9) - (s.1 0 13))) + 1))) : Int) then (if (s.1 0 17) = 0 then (w32 ((s.1 0 9) + 1)) else (w32 ((w32 ((s.1 0 9) - (s.1 0 13))) + 1))) else 1) x8.2).bind fun x11 =>
          (f_Rf_sends 59 x11.2).bind fun x12 =>
          (f_Rf_sendsNumber (w32 ((x12.2.1 0 10) + 1)) x12.2).bind fun x13 =>
          (f_Rf_sends 82 x13.2).bind fun x14 =>
          some (0, x14.2)
     else none
  else
    (f_Rf_sends 27 s).bind fun x19 =>
    (f_Rf_sends 91 x19.2).bind fun x20 =>
    (f_Rf_sends 48 x20.2).bind fun x21 =>
    (f_Rf_sends 110 x21.2).bind fun x22 =>
    some (0, x22.2)
   else none
def f_Rf_rule (a1 a2 : Int) (s : zSt) : Option (Int × zSt) :=
  if a1 = 0 then
    if a1 = 0 ∨ a1 = 1 then (if a2 = 0 ∨ a2 = 1 then (if (s.1 0 40) = 0 ∨ (s.1 0 40) = 1 then some (s.1 0 40, (uS (uS (uS s 0 0 0) 0 40 a1) 0 41 a2)) else none) else none) else none
  else
    if ¬ (s.1 0 40) = 0 then
      if a1 = 0 ∨ a1 = 1 then (if a2 = 0 ∨ a2 = 1 then (if (s.1 0 40) = 0 ∨ (s.1 0 40) = 1 then some (s.1 0 40, (uS (uS (uS s 0 0 0) 0 40 a1) 0 41 a2)) else none) else none) else none
    else
      (f_Rf_givesLine (uS s 0 0 0)).bind fun x9 =>
      if a1 = 0 ∨ a1 = 1 then (if a2 = 0 ∨ a2 = 1 then (if (s.1 0 40) = 0 ∨ (s.1 0 40) = 1 then some (s.1 0 40, (uS (uS x9.2 0 40 a1) 0 41 a2)) else none) else none) else none
def f_Rf_lays_l11 (c1 c2 c3 : Int)  (x : Int × zSt) : Option ((Int × zSt) ⊕ (Int × zSt)) :=
  if x.1 ≤ (w32 ((w32 ((x.2.1 0 7) + c1)) + 1)) then
    some (.inr (x.1, x.2))
  else
    (f_Rf_fullOf (w32 (x.1 - 1)) x.2).bind fun x2 =>
    if ¬ x2 = 0 then
      some (.inr (x.1, x.2))
    else
      some (.inl (w32 (x.1 + (-1)), x.2))
def f_Rf_lays_l181 (c1 c2 c3 c4 c7 c9 c12 : Int)  (x : Int × Int × Int × Int × Int × zSt) : Option ((Int × Int × Int × Int × Int × zSt) ⊕ (Int × Int × Int × Int × zSt)) :=
  if c12 ≤ x.2.2.2.2.1 then
    some (.inr (x.1, x.2.1, x.2.2.1, x.2.2.2.1, x.2.2.2.2.2))
  else
    (f_Rf_old c7 x.2.2.2.2.1 x.2.2.2.2.2).bind fun x2 =>
    (f_Rf_isWide x2).bind fun x3 =>
    if x2 = (-2) then
        some (.inl (if ((if ¬ x.2.2.2.1 = 0 then 1 else (if ¬ c7 = (w32 ((x.2.2.2.2.2.1 0 7) + c1)) then 0 else (if ¬ x.2.2.2.2.1 = c2 then 0 else 1))) : Int) = 0 then x.1 else (w32 ((w32 (24 * x.2.1)) + (if ¬ x2 = (-2) then (w32 (x.2.2.1 - (if x3 = 0 then 1 else 2))) else (w32 (x.2.2.1 - 1))))), x.2.1, x.2.2.1, 0, w32 (x.2.2.2.2.1 + 1), x.2.2.2.2.2))
      else
        if (w32 (x.2.2.1 + (if x3 = 0 then 1 else 2))) ≤ c3 then
          if 0 ≤ (w32 ((w32 (24 * x.2.1)) + x.2.2.1)) ∧ (w32 ((w32 (24 * x.2.1)) + x.2.2.1)) < x.2.2.2.2.2.1 14 0 then 
          if ¬ ((if x3 = 0 then 1 else 2) : Int) = 2 then
            some (.inl (if ((if ¬ x.2.2.2.1 = 0 then 1 else (if ¬ c7 = (w32 ((x.2.2.2.2.2.1 0 7) + c1)) then 0 else (if ¬ x.2.2.2.2.1 = c2 then 0 else 1))) : Int) = 0 then x.1 else (w32 ((w32 (24 * x.2.1)) + (if ¬ x2 = (-2) then (w32 ((w32 (x.2.2.1 + (if x3 = 0 then 1 else 2))) - (if x3 = 0 then 1 else 2))) else (w32 ((w32 (x.2.2.1 + (if x3 = 0 then 1 else 2))) - 1))))), x.2.1, w32 (x.2.2.1 + (if x3 = 0 then 1 else 2)), 0, w32 (x.2.2.2.2.1 + 1), (uE x.2.2.2.2.2 14 (w32 ((w32 (24 * x.2.1)) + x.2.2.1)) x2)))
          else
            if 0 ≤ (w32 ((w32 ((w32 (24 * x.2.1)) + x.2.2.1)) + 1)) ∧ (w32 ((w32 ((w32 (24 * x.2.1)) + x.2.2.1)) + 1)) < x.2.2.2.2.2.1 14 0 then some (.inl (if ((if ¬ x.2.2.2.1 = 0 then 1 else (if ¬ c7 = (w32 ((x.2.2.2.2.2.1 0 7) + c1)) then 0 else (if ¬ x.2.2.2.2.1 = c2 then 0 else 1))) : Int) = 0 then x.1 else (w32 ((w32 (24 * x.2.1)) + (if ¬ x2 = (-2) then (w32 ((w32 (x.2.2.1 + (if x3 = 0 then 1 else 2))) - (if x3 = 0 then 1 else 2))) else (w32 ((w32 (x.2.2.1 + (if x3 = 0 then 1 else 2))) - 1))))), x.2.1, w32 (x.2.2.1 + (if x3 = 0 then 1 else 2)), 0, w32 (x.2.2.2.2.1 + 1), (uE (uE x.2.2.2.2.2 14 (w32 ((w32 (24 * x.2.1)) + x.2.2.1)) x2) 14 (w32 ((w32 ((w32 (24 * x.2.1)) + x.2.2.1)) + 1)) (-2)))) else none
           else none
        else
          if 0 ≤ x.2.1 ∧ x.2.1 < x.2.2.2.2.2.1 15 0 then 
          (f_Rf_emptiesLaid (w32 (x.2.1 + 1)) (uE x.2.2.2.2.2 15 x.2.1 1)).bind fun x66 =>
          if 0 ≤ (w32 ((w32 (24 * (w32 (x.2.1 + 1)))) + 0)) ∧ (w32 ((w32 (24 * (w32 (x.2.1 + 1)))) + 0)) < x66.2.1 14 0 then 
          if ¬ ((if x3 = 0 then 1 else 2) : Int) = 2 then
            some (.inl (if ((if ¬ x.2.2.2.1 = 0 then 1 else (if ¬ c7 = (w32 ((x66.2.1 0 7) + c1)) then 0 else (if ¬ x.2.2.2.2.1 = c2 then 0 else 1))) : Int) = 0 then x.1 else (w32 ((w32 (24 * (w32 (x.2.1 + 1)))) + (if ¬ x2 = (-2) then (w32 ((w32 (0 + (if x3 = 0 then 1 else 2))) - (if x3 = 0 then 1 else 2))) else (w32 ((w32 (0 + (if x3 = 0 then 1 else 2))) - 1))))), w32 (x.2.1 + 1), w32 (0 + (if x3 = 0 then 1 else 2)), 0, w32 (x.2.2.2.2.1 + 1), (uE x66.2 14 (w32 ((w32 (24 * (w32 (x.2.1 + 1)))) + 0)) x2)))
          else
            if 0 ≤ (w32 ((w32 ((w32 (24 * (w32 (x.2.1 + 1)))) + 0)) + 1)) ∧ (w32 ((w32 ((w32 (24 * (w32 (x.2.1 + 1)))) + 0)) + 1)) < x66.2.1 14 0 then some (.inl (if ((if ¬ x.2.2.2.1 = 0 then 1 else (if ¬ c7 = (w32 ((x66.2.1 0 7) + c1)) then 0 else (if ¬ x.2.2.2.2.1 = c2 then 0 else 1))) : Int) = 0 then x.1 else (w32 ((w32 (24 * (w32 (x.2.1 + 1)))) + (if ¬ x2 = (-2) then (w32 ((w32 (0 + (if x3 = 0 then 1 else 2))) - (if x3 = 0 then 1 else 2))) else (w32 ((w32 (0 + (if x3 = 0 then 1 else 2))) - 1))))), w32 (x.2.1 + 1), w32 (0 + (if x3 = 0 then 1 else 2)), 0, w32 (x.2.2.2.2.1 + 1), (uE (uE x66.2 14 (w32 ((w32 (24 * (w32 (x.2.1 + 1)))) + 0)) x2) 14 (w32 ((w32 ((w32 (24 * (w32 (x.2.1 + 1)))) + 0)) + 1)) (-2)))) else none
           else none
           else none
def f_Rf_lays_l72 (c1 c2 c3 c4 : Int)  (x : Int × Int × Int × Int × Int × Int × zSt) : Option ((Int × Int × Int × Int × Int × Int × zSt) ⊕ (Int × Int × Int × zSt)) :=
  if x.2.2.2.2.1 = 0 then
    some (.inr (x.1, x.2.1, x.2.2.1, x.2.2.2.2.2.2))
  else
    (f_Rf_oldGoes x.2.2.1 x.2.2.2.2.2.2).bind fun x2 =>
    if ((if x2 = 0 then 0 else (if c4 ≤ (w32 (x.2.2.1 + 1)) then 0 else 1)) : Int) = 0 then
        if ((if x2 = 0 then 0 else (if c4 ≤ (w32 (x.2.2.1 + 1)) then 0 else 1)) : Int) = 0 then
          (f_Rf_fullOf x.2.2.1 x.2.2.2.2.2.2).bind fun x7 =>
          (zloop (f_Rf_lays_l181 c1 c2 c3 c4 x.2.2.1 (if x2 = 0 then 0 else (if c4 ≤ (w32 (x.2.2.1 + 1)) then 0 else 1)) x7) zfu (x.1, x.2.1, x.2.2.2.1, x.2.2.2.2.2.1, 0, x.2.2.2.2.2.2)).bind fun y8 =>
          if ¬ x.2.2.1 = (w32 ((y8.2.2.2.2.1 0 7) + c1)) then
            some (.inl (y8.1, y8.2.1, w32 (x.2.2.1 + 1), y8.2.2.1, if x2 = 0 then 0 else (if c4 ≤ (w32 (x.2.2.1 + 1)) then 0 else 1), y8.2.2.2.1, y8.2.2.2.2))
          else
            if c2 < x7 then
              some (.inl (y8.1, y8.2.1, w32 (x.2.2.1 + 1), y8.2.2.1, if x2 = 0 then 0 else (if c4 ≤ (w32 (x.2.2.1 + 1)) then 0 else 1), y8.2.2.2.1, y8.2.2.2.2))
            else
              if ((if x2 = 0 then 0 else (if c4 ≤ (w32 (x.2.2.1 + 1)) then 0 else 1)) : Int) = 0 then
                (f_Rf_lesser (w32 ((w32 (y8.2.2.1 + c2)) - x7)) (w32 (c3 - 1))).bind fun x12 =>
                some (.inl (w32 ((w32 (24 * y8.2.1)) + x12), y8.2.1, w32 (x.2.2.1 + 1), y8.2.2.1, if x2 = 0 then 0 else (if c4 ≤ (w32 (x.2.2.1 + 1)) then 0 else 1), if x2 = 0 then 0 else (if c4 ≤ (w32 (x.2.2.1 + 1)) then 0 else 1), y8.2.2.2.2))
              else
                some (.inl (y8.1, y8.2.1, w32 (x.2.2.1 + 1), y8.2.2.1, if x2 = 0 then 0 else (if c4 ≤ (w32 (x.2.2.1 + 1)) then 0 else 1), if x2 = 0 then 0 else (if c4 ≤ (w32 (x.2.2.1 + 1)) then 0 else 1), y8.2.2.2.2))
        else
          (zloop (f_Rf_lays_l181 c1 c2 c3 c4 x.2.2.1 (if x2 = 0 then 0 else (if c4 ≤ (w32 (x.2.2.1 + 1)) then 0 else 1)) (if (0 : Int) = 0 then (x.2.2.2.2.2.2.1 0 2) else (w32 ((x.2.2.2.2.2.2.1 0 2) - 1)))) zfu (x.1, x.2.1, x.2.2.2.1, x.2.2.2.2.2.1, 0, x.2.2.2.2.2.2)).bind fun y15 =>
            if ¬ x.2.2.1 = (w32 ((y15.2.2.2.2.1 0 7) + c1)) then
              some (.inl (y15.1, y15.2.1, w32 (x.2.2.1 + 1), y15.2.2.1, if x2 = 0 then 0 else (if c4 ≤ (w32 (x.2.2.1 + 1)) then 0 else 1), y15.2.2.2.1, y15.2.2.2.2))
            else
              if c2 < ((if (0 : Int) = 0 then (x.2.2.2.2.2.2.1 0 2) else (w32 ((x.2.2.2.2.2.2.1 0 2) - 1))) : Int) then
                some (.inl (y15.1, y15.2.1, w32 (x.2.2.1 + 1), y15.2.2.1, if x2 = 0 then 0 else (if c4 ≤ (w32 (x.2.2.1 + 1)) then 0 else 1), y15.2.2.2.1, y15.2.2.2.2))
              else
                if ((if x2 = 0 then 0 else (if c4 ≤ (w32 (x.2.2.1 + 1)) then 0 else 1)) : Int) = 0 then
                  (f_Rf_lesser (w32 ((w32 (y15.2.2.1 + c2)) - (if (0 : Int) = 0 then (x.2.2.2.2.2.2.1 0 2) else (w32 ((x.2.2.2.2.2.2.1 0 2) - 1))))) (w32 (c3 - 1))).bind fun x19 =>
                  some (.inl (w32 ((w32 (24 * y15.2.1)) + x19), y15.2.1, w32 (x.2.2.1 + 1), y15.2.2.1, if x2 = 0 then 0 else (if c4 ≤ (w32 (x.2.2.1 + 1)) then 0 else 1), if x2 = 0 then 0 else (if c4 ≤ (w32 (x.2.2.1 + 1)) then 0 else 1), y15.2.2.2.2))
                else
                  some (.inl (y15.1, y15.2.1, w32 (x.2.2.1 + 1), y15.2.2.1, if x2 = 0 then 0 else (if c4 ≤ (w32 (x.2.2.1 + 1)) then 0 else 1), if x2 = 0 then 0 else (if c4 ≤ (w32 (x.2.2.1 + 1)) then 0 else 1), y15.2.2.2.2))
      else
        (f_Rf_old x.2.2.1 (w32 ((x.2.2.2.2.2.2.1 0 2) - 1)) x.2.2.2.2.2.2).bind fun x22 =>
        if ¬ x22 = 0 then
          if ((if x2 = 0 then 0 else (if c4 ≤ (w32 (x.2.2.1 + 1)) then 0 else 1)) : Int) = 0 then
            (f_Rf_fullOf x.2.2.1 x.2.2.2.2.2.2).bind fun x25 =>
            (zloop (f_Rf_lays_l181 c1 c2 c3 c4 x.2.2.1 (if x2 = 0 then 0 else (if c4 ≤ (w32 (x.2.2.1 + 1)) then 0 else 1)) x25) zfu (x.1, x.2.1, x.2.2.2.1, x.2.2.2.2.2.1, 0, x.2.2.2.2.2.2)).bind fun y26 =>
            if ¬ x.2.2.1 = (w32 ((y26.2.2.2.2.1 0 7) + c1)) then
              some (.inl (y26.1, y26.2.1, w32 (x.2.2.1 + 1), y26.2.2.1, if x2 = 0 then 0 else (if c4 ≤ (w32 (x.2.2.1 + 1)) then 0 else 1), y26.2.2.2.1, y26.2.2.2.2))
            else
              if c2 < x25 then
                some (.inl (y26.1, y26.2.1, w32 (x.2.2.1 + 1), y26.2.2.1, if x2 = 0 then 0 else (if c4 ≤ (w32 (x.2.2.1 + 1)) then 0 else 1), y26.2.2.2.1, y26.2.2.2.2))
              else
                if ((if x2 = 0 then 0 else (if c4 ≤ (w32 (x.2.2.1 + 1)) then 0 else 1)) : Int) = 0 then
                  (f_Rf_lesser (w32 ((w32 (y26.2.2.1 + c2)) - x25)) (w32 (c3 - 1))).bind fun x30 =>
                  some (.inl (w32 ((w32 (24 * y26.2.1)) + x30), y26.2.1, w32 (x.2.2.1 + 1), y26.2.2.1, if x2 = 0 then 0 else (if c4 ≤ (w32 (x.2.2.1 + 1)) then 0 else 1), if x2 = 0 then 0 else (if c4 ≤ (w32 (x.2.2.1 + 1)) then 0 else 1), y26.2.2.2.2))
                else
                  some (.inl (y26.1, y26.2.1, w32 (x.2.2.1 + 1), y26.2.2.1, if x2 = 0 then 0 else (if c4 ≤ (w32 (x.2.2.1 + 1)) then 0 else 1), if x2 = 0 then 0 else (if c4 ≤ (w32 (x.2.2.1 + 1)) then 0 else 1), y26.2.2.2.2))
          else
            (zloop (f_Rf_lays_l181 c1 c2 c3 c4 x.2.2.1 (if x2 = 0 then 0 else (if c4 ≤ (w32 (x.2.2.1 + 1)) then 0 else 1)) (if (0 : Int) = 0 then (x.2.2.2.2.2.2.1 0 2) else (w32 ((x.2.2.2.2.2.2.1 0 2) - 1)))) zfu (x.1, x.2.1, x.2.2.2.1, x.2.2.2.2.2.1, 0, x.2.2.2.2.2.2)).bind fun y33 =>
              if ¬ x.2.2.1 = (w32 ((y33.2.2.2.2.1 0 7) + c1)) then
                some (.inl (y33.1, y33.2.1, w32 (x.2.2.1 + 1), y33.2.2.1, if x2 = 0 then 0 else (if c4 ≤ (w32 (x.2.2.1 + 1)) then 0 else 1), y33.2.2.2.1, y33.2.2.2.2))
              else
                if c2 < ((if (0 : Int) = 0 then (x.2.2.2.2.2.2.1 0 2) else (w32 ((x.2.2.2.2.2.2.1 0 2) - 1))) : Int) then
                  some (.inl (y33.1, y33.2.1, w32 (x.2.2.1 + 1), y33.2.2.1, if x2 = 0 then 0 else (if c4 ≤ (w32 (x.2.2.1 + 1)) then 0 else 1), y33.2.2.2.1, y33.2.2.2.2))
                else
                  if ((if x2 = 0 then 0 else (if c4 ≤ (w32 (x.2.2.1 + 1)) then 0 else 1)) : Int) = 0 then
                    (f_Rf_lesser (w32 ((w32 (y33.2.2.1 + c2)) - (if (0 : Int) = 0 then (x.2.2.2.2.2.2.1 0 2) else (w32 ((x.2.2.2.2.2.2.1 0 2) - 1))))) (w32 (c3 - 1))).bind fun x37 =>
                    some (.inl (w32 ((w32 (24 * y33.2.1)) + x37), y33.2.1, w32 (x.2.2.1 + 1), y33.2.2.1, if x2 = 0 then 0 else (if c4 ≤ (w32 (x.2.2.1 + 1)) then 0 else 1), if x2 = 0 then 0 else (if c4 ≤ (w32 (x.2.2.1 + 1)) then 0 else 1), y33.2.2.2.2))
                  else
                    some (.inl (y33.1, y33.2.1, w32 (x.2.2.1 + 1), y33.2.2.1, if x2 = 0 then 0 else (if c4 ≤ (w32 (x.2.2.1 + 1)) then 0 else 1), if x2 = 0 then 0 else (if c4 ≤ (w32 (x.2.2.1 + 1)) then 0 else 1), y33.2.2.2.2))
        else
          (f_Rf_old (w32 (x.2.2.1 + 1)) 0 x.2.2.2.2.2.2).bind fun x40 =>
          (f_Rf_isWide x40).bind fun x41 =>
          if ((if x2 = 0 then 0 else (if c4 ≤ (w32 (x.2.2.1 + 1)) then 0 else 1)) : Int) = 0 then
              (f_Rf_fullOf x.2.2.1 x.2.2.2.2.2.2).bind fun x45 =>
              (zloop (f_Rf_lays_l181 c1 c2 c3 c4 x.2.2.1 (if x2 = 0 then 0 else (if c4 ≤ (w32 (x.2.2.1 + 1)) then 0 else 1)) x45) zfu (x.1, x.2.1, x.2.2.2.1, x.2.2.2.2.2.1, 0, x.2.2.2.2.2.2)).bind fun y46 =>
              if ¬ x.2.2.1 = (w32 ((y46.2.2.2.2.1 0 7) + c1)) then
                some (.inl (y46.1, y46.2.1, w32 (x.2.2.1 + 1), y46.2.2.1, if x2 = 0 then 0 else (if c4 ≤ (w32 (x.2.2.1 + 1)) then 0 else 1), y46.2.2.2.1, y46.2.2.2.2))
              else
                if c2 < x45 then
                  some (.inl (y46.1, y46.2.1, w32 (x.2.2.1 + 1), y46.2.2.1, if x2 = 0 then 0 else (if c4 ≤ (w32 (x.2.2.1 + 1)) then 0 else 1), y46.2.2.2.1, y46.2.2.2.2))
                else
                  if ((if x2 = 0 then 0 else (if c4 ≤ (w32 (x.2.2.1 + 1)) then 0 else 1)) : Int) = 0 then
                    (f_Rf_lesser (w32 ((w32 (y46.2.2.1 + c2)) - x45)) (w32 (c3 - 1))).bind fun x50 =>
                    some (.inl (w32 ((w32 (24 * y46.2.1)) + x50), y46.2.1, w32 (x.2.2.1 + 1), y46.2.2.1, if x2 = 0 then 0 else (if c4 ≤ (w32 (x.2.2.1 + 1)) then 0 else 1), if x2 = 0 then 0 else (if c4 ≤ (w32 (x.2.2.1 + 1)) then 0 else 1), y46.2.2.2.2))
                  else
                    some (.inl (y46.1, y46.2.1, w32 (x.2.2.1 + 1), y46.2.2.1, if x2 = 0 then 0 else (if c4 ≤ (w32 (x.2.2.1 + 1)) then 0 else 1), if x2 = 0 then 0 else (if c4 ≤ (w32 (x.2.2.1 + 1)) then 0 else 1), y46.2.2.2.2))
            else
              (zloop (f_Rf_lays_l181 c1 c2 c3 c4 x.2.2.1 (if x2 = 0 then 0 else (if c4 ≤ (w32 (x.2.2.1 + 1)) then 0 else 1)) (if ((if x41 = 0 then 0 else 1) : Int) = 0 then (x.2.2.2.2.2.2.1 0 2) else (w32 ((x.2.2.2.2.2.2.1 0 2) - 1)))) zfu (x.1, x.2.1, x.2.2.2.1, x.2.2.2.2.2.1, 0, x.2.2.2.2.2.2)).bind fun y53 =>
                if ¬ x.2.2.1 = (w32 ((y53.2.2.2.2.1 0 7) + c1)) then
                  some (.inl (y53.1, y53.2.1, w32 (x.2.2.1 + 1), y53.2.2.1, if x2 = 0 then 0 else (if c4 ≤ (w32 (x.2.2.1 + 1)) then 0 else 1), y53.2.2.2.1, y53.2.2.2.2))
                else
                  if c2 < ((if ((if x41 = 0 then 0 else 1) : Int) = 0 then (x.2.2.2.2.2.2.1 0 2) else (w32 ((x.2.2.2.2.2.2.1 0 2) - 1))) : Int) then
                    some (.inl (y53.1, y53.2.1, w32 (x.2.2.1 + 1), y53.2.2.1, if x2 = 0 then 0 else (if c4 ≤ (w32 (x.2.2.1 + 1)) then 0 else 1), y53.2.2.2.1, y53.2.2.2.2))
                  else
                    if ((if x2 = 0 then 0 else (if c4 ≤ (w32 (x.2.2.1 + 1)) then 0 else 1)) : Int) = 0 then
                      (f_Rf_lesser (w32 ((w32 (y53.2.2.1 + c2)) - (if ((if x41 = 0 then 0 else 1) : Int) = 0 then (x.2.2.2.2.2.2.1 0 2) else (w32 ((x.2.2.2.2.2.2.1 0 2) - 1))))) (w32 (c3 - 1))).bind fun x57 =>
                      some (.inl (w32 ((w32 (24 * y53.2.1)) + x57), y53.2.1, w32 (x.2.2.1 + 1), y53.2.2.1, if x2 = 0 then 0 else (if c4 ≤ (w32 (x.2.2.1 + 1)) then 0 else 1), if x2 = 0 then 0 else (if c4 ≤ (w32 (x.2.2.1 + 1)) then 0 else 1), y53.2.2.2.2))
                    else
                      some (.inl (y53.1, y53.2.1, w32 (x.2.2.1 + 1), y53.2.2.1, if x2 = 0 then 0 else (if c4 ≤ (w32 (x.2.2.1 + 1)) then 0 else 1), if x2 = 0 then 0 else (if c4 ≤ (w32 (x.2.2.1 + 1)) then 0 else 1), y53.2.2.2.2))
def f_Rf_lays_l50 (c1 c2 c3 c4 : Int)  (x : Int × Int × Int × zSt) : Option ((Int × Int × Int × zSt) ⊕ (Int × Int × zSt)) :=
  if c4 ≤ x.2.2.1 then
    some (.inr (x.1, x.2.1, x.2.2.2))
  else
    (f_Rf_emptiesLaid x.2.1 x.2.2.2).bind fun x2 =>
    (zloop (f_Rf_lays_l72 c1 c2 c3 c4) zfu (x.1, x.2.1, x.2.2.1, 0, 1, 0, x2.2)).bind fun y3 =>
    some (.inl (y3.1, w32 (y3.2.1 + 1), y3.2.2.1, y3.2.2.2))
def f_Rf_lays_j41 (v1 v2 v3 v4 : Int) (s : zSt) : Option (Int × zSt) :=
  (zloop (f_Rf_lays_l50 v1 v2 v3 v4) zfu ((-1), 0, 0, s)).bind fun y1 =>
  some (y1.1, (uS y1.2.2 0 58 y1.2.1))
def f_Rf_lays (a1 a2 a3 : Int) (s : zSt) : Option (Int × zSt) :=
  (zloop (f_Rf_lays_l11 a1 a2 a3) zfu (w32 ((s.1 0 7) + (s.1 0 1)), s)).bind fun y1 =>
  f_Rf_lays_j41 a1 a2 a3 y1.1 y1.2
def f_Rf_cutsOther_l47 (c1 c2 c3 c4 : Int)  (x : Int × zSt) : Option ((Int × zSt) ⊕ (zSt)) :=
  if 24 ≤ x.1 then
    some (.inr x.2)
  else
    (f_Rf_at c4 x.1 x.2).bind fun x2 =>
    if c1 ≤ c4 then
      if 0 ≤ x2 ∧ x2 < x.2.1 1 0 then some (.inl (w32 (x.1 + 1), (uE x.2 1 x2 0))) else none
    else
      if c2 ≤ x.1 then
        if 0 ≤ x2 ∧ x2 < x.2.1 1 0 then some (.inl (w32 (x.1 + 1), (uE x.2 1 x2 0))) else none
      else
        (f_Rf_at c4 x.1 x.2).bind fun x7 =>
        if 0 ≤ x7 ∧ x7 < x.2.1 1 0 then (if 0 ≤ x2 ∧ x2 < x.2.1 1 0 then some (.inl (w32 (x.1 + 1), (uE x.2 1 x2 ((x.2.2 1) x7)))) else none) else none
def f_Rf_cutsOther_l13 (c1 c2 c3 : Int)  (x : Int × zSt) : Option ((Int × zSt) ⊕ (zSt)) :=
  if 12 ≤ x.1 then
    some (.inr x.2)
  else
    if (x.2.1 0 1) ≤ x.1 then
      (zloop (f_Rf_cutsOther_l47 c1 c2 c3 x.1) zfu (0, x.2)).bind fun y3 =>
      if 0 ≤ (w32 (12 + x.1)) ∧ (w32 (12 + x.1)) < y3.1 2 0 then (if 0 ≤ (w32 (12 + x.1)) ∧ (w32 (12 + x.1)) < y3.1 2 0 then some (.inl (w32 (x.1 + 1), (uE y3 2 (w32 (12 + x.1)) (if ((y3.2 2) (w32 (12 + x.1))) = 0 then 0 else (if (w32 (c1 - 1)) ≤ x.1 then 0 else 1))))) else none) else none
    else
      if (x.2.1 0 2) ≤ c2 then
        (zloop (f_Rf_cutsOther_l47 c1 c2 c3 x.1) zfu (0, x.2)).bind fun y14 =>
        if 0 ≤ (w32 (12 + x.1)) ∧ (w32 (12 + x.1)) < y14.1 2 0 then (if 0 ≤ (w32 (12 + x.1)) ∧ (w32 (12 + x.1)) < y14.1 2 0 then some (.inl (w32 (x.1 + 1), (uE y14 2 (w32 (12 + x.1)) (if ((y14.2 2) (w32 (12 + x.1))) = 0 then 0 else (if (w32 (c1 - 1)) ≤ x.1 then 0 else 1))))) else none) else none
      else
        (f_Rf_parts x.1 c2 x.2).bind fun x24 =>
        (zloop (f_Rf_cutsOther_l47 c1 c2 c3 x.1) zfu (0, x24.2)).bind fun y25 =>
        if 0 ≤ (w32 (12 + x.1)) ∧ (w32 (12 + x.1)) < y25.1 2 0 then (if 0 ≤ (w32 (12 + x.1)) ∧ (w32 (12 + x.1)) < y25.1 2 0 then some (.inl (w32 (x.1 + 1), (uE y25 2 (w32 (12 + x.1)) (if ((y25.2 2) (w32 (12 + x.1))) = 0 then 0 else (if (w32 (c1 - 1)) ≤ x.1 then 0 else 1))))) else none) else none
def f_Rf_cutsOther (a1 a2 : Int) (s : zSt) : Option (Int × zSt) :=
  (zloop (f_Rf_cutsOther_l13 a1 a2 (s.1 0 8)) zfu (0, (uS s 0 8 1))).bind fun y1 =>
  some (0, (uS y1 0 8 (s.1 0 8)))
def f_Rf_wide (a1 a2 : Int) (s : zSt) : Option Int :=
  (f_Rf_at a1 a2 s).bind fun x1 =>
  if 0 ≤ x1 ∧ x1 < s.1 1 0 then 
  (f_Rf_isWide ((s.2 1) x1)).bind fun x3 =>
  some (if x3 = 0 then 1 else 2)
   else none
def f_Rf_cell (a1 a2 : Int) (s : zSt) : Option (Int × zSt) :=
  (f_Rf_isCell a1 a2 s).bind fun x1 =>
  if ((if x1 = 0 then 1 else 0) : Int) ≤ 0 then
      (f_Rf_at a1 a2 (uS s 0 0 (if x1 = 0 then 1 else 0))).bind fun x5 =>
      if 0 ≤ x5 ∧ x5 < s.1 1 0 then some ((s.2 1) x5, (uS s 0 0 (if x1 = 0 then 1 else 0))) else none
    else
      some (0, (uS s 0 0 (if x1 = 0 then 1 else 0)))
def f_Rf_told (a1 : Int) (s : zSt) : Option (Int × zSt) :=
  if a1 = 0 then
    some (s.1 0 9, (uS s 0 0 0))
  else if a1 = 1 then
    some (s.1 0 10, (uS s 0 0 0))
  else if a1 = 2 then
    some (if (s.1 0 11) = 0 then 0 else 1, (uS s 0 0 0))
  else if a1 = 3 then
    some (s.1 0 29, (uS s 0 0 0))
  else if a1 = 4 then
    some (s.1 0 12, (uS s 0 0 0))
  else if a1 = 5 then
    some (s.1 0 13, (uS s 0 0 0))
  else if a1 = 6 then
    some (s.1 0 14, (uS s 0 0 0))
  else if a1 = 7 then
    some (s.1 0 1, (uS s 0 0 0))
  else if a1 = 8 then
    some (s.1 0 2, (uS s 0 0 0))
  else if a1 = 9 then
    some (s.1 0 7, (uS s 0 0 0))
  else (f_Rf_toldMore a1 (uS s 0 0 0)).bind fun x15 =>
  some (x15.1, x15.2)
def f_Rf_feeds  (s : zSt) : Option (Int × zSt) :=
  if ¬ (s.1 0 9) = (s.1 0 14) then
    if (w32 ((s.1 0 1) - 1)) ≤ (s.1 0 9) then
      some (0, s)
    else
      some (0, (uS s 0 9 (w32 ((s.1 0 9) + 1))))
  else
    (f_Rf_scrollsUp (s.1 0 13) (s.1 0 14) 1 s).bind fun x3 =>
    some (0, x3.2)
def f_Rf_modes_l2 (c1 c2 : Int)  (x : Int × zSt) : Option ((Int × zSt) ⊕ (zSt)) :=
  if (x.2.1 0 31) ≤ x.1 then
    some (.inr x.2)
  else
    if c1 = 104 then
      if c2 = 0 then
        if 0 ≤ x.1 ∧ x.1 < x.2.1 5 0 then 
        (f_Rf_setsMode (if ¬ ((x.2.2 5) x.1) = 4 then (-1) else (-4)) (if ¬ c1 = 104 then 0 else 1) x.2).bind fun x9 =>
            some (.inl (w32 (x.1 + 1), x9.2))
         else none
      else
        if 0 ≤ x.1 ∧ x.1 < x.2.1 5 0 then 
        (f_Rf_setsMode ((x.2.2 5) x.1) (if ¬ c1 = 104 then 0 else 1) x.2).bind fun x17 =>
          some (.inl (w32 (x.1 + 1), x17.2))
         else none
    else
      if ¬ c1 = 108 then
        some (.inr x.2)
      else
        if c2 = 0 then
          if 0 ≤ x.1 ∧ x.1 < x.2.1 5 0 then 
          (f_Rf_setsMode (if ¬ ((x.2.2 5) x.1) = 4 then (-1) else (-4)) (if ¬ c1 = 104 then 0 else 1) x.2).bind fun x27 =>
              some (.inl (w32 (x.1 + 1), x27.2))
           else none
        else
          if 0 ≤ x.1 ∧ x.1 < x.2.1 5 0 then 
          (f_Rf_setsMode ((x.2.2 5) x.1) (if ¬ c1 = 104 then 0 else 1) x.2).bind fun x35 =>
            some (.inl (w32 (x.1 + 1), x35.2))
           else none
def f_Rf_modes (a1 a2 : Int) (s : zSt) : Option (Int × zSt) :=
  (zloop (f_Rf_modes_l2 a1 a2) zfu (0, s)).bind fun y1 =>
  some (0, y1)
def f_Rf_erasesRow (a1 a2 : Int) (s : zSt) : Option (Int × zSt) :=
  (f_Rf_erases a1 (if ¬ a2 = 0 then 0 else (s.1 0 10)) (if ¬ a2 = 1 then (s.1 0 2) else (w32 ((s.1 0 10) + 1))) s).bind fun x5 =>
      if ¬ a2 = 1 then
        if 0 ≤ (w32 ((w32 (12 * (x5.2.1 0 8))) + a1)) ∧ (w32 ((w32 (12 * (x5.2.1 0 8))) + a1)) < x5.2.1 2 0 then some (0, (uE x5.2 2 (w32 ((w32 (12 * (x5.2.1 0 8))) + a1)) 0)) else none
      else
        if ¬ (x5.2.1 0 10) = (w32 ((x5.2.1 0 2) - 1)) then
          some (0, x5.2)
        else
          if 0 ≤ (w32 ((w32 (12 * (x5.2.1 0 8))) + a1)) ∧ (w32 ((w32 (12 * (x5.2.1 0 8))) + a1)) < x5.2.1 2 0 then some (0, (uE x5.2 2 (w32 ((w32 (12 * (x5.2.1 0 8))) + a1)) 0)) else none
def f_Rf_linesMove_l37 (c1 : Int)  (x : Int × zSt) : Option ((Int × zSt) ⊕ (zSt)) :=
  if x.1 ≤ 0 then
    some (.inr x.2)
  else
    if c1 = 0 then
      (f_Rf_scrollsUp (x.2.1 0 9) (x.2.1 0 14) 0 x.2).bind fun x3 =>
      some (.inl (w32 (x.1 + (-1)), x3.2))
    else
      (f_Rf_scrollsDown (x.2.1 0 9) (x.2.1 0 14) x.2).bind fun x4 =>
      some (.inl (w32 (x.1 + (-1)), x4.2))
def f_Rf_linesMove (a1 : Int) (s : zSt) : Option (Int × zSt) :=
  (f_Rf_in (s.1 0 9) (s.1 0 13) (s.1 0 14)).bind fun x1 =>
  if x1 = 0 then
    some (0, (uS s 0 11 0))
  else
    (f_Rf_first s).bind fun x3 =>
    (f_Rf_lesser x3 (w32 ((w32 ((s.1 0 14) - (s.1 0 9))) + 1))).bind fun x4 =>
    (zloop (f_Rf_linesMove_l37 a1) zfu (x4, s)).bind fun y5 =>
    some (0, (uS (uS y5 0 10 0) 0 11 0))
def f_Rf_size_l201 (c1 c2 c3 c6 c7 c8 : Int)  (x : Int × zSt) : Option ((Int × zSt) ⊕ (zSt)) :=
  if 24 ≤ x.1 then
    some (.inr x.2)
  else
    if 0 ≤ (w32 ((w32 (24 * (w32 ((w32 (c7 - (x.2.1 0 7))) + c8)))) + x.1)) ∧ (w32 ((w32 (24 * (w32 ((w32 (c7 - (x.2.1 0 7))) + c8)))) + x.1)) < x.2.1 14 0 then (if 0 ≤ (w32 ((w32 (24 * c8)) + x.1)) ∧ (w32 ((w32 (24 * c8)) + x.1)) < x.2.1 3 0 then some (.inl (w32 (x.1 + 1), (uE x.2 3 (w32 ((w32 (24 * c8)) + x.1)) ((x.2.2 14) (w32 ((w32 (24 * (w32 ((w32 (c7 - (x.2.1 0 7))) + c8)))) + x.1)))))) else none) else none
def f_Rf_size_l189 (c1 c2 c3 c6 c7 : Int)  (x : Int × zSt) : Option ((Int × zSt) ⊕ (zSt)) :=
  if (x.2.1 0 7) ≤ x.1 then
    some (.inr x.2)
  else
    (zloop (f_Rf_size_l201 c1 c2 c3 c6 c7 x.1) zfu (0, x.2)).bind fun y2 =>
    if 0 ≤ (w32 ((w32 (c7 - (y2.1 0 7))) + x.1)) ∧ (w32 ((w32 (c7 - (y2.1 0 7))) + x.1)) < y2.1 15 0 then (if (0 ≤ x.1 ∧ x.1 < y2.1 4 0) ∧ (((y2.2 15) (w32 ((w32 (c7 - (y2.1 0 7))) + x.1))) = 0 ∨ ((y2.2 15) (w32 ((w32 (c7 - (y2.1 0 7))) + x.1))) = 1) then some (.inl (w32 (x.1 + 1), (uE y2 4 x.1 ((y2.2 15) (w32 ((w32 (c7 - (y2.1 0 7))) + x.1)))))) else none) else none
def f_Rf_size_l314 (c1 c2 c3 c6 c7 c8 c9 : Int)  (x : Int × zSt) : Option ((Int × zSt) ⊕ (zSt)) :=
  if 24 ≤ x.1 then
    some (.inr x.2)
  else
    if c9 = 0 then
      if 0 ≤ (w32 ((w32 (24 * c8)) + x.1)) ∧ (w32 ((w32 (24 * c8)) + x.1)) < x.2.1 1 0 then some (.inl (w32 (x.1 + 1), (uE x.2 1 (w32 ((w32 (24 * c8)) + x.1)) 0))) else none
    else
      if 0 ≤ (w32 ((w32 (24 * (w32 (c7 + c8)))) + x.1)) ∧ (w32 ((w32 (24 * (w32 (c7 + c8)))) + x.1)) < x.2.1 14 0 then (if 0 ≤ (w32 ((w32 (24 * c8)) + x.1)) ∧ (w32 ((w32 (24 * c8)) + x.1)) < x.2.1 1 0 then some (.inl (w32 (x.1 + 1), (uE x.2 1 (w32 ((w32 (24 * c8)) + x.1)) ((x.2.2 14) (w32 ((w32 (24 * (w32 (c7 + c8)))) + x.1)))))) else none) else none
def f_Rf_size_l279 (c1 c2 c3 c6 c7 : Int)  (x : Int × zSt) : Option ((Int × zSt) ⊕ (zSt)) :=
  if 12 ≤ x.1 then
    some (.inr x.2)
  else
    (zloop (f_Rf_size_l314 c1 c2 c3 c6 c7 x.1 (if c1 ≤ x.1 then 0 else (if (x.2.1 0 58) ≤ (w32 (c7 + x.1)) then 0 else 1))) zfu (0, x.2)).bind fun y4 =>
      if ((if c1 ≤ x.1 then 0 else (if (x.2.1 0 58) ≤ (w32 (c7 + x.1)) then 0 else 1)) : Int) = 0 then
        if 0 ≤ x.1 ∧ x.1 < y4.1 2 0 then some (.inl (w32 (x.1 + 1), (uE y4 2 x.1 0))) else none
      else
        if (w32 (c1 - 1)) ≤ x.1 then
          if 0 ≤ x.1 ∧ x.1 < y4.1 2 0 then some (.inl (w32 (x.1 + 1), (uE y4 2 x.1 0))) else none
        else
          if 0 ≤ (w32 (c7 + x.1)) ∧ (w32 (c7 + x.1)) < y4.1 15 0 then (if 0 ≤ x.1 ∧ x.1 < y4.1 2 0 then some (.inl (w32 (x.1 + 1), (uE y4 2 x.1 (if ((y4.2 15) (w32 (c7 + x.1))) = 0 then 0 else 1)))) else none) else none
def f_Rf_size_l608   (x : Int × zSt) : Option ((Int × zSt) ⊕ (zSt)) :=
  if 288 ≤ x.1 then
    some (.inr x.2)
  else
    if 0 ≤ x.1 ∧ x.1 < x.2.1 12 0 then some (.inl (w32 (x.1 + 1), (uE x.2 12 x.1 0))) else none
def f_Rf_size_j548 (v1 v2 k0 : Int) (s : zSt) : Option (Int × zSt) :=
  (f_Rf_laysTabs (s.1 0 2) (uS (uS (uS (uS (uS (uS s 0 10 k0) 0 1 v1) 0 2 v2) 0 13 0) 0 14 (w32 (v1 - 1))) 0 15 (wAnd (s.1 0 15) (w32 ((wShl 1 v2) - 1))))).bind fun x1 =>
  (zloop (f_Rf_size_l608) zfu (0, x1.2)).bind fun y2 =>
  some (y2.1 0 7, y2)
def f_Rf_size_j522 (v1 v2 v3 v6 k0 : Int) (s : zSt) : Option (Int × zSt) :=
  if v3 = 0 then
    (f_Rf_lesser (s.1 0 10) (w32 (v2 - 1))).bind fun x2 =>
    f_Rf_size_j548 v1 v2 x2 (uS s 0 9 k0)
  else
    f_Rf_size_j548 v1 v2 (wRem v6 24) (uS s 0 9 k0)
def f_Rf_size_j496 (v1 v2 v3 v6 v7 : Int) (s : zSt) : Option (Int × zSt) :=
  if v3 = 0 then
    (f_Rf_lesser (s.1 0 9) (w32 (v1 - 1))).bind fun x2 =>
    f_Rf_size_j522 v1 v2 v3 v6 x2 s
  else
    f_Rf_size_j522 v1 v2 v3 v6 (w32 ((wDiv v6 24) - v7)) s
def f_Rf_size_j123 (v1 v2 v3 v4 k0 : Int) (s : zSt) : Option (Int × zSt) :=
  (f_Rf_lays v4 k0 v2 s).bind fun x1 =>
  (f_Rf_cutsOther v1 v2 x1.2).bind fun x2 =>
  (f_Rf_lesser (if 0 ≤ (w32 ((x2.2.1 0 58) - v1)) then (w32 ((x2.2.1 0 58) - v1)) else 0) (wDiv x1.1 24)).bind fun x5 =>
    (f_Rf_lesser x5 40).bind fun x6 =>
    (zloop (f_Rf_size_l189 v1 v2 v3 x1.1 x5) zfu (0, (uS x2.2 0 7 x6))).bind fun y7 =>
    (zloop (f_Rf_size_l279 v1 v2 v3 x1.1 x5) zfu (0, y7)).bind fun y8 =>
    if ¬ v3 = 0 then
        f_Rf_size_j496 v1 v2 v3 x1.1 x5 (uS y8 0 11 (if v3 = 0 then 0 else (if (y8.1 0 11) = 0 then 0 else (if ¬ (wRem x1.1 24) = (w32 (v2 - 1)) then 0 else 1))))
      else
        f_Rf_size_j496 v1 v2 v3 x1.1 x5 (uS (uS (uS (uS (uS y8 0 11 (if v3 = 0 then 0 else (if (y8.1 0 11) = 0 then 0 else (if ¬ (wRem x1.1 24) = (w32 (v2 - 1)) then 0 else 1)))) 0 24 (w32 ((wDiv x1.1 24) - x5))) 0 25 (wRem x1.1 24)) 0 26 (if (y8.1 0 26) = 0 then 0 else (if ¬ (wRem x1.1 24) = (w32 (v2 - 1)) then 0 else 1))) 0 23 1)
def f_Rf_size_j86 (v1 v2 v3 k0 : Int) (s : zSt) : Option (Int × zSt) :=
  if v3 = 0 then
    if (s.1 0 23) = 0 then
      f_Rf_size_j123 v1 v2 v3 k0 0 s
    else
      (f_Rf_lesser (s.1 0 25) (w32 ((s.1 0 2) - 1))).bind fun x3 =>
      f_Rf_size_j123 v1 v2 v3 k0 x3 s
  else
    f_Rf_size_j123 v1 v2 v3 k0 (s.1 0 10) s
def f_Rf_size_j26 (v1 v2 k0 : Int) (s : zSt) : Option (Int × zSt) :=
  if k0 ≤ 0 then
    if ((if ¬ (s.1 0 8) = 0 then 0 else 1) : Int) = 0 then
        if (s.1 0 23) = 0 then
          f_Rf_size_j86 v1 v2 (if ¬ (s.1 0 8) = 0 then 0 else 1) 0 (uS s 0 0 k0)
        else
          (f_Rf_lesser (s.1 0 24) (w32 ((s.1 0 1) - 1))).bind fun x6 =>
          f_Rf_size_j86 v1 v2 (if ¬ (s.1 0 8) = 0 then 0 else 1) x6 (uS s 0 0 k0)
      else
        f_Rf_size_j86 v1 v2 (if ¬ (s.1 0 8) = 0 then 0 else 1) (s.1 0 9) (uS s 0 0 k0)
  else
    some (0, (uS s 0 0 k0))
def f_Rf_size_j25 (v1 v2 : Int) (s : zSt) : Option (Int × zSt) :=
  f_Rf_size_j26 v1 v2 1 s
def f_Rf_size (a1 a2 : Int) (s : zSt) : Option (Int × zSt) :=
  (f_Rf_in a1 2 12).bind fun x1 =>
  if x1 = 0 then
    f_Rf_size_j25 a1 a2 s
  else
    (f_Rf_in a2 4 24).bind fun x3 =>
    if ((if x3 = 0 then 1 else 0) : Int) ≤ 0 then
        if ((if ¬ (s.1 0 8) = 0 then 0 else 1) : Int) = 0 then
            if (s.1 0 23) = 0 then
              f_Rf_size_j86 a1 a2 (if ¬ (s.1 0 8) = 0 then 0 else 1) 0 (uS s 0 0 (if x3 = 0 then 1 else 0))
            else
              (f_Rf_lesser (s.1 0 24) (w32 ((s.1 0 1) - 1))).bind fun x11 =>
              f_Rf_size_j86 a1 a2 (if ¬ (s.1 0 8) = 0 then 0 else 1) x11 (uS s 0 0 (if x3 = 0 then 1 else 0))
          else
            f_Rf_size_j86 a1 a2 (if ¬ (s.1 0 8) = 0 then 0 else 1) (s.1 0 9) (uS s 0 0 (if x3 = 0 then 1 else 0))
      else
        some (0, (uS s 0 0 (if x3 = 0 then 1 else 0)))
def f_Rf_costOf_l10 (c1 c2 c3 c4 : Int)  (x : Int × zSt) : Option ((Int × zSt) ⊕ (zSt)) :=
  if 16 ≤ x.1 then
    some (.inr x.2)
  else
    if 0 ≤ (w32 ((w32 (16 * (x.2.1 0 2))) + x.1)) ∧ (w32 ((w32 (16 * (x.2.1 0 2))) + x.1)) < x.2.1 13 0 then some (.inl (w32 (x.1 + 1), (uE x.2 13 (w32 ((w32 (16 * (x.2.1 0 2))) + x.1)) 0))) else none
def f_Rf_costOf_l198 (c1 c2 c3 c4 c5 c6 c7 : Int)  (x : Int × Int × zSt) : Option ((Int × Int × zSt) ⊕ (Int × zSt)) :=
  if (x.2.2.1 0 2) ≤ x.2.1 then
    some (.inr (x.1, x.2.2))
  else
    (f_Rf_isLike c1 x.2.1 x.2.2).bind fun x2 =>
    if x2 = 0 then
      some (.inr (x.1, x.2.2))
    else
      if (x.2.2.1 0 2) ≤ (w32 (x.2.1 + 1)) then
        some (.inl (x.1, w32 (x.2.1 + 1), x.2.2))
      else
        (f_Rf_at c1 (w32 (x.2.1 + 1)) x.2.2).bind fun x5 =>
        if 0 ≤ x5 ∧ x5 < x.2.2.1 1 0 then 
        if ((x.2.2.2 1) x5) = (-2) then
          some (.inl (x.1, w32 (x.2.1 + 1), x.2.2))
        else
          if 0 ≤ (w32 ((w32 (16 * (w32 (x.2.1 + 1)))) + c7)) ∧ (w32 ((w32 (16 * (w32 (x.2.1 + 1)))) + c7)) < x.2.2.1 13 0 then 
          (f_Rf_lesser x.1 (w32 (4 + ((x.2.2.2 13) (w32 ((w32 (16 * (w32 (x.2.1 + 1)))) + c7)))))).bind fun x9 =>
          some (.inl (x9, w32 (x.2.1 + 1), x.2.2))
           else none
         else none
def f_Rf_costOf_l106 (c1 c2 c3 c4 c5 c6 : Int)  (x : Int × zSt) : Option ((Int × zSt) ⊕ (zSt)) :=
  if 16 ≤ x.1 then
    some (.inr x.2)
  else
    if c6 = (-2) then
      some (.inr x.2)
    else
      (f_Rf_wide c1 c5 x.2).bind fun x5 =>
        if 0 ≤ (w32 ((w32 (16 * (w32 (c5 + x5)))) + (wDiv (wRem c6 100000) 1000))) ∧ (w32 ((w32 (16 * (w32 (c5 + x5)))) + (wDiv (wRem c6 100000) 1000))) < x.2.1 13 0 then 
        (zloop (f_Rf_costOf_l198 c1 c2 c3 c4 c5 c6 x.1) zfu (if c4 = 0 then (w32 ((w32 ((w32 (1 + (wDiv c6 100000))) + (if ¬ (wDiv (wRem c6 100000) 1000) = x.1 then 4 else 0))) + ((x.2.2 13) (w32 ((w32 (16 * (w32 (c5 + x5)))) + (wDiv (wRem c6 100000) 1000)))))) else (if (w32 ((w32 ((w32 (1 + (wDiv c6 100000))) + (if ¬ (wDiv (wRem c6 100000) 1000) = x.1 then 4 else 0))) + ((x.2.2 13) (w32 ((w32 (16 * (w32 (c5 + x5)))) + (wDiv (wRem c6 100000) 1000)))))) ≤ 3 then (w32 ((w32 ((w32 (1 + (wDiv c6 100000))) + (if ¬ (wDiv (wRem c6 100000) 1000) = x.1 then 4 else 0))) + ((x.2.2 13) (w32 ((w32 (16 * (w32 (c5 + x5)))) + (wDiv (wRem c6 100000) 1000)))))) else 3), c5, x.2)).bind fun y9 =>
          if 0 ≤ (w32 ((w32 (16 * c5)) + x.1)) ∧ (w32 ((w32 (16 * c5)) + x.1)) < y9.2.1 13 0 then some (.inl (w32 (x.1 + 1), (uE y9.2 13 (w32 ((w32 (16 * c5)) + x.1)) (if c3 = 0 then y9.1 else 0)))) else none
         else none
def f_Rf_costOf_l47 (c1 c2 : Int)  (x : Int × Int × Int × zSt) : Option ((Int × Int × Int × zSt) ⊕ (Int × zSt)) :=
  if x.2.2.1 < 0 then
    some (.inr (x.1, x.2.2.2))
  else
    (f_Rf_at c1 x.2.2.1 x.2.2.2).bind fun x2 =>
    if 0 ≤ x2 ∧ x2 < x.2.2.2.1 1 0 then 
    if x.1 = 0 then
      (zloop (f_Rf_costOf_l106 c1 c2 0 (if x.2.1 = 0 then 0 else (if ¬ ((x.2.2.2.2 1) x2) = 0 then 0 else 1)) x.2.2.1 ((x.2.2.2.2 1) x2)) zfu (0, x.2.2.2)).bind fun y7 =>
        some (.inl (0, if x.2.1 = 0 then 0 else (if ¬ ((x.2.2.2.2 1) x2) = 0 then 0 else 1), w32 (x.2.2.1 + (-1)), y7))
    else
      (f_Rf_isLike c1 x.2.2.1 x.2.2.2).bind fun x13 =>
      (zloop (f_Rf_costOf_l106 c1 c2 (if x13 = 0 then 0 else 1) (if x.2.1 = 0 then 0 else (if ¬ ((x.2.2.2.2 1) x2) = 0 then 0 else 1)) x.2.2.1 ((x.2.2.2.2 1) x2)) zfu (0, x.2.2.2)).bind fun y18 =>
          some (.inl (if x13 = 0 then 0 else 1, if x.2.1 = 0 then 0 else (if ¬ ((x.2.2.2.2 1) x2) = 0 then 0 else 1), w32 (x.2.2.1 + (-1)), y18))
     else none
def f_Rf_costOf_l320 (c1 : Int)  (x : Int × Int × Int × zSt) : Option ((Int × Int × Int × zSt) ⊕ (Int × zSt)) :=
  if x.2.2.1 = 0 then
    some (.inr (x.1, x.2.2.2))
  else
    (f_Rf_at c1 x.2.1 x.2.2.2).bind fun x2 =>
    if 0 ≤ x2 ∧ x2 < x.2.2.2.1 1 0 then 
    if ¬ ((x.2.2.2.2 1) x2) = (-2) then
      if 0 ≤ (w32 (16 * x.2.1)) ∧ (w32 (16 * x.2.1)) < x.2.2.2.1 13 0 then 
      (f_Rf_lesser x.1 (w32 (6 + ((x.2.2.2.2 13) (w32 (16 * x.2.1)))))).bind fun x6 =>
      (f_Rf_isLike c1 x.2.1 x.2.2.2).bind fun x7 =>
      some (.inl (x6, w32 (x.2.1 + 1), x7, x.2.2.2))
       else none
    else
      (f_Rf_isLike c1 x.2.1 x.2.2.2).bind fun x8 =>
      some (.inl (x.1, w32 (x.2.1 + 1), x8, x.2.2.2))
     else none
def f_Rf_costOf (a1 : Int) (s : zSt) : Option (Int × zSt) :=
  (zloop (f_Rf_costOf_l10 a1 0 1 1) zfu (0, s)).bind fun y1 =>
  (zloop (f_Rf_costOf_l47 a1 0) zfu (1, 1, w32 ((y1.1 0 2) - 1), y1)).bind fun y2 =>
  if ¬ y2.1 = 0 then
    some (0, y2.2)
  else
    (zloop (f_Rf_costOf_l320 a1) zfu (1000000, 0, 1, y2.2)).bind fun y4 =>
    some (y4.1, y4.2)
def f_Rf_cellAnew (a1 a2 : Int) (s : zSt) : Option (Int × zSt) :=
  (f_Rf_cell a1 a2 s).bind fun x1 =>
  some (x1.1, x1.2)
def f_Rf_draws_j232 (v2 : Int) (s : zSt) : Option (Int × zSt) :=
  if (w32 ((s.1 0 10) + v2)) ≤ (w32 ((s.1 0 2) - 1)) then
    some (0, (uS s 0 10 (w32 ((s.1 0 10) + v2))))
  else
    if (s.1 0 18) = 0 ∨ (s.1 0 18) = 1 then some (0, (uS (uS (uS s 0 10 (w32 ((s.1 0 10) + v2))) 0 10 (w32 ((s.1 0 2) - 1))) 0 11 (s.1 0 18))) else none
def f_Rf_draws_j153 (v1 v2 : Int) (s : zSt) : Option (Int × zSt) :=
  (f_Rf_parts (s.1 0 9) (s.1 0 10) s).bind fun x1 =>
  (f_Rf_parts (x1.2.1 0 9) (w32 ((x1.2.1 0 10) + v2)) x1.2).bind fun x2 =>
  (f_Rf_at (x2.2.1 0 9) (x2.2.1 0 10) x2.2).bind fun x3 =>
  if 0 ≤ x3 ∧ x3 < x2.2.1 1 0 then 
  if ¬ v2 = 2 then
    f_Rf_draws_j232 v2 (uE x2.2 1 x3 (w32 (v1 + (w32 (1000 * (x2.2.1 0 12))))))
  else
    (f_Rf_at (x2.2.1 0 9) (w32 ((x2.2.1 0 10) + 1)) (uE x2.2 1 x3 (w32 (v1 + (w32 (1000 * (x2.2.1 0 12))))))).bind fun x6 =>
    if 0 ≤ x6 ∧ x6 < x2.2.1 1 0 then f_Rf_draws_j232 v2 (uE (uE x2.2 1 x3 (w32 (v1 + (w32 (1000 * (x2.2.1 0 12)))))) 1 x6 (-2)) else none
   else none
def f_Rf_draws_j128 (v1 v2 : Int) (s : zSt) : Option (Int × zSt) :=
  if (s.1 0 22) = 0 then
    f_Rf_draws_j153 v1 v2 (uS s 0 11 0)
  else
    (f_Rf_movesRight (s.1 0 9) (s.1 0 10) v2 (uS s 0 11 0)).bind fun x2 =>
    f_Rf_draws_j153 v1 v2 x2.2
def f_Rf_draws_j114 (v1 v2 v3 : Int) (s : zSt) : Option (Int × zSt) :=
  if v3 = 0 then
    f_Rf_draws_j128 v1 v2 s
  else
    f_Rf_draws_j128 v1 v2 (uS s 0 10 (w32 ((s.1 0 2) - 2)))
def f_Rf_draws_j84 (v1 v2 : Int) (s : zSt) : Option (Int × zSt) :=
  if 0 ≤ (w32 ((w32 (12 * (s.1 0 8))) + (s.1 0 9))) ∧ (w32 ((w32 (12 * (s.1 0 8))) + (s.1 0 9))) < s.1 2 0 then 
  (f_Rf_feeds (uE s 2 (w32 ((w32 (12 * (s.1 0 8))) + (s.1 0 9))) 1)).bind fun x2 =>
  f_Rf_draws_j128 v1 v2 (uS x2.2 0 10 0)
   else none
def f_Rf_draws_j59 (v1 v2 : Int) (s : zSt) : Option (Int × zSt) :=
  if ¬ (s.1 0 11) = 0 then
    f_Rf_draws_j84 v1 v2 s
  else
    (f_Rf_erases (s.1 0 9) (w32 ((s.1 0 2) - 1)) (s.1 0 2) s).bind fun x2 =>
    f_Rf_draws_j84 v1 v2 x2.2
def f_Rf_draws (a1 : Int) (s : zSt) : Option (Int × zSt) :=
  (f_Rf_in a1 65 90).bind fun x1 =>
  if (s.1 0 18) = 0 then
        f_Rf_draws_j114 a1 (if x1 = 0 then 1 else 2) (if ¬ ((if x1 = 0 then 1 else 2) : Int) = 2 then 0 else (if ¬ (s.1 0 10) = (w32 ((s.1 0 2) - 1)) then 0 else 1)) s
      else
        if ¬ (s.1 0 11) = 0 then
          f_Rf_draws_j59 a1 (if x1 = 0 then 1 else 2) s
        else
          if ((if ¬ ((if x1 = 0 then 1 else 2) : Int) = 2 then 0 else (if ¬ (s.1 0 10) = (w32 ((s.1 0 2) - 1)) then 0 else 1)) : Int) = 0 then
            f_Rf_draws_j114 a1 (if x1 = 0 then 1 else 2) (if ¬ ((if x1 = 0 then 1 else 2) : Int) = 2 then 0 else (if ¬ (s.1 0 10) = (w32 ((s.1 0 2) - 1)) then 0 else 1)) s
          else
            f_Rf_draws_j59 a1 (if x1 = 0 then 1 else 2) s
def f_Rf_controls (a1 : Int) (s : zSt) : Option (Int × zSt) :=
  if a1 = 7 then
    some (0, (uS s 0 39 (w32 ((s.1 0 39) + 1))))
  else if a1 = 8 then
    some (0, (uS (uS s 0 10 (w32 ((s.1 0 10) - (if (s.1 0 10) ≤ 0 then 0 else 1)))) 0 11 0))
  else if a1 = 9 then
    (f_Rf_nextTab s).bind fun x8 =>
    if ¬ x8 = (-1) then
      (f_Rf_nextTab s).bind fun x10 =>
      some (0, (uS (uS s 0 10 x10) 0 11 0))
    else
      some (0, (uS (uS s 0 10 (w32 ((s.1 0 2) - 1))) 0 11 0))
  else if a1 = 10 then
    (f_Rf_feeds s).bind fun x12 =>
    some (0, (uS x12.2 0 11 0))
  else if a1 = 13 then
    some (0, (uS (uS s 0 10 0) 0 11 0))
  else if a1 = 24 then
    some (0, (uS s 0 29 0))
  else if a1 = 27 then
    some (0, (uS s 0 29 1))
  else some (0, s)
def f_Rf_escapes (a1 : Int) (s : zSt) : Option (Int × zSt) :=
  if a1 = 55 then
    (f_Rf_saves (uS s 0 29 0)).bind fun x2 =>
    some (0, x2.2)
  else if a1 = 56 then
    (f_Rf_bringsBack (uS s 0 29 0)).bind fun x4 =>
    some (0, x4.2)
  else if a1 = 68 then
    (f_Rf_feeds (uS s 0 29 0)).bind fun x6 =>
    some (0, (uS x6.2 0 11 0))
  else if a1 = 69 then
    (f_Rf_feeds (uS s 0 29 0)).bind fun x8 =>
    some (0, (uS (uS x8.2 0 10 0) 0 11 0))
  else if a1 = 72 then
    some (0, (uS (uS s 0 29 0) 0 15 (wOr (s.1 0 15) (wShl 1 (s.1 0 10)))))
  else if a1 = 77 then
    if ¬ (s.1 0 9) = (s.1 0 13) then
      some (0, (uS (uS (uS s 0 29 0) 0 9 (w32 ((s.1 0 9) - (if (s.1 0 9) ≤ 0 then 0 else 1)))) 0 11 0))
    else
      (f_Rf_scrollsDown (s.1 0 13) (s.1 0 14) (uS s 0 29 0)).bind fun x16 =>
      some (0, (uS x16.2 0 11 0))
  else if a1 = 91 then
    if (0 : Int) ≤ 0 ∧ 0 < s.1 5 0 then some (0, (uS (uS (uS (uS (uE (uS (uS s 0 29 0) 0 29 2) 5 0 0) 0 31 1) 0 32 1) 0 33 0) 0 34 0)) else none
  else if a1 = 93 then
    some (0, (uS (uS (uS s 0 29 0) 0 29 3) 0 36 0))
  else if a1 = 99 then
    (f_Rf_resets (uS s 0 29 0)).bind fun x21 =>
    some (0, x21.2)
  else some (0, (uS s 0 29 0))
def f_Rf_erasesAll_l12 (c1 : Int)  (x : Int × zSt) : Option ((Int × zSt) ⊕ (zSt)) :=
  if (x.2.1 0 1) ≤ x.1 then
    some (.inr x.2)
  else
    if 3 ≤ c1 then
      some (.inr x.2)
    else
      if ¬ x.1 = (x.2.1 0 9) then
        if c1 = 2 then
          (f_Rf_emptiesRow x.1 x.2).bind fun x5 =>
          some (.inl (w32 (x.1 + 1), x5.2))
        else
          if ¬ ((if ¬ c1 = 0 then 0 else 1) : Int) = ((if x.1 ≤ (x.2.1 0 9) then 0 else 1) : Int) then
                some (.inl (w32 (x.1 + 1), x.2))
              else
                (f_Rf_emptiesRow x.1 x.2).bind fun x11 =>
                some (.inl (w32 (x.1 + 1), x11.2))
      else
        (f_Rf_erasesRow x.1 c1 x.2).bind fun x16 =>
        some (.inl (w32 (x.1 + 1), x16.2))
def f_Rf_erasesAll_j10 (v1 : Int) (s : zSt) : Option (Int × zSt) :=
  (zloop (f_Rf_erasesAll_l12 v1) zfu (0, s)).bind fun y1 =>
  some (0, y1)
def f_Rf_erasesAll (a1 : Int) (s : zSt) : Option (Int × zSt) :=
  if ¬ a1 = 3 then
    f_Rf_erasesAll_j10 a1 s
  else
    f_Rf_erasesAll_j10 a1 (uS s 0 7 0)
def f_Rf_meansMore_l62 (c2 : Int)  (x : Int × zSt) : Option ((Int × zSt) ⊕ (zSt)) :=
  if c2 ≤ x.1 then
    some (.inr x.2)
  else
    (f_Rf_scrollsUp (x.2.1 0 13) (x.2.1 0 14) 1 x.2).bind fun x2 =>
    some (.inl (w32 (x.1 + 1), x2.2))
def f_Rf_meansMore_l91 (c2 : Int)  (x : Int × zSt) : Option ((Int × zSt) ⊕ (zSt)) :=
  if c2 ≤ x.1 then
    some (.inr x.2)
  else
    (f_Rf_scrollsDown (x.2.1 0 13) (x.2.1 0 14) x.2).bind fun x2 =>
    some (.inl (w32 (x.1 + 1), x2.2))
def f_Rf_meansMore (a1 a2 : Int) (s : zSt) : Option (Int × zSt) :=
  if a1 = 83 then
    (zloop (f_Rf_meansMore_l62 a2) zfu (0, s)).bind fun y2 =>
    some (0, y2)
  else if a1 = 84 then
    (zloop (f_Rf_meansMore_l91 a2) zfu (0, s)).bind fun y4 =>
    some (0, y4)
  else if a1 = 103 then
    if (0 : Int) ≤ 0 ∧ 0 < s.1 5 0 then 
    if ¬ ((s.2 5) 0) = 3 then
      if (0 : Int) ≤ 0 ∧ 0 < s.1 5 0 then some (0, (uS s 0 15 (if ¬ ((s.2 5) 0) = 0 then (s.1 0 15) else (wAnd (s.1 0 15) (wXor (wShl 1 (s.1 0 10)) (-1)))))) else none
    else
      some (0, (uS s 0 15 0))
     else none
  else if a1 = 109 then
    (f_Rf_colours s).bind fun x14 =>
    some (0, x14.2)
  else if a1 = 110 then
    (f_Rf_tells s).bind fun x16 =>
    some (0, x16.2)
  else if a1 = 114 then
    (f_Rf_setsRegion s).bind fun x18 =>
    some (0, x18.2)
  else (f_Rf_modes a1 0 s).bind fun x19 =>
  some (0, x19.2)
def f_Rf_draw_l9   (x : Int × Int × zSt) : Option ((Int × Int × zSt) ⊕ (Int × zSt)) :=
  if (x.2.2.1 0 1) ≤ x.2.1 then
    some (.inr (x.1, x.2.2))
  else
    (f_Rf_costOf x.2.1 x.2.2).bind fun x2 =>
    some (.inl (w32 (x.1 + x2.1), w32 (x.2.1 + 1), x2.2))
def f_Rf_draw_l43 (c1 c2 : Int)  (x : Int × zSt) : Option ((Int × zSt) ⊕ (zSt)) :=
  if (x.2.1 0 2) ≤ x.1 then
    some (.inr x.2)
  else
    (f_Rf_at c2 x.1 x.2).bind fun x2 =>
    if 0 ≤ x2 ∧ x2 < x.2.1 1 0 then (if 0 ≤ (w32 ((w32 (24 * c2)) + x.1)) ∧ (w32 ((w32 (24 * c2)) + x.1)) < x.2.1 12 0 then some (.inl (w32 (x.1 + 1), (uE x.2 12 (w32 ((w32 (24 * c2)) + x.1)) ((x.2.2 1) x2)))) else none) else none
def f_Rf_draw_l33 (c1 : Int)  (x : Int × zSt) : Option ((Int × zSt) ⊕ (zSt)) :=
  if (x.2.1 0 1) ≤ x.1 then
    some (.inr x.2)
  else
    (zloop (f_Rf_draw_l43 c1 x.1) zfu (0, x.2)).bind fun y2 =>
    some (.inl (w32 (x.1 + 1), y2))
def f_Rf_draw  (s : zSt) : Option (Int × zSt) :=
  (zloop (f_Rf_draw_l9) zfu (0, 0, (uS s 0 0 0))).bind fun y1 =>
  (zloop (f_Rf_draw_l33 y1.1) zfu (0, y1.2)).bind fun y2 =>
  some (y1.1, y2)
def f_Rf_least (a1 : Int) (s : zSt) : Option (Int × zSt) :=
  (f_Rf_in a1 0 (w32 ((s.1 0 1) - 1))).bind fun x1 =>
  if ((if x1 = 0 then 1 else 0) : Int) ≤ 0 then
      (f_Rf_costOf a1 (uS s 0 0 (if x1 = 0 then 1 else 0))).bind fun x5 =>
      some (x5.1, x5.2)
    else
      some (0, (uS s 0 0 (if x1 = 0 then 1 else 0)))
def f_Rf_means_j274 (k0 : Int) (s : zSt) : Option (Int × zSt) :=
  (f_Rf_second (uS s 0 9 k0)).bind fun x1 =>
  if ¬ x1 = 0 then
    (f_Rf_second (uS s 0 9 k0)).bind fun x3 =>
    (f_Rf_lesser (w32 (x3 - 1)) (w32 ((s.1 0 2) - 1))).bind fun x4 =>
    some (0, (uS (uS (uS s 0 9 k0) 0 10 x4) 0 11 0))
  else
    some (0, (uS (uS (uS s 0 9 k0) 0 10 0) 0 11 0))
def f_Rf_means (a1 : Int) (s : zSt) : Option (Int × zSt) :=
  (f_Rf_first s).bind fun x1 =>
  if a1 = 64 then
    (f_Rf_movesRight (s.1 0 9) (s.1 0 10) x1 s).bind fun x3 =>
    some (0, (uS x3.2 0 11 0))
  else if a1 = 65 then
    some (0, (uS (uS s 0 9 (if 0 ≤ (w32 ((s.1 0 9) - x1)) then (w32 ((s.1 0 9) - x1)) else 0)) 0 11 0))
  else if a1 = 66 then
    (f_Rf_lesser (w32 ((s.1 0 9) + x1)) (w32 ((s.1 0 1) - 1))).bind fun x10 =>
    some (0, (uS (uS s 0 9 x10) 0 11 0))
  else if a1 = 67 then
    (f_Rf_lesser (w32 ((s.1 0 10) + x1)) (w32 ((s.1 0 2) - 1))).bind fun x12 =>
    some (0, (uS (uS s 0 10 x12) 0 11 0))
  else if a1 = 68 then
    some (0, (uS (uS s 0 10 (if 0 ≤ (w32 ((s.1 0 10) - x1)) then (w32 ((s.1 0 10) - x1)) else 0)) 0 11 0))
  else if a1 = 72 then
    if (s.1 0 17) = 0 then
      (f_Rf_lesser (w32 (x1 - 1)) (w32 ((s.1 0 1) - 1))).bind fun x20 =>
      f_Rf_means_j274 x20 s
    else
      (f_Rf_lesser (w32 ((w32 ((s.1 0 13) + x1)) - 1)) (s.1 0 14)).bind fun x21 =>
      f_Rf_means_j274 x21 s
  else if a1 = 74 then
    if (0 : Int) ≤ 0 ∧ 0 < s.1 5 0 then 
    (f_Rf_erasesAll ((s.2 5) 0) s).bind fun x24 =>
    some (0, (uS x24.2 0 11 0))
     else none
  else if a1 = 75 then
    if (0 : Int) ≤ 0 ∧ 0 < s.1 5 0 then 
    if 3 ≤ ((s.2 5) 0) then
      some (0, (uS s 0 11 0))
    else
      if (0 : Int) ≤ 0 ∧ 0 < s.1 5 0 then 
      (f_Rf_erasesRow (s.1 0 9) ((s.2 5) 0) s).bind fun x29 =>
      some (0, (uS x29.2 0 11 0))
       else none
     else none
  else if a1 = 76 then
    (f_Rf_linesMove 1 s).bind fun x31 =>
    some (0, x31.2)
  else if a1 = 77 then
    (f_Rf_linesMove 0 s).bind fun x33 =>
    some (0, x33.2)
  else if a1 = 80 then
    (f_Rf_movesLeft (s.1 0 9) (s.1 0 10) x1 s).bind fun x35 =>
    some (0, (uS x35.2 0 11 0))
  else if a1 = 88 then
    (f_Rf_lesser (w32 ((s.1 0 10) + x1)) (s.1 0 2)).bind fun x37 =>
    (f_Rf_erases (s.1 0 9) (s.1 0 10) x37 s).bind fun x38 =>
    some (0, (uS x38.2 0 11 0))
  else (f_Rf_meansMore a1 x1 s).bind fun x39 =>
  some (0, x39.2)
def f_Rf_codes_j201 (v1 : Int) (s : zSt) : Option (Int × zSt) :=
  if ¬ (s.1 0 34) = 0 then
    some (0, (uS s 0 32 0))
  else
    (f_Rf_means v1 s).bind fun x2 =>
    some (0, (uS x2.2 0 32 0))
def f_Rf_codes_j139 (v1 : Int) (s : zSt) : Option (Int × zSt) :=
  if 64 ≤ v1 then
    if ¬ (s.1 0 34) = 0 then
        f_Rf_codes_j201 v1 (uS (uS s 0 29 0) 0 31 (if (s.1 0 31) ≤ 4 then (s.1 0 31) else 4))
      else
        if (s.1 0 33) = 0 then
          f_Rf_codes_j201 v1 (uS (uS s 0 29 0) 0 31 (if (s.1 0 31) ≤ 4 then (s.1 0 31) else 4))
        else
          (f_Rf_modes v1 1 (uS (uS s 0 29 0) 0 31 (if (s.1 0 31) ≤ 4 then (s.1 0 31) else 4))).bind fun x6 =>
          some (0, (uS x6.2 0 32 0))
  else
    some (0, (uS (uS s 0 34 1) 0 32 0))
def f_Rf_codes (a1 : Int) (s : zSt) : Option (Int × zSt) :=
  (f_Rf_in a1 48 57).bind fun x1 =>
  if x1 = 0 then
    if ¬ a1 = 59 then
      if ¬ a1 = 63 then
        f_Rf_codes_j139 a1 s
      else
        if (s.1 0 32) = 0 then
          f_Rf_codes_j139 a1 s
        else
          some (0, (uS (uS s 0 33 1) 0 32 0))
    else
      if 4 < (w32 ((s.1 0 31) + (if 4 < (s.1 0 31) then 0 else 1))) then
          some (0, (uS (uS s 0 31 (w32 ((s.1 0 31) + (if 4 < (s.1 0 31) then 0 else 1)))) 0 32 0))
        else
          if 0 ≤ (w32 ((w32 ((s.1 0 31) + (if 4 < (s.1 0 31) then 0 else 1))) - 1)) ∧ (w32 ((w32 ((s.1 0 31) + (if 4 < (s.1 0 31) then 0 else 1))) - 1)) < s.1 5 0 then some (0, (uS (uE (uS s 0 31 (w32 ((s.1 0 31) + (if 4 < (s.1 0 31) then 0 else 1)))) 5 (w32 ((w32 ((s.1 0 31) + (if 4 < (s.1 0 31) then 0 else 1))) - 1)) 0) 0 32 0)) else none
  else
    if 4 < (s.1 0 31) then
      some (0, (uS s 0 32 0))
    else
      if 0 ≤ (w32 ((s.1 0 31) - 1)) ∧ (w32 ((s.1 0 31) - 1)) < s.1 5 0 then (if 0 ≤ (w32 ((s.1 0 31) - 1)) ∧ (w32 ((s.1 0 31) - 1)) < s.1 5 0 then some (0, (uS (uE s 5 (w32 ((s.1 0 31) - 1)) (if (w32 ((w32 ((w32 (10 * ((s.2 5) (w32 ((s.1 0 31) - 1))))) + a1)) - 48)) ≤ 999 then (w32 ((w32 ((w32 (10 * ((s.2 5) (w32 ((s.1 0 31) - 1))))) + a1)) - 48)) else 999)) 0 32 0)) else none) else none
def f_Rf_comes (a1 : Int) (s : zSt) : Option (Int × zSt) :=
  if ¬ (s.1 0 29) = 3 then
    if a1 < 32 then
      (f_Rf_controls a1 s).bind fun x3 =>
      some (0, x3.2)
    else
      if ¬ a1 = 127 then
        if ¬ (s.1 0 29) = 1 then
          if ¬ (s.1 0 29) = 2 then
            if ¬ a1 = 96 then
              (f_Rf_draws a1 s).bind fun x8 =>
              some (0, x8.2)
            else
              (f_Rf_marks s).bind fun x9 =>
              some (0, x9.2)
          else
            (f_Rf_codes a1 s).bind fun x10 =>
            some (0, x10.2)
        else
          (f_Rf_escapes a1 s).bind fun x11 =>
          some (0, x11.2)
      else
        (f_Rf_controls a1 s).bind fun x12 =>
        some (0, x12.2)
  else
    (f_Rf_titles a1 s).bind fun x13 =>
    some (0, x13.2)
def f_Rf_puts (a1 : Int) (s : zSt) : Option (Int × zSt) :=
  if ¬ (s.1 0 42) = 0 then
    if 100 ≤ (s.1 0 44) then
      some (0, s)
    else
      if 0 ≤ (s.1 0 44) ∧ (s.1 0 44) < s.1 8 0 then some (0, (uS (uE s 8 (s.1 0 44) a1) 0 44 (w32 ((s.1 0 44) + 1)))) else none
  else
    (f_Rf_comes a1 s).bind fun x4 =>
    some (0, x4.2)
def f_Rf_starts_l17 (c1 : Int)  (x : Int × zSt) : Option ((Int × zSt) ⊕ (zSt)) :=
  if c1 ≤ x.1 then
    some (.inr x.2)
  else
    if 0 ≤ x.1 ∧ x.1 < x.2.1 8 0 then 
    (f_Rf_comes ((x.2.2 8) x.1) x.2).bind fun x3 =>
    some (.inl (w32 (x.1 + 1), x3.2))
     else none
def f_Rf_starts  (s : zSt) : Option (Int × zSt) :=
  (zloop (f_Rf_starts_l17 (s.1 0 44)) zfu (0, (uS (uS s 0 42 0) 0 44 0))).bind fun y1 =>
  some (0, y1)
def f_Rf_write (a1 : Int) (s : zSt) : Option (Int × zSt) :=
  (f_Rf_in a1 0 127).bind fun x1 =>
  if ((if ¬ x1 = 0 then (if (s.1 0 42) = 0 then 0 else (if ¬ (s.1 0 44) = 100 then 0 else 2)) else 1) : Int) ≤ 0 then
      (f_Rf_puts a1 (uS s 0 0 (if ¬ x1 = 0 then (if (s.1 0 42) = 0 then 0 else (if ¬ (s.1 0 44) = 100 then 0 else 2)) else 1))).bind fun x5 =>
      some (x5.2.1 0 44, x5.2)
    else
      some (0, (uS s 0 0 (if ¬ x1 = 0 then (if (s.1 0 42) = 0 then 0 else (if ¬ (s.1 0 44) = 100 then 0 else 2)) else 1)))
def f_Rf_putsNumber_j17 (v1 : Int) (s : zSt) : Option (Int × zSt) :=
  if v1 ≤ 9 then
    (f_Rf_puts (w32 (48 + (wRem v1 10))) s).bind fun x2 =>
    some (0, x2.2)
  else
    (f_Rf_puts (w32 (48 + (wRem (wDiv v1 10) 10))) s).bind fun x3 =>
    (f_Rf_puts (w32 (48 + (wRem v1 10))) x3.2).bind fun x4 =>
    some (0, x4.2)
def f_Rf_putsNumber (a1 : Int) (s : zSt) : Option (Int × zSt) :=
  if a1 ≤ 99 then
    f_Rf_putsNumber_j17 a1 s
  else
    (f_Rf_puts (w32 (48 + (wDiv a1 100))) s).bind fun x2 =>
    f_Rf_putsNumber_j17 a1 x2.2
def f_Rf_echo (a1 : Int) (s : zSt) : Option (Int × zSt) :=
  if (s.1 0 41) = 0 then
    some (0, s)
  else
    (f_Rf_puts a1 s).bind fun x2 =>
    some (0, x2.2)
def f_Rf_code_j130 (v2 v3 v4 : Int) (s : zSt) : Option (Int × zSt) :=
  (f_Rf_putsNumber v2 s).bind fun x1 =>
  if v3 = 0 then
    (f_Rf_puts v4 x1.2).bind fun x3 =>
    some (x3.2.1 0 44, x3.2)
  else
    (f_Rf_puts 59 x1.2).bind fun x4 =>
    (f_Rf_putsNumber v3 x4.2).bind fun x5 =>
    (f_Rf_puts v4 x5.2).bind fun x6 =>
    some (x6.2.1 0 44, x6.2)
def f_Rf_code_j96 (v1 v2 v3 v4 k0 : Int) (s : zSt) : Option (Int × zSt) :=
  if k0 ≤ 0 then
    (f_Rf_puts 27 (uS s 0 0 k0)).bind fun x2 =>
    (f_Rf_puts 91 x2.2).bind fun x3 =>
    if v1 = 0 then
      f_Rf_code_j130 v2 v3 v4 x3.2
    else
      (f_Rf_puts 63 x3.2).bind fun x5 =>
      f_Rf_code_j130 v2 v3 v4 x5.2
  else
    some (0, (uS s 0 0 k0))
def f_Rf_code_j68 (v1 v2 v3 v4 : Int) (s : zSt) : Option (Int × zSt) :=
  f_Rf_code_j96 v1 v2 v3 v4 1 s
def f_Rf_code_j30 (v1 v2 v3 v4 k0 k1 : Int) (s : zSt) : Option (Int × zSt) :=
  (f_Rf_in v2 0 999).bind fun x1 =>
  if x1 = 0 then
    f_Rf_code_j68 v1 v2 v3 v4 s
  else
    (f_Rf_in v3 0 999).bind fun x3 =>
    if x3 = 0 then
      f_Rf_code_j68 v1 v2 v3 v4 s
    else
      (f_Rf_in v4 64 126).bind fun x5 =>
      if ((if ¬ x5 = 0 then (if (s.1 0 42) = 0 then 0 else (if (w32 ((s.1 0 44) + (w32 (k1 + k0)))) ≤ 100 then 0 else 2)) else 1) : Int) ≤ 0 then
          (f_Rf_puts 27 (uS s 0 0 (if ¬ x5 = 0 then (if (s.1 0 42) = 0 then 0 else (if (w32 ((s.1 0 44) + (w32 (k1 + k0)))) ≤ 100 then 0 else 2)) else 1))).bind fun x9 =>
          (f_Rf_puts 91 x9.2).bind fun x10 =>
          if v1 = 0 then
            f_Rf_code_j130 v2 v3 v4 x10.2
          else
            (f_Rf_puts 63 x10.2).bind fun x12 =>
            f_Rf_code_j130 v2 v3 v4 x12.2
        else
          some (0, (uS s 0 0 (if ¬ x5 = 0 then (if (s.1 0 42) = 0 then 0 else (if (w32 ((s.1 0 44) + (w32 (k1 + k0)))) ≤ 100 then 0 else 2)) else 1)))
def f_Rf_code (a1 a2 a3 a4 : Int) (s : zSt) : Option (Int × zSt) :=
  (f_Rf_digits a2).bind fun x3 =>
    if ¬ a3 = 0 then
      (f_Rf_digits a3).bind fun x5 =>
      f_Rf_code_j30 a1 a2 a3 a4 (w32 (1 + x5)) (w32 ((w32 (3 + (if a1 = 0 then 0 else 1))) + x3)) s
    else
      f_Rf_code_j30 a1 a2 a3 a4 0 (w32 ((w32 (3 + (if a1 = 0 then 0 else 1))) + x3)) s
def f_Rf_takesLast_l12   (x : Int × zSt) : Option ((Int × zSt) ⊕ (zSt)) :=
  if 0 ≤ (x.2.1 0 46) ∧ (x.2.1 0 46) < x.2.1 9 0 then 
  if ((if 32 ≤ ((x.2.2 9) (x.2.1 0 46)) then 1 else 2) : Int) ≤ x.1 then
      some (.inr x.2)
    else
      (f_Rf_echo 8 x.2).bind fun x5 =>
      (f_Rf_echo 32 x5.2).bind fun x6 =>
      (f_Rf_echo 8 x6.2).bind fun x7 =>
      some (.inl (w32 (x.1 + 1), x7.2))
   else none
def f_Rf_takesLast  (s : zSt) : Option (Int × zSt) :=
  (zloop (f_Rf_takesLast_l12) zfu (0, (uS s 0 46 (w32 ((s.1 0 46) - 1))))).bind fun y1 =>
  some (0, y1)
def f_Rf_adds_j48 (v1 : Int) (s : zSt) : Option (Int × zSt) :=
  (f_Rf_echo (if 32 ≤ v1 then v1 else (w32 (v1 + 64))) s).bind fun x3 =>
    some (0, x3.2)
def f_Rf_adds (a1 : Int) (s : zSt) : Option (Int × zSt) :=
  if ¬ (s.1 0 46) = 30 then
    if 0 ≤ (s.1 0 46) ∧ (s.1 0 46) < s.1 9 0 then 
    if 32 ≤ a1 then
      f_Rf_adds_j48 a1 (uS (uE s 9 (s.1 0 46) a1) 0 46 (w32 ((s.1 0 46) + 1)))
    else
      (f_Rf_echo 94 (uS (uE s 9 (s.1 0 46) a1) 0 46 (w32 ((s.1 0 46) + 1)))).bind fun x4 =>
      f_Rf_adds_j48 a1 x4.2
     else none
  else
    (f_Rf_echo 7 s).bind fun x5 =>
    some (0, x5.2)
def f_Rf_edits_l158   (x : zSt) : Option ((zSt) ⊕ (zSt)) :=
  if (x.1 0 46) ≤ 0 then
    some (.inr x)
  else
    (f_Rf_takesLast x).bind fun x2 =>
    some (.inl x2.2)
def f_Rf_edits_l98   (x : zSt) : Option ((zSt) ⊕ (zSt)) :=
  if (x.1 0 46) ≤ 0 then
    some (.inr x)
  else
    if 0 ≤ (w32 ((x.1 0 46) - 1)) ∧ (w32 ((x.1 0 46) - 1)) < x.1 9 0 then 
    if ¬ ((x.2 9) (w32 ((x.1 0 46) - 1))) = 32 then
      some (.inr x)
    else
      (f_Rf_takesLast x).bind fun x4 =>
      some (.inl x4.2)
     else none
def f_Rf_edits_l128   (x : zSt) : Option ((zSt) ⊕ (zSt)) :=
  if (x.1 0 46) ≤ 0 then
    some (.inr x)
  else
    if 0 ≤ (w32 ((x.1 0 46) - 1)) ∧ (w32 ((x.1 0 46) - 1)) < x.1 9 0 then 
    if ((x.2 9) (w32 ((x.1 0 46) - 1))) = 32 then
      some (.inr x)
    else
      (f_Rf_takesLast x).bind fun x4 =>
      some (.inl x4.2)
     else none
def f_Rf_edits (a1 : Int) (s : zSt) : Option (Int × zSt) :=
  if a1 = 3 then
    some (0, (uS (uS s 0 46 0) 0 50 (w32 ((s.1 0 50) + 1))))
  else if a1 = 4 then
    (f_Rf_givesLine (uS s 0 49 (w32 ((s.1 0 49) + (if ¬ (s.1 0 46) = 0 then 0 else 1))))).bind fun x5 =>
      some (0, x5.2)
  else if a1 = 10 then
    (f_Rf_givesLine s).bind fun x9 =>
    (f_Rf_sends 10 x9.2).bind fun x10 =>
    (f_Rf_echo 13 x10.2).bind fun x11 =>
    (f_Rf_echo 10 x11.2).bind fun x12 =>
    some (0, x12.2)
  else if a1 = 13 then
    (f_Rf_givesLine s).bind fun x14 =>
    (f_Rf_sends 10 x14.2).bind fun x15 =>
    (f_Rf_echo 13 x15.2).bind fun x16 =>
    (f_Rf_echo 10 x16.2).bind fun x17 =>
    some (0, x17.2)
  else if a1 = 17 then
    (f_Rf_starts s).bind fun x19 =>
    some (0, x19.2)
  else if a1 = 19 then
    some (0, (uS s 0 42 1))
  else if a1 = 21 then
    (zloop (f_Rf_edits_l158) zfu s).bind fun y22 =>
    some (0, y22)
  else if a1 = 23 then
    (zloop (f_Rf_edits_l98) zfu s).bind fun y24 =>
    (zloop (f_Rf_edits_l128) zfu y24).bind fun y25 =>
    some (0, y25)
  else if a1 = 127 then
    if (s.1 0 46) ≤ 0 then
      some (0, s)
    else
      (f_Rf_takesLast s).bind fun x28 =>
      some (0, x28.2)
  else (f_Rf_adds a1 s).bind fun x29 =>
  some (0, x29.2)
def f_Rf_types (a1 : Int) (s : zSt) : Option (Int × zSt) :=
  if (s.1 0 40) = 0 then
    (f_Rf_edits a1 (uS s 0 53 (w32 ((s.1 0 53) + 1)))).bind fun x2 =>
    some (0, x2.2)
  else
    (f_Rf_sends a1 (uS s 0 53 (w32 ((s.1 0 53) + 1)))).bind fun x3 =>
    (f_Rf_echo a1 x3.2).bind fun x4 =>
    some (0, x4.2)
def f_Rf_type (a1 : Int) (s : zSt) : Option (Int × zSt) :=
  (f_Rf_in a1 0 127).bind fun x1 =>
  if ((if x1 = 0 then 1 else 0) : Int) ≤ 0 then
      (f_Rf_types a1 (uS s 0 0 (if x1 = 0 then 1 else 0))).bind fun x5 =>
      some (if (x5.2.1 0 40) = 0 then (x5.2.1 0 46) else 0, x5.2)
    else
      some (0, (uS s 0 0 (if x1 = 0 then 1 else 0)))
def f_Rf_key_j130 (v1 : Int) (s : zSt) : Option (Int × zSt) :=
  if ¬ v1 = 6 then
    (f_Rf_letter v1).bind fun x2 =>
    (f_Rf_types x2 s).bind fun x3 =>
    some (x3.2.1 0 53, x3.2)
  else
    (f_Rf_types 126 s).bind fun x4 =>
    some (x4.2.1 0 53, x4.2)
def f_Rf_key_j112 (v1 v2 : Int) (s : zSt) : Option (Int × zSt) :=
  if v2 ≤ 0 then
    f_Rf_key_j130 v1 s
  else
    (f_Rf_types 59 s).bind fun x2 =>
    (f_Rf_types (w32 (49 + v2)) x2.2).bind fun x3 =>
    f_Rf_key_j130 v1 x3.2
def f_Rf_key_j26 (v1 v2 k0 : Int) (s : zSt) : Option (Int × zSt) :=
  if k0 ≤ 0 then
    (f_Rf_types 27 (uS (uS s 0 0 k0) 0 53 0)).bind fun x4 =>
      (f_Rf_types (if ((if (s.1 0 16) = 0 then 0 else (if 6 ≤ v1 then 0 else (if ¬ v2 = 0 then 0 else 1))) : Int) = 0 then 91 else 79) x4.2).bind fun x7 =>
        if ¬ v1 = 6 then
          if v2 ≤ 0 then
            f_Rf_key_j112 v1 v2 x7.2
          else
            (f_Rf_types 49 x7.2).bind fun x10 =>
            f_Rf_key_j112 v1 v2 x10.2
        else
          (f_Rf_types 51 x7.2).bind fun x11 =>
          f_Rf_key_j112 v1 v2 x11.2
  else
    some (0, (uS s 0 0 k0))
def f_Rf_key_j25 (v1 v2 : Int) (s : zSt) : Option (Int × zSt) :=
  f_Rf_key_j26 v1 v2 1 s
def f_Rf_key (a1 a2 : Int) (s : zSt) : Option (Int × zSt) :=
  (f_Rf_in a1 0 6).bind fun x1 =>
  if x1 = 0 then
    f_Rf_key_j25 a1 a2 s
  else
    (f_Rf_in a2 0 7).bind fun x3 =>
    if ((if x3 = 0 then 1 else 0) : Int) ≤ 0 then
        (f_Rf_types 27 (uS (uS s 0 0 (if x3 = 0 then 1 else 0)) 0 53 0)).bind fun x9 =>
          (f_Rf_types (if ((if (s.1 0 16) = 0 then 0 else (if 6 ≤ a1 then 0 else (if ¬ a2 = 0 then 0 else 1))) : Int) = 0 then 91 else 79) x9.2).bind fun x12 =>
            if ¬ a1 = 6 then
              if a2 ≤ 0 then
                f_Rf_key_j112 a1 a2 x12.2
              else
                (f_Rf_types 49 x12.2).bind fun x15 =>
                f_Rf_key_j112 a1 a2 x15.2
            else
              (f_Rf_types 51 x12.2).bind fun x16 =>
              f_Rf_key_j112 a1 a2 x16.2
      else
        some (0, (uS s 0 0 (if x3 = 0 then 1 else 0)))
def f_Rf_typesAround (a1 : Int) (s : zSt) : Option (Int × zSt) :=
  (f_Rf_types 27 s).bind fun x1 =>
  (f_Rf_types 91 x1.2).bind fun x2 =>
  (f_Rf_types 50 x2.2).bind fun x3 =>
  (f_Rf_types 48 x3.2).bind fun x4 =>
  (f_Rf_types a1 x4.2).bind fun x5 =>
  (f_Rf_types 126 x5.2).bind fun x6 =>
  some (0, x6.2)
def f_Rf_typesNumber (a1 : Int) (s : zSt) : Option (Int × zSt) :=
  if a1 ≤ 9 then
    (f_Rf_types (w32 (48 + (wRem a1 10))) s).bind fun x2 =>
    some (0, x2.2)
  else
    (f_Rf_types (w32 (48 + (wDiv a1 10))) s).bind fun x3 =>
    (f_Rf_types (w32 (48 + (wRem a1 10))) x3.2).bind fun x4 =>
    some (0, x4.2)
def f_Rf_paste_l27 (c1 : Int)  (x : Int × zSt) : Option ((Int × zSt) ⊕ (zSt)) :=
  if (x.2.1 0 52) ≤ x.1 then
    some (.inr x.2)
  else
    if 0 ≤ x.1 ∧ x.1 < x.2.1 11 0 then 
    if ((x.2.2 11) x.1) = 27 then
      some (.inl (w32 (x.1 + 1), x.2))
    else
      if 0 ≤ x.1 ∧ x.1 < x.2.1 11 0 then 
      (f_Rf_types ((x.2.2 11) x.1) x.2).bind fun x5 =>
      some (.inl (w32 (x.1 + 1), x5.2))
       else none
     else none
def f_Rf_paste_j25 (v1 : Int) (s : zSt) : Option (Int × zSt) :=
  (zloop (f_Rf_paste_l27 v1) zfu (0, s)).bind fun y1 =>
  if v1 = 0 then
    some (y1.1 0 53, (uS y1 0 52 0))
  else
    (f_Rf_typesAround 49 y1).bind fun x3 =>
    some (x3.2.1 0 53, (uS x3.2 0 52 0))
def f_Rf_paste  (s : zSt) : Option (Int × zSt) :=
  if (s.1 0 21) = 0 then
    f_Rf_paste_j25 (s.1 0 21) (uS (uS s 0 0 0) 0 53 0)
  else
    (f_Rf_typesAround 48 (uS (uS s 0 0 0) 0 53 0)).bind fun x2 =>
    f_Rf_paste_j25 (s.1 0 21) x2.2
def f_Rf_mouse_j28 (v1 v2 v3 k0 : Int) (s : zSt) : Option (Int × zSt) :=
  if 0 < k0 then
    some (0, (uS s 0 0 k0))
  else
    if ¬ (s.1 0 20) = 0 then
      (f_Rf_types 27 (uS (uS s 0 0 k0) 0 53 0)).bind fun x3 =>
      (f_Rf_types 91 x3.2).bind fun x4 =>
      (f_Rf_types 60 x4.2).bind fun x5 =>
      (f_Rf_types (w32 (48 + v1)) x5.2).bind fun x6 =>
      (f_Rf_types 59 x6.2).bind fun x7 =>
      (f_Rf_typesNumber (w32 (v3 + 1)) x7.2).bind fun x8 =>
      (f_Rf_types 59 x8.2).bind fun x9 =>
      (f_Rf_typesNumber (w32 (v2 + 1)) x9.2).bind fun x10 =>
      (f_Rf_types 77 x10.2).bind fun x11 =>
      some (x11.2.1 0 53, x11.2)
    else
      some (0, (uS s 0 0 k0))
def f_Rf_mouse (a1 a2 a3 : Int) (s : zSt) : Option (Int × zSt) :=
  (f_Rf_isCell a2 a3 s).bind fun x1 =>
  if ¬ x1 = 0 then
    (f_Rf_in a1 0 2).bind fun x3 =>
    if 0 < ((if ¬ x3 = 0 then 0 else 2) : Int) then
        some (0, (uS s 0 0 (if ¬ x3 = 0 then 0 else 2)))
      else
        if ¬ (s.1 0 20) = 0 then
          (f_Rf_types 27 (uS (uS s 0 0 (if ¬ x3 = 0 then 0 else 2)) 0 53 0)).bind fun x8 =>
          (f_Rf_types 91 x8.2).bind fun x9 =>
          (f_Rf_types 60 x9.2).bind fun x10 =>
          (f_Rf_types (w32 (48 + a1)) x10.2).bind fun x11 =>
          (f_Rf_types 59 x11.2).bind fun x12 =>
          (f_Rf_typesNumber (w32 (a3 + 1)) x12.2).bind fun x13 =>
          (f_Rf_types 59 x13.2).bind fun x14 =>
          (f_Rf_typesNumber (w32 (a2 + 1)) x14.2).bind fun x15 =>
          (f_Rf_types 77 x15.2).bind fun x16 =>
          some (x16.2.1 0 53, x16.2)
        else
          some (0, (uS s 0 0 (if ¬ x3 = 0 then 0 else 2)))
  else
    f_Rf_mouse_j28 a1 a2 a3 1 s
def f_Ta_noteByte (a1 : Int) (s : zSt) : Option (Int × zSt) :=
  (f_Ta_note a1 s).bind fun x1 =>
  zmn 1 s x1.2 (some (0, x1.2))
def f_Ta_noteSize (a1 a2 : Int) (s : zSt) : Option (Int × zSt) :=
  (f_Ta_note (w32 ((w32 (128 + (w32 (a1 * 32)))) + a2)) s).bind fun x1 =>
  zmn 1 s x1.2 (some (0, x1.2))
def f_Co_settle_l2   (x : Int × zSt) : Option ((Int × zSt) ⊕ (Int × zSt)) :=
  zmnL 42 x.2 x.2 zg2 (if 1000000 ≤ x.1 then
    some (.inr (0, x.2))
  else
    (f_By_count (zsb (zsh 12) x.2)).bind fun x2 =>
    if x2 ≤ 0 then
      (f_By_count (zsb (zsh 1) x.2)).bind fun x4 =>
      if x4 ≤ 0 then
        some (.inr (0, x.2))
      else
        (f_By_removeFirst (zsb (zsh 1) x.2)).bind fun x6 =>
        (f_Li_accept x6.1 (zsb (zsh 5) (zpb (zsh 1) 2 x.2 x6.2))).bind fun x7 =>
        some (.inl (w32 (x.1 + 1), (zpb (zsh 5) 9 (zpb (zsh 1) 2 x.2 x6.2) x7.2)))
    else
      (f_By_removeFirst (zsb (zsh 12) x.2)).bind fun x8 =>
      (f_Ta_noteByte x8.1 (zsb (zsh 41) (zpb (zsh 12) 2 x.2 x8.2))).bind fun x9 =>
      zmnL 42 (zpb (zsh 12) 2 x.2 x8.2) (zpb (zsh 41) 2 (zpb (zsh 12) 2 x.2 x8.2) x9.2) zg2 ((f_Sc_receive x8.1 (zsb (zsh 14) (zpb (zsh 41) 2 (zpb (zsh 12) 2 x.2 x8.2) x9.2))).bind fun x11 =>
      (f_By_addAll (zsb (zsl [10, 11, 34, 35]) (zpb (zsh 14) 27 (zpb (zsh 41) 2 (zpb (zsh 12) 2 x.2 x8.2) x9.2) x11.2))).bind fun x12 =>
      some (.inl (w32 (x.1 + 1), (zpb (zsl [10, 11, 34, 35]) 4 (zpb (zsh 14) 27 (zpb (zsh 41) 2 (zpb (zsh 12) 2 x.2 x8.2) x9.2) x11.2) x12.2)))))
def f_Co_settle  (s : zSt) : Option (Int × zSt) :=
  zloop (f_Co_settle_l2) zfu (0, s)
def f_Co_size (a1 a2 : Int) (s : zSt) : Option (Int × zSt) :=
  if a1 < 2 then
    none
  else
    if 12 < a1 then
      none
    else
      if a2 < 4 then
        none
      else
        if a2 ≤ 24 then
          (f_Ta_noteSize a1 a2 (zsb (zsh 41) s)).bind fun x5 =>
          zmn 42 s (zpb (zsh 41) 2 s x5.2) ((f_Sc_resize a1 a2 (zsb (zsh 14) (zpb (zsh 41) 2 s x5.2))).bind fun x7 =>
          (f_Sl_begin a1 a2 (zsb (zsh 70) (zpb (zsh 14) 27 (zpb (zsh 41) 2 s x5.2) x7.2))).bind fun x8 =>
          (f_Hi_count (zsb (zsh 19) (zpb (zsh 70) 6 (zpb (zsh 14) 27 (zpb (zsh 41) 2 s x5.2) x7.2) x8.2))).bind fun x9 =>
          some (x9, (zpb (zsh 70) 6 (zpb (zsh 14) 27 (zpb (zsh 41) 2 s x5.2) x7.2) x8.2)))
        else
          none
def f_Co_code_j171 (v4 : Int) (s : zSt) : Option (Int × zSt) :=
  (f_Li_bring v4 (zsb (zsh 5) s)).bind fun x1 =>
  (f_Co_settle (zpb (zsh 5) 9 s x1.2)).bind fun x2 =>
  zmn 42 (zpb (zsh 5) 9 s x1.2) x2.2 ((f_By_count (zsb (zsh 8) x2.2)).bind fun x4 =>
  some (x4, x2.2))
def f_Co_code_j142 (v2 v3 v4 : Int) (s : zSt) : Option (Int × zSt) :=
  (f_Li_bringNumber v2 (zsb (zsh 5) s)).bind fun x1 =>
  if v3 = 0 then
    f_Co_code_j171 v4 (zpb (zsh 5) 9 s x1.2)
  else
    (f_Li_bring 59 (zsb (zsh 5) (zpb (zsh 5) 9 s x1.2))).bind fun x3 =>
    (f_Li_bringNumber v3 (zsb (zsh 5) (zpb (zsh 5) 9 (zpb (zsh 5) 9 s x1.2) x3.2))).bind fun x4 =>
    f_Co_code_j171 v4 (zpb (zsh 5) 9 (zpb (zsh 5) 9 (zpb (zsh 5) 9 s x1.2) x3.2) x4.2)
def f_Co_code_j86 (v1 v2 v3 v4 k0 k1 : Int) (s : zSt) : Option (Int × zSt) :=
  (f_Li_hasRoomFor (w32 (k1 + k0)) (zsb (zsh 5) s)).bind fun x1 =>
  if ¬ x1 = 0 then
    (f_Li_bring 27 (zsb (zsh 5) s)).bind fun x3 =>
    (f_Li_bring 91 (zsb (zsh 5) (zpb (zsh 5) 9 s x3.2))).bind fun x4 =>
    if v1 = 0 then
      f_Co_code_j142 v2 v3 v4 (zpb (zsh 5) 9 (zpb (zsh 5) 9 s x3.2) x4.2)
    else
      (f_Li_bring 63 (zsb (zsh 5) (zpb (zsh 5) 9 (zpb (zsh 5) 9 s x3.2) x4.2))).bind fun x6 =>
      f_Co_code_j142 v2 v3 v4 (zpb (zsh 5) 9 (zpb (zsh 5) 9 (zpb (zsh 5) 9 s x3.2) x4.2) x6.2)
  else
    none
def f_Co_code (a1 a2 a3 a4 : Int) (s : zSt) : Option (Int × zSt) :=
  if a2 < 0 then
    none
  else
    if 999 < a2 then
      none
    else
      if a3 < 0 then
        none
      else
        if a3 ≤ 999 then
          if a4 < 64 then
            none
          else
            if a4 ≤ 126 then
              (f_Co_digitsOf a2).bind fun x9 =>
                if ¬ a3 = 0 then
                  (f_Co_digitsOf a3).bind fun x11 =>
                  f_Co_code_j86 a1 a2 a3 a4 (w32 (1 + x11)) (w32 ((w32 (3 + (if a1 = 0 then 0 else 1))) + x9)) s
                else
                  f_Co_code_j86 a1 a2 a3 a4 0 (w32 ((w32 (3 + (if a1 = 0 then 0 else 1))) + x9)) s
            else
              none
        else
          none
def f_Co_mouse (a1 a2 a3 : Int) (s : zSt) : Option (Int × zSt) :=
  (f_Sc_has a2 a3 (zsb (zsh 14) s)).bind fun x1 =>
  if ¬ x1 = 0 then
    if a1 < 0 then
      none
    else
      if a1 ≤ 2 then
        if ¬ (s.1 27 3) = 0 then
          (f_By_add 27 (zsb (zsh 1) s)).bind fun x6 =>
          (f_By_add 91 (zsb (zsh 1) (zpb (zsh 1) 2 s x6.2))).bind fun x7 =>
          (f_By_add 60 (zsb (zsh 1) (zpb (zsh 1) 2 (zpb (zsh 1) 2 s x6.2) x7.2))).bind fun x8 =>
          (f_By_addNumber a1 (zsb (zsh 1) (zpb (zsh 1) 2 (zpb (zsh 1) 2 (zpb (zsh 1) 2 s x6.2) x7.2) x8.2))).bind fun x9 =>
          (f_By_add 59 (zsb (zsh 1) (zpb (zsh 1) 2 (zpb (zsh 1) 2 (zpb (zsh 1) 2 (zpb (zsh 1) 2 s x6.2) x7.2) x8.2) x9.2))).bind fun x10 =>
          (f_By_addNumber (w32 (a3 + 1)) (zsb (zsh 1) (zpb (zsh 1) 2 (zpb (zsh 1) 2 (zpb (zsh 1) 2 (zpb (zsh 1) 2 (zpb (zsh 1) 2 s x6.2) x7.2) x8.2) x9.2) x10.2))).bind fun x11 =>
          (f_By_add 59 (zsb (zsh 1) (zpb (zsh 1) 2 (zpb (zsh 1) 2 (zpb (zsh 1) 2 (zpb (zsh 1) 2 (zpb (zsh 1) 2 (zpb (zsh 1) 2 s x6.2) x7.2) x8.2) x9.2) x10.2) x11.2))).bind fun x12 =>
          (f_By_addNumber (w32 (a2 + 1)) (zsb (zsh 1) (zpb (zsh 1) 2 (zpb (zsh 1) 2 (zpb (zsh 1) 2 (zpb (zsh 1) 2 (zpb (zsh 1) 2 (zpb (zsh 1) 2 (zpb (zsh 1) 2 s x6.2) x7.2) x8.2) x9.2) x10.2) x11.2) x12.2))).bind fun x13 =>
          (f_By_add 77 (zsb (zsh 1) (zpb (zsh 1) 2 (zpb (zsh 1) 2 (zpb (zsh 1) 2 (zpb (zsh 1) 2 (zpb (zsh 1) 2 (zpb (zsh 1) 2 (zpb (zsh 1) 2 (zpb (zsh 1) 2 s x6.2) x7.2) x8.2) x9.2) x10.2) x11.2) x12.2) x13.2))).bind fun x14 =>
          (f_By_count (zsb (zsh 1) (zpb (zsh 1) 2 (zpb (zsh 1) 2 (zpb (zsh 1) 2 (zpb (zsh 1) 2 (zpb (zsh 1) 2 (zpb (zsh 1) 2 (zpb (zsh 1) 2 (zpb (zsh 1) 2 (zpb (zsh 1) 2 s x6.2) x7.2) x8.2) x9.2) x10.2) x11.2) x12.2) x13.2) x14.2))).bind fun x15 =>
          (f_Co_settle (zpb (zsh 1) 2 (zpb (zsh 1) 2 (zpb (zsh 1) 2 (zpb (zsh 1) 2 (zpb (zsh 1) 2 (zpb (zsh 1) 2 (zpb (zsh 1) 2 (zpb (zsh 1) 2 (zpb (zsh 1) 2 s x6.2) x7.2) x8.2) x9.2) x10.2) x11.2) x12.2) x13.2) x14.2)).bind fun x16 =>
          zmn 42 (zpb (zsh 1) 2 (zpb (zsh 1) 2 (zpb (zsh 1) 2 (zpb (zsh 1) 2 (zpb (zsh 1) 2 (zpb (zsh 1) 2 (zpb (zsh 1) 2 (zpb (zsh 1) 2 (zpb (zsh 1) 2 s x6.2) x7.2) x8.2) x9.2) x10.2) x11.2) x12.2) x13.2) x14.2) x16.2 (some (x15, x16.2))
        else
          some (0, s)
      else
        none
  else
    none
def f_Co_paste_l31 (c1 c2 : Int)  (x : Int × zSt) : Option ((Int × zSt) ⊕ (zSt)) :=
  if c2 ≤ x.1 then
    some (.inr x.2)
  else
    (f_By_removeFirst (zsb (zsh 3) x.2)).bind fun x2 =>
    if x2.1 = 27 then
      some (.inl (w32 (x.1 + 1), (zpb (zsh 3) 2 x.2 x2.2)))
    else
      (f_By_add x2.1 (zsb (zsh 1) (zpb (zsh 3) 2 x.2 x2.2))).bind fun x4 =>
      some (.inl (w32 (x.1 + 1), (zpb (zsh 1) 2 (zpb (zsh 3) 2 x.2 x2.2) x4.2)))
def f_Co_paste_j78  (s : zSt) : Option (Int × zSt) :=
  (f_By_count (zsb (zsh 1) s)).bind fun x1 =>
  (f_Co_settle s).bind fun x2 =>
  zmn 42 s x2.2 (some (x1, x2.2))
def f_Co_paste_j21 (v1 : Int) (s : zSt) : Option (Int × zSt) :=
  (f_By_count (zsb (zsh 3) s)).bind fun x1 =>
  (zloop (f_Co_paste_l31 v1 x1) zfu (0, s)).bind fun y2 =>
  zmn 42 s y2 (if v1 = 0 then
    f_Co_paste_j78 y2
  else
    (f_Co_addBracket 49 y2).bind fun x4 =>
    zmn 42 y2 x4.2 (f_Co_paste_j78 x4.2))
def f_Co_paste  (s : zSt) : Option (Int × zSt) :=
  if (s.1 27 4) = 0 then
    f_Co_paste_j21 (s.1 27 4) s
  else
    (f_Co_addBracket 48 s).bind fun x2 =>
    zmn 42 s x2.2 (f_Co_paste_j21 (s.1 27 4) x2.2)
def f_Co_type (a1 : Int) (s : zSt) : Option (Int × zSt) :=
  if a1 < 0 then
    none
  else
    if a1 ≤ 127 then
      (f_By_add a1 (zsb (zsh 1) s)).bind fun x3 =>
      (f_Co_settle (zpb (zsh 1) 2 s x3.2)).bind fun x4 =>
      zmn 42 (zpb (zsh 1) 2 s x3.2) x4.2 ((f_By_count (zsb (zsh 6) x4.2)).bind fun x6 =>
      some (x6, x4.2))
    else
      none
def f_Co_write (a1 : Int) (s : zSt) : Option (Int × zSt) :=
  if a1 < 0 then
    none
  else
    if a1 ≤ 127 then
      (f_Li_hasRoomFor 1 (zsb (zsh 5) s)).bind fun x3 =>
      if ¬ x3 = 0 then
        (f_Li_bring a1 (zsb (zsh 5) s)).bind fun x5 =>
        (f_Co_settle (zpb (zsh 5) 9 s x5.2)).bind fun x6 =>
        zmn 42 (zpb (zsh 5) 9 s x5.2) x6.2 ((f_By_count (zsb (zsh 8) x6.2)).bind fun x8 =>
        some (x8, x6.2))
      else
        none
    else
      none
