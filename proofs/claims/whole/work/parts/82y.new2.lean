/-! ===== new objects: the relation at the beginning ===== -/
theorem z0_F26 (c : Int) : zF26 c = if 0 ≤ c ∧ c < 24 then zft 12 c else 0 := rfl
theorem z0_rel {x : Int} (h1 : 0 ≤ x ∧ x < 16777216) (h2 : ∀ c, 0 ≤ c → c < 24 → zbit x c = if 0 ≤ c ∧ c < 12 ∧ c % 4 = 0 then 1 else 0) : zRel (uA z0_Sc 26 zF26) (uS z0_Rf 0 15 x) := by
  have n7 : ∀ {i : Int} {P : Prop}, 0 ≤ i → i < (uS z0_Rf 0 15 x).1 0 7 → P := fun {i} {P} a b => absurd (show i < 0 from b) (by omega)
  refine ⟨⟨⟨rfl, rfl, rfl, rfl, rfl, rfl, rfl, rfl⟩, ⟨rfl, rfl, rfl, rfl, rfl, rfl, rfl⟩, trivial⟩, ⟨⟨⟨rfl, rfl, rfl, rfl, rfl, rfl, rfl, rfl, rfl, rfl, rfl, rfl, rfl, rfl, rfl⟩, ?_, ?_, ?_⟩, fun _ => Or.inl rfl, ⟨?_, ?_, Or.inl rfl, ?_, ?_, ?_⟩, ⟨Or.inl rfl, Or.inl rfl, Or.inr rfl, Or.inr rfl, Or.inl rfl, Or.inl rfl, Or.inl rfl⟩, ⟨Or.inl rfl, fun h => absurd (show (0 : Int) = 1 from h) (by decide), fun h => absurd (show (0 : Int) = 1 from h) (by decide)⟩, ⟨?_, Or.inl rfl, Or.inl rfl, Or.inl rfl, ?_, ?_, fun h => absurd (show (0 : Int) = 2 from h) (by decide), ?_, fun i a b => absurd (show i < 0 from b) (by omega)⟩, ⟨zKwf_0 (fun _ _ _ => rfl) ?_ ?_, zKwf_0 (fun _ _ _ => rfl) ?_ ?_⟩, ⟨fun _ => Or.inl rfl, fun k a b => n7 a b⟩⟩, ⟨fun _ _ _ => rfl, fun _ _ _ => rfl, fun _ => Or.inl rfl, rfl, rfl, fun _ _ _ => rfl⟩, ⟨fun _ _ _ => rfl, fun _ _ _ => rfl, fun _ => Or.inl rfl, rfl, rfl, fun _ _ _ => rfl⟩, ⟨rfl, fun _ _ _ => rfl, fun _ _ _ => rfl, fun _ => Or.inl rfl⟩, ⟨rfl, rfl, rfl, rfl, rfl⟩, ⟨rfl, rfl, rfl, rfl, rfl, rfl⟩, ⟨fun h => absurd (show (0 : Int) = 1 from h) (by decide), fun _ => ⟨rfl, rfl, rfl, rfl, rfl⟩⟩, ⟨rfl, rfl, rfl, rfl, rfl, rfl⟩, ⟨fun i => ?_, h1, fun c a b => ?_, fun c a b => ?_⟩, ⟨⟨rfl, ?_, ?_, ?_⟩, ⟨rfl, fun i a b => absurd (show i < 0 from b) (by omega)⟩, fun h => absurd (show (0 : Int) = 3 from h) (by decide), ⟨rfl, fun i a b => absurd (show i < 0 from b) (by omega), fun _ _ _ => rfl⟩, fun h => absurd (show (0 : Int) = 2 from h) (by decide)⟩⟩
  · show (2 : Int) ≤ 6 ∧ (6 : Int) ≤ 12; decide
  · show (4 : Int) ≤ 12 ∧ (12 : Int) ≤ 24; decide
  · show (0 : Int) ≤ 0 ∧ (0 : Int) ≤ 1; decide
  · show (0 : Int) ≤ 0 ∧ (0 : Int) < 6; decide
  · show (0 : Int) ≤ 0 ∧ (0 : Int) < 12; decide
  · show (0 : Int) ≤ 0 ∧ (0 : Int) < 16; decide
  · show (0 : Int) ≤ 0 ∧ (0 : Int) < 5 ∧ (5 : Int) < 6; decide
  · show (0 : Int) ≤ 0 ∧ (0 : Int) ≤ 40; decide
  · show (0 : Int) ≤ 0 ∧ (0 : Int) ≤ 3; decide
  · show (0 : Int) ≤ 0 ∧ (0 : Int) ≤ 16; decide
  · show (0 : Int) ≤ 0 ∧ (0 : Int) ≤ 16; decide
  · show (0 : Int) ≤ 0 ∧ (0 : Int) ≤ 5; decide
  · show (0 : Int) ≤ 6; decide
  · show (0 : Int) ≤ 12 ∧ (12 : Int) ≤ 24; decide
  · show (0 : Int) ≤ 6; decide
  · show (0 : Int) ≤ 12 ∧ (12 : Int) ≤ 24; decide
  · show zF26 i = 0 ∨ zF26 i = 1
    rw [z0_F26]
    unfold zft
    grind
  · show zF26 c = zbit x c
    rw [z0_F26, h2 c a b]
    unfold zft
    grind
  · have a' : 12 ≤ c := a
    show zF26 c = 0
    rw [z0_F26]
    unfold zft
    grind
  · show ((0 : Int) ≤ 0 ∧ (0 : Int) < 16) ∧ ((0 : Int) ≤ 0 ∧ (0 : Int) ≤ 16); decide
  · show ((0 : Int) ≤ 0 ∧ (0 : Int) < 16) ∧ ((0 : Int) ≤ 0 ∧ (0 : Int) ≤ 16); decide
  · show ((0 : Int) ≤ 0 ∧ (0 : Int) < 8) ∧ ((0 : Int) ≤ 0 ∧ (0 : Int) ≤ 8); decide
theorem z0_key : (∀ i, i < 27 → z0_LCo.getD (i + 14) [] = z0_LSc.getD i []) ∧ ∀ i, i < 27 → z0_LCo.getD (i + 43) [] = z0_LSc.getD i [] := by decide
theorem z0_ag : zAg (uA z0_Sc 26 zF26) (zsb (zsh 14) z0_Co) ∧ zAg (uA z0_Sc 26 zF26) (zsb (zsh 43) z0_Co) := by
  constructor
  · intro i hi
    constructor
    · funext k
      show (z0_LCo.getD (i + 14) []).getD k 0 = (z0_LSc.getD i []).getD k 0
      rw [z0_key.1 i hi]
    · show (if i + 14 = 40 then zF26 else if i + 14 = 69 then zF26 else fun _ => 0) = if i = 26 then zF26 else fun _ => 0
      by_cases q : i = 26
      · rw [if_pos (by omega), if_pos q]
      · rw [if_neg (by omega), if_neg (by omega), if_neg q]
  · intro i hi
    constructor
    · funext k
      show (z0_LCo.getD (i + 43) []).getD k 0 = (z0_LSc.getD i []).getD k 0
      rw [z0_key.2 i hi]
    · show (if i + 43 = 40 then zF26 else if i + 43 = 69 then zF26 else fun _ => 0) = if i = 26 then zF26 else fun _ => 0
      by_cases q : i = 26
      · rw [if_neg (by omega), if_pos (by omega), if_pos q]
      · rw [if_neg (by omega), if_neg (by omega), if_neg q]
theorem z0_whole : ∃ x, f_Rf_laysTabs 0 z0_Rf = some (0, uS z0_Rf 0 15 x) ∧ zWh 0 z0_Co (uS z0_Rf 0 15 x) := by
  obtain ⟨x, e1, e2, e3⟩ := c_laysTabs (r := z0_Rf) (a := 0) (by show (0 : Int) ≤ 0 ∧ (0 : Int) ≤ 12; decide) (by show (12 : Int) ≤ 24; decide) (by show (0 : Int) ≤ 0 ∧ (0 : Int) < 16777216; decide)
  have hr := z0_rel e2 (fun c a b => by
    rw [e3 c a b]
    have : zbit (z0_Rf.1 0 15) c = 0 := by
      show (0 : Int) / 2 ^ c.toNat % 2 = 0
      simp
    rw [this]
    rfl)
  have r1 := hr.cg z0_ag.1
  have r2 := hr.cg z0_ag.2
  have nl : ∀ {n : Int} {l : List Int} {g : Int → Int}, (∀ i : Nat, i < ([] : List Int).length → g i = ([] : List Int).getD i 0) := fun {_ _ _} i hi => absurd hi (Nat.not_lt_zero i)
  have by0 : ∀ (o n : Nat), z0_Co.1 (o + 1) 0 = n → 0 < n → z0_Co.1 o 1 = 0 → z0_Co.1 o 2 = 0 → zBy (zsb (zsh o) z0_Co) n [] := by
    intro o n h1 h2 h3 h4
    refine ⟨?_, ?_, ?_, Nat.zero_le _, fun i hi => absurd hi (Nat.not_lt_zero i)⟩
    · show z0_Co.1 (1 + o) 0 = n
      rw [Nat.add_comm]; exact h1
    · show 0 ≤ z0_Co.1 (0 + o) 1 ∧ z0_Co.1 (0 + o) 1 < n
      rw [Nat.zero_add, h3]; omega
    · show z0_Co.1 (0 + o) 2 = _
      rw [Nat.zero_add, h4]; rfl
  have ls0 : ∀ (g : Int → Int), zLs g 0 [] := fun g => ⟨rfl, fun i hi => absurd hi (Nat.not_lt_zero i)⟩
  refine ⟨x, e1, 0, [], [], [], [], ⟨⟨by0 1 64 rfl (by decide) rfl rfl, zbs.nil⟩, ⟨⟨rfl, fun i hi => absurd hi (Nat.not_lt_zero i), Or.inl rfl, ?_⟩, rfl, Nat.le_refl _⟩, ⟨⟨⟨by0 6 30 rfl (by decide) rfl rfl, ls0 _⟩, ⟨by0 8 100 rfl (by decide) rfl rfl, ls0 _⟩, ⟨rfl, rfl, rfl, rfl, rfl⟩, ⟨Or.inl rfl, Or.inr rfl, Or.inl rfl⟩, zbs.nil, zbs.nil⟩, ⟨⟨_, hr⟩, ?_⟩, [], [], ⟨⟨r1, rfl, by0 34 8 rfl (by decide) rfl rfl⟩, r2⟩, by0 10 200 rfl (by decide) rfl rfl, ls0 _, by0 12 256 rfl (by decide) rfl rfl, zbs.nil, fun _ => rfl⟩, ?_, fun h => absurd (show (0 : Int) = 0 from rfl) h⟩, by decide, ⟨by0 3 40 rfl (by decide) rfl rfl, ls0 _, zbs.nil⟩, rfl, rfl, ⟨rfl, rfl, ?_, ?_, fun _ => Or.inl rfl⟩, ⟨rfl, rfl⟩, fun _ _ _ => rfl⟩
  · show (0 : Int) ≤ 1024; decide
  · show (0 : Int) ≤ 0 ∧ (0 : Int) ≤ 200; decide
  · show w32 0 = 0; decide
  · show (2 : Int) ≤ 6 ∧ (6 : Int) ≤ 12; decide
  · show (4 : Int) ≤ 12 ∧ (12 : Int) ≤ 24; decide
