/-! ===== ROWS of the heap: fields, arrays ===== -/
theorem zmem {i : Nat} {x : Cond} (h : lw_tbl[i]? = some x) (hg : goodWord x = true) : x ∈ zGW := List.mem_filter.mpr ⟨List.mem_of_getElem? h, hg⟩
theorem zGW_good : GoodIn zGW zGW := fun x h => ⟨h, good_of_word (List.mem_filter.mp h).2⟩
set_option maxRecDepth 100000 in
theorem zcl_in : ∀ (ci : Nat) (C : String) (T : u_T) (N : Nat), zCl[ci]? = some (C, T, N) → ∀ x ∈ u_ws C T N, x ∈ zGW
  | 0, _, _, _, h => by cases h; decide +kernel
  | 1, _, _, _, h => by cases h; decide +kernel
  | 2, _, _, _, h => by cases h; decide +kernel
  | 3, _, _, _, h => by cases h; decide +kernel
  | 4, _, _, _, h => by cases h; decide +kernel
  | 5, _, _, _, h => by cases h; decide +kernel
  | 6, _, _, _, h => by cases h; decide +kernel
  | 7, _, _, _, h => by cases h; decide +kernel
  | 8, _, _, _, h => by cases h; decide +kernel
  | 9, _, _, _, h => by cases h; decide +kernel
  | 10, _, _, _, h => by cases h; decide +kernel
  | 11, _, _, _, h => by cases h; decide +kernel
  | 12, _, _, _, h => by cases h; decide +kernel
  | n + 13, _, _, _, h => by simp [zCl] at h
theorem zcl_ok : ∀ (ci : Nat) (C : String) (T : u_T) (N : Nat), zCl[ci]? = some (C, T, N) → (∃ ty : Nat → FieldType, ∀ k, k < N → parseFieldDescriptor (T k).2.2.1 = some (ty k)) ∧ (∀ a, a < N → ∀ b, b < N → a ≠ b → (T a).2.1 ≠ (T b).2.1)
  | 0, _, _, _, h => by cases h; exact ⟨⟨_, tyX0_ok⟩, nmX0⟩
  | 1, _, _, _, h => by cases h; exact ⟨⟨_, tyX1_ok⟩, nmX1⟩
  | 2, _, _, _, h => by cases h; exact ⟨⟨_, tyX2_ok⟩, nmX2⟩
  | 3, _, _, _, h => by cases h; exact ⟨⟨_, tyX3_ok⟩, nmX3⟩
  | 4, _, _, _, h => by cases h; exact ⟨⟨_, tyX4_ok⟩, nmX4⟩
  | 5, _, _, _, h => by cases h; exact ⟨⟨_, tyX5_ok⟩, nmX5⟩
  | 6, _, _, _, h => by cases h; exact ⟨⟨_, tyX6_ok⟩, nmX6⟩
  | 7, _, _, _, h => by cases h; exact ⟨⟨_, tyX7_ok⟩, nmX7⟩
  | 8, _, _, _, h => by cases h; exact ⟨⟨_, tyX8_ok⟩, nmX8⟩
  | 9, _, _, _, h => by cases h; exact ⟨⟨_, tyX9_ok⟩, nmX9⟩
  | 10, _, _, _, h => by cases h; exact ⟨⟨_, tyX10_ok⟩, nmX10⟩
  | 11, _, _, _, h => by cases h; exact ⟨⟨_, tyX11_ok⟩, nmX11⟩
  | 12, _, _, _, h => by cases h; exact ⟨⟨_, tyX12_ok⟩, nmX12⟩
  | n + 13, _, _, _, h => by simp [zCl] at h
