/-! ===== the printed key is the one written by hand ===== -/
theorem keyP_160 {a : Int} (h : 0 ≤ a ∧ a ≤ 6) (s : zSt) : f_Co_keyP_j160 a s = f_Co_key_j133 a s := by
  unfold f_Co_keyP_j160 f_Co_keyP_j182 f_Co_key_j133
  by_cases q : a < 6
  · rw [if_neg (show ¬ 6 ≤ a by omega), if_pos (show (0 : Int) ≤ a ∧ a < 6 by omega), if_pos q]
  · rw [if_pos (show 6 ≤ a by omega), if_neg q]
theorem keyP_same (a b : Int) (s : zSt) : f_Co_keyP a b s = f_Co_key a b s := by
  unfold f_Co_keyP f_Co_key
  by_cases y1 : a < 0
  · rw [if_pos y1, if_pos y1]
  rw [if_neg y1, if_neg y1]
  by_cases y2 : a ≤ 6
  · rw [if_pos y2, if_neg (show ¬ 6 < a by omega)]
    by_cases y3 : b < 0
    · rw [if_pos y3, if_pos y3]
    rw [if_neg y3, if_neg y3]
    by_cases y4 : b ≤ 7
    · rw [if_pos y4, if_pos y4]
      have e160 := fun s => keyP_160 (a := a) ⟨by omega, y2⟩ s
      by_cases q : a < 6
      · have e1 : (if 6 ≤ a then 0 else 1 : Int) = 1 := if_neg (by omega)
        simp only [e160, e1, if_pos q]
        by_cases w : b = 0
        · simp [w]
        · simp [w]
      · have e1 : (if 6 ≤ a then 0 else 1 : Int) = 0 := if_pos (by omega)
        simp only [e160, e1, if_neg q]
        by_cases w : b = 0
        · simp [w]
        · simp [w]
    · rw [if_neg y4, if_neg y4]
  · rw [if_neg y2, if_pos (show 6 < a by omega)]
