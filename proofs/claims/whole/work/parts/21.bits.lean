/-! ===== bits ===== -/
theorem zofNat {x : Int} (hx : 0 ≤ x ∧ x < 2147483648) : (Int32.ofInt x).toBitVec = BitVec.ofNat 32 x.toNat := by
  rw [Int32.toBitVec_ofInt]
  apply BitVec.eq_of_toNat_eq
  rw [BitVec.toNat_ofInt, BitVec.toNat_ofNat]
  omega
theorem ztoInt {b : BitVec 32} {n : Nat} (h : b.toNat = n) (hn : n < 2147483648) : (Int32.ofBitVec b).toInt = (n : Int) := by
  show b.toInt = _
  rw [BitVec.toInt_eq_toNat_of_lt (by omega), h]
theorem wAnd_n {x y : Int} (hx : 0 ≤ x ∧ x < 2147483648) (hy : 0 ≤ y ∧ y < 2147483648) : wAnd x y = ((x.toNat &&& y.toNat : Nat) : Int) := by
  unfold wAnd
  have e : (Int32.ofInt x &&& Int32.ofInt y) = Int32.ofBitVec (BitVec.ofNat 32 x.toNat &&& BitVec.ofNat 32 y.toNat) := by
    rw [← zofNat hx, ← zofNat hy]
    rfl
  rw [e]
  refine ztoInt ?_ (Nat.lt_of_le_of_lt Nat.and_le_left (by omega))
  rw [BitVec.toNat_and, BitVec.toNat_ofNat, BitVec.toNat_ofNat, Nat.mod_eq_of_lt (by omega), Nat.mod_eq_of_lt (by omega)]
theorem wOr_n {x y : Int} (hx : 0 ≤ x ∧ x < 2147483648) (hy : 0 ≤ y ∧ y < 2147483648) : wOr x y = ((x.toNat ||| y.toNat : Nat) : Int) := by
  unfold wOr
  have e : (Int32.ofInt x ||| Int32.ofInt y) = Int32.ofBitVec (BitVec.ofNat 32 x.toNat ||| BitVec.ofNat 32 y.toNat) := by
    rw [← zofNat hx, ← zofNat hy]
    rfl
  rw [e]
  refine ztoInt ?_ (Nat.or_lt_two_pow (n := 31) (by omega) (by omega))
  rw [BitVec.toNat_or, BitVec.toNat_ofNat, BitVec.toNat_ofNat, Nat.mod_eq_of_lt (by omega), Nat.mod_eq_of_lt (by omega)]
theorem wShl_1 {c : Int} (hc : 0 ≤ c ∧ c < 25) : wShl 1 c = ((2 ^ c.toNat : Nat) : Int) := by
  have h : ∀ k : Fin 25, wShl 1 ((k.val : Nat) : Int) = ((2 ^ k.val : Nat) : Int) := by decide +kernel
  have := h ⟨c.toNat, by omega⟩
  rwa [show ((c.toNat : Nat) : Int) = c by omega] at this
theorem zshr31 {x : Int} {c : Nat} (hx : 0 ≤ x ∧ x < 2147483648) (hc : c < 25) : wShr x (c : Int) = ((x.toNat / 2 ^ c : Nat) : Int) := by
  unfold wShr
  have e : (Int32.ofInt x >>> (Int32.ofInt (c : Int) &&& 31)) = Int32.ofBitVec ((Int32.ofInt x).toBitVec.sshiftRight' ((Int32.ofInt (c : Int) &&& 31).toBitVec.smod 32)) := rfl
  have e2 : ((Int32.ofInt (c : Int) &&& 31).toBitVec.smod 32).toNat = c := by
    have h : ∀ k : Fin 25, ((Int32.ofInt ((k.val : Nat) : Int) &&& 31).toBitVec.smod 32).toNat = k.val := by decide +kernel
    exact h ⟨c, hc⟩
  rw [e]
  refine ztoInt ?_ (Nat.lt_of_le_of_lt (Nat.div_le_self _ _) (by omega))
  rw [BitVec.sshiftRight_eq', e2, zofNat hx, BitVec.toNat_sshiftRight_of_msb_false, BitVec.toNat_ofNat, Nat.mod_eq_of_lt (by omega), Nat.shiftRight_eq_div_pow]
  rw [BitVec.msb_eq_false_iff_two_mul_lt, BitVec.toNat_ofNat, Nat.mod_eq_of_lt (by omega)]
  omega
theorem znd (x : Int) (k : Nat) (hx : 0 ≤ x) : ((x.toNat / 2 ^ k % 2 : Nat) : Int) = x / 2 ^ k % 2 := by
  obtain ⟨n, rfl⟩ : ∃ n : Nat, x = n := ⟨x.toNat, by omega⟩
  rw [Int.toNat_natCast]
  norm_cast
theorem wBit {x c : Int} (hx : 0 ≤ x ∧ x < 16777216) (hc : 0 ≤ c ∧ c < 24) : wAnd (wShr x c) 1 = x / 2 ^ c.toNat % 2 := by
  have e := zshr31 (x := x) (c := c.toNat) ⟨hx.1, by omega⟩ (by omega)
  rw [show ((c.toNat : Nat) : Int) = c by omega] at e
  have hle : x.toNat / 2 ^ c.toNat ≤ x.toNat := Nat.div_le_self _ _
  rw [e, wAnd_n ⟨Int.natCast_nonneg _, by omega⟩ (by decide)]
  rw [show ((1 : Int).toNat) = 1 from rfl, Int.toNat_natCast, Nat.and_one_is_mod]
  exact znd x c.toNat hx.1
/-- the c-th bit -/
def zbit (x c : Int) : Int := x / 2 ^ c.toNat % 2
theorem zbit_n {x c : Int} (hx : 0 ≤ x) : zbit x c = if x.toNat.testBit c.toNat then 1 else 0 := by
  unfold zbit
  rw [Nat.testBit_eq_decide_div_mod_eq]
  have e : x / 2 ^ c.toNat % 2 = ((x.toNat / 2 ^ c.toNat % 2 : Nat) : Int) := (znd x c.toNat hx).symm
  rw [e]
  have := Nat.mod_two_eq_zero_or_one (x.toNat / 2 ^ c.toNat)
  rcases this with q | q <;> rw [q] <;> simp
theorem zbit_or {x c d : Int} (hx : 0 ≤ x ∧ x < 16777216) (hc : 0 ≤ c ∧ c < 24) (hd : 0 ≤ d ∧ d < 24) : zbit (wOr x (wShl 1 c)) d = (if d = c then 1 else zbit x d) ∧ 0 ≤ wOr x (wShl 1 c) ∧ wOr x (wShl 1 c) < 16777216 := by
  have h2 : 2 ^ c.toNat < 2 ^ 24 := Nat.pow_lt_pow_right (by decide) (by omega)
  rw [wShl_1 ⟨hc.1, by omega⟩, wOr_n ⟨hx.1, by omega⟩ ⟨Int.natCast_nonneg _, by omega⟩]
  have h3 : x.toNat ||| ((2 ^ c.toNat : Nat) : Int).toNat < 2 ^ 24 := Nat.or_lt_two_pow (by omega) (by rw [Int.toNat_natCast]; exact h2)
  refine ⟨?_, by omega, by omega⟩
  rw [zbit_n (by omega), zbit_n hx.1, Int.toNat_natCast, Nat.testBit_or, Int.toNat_natCast, Nat.testBit_two_pow]
  by_cases q : d = c
  · rw [if_pos q, q]
    simp
  · rw [if_neg q]
    have : ¬ c.toNat = d.toNat := by omega
    simp [this]
theorem zbit_clr {x c d : Int} (hx : 0 ≤ x ∧ x < 16777216) (hc : 0 ≤ c ∧ c < 24) (hd : 0 ≤ d ∧ d < 24) : zbit (wAnd x (wXor (wShl 1 c) (-1))) d = (if d = c then 0 else zbit x d) ∧ 0 ≤ wAnd x (wXor (wShl 1 c) (-1)) ∧ wAnd x (wXor (wShl 1 c) (-1)) < 16777216 := by
  have h2 : 2 ^ c.toNat < 2 ^ 24 := Nat.pow_lt_pow_right (by decide) (by omega)
  have e : wAnd x (wXor (wShl 1 c) (-1)) = ((x.toNat &&& ((2 ^ 32 - 1) ^^^ 2 ^ c.toNat) : Nat) : Int) := by
    unfold wAnd wXor
    rw [wShl_1 ⟨hc.1, by omega⟩, Int32.ofInt_toInt]
    have e1 : (Int32.ofInt x &&& (Int32.ofInt ((2 ^ c.toNat : Nat) : Int) ^^^ Int32.ofInt (-1))) = Int32.ofBitVec (BitVec.ofNat 32 x.toNat &&& (BitVec.ofNat 32 (2 ^ c.toNat) ^^^ BitVec.ofNat 32 (2 ^ 32 - 1))) := by
      have a1 := zofNat (x := x) ⟨hx.1, by omega⟩
      have a2 := zofNat (x := ((2 ^ c.toNat : Nat) : Int)) ⟨Int.natCast_nonneg _, by omega⟩
      rw [Int.toNat_natCast] at a2
      rw [← a1, ← a2]
      rfl
    rw [e1]
    refine ztoInt ?_ (Nat.lt_of_le_of_lt Nat.and_le_left (by omega))
    rw [BitVec.toNat_and, BitVec.toNat_xor, BitVec.toNat_ofNat, BitVec.toNat_ofNat, BitVec.toNat_ofNat, Nat.mod_eq_of_lt (by omega), Nat.mod_eq_of_lt (by omega), Nat.mod_eq_of_lt (by decide), Nat.xor_comm]
  rw [e]
  have hle : x.toNat &&& ((2 ^ 32 - 1) ^^^ 2 ^ c.toNat) ≤ x.toNat := Nat.and_le_left
  refine ⟨?_, by omega, by omega⟩
  rw [zbit_n (by omega), zbit_n hx.1, Int.toNat_natCast, Nat.testBit_and, Nat.testBit_xor, Nat.testBit_two_pow_sub_one, Nat.testBit_two_pow]
  by_cases q : d = c
  · rw [if_pos q, q]
    have : c.toNat < 32 := by omega
    simp [this]
  · rw [if_neg q]
    have h1 : ¬ c.toNat = d.toNat := by omega
    have h2 : d.toNat < 32 := by omega
    simp [h1, h2]
theorem zbit_low {x c d : Int} (hx : 0 ≤ x ∧ x < 16777216) (hc : 0 ≤ c ∧ c ≤ 24) (hd : 0 ≤ d ∧ d < 24) : zbit (wAnd x (((2 ^ c.toNat : Nat) : Int) - 1)) d = (if d < c then zbit x d else 0) ∧ 0 ≤ wAnd x (((2 ^ c.toNat : Nat) : Int) - 1) ∧ wAnd x (((2 ^ c.toNat : Nat) : Int) - 1) < 16777216 := by
  have h2 : 2 ^ c.toNat ≤ 2 ^ 24 := Nat.pow_le_pow_right (by decide) (by omega)
  have h3 : 1 ≤ 2 ^ c.toNat := Nat.one_le_two_pow
  rw [wAnd_n ⟨hx.1, by omega⟩ ⟨by omega, by omega⟩]
  have hle : x.toNat &&& (((2 ^ c.toNat : Nat) : Int) - 1).toNat ≤ x.toNat := Nat.and_le_left
  refine ⟨?_, by omega, by omega⟩
  rw [zbit_n (by omega), zbit_n hx.1, Int.toNat_natCast, Nat.testBit_and, show (((2 ^ c.toNat : Nat) : Int) - 1).toNat = 2 ^ c.toNat - 1 by omega, Nat.testBit_two_pow_sub_one]
  by_cases q : d < c
  · rw [if_pos q]
    have : d.toNat < c.toNat := by omega
    simp [this]
  · rw [if_neg q]
    have : ¬ d.toNat < c.toNat := by omega
    simp [this]
/-! the attribute's four bits -/
theorem zat_or {a n : Int} (ha : 0 ≤ a ∧ a < 16) (hn : 0 ≤ n ∧ n < 4) : 0 ≤ wOr a (wShl 1 n) ∧ wOr a (wShl 1 n) < 16 := by
  have h : ∀ (x : Fin 16) (k : Fin 4), 0 ≤ wOr ((x.val : Nat) : Int) (wShl 1 ((k.val : Nat) : Int)) ∧ wOr ((x.val : Nat) : Int) (wShl 1 ((k.val : Nat) : Int)) < 16 := by decide +kernel
  have := h ⟨a.toNat, by omega⟩ ⟨n.toNat, by omega⟩
  simp only [] at this
  rwa [show ((a.toNat : Nat) : Int) = a by omega, show ((n.toNat : Nat) : Int) = n by omega] at this
theorem zat_clr {a n : Int} (ha : 0 ≤ a ∧ a < 16) (hn : 0 ≤ n ∧ n < 4) : 0 ≤ wAnd a (wXor (wShl 1 n) (-1)) ∧ wAnd a (wXor (wShl 1 n) (-1)) < 16 := by
  have h : ∀ (x : Fin 16) (k : Fin 4), 0 ≤ wAnd ((x.val : Nat) : Int) (wXor (wShl 1 ((k.val : Nat) : Int)) (-1)) ∧ wAnd ((x.val : Nat) : Int) (wXor (wShl 1 ((k.val : Nat) : Int)) (-1)) < 16 := by decide +kernel
  have := h ⟨a.toNat, by omega⟩ ⟨n.toNat, by omega⟩
  simp only [] at this
  rwa [show ((a.toNat : Nat) : Int) = a by omega, show ((n.toNat : Nat) : Int) = n by omega] at this
