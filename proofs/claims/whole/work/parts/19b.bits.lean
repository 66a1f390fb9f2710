theorem mb_neg (a : Int32) : a.toInt < 0 ↔ a.toBitVec.msb = true := by
  rw [BitVec.msb_eq_toInt, decide_eq_true_iff]
  rfl
theorem mz_xor_neg {x y : Int} (hx : mz_in x) (hy : mz_in y) : mz_xor x y < 0 ↔ ¬ (x < 0 ↔ y < 0) := by
  unfold mz_xor
  rw [mb_neg, Int32.toBitVec_xor, BitVec.msb_xor]
  have h1 := mb_neg (Int32.ofInt x)
  have h2 := mb_neg (Int32.ofInt y)
  rw [mz_in_t hx] at h1
  rw [mz_in_t hy] at h2
  rw [h1, h2]
  cases (Int32.ofInt x).toBitVec.msb <;> cases (Int32.ofInt y).toBitVec.msb <;> simp
theorem mb_nat {x : Int} (h0 : 0 ≤ x) (h : x < 2147483648) : (Int32.ofInt x).toBitVec.toNat = x.toNat := by
  have h1 : (Int32.ofInt x).toBitVec.toInt = x := mz_in_t ⟨by omega, h⟩
  rw [BitVec.toInt_eq_toNat_cond] at h1
  split at h1 <;> omega
theorem mb_int {a : Int32} (h : a.toBitVec.toNat < 2147483648) : a.toInt = a.toBitVec.toNat := by
  show a.toBitVec.toInt = _
  rw [BitVec.toInt_eq_toNat_cond, if_pos (by omega)]
theorem mz_and_n {x y : Int} (h0 : 0 ≤ x) (h : x < 2147483648) (g0 : 0 ≤ y) (g : y < 2147483648) : mz_and x y = ((x.toNat &&& y.toNat : Nat) : Int) := by
  unfold mz_and
  have e : (Int32.ofInt x &&& Int32.ofInt y).toBitVec.toNat = x.toNat &&& y.toNat := by
    rw [Int32.toBitVec_and, BitVec.toNat_and, mb_nat h0 h, mb_nat g0 g]
  rw [mb_int, e]
  rw [e]
  exact Nat.lt_of_le_of_lt Nat.and_le_left (by omega)
theorem mz_or_n {x y : Int} (h0 : 0 ≤ x) (h : x < 2147483648) (g0 : 0 ≤ y) (g : y < 2147483648) : mz_or x y = ((x.toNat ||| y.toNat : Nat) : Int) := by
  unfold mz_or
  have e : (Int32.ofInt x ||| Int32.ofInt y).toBitVec.toNat = x.toNat ||| y.toNat := by
    rw [Int32.toBitVec_or, BitVec.toNat_or, mb_nat h0 h, mb_nat g0 g]
  rw [mb_int, e]
  rw [e]
  exact Nat.or_lt_two_pow (n := 31) (by omega) (by omega)
theorem mb_31 {y : Int} (g0 : 0 ≤ y) (g : y < 32) : (Int32.ofInt y &&& 31).toBitVec.toNat = y.toNat := by
  rw [Int32.toBitVec_and, BitVec.toNat_and, mb_nat g0 (by omega)]
  show y.toNat &&& 31 = y.toNat
  rw [show (31 : Nat) = 2 ^ 5 - 1 by decide, Nat.and_two_pow_sub_one_eq_mod]
  omega
theorem mb_sm : ∀ k, k < 32 → (BitVec.ofNat 32 k).smod 32 = BitVec.ofNat 32 k := by decide
theorem mb_s {y : Int} (g0 : 0 ≤ y) (g : y < 32) : ((Int32.ofInt y &&& 31).toBitVec.smod 32).toNat = y.toNat := by
  have e : (Int32.ofInt y &&& 31).toBitVec = BitVec.ofNat 32 y.toNat := by
    apply BitVec.eq_of_toNat_eq
    rw [mb_31 g0 g, BitVec.toNat_ofNat]
    omega
  rw [e, mb_sm _ (by omega), BitVec.toNat_ofNat]
  omega
theorem mb_msb {x : Int} (h0 : 0 ≤ x) (h : x < 2147483648) : (Int32.ofInt x).toBitVec.msb = false := by
  have := mb_neg (Int32.ofInt x)
  rw [mz_in_t ⟨by omega, h⟩] at this
  cases q : (Int32.ofInt x).toBitVec.msb with
  | false => rfl
  | true => exact absurd (this.mpr q) (by omega)
theorem mz_shr_n {x y : Int} (h0 : 0 ≤ x) (h : x < 2147483648) (g0 : 0 ≤ y) (g : y < 32) : mz_shr x y = ((x.toNat / 2 ^ y.toNat : Nat) : Int) := by
  unfold mz_shr
  have e : (Int32.ofInt x >>> (Int32.ofInt y &&& 31)).toBitVec.toNat = x.toNat / 2 ^ y.toNat := by
    rw [Int32.toBitVec_shiftRight]
    show ((Int32.ofInt x).toBitVec.sshiftRight ((Int32.ofInt y &&& 31).toBitVec.smod 32).toNat).toNat = _
    rw [mb_s g0 g, BitVec.sshiftRight_eq_of_msb_false (mb_msb h0 h), BitVec.toNat_ushiftRight, mb_nat h0 h, Nat.shiftRight_eq_div_pow]
  rw [mb_int, e]
  rw [e]
  exact Nat.lt_of_le_of_lt (Nat.div_le_self _ _) (by omega)
theorem mz_shl_n {x y : Int} (h0 : 0 ≤ x) (h : x < 2147483648) (g0 : 0 ≤ y) (g : y < 32) (hx : x.toNat * 2 ^ y.toNat < 2147483648) : mz_shl x y = ((x.toNat * 2 ^ y.toNat : Nat) : Int) := by
  unfold mz_shl
  have e : (Int32.ofInt x <<< (Int32.ofInt y &&& 31)).toBitVec.toNat = x.toNat * 2 ^ y.toNat := by
    rw [Int32.toBitVec_shiftLeft]
    show ((Int32.ofInt x).toBitVec <<< ((Int32.ofInt y &&& 31).toBitVec.smod 32).toNat).toNat = _
    rw [mb_s g0 g, BitVec.toNat_shiftLeft, mb_nat h0 h, Nat.shiftLeft_eq]
    omega
  rw [mb_int, e]
  rw [e]
  exact hx
theorem mz_and_1 {x : Int} (h0 : 0 ≤ x) (h : x < 2147483648) : mz_and x 1 = x % 2 := by
  rw [mz_and_n h0 h (by omega) (by omega)]
  show ((x.toNat &&& (2 ^ 1 - 1) : Nat) : Int) = _
  rw [Nat.and_two_pow_sub_one_eq_mod]
  omega
theorem mz_and_63 {x : Int} (h0 : 0 ≤ x) (h : x < 2147483648) : mz_and x 63 = x % 64 := by
  rw [mz_and_n h0 h (by omega) (by omega)]
  show ((x.toNat &&& (2 ^ 6 - 1) : Nat) : Int) = _
  rw [Nat.and_two_pow_sub_one_eq_mod]
  omega
theorem mb_by (a : BitVec 32) (k : Nat) (hk : k ≤ 24) : (a >>> k) &&& 255#32 = (a.sshiftRight k) &&& 255#32 := by
  apply BitVec.eq_of_getLsbD_eq
  intro i hi
  rw [BitVec.getLsbD_and, BitVec.getLsbD_and, BitVec.getLsbD_ushiftRight, BitVec.getLsbD_sshiftRight]
  by_cases h : i < 8
  · rw [show (decide (32 ≤ i)) = false by simp; omega, if_pos (by omega)]
    simp
  · have : (255#32).getLsbD i = false := by
      rw [show (255#32) = BitVec.ofNat 32 (2 ^ 8 - 1) by rfl]
      simp [BitVec.getLsbD_ofNat]
      intro _
      exact Nat.testBit_lt_two_pow (by calc 255 < 2 ^ 8 := by decide
        _ ≤ 2 ^ i := Nat.pow_le_pow_right (by omega) (by omega))
    rw [this]; simp
theorem mz_by {x y : Int} (hy : y = 0 ∨ y = 8 ∨ y = 16 ∨ y = 24) : mz_and (mz_ushr x y) 255 = mz_and (mz_shr x y) 255 := by
  unfold mz_and mz_ushr mz_shr
  rw [Int32.ofInt_toInt, Int32.ofInt_toInt]
  congr 1
  apply Int32.toBitVec_inj.mp
  rw [Int32.toBitVec_and, Int32.toBitVec_and, Int32.toBitVec_shiftRight]
  rcases hy with rfl | rfl | rfl | rfl
  · exact mb_by (Int32.ofInt x).toBitVec 0 (by omega)
  · exact mb_by (Int32.ofInt x).toBitVec 8 (by omega)
  · exact mb_by (Int32.ofInt x).toBitVec 16 (by omega)
  · exact mb_by (Int32.ofInt x).toBitVec 24 (by omega)
theorem mz_and_r {x y : Int} (g0 : 0 ≤ y) (g : y < 2147483648) : 0 ≤ mz_and x y ∧ mz_and x y ≤ y := by
  unfold mz_and
  have e : (Int32.ofInt x &&& Int32.ofInt y).toBitVec.toNat ≤ y.toNat := by
    rw [Int32.toBitVec_and, BitVec.toNat_and, mb_nat g0 g]
    exact Nat.and_le_right
  rw [mb_int (by omega)]
  omega
