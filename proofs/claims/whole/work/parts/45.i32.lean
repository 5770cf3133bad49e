/-! ===== Int32 as numbers ===== -/
theorem i32_lo (a : Int32) : -2147483648 ≤ a.toInt := Int32.le_toInt a
theorem i32_hi (a : Int32) : a.toInt < 2147483648 := Int32.toInt_lt a
theorem i32_ext {a b : Int32} (h : a.toInt = b.toInt) : a = b := Int32.toInt_inj.mp h
theorem i32_eq {a b : Int32} : a = b ↔ a.toInt = b.toInt := Int32.toInt_inj.symm
theorem i32_lt {a b : Int32} : a < b ↔ a.toInt < b.toInt := Int32.lt_iff_toInt_lt
theorem i32_le {a b : Int32} : a ≤ b ↔ a.toInt ≤ b.toInt := Int32.le_iff_toInt_le
theorem i32_bm (x : Int) (h : -2147483648 ≤ x) (h2 : x < 2147483648) : x.bmod (2 ^ 32) = x := by
  unfold Int.bmod
  simp only []
  omega
theorem i32_add {a b : Int32} (h : -2147483648 ≤ a.toInt + b.toInt) (h2 : a.toInt + b.toInt < 2147483648) : (a + b).toInt = a.toInt + b.toInt := by
  rw [Int32.toInt_add]
  exact i32_bm _ h h2
theorem i32_sub {a b : Int32} (h : -2147483648 ≤ a.toInt - b.toInt) (h2 : a.toInt - b.toInt < 2147483648) : (a - b).toInt = a.toInt - b.toInt := by
  rw [Int32.toInt_sub]
  exact i32_bm _ h h2
theorem i32_mul {a b : Int32} (h : -2147483648 ≤ a.toInt * b.toInt) (h2 : a.toInt * b.toInt < 2147483648) : (a * b).toInt = a.toInt * b.toInt := by
  rw [Int32.toInt_mul]
  exact i32_bm _ h h2
theorem i32_neg {a : Int32} (h : a.toInt ≠ -2147483648) : (-a).toInt = -a.toInt := by
  have := i32_lo a
  have := i32_hi a
  rw [Int32.toInt_neg]
  exact i32_bm _ (by omega) (by omega)
theorem i32_of {n : Nat} (h : n < 2147483648) : (Int32.ofNat n).toInt = n := Int32.toInt_ofNat_of_lt h
theorem i32_nat {a : Int32} : a.toNatClampNeg = a.toInt.toNat := rfl
theorem i32_natof {n : Nat} (h : n < 2147483648) : (Int32.ofNat n).toNatClampNeg = n := by
  rw [i32_nat, i32_of h]
  rfl
theorem i32_ofnat {a : Int32} (h : 0 ≤ a.toInt) : Int32.ofNat a.toNatClampNeg = a := by
  have := i32_hi a
  apply i32_ext
  rw [i32_of (by rw [i32_nat]; omega), i32_nat]
  omega
theorem i32_nneg {n : Nat} (h : n < 2147483648) : ¬ Int32.ofNat n < 0 := by
  rw [i32_lt, i32_of h]
  show ¬ (n : Int) < 0
  omega
theorem i32_oflt {m n : Nat} (h : m < 2147483648) (h2 : n < 2147483648) : Int32.ofNat m < Int32.ofNat n ↔ m < n := by
  rw [i32_lt, i32_of h, i32_of h2]
  omega
theorem i32_ofle {m n : Nat} (h : m < 2147483648) (h2 : n < 2147483648) : Int32.ofNat m ≤ Int32.ofNat n ↔ m ≤ n := by
  rw [i32_le, i32_of h, i32_of h2]
  omega
theorem i32_ofeq {m n : Nat} (h : m < 2147483648) (h2 : n < 2147483648) : Int32.ofNat m = Int32.ofNat n ↔ m = n := by
  rw [i32_eq, i32_of h, i32_of h2]
  omega
theorem i32_ofadd1 {n : Nat} (h : n + 1 < 2147483648) : Int32.ofNat n + 1 = Int32.ofNat (n + 1) := by
  have e1 : (1 : Int32).toInt = 1 := by decide
  apply i32_ext
  rw [i32_add, i32_of h, i32_of (by omega), e1]
  · omega
  · rw [i32_of (by omega), e1]; omega
  · rw [i32_of (by omega), e1]; omega
theorem i32_ofsub1 {n : Nat} (h : n + 1 < 2147483648) : Int32.ofNat (n + 1) - 1 = Int32.ofNat n := by
  have e1 : (1 : Int32).toInt = 1 := by decide
  apply i32_ext
  rw [i32_sub, i32_of h, i32_of (by omega), e1]
  · omega
  · rw [i32_of h, e1]; omega
  · rw [i32_of h, e1]; omega
theorem i32_div {a b : Int32} (h : a.toInt ≠ -2147483648) : (a / b).toInt = a.toInt.tdiv b.toInt := by
  apply Int32.toInt_div_of_ne_left
  intro e
  apply h
  rw [e]
  decide
