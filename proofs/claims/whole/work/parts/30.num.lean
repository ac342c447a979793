/-! 30: numbers: ints and longs as whole numbers -/
theorem i3_add (a b : Int) : i3 a + i3 b = i3 (a + b) := (Int32.ofInt_add a b).symm
theorem i3_sub (a b : Int) : i3 a - i3 b = i3 (a - b) := (Int32.ofInt_sub a b).symm
theorem i3_mul (a b : Int) : i3 a * i3 b = i3 (a * b) := (Int32.ofInt_mul a b).symm
theorem i3_neg (a : Int) : -(i3 a) = i3 (-a) := (Int32.ofInt_neg a).symm
theorem i6_add (a b : Int) : i6 a + i6 b = i6 (a + b) := (Int64.ofInt_add a b).symm
theorem i6_sub (a b : Int) : i6 a - i6 b = i6 (a - b) := (Int64.ofInt_sub a b).symm
theorem i6_mul (a b : Int) : i6 a * i6 b = i6 (a * b) := (Int64.ofInt_mul a b).symm
theorem i6_neg (a : Int) : -(i6 a) = i6 (-a) := (Int64.ofInt_neg a).symm
theorem i3_t {a : Int} (h1 : -2147483648 ≤ a) (h2 : a < 2147483648) : (i3 a).toInt = a := Int32.toInt_ofInt_of_le (by simpa using h1) (by simpa using h2)
theorem i6_t {a : Int} (h1 : -9223372036854775808 ≤ a) (h2 : a < 9223372036854775808) : (i6 a).toInt = a := Int64.toInt_ofInt_of_le (by simpa using h1) (by simpa using h2)
theorem i3_of (x : Int32) : ∃ a : Int, -2147483648 ≤ a ∧ a < 2147483648 ∧ x = i3 a := ⟨x.toInt, by simpa using x.le_toInt, by simpa using x.toInt_lt, (Int32.ofInt_toInt x).symm⟩
theorem i6_of (x : Int64) : ∃ a : Int, -9223372036854775808 ≤ a ∧ a < 9223372036854775808 ∧ x = i6 a := ⟨x.toInt, by simpa using x.le_toInt, by simpa using x.toInt_lt, (Int64.ofInt_toInt x).symm⟩
theorem i3_lt {a b : Int} (h1 : -2147483648 ≤ a) (h2 : a < 2147483648) (h3 : -2147483648 ≤ b) (h4 : b < 2147483648) : i3 a < i3 b ↔ a < b := by rw [Int32.lt_iff_toInt_lt, i3_t h1 h2, i3_t h3 h4]
theorem i3_le {a b : Int} (h1 : -2147483648 ≤ a) (h2 : a < 2147483648) (h3 : -2147483648 ≤ b) (h4 : b < 2147483648) : i3 a ≤ i3 b ↔ a ≤ b := by rw [Int32.le_iff_toInt_le, i3_t h1 h2, i3_t h3 h4]
theorem i3_eq {a b : Int} (h1 : -2147483648 ≤ a) (h2 : a < 2147483648) (h3 : -2147483648 ≤ b) (h4 : b < 2147483648) : i3 a = i3 b ↔ a = b := by rw [← Int32.toInt_inj, i3_t h1 h2, i3_t h3 h4]
theorem i6_lt {a b : Int} (h1 : -9223372036854775808 ≤ a) (h2 : a < 9223372036854775808) (h3 : -9223372036854775808 ≤ b) (h4 : b < 9223372036854775808) : i6 a < i6 b ↔ a < b := by rw [Int64.lt_iff_toInt_lt, i6_t h1 h2, i6_t h3 h4]
theorem i6_le {a b : Int} (h1 : -9223372036854775808 ≤ a) (h2 : a < 9223372036854775808) (h3 : -9223372036854775808 ≤ b) (h4 : b < 9223372036854775808) : i6 a ≤ i6 b ↔ a ≤ b := by rw [Int64.le_iff_toInt_le, i6_t h1 h2, i6_t h3 h4]
theorem i6_eq {a b : Int} (h1 : -9223372036854775808 ≤ a) (h2 : a < 9223372036854775808) (h3 : -9223372036854775808 ≤ b) (h4 : b < 9223372036854775808) : i6 a = i6 b ↔ a = b := by rw [← Int64.toInt_inj, i6_t h1 h2, i6_t h3 h4]
theorem i3_64 {a : Int} (h1 : -2147483648 ≤ a) (h2 : a < 2147483648) : (i3 a).toInt64 = i6 a := by
  rw [← Int64.toInt_inj, Int32.toInt_toInt64, i3_t h1 h2, i6_t (by omega) (by omega)]
theorem i6_32 {a : Int} (h1 : -9223372036854775808 ≤ a) (h2 : a < 9223372036854775808) : (i6 a).toInt32 = i3 a := by
  rw [← Int32.ofInt_int64ToInt, i6_t h1 h2]
theorem i3_div {a b : Int} (h1 : -2147483648 < a) (h2 : a < 2147483648) (h3 : -2147483648 ≤ b) (h4 : b < 2147483648) : i3 a / i3 b = i3 (a.tdiv b) := by
  rw [← Int32.toInt_inj, Int32.toInt_div_of_ne_left _ _ (by
    rw [ne_eq, ← Int32.toInt_inj, i3_t (by omega) h2]
    have : Int32.minValue.toInt = -2147483648 := by decide
    omega), i3_t (by omega) h2, i3_t h3 h4]
  have hb : (a.tdiv b).natAbs ≤ a.natAbs := Int.natAbs_tdiv_le_natAbs a b
  rw [i3_t (by omega) (by omega)]
theorem i6_div {a b : Int} (h1 : -9223372036854775808 < a) (h2 : a < 9223372036854775808) (h3 : -9223372036854775808 ≤ b) (h4 : b < 9223372036854775808) : i6 a / i6 b = i6 (a.tdiv b) := by
  rw [← Int64.toInt_inj, Int64.toInt_div_of_ne_left _ _ (by
    rw [ne_eq, ← Int64.toInt_inj, i6_t (by omega) h2]
    have : Int64.minValue.toInt = -9223372036854775808 := by decide
    omega), i6_t (by omega) h2, i6_t h3 h4]
  have hb : (a.tdiv b).natAbs ≤ a.natAbs := Int.natAbs_tdiv_le_natAbs a b
  rw [i6_t (by omega) (by omega)]
theorem i3_n {a : Int} (h1 : -2147483648 ≤ a) (h2 : a < 2147483648) : gj_n (i3 a) = a.toNat := by
  show (i3 a).toInt.toNat = a.toNat
  rw [i3_t h1 h2]
theorem i3_in {a : Int} {n : Nat} (h1 : -2147483648 ≤ a) (h2 : a < 2147483648) : vp_in (i3 a) n ↔ 0 ≤ a ∧ a < n := by
  rw [vp_in_iff, i3_t h1 h2]
theorem i3_z : (0 : Int32) = i3 0 := rfl
theorem i3_o : (1 : Int32) = i3 1 := rfl
theorem i6_z : (0 : Int64) = i6 0 := rfl
theorem i3_nat (n : Nat) : Int32.ofNat n = i3 n := rfl
