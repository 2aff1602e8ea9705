theorem i32_nat (v : Int32) : v.toNatClampNeg = v.toInt.toNat := rfl
theorem i32_le {a b : Int32} : a ≤ b ↔ a.toInt ≤ b.toInt := Int32.le_iff_toInt_le
theorem i32_lt {a b : Int32} : a < b ↔ a.toInt < b.toInt := Int32.lt_iff_toInt_lt
theorem i32_eq {a b : Int32} : a = b ↔ a.toInt = b.toInt := Int32.toInt_inj.symm
theorem i64_le {a b : Int64} : a ≤ b ↔ a.toInt ≤ b.toInt := Int64.le_iff_toInt_le
theorem i64_lt {a b : Int64} : a < b ↔ a.toInt < b.toInt := Int64.lt_iff_toInt_lt
theorem i64_eq {a b : Int64} : a = b ↔ a.toInt = b.toInt := Int64.toInt_inj.symm
theorem i32_lo (a : Int32) : -2147483648 ≤ a.toInt := Int32.le_toInt a
theorem i32_hi (a : Int32) : a.toInt < 2147483648 := Int32.toInt_lt a
theorem i64_lo (a : Int64) : -9223372036854775808 ≤ a.toInt := Int64.le_toInt a
theorem i64_hi (a : Int64) : a.toInt < 9223372036854775808 := Int64.toInt_lt a
theorem bm32 {x : Int} (h : -2147483648 ≤ x) (h' : x < 2147483648) : x.bmod (2 ^ 32) = x := Int.bmod_eq_of_le (by omega) (by omega)
theorem bm64 {x : Int} (h : -9223372036854775808 ≤ x) (h' : x < 9223372036854775808) : x.bmod (2 ^ 64) = x := Int.bmod_eq_of_le (by omega) (by omega)
theorem i32_add {a b : Int32} (h : -2147483648 ≤ a.toInt + b.toInt) (h' : a.toInt + b.toInt < 2147483648) : (a + b).toInt = a.toInt + b.toInt := by rw [Int32.toInt_add]; exact bm32 h h'
theorem i32_sub {a b : Int32} (h : -2147483648 ≤ a.toInt - b.toInt) (h' : a.toInt - b.toInt < 2147483648) : (a - b).toInt = a.toInt - b.toInt := by rw [Int32.toInt_sub]; exact bm32 h h'
theorem i32_mul {a b : Int32} (h : -2147483648 ≤ a.toInt * b.toInt) (h' : a.toInt * b.toInt < 2147483648) : (a * b).toInt = a.toInt * b.toInt := by rw [Int32.toInt_mul]; exact bm32 h h'
theorem i32_neg {a : Int32} (h : -2147483648 < a.toInt) : (-a).toInt = -a.toInt := by rw [Int32.toInt_neg]; have := i32_hi a; exact bm32 (by omega) (by omega)
theorem i64_add {a b : Int64} (h : -9223372036854775808 ≤ a.toInt + b.toInt) (h' : a.toInt + b.toInt < 9223372036854775808) : (a + b).toInt = a.toInt + b.toInt := by rw [Int64.toInt_add]; exact bm64 h h'
theorem i64_sub {a b : Int64} (h : -9223372036854775808 ≤ a.toInt - b.toInt) (h' : a.toInt - b.toInt < 9223372036854775808) : (a - b).toInt = a.toInt - b.toInt := by rw [Int64.toInt_sub]; exact bm64 h h'
theorem i64_mul {a b : Int64} (h : -9223372036854775808 ≤ a.toInt * b.toInt) (h' : a.toInt * b.toInt < 9223372036854775808) : (a * b).toInt = a.toInt * b.toInt := by rw [Int64.toInt_mul]; exact bm64 h h'
theorem i64_neg {a : Int64} (h : -9223372036854775808 < a.toInt) : (-a).toInt = -a.toInt := by rw [Int64.toInt_neg]; have := i64_hi a; exact bm64 (by omega) (by omega)
theorem i64_of32 (a : Int32) : a.toInt64.toInt = a.toInt := Int32.toInt_toInt64 a
theorem i64_div {a b : Int64} (h : -9223372036854775808 < a.toInt) : (a / b).toInt = a.toInt.tdiv b.toInt := by
  refine Int64.toInt_div_of_ne_left a b (fun e => ?_)
  rw [e] at h
  exact absurd h (by decide)
theorem i64_mod (a b : Int64) : (a % b).toInt = a.toInt.tmod b.toInt := Int64.toInt_mod a b
theorem ix_iff {v : Int32} {m : Nat} : ix v m ↔ 0 ≤ v.toInt ∧ v.toInt < m := by
  unfold ix
  rw [i32_lt, i32_nat, show ((0 : Int32).toInt) = 0 from rfl]
  omega
theorem ix_of {v : Int32} {m : Nat} (h : 0 ≤ v.toInt) (h' : v.toInt < m) : ix v m := ix_iff.mpr ⟨h, h'⟩
theorem ixn {v : Int32} {m : Nat} (h : ix v m) : v.toInt = (v.toNatClampNeg : Int) := by
  have := ix_iff.mp h
  rw [i32_nat]; omega
/-- an index c * v + w of a row of rows -/
theorem ix2 {c v w : Int32} {m k : Nat} (hc : 0 ≤ c.toInt) (hv : ix v m) (hw : ix w k) (hk : c.toInt = k) (hb : c.toInt * m < 2147483648) : (c * v + w).toInt = c.toInt * v.toInt + w.toInt ∧ (c * v + w).toNatClampNeg = k * v.toNatClampNeg + w.toNatClampNeg ∧ ix (c * v + w) (k * m) := by
  obtain ⟨a1, a2⟩ := ix_iff.mp hv
  obtain ⟨b1, b2⟩ := ix_iff.mp hw
  have e1 : c.toInt * v.toInt ≤ c.toInt * (m - 1) := Int.mul_le_mul_of_nonneg_left (by omega) hc
  have e0 : 0 ≤ c.toInt * v.toInt := Int.mul_nonneg hc a1
  have e2 : c.toInt * (m - 1) = c.toInt * m - c.toInt := by rw [Int.mul_sub, Int.mul_one]
  have e3 : (c * v).toInt = c.toInt * v.toInt := i32_mul (by omega) (by omega)
  have e4 : (c * v + w).toInt = c.toInt * v.toInt + w.toInt := by rw [i32_add (by omega) (by omega), e3]
  have e5 : ((k * m : Nat) : Int) = c.toInt * m := by rw [Int.natCast_mul, hk]
  refine ⟨e4, ?_, ix_iff.mpr ⟨by omega, by omega⟩⟩
  have n1 := ixn hv
  have n2 := ixn hw
  have e6 : ((k * v.toNatClampNeg : Nat) : Int) = c.toInt * v.toInt := by rw [Int.natCast_mul, hk, n1]
  rw [i32_nat (c * v + w), e4]
  omega
theorem i32_add1 {x : Int32} {m : Int} (h : x.toInt ≤ m) (hm : m < 2147483647) : (x + 1).toInt = x.toInt + 1 := by
  have e : (1 : Int32).toInt = 1 := rfl
  have := i32_lo x
  rw [i32_add (by omega) (by omega), e]
