theorem gcd_step {a b : Int} (ha : 0 ≤ a) (hb : 0 < b) : Int.gcd a b = Int.gcd b (a % b) := by
  have e := Int.emod_add_mul_ediv a b
  have e2 : a % b = a - b * (a / b) := by omega
  rw [e2, Int.gcd_sub_mul_left_right, Int.gcd_comm]
theorem nneg {a b : Int64} (ha : 0 ≤ a.toInt) (hb : 0 < b.toInt) : (a - a / b * b).toInt = a.toInt % b.toInt := by
  obtain ⟨Q, R, a1, a2, a3, -, a5, a6, a7, a8, a9, a10, a11⟩ := dm_v (n := a) (d := b) hb (by omega)
  rw [a3, (a10 (a8 ha)).2]
theorem euc : ∀ (k n : Nat) (a b : Int64) (v : Int32), 0 ≤ a.toInt → 0 ≤ b.toInt → b.toInt < 2 ^ k → 2 * k < n → 0 ≤ v.toInt → v.toInt + 2 * k < 100 → ∃ g m, b_X12_common_17 n a b = some g ∧ b_X3_divisor_20 n a b v = b_X3_divisor_55 m g ∧ g.toInt = Int.gcd a.toInt b.toInt := by
  intro k
  have ex : ∀ (n : Nat) (a : Int64) (v : Int32), 0 ≤ a.toInt → 0 < n → v.toInt < 100 → ∃ g m, b_X12_common_17 n a 0 = some g ∧ b_X3_divisor_20 n a 0 v = b_X3_divisor_55 m g ∧ g.toInt = Int.gcd a.toInt (0 : Int64).toInt := by
    intro n a v ha hn hv
    obtain ⟨n, rfl⟩ : ∃ k, n = k + 1 := ⟨n - 1, by omega⟩
    refine ⟨a, n, by rw [b_X12_common_17, if_pos rfl], ?_, ?_⟩
    · rw [b_X3_divisor_20, if_neg (by rw [i32_le]; simp only [Int32.reduceToInt]; omega), if_pos rfl]
    · show a.toInt = (Int.gcd a.toInt 0 : Nat)
      rw [Int.gcd_zero_right]; omega
  have st : ∀ (n : Nat) (a b : Int64) (v : Int32), ¬ b = 0 → 0 ≤ v.toInt → v.toInt < 99 → b_X12_common_17 (n + 1) a b = b_X12_common_17 n b (a - a / b * b) ∧ b_X3_divisor_20 (n + 1) a b v = b_X3_divisor_20 n b (a - a / b * b) (v + 1) := by
    intro n a b v hb h1 h2
    refine ⟨by rw [b_X12_common_17, if_neg hb, ck_t hb, nm_t], ?_⟩
    rw [b_X3_divisor_20, if_neg (by rw [i32_le]; simp only [Int32.reduceToInt]; omega), if_neg hb, ck_t hb, nm_t, nm_t]
  induction k with
  | zero =>
    intro n a b v ha hb hk hn hv hv2
    have e : b = 0 := by rw [i64_eq]; simp only [Int64.reduceToInt]; simp at hk; omega
    subst e
    exact ex n a v ha (by omega) (by omega)
  | succ k ih =>
    intro n a b v ha hb hk hn hv hv2
    by_cases e : b = 0
    · subst e
      exact ex n a v ha (by omega) (by omega)
    · have hb' : 0 < b.toInt := by
        have : ¬ b.toInt = 0 := fun q => e (by rw [i64_eq]; exact q)
        omega
      obtain ⟨n, rfl⟩ : ∃ k, n = k + 1 := ⟨n - 1, by omega⟩
      obtain ⟨s1, s2⟩ := st n a b v e hv (by omega)
      have r := nneg ha hb'
      have r0 := Int.emod_nonneg a.toInt (b := b.toInt) (by omega)
      have r1 := Int.emod_lt_of_pos a.toInt hb'
      rw [s1, s2, gcd_step ha hb', ← r]
      have hv1 := i32_add1 (x := v) (m := 200) (by omega) (by decide)
      generalize a - a / b * b = x at *
      by_cases ex0 : x = 0
      · subst ex0
        exact ex n b (v + 1) hb (by omega) (by omega)
      · have hx : 0 < x.toInt := by
          have : ¬ x.toInt = 0 := fun q => ex0 (by rw [i64_eq]; exact q)
          omega
        obtain ⟨n, rfl⟩ : ∃ k, n = k + 1 := ⟨n - 1, by omega⟩
        obtain ⟨s3, s4⟩ := st n b x (v + 1) ex0 (by omega) (by omega)
        have q := nneg hb hx
        have q0 := Int.emod_nonneg b.toInt (b := x.toInt) (by omega)
        have q1 := Int.emod_lt_of_pos b.toInt hx
        have qh : 2 * (b.toInt % x.toInt) < b.toInt := by
          have e := Int.emod_add_mul_ediv b.toInt x.toInt
          have : 1 ≤ b.toInt / x.toInt := by
            have := Int.le_ediv_of_mul_le hx (a := 1) (b := b.toInt) (by omega)
            omega
          have : x.toInt * 1 ≤ x.toInt * (b.toInt / x.toInt) := Int.mul_le_mul_of_nonneg_left this (by omega)
          omega
        rw [s3, s4, gcd_step hb hx, ← q]
        have hv2' := i32_add1 (x := v + 1) (m := 200) (by omega) (by decide)
        refine ih n x (b - b / x * x) (v + 1 + 1) (by omega) (by omega) ?_ (by omega) (by omega) (by omega)
        have : (2 : Int) ^ (k + 1) = 2 * 2 ^ k := by rw [Int.pow_succ, Int.mul_comm]
        omega
/-- both divisors are the greatest common one -/
theorem div_v {n : Nat} {a b : Int64} (hn : 100 ≤ n) (ha : -9223372036854775808 < a.toInt) (hb : 1 ≤ b.toInt) (hb2 : b.toInt ≤ 1099511627776) : ∃ g, f_X3_divisor n a b = some g ∧ f_X12_common n a b = some g ∧ g.toInt = Int.gcd a.toInt b.toInt ∧ 1 ≤ g.toInt := by
  have gp : 1 ≤ (Int.gcd a.toInt b.toInt : Int) := by
    have : 0 < Int.gcd a.toInt b.toInt := Int.gcd_pos_of_ne_zero_right _ (by omega)
    omega
  have key : ∀ x : Int64, 0 ≤ x.toInt → Int.gcd x.toInt b.toInt = Int.gcd a.toInt b.toInt → ∃ g, b_X3_divisor_12 n b x = some g ∧ b_X12_common_12 n b x = some g ∧ g.toInt = Int.gcd a.toInt b.toInt ∧ 1 ≤ g.toInt := by
    intro x hx e
    obtain ⟨g, m, g1, g2, g3⟩ := euc 41 n x b 0 hx (by omega) (by omega) (by omega) (by decide) (by decide)
    rw [e] at g3
    refine ⟨g, ?_, g1, g3, by omega⟩
    unfold b_X3_divisor_12
    rw [g2]
    unfold b_X3_divisor_55
    rw [if_neg (by rw [i64_le]; simp only [Int64.reduceToInt]; omega)]
  unfold f_X3_divisor f_X12_common
  by_cases q : 0 ≤ a.toInt
  · rw [if_pos (by rw [i64_le]; exact q), if_pos (by rw [i64_le]; exact q)]
    exact key a q rfl
  · rw [if_neg (by rw [i64_le]; exact q), if_neg (by rw [i64_le]; exact q)]
    have e := i64_neg ha
    refine key (-a) (by omega) ?_
    rw [e, Int.neg_gcd]
/-- a divided by the common divisor g -/
theorem quo_v {a b g : Int64} (ha : -9223372036854775808 < a.toInt) (hb : 1 ≤ b.toInt) (hg : g.toInt = Int.gcd a.toInt b.toInt) (hg1 : 1 ≤ g.toInt) : (a / g).toInt * g.toInt = a.toInt ∧ (b / g).toInt * g.toInt = b.toInt ∧ 1 ≤ (b / g).toInt ∧ (b / g).toInt ≤ b.toInt ∧ Int.gcd (a / g).toInt (b / g).toInt = 1 ∧ ((a / g).toInt ≤ 0 ∨ (a / g).toInt ≤ a.toInt) ∧ (0 ≤ (a / g).toInt ∨ a.toInt ≤ (a / g).toInt) := by
  have d1 : g.toInt ∣ a.toInt := by rw [hg]; exact Int.gcd_dvd_left _ _
  have d2 : g.toInt ∣ b.toInt := by rw [hg]; exact Int.gcd_dvd_right _ _
  have e1 : (a / g).toInt * g.toInt = a.toInt := by rw [i64_div ha]; exact Int.tdiv_mul_cancel d1
  have e2 : (b / g).toInt * g.toInt = b.toInt := by rw [i64_div (by omega)]; exact Int.tdiv_mul_cancel d2
  generalize (a / g).toInt = A at *
  generalize (b / g).toInt = B at *
  have hB : 1 ≤ B := by
    by_cases q : 1 ≤ B
    · exact q
    · have : B * g.toInt ≤ 0 * g.toInt := Int.mul_le_mul_of_nonneg_right (by omega) (by omega)
      omega
  refine ⟨e1, e2, hB, ?_, ?_, ?_, ?_⟩
  · have : B * 1 ≤ B * g.toInt := Int.mul_le_mul_of_nonneg_left hg1 (by omega)
    omega
  · have h : Int.gcd (A * g.toInt) (B * g.toInt) = Int.gcd A B * g.toInt.natAbs := Int.gcd_mul_right A g.toInt B
    rw [e1, e2] at h
    have e : g.toInt.natAbs = Int.gcd a.toInt b.toInt := by rw [hg]; rfl
    rw [e] at h
    have p : 0 < Int.gcd a.toInt b.toInt := by omega
    have h' : 1 * Int.gcd a.toInt b.toInt = Int.gcd A B * Int.gcd a.toInt b.toInt := by rw [Nat.one_mul]; exact h
    exact (Nat.eq_of_mul_eq_mul_right p h').symm
  · by_cases q : A ≤ 0
    · exact Or.inl q
    · have : A * 1 ≤ A * g.toInt := Int.mul_le_mul_of_nonneg_left hg1 (by omega)
      omega
  · by_cases q : 0 ≤ A
    · exact Or.inl q
    · have : A * g.toInt ≤ A * 1 := Int.mul_le_mul_of_nonpos_left (by omega) hg1
      omega
