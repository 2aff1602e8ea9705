/-- what both classes round to: n / d to a whole number, by the mode -/
def rnd (n d m : Int) : Int := if n % d = 0 then n / d else
  if m = 0 then (if d < 2 * (n % d) ∨ (2 * (n % d) = d ∧ 0 < n) then n / d + 1 else n / d) else
  if m = 1 then (if d < 2 * (n % d) ∨ (2 * (n % d) = d ∧ (n / d) % 2 ≠ 0) then n / d + 1 else n / d) else
  if m = 2 then (if 0 < n then n / d else n / d + 1) else
  if m = 3 then (if 0 < n then n / d + 1 else n / d) else
  if m = 4 then n / d else n / d + 1
/-- Java's quotient and rest, and the floor's -/
theorem dm_v {n d : Int64} (hd : 0 < d.toInt) (hn : -9223372036854775808 < n.toInt) :
    ∃ Q R : Int, (n / d).toInt = Q ∧ (n / d * d).toInt = n.toInt - R ∧ (n - n / d * d).toInt = R ∧ R = n.toInt.tmod d.toInt ∧ d.toInt * Q = n.toInt - R ∧ -d.toInt < R ∧ R < d.toInt ∧ (0 ≤ n.toInt → 0 ≤ R) ∧ (n.toInt ≤ 0 → R ≤ 0) ∧
      (0 ≤ R → n.toInt / d.toInt = Q ∧ n.toInt % d.toInt = R) ∧ (R < 0 → n.toInt / d.toInt = Q - 1 ∧ n.toInt % d.toInt = R + d.toInt) := by
  have e1 : (n / d).toInt = n.toInt.tdiv d.toInt := i64_div hn
  have e2 := Int.tmod_add_mul_tdiv n.toInt d.toInt
  have b1 := Int.tmod_lt_of_pos n.toInt hd
  have b2 := Int.lt_tmod_of_pos n.toInt hd
  have b3 : 0 ≤ n.toInt → 0 ≤ n.toInt.tmod d.toInt := fun h => Int.tmod_nonneg _ h
  have b4 : n.toInt ≤ 0 → n.toInt.tmod d.toInt ≤ 0 := fun h => by
    have q := Int.tmod_nonneg (a := -n.toInt) d.toInt (by omega)
    rw [Int.neg_tmod] at q
    omega
  have h1 := i64_hi n
  have h2 := i64_hi d
  generalize hQ : n.toInt.tdiv d.toInt = Q at *
  generalize hR : n.toInt.tmod d.toInt = R at *
  have e3 : (n / d * d).toInt = n.toInt - R := by
    have e : (n / d).toInt * d.toInt = n.toInt - R := by rw [e1, Int.mul_comm]; omega
    rw [i64_mul (by omega) (by omega), e]
  refine ⟨Q, R, e1, e3, ?_, rfl, by omega, b2, b1, b3, b4, fun h => ?_, fun h => ?_⟩
  · rw [i64_sub (by omega) (by omega), e3]; omega
  · exact (Int.ediv_emod_unique hd).mpr ⟨by omega, h, b1⟩
  · refine (Int.ediv_emod_unique hd).mpr ⟨?_, by omega, by omega⟩
    rw [Int.mul_sub]
    omega
theorem floor_v {n d : Int64} (hd : 0 < d.toInt) (hd2 : d.toInt ≤ 4611686018427387903) (hn : -4611686018427387904 ≤ n.toInt) (hn2 : n.toInt ≤ 4611686018427387904) : ∃ x, f_X12_floor n d = some x ∧ x.toInt = n.toInt / d.toInt ∧ (x * d).toInt = n.toInt - n.toInt % d.toInt ∧ (n - x * d).toInt = n.toInt % d.toInt := by
  obtain ⟨Q, R, a1, a2, a3, -, a5, a6, a7, a8, a9, a10, a11⟩ := dm_v (n := n) (d := d) hd (by omega)
  unfold f_X12_floor
  have hz : ¬ d = 0 := by rw [i64_eq]; simp only [Int64.reduceToInt]; omega
  rw [ck_t hz, nm_t]
  by_cases q : 0 ≤ R
  · obtain ⟨b1, b2⟩ := a10 q
    rw [if_pos (by rw [i64_le, a2]; omega)]
    exact ⟨_, rfl, by rw [a1, b1], by rw [a2, b2], by rw [a3, b2]⟩
  · obtain ⟨b1, b2⟩ := a11 (by omega)
    have c1 : (n / d - 1).toInt = Q - 1 := by
      have := i64_lo (n / d)
      have hQ : -4611686018427387904 ≤ Q := by
        by_cases h0 : 0 ≤ Q
        · omega
        · have : d.toInt * Q ≤ 1 * Q := Int.mul_le_mul_of_nonpos_right (by omega) (by omega)
          omega
      have := i64_hi (n / d)
      rw [i64_sub (by simp only [Int64.reduceToInt]; omega) (by simp only [Int64.reduceToInt]; omega), a1]
      rfl
    have c2 : ((n / d - 1) * d).toInt = n.toInt - R - d.toInt := by
      have e : (n / d - 1).toInt * d.toInt = n.toInt - R - d.toInt := by rw [c1, Int.mul_comm, Int.mul_sub, a5]; omega
      rw [i64_mul (by omega) (by omega), e]
    rw [if_neg (by rw [i64_le, a2]; omega)]
    refine ⟨_, rfl, by rw [c1, b1], by rw [c2, b2]; omega, ?_⟩
    rw [i64_sub (by omega) (by omega), c2, b2]; omega
theorem par_v {x : Int64} : (x - x / 2 * 2 = 0) ↔ x.toInt % 2 = 0 := by
  by_cases hx : x.toInt = -9223372036854775808
  · have e : x = Int64.minValue := by rw [i64_eq, hx]; rfl
    subst e
    decide
  · have := i64_lo x
    obtain ⟨Q, R, a1, a2, a3, a4, a5, a6, a7, a8, a9, a10, a11⟩ := dm_v (n := x) (d := 2) (by decide) (by omega)
    have e2 : (2 : Int64).toInt = 2 := rfl
    simp only [Int64.reduceToInt] at a5 a6 a7 a10 a11
    rw [i64_eq, a3]
    simp only [Int64.reduceToInt]
    by_cases q : 0 ≤ R
    · have := a10 q; omega
    · have := a11 (by omega); omega
theorem times_v {n d : Int64} {m : Int32} (hd : 0 < d.toInt) (hd2 : d.toInt ≤ 4611686018427387903) (hn : -4611686018427387904 ≤ n.toInt) (hn2 : n.toInt ≤ 4611686018427387904) (hm : 0 ≤ m.toInt ∧ m.toInt ≤ 5) : ∃ x, f_X12_times n d m = some x ∧ x.toInt = rnd n.toInt d.toInt m.toInt := by
  obtain ⟨f, f1, f2, f3, f4⟩ := floor_v hd hd2 hn hn2
  have r1 := Int.emod_nonneg n.toInt (b := d.toInt) (by omega)
  have r2 := Int.emod_lt_of_pos n.toInt hd
  have u2 : (2 * (n - f * d)).toInt = 2 * (n.toInt % d.toInt) := by
    have e2 : (2 : Int64).toInt = 2 := rfl
    rw [i64_mul (by rw [e2, f4]; omega) (by rw [e2, f4]; omega), e2, f4]
  have b1 : -4611686018427387904 ≤ n.toInt / d.toInt ∧ n.toInt / d.toInt ≤ 4611686018427387904 := by
    have e := Int.emod_add_mul_ediv n.toInt d.toInt
    generalize n.toInt / d.toInt = F at *
    generalize n.toInt % d.toInt = R at *
    by_cases h0 : 0 ≤ F
    · have : 1 * F ≤ d.toInt * F := Int.mul_le_mul_of_nonneg_right (by omega) h0
      omega
    · have : d.toInt * (F + 1) ≤ 1 * (F + 1) := Int.mul_le_mul_of_nonpos_right (by omega) (by omega)
      rw [Int.mul_add] at this
      omega
  have u1 : (f + 1).toInt = n.toInt / d.toInt + 1 := by
    have e2 : (1 : Int64).toInt = 1 := rfl
    rw [i64_add (by rw [e2, f2]; omega) (by rw [e2, f2]; omega), e2, f2]
  have z0 : (0 : Int64).toInt = 0 := rfl
  unfold f_X12_times b_X12_times_88 b_X12_times_95 b_X12_times_131 b_X12_times_138 rnd
  rw [f1, bp_s, nm_t]
  have c0 : ((n - f * d) = 0) ↔ n.toInt % d.toInt = 0 := by rw [i64_eq, f4]; exact Iff.rfl
  have c1 : (d < 2 * (n - f * d)) ↔ d.toInt < 2 * (n.toInt % d.toInt) := by rw [i64_lt, u2]
  have c2 : (2 * (n - f * d) = d) ↔ 2 * (n.toInt % d.toInt) = d.toInt := by rw [i64_eq, u2]
  have c3 : (n ≤ 0) ↔ n.toInt ≤ 0 := by rw [i64_le, z0]
  have c4 : (f - f / 2 * 2 = 0) ↔ (n.toInt / d.toInt) % 2 = 0 := by rw [par_v, f2]
  have cm : ∀ k : Int32, (m = k) ↔ m.toInt = k.toInt := fun k => i32_eq
  simp only [c0, c1, c2, c3, c4, cm, Int32.reduceToInt]
  rw [ck_t (show ¬ (2 : Int64) = 0 by decide)]
  generalize n.toInt / d.toInt = F at *
  generalize n.toInt % d.toInt = R at *
  by_cases q0 : R = 0
  · rw [if_pos q0, if_pos q0]; exact ⟨_, rfl, f2⟩
  · rw [if_neg q0, if_neg q0]
    by_cases m0 : m.toInt = 0
    · rw [if_pos m0, if_pos m0]
      by_cases p1 : d.toInt < 2 * R
      · rw [if_pos p1, if_pos (Or.inl p1)]; exact ⟨_, rfl, u1⟩
      · rw [if_neg p1]
        by_cases p2 : 2 * R = d.toInt
        · rw [if_pos p2]
          by_cases p3 : n.toInt ≤ 0
          · rw [if_pos p3, if_neg (by omega)]; exact ⟨_, rfl, f2⟩
          · rw [if_neg p3, if_pos (by omega)]; exact ⟨_, rfl, u1⟩
        · rw [if_neg p2, if_neg (by omega)]; exact ⟨_, rfl, f2⟩
    · rw [if_neg m0, if_neg m0]
      by_cases m1 : m.toInt = 1
      · rw [if_pos m1, if_pos m1]
        by_cases p1 : d.toInt < 2 * R
        · rw [if_pos p1, if_pos (Or.inl p1)]; exact ⟨_, rfl, u1⟩
        · rw [if_neg p1]
          by_cases p2 : 2 * R = d.toInt
          · rw [if_pos p2]
            by_cases p3 : F % 2 = 0
            · rw [if_pos p3, if_neg (by omega)]; exact ⟨_, rfl, f2⟩
            · rw [if_neg p3, if_pos (by omega)]; exact ⟨_, rfl, u1⟩
          · rw [if_neg p2, if_neg (by omega)]; exact ⟨_, rfl, f2⟩
      · rw [if_neg m1, if_neg m1]
        by_cases m2 : m.toInt = 2
        · rw [if_pos m2, if_pos m2]
          by_cases p3 : n.toInt ≤ 0
          · rw [if_pos p3, if_neg (by omega)]; exact ⟨_, rfl, u1⟩
          · rw [if_neg p3, if_pos (by omega)]; exact ⟨_, rfl, f2⟩
        · rw [if_neg m2, if_neg m2]
          by_cases m3 : m.toInt = 3
          · rw [if_pos m3, if_pos m3]
            by_cases p3 : n.toInt ≤ 0
            · rw [if_pos p3, if_neg (by omega)]; exact ⟨_, rfl, f2⟩
            · rw [if_neg p3, if_pos (by omega)]; exact ⟨_, rfl, u1⟩
          · rw [if_neg m3, if_neg m3]
            by_cases m4 : m.toInt = 4
            · rw [if_pos m4, if_pos m4]; exact ⟨_, rfl, f2⟩
            · rw [if_neg m4, if_neg m4]; exact ⟨_, rfl, u1⟩
/-- the component's rounding -/
theorem rounding_v {n l k : Int64} {m : Int32} (hl : 1 ≤ l.toInt) (hk : 1 ≤ k.toInt) (hd2 : l.toInt * k.toInt ≤ 4611686018427387903) (hn : -4611686018427387904 ≤ n.toInt) (hn2 : n.toInt ≤ 4611686018427387904) (hm : 0 ≤ m.toInt ∧ m.toInt ≤ 5) : ∃ x, f_X3_rounding n l k m = some x ∧ x.toInt = rnd n.toInt (l.toInt * k.toInt) m.toInt * k.toInt := by
  have hp : k.toInt ≤ l.toInt * k.toInt := by
    have : 1 * k.toInt ≤ l.toInt * k.toInt := Int.mul_le_mul_of_nonneg_right hl (by omega)
    omega
  have ed : (l * k).toInt = l.toInt * k.toInt := i64_mul (by omega) (by omega)
  unfold f_X3_rounding
  rw [nm_t]
  generalize hD : l * k = d at *
  rw [← ed] at hd2 hp ⊢
  have hd : 0 < d.toInt := by omega
  obtain ⟨Q, R, a1, a2, a3, -, a5, a6, a7, a8, a9, a10, a11⟩ := dm_v (n := n) (d := d) hd (by omega)
  have hz : ¬ d = 0 := by rw [i64_eq]; simp only [Int64.reduceToInt]; omega
  rw [if_pos (by rw [i64_lt]; simp only [Int64.reduceToInt]; omega), ck_t hz, nm_t, nm_t]
  -- the rest of the function, from below and rest
  have go : ∀ (b r : Int64), b.toInt = n.toInt / d.toInt → r.toInt = n.toInt % d.toInt → ∃ x, b_X3_rounding_47 n k m d b r = some x ∧ x.toInt = rnd n.toInt d.toInt m.toInt * k.toInt := by
    intro b r hb hr
    have r1 := Int.emod_nonneg n.toInt (b := d.toInt) (by omega)
    have r2 := Int.emod_lt_of_pos n.toInt hd
    have u2 : (2 * r).toInt = 2 * (n.toInt % d.toInt) := by
      have e2 : (2 : Int64).toInt = 2 := rfl
      rw [i64_mul (by rw [e2, hr]; omega) (by rw [e2, hr]; omega), e2, hr]
    have bF : -4611686018427387904 ≤ n.toInt / d.toInt ∧ n.toInt / d.toInt ≤ 4611686018427387904 ∧ -9223372036854775808 ≤ n.toInt / d.toInt * k.toInt ∧ n.toInt / d.toInt * k.toInt ≤ 4611686018427387904 := by
      have e := Int.emod_add_mul_ediv n.toInt d.toInt
      generalize n.toInt / d.toInt = F at *
      generalize n.toInt % d.toInt = R at *
      by_cases h0 : 0 ≤ F
      · have h1 : 1 * F ≤ d.toInt * F := Int.mul_le_mul_of_nonneg_right (by omega) h0
        have h2 : k.toInt * F ≤ d.toInt * F := Int.mul_le_mul_of_nonneg_right hp h0
        have h3 : 0 ≤ k.toInt * F := Int.mul_nonneg (by omega) h0
        rw [Int.mul_comm F k.toInt]
        omega
      · have h1 : d.toInt * (F + 1) ≤ 1 * (F + 1) := Int.mul_le_mul_of_nonpos_right (by omega) (by omega)
        have h2 : d.toInt * (F + 1) ≤ k.toInt * (F + 1) := Int.mul_le_mul_of_nonpos_right hp (by omega)
        have h3 : k.toInt * F ≤ k.toInt * 0 := Int.mul_le_mul_of_nonneg_left (by omega) (by omega)
        rw [Int.mul_add] at h1 h2
        rw [Int.mul_add] at h2
        rw [Int.mul_comm F k.toInt]
        omega
    have u1 : (b + 1).toInt = n.toInt / d.toInt + 1 := by
      have e2 : (1 : Int64).toInt = 1 := rfl
      rw [i64_add (by rw [e2, hb]; omega) (by rw [e2, hb]; omega), e2, hb]
    have w1 : (b * k).toInt = n.toInt / d.toInt * k.toInt := by rw [i64_mul (by rw [hb]; omega) (by rw [hb]; omega), hb]
    have w2 : ((b + 1) * k).toInt = (n.toInt / d.toInt + 1) * k.toInt := by
      have e : (n.toInt / d.toInt + 1) * k.toInt = n.toInt / d.toInt * k.toInt + k.toInt := by rw [Int.add_mul, Int.one_mul]
      rw [i64_mul (by rw [u1, e]; omega) (by rw [u1, e]; omega), u1]
    have z0 : (0 : Int64).toInt = 0 := rfl
    unfold b_X3_rounding_47 b_X3_rounding_95 b_X3_rounding_100 b_X3_rounding_122 b_X3_rounding_138 b_X3_rounding_149 b_X3_rounding_171 b_X3_rounding_187 b_X3_rounding_189 rnd
    have c0 : (r = 0) ↔ n.toInt % d.toInt = 0 := by rw [i64_eq, hr]; exact Iff.rfl
    have c1 : (2 * r ≤ d) ↔ 2 * (n.toInt % d.toInt) ≤ d.toInt := by rw [i64_le, u2]
    have c2 : (2 * r = d) ↔ 2 * (n.toInt % d.toInt) = d.toInt := by rw [i64_eq, u2]
    have c3 : (n ≤ 0) ↔ n.toInt ≤ 0 := by rw [i64_le, z0]
    have c5 : (0 ≤ n) ↔ 0 ≤ n.toInt := by rw [i64_le, z0]
    have c4 : (b - b / 2 * 2 = 0) ↔ (n.toInt / d.toInt) % 2 = 0 := by rw [par_v, hb]
    have cm : ∀ k : Int32, (m = k) ↔ m.toInt = k.toInt := fun k => i32_eq
    have c6 : ((1 : Int32) < m) ↔ 1 < m.toInt := by rw [i32_lt]; exact Iff.rfl
    have one : ¬ (1 : Int32) = 0 := by decide
    simp only [c0, c1, c2, c3, c4, c5, c6, cm, Int32.reduceToInt, if_true, if_neg one]
    rw [ck_t (show ¬ (2 : Int64) = 0 by decide)]
    have nz : n.toInt = 0 → n.toInt % d.toInt = 0 := fun h => by rw [h]; exact Int.zero_emod _
    generalize n.toInt / d.toInt = F at *
    generalize n.toInt % d.toInt = R at *
    by_cases q0 : R = 0
    · rw [if_pos q0, if_pos q0]; exact ⟨_, rfl, w1⟩
    · rw [if_neg q0, if_neg q0]
      have sg : n.toInt < 0 ∨ 0 < n.toInt := by
        rcases Int.lt_trichotomy n.toInt 0 with h | h | h
        · exact Or.inl h
        · exact absurd (nz h) q0
        · exact Or.inr h
      clear a10 a11 c0 c1 c2 c3 c4 c5 c6 cm nz
      rcases (by omega : m.toInt = 0 ∨ m.toInt = 1 ∨ m.toInt = 2 ∨ m.toInt = 3 ∨ m.toInt = 4 ∨ m.toInt = 5) with h | h | h | h | h | h
      all_goals rcases (by omega : 2 * R < d.toInt ∨ 2 * R = d.toInt ∨ d.toInt < 2 * R) with p | p | p
      all_goals rcases sg with s | s
      all_goals rcases (by omega : F % 2 = 0 ∨ F % 2 = 1) with e | e
      all_goals
        simp (disch := omega) only [if_pos, if_neg]
        first | exact ⟨_, rfl, w1⟩ | exact ⟨_, rfl, w2⟩
  by_cases q : 0 ≤ R
  · obtain ⟨b1, b2⟩ := a10 q
    rw [if_pos (by rw [i64_le, a3]; exact q)]
    exact go _ _ (by rw [a1, b1]) (by rw [a3, b2])
  · obtain ⟨b1, b2⟩ := a11 (by omega)
    rw [if_neg (by rw [i64_le, a3]; exact q), nm_t, nm_t]
    refine go _ _ ?_ ?_
    · have hQ : -4611686018427387904 ≤ Q := by
        by_cases h0 : 0 ≤ Q
        · omega
        · have : d.toInt * Q ≤ 1 * Q := Int.mul_le_mul_of_nonpos_right (by omega) (by omega)
          omega
      have := i64_hi (n / d)
      rw [i64_sub (by simp only [Int64.reduceToInt]; omega) (by simp only [Int64.reduceToInt]; omega), a1, b1]
      rfl
    · rw [i64_add (by omega) (by omega), a3, b2]
theorem s_rounded (a1 : Int64) (a2 a3 a4 : Int32) {c : Nat} {τ σ : Sg} (h : Rl c τ σ) : ∃ x v τ' σ', c_X11_rounded a1 a2 a3 a4 τ = some (x, τ') ∧ c_X12_rounded a1 a2 a3 a4 σ = some (v, σ') ∧ RX x v (gI σ' 130 0) ∧ Rl (c + 1) τ' σ' := by
  have fl : d_X12_rounded_51 a1 a2 a3 a4 σ = some (0, pI σ 130 0 1) := rfl
  unfold c_X11_rounded c_X12_rounded d_X11_rounded_24 d_X11_rounded_58
  rw [fl]
  simp only [v_in, v_isMode, bp_s, ite10, i32_lt, i32_le, i64_lt, Int32.reduceToInt, Int64.reduceToInt]
  have bad : ∃ x v τ' σ', some ((.inr nIA : Int64 ⊕ String), nw τ 19 6) = some (x, τ') ∧ some ((0 : Int64), pI σ 130 0 1) = some (v, σ') ∧ RX x v (gI σ' 130 0) ∧ Rl (c + 1) τ' σ' := ⟨_, _, _, _, rfl, rfl, Or.inr (Or.inl ⟨rfl, rfl⟩), Rl_thr (Rl_nw h) 1⟩
  by_cases q1 : 1 ≤ a2.toInt ∧ a2.toInt ≤ 1000000
  · rw [if_pos q1, if_neg (by omega), if_neg (by omega)]
    by_cases q2 : 1 ≤ a3.toInt ∧ a3.toInt ≤ 1000000
    · rw [if_pos q2, if_neg (by omega), if_pos (by omega)]
      by_cases q3 : 1000000000000 < a1.toInt
      · rw [if_pos q3, if_neg (by omega), if_pos q3]; exact bad
      · rw [if_neg q3]
        by_cases q4 : a1.toInt < -1000000000000
        · rw [if_pos q4, if_pos q4]; exact bad
        · rw [if_neg q4, if_neg q4, if_neg q3]
          by_cases q5 : 0 ≤ a4.toInt ∧ a4.toInt ≤ 5
          · rw [if_pos q5, if_pos q5]
            have e2 := i64_of32 a2
            have e3 := i64_of32 a3
            have hp : a2.toInt64.toInt * a3.toInt64.toInt ≤ 1000000 * 1000000 := by
              rw [e2, e3]
              exact Int.mul_le_mul q1.2 q2.2 (by omega) (by decide)
            have hp0 : 1 * 1 ≤ a2.toInt64.toInt * a3.toInt64.toInt := by
              rw [e2, e3]
              exact Int.mul_le_mul q1.1 q2.1 (by decide) (by omega)
            have ep : (a2.toInt64 * a3.toInt64).toInt = a2.toInt64.toInt * a3.toInt64.toInt := i64_mul (by omega) (by omega)
            obtain ⟨x, x1, x2⟩ := rounding_v (n := a1) (l := a2.toInt64) (k := a3.toInt64) (m := a4) (by omega) (by omega) (by omega) (by omega) (by omega) q5
            obtain ⟨y, y1, y2⟩ := times_v (n := a1) (d := a2.toInt64 * a3.toInt64) (m := a4) (by omega) (by omega) (by omega) (by omega) q5
            unfold d_X12_rounded_52
            rw [x1, y1, bp_s, ref_t, bd_s, if_pos rfl, bp_s]
            refine ⟨_, _, _, _, rfl, rfl, Or.inl ⟨?_, rfl⟩, Rl_thr h 0⟩
            congr 1
            rw [i64_eq]
            have hx := i64_lo x
            have hx2 := i64_hi x
            rw [ep] at y2
            rw [← y2, Int.mul_comm] at x2
            rw [i64_mul (by omega) (by omega), x2]
          · rw [if_neg q5, if_neg q5]; exact bad
    · rw [if_neg q2]
      by_cases q3 : a3.toInt < 1
      · rw [if_pos q3]; exact bad
      · rw [if_neg q3, if_neg (by omega)]; exact bad
  · rw [if_neg q1]
    by_cases q3 : a2.toInt < 1
    · rw [if_pos q3]; exact bad
    · rw [if_neg q3, if_pos (by omega)]; exact bad
