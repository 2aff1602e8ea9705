section FOC2
variable {a b : UInt64}
theorem V_bk {K : Nat} (h : Jvm.FP.Core.DFin a) (hK : 1 ≤ K) (h1 : -((2 ^ 52 * 2 ^ (K - 1) : Nat) : Int) < V a) (h2 : V a < ((2 ^ 52 * 2 ^ (K - 1) : Nat) : Int)) : BK K a := by
  have e := V_sm h
  have s := Jvm.FP.Core.unitsOf_start (f := Jvm.FP.Core.b64) hK
  rw [tails64] at s
  have l : Jvm.FP.Core.unitsOf Jvm.FP.Core.b64 (a.toNat % 2 ^ 63) < 2 ^ 52 * 2 ^ (K - 1) := by
    rw [e] at h1 h2
    generalize Jvm.FP.Core.unitsOf Jvm.FP.Core.b64 (a.toNat % 2 ^ 63) = m at *
    generalize 2 ^ 52 * 2 ^ (K - 1) = w at *
    generalize decide (2 ^ 63 ≤ a.toNat) = s at h1 h2
    unfold Jvm.FP.Core.signed at h1 h2
    cases s
    · simp only [Bool.false_eq_true, if_false] at h1 h2; omega
    · simp only [if_true] at h1 h2; omega
  rw [← s] at l
  exact Jvm.FP.Core.unitsOf_lt_iff.mp l
theorem u_pow (j : Nat) : (2 ^ 52 * 2 ^ (1023 + j - 1) : Nat) = 2 ^ j * Jvm.FP.Core.one64 := by
  have o1 : Jvm.FP.Core.one64 = 2 ^ 1074 := rfl
  rw [o1, ← Nat.pow_add, ← Nat.pow_add, show 52 + (1023 + j - 1) = j + 1074 by omega]
theorem V_bku (j : Nat) (h : Jvm.FP.Core.DFin a) (h1 : -(((2 ^ j : Nat) : Int) * (Jvm.FP.Core.one64 : Int)) < V a) (h2 : V a < ((2 ^ j : Nat) : Int) * (Jvm.FP.Core.one64 : Int)) : BK (1023 + j) a := by
  refine V_bk h (by omega) ?_ ?_
  · rw [u_pow, Int.natCast_mul]; exact h1
  · rw [u_pow, Int.natCast_mul]; exact h2
theorem int_bk {i : Int} (j : Nat) (h : Jvm.FP.Core.DInt i a) (h1 : -((2 ^ j : Nat) : Int) < i) (h2 : i < ((2 ^ j : Nat) : Int)) : BK (1023 + j) a := by
  refine V_bku j (int_fin h) ?_ ?_
  · rw [V_int h, ← Int.neg_mul]; exact Int.mul_lt_mul_of_pos_right h1 u_pos
  · rw [V_int h]; exact Int.mul_lt_mul_of_pos_right h2 u_pos
theorem BK_V (j : Nat) (h : BK (1023 + j) b) (hj : j ≤ 1000) : -(((2 ^ j : Nat) : Int) * (Jvm.FP.Core.one64 : Int)) < V b ∧ V b < ((2 ^ j : Nat) : Int) * (Jvm.FP.Core.one64 : Int) := by
  have e := V_sm (BK_fin h (by omega))
  have l := (Jvm.FP.Core.units_lt_start (f := Jvm.FP.Core.b64) (m := b.toNat % 2 ^ 63) (K := 1023 + j) (by rw [tails64]; exact h)).2
  rw [tails64, u_pow] at l
  rw [e, ← Int.natCast_mul]
  generalize Jvm.FP.Core.unitsOf Jvm.FP.Core.b64 (b.toNat % 2 ^ 63) = m at *
  generalize 2 ^ j * Jvm.FP.Core.one64 = u at *
  unfold Jvm.FP.Core.signed
  split <;> omega
theorem fE_lo (h : BK 1075 b) : fE b < 1075 := by
  rw [fE_eq]; unfold BK at h; omega
theorem fE_bk (h : fE b < 1023) : BK (1023 + 0) b := by
  rw [fE_eq] at h; unfold BK; omega
theorem neg_one : (13830554455654793216 : UInt64) = Jvm.FP.Core.dneg 4607182418800017408 := by decide +kernel
theorem dint_none : Jvm.FP.Core.DInt (-1) 13830554455654793216 := by
  rw [neg_one]; exact Jvm.FP.Core.dneg_int Jvm.FP.Core.dint_one
theorem V_zz : V 0 = 0 := by decide +kernel
theorem fin_zz : Jvm.FP.Core.DFin 0 := BK_fin (K := 1) (by unfold BK; decide) (by decide)
theorem dint_zz : Jvm.FP.Core.DInt 0 0 := int_of_V fin_zz (by rw [V_zz, Int.zero_mul])
theorem V_one : V 4607182418800017408 = 1 * (Jvm.FP.Core.one64 : Int) := V_int Jvm.FP.Core.dint_one
theorem V_none : V 13830554455654793216 = -1 * (Jvm.FP.Core.one64 : Int) := V_int dint_none
theorem fin_nn (h : Jvm.FP.Core.DFin a) : Jvm.FP.Core.dIsNaN a = false := h.notNaN
theorem mul_one_V (h : Jvm.FP.Core.DFin a) : FP.dmul 4607182418800017408 a = a := Jvm.FP.Core.one_dmul (fin_nn h)
theorem mul_none_V (h : Jvm.FP.Core.DFin a) : FP.dmul 13830554455654793216 a = Jvm.FP.Core.dneg a := by
  rw [neg_one]
  show Jvm.FP.Core.dmul _ _ = _
  rw [Jvm.FP.Core.dmul_dneg, Jvm.FP.Core.one_dmul (fin_nn h)]
theorem cut_same (h1 : 1023 ≤ fE b) (h2 : fE b < 1075) (h : b.toNat % 2 ^ (1075 - fE b) = 0) : Jvm.Free.Hsc.cutOf b = b := by
  apply UInt64.toNat_inj.mp
  rw [cut_v h1 h2, Nat.div_mul_cancel (Nat.dvd_of_mod_eq_zero h)]
theorem exp_cases (h : BK 1075 b) : (Jvm.Free.Hsc.expOf b < 0 ∧ fE b < 1023) ∨ (¬ Jvm.Free.Hsc.expOf b < 0 ∧ Jvm.Free.Hsc.expOf b < 52 ∧ 1023 ≤ fE b ∧ fE b < 1075) := by
  have e := exp_v (b := b)
  have l := fE_lo h
  rw [Int32.lt_iff_toInt_lt, Int32.lt_iff_toInt_lt, e, show (0 : Int32).toInt = 0 from rfl, show (52 : Int32).toInt = 52 from rfl]
  omega
theorem td_lt {z : Int} (h1 : -(4503599627370496 * (Jvm.FP.Core.one64 : Int)) < z) (h2 : z < 4503599627370496 * (Jvm.FP.Core.one64 : Int)) : -4503599627370496 < z.tdiv (Jvm.FP.Core.one64 : Int) ∧ z.tdiv (Jvm.FP.Core.one64 : Int) < 4503599627370496 := by
  rcases Int.le_total 0 z with h | h
  · have a := td_nn h
    constructor
    · exact Int.lt_of_mul_lt_mul_right (by rw [Int.neg_mul]; omega) (Int.le_of_lt u_pos)
    · exact Int.lt_of_mul_lt_mul_right (Int.lt_of_le_of_lt a.1 h2) (Int.le_of_lt u_pos)
  · have a := td_np h
    constructor
    · exact Int.lt_of_mul_lt_mul_right (by rw [Int.neg_mul]; omega) (Int.le_of_lt u_pos)
    · exact Int.lt_of_mul_lt_mul_right (by have := u_pos; omega) (Int.le_of_lt u_pos)
theorem cmul_r {u x y : Int} (h : x = y) : x * u = y * u := by rw [h]
theorem flo_cases {z : Int} : (0 ≤ z → flo z = z.tdiv (Jvm.FP.Core.one64 : Int)) ∧ (z < 0 → z.tdiv (Jvm.FP.Core.one64 : Int) * (Jvm.FP.Core.one64 : Int) = z → flo z = z.tdiv (Jvm.FP.Core.one64 : Int)) ∧ (z < 0 → z.tdiv (Jvm.FP.Core.one64 : Int) * (Jvm.FP.Core.one64 : Int) ≠ z → flo z = z.tdiv (Jvm.FP.Core.one64 : Int) - 1) := by
  have up := u_pos
  refine ⟨fun h => ?_, fun h e => ?_, fun h e => ?_⟩
  · have a := td_nn h
    exact flo_eq a.1 a.2
  · exact flo_eq (by omega) (by omega)
  · have a := td_np (z := z) (by omega)
    exact flo_eq (by rw [Int.sub_mul, Int.one_mul]; omega) (by rw [Int.sub_mul, Int.one_mul]; omega)
theorem cei_cases {z : Int} : (z ≤ 0 → cei z = z.tdiv (Jvm.FP.Core.one64 : Int)) ∧ (0 < z → z.tdiv (Jvm.FP.Core.one64 : Int) * (Jvm.FP.Core.one64 : Int) = z → cei z = z.tdiv (Jvm.FP.Core.one64 : Int)) ∧ (0 < z → z.tdiv (Jvm.FP.Core.one64 : Int) * (Jvm.FP.Core.one64 : Int) ≠ z → cei z = z.tdiv (Jvm.FP.Core.one64 : Int) + 1) := by
  have up := u_pos
  refine ⟨fun h => ?_, fun h e => ?_, fun h e => ?_⟩
  · have a := td_np h
    exact cei_eq a.1 a.2
  · exact cei_eq (by omega) (by omega)
  · have a := td_nn (z := z) (by omega)
    exact cei_eq (by rw [Int.add_mul, Int.one_mul]; omega) (by rw [Int.add_mul, Int.one_mul]; omega)
theorem floorOf_v (h : BK 1075 b) : Jvm.FP.Core.DInt (flo (V b)) (Jvm.Free.Hsc.floorOf b) := by
  have fb := BK_fin h (by decide)
  have up := u_pos
  unfold Jvm.Free.Hsc.floorOf Jvm.Free.Hsc.focOf
  rcases exp_cases h with ⟨h1, h2⟩ | ⟨h1, h2, h3, h4⟩
  · rw [if_pos h1]
    simp only [cl_eq fb fin_zz, cg_lt fb fin_zz, V_zz]
    have bd := BK_V 0 (fE_bk h2) (by decide)
    simp only [Nat.pow_zero, Int.natCast_one, Int.one_mul] at bd
    by_cases z : V b = 0
    · rw [if_pos z, z, flo_eq (z := 0) (i := 0) (by omega) (by omega)]
      exact int_of_V fb (by rw [z, Int.zero_mul])
    · rw [if_neg z]
      by_cases y : V b < 0
      · rw [if_pos y, flo_eq (z := V b) (i := -1) (by omega) (by omega)]
        exact dint_none
      · rw [if_neg y, flo_eq (z := V b) (i := 0) (by omega) (by omega)]
        exact dint_zz
  · rw [if_neg h1, if_neg (show ¬ ¬ Jvm.Free.Hsc.expOf b < 52 from fun q => q h2)]
    obtain ⟨c1, c2, c3⟩ := cut_V h3 h4
    obtain ⟨f1, f2, f3⟩ := flo_cases (z := V b)
    by_cases z : b.toNat % 2 ^ (1075 - fE b) = 0
    · rw [if_pos ((maskz_v h3 h4).mpr z)]
      rw [cut_same h3 h4 z] at c2
      have e : flo (V b) = (V b).tdiv (Jvm.FP.Core.one64 : Int) := by
        by_cases y : 0 ≤ V b
        · exact f1 y
        · exact f2 (by omega) c2.symm
      rw [e]
      exact int_of_V fb c2
    · rw [if_neg (fun q => z ((maskz_v h3 h4).mp q))]
      have c4 := c3 z
      rw [mul_none_V fb]
      simp only [cl_le (fin_cneg fb) fin_zz, V_cneg, V_zz]
      have cf := BK_fin c1 (by decide)
      have ci : Jvm.FP.Core.DInt _ _ := int_of_V cf c2
      by_cases y : 0 ≤ V b
      · rw [if_pos (by omega), f1 y]; exact ci
      · rw [if_neg (by omega), f3 (by omega) (by rw [← c2]; exact c4)]
        have bd := V_bd h
        have bt := td_lt bd.1 bd.2
        exact Jvm.FP.Core.dadd_int ci dint_none (by omega)
theorem ceilOf_v (h : BK 1075 b) : Jvm.FP.Core.DInt (cei (V b)) (Jvm.Free.Hsc.ceilOf b) := by
  have fb := BK_fin h (by decide)
  have up := u_pos
  unfold Jvm.Free.Hsc.ceilOf Jvm.Free.Hsc.focOf
  rcases exp_cases h with ⟨h1, h2⟩ | ⟨h1, h2, h3, h4⟩
  · rw [if_pos h1]
    simp only [cl_eq fb fin_zz, cg_lt fb fin_zz, V_zz]
    have bd := BK_V 0 (fE_bk h2) (by decide)
    simp only [Nat.pow_zero, Int.natCast_one, Int.one_mul] at bd
    by_cases z : V b = 0
    · rw [if_pos z, z, cei_eq (z := 0) (i := 0) (by omega) (by omega)]
      exact int_of_V fb (by rw [z, Int.zero_mul])
    · rw [if_neg z]
      by_cases y : V b < 0
      · rw [if_pos y, cei_eq (z := V b) (i := 0) (by omega) (by omega)]
        exact int_of_V (BK_fin (K := 1) (by unfold BK; decide) (by decide)) (by rw [Int.zero_mul]; decide +kernel)
      · rw [if_neg y, cei_eq (z := V b) (i := 1) (by omega) (by omega)]
        exact Jvm.FP.Core.dint_one
  · rw [if_neg h1, if_neg (show ¬ ¬ Jvm.Free.Hsc.expOf b < 52 from fun q => q h2)]
    obtain ⟨c1, c2, c3⟩ := cut_V h3 h4
    obtain ⟨f1, f2, f3⟩ := cei_cases (z := V b)
    by_cases z : b.toNat % 2 ^ (1075 - fE b) = 0
    · rw [if_pos ((maskz_v h3 h4).mpr z)]
      rw [cut_same h3 h4 z] at c2
      have e : cei (V b) = (V b).tdiv (Jvm.FP.Core.one64 : Int) := by
        by_cases y : V b ≤ 0
        · exact f1 y
        · exact f2 (by omega) c2.symm
      rw [e]
      exact int_of_V fb c2
    · rw [if_neg (fun q => z ((maskz_v h3 h4).mp q))]
      have c4 := c3 z
      rw [mul_one_V fb]
      simp only [cl_le fb fin_zz, V_zz]
      have cf := BK_fin c1 (by decide)
      have ci : Jvm.FP.Core.DInt _ _ := int_of_V cf c2
      by_cases y : V b ≤ 0
      · rw [if_pos y, f1 y]; exact ci
      · rw [if_neg y, f3 (by omega) (by rw [← c2]; exact c4)]
        have bd := V_bd h
        have bt := td_lt bd.1 bd.2
        exact Jvm.FP.Core.dadd_int ci Jvm.FP.Core.dint_one (by omega)
/-- the component's own floor and ceil -/
theorem d2l_in (h : BK 1075 b) : (FP.d2l b).toInt = (V b).tdiv (Jvm.FP.Core.one64 : Int) ∧ -4503599627370496 < (V b).tdiv (Jvm.FP.Core.one64 : Int) ∧ (V b).tdiv (Jvm.FP.Core.one64 : Int) < 4503599627370496 := by
  have e := d2l_V (BK_fin h (by decide))
  have bd := V_bd h
  have bt := td_lt bd.1 bd.2
  refine ⟨?_, bt⟩
  rw [e]; omega
theorem l2d_in (h : BK 1075 b) : Jvm.FP.Core.DInt ((V b).tdiv (Jvm.FP.Core.one64 : Int)) (FP.l2d (FP.d2l b)) := by
  obtain ⟨e, b1, b2⟩ := d2l_in h
  have := Jvm.FP.Core.l2d_int (a := FP.d2l b) (by rw [e]; omega)
  rw [e] at this
  exact this
theorem Xfloor_v (h : BK 1075 b) : ∃ y, f_X2_floor b = some y ∧ Jvm.FP.Core.DInt (flo (V b)) y := by
  have fb := BK_fin h (by decide)
  have l := l2d_in h
  have bt := (d2l_in h).2
  obtain ⟨f1, f2, f3⟩ := flo_cases (z := V b)
  unfold f_X2_floor nm
  simp only [cl_le (int_fin l) fb, V_int l]
  by_cases y : 0 ≤ V b
  · refine ⟨_, if_pos (td_nn y).1, ?_⟩
    rw [f1 y]; exact l
  · by_cases z : (V b).tdiv (Jvm.FP.Core.one64 : Int) * (Jvm.FP.Core.one64 : Int) = V b
    · refine ⟨_, if_pos (by omega), ?_⟩
      rw [f2 (by omega) z]; exact l
    · have n1 := td_np (z := V b) (by omega)
      have d : Jvm.FP.Core.DInt ((V b).tdiv (Jvm.FP.Core.one64 : Int) - 1) (FP.dsub (FP.l2d (FP.d2l b)) FP.dconst1) := Jvm.FP.Core.dsub_int l Jvm.FP.Core.dint_one (by omega)
      refine ⟨FP.dsub (FP.l2d (FP.d2l b)) FP.dconst1, ?_, by rw [f3 (by omega) z]; exact d⟩
      rw [if_neg (by omega), ck, if_pos (fin_n64 (int_fin d))]
theorem Xceil_v (h : BK 1075 b) : ∃ y, f_X2_ceil b = some y ∧ Jvm.FP.Core.DInt (cei (V b)) y := by
  have fb := BK_fin h (by decide)
  have l := l2d_in h
  have bt := (d2l_in h).2
  obtain ⟨f1, f2, f3⟩ := cei_cases (z := V b)
  unfold f_X2_ceil nm
  simp only [cg_ge (int_fin l) fb, V_int l]
  by_cases y : V b ≤ 0
  · refine ⟨_, if_pos (td_np y).1, ?_⟩
    rw [f1 y]; exact l
  · by_cases z : (V b).tdiv (Jvm.FP.Core.one64 : Int) * (Jvm.FP.Core.one64 : Int) = V b
    · refine ⟨_, if_pos (by omega), ?_⟩
      rw [f2 (by omega) z]; exact l
    · have n1 := td_nn (z := V b) (by omega)
      have d : Jvm.FP.Core.DInt ((V b).tdiv (Jvm.FP.Core.one64 : Int) + 1) (FP.dadd (FP.l2d (FP.d2l b)) FP.dconst1) := Jvm.FP.Core.dadd_int l Jvm.FP.Core.dint_one (by omega)
      refine ⟨FP.dadd (FP.l2d (FP.d2l b)) FP.dconst1, ?_, by rw [f3 (by omega) z]; exact d⟩
      rw [if_neg (by omega), ck, if_pos (fin_n64 (int_fin d))]
end FOC2
