section RNDF
variable {a b c x y z v2 : UInt64}
theorem V_zm (h : Jvm.FP.Core.DFin a) : (V a).natAbs = Jvm.FP.Core.zmag Jvm.FP.Core.b64 (Jvm.FP.Core.val64 a) := Jvm.FP.Core.natAbs_signed _ _
/-- dividing by one or more makes nothing larger -/
theorem div_le (ha : Jvm.FP.Core.DFin a) (hc : Jvm.FP.Core.DFin c) (h : Jvm.FP.Core.one64 ≤ (V c).natAbs) : Jvm.FP.Core.zmag Jvm.FP.Core.b64 (Jvm.FP.Core.val64 (FP.ddiv a c)) ≤ (V a).natAbs := by
  rw [V_zm hc] at h
  rw [V_zm ha]
  obtain ⟨s, m, q, x1⟩ := ha
  obtain ⟨t, d, r, y1⟩ := hc
  have f1 := Jvm.FP.Core.val64_fits a
  have f2 := Jvm.FP.Core.val64_fits c
  rw [x1] at f1
  rw [y1] at f2 h
  have hd0 : d ≠ 0 := by
    rintro rfl
    have h1 : Jvm.FP.Core.zmag Jvm.FP.Core.b64 (.fin t 0 r) = 0 := Nat.zero_mul _
    have := Jvm.FP.Core.one64_pos
    omega
  have hd : Jvm.FP.Core.val64 (FP.ddiv a c) = Jvm.FP.Core.roundRatio Jvm.FP.Core.b64 (s != t) m d (q - r) := by
    show Jvm.FP.Core.val64 (Jvm.FP.Core.ddiv a c) = _
    rw [Jvm.FP.Core.val64_ddiv, x1, y1]
    simp only [Jvm.FP.Core.quotient, if_neg hd0]
  have hx1 := f1.2.1
  have hy1 := f2.2.1
  have qm := Jvm.FP.Core.qmin_b64
  rw [hd, x1]
  refine Jvm.FP.Core.zmag_roundRatio_le Jvm.FP.Core.good_b64 (by omega) f1 (by intro q; cases q) (e0 := 2 * Jvm.FP.Core.b64.qmin - r) (by omega) (by omega) ?_
  have e1 : Jvm.FP.Core.inUnits m (q - r) (2 * Jvm.FP.Core.b64.qmin - r) = Jvm.FP.Core.zmag Jvm.FP.Core.b64 (.fin s m q) * 2 ^ (-Jvm.FP.Core.b64.qmin).toNat := by
    show m * _ = m * _ * _
    rw [Nat.mul_assoc, ← Nat.pow_add]; congr 2; omega
  have e2 : 2 ^ (Jvm.FP.Core.b64.qmin - (2 * Jvm.FP.Core.b64.qmin - r)).toNat * d = Jvm.FP.Core.zmag Jvm.FP.Core.b64 (.fin t d r) := by
    show _ = d * _
    rw [Nat.mul_comm]; congr 2; omega
  rw [e1, Nat.mul_assoc, e2]
  have o : Jvm.FP.Core.one64 = 2 ^ (-Jvm.FP.Core.b64.qmin).toNat := by rw [qm]; rfl
  rw [← o]
  exact Nat.mul_le_mul_left _ h
theorem V_bks (j : Nat) (hb : Jvm.FP.Core.DFin b) (ha : BK (1023 + j) a) (hj : j ≤ 1000) (h : (V b).natAbs ≤ (V a).natAbs) : BK (1023 + j) b := by
  have := BK_V j ha hj
  refine V_bku j hb ?_ ?_ <;> omega
/-- units 1..100 -/
theorem un_bits {k : Int} (h : Jvm.FP.Core.DInt k v2) (h1 : 1 ≤ k) (h2 : k ≤ 100) : 1023 * 2 ^ 52 ≤ v2.toNat % 2 ^ 63 ∧ BK (1023 + 7) v2 ∧ Jvm.FP.Core.one64 ≤ (V v2).natAbs ∧ 0 < V v2 := by
  have fv := int_fin h
  have bk : BK (1023 + 7) v2 := int_bk 7 h (by show (-128 : Int) < k; omega) (by show k < (128 : Int); omega)
  have up := u_pos
  have v := V_int h
  have g : (Jvm.FP.Core.one64 : Int) ≤ V v2 := by
    rw [v]
    have := Int.mul_le_mul_of_nonneg_right h1 (Int.le_of_lt up)
    omega
  refine ⟨?_, bk, by omega, by omega⟩
  refine Nat.le_of_not_lt fun q => ?_
  have b0 : BK (1023 + 0) v2 := q
  have := BK_V 0 b0 (by decide)
  simp only [Nat.pow_zero, Int.natCast_one, Int.one_mul] at this
  omega
theorem quo_rel {k : Int} (h : Zk 1074 a b) (hv : Jvm.FP.Core.DInt k v2) (h1 : 1 ≤ k) (h2 : k ≤ 100) : Zk 1074 (FP.ddiv a v2) (FP.ddiv b v2) := by
  obtain ⟨u1, u2, u3, u4⟩ := un_bits hv h1 h2
  have z := Zk_div (K := 1074) (L := 1023) (by decide) (by decide) h u1 (Nat.lt_of_lt_of_le u2 (by decide))
  have fa := BK_fin z.1 (by decide)
  have fb := BK_fin z.2.1 (by decide)
  refine ⟨V_bks 51 fa h.1 (by decide) ?_, V_bks 51 fb h.2.1 (by decide) ?_, z.2.2⟩
  · rw [V_zm fa]; exact div_le (BK_fin h.1 (by decide)) (int_fin hv) u3
  · rw [V_zm fb]; exact div_le (BK_fin h.2.1 (by decide)) (int_fin hv) u3
theorem flo_le (h : BK 1075 a) : -4503599627370496 ≤ flo (V a) ∧ flo (V a) ≤ 4503599627370496 := by
  have bd := V_bd h
  unfold flo
  have a1 := (Int.le_ediv_iff_mul_le u_pos (a := -4503599627370496) (b := V a)).mpr (by omega)
  have a2 := (Int.ediv_lt_iff_lt_mul u_pos (a := V a) (b := 4503599627370496)).mpr bd.2
  omega
theorem cei_le (h : BK 1075 a) : -4503599627370496 ≤ cei (V a) ∧ cei (V a) ≤ 4503599627370496 := by
  have bd := V_bd h
  unfold cei
  have a1 := (Int.le_ediv_iff_mul_le u_pos (a := -4503599627370496) (b := -V a)).mpr (by omega)
  have a2 := (Int.ediv_lt_iff_lt_mul u_pos (a := -V a) (b := 4503599627370496)).mpr (by omega)
  omega
theorem int_rel {i : Int} (hy : Jvm.FP.Core.DInt i y) (hz : Jvm.FP.Core.DInt i z) (h1 : -4503599627370496 ≤ i) (h2 : i ≤ 4503599627370496) : Zk 1076 y z := by
  refine ⟨int_bk 53 hy ?_ ?_, int_bk 53 hz ?_ ?_, by rw [V_int hy, V_int hz]⟩
  · show (-9007199254740992 : Int) < _; omega
  · show _ < (9007199254740992 : Int); omega
  · show (-9007199254740992 : Int) < _; omega
  · show _ < (9007199254740992 : Int); omega
theorem floor_rel (h : Zk 1075 a b) : ∃ y, f_X2_floor a = some y ∧ Zk 1076 y (Jvm.Free.Hsc.floorOf b) := by
  obtain ⟨y, e, i⟩ := Xfloor_v h.1
  have j := floorOf_v h.2.1
  rw [← h.2.2] at j
  have l := flo_le h.1
  exact ⟨y, e, int_rel i j l.1 l.2⟩
theorem ceil_rel (h : Zk 1075 a b) : ∃ y, f_X2_ceil a = some y ∧ Zk 1076 y (Jvm.Free.Hsc.ceilOf b) := by
  obtain ⟨y, e, i⟩ := Xceil_v h.1
  have j := ceilOf_v h.2.1
  rw [← h.2.2] at j
  have l := cei_le h.1
  exact ⟨y, e, int_rel i j l.1 l.2⟩
theorem hf_bk : BK 1074 4602678819172646912 := by unfold BK; decide
theorem l51 : Jvm.FP.Core.DInt 2251799813685249 (FP.l2d 2251799813685249) := Jvm.FP.Core.l2d_int (a := 2251799813685249) (by decide)
theorem l51n : Jvm.FP.Core.DInt (-2251799813685249) (FP.l2d (-2251799813685249)) := Jvm.FP.Core.l2d_int (a := -2251799813685249) (by decide)
theorem half_bk (h : BK 1074 a) : BK 1075 (FP.dadd a 4602678819172646912) ∧ BK 1075 (FP.dsub a 4602678819172646912) := by
  have fa := BK_fin h (by decide)
  have bd := BK_V 51 h (by decide)
  rw [show (2 ^ 51 : Nat) = 2251799813685248 by decide] at bd
  have hu := hf_u
  have up := u_pos
  have v1 := V_int l51
  have v2 := V_int l51n
  have p1 : BK 1076 (FP.dadd a 4602678819172646912) := Jvm.FP.Core.dadd_mag h hf_bk (by decide)
  have p2 : BK 1076 (FP.dsub a 4602678819172646912) := Jvm.FP.Core.dsub_mag h hf_bk (by decide)
  have a1 := dadd_le fa fin_hf (int_fin l51) (by omega)
  have a2 := dadd_ge fa fin_hf (int_fin l51n) (by omega)
  have a3 := dsub_le fa fin_hf (int_fin l51) (by omega)
  have a4 := dsub_ge fa fin_hf (int_fin l51n) (by omega)
  refine ⟨V_bku 52 (BK_fin p1 (by decide)) ?_ ?_, V_bku 52 (BK_fin p2 (by decide)) ?_ ?_⟩ <;> rw [show (2 ^ 52 : Nat) = 4503599627370496 by decide] <;> omega
theorem half_rel (h : Zk 1074 a b) : Zk 1075 (FP.dadd a 4602678819172646912) (FP.dadd b 4602678819172646912) ∧ Zk 1075 (FP.dsub a 4602678819172646912) (FP.dsub b 4602678819172646912) := by
  have p1 := half_bk h.1
  have p2 := half_bk h.2.1
  exact ⟨⟨p1.1, p2.1, (Zk_add (by decide) h (Zk_refl hf_bk)).2.2⟩, ⟨p1.2, p2.2, (Zk_sub (by decide) h (Zk_refl hf_bk)).2.2⟩⟩
theorem mul_rel {k : Int} (h : Zk 1076 y z) (hv : Jvm.FP.Core.DInt k v2) (h1 : 1 ≤ k) (h2 : k ≤ 100) : n64 (FP.dmul v2 y) ∧ n64 (FP.dmul z v2) ∧ Zk 1084 (FP.dmul v2 y) (FP.dmul z v2) := by
  obtain ⟨u1, u2, u3, u4⟩ := un_bits hv h1 h2
  have m := Zk_mul (Ka := 1030) (Kb := 1076) (by decide) (by decide) (Zk_refl u2) h
  rw [mul_comm64 (a := v2) (b := z)] at m
  exact ⟨BK_n64 m.1 (by decide), BK_n64 m.2.1 (by decide), m⟩
theorem rounding_rel {k : Int} {v4 : Int32} (h : Zk 1074 a b) (hv : Jvm.FP.Core.DInt k v2) (h1 : 1 ≤ k) (h2 : k ≤ 100) : ∃ y z, f_X2_rounding a v2 v4 = some y ∧ f_X12_roundedF b v2 v4 = some z ∧ Zk 1084 y z := by
  have q := quo_rel h hv h1 h2
  obtain ⟨u1, u2, u3, u4⟩ := un_bits hv h1 h2
  have fv := int_fin hv
  have n1 := BK_n64 q.1 (by decide)
  have n2 := BK_n64 q.2.1 (by decide)
  unfold f_X2_rounding f_X12_roundedF
  simp only [nm_t]
  rw [dc0]
  simp only [cl_le fv fin_zz, V_zz]
  rw [if_neg (by omega), ck_t n1, ck_t n2]
  generalize FP.ddiv a v2 = p at *
  generalize FP.ddiv b v2 = r at *
  have fp := BK_fin q.1 (by decide)
  have fr := BK_fin q.2.1 (by decide)
  have hr := half_rel q
  have q5 : Zk 1075 p r := Zk_mono q (by decide)
  unfold b_X2_rounding_13
  rw [dc0]
  by_cases m0 : v4 = 0
  · rw [if_pos m0, if_pos m0]
    simp only [cg_ge fp fin_zz, cg_lt fr fin_zz, V_zz, ← q.2.2]
    by_cases s : 0 ≤ V p
    · rw [if_pos s, if_neg (by omega)]
      obtain ⟨y, e, z⟩ := floor_rel hr.1
      obtain ⟨g1, g2, g3⟩ := mul_rel z hv h1 h2
      rw [ck_t (BK_n64 hr.1.1 (by decide)), ck_t (BK_n64 hr.1.2.1 (by decide)), e, bp_s, ck_t g1]
      unfold b_X12_roundedF_68
      rw [ck_t g2]
      exact ⟨_, _, rfl, rfl, g3⟩
    · rw [if_neg s, if_pos (by omega)]
      obtain ⟨y, e, z⟩ := ceil_rel hr.2
      obtain ⟨g1, g2, g3⟩ := mul_rel z hv h1 h2
      rw [ck_t (BK_n64 hr.2.1 (by decide)), ck_t (BK_n64 hr.2.2.1 (by decide)), e, bp_s, ck_t g1]
      unfold b_X12_roundedF_68
      rw [ck_t g2]
      exact ⟨_, _, rfl, rfl, g3⟩
  · rw [if_neg m0, if_neg m0]
    by_cases m1 : v4 = 1
    · rw [if_pos m1, if_pos m1]
      obtain ⟨y, z, e1, e2, e3⟩ := even_rel (K := 1076) (Zk_mono q (by decide)) (by decide) (by decide)
      obtain ⟨g1, g2, g3⟩ := mul_rel e3 hv h1 h2
      rw [e1, e2, bp_s, bp_s, ck_t g1, ck_t (BK_n64 e3.2.1 (by decide)), ck_t g2]
      exact ⟨_, _, rfl, rfl, g3⟩
    · rw [if_neg m1, if_neg m1]
      obtain ⟨yf, ef, zf⟩ := floor_rel q5
      obtain ⟨f1, f2, f3⟩ := mul_rel zf hv h1 h2
      obtain ⟨yc, ec, zc⟩ := ceil_rel q5
      obtain ⟨g1, g2, g3⟩ := mul_rel zc hv h1 h2
      by_cases m2 : v4 = 2
      · rw [if_pos m2, if_pos m2]
        simp only [cl_le fp fin_zz, cl_le fr fin_zz, V_zz, ← q.2.2]
        by_cases s : V p ≤ 0
        · rw [if_pos s, if_pos s, ec, bp_s, ck_t g1, ck_t n2]
          unfold b_X12_roundedF_103
          rw [ck_t g2]
          exact ⟨_, _, rfl, rfl, g3⟩
        · rw [if_neg s, if_neg s, ef, bp_s, ck_t f1, ck_t n2]
          unfold b_X12_roundedF_103
          rw [ck_t f2]
          exact ⟨_, _, rfl, rfl, f3⟩
      · rw [if_neg m2, if_neg m2]
        by_cases m3 : v4 = 3
        · rw [if_pos m3, if_pos m3]
          simp only [cl_le fp fin_zz, cl_le fr fin_zz, V_zz, ← q.2.2]
          by_cases s : V p ≤ 0
          · rw [if_pos s, if_pos s, ef, bp_s, ck_t f1, ck_t n2]
            unfold b_X12_roundedF_128
            rw [ck_t f2]
            exact ⟨_, _, rfl, rfl, f3⟩
          · rw [if_neg s, if_neg s, ec, bp_s, ck_t g1, ck_t n2]
            unfold b_X12_roundedF_128
            rw [ck_t g2]
            exact ⟨_, _, rfl, rfl, g3⟩
        · rw [if_neg m3, if_neg m3]
          by_cases m4 : v4 = 4
          · rw [if_pos m4, if_pos m4, ef, bp_s, ck_t f1, ck_t n2, ck_t f2]
            exact ⟨_, _, rfl, rfl, f3⟩
          · rw [if_neg m4, if_neg m4, ec, bp_s, ck_t g1, ck_t n2, ck_t g2]
            exact ⟨_, _, rfl, rfl, g3⟩
end RNDF
