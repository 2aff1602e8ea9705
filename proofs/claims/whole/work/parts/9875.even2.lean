section EVEN2
variable {a b c x s : UInt64}
theorem dc0 : FP.dconst0 = 0 := by decide
theorem dc1 : FP.dconst1 = 4607182418800017408 := by decide
theorem even_tie {t : Int64} (h0 : 0 ≤ t.toInt) (h1 : t.toInt < 4503599627370496) : (t - t / (2 : Int64) * (2 : Int64) = (0 : Int64)) ↔ t.toInt % 2 = 0 := by
  have e1 : (t / (2 : Int64)).toInt = t.toInt / 2 := by
    rw [i64_div (by omega), show (2 : Int64).toInt = 2 from rfl, Int.tdiv_eq_ediv_of_nonneg h0]
  have e2 : (t / (2 : Int64) * (2 : Int64)).toInt = t.toInt / 2 * 2 := by
    rw [i64_mul (by rw [e1, show (2 : Int64).toInt = 2 from rfl]; omega) (by rw [e1, show (2 : Int64).toInt = 2 from rfl]; omega), e1, show (2 : Int64).toInt = 2 from rfl]
  have e3 : (t - t / (2 : Int64) * (2 : Int64)).toInt = t.toInt - t.toInt / 2 * 2 := by
    rw [i64_sub (by rw [e2]; omega) (by rw [e2]; omega), e2]
  rw [i64_eq, e3, show (0 : Int64).toInt = 0 from rfl]
  omega
theorem n2z : ¬ (2 : Int64) = 0 := by decide
theorem e30 {m : Nat} (h : BK 1075 s) (hm : V s = (m : Int)) : ∃ w : Int64, w.toInt = (rne m : Int) ∧ b_X2_even_30 x s = b_X2_even_77 x w := by
  have fs := BK_fin h (by decide)
  have l := l2d_in h
  obtain ⟨dt, b1, b2⟩ := d2l_in h
  have h0 : 0 ≤ V s := by omega
  rw [Int.tdiv_eq_ediv_of_nonneg h0] at l dt b1 b2
  have fc := frac_cmp h h0 l
  have bl : BK (1023 + 52) (FP.l2d (FP.d2l s)) := int_bk 52 l b1 b2
  have bs : BK 1077 (FP.dsub s (FP.l2d (FP.d2l s))) := Jvm.FP.Core.dsub_mag (K := 1075) h bl (by decide)
  have fd := BK_fin bs (by decide)
  have q1 : V s / (Jvm.FP.Core.one64 : Int) = ((m / Jvm.FP.Core.one64 : Nat) : Int) := by rw [hm]; rfl
  have q2 : V s % (Jvm.FP.Core.one64 : Int) = ((m % Jvm.FP.Core.one64 : Nat) : Int) := by rw [hm]; rfl
  rw [q1] at dt b1 b2
  rw [q2] at fc
  unfold b_X2_even_30
  simp only [nm_t]
  rw [ck_t (BK_n64 bs (by decide))]
  simp only [cl_gt fd fin_hf, cl_eq fd fin_hf]
  unfold rne Jvm.FP.Core.nearest
  generalize m / Jvm.FP.Core.one64 = d at *
  generalize m % Jvm.FP.Core.one64 = r at *
  generalize Jvm.FP.Core.one64 = u at *
  by_cases c1 : 2 * r < u
  · have := fc.2.2 (by omega)
    rw [if_pos c1, if_neg (show ¬ V 4602678819172646912 < V (FP.dsub s (FP.l2d (FP.d2l s))) by omega), if_neg (show ¬ V (FP.dsub s (FP.l2d (FP.d2l s))) = V 4602678819172646912 by omega)]
    exact ⟨_, dt, rfl⟩
  · by_cases c2 : u < 2 * r
    · have := fc.1 (by omega)
      rw [if_pos this, if_neg c1, if_pos c2]
      refine ⟨FP.d2l s + 1, ?_, rfl⟩
      rw [i64_add (by rw [show (1 : Int64).toInt = 1 from rfl]; omega) (by rw [show (1 : Int64).toInt = 1 from rfl]; omega), dt, show (1 : Int64).toInt = 1 from rfl]
      omega
    · have := fc.2.1 (by omega)
      rw [if_neg c1, if_neg c2, if_neg (show ¬ V 4602678819172646912 < V (FP.dsub s (FP.l2d (FP.d2l s))) by omega), if_pos this, ck_t n2z]
      have te := even_tie (t := FP.d2l s) (by omega) (by omega)
      by_cases p : (FP.d2l s).toInt % 2 = 0
      · rw [if_pos (te.mpr p)]
        refine ⟨_, ?_, rfl⟩
        omega
      · rw [if_neg (fun q => p (te.mp q))]
        refine ⟨FP.d2l s + 1, ?_, rfl⟩
        rw [i64_add (by rw [show (1 : Int64).toInt = 1 from rfl]; omega) (by rw [show (1 : Int64).toInt = 1 from rfl]; omega), dt, show (1 : Int64).toInt = 1 from rfl]
        omega
theorem rne_le {m : Nat} (h : m < 4503599627370496 * Jvm.FP.Core.one64) : rne m ≤ 4503599627370496 := near_le h
theorem Bg_bk (h : Jvm.FP.Core.DFin x) (hb : ¬ Bg (V x)) : BK 1075 x := by
  unfold Bg at hb
  refine V_bku 52 h ?_ ?_
  · show -((4503599627370496 : Int) * _) < _; omega
  · show _ < (4503599627370496 : Int) * _; omega
theorem Xeven_v {K : Nat} (h : BK K x) (hK : K ≤ 2000) : ∃ y, f_X2_even x = some y ∧ (Bg (V x) → y = x) ∧ (¬ Bg (V x) → Jvm.FP.Core.DInt (evn (V x)) y) := by
  have fx := BK_fin h (by omega)
  have v1 := V_int d_52
  have v2 := V_int d_n52
  have up := u_pos
  unfold f_X2_even
  rw [dc0]
  simp only [cl_ge fx (int_fin d_52), cg_gt fx (int_fin d_n52), cg_ge fx fin_zz, v1, v2, V_zz]
  by_cases g1 : 4503599627370496 * (Jvm.FP.Core.one64 : Int) ≤ V x
  · rw [if_pos g1]
    exact ⟨x, rfl, fun _ => rfl, fun q => absurd (Or.inr g1) q⟩
  · rw [if_neg g1]
    by_cases g2 : -4503599627370496 * (Jvm.FP.Core.one64 : Int) < V x
    · rw [if_pos g2]
      have nb : ¬ Bg (V x) := by unfold Bg; omega
      have bx := Bg_bk fx nb
      by_cases g3 : 0 ≤ V x
      · rw [if_pos g3]
        obtain ⟨m, hm⟩ : ∃ m : Nat, V x = (m : Int) := ⟨(V x).toNat, by omega⟩
        have ml : m < 4503599627370496 * Jvm.FP.Core.one64 := by omega
        obtain ⟨w, hw, e⟩ := e30 (x := x) bx hm
        rw [e]
        unfold b_X2_even_77
        rw [dc0]
        simp only [cg_ge fx fin_zz, V_zz]
        rw [if_pos g3]
        refine ⟨_, rfl, fun q => absurd q nb, fun _ => ?_⟩
        have l := rne_le ml
        have i := Jvm.FP.Core.l2d_int (a := w) (by rw [hw]; omega)
        rw [hw] at i
        unfold evn
        rw [if_pos g3, show (V x).toNat = m by omega]
        exact i
      · rw [if_neg g3]
        obtain ⟨m, hm⟩ : ∃ m : Nat, V (FP.dneg x) = (m : Int) := ⟨(V (FP.dneg x)).toNat, by rw [V_neg]; omega⟩
        have hm2 := hm
        rw [V_neg] at hm2
        have ml : m < 4503599627370496 * Jvm.FP.Core.one64 := by omega
        have bn : BK 1075 (FP.dneg x) := Bg_bk (fin_neg fx) (by rw [V_neg]; unfold Bg; omega)
        obtain ⟨w, hw, e⟩ := e30 (x := x) bn hm
        rw [e]
        unfold b_X2_even_77
        rw [dc0]
        simp only [cg_ge fx fin_zz, V_zz]
        rw [if_neg g3]
        refine ⟨_, rfl, fun q => absurd q nb, fun _ => ?_⟩
        have l := rne_le ml
        have i := Jvm.FP.Core.l2d_int (a := w) (by rw [hw]; omega)
        rw [hw] at i
        unfold evn
        rw [if_neg g3, show (-V x).toNat = m by omega]
        refine int_of_V (fin_neg (int_fin i)) ?_
        rw [V_neg]
        have := V_int i
        rw [show V (FP.l2d w) = _ from this, Int.neg_mul]
    · rw [if_neg g2]
      have g : Bg (V x) := by unfold Bg; omega
      exact ⟨x, rfl, fun _ => rfl, fun q => absurd g q⟩
theorem nan_f (h : Jvm.FP.Core.DFin x) : FP.dIsNaN x = false := h.notNaN
theorem rint_v {K : Nat} (h : BK K x) (hK : K ≤ 2000) : ∃ y, f_Jxfc994_rint_294c1 x = some y ∧ (Bg (V x) → y = x) ∧ (¬ Bg (V x) → Jvm.FP.Core.DInt (evn (V x)) y) := by
  have fx := BK_fin h (by omega)
  have v1 := V_int d_52
  have up := u_pos
  have bm := msk_bk h
  have fm := BK_fin bm (by omega)
  obtain ⟨w1, w2, w3⟩ := msk_V h (by omega)
  unfold f_Jxfc994_rint_294c1
  simp only [nm_t]
  rw [ck_t (nan_f fx), ck_t (fin_n64 fx)]
  simp only [cg_ge fm (int_fin d_52), v1]
  by_cases g1 : 4503599627370496 * (Jvm.FP.Core.one64 : Int) ≤ V (x &&& 0x7fffffffffffffff)
  · rw [if_pos g1]
    have g : Bg (V x) := by unfold Bg; rcases Nat.lt_or_ge x.toNat (2 ^ 63) with l | l
                            · have := w1 l; omega
                            · have := w2 l; omega
    have e : FP.dmul (Jvm.copySign64 FP.dconst1 x) (x &&& 0x7fffffffffffffff) = x := by
      rcases csg x with ⟨l, e⟩ | ⟨l, e⟩
      · rw [e, mul_one_V fm]
        apply UInt64.toNat_inj.mp
        rw [msk_nat]; omega
      · rw [e, mul_none_V fm]
        rcases V_or (fin_cneg fm) fx (by rw [V_cneg, w2 l]) with r | ⟨_, r⟩
        · exact r
        · have := V_zero r
          have := w2 l
          omega
    rw [e, ck_t (fin_n64 fx)]
    exact ⟨x, rfl, fun _ => rfl, fun q => absurd g q⟩
  · rw [if_neg g1]
    have nb : ¬ Bg (V x) := by
      unfold Bg
      rcases Nat.lt_or_ge x.toNat (2 ^ 63) with l | l
      · have := w1 l; omega
      · have := w2 l; omega
    obtain ⟨m, hm⟩ : ∃ m : Nat, V (x &&& 0x7fffffffffffffff) = (m : Int) := ⟨(V (x &&& 0x7fffffffffffffff)).toNat, by omega⟩
    have ml : m < 4503599627370496 * Jvm.FP.Core.one64 := by omega
    have i1 := add_near d_52 fm hm ml
    rw [near_add] at i1
    have l : rne m ≤ 4503599627370496 := rne_le ml
    have i2 : Jvm.FP.Core.DInt (rne m : Int) (FP.dsub (FP.dadd 4841369599423283200 (x &&& 0x7fffffffffffffff)) 4841369599423283200) := by
      have := Jvm.FP.Core.dsub_int i1 d_52 (by unfold rne at l; omega)
      rw [show ((4503599627370496 + Jvm.FP.Core.nearest m Jvm.FP.Core.one64 : Nat) : Int) - 4503599627370496 = (rne m : Int) by unfold rne; omega] at this
      exact this
    rw [ck_t (fin_n64 (int_fin i1)), ck_t (fin_n64 (int_fin i2))]
    have i3 : Jvm.FP.Core.DInt (evn (V x)) (FP.dmul (Jvm.copySign64 FP.dconst1 x) (FP.dsub (FP.dadd 4841369599423283200 (x &&& 0x7fffffffffffffff)) 4841369599423283200)) := by
      rcases csg x with ⟨l', e⟩ | ⟨l', e⟩
      · rw [e]
        have := Jvm.FP.Core.dmul_int Jvm.FP.Core.dint_one i2 (by omega)
        have ev : evn (V x) = 1 * (rne m : Int) := by
          unfold evn
          rw [w1 l', if_pos w3, hm]
          show (rne (Int.toNat (m : Int)) : Int) = _
          rw [Int.toNat_natCast, Int.one_mul]
        rw [ev]; exact this
      · rw [e]
        have := Jvm.FP.Core.dmul_int dint_none i2 (by omega)
        have ev : evn (V x) = -1 * (rne m : Int) := by
          unfold evn
          rw [w2 l', hm]
          by_cases m0 : m = 0
          · subst m0
            rw [if_pos (by decide)]
            show (rne 0 : Int) = -1 * (rne 0 : Int)
            rw [rne_z]; decide
          · rw [if_neg (by omega), Int.neg_neg, Int.toNat_natCast]; omega
        rw [ev]; exact this
    rw [ck_t (fin_n64 (int_fin i3))]
    exact ⟨_, rfl, fun q => absurd q nb, fun _ => i3⟩
theorem evn_le {z : Int} (h : ¬ Bg z) : -4503599627370496 ≤ evn z ∧ evn z ≤ 4503599627370496 := by
  unfold Bg at h
  unfold evn
  by_cases g : 0 ≤ z
  · rw [if_pos g]
    have := rne_le (m := z.toNat) (by omega)
    omega
  · rw [if_neg g]
    have := rne_le (m := (-z).toNat) (by omega)
    omega
/-- both roundings to even, on doubles alike -/
theorem even_rel {K : Nat} (h : Zk K a b) (hK : K ≤ 2000) (hK2 : 1076 ≤ K) : ∃ y z, f_X2_even a = some y ∧ f_Jxfc994_rint_294c1 b = some z ∧ Zk K y z := by
  obtain ⟨y, e1, p1, p2⟩ := Xeven_v h.1 hK
  obtain ⟨z, e2, q1, q2⟩ := rint_v h.2.1 hK
  refine ⟨y, z, e1, e2, ?_⟩
  have hv := h.2.2
  by_cases g : Bg (V a)
  · rw [p1 g, q1 (by rw [← hv]; exact g)]; exact h
  · have i := p2 g
    have j := q2 (by rw [← hv]; exact g)
    rw [← hv] at j
    have l := evn_le g
    refine ⟨BK_mono (int_bk 53 i ?_ ?_) hK2, BK_mono (int_bk 53 j ?_ ?_) hK2, by rw [V_int i, V_int j]⟩
    · show (-9007199254740992 : Int) < _; omega
    · show _ < (9007199254740992 : Int); omega
    · show (-9007199254740992 : Int) < _; omega
    · show _ < (9007199254740992 : Int); omega
end EVEN2
