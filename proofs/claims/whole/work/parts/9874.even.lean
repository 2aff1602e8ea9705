section EVEN
variable {a b c x : UInt64}
theorem dadd_le (ha : Jvm.FP.Core.DFin a) (hb : Jvm.FP.Core.DFin b) (hc : Jvm.FP.Core.DFin c) (h : V a + V b ≤ V c) : V (FP.dadd a b) ≤ V c := by
  show Jvm.FP.Core.zval _ (Jvm.FP.Core.val64 (Jvm.FP.Core.dadd a b)) ≤ _
  rw [Jvm.FP.Core.val64_dadd]
  exact Jvm.FP.Core.sum_le Jvm.FP.Core.good_b64 ha hb (Jvm.FP.Core.val64_fits a) (Jvm.FP.Core.val64_fits b) (Jvm.FP.Core.val64_fits c) hc.ne_nan h
theorem dadd_ge (ha : Jvm.FP.Core.DFin a) (hb : Jvm.FP.Core.DFin b) (hc : Jvm.FP.Core.DFin c) (h : V c ≤ V a + V b) : V c ≤ V (FP.dadd a b) := by
  show _ ≤ Jvm.FP.Core.zval _ (Jvm.FP.Core.val64 (Jvm.FP.Core.dadd a b))
  rw [Jvm.FP.Core.val64_dadd]
  exact Jvm.FP.Core.sum_ge Jvm.FP.Core.good_b64 ha hb (Jvm.FP.Core.val64_fits a) (Jvm.FP.Core.val64_fits b) (Jvm.FP.Core.val64_fits c) hc.ne_nan h
theorem dsub_le (ha : Jvm.FP.Core.DFin a) (hb : Jvm.FP.Core.DFin b) (hc : Jvm.FP.Core.DFin c) (h : V a - V b ≤ V c) : V (FP.dsub a b) ≤ V c := by
  rw [V_sub]
  exact dadd_le ha (fin_cneg hb) hc (by rw [V_cneg]; omega)
theorem dsub_ge (ha : Jvm.FP.Core.DFin a) (hb : Jvm.FP.Core.DFin b) (hc : Jvm.FP.Core.DFin c) (h : V c ≤ V a - V b) : V c ≤ V (FP.dsub a b) := by
  rw [V_sub]
  exact dadd_ge ha (fin_cneg hb) hc (by rw [V_cneg]; omega)
theorem dsub_same (ha : Jvm.FP.Core.DFin a) (hb : Jvm.FP.Core.DFin b) (hc : Jvm.FP.Core.DFin c) (h : V a - V b = V c) : V (FP.dsub a b) = V c :=
  Int.le_antisymm (dsub_le ha hb hc (by omega)) (dsub_ge ha hb hc (by omega))
theorem lit_fin {a : UInt64} (h : a.toNat % 2 ^ 63 < 2047 * 2 ^ 52) : Jvm.FP.Core.DFin a := Jvm.FP.Core.fin_of_lt h (by decide)
def Gq : Nat := 2 ^ 1022
theorem u_G : Jvm.FP.Core.one64 = 2 ^ 52 * Gq := by
  unfold Gq
  rw [← Nat.pow_add]; rfl
theorem V_hf : V 4602678819172646912 = ((2 ^ 51 * Gq : Nat) : Int) := by decide +kernel
theorem V_hu : V 4602678819172646914 = (((2 ^ 51 + 1) * Gq : Nat) : Int) := by decide +kernel
theorem V_hl : V 4602678819172646908 = (((2 ^ 51 - 1) * Gq : Nat) : Int) := by decide +kernel
theorem fin_hf : Jvm.FP.Core.DFin 4602678819172646912 := lit_fin (by decide)
theorem hf_u : 2 * V 4602678819172646912 = (Jvm.FP.Core.one64 : Int) := by rw [V_hf, u_G]; omega
/-- the part behind the point against one half -/
theorem frac_cmp {t : UInt64} (h : BK 1075 a) (h0 : 0 ≤ V a) (ht : Jvm.FP.Core.DInt (V a / (Jvm.FP.Core.one64 : Int)) t) :
    ((Jvm.FP.Core.one64 : Int) < 2 * (V a % (Jvm.FP.Core.one64 : Int)) → V 4602678819172646912 < V (FP.dsub a t)) ∧
    ((Jvm.FP.Core.one64 : Int) = 2 * (V a % (Jvm.FP.Core.one64 : Int)) → V (FP.dsub a t) = V 4602678819172646912) ∧
    (2 * (V a % (Jvm.FP.Core.one64 : Int)) < (Jvm.FP.Core.one64 : Int) → V (FP.dsub a t) < V 4602678819172646912) := by
  have fa := BK_fin h (by decide)
  have ft := int_fin ht
  have vt := V_int ht
  have hu := hf_u
  have up := u_pos
  by_cases e : fE a < 1023
  · have bd := BK_V 0 (fE_bk e) (by decide)
    simp only [Nat.pow_zero, Int.natCast_one, Int.one_mul] at bd
    rw [Int.emod_eq_of_lt h0 bd.2]
    rw [Int.ediv_eq_zero_of_lt h0 bd.2, Int.zero_mul] at vt
    have z : V (FP.dsub a t) = V a := dsub_same fa ft fa (by omega)
    rw [z]
    refine ⟨?_, ?_, ?_⟩ <;> intro q <;> omega
  · have l := fE_lo h
    have em : V a - V t = V a % (Jvm.FP.Core.one64 : Int) := by
      rw [vt, Int.mul_comm]; have := Int.mul_ediv_add_emod (V a) (Jvm.FP.Core.one64 : Int); omega
    obtain ⟨w, hw⟩ : ∃ w : Nat, V a = ((w * Gq : Nat) : Int) := by
      have v := V_sm fa
      obtain ⟨E, hE⟩ : ∃ E, fE a = E := ⟨_, rfl⟩
      have e2 := fE_eq (b := a)
      rw [hE] at e e2 l
      have m1 : a.toNat % 2 ^ 63 = E * 2 ^ 52 + a.toNat % 2 ^ 63 % 2 ^ 52 := by omega
      rw [m1, units_n (by omega) (Nat.mod_lt _ (by decide))] at v
      have p : (2 : Nat) ^ (E - 1) = 2 ^ (E - 1023) * Gq := by
        unfold Gq
        rw [← Nat.pow_add, show E - 1023 + 1022 = E - 1 by omega]
      rw [p, ← Nat.mul_assoc] at v
      generalize (2 ^ 52 + a.toNat % 2 ^ 63 % 2 ^ 52) * 2 ^ (E - 1023) = w at v
      refine ⟨w, ?_⟩
      rw [v] at h0 ⊢
      unfold Jvm.FP.Core.signed at h0 ⊢
      split at h0
      · rw [if_pos (by assumption)]; omega
      · rw [if_neg (by assumption)]
    have hr : V a % (Jvm.FP.Core.one64 : Int) = ((w % 2 ^ 52 * Gq : Nat) : Int) := by
      rw [hw, u_G, ← Int.natCast_emod, Nat.mul_mod_mul_right]
    rw [hr] at em
    rw [hr, u_G]
    have gp : 0 < Gq := Nat.two_pow_pos _
    have e1 := V_hf
    have e2 := V_hu
    have e3 := V_hl
    obtain ⟨r, hr2⟩ : ∃ r, w % 2 ^ 52 = r := ⟨_, rfl⟩
    rw [hr2] at em ⊢
    refine ⟨fun q => ?_, fun q => ?_, fun q => ?_⟩
    · have k : 2 ^ 51 < r := by
        refine Nat.lt_of_mul_lt_mul_right (a := Gq) ?_
        omega
      have g : (2 ^ 51 + 1) * Gq ≤ r * Gq := Nat.mul_le_mul_right _ k
      have := dsub_ge fa ft (c := 4602678819172646914) (lit_fin (by decide)) (by rw [em, e2]; exact Int.ofNat_le.mpr g)
      rw [Nat.add_mul] at e2
      omega
    · exact dsub_same fa ft fin_hf (by rw [em, e1]; omega)
    · have k : r < 2 ^ 51 := by
        refine Nat.lt_of_mul_lt_mul_right (a := Gq) ?_
        omega
      have g : r * Gq ≤ (2 ^ 51 - 1) * Gq := Nat.mul_le_mul_right _ (by omega)
      have := dsub_le fa ft (c := 4602678819172646908) (lit_fin (by decide)) (by rw [em, e3]; exact Int.ofNat_le.mpr g)
      rw [Nat.sub_mul] at e3
      omega
/-- 2^52 and a number below it: the sum is the nearest whole -/
theorem add_near {m : Nat} (ha : Jvm.FP.Core.DInt 4503599627370496 a) (hb : Jvm.FP.Core.DFin b) (hv : V b = (m : Int)) (hm : m < 4503599627370496 * Jvm.FP.Core.one64) :
    Jvm.FP.Core.DInt ((Jvm.FP.Core.nearest (4503599627370496 * Jvm.FP.Core.one64 + m) Jvm.FP.Core.one64 : Nat) : Int) (FP.dadd a b) := by
  have va := V_int ha
  have up := Jvm.FP.Core.one64_pos
  obtain ⟨s, c, q, ea⟩ := int_fin ha
  obtain ⟨t, d, r, eb⟩ := hb
  have f1 := Jvm.FP.Core.val64_fits a
  have f2 := Jvm.FP.Core.val64_fits b
  rw [ea] at f1
  rw [eb] at f2
  obtain ⟨sg, n, e, p1, p2, p3⟩ := Jvm.FP.Core.sum_units f1 f2
  obtain ⟨Z, hZ⟩ : ∃ Z, 4503599627370496 * Jvm.FP.Core.one64 + m = Z := ⟨_, rfl⟩
  have p4 : Jvm.FP.Core.signed sg (Jvm.FP.Core.inUnits n e Jvm.FP.Core.b64.qmin) = (Z : Int) := by
    rw [p3, ← ea, ← eb]
    show V a + V b = _
    rw [va, hv, ← hZ]; omega
  have hZp : 0 < Z := by omega
  have hsg : sg = false := by
    cases sg
    · rfl
    · simp only [Jvm.FP.Core.signed, if_true] at p4; omega
  subst hsg
  rw [Jvm.FP.Core.qmin_b64] at p2 p4
  have p5 : n * 2 ^ (e - -1074).toNat = Z := by
    have : ((Jvm.FP.Core.inUnits n e (-1074) : Nat) : Int) = (Z : Int) := p4
    exact Int.ofNat_inj.mp this
  have hn : 0 < n := by
    rcases Nat.eq_zero_or_pos n with h | h
    · rw [h, Nat.zero_mul] at p5; omega
    · exact h
  obtain ⟨N, hN⟩ : ∃ N, Jvm.FP.Core.unitsNum n e 0 = N := ⟨_, rfl⟩
  obtain ⟨D, hD⟩ : ∃ D, Jvm.FP.Core.unitsDen 1 e 0 = D := ⟨_, rfl⟩
  have dp : 0 < D := by rw [← hD]; exact Jvm.FP.Core.unitsDen_pos (by decide) e 0
  have key : N * Jvm.FP.Core.one64 = Z * D := by
    have o : Jvm.FP.Core.one64 = 2 ^ 1074 := rfl
    rw [← hN, ← hD, ← p5, o]
    unfold Jvm.FP.Core.unitsNum Jvm.FP.Core.unitsDen
    rw [Nat.one_mul, Nat.mul_assoc, Nat.mul_assoc, ← Nat.pow_add, ← Nat.pow_add, show (e - 0).toNat + 1074 = (e - -1074).toNat + (0 - e).toNat by omega]
  have lt53 : N < 2 ^ 53 * D := by
    refine Nat.lt_of_mul_lt_mul_right (a := Jvm.FP.Core.one64) ?_
    rw [key, Nat.mul_assoc, Nat.mul_comm D, ← Nat.mul_assoc]
    exact Nat.mul_lt_mul_of_pos_right (by omega) dp
  have ge52 : ¬ N < 2 ^ 52 * D := by
    intro q
    have : N * Jvm.FP.Core.one64 < 2 ^ 52 * D * Jvm.FP.Core.one64 := Nat.mul_lt_mul_of_pos_right q up
    rw [key, Nat.mul_assoc, Nat.mul_comm D, ← Nat.mul_assoc] at this
    have := Nat.lt_of_mul_lt_mul_right this
    omega
  have hq : Jvm.FP.Core.quantum Jvm.FP.Core.b64 n 1 e = 0 := by
    refine Jvm.FP.Core.quantum_eq hn (by decide) (by rw [Jvm.FP.Core.qmin_b64]; decide) ?_ (Or.inr ?_)
    · exact (Jvm.FP.Core.units_below n 1 e 0 53).mp (by rw [hN, hD]; exact lt53)
    · exact fun q => ge52 (by rw [← hN, ← hD]; exact (Jvm.FP.Core.units_below n 1 e 0 52).mpr q)
  have hk : Jvm.FP.Core.nearest N D = Jvm.FP.Core.nearest Z Jvm.FP.Core.one64 := Jvm.FP.Core.nearest_congr dp up key
  have kle : Jvm.FP.Core.nearest Z Jvm.FP.Core.one64 ≤ 2 ^ 53 := by
    rw [← hk]; exact Jvm.FP.Core.nearest_le dp (Nat.le_of_lt lt53)
  rw [hZ]
  show Jvm.FP.Core.Whole _ (Jvm.FP.Core.val64 (Jvm.FP.Core.dadd a b))
  rw [Jvm.FP.Core.val64_dadd, ea, eb, p1]
  show Jvm.FP.Core.Whole _ (Jvm.FP.Core.roundRatio Jvm.FP.Core.b64 false n 1 e)
  unfold Jvm.FP.Core.roundRatio
  rw [if_neg (by omega), hq]
  unfold Jvm.FP.Core.roundAt
  rw [hN, hD, hk]
  generalize Jvm.FP.Core.nearest Z Jvm.FP.Core.one64 = k at *
  unfold Jvm.FP.Core.settle
  by_cases k1 : k < 2 ^ 53
  · rw [if_pos (show k < 2 ^ Jvm.FP.Core.b64.p from k1)]
    unfold Jvm.FP.Core.bound
    rw [if_pos (by decide)]
    show Jvm.FP.Core.signed false (k * 2 ^ (0 : Int).toNat) = (k : Int) * ((2 ^ (-(0 : Int)).toNat : Nat) : Int)
    simp only [Jvm.FP.Core.signed, Bool.false_eq_true, if_false]
    show ((k * 1 : Nat) : Int) = (k : Int) * 1
    omega
  · rw [if_neg (show ¬ k < 2 ^ Jvm.FP.Core.b64.p from k1)]
    unfold Jvm.FP.Core.bound
    rw [if_pos (by decide)]
    have : k = 2 ^ 53 := by omega
    rw [this, tails64]
    show Jvm.FP.Core.signed false (2 ^ 52 * 2 ^ (0 + 1 : Int).toNat) = ((2 ^ 53 : Nat) : Int) * ((2 ^ (-(0 + 1 : Int)).toNat : Nat) : Int)
    decide
theorem near_add (m : Nat) : Jvm.FP.Core.nearest (4503599627370496 * Jvm.FP.Core.one64 + m) Jvm.FP.Core.one64 = 4503599627370496 + Jvm.FP.Core.nearest m Jvm.FP.Core.one64 := by
  have up := Jvm.FP.Core.one64_pos
  unfold Jvm.FP.Core.nearest
  have e1 : (4503599627370496 * Jvm.FP.Core.one64 + m) / Jvm.FP.Core.one64 = 4503599627370496 + m / Jvm.FP.Core.one64 := by
    rw [Nat.add_comm, Nat.add_mul_div_right _ _ up, Nat.add_comm]
  have e2 : (4503599627370496 * Jvm.FP.Core.one64 + m) % Jvm.FP.Core.one64 = m % Jvm.FP.Core.one64 := by
    rw [Nat.add_comm, Nat.add_mul_mod_self_right]
  rw [e1, e2]
  generalize m / Jvm.FP.Core.one64 = d
  split
  · rfl
  · split <;> omega
theorem near_le {m : Nat} (h : m < 4503599627370496 * Jvm.FP.Core.one64) : Jvm.FP.Core.nearest m Jvm.FP.Core.one64 ≤ 4503599627370496 :=
  Jvm.FP.Core.nearest_le Jvm.FP.Core.one64_pos (Nat.le_of_lt h)
def rne (m : Nat) : Nat := Jvm.FP.Core.nearest m Jvm.FP.Core.one64
/-- to the nearest whole number, ties to even -/
def evn (z : Int) : Int := if 0 ≤ z then (rne z.toNat : Int) else -(rne (-z).toNat : Int)
theorem rne_z : rne 0 = 0 := by
  unfold rne Jvm.FP.Core.nearest
  rw [Nat.zero_mod, Nat.zero_div, if_pos (by have := Jvm.FP.Core.one64_pos; omega)]
/-- not below 2^52 -/
def Bg (z : Int) : Prop := z ≤ -(4503599627370496 * (Jvm.FP.Core.one64 : Int)) ∨ 4503599627370496 * (Jvm.FP.Core.one64 : Int) ≤ z
theorem d_52 : Jvm.FP.Core.DInt 4503599627370496 4841369599423283200 := by
  have e : Jvm.FP.Core.val64 4841369599423283200 = .fin false (2 ^ 52) 0 := by decide +kernel
  unfold Jvm.FP.Core.DInt
  rw [e]
  show Jvm.FP.Core.signed false (2 ^ 52 * 2 ^ (0 : Int).toNat) = 4503599627370496 * ((2 ^ (-(0 : Int)).toNat : Nat) : Int)
  decide
theorem n_52 : (14064741636278059008 : UInt64) = Jvm.FP.Core.dneg 4841369599423283200 := by decide +kernel
theorem d_n52 : Jvm.FP.Core.DInt (-4503599627370496) 14064741636278059008 := by
  rw [n_52]; exact Jvm.FP.Core.dneg_int d_52
theorem msk_nat : (x &&& 0x7fffffffffffffff).toNat = x.toNat % 2 ^ 63 := by
  rw [UInt64.toNat_and]
  show x.toNat &&& 9223372036854775807 = _
  rw [show (9223372036854775807 : Nat) = 2 ^ 63 - 1 by decide, Nat.and_two_pow_sub_one_eq_mod]
theorem msk_bk {K : Nat} (h : BK K x) : BK K (x &&& 0x7fffffffffffffff) := by
  unfold BK at h ⊢
  rw [msk_nat]; omega
theorem msk_V {K : Nat} (h : BK K x) (hK : K ≤ 2047) : (x.toNat < 2 ^ 63 → V x = V (x &&& 0x7fffffffffffffff)) ∧ (2 ^ 63 ≤ x.toNat → V x = - V (x &&& 0x7fffffffffffffff)) ∧ 0 ≤ V (x &&& 0x7fffffffffffffff) := by
  have e1 := V_sm (BK_fin h hK)
  have e2 := V_sm (BK_fin (msk_bk h) hK)
  rw [msk_nat, show x.toNat % 2 ^ 63 % 2 ^ 63 = x.toNat % 2 ^ 63 by omega] at e2
  rw [show decide (2 ^ 63 ≤ x.toNat % 2 ^ 63) = false from decide_eq_false (by omega)] at e2
  rw [e2]
  refine ⟨fun q => ?_, fun q => ?_, ?_⟩
  · rw [e1, decide_eq_false (by omega)]
  · rw [e1, decide_eq_true (by omega)]; rfl
  · show 0 ≤ ((_ : Nat) : Int); omega
theorem csg (x : UInt64) : (x.toNat < 2 ^ 63 ∧ Jvm.copySign64 FP.dconst1 x = 4607182418800017408) ∨ (2 ^ 63 ≤ x.toNat ∧ Jvm.copySign64 FP.dconst1 x = 13830554455654793216) := by
  unfold Jvm.copySign64
  have e : (x >>> 63).toNat = x.toNat / 2 ^ 63 := by
    rw [UInt64.toNat_shiftRight]
    show x.toNat >>> 63 = _
    rw [Nat.shiftRight_eq_div_pow]
  have l := x.toNat_lt
  rcases Nat.lt_or_ge x.toNat (2 ^ 63) with h | h
  · left
    refine ⟨h, ?_⟩
    have : (x >>> 63 == 1) = false := by
      rw [beq_eq_false_iff_ne]
      intro q
      rw [q] at e
      have : (1 : UInt64).toNat = 1 := rfl
      omega
    rw [this]; decide
  · right
    refine ⟨h, ?_⟩
    have : (x >>> 63 == 1) = true := by
      rw [beq_iff_eq]
      apply UInt64.toNat_inj.mp
      rw [e]
      show _ = 1
      omega
    rw [this]; decide
end EVEN
