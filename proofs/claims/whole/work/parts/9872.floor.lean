section FLOOR
variable {a b : UInt64}
theorem fl_pow (A B m k : Nat) (h : k ≤ m) : (A * 2 ^ m + B) / 2 ^ k * 2 ^ k = A * 2 ^ m + B / 2 ^ k * 2 ^ k := by
  have e : A * 2 ^ m = A * 2 ^ (m - k) * 2 ^ k := by rw [Nat.mul_assoc, ← Nat.pow_add, Nat.sub_add_cancel h]
  rw [e, Nat.add_comm, Nat.add_mul_div_right _ _ (Nat.two_pow_pos k), Nat.add_mul, Nat.add_comm]
theorem fE_eq : fE b = b.toNat % 2 ^ 63 / 2 ^ 52 := by
  unfold fE
  omega
theorem tails64 : Jvm.FP.Core.b64.tails = 2 ^ 52 := Jvm.FP.Core.tails_b64
/-- magnitude of a normal number -/
theorem units_n {E T : Nat} (hE : 1 ≤ E) (hT : T < 2 ^ 52) : Jvm.FP.Core.unitsOf Jvm.FP.Core.b64 (E * 2 ^ 52 + T) = (2 ^ 52 + T) * 2 ^ (E - 1) := by
  unfold Jvm.FP.Core.unitsOf
  rw [tails64, if_neg (by omega)]
  have e1 : (E * 2 ^ 52 + T) % 2 ^ 52 = T := by omega
  have e2 : (E * 2 ^ 52 + T) / 2 ^ 52 = E := by omega
  rw [e1, e2]
theorem V_sm (h : Jvm.FP.Core.DFin a) : V a = Jvm.FP.Core.signed (decide (2 ^ 63 ≤ a.toNat)) (Jvm.FP.Core.unitsOf Jvm.FP.Core.b64 (a.toNat % 2 ^ 63)) := by
  unfold V Jvm.FP.Core.zval
  rw [Jvm.FP.Core.sgn_bits h.ne_nan, Jvm.FP.Core.zmag_bits h.ne_nan]
theorem sg_tdiv (s : Bool) (z u : Nat) : (Jvm.FP.Core.signed s z).tdiv (u : Int) * (u : Int) = Jvm.FP.Core.signed s (z / u * u) := by
  unfold Jvm.FP.Core.signed
  cases s
  · simp only [Bool.false_eq_true, if_false]
    rw [Int.tdiv_eq_ediv_of_nonneg (by omega)]; rfl
  · simp only [if_true]
    rw [Int.neg_tdiv, Int.tdiv_eq_ediv_of_nonneg (by omega), Int.neg_mul]; rfl
/-- the bits behind the point cut off -/
theorem cut_V (h1 : 1023 ≤ fE b) (h2 : fE b < 1075) : BK 1075 (Jvm.Free.Hsc.cutOf b) ∧ V (Jvm.Free.Hsc.cutOf b) = (V b).tdiv (Jvm.FP.Core.one64 : Int) * (Jvm.FP.Core.one64 : Int) ∧ (b.toNat % 2 ^ (1075 - fE b) ≠ 0 → V (Jvm.Free.Hsc.cutOf b) ≠ V b) := by
  have hc := cut_v h1 h2
  obtain ⟨E, hE⟩ : ∃ E, fE b = E := ⟨_, rfl⟩
  rw [hE] at h1 h2 hc ⊢
  obtain ⟨k, hk⟩ : ∃ k, 1075 - E = k := ⟨_, rfl⟩
  rw [hk] at hc ⊢
  obtain ⟨s, T, hx, hs, hT⟩ : ∃ s T, b.toNat = s * 2 ^ 63 + (E * 2 ^ 52 + T) ∧ s ≤ 1 ∧ T < 2 ^ 52 := by
    have l := b.toNat_lt
    rw [fE_eq] at hE
    exact ⟨b.toNat / 2 ^ 63, b.toNat % 2 ^ 63 % 2 ^ 52, by omega, by omega, by omega⟩
  have hT' : T / 2 ^ k * 2 ^ k ≤ T := Nat.div_mul_le_self _ _
  rw [hx, fl_pow _ _ _ _ (by omega), fl_pow _ _ _ _ (by omega)] at hc
  obtain ⟨T', hT2⟩ : ∃ T', T / 2 ^ k * 2 ^ k = T' := ⟨_, rfl⟩
  have m1 : b.toNat % 2 ^ 63 = E * 2 ^ 52 + T := by omega
  have m2 : (Jvm.Free.Hsc.cutOf b).toNat % 2 ^ 63 = E * 2 ^ 52 + T' := by omega
  have d1 : decide (2 ^ 63 ≤ b.toNat) = decide (s = 1) := decide_eq_decide.mpr (by omega)
  have d2 : decide (2 ^ 63 ≤ (Jvm.Free.Hsc.cutOf b).toNat) = decide (s = 1) := decide_eq_decide.mpr (by omega)
  have bk1 : BK 1075 b := by unfold BK; omega
  have bk2 : BK 1075 (Jvm.Free.Hsc.cutOf b) := by unfold BK; omega
  have v1 := V_sm (BK_fin bk1 (by decide))
  have v2 := V_sm (BK_fin bk2 (by decide))
  rw [d1, m1, units_n (by omega) hT] at v1
  rw [d2, m2, units_n (by omega) (by omega)] at v2
  have o : Jvm.FP.Core.one64 = 2 ^ k * 2 ^ (E - 1) := by
    rw [← Nat.pow_add, show k + (E - 1) = 1074 by omega]; rfl
  have g : (2 ^ 52 + T) / 2 ^ k * 2 ^ k = 2 ^ 52 + T' := by
    have := fl_pow 1 T 52 k (by omega)
    rw [Nat.one_mul, hT2] at this
    exact this
  have ev : V (Jvm.Free.Hsc.cutOf b) = (V b).tdiv (Jvm.FP.Core.one64 : Int) * (Jvm.FP.Core.one64 : Int) := by
    rw [v1, v2, sg_tdiv, o, Nat.mul_div_mul_right _ _ (Nat.two_pow_pos _), ← Nat.mul_assoc, g]
  refine ⟨bk2, ev, fun hne he => hne ?_⟩
  rw [v1, v2] at he
  have he2 : (2 ^ 52 + T') * 2 ^ (E - 1) = (2 ^ 52 + T) * 2 ^ (E - 1) := by
    have := congrArg Int.natAbs he
    rw [Jvm.FP.Core.natAbs_signed, Jvm.FP.Core.natAbs_signed] at this
    exact this
  have he3 := Nat.eq_of_mul_eq_mul_right (Nat.two_pow_pos _) he2
  have e4 : (Jvm.Free.Hsc.cutOf b).toNat = b.toNat := by omega
  have c2 := cut_v (b := b) (by omega) (by omega)
  rw [hE, hk] at c2
  rw [← e4, c2]
  exact Nat.mul_mod_left _ _
/-- whole parts -/
def flo (z : Int) : Int := z / (Jvm.FP.Core.one64 : Int)
def cei (z : Int) : Int := - (-z / (Jvm.FP.Core.one64 : Int))
theorem u_pos : 0 < (Jvm.FP.Core.one64 : Int) := by have := Jvm.FP.Core.one64_pos; omega
theorem flo_eq {z i : Int} (h1 : i * (Jvm.FP.Core.one64 : Int) ≤ z) (h2 : z < i * (Jvm.FP.Core.one64 : Int) + (Jvm.FP.Core.one64 : Int)) : flo z = i := by
  unfold flo
  have a1 := (Int.le_ediv_iff_mul_le u_pos (a := i) (b := z)).mpr h1
  have a2 := (Int.ediv_lt_iff_lt_mul u_pos (a := z) (b := i + 1)).mpr (by rw [Int.add_mul, Int.one_mul]; exact h2)
  omega
theorem cei_eq {z i : Int} (h1 : z ≤ i * (Jvm.FP.Core.one64 : Int)) (h2 : i * (Jvm.FP.Core.one64 : Int) - (Jvm.FP.Core.one64 : Int) < z) : cei z = i := by
  have := flo_eq (z := -z) (i := -i) (by rw [Int.neg_mul]; omega) (by rw [Int.neg_mul]; omega)
  unfold flo at this
  unfold cei
  omega
theorem td_nn {z : Int} (h : 0 ≤ z) : z.tdiv (Jvm.FP.Core.one64 : Int) * (Jvm.FP.Core.one64 : Int) ≤ z ∧ z < z.tdiv (Jvm.FP.Core.one64 : Int) * (Jvm.FP.Core.one64 : Int) + (Jvm.FP.Core.one64 : Int) := by
  rw [Int.tdiv_eq_ediv_of_nonneg h]
  have a1 := Int.ediv_mul_le z (b := (Jvm.FP.Core.one64 : Int)) (by have := u_pos; omega)
  have a2 := Int.lt_ediv_add_one_mul_self z u_pos
  rw [Int.add_mul, Int.one_mul] at a2
  exact ⟨a1, a2⟩
theorem td_np {z : Int} (h : z ≤ 0) : z ≤ z.tdiv (Jvm.FP.Core.one64 : Int) * (Jvm.FP.Core.one64 : Int) ∧ z.tdiv (Jvm.FP.Core.one64 : Int) * (Jvm.FP.Core.one64 : Int) - (Jvm.FP.Core.one64 : Int) < z := by
  have := td_nn (z := -z) (by omega)
  rw [Int.neg_tdiv, Int.neg_mul] at this
  omega
theorem V_bd (h : BK 1075 b) : -(4503599627370496 * (Jvm.FP.Core.one64 : Int)) < V b ∧ V b < 4503599627370496 * (Jvm.FP.Core.one64 : Int) := by
  have e := V_sm (BK_fin h (by decide))
  have l := (Jvm.FP.Core.units_lt_start (f := Jvm.FP.Core.b64) (m := b.toNat % 2 ^ 63) (K := 1075) (by rw [tails64]; exact h)).2
  have o : Jvm.FP.Core.b64.tails * 2 ^ (1075 - 1) = 4503599627370496 * Jvm.FP.Core.one64 := by
    have o1 : Jvm.FP.Core.one64 = 2 ^ 1074 := rfl
    have e1 : (1075 - 1 : Nat) = 1074 := rfl
    have e2 : (2 : Nat) ^ 52 = 4503599627370496 := by decide
    rw [tails64, o1, e1, e2]
  rw [o] at l
  rw [e]
  generalize Jvm.FP.Core.unitsOf Jvm.FP.Core.b64 (b.toNat % 2 ^ 63) = m at *
  generalize Jvm.FP.Core.one64 = u at *
  unfold Jvm.FP.Core.signed
  split <;> omega
end FLOOR
