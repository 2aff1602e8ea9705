section FOC
variable {a b : UInt64}
theorem int_of_V (ha : Jvm.FP.Core.DFin a) {i : Int} (h : V a = i * (Jvm.FP.Core.one64 : Int)) : Jvm.FP.Core.DInt i a := by
  obtain ⟨s, c, q, e⟩ := ha
  have hf := Jvm.FP.Core.val64_fits a
  unfold V at h
  unfold Jvm.FP.Core.DInt
  rw [e] at h hf ⊢
  have hq : (-1074 : Int) ≤ q := by have := hf.2.1; rw [Jvm.FP.Core.qmin_b64] at this; exact this
  have h' : Jvm.FP.Core.signed s (c * 2 ^ (q - Jvm.FP.Core.b64.qmin).toNat) = i * (Jvm.FP.Core.one64 : Int) := h
  rw [Jvm.FP.Core.qmin_b64] at h'
  show Jvm.FP.Core.signed s (c * 2 ^ q.toNat) = i * ((2 ^ (-q).toNat : Nat) : Int)
  have o : Jvm.FP.Core.one64 = 2 ^ 1074 := rfl
  by_cases q0 : 0 ≤ q
  · have e1 : (q - -1074).toNat = q.toNat + 1074 := by omega
    have e2 : (-q).toNat = 0 := by omega
    rw [e1, Nat.pow_add, ← Nat.mul_assoc, ← o, Jvm.FP.Core.signed_mul] at h'
    rw [e2, Nat.pow_zero]
    have := Int.eq_of_mul_eq_mul_right (by have := Jvm.FP.Core.one64_pos; omega) h'
    rw [this]; simp only [Int.natCast_one, Int.mul_one]
  · obtain ⟨n, hn⟩ : ∃ n : Nat, (-q).toNat = n := ⟨_, rfl⟩
    have e1 : (q - -1074).toNat = 1074 - n := by omega
    have e2 : q.toNat = 0 := by omega
    have o2 : Jvm.FP.Core.one64 = 2 ^ n * 2 ^ (1074 - n) := by rw [o, ← Nat.pow_add, show n + (1074 - n) = 1074 by omega]
    rw [e1, o2, Jvm.FP.Core.signed_mul, Int.natCast_mul, ← Int.mul_assoc] at h'
    rw [hn, e2, Nat.pow_zero, Nat.mul_one]
    exact Int.eq_of_mul_eq_mul_right (by have := Nat.two_pow_pos (1074 - n); omega) h'
theorem and_shl (x m k : Nat) : x &&& (m <<< k) = ((x >>> k) &&& m) <<< k := by
  apply Nat.eq_of_testBit_eq
  intro i
  simp only [Nat.testBit_and, Nat.testBit_shiftLeft, Nat.testBit_shiftRight]
  by_cases h : k ≤ i
  · simp only [h, decide_true, Bool.true_and]
    rw [Nat.add_sub_cancel' h]
  · simp only [h, decide_false, Bool.false_and, Bool.and_false]
theorem and_hi {x k : Nat} (hx : x < 2 ^ 64) (hk : k ≤ 64) : x &&& (2 ^ 64 - 2 ^ k) = x / 2 ^ k * 2 ^ k := by
  have e : 2 ^ 64 - 2 ^ k = (2 ^ (64 - k) - 1) <<< k := by
    rw [Nat.shiftLeft_eq, Nat.sub_mul, ← Nat.pow_add, Nat.sub_add_cancel hk, Nat.one_mul]
  rw [e, and_shl, Nat.and_two_pow_sub_one_eq_mod, Nat.shiftRight_eq_div_pow, Nat.shiftLeft_eq]
  rw [Nat.mod_eq_of_lt]
  rw [Nat.div_lt_iff_lt_mul (Nat.two_pow_pos k), ← Nat.pow_add, Nat.sub_add_cancel hk]
  exact hx
/-- the exponent's field -/
def fE (b : UInt64) : Nat := b.toNat / 2 ^ 52 % 2048
theorem exp_v : (Jvm.Free.Hsc.expOf b).toInt = (fE b : Int) - 1023 := by
  unfold Jvm.Free.Hsc.expOf
  have e52 : ((52 : Int64) &&& 63) = 52 := by decide
  have hw : (b.toInt64 &&& 9218868437227405312).toBitVec.toNat = fE b * 2 ^ 52 := by
    show (b.toBitVec &&& (9218868437227405312 : Int64).toBitVec).toNat = _
    rw [BitVec.toNat_and]
    show b.toNat &&& 9218868437227405312 = _
    have e : (9218868437227405312 : Nat) = 2047 <<< 52 := by decide
    rw [e, and_shl, show (2047 : Nat) = 2 ^ 11 - 1 by decide, Nat.and_two_pow_sub_one_eq_mod, Nat.shiftRight_eq_div_pow, Nat.shiftLeft_eq]
    rfl
  have hE : fE b < 2048 := Nat.mod_lt _ (by decide)
  have hi : (b.toInt64 &&& 9218868437227405312).toInt = ((fE b * 2 ^ 52 : Nat) : Int) := by
    show (b.toInt64 &&& 9218868437227405312).toBitVec.toInt = _
    rw [BitVec.toInt_eq_toNat_of_lt (by rw [hw]; omega), hw]
  have hs : ((b.toInt64 &&& 9218868437227405312) >>> (52 &&& 63)).toInt = (fE b : Int) := by
    rw [e52]
    show ((b.toInt64 &&& 9218868437227405312) >>> (52 : Int64)).toBitVec.toInt = _
    rw [Int64.toBitVec_shiftRight]
    have e3 : ((52 : Int64).toBitVec.smod 64) = (52 : BitVec 64) := by decide
    rw [e3]
    show ((b.toInt64 &&& 9218868437227405312).toBitVec.sshiftRight (52 : BitVec 64).toNat).toInt = _
    rw [BitVec.toInt_sshiftRight]
    have e4 : (52 : BitVec 64).toNat = 52 := by decide
    rw [e4]
    have hi' : (b.toInt64 &&& 9218868437227405312).toBitVec.toInt = ((fE b * 2 ^ 52 : Nat) : Int) := hi
    rw [hi', Int.shiftRight_eq_div_pow]
    omega
  have h3 : ((b.toInt64 &&& 9218868437227405312) >>> (52 &&& 63)).toInt32.toInt = (fE b : Int) := by
    rw [Jvm.FP.Core.int64_toInt32 (by rw [hs]; omega) (by rw [hs]; omega), hs]
  rw [i32_sub (by rw [h3]; simp only [Int32.reduceToInt]; omega) (by rw [h3]; simp only [Int32.reduceToInt]; omega), h3]
  rfl
theorem mask_tab : ∀ e : Fin 52, ((4503599627370495 : Int64) >>> ((Int32.ofNat e.val).toInt64 &&& 63)) = Int64.ofNat (2 ^ (52 - e.val) - 1) := by decide +kernel
theorem nmask_tab : ∀ e : Fin 52, (~~~ (Int64.ofNat (2 ^ (52 - e.val) - 1))).toUInt64.toNat = 2 ^ 64 - 2 ^ (52 - e.val) := by decide +kernel
theorem pmask_tab : ∀ e : Fin 52, (Int64.ofNat (2 ^ (52 - e.val) - 1)).toBitVec.toNat = 2 ^ (52 - e.val) - 1 := by decide +kernel
theorem mask_v (h1 : 1023 ≤ fE b) (h2 : fE b < 1075) : Jvm.Free.Hsc.maskOf b = Int64.ofNat (2 ^ (1075 - fE b) - 1) := by
  unfold Jvm.Free.Hsc.maskOf
  have e : Jvm.Free.Hsc.expOf b = Int32.ofNat (fE b - 1023) := by
    rw [i32_eq, exp_v, Int32.toInt_ofNat_of_lt (by omega)]; omega
  rw [e]
  have := mask_tab ⟨fE b - 1023, by omega⟩
  simp only at this
  rw [this, show 52 - (fE b - 1023) = 1075 - fE b by omega]
theorem cut_v (h1 : 1023 ≤ fE b) (h2 : fE b < 1075) : (Jvm.Free.Hsc.cutOf b).toNat = b.toNat / 2 ^ (1075 - fE b) * 2 ^ (1075 - fE b) := by
  unfold Jvm.Free.Hsc.cutOf
  rw [mask_v h1 h2]
  show b.toNat &&& (~~~(Int64.ofNat (2 ^ (1075 - fE b) - 1))).toUInt64.toNat = _
  have := nmask_tab ⟨fE b - 1023, by omega⟩
  simp only at this
  rw [show 52 - (fE b - 1023) = 1075 - fE b by omega] at this
  rw [this, and_hi b.toNat_lt (by omega)]
theorem maskz_v (h1 : 1023 ≤ fE b) (h2 : fE b < 1075) : (Jvm.Free.Hsc.maskOf b &&& b.toInt64 = 0) ↔ b.toNat % 2 ^ (1075 - fE b) = 0 := by
  rw [mask_v h1 h2]
  have := pmask_tab ⟨fE b - 1023, by omega⟩
  simp only at this
  rw [show 52 - (fE b - 1023) = 1075 - fE b by omega] at this
  have e : (Int64.ofNat (2 ^ (1075 - fE b) - 1) &&& b.toInt64).toBitVec.toNat = b.toNat % 2 ^ (1075 - fE b) := by
    show ((Int64.ofNat (2 ^ (1075 - fE b) - 1)).toBitVec &&& b.toBitVec).toNat = _
    rw [BitVec.toNat_and, this, Nat.and_comm]
    show b.toNat &&& _ = _
    rw [Nat.and_two_pow_sub_one_eq_mod]
  rw [← e]
  constructor
  · intro h; rw [h]; rfl
  · intro h
    apply Int64.toBitVec_inj.mp
    apply BitVec.eq_of_toNat_eq
    rw [h]; rfl
end FOC
