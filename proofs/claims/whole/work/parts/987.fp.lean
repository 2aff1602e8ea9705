section FP1
/-- a double's value in units of 2^-1074 -/
def V (a : UInt64) : Int := Jvm.FP.Core.zval Jvm.FP.Core.b64 (Jvm.FP.Core.val64 a)
def BK (K : Nat) (a : UInt64) : Prop := a.toNat % 2 ^ 63 < K * 2 ^ 52
/-- equal but for a zero's sign -/
def Zk (K : Nat) (a b : UInt64) : Prop := BK K a ∧ BK K b ∧ V a = V b
variable {K L : Nat} {a b c d : UInt64}
theorem BK_fin (h : BK K a) (hK : K ≤ 2047) : Jvm.FP.Core.DFin a := Jvm.FP.Core.fin_of_lt h hK
theorem fin_n64 (h : Jvm.FP.Core.DFin a) : n64 a := (Jvm.Free.Fl.fin64_core.mpr h).noNaN
theorem BK_n64 (h : BK K a) (hK : K ≤ 2047) : n64 a := fin_n64 (BK_fin h hK)
theorem BK_mono {K' : Nat} (h : BK K a) (hK : K ≤ K') : BK K' a := by
  exact Nat.lt_of_lt_of_le h (Nat.mul_le_mul_right _ hK)
theorem Zk_mono {K' : Nat} (h : Zk K a b) (hK : K ≤ K') : Zk K' a b := ⟨BK_mono h.1 hK, BK_mono h.2.1 hK, h.2.2⟩
theorem Zk_symm (h : Zk K a b) : Zk K b a := ⟨h.2.1, h.1, h.2.2.symm⟩
theorem Zk_refl (h : BK K a) : Zk K a a := ⟨h, h, rfl⟩
theorem V_cmp (ha : Jvm.FP.Core.DFin a) (hb : Jvm.FP.Core.DFin b) : FP.dcmp a b = some (compare (V a) (V b)) := Jvm.FP.Core.dcmp_zval ha.ne_nan hb.ne_nan
theorem cmp3 (x y : Int) : (x < y ∧ compare x y = .lt) ∨ (x = y ∧ compare x y = .eq) ∨ (y < x ∧ compare x y = .gt) := by
  rcases Int.lt_trichotomy x y with h | h | h
  · exact Or.inl ⟨h, (Jvm.FP.Core.compare_lt_iff x y).mpr h⟩
  · exact Or.inr (Or.inl ⟨h, (Jvm.FP.Core.compare_eq_iff x y).mpr h⟩)
  · exact Or.inr (Or.inr ⟨h, (Jvm.FP.Core.compare_gt_iff x y).mpr h⟩)
theorem cl_le (ha : Jvm.FP.Core.DFin a) (hb : Jvm.FP.Core.DFin b) : (Op.cmpValue (FP.dcmp a b) .l ≤ 0) = (V a ≤ V b) := by
  rw [V_cmp ha hb]
  rcases cmp3 (V a) (V b) with ⟨h, e⟩ | ⟨h, e⟩ | ⟨h, e⟩ <;> rw [e]
  · exact propext ⟨fun _ => by omega, fun _ => by decide⟩
  · exact propext ⟨fun _ => by omega, fun _ => by decide⟩
  · exact propext ⟨fun q => absurd q (by decide), fun q => by omega⟩
theorem cg_ge (ha : Jvm.FP.Core.DFin a) (hb : Jvm.FP.Core.DFin b) : (0 ≤ Op.cmpValue (FP.dcmp a b) .g) = (V b ≤ V a) := by
  rw [V_cmp ha hb]
  rcases cmp3 (V a) (V b) with ⟨h, e⟩ | ⟨h, e⟩ | ⟨h, e⟩ <;> rw [e]
  · exact propext ⟨fun q => absurd q (by decide), fun q => by omega⟩
  · exact propext ⟨fun _ => by omega, fun _ => by decide⟩
  · exact propext ⟨fun _ => by omega, fun _ => by decide⟩
theorem cl_ge (ha : Jvm.FP.Core.DFin a) (hb : Jvm.FP.Core.DFin b) : (0 ≤ Op.cmpValue (FP.dcmp a b) .l) = (V b ≤ V a) := by
  rw [V_cmp ha hb]
  rcases cmp3 (V a) (V b) with ⟨h, e⟩ | ⟨h, e⟩ | ⟨h, e⟩ <;> rw [e]
  · exact propext ⟨fun q => absurd q (by decide), fun q => by omega⟩
  · exact propext ⟨fun _ => by omega, fun _ => by decide⟩
  · exact propext ⟨fun _ => by omega, fun _ => by decide⟩
theorem cg_gt (ha : Jvm.FP.Core.DFin a) (hb : Jvm.FP.Core.DFin b) : (0 < Op.cmpValue (FP.dcmp a b) .g) = (V b < V a) := by
  rw [V_cmp ha hb]
  rcases cmp3 (V a) (V b) with ⟨h, e⟩ | ⟨h, e⟩ | ⟨h, e⟩ <;> rw [e]
  · exact propext ⟨fun q => absurd q (by decide), fun q => by omega⟩
  · exact propext ⟨fun q => absurd q (by decide), fun q => by omega⟩
  · exact propext ⟨fun _ => by omega, fun _ => by decide⟩
theorem cl_gt (ha : Jvm.FP.Core.DFin a) (hb : Jvm.FP.Core.DFin b) : (0 < Op.cmpValue (FP.dcmp a b) .l) = (V b < V a) := by
  rw [V_cmp ha hb]
  rcases cmp3 (V a) (V b) with ⟨h, e⟩ | ⟨h, e⟩ | ⟨h, e⟩ <;> rw [e]
  · exact propext ⟨fun q => absurd q (by decide), fun q => by omega⟩
  · exact propext ⟨fun q => absurd q (by decide), fun q => by omega⟩
  · exact propext ⟨fun _ => by omega, fun _ => by decide⟩
theorem cg_lt (ha : Jvm.FP.Core.DFin a) (hb : Jvm.FP.Core.DFin b) : (Op.cmpValue (FP.dcmp a b) .g < 0) = (V a < V b) := by
  rw [V_cmp ha hb]
  rcases cmp3 (V a) (V b) with ⟨h, e⟩ | ⟨h, e⟩ | ⟨h, e⟩ <;> rw [e]
  · exact propext ⟨fun _ => by omega, fun _ => by decide⟩
  · exact propext ⟨fun q => absurd q (by decide), fun q => by omega⟩
  · exact propext ⟨fun q => absurd q (by decide), fun q => by omega⟩
theorem cl_eq (ha : Jvm.FP.Core.DFin a) (hb : Jvm.FP.Core.DFin b) : (Op.cmpValue (FP.dcmp a b) .l = 0) = (V a = V b) := by
  rw [V_cmp ha hb]
  rcases cmp3 (V a) (V b) with ⟨h, e⟩ | ⟨h, e⟩ | ⟨h, e⟩ <;> rw [e]
  · exact propext ⟨fun q => absurd q (by decide), fun q => by omega⟩
  · exact propext ⟨fun _ => by omega, fun _ => by decide⟩
  · exact propext ⟨fun q => absurd q (by decide), fun q => by omega⟩
theorem V_zero (h : Jvm.FP.Core.DZero a) : V a = 0 := h.zval
theorem zero_V (ha : Jvm.FP.Core.DFin a) (h : V a = 0) : Jvm.FP.Core.DZero a := (Jvm.FP.Core.zero_bits2 a).mpr ((Jvm.FP.Core.zval_eq_zero ha.ne_nan).mp h)
theorem V_or (ha : Jvm.FP.Core.DFin a) (hb : Jvm.FP.Core.DFin b) (h : V a = V b) : a = b ∨ (Jvm.FP.Core.DZero a ∧ Jvm.FP.Core.DZero b) := by
  by_cases z : Jvm.FP.Core.DZero b
  · exact Or.inr ⟨zero_V ha (h.trans (V_zero z)), z⟩
  · exact Or.inl (Jvm.FP.Core.eq_bits z (Jvm.FP.Core.dcmp_eq.mpr ⟨ha.ne_nan, hb.ne_nan, h⟩))
theorem V_addz (ha : Jvm.FP.Core.DFin a) (hz : Jvm.FP.Core.DZero b) : V (FP.dadd a b) = V a ∧ V (FP.dadd b a) = V a :=
  ⟨(Jvm.FP.Core.dcmp_eq.mp (Jvm.FP.Core.dadd_zero_eq ha hz).1).2.2, (Jvm.FP.Core.dcmp_eq.mp (Jvm.FP.Core.dadd_zero_eq ha hz).2).2.2⟩
theorem V_neg : V (FP.dneg a) = - V a := by
  unfold V
  rw [Jvm.FP.val64_dneg, Jvm.FP.Core.zval_negate]
theorem V_cneg : V (Jvm.FP.Core.dneg a) = - V a := by
  unfold V
  rw [Jvm.FP.Core.val64_dneg, Jvm.FP.Core.zval_negate]
theorem fin_cneg (h : Jvm.FP.Core.DFin a) : Jvm.FP.Core.DFin (Jvm.FP.Core.dneg a) := by
  obtain ⟨s, c, q, h⟩ := h
  exact ⟨!s, c, q, by rw [Jvm.FP.Core.val64_dneg, h]; rfl⟩
theorem fin_neg (h : Jvm.FP.Core.DFin a) : Jvm.FP.Core.DFin (FP.dneg a) := by
  obtain ⟨s, c, q, h⟩ := h
  exact ⟨!s, c, q, by rw [Jvm.FP.val64_dneg, h]; rfl⟩
theorem Zk_add (hK : K ≤ 2045) (h : Zk K a b) (h' : Zk K c d) : Zk (K + 2) (FP.dadd a c) (FP.dadd b d) := by
  refine ⟨Jvm.FP.Core.dadd_mag h.1 h'.1 (by omega), Jvm.FP.Core.dadd_mag h.2.1 h'.2.1 (by omega), ?_⟩
  have fa := BK_fin h.1 (by omega)
  have fb := BK_fin h.2.1 (by omega)
  have fc := BK_fin h'.1 (by omega)
  have fd := BK_fin h'.2.1 (by omega)
  rcases V_or fa fb h.2.2 with e | ⟨z1, z2⟩
  · rcases V_or fc fd h'.2.2 with e' | ⟨z1, z2⟩
    · rw [e, e']
    · rw [(V_addz fa z1).1, (V_addz fb z2).1]; exact h.2.2
  · rw [(V_addz fc z1).2, (V_addz fd z2).2]; exact h'.2.2
theorem V_sub : V (FP.dsub a b) = V (FP.dadd a (Jvm.FP.Core.dneg b)) := by
  show V (Jvm.FP.Core.dsub a b) = _
  rw [Jvm.FP.Core.dsub_eq]
theorem Zk_sub (hK : K ≤ 2045) (h : Zk K a b) (h' : Zk K c d) : Zk (K + 2) (FP.dsub a c) (FP.dsub b d) := by
  refine ⟨Jvm.FP.Core.dsub_mag h.1 h'.1 (by omega), Jvm.FP.Core.dsub_mag h.2.1 h'.2.1 (by omega), ?_⟩
  have fa := BK_fin h.1 (by omega)
  have fb := BK_fin h.2.1 (by omega)
  have fc := BK_fin h'.1 (by omega)
  have fd := BK_fin h'.2.1 (by omega)
  rcases V_or fa fb h.2.2 with e | ⟨z1, z2⟩
  · rcases V_or fc fd h'.2.2 with e' | ⟨z1, z2⟩
    · rw [e, e']
    · have y1 : Jvm.FP.Core.DZero (Jvm.FP.Core.dneg c) := zero_V (fin_cneg fc) (by rw [V_cneg, V_zero z1]; rfl)
      have y2 : Jvm.FP.Core.DZero (Jvm.FP.Core.dneg d) := zero_V (fin_cneg fd) (by rw [V_cneg, V_zero z2]; rfl)
      rw [V_sub, V_sub, (V_addz fa y1).1, (V_addz fb y2).1]; exact h.2.2
  · rw [V_sub, V_sub, (V_addz (fin_cneg fc) z1).2, (V_addz (fin_cneg fd) z2).2, V_cneg, V_cneg, h'.2.2]
theorem Zk_mul {Ka Kb : Nat} (h1 : Ka ≤ 2047) (h2 : Kb ≤ 2047) (h : Zk Ka a b) (h' : Zk Kb c d) : Zk (Ka + Kb - 1025 + 3) (FP.dmul a c) (FP.dmul b d) := by
  refine ⟨Jvm.FP.Core.dmul_mag h.1 h'.1 h1 h2, Jvm.FP.Core.dmul_mag h.2.1 h'.2.1 h1 h2, ?_⟩
  have fa := BK_fin h.1 (by omega)
  have fb := BK_fin h.2.1 (by omega)
  have fc := BK_fin h'.1 (by omega)
  have fd := BK_fin h'.2.1 (by omega)
  rcases V_or fa fb h.2.2 with e | ⟨z1, z2⟩
  · rcases V_or fc fd h'.2.2 with e' | ⟨z1, z2⟩
    · rw [e, e']
    · rw [V_zero (Jvm.FP.Core.dmul_zero fa z1), V_zero (Jvm.FP.Core.dmul_zero fb z2)]
  · rw [V_zero (Jvm.FP.Core.dzero_mul fc z1), V_zero (Jvm.FP.Core.dzero_mul fd z2)]
theorem mul_comm64 : FP.dmul a b = FP.dmul b a := Jvm.FP.Core.dmul_comm a b
theorem div_zero64 (h : Jvm.FP.Core.DZero a) (hc : Jvm.FP.Core.DFin c) (hz : ¬ Jvm.FP.Core.DZero c) : Jvm.FP.Core.DZero (FP.ddiv a c) := by
  obtain ⟨s, q, h⟩ := h
  obtain ⟨t, m, r, hc⟩ := hc
  refine ⟨s != t, Jvm.FP.Core.b64.qmin, ?_⟩
  show Jvm.FP.Core.val64 (Jvm.FP.Core.ddiv a c) = _
  rw [Jvm.FP.Core.val64_ddiv, h, hc]
  have hm : m ≠ 0 := fun e => hz ⟨t, r, by rw [hc, e]⟩
  show (if m = 0 then _ else Jvm.FP.Core.roundRatio Jvm.FP.Core.b64 (s != t) 0 m (q - r)) = _
  rw [if_neg hm]
  unfold Jvm.FP.Core.roundRatio
  rw [if_pos rfl]
theorem Zk_div (hK : K ≤ 2047) (hL : 1 ≤ L) (h : Zk K a b) (h1 : L * 2 ^ 52 ≤ c.toNat % 2 ^ 63) (h2 : c.toNat % 2 ^ 63 < 2047 * 2 ^ 52) : Zk (K + (1074 - 52 - 1) - L + 3) (FP.ddiv a c) (FP.ddiv b c) := by
  refine ⟨Jvm.FP.Core.ddiv_mag h.1 h1 h2 hK hL, Jvm.FP.Core.ddiv_mag h.2.1 h1 h2 hK hL, ?_⟩
  have fa := BK_fin h.1 (by omega)
  have fb := BK_fin h.2.1 (by omega)
  have fc : Jvm.FP.Core.DFin c := Jvm.FP.Core.fin_of_lt h2 (by omega)
  have hz : ¬ Jvm.FP.Core.DZero c := fun z => by
    have := (Jvm.FP.Core.zero_bits2 c).mp z
    have h3 : 1 * 2 ^ 52 ≤ L * 2 ^ 52 := Nat.mul_le_mul_right _ hL
    rw [this] at h1
    exact absurd (Nat.le_trans h3 h1) (by decide)
  rcases V_or fa fb h.2.2 with e | ⟨z1, z2⟩
  · rw [e]
  · rw [V_zero (div_zero64 z1 fc hz), V_zero (div_zero64 z2 fc hz)]
/-- int values -/
theorem V_int {i : Int} (h : Jvm.FP.Core.DInt i a) : V a = i * (Jvm.FP.Core.one64 : Int) := Jvm.FP.Core.DInt_zval h
theorem int_fin {i : Int} (h : Jvm.FP.Core.DInt i a) : Jvm.FP.Core.DFin a := by
  unfold Jvm.FP.Core.DInt at h
  cases e : Jvm.FP.Core.val64 a with
  | nan => rw [e] at h; exact h.elim
  | inf s => rw [e] at h; exact h.elim
  | fin s c q => exact ⟨s, c, q, e⟩
theorem d2l_V (ha : Jvm.FP.Core.DFin a) : (FP.d2l a).toInt = max (-2 ^ 63) (min (2 ^ 63 - 1) ((V a).tdiv (Jvm.FP.Core.one64 : Int))) := by
  show (Jvm.FP.Core.d2l a).toInt = _
  rw [Jvm.FP.Core.d2l_val ha.ne_nan]
  have e : Jvm.FP.Core.signed (Jvm.FP.Core.sgn (Jvm.FP.Core.val64 a)) (Jvm.FP.Core.zmag Jvm.FP.Core.b64 (Jvm.FP.Core.val64 a) / Jvm.FP.Core.one64) = (V a).tdiv (Jvm.FP.Core.one64 : Int) := by
    unfold V Jvm.FP.Core.zval Jvm.FP.Core.signed
    cases Jvm.FP.Core.sgn (Jvm.FP.Core.val64 a)
    · simp only [Bool.false_eq_true, if_false]
      rw [Int.tdiv_eq_ediv_of_nonneg (by omega)]; rfl
    · simp only [if_true]
      rw [Int.neg_tdiv, Int.tdiv_eq_ediv_of_nonneg (by omega)]; rfl
  rw [e]
theorem d2l_Z (h : Zk K a b) (hK : K ≤ 2047) : FP.d2l a = FP.d2l b := by
  have e1 := d2l_V (BK_fin h.1 hK)
  have e2 := d2l_V (BK_fin h.2.1 hK)
  rw [h.2.2] at e1
  exact Int64.toInt.inj (e1.trans e2.symm)
end FP1
