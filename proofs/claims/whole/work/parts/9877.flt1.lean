section FLT1
variable {a b x y z : UInt64} {τ σ τ' σ' σ0 : Sg} {s t v : Int32}
theorem d_50 : Jvm.FP.Core.DInt 1125899906842624 4832362400168542208 := by
  have e : Jvm.FP.Core.val64 4832362400168542208 = .fin false (2 ^ 52) (-2) := by decide +kernel
  unfold Jvm.FP.Core.DInt
  rw [e]
  show Jvm.FP.Core.signed false (2 ^ 52 * 2 ^ (-2 : Int).toNat) = 1125899906842624 * ((2 ^ (-(-2 : Int)).toNat : Nat) : Int)
  decide
theorem n_50 : (14055734437023318016 : UInt64) = Jvm.FP.Core.dneg 4832362400168542208 := by decide +kernel
theorem d_n50 : Jvm.FP.Core.DInt (-1125899906842624) 14055734437023318016 := by
  rw [n_50]; exact Jvm.FP.Core.dneg_int d_50
/-- both hold a slot within 2^50 -/
theorem within_rel {K : Nat} (h : Zk K a b) (hK : K ≤ 2000) : ∃ y z, f_X2_within a = some y ∧ Zk 1074 y z ∧ ∀ (s : Int32) (σ : Sg), ix s 8 → gD σ 160 s.toNatClampNeg = b → c_X12_keepsF s σ = some (pD σ 160 s.toNatClampNeg z) := by
  have fa := BK_fin h.1 (by omega)
  have fb := BK_fin h.2.1 (by omega)
  have v1 := V_int d_50
  have v2 := V_int d_n50
  have up := u_pos
  have hv := h.2.2
  unfold f_X2_within
  simp only [cl_le fa (int_fin d_50), cg_ge fa (int_fin d_n50)]
  by_cases g1 : V a ≤ V 4832362400168542208
  · rw [if_pos g1]
    by_cases g2 : V 14055734437023318016 ≤ V a
    · rw [if_pos g2]
      refine ⟨a, b, rfl, ⟨V_bku 51 fa ?_ ?_, V_bku 51 fb ?_ ?_, hv⟩, ?_⟩
      · rw [show (2 ^ 51 : Nat) = 2251799813685248 by decide]; omega
      · rw [show (2 ^ 51 : Nat) = 2251799813685248 by decide]; omega
      · rw [show (2 ^ 51 : Nat) = 2251799813685248 by decide]; omega
      · rw [show (2 ^ 51 : Nat) = 2251799813685248 by decide]; omega
      · intro s σ hs hg
        unfold c_X12_keepsF
        rw [ck_t hs, hg]
        simp only [cl_le fb (int_fin d_50), cg_ge fb (int_fin d_n50)]
        rw [if_pos (by omega), ck_t hs, if_pos (by omega), ck_t hs]
        unfold d_X12_keepsF_49
        rw [ck_t hs, nm_t]
    · rw [if_neg g2]
      refine ⟨_, 14055734437023318016, rfl, Zk_refl (by unfold BK; decide), ?_⟩
      intro s σ hs hg
      unfold c_X12_keepsF
      rw [ck_t hs, hg]
      simp only [cl_le fb (int_fin d_50), cg_ge fb (int_fin d_n50)]
      rw [if_pos (by omega), ck_t hs, if_neg (by omega)]
      unfold d_X12_keepsF_49
      rw [ck_t hs, nm_t]
  · rw [if_neg g1]
    refine ⟨_, 4832362400168542208, rfl, Zk_refl (by unfold BK; decide), ?_⟩
    intro s σ hs hg
    unfold c_X12_keepsF
    rw [ck_t hs, hg]
    simp only [cl_le fb (int_fin d_50), cg_ge fb (int_fin d_n50)]
    rw [if_neg (by omega)]
    unfold d_X12_keepsF_49
    rw [ck_t hs, nm_t]
/-- the state of runs by doubles; the slot s is not held yet -/
def FK (τ σ : Sg) : Prop := (Zk 1074 (gD τ 60 3) (gD σ 130 45) ∧ 0 ≤ V (gD τ 60 3) ∧ V (gD τ 60 3) ≤ (Jvm.FP.Core.one64 : Int)) ∧ (∀ k, k < 8 → gD σ 161 k = FP.l2d (gJ τ 64 k) ∧ -2199023255552 ≤ (gJ τ 64 k).toInt ∧ (gJ τ 64 k).toInt ≤ 2199023255552) ∧ (∀ k, k < 8 → gJ σ 146 (8 + k) = gJ τ 62 k) ∧ gI σ 130 16 = 0 ∧ Lay τ ∧ Lay σ
def FS (τ σ : Sg) : Prop := (∀ k, k < 8 → Zk 1074 (gD τ 67 k) (gD σ 160 k)) ∧ FK τ σ
def FSk (s : Nat) (τ σ : Sg) : Prop := (∀ k, k < 8 → k ≠ s → Zk 1074 (gD τ 67 k) (gD σ 160 k)) ∧ Zk 1200 (gD τ 67 s) (gD σ 160 s) ∧ FK τ σ
def Fz (σ σ' : Sg) : Prop := Ft σ σ' ∧ Sm σ σ' 159
theorem Fz_trans {σ'' : Sg} (h : Fz σ σ') (h' : Fz σ' σ'') : Fz σ σ'' := ⟨Ft_trans h.1 h'.1, Sm_tr h.2 h'.2⟩
theorem Fz_refl (h : FK τ σ) : Fz σ σ := ⟨Ft_refl h.2.2.2.2.2 h.2.2.2.1, Sm_refl⟩
theorem Lay_pD {k c : Nat} (h : Lay σ) : Lay (pD σ c k x) := h
theorem Lay_pJ {k c : Nat} {w : Int64} (h : Lay σ) : Lay (pJ σ c k w) := h
theorem Lay_pI {k c : Nat} {w : Int32} (h : Lay σ) : Lay (pI σ c k w) := h
theorem Fz_D {c k : Nat} (h : FK τ σ) (hc : c = 130 ∨ c = 160 ∨ c = 161) : Fz σ (pD σ c k x) := by
  obtain ⟨-, -, -, h4, -, h6⟩ := h
  refine ⟨⟨fun a ha => Sm_pD Sm_refl (by omega), fun k _ => rfl, h4, fun j _ => ⟨rfl, rfl, rfl, rfl, rfl⟩, fun j _ => rfl, fun j _ => ⟨rfl, rfl⟩, h6⟩, Sm_pD Sm_refl (by omega)⟩
theorem Fz_J {k : Nat} {w : Int64} (h : FK τ σ) (hk : 8 ≤ k) : Fz σ (pJ σ 146 k w) := by
  obtain ⟨-, -, -, h4, -, h6⟩ := h
  refine ⟨⟨fun a ha => Sm_pJ Sm_refl (by omega), fun k _ => rfl, h4, fun j hj => ⟨?_, ?_, ?_, rfl, ?_⟩, fun j _ => ?_, fun j _ => ⟨?_, ?_⟩, h6⟩, Sm_pJ Sm_refl (by omega)⟩
  all_goals simp (disch := omega) only [gI_pI_s, gJ_pJ_s, gD_pD_s, gI_pJ, gI_pD, gJ_pI, gJ_pD, gD_pI, gD_pJ, gI_pI_a, gJ_pJ_a, gD_pD_a, gI_pI_k, gJ_pJ_k, gD_pD_k]
theorem FK_put {k k' : Nat} (h : FK τ σ) : FK (pD τ 67 k y) (pD σ 160 k' z) := by
  obtain ⟨h1, h2, h3, h4, h5, h6⟩ := h
  refine ⟨?_, ?_, h3, h4, h5, h6⟩
  · simp (disch := omega) only [gI_pI_s, gJ_pJ_s, gD_pD_s, gI_pJ, gI_pD, gJ_pI, gJ_pD, gD_pI, gD_pJ, gI_pI_a, gJ_pJ_a, gD_pD_a, gI_pI_k, gJ_pJ_k, gD_pD_k]; exact h1
  · intro k hk; simp (disch := omega) only [gI_pI_s, gJ_pJ_s, gD_pD_s, gI_pJ, gI_pD, gJ_pI, gJ_pD, gD_pI, gD_pJ, gI_pI_a, gJ_pJ_a, gD_pD_a, gI_pI_k, gJ_pJ_k, gD_pD_k]; exact h2 k hk
theorem FK_putr {k : Nat} (h : FK τ σ) : FK τ (pD σ 160 k z) := by
  obtain ⟨h1, h2, h3, h4, h5, h6⟩ := h
  refine ⟨?_, ?_, h3, h4, h5, h6⟩
  · simp (disch := omega) only [gI_pI_s, gJ_pJ_s, gD_pD_s, gI_pJ, gI_pD, gJ_pI, gJ_pD, gD_pI, gD_pJ, gI_pI_a, gJ_pJ_a, gD_pD_a, gI_pI_k, gJ_pJ_k, gD_pD_k]; exact h1
  · intro k hk; simp (disch := omega) only [gI_pI_s, gJ_pJ_s, gD_pD_s, gI_pJ, gI_pD, gJ_pI, gJ_pD, gD_pI, gD_pJ, gI_pI_a, gJ_pJ_a, gD_pD_a, gI_pI_k, gJ_pJ_k, gD_pD_k]; exact h2 k hk
theorem FS_put {k : Nat} (h : FS τ σ) (hz : Zk 1200 y z) : FSk k (pD τ 67 k y) (pD σ 160 k z) := by
  refine ⟨fun j hj hne => ?_, ?_, FK_put h.2⟩
  · rw [gD_pD_k hne, gD_pD_k hne]; exact h.1 j hj
  · rw [gD_pD_s, gD_pD_s]; exact hz
theorem FS_sub {k : Nat} (h : FS τ σ) (hk : k < 8) : FSk k τ σ := ⟨fun j hj _ => h.1 j hj, Zk_mono (h.1 k hk) (by decide), h.2⟩
/-- an act and then the slot held -/
def AF (s : Int32) (σ : Sg) (X Y : Option Sg) : Prop := ∃ τ1 σ1, X = some τ1 ∧ Y = c_X12_keepsF s σ1 ∧ FSk s.toNatClampNeg τ1 σ1 ∧ Fz σ σ1
theorem AF_put (h : FS τ σ) (hz : Zk 1200 y z) : AF s σ (some (pD τ 67 s.toNatClampNeg y)) (c_X12_keepsF s (pD σ 160 s.toNatClampNeg z)) :=
  ⟨_, _, rfl, rfl, FS_put h hz, Fz_D h.2 (by omega)⟩
theorem AF_held {X Y : Option Sg} (h : AF s σ X Y) (hs : 0 ≤ s.toInt ∧ s.toInt ≤ 7) : ∃ τ1 τ2 σ2 y, X = some τ1 ∧ f_X2_within (gD τ1 67 s.toNatClampNeg) = some y ∧ τ2 = pD τ1 67 s.toNatClampNeg y ∧ Y = some σ2 ∧ FS τ2 σ2 ∧ Fz σ σ2 := by
  obtain ⟨τ1, σ1, e1, e2, f1, f2⟩ := h
  have hx : ix s 8 := ix_of hs.1 (by omega)
  have s8 := n7 hs
  obtain ⟨y, z, w1, w2, w3⟩ := within_rel f1.2.1 (by decide)
  refine ⟨τ1, _, _, y, e1, w1, rfl, by rw [e2, w3 s σ1 hx rfl], ⟨?_, FK_put f1.2.2⟩, Fz_trans f2 (Fz_D f1.2.2 (by omega))⟩
  intro k hk
  by_cases q : k = s.toNatClampNeg
  · rw [q, gD_pD_s, gD_pD_s]; exact w2
  · rw [gD_pD_k q, gD_pD_k q]; exact f1.1 k hk q
/-- the amount -/
theorem amt_rel (ha : -1000000 ≤ s.toInt ∧ s.toInt ≤ 1000000) : Zk 1045 (FP.i2d s) (FP.dadd FP.dconst0 (FP.i2d s)) := by
  have i := Jvm.FP.Core.i2d_int s
  have bk : BK (1023 + 20) (FP.i2d s) := int_bk 20 i (by show (-1048576 : Int) < _; omega) (by show _ < (1048576 : Int); omega)
  have b0 : BK 1043 FP.dconst0 := by unfold BK; decide
  refine ⟨BK_mono bk (by decide), Jvm.FP.Core.dadd_mag b0 bk (by decide), ?_⟩
  rw [(V_addz (int_fin i) (zero_V (BK_fin b0 (by decide)) (by rw [dc0]; exact V_zz))).2]
theorem rate_rel (h : Rtab τ σ) (ht : 0 ≤ t.toInt ∧ t.toInt ≤ 7) : ∃ r, c_X2_rateOf t τ = some r ∧ c_X12_rateF t σ = some r ∧ BK 1038 r := by
  obtain ⟨u1, u2, u3, u4, u5, u6⟩ := h t.toNatClampNeg (n7 ht)
  have hx : ix t 8 := ix_of ht.1 (by omega)
  unfold c_X2_rateOf c_X12_rateF
  simp only [u1, u2, ck_t hx]
  rw [if_neg (by rw [i32_le]; show ¬ _ ≤ (0 : Int); omega)]
  have i := Jvm.FP.Core.i2d_int (gI τ 6 t.toNatClampNeg)
  have j := Jvm.FP.Core.i2d_int (gI τ 7 t.toNatClampNeg)
  have b1 : BK (1023 + 14) (FP.i2d (gI τ 6 t.toNatClampNeg)) := int_bk 14 i (by show (-16384 : Int) < _; omega) (by show _ < (16384 : Int); omega)
  have b2 : BK (1023 + 10) (FP.i2d (gI τ 7 t.toNatClampNeg)) := int_bk 10 j (by show (-1024 : Int) < _; omega) (by show _ < (1024 : Int); omega)
  have up := u_pos
  have vj := V_int j
  have g : (Jvm.FP.Core.one64 : Int) ≤ V (FP.i2d (gI τ 7 t.toNatClampNeg)) := by
    rw [show V (FP.i2d (gI τ 7 t.toNatClampNeg)) = _ from vj]
    have := Int.mul_le_mul_of_nonneg_right u5 (Int.le_of_lt up)
    omega
  have lo : 1023 * 2 ^ 52 ≤ (FP.i2d (gI τ 7 t.toNatClampNeg)).toNat % 2 ^ 63 := by
    refine Nat.le_of_not_lt fun q => ?_
    have b0 : BK (1023 + 0) (FP.i2d (gI τ 7 t.toNatClampNeg)) := q
    have := BK_V 0 b0 (by decide)
    simp only [Nat.pow_zero, Int.natCast_one, Int.one_mul] at this
    omega
  have bd := (Zk_div (K := 1037) (L := 1023) (by decide) (by decide) (Zk_refl b1) lo (Nat.lt_of_lt_of_le b2 (by decide))).1
  have n := BK_n64 bd (by decide)
  rw [ck_t n]
  exact ⟨_, rfl, rfl, bd⟩
theorem one_u : Jvm.FP.Core.DInt 1 FP.dconst1 := Jvm.FP.Core.dint_one
/-- rounding to even of any product -/
theorem even1_rel {K : Nat} (h : Zk K a b) (hK : K ≤ 2000) (hK2 : 1076 ≤ K) : ∃ y z, f_X2_even a = some y ∧ f_X12_roundedF b FP.dconst1 1 = some z ∧ Zk K y z := by
  obtain ⟨y, z, e1, e2, e3⟩ := even_rel h hK hK2
  refine ⟨y, z, e1, ?_, e3⟩
  have fb := BK_fin h.2.1 (by omega)
  have d1 : FP.ddiv b FP.dconst1 = b := Jvm.FP.Core.ddiv_one fb.ne_nan
  have fz := BK_fin e3.2.1 (by omega)
  have m1 : FP.dmul z FP.dconst1 = z := Jvm.FP.Core.dmul_one fz.ne_nan
  unfold f_X12_roundedF
  simp only [nm_t]
  rw [d1, ck_t (fin_n64 fb), if_neg (by decide), if_pos (by trivial), e2, bp_s, ck_t (fin_n64 fz), m1, ck_t (fin_n64 fz)]
theorem l2d_zz : FP.l2d 0 = FP.dconst0 := by decide +kernel
end FLT1
