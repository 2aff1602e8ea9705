section FLT2
variable {a b x y z : UInt64} {p n : Nat} {τ σ τ' σ' σ0 : Sg} {s t v P i : Int32}
theorem ix8 (hv : 0 ≤ v.toInt ∧ v.toInt ≤ 7) : ((8 : Int32) + v).toNatClampNeg = 8 + v.toNatClampNeg ∧ ix ((8 : Int32) + v) 16 := by
  have e : ((8 : Int32) + v).toInt = 8 + v.toInt := by
    rw [i32_add (by simp only [Int32.reduceToInt]; omega) (by simp only [Int32.reduceToInt]; omega)]; rfl
  refine ⟨by rw [i32_nat, i32_nat, e]; omega, ix_of (by omega) (by omega)⟩
theorem car_bk {c : UInt64} (h : BK 1074 a) (hc : BK 1074 c) (h0 : 0 ≤ V c) (h1 : V c ≤ (Jvm.FP.Core.one64 : Int)) : BK 1075 (FP.dadd c a) := by
  have fa := BK_fin h (by decide)
  have fc := BK_fin hc (by decide)
  have bd := BK_V 51 h (by decide)
  rw [show (2 ^ 51 : Nat) = 2251799813685248 by decide] at bd
  have up := u_pos
  have v1 := V_int l51
  have v2 := V_int l51n
  have p1 : BK 1076 (FP.dadd c a) := Jvm.FP.Core.dadd_mag hc h (by decide)
  have a1 := dadd_le fc fa (int_fin l51) (by omega)
  have a2 := dadd_ge fc fa (int_fin l51n) (by omega)
  refine V_bku 52 (BK_fin p1 (by decide)) ?_ ?_ <;> rw [show (2 ^ 52 : Nat) = 4503599627370496 by decide] <;> omega
theorem flo_in (z : Int) : flo z * (Jvm.FP.Core.one64 : Int) ≤ z ∧ z < flo z * (Jvm.FP.Core.one64 : Int) + (Jvm.FP.Core.one64 : Int) := by
  unfold flo
  have a1 := Int.ediv_mul_le z (b := (Jvm.FP.Core.one64 : Int)) (by have := u_pos; omega)
  have a2 := Int.lt_ediv_add_one_mul_self z u_pos
  rw [Int.add_mul, Int.one_mul] at a2
  exact ⟨a1, a2⟩
theorem f_carry (h : FS τ σ) (hs : 0 ≤ s.toInt ∧ s.toInt ≤ 7) : AF s σ (c_X2_carry s τ) (ck (ix s 8) <| ck (n64 (FP.dadd (gD σ 130 45) (gD σ 160 s.toNatClampNeg))) <| ck (n64 (FP.dadd (gD σ 130 45) (gD σ 160 s.toNatClampNeg))) <| ck (ix s 8) <| ck (ix s 8) <| ck (n64 (FP.dsub (FP.dadd (gD σ 130 45) (gD σ 160 s.toNatClampNeg)) (gD (pD σ 160 s.toNatClampNeg (Jvm.Free.Hsc.floorOf (FP.dadd (gD σ 130 45) (gD σ 160 s.toNatClampNeg)))) 160 s.toNatClampNeg))) <| c_X12_keepsF s (pD (pD σ 160 s.toNatClampNeg (Jvm.Free.Hsc.floorOf (FP.dadd (gD σ 130 45) (gD σ 160 s.toNatClampNeg)))) 130 45 (FP.dsub (FP.dadd (gD σ 130 45) (gD σ 160 s.toNatClampNeg)) (gD (pD σ 160 s.toNatClampNeg (Jvm.Free.Hsc.floorOf (FP.dadd (gD σ 130 45) (gD σ 160 s.toNatClampNeg)))) 160 s.toNatClampNeg)))) := by
  have hx : ix s 8 := ix_of hs.1 (by omega)
  have s8 := n7 hs
  obtain ⟨h0, ⟨h1, h1a, h1b⟩, h2⟩ := h
  have hz := h0 _ s8
  have zs : Zk 1075 (FP.dadd (gD τ 60 3) (gD τ 67 s.toNatClampNeg)) (FP.dadd (gD σ 130 45) (gD σ 160 s.toNatClampNeg)) := ⟨car_bk hz.1 h1.1 h1a h1b, car_bk hz.2.1 h1.2.1 (by rw [← h1.2.2]; exact h1a) (by rw [← h1.2.2]; exact h1b), (Zk_add (by decide) h1 hz).2.2⟩
  rw [gD_pD_s, ck_t hx, ck_t hx, ck_t hx]
  unfold c_X2_carry
  simp only [nm_t, gD_pD_s]
  generalize FP.dadd (gD τ 60 3) (gD τ 67 s.toNatClampNeg) = p at *
  generalize FP.dadd (gD σ 130 45) (gD σ 160 s.toNatClampNeg) = r at *
  obtain ⟨y, e, i⟩ := Xfloor_v zs.1
  have j := floorOf_v zs.2.1
  rw [← zs.2.2] at j
  have l := flo_le zs.1
  have zf := int_rel i j l.1 l.2
  have zd := Zk_sub (K := 1076) (by decide) (Zk_mono zs (by decide)) zf
  have fi := flo_in (V p)
  have up := u_pos
  have vi := V_int i
  have fp := BK_fin zs.1 (by decide)
  have d1 := dsub_ge fp (int_fin i) fin_zz (by rw [V_zz]; omega)
  have d2 := dsub_le fp (int_fin i) (int_fin Jvm.FP.Core.dint_one) (by rw [V_one]; omega)
  rw [V_zz] at d1
  rw [V_one] at d2
  have zd2 : Zk 1074 (FP.dsub p y) (FP.dsub r (Jvm.Free.Hsc.floorOf r)) := by
    refine ⟨BK_mono (V_bku 1 (BK_fin zd.1 (by decide)) ?_ ?_) (by decide), BK_mono (V_bku 1 (BK_fin zd.2.1 (by decide)) ?_ ?_) (by decide), zd.2.2⟩
    · rw [show (2 ^ 1 : Nat) = 2 by decide]; omega
    · rw [show (2 ^ 1 : Nat) = 2 by decide]; omega
    · rw [show (2 ^ 1 : Nat) = 2 by decide, ← zd.2.2]; omega
    · rw [show (2 ^ 1 : Nat) = 2 by decide, ← zd.2.2]; omega
  rw [ck_t hx, ck_t (BK_n64 zs.1 (by decide)), ck_t (BK_n64 zs.2.1 (by decide)), ck_t (BK_n64 zs.2.1 (by decide)), ck_t (BK_n64 zd.2.1 (by decide)), e, bp_s, ck_t hx, ck_t hx, ck_t (BK_n64 zd.1 (by decide))]
  have hK : FK τ σ := ⟨⟨h1, h1a, h1b⟩, h2⟩
  refine ⟨_, _, rfl, rfl, ⟨fun k hk hne => ?_, ?_, ?_⟩, ?_⟩
  · simp (disch := omega) only [gI_pI_s, gJ_pJ_s, gD_pD_s, gI_pJ, gI_pD, gJ_pI, gJ_pD, gD_pI, gD_pJ, gI_pI_a, gJ_pJ_a, gD_pD_a, gI_pI_k, gJ_pJ_k, gD_pD_k]; exact h0 k hk
  · simp (disch := omega) only [gI_pI_s, gJ_pJ_s, gD_pD_s, gI_pJ, gI_pD, gJ_pI, gJ_pD, gD_pI, gD_pJ, gI_pI_a, gJ_pJ_a, gD_pD_a, gI_pI_k, gJ_pJ_k, gD_pD_k]; exact Zk_mono zf (by decide)
  · refine ⟨?_, ?_, h2.2.1, h2.2.2.1, h2.2.2.2⟩
    · simp (disch := omega) only [gI_pI_s, gJ_pJ_s, gD_pD_s, gI_pJ, gI_pD, gJ_pI, gJ_pD, gD_pI, gD_pJ, gI_pI_a, gJ_pJ_a, gD_pD_a, gI_pI_k, gJ_pJ_k, gD_pD_k]; exact ⟨zd2, d1, by omega⟩
    · intro k hk; simp (disch := omega) only [gI_pI_s, gJ_pJ_s, gD_pD_s, gI_pJ, gI_pD, gJ_pI, gJ_pD, gD_pI, gD_pJ, gI_pI_a, gJ_pJ_a, gD_pD_a, gI_pI_k, gJ_pJ_k, gD_pD_k]; exact h2.1 k hk
  · exact Fz_trans (Fz_D hK (c := 160) (by omega)) (Fz_D (FK_putr hK) (by omega))
theorem sF52 : ∀ (d n : Nat) (k : Int32) (σ : Sg), 0 ≤ k.toInt → k.toInt + d = 8 → d < n → d_X12_splitsF_52 n k σ = some (mD σ 161 k.toNatClampNeg 8 (fun j => FP.l2d (gJ σ 144 (8 + j)))) := by
  intro d
  induction d with
  | zero =>
    intro n k σ h3 h4 h5
    obtain ⟨n, rfl⟩ : ∃ k, n = k + 1 := ⟨n - 1, by omega⟩
    have := nat0 h3
    rw [d_X12_splitsF_52, if_pos (by rw [i32_le]; simp only [Int32.reduceToInt]; omega), mD_nil (by omega)]
  | succ d ih =>
    intro n k σ h3 h4 h5
    obtain ⟨n, rfl⟩ : ∃ k, n = k + 1 := ⟨n - 1, by omega⟩
    obtain ⟨c1, c2, c3⟩ := cnt1 (v := k) (m := 64) h3 (by omega) (by decide)
    obtain ⟨x1, x2⟩ := ix8 (v := k) ⟨h3, by omega⟩
    rw [d_X12_splitsF_52, if_neg (by rw [i32_le]; simp only [Int32.reduceToInt]; omega), ck_t x2, ck_ix (by omega), nm_t, nm_t, ih n (k + 1) _ (by omega) (by omega) (by omega), c2, x1]
    have e : (fun j => FP.l2d (gJ (pD σ 161 k.toNatClampNeg (FP.l2d (gJ σ 144 (8 + k.toNatClampNeg)))) 144 (8 + j))) = fun j => FP.l2d (gJ σ 144 (8 + j)) := rfl
    rw [e, mD_step (f := fun j => FP.l2d (gJ σ 144 (8 + j))) (by omega) rfl]
/-- what both split -/
def dvd40 (w : Int64) : Int64 := if (1099511627776 : Int64) < w then 0 else if (-1099511627776 : Int64) ≤ w then w else 0
theorem dvd_in (w : Int64) : -1099511627776 ≤ (dvd40 w).toInt ∧ (dvd40 w).toInt ≤ 1099511627776 := by
  unfold dvd40
  simp only [i64_lt, i64_le, show (1099511627776 : Int64).toInt = 1099511627776 from rfl, show (-1099511627776 : Int64).toInt = -1099511627776 from rfl]
  split
  · decide
  · split
    · omega
    · decide
theorem f_split (h : FS τ σ) (hn : 200 ≤ n) (hs : 0 ≤ s.toInt ∧ s.toInt ≤ 7) (ht : 0 ≤ t.toInt ∧ t.toInt ≤ 3) (hv : 0 ≤ v.toInt ∧ v.toInt ≤ 3) (hw : Wm v.toNatClampNeg v τ σ) :
    AF s σ (ck (ix s 8) <| bp (f_X2_dividable (gD τ 67 s.toNatClampNeg)) fun x238 => ck (ix v 4) <| ck (ix v 4) <| c_X7_divide n 63 x238 t (v.toNatClampNeg + 9) (gI τ 13 v.toNatClampNeg) τ) (bp (c_X12_splitsF n s t v σ) fun σ247 => c_X12_keepsF s σ247) := by
  have hx : ix s 8 := ix_of hs.1 (by omega)
  have hxv : ix v 4 := ix_of hv.1 (by omega)
  have s8 := n7 hs
  obtain ⟨h0, h1, h2, h3, h4, h5, h6⟩ := h
  have hK : FK τ σ := ⟨h1, h2, h3, h4, h5, h6⟩
  have ew : FP.d2l (gD σ 160 s.toNatClampNeg) = FP.d2l (gD τ 67 s.toNatClampNeg) := (d2l_Z (h0 _ s8) (by decide)).symm
  have e1 : f_X2_dividable (gD τ 67 s.toNatClampNeg) = some (dvd40 (FP.d2l (gD τ 67 s.toNatClampNeg))) := by
    unfold f_X2_dividable dvd40
    simp only [nm_t]
    split
    · rfl
    · split <;> rfl
  have e2 : c_X12_splitsF n s t v σ = d_X12_splitsF_39 n t v (dvd40 (FP.d2l (gD τ 67 s.toNatClampNeg))) (pI σ 130 16 1) := by
    unfold c_X12_splitsF d_X12_splitsF_33 dvd40
    simp only [nm_t]
    rw [ck_t hx, ew]
    split
    · rfl
    · split <;> rfl
  rw [ck_t hx, e1, bp_s, ck_t hxv, ck_t hxv, e2]
  have hX := dvd_in (FP.d2l (gD τ 67 s.toNatClampNeg))
  generalize dvd40 (FP.d2l (gD τ 67 s.toNatClampNeg)) = X at *
  obtain ⟨τ', d1, d2, -, -, -, -, -, d8, d9⟩ := divide_v (n := n) (A := 63) (z := v.toNatClampNeg) (τ := τ) (X := X) (rule := t) (sz := gI τ 13 v.toNatClampNeg) (by omega) (by unfold O6; omega) hw.1 rfl ⟨hw.2.2.2.1, hw.2.2.2.2.1⟩ (fun j hj => (hw.2.2.2.2.2 j hj).2) hX ht
  have hw' : Wm v.toNatClampNeg v τ (pI σ 130 16 1) := Wm_f hw (by simp (disch := omega) only [RI_pI, RI_mI, RI_pJ, RI_mJ, RI_pD, RI_mD, RJ_pI, RJ_mI, RJ_pJ, RJ_mJ, RJ_pD, RJ_mD, RD_pI, RD_mI, RD_pJ, RD_mJ, RD_pD, RD_mD]) (by simp (disch := omega) only [RI_pI, RI_mI, RI_pJ, RI_mJ, RI_pD, RI_mD, RJ_pI, RJ_mI, RJ_pJ, RJ_mJ, RJ_pD, RJ_mD, RD_pI, RD_mI, RD_pJ, RD_mJ, RD_pD, RD_mD])
  have b1 : (gI (pI σ 130 16 1) 130 16).toInt = ((1 : Nat) : Int) := by simp (disch := omega) only [gI_pI_s, gJ_pJ_s, gD_pD_s, gI_pJ, gI_pD, gJ_pI, gJ_pD, gD_pI, gD_pJ, gI_pI_a, gJ_pJ_a, gD_pD_a, gI_pI_k, gJ_pJ_k, gD_pD_k]; rfl
  obtain ⟨σ', m1, m2, m3, m4, m5, m6, m7⟩ := splits_v (n := n) (B := 1) (t := t) (X := X) hn hw' (Nat.le_refl 1) b1 ht hX
  obtain ⟨k1, k2, k3, k4, k5, k6⟩ := wts_v (τ := τ) (z := v.toNatClampNeg) ⟨hw.2.2.2.1, hw.2.2.2.2.1⟩ (fun j hj => (hw.2.2.2.2.2 j hj).2)
  unfold d_X12_splitsF_39
  rw [d1, m1, bp_s, nm_t, sF52 8 n 0 _ (by decide) (by decide) (by omega), bp_s, show (0 : Int32).toNatClampNeg = 0 from rfl]
  have lt' : Lay τ' := by rw [d9]; exact h5
  have ls' : Lay σ' := by rw [m7]; exact h6
  have q67 := (d8 67 (by omega)).2.2
  have q60 := (d8 60 (by omega)).2.2
  have q62 := (d8 62 (by omega)).2.1
  have g130 : ∀ k, k ≠ 16 → gI σ' 130 k = gI σ 130 k := fun k hk => by rw [m5]; simp (disch := omega) only [gI_pI_s, gJ_pJ_s, gD_pD_s, gI_pJ, gI_pD, gJ_pI, gJ_pD, gD_pI, gD_pJ, gI_pI_a, gJ_pJ_a, gD_pD_a, gI_pI_k, gJ_pJ_k, gD_pD_k]
  refine ⟨τ', _, rfl, rfl, ⟨fun k hk hne => ?_, ?_, ⟨?_, fun k hk => ?_, fun k hk => ?_, ?_, lt', ls'⟩⟩, ⟨⟨fun a ha => ?_, fun k hk => ?_, ?_, fun j hj => ⟨?_, ?_, ?_, ?_, ?_⟩, fun j hj => ?_, fun j hj => ⟨?_, ?_⟩, ls'⟩, ?_⟩⟩
  · simp (disch := omega) only [gI_pI_s, gJ_pJ_s, gD_pD_s, gI_pJ, gI_pD, gJ_pI, gJ_pD, gD_pI, gD_pJ, gI_pI_a, gJ_pJ_a, gD_pD_a, gI_pI_k, gJ_pJ_k, gD_pD_k, gI_mI_i, gJ_mJ_i, gD_mD_i, gI_mJ, gI_mD, gJ_mI, gJ_mD, gD_mI, gD_mJ, gI_mI_a, gJ_mJ_a, gD_mD_a, gI_mI_o, gJ_mJ_o, gD_mD_o]; rw [q67, m6]; exact h0 k hk
  · simp (disch := omega) only [gI_pI_s, gJ_pJ_s, gD_pD_s, gI_pJ, gI_pD, gJ_pI, gJ_pD, gD_pI, gD_pJ, gI_pI_a, gJ_pJ_a, gD_pD_a, gI_pI_k, gJ_pJ_k, gD_pD_k, gI_mI_i, gJ_mJ_i, gD_mD_i, gI_mJ, gI_mD, gJ_mI, gJ_mD, gD_mI, gD_mJ, gI_mI_a, gJ_mJ_a, gD_mD_a, gI_mI_o, gJ_mJ_o, gD_mD_o]; rw [q67, m6]; exact Zk_mono (h0 _ s8) (by decide)
  · simp (disch := omega) only [gI_pI_s, gJ_pJ_s, gD_pD_s, gI_pJ, gI_pD, gJ_pI, gJ_pD, gD_pI, gD_pJ, gI_pI_a, gJ_pJ_a, gD_pD_a, gI_pI_k, gJ_pJ_k, gD_pD_k, gI_mI_i, gJ_mJ_i, gD_mD_i, gI_mJ, gI_mD, gJ_mI, gJ_mD, gD_mI, gD_mJ, gI_mI_a, gJ_mJ_a, gD_mD_a, gI_mI_o, gJ_mJ_o, gD_mD_o]; rw [q60, m6]; exact h1
  · simp (disch := omega) only [gI_pI_s, gJ_pJ_s, gD_pD_s, gI_pJ, gI_pD, gJ_pI, gJ_pD, gD_pI, gD_pJ, gI_pI_a, gJ_pJ_a, gD_pD_a, gI_pI_k, gJ_pJ_k, gD_pD_k, gI_mI_i, gJ_mJ_i, gD_mD_i, gI_mJ, gI_mD, gJ_mI, gJ_mD, gD_mI, gD_mJ, gI_mI_a, gJ_mJ_a, gD_mD_a, gI_mI_o, gJ_mJ_o, gD_mD_o]
    have pb := Pf_b (x := X.toInt) (j := k) (rule := t.toInt) k2 k3 hX.1 hX.2 k5 k6
    have e3 := d2 k hk
    have e4 := m2 k hk
    rw [show 8 * 1 + k = 8 + k by omega] at e4
    rw [e4, show (64 : Nat) = 63 + 1 from rfl, e3, J_int (by omega) (by omega)]
    exact ⟨rfl, pb⟩
  · simp (disch := omega) only [gI_pI_s, gJ_pJ_s, gD_pD_s, gI_pJ, gI_pD, gJ_pI, gJ_pD, gD_pI, gD_pJ, gI_pI_a, gJ_pJ_a, gD_pD_a, gI_pI_k, gJ_pJ_k, gD_pD_k, gI_mI_i, gJ_mJ_i, gD_mD_i, gI_mJ, gI_mD, gJ_mI, gJ_mD, gD_mI, gD_mJ, gI_mI_a, gJ_mJ_a, gD_mD_a, gI_mI_o, gJ_mJ_o, gD_mD_o]; rw [q62, m4 146 (by decide)]; exact h3 k hk
  · simp (disch := omega) only [gI_pI_s, gJ_pJ_s, gD_pD_s, gI_pJ, gI_pD, gJ_pI, gJ_pD, gD_pI, gD_pJ, gI_pI_a, gJ_pJ_a, gD_pD_a, gI_pI_k, gJ_pJ_k, gD_pD_k, gI_mI_i, gJ_mJ_i, gD_mD_i, gI_mJ, gI_mD, gJ_mI, gJ_mD, gD_mI, gD_mJ, gI_mI_a, gJ_mJ_a, gD_mD_a, gI_mI_o, gJ_mJ_o, gD_mD_o]
  · have e3 : Sm σ σ' a := by
      refine ⟨?_, ?_, ?_⟩
      · rw [m5]; simp (disch := omega) only [RI_pI, RI_mI, RI_pJ, RI_mJ, RI_pD, RI_mD, RJ_pI, RJ_mI, RJ_pJ, RJ_mJ, RJ_pD, RJ_mD, RD_pI, RD_mI, RD_pJ, RD_mJ, RD_pD, RD_mD]
      · rw [m4 a (by omega)]; rfl
      · rw [m6]; rfl
    exact Sm_mD (Sm_pI e3 (by omega)) (by omega)
  · simp (disch := omega) only [gI_pI_s, gJ_pJ_s, gD_pD_s, gI_pJ, gI_pD, gJ_pI, gJ_pD, gD_pI, gD_pJ, gI_pI_a, gJ_pJ_a, gD_pD_a, gI_pI_k, gJ_pJ_k, gD_pD_k, gI_mI_i, gJ_mJ_i, gD_mD_i, gI_mJ, gI_mD, gJ_mI, gJ_mD, gD_mI, gD_mJ, gI_mI_a, gJ_mJ_a, gD_mD_a, gI_mI_o, gJ_mJ_o, gD_mD_o]; exact g130 k (by omega)
  · simp (disch := omega) only [gI_pI_s, gJ_pJ_s, gD_pD_s, gI_pJ, gI_pD, gJ_pI, gJ_pD, gD_pI, gD_pJ, gI_pI_a, gJ_pJ_a, gD_pD_a, gI_pI_k, gJ_pJ_k, gD_pD_k, gI_mI_i, gJ_mJ_i, gD_mD_i, gI_mJ, gI_mD, gJ_mI, gJ_mD, gD_mI, gD_mJ, gI_mI_a, gJ_mJ_a, gD_mD_a, gI_mI_o, gJ_mJ_o, gD_mD_o]
  · simp (disch := omega) only [gI_pI_s, gJ_pJ_s, gD_pD_s, gI_pJ, gI_pD, gJ_pI, gJ_pD, gD_pI, gD_pJ, gI_pI_a, gJ_pJ_a, gD_pD_a, gI_pI_k, gJ_pJ_k, gD_pD_k, gI_mI_i, gJ_mJ_i, gD_mD_i, gI_mJ, gI_mD, gJ_mI, gJ_mD, gD_mI, gD_mJ, gI_mI_a, gJ_mJ_a, gD_mD_a, gI_mI_o, gJ_mJ_o, gD_mD_o]; rw [m4 142 (by decide)]; rfl
  · simp (disch := omega) only [gI_pI_s, gJ_pJ_s, gD_pD_s, gI_pJ, gI_pD, gJ_pI, gJ_pD, gD_pI, gD_pJ, gI_pI_a, gJ_pJ_a, gD_pD_a, gI_pI_k, gJ_pJ_k, gD_pD_k, gI_mI_i, gJ_mJ_i, gD_mD_i, gI_mJ, gI_mD, gJ_mI, gJ_mD, gD_mI, gD_mJ, gI_mI_a, gJ_mJ_a, gD_mD_a, gI_mI_o, gJ_mJ_o, gD_mD_o]; rw [m4 143 (by decide)]; rfl
  · simp (disch := omega) only [gI_pI_s, gJ_pJ_s, gD_pD_s, gI_pJ, gI_pD, gJ_pI, gJ_pD, gD_pI, gD_pJ, gI_pI_a, gJ_pJ_a, gD_pD_a, gI_pI_k, gJ_pJ_k, gD_pD_k, gI_mI_i, gJ_mJ_i, gD_mD_i, gI_mJ, gI_mD, gJ_mI, gJ_mD, gD_mI, gD_mJ, gI_mI_a, gJ_mJ_a, gD_mD_a, gI_mI_o, gJ_mJ_o, gD_mD_o]; rw [m3 j (by omega)]; rfl
  · simp (disch := omega) only [gI_pI_s, gJ_pJ_s, gD_pD_s, gI_pJ, gI_pD, gJ_pI, gJ_pD, gD_pI, gD_pJ, gI_pI_a, gJ_pJ_a, gD_pD_a, gI_pI_k, gJ_pJ_k, gD_pD_k, gI_mI_i, gJ_mJ_i, gD_mD_i, gI_mJ, gI_mD, gJ_mI, gJ_mD, gD_mI, gD_mJ, gI_mI_a, gJ_mJ_a, gD_mD_a, gI_mI_o, gJ_mJ_o, gD_mD_o]; rw [m5]; simp (disch := omega) only [gI_pI_s, gJ_pJ_s, gD_pD_s, gI_pJ, gI_pD, gJ_pI, gJ_pD, gD_pI, gD_pJ, gI_pI_a, gJ_pJ_a, gD_pD_a, gI_pI_k, gJ_pJ_k, gD_pD_k]
  · simp (disch := omega) only [gI_pI_s, gJ_pJ_s, gD_pD_s, gI_pJ, gI_pD, gJ_pI, gJ_pD, gD_pI, gD_pJ, gI_pI_a, gJ_pJ_a, gD_pD_a, gI_pI_k, gJ_pJ_k, gD_pD_k, gI_mI_i, gJ_mJ_i, gD_mD_i, gI_mJ, gI_mD, gJ_mI, gJ_mD, gD_mI, gD_mJ, gI_mI_a, gJ_mJ_a, gD_mD_a, gI_mI_o, gJ_mJ_o, gD_mD_o]; rw [m4 146 (by decide)]; rfl
  · simp (disch := omega) only [gI_pI_s, gJ_pJ_s, gD_pD_s, gI_pJ, gI_pD, gJ_pI, gJ_pD, gD_pI, gD_pJ, gI_pI_a, gJ_pJ_a, gD_pD_a, gI_pI_k, gJ_pJ_k, gD_pD_k, gI_mI_i, gJ_mJ_i, gD_mD_i, gI_mJ, gI_mD, gJ_mI, gJ_mD, gD_mI, gD_mJ, gI_mI_a, gJ_mJ_a, gD_mD_a, gI_mI_o, gJ_mJ_o, gD_mD_o]; rw [m4 145 (by decide)]; rfl
  · simp (disch := omega) only [gI_pI_s, gJ_pJ_s, gD_pD_s, gI_pJ, gI_pD, gJ_pI, gJ_pD, gD_pI, gD_pJ, gI_pI_a, gJ_pJ_a, gD_pD_a, gI_pI_k, gJ_pJ_k, gD_pD_k, gI_mI_i, gJ_mJ_i, gD_mD_i, gI_mJ, gI_mD, gJ_mI, gJ_mD, gD_mI, gD_mJ, gI_mI_a, gJ_mJ_a, gD_mD_a, gI_mI_o, gJ_mJ_o, gD_mD_o]; rw [m4 147 (by decide)]; rfl
  · simp (disch := omega) only [gI_pI_s, gJ_pJ_s, gD_pD_s, gI_pJ, gI_pD, gJ_pI, gJ_pD, gD_pI, gD_pJ, gI_pI_a, gJ_pJ_a, gD_pD_a, gI_pI_k, gJ_pJ_k, gD_pD_k, gI_mI_i, gJ_mJ_i, gD_mD_i, gI_mJ, gI_mD, gJ_mI, gJ_mD, gD_mI, gD_mJ, gI_mI_a, gJ_mJ_a, gD_mD_a, gI_mI_o, gJ_mJ_o, gD_mD_o]; rw [m4 148 (by decide)]; rfl
  · have e3 : Sm σ σ' 159 := by
      refine ⟨?_, ?_, ?_⟩
      · rw [m5]; simp (disch := omega) only [RI_pI, RI_mI, RI_pJ, RI_mJ, RI_pD, RI_mD, RJ_pI, RJ_mI, RJ_pJ, RJ_mJ, RJ_pD, RJ_mD, RD_pI, RD_mI, RD_pJ, RD_mJ, RD_pD, RD_mD]
      · rw [m4 159 (by omega)]; rfl
      · rw [m6]; rfl
    exact Sm_mD (Sm_pI e3 (by omega)) (by omega)
/-- the days pass -/
theorem f_days : ∀ (d n n' : Nat) (k : Int32) (τ σ : Sg) (r : UInt64), FS τ σ → 0 ≤ s.toInt ∧ s.toInt ≤ 7 → (∀ σ', Fz σ σ' → c_X12_rateF t σ' = some r) → BK 1038 r → 0 ≤ k.toInt → k.toInt + d = v.toInt → v.toInt ≤ 30 → d < n → d < n' →
    AF s σ (d_X2_passDays_3 n s r v k τ) (d_X12_doesF_446 n' s t v k σ) := by
  intro d
  induction d with
  | zero =>
    intro n n' k τ σ r h hs hr hb h3 h4 h5 h6 h7
    obtain ⟨n, rfl⟩ : ∃ k, n = k + 1 := ⟨n - 1, by omega⟩
    obtain ⟨n', rfl⟩ : ∃ k, n' = k + 1 := ⟨n' - 1, by omega⟩
    rw [d_X2_passDays_3, if_pos (by rw [i32_le]; omega), d_X12_doesF_446, if_pos (by rw [i32_le]; omega), d_X12_doesF_494, bp_id]
    exact ⟨τ, σ, rfl, rfl, FS_sub h (n7 hs), Fz_refl h.2⟩
  | succ d ih =>
    intro n n' k τ σ r h hs hr hb h3 h4 h5 h6 h7
    obtain ⟨n, rfl⟩ : ∃ k, n = k + 1 := ⟨n - 1, by omega⟩
    obtain ⟨n', rfl⟩ : ∃ k, n' = k + 1 := ⟨n' - 1, by omega⟩
    obtain ⟨c1, c2, c3⟩ := cnt1 (v := k) (m := 64) h3 (by omega) (by decide)
    have hx : ix s 8 := ix_of hs.1 (by omega)
    have s8 := n7 hs
    have hz := h.1 _ s8
    have m := Zk_mul (Ka := 1074) (Kb := 1038) (by decide) (by decide) hz (Zk_refl hb)
    obtain ⟨y, z, e1, e2, e3⟩ := even1_rel (K := 1090) m (by decide) (by decide)
    have ad := Zk_add (K := 1090) (by decide) (Zk_mono hz (by decide)) e3
    obtain ⟨y2, z2, w1, w2, w3⟩ := within_rel ad (by decide)
    have hle : ¬ v ≤ k := by rw [i32_le]; omega
    rw [d_X2_passDays_3, if_neg hle, d_X12_doesF_446, if_neg hle]
    simp only [ck_t hx, nm_t]
    rw [ck_t (BK_n64 m.1 (by decide)), e1, bp_s, ck_t (BK_n64 ad.1 (by decide)), w1, bp_s, hr σ (Fz_refl h.2), bp_s, ck_t (BK_n64 m.2.1 (by decide)), e2, bp_s, ck_t (BK_n64 ad.2.1 (by decide)), w3 s _ hx gD_pD_s, bp_s]
    have f1 : FS (pD τ 67 s.toNatClampNeg y2) (pD (pD σ 160 s.toNatClampNeg (FP.dadd (gD σ 160 s.toNatClampNeg) z)) 160 s.toNatClampNeg z2) := by
      refine ⟨fun j hj => ?_, FK_put (FK_putr h.2)⟩
      by_cases q : j = s.toNatClampNeg
      · rw [q, gD_pD_s, gD_pD_s]; exact w2
      · rw [gD_pD_k q, gD_pD_k q, gD_pD_k q]; exact h.1 j hj
    have z1 : Fz σ (pD (pD σ 160 s.toNatClampNeg (FP.dadd (gD σ 160 s.toNatClampNeg) z)) 160 s.toNatClampNeg z2) := Fz_trans (Fz_D h.2 (c := 160) (by omega)) (Fz_D (FK_putr h.2) (by omega))
    obtain ⟨τ1, σ1, q1, q2, q3, q4⟩ := ih n n' (k + 1) _ _ r f1 hs (fun σ' hf => hr σ' (Fz_trans z1 hf)) hb (by omega) (by omega) h5 (by omega) (by omega)
    exact ⟨τ1, σ1, q1, q2, q3, Fz_trans z1 q4⟩
theorem Fz_Rtab (h : Rtab τ σ) (f : Fz σ σ') : Rtab τ σ' := Rtab_f h (fun _ _ => Sm_refl) (fun a ha => f.1.1 a (by omega))
/-- one act by doubles -/
theorem stepF_v (h : FS τ σ) (hc : Cx p τ σ) (hn : 300 ≤ n) (hp : p < 4) (hP : P.toInt = p) (hi : 0 ≤ i.toInt ∧ i.toInt < 20) (ha : -1000000 ≤ v.toInt ∧ v.toInt ≤ 1000000) : AF (gI τ (5 * p + 76) i.toNatClampNeg) σ (c_X2_step n (5 * p + 74) i v τ) (c_X12_doesF n (20 * P + i) (FP.i2d v) σ) := by
  obtain ⟨t1, t2, -, -, -, t6⟩ := hc
  have ni := nat0 hi.1
  have hxi : ix i 20 := ix_of hi.1 (by omega)
  obtain ⟨-, x2, x3⟩ := ix2 (c := 20) (m := 4) (k := 20) (v := P) (w := i) (by decide) (ix_of (by omega) (by omega)) hxi rfl (by decide)
  have eP : P.toNatClampNeg = p := by rw [i32_nat]; omega
  rw [eP] at x2
  have x3' : ix (20 * P + i) 80 := x3
  obtain ⟨r1, r2, r3, r4, A1, A2, A3, A4, A5⟩ := t6 i.toNatClampNeg (by omega)
  have hs : 0 ≤ (gI τ (5 * p + 76) i.toNatClampNeg).toInt ∧ (gI τ (5 * p + 76) i.toNatClampNeg).toInt ≤ 7 := ⟨A3, A4⟩
  unfold c_X2_step c_X12_doesF
  simp only [nm_t, ck_t hxi, ck_t x3', x2, r1, r2, r3, r4]
  have g1 : gI τ (5 * p + 74 + 1) i.toNatClampNeg = gI τ (5 * p + 75) i.toNatClampNeg := rfl
  have g2 : gI τ (5 * p + 74 + 2) i.toNatClampNeg = gI τ (5 * p + 76) i.toNatClampNeg := rfl
  have g3 : gI τ (5 * p + 74 + 3) i.toNatClampNeg = gI τ (5 * p + 77) i.toNatClampNeg := rfl
  have g4 : gI τ (5 * p + 74 + 4) i.toNatClampNeg = gI τ (5 * p + 78) i.toNatClampNeg := rfl
  rw [g1, g2, g3, g4]
  generalize gI τ (5 * p + 76) i.toNatClampNeg = s at *
  generalize gI τ (5 * p + 77) i.toNatClampNeg = t at *
  generalize gI τ (5 * p + 78) i.toNatClampNeg = w at *
  have hxs : ix s 8 := ix_of hs.1 (by omega)
  have s8 := n7 hs
  have A5' : fitP (gI τ (5 * p + 75) i.toNatClampNeg).toNatClampNeg t.toInt w.toInt := A5
  clear A5
  have am := amt_rel ha
  have nam := BK_n64 am.2.1 (by decide)
  unfold d_X12_doesF_494
  rcases k13 ⟨A1, A2⟩ with e | e | e | e | e | e | e | e | e | e | e | e | e
  all_goals rw [e] at A5' ⊢
  all_goals simp only [fitP, TM, VL, VM, Int32.reduceToNatClampNeg, List.getD_cons_zero, List.getD_cons_succ] at A5'
  · simp only [if_neg (show ¬ (0 : Int32) = 1 by decide), if_neg (show ¬ (0 : Int32) = 2 by decide), if_neg (show ¬ (0 : Int32) = 3 by decide), if_neg (show ¬ (0 : Int32) = 4 by decide), if_neg (show ¬ (0 : Int32) = 5 by decide), if_neg (show ¬ (0 : Int32) = 6 by decide), if_neg (show ¬ (0 : Int32) = 7 by decide), if_neg (show ¬ (0 : Int32) = 8 by decide), if_neg (show ¬ (0 : Int32) = 9 by decide), if_neg (show ¬ (0 : Int32) = 10 by decide), if_neg (show ¬ (0 : Int32) = 11 by decide), if_neg (show ¬ (0 : Int32) = 12 by decide), if_pos (show (0 : Int32) = 0 from rfl), bp_id, reduceIte]
    rw [ck_t nam, ck_t hxs, ck_t hxs]
    exact AF_put h (Zk_mono am (by decide))
  · simp only [if_neg (show ¬ (1 : Int32) = 0 by decide), if_neg (show ¬ (1 : Int32) = 2 by decide), if_neg (show ¬ (1 : Int32) = 3 by decide), if_neg (show ¬ (1 : Int32) = 4 by decide), if_neg (show ¬ (1 : Int32) = 5 by decide), if_neg (show ¬ (1 : Int32) = 6 by decide), if_neg (show ¬ (1 : Int32) = 7 by decide), if_neg (show ¬ (1 : Int32) = 8 by decide), if_neg (show ¬ (1 : Int32) = 9 by decide), if_neg (show ¬ (1 : Int32) = 10 by decide), if_neg (show ¬ (1 : Int32) = 11 by decide), if_neg (show ¬ (1 : Int32) = 12 by decide), if_pos (show (1 : Int32) = 1 from rfl), bp_id, reduceIte]
    have ht : 0 ≤ t.toInt ∧ t.toInt ≤ 7 := ⟨A5'.1, A5'.2.1⟩
    obtain ⟨r, e1, e2, e3⟩ := rate_rel t1 ht
    have m := Zk_mul (Ka := 1045) (Kb := 1038) (by decide) (by decide) am (Zk_refl e3)
    obtain ⟨y, z, f1, f2, f3⟩ := rounding_rel (v4 := w) (Zk_mono m (by decide)) one_u (by decide) (by decide)
    have z0 : Jvm.FP.Core.DZero FP.dconst0 := zero_V (by rw [dc0]; exact fin_zz) (by rw [dc0]; exact V_zz)
    have fz := BK_fin f3.2.1 (by decide)
    have f4 : Zk 1200 y (FP.dadd FP.dconst0 z) := ⟨BK_mono f3.1 (by decide), BK_mono (Jvm.FP.Core.dadd_mag (K := 1084) (by decide) f3.2.1 (by decide)) (by decide), by rw [(V_addz fz z0).2]; exact f3.2.2⟩
    rw [e1, bp_s, ck_t (BK_n64 m.1 (by decide)), f1, bp_s, ck_t hxs, ck_t nam, e2, bp_s, ck_t (BK_n64 m.2.1 (by decide)), f2, bp_s, ck_t (BK_n64 f4.2.1 (by decide)), ck_t hxs]
    exact AF_put h f4
  · simp only [if_neg (show ¬ (2 : Int32) = 0 by decide), if_neg (show ¬ (2 : Int32) = 1 by decide), if_neg (show ¬ (2 : Int32) = 3 by decide), if_neg (show ¬ (2 : Int32) = 4 by decide), if_neg (show ¬ (2 : Int32) = 5 by decide), if_neg (show ¬ (2 : Int32) = 6 by decide), if_neg (show ¬ (2 : Int32) = 7 by decide), if_neg (show ¬ (2 : Int32) = 8 by decide), if_neg (show ¬ (2 : Int32) = 9 by decide), if_neg (show ¬ (2 : Int32) = 10 by decide), if_neg (show ¬ (2 : Int32) = 11 by decide), if_neg (show ¬ (2 : Int32) = 12 by decide), if_pos (show (2 : Int32) = 2 from rfl), bp_id, reduceIte]
    have ht : 0 ≤ t.toInt ∧ t.toInt ≤ 7 := ⟨A5'.1, A5'.2.1⟩
    obtain ⟨r, e1, e2, e3⟩ := rate_rel t1 ht
    have m := Zk_mul (Ka := 1045) (Kb := 1038) (by decide) (by decide) am (Zk_refl e3)
    obtain ⟨y, z, f1, f2, f3⟩ := rounding_rel (v4 := w) (Zk_mono m (by decide)) one_u (by decide) (by decide)
    have z0 : Jvm.FP.Core.DZero FP.dconst0 := zero_V (by rw [dc0]; exact fin_zz) (by rw [dc0]; exact V_zz)
    have fz := BK_fin f3.2.1 (by decide)
    have f4 : Zk 1200 y (FP.dadd FP.dconst0 z) := ⟨BK_mono f3.1 (by decide), BK_mono (Jvm.FP.Core.dadd_mag (K := 1084) (by decide) f3.2.1 (by decide)) (by decide), by rw [(V_addz fz z0).2]; exact f3.2.2⟩
    rw [e1, bp_s, ck_t (BK_n64 m.1 (by decide)), f1, bp_s, ck_t hxs, ck_t nam, e2, bp_s, ck_t (BK_n64 m.2.1 (by decide)), f2, bp_s, ck_t (BK_n64 f4.2.1 (by decide)), ck_t hxs]
    exact AF_put h f4
  · simp only [if_neg (show ¬ (3 : Int32) = 0 by decide), if_neg (show ¬ (3 : Int32) = 1 by decide), if_neg (show ¬ (3 : Int32) = 2 by decide), if_neg (show ¬ (3 : Int32) = 4 by decide), if_neg (show ¬ (3 : Int32) = 5 by decide), if_neg (show ¬ (3 : Int32) = 6 by decide), if_neg (show ¬ (3 : Int32) = 7 by decide), if_neg (show ¬ (3 : Int32) = 8 by decide), if_neg (show ¬ (3 : Int32) = 9 by decide), if_neg (show ¬ (3 : Int32) = 10 by decide), if_neg (show ¬ (3 : Int32) = 11 by decide), if_neg (show ¬ (3 : Int32) = 12 by decide), if_pos (show (3 : Int32) = 3 from rfl), bp_id, reduceIte]
    have ht : 0 ≤ t.toInt ∧ t.toInt ≤ 7 := ⟨A5'.1, A5'.2.1⟩
    have hxt : ix t 8 := ix_of ht.1 (by omega)
    obtain ⟨r, e1, e2, e3⟩ := rate_rel (t := w) t1 ⟨A5'.2.2.1, A5'.2.2.2⟩
    have m := Zk_mul (Ka := 1074) (Kb := 1038) (by decide) (by decide) (h.1 _ (n7 ht)) (Zk_refl e3)
    rw [ck_t hxt, e1, bp_s, ck_t (BK_n64 m.1 (by decide)), ck_t hxs, ck_t hxt, e2, bp_s, ck_t (BK_n64 m.2.1 (by decide)), ck_t hxs]
    exact AF_put h (Zk_mono m (by decide))
  · simp only [if_neg (show ¬ (4 : Int32) = 0 by decide), if_neg (show ¬ (4 : Int32) = 1 by decide), if_neg (show ¬ (4 : Int32) = 2 by decide), if_neg (show ¬ (4 : Int32) = 3 by decide), if_neg (show ¬ (4 : Int32) = 5 by decide), if_neg (show ¬ (4 : Int32) = 6 by decide), if_neg (show ¬ (4 : Int32) = 7 by decide), if_neg (show ¬ (4 : Int32) = 8 by decide), if_neg (show ¬ (4 : Int32) = 9 by decide), if_neg (show ¬ (4 : Int32) = 10 by decide), if_neg (show ¬ (4 : Int32) = 11 by decide), if_neg (show ¬ (4 : Int32) = 12 by decide), if_pos (show (4 : Int32) = 4 from rfl), bp_id, reduceIte]
    obtain ⟨y, z, f1, f2, f3⟩ := rounding_rel (v4 := t) (h.1 _ s8) (Jvm.FP.Core.i2d_int w) A5'.2.2.1 A5'.2.2.2
    rw [ck_t hxs, show f_X2_rounding (gD τ 67 s.toNatClampNeg) (FP.i2d w) t = some y from f1, bp_s, ck_t hxs, ck_t hxs, show f_X12_roundedF (gD σ 160 s.toNatClampNeg) (FP.i2d w) t = some z from f2, bp_s, ck_t hxs]
    exact AF_put h (Zk_mono f3 (by decide))
  · simp only [if_neg (show ¬ (5 : Int32) = 0 by decide), if_neg (show ¬ (5 : Int32) = 1 by decide), if_neg (show ¬ (5 : Int32) = 2 by decide), if_neg (show ¬ (5 : Int32) = 3 by decide), if_neg (show ¬ (5 : Int32) = 4 by decide), if_neg (show ¬ (5 : Int32) = 6 by decide), if_neg (show ¬ (5 : Int32) = 7 by decide), if_neg (show ¬ (5 : Int32) = 8 by decide), if_neg (show ¬ (5 : Int32) = 9 by decide), if_neg (show ¬ (5 : Int32) = 10 by decide), if_neg (show ¬ (5 : Int32) = 11 by decide), if_neg (show ¬ (5 : Int32) = 12 by decide), if_pos (show (5 : Int32) = 5 from rfl), bp_id, reduceIte]
    have ht : 0 ≤ t.toInt ∧ t.toInt ≤ 7 := ⟨A5'.1, A5'.2.1⟩
    have hxt : ix t 8 := ix_of ht.1 (by omega)
    have p1 := Zk_add (K := 1074) (by decide) (h.1 _ s8) (h.1 _ (n7 ht))
    have p2 := Zk_sub (K := 1074) (by decide) (h.1 _ s8) (h.1 _ (n7 ht))
    unfold d_X2_step_224 d_X12_doesF_226 d_X12_doesF_494
    simp only [bp_id, nm_t, ck_t hxs, ck_t hxt]
    by_cases q : w = 0
    · rw [if_pos q, if_pos q, ck_t (BK_n64 p1.1 (by decide)), ck_t (BK_n64 p1.2.1 (by decide))]
      exact AF_put h (Zk_mono p1 (by decide))
    · rw [if_neg q, if_neg q, ck_t (BK_n64 p2.1 (by decide)), ck_t (BK_n64 p2.2.1 (by decide))]
      exact AF_put h (Zk_mono p2 (by decide))
  · simp only [if_neg (show ¬ (6 : Int32) = 0 by decide), if_neg (show ¬ (6 : Int32) = 1 by decide), if_neg (show ¬ (6 : Int32) = 2 by decide), if_neg (show ¬ (6 : Int32) = 3 by decide), if_neg (show ¬ (6 : Int32) = 4 by decide), if_neg (show ¬ (6 : Int32) = 5 by decide), if_neg (show ¬ (6 : Int32) = 7 by decide), if_neg (show ¬ (6 : Int32) = 8 by decide), if_neg (show ¬ (6 : Int32) = 9 by decide), if_neg (show ¬ (6 : Int32) = 10 by decide), if_neg (show ¬ (6 : Int32) = 11 by decide), if_neg (show ¬ (6 : Int32) = 12 by decide), if_pos (show (6 : Int32) = 6 from rfl), bp_id, reduceIte]
    have wm : Wm w.toNatClampNeg w τ σ := by
      have nv := nat0 (v := w) A5'.2.2.1
      obtain ⟨q1, q2, q3, q4⟩ := t2 w.toNatClampNeg (by omega)
      exact ⟨by omega, by omega, q1, q2, q3, q4⟩
    exact f_split (n := n) h (by omega) hs ⟨A5'.1, A5'.2.1⟩ ⟨A5'.2.2.1, A5'.2.2.2⟩ wm
  · simp only [if_neg (show ¬ (7 : Int32) = 0 by decide), if_neg (show ¬ (7 : Int32) = 1 by decide), if_neg (show ¬ (7 : Int32) = 2 by decide), if_neg (show ¬ (7 : Int32) = 3 by decide), if_neg (show ¬ (7 : Int32) = 4 by decide), if_neg (show ¬ (7 : Int32) = 5 by decide), if_neg (show ¬ (7 : Int32) = 6 by decide), if_neg (show ¬ (7 : Int32) = 8 by decide), if_neg (show ¬ (7 : Int32) = 9 by decide), if_neg (show ¬ (7 : Int32) = 10 by decide), if_neg (show ¬ (7 : Int32) = 11 by decide), if_neg (show ¬ (7 : Int32) = 12 by decide), if_pos (show (7 : Int32) = 7 from rfl), bp_id, reduceIte]
    have ht : 0 ≤ t.toInt ∧ t.toInt ≤ 7 := ⟨A5'.1, A5'.2.1⟩
    have hxt : ix t 8 := ix_of ht.1 (by omega)
    obtain ⟨q1, q2, q3⟩ := h.2.2.1 _ (n7 ht)
    have i := Jvm.FP.Core.l2d_int (a := gJ τ 64 t.toNatClampNeg) (by omega)
    have bk : BK (1023 + 42) (FP.l2d (gJ τ 64 t.toNatClampNeg)) := int_bk 42 i (by show (-4398046511104 : Int) < _; omega) (by show _ < (4398046511104 : Int); omega)
    rw [ck_t hxt, ck_t hxs, ck_t hxt, ck_t hxs, q1]
    exact AF_put h (Zk_mono (Zk_refl bk) (by decide))
  · simp only [if_neg (show ¬ (8 : Int32) = 0 by decide), if_neg (show ¬ (8 : Int32) = 1 by decide), if_neg (show ¬ (8 : Int32) = 2 by decide), if_neg (show ¬ (8 : Int32) = 3 by decide), if_neg (show ¬ (8 : Int32) = 4 by decide), if_neg (show ¬ (8 : Int32) = 5 by decide), if_neg (show ¬ (8 : Int32) = 6 by decide), if_neg (show ¬ (8 : Int32) = 7 by decide), if_neg (show ¬ (8 : Int32) = 9 by decide), if_neg (show ¬ (8 : Int32) = 10 by decide), if_neg (show ¬ (8 : Int32) = 11 by decide), if_neg (show ¬ (8 : Int32) = 12 by decide), if_pos (show (8 : Int32) = 8 from rfl), bp_id, reduceIte]
    exact f_carry h hs
  · simp only [if_neg (show ¬ (9 : Int32) = 0 by decide), if_neg (show ¬ (9 : Int32) = 1 by decide), if_neg (show ¬ (9 : Int32) = 2 by decide), if_neg (show ¬ (9 : Int32) = 3 by decide), if_neg (show ¬ (9 : Int32) = 4 by decide), if_neg (show ¬ (9 : Int32) = 5 by decide), if_neg (show ¬ (9 : Int32) = 6 by decide), if_neg (show ¬ (9 : Int32) = 7 by decide), if_neg (show ¬ (9 : Int32) = 8 by decide), if_neg (show ¬ (9 : Int32) = 10 by decide), if_neg (show ¬ (9 : Int32) = 11 by decide), if_neg (show ¬ (9 : Int32) = 12 by decide), if_pos (show (9 : Int32) = 9 from rfl), bp_id, reduceIte]
    have i := Jvm.FP.Core.i2d_int w
    have bk : BK (1023 + 20) (FP.i2d w) := int_bk 20 i (by show (-1048576 : Int) < _; omega) (by show _ < (1048576 : Int); omega)
    have fw := BK_fin bk (by decide)
    have hz := h.1 _ s8
    have fa := BK_fin hz.1 (by decide)
    have fb := BK_fin hz.2.1 (by decide)
    unfold d_X12_doesF_349 d_X12_doesF_375 d_X12_doesF_494 d_X2_step_330
    simp only [bp_id, nm_t, ck_t hxs, cl_le fa fw, cl_le fb fw, cg_ge fa fw, cg_ge fb fw, hz.2.2, if_neg (show ¬ (1 : Int32) = 0 by decide), if_pos (show (0 : Int32) = 0 from rfl)]
    have keep : AF s σ (some τ) (c_X12_keepsF s (pD σ 160 s.toNatClampNeg (gD σ 160 s.toNatClampNeg))) := by
      refine ⟨τ, _, rfl, rfl, ⟨fun k hk hne => ?_, ?_, FK_putr h.2⟩, Fz_D h.2 (by omega)⟩
      · rw [gD_pD_k hne]; exact h.1 k hk
      · rw [gD_pD_s]; exact Zk_mono hz (by decide)
    have sets : AF s σ (some (pD τ 67 s.toNatClampNeg (FP.i2d w))) (c_X12_keepsF s (pD σ 160 s.toNatClampNeg (FP.i2d w))) := AF_put h (Zk_mono (Zk_refl bk) (by decide))
    by_cases q : t = 0
    · rw [if_pos q, if_pos q]
      by_cases q2 : V (gD σ 160 s.toNatClampNeg) ≤ V (FP.i2d w)
      · rw [if_pos q2, if_pos q2]; exact keep
      · rw [if_neg q2, if_neg q2]; exact sets
    · rw [if_neg q, if_neg q]
      by_cases q2 : V (FP.i2d w) ≤ V (gD σ 160 s.toNatClampNeg)
      · rw [if_pos q2, if_pos q2]; exact keep
      · rw [if_neg q2, if_neg q2]; exact sets
  · simp only [if_neg (show ¬ (10 : Int32) = 0 by decide), if_neg (show ¬ (10 : Int32) = 1 by decide), if_neg (show ¬ (10 : Int32) = 2 by decide), if_neg (show ¬ (10 : Int32) = 3 by decide), if_neg (show ¬ (10 : Int32) = 4 by decide), if_neg (show ¬ (10 : Int32) = 5 by decide), if_neg (show ¬ (10 : Int32) = 6 by decide), if_neg (show ¬ (10 : Int32) = 7 by decide), if_neg (show ¬ (10 : Int32) = 8 by decide), if_neg (show ¬ (10 : Int32) = 9 by decide), if_neg (show ¬ (10 : Int32) = 11 by decide), if_neg (show ¬ (10 : Int32) = 12 by decide), if_pos (show (10 : Int32) = 10 from rfl), bp_id, reduceIte]
    have ht : 0 ≤ t.toInt ∧ t.toInt ≤ 7 := ⟨A5'.1, A5'.2.1⟩
    have hxt : ix t 8 := ix_of ht.1 (by omega)
    obtain ⟨y1, y2⟩ := ix8 ht
    have ew : FP.d2l (gD σ 160 s.toNatClampNeg) = FP.d2l (gD τ 67 s.toNatClampNeg) := (d2l_Z (h.1 _ s8) (by decide)).symm
    have ac := h.2.2.2.1 _ (n7 ht)
    unfold d_X12_doesF_415 d_X2_step_379 d_X12_doesF_494
    simp only [bp_id, nm_t, ck_t hxs, ck_t hxt, ck_t y2, y1, ew, ac]
    have book : ∀ x : Int64, AF s σ (some (pJ τ 62 t.toNatClampNeg x)) (c_X12_keepsF s (pJ σ 146 (8 + t.toNatClampNeg) x)) := by
      intro x
      refine ⟨_, _, rfl, rfl, ⟨fun k hk hne => h.1 k hk, Zk_mono (h.1 _ s8) (by decide), ⟨h.2.1, fun k hk => ?_, fun k hk => ?_, h.2.2.2.2⟩⟩, Fz_J h.2 (by omega)⟩
      · simp (disch := omega) only [gI_pI_s, gJ_pJ_s, gD_pD_s, gI_pJ, gI_pD, gJ_pI, gJ_pD, gD_pI, gD_pJ, gI_pI_a, gJ_pJ_a, gD_pD_a, gI_pI_k, gJ_pJ_k, gD_pD_k]; exact h.2.2.1 k hk
      · by_cases q : k = t.toNatClampNeg
        · rw [q, gJ_pJ_s, gJ_pJ_s]
        · rw [gJ_pJ_k q, gJ_pJ_k (by omega)]; exact h.2.2.2.1 k hk
    by_cases q : w = 0
    · rw [if_pos q, if_pos q]; exact book _
    · rw [if_neg q, if_neg q]; exact book _
  · simp only [if_neg (show ¬ (11 : Int32) = 0 by decide), if_neg (show ¬ (11 : Int32) = 1 by decide), if_neg (show ¬ (11 : Int32) = 2 by decide), if_neg (show ¬ (11 : Int32) = 3 by decide), if_neg (show ¬ (11 : Int32) = 4 by decide), if_neg (show ¬ (11 : Int32) = 5 by decide), if_neg (show ¬ (11 : Int32) = 6 by decide), if_neg (show ¬ (11 : Int32) = 7 by decide), if_neg (show ¬ (11 : Int32) = 8 by decide), if_neg (show ¬ (11 : Int32) = 9 by decide), if_neg (show ¬ (11 : Int32) = 10 by decide), if_neg (show ¬ (11 : Int32) = 12 by decide), if_pos (show (11 : Int32) = 11 from rfl), bp_id, reduceIte]
    have ht : 0 ≤ t.toInt ∧ t.toInt ≤ 7 := ⟨A5'.1, A5'.2.1⟩
    have hxt : ix t 8 := ix_of ht.1 (by omega)
    obtain ⟨y, z, f1, f2, f3⟩ := rounding_rel (v4 := w) (h.1 _ (n7 ht)) one_u (by decide) (by decide)
    rw [ck_t hxt, f1, bp_s, ck_t hxs, ck_t hxt, f2, bp_s, ck_t hxs]
    exact AF_put h (Zk_mono f3 (by decide))
  · simp only [if_neg (show ¬ (12 : Int32) = 0 by decide), if_neg (show ¬ (12 : Int32) = 1 by decide), if_neg (show ¬ (12 : Int32) = 2 by decide), if_neg (show ¬ (12 : Int32) = 3 by decide), if_neg (show ¬ (12 : Int32) = 4 by decide), if_neg (show ¬ (12 : Int32) = 5 by decide), if_neg (show ¬ (12 : Int32) = 6 by decide), if_neg (show ¬ (12 : Int32) = 7 by decide), if_neg (show ¬ (12 : Int32) = 8 by decide), if_neg (show ¬ (12 : Int32) = 9 by decide), if_neg (show ¬ (12 : Int32) = 10 by decide), if_neg (show ¬ (12 : Int32) = 11 by decide), if_pos (show (12 : Int32) = 12 from rfl), bp_id, reduceIte]
    have ht : 0 ≤ t.toInt ∧ t.toInt ≤ 7 := ⟨A5'.1, A5'.2.1⟩
    obtain ⟨r, e1, e2, e3⟩ := rate_rel t1 ht
    rw [e1, bp_s]
    unfold c_X2_passDays
    obtain ⟨d, hd⟩ : ∃ d : Nat, w.toInt = d := ⟨w.toInt.toNat, by omega⟩
    exact f_days d n n 0 τ σ r h hs (fun σ' hf => by obtain ⟨r', q1, q2, q3⟩ := rate_rel (Fz_Rtab t1 hf) ht; rw [e1] at q1; injection q1 with q1; rw [q1]; exact q2) e3 (by decide) (by simp only [Int32.reduceToInt]; omega) A5'.2.2.2 (by omega) (by omega)
end FLT2
