section FLT3
variable {p n : Nat} {τ σ τ' σ' : Sg} {s t v P a : Int32}
theorem pf22 : ∀ (d n : Nat) (k : Int32) (σ : Sg) {A : Nat}, 0 ≤ k.toInt → k.toInt + d = 8 → d < n → ∃ w, n ≤ w + d + 1 ∧ d_X2_perform_22 n A a k σ = d_X2_perform_43 w A a (mD σ 67 k.toNatClampNeg 8 (fun _ => FP.dconst0)) := by
  intro d
  induction d with
  | zero =>
    intro n k σ A h3 h4 h5
    obtain ⟨n, rfl⟩ : ∃ k, n = k + 1 := ⟨n - 1, by omega⟩
    have := nat0 h3
    refine ⟨n, by omega, ?_⟩
    rw [d_X2_perform_22, if_pos (by rw [i32_le]; simp only [Int32.reduceToInt]; omega), mD_nil (by omega)]
  | succ d ih =>
    intro n k σ A h3 h4 h5
    obtain ⟨n, rfl⟩ : ∃ k, n = k + 1 := ⟨n - 1, by omega⟩
    obtain ⟨c1, c2, c3⟩ := cnt1 (v := k) (m := 64) h3 (by omega) (by decide)
    obtain ⟨w, w1, w2⟩ := ih n (k + 1) (pD σ 67 k.toNatClampNeg FP.dconst0) (A := A) (by omega) (by omega) (by omega)
    refine ⟨w, by omega, ?_⟩
    rw [d_X2_perform_22, if_neg (by rw [i32_le]; simp only [Int32.reduceToInt]; omega), ck_ix (by omega), nm_t, nm_t, w2, c2, mD_step (f := fun _ => FP.dconst0) (v := FP.dconst0) (by omega) rfl]
theorem fl7 : ∀ (d n : Nat) (k : Int32) (σ : Sg), 0 ≤ k.toInt → k.toInt + d = 8 → d < n → ∃ w, n ≤ w + d + 1 ∧ d_X12_floats_7 n P a k σ = d_X12_floats_43 w P a (mJ (mD (mD σ 160 k.toNatClampNeg 8 (fun _ => FP.dconst0)) 161 k.toNatClampNeg 8 (fun _ => FP.dconst0)) 146 (8 + k.toNatClampNeg) 16 (fun _ => 0)) := by
  intro d
  induction d with
  | zero =>
    intro n k σ h3 h4 h5
    obtain ⟨n, rfl⟩ : ∃ k, n = k + 1 := ⟨n - 1, by omega⟩
    have := nat0 h3
    refine ⟨n, by omega, ?_⟩
    rw [d_X12_floats_7, if_pos (by rw [i32_le]; simp only [Int32.reduceToInt]; omega), mD_nil (by omega), mD_nil (by omega), mJ_nil (by omega)]
  | succ d ih =>
    intro n k σ h3 h4 h5
    obtain ⟨n, rfl⟩ : ∃ k, n = k + 1 := ⟨n - 1, by omega⟩
    obtain ⟨c1, c2, c3⟩ := cnt1 (v := k) (m := 64) h3 (by omega) (by decide)
    obtain ⟨x1, x2⟩ := ix8 (v := k) ⟨h3, by omega⟩
    obtain ⟨w, w1, w2⟩ := ih n (k + 1) (pJ (pD (pD σ 160 k.toNatClampNeg FP.dconst0) 161 k.toNatClampNeg FP.dconst0) 146 (8 + k.toNatClampNeg) 0) (by omega) (by omega) (by omega)
    refine ⟨w, by omega, ?_⟩
    have hk : ix k 8 := ix_of h3 (by omega)
    rw [d_X12_floats_7, if_neg (by rw [i32_le]; simp only [Int32.reduceToInt]; omega), ck_t hk, nm_t, ck_t hk, nm_t, ck_t x2, nm_t, nm_t, x1, w2, c2]
    rw [mD_pJ, mD_pJ, mD_pD (a := 160) (b := 161) (by omega), mD_step (a := 160) (f := fun _ => FP.dconst0) (v := FP.dconst0) (by omega) rfl, mD_step (a := 161) (f := fun _ => FP.dconst0) (v := FP.dconst0) (by omega) rfl, show 8 + (k.toNatClampNeg + 1) = 8 + k.toNatClampNeg + 1 by omega, mJ_step (f := fun _ => 0) (v := 0) (by omega) rfl]
theorem al_runF : ∀ (d n n' : Nat) (k : Int32) (τ σ : Sg), FS τ σ → Cx p τ σ → p < 4 → P.toInt = p → -1000000 ≤ a.toInt ∧ a.toInt ≤ 1000000 → 0 ≤ k.toInt → k.toInt + d = (gI τ (5 * p + 74) 4).toInt → d + 300 < n → d + 300 < n' →
    ∃ τ' σ', d_X2_perform_46 n (5 * p + 74) a k τ = some τ' ∧ d_X12_floats_45 n' P a k σ = some σ' ∧ FS τ' σ' ∧ Fz σ σ' := by
  intro d
  induction d with
  | zero =>
    intro n n' k τ σ h hc hp hP ha h3 h4 h5 h6
    obtain ⟨n, rfl⟩ : ∃ k, n = k + 1 := ⟨n - 1, by omega⟩
    obtain ⟨n', rfl⟩ : ∃ k, n' = k + 1 := ⟨n' - 1, by omega⟩
    have eP : P.toNatClampNeg = p := by rw [i32_nat]; omega
    refine ⟨τ, σ, ?_, ?_, h, Fz_refl h.2⟩
    · rw [d_X2_perform_46, if_pos (by rw [i32_le]; omega)]
    · rw [d_X12_floats_45, ck_ix (by omega), eP, hc.2.2.1, if_pos (by rw [i32_le]; omega)]
  | succ d ih =>
    intro n n' k τ σ h hc hp hP ha h3 h4 h5 h6
    obtain ⟨n, rfl⟩ : ∃ k, n = k + 1 := ⟨n - 1, by omega⟩
    obtain ⟨n', rfl⟩ : ∃ k, n' = k + 1 := ⟨n' - 1, by omega⟩
    have eP : P.toNatClampNeg = p := by rw [i32_nat]; omega
    have h20 := hc.2.2.2.2.1
    obtain ⟨c1, c2, c3⟩ := cnt1 (v := k) (m := 64) h3 (by omega) (by decide)
    have st := stepF_v (i := k) (n := 300) h hc (Nat.le_refl 300) hp hP ⟨h3, by omega⟩ ha
    have hA := hc.2.2.2.2.2 k.toNatClampNeg (by omega)
    obtain ⟨-, -, -, -, -, -, A3, A4, -⟩ := hA
    obtain ⟨τ1, τ2, σ2, y, s1, w1, e2, s2, f1, f2⟩ := AF_held st ⟨A3, A4⟩
    have s1 := Le_up (f := fun n => c_X2_step n (5 * p + 74) k a τ) (fun n => u_c_X2_step) (show 300 ≤ n by omega) _ s1
    have s2 := Le_up (f := fun n => c_X12_doesF n (20 * P + k) (FP.i2d a) σ) (fun n => u_c_X12_doesF) (show 300 ≤ n' by omega) _ s2
    have tt : To 60 68 τ τ1 := (k_f_X2_step (To_refl h.2.2.2.2.2.1) (by omega) (by unfold O5; omega)).2 _ s1
    have t2 : To 60 68 τ τ2 := by rw [e2]; exact To_pD tt (by omega)
    have hle : ¬ gI τ (5 * p + 74) 4 ≤ k := by rw [i32_le]; omega
    have e76 : gI τ1 (5 * p + 76) = gI τ (5 * p + 76) := (Sm_to tt (by omega)).1
    have hxk : ix k 20 := ix_of h3 (by omega)
    have hxs : ix (gI τ (5 * p + 76) k.toNatClampNeg) 8 := ix_of A3 (by omega)
    have e4 : gI τ2 (5 * p + 74) = gI τ (5 * p + 74) := (Sm_to t2 (by omega)).1
    have hc' : Cx p τ2 σ2 := Cx_f hc hp (fun a ha => Sm_to t2 (by omega)) (fun a ha => f2.1.1 a (by omega))
    obtain ⟨τ3, σ3, z1, z2, z3, z4⟩ := ih n n' (k + 1) τ2 σ2 f1 hc' hp hP ha (by omega) (by rw [e4]; omega) (by omega) (by omega)
    refine ⟨τ3, σ3, ?_, ?_, z3, Fz_trans f2 z4⟩
    · rw [d_X2_perform_46, if_neg hle, s1, bp_s, ck_t hxk, ck_t hxk, show 5 * p + 74 + 2 = 5 * p + 76 from rfl, e76, ck_t hxs, w1, bp_s, ck_t hxs, nm_t, nm_t, ← e2, z1]
    · rw [d_X12_floats_45, ck_ix (by omega), eP, hc.2.2.1, if_neg hle, s2, bp_s, nm_t, z2]
theorem flt_all : FLT := by
  intro n p P a τ σ hn lt ls hc hp hP ha h16
  unfold c_X2_perform c_X12_floats c_X4_reset c_X7_wipe
  rw [l_reset4 8 n 0 τ (A := 61) (by decide) (by decide) (by omega), bp_s, w7_v 8 n 0 _ (A := 63) (by decide) (by decide) (by omega), bp_s, nm_t, nm_t]
  have z0 : (0 : Int32).toNatClampNeg = 0 := rfl
  rw [z0]
  obtain ⟨w, w1, w2⟩ := pf22 (a := a) 8 n 0 (pD (pI (mJ (pI (mJ τ (61 + 1) 0 8 (fun _ => 0)) 61 1 0) (63 + 1) 0 8 (fun _ => 0)) 63 1 0) 60 3 FP.dconst0) (A := 5 * p + 74) (by decide) (by decide) (by omega)
  obtain ⟨w', w3, w4⟩ := fl7 (P := P) (a := a) 8 n 0 (pD σ 130 45 FP.dconst0) (by decide) (by decide) (by omega)
  rw [w2, w4, z0]
  unfold d_X2_perform_43 d_X12_floats_43
  have b0 : Zk 1074 FP.dconst0 FP.dconst0 := Zk_refl (by unfold BK; decide)
  have f0 : FS (mD (pD (pI (mJ (pI (mJ τ (61 + 1) 0 8 (fun _ => 0)) 61 1 0) (63 + 1) 0 8 (fun _ => 0)) 63 1 0) 60 3 FP.dconst0) 67 0 8 (fun _ => FP.dconst0)) (mJ (mD (mD (pD σ 130 45 FP.dconst0) 160 0 8 (fun _ => FP.dconst0)) 161 0 8 (fun _ => FP.dconst0)) 146 (8 + 0) 16 (fun _ => 0)) := by
    refine ⟨fun k hk => ?_, ⟨?_, ?_, ?_⟩, fun k hk => ?_, fun k hk => ?_, ?_, lt, ls⟩
    · simp (disch := omega) only [gI_pI_s, gJ_pJ_s, gD_pD_s, gI_pJ, gI_pD, gJ_pI, gJ_pD, gD_pI, gD_pJ, gI_pI_a, gJ_pJ_a, gD_pD_a, gI_pI_k, gJ_pJ_k, gD_pD_k, gI_mI_i, gJ_mJ_i, gD_mD_i, gI_mJ, gI_mD, gJ_mI, gJ_mD, gD_mI, gD_mJ, gI_mI_a, gJ_mJ_a, gD_mD_a, gI_mI_o, gJ_mJ_o, gD_mD_o]; exact b0
    · simp (disch := omega) only [gI_pI_s, gJ_pJ_s, gD_pD_s, gI_pJ, gI_pD, gJ_pI, gJ_pD, gD_pI, gD_pJ, gI_pI_a, gJ_pJ_a, gD_pD_a, gI_pI_k, gJ_pJ_k, gD_pD_k, gI_mI_i, gJ_mJ_i, gD_mD_i, gI_mJ, gI_mD, gJ_mI, gJ_mD, gD_mI, gD_mJ, gI_mI_a, gJ_mJ_a, gD_mD_a, gI_mI_o, gJ_mJ_o, gD_mD_o]; exact b0
    · simp (disch := omega) only [gI_pI_s, gJ_pJ_s, gD_pD_s, gI_pJ, gI_pD, gJ_pI, gJ_pD, gD_pI, gD_pJ, gI_pI_a, gJ_pJ_a, gD_pD_a, gI_pI_k, gJ_pJ_k, gD_pD_k, gI_mI_i, gJ_mJ_i, gD_mD_i, gI_mJ, gI_mD, gJ_mI, gJ_mD, gD_mI, gD_mJ, gI_mI_a, gJ_mJ_a, gD_mD_a, gI_mI_o, gJ_mJ_o, gD_mD_o]; rw [dc0, V_zz]; omega
    · simp (disch := omega) only [gI_pI_s, gJ_pJ_s, gD_pD_s, gI_pJ, gI_pD, gJ_pI, gJ_pD, gD_pI, gD_pJ, gI_pI_a, gJ_pJ_a, gD_pD_a, gI_pI_k, gJ_pJ_k, gD_pD_k, gI_mI_i, gJ_mJ_i, gD_mD_i, gI_mJ, gI_mD, gJ_mI, gJ_mD, gD_mI, gD_mJ, gI_mI_a, gJ_mJ_a, gD_mD_a, gI_mI_o, gJ_mJ_o, gD_mD_o]; rw [dc0, V_zz]; have := u_pos; omega
    · simp (disch := omega) only [gI_pI_s, gJ_pJ_s, gD_pD_s, gI_pJ, gI_pD, gJ_pI, gJ_pD, gD_pI, gD_pJ, gI_pI_a, gJ_pJ_a, gD_pD_a, gI_pI_k, gJ_pJ_k, gD_pD_k, gI_mI_i, gJ_mJ_i, gD_mD_i, gI_mJ, gI_mD, gJ_mI, gJ_mD, gD_mI, gD_mJ, gI_mI_a, gJ_mJ_a, gD_mD_a, gI_mI_o, gJ_mJ_o, gD_mD_o]
      exact ⟨l2d_zz.symm, by decide, by decide⟩
    · simp (disch := omega) only [gI_pI_s, gJ_pJ_s, gD_pD_s, gI_pJ, gI_pD, gJ_pI, gJ_pD, gD_pI, gD_pJ, gI_pI_a, gJ_pJ_a, gD_pD_a, gI_pI_k, gJ_pJ_k, gD_pD_k, gI_mI_i, gJ_mJ_i, gD_mD_i, gI_mJ, gI_mD, gJ_mI, gJ_mD, gD_mI, gD_mJ, gI_mI_a, gJ_mJ_a, gD_mD_a, gI_mI_o, gJ_mJ_o, gD_mD_o]
    · simp (disch := omega) only [gI_pI_s, gJ_pJ_s, gD_pD_s, gI_pJ, gI_pD, gJ_pI, gJ_pD, gD_pI, gD_pJ, gI_pI_a, gJ_pJ_a, gD_pD_a, gI_pI_k, gJ_pJ_k, gD_pD_k, gI_mI_i, gJ_mJ_i, gD_mD_i, gI_mJ, gI_mD, gJ_mI, gJ_mD, gD_mI, gD_mJ, gI_mI_a, gJ_mJ_a, gD_mD_a, gI_mI_o, gJ_mJ_o, gD_mD_o]; exact h16
  have hc' : Cx p (mD (pD (pI (mJ (pI (mJ τ (61 + 1) 0 8 (fun _ => 0)) 61 1 0) (63 + 1) 0 8 (fun _ => 0)) 63 1 0) 60 3 FP.dconst0) 67 0 8 (fun _ => FP.dconst0)) (mJ (mD (mD (pD σ 130 45 FP.dconst0) 160 0 8 (fun _ => FP.dconst0)) 161 0 8 (fun _ => FP.dconst0)) 146 (8 + 0) 16 (fun _ => 0)) :=
    Cx_f hc hp (fun a ha => Sm_mD (Sm_pD (Sm_pI (Sm_mJ (Sm_pI (Sm_mJ Sm_refl (by omega)) (by omega)) (by omega)) (by omega)) (by omega)) (by omega)) (fun a ha => Sm_mJ (Sm_mD (Sm_mD (Sm_pD Sm_refl (by omega)) (by omega)) (by omega)) (by omega))
  have e4 : gI (mD (pD (pI (mJ (pI (mJ τ (61 + 1) 0 8 (fun _ => 0)) 61 1 0) (63 + 1) 0 8 (fun _ => 0)) 63 1 0) 60 3 FP.dconst0) 67 0 8 (fun _ => FP.dconst0)) (5 * p + 74) = gI τ (5 * p + 74) := by simp (disch := omega) only [RI_pI, RI_mI, RI_pJ, RI_mJ, RI_pD, RI_mD, RJ_pI, RJ_mI, RJ_pJ, RJ_mJ, RJ_pD, RJ_mD, RD_pI, RD_mI, RD_pJ, RD_mJ, RD_pD, RD_mD]
  have h20 := hc.2.2.2.2.1
  have h21 := hc.2.2.2.1
  obtain ⟨d, hd⟩ : ∃ d : Nat, (gI τ (5 * p + 74) 4).toInt = d := ⟨(gI τ (5 * p + 74) 4).toInt.toNat, by omega⟩
  obtain ⟨τ', σ', r1, r2, r3, r4⟩ := al_runF d w w' 0 _ _ f0 hc' hp hP ha (by decide) (by rw [e4, hd]; simp only [Int32.reduceToInt]; omega) (by omega) (by omega)
  refine ⟨τ', σ', r1, r2, r3.2.2.2.1, ?_⟩
  have fz : Fz σ (mJ (mD (mD (pD σ 130 45 FP.dconst0) 160 0 8 (fun _ => FP.dconst0)) 161 0 8 (fun _ => FP.dconst0)) 146 (8 + 0) 16 (fun _ => 0)) := by
    refine ⟨⟨fun a ha => Sm_mJ (Sm_mD (Sm_mD (Sm_pD Sm_refl (by omega)) (by omega)) (by omega)) (by omega), fun k hk => ?_, ?_, fun j hj => ⟨?_, ?_, ?_, ?_, ?_⟩, fun j hj => ?_, fun j hj => ⟨?_, ?_⟩, ls⟩, Sm_mJ (Sm_mD (Sm_mD (Sm_pD Sm_refl (by omega)) (by omega)) (by omega)) (by omega)⟩
    all_goals simp (disch := omega) only [gI_pI_s, gJ_pJ_s, gD_pD_s, gI_pJ, gI_pD, gJ_pI, gJ_pD, gD_pI, gD_pJ, gI_pI_a, gJ_pJ_a, gD_pD_a, gI_pI_k, gJ_pJ_k, gD_pD_k, gI_mI_i, gJ_mJ_i, gD_mD_i, gI_mJ, gI_mD, gJ_mI, gJ_mD, gD_mI, gD_mJ, gI_mI_a, gJ_mJ_a, gD_mD_a, gI_mI_o, gJ_mJ_o, gD_mD_o]
    all_goals first | exact h16 | skip
  exact Fz_trans fz r4
end FLT3
