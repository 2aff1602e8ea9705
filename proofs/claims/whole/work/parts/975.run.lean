section RUN
variable {b B p : Nat} {lk P : Int32} {τ σ : Sg}
theorem w7_v : ∀ (d n : Nat) (k : Int32) (σ : Sg) {A : Nat}, 0 ≤ k.toInt → k.toInt + d = 8 → d < n → d_X7_wipe_2 n A k σ = some (pI (mJ σ (A + 1) k.toNatClampNeg 8 (fun _ => 0)) A 1 0) := by
  intro d
  induction d with
  | zero =>
    intro n k σ A h3 h4 h5
    obtain ⟨n, rfl⟩ : ∃ k, n = k + 1 := ⟨n - 1, by omega⟩
    have := nat0 h3
    rw [d_X7_wipe_2, if_pos (by rw [i32_le]; simp only [Int32.reduceToInt]; omega), mJ_nil (by omega)]
    rfl
  | succ d ih =>
    intro n k σ A h3 h4 h5
    obtain ⟨n, rfl⟩ : ∃ k, n = k + 1 := ⟨n - 1, by omega⟩
    obtain ⟨c1, c2, c3⟩ := cnt1 (v := k) (m := 64) h3 (by omega) (by decide)
    rw [d_X7_wipe_2, if_neg (by rw [i32_le]; simp only [Int32.reduceToInt]; omega), ck_ix (by omega), nm_t, nm_t, ih n (k + 1) _ (by omega) (by omega) (by omega), c2, mJ_step (f := fun _ => 0) (v := 0) (by omega) rfl]
theorem w5_b : ∀ (d n : Nat) (k : Int32) (σ : Sg) {A : Nat}, 0 ≤ k.toInt → k.toInt + d = 12 → d + 20 < n → ∃ w, n ≤ w + d + 1 ∧ d_X5_wipe_37 n A k σ = d_X5_wipe_56 w A (mJ σ (A + 12) k.toNatClampNeg 12 (fun _ => 0)) := by
  intro d
  induction d with
  | zero =>
    intro n k σ A h3 h4 h5
    obtain ⟨n, rfl⟩ : ∃ k, n = k + 1 := ⟨n - 1, by omega⟩
    have := nat0 h3
    refine ⟨n, by omega, ?_⟩
    rw [d_X5_wipe_37, if_pos (by rw [i32_le]; simp only [Int32.reduceToInt]; omega), mJ_nil (by omega)]
  | succ d ih =>
    intro n k σ A h3 h4 h5
    obtain ⟨n, rfl⟩ : ∃ k, n = k + 1 := ⟨n - 1, by omega⟩
    obtain ⟨c1, c2, c3⟩ := cnt1 (v := k) (m := 64) h3 (by omega) (by decide)
    obtain ⟨w, w1, w2⟩ := ih n (k + 1) (pJ σ (A + 12) k.toNatClampNeg 0) (A := A) (by omega) (by omega) (by omega)
    refine ⟨w, by omega, ?_⟩
    rw [d_X5_wipe_37, if_neg (by rw [i32_le]; simp only [Int32.reduceToInt]; omega), ck_ix (by omega), nm_t, nm_t, w2, c2, mJ_step (f := fun _ => 0) (v := 0) (by omega) rfl]
theorem w5_a : ∀ (d n : Nat) (k : Int32) (σ : Sg) {A : Nat}, 0 ≤ k.toInt → k.toInt + d = 8 → d + 20 < n → ∃ w, n ≤ w + d + 1 ∧ d_X5_wipe_2 n A k σ = d_X5_wipe_35 w A (mI (mJ (mJ σ (A + 9) k.toNatClampNeg 8 (fun _ => 0)) (A + 10) k.toNatClampNeg 8 (fun _ => 1)) (A + 11) k.toNatClampNeg 8 (fun _ => 0)) := by
  intro d
  induction d with
  | zero =>
    intro n k σ A h3 h4 h5
    obtain ⟨n, rfl⟩ : ∃ k, n = k + 1 := ⟨n - 1, by omega⟩
    have := nat0 h3
    refine ⟨n, by omega, ?_⟩
    rw [d_X5_wipe_2, if_pos (by rw [i32_le]; simp only [Int32.reduceToInt]; omega), mJ_nil (by omega), mJ_nil (by omega), mI_nil (by omega)]
  | succ d ih =>
    intro n k σ A h3 h4 h5
    obtain ⟨n, rfl⟩ : ∃ k, n = k + 1 := ⟨n - 1, by omega⟩
    obtain ⟨c1, c2, c3⟩ := cnt1 (v := k) (m := 64) h3 (by omega) (by decide)
    obtain ⟨w, w1, w2⟩ := ih n (k + 1) (pI (pJ (pJ σ (A + 9) k.toNatClampNeg 0) (A + 10) k.toNatClampNeg 1) (A + 11) k.toNatClampNeg 0) (A := A) (by omega) (by omega) (by omega)
    refine ⟨w, by omega, ?_⟩
    have hk : ix k 8 := ix_of h3 (by omega)
    rw [d_X5_wipe_2, if_neg (by rw [i32_le]; simp only [Int32.reduceToInt]; omega), ck_t hk, nm_t, ck_t hk, nm_t, ck_t hk, nm_t, nm_t, w2, c2]
    rw [mJ_pI, mJ_pI, mJ_pJ (a := A + 9) (b := A + 10) (by omega), mJ_step (a := A + 9) (f := fun _ => 0) (v := 0) (by omega) rfl, mJ_step (a := A + 10) (f := fun _ => 1) (v := 1) (by omega) rfl, mI_step (f := fun _ => 0) (v := 0) (by omega) rfl]
/-- a wiped machine -/
theorem wipe_v {n : Nat} (hn : 100 ≤ n) (hb : O4 b) : ∃ τ', c_X5_wipe n b τ = some τ' ∧ (∀ k, k < 8 → gJ τ' (b + 9) k = 0 ∧ gJ τ' (b + 10) k = 1 ∧ gI τ' (b + 11) k = 0 ∧ gJ τ' (b + 6) k = 0) ∧ (∀ k, k < 12 → gJ τ' (b + 12) k = 0) ∧ gI τ' (b + 5) 1 = 0 ∧ gI τ' b 10 = 0 ∧ gI τ' b 9 = -2 ∧ (∀ a, a ≠ b ∧ a ≠ b + 5 ∧ a ≠ b + 6 ∧ ¬ (b + 9 ≤ a ∧ a ≤ b + 12) → Sm τ τ' a) ∧ gJ τ' b = gJ τ b ∧ Lay τ' = Lay τ := by
  have hb' : b = 20 ∨ b = 34 ∨ b = 47 := hb
  have z0 : (0 : Int32).toNatClampNeg = 0 := rfl
  obtain ⟨w, w1, w2⟩ := w5_a 8 n 0 τ (A := b) (by decide) (by decide) (by omega)
  rw [z0] at w2
  unfold c_X5_wipe
  rw [w2]
  unfold d_X5_wipe_35
  obtain ⟨w', w3, w4⟩ := w5_b 12 w 0 (mI (mJ (mJ τ (b + 9) 0 8 (fun _ => 0)) (b + 10) 0 8 (fun _ => 1)) (b + 11) 0 8 (fun _ => 0)) (A := b) (by decide) (by decide) (by omega)
  rw [z0] at w4
  rw [w4]
  unfold d_X5_wipe_56 c_X7_wipe
  rw [w7_v 8 w' 0 _ (by decide) (by decide) (by omega), bp_s, nm_t, nm_t, z0]
  refine ⟨_, rfl, fun k hk => ?_, fun k hk => ?_, ?_, ?_, ?_, fun a ha => ?_, ?_, rfl⟩
  · simp (disch := omega) only [gI_pI_s, gJ_pJ_s, gD_pD_s, gI_pJ, gI_pD, gJ_pI, gJ_pD, gD_pI, gD_pJ, gI_pI_a, gJ_pJ_a, gD_pD_a, gI_pI_k, gJ_pJ_k, gD_pD_k, gI_mI_i, gJ_mJ_i, gD_mD_i, gI_mJ, gI_mD, gJ_mI, gJ_mD, gD_mI, gD_mJ, gI_mI_a, gJ_mJ_a, gD_mD_a, gI_mI_o, gJ_mJ_o, gD_mD_o]
    exact ⟨trivial, trivial, trivial, trivial⟩
  · simp (disch := omega) only [gI_pI_s, gJ_pJ_s, gD_pD_s, gI_pJ, gI_pD, gJ_pI, gJ_pD, gD_pI, gD_pJ, gI_pI_a, gJ_pJ_a, gD_pD_a, gI_pI_k, gJ_pJ_k, gD_pD_k, gI_mI_i, gJ_mJ_i, gD_mD_i, gI_mJ, gI_mD, gJ_mI, gJ_mD, gD_mI, gD_mJ, gI_mI_a, gJ_mJ_a, gD_mD_a, gI_mI_o, gJ_mJ_o, gD_mD_o]
  · simp (disch := omega) only [gI_pI_s, gJ_pJ_s, gD_pD_s, gI_pJ, gI_pD, gJ_pI, gJ_pD, gD_pI, gD_pJ, gI_pI_a, gJ_pJ_a, gD_pD_a, gI_pI_k, gJ_pJ_k, gD_pD_k, gI_mI_i, gJ_mJ_i, gD_mD_i, gI_mJ, gI_mD, gJ_mI, gJ_mD, gD_mI, gD_mJ, gI_mI_a, gJ_mJ_a, gD_mD_a, gI_mI_o, gJ_mJ_o, gD_mD_o]
  · simp (disch := omega) only [gI_pI_s, gJ_pJ_s, gD_pD_s, gI_pJ, gI_pD, gJ_pI, gJ_pD, gD_pI, gD_pJ, gI_pI_a, gJ_pJ_a, gD_pD_a, gI_pI_k, gJ_pJ_k, gD_pD_k, gI_mI_i, gJ_mJ_i, gD_mD_i, gI_mJ, gI_mD, gJ_mI, gJ_mD, gD_mI, gD_mJ, gI_mI_a, gJ_mJ_a, gD_mD_a, gI_mI_o, gJ_mJ_o, gD_mD_o]
  · simp (disch := omega) only [gI_pI_s, gJ_pJ_s, gD_pD_s, gI_pJ, gI_pD, gJ_pI, gJ_pD, gD_pI, gD_pJ, gI_pI_a, gJ_pJ_a, gD_pD_a, gI_pI_k, gJ_pJ_k, gD_pD_k, gI_mI_i, gJ_mJ_i, gD_mD_i, gI_mJ, gI_mD, gJ_mI, gJ_mD, gD_mI, gD_mJ, gI_mI_a, gJ_mJ_a, gD_mD_a, gI_mI_o, gJ_mJ_o, gD_mD_o]
  · exact Sm_pI (Sm_pI (Sm_pI (Sm_mJ (Sm_mJ (Sm_mI (Sm_mJ (Sm_mJ Sm_refl (by omega)) (by omega)) (by omega)) (by omega)) (by omega)) (by omega)) (by omega)) (by omega)
  · simp (disch := omega) only [RI_pI, RI_mI, RI_pJ, RI_mJ, RI_pD, RI_mD, RJ_pI, RJ_mI, RJ_pJ, RJ_mJ, RJ_pD, RJ_mD, RD_pI, RD_mI, RD_pJ, RD_mJ, RD_pD, RD_mD]
/-- the acts one behind the other -/
theorem al_run : ∀ (d n n' : Nat) (k : Int32) (τ σ : Sg) (v2 : Int32) (v3 v5 : Int64), SR b B p k.toNatClampNeg lk τ σ → Cx p τ σ → gI σ 130 32 = 0 → P.toInt = p → 0 ≤ k.toInt → k.toInt + d = (gI τ (5 * p + 74) 4).toInt → d + 300 < n → d + 300 < n' →
    (∃ τ' σ', d_X5_perform_6 n b (5 * p + 74) k τ = some (0, τ') ∧ d_X12_runs_111 n' P v2 v3 v5 k σ = some (-2, σ') ∧ SR b B p 20 lk τ' σ' ∧ Fm B p σ σ' ∧ To b (b + 13) τ τ' ∧ gI σ' 130 32 = 0) ∨
    (∃ r i τ' σ' w, r ≠ 0 ∧ 0 ≤ i.toInt ∧ d_X5_perform_6 n b (5 * p + 74) k τ = some (r, pI τ' b 9 i) ∧ d_X12_runs_111 n' P v2 v3 v5 k σ = d_X12_runs_141 w v2 v3 v5 i σ' ∧ 200 ≤ w ∧ SR b B p 20 lk τ' σ' ∧ Fm B p σ σ' ∧ To b (b + 13) τ τ' ∧ gI σ' 130 32 = r) := by
  intro d
  induction d with
  | zero =>
    intro n n' k τ σ v2 v3 v5 h hc hf hP h3 h4 h5 h6
    obtain ⟨n, rfl⟩ : ∃ k, n = k + 1 := ⟨n - 1, by omega⟩
    obtain ⟨n', rfl⟩ : ∃ k, n' = k + 1 := ⟨n' - 1, by omega⟩
    have hp := h.1.2.2.2.2.1
    have eP : P.toNatClampNeg = p := by rw [i32_nat]; omega
    have nk := nat0 h3
    have h20 := hc.2.2.2.2.1
    left
    refine ⟨τ, σ, ?_, ?_, SR_mono h (by omega), Fm_refl, To_refl h.1.1, hf⟩
    · rw [d_X5_perform_6, if_pos (by rw [i32_le]; omega)]
    · rw [d_X12_runs_111, ck_ix (by omega), eP, hc.2.2.1, if_pos (by rw [i32_le]; omega)]
  | succ d ih =>
    intro n n' k τ σ v2 v3 v5 h hc hf hP h3 h4 h5 h6
    obtain ⟨n, rfl⟩ : ∃ k, n = k + 1 := ⟨n - 1, by omega⟩
    obtain ⟨n', rfl⟩ : ∃ k, n' = k + 1 := ⟨n' - 1, by omega⟩
    have hp := h.1.2.2.2.2.1
    have hb := h.1.2.2.1
    have hb' : b = 20 ∨ b = 34 ∨ b = 47 := hb
    have eP : P.toNatClampNeg = p := by rw [i32_nat]; omega
    have h20 := hc.2.2.2.2.1
    obtain ⟨c1, c2, c3⟩ := cnt1 (v := k) (m := 64) h3 (by omega) (by decide)
    obtain ⟨r, τ', σ', s1, s2, s3, s4, s5⟩ := step_v (i := k) h hc hf (Nat.le_refl 300) (by omega) hP ⟨h3, by omega⟩
    have s1 := Le_up (f := fun n => c_X5_step n b (5 * p + 74) k τ) (fun n => u_c_X5_step) (show 300 ≤ n by omega) _ s1
    have s2 := Le_up (f := fun n => c_X12_does n P (20 * P + k) σ) (fun n => u_c_X12_does) (show 300 ≤ n' by omega) _ s2
    have tt : To b (b + 13) τ τ' := (k_f_X5_step (To_refl h.1.1) hb (by omega) (by unfold O5; omega)).2 _ s1
    have hle : ¬ gI τ (5 * p + 74) 4 ≤ k := by rw [i32_le]; omega
    rw [d_X5_perform_6, if_neg hle, s1, bd_s, d_X12_runs_111, ck_t (show ix P 4 from ix_of (by omega) (by omega)), eP, hc.2.2.1, if_neg hle, s2, bp_s, s5]
    by_cases q : r = 0
    · rw [if_pos q, if_pos q, nm_t, nm_t]
      have hc' : Cx p τ' σ' := Cx_f hc hp (fun a ha => Sm_to tt (by omega)) (fun a ha => s4.1 a (by omega))
      have e4 : gI τ' (5 * p + 74) = gI τ (5 * p + 74) := (Sm_to tt (by omega)).1
      rcases ih n n' (k + 1) τ' σ' v2 v3 v5 (by rw [c2]; exact s3) hc' (by rw [s5]; exact q) hP (by omega) (by rw [e4]; omega) (by omega) (by omega) with ⟨τ2, σ2, z1, z2, z3, z4, z5, z6⟩ | ⟨r2, i2, τ2, σ2, w, z0, z0', z1, z2, zw, z3, z4, z5, z6⟩
      · left
        exact ⟨τ2, σ2, z1, z2, z3, Fm_trans s4 z4, To_trans tt z5, z6⟩
      · right
        exact ⟨r2, i2, τ2, σ2, w, z0, z0', z1, z2, zw, z3, Fm_trans s4 z4, To_trans tt z5, z6⟩
    · rw [if_neg q, if_neg q]
      right
      refine ⟨r, k, τ', σ', n', q, h3, ?_, rfl, by omega, SR_mono s3 (by omega), s4, tt, s5⟩
      unfold d_X5_perform_28
      rw [nm_t]
end RUN
