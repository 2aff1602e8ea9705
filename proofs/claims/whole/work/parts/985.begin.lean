section BEGIN
theorem t8a : ∀ (d n : Nat) (k : Int32) (σ : Sg), 0 ≤ k.toInt → k.toInt + d = 8 → d < n → ∃ w, n ≤ w + d + 1 ∧ d_X8_reset_2 n k σ = d_X8_reset_28 w (mI (mI σ 6 k.toNatClampNeg 8 (fun _ => 0)) 7 k.toNatClampNeg 8 (fun _ => 1)) := by
  intro d
  induction d with
  | zero =>
    intro n k σ h3 h4 h5
    obtain ⟨n, rfl⟩ : ∃ k, n = k + 1 := ⟨n - 1, by omega⟩
    have := nat0 h3
    refine ⟨n, by omega, ?_⟩
    rw [d_X8_reset_2, if_pos (by rw [i32_le]; simp only [Int32.reduceToInt]; omega), mI_nil (by omega), mI_nil (by omega)]
  | succ d ih =>
    intro n k σ h3 h4 h5
    obtain ⟨n, rfl⟩ : ∃ k, n = k + 1 := ⟨n - 1, by omega⟩
    obtain ⟨c1, c2, c3⟩ := cnt1 (v := k) (m := 64) h3 (by omega) (by decide)
    obtain ⟨w, w1, w2⟩ := ih n (k + 1) (pI (pI σ 6 k.toNatClampNeg 0) 7 k.toNatClampNeg 1) (by omega) (by omega) (by omega)
    refine ⟨w, by omega, ?_⟩
    rw [d_X8_reset_2, if_neg (by rw [i32_le]; simp only [Int32.reduceToInt]; omega), ck_ix (by omega), nm_t, ck_ix (by omega), nm_t, nm_t, w2, c2]
    rw [mI_pI (a := 6) (b := 7) (by decide), mI_step (a := 6) (f := fun _ => 0) (v := 0) (by omega) rfl, mI_step (a := 7) (f := fun _ => 1) (v := 1) (by omega) rfl]
theorem t12a : ∀ (d n : Nat) (k : Int32) (σ : Sg), 0 ≤ k.toInt → k.toInt + d = 8 → d < n → ∃ w, n ≤ w + d + 1 ∧ d_X12_resets_2 n k σ = d_X12_resets_28 w (mI (mI σ 131 k.toNatClampNeg 8 (fun _ => 0)) 132 k.toNatClampNeg 8 (fun _ => 1)) := by
  intro d
  induction d with
  | zero =>
    intro n k σ h3 h4 h5
    obtain ⟨n, rfl⟩ : ∃ k, n = k + 1 := ⟨n - 1, by omega⟩
    have := nat0 h3
    refine ⟨n, by omega, ?_⟩
    rw [d_X12_resets_2, if_pos (by rw [i32_le]; simp only [Int32.reduceToInt]; omega), mI_nil (by omega), mI_nil (by omega)]
  | succ d ih =>
    intro n k σ h3 h4 h5
    obtain ⟨n, rfl⟩ : ∃ k, n = k + 1 := ⟨n - 1, by omega⟩
    obtain ⟨c1, c2, c3⟩ := cnt1 (v := k) (m := 64) h3 (by omega) (by decide)
    obtain ⟨w, w1, w2⟩ := ih n (k + 1) (pI (pI σ 131 k.toNatClampNeg 0) 132 k.toNatClampNeg 1) (by omega) (by omega) (by omega)
    refine ⟨w, by omega, ?_⟩
    rw [d_X12_resets_2, if_neg (by rw [i32_le]; simp only [Int32.reduceToInt]; omega), ck_ix (by omega), nm_t, ck_ix (by omega), nm_t, nm_t, w2, c2]
    rw [mI_pI (a := 131) (b := 132) (by decide), mI_step (a := 131) (f := fun _ => 0) (v := 0) (by omega) rfl, mI_step (a := 132) (f := fun _ => 1) (v := 1) (by omega) rfl]
theorem t8b : ∀ (d n : Nat) (k : Int32) (σ : Sg), 0 ≤ k.toInt → k.toInt + d = 4 → d < n → ∃ σ', d_X8_reset_30 n k σ = some σ' ∧ (∀ s, k.toInt ≤ (s : Nat) → s < 4 → gI σ' 13 s = 2 ∧ gI σ' (s + 9) 0 = 1 ∧ gI σ' (s + 9) 1 = 1) ∧ (∀ s : Nat, (s : Int) < k.toInt → gI σ' 13 s = gI σ 13 s ∧ gI σ' (s + 9) 0 = gI σ (s + 9) 0 ∧ gI σ' (s + 9) 1 = gI σ (s + 9) 1) ∧ (∀ s j, s < 4 → 2 ≤ j → gI σ' (s + 9) j = gI σ (s + 9) j) ∧ (∀ a, ¬ (9 ≤ a ∧ a ≤ 13) → Sm σ σ' a) ∧ Lay σ' = Lay σ := by
  intro d
  induction d with
  | zero =>
    intro n k σ h3 h4 h5
    obtain ⟨n, rfl⟩ : ∃ k, n = k + 1 := ⟨n - 1, by omega⟩
    refine ⟨σ, ?_, fun s q1 q2 => by omega, fun s _ => ⟨rfl, rfl, rfl⟩, fun s j _ _ => rfl, fun a _ => Sm_refl, rfl⟩
    rw [d_X8_reset_30, if_pos (by rw [i32_le]; simp only [Int32.reduceToInt]; omega)]
  | succ d ih =>
    intro n k σ h3 h4 h5
    obtain ⟨n, rfl⟩ : ∃ k, n = k + 1 := ⟨n - 1, by omega⟩
    obtain ⟨c1, c2, c3⟩ := cnt1 (v := k) (m := 64) h3 (by omega) (by decide)
    obtain ⟨σ', w1, w2, w3, w4, w5, w6⟩ := ih n (k + 1) (pI (pI (pI σ (k.toNatClampNeg + 9) 0 1) (k.toNatClampNeg + 9) 1 1) 13 k.toNatClampNeg 2) (by omega) (by omega) (by omega)
    have z0 : (0 : Int32).toNatClampNeg = 0 := rfl
    have z1 : (1 : Int32).toNatClampNeg = 1 := rfl
    refine ⟨σ', ?_, fun s q1 q2 => ?_, fun s q => ?_, fun s j q1 q2 => ?_, fun a ha => ?_, w6⟩
    · rw [d_X8_reset_30, if_neg (by rw [i32_le]; simp only [Int32.reduceToInt]; omega), ck_ix (by omega), ck_ix (by decide), nm_t, ck_ix (by omega), ck_ix (by decide), nm_t, ck_ix (by omega), nm_t, nm_t, z0, z1, w1]
    · by_cases e : (s : Int) = k.toInt
      · have e' : s = k.toNatClampNeg := by omega
        subst e'
        obtain ⟨u1, u2, u3⟩ := w3 k.toNatClampNeg (by omega)
        rw [u1, u2, u3]
        simp (disch := omega) only [gI_pI_s, gJ_pJ_s, gD_pD_s, gI_pJ, gI_pD, gJ_pI, gJ_pD, gD_pI, gD_pJ, gI_pI_a, gJ_pJ_a, gD_pD_a, gI_pI_k, gJ_pJ_k, gD_pD_k]
        exact ⟨trivial, trivial, trivial⟩
      · exact w2 s (by omega) q2
    · obtain ⟨u1, u2, u3⟩ := w3 s (by omega)
      rw [u1, u2, u3]
      simp (disch := omega) only [gI_pI_s, gJ_pJ_s, gD_pD_s, gI_pJ, gI_pD, gJ_pI, gJ_pD, gD_pI, gD_pJ, gI_pI_a, gJ_pJ_a, gD_pD_a, gI_pI_k, gJ_pJ_k, gD_pD_k]
      exact ⟨trivial, trivial, trivial⟩
    · rw [w4 s j q1 q2]
      by_cases e : s = k.toNatClampNeg
      · subst e
        simp (disch := omega) only [gI_pI_s, gJ_pJ_s, gD_pD_s, gI_pJ, gI_pD, gJ_pI, gJ_pD, gD_pI, gD_pJ, gI_pI_a, gJ_pJ_a, gD_pD_a, gI_pI_k, gJ_pJ_k, gD_pD_k]
      · simp (disch := omega) only [gI_pI_s, gJ_pJ_s, gD_pD_s, gI_pJ, gI_pD, gJ_pI, gJ_pD, gD_pI, gD_pJ, gI_pI_a, gJ_pJ_a, gD_pD_a, gI_pI_k, gJ_pJ_k, gD_pD_k]
    · exact Sm_tr (Sm_pI (Sm_pI (Sm_pI Sm_refl (by omega)) (by omega)) (by omega)) (w5 a ha)
theorem t12b : ∀ (d n : Nat) (k : Int32) (σ : Sg), 0 ≤ k.toInt → k.toInt + d = 4 → d < n → ∃ w σ', n ≤ w + d + 1 ∧ d_X12_resets_30 n k σ = d_X12_resets_70 w σ' ∧ (∀ s, k.toInt ≤ (s : Nat) → s < 4 → gI σ' 134 s = 2 ∧ gI σ' 135 (8 * s) = 1 ∧ gI σ' 135 (8 * s + 1) = 1) ∧ (∀ s : Nat, (s : Int) < k.toInt → gI σ' 134 s = gI σ 134 s ∧ gI σ' 135 (8 * s) = gI σ 135 (8 * s) ∧ gI σ' 135 (8 * s + 1) = gI σ 135 (8 * s + 1)) ∧ (∀ s j, s < 4 → 2 ≤ j → j < 8 → gI σ' 135 (8 * s + j) = gI σ 135 (8 * s + j)) ∧ (∀ a, ¬ (134 ≤ a ∧ a ≤ 135) → Sm σ σ' a) ∧ Lay σ' = Lay σ := by
  intro d
  induction d with
  | zero =>
    intro n k σ h3 h4 h5
    obtain ⟨n, rfl⟩ : ∃ k, n = k + 1 := ⟨n - 1, by omega⟩
    refine ⟨n, σ, by omega, ?_, fun s q1 q2 => by omega, fun s _ => ⟨rfl, rfl, rfl⟩, fun s j _ _ _ => rfl, fun a _ => Sm_refl, rfl⟩
    rw [d_X12_resets_30, if_pos (by rw [i32_le]; simp only [Int32.reduceToInt]; omega)]
  | succ d ih =>
    intro n k σ h3 h4 h5
    obtain ⟨n, rfl⟩ : ∃ k, n = k + 1 := ⟨n - 1, by omega⟩
    obtain ⟨c1, c2, c3⟩ := cnt1 (v := k) (m := 64) h3 (by omega) (by decide)
    obtain ⟨w, σ', w0, w1, w2, w3, w4, w5, w6⟩ := ih n (k + 1) (pI (pI (pI σ 134 k.toNatClampNeg 2) 135 (8 * k.toNatClampNeg) 1) 135 (8 * k.toNatClampNeg + 1) 1) (by omega) (by omega) (by omega)
    have e8 : (8 * k).toInt = 8 * k.toInt := by
      rw [i32_mul (by simp only [Int32.reduceToInt]; omega) (by simp only [Int32.reduceToInt]; omega)]; rfl
    have e9 : (8 * k + 1).toInt = 8 * k.toInt + 1 := by rw [i32_add1 (m := 100) (by omega) (by decide), e8]
    have f8 : (8 * k).toNatClampNeg = 8 * k.toNatClampNeg := by rw [i32_nat (8 * k), e8]; omega
    have f9 : (8 * k + 1).toNatClampNeg = 8 * k.toNatClampNeg + 1 := by rw [i32_nat (8 * k + 1), e9]; omega
    refine ⟨w, σ', by omega, ?_, fun s q1 q2 => ?_, fun s q => ?_, fun s j q1 q2 q3 => ?_, fun a ha => ?_, w6⟩
    · rw [d_X12_resets_30, if_neg (by rw [i32_le]; simp only [Int32.reduceToInt]; omega), ck_ix (by omega), nm_t, ck_ix (by omega), nm_t, ck_ix (by omega), nm_t, nm_t, f8, f9, w1]
    · by_cases e : (s : Int) = k.toInt
      · have e' : s = k.toNatClampNeg := by omega
        subst e'
        obtain ⟨u1, u2, u3⟩ := w3 k.toNatClampNeg (by omega)
        rw [u1, u2, u3]
        simp (disch := omega) only [gI_pI_s, gJ_pJ_s, gD_pD_s, gI_pJ, gI_pD, gJ_pI, gJ_pD, gD_pI, gD_pJ, gI_pI_a, gJ_pJ_a, gD_pD_a, gI_pI_k, gJ_pJ_k, gD_pD_k]
        exact ⟨trivial, trivial, trivial⟩
      · exact w2 s (by omega) q2
    · obtain ⟨u1, u2, u3⟩ := w3 s (by omega)
      rw [u1, u2, u3]
      simp (disch := omega) only [gI_pI_s, gJ_pJ_s, gD_pD_s, gI_pJ, gI_pD, gJ_pI, gJ_pD, gD_pI, gD_pJ, gI_pI_a, gJ_pJ_a, gD_pD_a, gI_pI_k, gJ_pJ_k, gD_pD_k]
      exact ⟨trivial, trivial, trivial⟩
    · rw [w4 s j q1 q2 q3]
      simp (disch := omega) only [gI_pI_s, gJ_pJ_s, gD_pD_s, gI_pJ, gI_pD, gJ_pI, gJ_pD, gD_pI, gD_pJ, gI_pI_a, gJ_pJ_a, gD_pD_a, gI_pI_k, gJ_pJ_k, gD_pD_k]
    · exact Sm_tr (Sm_pI (Sm_pI (Sm_pI Sm_refl (by omega)) (by omega)) (by omega)) (w5 a ha)
theorem t12c : ∀ (d n : Nat) (k : Int32) (σ : Sg), 0 ≤ k.toInt → k.toInt + d = 8 → d < n → ∃ w, n ≤ w + d + 1 ∧ d_X12_resets_72 n k σ = d_X12_resets_91 w (mJ σ 146 k.toNatClampNeg 8 (fun _ => 0)) := by
  intro d
  induction d with
  | zero =>
    intro n k σ h3 h4 h5
    obtain ⟨n, rfl⟩ : ∃ k, n = k + 1 := ⟨n - 1, by omega⟩
    have := nat0 h3
    refine ⟨n, by omega, ?_⟩
    rw [d_X12_resets_72, if_pos (by rw [i32_le]; simp only [Int32.reduceToInt]; omega), mJ_nil (by omega)]
  | succ d ih =>
    intro n k σ h3 h4 h5
    obtain ⟨n, rfl⟩ : ∃ k, n = k + 1 := ⟨n - 1, by omega⟩
    obtain ⟨c1, c2, c3⟩ := cnt1 (v := k) (m := 64) h3 (by omega) (by decide)
    obtain ⟨w, w1, w2⟩ := ih n (k + 1) (pJ σ 146 k.toNatClampNeg 0) (by omega) (by omega) (by omega)
    refine ⟨w, by omega, ?_⟩
    rw [d_X12_resets_72, if_neg (by rw [i32_le]; simp only [Int32.reduceToInt]; omega), ck_ix (by omega), nm_t, nm_t, w2, c2, mJ_step (f := fun _ => 0) (v := 0) (by omega) rfl]
theorem t12d : ∀ (d n : Nat) (k : Int32) (σ : Sg), 0 ≤ k.toInt → k.toInt + d = 12 → d < n → d_X12_resets_128 n k σ = some (mJ σ 145 k.toNatClampNeg 12 (fun _ => 0)) := by
  intro d
  induction d with
  | zero =>
    intro n k σ h3 h4 h5
    obtain ⟨n, rfl⟩ : ∃ k, n = k + 1 := ⟨n - 1, by omega⟩
    have := nat0 h3
    rw [d_X12_resets_128, if_pos (by rw [i32_le]; simp only [Int32.reduceToInt]; omega), mJ_nil (by omega)]
  | succ d ih =>
    intro n k σ h3 h4 h5
    obtain ⟨n, rfl⟩ : ∃ k, n = k + 1 := ⟨n - 1, by omega⟩
    obtain ⟨c1, c2, c3⟩ := cnt1 (v := k) (m := 64) h3 (by omega) (by decide)
    rw [d_X12_resets_128, if_neg (by rw [i32_le]; simp only [Int32.reduceToInt]; omega), ck_ix (by omega), nm_t, nm_t, ih n (k + 1) _ (by omega) (by omega) (by omega), c2, mJ_step (f := fun _ => 0) (v := 0) (by omega) rfl]
theorem s_begin (n : Nat) (hn : 200 ≤ n) {c : Nat} {τ σ : Sg} (h : Rl c τ σ) : ∃ r τ' σ', c_X11_begin n τ = some (r, τ') ∧ c_X12_begin n σ = some (r, σ') ∧ Rl (c + 1) τ' σ' := by
  obtain ⟨⟨lt, ls, h0⟩, h1, h2, h3, h4, h5, h6, h7, h8⟩ := h
  have z0 : (0 : Int32).toNatClampNeg = 0 := rfl
  unfold c_X11_begin c_X8_reset
  rw [nm_t, nm_t, nm_t]
  obtain ⟨w, w1, w2⟩ := t8a 8 n 0 (pI (pI (pI τ 4 8 0) 4 9 0) 14 1 0) (by decide) (by decide) (by omega)
  rw [w2, z0]
  unfold d_X8_reset_28
  obtain ⟨τ1, a1, a2, -, a4, a5, a6⟩ := t8b 4 w 0 (mI (mI (pI (pI (pI τ 4 8 0) 4 9 0) 14 1 0) 6 0 8 (fun _ => 0)) 7 0 8 (fun _ => 1)) (by decide) (by decide) (by omega)
  rw [a1, bp_s]
  unfold c_X4_reset
  rw [l_reset4 8 n 0 τ1 (by decide) (by decide) (by omega), bp_s, z0]
  obtain ⟨τ2, b1, b2, b3, b4, b5, b6, b7, b8, b9⟩ := wipe_v (b := 20) (τ := pI (mJ τ1 (16 + 1) 0 8 fun _ => 0) 16 1 0) (n := n) (by omega) (Or.inl rfl)
  rw [b1, bp_s]
  unfold c_X12_begin c_X12_resets
  obtain ⟨w', w3, w4⟩ := t12a 8 n 0 σ (by decide) (by decide) (by omega)
  rw [w4, z0]
  unfold d_X12_resets_28
  obtain ⟨w'', σ1, d0, d1, d2, -, d4, d5, d6⟩ := t12b 4 w' 0 (mI (mI σ 131 0 8 (fun _ => 0)) 132 0 8 (fun _ => 1)) (by decide) (by decide) (by omega)
  rw [d1]
  unfold d_X12_resets_70
  obtain ⟨w3', w5, w6⟩ := t12c 8 w'' 0 σ1 (by decide) (by decide) (by omega)
  rw [w6, z0]
  unfold d_X12_resets_91 c_X12_clears
  simp only [nm_t]
  rw [r_clears (B := 0) 8 w3' 0 _ (by decide) (by simp (disch := omega) only [gI_pI_s, gJ_pJ_s, gD_pD_s, gI_pJ, gI_pD, gJ_pI, gJ_pD, gD_pI, gD_pJ, gI_pI_a, gJ_pJ_a, gD_pD_a, gI_pI_k, gJ_pJ_k, gD_pD_k, gI_mI_i, gJ_mJ_i, gD_mD_i, gI_mJ, gI_mD, gJ_mI, gJ_mD, gD_mI, gD_mJ, gI_mI_a, gJ_mJ_a, gD_mD_a, gI_mI_o, gJ_mJ_o, gD_mD_o]; rfl) (by decide) (by decide) (by omega), bp_s]
  rw [t12d 12 w3' 0 _ (by decide) (by decide) (by omega), bp_s, z0]
  simp only [Nat.mul_zero, Nat.zero_add]
  have lt' : Lay τ2 := by rw [b9]; have : Lay τ1 := by rw [a6]; exact lt
                          exact this
  have ls' : Lay σ1 := by rw [d6]; exact ls
  have ea : ∀ a, ¬ (a = 4 ∨ a = 6 ∨ a = 7 ∨ (9 ≤ a ∧ a ≤ 14) ∨ (16 ≤ a ∧ a ≤ 17) ∨ (20 ≤ a ∧ a ≤ 32)) → Sm τ τ2 a := fun a ha => Sm_tr (Sm_tr (Sm_mI (Sm_mI (Sm_pI (Sm_pI (Sm_pI Sm_refl (by omega)) (by omega)) (by omega)) (by omega)) (by omega)) (a5 a (by omega))) (Sm_tr (Sm_pI (Sm_mJ Sm_refl (by omega)) (by omega)) (b7 a (by omega)))
  have eb : ∀ a, a < 20 → Sm (pI (mJ τ1 (16 + 1) 0 8 fun _ => 0) 16 1 0) τ2 a := fun a ha => b7 a (by omega)
  have ec : ∀ a, a < 16 → Sm τ1 τ2 a := fun a ha => Sm_tr (Sm_pI (Sm_mJ Sm_refl (by omega)) (by omega)) (eb a (by omega))
  have ed : ∀ a, ¬ (9 ≤ a ∧ a ≤ 13) → a < 16 → Sm (mI (mI (pI (pI (pI τ 4 8 0) 4 9 0) 14 1 0) 6 0 8 (fun _ => 0)) 7 0 8 (fun _ => 1)) τ2 a := fun a h1 h2 => Sm_tr (a5 a h1) (ec a h2)
  have s1 : ∀ a, ¬ (a = 131 ∨ a = 132 ∨ a = 134 ∨ a = 135) → Sm σ σ1 a := fun a ha => Sm_tr (Sm_mI (Sm_mI Sm_refl (by omega)) (by omega)) (d5 a (by omega))
  refine ⟨_, _, _, rfl, rfl, ⟨lt', ls', Rold_f h0 (fun a ha => ea a (by omega))⟩, ?_, ?_, ?_, ?_, ?_, ?_, ?_, ?_⟩
  · intro k hk
    rw [(ed 6 (by decide) (by decide)).1, (ed 7 (by decide) (by decide)).1]
    simp (disch := omega) only [gI_pI_s, gJ_pJ_s, gD_pD_s, gI_pJ, gI_pD, gJ_pI, gJ_pD, gD_pI, gD_pJ, gI_pI_a, gJ_pJ_a, gD_pD_a, gI_pI_k, gJ_pJ_k, gD_pD_k, gI_mI_i, gJ_mJ_i, gD_mD_i, gI_mJ, gI_mD, gJ_mI, gJ_mD, gD_mI, gD_mJ, gI_mI_a, gJ_mJ_a, gD_mD_a, gI_mI_o, gJ_mJ_o, gD_mD_o]
    rw [(d5 131 (by decide)).1, (d5 132 (by decide)).1]
    simp (disch := omega) only [gI_pI_s, gJ_pJ_s, gD_pD_s, gI_pJ, gI_pD, gJ_pI, gJ_pD, gD_pI, gD_pJ, gI_pI_a, gJ_pJ_a, gD_pD_a, gI_pI_k, gJ_pJ_k, gD_pD_k, gI_mI_i, gJ_mJ_i, gD_mD_i, gI_mJ, gI_mD, gJ_mI, gJ_mD, gD_mI, gD_mJ, gI_mI_a, gJ_mJ_a, gD_mD_a, gI_mI_o, gJ_mJ_o, gD_mD_o]
    decide
  · intro s hs
    obtain ⟨u1, u2, u3⟩ := a2 s (by simp only [Int32.reduceToInt]; omega) hs
    obtain ⟨v1, v2, v3⟩ := d2 s (by simp only [Int32.reduceToInt]; omega) hs
    obtain ⟨k1, k2, k3, k4⟩ := h2 s hs
    rw [(ec 13 (by decide)).1, (ec (s + 9) (by omega)).1]
    simp (disch := omega) only [gI_pI_s, gJ_pJ_s, gD_pD_s, gI_pJ, gI_pD, gJ_pI, gJ_pD, gD_pI, gD_pJ, gI_pI_a, gJ_pJ_a, gD_pD_a, gI_pI_k, gJ_pJ_k, gD_pD_k, gI_mI_i, gJ_mJ_i, gD_mD_i, gI_mJ, gI_mD, gJ_mI, gJ_mD, gD_mI, gD_mJ, gI_mI_a, gJ_mJ_a, gD_mD_a, gI_mI_o, gJ_mJ_o, gD_mD_o]
    rw [u1, v1]
    refine ⟨rfl, by decide, by decide, fun j hj => ?_⟩
    by_cases e0 : j = 0
    · subst e0
      rw [u2, Nat.add_zero, v2]; decide
    · by_cases e1 : j = 1
      · subst e1
        rw [u3, v3]; decide
      · rw [a4 s j hs (by omega), d4 s j hs (by omega) hj]
        simp (disch := omega) only [gI_pI_s, gJ_pJ_s, gD_pD_s, gI_pJ, gI_pD, gJ_pI, gJ_pD, gD_pI, gD_pJ, gI_pI_a, gJ_pJ_a, gD_pD_a, gI_pI_k, gJ_pJ_k, gD_pD_k, gI_mI_i, gJ_mJ_i, gD_mD_i, gI_mJ, gI_mD, gJ_mI, gJ_mD, gD_mI, gD_mJ, gI_mI_a, gJ_mJ_a, gD_mD_a, gI_mI_o, gJ_mJ_o, gD_mD_o]
        exact k4 j hj
  · refine ⟨?_, ?_⟩
    · rw [(ed 14 (by decide) (by decide)).1]
      simp (disch := omega) only [gI_pI_s, gJ_pJ_s, gD_pD_s, gI_pJ, gI_pD, gJ_pI, gJ_pD, gD_pI, gD_pJ, gI_pI_a, gJ_pJ_a, gD_pD_a, gI_pI_k, gJ_pJ_k, gD_pD_k, gI_mI_i, gJ_mJ_i, gD_mD_i, gI_mJ, gI_mD, gJ_mI, gJ_mD, gD_mI, gD_mJ, gI_mI_a, gJ_mJ_a, gD_mD_a, gI_mI_o, gJ_mJ_o, gD_mD_o]
    · rw [(ed 14 (by decide) (by decide)).1]
      have e15 := (ea 15 (by decide)).1
      rw [e15]
      simp (disch := omega) only [gI_pI_s, gJ_pJ_s, gD_pD_s, gI_pJ, gI_pD, gJ_pI, gJ_pD, gD_pI, gD_pJ, gI_pI_a, gJ_pJ_a, gD_pD_a, gI_pI_k, gJ_pJ_k, gD_pD_k, gI_mI_i, gJ_mJ_i, gD_mD_i, gI_mJ, gI_mD, gJ_mI, gJ_mD, gD_mI, gD_mJ, gI_mI_a, gJ_mJ_a, gD_mD_a, gI_mI_o, gJ_mJ_o, gD_mD_o]
      rw [(s1 133 (by decide)).1]
      exact ⟨by decide, by decide, h3.2.2.2⟩
  · have e16 := (eb 16 (by decide)).1
    have e17 := (eb 17 (by decide)).2.1
    refine ⟨?_, ?_⟩
    · rw [e16]
      simp (disch := omega) only [gI_pI_s, gJ_pJ_s, gD_pD_s, gI_pJ, gI_pD, gJ_pI, gJ_pD, gD_pI, gD_pJ, gI_pI_a, gJ_pJ_a, gD_pD_a, gI_pI_k, gJ_pJ_k, gD_pD_k, gI_mI_i, gJ_mJ_i, gD_mD_i, gI_mJ, gI_mD, gJ_mI, gJ_mD, gD_mI, gD_mJ, gI_mI_a, gJ_mJ_a, gD_mD_a, gI_mI_o, gJ_mJ_o, gD_mD_o]
    · rw [e16, e17]
      simp (disch := omega) only [gI_pI_s, gJ_pJ_s, gD_pD_s, gI_pJ, gI_pD, gJ_pI, gJ_pD, gD_pI, gD_pJ, gI_pI_a, gJ_pJ_a, gD_pD_a, gI_pI_k, gJ_pJ_k, gD_pD_k, gI_mI_i, gJ_mJ_i, gD_mD_i, gI_mJ, gI_mD, gJ_mI, gJ_mD, gD_mI, gD_mJ, gI_mI_a, gJ_mJ_a, gD_mD_a, gI_mI_o, gJ_mJ_o, gD_mD_o]
      refine ⟨by decide, by simp only [Int32.reduceToInt]; omega, fun k hk => ?_⟩
      simp (disch := omega) only [gI_pI_s, gJ_pJ_s, gD_pD_s, gI_pJ, gI_pD, gJ_pI, gJ_pD, gD_pI, gD_pJ, gI_pI_a, gJ_pJ_a, gD_pD_a, gI_pI_k, gJ_pJ_k, gD_pD_k, gI_mI_i, gJ_mJ_i, gD_mD_i, gI_mJ, gI_mD, gJ_mI, gJ_mD, gD_mI, gD_mJ, gI_mI_a, gJ_mJ_a, gD_mD_a, gI_mI_o, gJ_mJ_o, gD_mD_o]
  · have e4 := (ed 4 (by decide) (by decide)).1
    refine ⟨?_, ?_⟩
    · rw [e4]
      simp (disch := omega) only [gI_pI_s, gJ_pJ_s, gD_pD_s, gI_pJ, gI_pD, gJ_pI, gJ_pD, gD_pI, gD_pJ, gI_pI_a, gJ_pJ_a, gD_pD_a, gI_pI_k, gJ_pJ_k, gD_pD_k, gI_mI_i, gJ_mJ_i, gD_mD_i, gI_mJ, gI_mD, gJ_mI, gJ_mD, gD_mI, gD_mJ, gI_mI_a, gJ_mJ_a, gD_mD_a, gI_mI_o, gJ_mJ_o, gD_mD_o]
    · rw [e4]
      simp (disch := omega) only [gI_pI_s, gJ_pJ_s, gD_pD_s, gI_pJ, gI_pD, gJ_pI, gJ_pD, gD_pI, gD_pJ, gI_pI_a, gJ_pJ_a, gD_pD_a, gI_pI_k, gJ_pJ_k, gD_pD_k, gI_mI_i, gJ_mJ_i, gD_mD_i, gI_mJ, gI_mD, gJ_mI, gJ_mD, gD_mI, gD_mJ, gI_mI_a, gJ_mJ_a, gD_mD_a, gI_mI_o, gJ_mJ_o, gD_mD_o]
      refine ⟨by decide, by decide, fun p hp => ?_⟩
      obtain ⟨j1, j2, j3, j4, -⟩ := h5.2.2.2 p hp
      rw [(ea (5 * p + 74) (by omega)).1, (ea (5 * p + 75) (by omega)).1, (ea (5 * p + 76) (by omega)).1, (ea (5 * p + 77) (by omega)).1, (ea (5 * p + 78) (by omega)).1, (s1 136 (by decide)).1]
      refine ⟨j1, j2, j3, fun i hi => ?_, fun q => ?_⟩
      · rw [(s1 137 (by decide)).1, (s1 138 (by decide)).1, (s1 139 (by decide)).1, (s1 140 (by decide)).1]
        exact j4 i hi
      · simp only [Int32.reduceToInt] at q; omega
  · refine ⟨?_, fun k hk => ?_, fun k hk => ?_⟩
    · rw [b6]
      simp (disch := omega) only [gI_pI_s, gJ_pJ_s, gD_pD_s, gI_pJ, gI_pD, gJ_pI, gJ_pD, gD_pI, gD_pJ, gI_pI_a, gJ_pJ_a, gD_pD_a, gI_pI_k, gJ_pJ_k, gD_pD_k, gI_mI_i, gJ_mJ_i, gD_mD_i, gI_mJ, gI_mD, gJ_mI, gJ_mD, gD_mI, gD_mJ, gI_mI_a, gJ_mJ_a, gD_mD_a, gI_mI_o, gJ_mJ_o, gD_mD_o]
    · obtain ⟨u1, u2, u3, u4⟩ := b2 k hk
      rw [show gJ τ2 29 k = 0 from u1, show gJ τ2 30 k = 1 from u2, show gI τ2 31 k = 0 from u3, show gJ τ2 26 k = 0 from u4]
      simp (disch := omega) only [gI_pI_s, gJ_pJ_s, gD_pD_s, gI_pJ, gI_pD, gJ_pI, gJ_pD, gD_pI, gD_pJ, gI_pI_a, gJ_pJ_a, gD_pD_a, gI_pI_k, gJ_pJ_k, gD_pD_k, gI_mI_i, gJ_mJ_i, gD_mD_i, gI_mJ, gI_mD, gJ_mI, gJ_mD, gD_mI, gD_mJ, gI_mI_a, gJ_mJ_a, gD_mD_a, gI_mI_o, gJ_mJ_o, gD_mD_o]
      decide
    · rw [show gJ τ2 32 k = 0 from b3 k hk]
      simp (disch := omega) only [gI_pI_s, gJ_pJ_s, gD_pD_s, gI_pJ, gI_pD, gJ_pI, gJ_pD, gD_pI, gD_pJ, gI_pI_a, gJ_pJ_a, gD_pD_a, gI_pI_k, gJ_pJ_k, gD_pD_k, gI_mI_i, gJ_mJ_i, gD_mD_i, gI_mJ, gI_mD, gJ_mI, gJ_mD, gD_mI, gD_mJ, gI_mI_a, gJ_mJ_a, gD_mD_a, gI_mI_o, gJ_mJ_o, gD_mD_o]
  · exact Rtap_f h7 (Nat.le_succ _) (fun a ha => ea a (by omega)) (fun a ha => Sm_mJ (Sm_pI (Sm_pI (Sm_mJ (Sm_mI (Sm_mJ (Sm_mJ (Sm_pI (Sm_pI (Sm_pI (Sm_pI (Sm_pI (Sm_pI (Sm_mJ (s1 a (by omega)) (by omega)) (by omega)) (by omega)) (by omega)) (by omega)) (by omega)) (by omega)) (by omega)) (by omega)) (by omega)) (by omega)) (by omega)) (by omega)) (by omega))
  · have e4 := (ed 4 (by decide) (by decide)).1
    refine ⟨?_, ?_⟩
    · rw [e4]
      simp (disch := omega) only [gI_pI_s, gJ_pJ_s, gD_pD_s, gI_pJ, gI_pD, gJ_pI, gJ_pD, gD_pI, gD_pJ, gI_pI_a, gJ_pJ_a, gD_pD_a, gI_pI_k, gJ_pJ_k, gD_pD_k, gI_mI_i, gJ_mJ_i, gD_mD_i, gI_mJ, gI_mD, gJ_mI, gJ_mD, gD_mI, gD_mJ, gI_mI_a, gJ_mJ_a, gD_mD_a, gI_mI_o, gJ_mJ_o, gD_mD_o]
    · simp (disch := omega) only [gI_pI_s, gJ_pJ_s, gD_pD_s, gI_pJ, gI_pD, gJ_pI, gJ_pD, gD_pI, gD_pJ, gI_pI_a, gJ_pJ_a, gD_pD_a, gI_pI_k, gJ_pJ_k, gD_pD_k, gI_mI_i, gJ_mJ_i, gD_mD_i, gI_mJ, gI_mD, gJ_mI, gJ_mD, gD_mI, gD_mJ, gI_mI_a, gJ_mJ_a, gD_mD_a, gI_mI_o, gJ_mJ_o, gD_mD_o]
end BEGIN
