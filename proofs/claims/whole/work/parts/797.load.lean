theorem ix3 {v1 v2 v4 : Int32} (h1 : 0 ≤ v1.toInt ∧ v1.toInt ≤ 5) (h2 : 0 ≤ v2.toInt) (h4 : 0 ≤ v4.toInt) (h : v2.toInt + v4.toInt < 64) : (64 * v1 + v2 + v4).toNatClampNeg = 64 * v1.toNatClampNeg + (v2.toNatClampNeg + v4.toNatClampNeg) ∧ ix (64 * v1 + v2 + v4) 384 := by
  obtain ⟨x1, x2, -⟩ := ix2 (c := 64) (m := 6) (k := 64) (v := v1) (w := v2) (by decide) (ix_of h1.1 (by omega)) (ix_of h2 (by omega)) rfl (by decide)
  have e : (64 : Int32).toInt = 64 := rfl
  rw [e] at x1
  have e2 : (64 * v1 + v2 + v4).toInt = 64 * v1.toInt + v2.toInt + v4.toInt := by rw [i32_add (by omega) (by omega), x1]
  have n1 := nat0 h1.1
  have n2 := nat0 h2
  have n4 := nat0 h4
  refine ⟨?_, ix_of (by omega) (by omega)⟩
  rw [i32_nat (64 * v1 + v2 + v4), e2]
  omega
theorem ix2a {v2 v4 : Int32} (h2 : 0 ≤ v2.toInt) (h4 : 0 ≤ v4.toInt) (h : v2.toInt + v4.toInt < 64) : (v2 + v4).toNatClampNeg = v2.toNatClampNeg + v4.toNatClampNeg ∧ ix (v2 + v4) 64 := by
  have e2 : (v2 + v4).toInt = v2.toInt + v4.toInt := i32_add (by omega) (by omega)
  have n2 := nat0 h2
  have n4 := nat0 h4
  refine ⟨?_, ix_of (by omega) (by omega)⟩
  rw [i32_nat (v2 + v4), e2]
  omega
theorem l_load : ∀ (d n : Nat) (v1 v2 v3 v : Int32) (τ σ : Sg) {A : Nat}, 0 ≤ v1.toInt ∧ v1.toInt ≤ 5 → 0 ≤ v2.toInt → v2.toInt + v3.toInt ≤ 64 → (∀ j : Nat, (j : Int) < v2.toInt + v3.toInt → gJ σ 152 (64 * v1.toNatClampNeg + j) = gJ τ (A + 1) j) → 0 ≤ v.toInt → v.toInt + d = v3.toInt → d < n →
    (∃ m, n ≤ m + d + 1 ∧ d_X11_load_87 n v2 v3 A v τ = d_X11_load_118 m v2 v3 A τ ∧ d_X12_load_88 n v1 v2 v3 v σ = d_X12_load_123 m v1 v2 v3 σ ∧ ∀ k : Nat, v.toInt ≤ k → k < v3.toInt → -1000000 ≤ (gJ τ (A + 1) (v2.toNatClampNeg + k)).toInt ∧ (gJ τ (A + 1) (v2.toNatClampNeg + k)).toInt ≤ 1000000) ∨ (d_X11_load_87 n v2 v3 A v τ = some (-3, τ) ∧ d_X12_load_88 n v1 v2 v3 v σ = some (-3, σ)) := by
  intro d
  induction d with
  | zero =>
    intro n v1 v2 v3 v τ σ A h0 h1 h2 hr h3 h4 h5
    obtain ⟨n, rfl⟩ : ∃ k, n = k + 1 := ⟨n - 1, by omega⟩
    left
    refine ⟨n, by omega, ?_, ?_, fun k q1 q2 => by omega⟩
    · rw [d_X11_load_87, if_pos (by rw [i32_le]; omega)]
    · rw [d_X12_load_88, if_pos (by rw [i32_le]; omega)]
  | succ d ih =>
    intro n v1 v2 v3 v τ σ A h0 h1 h2 hr h3 h4 h5
    obtain ⟨n, rfl⟩ : ∃ k, n = k + 1 := ⟨n - 1, by omega⟩
    obtain ⟨c1, c2, c3⟩ := cnt1 (v := v) (m := 64) h3 (by omega) (by decide)
    obtain ⟨x1, x2⟩ := ix3 (v1 := v1) (v2 := v2) (v4 := v) h0 h1 h3 (by omega)
    obtain ⟨y1, y2⟩ := ix2a (v2 := v2) (v4 := v) h1 h3 (by omega)
    have n2 := nat0 h1
    have er := hr (v2.toNatClampNeg + v.toNatClampNeg) (by omega)
    rw [d_X11_load_87, d_X12_load_88, if_neg (by rw [i32_le]; omega), if_neg (by rw [i32_le]; omega), ck_t x2, ck_t y2, x1, y1, er, v_isLine, v_isLine12]
    simp only [bp_s, ite10]
    by_cases q : -1000000 ≤ (gJ τ (A + 1) (v2.toNatClampNeg + v.toNatClampNeg)).toInt ∧ (gJ τ (A + 1) (v2.toNatClampNeg + v.toNatClampNeg)).toInt ≤ 1000000
    · rw [if_pos q, if_pos q, nm_t, nm_t]
      rcases ih n v1 v2 v3 (v + 1) τ σ h0 h1 h2 hr (by omega) (by omega) (by omega) with ⟨m, m1, m2, m3, m4⟩ | ⟨m2, m3⟩
      · left
        refine ⟨m, by omega, m2, m3, fun k q1 q2 => ?_⟩
        by_cases e : k = v.toNatClampNeg
        · subst e; exact q
        · exact m4 k (by omega) q2
      · right; exact ⟨m2, m3⟩
    · right
      rw [if_neg q, if_neg q]
      exact ⟨rfl, rfl⟩
theorem l_load11b : ∀ (d n : Nat) (v2 v3 v : Int32) (σ : Sg) {A : Nat} {f : Nat → Int32}, 94 ≤ A → 0 ≤ v2.toInt → v2.toInt + v3.toInt ≤ 64 → v3.toInt ≤ 12 → (∀ j : Nat, (j : Int) < v3.toInt → (gJ σ (A + 1) (v2.toNatClampNeg + j)).toInt32 = f j) → 0 ≤ v.toInt → v.toInt + d = v3.toInt → d < n → d_X11_load_121 n v2 v3 A v σ = some (v3, pI (mI σ 15 v.toNatClampNeg v3.toNatClampNeg f) 14 1 v3) := by
  intro d
  induction d with
  | zero =>
    intro n v2 v3 v σ A f h0 h1 h2 h12 hf h3 h4 h5
    obtain ⟨n, rfl⟩ : ∃ k, n = k + 1 := ⟨n - 1, by omega⟩
    have := nat0 h3
    have := nat0 (v := v3) (by omega)
    rw [d_X11_load_121, if_pos (by rw [i32_le]; omega), mI_nil (by omega)]
    rfl
  | succ d ih =>
    intro n v2 v3 v σ A f h0 h1 h2 h12 hf h3 h4 h5
    obtain ⟨n, rfl⟩ : ∃ k, n = k + 1 := ⟨n - 1, by omega⟩
    obtain ⟨c1, c2, c3⟩ := cnt1 (v := v) (m := 64) h3 (by omega) (by decide)
    obtain ⟨y1, y2⟩ := ix2a (v2 := v2) (v4 := v) h1 h3 (by omega)
    have := nat0 (v := v3) (by omega)
    rw [d_X11_load_121, if_neg (by rw [i32_le]; omega), ck_t y2, ck_ix (by omega), nm_t, nm_t, y1, hf _ (by omega),
      ih n v2 v3 (v + 1) (pI σ 15 v.toNatClampNeg (f v.toNatClampNeg)) (A := A) (f := f) h0 h1 h2 h12 hf (by omega) (by omega) (by omega), c2, mI_step (by omega) rfl]
theorem l_load12b : ∀ (d n : Nat) (v1 v2 v3 v : Int32) (σ : Sg) {f : Nat → Int32}, 0 ≤ v1.toInt ∧ v1.toInt ≤ 5 → 0 ≤ v2.toInt → v2.toInt + v3.toInt ≤ 64 → v3.toInt ≤ 12 → (∀ j : Nat, (j : Int) < v3.toInt → (gJ σ 152 (64 * v1.toNatClampNeg + (v2.toNatClampNeg + j))).toInt32 = f j) → 0 ≤ v.toInt → v.toInt + d = v3.toInt → d < n → d_X12_load_126 n v1 v2 v3 v σ = some (v3, pI (mI σ 133 v.toNatClampNeg v3.toNatClampNeg f) 130 3 v3) := by
  intro d
  induction d with
  | zero =>
    intro n v1 v2 v3 v σ f h0 h1 h2 h12 hf h3 h4 h5
    obtain ⟨n, rfl⟩ : ∃ k, n = k + 1 := ⟨n - 1, by omega⟩
    have := nat0 h3
    have := nat0 (v := v3) (by omega)
    rw [d_X12_load_126, if_pos (by rw [i32_le]; omega), mI_nil (by omega)]
    rfl
  | succ d ih =>
    intro n v1 v2 v3 v σ f h0 h1 h2 h12 hf h3 h4 h5
    obtain ⟨n, rfl⟩ : ∃ k, n = k + 1 := ⟨n - 1, by omega⟩
    obtain ⟨c1, c2, c3⟩ := cnt1 (v := v) (m := 64) h3 (by omega) (by decide)
    obtain ⟨x1, x2⟩ := ix3 (v1 := v1) (v2 := v2) (v4 := v) h0 h1 h3 (by omega)
    have := nat0 (v := v3) (by omega)
    rw [d_X12_load_126, if_neg (by rw [i32_le]; omega), ck_t x2, ck_ix (by omega), nm_t, nm_t, x1, hf _ (by omega),
      ih n v1 v2 v3 (v + 1) (pI σ 133 v.toNatClampNeg (f v.toNatClampNeg)) (f := f) h0 h1 h2 h12 hf (by omega) (by omega) (by omega), c2, mI_step (by omega) rfl]
theorem i32_of64 {a : Int64} (h : -2147483648 ≤ a.toInt) (h' : a.toInt < 2147483648) : a.toInt32.toInt = a.toInt := by
  rw [Int64.toInt_toInt32]; exact bm32 h h'
theorem s_load (n : Nat) (hn : 100 ≤ n) (a1 a2 a3 : Int32) {c : Nat} {τ σ : Sg} (h : Rl c τ σ) : ∃ r τ' σ', c_X11_load n a1 a2 a3 τ = some (r, τ') ∧ c_X12_load n a1 a2 a3 σ = some (r, σ') ∧ Rl (c + 1) τ' σ' := by
  have H := h
  obtain ⟨⟨lt, ls, h0⟩, h1, h2, h3, h4, h5, h6, h7, h8⟩ := h
  by_cases q1 : 0 ≤ a1.toInt ∧ a1.toInt ≤ 5
  · obtain ⟨hx, hd, hn'⟩ := Rtap_g h7 q1
    obtain ⟨t1, t2, t3, t4, t5, t6, t7, t8, t9, t10, t11, t12, t13, t14, t15⟩ := h7 _ hd
    by_cases q2 : 0 ≤ a3.toInt ∧ a3.toInt ≤ 12
    · have p1 := v_hasPlaces (i := a2) (n := a3) t5
      by_cases q3 : (gI τ (6 * a1.toNatClampNeg + 94) 0).toInt = 0
      · refine ⟨-11, _, _, ?_, ?_, Rl_ref H⟩
        · simp (disch := omega) only [c_X11_load, c_X11_refuse, bp_s, bd_s, nm_t, ite10, if_pos, if_neg, ck_ix, i32_lt, i32_le, Int32.reduceToInt, reduceIte, i32_eq, Int.reduceEq, if_true, if_false, v_in, v_isRate, v_isSlot, v_isMode, v_isLaw, v_isTape]
        · simp (disch := omega) only [c_X12_load, v_isTape12, c_X12_refuse, t1, h8.1, bp_s, bd_s, nm_t, ite10, if_pos, if_neg, ck_ix, i32_lt, i32_le, Int32.reduceToInt, reduceIte, i32_eq, Int.reduceEq, if_true, if_false, v_in, v_isRate, v_isSlot, v_isMode, v_isLaw, v_isTape]
      · by_cases q4 : (gI τ (6 * a1.toNatClampNeg + 94) 0).toInt = 1
        · refine ⟨-12, _, _, ?_, ?_, Rl_ref H⟩
          · simp (disch := omega) only [c_X11_load, d_X11_load_60, c_X11_refuse, bp_s, bd_s, nm_t, ite10, if_pos, if_neg, ck_ix, i32_lt, i32_le, Int32.reduceToInt, reduceIte, i32_eq, Int.reduceEq, if_true, if_false, v_in, v_isRate, v_isSlot, v_isMode, v_isLaw, v_isTape]
          · simp (disch := omega) only [c_X12_load, d_X12_load_55, v_isTape12, c_X12_refuse, t1, h8.1, bp_s, bd_s, nm_t, ite10, if_pos, if_neg, ck_ix, i32_lt, i32_le, Int32.reduceToInt, reduceIte, i32_eq, Int.reduceEq, if_true, if_false, v_in, v_isRate, v_isSlot, v_isMode, v_isLaw, v_isTape]
        · by_cases q5 : (gI τ (6 * a1.toNatClampNeg + 94) 0).toInt = 5
          · refine ⟨-12, _, _, ?_, ?_, Rl_ref H⟩
            · simp (disch := omega) only [c_X11_load, d_X11_load_60, c_X11_refuse, bp_s, bd_s, nm_t, ite10, if_pos, if_neg, ck_ix, i32_lt, i32_le, Int32.reduceToInt, reduceIte, i32_eq, Int.reduceEq, if_true, if_false, v_in, v_isRate, v_isSlot, v_isMode, v_isLaw, v_isTape]
            · simp (disch := omega) only [c_X12_load, d_X12_load_55, v_isTape12, c_X12_refuse, t1, h8.1, bp_s, bd_s, nm_t, ite10, if_pos, if_neg, ck_ix, i32_lt, i32_le, Int32.reduceToInt, reduceIte, i32_eq, Int.reduceEq, if_true, if_false, v_in, v_isRate, v_isSlot, v_isMode, v_isLaw, v_isTape]
          · by_cases q6 : 0 ≤ a2.toInt
            · have e1 : (gI τ (6 * a1.toNatClampNeg + 94) 6 - a2).toInt = (gI τ (6 * a1.toNatClampNeg + 94) 6).toInt - a2.toInt := by
                have := i32_hi a2
                exact i32_sub (by omega) (by omega)
              by_cases q7 : a2.toInt + a3.toInt ≤ (gI τ (6 * a1.toNatClampNeg + 94) 6).toInt
              · have c1 : c_X11_load n a1 a2 a3 τ = d_X11_load_87 n a2 a3 (6 * a1.toNatClampNeg + 94) 0 τ := by
                  simp (disch := omega) only [c_X11_load, p1, bp_s, bd_s, nm_t, ite10, if_pos, if_neg, ck_ix, i32_lt, i32_le, Int32.reduceToInt, reduceIte, i32_eq, Int.reduceEq, if_true, if_false, v_in, v_isRate, v_isSlot, v_isMode, v_isLaw, v_isTape]
                have c2 : c_X12_load n a1 a2 a3 σ = d_X12_load_88 n a1 a2 a3 0 σ := by
                  simp (disch := omega) only [c_X12_load, v_isTape12, t1, t4, e1, bp_s, bd_s, nm_t, ite10, if_pos, if_neg, ck_ix, i32_lt, i32_le, Int32.reduceToInt, reduceIte, i32_eq, Int.reduceEq, if_true, if_false, v_in, v_isRate, v_isSlot, v_isMode, v_isLaw, v_isTape]
                rw [c1, c2]
                have n2 := nat0 q6
                have n3 := nat0 q2.1
                rcases l_load a3.toNatClampNeg n a1 a2 a3 0 τ σ (A := 6 * a1.toNatClampNeg + 94) q1 q6 (by omega) (fun j hj => t7 j (by omega)) (by decide) (by simp only [Int32.reduceToInt]; omega) (by omega) with ⟨m, m1, m2, m3, m4⟩ | ⟨m2, m3⟩
                · rw [m2, m3]
                  unfold d_X11_load_118 d_X12_load_123
                  have l1 := l_load11b a3.toNatClampNeg m a2 a3 0 τ (A := 6 * a1.toNatClampNeg + 94) (f := fun j => (gJ τ (6 * a1.toNatClampNeg + 95) (a2.toNatClampNeg + j)).toInt32) (by omega) q6 (by omega) q2.2 (fun j hj => rfl) (by decide) (by simp only [Int32.reduceToInt]; omega) (by omega)
                  have l2 := l_load12b a3.toNatClampNeg m a1 a2 a3 0 σ (f := fun j => (gJ τ (6 * a1.toNatClampNeg + 95) (a2.toNatClampNeg + j)).toInt32) q1 q6 (by omega) q2.2 (fun j hj => by rw [t7 _ (by omega)]) (by decide) (by simp only [Int32.reduceToInt]; omega) (by omega)
                  refine ⟨a3, _, _, l1, l2, ?_⟩
                  have z0 : (0 : Int32).toNatClampNeg = 0 := rfl
                  rw [z0]
                  have E : ∀ a, a ≠ 14 ∧ a ≠ 15 → Sm τ (pI (mI τ 15 0 a3.toNatClampNeg (fun j => (gJ τ (6 * a1.toNatClampNeg + 95) (a2.toNatClampNeg + j)).toInt32)) 14 1 a3) a := fun a ha => Sm_pI (Sm_mI Sm_refl (by omega)) (by omega)
                  have E' : ∀ a, a ≠ 130 ∧ a ≠ 133 → Sm σ (pI (mI σ 133 0 a3.toNatClampNeg (fun j => (gJ τ (6 * a1.toNatClampNeg + 95) (a2.toNatClampNeg + j)).toInt32)) 130 3 a3) a := fun a ha => Sm_pI (Sm_mI Sm_refl (by omega)) (by omega)
                  refine ⟨⟨lt, ls, Rold_f h0 (fun a ha => E a (by omega))⟩, Rtab_f h1 (fun a ha => E a (by omega)) (fun a ha => E' a (by omega)), Rwts_f h2 (fun a ha => E a (by omega)) (fun a ha => E' a (by omega)), ⟨?_, ?_, ?_, fun j hj => ?_⟩, Rled_f h4 (Nat.le_succ _) (fun a ha => E a (by omega)) (E' 146 (by omega)) (by first | rfl | simp (disch := omega) only [gI_pI_s, gJ_pJ_s, gD_pD_s, gI_pJ, gI_pD, gJ_pI, gJ_pD, gD_pI, gD_pJ, gI_pI_a, gJ_pJ_a, gD_pD_a, gI_pI_k, gJ_pJ_k, gD_pD_k, gI_mI_i, gJ_mJ_i, gD_mD_i, gI_mJ, gI_mD, gJ_mI, gJ_mD, gD_mI, gD_mJ, gI_mI_a, gJ_mJ_a, gD_mD_a, gI_mI_o, gJ_mJ_o, gD_mD_o]), Rprg_f h5 (fun a ha => E a (by omega)) (fun a ha => E' a (by omega)) (by first | rfl | simp (disch := omega) only [gI_pI_s, gJ_pJ_s, gD_pD_s, gI_pJ, gI_pD, gJ_pI, gJ_pD, gD_pI, gD_pJ, gI_pI_a, gJ_pJ_a, gD_pD_a, gI_pI_k, gJ_pJ_k, gD_pD_k, gI_mI_i, gJ_mJ_i, gD_mD_i, gI_mJ, gI_mD, gJ_mI, gJ_mD, gD_mI, gD_mJ, gI_mI_a, gJ_mJ_a, gD_mD_a, gI_mI_o, gJ_mJ_o, gD_mD_o]) (by first | rfl | simp (disch := omega) only [gI_pI_s, gJ_pJ_s, gD_pD_s, gI_pJ, gI_pD, gJ_pI, gJ_pD, gD_pI, gD_pJ, gI_pI_a, gJ_pJ_a, gD_pD_a, gI_pI_k, gJ_pJ_k, gD_pD_k, gI_mI_i, gJ_mJ_i, gD_mD_i, gI_mJ, gI_mD, gJ_mI, gJ_mD, gD_mI, gD_mJ, gI_mI_a, gJ_mJ_a, gD_mD_a, gI_mI_o, gJ_mJ_o, gD_mD_o]), Rlst_f h6 (fun a ha => E a (by omega)) (fun a ha => E' a (by omega)) (by first | rfl | simp (disch := omega) only [gI_pI_s, gJ_pJ_s, gD_pD_s, gI_pJ, gI_pD, gJ_pI, gJ_pD, gD_pI, gD_pJ, gI_pI_a, gJ_pJ_a, gD_pD_a, gI_pI_k, gJ_pJ_k, gD_pD_k, gI_mI_i, gJ_mJ_i, gD_mD_i, gI_mJ, gI_mD, gJ_mI, gJ_mD, gD_mI, gD_mJ, gI_mI_a, gJ_mJ_a, gD_mD_a, gI_mI_o, gJ_mJ_o, gD_mD_o]) (by first | rfl | simp (disch := omega) only [gI_pI_s, gJ_pJ_s, gD_pD_s, gI_pJ, gI_pD, gJ_pI, gJ_pD, gD_pI, gD_pJ, gI_pI_a, gJ_pJ_a, gD_pD_a, gI_pI_k, gJ_pJ_k, gD_pD_k, gI_mI_i, gJ_mJ_i, gD_mD_i, gI_mJ, gI_mD, gJ_mI, gJ_mD, gD_mI, gD_mJ, gI_mI_a, gJ_mJ_a, gD_mD_a, gI_mI_o, gJ_mJ_o, gD_mD_o]), Rtap_f h7 (Nat.le_succ _) (fun a ha => E a (by omega)) (fun a ha => E' a (by omega)), Rmis_f h8 (by first | rfl | simp (disch := omega) only [gI_pI_s, gJ_pJ_s, gD_pD_s, gI_pJ, gI_pD, gJ_pI, gJ_pD, gD_pI, gD_pJ, gI_pI_a, gJ_pJ_a, gD_pD_a, gI_pI_k, gJ_pJ_k, gD_pD_k, gI_mI_i, gJ_mJ_i, gD_mD_i, gI_mJ, gI_mD, gJ_mI, gJ_mD, gD_mI, gD_mJ, gI_mI_a, gJ_mJ_a, gD_mD_a, gI_mI_o, gJ_mJ_o, gD_mD_o]) (by first | rfl | simp (disch := omega) only [gI_pI_s, gJ_pJ_s, gD_pD_s, gI_pJ, gI_pD, gJ_pI, gJ_pD, gD_pI, gD_pJ, gI_pI_a, gJ_pJ_a, gD_pD_a, gI_pI_k, gJ_pJ_k, gD_pD_k, gI_mI_i, gJ_mJ_i, gD_mD_i, gI_mJ, gI_mD, gJ_mI, gJ_mD, gD_mI, gD_mJ, gI_mI_a, gJ_mJ_a, gD_mD_a, gI_mI_o, gJ_mJ_o, gD_mD_o]) (by first | rfl | simp (disch := omega) only [gI_pI_s, gJ_pJ_s, gD_pD_s, gI_pJ, gI_pD, gJ_pI, gJ_pD, gD_pI, gD_pJ, gI_pI_a, gJ_pJ_a, gD_pD_a, gI_pI_k, gJ_pJ_k, gD_pD_k, gI_mI_i, gJ_mJ_i, gD_mD_i, gI_mJ, gI_mD, gJ_mI, gJ_mD, gD_mI, gD_mJ, gI_mI_a, gJ_mJ_a, gD_mD_a, gI_mI_o, gJ_mJ_o, gD_mD_o])⟩
                  · simp (disch := omega) only [gI_pI_s, gJ_pJ_s, gD_pD_s, gI_pJ, gI_pD, gJ_pI, gJ_pD, gD_pI, gD_pJ, gI_pI_a, gJ_pJ_a, gD_pD_a, gI_pI_k, gJ_pJ_k, gD_pD_k, gI_mI_i, gJ_mJ_i, gD_mD_i, gI_mJ, gI_mD, gJ_mI, gJ_mD, gD_mI, gD_mJ, gI_mI_a, gJ_mJ_a, gD_mD_a, gI_mI_o, gJ_mJ_o, gD_mD_o]
                  · simp (disch := omega) only [gI_pI_s, gJ_pJ_s, gD_pD_s, gI_pJ, gI_pD, gJ_pI, gJ_pD, gD_pI, gD_pJ, gI_pI_a, gJ_pJ_a, gD_pD_a, gI_pI_k, gJ_pJ_k, gD_pD_k, gI_mI_i, gJ_mJ_i, gD_mD_i, gI_mJ, gI_mD, gJ_mI, gJ_mD, gD_mI, gD_mJ, gI_mI_a, gJ_mJ_a, gD_mD_a, gI_mI_o, gJ_mJ_o, gD_mD_o]; exact q2.1
                  · simp (disch := omega) only [gI_pI_s, gJ_pJ_s, gD_pD_s, gI_pJ, gI_pD, gJ_pI, gJ_pD, gD_pI, gD_pJ, gI_pI_a, gJ_pJ_a, gD_pD_a, gI_pI_k, gJ_pJ_k, gD_pD_k, gI_mI_i, gJ_mJ_i, gD_mD_i, gI_mJ, gI_mD, gJ_mI, gJ_mD, gD_mI, gD_mJ, gI_mI_a, gJ_mJ_a, gD_mD_a, gI_mI_o, gJ_mJ_o, gD_mD_o]; exact q2.2
                  · by_cases e : j < a3.toNatClampNeg
                    · simp (disch := omega) only [gI_pI_s, gJ_pJ_s, gD_pD_s, gI_pJ, gI_pD, gJ_pI, gJ_pD, gD_pI, gD_pJ, gI_pI_a, gJ_pJ_a, gD_pD_a, gI_pI_k, gJ_pJ_k, gD_pD_k, gI_mI_i, gJ_mJ_i, gD_mD_i, gI_mJ, gI_mD, gJ_mI, gJ_mD, gD_mI, gD_mJ, gI_mI_a, gJ_mJ_a, gD_mD_a, gI_mI_o, gJ_mJ_o, gD_mD_o]
                      have k : -1000000 ≤ (gJ τ (6 * a1.toNatClampNeg + 95) (a2.toNatClampNeg + j)).toInt ∧ (gJ τ (6 * a1.toNatClampNeg + 95) (a2.toNatClampNeg + j)).toInt ≤ 1000000 := m4 j (by simp only [Int32.reduceToInt]; omega) (by omega)
                      rw [i32_of64 (a := gJ τ (6 * a1.toNatClampNeg + 95) (a2.toNatClampNeg + j)) (by omega) (by omega)]
                      exact ⟨trivial, k⟩
                    · simp (disch := omega) only [gI_pI_s, gJ_pJ_s, gD_pD_s, gI_pJ, gI_pD, gJ_pI, gJ_pD, gD_pI, gD_pJ, gI_pI_a, gJ_pJ_a, gD_pD_a, gI_pI_k, gJ_pJ_k, gD_pD_k, gI_mI_i, gJ_mJ_i, gD_mD_i, gI_mJ, gI_mD, gJ_mI, gJ_mD, gD_mI, gD_mJ, gI_mI_a, gJ_mJ_a, gD_mD_a, gI_mI_o, gJ_mJ_o, gD_mD_o]
                      exact h3.2.2.2 j hj
                · rw [m2, m3]
                  exact ⟨-3, τ, σ, rfl, rfl, Rl_s H⟩
              · refine ⟨-13, _, _, ?_, ?_, Rl_ref H⟩
                · simp (disch := omega) only [c_X11_load, c_X11_refuse, p1, bp_s, bd_s, nm_t, ite10, if_pos, if_neg, ck_ix, i32_lt, i32_le, Int32.reduceToInt, reduceIte, i32_eq, Int.reduceEq, if_true, if_false, v_in, v_isRate, v_isSlot, v_isMode, v_isLaw, v_isTape]
                · simp (disch := omega) only [c_X12_load, d_X12_load_78, v_isTape12, c_X12_refuse, t1, t4, e1, h8.1, bp_s, bd_s, nm_t, ite10, if_pos, if_neg, ck_ix, i32_lt, i32_le, Int32.reduceToInt, reduceIte, i32_eq, Int.reduceEq, if_true, if_false, v_in, v_isRate, v_isSlot, v_isMode, v_isLaw, v_isTape]
            · refine ⟨-13, _, _, ?_, ?_, Rl_ref H⟩
              · simp (disch := omega) only [c_X11_load, c_X11_refuse, p1, bp_s, bd_s, nm_t, ite10, if_pos, if_neg, ck_ix, i32_lt, i32_le, Int32.reduceToInt, reduceIte, i32_eq, Int.reduceEq, if_true, if_false, v_in, v_isRate, v_isSlot, v_isMode, v_isLaw, v_isTape]
              · simp (disch := omega) only [c_X12_load, d_X12_load_78, v_isTape12, c_X12_refuse, t1, h8.1, bp_s, bd_s, nm_t, ite10, if_pos, if_neg, ck_ix, i32_lt, i32_le, Int32.reduceToInt, reduceIte, i32_eq, Int.reduceEq, if_true, if_false, v_in, v_isRate, v_isSlot, v_isMode, v_isLaw, v_isTape]
    · refine ⟨-1, τ, σ, ?_, ?_, Rl_s H⟩
      · rcases (by omega : a3.toInt < 0 ∨ 12 < a3.toInt) with q | q
        · simp (disch := omega) only [c_X11_load, bp_s, bd_s, nm_t, ite10, if_pos, if_neg, ck_ix, i32_lt, i32_le, Int32.reduceToInt, reduceIte, i32_eq, Int.reduceEq, if_true, if_false, v_in, v_isRate, v_isSlot, v_isMode, v_isLaw, v_isTape]
        · simp (disch := omega) only [c_X11_load, bp_s, bd_s, nm_t, ite10, if_pos, if_neg, ck_ix, i32_lt, i32_le, Int32.reduceToInt, reduceIte, i32_eq, Int.reduceEq, if_true, if_false, v_in, v_isRate, v_isSlot, v_isMode, v_isLaw, v_isTape]
      · simp (disch := omega) only [c_X12_load, v_isTape12, bp_s, bd_s, nm_t, ite10, if_pos, if_neg, ck_ix, i32_lt, i32_le, Int32.reduceToInt, reduceIte, i32_eq, Int.reduceEq, if_true, if_false, v_in, v_isRate, v_isSlot, v_isMode, v_isLaw, v_isTape]
  · refine ⟨-1, τ, σ, ?_, ?_, Rl_s H⟩
    · simp (disch := omega) only [c_X11_load, bp_s, bd_s, nm_t, ite10, if_pos, if_neg, ck_ix, i32_lt, i32_le, Int32.reduceToInt, reduceIte, i32_eq, Int.reduceEq, if_true, if_false, v_in, v_isRate, v_isSlot, v_isMode, v_isLaw, v_isTape]
    · simp (disch := omega) only [c_X12_load, v_isTape12, bp_s, bd_s, nm_t, ite10, if_pos, if_neg, ck_ix, i32_lt, i32_le, Int32.reduceToInt, reduceIte, i32_eq, Int.reduceEq, if_true, if_false, v_in, v_isRate, v_isSlot, v_isMode, v_isLaw, v_isTape]
