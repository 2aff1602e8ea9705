theorem l_holdRow : ∀ (d n : Nat) (v : Int32) (σ : Sg) {a m : Nat}, (gI σ a 6).toInt = m → m ≤ 64 → 0 ≤ v.toInt → v.toInt + d = m → d < n → d_X9_holdRow_12 n a v σ = some (mJ σ (a + 1) v.toNatClampNeg m (fun _ => 0)) := by
  intro d
  induction d with
  | zero =>
    intro n v σ a m h1 h2 h3 h4 h5
    obtain ⟨n, rfl⟩ : ∃ k, n = k + 1 := ⟨n - 1, by omega⟩
    have := nat0 h3
    rw [d_X9_holdRow_12, if_pos (by rw [i32_le]; omega), mJ_nil (by omega)]
  | succ d ih =>
    intro n v σ a m h1 h2 h3 h4 h5
    obtain ⟨n, rfl⟩ : ∃ k, n = k + 1 := ⟨n - 1, by omega⟩
    obtain ⟨c1, c2, c3⟩ := cnt1 (v := v) (m := 64) h3 (by omega) (by decide)
    rw [d_X9_holdRow_12, if_neg (by rw [i32_le]; omega), ck_ix (by omega), nm_t, nm_t, ih n (v + 1) (pJ σ (a + 1) v.toNatClampNeg 0) h1 h2 (by omega) (by omega) (by omega), c2, mJ_step (f := fun _ => 0) (v := 0) (by omega) rfl]
theorem l_tape12 : ∀ (d n : Nat) (v1 v3 v : Int32) (σ : Sg), 0 ≤ v1.toInt ∧ v1.toInt ≤ 5 → 0 ≤ v.toInt → v.toInt + d = 64 → d < n → d_X12_tape_52 n v1 v3 v σ = some (v3, mJ σ 152 (64 * v1.toNatClampNeg + v.toNatClampNeg) (64 * v1.toNatClampNeg + 64) (fun _ => 0)) := by
  intro d
  induction d with
  | zero =>
    intro n v1 v3 v σ h1 h3 h4 h5
    obtain ⟨n, rfl⟩ : ∃ k, n = k + 1 := ⟨n - 1, by omega⟩
    have := nat0 h3
    rw [d_X12_tape_52, if_pos (by rw [i32_le]; simp only [Int32.reduceToInt]; omega), mJ_nil (by omega)]
  | succ d ih =>
    intro n v1 v3 v σ h1 h3 h4 h5
    obtain ⟨n, rfl⟩ : ∃ k, n = k + 1 := ⟨n - 1, by omega⟩
    obtain ⟨c1, c2, c3⟩ := cnt1 (v := v) (m := 64) h3 (by omega) (by decide)
    obtain ⟨-, x2, x3⟩ := ix2 (c := 64) (m := 6) (k := 64) (v := v1) (w := v) (by decide) (ix_of h1.1 (by omega)) (ix_of h3 (by omega)) rfl (by decide)
    have x3' : ix (64 * v1 + v) 384 := x3
    rw [d_X12_tape_52, if_neg (by rw [i32_le]; simp only [Int32.reduceToInt]; omega), ck_t x3', nm_t, nm_t, ih n v1 v3 (v + 1) _ h1 (by omega) (by omega) (by omega), x2, c2, ← Nat.add_assoc, mJ_step (f := fun _ => 0) (v := 0) (by omega) rfl]
theorem s_tape (n : Nat) (hn : 100 ≤ n) (a1 a2 a3 : Int32) {c : Nat} {τ σ : Sg} (h : Rl c τ σ) : ∃ r τ' σ', c_X11_tape n a1 a2 a3 τ = some (r, τ') ∧ c_X12_tape n a1 a2 a3 σ = some (r, σ') ∧ Rl (c + 1) τ' σ' := by
  have H := h
  obtain ⟨⟨lt, ls, h0⟩, h1, h2, h3, h4, h5, h6, h7, h8⟩ := h
  by_cases q1 : 0 ≤ a1.toInt ∧ a1.toInt ≤ 5
  · obtain ⟨hx, hd, hn'⟩ := Rtap_g h7 q1
    have h7' := h7
    obtain ⟨t1, t2, t3, t4, t5, t6, t7, t8, t9, t10, t11, t12, t13, t14, t15⟩ := h7 _ hd
    by_cases q2 : 1 ≤ a2.toInt ∧ a2.toInt ≤ 4
    · by_cases q3 : a3.toInt ≤ 64
      · by_cases q4 : 0 ≤ a3.toInt
        · have n3 := nat0 q4
          have z0 : (0 : Int32).toNatClampNeg = 0 := rfl
          have l1 := l_holdRow a3.toNatClampNeg n 0 (pI (pI τ (6 * a1.toNatClampNeg + 94) 0 a2) (6 * a1.toNatClampNeg + 94) 6 a3) (a := 6 * a1.toNatClampNeg + 94) (m := a3.toNatClampNeg) (by rw [gI_pI_s]; omega) (by omega) (by decide) (by simp only [Int32.reduceToInt]; omega) (by omega)
          have l2 := l_tape12 64 n a1 a3 0 (pI (pI σ 150 a1.toNatClampNeg a2) 151 a1.toNatClampNeg a3) q1 (by decide) (by decide) (by omega)
          rw [z0] at l1 l2
          refine ⟨a3, mJ (pI (pI τ (6 * a1.toNatClampNeg + 94) 0 a2) (6 * a1.toNatClampNeg + 94) 6 a3) (6 * a1.toNatClampNeg + 94 + 1) 0 a3.toNatClampNeg (fun _ => 0), mJ (pI (pI σ 150 a1.toNatClampNeg a2) 151 a1.toNatClampNeg a3) 152 (64 * a1.toNatClampNeg + 0) (64 * a1.toNatClampNeg + 64) (fun _ => 0), ?_, ?_, ?_⟩
          · simp (disch := omega) only [c_X11_tape, c_X9_holdRow, l1, bp_s, bd_s, nm_t, ite10, if_pos, if_neg, ck_ix, i32_lt, i32_le, Int32.reduceToInt, reduceIte, i32_eq, Int.reduceEq, if_true, if_false, v_in, v_isRate, v_isSlot, v_isMode, v_isLaw, v_isTape]
          · simp (disch := omega) only [c_X12_tape, v_isTape12, l2, bp_s, bd_s, nm_t, ite10, if_pos, if_neg, ck_ix, i32_lt, i32_le, Int32.reduceToInt, reduceIte, i32_eq, Int.reduceEq, if_true, if_false, v_in, v_isRate, v_isSlot, v_isMode, v_isLaw, v_isTape]
          have E : ∀ a, ¬ (94 ≤ a ∧ a ≤ 129) → Sm τ (mJ (pI (pI τ (6 * a1.toNatClampNeg + 94) 0 a2) (6 * a1.toNatClampNeg + 94) 6 a3) (6 * a1.toNatClampNeg + 94 + 1) 0 a3.toNatClampNeg (fun _ => 0)) a := fun a ha => Sm_mJ (Sm_pI (Sm_pI Sm_refl (by omega)) (by omega)) (by omega)
          have E' : ∀ a, ¬ (150 ≤ a ∧ a ≤ 152) → Sm σ (mJ (pI (pI σ 150 a1.toNatClampNeg a2) 151 a1.toNatClampNeg a3) 152 (64 * a1.toNatClampNeg + 0) (64 * a1.toNatClampNeg + 64) (fun _ => 0)) a := fun a ha => Sm_mJ (Sm_pI (Sm_pI Sm_refl (by omega)) (by omega)) (by omega)
          refine ⟨⟨lt, ls, Rold_f h0 (fun a ha => E a (by omega))⟩, Rtab_f h1 (fun a ha => E a (by omega)) (fun a ha => E' a (by omega)), Rwts_f h2 (fun a ha => E a (by omega)) (fun a ha => E' a (by omega)), Rbil_f h3 (fun a ha => E a (by omega)) (E' 133 (by omega)) (by first | rfl | simp (disch := omega) only [gI_pI_s, gJ_pJ_s, gD_pD_s, gI_pJ, gI_pD, gJ_pI, gJ_pD, gD_pI, gD_pJ, gI_pI_a, gJ_pJ_a, gD_pD_a, gI_pI_k, gJ_pJ_k, gD_pD_k, gI_mI_i, gJ_mJ_i, gD_mD_i, gI_mJ, gI_mD, gJ_mI, gJ_mD, gD_mI, gD_mJ, gI_mI_a, gJ_mJ_a, gD_mD_a, gI_mI_o, gJ_mJ_o, gD_mD_o]), Rled_f h4 (Nat.le_succ _) (fun a ha => E a (by omega)) (E' 146 (by omega)) (by first | rfl | simp (disch := omega) only [gI_pI_s, gJ_pJ_s, gD_pD_s, gI_pJ, gI_pD, gJ_pI, gJ_pD, gD_pI, gD_pJ, gI_pI_a, gJ_pJ_a, gD_pD_a, gI_pI_k, gJ_pJ_k, gD_pD_k, gI_mI_i, gJ_mJ_i, gD_mD_i, gI_mJ, gI_mD, gJ_mI, gJ_mD, gD_mI, gD_mJ, gI_mI_a, gJ_mJ_a, gD_mD_a, gI_mI_o, gJ_mJ_o, gD_mD_o]), Rprg_f h5 (fun a ha => E a (by omega)) (fun a ha => E' a (by omega)) (by first | rfl | simp (disch := omega) only [gI_pI_s, gJ_pJ_s, gD_pD_s, gI_pJ, gI_pD, gJ_pI, gJ_pD, gD_pI, gD_pJ, gI_pI_a, gJ_pJ_a, gD_pD_a, gI_pI_k, gJ_pJ_k, gD_pD_k, gI_mI_i, gJ_mJ_i, gD_mD_i, gI_mJ, gI_mD, gJ_mI, gJ_mD, gD_mI, gD_mJ, gI_mI_a, gJ_mJ_a, gD_mD_a, gI_mI_o, gJ_mJ_o, gD_mD_o]) (by first | rfl | simp (disch := omega) only [gI_pI_s, gJ_pJ_s, gD_pD_s, gI_pJ, gI_pD, gJ_pI, gJ_pD, gD_pI, gD_pJ, gI_pI_a, gJ_pJ_a, gD_pD_a, gI_pI_k, gJ_pJ_k, gD_pD_k, gI_mI_i, gJ_mJ_i, gD_mD_i, gI_mJ, gI_mD, gJ_mI, gJ_mD, gD_mI, gD_mJ, gI_mI_a, gJ_mJ_a, gD_mD_a, gI_mI_o, gJ_mJ_o, gD_mD_o]), Rlst_f h6 (fun a ha => E a (by omega)) (fun a ha => E' a (by omega)) (by first | rfl | simp (disch := omega) only [gI_pI_s, gJ_pJ_s, gD_pD_s, gI_pJ, gI_pD, gJ_pI, gJ_pD, gD_pI, gD_pJ, gI_pI_a, gJ_pJ_a, gD_pD_a, gI_pI_k, gJ_pJ_k, gD_pD_k, gI_mI_i, gJ_mJ_i, gD_mD_i, gI_mJ, gI_mD, gJ_mI, gJ_mD, gD_mI, gD_mJ, gI_mI_a, gJ_mJ_a, gD_mD_a, gI_mI_o, gJ_mJ_o, gD_mD_o]) (by first | rfl | simp (disch := omega) only [gI_pI_s, gJ_pJ_s, gD_pD_s, gI_pJ, gI_pD, gJ_pI, gJ_pD, gD_pI, gD_pJ, gI_pI_a, gJ_pJ_a, gD_pD_a, gI_pI_k, gJ_pJ_k, gD_pD_k, gI_mI_i, gJ_mJ_i, gD_mD_i, gI_mJ, gI_mD, gJ_mI, gJ_mD, gD_mI, gD_mJ, gI_mI_a, gJ_mJ_a, gD_mD_a, gI_mI_o, gJ_mJ_o, gD_mD_o]), fun d hd' => ?_, Rmis_f h8 (by first | rfl | simp (disch := omega) only [gI_pI_s, gJ_pJ_s, gD_pD_s, gI_pJ, gI_pD, gJ_pI, gJ_pD, gD_pI, gD_pJ, gI_pI_a, gJ_pJ_a, gD_pD_a, gI_pI_k, gJ_pJ_k, gD_pD_k, gI_mI_i, gJ_mJ_i, gD_mD_i, gI_mJ, gI_mD, gJ_mI, gJ_mD, gD_mI, gD_mJ, gI_mI_a, gJ_mJ_a, gD_mD_a, gI_mI_o, gJ_mJ_o, gD_mD_o]) (by first | rfl | simp (disch := omega) only [gI_pI_s, gJ_pJ_s, gD_pD_s, gI_pJ, gI_pD, gJ_pI, gJ_pD, gD_pI, gD_pJ, gI_pI_a, gJ_pJ_a, gD_pD_a, gI_pI_k, gJ_pJ_k, gD_pD_k, gI_mI_i, gJ_mJ_i, gD_mD_i, gI_mJ, gI_mD, gJ_mI, gJ_mD, gD_mI, gD_mJ, gI_mI_a, gJ_mJ_a, gD_mD_a, gI_mI_o, gJ_mJ_o, gD_mD_o]) (by first | rfl | simp (disch := omega) only [gI_pI_s, gJ_pJ_s, gD_pD_s, gI_pJ, gI_pD, gJ_pI, gJ_pD, gD_pI, gD_pJ, gI_pI_a, gJ_pJ_a, gD_pD_a, gI_pI_k, gJ_pJ_k, gD_pD_k, gI_mI_i, gJ_mJ_i, gD_mD_i, gI_mJ, gI_mD, gJ_mI, gJ_mD, gD_mI, gD_mJ, gI_mI_a, gJ_mJ_a, gD_mD_a, gI_mI_o, gJ_mJ_o, gD_mD_o])⟩
          obtain ⟨u1, u2, u3, u4, u5, u6, u7, u8, u9, u10, u11, u12, u13, u14, u15⟩ := h7' d hd'
          by_cases e : d = a1.toNatClampNeg
          · subst e
            simp (disch := omega) only [gI_pI_s, gJ_pJ_s, gD_pD_s, gI_pJ, gI_pD, gJ_pI, gJ_pD, gD_pI, gD_pJ, gI_pI_a, gJ_pJ_a, gD_pD_a, gI_pI_k, gJ_pJ_k, gD_pD_k, gI_mI_i, gJ_mJ_i, gD_mD_i, gI_mJ, gI_mD, gJ_mI, gJ_mD, gD_mI, gD_mJ, gI_mI_a, gJ_mJ_a, gD_mD_a, gI_mI_o, gJ_mJ_o, gD_mD_o]
            refine ⟨trivial, by omega, by omega, trivial, by omega, by omega, fun j hj => ?_, u8, u9, u10, u11, u12, by omega, u14, u15⟩
            simp (disch := omega) only [gI_pI_s, gJ_pJ_s, gD_pD_s, gI_pJ, gI_pD, gJ_pI, gJ_pD, gD_pI, gD_pJ, gI_pI_a, gJ_pJ_a, gD_pD_a, gI_pI_k, gJ_pJ_k, gD_pD_k, gI_mI_i, gJ_mJ_i, gD_mD_i, gI_mJ, gI_mD, gJ_mI, gJ_mD, gD_mI, gD_mJ, gI_mI_a, gJ_mJ_a, gD_mD_a, gI_mI_o, gJ_mJ_o, gD_mD_o]
          · simp (disch := omega) only [gI_pI_s, gJ_pJ_s, gD_pD_s, gI_pJ, gI_pD, gJ_pI, gJ_pD, gD_pI, gD_pJ, gI_pI_a, gJ_pJ_a, gD_pD_a, gI_pI_k, gJ_pJ_k, gD_pD_k, gI_mI_i, gJ_mJ_i, gD_mD_i, gI_mJ, gI_mD, gJ_mI, gJ_mD, gD_mI, gD_mJ, gI_mI_a, gJ_mJ_a, gD_mD_a, gI_mI_o, gJ_mJ_o, gD_mD_o]
            refine ⟨u1, u2, u3, u4, u5, u6, fun j hj => ?_, u8, u9, u10, u11, u12, by omega, u14, u15⟩
            simp (disch := omega) only [gI_pI_s, gJ_pJ_s, gD_pD_s, gI_pJ, gI_pD, gJ_pI, gJ_pD, gD_pI, gD_pJ, gI_pI_a, gJ_pJ_a, gD_pD_a, gI_pI_k, gJ_pJ_k, gD_pD_k, gI_mI_i, gJ_mJ_i, gD_mD_i, gI_mJ, gI_mD, gJ_mI, gJ_mD, gD_mI, gD_mJ, gI_mI_a, gJ_mJ_a, gD_mD_a, gI_mI_o, gJ_mJ_o, gD_mD_o]
            exact u7 j hj
        · refine ⟨-14, _, _, ?_, ?_, Rl_ref H⟩
          · simp (disch := omega) only [c_X11_tape, c_X11_refuse, bp_s, bd_s, nm_t, ite10, if_pos, if_neg, ck_ix, i32_lt, i32_le, Int32.reduceToInt, reduceIte, i32_eq, Int.reduceEq, if_true, if_false, v_in, v_isRate, v_isSlot, v_isMode, v_isLaw, v_isTape]
          · simp (disch := omega) only [c_X12_tape, v_isTape12, c_X12_refuse, h8.1, bp_s, bd_s, nm_t, ite10, if_pos, if_neg, ck_ix, i32_lt, i32_le, Int32.reduceToInt, reduceIte, i32_eq, Int.reduceEq, if_true, if_false, v_in, v_isRate, v_isSlot, v_isMode, v_isLaw, v_isTape]
      · refine ⟨-1, τ, σ, ?_, ?_, Rl_s H⟩
        · simp (disch := omega) only [c_X11_tape, bp_s, bd_s, nm_t, ite10, if_pos, if_neg, ck_ix, i32_lt, i32_le, Int32.reduceToInt, reduceIte, i32_eq, Int.reduceEq, if_true, if_false, v_in, v_isRate, v_isSlot, v_isMode, v_isLaw, v_isTape]
        · simp (disch := omega) only [c_X12_tape, v_isTape12, bp_s, bd_s, nm_t, ite10, if_pos, if_neg, ck_ix, i32_lt, i32_le, Int32.reduceToInt, reduceIte, i32_eq, Int.reduceEq, if_true, if_false, v_in, v_isRate, v_isSlot, v_isMode, v_isLaw, v_isTape]
    · refine ⟨-1, τ, σ, ?_, ?_, Rl_s H⟩
      · rcases (by omega : a2.toInt < 1 ∨ 4 < a2.toInt) with q | q
        · simp (disch := omega) only [c_X11_tape, bp_s, bd_s, nm_t, ite10, if_pos, if_neg, ck_ix, i32_lt, i32_le, Int32.reduceToInt, reduceIte, i32_eq, Int.reduceEq, if_true, if_false, v_in, v_isRate, v_isSlot, v_isMode, v_isLaw, v_isTape]
        · simp (disch := omega) only [c_X11_tape, bp_s, bd_s, nm_t, ite10, if_pos, if_neg, ck_ix, i32_lt, i32_le, Int32.reduceToInt, reduceIte, i32_eq, Int.reduceEq, if_true, if_false, v_in, v_isRate, v_isSlot, v_isMode, v_isLaw, v_isTape]
      · simp (disch := omega) only [c_X12_tape, v_isTape12, bp_s, bd_s, nm_t, ite10, if_pos, if_neg, ck_ix, i32_lt, i32_le, Int32.reduceToInt, reduceIte, i32_eq, Int.reduceEq, if_true, if_false, v_in, v_isRate, v_isSlot, v_isMode, v_isLaw, v_isTape]
  · refine ⟨-1, τ, σ, ?_, ?_, Rl_s H⟩
    · simp (disch := omega) only [c_X11_tape, bp_s, bd_s, nm_t, ite10, if_pos, if_neg, ck_ix, i32_lt, i32_le, Int32.reduceToInt, reduceIte, i32_eq, Int.reduceEq, if_true, if_false, v_in, v_isRate, v_isSlot, v_isMode, v_isLaw, v_isTape]
    · simp (disch := omega) only [c_X12_tape, v_isTape12, bp_s, bd_s, nm_t, ite10, if_pos, if_neg, ck_ix, i32_lt, i32_le, Int32.reduceToInt, reduceIte, i32_eq, Int.reduceEq, if_true, if_false, v_in, v_isRate, v_isSlot, v_isMode, v_isLaw, v_isTape]
