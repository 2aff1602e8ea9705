theorem Rl_ref {c : Nat} {τ σ : Sg} (h : Rl c τ σ) : Rl (c + 1) (pI τ 4 9 (gI τ 4 9 + 1)) (pI σ 130 15 (gI τ 4 9 + 1)) := by
  obtain ⟨⟨lt, ls, h0⟩, h1, h2, h3, h4, h5, h6, h7, h8⟩ := h
  have E : ∀ a, a ≠ 4 → Sm τ (pI τ 4 9 (gI τ 4 9 + 1)) a := fun a ha => Sm_pI Sm_refl (by omega)
  have E' : ∀ a, a ≠ 130 → Sm σ (pI σ 130 15 (gI τ 4 9 + 1)) a := fun a ha => Sm_pI Sm_refl (by omega)
  refine ⟨⟨lt, ls, Rold_f h0 (fun a ha => E a (by omega))⟩, Rtab_f h1 (fun a ha => E a (by omega)) (fun a ha => E' a (by omega)), Rwts_f h2 (fun a ha => E a (by omega)) (fun a ha => E' a (by omega)), Rbil_f h3 (fun a ha => E a (by omega)) (E' 133 (by omega)) (by first | rfl | simp (disch := omega) only [gI_pI_s, gJ_pJ_s, gD_pD_s, gI_pJ, gI_pD, gJ_pI, gJ_pD, gD_pI, gD_pJ, gI_pI_a, gJ_pJ_a, gD_pD_a, gI_pI_k, gJ_pJ_k, gD_pD_k, gI_mI_i, gJ_mJ_i, gD_mD_i, gI_mJ, gI_mD, gJ_mI, gJ_mD, gD_mI, gD_mJ, gI_mI_a, gJ_mJ_a, gD_mD_a, gI_mI_o, gJ_mJ_o, gD_mD_o]), Rled_f h4 (Nat.le_succ _) (fun a ha => E a (by omega)) (E' 146 (by omega)) (by first | rfl | simp (disch := omega) only [gI_pI_s, gJ_pJ_s, gD_pD_s, gI_pJ, gI_pD, gJ_pI, gJ_pD, gD_pI, gD_pJ, gI_pI_a, gJ_pJ_a, gD_pD_a, gI_pI_k, gJ_pJ_k, gD_pD_k, gI_mI_i, gJ_mJ_i, gD_mD_i, gI_mJ, gI_mD, gJ_mI, gJ_mD, gD_mI, gD_mJ, gI_mI_a, gJ_mJ_a, gD_mD_a, gI_mI_o, gJ_mJ_o, gD_mD_o]), Rprg_f h5 (fun a ha => E a (by omega)) (fun a ha => E' a (by omega)) (by first | rfl | simp (disch := omega) only [gI_pI_s, gJ_pJ_s, gD_pD_s, gI_pJ, gI_pD, gJ_pI, gJ_pD, gD_pI, gD_pJ, gI_pI_a, gJ_pJ_a, gD_pD_a, gI_pI_k, gJ_pJ_k, gD_pD_k, gI_mI_i, gJ_mJ_i, gD_mD_i, gI_mJ, gI_mD, gJ_mI, gJ_mD, gD_mI, gD_mJ, gI_mI_a, gJ_mJ_a, gD_mD_a, gI_mI_o, gJ_mJ_o, gD_mD_o]) (by first | rfl | simp (disch := omega) only [gI_pI_s, gJ_pJ_s, gD_pD_s, gI_pJ, gI_pD, gJ_pI, gJ_pD, gD_pI, gD_pJ, gI_pI_a, gJ_pJ_a, gD_pD_a, gI_pI_k, gJ_pJ_k, gD_pD_k, gI_mI_i, gJ_mJ_i, gD_mD_i, gI_mJ, gI_mD, gJ_mI, gJ_mD, gD_mI, gD_mJ, gI_mI_a, gJ_mJ_a, gD_mD_a, gI_mI_o, gJ_mJ_o, gD_mD_o]), Rlst_f h6 (fun a ha => E a (by omega)) (fun a ha => E' a (by omega)) (by first | rfl | simp (disch := omega) only [gI_pI_s, gJ_pJ_s, gD_pD_s, gI_pJ, gI_pD, gJ_pI, gJ_pD, gD_pI, gD_pJ, gI_pI_a, gJ_pJ_a, gD_pD_a, gI_pI_k, gJ_pJ_k, gD_pD_k, gI_mI_i, gJ_mJ_i, gD_mD_i, gI_mJ, gI_mD, gJ_mI, gJ_mD, gD_mI, gD_mJ, gI_mI_a, gJ_mJ_a, gD_mD_a, gI_mI_o, gJ_mJ_o, gD_mD_o]) (by first | rfl | simp (disch := omega) only [gI_pI_s, gJ_pJ_s, gD_pD_s, gI_pJ, gI_pD, gJ_pI, gJ_pD, gD_pI, gD_pJ, gI_pI_a, gJ_pJ_a, gD_pD_a, gI_pI_k, gJ_pJ_k, gD_pD_k, gI_mI_i, gJ_mJ_i, gD_mD_i, gI_mJ, gI_mD, gJ_mI, gJ_mD, gD_mI, gD_mJ, gI_mI_a, gJ_mJ_a, gD_mD_a, gI_mI_o, gJ_mJ_o, gD_mD_o]), Rtap_f h7 (Nat.le_succ _) (fun a ha => E a (by omega)) (fun a ha => E' a (by omega)), ?_, ?_⟩
  · simp (disch := omega) only [gI_pI_s, gJ_pJ_s, gD_pD_s, gI_pJ, gI_pD, gJ_pI, gJ_pD, gD_pI, gD_pJ, gI_pI_a, gJ_pJ_a, gD_pD_a, gI_pI_k, gJ_pJ_k, gD_pD_k]
  · exact h8.2
theorem s_set (a1 a2 a3 a4 : Int32) {c : Nat} {τ σ : Sg} (h : Rl c τ σ) : ∃ r τ' σ', c_X11_set a1 a2 a3 a4 τ = some (r, τ') ∧ c_X12_set a1 a2 a3 a4 σ = some (r, σ') ∧ Rl (c + 1) τ' σ' := by
  have H := h
  obtain ⟨⟨lt, ls, h0⟩, h1, h2, h3, h4, h5, h6, h7, h8⟩ := h
  have h5' := h5
  obtain ⟨g1, g2, g3, g4⟩ := h5
  rcases v_isAct h5' a1 a2 with ⟨⟨qa, qb⟩, va, vb⟩ | ⟨qa, va, vb⟩
  · have hx : ix a1 4 := ix_of qa.1 (by omega)
    have hp := ixl hx
    have hpn := ixn hx
    obtain ⟨k1, k2, k3, k4, k5⟩ := g4 _ hp
    have hs : ix a2 20 := ix_of qb.1 (by omega)
    have hsn := ixl hs
    have hsm := ixn hs
    obtain ⟨-, x2, x3⟩ := ix2 (c := 20) (by decide) hx hs rfl (by decide)
    obtain ⟨j1, j2, j3, j4, A1, A2, A3, A4, A5⟩ := k4 _ hsn
    have f1 := v_fits h0 (t := a3) (v := a4) ⟨A1, A2⟩
    have f2 := v_fits12 (t := a3) (v := a4) ⟨A1, A2⟩
    generalize hP : a1.toNatClampNeg = P at *
    generalize hS : a2.toNatClampNeg = S at *
    by_cases q4 : fitP (gI τ (5 * P + 75) S).toNatClampNeg a3.toInt a4.toInt
    · rw [if_pos q4] at f1 f2
      have E : ∀ a, ¬ (74 ≤ a ∧ a ≤ 93) → Sm τ (pI (pI τ (5 * P + 77) S a3) (5 * P + 78) S a4) a := fun a ha => Sm_pI (Sm_pI Sm_refl (by omega)) (by omega)
      have E' : ∀ a, ¬ (136 ≤ a ∧ a ≤ 140) → Sm σ (pI (pI σ 139 (20 * P + S) a3) 140 (20 * P + S) a4) a := fun a ha => Sm_pI (Sm_pI Sm_refl (by omega)) (by omega)
      refine ⟨0, pI (pI τ (5 * P + 77) S a3) (5 * P + 78) S a4, pI (pI σ 139 (20 * P + S) a3) 140 (20 * P + S) a4, ?_, ?_, ?_⟩
      · simp (disch := omega) only [c_X11_set, va, hP, hS, f1, bp_s, bd_s, nm_t, ite10, if_pos, if_neg, ck_ix, i32_lt, i32_le, Int32.reduceToInt, reduceIte, i32_eq, Int.reduceEq, if_true, if_false, v_in, v_isRate, v_isSlot, v_isMode, v_isLaw, v_isTape]
      · simp (disch := omega) only [c_X12_set, vb, x2, ck_t x3, j1, f2, bp_s, bd_s, nm_t, ite10, if_pos, if_neg, ck_ix, i32_lt, i32_le, Int32.reduceToInt, reduceIte, i32_eq, Int.reduceEq, if_true, if_false, v_in, v_isRate, v_isSlot, v_isMode, v_isLaw, v_isTape]
      refine ⟨⟨lt, ls, Rold_f h0 (fun a ha => E a (by omega))⟩, Rtab_f h1 (fun a ha => E a (by omega)) (fun a ha => E' a (by omega)), Rwts_f h2 (fun a ha => E a (by omega)) (fun a ha => E' a (by omega)), Rbil_f h3 (fun a ha => E a (by omega)) (E' 133 (by omega)) (by first | rfl | simp (disch := omega) only [gI_pI_s, gJ_pJ_s, gD_pD_s, gI_pJ, gI_pD, gJ_pI, gJ_pD, gD_pI, gD_pJ, gI_pI_a, gJ_pJ_a, gD_pD_a, gI_pI_k, gJ_pJ_k, gD_pD_k, gI_mI_i, gJ_mJ_i, gD_mD_i, gI_mJ, gI_mD, gJ_mI, gJ_mD, gD_mI, gD_mJ, gI_mI_a, gJ_mJ_a, gD_mD_a, gI_mI_o, gJ_mJ_o, gD_mD_o]), Rled_f h4 (Nat.le_succ _) (fun a ha => E a (by omega)) (E' 146 (by omega)) (by first | rfl | simp (disch := omega) only [gI_pI_s, gJ_pJ_s, gD_pD_s, gI_pJ, gI_pD, gJ_pI, gJ_pD, gD_pI, gD_pJ, gI_pI_a, gJ_pJ_a, gD_pD_a, gI_pI_k, gJ_pJ_k, gD_pD_k, gI_mI_i, gJ_mJ_i, gD_mD_i, gI_mJ, gI_mD, gJ_mI, gJ_mD, gD_mI, gD_mJ, gI_mI_a, gJ_mJ_a, gD_mD_a, gI_mI_o, gJ_mJ_o, gD_mD_o]), ⟨?_, ?_, ?_, fun p hp' => ?_⟩, Rlst_f h6 (fun a ha => E a (by omega)) (fun a ha => E' a (by omega)) (by first | rfl | simp (disch := omega) only [gI_pI_s, gJ_pJ_s, gD_pD_s, gI_pJ, gI_pD, gJ_pI, gJ_pD, gD_pI, gD_pJ, gI_pI_a, gJ_pJ_a, gD_pD_a, gI_pI_k, gJ_pJ_k, gD_pD_k, gI_mI_i, gJ_mJ_i, gD_mD_i, gI_mJ, gI_mD, gJ_mI, gJ_mD, gD_mI, gD_mJ, gI_mI_a, gJ_mJ_a, gD_mD_a, gI_mI_o, gJ_mJ_o, gD_mD_o]) (by first | rfl | simp (disch := omega) only [gI_pI_s, gJ_pJ_s, gD_pD_s, gI_pJ, gI_pD, gJ_pI, gJ_pD, gD_pI, gD_pJ, gI_pI_a, gJ_pJ_a, gD_pD_a, gI_pI_k, gJ_pJ_k, gD_pD_k, gI_mI_i, gJ_mJ_i, gD_mD_i, gI_mJ, gI_mD, gJ_mI, gJ_mD, gD_mI, gD_mJ, gI_mI_a, gJ_mJ_a, gD_mD_a, gI_mI_o, gJ_mJ_o, gD_mD_o]), Rtap_f h7 (Nat.le_succ _) (fun a ha => E a (by omega)) (fun a ha => E' a (by omega)), Rmis_f h8 (by first | rfl | simp (disch := omega) only [gI_pI_s, gJ_pJ_s, gD_pD_s, gI_pJ, gI_pD, gJ_pI, gJ_pD, gD_pI, gD_pJ, gI_pI_a, gJ_pJ_a, gD_pD_a, gI_pI_k, gJ_pJ_k, gD_pD_k, gI_mI_i, gJ_mJ_i, gD_mD_i, gI_mJ, gI_mD, gJ_mI, gJ_mD, gD_mI, gD_mJ, gI_mI_a, gJ_mJ_a, gD_mD_a, gI_mI_o, gJ_mJ_o, gD_mD_o]) (by first | rfl | simp (disch := omega) only [gI_pI_s, gJ_pJ_s, gD_pD_s, gI_pJ, gI_pD, gJ_pI, gJ_pD, gD_pI, gD_pJ, gI_pI_a, gJ_pJ_a, gD_pD_a, gI_pI_k, gJ_pJ_k, gD_pD_k, gI_mI_i, gJ_mJ_i, gD_mD_i, gI_mJ, gI_mD, gJ_mI, gJ_mD, gD_mI, gD_mJ, gI_mI_a, gJ_mJ_a, gD_mD_a, gI_mI_o, gJ_mJ_o, gD_mD_o]) (by first | rfl | simp (disch := omega) only [gI_pI_s, gJ_pJ_s, gD_pD_s, gI_pJ, gI_pD, gJ_pI, gJ_pD, gD_pI, gD_pJ, gI_pI_a, gJ_pJ_a, gD_pD_a, gI_pI_k, gJ_pJ_k, gD_pD_k, gI_mI_i, gJ_mJ_i, gD_mD_i, gI_mJ, gI_mD, gJ_mI, gJ_mD, gD_mI, gD_mJ, gI_mI_a, gJ_mJ_a, gD_mD_a, gI_mI_o, gJ_mJ_o, gD_mD_o])⟩
      · exact g1
      · simp (disch := omega) only [gI_pI_s, gJ_pJ_s, gD_pD_s, gI_pJ, gI_pD, gJ_pI, gJ_pD, gD_pI, gD_pJ, gI_pI_a, gJ_pJ_a, gD_pD_a, gI_pI_k, gJ_pJ_k, gD_pD_k]; exact g2
      · simp (disch := omega) only [gI_pI_s, gJ_pJ_s, gD_pD_s, gI_pJ, gI_pD, gJ_pI, gJ_pD, gD_pI, gD_pJ, gI_pI_a, gJ_pJ_a, gD_pD_a, gI_pI_k, gJ_pJ_k, gD_pD_k]; exact g3
      obtain ⟨i1, i2, i3, i4, i5⟩ := g4 p hp'
      by_cases e : p = P
      · subst e
        simp (disch := omega) only [gI_pI_s, gJ_pJ_s, gD_pD_s, gI_pJ, gI_pD, gJ_pI, gJ_pD, gD_pI, gD_pJ, gI_pI_a, gJ_pJ_a, gD_pD_a, gI_pI_k, gJ_pJ_k, gD_pD_k]
        refine ⟨i1, i2, i3, fun i hi => ?_, i5⟩
        simp only [gI_pI]
        by_cases e : i = S
        · subst e
          simp (disch := omega) only [and_self, if_true, if_neg]
          exact ⟨j1, j2, trivial, trivial, A1, A2, A3, A4, q4⟩
        · simp (disch := omega) only [if_neg]
          exact i4 i hi
      · simp (disch := omega) only [gI_pI_s, gJ_pJ_s, gD_pD_s, gI_pJ, gI_pD, gJ_pI, gJ_pD, gD_pI, gD_pJ, gI_pI_a, gJ_pJ_a, gD_pD_a, gI_pI_k, gJ_pJ_k, gD_pD_k]
        refine ⟨i1, i2, i3, fun i hi => ?_, i5⟩
        simp (disch := omega) only [gI_pI_s, gJ_pJ_s, gD_pD_s, gI_pJ, gI_pD, gJ_pI, gJ_pD, gD_pI, gD_pJ, gI_pI_a, gJ_pJ_a, gD_pD_a, gI_pI_k, gJ_pJ_k, gD_pD_k]
        exact i4 i hi
    · rw [if_neg q4] at f1 f2
      refine ⟨-1, τ, σ, ?_, ?_, Rl_s H⟩
      · simp (disch := omega) only [c_X11_set, va, hP, hS, f1, bp_s, bd_s, nm_t, ite10, if_pos, if_neg, ck_ix, i32_lt, i32_le, Int32.reduceToInt, reduceIte, i32_eq, Int.reduceEq, if_true, if_false, v_in, v_isRate, v_isSlot, v_isMode, v_isLaw, v_isTape]
      · simp (disch := omega) only [c_X12_set, vb, x2, ck_t x3, j1, f2, bp_s, bd_s, nm_t, ite10, if_pos, if_neg, ck_ix, i32_lt, i32_le, Int32.reduceToInt, reduceIte, i32_eq, Int.reduceEq, if_true, if_false, v_in, v_isRate, v_isSlot, v_isMode, v_isLaw, v_isTape]
  · refine ⟨-1, τ, σ, ?_, ?_, Rl_s H⟩
    · simp (disch := omega) only [c_X11_set, va, bp_s, bd_s, nm_t, ite10, if_pos, if_neg, ck_ix, i32_lt, i32_le, Int32.reduceToInt, reduceIte, i32_eq, Int.reduceEq, if_true, if_false, v_in, v_isRate, v_isSlot, v_isMode, v_isLaw, v_isTape]
    · simp (disch := omega) only [c_X12_set, vb, bp_s, bd_s, nm_t, ite10, if_pos, if_neg, ck_ix, i32_lt, i32_le, Int32.reduceToInt, reduceIte, i32_eq, Int.reduceEq, if_true, if_false, v_in, v_isRate, v_isSlot, v_isMode, v_isLaw, v_isTape]
theorem s_told (a1 a2 a3 : Int32) {c : Nat} {τ σ : Sg} (h : Rl c τ σ) : ∃ r, c_X11_told a1 a2 a3 τ = some r ∧ c_X12_told a1 a2 a3 σ = some r := by
  obtain ⟨⟨lt, ls, h0⟩, h1, h2, h3, h4, h5, h6, h7, h8⟩ := h
  have h5' := h5
  obtain ⟨g1, g2, g3, g4⟩ := h5
  rcases v_isAct h5' a1 a2 with ⟨⟨qa, qb⟩, va, vb⟩ | ⟨qa, va, vb⟩
  · have hx : ix a1 4 := ix_of qa.1 (by omega)
    have hp := ixl hx
    have hpn := ixn hx
    obtain ⟨k1, k2, k3, k4, k5⟩ := g4 _ hp
    have hs : ix a2 20 := ix_of qb.1 (by omega)
    have hsn := ixl hs
    obtain ⟨-, x2, x3⟩ := ix2 (c := 20) (by decide) hx hs rfl (by decide)
    obtain ⟨j1, j2, j3, j4, -⟩ := k4 _ hsn
    unfold c_X11_told c_X12_told
    rw [va, vb]
    simp only [bp_s, nm_t, ck_t x3, ck_t hx, ck_t hs, x2, j1, j2, j3, j4]
    rw [if_neg (by decide)]
    by_cases q0 : a3 = 0
    · rw [if_pos q0]; exact ⟨_, rfl, rfl⟩
    · rw [if_neg q0]
      by_cases q1 : a3 = 1
      · rw [if_pos q1]; exact ⟨_, rfl, rfl⟩
      · rw [if_neg q1]
        by_cases q2 : a3 = 2
        · rw [if_pos q2]; exact ⟨_, rfl, rfl⟩
        · rw [if_neg q2]
          by_cases q3 : a3 = 3
          · rw [if_pos q3]; exact ⟨_, rfl, rfl⟩
          · rw [if_neg q3]; exact ⟨_, rfl, rfl⟩
  · refine ⟨-1, ?_, ?_⟩
    · simp (disch := omega) only [c_X11_told, va, bp_s, bd_s, nm_t, ite10, if_pos, if_neg, ck_ix, i32_lt, i32_le, Int32.reduceToInt, reduceIte, i32_eq, Int.reduceEq, if_true, if_false, v_in, v_isRate, v_isSlot, v_isMode, v_isLaw, v_isTape]
    · simp (disch := omega) only [c_X12_told, vb, bp_s, bd_s, nm_t, ite10, if_pos, if_neg, ck_ix, i32_lt, i32_le, Int32.reduceToInt, reduceIte, i32_eq, Int.reduceEq, if_true, if_false, v_in, v_isRate, v_isSlot, v_isMode, v_isLaw, v_isTape]
theorem s_failed {c : Nat} {τ σ : Sg} (h : Rl c τ σ) : ∃ r, c_X11_failed τ = some r ∧ c_X12_failed σ = some r := ⟨gI τ 20 9, rfl, congrArg some h.2.2.2.2.2.2.1.1⟩
theorem s_count (a : Int32) {c : Nat} {τ σ : Sg} (h : Rl c τ σ) : ∃ r, c_X11_count a τ = some r ∧ c_X12_count a σ = some r := by
  obtain ⟨⟨lt, ls, h0⟩, h1, h2, h3, h4, h5, h6, h7, h8⟩ := h
  have vp := v_isProgram12 h5 (a - 10)
  obtain ⟨g1, g2, g3, g4⟩ := h5
  have e10 : (10 + gI τ 4 8).toInt = 10 + (gI τ 4 8).toInt := i32_add (by simp only [Int32.reduceToInt]; omega) (by simp only [Int32.reduceToInt]; omega)
  by_cases q1 : a.toInt < 10
  · have c1 : c_X11_count a τ = d_X11_count_55 a τ := by
      simp (disch := omega) only [c_X11_count, d_X11_count_30, bp_s, bd_s, nm_t, ite10, if_pos, if_neg, ck_ix, i32_lt, i32_le, Int32.reduceToInt, reduceIte, i32_eq, Int.reduceEq, if_true, if_false, v_in, v_isRate, v_isSlot, v_isMode, v_isLaw, v_isTape]
    rw [c1]
    unfold d_X11_count_55 c_X12_count
    rw [g1, h3.1, h4.1, h8.1]
    by_cases q0 : a = 0
    · rw [if_pos q0, if_pos q0]; exact ⟨_, rfl, rfl⟩
    · rw [if_neg q0, if_neg q0]
      by_cases q1 : a = 1
      · rw [if_pos q1, if_pos q1]; exact ⟨_, rfl, rfl⟩
      · rw [if_neg q1, if_neg q1]
        by_cases q2 : a = 2
        · rw [if_pos q2, if_pos q2]; exact ⟨_, rfl, rfl⟩
        · rw [if_neg q2, if_neg q2]
          by_cases q3 : a = 3
          · rw [if_pos q3, if_pos q3]; exact ⟨_, rfl, rfl⟩
          · rw [if_neg q3, if_neg q3]
            refine ⟨-1, rfl, ?_⟩
            have q5 : ¬ (0 ≤ (a - 10).toInt ∧ (a - 10).toInt < (gI τ 4 8).toInt) := by
              by_cases q6 : -2147483638 ≤ a.toInt
              · rw [i32_sub (by simp only [Int32.reduceToInt]; omega) (by simp only [Int32.reduceToInt]; omega)]
                simp only [Int32.reduceToInt]
                omega
              · have := i32_lo a
                have e : (a - 10).toInt = a.toInt - 10 + 4294967296 := by
                  rw [Int32.toInt_sub]
                  simp only [Int32.reduceToInt]
                  rw [Int.bmod_def]
                  omega
                omega
            simp (disch := omega) only [vp, bp_s, bd_s, nm_t, ite10, if_pos, if_neg, ck_ix, i32_lt, i32_le, Int32.reduceToInt, reduceIte, i32_eq, Int.reduceEq, if_true, if_false, v_in, v_isRate, v_isSlot, v_isMode, v_isLaw, v_isTape]
  · have s10 : (a - 10).toInt = a.toInt - 10 := by
      have := i32_hi a
      rw [i32_sub (by simp only [Int32.reduceToInt]; omega) (by simp only [Int32.reduceToInt]; omega)]
      rfl
    have s20 : (a - 20).toInt = a.toInt - 20 := by
      have := i32_hi a
      rw [i32_sub (by simp only [Int32.reduceToInt]; omega) (by simp only [Int32.reduceToInt]; omega)]
      rfl
    by_cases q2 : a.toInt < 10 + (gI τ 4 8).toInt
    · have hx : ix (a - 10) 4 := ix_of (by omega) (by omega)
      have k := (g4 _ (ixl hx)).1
      refine ⟨gI τ (5 * (a - 10).toNatClampNeg + 74) 4, ?_, ?_⟩
      · simp (disch := omega) only [c_X11_count, bp_s, bd_s, nm_t, ite10, if_pos, if_neg, ck_ix, i32_lt, i32_le, Int32.reduceToInt, reduceIte, i32_eq, Int.reduceEq, if_true, if_false, v_in, v_isRate, v_isSlot, v_isMode, v_isLaw, v_isTape, e10]
      · simp (disch := omega) only [c_X12_count, bp_s, bd_s, nm_t, ite10, if_pos, if_neg, ck_ix, i32_lt, i32_le, Int32.reduceToInt, reduceIte, i32_eq, Int.reduceEq, if_true, if_false, v_in, v_isRate, v_isSlot, v_isMode, v_isLaw, v_isTape, vp, k]
    · by_cases q3 : 20 ≤ a.toInt ∧ a.toInt ≤ 23
      · have hx : ix (a - 20) 4 := ix_of (by omega) (by omega)
        have k := (h2 _ (ixl hx)).1
        refine ⟨gI τ 13 (a - 20).toNatClampNeg, ?_, ?_⟩
        · simp (disch := omega) only [c_X11_count, d_X11_count_30, bp_s, bd_s, nm_t, ite10, if_pos, if_neg, ck_ix, i32_lt, i32_le, Int32.reduceToInt, reduceIte, i32_eq, Int.reduceEq, if_true, if_false, v_in, v_isRate, v_isSlot, v_isMode, v_isLaw, v_isTape, e10]
        · simp (disch := omega) only [c_X12_count, bp_s, bd_s, nm_t, ite10, if_pos, if_neg, ck_ix, i32_lt, i32_le, Int32.reduceToInt, reduceIte, i32_eq, Int.reduceEq, if_true, if_false, v_in, v_isRate, v_isSlot, v_isMode, v_isLaw, v_isTape, vp, k]
      · refine ⟨-1, ?_, ?_⟩
        · rcases (by omega : a.toInt < 20 ∨ 24 ≤ a.toInt) with q | q
          · simp (disch := omega) only [c_X11_count, d_X11_count_30, d_X11_count_55, bp_s, bd_s, nm_t, ite10, if_pos, if_neg, ck_ix, i32_lt, i32_le, Int32.reduceToInt, reduceIte, i32_eq, Int.reduceEq, if_true, if_false, v_in, v_isRate, v_isSlot, v_isMode, v_isLaw, v_isTape, e10]
          · simp (disch := omega) only [c_X11_count, d_X11_count_30, d_X11_count_55, bp_s, bd_s, nm_t, ite10, if_pos, if_neg, ck_ix, i32_lt, i32_le, Int32.reduceToInt, reduceIte, i32_eq, Int.reduceEq, if_true, if_false, v_in, v_isRate, v_isSlot, v_isMode, v_isLaw, v_isTape, e10]
        · simp (disch := omega) only [c_X12_count, bp_s, bd_s, nm_t, ite10, if_pos, if_neg, ck_ix, i32_lt, i32_le, Int32.reduceToInt, reduceIte, i32_eq, Int.reduceEq, if_true, if_false, v_in, v_isRate, v_isSlot, v_isMode, v_isLaw, v_isTape, vp]
/-- what is known of tape v -/
theorem Rtap_g {c : Nat} {τ σ : Sg} {v : Int32} (h7 : Rtap c τ σ) (q : 0 ≤ v.toInt ∧ v.toInt ≤ 5) : ix v 6 ∧ v.toNatClampNeg < 6 ∧ v.toInt = v.toNatClampNeg := by
  have hx : ix v 6 := ix_of q.1 (by omega)
  exact ⟨hx, ixl hx, ixn hx⟩
theorem s_toss (a1 : Int32) {c : Nat} {τ σ : Sg} (h : Rl c τ σ) : ∃ r τ' σ', c_X11_toss a1 τ = some (r, τ') ∧ c_X12_toss a1 σ = some (r, σ') ∧ Rl (c + 1) τ' σ' := by
  have H := h
  obtain ⟨⟨lt, ls, h0⟩, h1, h2, h3, h4, h5, h6, h7, h8⟩ := h
  by_cases q1 : 0 ≤ a1.toInt ∧ a1.toInt ≤ 5
  · obtain ⟨hx, hd, hn⟩ := Rtap_g h7 q1
    obtain ⟨t1, t2, t3, t4, t5, t6, t7, t8, t9, t10, t11, t12, t13, t14, t15⟩ := h7 _ hd
    by_cases q2 : (gI τ (6 * a1.toNatClampNeg + 94) 0).toInt = 0
    · refine ⟨-11, _, _, ?_, ?_, Rl_ref H⟩
      · simp (disch := omega) only [c_X11_toss, c_X11_refuse, bp_s, bd_s, nm_t, ite10, if_pos, if_neg, ck_ix, i32_lt, i32_le, Int32.reduceToInt, reduceIte, i32_eq, Int.reduceEq, if_true, if_false, v_in, v_isRate, v_isSlot, v_isMode, v_isLaw, v_isTape]
      · simp (disch := omega) only [c_X12_toss, c_X12_lacks, v_isTape12, c_X12_refuse, t1, h8.1, bp_s, bd_s, nm_t, ite10, if_pos, if_neg, ck_ix, i32_lt, i32_le, Int32.reduceToInt, reduceIte, i32_eq, Int.reduceEq, if_true, if_false, v_in, v_isRate, v_isSlot, v_isMode, v_isLaw, v_isTape]
    · by_cases q3 : (gI τ (6 * a1.toNatClampNeg + 94) 0).toInt = 5
      · by_cases q4 : (gI τ (6 * a1.toNatClampNeg + 96) 1).toInt = 0
        · refine ⟨-15, _, _, ?_, ?_, Rl_ref H⟩
          · simp (disch := omega) only [c_X11_toss, c_X11_refuse, bp_s, bd_s, nm_t, ite10, if_pos, if_neg, ck_ix, i32_lt, i32_le, Int32.reduceToInt, reduceIte, i32_eq, Int.reduceEq, if_true, if_false, v_in, v_isRate, v_isSlot, v_isMode, v_isLaw, v_isTape]
          · simp (disch := omega) only [c_X12_toss, c_X12_lacks, v_isTape12, c_X12_refuse, t1, t11, h8.1, bp_s, bd_s, nm_t, ite10, if_pos, if_neg, ck_ix, i32_lt, i32_le, Int32.reduceToInt, reduceIte, i32_eq, Int.reduceEq, if_true, if_false, v_in, v_isRate, v_isSlot, v_isMode, v_isLaw, v_isTape]
        · refine ⟨gI τ (6 * a1.toNatClampNeg + 96) 1, τ, σ, ?_, ?_, Rl_s H⟩
          · simp (disch := omega) only [c_X11_toss, c_X11_refuse, bp_s, bd_s, nm_t, ite10, if_pos, if_neg, ck_ix, i32_lt, i32_le, Int32.reduceToInt, reduceIte, i32_eq, Int.reduceEq, if_true, if_false, v_in, v_isRate, v_isSlot, v_isMode, v_isLaw, v_isTape]
          · simp (disch := omega) only [c_X12_toss, c_X12_lacks, v_isTape12, c_X12_refuse, t1, t11, h8.1, bp_s, bd_s, nm_t, ite10, if_pos, if_neg, ck_ix, i32_lt, i32_le, Int32.reduceToInt, reduceIte, i32_eq, Int.reduceEq, if_true, if_false, v_in, v_isRate, v_isSlot, v_isMode, v_isLaw, v_isTape]
      · refine ⟨-12, _, _, ?_, ?_, Rl_ref H⟩
        · simp (disch := omega) only [c_X11_toss, c_X11_refuse, bp_s, bd_s, nm_t, ite10, if_pos, if_neg, ck_ix, i32_lt, i32_le, Int32.reduceToInt, reduceIte, i32_eq, Int.reduceEq, if_true, if_false, v_in, v_isRate, v_isSlot, v_isMode, v_isLaw, v_isTape]
        · simp (disch := omega) only [c_X12_toss, c_X12_lacks, v_isTape12, c_X12_refuse, t1, h8.1, bp_s, bd_s, nm_t, ite10, if_pos, if_neg, ck_ix, i32_lt, i32_le, Int32.reduceToInt, reduceIte, i32_eq, Int.reduceEq, if_true, if_false, v_in, v_isRate, v_isSlot, v_isMode, v_isLaw, v_isTape]
  · refine ⟨-1, τ, σ, ?_, ?_, Rl_s H⟩
    · simp (disch := omega) only [c_X11_toss, bp_s, bd_s, nm_t, ite10, if_pos, if_neg, ck_ix, i32_lt, i32_le, Int32.reduceToInt, reduceIte, i32_eq, Int.reduceEq, if_true, if_false, v_in, v_isRate, v_isSlot, v_isMode, v_isLaw, v_isTape]
    · simp (disch := omega) only [c_X12_toss, c_X12_lacks, v_isTape12, bp_s, bd_s, nm_t, ite10, if_pos, if_neg, ck_ix, i32_lt, i32_le, Int32.reduceToInt, reduceIte, i32_eq, Int.reduceEq, if_true, if_false, v_in, v_isRate, v_isSlot, v_isMode, v_isLaw, v_isTape]
theorem s_clear (a1 : Int32) {c : Nat} {τ σ : Sg} (h : Rl c τ σ) : ∃ r τ' σ', c_X11_clear a1 τ = some (r, τ') ∧ c_X12_clear a1 σ = some (r, σ') ∧ Rl (c + 1) τ' σ' := by
  have H := h
  obtain ⟨⟨lt, ls, h0⟩, h1, h2, h3, h4, h5, h6, h7, h8⟩ := h
  by_cases q1 : 0 ≤ a1.toInt ∧ a1.toInt ≤ 5
  · obtain ⟨hx, hd, hn⟩ := Rtap_g h7 q1
    have h7' := h7
    obtain ⟨t1, t2, t3, t4, t5, t6, t7, t8, t9, t10, t11, t12, t13, t14, t15⟩ := h7 _ hd
    refine ⟨gI τ (6 * a1.toNatClampNeg + 94) 0, pI τ (6 * a1.toNatClampNeg + 94) 0 0, pI σ 150 a1.toNatClampNeg 0, ?_, ?_, ?_⟩
    · simp (disch := omega) only [c_X11_clear, bp_s, bd_s, nm_t, ite10, if_pos, if_neg, ck_ix, i32_lt, i32_le, Int32.reduceToInt, reduceIte, i32_eq, Int.reduceEq, if_true, if_false, v_in, v_isRate, v_isSlot, v_isMode, v_isLaw, v_isTape]
    · simp (disch := omega) only [c_X12_clear, v_isTape12, t1, bp_s, bd_s, nm_t, ite10, if_pos, if_neg, ck_ix, i32_lt, i32_le, Int32.reduceToInt, reduceIte, i32_eq, Int.reduceEq, if_true, if_false, v_in, v_isRate, v_isSlot, v_isMode, v_isLaw, v_isTape]
    have E : ∀ a, ¬ (94 ≤ a ∧ a ≤ 129) → Sm τ (pI τ (6 * a1.toNatClampNeg + 94) 0 0) a := fun a ha => Sm_pI Sm_refl (by omega)
    have E' : ∀ a, a ≠ 150 → Sm σ (pI σ 150 a1.toNatClampNeg 0) a := fun a ha => Sm_pI Sm_refl (by omega)
    refine ⟨⟨lt, ls, Rold_f h0 (fun a ha => E a (by omega))⟩, Rtab_f h1 (fun a ha => E a (by omega)) (fun a ha => E' a (by omega)), Rwts_f h2 (fun a ha => E a (by omega)) (fun a ha => E' a (by omega)), Rbil_f h3 (fun a ha => E a (by omega)) (E' 133 (by omega)) (by first | rfl | simp (disch := omega) only [gI_pI_s, gJ_pJ_s, gD_pD_s, gI_pJ, gI_pD, gJ_pI, gJ_pD, gD_pI, gD_pJ, gI_pI_a, gJ_pJ_a, gD_pD_a, gI_pI_k, gJ_pJ_k, gD_pD_k, gI_mI_i, gJ_mJ_i, gD_mD_i, gI_mJ, gI_mD, gJ_mI, gJ_mD, gD_mI, gD_mJ, gI_mI_a, gJ_mJ_a, gD_mD_a, gI_mI_o, gJ_mJ_o, gD_mD_o]), Rled_f h4 (Nat.le_succ _) (fun a ha => E a (by omega)) (E' 146 (by omega)) (by first | rfl | simp (disch := omega) only [gI_pI_s, gJ_pJ_s, gD_pD_s, gI_pJ, gI_pD, gJ_pI, gJ_pD, gD_pI, gD_pJ, gI_pI_a, gJ_pJ_a, gD_pD_a, gI_pI_k, gJ_pJ_k, gD_pD_k, gI_mI_i, gJ_mJ_i, gD_mD_i, gI_mJ, gI_mD, gJ_mI, gJ_mD, gD_mI, gD_mJ, gI_mI_a, gJ_mJ_a, gD_mD_a, gI_mI_o, gJ_mJ_o, gD_mD_o]), Rprg_f h5 (fun a ha => E a (by omega)) (fun a ha => E' a (by omega)) (by first | rfl | simp (disch := omega) only [gI_pI_s, gJ_pJ_s, gD_pD_s, gI_pJ, gI_pD, gJ_pI, gJ_pD, gD_pI, gD_pJ, gI_pI_a, gJ_pJ_a, gD_pD_a, gI_pI_k, gJ_pJ_k, gD_pD_k, gI_mI_i, gJ_mJ_i, gD_mD_i, gI_mJ, gI_mD, gJ_mI, gJ_mD, gD_mI, gD_mJ, gI_mI_a, gJ_mJ_a, gD_mD_a, gI_mI_o, gJ_mJ_o, gD_mD_o]) (by first | rfl | simp (disch := omega) only [gI_pI_s, gJ_pJ_s, gD_pD_s, gI_pJ, gI_pD, gJ_pI, gJ_pD, gD_pI, gD_pJ, gI_pI_a, gJ_pJ_a, gD_pD_a, gI_pI_k, gJ_pJ_k, gD_pD_k, gI_mI_i, gJ_mJ_i, gD_mD_i, gI_mJ, gI_mD, gJ_mI, gJ_mD, gD_mI, gD_mJ, gI_mI_a, gJ_mJ_a, gD_mD_a, gI_mI_o, gJ_mJ_o, gD_mD_o]), Rlst_f h6 (fun a ha => E a (by omega)) (fun a ha => E' a (by omega)) (by first | rfl | simp (disch := omega) only [gI_pI_s, gJ_pJ_s, gD_pD_s, gI_pJ, gI_pD, gJ_pI, gJ_pD, gD_pI, gD_pJ, gI_pI_a, gJ_pJ_a, gD_pD_a, gI_pI_k, gJ_pJ_k, gD_pD_k, gI_mI_i, gJ_mJ_i, gD_mD_i, gI_mJ, gI_mD, gJ_mI, gJ_mD, gD_mI, gD_mJ, gI_mI_a, gJ_mJ_a, gD_mD_a, gI_mI_o, gJ_mJ_o, gD_mD_o]) (by first | rfl | simp (disch := omega) only [gI_pI_s, gJ_pJ_s, gD_pD_s, gI_pJ, gI_pD, gJ_pI, gJ_pD, gD_pI, gD_pJ, gI_pI_a, gJ_pJ_a, gD_pD_a, gI_pI_k, gJ_pJ_k, gD_pD_k, gI_mI_i, gJ_mJ_i, gD_mD_i, gI_mJ, gI_mD, gJ_mI, gJ_mD, gD_mI, gD_mJ, gI_mI_a, gJ_mJ_a, gD_mD_a, gI_mI_o, gJ_mJ_o, gD_mD_o]), fun d hd' => ?_, Rmis_f h8 (by first | rfl | simp (disch := omega) only [gI_pI_s, gJ_pJ_s, gD_pD_s, gI_pJ, gI_pD, gJ_pI, gJ_pD, gD_pI, gD_pJ, gI_pI_a, gJ_pJ_a, gD_pD_a, gI_pI_k, gJ_pJ_k, gD_pD_k, gI_mI_i, gJ_mJ_i, gD_mD_i, gI_mJ, gI_mD, gJ_mI, gJ_mD, gD_mI, gD_mJ, gI_mI_a, gJ_mJ_a, gD_mD_a, gI_mI_o, gJ_mJ_o, gD_mD_o]) (by first | rfl | simp (disch := omega) only [gI_pI_s, gJ_pJ_s, gD_pD_s, gI_pJ, gI_pD, gJ_pI, gJ_pD, gD_pI, gD_pJ, gI_pI_a, gJ_pJ_a, gD_pD_a, gI_pI_k, gJ_pJ_k, gD_pD_k, gI_mI_i, gJ_mJ_i, gD_mD_i, gI_mJ, gI_mD, gJ_mI, gJ_mD, gD_mI, gD_mJ, gI_mI_a, gJ_mJ_a, gD_mD_a, gI_mI_o, gJ_mJ_o, gD_mD_o]) (by first | rfl | simp (disch := omega) only [gI_pI_s, gJ_pJ_s, gD_pD_s, gI_pJ, gI_pD, gJ_pI, gJ_pD, gD_pI, gD_pJ, gI_pI_a, gJ_pJ_a, gD_pD_a, gI_pI_k, gJ_pJ_k, gD_pD_k, gI_mI_i, gJ_mJ_i, gD_mD_i, gI_mJ, gI_mD, gJ_mI, gJ_mD, gD_mI, gD_mJ, gI_mI_a, gJ_mJ_a, gD_mD_a, gI_mI_o, gJ_mJ_o, gD_mD_o])⟩
    obtain ⟨u1, u2, u3, u4, u5, u6, u7, u8, u9, u10, u11, u12, u13, u14, u15⟩ := h7' d hd'
    by_cases e : d = a1.toNatClampNeg
    · subst e
      simp (disch := omega) only [gI_pI_s, gJ_pJ_s, gD_pD_s, gI_pJ, gI_pD, gJ_pI, gJ_pD, gD_pI, gD_pJ, gI_pI_a, gJ_pJ_a, gD_pD_a, gI_pI_k, gJ_pJ_k, gD_pD_k]
      exact ⟨trivial, by decide, by decide, u4, u5, u6, u7, u8, u9, u10, u11, u12, by omega, u14, u15⟩
    · simp (disch := omega) only [gI_pI_s, gJ_pJ_s, gD_pD_s, gI_pJ, gI_pD, gJ_pI, gJ_pD, gD_pI, gD_pJ, gI_pI_a, gJ_pJ_a, gD_pD_a, gI_pI_k, gJ_pJ_k, gD_pD_k]
      exact ⟨u1, u2, u3, u4, u5, u6, u7, u8, u9, u10, u11, u12, by omega, u14, u15⟩
  · refine ⟨-1, τ, σ, ?_, ?_, Rl_s H⟩
    · simp (disch := omega) only [c_X11_clear, bp_s, bd_s, nm_t, ite10, if_pos, if_neg, ck_ix, i32_lt, i32_le, Int32.reduceToInt, reduceIte, i32_eq, Int.reduceEq, if_true, if_false, v_in, v_isRate, v_isSlot, v_isMode, v_isLaw, v_isTape]
    · simp (disch := omega) only [c_X12_clear, v_isTape12, bp_s, bd_s, nm_t, ite10, if_pos, if_neg, ck_ix, i32_lt, i32_le, Int32.reduceToInt, reduceIte, i32_eq, Int.reduceEq, if_true, if_false, v_in, v_isRate, v_isSlot, v_isMode, v_isLaw, v_isTape]
theorem v_hasPlaces {τ : Sg} {a : Nat} {i n : Int32} (h : 0 ≤ (gI τ a 6).toInt) : c_X9_hasPlaces a i n τ = some (if 0 ≤ i.toInt ∧ 0 ≤ n.toInt ∧ i.toInt + n.toInt ≤ (gI τ a 6).toInt then 1 else 0) := by
  unfold c_X9_hasPlaces d_X9_hasPlaces_30
  simp only [i32_lt, Int32.reduceToInt]
  have := i32_hi (gI τ a 6)
  by_cases q1 : i.toInt < 0
  · rw [if_pos q1, if_neg (by omega)]
  · rw [if_neg q1]
    by_cases q2 : n.toInt < 0
    · rw [if_pos q2, if_neg (by omega)]
    · rw [if_neg q2]
      by_cases q3 : (gI τ a 6).toInt < n.toInt
      · rw [if_pos q3, if_neg (by omega)]
      · rw [if_neg q3, i32_sub (by omega) (by omega)]
        by_cases q4 : (gI τ a 6).toInt - n.toInt < i.toInt
        · rw [if_pos q4, if_neg (by omega)]
        · rw [if_neg q4, if_pos (by omega)]
theorem v_narrowed {τ : Sg} {a : Nat} {v : Int64} : ∃ w, c_X9_narrowed a v τ = some w ∧ f_X12_narrowed (gI τ a 0) v = some w := by
  unfold c_X9_narrowed f_X12_narrowed
  by_cases q1 : gI τ a 0 = 1
  · rw [if_pos q1]; exact ⟨_, rfl, rfl⟩
  · rw [if_neg q1]
    by_cases q2 : gI τ a 0 = 2
    · rw [if_pos q2]; exact ⟨_, rfl, rfl⟩
    · rw [if_neg q2]
      by_cases q3 : gI τ a 0 = 3
      · rw [if_pos q3]; exact ⟨_, rfl, rfl⟩
      · rw [if_neg q3]; exact ⟨_, rfl, rfl⟩
theorem s_put (a1 a2 : Int32) (a3 : Int64) {c : Nat} {τ σ : Sg} (h : Rl c τ σ) : ∃ r τ' σ', c_X11_put a1 a2 a3 τ = some (r, τ') ∧ c_X12_put a1 a2 a3 σ = some (r, σ') ∧ Rl (c + 1) τ' σ' := by
  have H := h
  obtain ⟨⟨lt, ls, h0⟩, h1, h2, h3, h4, h5, h6, h7, h8⟩ := h
  by_cases q1 : 0 ≤ a1.toInt ∧ a1.toInt ≤ 5
  · obtain ⟨hx, hd, hn⟩ := Rtap_g h7 q1
    have h7' := h7
    obtain ⟨t1, t2, t3, t4, t5, t6, t7, t8, t9, t10, t11, t12, t13, t14, t15⟩ := h7 _ hd
    have p1 := v_hasPlaces (i := a2) (n := 1) t5
    have e1 : (gI τ (6 * a1.toNatClampNeg + 94) 6 - 1).toInt = (gI τ (6 * a1.toNatClampNeg + 94) 6).toInt - 1 := i32_sub (by simp only [Int32.reduceToInt]; omega) (by simp only [Int32.reduceToInt]; omega)
    simp only [Int32.reduceToInt] at p1
    by_cases q2 : (gI τ (6 * a1.toNatClampNeg + 94) 0).toInt = 0
    · refine ⟨-11, _, _, ?_, ?_, Rl_ref H⟩
      · simp (disch := omega) only [c_X11_put, c_X11_refuse, bp_s, bd_s, nm_t, ite10, if_pos, if_neg, ck_ix, i32_lt, i32_le, Int32.reduceToInt, reduceIte, i32_eq, Int.reduceEq, if_true, if_false, v_in, v_isRate, v_isSlot, v_isMode, v_isLaw, v_isTape]
      · simp (disch := omega) only [c_X12_put, v_isTape12, c_X12_refuse, t1, h8.1, bp_s, bd_s, nm_t, ite10, if_pos, if_neg, ck_ix, i32_lt, i32_le, Int32.reduceToInt, reduceIte, i32_eq, Int.reduceEq, if_true, if_false, v_in, v_isRate, v_isSlot, v_isMode, v_isLaw, v_isTape]
    · by_cases q3 : (gI τ (6 * a1.toNatClampNeg + 94) 0).toInt = 5
      · refine ⟨-12, _, _, ?_, ?_, Rl_ref H⟩
        · simp (disch := omega) only [c_X11_put, c_X11_refuse, bp_s, bd_s, nm_t, ite10, if_pos, if_neg, ck_ix, i32_lt, i32_le, Int32.reduceToInt, reduceIte, i32_eq, Int.reduceEq, if_true, if_false, v_in, v_isRate, v_isSlot, v_isMode, v_isLaw, v_isTape]
        · simp (disch := omega) only [c_X12_put, v_isTape12, c_X12_refuse, t1, h8.1, bp_s, bd_s, nm_t, ite10, if_pos, if_neg, ck_ix, i32_lt, i32_le, Int32.reduceToInt, reduceIte, i32_eq, Int.reduceEq, if_true, if_false, v_in, v_isRate, v_isSlot, v_isMode, v_isLaw, v_isTape]
      · by_cases q4 : 0 ≤ a2.toInt ∧ a2.toInt + 1 ≤ (gI τ (6 * a1.toNatClampNeg + 94) 6).toInt
        · obtain ⟨w, w1, w2⟩ := v_narrowed (τ := τ) (a := 6 * a1.toNatClampNeg + 94) (v := a3)
          have hi : ix a2 64 := ix_of q4.1 (by omega)
          have hin := ixn hi
          obtain ⟨-, x2, x3⟩ := ix2 (c := 64) (by decide) hx hi rfl (by decide)
          have x3' : ix (64 * a1 + a2) 384 := x3
          refine ⟨1, pJ τ (6 * a1.toNatClampNeg + 95) a2.toNatClampNeg w, pJ σ 152 (64 * a1.toNatClampNeg + a2.toNatClampNeg) w, ?_, ?_, ?_⟩
          · simp (disch := omega) only [c_X11_put, p1, w1, bp_s, bd_s, nm_t, ite10, if_pos, if_neg, ck_ix, i32_lt, i32_le, Int32.reduceToInt, reduceIte, i32_eq, Int.reduceEq, if_true, if_false, v_in, v_isRate, v_isSlot, v_isMode, v_isLaw, v_isTape]
          · simp (disch := omega) only [c_X12_put, v_isTape12, t1, t4, e1, w2, ck_t x3', x2, bp_s, bd_s, nm_t, ite10, if_pos, if_neg, ck_ix, i32_lt, i32_le, Int32.reduceToInt, reduceIte, i32_eq, Int.reduceEq, if_true, if_false, v_in, v_isRate, v_isSlot, v_isMode, v_isLaw, v_isTape]
          have E : ∀ a, ¬ (94 ≤ a ∧ a ≤ 129) → Sm τ (pJ τ (6 * a1.toNatClampNeg + 95) a2.toNatClampNeg w) a := fun a ha => Sm_pJ Sm_refl (by omega)
          have E' : ∀ a, a ≠ 152 → Sm σ (pJ σ 152 (64 * a1.toNatClampNeg + a2.toNatClampNeg) w) a := fun a ha => Sm_pJ Sm_refl (by omega)
          refine ⟨⟨lt, ls, Rold_f h0 (fun a ha => E a (by omega))⟩, Rtab_f h1 (fun a ha => E a (by omega)) (fun a ha => E' a (by omega)), Rwts_f h2 (fun a ha => E a (by omega)) (fun a ha => E' a (by omega)), Rbil_f h3 (fun a ha => E a (by omega)) (E' 133 (by omega)) (by first | rfl | simp (disch := omega) only [gI_pI_s, gJ_pJ_s, gD_pD_s, gI_pJ, gI_pD, gJ_pI, gJ_pD, gD_pI, gD_pJ, gI_pI_a, gJ_pJ_a, gD_pD_a, gI_pI_k, gJ_pJ_k, gD_pD_k, gI_mI_i, gJ_mJ_i, gD_mD_i, gI_mJ, gI_mD, gJ_mI, gJ_mD, gD_mI, gD_mJ, gI_mI_a, gJ_mJ_a, gD_mD_a, gI_mI_o, gJ_mJ_o, gD_mD_o]), Rled_f h4 (Nat.le_succ _) (fun a ha => E a (by omega)) (E' 146 (by omega)) (by first | rfl | simp (disch := omega) only [gI_pI_s, gJ_pJ_s, gD_pD_s, gI_pJ, gI_pD, gJ_pI, gJ_pD, gD_pI, gD_pJ, gI_pI_a, gJ_pJ_a, gD_pD_a, gI_pI_k, gJ_pJ_k, gD_pD_k, gI_mI_i, gJ_mJ_i, gD_mD_i, gI_mJ, gI_mD, gJ_mI, gJ_mD, gD_mI, gD_mJ, gI_mI_a, gJ_mJ_a, gD_mD_a, gI_mI_o, gJ_mJ_o, gD_mD_o]), Rprg_f h5 (fun a ha => E a (by omega)) (fun a ha => E' a (by omega)) (by first | rfl | simp (disch := omega) only [gI_pI_s, gJ_pJ_s, gD_pD_s, gI_pJ, gI_pD, gJ_pI, gJ_pD, gD_pI, gD_pJ, gI_pI_a, gJ_pJ_a, gD_pD_a, gI_pI_k, gJ_pJ_k, gD_pD_k, gI_mI_i, gJ_mJ_i, gD_mD_i, gI_mJ, gI_mD, gJ_mI, gJ_mD, gD_mI, gD_mJ, gI_mI_a, gJ_mJ_a, gD_mD_a, gI_mI_o, gJ_mJ_o, gD_mD_o]) (by first | rfl | simp (disch := omega) only [gI_pI_s, gJ_pJ_s, gD_pD_s, gI_pJ, gI_pD, gJ_pI, gJ_pD, gD_pI, gD_pJ, gI_pI_a, gJ_pJ_a, gD_pD_a, gI_pI_k, gJ_pJ_k, gD_pD_k, gI_mI_i, gJ_mJ_i, gD_mD_i, gI_mJ, gI_mD, gJ_mI, gJ_mD, gD_mI, gD_mJ, gI_mI_a, gJ_mJ_a, gD_mD_a, gI_mI_o, gJ_mJ_o, gD_mD_o]), Rlst_f h6 (fun a ha => E a (by omega)) (fun a ha => E' a (by omega)) (by first | rfl | simp (disch := omega) only [gI_pI_s, gJ_pJ_s, gD_pD_s, gI_pJ, gI_pD, gJ_pI, gJ_pD, gD_pI, gD_pJ, gI_pI_a, gJ_pJ_a, gD_pD_a, gI_pI_k, gJ_pJ_k, gD_pD_k, gI_mI_i, gJ_mJ_i, gD_mD_i, gI_mJ, gI_mD, gJ_mI, gJ_mD, gD_mI, gD_mJ, gI_mI_a, gJ_mJ_a, gD_mD_a, gI_mI_o, gJ_mJ_o, gD_mD_o]) (by first | rfl | simp (disch := omega) only [gI_pI_s, gJ_pJ_s, gD_pD_s, gI_pJ, gI_pD, gJ_pI, gJ_pD, gD_pI, gD_pJ, gI_pI_a, gJ_pJ_a, gD_pD_a, gI_pI_k, gJ_pJ_k, gD_pD_k, gI_mI_i, gJ_mJ_i, gD_mD_i, gI_mJ, gI_mD, gJ_mI, gJ_mD, gD_mI, gD_mJ, gI_mI_a, gJ_mJ_a, gD_mD_a, gI_mI_o, gJ_mJ_o, gD_mD_o]), fun d hd' => ?_, Rmis_f h8 (by first | rfl | simp (disch := omega) only [gI_pI_s, gJ_pJ_s, gD_pD_s, gI_pJ, gI_pD, gJ_pI, gJ_pD, gD_pI, gD_pJ, gI_pI_a, gJ_pJ_a, gD_pD_a, gI_pI_k, gJ_pJ_k, gD_pD_k, gI_mI_i, gJ_mJ_i, gD_mD_i, gI_mJ, gI_mD, gJ_mI, gJ_mD, gD_mI, gD_mJ, gI_mI_a, gJ_mJ_a, gD_mD_a, gI_mI_o, gJ_mJ_o, gD_mD_o]) (by first | rfl | simp (disch := omega) only [gI_pI_s, gJ_pJ_s, gD_pD_s, gI_pJ, gI_pD, gJ_pI, gJ_pD, gD_pI, gD_pJ, gI_pI_a, gJ_pJ_a, gD_pD_a, gI_pI_k, gJ_pJ_k, gD_pD_k, gI_mI_i, gJ_mJ_i, gD_mD_i, gI_mJ, gI_mD, gJ_mI, gJ_mD, gD_mI, gD_mJ, gI_mI_a, gJ_mJ_a, gD_mD_a, gI_mI_o, gJ_mJ_o, gD_mD_o]) (by first | rfl | simp (disch := omega) only [gI_pI_s, gJ_pJ_s, gD_pD_s, gI_pJ, gI_pD, gJ_pI, gJ_pD, gD_pI, gD_pJ, gI_pI_a, gJ_pJ_a, gD_pD_a, gI_pI_k, gJ_pJ_k, gD_pD_k, gI_mI_i, gJ_mJ_i, gD_mD_i, gI_mJ, gI_mD, gJ_mI, gJ_mD, gD_mI, gD_mJ, gI_mI_a, gJ_mJ_a, gD_mD_a, gI_mI_o, gJ_mJ_o, gD_mD_o])⟩
          obtain ⟨u1, u2, u3, u4, u5, u6, u7, u8, u9, u10, u11, u12, u13, u14, u15⟩ := h7' d hd'
          simp (disch := omega) only [gI_pJ, gJ_pJ_a]
          refine ⟨u1, u2, u3, u4, u5, u6, fun j hj => ?_, u8, u9, u10, u11, u12, by omega, u14, u15⟩
          have u7 := u7 j hj
          by_cases e : d = a1.toNatClampNeg
          · subst e
            rw [gJ_pJ, gJ_pJ]
            by_cases e : j = a2.toNatClampNeg
            · subst e
              simp only [and_self, if_true]
            · simp (disch := omega) only [if_neg]
              exact u7
          · simp (disch := omega) only [gI_pI_s, gJ_pJ_s, gD_pD_s, gI_pJ, gI_pD, gJ_pI, gJ_pD, gD_pI, gD_pJ, gI_pI_a, gJ_pJ_a, gD_pD_a, gI_pI_k, gJ_pJ_k, gD_pD_k]
            exact u7
        · refine ⟨-13, _, _, ?_, ?_, Rl_ref H⟩
          · simp (disch := omega) only [c_X11_put, c_X11_refuse, p1, bp_s, bd_s, nm_t, ite10, if_pos, if_neg, ck_ix, i32_lt, i32_le, Int32.reduceToInt, reduceIte, i32_eq, Int.reduceEq, if_true, if_false, v_in, v_isRate, v_isSlot, v_isMode, v_isLaw, v_isTape]
          · simp (disch := omega) only [c_X12_put, v_isTape12, c_X12_refuse, t1, t4, e1, h8.1, bp_s, bd_s, nm_t, ite10, if_pos, if_neg, ck_ix, i32_lt, i32_le, Int32.reduceToInt, reduceIte, i32_eq, Int.reduceEq, if_true, if_false, v_in, v_isRate, v_isSlot, v_isMode, v_isLaw, v_isTape]
  · refine ⟨-1, τ, σ, ?_, ?_, Rl_s H⟩
    · simp (disch := omega) only [c_X11_put, bp_s, bd_s, nm_t, ite10, if_pos, if_neg, ck_ix, i32_lt, i32_le, Int32.reduceToInt, reduceIte, i32_eq, Int.reduceEq, if_true, if_false, v_in, v_isRate, v_isSlot, v_isMode, v_isLaw, v_isTape]
    · simp (disch := omega) only [c_X12_put, v_isTape12, bp_s, bd_s, nm_t, ite10, if_pos, if_neg, ck_ix, i32_lt, i32_le, Int32.reduceToInt, reduceIte, i32_eq, Int.reduceEq, if_true, if_false, v_in, v_isRate, v_isSlot, v_isMode, v_isLaw, v_isTape]
