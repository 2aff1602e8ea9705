theorem s_rate (a1 a2 a3 : Int32) {c : Nat} {τ σ : Sg} (h : Rl c τ σ) : ∃ r τ' σ', c_X11_rate a1 a2 a3 τ = some (r, τ') ∧ c_X12_rate a1 a2 a3 σ = some (r, σ') ∧ Rl (c + 1) τ' σ' := by
  by_cases q1 : 0 ≤ a1.toInt ∧ a1.toInt ≤ 7
  · by_cases q2 : 0 ≤ a2.toInt ∧ a2.toInt ≤ 10000
    · by_cases q3 : 1 ≤ a3.toInt ∧ a3.toInt ≤ 1000
      · refine ⟨0, pI (pI τ 6 a1.toNatClampNeg a2) 7 a1.toNatClampNeg a3, pI (pI σ 131 a1.toNatClampNeg a2) 132 a1.toNatClampNeg a3, ?_, ?_, ?_⟩
        · simp (disch := omega) only [c_X11_rate, bp_s, bd_s, nm_t, ite10, if_pos, if_neg, ck_ix, i32_lt, i32_le, Int32.reduceToInt, reduceIte, i32_eq, Int.reduceEq, if_true, if_false, v_in, v_isRate, v_isSlot, v_isMode, v_isLaw, v_isTape]
        · simp (disch := omega) only [c_X12_rate, bp_s, bd_s, nm_t, ite10, if_pos, if_neg, ck_ix, i32_lt, i32_le, Int32.reduceToInt, reduceIte, i32_eq, Int.reduceEq, if_true, if_false, v_in, v_isRate, v_isSlot, v_isMode, v_isLaw, v_isTape]
        obtain ⟨⟨lt, ls, h0⟩, h1, h2, h3, h4, h5, h6, h7, h8⟩ := h
        have E : ∀ a, a ≠ 6 ∧ a ≠ 7 → Sm τ (pI (pI τ 6 a1.toNatClampNeg a2) 7 a1.toNatClampNeg a3) a := fun a ha => Sm_pI (Sm_pI Sm_refl (by omega)) (by omega)
        have E' : ∀ a, a ≠ 131 ∧ a ≠ 132 → Sm σ (pI (pI σ 131 a1.toNatClampNeg a2) 132 a1.toNatClampNeg a3) a := fun a ha => Sm_pI (Sm_pI Sm_refl (by omega)) (by omega)
        refine ⟨⟨lt, ls, Rold_f h0 (fun a ha => E a (by omega))⟩, fun k hk => ?_, Rwts_f h2 (fun a ha => E a (by omega)) (fun a ha => E' a (by omega)), Rbil_f h3 (fun a ha => E a (by omega)) (E' 133 (by omega)) (by first | rfl | simp (disch := omega) only [gI_pI_s, gJ_pJ_s, gD_pD_s, gI_pJ, gI_pD, gJ_pI, gJ_pD, gD_pI, gD_pJ, gI_pI_a, gJ_pJ_a, gD_pD_a, gI_pI_k, gJ_pJ_k, gD_pD_k]), Rled_f h4 (Nat.le_succ _) (fun a ha => E a (by omega)) (E' 146 (by omega)) (by first | rfl | simp (disch := omega) only [gI_pI_s, gJ_pJ_s, gD_pD_s, gI_pJ, gI_pD, gJ_pI, gJ_pD, gD_pI, gD_pJ, gI_pI_a, gJ_pJ_a, gD_pD_a, gI_pI_k, gJ_pJ_k, gD_pD_k]), Rprg_f h5 (fun a ha => E a (by omega)) (fun a ha => E' a (by omega)) (by first | rfl | simp (disch := omega) only [gI_pI_s, gJ_pJ_s, gD_pD_s, gI_pJ, gI_pD, gJ_pI, gJ_pD, gD_pI, gD_pJ, gI_pI_a, gJ_pJ_a, gD_pD_a, gI_pI_k, gJ_pJ_k, gD_pD_k]) (by first | rfl | simp (disch := omega) only [gI_pI_s, gJ_pJ_s, gD_pD_s, gI_pJ, gI_pD, gJ_pI, gJ_pD, gD_pI, gD_pJ, gI_pI_a, gJ_pJ_a, gD_pD_a, gI_pI_k, gJ_pJ_k, gD_pD_k]), Rlst_f h6 (fun a ha => E a (by omega)) (fun a ha => E' a (by omega)) (by first | rfl | simp (disch := omega) only [gI_pI_s, gJ_pJ_s, gD_pD_s, gI_pJ, gI_pD, gJ_pI, gJ_pD, gD_pI, gD_pJ, gI_pI_a, gJ_pJ_a, gD_pD_a, gI_pI_k, gJ_pJ_k, gD_pD_k]) (by first | rfl | simp (disch := omega) only [gI_pI_s, gJ_pJ_s, gD_pD_s, gI_pJ, gI_pD, gJ_pI, gJ_pD, gD_pI, gD_pJ, gI_pI_a, gJ_pJ_a, gD_pD_a, gI_pI_k, gJ_pJ_k, gD_pD_k]), Rtap_f h7 (Nat.le_succ _) (fun a ha => E a (by omega)) (fun a ha => E' a (by omega)), Rmis_f h8 (by first | rfl | simp (disch := omega) only [gI_pI_s, gJ_pJ_s, gD_pD_s, gI_pJ, gI_pD, gJ_pI, gJ_pD, gD_pI, gD_pJ, gI_pI_a, gJ_pJ_a, gD_pD_a, gI_pI_k, gJ_pJ_k, gD_pD_k]) (by first | rfl | simp (disch := omega) only [gI_pI_s, gJ_pJ_s, gD_pD_s, gI_pJ, gI_pD, gJ_pI, gJ_pD, gD_pI, gD_pJ, gI_pI_a, gJ_pJ_a, gD_pD_a, gI_pI_k, gJ_pJ_k, gD_pD_k]) (by first | rfl | simp (disch := omega) only [gI_pI_s, gJ_pJ_s, gD_pD_s, gI_pJ, gI_pD, gJ_pI, gJ_pD, gD_pI, gD_pJ, gI_pI_a, gJ_pJ_a, gD_pD_a, gI_pI_k, gJ_pJ_k, gD_pD_k])⟩
        obtain ⟨g1, g2, g3⟩ := h1 k hk
        simp (disch := omega) only [gI_pI_a, gI_pI]
        by_cases e : k = a1.toNatClampNeg
        · subst e
          simp only [and_self, if_true]
          exact ⟨trivial, trivial, q2.1, q2.2, q3.1, q3.2⟩
        · simp (disch := omega) only [if_neg]
          exact ⟨g1, g2, g3⟩
      · refine ⟨-1, τ, σ, ?_, ?_, Rl_s h⟩
        · rcases (by omega : a3.toInt < 1 ∨ 1000 < a3.toInt) with q | q
          · simp (disch := omega) only [c_X11_rate, bp_s, bd_s, nm_t, ite10, if_pos, if_neg, ck_ix, i32_lt, i32_le, Int32.reduceToInt, reduceIte, i32_eq, Int.reduceEq, if_true, if_false, v_in, v_isRate, v_isSlot, v_isMode, v_isLaw, v_isTape]
          · simp (disch := omega) only [c_X11_rate, bp_s, bd_s, nm_t, ite10, if_pos, if_neg, ck_ix, i32_lt, i32_le, Int32.reduceToInt, reduceIte, i32_eq, Int.reduceEq, if_true, if_false, v_in, v_isRate, v_isSlot, v_isMode, v_isLaw, v_isTape]
        · simp (disch := omega) only [c_X12_rate, bp_s, bd_s, nm_t, ite10, if_pos, if_neg, ck_ix, i32_lt, i32_le, Int32.reduceToInt, reduceIte, i32_eq, Int.reduceEq, if_true, if_false, v_in, v_isRate, v_isSlot, v_isMode, v_isLaw, v_isTape]
    · refine ⟨-1, τ, σ, ?_, ?_, Rl_s h⟩
      · rcases (by omega : a2.toInt < 0 ∨ 10000 < a2.toInt) with q | q
        · simp (disch := omega) only [c_X11_rate, bp_s, bd_s, nm_t, ite10, if_pos, if_neg, ck_ix, i32_lt, i32_le, Int32.reduceToInt, reduceIte, i32_eq, Int.reduceEq, if_true, if_false, v_in, v_isRate, v_isSlot, v_isMode, v_isLaw, v_isTape]
        · simp (disch := omega) only [c_X11_rate, bp_s, bd_s, nm_t, ite10, if_pos, if_neg, ck_ix, i32_lt, i32_le, Int32.reduceToInt, reduceIte, i32_eq, Int.reduceEq, if_true, if_false, v_in, v_isRate, v_isSlot, v_isMode, v_isLaw, v_isTape]
      · simp (disch := omega) only [c_X12_rate, bp_s, bd_s, nm_t, ite10, if_pos, if_neg, ck_ix, i32_lt, i32_le, Int32.reduceToInt, reduceIte, i32_eq, Int.reduceEq, if_true, if_false, v_in, v_isRate, v_isSlot, v_isMode, v_isLaw, v_isTape]
  · refine ⟨-1, τ, σ, ?_, ?_, Rl_s h⟩
    · simp (disch := omega) only [c_X11_rate, bp_s, bd_s, nm_t, ite10, if_pos, if_neg, ck_ix, i32_lt, i32_le, Int32.reduceToInt, reduceIte, i32_eq, Int.reduceEq, if_true, if_false, v_in, v_isRate, v_isSlot, v_isMode, v_isLaw, v_isTape]
    · simp (disch := omega) only [c_X12_rate, bp_s, bd_s, nm_t, ite10, if_pos, if_neg, ck_ix, i32_lt, i32_le, Int32.reduceToInt, reduceIte, i32_eq, Int.reduceEq, if_true, if_false, v_in, v_isRate, v_isSlot, v_isMode, v_isLaw, v_isTape]
theorem i32_add1 {x : Int32} {m : Int} (h : x.toInt ≤ m) (hm : m < 2147483647) : (x + 1).toInt = x.toInt + 1 := by
  have e : (1 : Int32).toInt = 1 := rfl
  have := i32_lo x
  rw [i32_add (by omega) (by omega), e]
theorem s_line (a1 : Int32) {c : Nat} {τ σ : Sg} (h : Rl c τ σ) : ∃ r τ' σ', c_X11_line a1 τ = some (r, τ') ∧ c_X12_line a1 σ = some (r, σ') ∧ Rl (c + 1) τ' σ' := by
  have H := h
  obtain ⟨⟨lt, ls, h0⟩, h1, h2, h3, h4, h5, h6, h7, h8⟩ := h
  obtain ⟨g1, g2, g3, g4⟩ := h3
  by_cases q1 : -1000000 ≤ a1.toInt ∧ a1.toInt ≤ 1000000
  · by_cases q2 : (gI τ 14 1).toInt < 12
    · have e1 := i32_add1 (x := gI τ 14 1) g3 (by decide)
      refine ⟨gI τ 14 1 + 1, pI (pI τ 15 (gI τ 14 1).toNatClampNeg a1) 14 1 (gI τ 14 1 + 1), pI (pI σ 133 (gI τ 14 1).toNatClampNeg a1) 130 3 (gI τ 14 1 + 1), ?_, ?_, ?_⟩
      · simp (disch := omega) only [c_X11_line, v_isLine, i64_of32, bp_s, bd_s, nm_t, ite10, if_pos, if_neg, ck_ix, i32_lt, i32_le, Int32.reduceToInt, reduceIte, i32_eq, Int.reduceEq, if_true, if_false, v_in, v_isRate, v_isSlot, v_isMode, v_isLaw, v_isTape, gI_pI_s, gJ_pJ_s, gD_pD_s, gI_pJ, gI_pD, gJ_pI, gJ_pD, gD_pI, gD_pJ, gI_pI_a, gJ_pJ_a, gD_pD_a, gI_pI_k, gJ_pJ_k, gD_pD_k]
      · simp (disch := omega) only [c_X12_line, v_isLine12, i64_of32, g1, bp_s, bd_s, nm_t, ite10, if_pos, if_neg, ck_ix, i32_lt, i32_le, Int32.reduceToInt, reduceIte, i32_eq, Int.reduceEq, if_true, if_false, v_in, v_isRate, v_isSlot, v_isMode, v_isLaw, v_isTape, gI_pI_s, gJ_pJ_s, gD_pD_s, gI_pJ, gI_pD, gJ_pI, gJ_pD, gD_pI, gD_pJ, gI_pI_a, gJ_pJ_a, gD_pD_a, gI_pI_k, gJ_pJ_k, gD_pD_k]
      have E : ∀ a, a ≠ 14 ∧ a ≠ 15 → Sm τ (pI (pI τ 15 (gI τ 14 1).toNatClampNeg a1) 14 1 (gI τ 14 1 + 1)) a := fun a ha => Sm_pI (Sm_pI Sm_refl (by omega)) (by omega)
      have E' : ∀ a, a ≠ 130 ∧ a ≠ 133 → Sm σ (pI (pI σ 133 (gI τ 14 1).toNatClampNeg a1) 130 3 (gI τ 14 1 + 1)) a := fun a ha => Sm_pI (Sm_pI Sm_refl (by omega)) (by omega)
      refine ⟨⟨lt, ls, Rold_f h0 (fun a ha => E a (by omega))⟩, Rtab_f h1 (fun a ha => E a (by omega)) (fun a ha => E' a (by omega)), Rwts_f h2 (fun a ha => E a (by omega)) (fun a ha => E' a (by omega)), ?_, Rled_f h4 (Nat.le_succ _) (fun a ha => E a (by omega)) (E' 146 (by omega)) (by first | rfl | simp (disch := omega) only [gI_pI_s, gJ_pJ_s, gD_pD_s, gI_pJ, gI_pD, gJ_pI, gJ_pD, gD_pI, gD_pJ, gI_pI_a, gJ_pJ_a, gD_pD_a, gI_pI_k, gJ_pJ_k, gD_pD_k]), Rprg_f h5 (fun a ha => E a (by omega)) (fun a ha => E' a (by omega)) (by first | rfl | simp (disch := omega) only [gI_pI_s, gJ_pJ_s, gD_pD_s, gI_pJ, gI_pD, gJ_pI, gJ_pD, gD_pI, gD_pJ, gI_pI_a, gJ_pJ_a, gD_pD_a, gI_pI_k, gJ_pJ_k, gD_pD_k]) (by first | rfl | simp (disch := omega) only [gI_pI_s, gJ_pJ_s, gD_pD_s, gI_pJ, gI_pD, gJ_pI, gJ_pD, gD_pI, gD_pJ, gI_pI_a, gJ_pJ_a, gD_pD_a, gI_pI_k, gJ_pJ_k, gD_pD_k]), Rlst_f h6 (fun a ha => E a (by omega)) (fun a ha => E' a (by omega)) (by first | rfl | simp (disch := omega) only [gI_pI_s, gJ_pJ_s, gD_pD_s, gI_pJ, gI_pD, gJ_pI, gJ_pD, gD_pI, gD_pJ, gI_pI_a, gJ_pJ_a, gD_pD_a, gI_pI_k, gJ_pJ_k, gD_pD_k]) (by first | rfl | simp (disch := omega) only [gI_pI_s, gJ_pJ_s, gD_pD_s, gI_pJ, gI_pD, gJ_pI, gJ_pD, gD_pI, gD_pJ, gI_pI_a, gJ_pJ_a, gD_pD_a, gI_pI_k, gJ_pJ_k, gD_pD_k]), Rtap_f h7 (Nat.le_succ _) (fun a ha => E a (by omega)) (fun a ha => E' a (by omega)), Rmis_f h8 (by first | rfl | simp (disch := omega) only [gI_pI_s, gJ_pJ_s, gD_pD_s, gI_pJ, gI_pD, gJ_pI, gJ_pD, gD_pI, gD_pJ, gI_pI_a, gJ_pJ_a, gD_pD_a, gI_pI_k, gJ_pJ_k, gD_pD_k]) (by first | rfl | simp (disch := omega) only [gI_pI_s, gJ_pJ_s, gD_pD_s, gI_pJ, gI_pD, gJ_pI, gJ_pD, gD_pI, gD_pJ, gI_pI_a, gJ_pJ_a, gD_pD_a, gI_pI_k, gJ_pJ_k, gD_pD_k]) (by first | rfl | simp (disch := omega) only [gI_pI_s, gJ_pJ_s, gD_pD_s, gI_pJ, gI_pD, gJ_pI, gJ_pD, gD_pI, gD_pJ, gI_pI_a, gJ_pJ_a, gD_pD_a, gI_pI_k, gJ_pJ_k, gD_pD_k])⟩
      unfold Rbil
      simp (disch := omega) only [gI_pI_s, gJ_pJ_s, gD_pD_s, gI_pJ, gI_pD, gJ_pI, gJ_pD, gD_pI, gD_pJ, gI_pI_a, gJ_pJ_a, gD_pD_a, gI_pI_k, gJ_pJ_k, gD_pD_k]
      refine ⟨trivial, by omega, by omega, fun j hj => ?_⟩
      rw [gI_pI, gI_pI]
      by_cases e : j = (gI τ 14 1).toNatClampNeg
      · subst e
        simp only [and_self, if_true]
        exact ⟨trivial, q1⟩
      · simp (disch := omega) only [if_neg]
        exact g4 j hj
    · refine ⟨-2, τ, σ, ?_, ?_, Rl_s H⟩
      · simp (disch := omega) only [c_X11_line, v_isLine, i64_of32, bp_s, bd_s, nm_t, ite10, if_pos, if_neg, ck_ix, i32_lt, i32_le, Int32.reduceToInt, reduceIte, i32_eq, Int.reduceEq, if_true, if_false, v_in, v_isRate, v_isSlot, v_isMode, v_isLaw, v_isTape]
      · simp (disch := omega) only [c_X12_line, v_isLine12, i64_of32, g1, bp_s, bd_s, nm_t, ite10, if_pos, if_neg, ck_ix, i32_lt, i32_le, Int32.reduceToInt, reduceIte, i32_eq, Int.reduceEq, if_true, if_false, v_in, v_isRate, v_isSlot, v_isMode, v_isLaw, v_isTape]
  · refine ⟨-1, τ, σ, ?_, ?_, Rl_s H⟩
    · simp (disch := omega) only [c_X11_line, v_isLine, i64_of32, bp_s, bd_s, nm_t, ite10, if_pos, if_neg, ck_ix, i32_lt, i32_le, Int32.reduceToInt, reduceIte, i32_eq, Int.reduceEq, if_true, if_false, v_in, v_isRate, v_isSlot, v_isMode, v_isLaw, v_isTape]
    · simp (disch := omega) only [c_X12_line, v_isLine12, i64_of32, bp_s, bd_s, nm_t, ite10, if_pos, if_neg, ck_ix, i32_lt, i32_le, Int32.reduceToInt, reduceIte, i32_eq, Int.reduceEq, if_true, if_false, v_in, v_isRate, v_isSlot, v_isMode, v_isLaw, v_isTape]
theorem s_bare {c : Nat} {τ σ : Sg} (h : Rl c τ σ) : ∃ r τ' σ', c_X11_bare τ = some (r, τ') ∧ c_X12_bare σ = some (r, σ') ∧ Rl (c + 1) τ' σ' := by
  obtain ⟨⟨lt, ls, h0⟩, h1, h2, h3, h4, h5, h6, h7, h8⟩ := h
  obtain ⟨g1, g2, g3, g4⟩ := h3
  refine ⟨gI τ 14 1, pI τ 14 1 0, pI σ 130 3 0, ?_, ?_, ?_⟩
  · simp (disch := omega) only [c_X11_bare, nm_t]
  · simp (disch := omega) only [c_X12_bare, g1, nm_t]
  have E : ∀ a, a ≠ 14 → Sm τ (pI τ 14 1 0) a := fun a ha => Sm_pI Sm_refl (by omega)
  have E' : ∀ a, a ≠ 130 → Sm σ (pI σ 130 3 0) a := fun a ha => Sm_pI Sm_refl (by omega)
  refine ⟨⟨lt, ls, Rold_f h0 (fun a ha => E a (by omega))⟩, Rtab_f h1 (fun a ha => E a (by omega)) (fun a ha => E' a (by omega)), Rwts_f h2 (fun a ha => E a (by omega)) (fun a ha => E' a (by omega)), ?_, Rled_f h4 (Nat.le_succ _) (fun a ha => E a (by omega)) (E' 146 (by omega)) (by first | rfl | simp (disch := omega) only [gI_pI_s, gJ_pJ_s, gD_pD_s, gI_pJ, gI_pD, gJ_pI, gJ_pD, gD_pI, gD_pJ, gI_pI_a, gJ_pJ_a, gD_pD_a, gI_pI_k, gJ_pJ_k, gD_pD_k]), Rprg_f h5 (fun a ha => E a (by omega)) (fun a ha => E' a (by omega)) (by first | rfl | simp (disch := omega) only [gI_pI_s, gJ_pJ_s, gD_pD_s, gI_pJ, gI_pD, gJ_pI, gJ_pD, gD_pI, gD_pJ, gI_pI_a, gJ_pJ_a, gD_pD_a, gI_pI_k, gJ_pJ_k, gD_pD_k]) (by first | rfl | simp (disch := omega) only [gI_pI_s, gJ_pJ_s, gD_pD_s, gI_pJ, gI_pD, gJ_pI, gJ_pD, gD_pI, gD_pJ, gI_pI_a, gJ_pJ_a, gD_pD_a, gI_pI_k, gJ_pJ_k, gD_pD_k]), Rlst_f h6 (fun a ha => E a (by omega)) (fun a ha => E' a (by omega)) (by first | rfl | simp (disch := omega) only [gI_pI_s, gJ_pJ_s, gD_pD_s, gI_pJ, gI_pD, gJ_pI, gJ_pD, gD_pI, gD_pJ, gI_pI_a, gJ_pJ_a, gD_pD_a, gI_pI_k, gJ_pJ_k, gD_pD_k]) (by first | rfl | simp (disch := omega) only [gI_pI_s, gJ_pJ_s, gD_pD_s, gI_pJ, gI_pD, gJ_pI, gJ_pD, gD_pI, gD_pJ, gI_pI_a, gJ_pJ_a, gD_pD_a, gI_pI_k, gJ_pJ_k, gD_pD_k]), Rtap_f h7 (Nat.le_succ _) (fun a ha => E a (by omega)) (fun a ha => E' a (by omega)), Rmis_f h8 (by first | rfl | simp (disch := omega) only [gI_pI_s, gJ_pJ_s, gD_pD_s, gI_pJ, gI_pD, gJ_pI, gJ_pD, gD_pI, gD_pJ, gI_pI_a, gJ_pJ_a, gD_pD_a, gI_pI_k, gJ_pJ_k, gD_pD_k]) (by first | rfl | simp (disch := omega) only [gI_pI_s, gJ_pJ_s, gD_pD_s, gI_pJ, gI_pD, gJ_pI, gJ_pD, gD_pI, gD_pJ, gI_pI_a, gJ_pJ_a, gD_pD_a, gI_pI_k, gJ_pJ_k, gD_pD_k]) (by first | rfl | simp (disch := omega) only [gI_pI_s, gJ_pJ_s, gD_pD_s, gI_pJ, gI_pD, gJ_pI, gJ_pD, gD_pI, gD_pJ, gI_pI_a, gJ_pJ_a, gD_pD_a, gI_pI_k, gJ_pJ_k, gD_pD_k])⟩
  unfold Rbil
  simp (disch := omega) only [gI_pI_s, gJ_pJ_s, gD_pD_s, gI_pJ, gI_pD, gJ_pI, gJ_pD, gD_pI, gD_pJ, gI_pI_a, gJ_pJ_a, gD_pD_a, gI_pI_k, gJ_pJ_k, gD_pD_k]
  exact ⟨trivial, by decide, by decide, g4⟩
theorem s_weight (a1 a2 : Int32) {c : Nat} {τ σ : Sg} (h : Rl c τ σ) : ∃ r τ' σ', c_X11_weight a1 a2 τ = some (r, τ') ∧ c_X12_weight a1 a2 σ = some (r, σ') ∧ Rl (c + 1) τ' σ' := by
  have H := h
  obtain ⟨⟨lt, ls, h0⟩, h1, h2, h3, h4, h5, h6, h7, h8⟩ := h
  by_cases q1 : 0 ≤ a1.toInt ∧ a1.toInt ≤ 3
  · have hi : a1.toNatClampNeg < 4 := by rw [i32_nat]; omega
    by_cases q2 : -1 ≤ a2.toInt ∧ a2.toInt ≤ 1000
    · obtain ⟨g1, g2, g3, g4⟩ := h2 _ hi
      by_cases q3 : a2.toInt = -1
      · refine ⟨0, pI τ 13 a1.toNatClampNeg 0, pI σ 134 a1.toNatClampNeg 0, ?_, ?_, ?_⟩
        · simp (disch := omega) only [c_X11_weight, bp_s, bd_s, nm_t, ite10, if_pos, if_neg, ck_ix, i32_lt, i32_le, Int32.reduceToInt, reduceIte, i32_eq, Int.reduceEq, if_true, if_false, v_in, v_isRate, v_isSlot, v_isMode, v_isLaw, v_isTape]
        · simp (disch := omega) only [c_X12_weight, bp_s, bd_s, nm_t, ite10, if_pos, if_neg, ck_ix, i32_lt, i32_le, Int32.reduceToInt, reduceIte, i32_eq, Int.reduceEq, if_true, if_false, v_in, v_isRate, v_isSlot, v_isMode, v_isLaw, v_isTape]
        have E : ∀ a, a ≠ 13 → Sm τ (pI τ 13 a1.toNatClampNeg 0) a := fun a ha => Sm_pI Sm_refl (by omega)
        have E' : ∀ a, a ≠ 134 → Sm σ (pI σ 134 a1.toNatClampNeg 0) a := fun a ha => Sm_pI Sm_refl (by omega)
        refine ⟨⟨lt, ls, Rold_f h0 (fun a ha => E a (by omega))⟩, Rtab_f h1 (fun a ha => E a (by omega)) (fun a ha => E' a (by omega)), fun s hs => ?_, Rbil_f h3 (fun a ha => E a (by omega)) (E' 133 (by omega)) (by first | rfl | simp (disch := omega) only [gI_pI_s, gJ_pJ_s, gD_pD_s, gI_pJ, gI_pD, gJ_pI, gJ_pD, gD_pI, gD_pJ, gI_pI_a, gJ_pJ_a, gD_pD_a, gI_pI_k, gJ_pJ_k, gD_pD_k]), Rled_f h4 (Nat.le_succ _) (fun a ha => E a (by omega)) (E' 146 (by omega)) (by first | rfl | simp (disch := omega) only [gI_pI_s, gJ_pJ_s, gD_pD_s, gI_pJ, gI_pD, gJ_pI, gJ_pD, gD_pI, gD_pJ, gI_pI_a, gJ_pJ_a, gD_pD_a, gI_pI_k, gJ_pJ_k, gD_pD_k]), Rprg_f h5 (fun a ha => E a (by omega)) (fun a ha => E' a (by omega)) (by first | rfl | simp (disch := omega) only [gI_pI_s, gJ_pJ_s, gD_pD_s, gI_pJ, gI_pD, gJ_pI, gJ_pD, gD_pI, gD_pJ, gI_pI_a, gJ_pJ_a, gD_pD_a, gI_pI_k, gJ_pJ_k, gD_pD_k]) (by first | rfl | simp (disch := omega) only [gI_pI_s, gJ_pJ_s, gD_pD_s, gI_pJ, gI_pD, gJ_pI, gJ_pD, gD_pI, gD_pJ, gI_pI_a, gJ_pJ_a, gD_pD_a, gI_pI_k, gJ_pJ_k, gD_pD_k]), Rlst_f h6 (fun a ha => E a (by omega)) (fun a ha => E' a (by omega)) (by first | rfl | simp (disch := omega) only [gI_pI_s, gJ_pJ_s, gD_pD_s, gI_pJ, gI_pD, gJ_pI, gJ_pD, gD_pI, gD_pJ, gI_pI_a, gJ_pJ_a, gD_pD_a, gI_pI_k, gJ_pJ_k, gD_pD_k]) (by first | rfl | simp (disch := omega) only [gI_pI_s, gJ_pJ_s, gD_pD_s, gI_pJ, gI_pD, gJ_pI, gJ_pD, gD_pI, gD_pJ, gI_pI_a, gJ_pJ_a, gD_pD_a, gI_pI_k, gJ_pJ_k, gD_pD_k]), Rtap_f h7 (Nat.le_succ _) (fun a ha => E a (by omega)) (fun a ha => E' a (by omega)), Rmis_f h8 (by first | rfl | simp (disch := omega) only [gI_pI_s, gJ_pJ_s, gD_pD_s, gI_pJ, gI_pD, gJ_pI, gJ_pD, gD_pI, gD_pJ, gI_pI_a, gJ_pJ_a, gD_pD_a, gI_pI_k, gJ_pJ_k, gD_pD_k]) (by first | rfl | simp (disch := omega) only [gI_pI_s, gJ_pJ_s, gD_pD_s, gI_pJ, gI_pD, gJ_pI, gJ_pD, gD_pI, gD_pJ, gI_pI_a, gJ_pJ_a, gD_pD_a, gI_pI_k, gJ_pJ_k, gD_pD_k]) (by first | rfl | simp (disch := omega) only [gI_pI_s, gJ_pJ_s, gD_pD_s, gI_pJ, gI_pD, gJ_pI, gJ_pD, gD_pI, gD_pJ, gI_pI_a, gJ_pJ_a, gD_pD_a, gI_pI_k, gJ_pJ_k, gD_pD_k])⟩
        have k := h2 s hs
        simp (disch := omega) only [gI_pI_a, gI_pI]
        by_cases e : s = a1.toNatClampNeg
        · subst e
          simp only [and_self, if_true]
          exact ⟨trivial, by decide, by decide, k.2.2.2⟩
        · simp (disch := omega) only [if_neg]
          exact k
      · by_cases q4 : (gI τ 13 a1.toNatClampNeg).toInt < 8
        · have e1 := i32_add1 (x := gI τ 13 a1.toNatClampNeg) g3 (by decide)
          have hw : ix (gI τ 13 a1.toNatClampNeg) 8 := ix_of g2 (by omega)
          obtain ⟨-, x2, x3⟩ := ix2 (c := 8) (by decide) (ix_of (m := 4) q1.1 (by omega)) hw rfl (by decide)
          have hj := ixl hw
          refine ⟨gI τ 13 a1.toNatClampNeg + 1, pI (pI τ (a1.toNatClampNeg + 9) (gI τ 13 a1.toNatClampNeg).toNatClampNeg a2) 13 a1.toNatClampNeg (gI τ 13 a1.toNatClampNeg + 1), pI (pI σ 135 (8 * a1.toNatClampNeg + (gI τ 13 a1.toNatClampNeg).toNatClampNeg) a2) 134 a1.toNatClampNeg (gI τ 13 a1.toNatClampNeg + 1), ?_, ?_, ?_⟩
          · simp (disch := omega) only [c_X11_weight, bp_s, bd_s, nm_t, ite10, if_pos, if_neg, ck_ix, i32_lt, i32_le, Int32.reduceToInt, reduceIte, i32_eq, Int.reduceEq, if_true, if_false, v_in, v_isRate, v_isSlot, v_isMode, v_isLaw, v_isTape, gI_pI_s, gJ_pJ_s, gD_pD_s, gI_pJ, gI_pD, gJ_pI, gJ_pD, gD_pI, gD_pJ, gI_pI_a, gJ_pJ_a, gD_pD_a, gI_pI_k, gJ_pJ_k, gD_pD_k]
          · simp (disch := omega) only [c_X12_weight, g1, ck_t x3, x2, bp_s, bd_s, nm_t, ite10, if_pos, if_neg, ck_ix, i32_lt, i32_le, Int32.reduceToInt, reduceIte, i32_eq, Int.reduceEq, if_true, if_false, v_in, v_isRate, v_isSlot, v_isMode, v_isLaw, v_isTape, gI_pI_s, gJ_pJ_s, gD_pD_s, gI_pJ, gI_pD, gJ_pI, gJ_pD, gD_pI, gD_pJ, gI_pI_a, gJ_pJ_a, gD_pD_a, gI_pI_k, gJ_pJ_k, gD_pD_k]
          have E : ∀ a, a ≠ 13 ∧ ¬ (9 ≤ a ∧ a ≤ 12) → Sm τ (pI (pI τ (a1.toNatClampNeg + 9) (gI τ 13 a1.toNatClampNeg).toNatClampNeg a2) 13 a1.toNatClampNeg (gI τ 13 a1.toNatClampNeg + 1)) a := fun a ha => Sm_pI (Sm_pI Sm_refl (by omega)) (by omega)
          have E' : ∀ a, a ≠ 134 ∧ a ≠ 135 → Sm σ (pI (pI σ 135 (8 * a1.toNatClampNeg + (gI τ 13 a1.toNatClampNeg).toNatClampNeg) a2) 134 a1.toNatClampNeg (gI τ 13 a1.toNatClampNeg + 1)) a := fun a ha => Sm_pI (Sm_pI Sm_refl (by omega)) (by omega)
          refine ⟨⟨lt, ls, Rold_f h0 (fun a ha => E a (by omega))⟩, Rtab_f h1 (fun a ha => E a (by omega)) (fun a ha => E' a (by omega)), fun s hs => ?_, Rbil_f h3 (fun a ha => E a (by omega)) (E' 133 (by omega)) (by first | rfl | simp (disch := omega) only [gI_pI_s, gJ_pJ_s, gD_pD_s, gI_pJ, gI_pD, gJ_pI, gJ_pD, gD_pI, gD_pJ, gI_pI_a, gJ_pJ_a, gD_pD_a, gI_pI_k, gJ_pJ_k, gD_pD_k]), Rled_f h4 (Nat.le_succ _) (fun a ha => E a (by omega)) (E' 146 (by omega)) (by first | rfl | simp (disch := omega) only [gI_pI_s, gJ_pJ_s, gD_pD_s, gI_pJ, gI_pD, gJ_pI, gJ_pD, gD_pI, gD_pJ, gI_pI_a, gJ_pJ_a, gD_pD_a, gI_pI_k, gJ_pJ_k, gD_pD_k]), Rprg_f h5 (fun a ha => E a (by omega)) (fun a ha => E' a (by omega)) (by first | rfl | simp (disch := omega) only [gI_pI_s, gJ_pJ_s, gD_pD_s, gI_pJ, gI_pD, gJ_pI, gJ_pD, gD_pI, gD_pJ, gI_pI_a, gJ_pJ_a, gD_pD_a, gI_pI_k, gJ_pJ_k, gD_pD_k]) (by first | rfl | simp (disch := omega) only [gI_pI_s, gJ_pJ_s, gD_pD_s, gI_pJ, gI_pD, gJ_pI, gJ_pD, gD_pI, gD_pJ, gI_pI_a, gJ_pJ_a, gD_pD_a, gI_pI_k, gJ_pJ_k, gD_pD_k]), Rlst_f h6 (fun a ha => E a (by omega)) (fun a ha => E' a (by omega)) (by first | rfl | simp (disch := omega) only [gI_pI_s, gJ_pJ_s, gD_pD_s, gI_pJ, gI_pD, gJ_pI, gJ_pD, gD_pI, gD_pJ, gI_pI_a, gJ_pJ_a, gD_pD_a, gI_pI_k, gJ_pJ_k, gD_pD_k]) (by first | rfl | simp (disch := omega) only [gI_pI_s, gJ_pJ_s, gD_pD_s, gI_pJ, gI_pD, gJ_pI, gJ_pD, gD_pI, gD_pJ, gI_pI_a, gJ_pJ_a, gD_pD_a, gI_pI_k, gJ_pJ_k, gD_pD_k]), Rtap_f h7 (Nat.le_succ _) (fun a ha => E a (by omega)) (fun a ha => E' a (by omega)), Rmis_f h8 (by first | rfl | simp (disch := omega) only [gI_pI_s, gJ_pJ_s, gD_pD_s, gI_pJ, gI_pD, gJ_pI, gJ_pD, gD_pI, gD_pJ, gI_pI_a, gJ_pJ_a, gD_pD_a, gI_pI_k, gJ_pJ_k, gD_pD_k]) (by first | rfl | simp (disch := omega) only [gI_pI_s, gJ_pJ_s, gD_pD_s, gI_pJ, gI_pD, gJ_pI, gJ_pD, gD_pI, gD_pJ, gI_pI_a, gJ_pJ_a, gD_pD_a, gI_pI_k, gJ_pJ_k, gD_pD_k]) (by first | rfl | simp (disch := omega) only [gI_pI_s, gJ_pJ_s, gD_pD_s, gI_pJ, gI_pD, gJ_pI, gJ_pD, gD_pI, gD_pJ, gI_pI_a, gJ_pJ_a, gD_pD_a, gI_pI_k, gJ_pJ_k, gD_pD_k])⟩
          have k := h2 s hs
          by_cases e : s = a1.toNatClampNeg
          · subst e
            simp (disch := omega) only [gI_pI_s, gJ_pJ_s, gD_pD_s, gI_pJ, gI_pD, gJ_pI, gJ_pD, gD_pI, gD_pJ, gI_pI_a, gJ_pJ_a, gD_pD_a, gI_pI_k, gJ_pJ_k, gD_pD_k]
            refine ⟨trivial, by omega, by omega, fun j hj' => ?_⟩
            rw [gI_pI, gI_pI]
            by_cases e : j = (gI τ 13 a1.toNatClampNeg).toNatClampNeg
            · subst e
              simp only [and_self, if_true]
              exact ⟨trivial, by omega, by omega⟩
            · simp (disch := omega) only [if_neg]
              exact k.2.2.2 j hj'
          · simp (disch := omega) only [gI_pI_s, gJ_pJ_s, gD_pD_s, gI_pJ, gI_pD, gJ_pI, gJ_pD, gD_pI, gD_pJ, gI_pI_a, gJ_pJ_a, gD_pD_a, gI_pI_k, gJ_pJ_k, gD_pD_k]
            refine ⟨k.1, k.2.1, k.2.2.1, fun j hj' => ?_⟩
            simp (disch := omega) only [gI_pI_s, gJ_pJ_s, gD_pD_s, gI_pJ, gI_pD, gJ_pI, gJ_pD, gD_pI, gD_pJ, gI_pI_a, gJ_pJ_a, gD_pD_a, gI_pI_k, gJ_pJ_k, gD_pD_k]
            exact k.2.2.2 j hj'
        · refine ⟨-2, τ, σ, ?_, ?_, Rl_s H⟩
          · simp (disch := omega) only [c_X11_weight, bp_s, bd_s, nm_t, ite10, if_pos, if_neg, ck_ix, i32_lt, i32_le, Int32.reduceToInt, reduceIte, i32_eq, Int.reduceEq, if_true, if_false, v_in, v_isRate, v_isSlot, v_isMode, v_isLaw, v_isTape]
          · simp (disch := omega) only [c_X12_weight, g1, bp_s, bd_s, nm_t, ite10, if_pos, if_neg, ck_ix, i32_lt, i32_le, Int32.reduceToInt, reduceIte, i32_eq, Int.reduceEq, if_true, if_false, v_in, v_isRate, v_isSlot, v_isMode, v_isLaw, v_isTape]
    · refine ⟨-1, τ, σ, ?_, ?_, Rl_s H⟩
      · rcases (by omega : a2.toInt < -1 ∨ 1000 < a2.toInt) with q | q
        · simp (disch := omega) only [c_X11_weight, bp_s, bd_s, nm_t, ite10, if_pos, if_neg, ck_ix, i32_lt, i32_le, Int32.reduceToInt, reduceIte, i32_eq, Int.reduceEq, if_true, if_false, v_in, v_isRate, v_isSlot, v_isMode, v_isLaw, v_isTape]
        · simp (disch := omega) only [c_X11_weight, bp_s, bd_s, nm_t, ite10, if_pos, if_neg, ck_ix, i32_lt, i32_le, Int32.reduceToInt, reduceIte, i32_eq, Int.reduceEq, if_true, if_false, v_in, v_isRate, v_isSlot, v_isMode, v_isLaw, v_isTape]
      · simp (disch := omega) only [c_X12_weight, bp_s, bd_s, nm_t, ite10, if_pos, if_neg, ck_ix, i32_lt, i32_le, Int32.reduceToInt, reduceIte, i32_eq, Int.reduceEq, if_true, if_false, v_in, v_isRate, v_isSlot, v_isMode, v_isLaw, v_isTape]
  · refine ⟨-1, τ, σ, ?_, ?_, Rl_s H⟩
    · rcases (by omega : a1.toInt < 0 ∨ 3 < a1.toInt) with q | q
      · simp (disch := omega) only [c_X11_weight, bp_s, bd_s, nm_t, ite10, if_pos, if_neg, ck_ix, i32_lt, i32_le, Int32.reduceToInt, reduceIte, i32_eq, Int.reduceEq, if_true, if_false, v_in, v_isRate, v_isSlot, v_isMode, v_isLaw, v_isTape]
      · simp (disch := omega) only [c_X11_weight, bp_s, bd_s, nm_t, ite10, if_pos, if_neg, ck_ix, i32_lt, i32_le, Int32.reduceToInt, reduceIte, i32_eq, Int.reduceEq, if_true, if_false, v_in, v_isRate, v_isSlot, v_isMode, v_isLaw, v_isTape]
    · simp (disch := omega) only [c_X12_weight, bp_s, bd_s, nm_t, ite10, if_pos, if_neg, ck_ix, i32_lt, i32_le, Int32.reduceToInt, reduceIte, i32_eq, Int.reduceEq, if_true, if_false, v_in, v_isRate, v_isSlot, v_isMode, v_isLaw, v_isTape]
theorem s_program {c : Nat} {τ σ : Sg} (h : Rl c τ σ) : ∃ r τ' σ', c_X11_program τ = some (r, τ') ∧ c_X12_program σ = some (r, σ') ∧ Rl (c + 1) τ' σ' := by
  have H := h
  obtain ⟨⟨lt, ls, h0⟩, h1, h2, h3, h4, h5, h6, h7, h8⟩ := h
  have h5' := h5
  obtain ⟨g1, g2, g3, g4⟩ := h5
  by_cases q1 : (gI τ 4 8).toInt < 4
  · have e1 := i32_add1 (x := gI τ 4 8) g3 (by decide)
    have hx : ix (gI τ 4 8) 4 := ix_of g2 (by omega)
    have hi := ixl hx
    have hn := ixn hx
    refine ⟨gI τ 4 8 + 1 - 1, pI (pJ (pJ (pI τ (5 * (gI τ 4 8).toNatClampNeg + 74) 4 0) (5 * (gI τ 4 8).toNatClampNeg + 74) 5 0) (5 * (gI τ 4 8).toNatClampNeg + 74) 6 1) 4 8 (gI τ 4 8 + 1), pI (pJ (pJ (pI σ 136 (gI τ 4 8).toNatClampNeg 0) 147 (gI τ 4 8).toNatClampNeg 0) 148 (gI τ 4 8).toNatClampNeg 1) 130 7 (gI τ 4 8 + 1), ?_, ?_, ?_⟩
    · simp (disch := omega) only [c_X11_program, c_X6_reset, bp_s, bd_s, nm_t, ite10, if_pos, if_neg, ck_ix, i32_lt, i32_le, Int32.reduceToInt, reduceIte, i32_eq, Int.reduceEq, if_true, if_false, v_in, v_isRate, v_isSlot, v_isMode, v_isLaw, v_isTape, gI_pI_s, gJ_pJ_s, gD_pD_s, gI_pJ, gI_pD, gJ_pI, gJ_pD, gD_pI, gD_pJ, gI_pI_a, gJ_pJ_a, gD_pD_a, gI_pI_k, gJ_pJ_k, gD_pD_k]
    · simp (disch := omega) only [c_X12_program, g1, bp_s, bd_s, nm_t, ite10, if_pos, if_neg, ck_ix, i32_lt, i32_le, Int32.reduceToInt, reduceIte, i32_eq, Int.reduceEq, if_true, if_false, v_in, v_isRate, v_isSlot, v_isMode, v_isLaw, v_isTape, gI_pI_s, gJ_pJ_s, gD_pD_s, gI_pJ, gI_pD, gJ_pI, gJ_pD, gD_pI, gD_pJ, gI_pI_a, gJ_pJ_a, gD_pD_a, gI_pI_k, gJ_pJ_k, gD_pD_k]
    have E : ∀ a, a ≠ 4 ∧ ¬ (74 ≤ a ∧ a ≤ 93) → Sm τ (pI (pJ (pJ (pI τ (5 * (gI τ 4 8).toNatClampNeg + 74) 4 0) (5 * (gI τ 4 8).toNatClampNeg + 74) 5 0) (5 * (gI τ 4 8).toNatClampNeg + 74) 6 1) 4 8 (gI τ 4 8 + 1)) a := fun a ha => Sm_pI (Sm_pJ (Sm_pJ (Sm_pI Sm_refl (by omega)) (by omega)) (by omega)) (by omega)
    have E' : ∀ a, a ≠ 130 ∧ a ≠ 136 ∧ a ≠ 147 ∧ a ≠ 148 → Sm σ (pI (pJ (pJ (pI σ 136 (gI τ 4 8).toNatClampNeg 0) 147 (gI τ 4 8).toNatClampNeg 0) 148 (gI τ 4 8).toNatClampNeg 1) 130 7 (gI τ 4 8 + 1)) a := fun a ha => Sm_pI (Sm_pJ (Sm_pJ (Sm_pI Sm_refl (by omega)) (by omega)) (by omega)) (by omega)
    refine ⟨⟨lt, ls, Rold_f h0 (fun a ha => E a (by omega))⟩, Rtab_f h1 (fun a ha => E a (by omega)) (fun a ha => E' a (by omega)), Rwts_f h2 (fun a ha => E a (by omega)) (fun a ha => E' a (by omega)), Rbil_f h3 (fun a ha => E a (by omega)) (E' 133 (by omega)) (by first | rfl | simp (disch := omega) only [gI_pI_s, gJ_pJ_s, gD_pD_s, gI_pJ, gI_pD, gJ_pI, gJ_pD, gD_pI, gD_pJ, gI_pI_a, gJ_pJ_a, gD_pD_a, gI_pI_k, gJ_pJ_k, gD_pD_k]), Rled_f h4 (Nat.le_succ _) (fun a ha => E a (by omega)) (E' 146 (by omega)) (by first | rfl | simp (disch := omega) only [gI_pI_s, gJ_pJ_s, gD_pD_s, gI_pJ, gI_pD, gJ_pI, gJ_pD, gD_pI, gD_pJ, gI_pI_a, gJ_pJ_a, gD_pD_a, gI_pI_k, gJ_pJ_k, gD_pD_k]), ?_, Rlst_f h6 (fun a ha => E a (by omega)) (fun a ha => E' a (by omega)) (by first | rfl | simp (disch := omega) only [gI_pI_s, gJ_pJ_s, gD_pD_s, gI_pJ, gI_pD, gJ_pI, gJ_pD, gD_pI, gD_pJ, gI_pI_a, gJ_pJ_a, gD_pD_a, gI_pI_k, gJ_pJ_k, gD_pD_k]) (by first | rfl | simp (disch := omega) only [gI_pI_s, gJ_pJ_s, gD_pD_s, gI_pJ, gI_pD, gJ_pI, gJ_pD, gD_pI, gD_pJ, gI_pI_a, gJ_pJ_a, gD_pD_a, gI_pI_k, gJ_pJ_k, gD_pD_k]), Rtap_f h7 (Nat.le_succ _) (fun a ha => E a (by omega)) (fun a ha => E' a (by omega)), Rmis_f h8 (by first | rfl | simp (disch := omega) only [gI_pI_s, gJ_pJ_s, gD_pD_s, gI_pJ, gI_pD, gJ_pI, gJ_pD, gD_pI, gD_pJ, gI_pI_a, gJ_pJ_a, gD_pD_a, gI_pI_k, gJ_pJ_k, gD_pD_k]) (by first | rfl | simp (disch := omega) only [gI_pI_s, gJ_pJ_s, gD_pD_s, gI_pJ, gI_pD, gJ_pI, gJ_pD, gD_pI, gD_pJ, gI_pI_a, gJ_pJ_a, gD_pD_a, gI_pI_k, gJ_pJ_k, gD_pD_k]) (by first | rfl | simp (disch := omega) only [gI_pI_s, gJ_pJ_s, gD_pD_s, gI_pJ, gI_pD, gJ_pI, gJ_pD, gD_pI, gD_pJ, gI_pI_a, gJ_pJ_a, gD_pD_a, gI_pI_k, gJ_pJ_k, gD_pD_k])⟩
    unfold Rprg
    simp (disch := omega) only [gI_pI_s, gJ_pJ_s, gD_pD_s, gI_pJ, gI_pD, gJ_pI, gJ_pD, gD_pI, gD_pJ, gI_pI_a, gJ_pJ_a, gD_pD_a, gI_pI_k, gJ_pJ_k, gD_pD_k]
    refine ⟨trivial, by omega, by omega, fun p hp => ?_⟩
    obtain ⟨k1, k2, k3, k4, k5⟩ := g4 p hp
    by_cases e : p = (gI τ 4 8).toNatClampNeg
    · subst e
      simp (disch := omega) only [gI_pI_s, gJ_pJ_s, gD_pD_s, gI_pJ, gI_pD, gJ_pI, gJ_pD, gD_pI, gD_pJ, gI_pI_a, gJ_pJ_a, gD_pD_a, gI_pI_k, gJ_pJ_k, gD_pD_k]
      exact ⟨trivial, by decide, by decide, k4, fun _ => ⟨trivial, trivial, by decide, by decide, by decide, by decide⟩⟩
    · simp (disch := omega) only [gI_pI_s, gJ_pJ_s, gD_pD_s, gI_pJ, gI_pD, gJ_pI, gJ_pD, gD_pI, gD_pJ, gI_pI_a, gJ_pJ_a, gD_pD_a, gI_pI_k, gJ_pJ_k, gD_pD_k]
      exact ⟨k1, k2, k3, k4, fun q => k5 (by omega)⟩
  · refine ⟨-2, τ, σ, ?_, ?_, Rl_s H⟩
    · simp (disch := omega) only [c_X11_program, bp_s, bd_s, nm_t, ite10, if_pos, if_neg, ck_ix, i32_lt, i32_le, Int32.reduceToInt, reduceIte, i32_eq, Int.reduceEq, if_true, if_false, v_in, v_isRate, v_isSlot, v_isMode, v_isLaw, v_isTape]
    · simp (disch := omega) only [c_X12_program, g1, bp_s, bd_s, nm_t, ite10, if_pos, if_neg, ck_ix, i32_lt, i32_le, Int32.reduceToInt, reduceIte, i32_eq, Int.reduceEq, if_true, if_false, v_in, v_isRate, v_isSlot, v_isMode, v_isLaw, v_isTape]
