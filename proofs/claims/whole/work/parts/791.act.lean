theorem k13 {k : Int32} (h : 0 ≤ k.toInt ∧ k.toInt ≤ 12) : k = 0 ∨ k = 1 ∨ k = 2 ∨ k = 3 ∨ k = 4 ∨ k = 5 ∨ k = 6 ∨ k = 7 ∨ k = 8 ∨ k = 9 ∨ k = 10 ∨ k = 11 ∨ k = 12 := by
  simp only [i32_eq, Int32.reduceToInt]
  omega
theorem v_fits {τ : Sg} (h0 : Rold τ) {k t v : Int32} (hk : 0 ≤ k.toInt ∧ k.toInt ≤ 12) : c_X11_fits k t v τ = some (if fitP k.toNatClampNeg t.toInt v.toInt then 1 else 0) := by
  have hn : k.toNatClampNeg < 13 := by rw [i32_nat]; omega
  obtain ⟨e1, e2, e3⟩ := h0 _ hn
  unfold c_X11_fits d_X11_fits_35 fitP
  rw [← e1, ← e2, ← e3]
  simp (disch := omega) only [ck_ix, i32_lt, Int32.reduceToInt]
  by_cases q1 : t.toInt < 0
  · rw [if_pos q1, if_neg (by omega)]
  · rw [if_neg q1]
    by_cases q2 : (gI τ 1 k.toNatClampNeg).toInt < t.toInt
    · rw [if_pos q2, if_neg (by omega)]
    · rw [if_neg q2]
      by_cases q3 : v.toInt < (gI τ 2 k.toNatClampNeg).toInt
      · rw [if_pos q3, if_neg (by omega)]
      · rw [if_neg q3]
        by_cases q4 : (gI τ 3 k.toNatClampNeg).toInt < v.toInt
        · rw [if_pos q4, if_neg (by omega)]
        · rw [if_neg q4, if_pos (by omega)]
theorem some_2 {P Q R : Prop} [Decidable P] [Decidable Q] [Decidable R] (h : R ↔ P ∧ Q) : (if P then (if Q then some (1 : Int32) else some 0) else some 0) = some (if R then 1 else 0) := by
  by_cases p : P
  · by_cases q : Q
    · rw [if_pos p, if_pos q, if_pos (h.mpr ⟨p, q⟩)]
    · rw [if_pos p, if_neg q, if_neg (fun r => q (h.mp r).2)]
  · rw [if_neg p, if_neg (fun r => p (h.mp r).1)]
theorem v_fits12 {k t v : Int32} (hk : 0 ≤ k.toInt ∧ k.toInt ≤ 12) : f_X12_fits k t v = some (if fitP k.toNatClampNeg t.toInt v.toInt then 1 else 0) := by
  rcases k13 hk with rfl | rfl | rfl | rfl | rfl | rfl | rfl | rfl | rfl | rfl | rfl | rfl | rfl
  all_goals
    unfold f_X12_fits b_X12_fits_90 b_X12_fits_116 b_X12_fits_141 b_X12_fits_166 b_X12_fits_190 b_X12_fits_210 b_X12_fits_295 b_X12_fits_235 b_X12_fits_255 b_X12_fits_281
    simp only [v_in, bp_s, ite10, Int32.reduceToInt]
    simp only [i32_eq, Int32.reduceToInt, Int.reduceEq, if_true, if_false]
    refine some_2 (R := fitP _ _ _) ?_
    show (0 ≤ t.toInt ∧ t.toInt ≤ _ ∧ _ ≤ v.toInt ∧ v.toInt ≤ _) ↔ _
    simp only [TM, VL, VM, Int32.reduceToNatClampNeg, List.getD_cons_zero, List.getD_cons_succ]
    omega
theorem s_act (a1 a2 a3 a4 a5 : Int32) {c : Nat} {τ σ : Sg} (h : Rl c τ σ) : ∃ r τ' σ', c_X11_act a1 a2 a3 a4 a5 τ = some (r, τ') ∧ c_X12_act a1 a2 a3 a4 a5 σ = some (r, σ') ∧ Rl (c + 1) τ' σ' := by
  have H := h
  obtain ⟨⟨lt, ls, h0⟩, h1, h2, h3, h4, h5, h6, h7, h8⟩ := h
  have vp := v_isProgram12 h5 a1
  have h5' := h5
  obtain ⟨g1, g2, g3, g4⟩ := h5
  by_cases q1 : 0 ≤ a1.toInt ∧ a1.toInt < (gI τ 4 8).toInt
  · have hx : ix a1 4 := ix_of q1.1 (by omega)
    have hp := ixl hx
    have hpn := ixn hx
    obtain ⟨k1, k2, k3, k4, k5⟩ := g4 _ hp
    by_cases q2 : 0 ≤ a2.toInt ∧ a2.toInt ≤ 12
    · by_cases q3 : 0 ≤ a3.toInt ∧ a3.toInt ≤ 7
      · have f1 := v_fits h0 (t := a4) (v := a5) q2
        have f2 := v_fits12 (t := a4) (v := a5) q2
        by_cases q4 : fitP a2.toNatClampNeg a4.toInt a5.toInt
        · rw [if_pos q4] at f1 f2
          by_cases q5 : (gI τ (5 * a1.toNatClampNeg + 74) 4).toInt < 20
          · have hs : ix (gI τ (5 * a1.toNatClampNeg + 74) 4) 20 := ix_of k2 (by omega)
            have hsn := ixl hs
            have hsm := ixn hs
            obtain ⟨-, x2, x3⟩ := ix2 (c := 20) (by decide) hx hs rfl (by decide)
            have e1 := i32_add1 (x := gI τ (5 * a1.toNatClampNeg + 74) 4) k3 (by decide)
            generalize hP : a1.toNatClampNeg = P at *
            generalize hS : (gI τ (5 * P + 74) 4).toNatClampNeg = S at *
            have E : ∀ a, ¬ (74 ≤ a ∧ a ≤ 93) → Sm τ (pI (pI (pI (pI (pI τ (5 * P + 75) S a2) (5 * P + 76) S a3) (5 * P + 77) S a4) (5 * P + 78) S a5) (5 * P + 74) 4 (gI τ (5 * P + 74) 4 + 1)) a := fun a ha => Sm_pI (Sm_pI (Sm_pI (Sm_pI (Sm_pI Sm_refl (by omega)) (by omega)) (by omega)) (by omega)) (by omega)
            have E' : ∀ a, ¬ (136 ≤ a ∧ a ≤ 140) → Sm σ (pI (pI (pI (pI (pI σ 137 (20 * P + S) a2) 138 (20 * P + S) a3) 139 (20 * P + S) a4) 140 (20 * P + S) a5) 136 P (gI τ (5 * P + 74) 4 + 1)) a := fun a ha => Sm_pI (Sm_pI (Sm_pI (Sm_pI (Sm_pI Sm_refl (by omega)) (by omega)) (by omega)) (by omega)) (by omega)
            refine ⟨gI τ (5 * P + 74) 4 + 1, pI (pI (pI (pI (pI τ (5 * P + 75) S a2) (5 * P + 76) S a3) (5 * P + 77) S a4) (5 * P + 78) S a5) (5 * P + 74) 4 (gI τ (5 * P + 74) 4 + 1), pI (pI (pI (pI (pI σ 137 (20 * P + S) a2) 138 (20 * P + S) a3) 139 (20 * P + S) a4) 140 (20 * P + S) a5) 136 P (gI τ (5 * P + 74) 4 + 1), ?_, ?_, ?_⟩
            · simp (disch := omega) only [c_X11_act, v_isProgram, f1, bp_s, bd_s, nm_t, ite10, if_pos, if_neg, ck_ix, i32_lt, i32_le, Int32.reduceToInt, reduceIte, i32_eq, Int.reduceEq, if_true, if_false, v_in, v_isRate, v_isSlot, v_isMode, v_isLaw, v_isTape, hP, hS, gI_pI_s, gJ_pJ_s, gD_pD_s, gI_pJ, gI_pD, gJ_pI, gJ_pD, gD_pI, gD_pJ, gI_pI_a, gJ_pJ_a, gD_pD_a, gI_pI_k, gJ_pJ_k, gD_pD_k]
            · simp (disch := omega) only [c_X12_act, vp, f2, bp_s, bd_s, nm_t, ite10, if_pos, if_neg, ck_ix, i32_lt, i32_le, Int32.reduceToInt, reduceIte, i32_eq, Int.reduceEq, if_true, if_false, v_in, v_isRate, v_isSlot, v_isMode, v_isLaw, v_isTape, hP, k1, ck_t x3, x2, gI_pI_s, gJ_pJ_s, gD_pD_s, gI_pJ, gI_pD, gJ_pI, gJ_pD, gD_pI, gD_pJ, gI_pI_a, gJ_pJ_a, gD_pD_a, gI_pI_k, gJ_pJ_k, gD_pD_k]
            refine ⟨⟨lt, ls, Rold_f h0 (fun a ha => E a (by omega))⟩, Rtab_f h1 (fun a ha => E a (by omega)) (fun a ha => E' a (by omega)), Rwts_f h2 (fun a ha => E a (by omega)) (fun a ha => E' a (by omega)), Rbil_f h3 (fun a ha => E a (by omega)) (E' 133 (by omega)) (by first | rfl | simp (disch := omega) only [gI_pI_s, gJ_pJ_s, gD_pD_s, gI_pJ, gI_pD, gJ_pI, gJ_pD, gD_pI, gD_pJ, gI_pI_a, gJ_pJ_a, gD_pD_a, gI_pI_k, gJ_pJ_k, gD_pD_k, gI_mI_i, gJ_mJ_i, gD_mD_i, gI_mJ, gI_mD, gJ_mI, gJ_mD, gD_mI, gD_mJ, gI_mI_a, gJ_mJ_a, gD_mD_a, gI_mI_o, gJ_mJ_o, gD_mD_o]), Rled_f h4 (Nat.le_succ _) (fun a ha => E a (by omega)) (E' 146 (by omega)) (by first | rfl | simp (disch := omega) only [gI_pI_s, gJ_pJ_s, gD_pD_s, gI_pJ, gI_pD, gJ_pI, gJ_pD, gD_pI, gD_pJ, gI_pI_a, gJ_pJ_a, gD_pD_a, gI_pI_k, gJ_pJ_k, gD_pD_k, gI_mI_i, gJ_mJ_i, gD_mD_i, gI_mJ, gI_mD, gJ_mI, gJ_mD, gD_mI, gD_mJ, gI_mI_a, gJ_mJ_a, gD_mD_a, gI_mI_o, gJ_mJ_o, gD_mD_o]), ⟨?_, ?_, ?_, fun p hp' => ?_⟩, Rlst_f h6 (fun a ha => E a (by omega)) (fun a ha => E' a (by omega)) (by first | rfl | simp (disch := omega) only [gI_pI_s, gJ_pJ_s, gD_pD_s, gI_pJ, gI_pD, gJ_pI, gJ_pD, gD_pI, gD_pJ, gI_pI_a, gJ_pJ_a, gD_pD_a, gI_pI_k, gJ_pJ_k, gD_pD_k, gI_mI_i, gJ_mJ_i, gD_mD_i, gI_mJ, gI_mD, gJ_mI, gJ_mD, gD_mI, gD_mJ, gI_mI_a, gJ_mJ_a, gD_mD_a, gI_mI_o, gJ_mJ_o, gD_mD_o]) (by first | rfl | simp (disch := omega) only [gI_pI_s, gJ_pJ_s, gD_pD_s, gI_pJ, gI_pD, gJ_pI, gJ_pD, gD_pI, gD_pJ, gI_pI_a, gJ_pJ_a, gD_pD_a, gI_pI_k, gJ_pJ_k, gD_pD_k, gI_mI_i, gJ_mJ_i, gD_mD_i, gI_mJ, gI_mD, gJ_mI, gJ_mD, gD_mI, gD_mJ, gI_mI_a, gJ_mJ_a, gD_mD_a, gI_mI_o, gJ_mJ_o, gD_mD_o]), Rtap_f h7 (Nat.le_succ _) (fun a ha => E a (by omega)) (fun a ha => E' a (by omega)), Rmis_f h8 (by first | rfl | simp (disch := omega) only [gI_pI_s, gJ_pJ_s, gD_pD_s, gI_pJ, gI_pD, gJ_pI, gJ_pD, gD_pI, gD_pJ, gI_pI_a, gJ_pJ_a, gD_pD_a, gI_pI_k, gJ_pJ_k, gD_pD_k, gI_mI_i, gJ_mJ_i, gD_mD_i, gI_mJ, gI_mD, gJ_mI, gJ_mD, gD_mI, gD_mJ, gI_mI_a, gJ_mJ_a, gD_mD_a, gI_mI_o, gJ_mJ_o, gD_mD_o]) (by first | rfl | simp (disch := omega) only [gI_pI_s, gJ_pJ_s, gD_pD_s, gI_pJ, gI_pD, gJ_pI, gJ_pD, gD_pI, gD_pJ, gI_pI_a, gJ_pJ_a, gD_pD_a, gI_pI_k, gJ_pJ_k, gD_pD_k, gI_mI_i, gJ_mJ_i, gD_mD_i, gI_mJ, gI_mD, gJ_mI, gJ_mD, gD_mI, gD_mJ, gI_mI_a, gJ_mJ_a, gD_mD_a, gI_mI_o, gJ_mJ_o, gD_mD_o]) (by first | rfl | simp (disch := omega) only [gI_pI_s, gJ_pJ_s, gD_pD_s, gI_pJ, gI_pD, gJ_pI, gJ_pD, gD_pI, gD_pJ, gI_pI_a, gJ_pJ_a, gD_pD_a, gI_pI_k, gJ_pJ_k, gD_pD_k, gI_mI_i, gJ_mJ_i, gD_mD_i, gI_mJ, gI_mD, gJ_mI, gJ_mD, gD_mI, gD_mJ, gI_mI_a, gJ_mJ_a, gD_mD_a, gI_mI_o, gJ_mJ_o, gD_mD_o])⟩
            · exact g1
            · simp (disch := omega) only [gI_pI_s, gJ_pJ_s, gD_pD_s, gI_pJ, gI_pD, gJ_pI, gJ_pD, gD_pI, gD_pJ, gI_pI_a, gJ_pJ_a, gD_pD_a, gI_pI_k, gJ_pJ_k, gD_pD_k]; exact g2
            · simp (disch := omega) only [gI_pI_s, gJ_pJ_s, gD_pD_s, gI_pJ, gI_pD, gJ_pI, gJ_pD, gD_pI, gD_pJ, gI_pI_a, gJ_pJ_a, gD_pD_a, gI_pI_k, gJ_pJ_k, gD_pD_k]; exact g3
            obtain ⟨j1, j2, j3, j4, j5⟩ := g4 p hp'
            by_cases e : p = P
            · subst e
              simp (disch := omega) only [gI_pI_s, gJ_pJ_s, gD_pD_s, gI_pJ, gI_pD, gJ_pI, gJ_pD, gD_pI, gD_pJ, gI_pI_a, gJ_pJ_a, gD_pD_a, gI_pI_k, gJ_pJ_k, gD_pD_k]
              refine ⟨trivial, by omega, by omega, fun i hi => ?_, j5⟩
              simp only [gI_pI]
              by_cases e : i = S
              · subst e
                simp only [and_self, if_true]
                exact ⟨trivial, trivial, trivial, trivial, q2.1, q2.2, q3.1, q3.2, q4⟩
              · simp (disch := omega) only [if_neg]
                exact j4 i hi
            · simp (disch := omega) only [gI_pI_s, gJ_pJ_s, gD_pD_s, gI_pJ, gI_pD, gJ_pI, gJ_pD, gD_pI, gD_pJ, gI_pI_a, gJ_pJ_a, gD_pD_a, gI_pI_k, gJ_pJ_k, gD_pD_k]
              refine ⟨j1, j2, j3, fun i hi => ?_, j5⟩
              simp (disch := omega) only [gI_pI_s, gJ_pJ_s, gD_pD_s, gI_pJ, gI_pD, gJ_pI, gJ_pD, gD_pI, gD_pJ, gI_pI_a, gJ_pJ_a, gD_pD_a, gI_pI_k, gJ_pJ_k, gD_pD_k]
              exact j4 i hi
          · refine ⟨-2, τ, σ, ?_, ?_, Rl_s H⟩
            · simp (disch := omega) only [c_X11_act, v_isProgram, f1, bp_s, bd_s, nm_t, ite10, if_pos, if_neg, ck_ix, i32_lt, i32_le, Int32.reduceToInt, reduceIte, i32_eq, Int.reduceEq, if_true, if_false, v_in, v_isRate, v_isSlot, v_isMode, v_isLaw, v_isTape]
            · simp (disch := omega) only [c_X12_act, vp, f2, k1, bp_s, bd_s, nm_t, ite10, if_pos, if_neg, ck_ix, i32_lt, i32_le, Int32.reduceToInt, reduceIte, i32_eq, Int.reduceEq, if_true, if_false, v_in, v_isRate, v_isSlot, v_isMode, v_isLaw, v_isTape]
        · rw [if_neg q4] at f1 f2
          refine ⟨-1, τ, σ, ?_, ?_, Rl_s H⟩
          · simp (disch := omega) only [c_X11_act, v_isProgram, f1, bp_s, bd_s, nm_t, ite10, if_pos, if_neg, ck_ix, i32_lt, i32_le, Int32.reduceToInt, reduceIte, i32_eq, Int.reduceEq, if_true, if_false, v_in, v_isRate, v_isSlot, v_isMode, v_isLaw, v_isTape]
          · simp (disch := omega) only [c_X12_act, vp, f2, bp_s, bd_s, nm_t, ite10, if_pos, if_neg, ck_ix, i32_lt, i32_le, Int32.reduceToInt, reduceIte, i32_eq, Int.reduceEq, if_true, if_false, v_in, v_isRate, v_isSlot, v_isMode, v_isLaw, v_isTape]
      · refine ⟨-1, τ, σ, ?_, ?_, Rl_s H⟩
        · simp (disch := omega) only [c_X11_act, v_isProgram, bp_s, bd_s, nm_t, ite10, if_pos, if_neg, ck_ix, i32_lt, i32_le, Int32.reduceToInt, reduceIte, i32_eq, Int.reduceEq, if_true, if_false, v_in, v_isRate, v_isSlot, v_isMode, v_isLaw, v_isTape]
        · simp (disch := omega) only [c_X12_act, vp, bp_s, bd_s, nm_t, ite10, if_pos, if_neg, ck_ix, i32_lt, i32_le, Int32.reduceToInt, reduceIte, i32_eq, Int.reduceEq, if_true, if_false, v_in, v_isRate, v_isSlot, v_isMode, v_isLaw, v_isTape]
    · refine ⟨-1, τ, σ, ?_, ?_, Rl_s H⟩
      · rcases (by omega : a2.toInt < 0 ∨ 12 < a2.toInt) with q | q
        · simp (disch := omega) only [c_X11_act, v_isProgram, bp_s, bd_s, nm_t, ite10, if_pos, if_neg, ck_ix, i32_lt, i32_le, Int32.reduceToInt, reduceIte, i32_eq, Int.reduceEq, if_true, if_false, v_in, v_isRate, v_isSlot, v_isMode, v_isLaw, v_isTape]
        · simp (disch := omega) only [c_X11_act, v_isProgram, bp_s, bd_s, nm_t, ite10, if_pos, if_neg, ck_ix, i32_lt, i32_le, Int32.reduceToInt, reduceIte, i32_eq, Int.reduceEq, if_true, if_false, v_in, v_isRate, v_isSlot, v_isMode, v_isLaw, v_isTape]
      · simp (disch := omega) only [c_X12_act, vp, bp_s, bd_s, nm_t, ite10, if_pos, if_neg, ck_ix, i32_lt, i32_le, Int32.reduceToInt, reduceIte, i32_eq, Int.reduceEq, if_true, if_false, v_in, v_isRate, v_isSlot, v_isMode, v_isLaw, v_isTape]
  · refine ⟨-1, τ, σ, ?_, ?_, Rl_s H⟩
    · simp (disch := omega) only [c_X11_act, v_isProgram, bp_s, bd_s, nm_t, ite10, if_pos, if_neg, ck_ix, i32_lt, i32_le, Int32.reduceToInt, reduceIte, i32_eq, Int.reduceEq, if_true, if_false, v_in, v_isRate, v_isSlot, v_isMode, v_isLaw, v_isTape]
    · simp (disch := omega) only [c_X12_act, vp, bp_s, bd_s, nm_t, ite10, if_pos, if_neg, ck_ix, i32_lt, i32_le, Int32.reduceToInt, reduceIte, i32_eq, Int.reduceEq, if_true, if_false, v_in, v_isRate, v_isSlot, v_isMode, v_isLaw, v_isTape]
