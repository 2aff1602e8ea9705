theorem b_in {β : Type} {v a b : Int32} {k : Int32 → Option β} : bp (f_X12_in v a b) k = k (if a.toInt ≤ v.toInt ∧ v.toInt ≤ b.toInt then 1 else 0) := bp_t (v_in v a b)
theorem b_isRate {β : Type} {v : Int32} {k : Int32 → Option β} : bp (f_X11_isRate v) k = k (if 0 ≤ v.toInt ∧ v.toInt ≤ 7 then 1 else 0) := bp_t (v_isRate v)
theorem b_isSlot {β : Type} {v : Int32} {k : Int32 → Option β} : bp (f_X11_isSlot v) k = k (if 0 ≤ v.toInt ∧ v.toInt ≤ 7 then 1 else 0) := bp_t (v_isSlot v)
theorem b_isMode {β : Type} {v : Int32} {k : Int32 → Option β} : bp (f_X11_isMode v) k = k (if 0 ≤ v.toInt ∧ v.toInt ≤ 5 then 1 else 0) := bp_t (v_isMode v)
theorem b_isLaw {β : Type} {v : Int32} {k : Int32 → Option β} : bp (f_X11_isLaw v) k = k (if 0 ≤ v.toInt ∧ v.toInt ≤ 6 then 1 else 0) := bp_t (v_isLaw v)
theorem b_isTape {β : Type} {v : Int32} {k : Int32 → Option β} : bp (f_X11_isTape v) k = k (if 0 ≤ v.toInt ∧ v.toInt ≤ 5 then 1 else 0) := bp_t (v_isTape v)
theorem b_isTape12 {β : Type} {v : Int32} {k : Int32 → Option β} : bp (f_X12_isTape v) k = k (if 0 ≤ v.toInt ∧ v.toInt ≤ 5 then 1 else 0) := bp_t (v_isTape12 v)
theorem b_isProgram {β : Type} {v : Int32} {τ : Sg} {k : Int32 → Option β} : bp (c_X11_isProgram v τ) k = k (if 0 ≤ v.toInt ∧ v.toInt < (gI τ 4 8).toInt then 1 else 0) := bp_t (v_isProgram v)
theorem l_copy12a : ∀ (d n : Nat) (v1 v2 v3 v4 v5 v : Int32) (σ : Sg) {f : Nat → Int64}, 0 ≤ v1.toInt ∧ v1.toInt ≤ 5 → 0 ≤ v2.toInt → v2.toInt + v5.toInt ≤ 64 → (∀ j : Nat, (j : Int) < v5.toInt → gJ σ 152 (64 * v1.toNatClampNeg + (v2.toNatClampNeg + j)) = f j) → 0 ≤ v.toInt → v.toInt + d = v5.toInt → d < n → ∃ m, n ≤ m + d + 1 ∧ d_X12_copy_124 n v1 v2 v3 v4 v5 v σ = d_X12_copy_158 m v3 v4 v5 (mJ σ 167 v.toNatClampNeg v5.toNatClampNeg f) := by
  intro d
  induction d with
  | zero =>
    intro n v1 v2 v3 v4 v5 v σ f h0 h1 h2 hf h3 h4 h5
    obtain ⟨n, rfl⟩ : ∃ k, n = k + 1 := ⟨n - 1, by omega⟩
    have := nat0 h3
    have := nat0 (v := v5) (by omega)
    refine ⟨n, by omega, ?_⟩
    rw [d_X12_copy_124, if_pos (by rw [i32_le]; omega), mJ_nil (by omega)]
  | succ d ih =>
    intro n v1 v2 v3 v4 v5 v σ f h0 h1 h2 hf h3 h4 h5
    obtain ⟨n, rfl⟩ : ∃ k, n = k + 1 := ⟨n - 1, by omega⟩
    obtain ⟨c1, c2, c3⟩ := cnt1 (v := v) (m := 64) h3 (by omega) (by decide)
    obtain ⟨x1, x2⟩ := ix3 (v1 := v1) (v2 := v2) (v4 := v) h0 h1 h3 (by omega)
    have := nat0 (v := v5) (by omega)
    obtain ⟨m, m1, m2⟩ := ih n v1 v2 v3 v4 v5 (v + 1) (pJ σ 167 v.toNatClampNeg (f v.toNatClampNeg)) (f := f) h0 h1 h2 (fun j hj => by rw [gJ_pJ_a (by omega)]; exact hf j hj) (by omega) (by omega) (by omega)
    refine ⟨m, by omega, ?_⟩
    rw [d_X12_copy_124, if_neg (by rw [i32_le]; omega), ck_t x2, ck_ix (by omega), nm_t, nm_t, x1, hf _ (by omega), m2, c2, mJ_step (by omega) rfl]
theorem l_copy12b : ∀ (d n : Nat) (v3 v4 v5 v : Int32) (σ : Sg) {f : Nat → Int64}, 0 ≤ v3.toInt ∧ v3.toInt ≤ 5 → 0 ≤ v4.toInt → v4.toInt + v5.toInt ≤ 64 → (∀ j : Nat, (j : Int) < v5.toInt → gJ σ 167 j = f (64 * v3.toNatClampNeg + v4.toNatClampNeg + j)) → 0 ≤ v.toInt → v.toInt + d = v5.toInt → d < n → d_X12_copy_161 n v3 v4 v5 v σ = some (v5, mJ σ 152 (64 * v3.toNatClampNeg + v4.toNatClampNeg + v.toNatClampNeg) (64 * v3.toNatClampNeg + v4.toNatClampNeg + v5.toNatClampNeg) f) := by
  intro d
  induction d with
  | zero =>
    intro n v3 v4 v5 v σ f h0 h1 h2 hf h3 h4 h5
    obtain ⟨n, rfl⟩ : ∃ k, n = k + 1 := ⟨n - 1, by omega⟩
    have := nat0 h3
    have := nat0 (v := v5) (by omega)
    rw [d_X12_copy_161, if_pos (by rw [i32_le]; omega), mJ_nil (by omega)]
  | succ d ih =>
    intro n v3 v4 v5 v σ f h0 h1 h2 hf h3 h4 h5
    obtain ⟨n, rfl⟩ : ∃ k, n = k + 1 := ⟨n - 1, by omega⟩
    obtain ⟨c1, c2, c3⟩ := cnt1 (v := v) (m := 64) h3 (by omega) (by decide)
    obtain ⟨x1, x2⟩ := ix3 (v1 := v3) (v2 := v4) (v4 := v) h0 h1 h3 (by omega)
    have := nat0 (v := v5) (by omega)
    rw [← Nat.add_assoc] at x1
    rw [d_X12_copy_161, if_neg (by rw [i32_le]; omega), ck_ix (by omega), ck_t x2, nm_t, nm_t, x1, hf _ (by omega),
      ih n v3 v4 v5 (v + 1) (pJ σ 152 (64 * v3.toNatClampNeg + v4.toNatClampNeg + v.toNatClampNeg) (f (64 * v3.toNatClampNeg + v4.toNatClampNeg + v.toNatClampNeg))) (f := f) h0 h1 h2 (fun j hj => by rw [gJ_pJ_a (by omega)]; exact hf j hj) (by omega) (by omega) (by omega), c2, ← Nat.add_assoc, mJ_step (by omega) rfl]
theorem s_copy (n : Nat) (hn : 200 ≤ n) (a1 a2 a3 a4 a5 : Int32) {c : Nat} {τ σ : Sg} (h : Rl c τ σ) : ∃ r τ' σ', c_X11_copy a1 a2 a3 a4 a5 τ = some (r, τ') ∧ c_X12_copy n a1 a2 a3 a4 a5 σ = some (r, σ') ∧ Rl (c + 1) τ' σ' := by
  have H := h
  obtain ⟨⟨lt, ls, h0⟩, h1, h2, h3, h4, h5, h6, h7, h8⟩ := h
  by_cases q1 : 0 ≤ a1.toInt ∧ a1.toInt ≤ 5
  · obtain ⟨hx, hd, hn'⟩ := Rtap_g h7 q1
    obtain ⟨t1, t2, t3, t4, t5, t6, t7, -⟩ := h7 _ hd
    by_cases q2 : 0 ≤ a3.toInt ∧ a3.toInt ≤ 5
    · obtain ⟨hx', hd', hn''⟩ := Rtap_g h7 q2
      obtain ⟨u1, u2, u3, u4, u5, u6, u7, -⟩ := h7 _ hd'
      have p1 := v_hasPlaces (i := a2) (n := a5) t5
      have p2 := v_hasPlaces (i := a4) (n := a5) u5
      by_cases q3 : (gI τ (6 * a1.toNatClampNeg + 94) 0).toInt = 0
      · refine ⟨-11, _, _, ?_, ?_, Rl_ref H⟩
        · simp (disch := first | omega | (simp only [i32_lt, i32_le, i32_eq, Int32.reduceToInt, Int.reduceEq, Int.reduceLT, Int.reduceLE, not_true, not_false_eq_true] <;> omega) | fail) only [c_X11_copy, d_X11_copy_48, c_X11_refuse, ↓nm_t, ↓bp_s, ↓bd_s, ↓b_in, ↓b_isRate, ↓b_isSlot, ↓b_isMode, ↓b_isLaw, ↓b_isTape, ↓b_isTape12, ↓b_isProgram, ↓ite10, ↓if_pos, ↓if_neg, ↓ck_ix, ↓ck01, Int32.reduceToInt]
        · simp (disch := first | omega | (simp only [i32_lt, i32_le, i32_eq, Int32.reduceToInt, Int.reduceEq, Int.reduceLT, Int.reduceLE, not_true, not_false_eq_true] <;> omega) | fail) only [c_X12_copy, d_X12_copy_34, v_isTape12, c_X12_refuse, t1, h8.1, ↓nm_t, ↓bp_s, ↓bd_s, ↓b_in, ↓b_isRate, ↓b_isSlot, ↓b_isMode, ↓b_isLaw, ↓b_isTape, ↓b_isTape12, ↓b_isProgram, ↓ite10, ↓if_pos, ↓if_neg, ↓ck_ix, ↓ck01, Int32.reduceToInt]
      · by_cases q4 : (gI τ (6 * a3.toNatClampNeg + 94) 0).toInt = 0
        · refine ⟨-11, _, _, ?_, ?_, Rl_ref H⟩
          · simp (disch := first | omega | (simp only [i32_lt, i32_le, i32_eq, Int32.reduceToInt, Int.reduceEq, Int.reduceLT, Int.reduceLE, not_true, not_false_eq_true] <;> omega) | fail) only [c_X11_copy, d_X11_copy_48, c_X11_refuse, ↓nm_t, ↓bp_s, ↓bd_s, ↓b_in, ↓b_isRate, ↓b_isSlot, ↓b_isMode, ↓b_isLaw, ↓b_isTape, ↓b_isTape12, ↓b_isProgram, ↓ite10, ↓if_pos, ↓if_neg, ↓ck_ix, ↓ck01, Int32.reduceToInt]
          · simp (disch := first | omega | (simp only [i32_lt, i32_le, i32_eq, Int32.reduceToInt, Int.reduceEq, Int.reduceLT, Int.reduceLE, not_true, not_false_eq_true] <;> omega) | fail) only [c_X12_copy, d_X12_copy_34, v_isTape12, c_X12_refuse, t1, u1, h8.1, ↓nm_t, ↓bp_s, ↓bd_s, ↓b_in, ↓b_isRate, ↓b_isSlot, ↓b_isMode, ↓b_isLaw, ↓b_isTape, ↓b_isTape12, ↓b_isProgram, ↓ite10, ↓if_pos, ↓if_neg, ↓ck_ix, ↓ck01, Int32.reduceToInt]
        · by_cases q5 : (gI τ (6 * a1.toNatClampNeg + 94) 0).toInt = 5
          · refine ⟨-12, _, _, ?_, ?_, Rl_ref H⟩
            · simp (disch := first | omega | (simp only [i32_lt, i32_le, i32_eq, Int32.reduceToInt, Int.reduceEq, Int.reduceLT, Int.reduceLE, not_true, not_false_eq_true] <;> omega) | fail) only [c_X11_copy, d_X11_copy_77, c_X11_refuse, ↓nm_t, ↓bp_s, ↓bd_s, ↓b_in, ↓b_isRate, ↓b_isSlot, ↓b_isMode, ↓b_isLaw, ↓b_isTape, ↓b_isTape12, ↓b_isProgram, ↓ite10, ↓if_pos, ↓if_neg, ↓ck_ix, ↓ck01, Int32.reduceToInt]
            · simp (disch := first | omega | (simp only [i32_lt, i32_le, i32_eq, Int32.reduceToInt, Int.reduceEq, Int.reduceLT, Int.reduceLE, not_true, not_false_eq_true] <;> omega) | fail) only [c_X12_copy, d_X12_copy_66, v_isTape12, c_X12_refuse, t1, u1, h8.1, ↓nm_t, ↓bp_s, ↓bd_s, ↓b_in, ↓b_isRate, ↓b_isSlot, ↓b_isMode, ↓b_isLaw, ↓b_isTape, ↓b_isTape12, ↓b_isProgram, ↓ite10, ↓if_pos, ↓if_neg, ↓ck_ix, ↓ck01, Int32.reduceToInt]
          · by_cases q6 : (gI τ (6 * a1.toNatClampNeg + 94) 0).toInt = (gI τ (6 * a3.toNatClampNeg + 94) 0).toInt
            · by_cases q7 : 0 ≤ a5.toInt
              · by_cases q8 : 0 ≤ a2.toInt
                · have e1 : (gI τ (6 * a1.toNatClampNeg + 94) 6 - a2).toInt = (gI τ (6 * a1.toNatClampNeg + 94) 6).toInt - a2.toInt := by
                    have := i32_hi a2
                    exact i32_sub (by omega) (by omega)
                  by_cases q9 : 0 ≤ a4.toInt
                  · have e2 : (gI τ (6 * a3.toNatClampNeg + 94) 6 - a4).toInt = (gI τ (6 * a3.toNatClampNeg + 94) 6).toInt - a4.toInt := by
                      have := i32_hi a4
                      exact i32_sub (by omega) (by omega)
                    by_cases q10 : a2.toInt + a5.toInt ≤ (gI τ (6 * a1.toNatClampNeg + 94) 6).toInt
                    · by_cases q11 : a4.toInt + a5.toInt ≤ (gI τ (6 * a3.toNatClampNeg + 94) 6).toInt
                      · have n2 := nat0 q8
                        have n4 := nat0 q9
                        have n5 := nat0 q7
                        have cxh : cx 64 a2 64 a4 a5 := by
                          unfold cx
                          simp only [i32_lt, Int32.reduceToInt]
                          omega
                        have c2 : c_X12_copy n a1 a2 a3 a4 a5 σ = d_X12_copy_124 n a1 a2 a3 a4 a5 0 σ := by
                          simp (disch := first | omega | (simp only [i32_lt, i32_le, i32_eq, Int32.reduceToInt, Int.reduceEq, Int.reduceLT, Int.reduceLE, not_true, not_false_eq_true] <;> omega) | fail) only [c_X12_copy, v_isTape12, t1, u1, t4, u4, e1, e2, ↓nm_t, ↓bp_s, ↓bd_s, ↓b_in, ↓b_isRate, ↓b_isSlot, ↓b_isMode, ↓b_isLaw, ↓b_isTape, ↓b_isTape12, ↓b_isProgram, ↓ite10, ↓if_pos, ↓if_neg, ↓ck_ix, ↓ck01, Int32.reduceToInt]
                        obtain ⟨m, m1, m2⟩ := l_copy12a a5.toNatClampNeg n a1 a2 a3 a4 a5 0 σ (f := fun j => gJ τ (6 * a1.toNatClampNeg + 95) (a2.toNatClampNeg + j)) q1 q8 (by omega) (fun j hj => t7 _ (by omega)) (by decide) (by simp only [Int32.reduceToInt]; omega) (by omega)
                        have l2 := l_copy12b a5.toNatClampNeg m a3 a4 a5 0 (mJ σ 167 (0 : Int32).toNatClampNeg a5.toNatClampNeg (fun j => gJ τ (6 * a1.toNatClampNeg + 95) (a2.toNatClampNeg + j))) (f := fun j => gJ τ (6 * a1.toNatClampNeg + 95) (a2.toNatClampNeg + (j - (64 * a3.toNatClampNeg + a4.toNatClampNeg)))) q2 q9 (by omega) (fun j hj => by
                          rw [gJ_mJ_i (by have z0 : (0 : Int32).toNatClampNeg = 0 := rfl
                                          omega), show 64 * a3.toNatClampNeg + a4.toNatClampNeg + j - (64 * a3.toNatClampNeg + a4.toNatClampNeg) = j by omega]) (by decide) (by simp only [Int32.reduceToInt]; omega) (by omega)
                        have z0 : (0 : Int32).toNatClampNeg = 0 := rfl
                        rw [z0] at m2 l2
                        rw [Nat.add_zero] at l2
                        refine ⟨a5, mJ τ (6 * a3.toNatClampNeg + 95) a4.toNatClampNeg (a4.toNatClampNeg + a5.toNatClampNeg) (fun k => gJ τ (6 * a1.toNatClampNeg + 95) (a2.toNatClampNeg + (k - a4.toNatClampNeg))), mJ (mJ σ 167 0 a5.toNatClampNeg (fun j => gJ τ (6 * a1.toNatClampNeg + 95) (a2.toNatClampNeg + j))) 152 (64 * a3.toNatClampNeg + a4.toNatClampNeg) (64 * a3.toNatClampNeg + a4.toNatClampNeg + a5.toNatClampNeg) (fun j => gJ τ (6 * a1.toNatClampNeg + 95) (a2.toNatClampNeg + (j - (64 * a3.toNatClampNeg + a4.toNatClampNeg)))), ?_, ?_, ?_⟩
                        · simp (disch := first | omega | (simp only [i32_lt, i32_le, i32_eq, Int32.reduceToInt, Int.reduceEq, Int.reduceLT, Int.reduceLE, not_true, not_false_eq_true] <;> omega) | fail) only [c_X11_copy, p1, p2, ck_t cxh, ↓nm_t, ↓bp_s, ↓bd_s, ↓b_in, ↓b_isRate, ↓b_isSlot, ↓b_isMode, ↓b_isLaw, ↓b_isTape, ↓b_isTape12, ↓b_isProgram, ↓ite10, ↓if_pos, ↓if_neg, ↓ck_ix, ↓ck01, Int32.reduceToInt]
                          rfl
                        · rw [c2, m2]; exact l2
                        have E : ∀ a, ¬ (94 ≤ a ∧ a ≤ 129) → Sm τ (mJ τ (6 * a3.toNatClampNeg + 95) a4.toNatClampNeg (a4.toNatClampNeg + a5.toNatClampNeg) (fun k => gJ τ (6 * a1.toNatClampNeg + 95) (a2.toNatClampNeg + (k - a4.toNatClampNeg)))) a := fun a ha => Sm_mJ Sm_refl (by omega)
                        have E' : ∀ a, a ≠ 152 ∧ a ≠ 167 → Sm σ (mJ (mJ σ 167 0 a5.toNatClampNeg (fun j => gJ τ (6 * a1.toNatClampNeg + 95) (a2.toNatClampNeg + j))) 152 (64 * a3.toNatClampNeg + a4.toNatClampNeg) (64 * a3.toNatClampNeg + a4.toNatClampNeg + a5.toNatClampNeg) (fun j => gJ τ (6 * a1.toNatClampNeg + 95) (a2.toNatClampNeg + (j - (64 * a3.toNatClampNeg + a4.toNatClampNeg))))) a := fun a ha => Sm_mJ (Sm_mJ Sm_refl (by omega)) (by omega)
                        refine ⟨⟨lt, ls, Rold_f h0 (fun a ha => E a (by omega))⟩, Rtab_f h1 (fun a ha => E a (by omega)) (fun a ha => E' a (by omega)), Rwts_f h2 (fun a ha => E a (by omega)) (fun a ha => E' a (by omega)), Rbil_f h3 (fun a ha => E a (by omega)) (E' 133 (by omega)) (by first | rfl | simp (disch := omega) only [gI_pI_s, gJ_pJ_s, gD_pD_s, gI_pJ, gI_pD, gJ_pI, gJ_pD, gD_pI, gD_pJ, gI_pI_a, gJ_pJ_a, gD_pD_a, gI_pI_k, gJ_pJ_k, gD_pD_k, gI_mI_i, gJ_mJ_i, gD_mD_i, gI_mJ, gI_mD, gJ_mI, gJ_mD, gD_mI, gD_mJ, gI_mI_a, gJ_mJ_a, gD_mD_a, gI_mI_o, gJ_mJ_o, gD_mD_o]), Rled_f h4 (Nat.le_succ _) (fun a ha => E a (by omega)) (E' 146 (by omega)) (by first | rfl | simp (disch := omega) only [gI_pI_s, gJ_pJ_s, gD_pD_s, gI_pJ, gI_pD, gJ_pI, gJ_pD, gD_pI, gD_pJ, gI_pI_a, gJ_pJ_a, gD_pD_a, gI_pI_k, gJ_pJ_k, gD_pD_k, gI_mI_i, gJ_mJ_i, gD_mD_i, gI_mJ, gI_mD, gJ_mI, gJ_mD, gD_mI, gD_mJ, gI_mI_a, gJ_mJ_a, gD_mD_a, gI_mI_o, gJ_mJ_o, gD_mD_o]), Rprg_f h5 (fun a ha => E a (by omega)) (fun a ha => E' a (by omega)) (by first | rfl | simp (disch := omega) only [gI_pI_s, gJ_pJ_s, gD_pD_s, gI_pJ, gI_pD, gJ_pI, gJ_pD, gD_pI, gD_pJ, gI_pI_a, gJ_pJ_a, gD_pD_a, gI_pI_k, gJ_pJ_k, gD_pD_k, gI_mI_i, gJ_mJ_i, gD_mD_i, gI_mJ, gI_mD, gJ_mI, gJ_mD, gD_mI, gD_mJ, gI_mI_a, gJ_mJ_a, gD_mD_a, gI_mI_o, gJ_mJ_o, gD_mD_o]) (by first | rfl | simp (disch := omega) only [gI_pI_s, gJ_pJ_s, gD_pD_s, gI_pJ, gI_pD, gJ_pI, gJ_pD, gD_pI, gD_pJ, gI_pI_a, gJ_pJ_a, gD_pD_a, gI_pI_k, gJ_pJ_k, gD_pD_k, gI_mI_i, gJ_mJ_i, gD_mD_i, gI_mJ, gI_mD, gJ_mI, gJ_mD, gD_mI, gD_mJ, gI_mI_a, gJ_mJ_a, gD_mD_a, gI_mI_o, gJ_mJ_o, gD_mD_o]), Rlst_f h6 (fun a ha => E a (by omega)) (fun a ha => E' a (by omega)) (by first | rfl | simp (disch := omega) only [gI_pI_s, gJ_pJ_s, gD_pD_s, gI_pJ, gI_pD, gJ_pI, gJ_pD, gD_pI, gD_pJ, gI_pI_a, gJ_pJ_a, gD_pD_a, gI_pI_k, gJ_pJ_k, gD_pD_k, gI_mI_i, gJ_mJ_i, gD_mD_i, gI_mJ, gI_mD, gJ_mI, gJ_mD, gD_mI, gD_mJ, gI_mI_a, gJ_mJ_a, gD_mD_a, gI_mI_o, gJ_mJ_o, gD_mD_o]) (by first | rfl | simp (disch := omega) only [gI_pI_s, gJ_pJ_s, gD_pD_s, gI_pJ, gI_pD, gJ_pI, gJ_pD, gD_pI, gD_pJ, gI_pI_a, gJ_pJ_a, gD_pD_a, gI_pI_k, gJ_pJ_k, gD_pD_k, gI_mI_i, gJ_mJ_i, gD_mD_i, gI_mJ, gI_mD, gJ_mI, gJ_mD, gD_mI, gD_mJ, gI_mI_a, gJ_mJ_a, gD_mD_a, gI_mI_o, gJ_mJ_o, gD_mD_o]), fun d hd' => ?_, Rmis_f h8 (by first | rfl | simp (disch := omega) only [gI_pI_s, gJ_pJ_s, gD_pD_s, gI_pJ, gI_pD, gJ_pI, gJ_pD, gD_pI, gD_pJ, gI_pI_a, gJ_pJ_a, gD_pD_a, gI_pI_k, gJ_pJ_k, gD_pD_k, gI_mI_i, gJ_mJ_i, gD_mD_i, gI_mJ, gI_mD, gJ_mI, gJ_mD, gD_mI, gD_mJ, gI_mI_a, gJ_mJ_a, gD_mD_a, gI_mI_o, gJ_mJ_o, gD_mD_o]) (by first | rfl | simp (disch := omega) only [gI_pI_s, gJ_pJ_s, gD_pD_s, gI_pJ, gI_pD, gJ_pI, gJ_pD, gD_pI, gD_pJ, gI_pI_a, gJ_pJ_a, gD_pD_a, gI_pI_k, gJ_pJ_k, gD_pD_k, gI_mI_i, gJ_mJ_i, gD_mD_i, gI_mJ, gI_mD, gJ_mI, gJ_mD, gD_mI, gD_mJ, gI_mI_a, gJ_mJ_a, gD_mD_a, gI_mI_o, gJ_mJ_o, gD_mD_o]) (by first | rfl | simp (disch := omega) only [gI_pI_s, gJ_pJ_s, gD_pD_s, gI_pJ, gI_pD, gJ_pI, gJ_pD, gD_pI, gD_pJ, gI_pI_a, gJ_pJ_a, gD_pD_a, gI_pI_k, gJ_pJ_k, gD_pD_k, gI_mI_i, gJ_mJ_i, gD_mD_i, gI_mJ, gI_mD, gJ_mI, gJ_mD, gD_mI, gD_mJ, gI_mI_a, gJ_mJ_a, gD_mD_a, gI_mI_o, gJ_mJ_o, gD_mD_o])⟩
                        obtain ⟨w1, w2, w3, w4, w5, w6, w7, w8, w9, w10, w11, w12, w13, w14, w15⟩ := h7 d hd'
                        simp (disch := omega) only [gI_mJ, gJ_mJ_a]
                        refine ⟨w1, w2, w3, w4, w5, w6, fun j hj => ?_, w8, w9, w10, w11, w12, by omega, w14, w15⟩
                        by_cases e : d = a3.toNatClampNeg
                        · subst e
                          by_cases e : a4.toNatClampNeg ≤ j ∧ j < a4.toNatClampNeg + a5.toNatClampNeg
                          · simp (disch := omega) only [gJ_mJ_i]
                            rw [show 64 * a3.toNatClampNeg + j - (64 * a3.toNatClampNeg + a4.toNatClampNeg) = j - a4.toNatClampNeg by omega]
                          · simp (disch := omega) only [gJ_mJ_o, gJ_mJ_a]
                            exact w7 j hj
                        · simp (disch := omega) only [gJ_mJ_o, gJ_mJ_a]
                          exact w7 j hj
                      · refine ⟨-13, _, _, ?_, ?_, Rl_ref H⟩
                        · simp (disch := first | omega | (simp only [i32_lt, i32_le, i32_eq, Int32.reduceToInt, Int.reduceEq, Int.reduceLT, Int.reduceLE, not_true, not_false_eq_true] <;> omega) | fail) only [c_X11_copy, d_X11_copy_107, c_X11_refuse, p1, p2, ↓nm_t, ↓bp_s, ↓bd_s, ↓b_in, ↓b_isRate, ↓b_isSlot, ↓b_isMode, ↓b_isLaw, ↓b_isTape, ↓b_isTape12, ↓b_isProgram, ↓ite10, ↓if_pos, ↓if_neg, ↓ck_ix, ↓ck01, Int32.reduceToInt]
                        · simp (disch := first | omega | (simp only [i32_lt, i32_le, i32_eq, Int32.reduceToInt, Int.reduceEq, Int.reduceLT, Int.reduceLE, not_true, not_false_eq_true] <;> omega) | fail) only [c_X12_copy, d_X12_copy_114, v_isTape12, c_X12_refuse, t1, u1, t4, u4, e1, e2, h8.1, ↓nm_t, ↓bp_s, ↓bd_s, ↓b_in, ↓b_isRate, ↓b_isSlot, ↓b_isMode, ↓b_isLaw, ↓b_isTape, ↓b_isTape12, ↓b_isProgram, ↓ite10, ↓if_pos, ↓if_neg, ↓ck_ix, ↓ck01, Int32.reduceToInt]
                    · refine ⟨-13, _, _, ?_, ?_, Rl_ref H⟩
                      · simp (disch := first | omega | (simp only [i32_lt, i32_le, i32_eq, Int32.reduceToInt, Int.reduceEq, Int.reduceLT, Int.reduceLE, not_true, not_false_eq_true] <;> omega) | fail) only [c_X11_copy, d_X11_copy_107, c_X11_refuse, p1, p2, ↓nm_t, ↓bp_s, ↓bd_s, ↓b_in, ↓b_isRate, ↓b_isSlot, ↓b_isMode, ↓b_isLaw, ↓b_isTape, ↓b_isTape12, ↓b_isProgram, ↓ite10, ↓if_pos, ↓if_neg, ↓ck_ix, ↓ck01, Int32.reduceToInt]
                      · simp (disch := first | omega | (simp only [i32_lt, i32_le, i32_eq, Int32.reduceToInt, Int.reduceEq, Int.reduceLT, Int.reduceLE, not_true, not_false_eq_true] <;> omega) | fail) only [c_X12_copy, d_X12_copy_114, v_isTape12, c_X12_refuse, t1, u1, t4, u4, e1, e2, h8.1, ↓nm_t, ↓bp_s, ↓bd_s, ↓b_in, ↓b_isRate, ↓b_isSlot, ↓b_isMode, ↓b_isLaw, ↓b_isTape, ↓b_isTape12, ↓b_isProgram, ↓ite10, ↓if_pos, ↓if_neg, ↓ck_ix, ↓ck01, Int32.reduceToInt]
                  · refine ⟨-13, _, _, ?_, ?_, Rl_ref H⟩
                    · by_cases q10 : a2.toInt + a5.toInt ≤ (gI τ (6 * a1.toNatClampNeg + 94) 6).toInt
                      · simp (disch := first | omega | (simp only [i32_lt, i32_le, i32_eq, Int32.reduceToInt, Int.reduceEq, Int.reduceLT, Int.reduceLE, not_true, not_false_eq_true] <;> omega) | fail) only [c_X11_copy, d_X11_copy_107, c_X11_refuse, p1, p2, ↓nm_t, ↓bp_s, ↓bd_s, ↓b_in, ↓b_isRate, ↓b_isSlot, ↓b_isMode, ↓b_isLaw, ↓b_isTape, ↓b_isTape12, ↓b_isProgram, ↓ite10, ↓if_pos, ↓if_neg, ↓ck_ix, ↓ck01, Int32.reduceToInt]
                      · simp (disch := first | omega | (simp only [i32_lt, i32_le, i32_eq, Int32.reduceToInt, Int.reduceEq, Int.reduceLT, Int.reduceLE, not_true, not_false_eq_true] <;> omega) | fail) only [c_X11_copy, d_X11_copy_107, c_X11_refuse, p1, p2, ↓nm_t, ↓bp_s, ↓bd_s, ↓b_in, ↓b_isRate, ↓b_isSlot, ↓b_isMode, ↓b_isLaw, ↓b_isTape, ↓b_isTape12, ↓b_isProgram, ↓ite10, ↓if_pos, ↓if_neg, ↓ck_ix, ↓ck01, Int32.reduceToInt]
                    · simp (disch := first | omega | (simp only [i32_lt, i32_le, i32_eq, Int32.reduceToInt, Int.reduceEq, Int.reduceLT, Int.reduceLE, not_true, not_false_eq_true] <;> omega) | fail) only [c_X12_copy, d_X12_copy_114, v_isTape12, c_X12_refuse, t1, u1, h8.1, ↓nm_t, ↓bp_s, ↓bd_s, ↓b_in, ↓b_isRate, ↓b_isSlot, ↓b_isMode, ↓b_isLaw, ↓b_isTape, ↓b_isTape12, ↓b_isProgram, ↓ite10, ↓if_pos, ↓if_neg, ↓ck_ix, ↓ck01, Int32.reduceToInt]
                · refine ⟨-13, _, _, ?_, ?_, Rl_ref H⟩
                  · simp (disch := first | omega | (simp only [i32_lt, i32_le, i32_eq, Int32.reduceToInt, Int.reduceEq, Int.reduceLT, Int.reduceLE, not_true, not_false_eq_true] <;> omega) | fail) only [c_X11_copy, d_X11_copy_107, c_X11_refuse, p1, p2, ↓nm_t, ↓bp_s, ↓bd_s, ↓b_in, ↓b_isRate, ↓b_isSlot, ↓b_isMode, ↓b_isLaw, ↓b_isTape, ↓b_isTape12, ↓b_isProgram, ↓ite10, ↓if_pos, ↓if_neg, ↓ck_ix, ↓ck01, Int32.reduceToInt]
                  · simp (disch := first | omega | (simp only [i32_lt, i32_le, i32_eq, Int32.reduceToInt, Int.reduceEq, Int.reduceLT, Int.reduceLE, not_true, not_false_eq_true] <;> omega) | fail) only [c_X12_copy, d_X12_copy_114, v_isTape12, c_X12_refuse, t1, u1, h8.1, ↓nm_t, ↓bp_s, ↓bd_s, ↓b_in, ↓b_isRate, ↓b_isSlot, ↓b_isMode, ↓b_isLaw, ↓b_isTape, ↓b_isTape12, ↓b_isProgram, ↓ite10, ↓if_pos, ↓if_neg, ↓ck_ix, ↓ck01, Int32.reduceToInt]
              · refine ⟨-13, _, _, ?_, ?_, Rl_ref H⟩
                · simp (disch := first | omega | (simp only [i32_lt, i32_le, i32_eq, Int32.reduceToInt, Int.reduceEq, Int.reduceLT, Int.reduceLE, not_true, not_false_eq_true] <;> omega) | fail) only [c_X11_copy, d_X11_copy_107, c_X11_refuse, p1, p2, ↓nm_t, ↓bp_s, ↓bd_s, ↓b_in, ↓b_isRate, ↓b_isSlot, ↓b_isMode, ↓b_isLaw, ↓b_isTape, ↓b_isTape12, ↓b_isProgram, ↓ite10, ↓if_pos, ↓if_neg, ↓ck_ix, ↓ck01, Int32.reduceToInt]
                · simp (disch := first | omega | (simp only [i32_lt, i32_le, i32_eq, Int32.reduceToInt, Int.reduceEq, Int.reduceLT, Int.reduceLE, not_true, not_false_eq_true] <;> omega) | fail) only [c_X12_copy, d_X12_copy_114, v_isTape12, c_X12_refuse, t1, u1, h8.1, ↓nm_t, ↓bp_s, ↓bd_s, ↓b_in, ↓b_isRate, ↓b_isSlot, ↓b_isMode, ↓b_isLaw, ↓b_isTape, ↓b_isTape12, ↓b_isProgram, ↓ite10, ↓if_pos, ↓if_neg, ↓ck_ix, ↓ck01, Int32.reduceToInt]
            · refine ⟨-12, _, _, ?_, ?_, Rl_ref H⟩
              · simp (disch := first | omega | (simp only [i32_lt, i32_le, i32_eq, Int32.reduceToInt, Int.reduceEq, Int.reduceLT, Int.reduceLE, not_true, not_false_eq_true] <;> omega) | fail) only [c_X11_copy, d_X11_copy_77, c_X11_refuse, ↓nm_t, ↓bp_s, ↓bd_s, ↓b_in, ↓b_isRate, ↓b_isSlot, ↓b_isMode, ↓b_isLaw, ↓b_isTape, ↓b_isTape12, ↓b_isProgram, ↓ite10, ↓if_pos, ↓if_neg, ↓ck_ix, ↓ck01, Int32.reduceToInt]
              · simp (disch := first | omega | (simp only [i32_lt, i32_le, i32_eq, Int32.reduceToInt, Int.reduceEq, Int.reduceLT, Int.reduceLE, not_true, not_false_eq_true] <;> omega) | fail) only [c_X12_copy, d_X12_copy_66, v_isTape12, c_X12_refuse, t1, u1, h8.1, ↓nm_t, ↓bp_s, ↓bd_s, ↓b_in, ↓b_isRate, ↓b_isSlot, ↓b_isMode, ↓b_isLaw, ↓b_isTape, ↓b_isTape12, ↓b_isProgram, ↓ite10, ↓if_pos, ↓if_neg, ↓ck_ix, ↓ck01, Int32.reduceToInt]
    · refine ⟨-1, τ, σ, ?_, ?_, Rl_s H⟩
      · simp (disch := first | omega | (simp only [i32_lt, i32_le, i32_eq, Int32.reduceToInt, Int.reduceEq, Int.reduceLT, Int.reduceLE, not_true, not_false_eq_true] <;> omega) | fail) only [c_X11_copy, ↓nm_t, ↓bp_s, ↓bd_s, ↓b_in, ↓b_isRate, ↓b_isSlot, ↓b_isMode, ↓b_isLaw, ↓b_isTape, ↓b_isTape12, ↓b_isProgram, ↓ite10, ↓if_pos, ↓if_neg, ↓ck_ix, ↓ck01, Int32.reduceToInt]
      · simp (disch := first | omega | (simp only [i32_lt, i32_le, i32_eq, Int32.reduceToInt, Int.reduceEq, Int.reduceLT, Int.reduceLE, not_true, not_false_eq_true] <;> omega) | fail) only [c_X12_copy, v_isTape12, ↓nm_t, ↓bp_s, ↓bd_s, ↓b_in, ↓b_isRate, ↓b_isSlot, ↓b_isMode, ↓b_isLaw, ↓b_isTape, ↓b_isTape12, ↓b_isProgram, ↓ite10, ↓if_pos, ↓if_neg, ↓ck_ix, ↓ck01, Int32.reduceToInt]
  · refine ⟨-1, τ, σ, ?_, ?_, Rl_s H⟩
    · simp (disch := first | omega | (simp only [i32_lt, i32_le, i32_eq, Int32.reduceToInt, Int.reduceEq, Int.reduceLT, Int.reduceLE, not_true, not_false_eq_true] <;> omega) | fail) only [c_X11_copy, ↓nm_t, ↓bp_s, ↓bd_s, ↓b_in, ↓b_isRate, ↓b_isSlot, ↓b_isMode, ↓b_isLaw, ↓b_isTape, ↓b_isTape12, ↓b_isProgram, ↓ite10, ↓if_pos, ↓if_neg, ↓ck_ix, ↓ck01, Int32.reduceToInt]
    · simp (disch := first | omega | (simp only [i32_lt, i32_le, i32_eq, Int32.reduceToInt, Int.reduceEq, Int.reduceLT, Int.reduceLE, not_true, not_false_eq_true] <;> omega) | fail) only [c_X12_copy, v_isTape12, ↓nm_t, ↓bp_s, ↓bd_s, ↓b_in, ↓b_isRate, ↓b_isSlot, ↓b_isMode, ↓b_isLaw, ↓b_isTape, ↓b_isTape12, ↓b_isProgram, ↓ite10, ↓if_pos, ↓if_neg, ↓ck_ix, ↓ck01, Int32.reduceToInt]
