theorem Rl_thr {c : Nat} {τ σ : Sg} (h : Rl c τ σ) (s : Int32) : Rl (c + 1) τ (pI σ 130 0 s) := by
  obtain ⟨⟨lt, ls, h0⟩, h1, h2, h3, h4, h5, h6, h7, h8⟩ := h
  have E : ∀ a, 0 ≤ a → Sm τ τ a := fun a ha => Sm_refl
  have E' : ∀ a, a ≠ 130 → Sm σ (pI σ 130 0 s) a := fun a ha => Sm_pI Sm_refl (by omega)
  exact ⟨⟨lt, ls, Rold_f h0 (fun a ha => E a (by omega))⟩, Rtab_f h1 (fun a ha => E a (by omega)) (fun a ha => E' a (by omega)), Rwts_f h2 (fun a ha => E a (by omega)) (fun a ha => E' a (by omega)), Rbil_f h3 (fun a ha => E a (by omega)) (E' 133 (by omega)) (by first | rfl | simp (disch := omega) only [gI_pI_s, gJ_pJ_s, gD_pD_s, gI_pJ, gI_pD, gJ_pI, gJ_pD, gD_pI, gD_pJ, gI_pI_a, gJ_pJ_a, gD_pD_a, gI_pI_k, gJ_pJ_k, gD_pD_k, gI_mI_i, gJ_mJ_i, gD_mD_i, gI_mJ, gI_mD, gJ_mI, gJ_mD, gD_mI, gD_mJ, gI_mI_a, gJ_mJ_a, gD_mD_a, gI_mI_o, gJ_mJ_o, gD_mD_o]), Rled_f h4 (Nat.le_succ _) (fun a ha => E a (by omega)) (E' 146 (by omega)) (by first | rfl | simp (disch := omega) only [gI_pI_s, gJ_pJ_s, gD_pD_s, gI_pJ, gI_pD, gJ_pI, gJ_pD, gD_pI, gD_pJ, gI_pI_a, gJ_pJ_a, gD_pD_a, gI_pI_k, gJ_pJ_k, gD_pD_k, gI_mI_i, gJ_mJ_i, gD_mD_i, gI_mJ, gI_mD, gJ_mI, gJ_mD, gD_mI, gD_mJ, gI_mI_a, gJ_mJ_a, gD_mD_a, gI_mI_o, gJ_mJ_o, gD_mD_o]), Rprg_f h5 (fun a ha => E a (by omega)) (fun a ha => E' a (by omega)) (by first | rfl | simp (disch := omega) only [gI_pI_s, gJ_pJ_s, gD_pD_s, gI_pJ, gI_pD, gJ_pI, gJ_pD, gD_pI, gD_pJ, gI_pI_a, gJ_pJ_a, gD_pD_a, gI_pI_k, gJ_pJ_k, gD_pD_k, gI_mI_i, gJ_mJ_i, gD_mD_i, gI_mJ, gI_mD, gJ_mI, gJ_mD, gD_mI, gD_mJ, gI_mI_a, gJ_mJ_a, gD_mD_a, gI_mI_o, gJ_mJ_o, gD_mD_o]) (by first | rfl | simp (disch := omega) only [gI_pI_s, gJ_pJ_s, gD_pD_s, gI_pJ, gI_pD, gJ_pI, gJ_pD, gD_pI, gD_pJ, gI_pI_a, gJ_pJ_a, gD_pD_a, gI_pI_k, gJ_pJ_k, gD_pD_k, gI_mI_i, gJ_mJ_i, gD_mD_i, gI_mJ, gI_mD, gJ_mI, gJ_mD, gD_mI, gD_mJ, gI_mI_a, gJ_mJ_a, gD_mD_a, gI_mI_o, gJ_mJ_o, gD_mD_o]), Rlst_f h6 (fun a ha => E a (by omega)) (fun a ha => E' a (by omega)) (by first | rfl | simp (disch := omega) only [gI_pI_s, gJ_pJ_s, gD_pD_s, gI_pJ, gI_pD, gJ_pI, gJ_pD, gD_pI, gD_pJ, gI_pI_a, gJ_pJ_a, gD_pD_a, gI_pI_k, gJ_pJ_k, gD_pD_k, gI_mI_i, gJ_mJ_i, gD_mD_i, gI_mJ, gI_mD, gJ_mI, gJ_mD, gD_mI, gD_mJ, gI_mI_a, gJ_mJ_a, gD_mD_a, gI_mI_o, gJ_mJ_o, gD_mD_o]) (by first | rfl | simp (disch := omega) only [gI_pI_s, gJ_pJ_s, gD_pD_s, gI_pJ, gI_pD, gJ_pI, gJ_pD, gD_pI, gD_pJ, gI_pI_a, gJ_pJ_a, gD_pD_a, gI_pI_k, gJ_pJ_k, gD_pD_k, gI_mI_i, gJ_mJ_i, gD_mD_i, gI_mJ, gI_mD, gJ_mI, gJ_mD, gD_mI, gD_mJ, gI_mI_a, gJ_mJ_a, gD_mD_a, gI_mI_o, gJ_mJ_o, gD_mD_o]), Rtap_f h7 (Nat.le_succ _) (fun a ha => E a (by omega)) (fun a ha => E' a (by omega)), Rmis_f h8 (by first | rfl | simp (disch := omega) only [gI_pI_s, gJ_pJ_s, gD_pD_s, gI_pJ, gI_pD, gJ_pI, gJ_pD, gD_pI, gD_pJ, gI_pI_a, gJ_pJ_a, gD_pD_a, gI_pI_k, gJ_pJ_k, gD_pD_k, gI_mI_i, gJ_mJ_i, gD_mD_i, gI_mJ, gI_mD, gJ_mI, gJ_mD, gD_mI, gD_mJ, gI_mI_a, gJ_mJ_a, gD_mD_a, gI_mI_o, gJ_mJ_o, gD_mD_o]) (by first | rfl | simp (disch := omega) only [gI_pI_s, gJ_pJ_s, gD_pD_s, gI_pJ, gI_pD, gJ_pI, gJ_pD, gD_pI, gD_pJ, gI_pI_a, gJ_pJ_a, gD_pD_a, gI_pI_k, gJ_pJ_k, gD_pD_k, gI_mI_i, gJ_mJ_i, gD_mD_i, gI_mJ, gI_mD, gJ_mI, gJ_mD, gD_mI, gD_mJ, gI_mI_a, gJ_mJ_a, gD_mD_a, gI_mI_o, gJ_mJ_o, gD_mD_o]) (by first | rfl | simp (disch := omega) only [gI_pI_s, gJ_pJ_s, gD_pD_s, gI_pJ, gI_pD, gJ_pI, gJ_pD, gD_pI, gD_pJ, gI_pI_a, gJ_pJ_a, gD_pD_a, gI_pI_k, gJ_pJ_k, gD_pD_k, gI_mI_i, gJ_mJ_i, gD_mD_i, gI_mJ, gI_mD, gJ_mI, gJ_mD, gD_mI, gD_mJ, gI_mI_a, gJ_mJ_a, gD_mD_a, gI_mI_o, gJ_mJ_o, gD_mD_o])⟩
theorem Sm_nw {σ : Sg} {a t n : Nat} (h : a < sN σ) : Sm σ (nw σ t n) a := ⟨by funext j; exact gI_nw_o h, by funext j; exact gJ_nw_o h, by funext j; exact gD_nw_o h⟩
theorem Rl_nw {c : Nat} {τ σ : Sg} (h : Rl c τ σ) : Rl c (nw τ 19 6) σ := by
  have l := h.1.1.1
  exact Rl_f h (Lay_nw h.1.1) h.1.2.1 (fun a ha => Sm_nw (by omega)) (fun a ha => Sm_refl)
/-- x was returned or thrown, and the reference says so with v and t -/
def RX (x : Int64 ⊕ String) (v : Int64) (t : Int32) : Prop := (x = .inl v ∧ t = 0) ∨ (x = .inr nIA ∧ t = 1) ∨ (x = .inr nIS ∧ t = 2)
theorem ref_t {σ : Sg} : c_X12_isRefused 1 σ = some (0, pI σ 130 0 0) := rfl
theorem ref_f {σ : Sg} : c_X12_isRefused 0 σ = some (1, pI σ 130 0 1) := rfl
theorem b_ref_t {β : Type} {σ : Sg} {k : Int32 → Sg → Option β} : bd (c_X12_isRefused 1 σ) k = k 0 (pI σ 130 0 0) := rfl
theorem b_ref_f {β : Type} {σ : Sg} {k : Int32 → Sg → Option β} : bd (c_X12_isRefused 0 σ) k = k 1 (pI σ 130 0 1) := rfl
theorem s_account (a : Int32) {c : Nat} {τ σ : Sg} (h : Rl c τ σ) : ∃ x v τ' σ', c_X11_account a τ = some (x, τ') ∧ c_X12_account a σ = some (v, σ') ∧ RX x v (gI σ' 130 0) ∧ Rl (c + 1) τ' σ' := by
  unfold c_X11_account c_X12_account d_X11_account_10
  rw [v_in, bp_s]
  simp only [i32_lt, Int32.reduceToInt]
  by_cases q : 0 ≤ a.toInt ∧ a.toInt ≤ 7
  · rw [if_pos q, ref_t, bd_s, if_pos rfl, if_neg (by omega), if_pos (by omega), ck_ix (by omega), ck_ix (by omega)]
    have n1 := nat0 q.1
    refine ⟨_, _, _, _, rfl, rfl, Or.inl ⟨?_, rfl⟩, Rl_thr h 0⟩
    rw [gJ_pI, h.2.2.2.2.1.2.2.2 a.toNatClampNeg (by omega)]
  · rw [if_neg q, ref_f, bd_s, if_neg (show ¬ (1 : Int32) = 0 by decide)]
    have e : (if a.toInt < 0 then some ((.inr nIA : Int64 ⊕ String), nw τ 19 6) else if a.toInt < 8 then ck (ix a 8) (some (.inl (gJ τ 17 a.toNatClampNeg), τ)) else some (.inr nIA, nw τ 19 6)) = some (.inr nIA, nw τ 19 6) := by
      by_cases q2 : a.toInt < 0
      · rw [if_pos q2]
      · rw [if_neg q2, if_neg (by omega)]
    rw [e]
    exact ⟨_, _, _, _, rfl, rfl, Or.inr (Or.inl ⟨rfl, rfl⟩), Rl_thr (Rl_nw h) 1⟩
theorem s_part (a : Int32) {c : Nat} {τ σ : Sg} (h : Rl c τ σ) : ∃ x v τ' σ', c_X11_part a τ = some (x, τ') ∧ c_X12_part a σ = some (v, σ') ∧ RX x v (gI σ' 130 0) ∧ Rl (c + 1) τ' σ' := by
  unfold c_X11_part c_X12_part d_X11_part_10
  rw [v_in, bp_s]
  simp only [i32_lt, Int32.reduceToInt]
  by_cases q : 0 ≤ a.toInt ∧ a.toInt ≤ 7
  · rw [if_pos q, ref_t, bd_s, if_pos rfl, if_neg (by omega), if_pos (by omega), ck_ix (by omega), ck_ix (by omega)]
    have n1 := nat0 q.1
    refine ⟨_, _, _, _, rfl, rfl, Or.inl ⟨?_, rfl⟩, Rl_thr h 0⟩
    rw [gJ_pI, (h.2.2.2.2.2.2.1.2.1 a.toNatClampNeg (by omega)).2.2.2.2]
  · rw [if_neg q, ref_f, bd_s, if_neg (show ¬ (1 : Int32) = 0 by decide)]
    have e : (if a.toInt < 0 then some ((.inr nIA : Int64 ⊕ String), nw τ 19 6) else if a.toInt < 8 then ck (ix a 8) (some (.inl (gJ τ 26 a.toNatClampNeg), τ)) else some (.inr nIA, nw τ 19 6)) = some (.inr nIA, nw τ 19 6) := by
      by_cases q2 : a.toInt < 0
      · rw [if_pos q2]
      · rw [if_neg q2, if_neg (by omega)]
    rw [e]
    exact ⟨_, _, _, _, rfl, rfl, Or.inr (Or.inl ⟨rfl, rfl⟩), Rl_thr (Rl_nw h) 1⟩
theorem s_got (a : Int32) {c : Nat} {τ σ : Sg} (h : Rl c τ σ) : ∃ x v τ' σ', c_X11_got a τ = some (x, τ') ∧ c_X12_got a σ = some (v, σ') ∧ RX x v (gI σ' 130 0) ∧ Rl (c + 1) τ' σ' := by
  unfold c_X11_got c_X12_got d_X11_got_10
  rw [v_in, bp_s]
  simp only [i32_lt, Int32.reduceToInt]
  by_cases q : 0 ≤ a.toInt ∧ a.toInt ≤ 11
  · rw [if_pos q, ref_t, bd_s, if_pos rfl, if_neg (by omega), if_pos (by omega), ck_ix (by omega), ck_ix (by omega)]
    have n1 := nat0 q.1
    refine ⟨_, _, _, _, rfl, rfl, Or.inl ⟨?_, rfl⟩, Rl_thr h 0⟩
    rw [gJ_pI, h.2.2.2.2.2.2.1.2.2 a.toNatClampNeg (by omega)]
  · rw [if_neg q, ref_f, bd_s, if_neg (show ¬ (1 : Int32) = 0 by decide)]
    have e : (if a.toInt < 0 then some ((.inr nIA : Int64 ⊕ String), nw τ 19 6) else if a.toInt < 12 then ck (ix a 12) (some (.inl (gJ τ 32 a.toNatClampNeg), τ)) else some (.inr nIA, nw τ 19 6)) = some (.inr nIA, nw τ 19 6) := by
      by_cases q2 : a.toInt < 0
      · rw [if_pos q2]
      · rw [if_neg q2, if_neg (by omega)]
    rw [e]
    exact ⟨_, _, _, _, rfl, rfl, Or.inr (Or.inl ⟨rfl, rfl⟩), Rl_thr (Rl_nw h) 1⟩
theorem s_slot (a b : Int32) {c : Nat} {τ σ : Sg} (h : Rl c τ σ) : ∃ x v τ' σ', c_X11_slot a b τ = some (x, τ') ∧ c_X12_slot a b σ = some (v, σ') ∧ RX x v (gI σ' 130 0) ∧ Rl (c + 1) τ' σ' := by
  by_cases q : 0 ≤ a.toInt ∧ a.toInt ≤ 7
  · have n1 := nat0 q.1
    obtain ⟨g1, g2, g3, g4, g5⟩ := h.2.2.2.2.2.2.1.2.1 a.toNatClampNeg (by omega)
    by_cases q2 : 0 ≤ b.toInt ∧ b.toInt ≤ 2
    · by_cases q3 : b.toInt = 2
      · have e1 : c_X11_slot a b τ = if gI τ 31 a.toNatClampNeg = 0 then some (.inl 0, τ) else some (.inl 1, τ) := by
          simp (disch := first | omega | (simp only [i32_lt, i32_le, i32_eq, Int32.reduceToInt, Int.reduceEq, Int.reduceLT, Int.reduceLE, not_true, not_false_eq_true] <;> omega) | fail) only [c_X11_slot, ↓nm_t, ↓bp_s, ↓bd_s, ↓b_in, ↓b_isRate, ↓b_isSlot, ↓b_isMode, ↓b_isLaw, ↓b_isTape, ↓b_isTape12, ↓b_isProgram, ↓ite10, ↓if_pos, ↓if_neg, ↓ck_ix, ↓ck01, Int32.reduceToInt]
        have cm : c_X12_slot a b σ = if gI (pI σ 130 0 0) 149 a.toNatClampNeg = 0 then some (0, pI σ 130 0 0) else some (1, pI σ 130 0 0) := by
          simp (disch := first | omega | (simp only [i32_lt, i32_le, i32_eq, Int32.reduceToInt, Int.reduceEq, Int.reduceLT, Int.reduceLE, not_true, not_false_eq_true] <;> omega) | fail) only [c_X12_slot, d_X12_slot_25, ↓b_ref_t, ↓nm_t, ↓bp_s, ↓bd_s, ↓b_in, ↓b_isRate, ↓b_isSlot, ↓b_isMode, ↓b_isLaw, ↓b_isTape, ↓b_isTape12, ↓b_isProgram, ↓ite10, ↓if_pos, ↓if_neg, ↓ck_ix, ↓ck01, Int32.reduceToInt]
        rw [e1, cm, gI_pI_a (by decide), g3]
        rcases g4 with g4 | g4
        · rw [g4, if_pos rfl, if_pos rfl]
          exact ⟨_, _, _, _, rfl, rfl, Or.inl ⟨rfl, rfl⟩, Rl_thr h 0⟩
        · rw [g4, if_neg (by decide), if_neg (by decide)]
          exact ⟨_, _, _, _, rfl, rfl, Or.inl ⟨rfl, rfl⟩, Rl_thr h 0⟩
      · by_cases q4 : b.toInt = 0
        · have e1 : c_X11_slot a b τ = some (.inl (gJ τ 29 a.toNatClampNeg), τ) := by
            simp (disch := first | omega | (simp only [i32_lt, i32_le, i32_eq, Int32.reduceToInt, Int.reduceEq, Int.reduceLT, Int.reduceLE, not_true, not_false_eq_true] <;> omega) | fail) only [c_X11_slot, ↓nm_t, ↓bp_s, ↓bd_s, ↓b_in, ↓b_isRate, ↓b_isSlot, ↓b_isMode, ↓b_isLaw, ↓b_isTape, ↓b_isTape12, ↓b_isProgram, ↓ite10, ↓if_pos, ↓if_neg, ↓ck_ix, ↓ck01, Int32.reduceToInt]
          have cm : c_X12_slot a b σ = some (gJ (pI σ 130 0 0) 142 a.toNatClampNeg, pI σ 130 0 0) := by
            simp (disch := first | omega | (simp only [i32_lt, i32_le, i32_eq, Int32.reduceToInt, Int.reduceEq, Int.reduceLT, Int.reduceLE, not_true, not_false_eq_true] <;> omega) | fail) only [c_X12_slot, d_X12_slot_25, ↓b_ref_t, ↓nm_t, ↓bp_s, ↓bd_s, ↓b_in, ↓b_isRate, ↓b_isSlot, ↓b_isMode, ↓b_isLaw, ↓b_isTape, ↓b_isTape12, ↓b_isProgram, ↓ite10, ↓if_pos, ↓if_neg, ↓ck_ix, ↓ck01, Int32.reduceToInt]
          rw [e1, cm, gJ_pI, g1]
          exact ⟨_, _, _, _, rfl, rfl, Or.inl ⟨rfl, rfl⟩, Rl_thr h 0⟩
        · have e1 : c_X11_slot a b τ = some (.inl (gJ τ 30 a.toNatClampNeg), τ) := by
            simp (disch := first | omega | (simp only [i32_lt, i32_le, i32_eq, Int32.reduceToInt, Int.reduceEq, Int.reduceLT, Int.reduceLE, not_true, not_false_eq_true] <;> omega) | fail) only [c_X11_slot, ↓nm_t, ↓bp_s, ↓bd_s, ↓b_in, ↓b_isRate, ↓b_isSlot, ↓b_isMode, ↓b_isLaw, ↓b_isTape, ↓b_isTape12, ↓b_isProgram, ↓ite10, ↓if_pos, ↓if_neg, ↓ck_ix, ↓ck01, Int32.reduceToInt]
          have cm : c_X12_slot a b σ = some (gJ (pI σ 130 0 0) 143 a.toNatClampNeg, pI σ 130 0 0) := by
            simp (disch := first | omega | (simp only [i32_lt, i32_le, i32_eq, Int32.reduceToInt, Int.reduceEq, Int.reduceLT, Int.reduceLE, not_true, not_false_eq_true] <;> omega) | fail) only [c_X12_slot, d_X12_slot_25, ↓b_ref_t, ↓nm_t, ↓bp_s, ↓bd_s, ↓b_in, ↓b_isRate, ↓b_isSlot, ↓b_isMode, ↓b_isLaw, ↓b_isTape, ↓b_isTape12, ↓b_isProgram, ↓ite10, ↓if_pos, ↓if_neg, ↓ck_ix, ↓ck01, Int32.reduceToInt]
          rw [e1, cm, gJ_pI, g2]
          exact ⟨_, _, _, _, rfl, rfl, Or.inl ⟨rfl, rfl⟩, Rl_thr h 0⟩
    · have cm : c_X12_slot a b σ = some (0, pI σ 130 0 1) := by
        simp (disch := first | omega | (simp only [i32_lt, i32_le, i32_eq, Int32.reduceToInt, Int.reduceEq, Int.reduceLT, Int.reduceLE, not_true, not_false_eq_true] <;> omega) | fail) only [c_X12_slot, d_X12_slot_24, d_X12_slot_25, ↓b_ref_f, ↓nm_t, ↓bp_s, ↓bd_s, ↓b_in, ↓b_isRate, ↓b_isSlot, ↓b_isMode, ↓b_isLaw, ↓b_isTape, ↓b_isTape12, ↓b_isProgram, ↓ite10, ↓if_pos, ↓if_neg, ↓ck_ix, ↓ck01, Int32.reduceToInt]
      have e1 : c_X11_slot a b τ = some (.inr nIA, nw τ 19 6) := by
        rcases (by omega : b.toInt < 0 ∨ 2 < b.toInt) with q | q
        · simp (disch := first | omega | (simp only [i32_lt, i32_le, i32_eq, Int32.reduceToInt, Int.reduceEq, Int.reduceLT, Int.reduceLE, not_true, not_false_eq_true] <;> omega) | fail) only [c_X11_slot, d_X11_slot_16, ↓nm_t, ↓bp_s, ↓bd_s, ↓b_in, ↓b_isRate, ↓b_isSlot, ↓b_isMode, ↓b_isLaw, ↓b_isTape, ↓b_isTape12, ↓b_isProgram, ↓ite10, ↓if_pos, ↓if_neg, ↓ck_ix, ↓ck01, Int32.reduceToInt]
        · simp (disch := first | omega | (simp only [i32_lt, i32_le, i32_eq, Int32.reduceToInt, Int.reduceEq, Int.reduceLT, Int.reduceLE, not_true, not_false_eq_true] <;> omega) | fail) only [c_X11_slot, d_X11_slot_16, ↓nm_t, ↓bp_s, ↓bd_s, ↓b_in, ↓b_isRate, ↓b_isSlot, ↓b_isMode, ↓b_isLaw, ↓b_isTape, ↓b_isTape12, ↓b_isProgram, ↓ite10, ↓if_pos, ↓if_neg, ↓ck_ix, ↓ck01, Int32.reduceToInt]
      rw [cm, e1]
      exact ⟨_, _, _, _, rfl, rfl, Or.inr (Or.inl ⟨rfl, rfl⟩), Rl_thr (Rl_nw h) 1⟩
  · have cm : c_X12_slot a b σ = some (0, pI σ 130 0 1) := by
      simp (disch := first | omega | (simp only [i32_lt, i32_le, i32_eq, Int32.reduceToInt, Int.reduceEq, Int.reduceLT, Int.reduceLE, not_true, not_false_eq_true] <;> omega) | fail) only [c_X12_slot, d_X12_slot_24, d_X12_slot_25, ↓b_ref_f, ↓nm_t, ↓bp_s, ↓bd_s, ↓b_in, ↓b_isRate, ↓b_isSlot, ↓b_isMode, ↓b_isLaw, ↓b_isTape, ↓b_isTape12, ↓b_isProgram, ↓ite10, ↓if_pos, ↓if_neg, ↓ck_ix, ↓ck01, Int32.reduceToInt]
    have e1 : c_X11_slot a b τ = some (.inr nIA, nw τ 19 6) := by
      simp (disch := first | omega | (simp only [i32_lt, i32_le, i32_eq, Int32.reduceToInt, Int.reduceEq, Int.reduceLT, Int.reduceLE, not_true, not_false_eq_true] <;> omega) | fail) only [c_X11_slot, d_X11_slot_16, ↓nm_t, ↓bp_s, ↓bd_s, ↓b_in, ↓b_isRate, ↓b_isSlot, ↓b_isMode, ↓b_isLaw, ↓b_isTape, ↓b_isTape12, ↓b_isProgram, ↓ite10, ↓if_pos, ↓if_neg, ↓ck_ix, ↓ck01, Int32.reduceToInt]
    rw [cm, e1]
    exact ⟨_, _, _, _, rfl, rfl, Or.inr (Or.inl ⟨rfl, rfl⟩), Rl_thr (Rl_nw h) 1⟩
theorem s_carried (a b : Int32) {c : Nat} {τ σ : Sg} (h : Rl c τ σ) : ∃ x v τ' σ', c_X11_carried a b τ = some (x, τ') ∧ c_X12_carried a b σ = some (v, σ') ∧ RX x v (gI σ' 130 0) ∧ Rl (c + 1) τ' σ' := by
  have h5 := h.2.2.2.2.2.1
  have vp := v_isProgram12 h5 a
  have g3 := h5.2.2.1
  by_cases q : 0 ≤ a.toInt ∧ a.toInt < (gI τ 4 8).toInt
  · have n1 := nat0 q.1
    obtain ⟨g1, g2, -⟩ := (h5.2.2.2 a.toNatClampNeg (by omega)).2.2.2.2 (by omega)
    by_cases q2 : 0 ≤ b.toInt ∧ b.toInt ≤ 1
    · by_cases q4 : b.toInt = 0
      · have e1 : c_X11_carried a b τ = some (.inl (gJ τ (5 * a.toNatClampNeg + 74) 5), τ) := by
          simp (disch := first | omega | (simp only [i32_lt, i32_le, i32_eq, Int32.reduceToInt, Int.reduceEq, Int.reduceLT, Int.reduceLE, not_true, not_false_eq_true] <;> omega) | fail) only [c_X11_carried, ↓nm_t, ↓bp_s, ↓bd_s, ↓b_in, ↓b_isRate, ↓b_isSlot, ↓b_isMode, ↓b_isLaw, ↓b_isTape, ↓b_isTape12, ↓b_isProgram, ↓ite10, ↓if_pos, ↓if_neg, ↓ck_ix, ↓ck01, Int32.reduceToInt]
        have cm : c_X12_carried a b σ = some (gJ (pI σ 130 0 0) 147 a.toNatClampNeg, pI σ 130 0 0) := by
          simp (disch := first | omega | (simp only [i32_lt, i32_le, i32_eq, Int32.reduceToInt, Int.reduceEq, Int.reduceLT, Int.reduceLE, not_true, not_false_eq_true] <;> omega) | fail) only [c_X12_carried, d_X12_carried_23, ↓bp_t vp, ↓b_ref_t, ↓nm_t, ↓bp_s, ↓bd_s, ↓b_in, ↓b_isRate, ↓b_isSlot, ↓b_isMode, ↓b_isLaw, ↓b_isTape, ↓b_isTape12, ↓b_isProgram, ↓ite10, ↓if_pos, ↓if_neg, ↓ck_ix, ↓ck01, Int32.reduceToInt]
        rw [e1, cm, gJ_pI, g1]
        exact ⟨_, _, _, _, rfl, rfl, Or.inl ⟨rfl, rfl⟩, Rl_thr h 0⟩
      · have e1 : c_X11_carried a b τ = some (.inl (gJ τ (5 * a.toNatClampNeg + 74) 6), τ) := by
          simp (disch := first | omega | (simp only [i32_lt, i32_le, i32_eq, Int32.reduceToInt, Int.reduceEq, Int.reduceLT, Int.reduceLE, not_true, not_false_eq_true] <;> omega) | fail) only [c_X11_carried, ↓nm_t, ↓bp_s, ↓bd_s, ↓b_in, ↓b_isRate, ↓b_isSlot, ↓b_isMode, ↓b_isLaw, ↓b_isTape, ↓b_isTape12, ↓b_isProgram, ↓ite10, ↓if_pos, ↓if_neg, ↓ck_ix, ↓ck01, Int32.reduceToInt]
        have cm : c_X12_carried a b σ = some (gJ (pI σ 130 0 0) 148 a.toNatClampNeg, pI σ 130 0 0) := by
          simp (disch := first | omega | (simp only [i32_lt, i32_le, i32_eq, Int32.reduceToInt, Int.reduceEq, Int.reduceLT, Int.reduceLE, not_true, not_false_eq_true] <;> omega) | fail) only [c_X12_carried, d_X12_carried_23, ↓bp_t vp, ↓b_ref_t, ↓nm_t, ↓bp_s, ↓bd_s, ↓b_in, ↓b_isRate, ↓b_isSlot, ↓b_isMode, ↓b_isLaw, ↓b_isTape, ↓b_isTape12, ↓b_isProgram, ↓ite10, ↓if_pos, ↓if_neg, ↓ck_ix, ↓ck01, Int32.reduceToInt]
        rw [e1, cm, gJ_pI, g2]
        exact ⟨_, _, _, _, rfl, rfl, Or.inl ⟨rfl, rfl⟩, Rl_thr h 0⟩
    · have cm : c_X12_carried a b σ = some (0, pI σ 130 0 1) := by
        simp (disch := first | omega | (simp only [i32_lt, i32_le, i32_eq, Int32.reduceToInt, Int.reduceEq, Int.reduceLT, Int.reduceLE, not_true, not_false_eq_true] <;> omega) | fail) only [c_X12_carried, d_X12_carried_22, d_X12_carried_23, ↓bp_t vp, ↓b_ref_f, ↓nm_t, ↓bp_s, ↓bd_s, ↓b_in, ↓b_isRate, ↓b_isSlot, ↓b_isMode, ↓b_isLaw, ↓b_isTape, ↓b_isTape12, ↓b_isProgram, ↓ite10, ↓if_pos, ↓if_neg, ↓ck_ix, ↓ck01, Int32.reduceToInt]
      have e1 : c_X11_carried a b τ = some (.inr nIA, nw τ 19 6) := by
        rcases (by omega : b.toInt < 0 ∨ 1 < b.toInt) with q | q
        · simp (disch := first | omega | (simp only [i32_lt, i32_le, i32_eq, Int32.reduceToInt, Int.reduceEq, Int.reduceLT, Int.reduceLE, not_true, not_false_eq_true] <;> omega) | fail) only [c_X11_carried, d_X11_carried_17, ↓nm_t, ↓bp_s, ↓bd_s, ↓b_in, ↓b_isRate, ↓b_isSlot, ↓b_isMode, ↓b_isLaw, ↓b_isTape, ↓b_isTape12, ↓b_isProgram, ↓ite10, ↓if_pos, ↓if_neg, ↓ck_ix, ↓ck01, Int32.reduceToInt]
        · simp (disch := first | omega | (simp only [i32_lt, i32_le, i32_eq, Int32.reduceToInt, Int.reduceEq, Int.reduceLT, Int.reduceLE, not_true, not_false_eq_true] <;> omega) | fail) only [c_X11_carried, d_X11_carried_17, ↓nm_t, ↓bp_s, ↓bd_s, ↓b_in, ↓b_isRate, ↓b_isSlot, ↓b_isMode, ↓b_isLaw, ↓b_isTape, ↓b_isTape12, ↓b_isProgram, ↓ite10, ↓if_pos, ↓if_neg, ↓ck_ix, ↓ck01, Int32.reduceToInt]
      rw [cm, e1]
      exact ⟨_, _, _, _, rfl, rfl, Or.inr (Or.inl ⟨rfl, rfl⟩), Rl_thr (Rl_nw h) 1⟩
  · have cm : c_X12_carried a b σ = some (0, pI σ 130 0 1) := by
      simp (disch := first | omega | (simp only [i32_lt, i32_le, i32_eq, Int32.reduceToInt, Int.reduceEq, Int.reduceLT, Int.reduceLE, not_true, not_false_eq_true] <;> omega) | fail) only [c_X12_carried, d_X12_carried_22, d_X12_carried_23, ↓bp_t vp, ↓b_ref_f, ↓nm_t, ↓bp_s, ↓bd_s, ↓b_in, ↓b_isRate, ↓b_isSlot, ↓b_isMode, ↓b_isLaw, ↓b_isTape, ↓b_isTape12, ↓b_isProgram, ↓ite10, ↓if_pos, ↓if_neg, ↓ck_ix, ↓ck01, Int32.reduceToInt]
    have e1 : c_X11_carried a b τ = some (.inr nIA, nw τ 19 6) := by
      simp (disch := first | omega | (simp only [i32_lt, i32_le, i32_eq, Int32.reduceToInt, Int.reduceEq, Int.reduceLT, Int.reduceLE, not_true, not_false_eq_true] <;> omega) | fail) only [c_X11_carried, d_X11_carried_17, ↓nm_t, ↓bp_s, ↓bd_s, ↓b_in, ↓b_isRate, ↓b_isSlot, ↓b_isMode, ↓b_isLaw, ↓b_isTape, ↓b_isTape12, ↓b_isProgram, ↓ite10, ↓if_pos, ↓if_neg, ↓ck_ix, ↓ck01, Int32.reduceToInt]
    rw [cm, e1]
    exact ⟨_, _, _, _, rfl, rfl, Or.inr (Or.inl ⟨rfl, rfl⟩), Rl_thr (Rl_nw h) 1⟩
theorem s_at (a b : Int32) {c : Nat} {τ σ : Sg} (h : Rl c τ σ) : ∃ x v τ' σ', c_X11_at a b τ = some (x, τ') ∧ c_X12_at a b σ = some (v, σ') ∧ RX x v (gI σ' 130 0) ∧ Rl (c + 1) τ' σ' := by
  have h7 := h.2.2.2.2.2.2.2.1
  by_cases q1 : 0 ≤ a.toInt ∧ a.toInt ≤ 5
  · obtain ⟨hx, hd, hn'⟩ := Rtap_g h7 q1
    obtain ⟨t1, t2, t3, t4, t5, t6, t7, -⟩ := h7 _ hd
    have p1 := v_hasPlaces (i := b) (n := 1) t5
    simp only [Int32.reduceToInt] at p1
    have e1 : (gI τ (6 * a.toNatClampNeg + 94) 6 - 1).toInt = (gI τ (6 * a.toNatClampNeg + 94) 6).toInt - 1 := i32_sub (by simp only [Int32.reduceToInt]; omega) (by simp only [Int32.reduceToInt]; omega)
    have two : d_X12_at_47 a b σ = some (0, pI σ 130 0 2) := rfl
    by_cases q2 : (gI τ (6 * a.toNatClampNeg + 94) 0).toInt = 0
    · have e1 : c_X11_at a b τ = some (.inr nIS, nw τ 19 6) := by
        simp (disch := first | omega | (simp only [i32_lt, i32_le, i32_eq, Int32.reduceToInt, Int.reduceEq, Int.reduceLT, Int.reduceLE, not_true, not_false_eq_true] <;> omega) | fail) only [c_X11_at, c_X9_isRow, d_X9_isRow_19, d_X11_at_44, ↓nm_t, ↓bp_s, ↓bd_s, ↓b_in, ↓b_isRate, ↓b_isSlot, ↓b_isMode, ↓b_isLaw, ↓b_isTape, ↓b_isTape12, ↓b_isProgram, ↓ite10, ↓if_pos, ↓if_neg, ↓ck_ix, ↓ck01, Int32.reduceToInt]
      have cm : c_X12_at a b σ = some (0, pI σ 130 0 2) := by
        rw [c_X12_at, v_isTape12, bp_s, ite10, if_pos q1, ck_t hx, t1, if_pos (by rw [i32_eq]; exact q2), two]
      rw [cm, e1]
      exact ⟨_, _, _, _, rfl, rfl, Or.inr (Or.inr ⟨rfl, rfl⟩), Rl_thr (Rl_nw h) 2⟩
    · have z2 : ¬ gI τ (6 * a.toNatClampNeg + 94) 0 = 0 := by rw [i32_eq]; exact q2
      by_cases q3 : (gI τ (6 * a.toNatClampNeg + 94) 0).toInt = 5
      · have z3 : gI τ (6 * a.toNatClampNeg + 94) 0 = 5 := by rw [i32_eq]; exact q3
        have e1 : c_X11_at a b τ = some (.inr nIS, nw τ 19 6) := by
          simp (disch := first | omega | (simp only [i32_lt, i32_le, i32_eq, Int32.reduceToInt, Int.reduceEq, Int.reduceLT, Int.reduceLE, not_true, not_false_eq_true] <;> omega) | fail) only [c_X11_at, c_X9_isRow, d_X9_isRow_19, d_X11_at_44, ↓nm_t, ↓bp_s, ↓bd_s, ↓b_in, ↓b_isRate, ↓b_isSlot, ↓b_isMode, ↓b_isLaw, ↓b_isTape, ↓b_isTape12, ↓b_isProgram, ↓ite10, ↓if_pos, ↓if_neg, ↓ck_ix, ↓ck01, Int32.reduceToInt]
        have cm : c_X12_at a b σ = some (0, pI σ 130 0 2) := by
          rw [c_X12_at, v_isTape12, bp_s, ite10, if_pos q1, ck_t hx, t1, if_neg z2, ck_t hx, if_pos z3, two]
        rw [cm, e1]
        exact ⟨_, _, _, _, rfl, rfl, Or.inr (Or.inr ⟨rfl, rfl⟩), Rl_thr (Rl_nw h) 2⟩
      · have z3 : ¬ gI τ (6 * a.toNatClampNeg + 94) 0 = 5 := by rw [i32_eq]; exact q3
        by_cases q4 : 0 ≤ b.toInt ∧ b.toInt + 1 ≤ (gI τ (6 * a.toNatClampNeg + 94) 6).toInt
        · have n2 := nat0 q4.1
          obtain ⟨-, x2, x3⟩ := ix2 (c := 64) (m := 6) (k := 64) (v := a) (w := b) (by decide) hx (ix_of q4.1 (by omega)) rfl (by decide)
          have x3' : ix (64 * a + b) 384 := x3
          have ec : c_X11_at a b τ = some (.inl (gJ τ (6 * a.toNatClampNeg + 95) b.toNatClampNeg), τ) := by
            simp (disch := first | omega | (simp only [i32_lt, i32_le, i32_eq, Int32.reduceToInt, Int.reduceEq, Int.reduceLT, Int.reduceLE, not_true, not_false_eq_true] <;> omega) | fail) only [c_X11_at, c_X9_isRow, ↓bp_t p1, ↓nm_t, ↓bp_s, ↓bd_s, ↓b_in, ↓b_isRate, ↓b_isSlot, ↓b_isMode, ↓b_isLaw, ↓b_isTape, ↓b_isTape12, ↓b_isProgram, ↓ite10, ↓if_pos, ↓if_neg, ↓ck_ix, ↓ck01, Int32.reduceToInt]
          have cm : c_X12_at a b σ = some (gJ (pI σ 130 0 0) 152 (64 * a + b).toNatClampNeg, pI σ 130 0 0) := by
            rw [c_X12_at, v_isTape12, bp_s, ite10, if_pos q1, ck_t hx, t1, if_neg z2, ck_t hx, if_neg z3, ck_t hx, v_in, bp_s, ite10, t4, e1, if_pos (by simp only [Int32.reduceToInt]; omega)]
            unfold d_X12_at_52
            rw [nm_t, gI_pI_s, if_pos rfl, ck_t x3']
          rw [cm, ec, gJ_pI, x2, t7 _ (by omega)]
          exact ⟨_, _, _, _, rfl, rfl, Or.inl ⟨rfl, rfl⟩, Rl_thr h 0⟩
        · have ec : c_X11_at a b τ = some (.inr nIS, nw τ 19 6) := by
            simp (disch := first | omega | (simp only [i32_lt, i32_le, i32_eq, Int32.reduceToInt, Int.reduceEq, Int.reduceLT, Int.reduceLE, not_true, not_false_eq_true] <;> omega) | fail) only [c_X11_at, c_X9_isRow, d_X11_at_44, ↓bp_t p1, ↓nm_t, ↓bp_s, ↓bd_s, ↓b_in, ↓b_isRate, ↓b_isSlot, ↓b_isMode, ↓b_isLaw, ↓b_isTape, ↓b_isTape12, ↓b_isProgram, ↓ite10, ↓if_pos, ↓if_neg, ↓ck_ix, ↓ck01, Int32.reduceToInt]
          have cm : c_X12_at a b σ = some (0, pI σ 130 0 2) := by
            rw [c_X12_at, v_isTape12, bp_s, ite10, if_pos q1, ck_t hx, t1, if_neg z2, ck_t hx, if_neg z3, ck_t hx, v_in, bp_s, ite10, t4, e1, if_neg (by simp only [Int32.reduceToInt]; omega), two]
          rw [cm, ec]
          exact ⟨_, _, _, _, rfl, rfl, Or.inr (Or.inr ⟨rfl, rfl⟩), Rl_thr (Rl_nw h) 2⟩
  · have e1 : c_X11_at a b τ = some (.inr nIA, nw τ 19 6) := by
      simp (disch := first | omega | (simp only [i32_lt, i32_le, i32_eq, Int32.reduceToInt, Int.reduceEq, Int.reduceLT, Int.reduceLE, not_true, not_false_eq_true] <;> omega) | fail) only [c_X11_at, ↓nm_t, ↓bp_s, ↓bd_s, ↓b_in, ↓b_isRate, ↓b_isSlot, ↓b_isMode, ↓b_isLaw, ↓b_isTape, ↓b_isTape12, ↓b_isProgram, ↓ite10, ↓if_pos, ↓if_neg, ↓ck_ix, ↓ck01, Int32.reduceToInt]
    have cm : c_X12_at a b σ = some (0, pI σ 130 0 1) := by
      rw [c_X12_at, v_isTape12, bp_s, ite10, if_neg q1]
      rfl
    rw [cm, e1]
    exact ⟨_, _, _, _, rfl, rfl, Or.inr (Or.inl ⟨rfl, rfl⟩), Rl_thr (Rl_nw h) 1⟩
