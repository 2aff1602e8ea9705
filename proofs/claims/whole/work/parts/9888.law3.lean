section LAW3
variable {L Z : Nat}
theorem law_step {n c : Nat} {v4 : Int32} {σ : Sg} (h : Lw L c Z σ) (hv : Wv L v4) (hn : 5000 ≤ n) (hc : c ≤ 600) (he : ¬ (Int32.ofNat (sK σ 0).2 - (6 : Int32)) < v4) : ∃ σ', Lw L (c + 1) Z σ' ∧ b_L_law_23 (n + 1) 0 4 130 168 v4 σ = b_L_law_23 n 0 4 130 168 (v4 + 6) σ' := by
  rw [b_L_law_23, ck_t (show okL σ 0 from (by decide : (0 : Nat) < 4)), if_neg he, ck_t (okv h.2.1 h.1.1.1 hv)]
  generalize gI σ 0 v4.toNatClampNeg &&& 63 = o
  by_cases q0 : o = 0
  · rw [if_pos q0]
    obtain ⟨σ', a, b⟩ := w_188 h hv hn hc
    exact ⟨σ', a, b _⟩
  rw [if_neg q0]
  by_cases q1 : o = 1
  · rw [if_pos q1]
    obtain ⟨σ', a, b⟩ := w_201 h hv hn hc
    exact ⟨σ', a, b _⟩
  rw [if_neg q1]
  by_cases q2 : o = 2
  · rw [if_pos q2]
    obtain ⟨σ', a, b⟩ := w_250 h hv hn hc
    exact ⟨σ', a, b _⟩
  rw [if_neg q2]
  by_cases q3 : o = 3
  · rw [if_pos q3]
    obtain ⟨σ', a, b⟩ := w_275 h hv hn hc
    exact ⟨σ', a, b _⟩
  rw [if_neg q3]
  by_cases q4 : o = 4
  · rw [if_pos q4]
    obtain ⟨σ', a, b⟩ := w_288 h hv hn hc
    exact ⟨σ', a, b _⟩
  rw [if_neg q4]
  by_cases q5 : o = 5
  · rw [if_pos q5]
    obtain ⟨σ', a, b⟩ := w_325 h hv hn hc
    exact ⟨σ', a, b _⟩
  rw [if_neg q5]
  by_cases q6 : o = 6
  · rw [if_pos q6]
    obtain ⟨σ', a, b⟩ := w_338 h hv hn hc
    exact ⟨σ', a, b _⟩
  rw [if_neg q6]
  by_cases q7 : o = 7
  · rw [if_pos q7]
    obtain ⟨σ', a, b⟩ := w_411 h hv hn hc
    exact ⟨σ', a, b _⟩
  rw [if_neg q7]
  by_cases q8 : o = 8
  · rw [if_pos q8]
    obtain ⟨σ', a, b⟩ := w_472 h hv hn hc
    exact ⟨σ', a, b _⟩
  rw [if_neg q8]
  by_cases q9 : o = 9
  · rw [if_pos q9]
    obtain ⟨σ', a, b⟩ := w_521 h hv hn hc
    exact ⟨σ', a, b _⟩
  rw [if_neg q9]
  by_cases q10 : o = 10
  · rw [if_pos q10]
    obtain ⟨σ', a, b⟩ := w_546 h hv hn hc
    exact ⟨σ', a, b _⟩
  rw [if_neg q10]
  by_cases q11 : o = 11
  · rw [if_pos q11]
    obtain ⟨σ', a, b⟩ := w_583 h hv hn hc
    exact ⟨σ', a, b _⟩
  rw [if_neg q11]
  by_cases q12 : o = 12
  · rw [if_pos q12]
    obtain ⟨σ', a, b⟩ := w_596 h hv hn hc
    exact ⟨σ', a, b _⟩
  rw [if_neg q12]
  by_cases q13 : o = 13
  · rw [if_pos q13]
    obtain ⟨σ', a, b⟩ := w_651 h hv hn hc
    exact ⟨σ', a, b _⟩
  rw [if_neg q13]
  by_cases q14 : o = 14
  · rw [if_pos q14]
    obtain ⟨σ', a, b⟩ := w_718 h hv hn hc
    exact ⟨σ', a, b _⟩
  rw [if_neg q14]
  by_cases q15 : o = 15
  · rw [if_pos q15]
    obtain ⟨σ', a, b⟩ := w_773 h hv hn hc
    exact ⟨σ', a, b _⟩
  rw [if_neg q15]
  by_cases q16 : o = 16
  · rw [if_pos q16]
    obtain ⟨σ', a, b⟩ := w_828 h hv hn hc
    exact ⟨σ', a, b _⟩
  rw [if_neg q16]
  by_cases q17 : o = 17
  · rw [if_pos q17]
    obtain ⟨σ', a, b⟩ := w_895 h hv hn hc
    exact ⟨σ', a, b _⟩
  rw [if_neg q17]
  by_cases q18 : o = 18
  · rw [if_pos q18]
    obtain ⟨σ', a, b⟩ := w_968 h hv hn hc
    exact ⟨σ', a, b _⟩
  rw [if_neg q18]
  by_cases q19 : o = 19
  · rw [if_pos q19]
    obtain ⟨σ', a, b⟩ := w_993 h hv hn hc
    exact ⟨σ', a, b _⟩
  rw [if_neg q19]
  by_cases q20 : o = 20
  · rw [if_pos q20]
    obtain ⟨σ', a, b⟩ := w_1097 h hv hn hc
    exact ⟨σ', a, b _⟩
  rw [if_neg q20]
  by_cases q21 : o = 21
  · rw [if_pos q21]
    obtain ⟨σ', a, b⟩ := w_1158 h hv hn hc
    exact ⟨σ', a, b _⟩
  rw [if_neg q21]
  by_cases q22 : o = 22
  · rw [if_pos q22]
    obtain ⟨σ', a, b⟩ := w_1195 h hv hn hc
    exact ⟨σ', a, b _⟩
  rw [if_neg q22]
  by_cases q23 : o = 23
  · rw [if_pos q23]
    obtain ⟨σ', a, b⟩ := w_1318 h hv hn hc
    exact ⟨σ', a, b _⟩
  rw [if_neg q23]
  by_cases q24 : o = 24
  · rw [if_pos q24]
    obtain ⟨σ', a, b⟩ := w_1367 h hv hn hc
    exact ⟨σ', a, b _⟩
  rw [if_neg q24]
  by_cases q25 : o = 25
  · rw [if_pos q25]
    obtain ⟨σ', a, b⟩ := w_1392 h hv hn hc
    exact ⟨σ', a, b _⟩
  rw [if_neg q25]
  by_cases q26 : o = 26
  · rw [if_pos q26]
    obtain ⟨σ', a, b⟩ := w_1417 h hv hn hc
    exact ⟨σ', a, b _⟩
  rw [if_neg q26]
  by_cases q27 : o = 27
  · rw [if_pos q27]
    obtain ⟨σ', a, b⟩ := w_1442 h hv hn hc
    exact ⟨σ', a, b _⟩
  rw [if_neg q27]
  by_cases q28 : o = 28
  · rw [if_pos q28]
    obtain ⟨σ', a, b⟩ := w_1491 h hv hn hc
    exact ⟨σ', a, b _⟩
  rw [if_neg q28]
  by_cases q29 : o = 29
  · rw [if_pos q29]
    obtain ⟨σ', a, b⟩ := w_1516 h hv hn hc
    exact ⟨σ', a, b _⟩
  rw [if_neg q29]
  by_cases q30 : o = 30
  · rw [if_pos q30]
    obtain ⟨σ', a, b⟩ := w_1597 h hv hn hc
    exact ⟨σ', a, b _⟩
  rw [if_neg q30]
  by_cases q31 : o = 31
  · rw [if_pos q31]
    obtain ⟨σ', a, b⟩ := w_1664 h hv hn hc
    exact ⟨σ', a, b _⟩
  rw [if_neg q31]
  by_cases q32 : o = 32
  · rw [if_pos q32]
    obtain ⟨σ', a, b⟩ := w_1737 h hv hn hc
    exact ⟨σ', a, b _⟩
  rw [if_neg q32]
  unfold b_L_law_1762
  exact ⟨σ, Lw_up h, rfl⟩
theorem ofn {m : Nat} (h : m ≤ 3072) : (Int32.ofNat m).toInt = m := Int32.toInt_ofNat_of_lt (by omega)
theorem law_loop : ∀ (d n c : Nat) (v4 : Int32) (σ : Sg), Lw L c Z σ → L ≤ 3072 → v4.toInt = 6 * c → c ≤ 512 → L < 6 * c + 6 * d + 6 → d + 5000 < n → ∃ σ', b_L_law_23 n 0 4 130 168 v4 σ = some (1, σ') ∧ sN σ' ≤ 169 + 513 ∧ sZ σ' ≤ Z + 6 * 513 := by
  intro d
  have o6 : (6 : Int32).toInt = 6 := rfl
  have stop : ∀ (n c : Nat) (v4 : Int32) (σ : Sg), Lw L c Z σ → L ≤ 3072 → v4.toInt = 6 * c → c ≤ 512 → L < 6 * c + 6 → ∃ σ', b_L_law_23 (n + 1) 0 4 130 168 v4 σ = some (1, σ') ∧ sN σ' ≤ 169 + 513 ∧ sZ σ' ≤ Z + 6 * 513 := by
    intro n c v4 σ h hL hv hc hd
    have e : (Int32.ofNat (sK σ 0).2 - (6 : Int32)).toInt = (L : Int) - 6 := by
      rw [h.2.1]
      show (Int32.ofNat L - 6).toInt = _
      rw [i32_sub (by rw [ofn hL, o6]; omega) (by rw [ofn hL, o6]; omega), ofn hL, o6]
    refine ⟨σ, ?_, by have := h.2.2.1; omega, by have := h.2.2.2; omega⟩
    rw [b_L_law_23, ck_t (show okL σ 0 from (by decide : (0 : Nat) < 4)), if_pos (by rw [i32_lt, e, hv]; omega)]
  induction d with
  | zero =>
    intro n c v4 σ h hL hv hc hd hn
    obtain ⟨n, rfl⟩ : ∃ k, n = k + 1 := ⟨n - 1, by omega⟩
    exact stop n c v4 σ h hL hv hc (by omega)
  | succ d ih =>
    intro n c v4 σ h hL hv hc hd hn
    obtain ⟨n, rfl⟩ : ∃ k, n = k + 1 := ⟨n - 1, by omega⟩
    by_cases q : L < 6 * c + 6
    · exact stop n c v4 σ h hL hv hc q
    · have e : (Int32.ofNat (sK σ 0).2 - (6 : Int32)).toInt = (L : Int) - 6 := by
        rw [h.2.1]
        show (Int32.ofNat L - 6).toInt = _
        rw [i32_sub (by rw [ofn hL, o6]; omega) (by rw [ofn hL, o6]; omega), ofn hL, o6]
      obtain ⟨σ', h', e'⟩ := law_step (n := n) (v4 := v4) h ⟨by omega, by omega, hL⟩ (by omega) (by omega) (by rw [i32_lt, e, hv]; omega)
      rw [e']
      refine ih n (c + 1) (v4 + 6) σ' h' hL ?_ (by omega) (by omega) (by omega)
      rw [i32_add (by rw [o6]; omega) (by rw [o6]; omega), o6, hv]
      omega
end LAW3
