theorem l_same : ∀ (d n : Nat) (v1 v2 v : Int32) (τ σ : Sg) {m : Nat}, Rprg τ σ → 0 ≤ v1.toInt ∧ v1.toInt ≤ 3 → 0 ≤ v2.toInt ∧ v2.toInt ≤ 3 → (gI τ (5 * v1.toNatClampNeg + 74) 4).toInt = m → m ≤ 20 → 0 ≤ v.toInt → v.toInt + d = m → d + 1 < n →
    ∃ r, (r = 0 ∨ r = 1) ∧ d_X6_hasActsOf_15 n (5 * v1.toNatClampNeg + 74) (5 * v2.toNatClampNeg + 74) v τ = some r ∧ d_X12_same_42 n v1 v2 1 v σ = some r := by
  intro d
  induction d with
  | zero =>
    intro n v1 v2 v τ σ m hp h1 h2 hm hm2 h3 h4 h5
    obtain ⟨n, rfl⟩ : ∃ k, n = k + 1 := ⟨n - 1, by omega⟩
    have n1 := nat0 h1.1
    have e := (hp.2.2.2 v1.toNatClampNeg (by omega)).1
    refine ⟨1, Or.inr rfl, ?_, ?_⟩
    · rw [d_X6_hasActsOf_15, if_pos (by rw [i32_le]; omega)]
    · rw [d_X12_same_42, ck_ix (by omega), e, if_pos (by rw [i32_le]; omega)]
      rfl
  | succ d ih =>
    intro n v1 v2 v τ σ m hp h1 h2 hm hm2 h3 h4 h5
    obtain ⟨n, rfl⟩ : ∃ k, n = k + 1 := ⟨n - 1, by omega⟩
    obtain ⟨c1, c2, c3⟩ := cnt1 (v := v) (m := 64) h3 (by omega) (by decide)
    have n1 := nat0 h1.1
    have n2 := nat0 h2.1
    obtain ⟨e1, -, -, e4, -⟩ := hp.2.2.2 v1.toNatClampNeg (by omega)
    obtain ⟨-, -, -, e5, -⟩ := hp.2.2.2 v2.toNatClampNeg (by omega)
    obtain ⟨a1, a2, a3, a4, -⟩ := e4 v.toNatClampNeg (by omega)
    obtain ⟨b1, b2, b3, b4, -⟩ := e5 v.toNatClampNeg (by omega)
    have hv : ix v 20 := ix_of h3 (by omega)
    obtain ⟨-, x2, x3⟩ := ix2 (c := 20) (m := 4) (k := 20) (v := v1) (w := v) (by decide) (ix_of h1.1 (by omega)) hv rfl (by decide)
    obtain ⟨-, y2, y3⟩ := ix2 (c := 20) (m := 4) (k := 20) (v := v2) (w := v) (by decide) (ix_of h2.1 (by omega)) hv rfl (by decide)
    have x3' : ix (20 * v1 + v) 80 := x3
    have y3' : ix (20 * v2 + v) 80 := y3
    have z : d_X12_same_147 (fun c3 c4 => d_X12_same_42 n v1 v2 c3 c4 σ) n v1 v2 v σ = some 0 := by
      obtain ⟨n, rfl⟩ : ∃ k, n = k + 1 := ⟨n - 1, by omega⟩
      unfold d_X12_same_147 d_X12_same_148
      rw [nm_t]
      show d_X12_same_42 (n + 1) v1 v2 0 (v + 1) σ = some 0
      rw [d_X12_same_42, ck_ix (by omega)]
      by_cases q : gI σ 136 v1.toNatClampNeg ≤ v + 1
      · rw [if_pos q]; rfl
      · rw [if_neg q, if_pos rfl]; rfl
    have hlt : ¬ gI τ (5 * v1.toNatClampNeg + 74) 4 ≤ v := by rw [i32_le]; omega
    rw [d_X6_hasActsOf_15, if_neg hlt, d_X12_same_42, ck_t (show ix v1 4 from ix_of h1.1 (by omega)), e1, if_neg hlt, if_neg (show ¬ (1 : Int32) = 0 by decide)]
    simp only [nm_t, ck_t hv, ck_t x3', ck_t y3', x2, y2, a1, a2, a3, a4, b1, b2, b3, b4]
    rw [z]
    by_cases q1 : gI τ (5 * v1.toNatClampNeg + 75) v.toNatClampNeg = gI τ (5 * v2.toNatClampNeg + 75) v.toNatClampNeg
    · rw [if_pos q1, if_pos q1]
      by_cases q2 : gI τ (5 * v1.toNatClampNeg + 76) v.toNatClampNeg = gI τ (5 * v2.toNatClampNeg + 76) v.toNatClampNeg
      · rw [if_pos q2, if_pos q2]
        by_cases q3 : gI τ (5 * v1.toNatClampNeg + 77) v.toNatClampNeg = gI τ (5 * v2.toNatClampNeg + 77) v.toNatClampNeg
        · rw [if_pos q3, if_pos q3]
          by_cases q4 : gI τ (5 * v1.toNatClampNeg + 78) v.toNatClampNeg = gI τ (5 * v2.toNatClampNeg + 78) v.toNatClampNeg
          · rw [if_pos q4, if_pos q4]
            exact ih n v1 v2 (v + 1) τ σ hp h1 h2 hm hm2 (by omega) (by omega) (by omega)
          · rw [if_neg q4, if_neg q4]; exact ⟨0, Or.inl rfl, rfl, rfl⟩
        · rw [if_neg q3, if_neg q3]; exact ⟨0, Or.inl rfl, rfl, rfl⟩
      · rw [if_neg q2, if_neg q2]; exact ⟨0, Or.inl rfl, rfl, rfl⟩
    · rw [if_neg q1, if_neg q1]; exact ⟨0, Or.inl rfl, rfl, rfl⟩
theorem s_same (n : Nat) (hn : 100 ≤ n) (a1 a2 : Int32) {c : Nat} {τ σ : Sg} (h : Rl c τ σ) : ∃ r, c_X11_same n a1 a2 τ = some r ∧ c_X12_same n a1 a2 σ = some r := by
  obtain ⟨⟨lt, ls, h0⟩, h1, h2, h3, h4, h5, h6, h7, h8⟩ := h
  have vp1 := v_isProgram12 h5 a1
  have vp2 := v_isProgram12 h5 a2
  unfold c_X11_same c_X12_same
  rw [v_isProgram, v_isProgram, vp1, vp2]
  simp only [bp_s, ite10]
  have g3 := h5.2.2.1
  by_cases q1 : 0 ≤ a1.toInt ∧ a1.toInt < (gI τ 4 8).toInt
  · rw [if_pos q1, if_pos q1]
    by_cases q2 : 0 ≤ a2.toInt ∧ a2.toInt < (gI τ 4 8).toInt
    · rw [if_pos q2, if_pos q2]
      have n1 := nat0 q1.1
      have n2 := nat0 q2.1
      obtain ⟨e1, e2, e3, -⟩ := h5.2.2.2 a1.toNatClampNeg (by omega)
      obtain ⟨f1, f2, f3, -⟩ := h5.2.2.2 a2.toNatClampNeg (by omega)
      have m1 := nat0 e2
      rw [ck_ix (by omega), ck_ix (by omega), ck_ix (by omega), ck_ix (by omega), e1, f1]
      unfold c_X6_hasActsOf d_X12_same_38
      by_cases q3 : gI τ (5 * a1.toNatClampNeg + 74) 4 = gI τ (5 * a2.toNatClampNeg + 74) 4
      · rw [if_pos q3, if_pos q3]
        obtain ⟨r, r1, r2, r3⟩ := l_same (gI τ (5 * a1.toNatClampNeg + 74) 4).toNatClampNeg n a1 a2 0 τ σ (m := (gI τ (5 * a1.toNatClampNeg + 74) 4).toNatClampNeg) h5 ⟨q1.1, by omega⟩ ⟨q2.1, by omega⟩ (by omega) (by omega) (by decide) (by simp only [Int32.reduceToInt]; omega) (by omega)
        rw [r2, r3, bp_s]
        rcases r1 with rfl | rfl
        · exact ⟨0, rfl, rfl⟩
        · exact ⟨1, rfl, rfl⟩
      · rw [if_neg q3, if_neg q3]
        obtain ⟨n, rfl⟩ : ∃ k, n = k + 1 := ⟨n - 1, by omega⟩
        refine ⟨0, rfl, ?_⟩
        rw [d_X12_same_42, ck_ix (by omega)]
        by_cases q : gI σ 136 a1.toNatClampNeg ≤ 0
        · rw [if_pos q]; rfl
        · rw [if_neg q, if_pos rfl]; rfl
    · rw [if_neg q2, if_neg q2]; exact ⟨-1, rfl, rfl⟩
  · rw [if_neg q1, if_neg q1]; exact ⟨-1, rfl, rfl⟩
