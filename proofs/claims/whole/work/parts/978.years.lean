section YEARS
variable {p : Nat} {P : Int32}
theorem s_run (n : Nat) (hn : 1000 ≤ n) (a : Int32) {c : Nat} {τ σ : Sg} (hcc : c ≤ 600) (h : Rl c τ σ) : ∃ r τ' σ', c_X11_run n a τ = some (r, τ') ∧ c_X12_run n a σ = some (r, σ') ∧ Rl (c + 1) τ' σ' := by
  have H := h
  have h5 := h.2.2.2.2.2.1
  have vp := v_isProgram12 h5 a
  unfold c_X11_run c_X12_run
  rw [v_isProgram, vp]
  simp only [bp_s, ite10]
  by_cases q : 0 ≤ a.toInt ∧ a.toInt < (gI τ 4 8).toInt
  · rw [if_pos q, if_pos q]
    have na := nat0 q.1
    have g3 := h5.2.2.1
    have hxa : ix a 4 := ix_of q.1 (by omega)
    rw [ck_t hxa]
    rcases once_v (n := n) (p := a.toNatClampNeg) (P := a) (by omega) (RlM_of h) (by omega) na.symm (by omega) with ⟨τ', σ', e1, e2, e3, e4, e5⟩ | ⟨r, i, τ', σ', z0, z1, e1, e2, e3, e4, e5⟩
    · rw [e1, e2, bd_s, bd_s, if_pos rfl, if_pos rfl, ck_t hxa, ck_t hxa]
      have e6 := (e3.2.2.2.2.2.1.2.2.2 a.toNatClampNeg (by omega)).1
      rw [e6]
      exact ⟨_, _, _, rfl, rfl, RlM_to e3 (by omega)⟩
    · have ni : ¬ i = -2 := by rw [i32_eq]; simp only [Int32.reduceToInt]; omega
      rw [e1, e2, bd_s, bd_s, if_neg z0, if_neg ni, e3]
      exact ⟨_, _, _, rfl, rfl, RlM_to e4 (by omega)⟩
  · rw [if_neg q, if_neg q]
    exact ⟨_, _, _, rfl, rfl, Rl_s H⟩
theorem al_years : ∀ (d n : Nat) (k v : Int32) (τ σ : Sg) (M : Int) {c : Nat}, RlM M c τ σ → M + 20 * d ≤ 1000000000 → P.toInt = p → (p : Int) < (gI τ 4 8).toInt → 0 ≤ k.toInt → k.toInt + d = v.toInt → v.toInt ≤ 40 → d + 700 < n →
    ∃ r τ' σ', d_X11_years_22 n P v k τ = some (r, τ') ∧ d_X12_years_22 n P v k σ = some (r, σ') ∧ RlM (M + 20 * d) c τ' σ' := by
  intro d
  induction d with
  | zero =>
    intro n k v τ σ M c h hM hP hp h3 h4 h5 h6
    obtain ⟨n, rfl⟩ : ∃ k, n = k + 1 := ⟨n - 1, by omega⟩
    have e : k = v := by rw [i32_eq]; omega
    subst e
    refine ⟨k, τ, σ, ?_, ?_, by simpa using h⟩
    · rw [d_X11_years_22, if_pos (by rw [i32_le]; omega)]
    · rw [d_X12_years_22, if_pos (by rw [i32_le]; omega)]
  | succ d ih =>
    intro n k v τ σ M c h hM hP hp h3 h4 h5 h6
    obtain ⟨n, rfl⟩ : ∃ k, n = k + 1 := ⟨n - 1, by omega⟩
    obtain ⟨c1, c2, c3⟩ := cnt1 (v := k) (m := 64) h3 (by omega) (by decide)
    have hle : ¬ v ≤ k := by rw [i32_le]; omega
    have g3 := h.2.2.2.2.2.1.2.2.1
    have eP : P.toNatClampNeg = p := by rw [i32_nat]; omega
    rw [d_X11_years_22, if_neg hle, ck_ix (by omega), eP, d_X12_years_22, if_neg hle]
    rcases once_v (n := n) (p := p) (P := P) (by omega) h (by omega) hP hp with ⟨τ', σ', e1, e2, e3, e4, e5⟩ | ⟨r, i, τ', σ', z0, z1, e1, e2, e3, e4, e5⟩
    · rw [e1, e2, bd_s, bd_s, if_pos rfl, if_pos rfl, nm_t, nm_t]
      obtain ⟨r, τ2, σ2, y1, y2, y3⟩ := ih n (k + 1) v τ' σ' (M + 20) e3 (by omega) hP (by rw [e4]; exact hp) (by omega) (by omega) h5 (by omega)
      refine ⟨r, τ2, σ2, y1, y2, ?_⟩
      have : M + 20 + 20 * (d : Int) = M + 20 * ((d + 1 : Nat) : Int) := by omega
      rw [← this]; exact y3
    · have ni : ¬ i = -2 := by rw [i32_eq]; simp only [Int32.reduceToInt]; omega
      rw [e1, e2, bd_s, bd_s, if_neg z0, if_neg ni]
      refine ⟨_, _, _, rfl, rfl, ?_⟩
      obtain ⟨y0, y1, y2, y3, y4, y5⟩ := e4
      exact ⟨y0, y1, y2, y3, ⟨y4.1, y4.2.1, by have := y4.2.2.1; omega, y4.2.2.2⟩, y5⟩
theorem s_years (n : Nat) (hn : 1000 ≤ n) (a b : Int32) {c : Nat} {τ σ : Sg} (hcc : c ≤ 600) (h : Rl c τ σ) : ∃ r τ' σ', c_X11_years n a b τ = some (r, τ') ∧ c_X12_years n a b σ = some (r, σ') ∧ Rl (c + 1) τ' σ' := by
  have H := h
  have h5 := h.2.2.2.2.2.1
  have vp := v_isProgram12 h5 a
  unfold c_X11_years c_X12_years
  rw [v_isProgram, vp, v_in]
  simp only [bp_s, ite10, i32_lt, i32_le, Int32.reduceToInt]
  by_cases q : 0 ≤ a.toInt ∧ a.toInt < (gI τ 4 8).toInt
  · rw [if_pos q, if_pos q]
    have na := nat0 q.1
    have g3 := h5.2.2.1
    by_cases q2 : 0 ≤ b.toInt ∧ b.toInt ≤ 40
    · have nb := nat0 q2.1
      rw [if_pos q2, if_neg (by omega), if_pos q2.2]
      obtain ⟨r, τ', σ', e1, e2, e3⟩ := al_years (P := a) (p := a.toNatClampNeg) b.toNatClampNeg n 0 b τ σ (800 * c) (RlM_of h) (by omega) na.symm (by omega) (by decide) (by simp only [Int32.reduceToInt]; omega) q2.2 (by omega)
      rw [e1, e2]
      exact ⟨_, _, _, rfl, rfl, RlM_to e3 (by omega)⟩
    · rw [if_neg q2]
      by_cases q3 : b.toInt < 0
      · rw [if_pos q3]; exact ⟨_, _, _, rfl, rfl, Rl_s H⟩
      · rw [if_neg q3, if_neg (by omega)]; exact ⟨_, _, _, rfl, rfl, Rl_s H⟩
  · rw [if_neg q, if_neg q]
    exact ⟨_, _, _, rfl, rfl, Rl_s H⟩
end YEARS
