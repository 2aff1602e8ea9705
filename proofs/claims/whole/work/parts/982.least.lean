section LEAST
variable {p q c : Nat} {P Q law : Int32}
/-- a doesn't break the law -/
def Bz (p q : Nat) (law : Int32) (τ : Sg) (a : Int32) : Prop := ∃ τ', c_X10_breaks 2000 (5 * p + 74) (5 * q + 74) law a τ = some (0, τ')
theorem Rl_0 {τ σ : Sg} (h : Rl c τ σ) : gI σ 130 16 = 0 := h.2.2.2.2.2.2.2.2.2
theorem Bz_same {τ τ' σ : Sg} {a : Int32} (hF : FLT) (h : Rl c τ σ) (t : To 33 69 τ τ') (hp : p < 4) (hP : P.toInt = p) (hq : q < 4) (hQ : law = 2 → Q.toInt = q) (hq2 : law ≠ 2 → q = p) (hl : 0 ≤ law.toInt ∧ law.toInt ≤ 6) (ha : -1000000 ≤ a.toInt ∧ a.toInt ≤ 1000000) (hz : Bz p q law τ' a) : Bz p q law τ a := by
  have h' : Rl c τ' σ := Rl_try h t (Ft_refl h.1.2.1 (Rl_0 h))
  obtain ⟨r, τ1, σ1, e1, e2, -⟩ := breaks_v (n := 2000) hF (Nat.le_refl _) h hp hP hq hQ hq2 hl ha
  obtain ⟨r2, τ2, σ2, f1, f2, -⟩ := breaks_v (n := 2000) hF (Nat.le_refl _) h' hp hP hq hQ hq2 hl ha
  obtain ⟨τ3, z⟩ := hz
  rw [z] at f1
  rw [e2] at f2
  cases f1
  cases f2
  exact ⟨τ1, e1⟩
theorem al_least (hF : FLT) (hp : p < 4) (hP : P.toInt = p) (hq : q < 4) (hQ : law = 2 → Q.toInt = q) (hq2 : law ≠ 2 → q = p) (hl : 0 ≤ law.toInt ∧ law.toInt ≤ 6) : ∀ (d n n' : Nat) (a to : Int32) (τ σ : Sg), Rl c τ σ → -1000000 ≤ a.toInt → to.toInt ≤ 1000000 → a.toInt + d = to.toInt + 1 → d + 2000 < n → d + 2000 < n' →
    ∃ r τ' σ', d_X10_firstBreak_4 n (5 * p + 74) (5 * q + 74) law to a τ = some (r, τ') ∧ d_X12_leastOf_4 n' P law Q to a σ = some (r, σ') ∧ To 33 69 τ τ' ∧ Ft σ σ' ∧ ((r = 9999999 ∧ ∀ a' : Int32, a.toInt ≤ a'.toInt → a'.toInt ≤ to.toInt → Bz p q law τ a') ∨ (a.toInt ≤ r.toInt ∧ r.toInt ≤ to.toInt)) := by
  intro d
  induction d with
  | zero =>
    intro n n' a to τ σ h h1 h2 h3 h4 h5
    obtain ⟨n, rfl⟩ : ∃ k, n = k + 1 := ⟨n - 1, by omega⟩
    obtain ⟨n', rfl⟩ : ∃ k, n' = k + 1 := ⟨n' - 1, by omega⟩
    refine ⟨9999999, τ, σ, ?_, ?_, To_refl h.1.1, Ft_refl h.1.2.1 (Rl_0 h), Or.inl ⟨rfl, fun a' q1 q2 => by omega⟩⟩
    · rw [d_X10_firstBreak_4, if_pos (by rw [i32_lt]; omega)]
    · rw [d_X12_leastOf_4, if_pos (by rw [i32_lt]; omega)]
  | succ d ih =>
    intro n n' a to τ σ h h1 h2 h3 h4 h5
    obtain ⟨n, rfl⟩ : ∃ k, n = k + 1 := ⟨n - 1, by omega⟩
    obtain ⟨n', rfl⟩ : ∃ k, n' = k + 1 := ⟨n' - 1, by omega⟩
    have c1 : (a + 1).toInt = a.toInt + 1 := i32_add1 (m := 1000000) (by omega) (by decide)
    obtain ⟨r, τ1, σ1, e1, e2, e3, e4, e5⟩ := breaks_v (n := 2000) (a := a) hF (Nat.le_refl _) h hp hP hq hQ hq2 hl (by omega)
    have f1 := Le_up (f := fun n => c_X10_breaks n (5 * p + 74) (5 * q + 74) law a τ) (fun n => u_c_X10_breaks) (show 2000 ≤ n by omega) _ e1
    have f2 := Le_up (f := fun n => c_X12_breaks n P law Q a σ) (fun n => u_c_X12_breaks) (show 2000 ≤ n' by omega) _ e2
    have hlt : ¬ to < a := by rw [i32_lt]; omega
    rw [d_X10_firstBreak_4, if_neg hlt, d_X12_leastOf_4, if_neg hlt, f1, f2, bd_s, bd_s]
    have h1' : Rl c τ1 σ1 := Rl_try h e4 e5
    rcases e3 with e3 | e3
    · rw [if_pos e3, if_pos e3, nm_t, nm_t]
      obtain ⟨r2, τ2, σ2, g1, g2, g3, g4, g5⟩ := ih n n' (a + 1) to τ1 σ1 h1' (by omega) h2 (by omega) (by omega) (by omega)
      refine ⟨r2, τ2, σ2, g1, g2, To_trans e4 g3, Ft_trans e5 g4, ?_⟩
      rcases g5 with ⟨g5, g6⟩ | g5
      · left
        refine ⟨g5, fun a' q1 q2 => ?_⟩
        by_cases e : a'.toInt = a.toInt
        · have e' : a' = a := by rw [i32_eq]; exact e
          subst e'
          rw [e3] at e1
          exact ⟨τ1, e1⟩
        · exact Bz_same hF h e4 hp hP hq hQ hq2 hl (by omega) (g6 a' (by omega) q2)
      · right; omega
    · have e0 : ¬ r = 0 := by rw [e3]; decide
      rw [if_neg e0, if_neg e0]
      exact ⟨a, τ1, σ1, rfl, rfl, e4, e5, Or.inr ⟨by omega, by omega⟩⟩
theorem s_least (hF : FLT) (n : Nat) (hn : 5000 ≤ n) (a1 a2 a3 a4 a5 : Int32) {c : Nat} {τ σ : Sg} (h : Rl c τ σ) : ∃ r τ' σ', c_X11_least n a1 a2 a3 a4 a5 τ = some (r, τ') ∧ c_X12_least n a1 a2 a3 a4 a5 σ = some (r, σ') ∧ Rl (c + 1) τ' σ' := by
  have h5 := h.2.2.2.2.2.1
  have vp1 := v_isProgram12 h5 a1
  have vp3 := v_isProgram12 h5 a3
  have g3 := h5.2.2.1
  have no : ∃ r τ' σ', some ((-1 : Int32), τ) = some (r, τ') ∧ some ((-1 : Int32), σ) = some (r, σ') ∧ Rl (c + 1) τ' σ' := ⟨_, _, _, rfl, rfl, Rl_s h⟩
  unfold c_X11_least c_X12_least d_X12_least_39 d_X11_least_53 d_X11_least_73
  rw [v_isProgram, v_isProgram, vp1, vp3, v_isLaw, v_isSpan, v_in, v_isSpan12]
  simp only [bp_s, ite10, Int32.reduceToInt, bd_id]
  by_cases q1 : 0 ≤ a1.toInt ∧ a1.toInt < (gI τ 4 8).toInt
  · rw [if_pos q1, if_pos q1]
    have n1 := nat0 q1.1
    have x1 : ix a1 4 := ix_of q1.1 (by omega)
    by_cases q2 : 0 ≤ a2.toInt ∧ a2.toInt ≤ 6
    · rw [if_pos q2, if_pos q2]
      by_cases q3 : (-1000000 ≤ a4.toInt ∧ a4.toInt ≤ 1000000) ∧ (-1000000 ≤ a5.toInt ∧ a5.toInt ≤ 1000000) ∧ a4.toInt ≤ a5.toInt ∧ a5.toInt - a4.toInt ≤ 2000
      · simp only [if_pos q3]
        by_cases q4 : a2 = 2
        · simp only [if_pos q4]
          by_cases q5 : 0 ≤ a3.toInt ∧ a3.toInt < (gI τ 4 8).toInt
          · have n3 := nat0 q5.1
            have x3 : ix a3 4 := ix_of q5.1 (by omega)
            rw [if_pos q5, if_pos q5, ck_t x3, ck_t x1]
            obtain ⟨r, τ', σ', e1, e2, e3, e4, -⟩ := al_least (p := a1.toNatClampNeg) (q := a3.toNatClampNeg) (P := a1) (Q := a3) (law := a2) (c := c) hF (by omega) n1.symm (by omega) (fun _ => n3.symm) (fun k => absurd q4 k) q2 (a5.toInt - a4.toInt + 1).toNat n n a4 a5 τ σ h (by omega) (by omega) (by omega) (by omega) (by omega)
            refine ⟨r, τ', σ', e1, e2, Rl_s (Rl_try h e3 e4)⟩
          · rw [if_neg q5, if_neg q5]; exact no
        · simp only [if_neg q4]
          by_cases q5 : a3 = -1
          · rw [if_pos q5, if_pos q5, ck_t x1, ck_t x1]
            obtain ⟨r, τ', σ', e1, e2, e3, e4, -⟩ := al_least (p := a1.toNatClampNeg) (q := a1.toNatClampNeg) (P := a1) (Q := a3) (law := a2) (c := c) hF (by omega) n1.symm (by omega) (fun k => absurd k q4) (fun _ => rfl) q2 (a5.toInt - a4.toInt + 1).toNat n n a4 a5 τ σ h (by omega) (by omega) (by omega) (by omega) (by omega)
            refine ⟨r, τ', σ', e1, e2, Rl_s (Rl_try h e3 e4)⟩
          · rw [if_neg q5, if_neg q5]; exact no
      · simp only [if_neg q3]
        by_cases q4 : a2 = 2
        · simp only [if_pos q4]
          by_cases q5 : 0 ≤ a3.toInt ∧ a3.toInt < (gI τ 4 8).toInt
          · rw [if_pos q5]; exact no
          · rw [if_neg q5]; exact no
        · simp only [if_neg q4]
          by_cases q5 : a3 = -1
          · rw [if_pos q5]; exact no
          · rw [if_neg q5]; exact no
    · rw [if_neg q2, if_neg q2]; exact no
  · rw [if_neg q1, if_neg q1]; exact no
end LEAST
