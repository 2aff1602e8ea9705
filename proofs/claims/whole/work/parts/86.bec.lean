def fin40 (u l : Int64) : Prop := -1099511627776 ≤ u.toInt ∧ u.toInt ≤ 1099511627776 ∧ l.toInt ≤ 1048576
theorem spent_t {u l : Int64} (h : fin40 u l) : f_X3_isSpent u l = some 0 := by
  unfold f_X3_isSpent
  simp only [i64_lt, i64_le, Int64.reduceToInt]
  obtain ⟨h1, h2, h3⟩ := h
  rw [if_neg (by omega), if_neg (by omega), if_pos h3]
theorem spent_f {u l : Int64} (h : ¬ fin40 u l) : f_X3_isSpent u l = some 1 := by
  unfold f_X3_isSpent
  simp only [i64_lt, i64_le, Int64.reduceToInt]
  by_cases h1 : 1099511627776 < u.toInt
  · rw [if_pos h1]
  · rw [if_neg h1]
    by_cases h2 : u.toInt < -1099511627776
    · rw [if_pos h2]
    · rw [if_neg h2, if_neg (fun h3 => h ⟨by omega, by omega, h3⟩)]
section BEC
variable {b B p m n : Nat} {lk : Int32} {τ σ : Sg} {s h1 : Int32}
theorem bw_t {u : Int64} (hs : 0 ≤ s.toInt ∧ s.toInt ≤ 7) (hh : h1 = 0 ∨ h1 = 1) (hf : fin40 u 1) : c_X5_becomeWhole b s u h1 τ = some (0, pI (pJ (pJ τ (b + 9) s.toNatClampNeg u) (b + 10) s.toNatClampNeg 1) (b + 11) s.toNatClampNeg h1) := by
  unfold c_X5_becomeWhole
  have hx : ix s 8 := ix_of hs.1 (by omega)
  rw [spent_t hf, bp_s, if_pos rfl, ck_t hx, nm_t, ck_t hx, nm_t, ck_t hh, ck_t hx, nm_t]
theorem bw_f {u : Int64} (hf : ¬ fin40 u 1) : c_X5_becomeWhole b s u h1 τ = some (-6, τ) := by
  unfold c_X5_becomeWhole
  rw [spent_f hf, bp_s, if_neg (by decide)]
theorem be_t {u l g : Int64} (hs : 0 ≤ s.toInt ∧ s.toInt ≤ 7) (hh : h1 = 0 ∨ h1 = 1) (hg : f_X3_divisor n u l = some g) (hg1 : 1 ≤ g.toInt) (hf : fin40 (u / g) (l / g)) : c_X5_become n b s u l h1 τ = some (0, pI (pJ (pJ τ (b + 9) s.toNatClampNeg (u / g)) (b + 10) s.toNatClampNeg (l / g)) (b + 11) s.toNatClampNeg h1) := by
  unfold c_X5_become
  have hx : ix s 8 := ix_of hs.1 (by omega)
  have hz : ¬ g = 0 := by rw [i64_eq]; simp only [Int64.reduceToInt]; omega
  rw [hg, bp_s, if_neg (by rw [i64_le]; simp only [Int64.reduceToInt]; omega), ck_t hz, spent_t hf, bp_s, if_pos rfl, ck_t hx, nm_t, ck_t hx, nm_t, ck_t hh, ck_t hx, nm_t]
theorem be_f {u l g : Int64} (hg : f_X3_divisor n u l = some g) (hg1 : 1 ≤ g.toInt) (hf : ¬ fin40 (u / g) (l / g)) : c_X5_become n b s u l h1 τ = some (-6, τ) := by
  unfold c_X5_become
  have hz : ¬ g = 0 := by rw [i64_eq]; simp only [Int64.reduceToInt]; omega
  rw [hg, bp_s, if_neg (by rw [i64_le]; simp only [Int64.reduceToInt]; omega), ck_t hz, spent_f hf, bp_s, if_neg (by decide)]
theorem mb_t {u l g : Int64} (hB : B ≤ 1) (hb0 : (gI σ 130 16).toInt = B) (hs : 0 ≤ s.toInt ∧ s.toInt ≤ 7) (hg : f_X12_common n u l = some g) (hg1 : 1 ≤ g.toInt) (hf : fin40 (u / g) (l / g)) : c_X12_becomes n s u l σ = some (1, pJ (pJ σ 142 (8 * B + s.toNatClampNeg) (u / g)) 143 (8 * B + s.toNatClampNeg) (l / g)) := by
  unfold c_X12_becomes
  obtain ⟨x1, x2⟩ := ixB (v := s) hB hb0 hs
  have hz : ¬ g = 0 := by rw [i64_eq]; simp only [Int64.reduceToInt]; omega
  obtain ⟨f1, f2, f3⟩ := hf
  rw [hg, bp_s, ck_t hz, nm_t, nm_t, if_neg (by rw [i64_lt]; simp only [Int64.reduceToInt]; omega), if_neg (by rw [i64_lt]; simp only [Int64.reduceToInt]; omega), if_pos (by rw [i64_le]; simp only [Int64.reduceToInt]; omega), ck_t x2, nm_t, gI_pJ, ck_t x2, nm_t, x1]
theorem mb_f {u l g : Int64} (hg : f_X12_common n u l = some g) (hg1 : 1 ≤ g.toInt) (hf : ¬ fin40 (u / g) (l / g)) : c_X12_becomes n s u l σ = some (0, pI σ 130 32 (-6)) := by
  unfold c_X12_becomes
  have hz : ¬ g = 0 := by rw [i64_eq]; simp only [Int64.reduceToInt]; omega
  have e : d_X12_becomes_48 n σ = some (0, pI σ 130 32 (-6)) := rfl
  rw [hg, bp_s, ck_t hz, nm_t, nm_t, e]
  simp only [i64_lt, i64_le, Int64.reduceToInt]
  by_cases h1 : 1099511627776 < (u / g).toInt
  · rw [if_pos h1]
  · rw [if_neg h1]
    by_cases h2 : (u / g).toInt < -1099511627776
    · rw [if_pos h2]
    · rw [if_neg h2, if_neg (fun h3 => hf ⟨by omega, by omega, h3⟩)]
theorem div1 (x : Int64) : x / 1 = x := by
  by_cases h : -9223372036854775808 < x.toInt
  · rw [i64_eq, i64_div h]
    show x.toInt.tdiv 1 = x.toInt
    exact Int.tdiv_one _
  · have e : x = Int64.minValue := by
      have := i64_lo x
      rw [i64_eq]
      have : Int64.minValue.toInt = -9223372036854775808 := rfl
      omega
    subst e; decide
theorem com1 {x : Int64} (hn : 100 ≤ n) (h : -9223372036854775808 < x.toInt) : f_X12_common n x 1 = some 1 := by
  obtain ⟨g, -, g2, g3, -⟩ := div_v (n := n) (a := x) (b := 1) hn h (by decide) (by decide)
  rw [g2]
  congr 1
  rw [i64_eq, g3]
  show ((Int.gcd x.toInt 1 : Nat) : Int) = 1
  rw [Int.gcd_one]; rfl
theorem mw_t {u : Int64} (hn : 100 ≤ n) (hB : B ≤ 1) (hb0 : (gI σ 130 16).toInt = B) (hs : 0 ≤ s.toInt ∧ s.toInt ≤ 7) (hf : fin40 u 1) : c_X12_becomesWhole n s u σ = some (1, pJ (pJ σ 142 (8 * B + s.toNatClampNeg) u) 143 (8 * B + s.toNatClampNeg) 1) := by
  unfold c_X12_becomesWhole
  have h := mb_t (n := n) (u := u) (l := 1) (g := 1) hB hb0 hs (com1 hn (by have := hf.1; omega)) (by decide) (by rw [div1, div1]; exact hf)
  rw [h, bd_s, div1, div1, ck_t (Or.inr rfl)]
theorem mw_f {u : Int64} (hn : 100 ≤ n) (hu : -9223372036854775808 < u.toInt) (hf : ¬ fin40 u 1) : c_X12_becomesWhole n s u σ = some (0, pI σ 130 32 (-6)) := by
  unfold c_X12_becomesWhole
  have h := mb_f (n := n) (s := s) (σ := σ) (l := 1) (g := 1) (com1 hn hu) (by decide) (by rw [div1, div1]; exact hf)
  rw [h, bd_s, ck_t (Or.inl rfl)]
theorem SL1 {u : Int64} (hf : fin40 u 1) : SL u 1 := by
  obtain ⟨f1, f2, -⟩ := hf
  refine ⟨f1, f2, by decide, by decide, ?_⟩
  show Int.gcd u.toInt 1 = 1
  exact Int.gcd_one
/-- what an act comes to: in both the same answer, and both stand alike -/
def AO (b B p m : Nat) (lk : Int32) (σ : Sg) (x : Option (Int32 × Sg)) (y : Option Sg) : Prop := ∃ r τ' σ', x = some (r, τ') ∧ y = some σ' ∧ SR b B p m lk τ' σ' ∧ Fm B p σ σ' ∧ gI σ' 130 32 = r
theorem pI_id {a k : Nat} {v : Int32} (h : gI σ a k = v) : pI σ a k v = σ := by
  have e : up2 σ.2.1 a k v = σ.2.1 := by
    funext a' k'
    unfold up2
    by_cases q : a' = a ∧ k' = k
    · rw [if_pos q, q.1, q.2]; exact h.symm
    · rw [if_neg q]
  unfold pI
  rw [e]
theorem pJ_id {a k : Nat} {v : Int64} (h : gJ σ a k = v) : pJ σ a k v = σ := by
  have e : up2 σ.2.2.1 a k v = σ.2.2.1 := by
    funext a' k'
    unfold up2
    by_cases q : a' = a ∧ k' = k
    · rw [if_pos q, q.1, q.2]; exact h.symm
    · rw [if_neg q]
  unfold pJ
  rw [e]
/-- both answer 'spent' -/
theorem AO_spent {r : Int32} (h : SR b B p m lk τ σ) : AO b B p m lk σ (some (r, τ)) (some (pI σ 130 32 r)) := ⟨_, _, _, rfl, rfl, (SR_fail h).1, (SR_fail h).2, rfl⟩
/-- both have set slot s -/
theorem AO_set {u l : Int64} (h : SR b B p m lk τ σ) (hf : gI σ 130 32 = 0) (hs : 0 ≤ s.toInt ∧ s.toInt ≤ 7) (hl : SL u l) (hh : h1 = 0 ∨ h1 = 1) : AO b B p m lk σ (some (0, pI (pJ (pJ τ (b + 9) s.toNatClampNeg u) (b + 10) s.toNatClampNeg l) (b + 11) s.toNatClampNeg h1)) (some (pI (pJ (pJ σ 142 (8 * B + s.toNatClampNeg) u) 143 (8 * B + s.toNatClampNeg) l) 149 (8 * B + s.toNatClampNeg) h1)) :=
  ⟨_, _, _, rfl, rfl, SR_set h (by rw [i32_nat]; omega) hl hh, Fm_set (by rw [i32_nat]; omega), by simp (disch := omega) only [gI_pI_s, gJ_pJ_s, gD_pD_s, gI_pJ, gI_pD, gJ_pI, gJ_pD, gD_pI, gD_pJ, gI_pI_a, gJ_pJ_a, gD_pD_a, gI_pI_k, gJ_pJ_k, gD_pD_k]; exact hf⟩
end BEC
