section ACTS
variable {b B p m n : Nat} {lk : Int32} {τ σ : Sg} {s t v h1 : Int32}
theorem rnd_b {n d k : Int} (hd : 1 ≤ d) : (0 ≤ n → 0 ≤ rnd n d k ∧ rnd n d k ≤ n + 1) ∧ (n ≤ 0 → n - 1 ≤ rnd n d k ∧ rnd n d k ≤ 1) := by
  have e := Int.emod_add_mul_ediv n d
  have r1 := Int.emod_nonneg n (b := d) (by omega)
  have r2 := Int.emod_lt_of_pos n (b := d) (by omega)
  have key : n / d ≤ rnd n d k ∧ rnd n d k ≤ n / d + 1 := by
    unfold rnd
    generalize n / d = F
    generalize n % d = R
    repeat' split
    all_goals omega
  generalize n / d = F at *
  generalize n % d = R at *
  constructor
  · intro h
    have h0 : 0 ≤ F := by
      by_cases q : 0 ≤ F
      · exact q
      · have : d * F ≤ d * (-1) := Int.mul_le_mul_of_nonneg_left (by omega) (by omega)
        omega
    have : 1 * F ≤ d * F := Int.mul_le_mul_of_nonneg_right hd h0
    omega
  · intro h
    have h0 : F ≤ 0 := by
      by_cases q : F ≤ 0
      · exact q
      · have : d * 1 ≤ d * F := Int.mul_le_mul_of_nonneg_left (by omega) (by omega)
        omega
    have : d * (F + 1) ≤ 1 * (F + 1) ∨ F = 0 := by
      by_cases q : F = 0
      · exact Or.inr q
      · exact Or.inl (Int.mul_le_mul_of_nonpos_right (by omega) (by omega))
    rw [Int.mul_add] at this
    omega
/-- both set slot s to a whole amount, shown as h1, or are spent -/
theorem bw2 {u : Int64} (h : SR b B p m lk τ σ) (hf : gI σ 130 32 = 0) (hn : 100 ≤ n) (hs : 0 ≤ s.toInt ∧ s.toInt ≤ 7) (hh : h1 = 0 ∨ h1 = 1) (hu : -9223372036854775808 < u.toInt) :
    (SL u 1 ∧ c_X5_becomeWhole b s u h1 τ = some (0, pI (pJ (pJ τ (b + 9) s.toNatClampNeg u) (b + 10) s.toNatClampNeg 1) (b + 11) s.toNatClampNeg h1) ∧ c_X12_becomesWhole n s u σ = some (1, pJ (pJ σ 142 (8 * B + s.toNatClampNeg) u) 143 (8 * B + s.toNatClampNeg) 1)) ∨ (c_X5_becomeWhole b s u h1 τ = some (-6, τ) ∧ c_X12_becomesWhole n s u σ = some (0, pI σ 130 32 (-6))) := by
  by_cases q : fin40 u 1
  · exact Or.inl ⟨SL1 q, bw_t hs hh q, mw_t hn h.1.2.2.2.1 h.1.2.2.2.2.2 hs q⟩
  · exact Or.inr ⟨bw_f q, mw_f hn hu q⟩
/-- .. to u / l -/
theorem be2 {u l : Int64} (h : SR b B p m lk τ σ) (hf : gI σ 130 32 = 0) (hn : 100 ≤ n) (hs : 0 ≤ s.toInt ∧ s.toInt ≤ 7) (hh : h1 = 0 ∨ h1 = 1) (hu : -9223372036854775808 < u.toInt) (hl : 1 ≤ l.toInt) (hl2 : l.toInt ≤ 1099511627776) :
    (∃ x y, SL x y ∧ c_X5_become n b s u l h1 τ = some (0, pI (pJ (pJ τ (b + 9) s.toNatClampNeg x) (b + 10) s.toNatClampNeg y) (b + 11) s.toNatClampNeg h1) ∧ c_X12_becomes n s u l σ = some (1, pJ (pJ σ 142 (8 * B + s.toNatClampNeg) x) 143 (8 * B + s.toNatClampNeg) y)) ∨ (c_X5_become n b s u l h1 τ = some (-6, τ) ∧ c_X12_becomes n s u l σ = some (0, pI σ 130 32 (-6))) := by
  obtain ⟨g, g1, g2, g3, g4⟩ := div_v hn hu hl hl2
  obtain ⟨k1, k2, k3, k4, k5, k6, k7⟩ := quo_v hu hl g3 g4
  by_cases q : fin40 (u / g) (l / g)
  · exact Or.inl ⟨_, _, ⟨q.1, q.2.1, k3, q.2.2, k5⟩, be_t hs hh g1 g4 q, mb_t h.1.2.2.2.1 h.1.2.2.2.2.2 hs g2 g4 q⟩
  · exact Or.inr ⟨be_f g1 g4 q, mb_f g2 g4 q⟩
theorem plain2 {u : Int64} (h : SR b B p m lk τ σ) (hf : gI σ 130 32 = 0) (hn : 100 ≤ n) (hs : 0 ≤ s.toInt ∧ s.toInt ≤ 7) (hu : -9223372036854775808 < u.toInt) : AO b B p m lk σ (c_X5_becomeWhole b s u 0 τ) (c_X12_plain n s u σ) := by
  unfold c_X12_plain
  obtain ⟨x1, x2⟩ := ixB (v := s) h.1.2.2.2.1 h.1.2.2.2.2.2 hs
  rcases bw2 (u := u) (h1 := 0) h hf hn hs (Or.inl rfl) hu with ⟨q, e1, e2⟩ | ⟨e1, e2⟩
  · rw [e1, e2, bd_s, if_neg (by decide), gI_pJ, gI_pJ, ck_t x2, nm_t, x1]
    exact AO_set h hf hs q (Or.inl rfl)
  · rw [e1, e2, bd_s, if_pos rfl]
    exact AO_spent h
/-- act 0: the sum of the lines -/
theorem al_sum : ∀ (d n : Nat) (a : Int64) (k : Int32), Sb b τ σ → 0 ≤ k.toInt → k.toInt + d = (gI τ (b + 1) 1).toInt → d < n → -1000000 * k.toInt ≤ a.toInt → a.toInt ≤ 1000000 * k.toInt → ∃ x w, n ≤ w + d + 1 ∧ d_X5_sumOfLines_4 n b a k τ = some x ∧ d_X12_does_110 n s a k σ = d_X12_does_138 w s x σ ∧ -12000000 ≤ x.toInt ∧ x.toInt ≤ 12000000 := by
  intro d
  induction d with
  | zero =>
    intro n a k hb h3 h4 h5 h6 h7
    obtain ⟨n, rfl⟩ : ∃ k, n = k + 1 := ⟨n - 1, by omega⟩
    obtain ⟨b1, b2, b3, -⟩ := hb
    refine ⟨a, n, by omega, ?_, ?_, by omega, by omega⟩
    · rw [d_X5_sumOfLines_4, if_pos (by rw [i32_le]; omega)]
    · rw [d_X12_does_110, b1, if_pos (by rw [i32_le]; omega)]
  | succ d ih =>
    intro n a k hb h3 h4 h5 h6 h7
    obtain ⟨n, rfl⟩ : ∃ k, n = k + 1 := ⟨n - 1, by omega⟩
    have hb' := hb
    obtain ⟨b1, b2, b3, b4⟩ := hb
    obtain ⟨c1, c2, c3⟩ := cnt1 (v := k) (m := 64) h3 (by omega) (by decide)
    obtain ⟨e1, e2, e3⟩ := b4 k.toNatClampNeg (by omega)
    have e4 := i64_of32 (gI τ (b + 2) k.toNatClampNeg)
    have e5 : (a + (gI τ (b + 2) k.toNatClampNeg).toInt64).toInt = a.toInt + (gI τ (b + 2) k.toNatClampNeg).toInt := by rw [i64_add (by omega) (by omega), e4]
    obtain ⟨x, w, w1, w2, w3, w4⟩ := ih n (a + (gI τ (b + 2) k.toNatClampNeg).toInt64) (k + 1) hb' (by omega) (by omega) (by omega) (by omega) (by omega)
    refine ⟨x, w, by omega, ?_, ?_, w4⟩
    · rw [d_X5_sumOfLines_4, if_neg (by rw [i32_le]; omega), ck_ix (by omega), nm_t, nm_t, w2]
    · rw [d_X12_does_110, b1, if_neg (by rw [i32_le]; omega), ck_ix (by omega), nm_t, nm_t, e1, w3]
theorem a_sum (h : SR b B p m lk τ σ) (hf : gI σ 130 32 = 0) (hn : 100 ≤ n) (hs : 0 ≤ s.toInt ∧ s.toInt ≤ 7) (hn2 : 200 ≤ n) : AO b B p m lk σ (bp (c_X5_sumOfLines n b τ) fun x => bd (c_X5_becomeWhole b s x 0 τ) fun r τ' => some (r, τ')) (d_X12_does_110 n s 0 0 σ) := by
  have hb := h.2.2.2.2.2.2.2.2.2
  have n1 := nat0 hb.2.1
  obtain ⟨x, w, w1, w2, w3, w4, w5⟩ := al_sum (s := s) (gI τ (b + 1) 1).toNatClampNeg n 0 0 hb (by decide) (by simp only [Int32.reduceToInt]; omega) (by have := hb.2.2.1; omega) (by decide) (by decide)
  unfold c_X5_sumOfLines
  rw [w2, w3, bp_s]
  unfold d_X12_does_138
  obtain ⟨r, τ', σ', r1, r2, r3⟩ := plain2 (n := w) (u := x) h hf (by have := hb.2.2.1; omega) hs (by omega)
  rw [r1, r2, bd_s, bp_s]
  exact ⟨r, τ', σ', rfl, rfl, r3⟩
end ACTS
