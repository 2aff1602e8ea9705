section ACTS5
variable {b B p m : Nat} {lk : Int32} {s t v h1 : Int32} {P Q : Int64}
theorem rnd_f {n d k : Int} : n / d ≤ rnd n d k ∧ rnd n d k ≤ n / d + 1 := by
  unfold rnd
  generalize n / d = F
  generalize n % d = R
  repeat' split
  all_goals omega
/-- the gain of a day times the lower number stays small -/
theorem gain_b {u l P Q g : Int} (hl : 1 ≤ l) (hQ : 1 ≤ Q) (hg : u * P / (l * Q) ≤ g) (hg2 : g ≤ u * P / (l * Q) + 1) : (g * l ≤ 0 ∨ g * l ≤ u * P + l * Q) ∧ (0 ≤ g * l ∨ u * P - l * Q ≤ g * l) := by
  have hd : 0 < l * Q := Int.mul_pos (by omega) (by omega)
  have e := Int.emod_add_mul_ediv (u * P) (l * Q)
  have r1 := Int.emod_nonneg (u * P) (b := l * Q) (by omega)
  have r2 := Int.emod_lt_of_pos (u * P) hd
  generalize u * P / (l * Q) = F at *
  generalize u * P % (l * Q) = R at *
  have a1 : l * Q * F ≤ l * Q * g := Int.mul_le_mul_of_nonneg_left hg (by omega)
  have a2 : l * Q * g ≤ l * Q * (F + 1) := Int.mul_le_mul_of_nonneg_left hg2 (by omega)
  rw [Int.mul_add] at a2
  have e2 : l * Q * g = g * l * Q := by rw [Int.mul_comm (l * Q) g, Int.mul_assoc]
  rw [e2] at a1 a2
  constructor
  · by_cases q : g * l ≤ 0
    · exact Or.inl q
    · right
      have : g * l * 1 ≤ g * l * Q := Int.mul_le_mul_of_nonneg_left hQ (by omega)
      omega
  · by_cases q : 0 ≤ g * l
    · exact Or.inl q
    · right
      have : g * l * Q ≤ g * l * 1 := Int.mul_le_mul_of_nonpos_left (by omega) hQ
      omega
/-- a slot's fraction is left as it is -/
theorem mb_same {n : Nat} {σ : Sg} {u l : Int64} (hn : 100 ≤ n) (hB : B ≤ 1) (hb0 : (gI σ 130 16).toInt = B) (hs : 0 ≤ s.toInt ∧ s.toInt ≤ 7) (hl : SL u l) : c_X12_becomes n s u l σ = some (1, pJ (pJ σ 142 (8 * B + s.toNatClampNeg) u) 143 (8 * B + s.toNatClampNeg) l) := by
  obtain ⟨l1, l2, l3, l4, l5⟩ := hl
  obtain ⟨g, -, g2, g3, g4⟩ := div_v (n := n) (a := u) (b := l) hn (by omega) l3 (by omega)
  have e : g = 1 := by rw [i64_eq, g3, l5]; rfl
  subst e
  have h := mb_t (n := n) (u := u) (l := l) (g := 1) hB hb0 hs g2 g4 (by rw [div1, div1]; exact ⟨l1, l2, l4⟩)
  rw [div1, div1] at h
  exact h
theorem mb_cop {n : Nat} {σ : Sg} {u l : Int64} (hn : 100 ≤ n) (hu : -9223372036854775808 < u.toInt) (hl : 1 ≤ l.toInt) (hl2 : l.toInt ≤ 1048576) (hg : Int.gcd u.toInt l.toInt = 1) (hf : ¬ fin40 u l) : c_X12_becomes n s u l σ = some (0, pI σ 130 32 (-6)) := by
  obtain ⟨g, -, g2, g3, g4⟩ := div_v (n := n) (a := u) (b := l) hn hu hl (by omega)
  have e : g = 1 := by rw [i64_eq, g3, hg]; rfl
  subst e
  exact mb_f (n := n) (u := u) (l := l) (g := 1) g2 g4 (by rw [div1, div1]; exact hf)
/-- days on which nothing is gained -/
theorem al_days0 : ∀ (d n : Nat) (k : Int32) (τ σ : Sg), SR b B p m lk τ σ → gI σ 130 32 = 0 → 0 ≤ s.toInt ∧ s.toInt ≤ 7 → 0 ≤ t.toInt ∧ t.toInt ≤ 7 → (gI σ 131 t.toNatClampNeg).toInt64 = P → (gI σ 132 t.toNatClampNeg).toInt64 = Q → f_X12_times (gJ τ (b + 9) s.toNatClampNeg * P) (gJ τ (b + 10) s.toNatClampNeg * Q) 1 = some 0 → 0 ≤ k.toInt → k.toInt + d = v.toInt → v.toInt ≤ 30 → d + 100 < n → d_X12_days_14 n s t v (8 * gI σ 130 16 + s) k σ = some σ := by
  intro d
  induction d with
  | zero =>
    intro n k τ σ h hf hs ht e1 e2 hg h3 h4 h5 h6
    obtain ⟨n, rfl⟩ : ∃ k, n = k + 1 := ⟨n - 1, by omega⟩
    rw [d_X12_days_14, if_pos (by rw [i32_le]; omega)]
  | succ d ih =>
    intro n k τ σ h hf hs ht e1 e2 hg h3 h4 h5 h6
    obtain ⟨n, rfl⟩ : ∃ k, n = k + 1 := ⟨n - 1, by omega⟩
    obtain ⟨c1, c2, c3⟩ := cnt1 (v := k) (m := 64) h3 (by omega) (by decide)
    obtain ⟨x1, x2⟩ := ixB (v := s) h.1.2.2.2.1 h.1.2.2.2.2.2 hs
    obtain ⟨q1, q2, q3, q4, q5⟩ := h.2.1 _ (n7 hs)
    have ht' : ix t 8 := ix_of ht.1 (by omega)
    have e0 : gJ τ (b + 9) s.toNatClampNeg + 0 * gJ τ (b + 10) s.toNatClampNeg = gJ τ (b + 9) s.toNatClampNeg := by rw [Int64.zero_mul, Int64.add_zero]
    have hm := mb_same (n := n) (σ := σ) (by omega) h.1.2.2.2.1 h.1.2.2.2.2.2 hs q5
    have hid : pJ (pJ σ 142 (8 * B + s.toNatClampNeg) (gJ τ (b + 9) s.toNatClampNeg)) 143 (8 * B + s.toNatClampNeg) (gJ τ (b + 10) s.toNatClampNeg) = σ := by
      rw [pJ_id (σ := σ) q1]; exact pJ_id q2
    rw [hid] at hm
    rw [d_X12_days_14, if_neg (by rw [i32_le]; omega), if_pos hf]
    simp only [ck_t x2, ck_t ht', x1, q1, q2, e1, e2, nm_t]
    rw [hg, bp_s, e0, hm, bd_s]
    exact ih n (k + 1) τ σ h hf hs ht e1 e2 hg (by omega) (by omega) h5 (by omega)
/-- act 12: days pass -/
theorem al_days : ∀ (d n : Nat) (k : Int32) (τ σ : Sg), SR b B p m lk τ σ → gI σ 130 32 = 0 → 0 ≤ s.toInt ∧ s.toInt ≤ 7 → 0 ≤ t.toInt ∧ t.toInt ≤ 7 → (gI σ 131 t.toNatClampNeg).toInt64 = P → (gI σ 132 t.toNatClampNeg).toInt64 = Q → 0 ≤ P.toInt ∧ P.toInt ≤ 10000 → 1 ≤ Q.toInt ∧ Q.toInt ≤ 1000 → 0 ≤ k.toInt → k.toInt + d = v.toInt → v.toInt ≤ 30 → d + 101 < n →
    AO b B p m lk σ (d_X5_passDays_3 n b s P Q v k τ) (d_X12_days_14 n s t v (8 * gI σ 130 16 + s) k σ) := by
  intro d
  induction d with
  | zero =>
    intro n k τ σ h hf hs ht e1 e2 hP hQ h3 h4 h5 h6
    obtain ⟨n, rfl⟩ : ∃ k, n = k + 1 := ⟨n - 1, by omega⟩
    rw [d_X5_passDays_3, d_X12_days_14, if_pos (by rw [i32_le]; omega), if_pos (by rw [i32_le]; omega)]
    exact AO_nop h hf
  | succ d ih =>
    intro n k τ σ h hf hs ht e1 e2 hP hQ h3 h4 h5 h6
    obtain ⟨n, rfl⟩ : ∃ k, n = k + 1 := ⟨n - 1, by omega⟩
    obtain ⟨c1, c2, c3⟩ := cnt1 (v := k) (m := 64) h3 (by omega) (by decide)
    obtain ⟨x1, x2⟩ := ixB (v := s) h.1.2.2.2.1 h.1.2.2.2.2.2 hs
    obtain ⟨q1, q2, q3, q4, l1, l2, l3, l4, l5⟩ := h.2.1 _ (n7 hs)
    have hs' : ix s 8 := ix_of hs.1 (by omega)
    have ht' : ix t 8 := ix_of ht.1 (by omega)
    have hb' : b = 20 ∨ b = 34 ∨ b = 47 := h.1.2.2.1
    have m1 := bnd_mul (a := (gJ τ (b + 9) s.toNatClampNeg).toInt) (b := P.toInt) (C := 10000) (A := 1099511627776) (by omega) l2 hP.1 hP.2
    have m2 := pos_mul l3 l4 hQ.1 hQ.2
    have z1 : (gJ τ (b + 9) s.toNatClampNeg * P).toInt = (gJ τ (b + 9) s.toNatClampNeg).toInt * P.toInt := i64_mul (by omega) (by omega)
    have z2 : (gJ τ (b + 10) s.toNatClampNeg * Q).toInt = (gJ τ (b + 10) s.toNatClampNeg).toInt * Q.toInt := i64_mul (by omega) (by omega)
    obtain ⟨g, g1, g2, g3⟩ := rt_v (u := gJ τ (b + 9) s.toNatClampNeg * P) (l := gJ τ (b + 10) s.toNatClampNeg * Q) (k := 1) (by omega) (by omega) (by omega) (by omega) (by decide)
    by_cases qz : g = 0
    · subst qz
      have hz := al_days0 (v := v) (d + 1) (n + 1) k τ σ h hf hs ht e1 e2 g2 h3 (by omega) h5 (by omega)
      rw [hz, d_X5_passDays_3, if_neg (by rw [i32_le]; omega), ck_t hs', ck_t hs', g1, bp_s, if_pos rfl]
      exact AO_nop h hf
    · have gb := rnd_f (n := (gJ τ (b + 9) s.toNatClampNeg * P).toInt) (d := (gJ τ (b + 10) s.toNatClampNeg * Q).toInt) (k := (1 : Int32).toInt)
      rw [← g3, z1, z2] at gb
      have gl := gain_b l3 hQ.1 gb.1 gb.2
      have z3 : (g * gJ τ (b + 10) s.toNatClampNeg).toInt = g.toInt * (gJ τ (b + 10) s.toNatClampNeg).toInt := i64_mul (by omega) (by omega)
      have z4 : (gJ τ (b + 9) s.toNatClampNeg + g * gJ τ (b + 10) s.toNatClampNeg).toInt = (gJ τ (b + 9) s.toNatClampNeg).toInt + g.toInt * (gJ τ (b + 10) s.toNatClampNeg).toInt := by rw [i64_add (by omega) (by omega), z3]
      have cop : Int.gcd (gJ τ (b + 9) s.toNatClampNeg + g * gJ τ (b + 10) s.toNatClampNeg).toInt (gJ τ (b + 10) s.toNatClampNeg).toInt = 1 := by
        rw [z4, Int.gcd_add_mul_right_left]; exact l5
      rw [d_X5_passDays_3, d_X12_days_14, if_neg (by rw [i32_le]; omega), if_neg (by rw [i32_le]; omega), if_pos hf]
      simp only [ck_t x2, ck_t ht', x1, q1, q2, e1, e2, nm_t, ck_t hs']
      rw [g1, g2, bp_s, bp_s, if_neg qz]
      generalize gJ τ (b + 9) s.toNatClampNeg + g * gJ τ (b + 10) s.toNatClampNeg = X at *
      by_cases qf : fin40 X (gJ τ (b + 10) s.toNatClampNeg)
      · have hl : SL X (gJ τ (b + 10) s.toNatClampNeg) := ⟨qf.1, qf.2.1, l3, l4, cop⟩
        rw [spent_t qf, bp_s, if_pos rfl, mb_same (n := n) (σ := σ) (by omega) h.1.2.2.2.1 h.1.2.2.2.2.2 hs hl, bd_s]
        have z := SR_set (s := s.toNatClampNeg) (u := X) (l := gJ τ (b + 10) s.toNatClampNeg) (h1 := gI τ (b + 11) s.toNatClampNeg) h (n7 hs) hl q4
        have y := Fm_set (B := B) (p := p) (σ := σ) (s := s.toNatClampNeg) (u := X) (l := gJ τ (b + 10) s.toNatClampNeg) (h1 := gI τ (b + 11) s.toNatClampNeg) (n7 hs)
        have i1 : pI (pJ (pJ τ (b + 9) s.toNatClampNeg X) (b + 10) s.toNatClampNeg (gJ τ (b + 10) s.toNatClampNeg)) (b + 11) s.toNatClampNeg (gI τ (b + 11) s.toNatClampNeg) = pJ τ (b + 9) s.toNatClampNeg X := by
          rw [pJ_id (σ := pJ τ (b + 9) s.toNatClampNeg X) (by rw [gJ_pJ_a (by omega)])]
          exact pI_id rfl
        have i2 : pI (pJ (pJ σ 142 (8 * B + s.toNatClampNeg) X) 143 (8 * B + s.toNatClampNeg) (gJ τ (b + 10) s.toNatClampNeg)) 149 (8 * B + s.toNatClampNeg) (gI τ (b + 11) s.toNatClampNeg) = pJ (pJ σ 142 (8 * B + s.toNatClampNeg) X) 143 (8 * B + s.toNatClampNeg) (gJ τ (b + 10) s.toNatClampNeg) := pI_id q3
        rw [i1, i2] at z
        rw [i2] at y
        obtain ⟨r, τ', σ', r1, r2, r3, r4, r5⟩ := ih n (k + 1) _ _ z hf hs ht e1 e2 hP hQ (by omega) (by omega) h5 (by omega)
        exact ⟨r, τ', σ', r1, r2, r3, Fm_trans y r4, r5⟩
      · have hz : ∀ j, d_X12_days_14 n s t v (8 * gI σ 130 16 + s) j (pI σ 130 32 (-6)) = some (pI σ 130 32 (-6)) := by
          intro j
          obtain ⟨n, rfl⟩ : ∃ k, n = k + 1 := ⟨n - 1, by omega⟩
          rw [d_X12_days_14]
          by_cases q : v ≤ j
          · rw [if_pos q]
          · rw [if_neg q, if_neg (by rw [gI_pI_s]; decide)]
        rw [spent_f qf, bp_s, if_neg (by decide), mb_cop (n := n) (by omega) (by omega) l3 l4 cop qf, bd_s, hz]
        exact AO_spent h
theorem a_days {n : Nat} {τ σ : Sg} (h : SR b B p m lk τ σ) (hf : gI σ 130 32 = 0) (hn : 200 ≤ n) (hs : 0 ≤ s.toInt ∧ s.toInt ≤ 7) (ht : 0 ≤ t.toInt ∧ t.toInt ≤ 7) (hv : 1 ≤ v.toInt ∧ v.toInt ≤ 30) (e1 : (gI σ 131 t.toNatClampNeg).toInt64 = P) (e2 : (gI σ 132 t.toNatClampNeg).toInt64 = Q) (hP : 0 ≤ P.toInt ∧ P.toInt ≤ 10000) (hQ : 1 ≤ Q.toInt ∧ Q.toInt ≤ 1000) : AO b B p m lk σ (c_X5_passDays n b s P Q v τ) (c_X12_days n s t v σ) := by
  have n1 := nat0 (v := v) (by omega)
  exact al_days v.toNatClampNeg n 0 τ σ h hf hs ht e1 e2 hP hQ (by decide) (by simp only [Int32.reduceToInt]; omega) hv.2 (by omega)
end ACTS5
