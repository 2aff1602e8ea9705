section ACTS6
variable {b B p m : Nat} {lk : Int32} {s t v h1 : Int32} {P Q : Int64}
theorem ixR {σ : Sg} {k : Int32} (hB : B ≤ 1) (hb0 : (gI σ 130 16).toInt = B) (hv : 0 ≤ k.toInt ∧ k.toInt < 12) : (12 * gI σ 130 16 + k).toNatClampNeg = 12 * B + k.toNatClampNeg ∧ ix (12 * gI σ 130 16 + k) 24 := by
  obtain ⟨-, x2, x3⟩ := ix2 (c := 12) (m := 2) (k := 12) (v := gI σ 130 16) (w := k) (by decide) (ix_of (by omega) (by omega)) (ix_of hv.1 (by omega)) rfl (by decide)
  have e : (gI σ 130 16).toNatClampNeg = B := by rw [i32_nat]; omega
  rw [e] at x2
  exact ⟨x2, x3⟩
theorem i64_sub0 (x : Int64) : x - 0 = x := by
  rw [i64_eq]
  have e : (0 : Int64).toInt = 0 := rfl
  have h1 := i64_lo x
  have h2 := i64_hi x
  rw [i64_sub (by omega) (by omega)]; omega
theorem al_tax : ∀ (d n : Nat) (a w : Int64) (k : Int32) (τ σ : Sg), SR b B p m lk τ σ → 0 ≤ t.toInt ∧ t.toInt ≤ 7 → 0 ≤ v.toInt ∧ v.toInt ≤ 5 → (gI σ 131 t.toNatClampNeg).toInt64 = P → (gI σ 132 t.toNatClampNeg).toInt64 = Q → 0 ≤ P.toInt ∧ P.toInt ≤ 10000 → 1 ≤ Q.toInt ∧ Q.toInt ≤ 1000 → 0 ≤ k.toInt → k.toInt + d = (gI τ (b + 1) 1).toInt → d < n → -10000000001 * k.toInt ≤ a.toInt → a.toInt ≤ 10000000001 * k.toInt →
    ∃ x τ' σ' w', n ≤ w' + d + 1 ∧ d_X5_taxLines_6 n b P Q v a k τ = some (x, τ') ∧ d_X12_taxes_9 n s t v 0 a w k σ = d_X12_taxes_112 w' s x σ' ∧ SR b B p m lk τ' σ' ∧ Fm B p σ σ' ∧ gI σ' 130 32 = gI σ 130 32 ∧ -120000000012 ≤ x.toInt ∧ x.toInt ≤ 120000000012 := by
  intro d
  induction d with
  | zero =>
    intro n a w k τ σ h ht hv e1 e2 hP hQ h3 h4 h5 h6 h7
    obtain ⟨n, rfl⟩ : ∃ k, n = k + 1 := ⟨n - 1, by omega⟩
    obtain ⟨b1, b2, b3, -⟩ := h.2.2.2.2.2.2.2.2.2
    refine ⟨a, τ, σ, n, by omega, ?_, ?_, h, Fm_refl, rfl, by omega, by omega⟩
    · rw [d_X5_taxLines_6, if_pos (by rw [i32_le]; omega)]
    · rw [d_X12_taxes_9, b1, if_pos (by rw [i32_le]; omega)]
  | succ d ih =>
    intro n a w k τ σ h ht hv e1 e2 hP hQ h3 h4 h5 h6 h7
    obtain ⟨n, rfl⟩ : ∃ k, n = k + 1 := ⟨n - 1, by omega⟩
    obtain ⟨b1, b2, b3, b4⟩ := h.2.2.2.2.2.2.2.2.2
    obtain ⟨c1, c2, c3⟩ := cnt1 (v := k) (m := 64) h3 (by omega) (by decide)
    obtain ⟨u1, u2, u3⟩ := b4 k.toNatClampNeg (by omega)
    obtain ⟨y1, y2⟩ := ixR (k := k) h.1.2.2.2.1 h.1.2.2.2.2.2 ⟨h3, by omega⟩
    have hk : ix k 12 := ix_of h3 (by omega)
    have ht' : ix t 8 := ix_of ht.1 (by omega)
    have hb' : b = 20 ∨ b = 34 ∨ b = 47 := h.1.2.2.1
    have e4 := i64_of32 (gI τ (b + 2) k.toNatClampNeg)
    have m1 := bnd_mul (a := (gI τ (b + 2) k.toNatClampNeg).toInt64.toInt) (b := P.toInt) (C := 10000) (A := 1000000) (by omega) (by omega) hP.1 hP.2
    have z1 : ((gI τ (b + 2) k.toNatClampNeg).toInt64 * P).toInt = (gI τ (b + 2) k.toNatClampNeg).toInt64.toInt * P.toInt := i64_mul (by omega) (by omega)
    obtain ⟨g, g1, g2, g3⟩ := rt_v (u := (gI τ (b + 2) k.toNatClampNeg).toInt64 * P) (l := Q) (k := v) (by omega) (by omega) (by omega) (by omega) hv
    have gb := rnd_b (n := ((gI τ (b + 2) k.toNatClampNeg).toInt64 * P).toInt) (k := v.toInt) hQ.1
    rw [← g3] at gb
    have z5 : (a + g).toInt = a.toInt + g.toInt := i64_add (by omega) (by omega)
    obtain ⟨z, zf⟩ := SR_res (v := g) (k := k.toNatClampNeg) h (by omega)
    obtain ⟨x, τ', σ', w', w1, w2, w3, w4, w5, w6, w7⟩ := ih n (a + g) (gI τ (b + 2) k.toNatClampNeg).toInt64 (k + 1) _ _ z ht hv e1 e2 hP hQ (by omega) (by rw [gI_pJ]; omega) (by omega) (by omega) (by omega)
    refine ⟨x, τ', σ', w', by omega, ?_, ?_, w4, Fm_trans zf w5, w6, w7⟩
    · rw [d_X5_taxLines_6, if_neg (by rw [i32_le]; omega), ck_t hk, g1, bp_s, ck_t hk, nm_t, ck_t hk, gJ_pJ_s, nm_t, nm_t, w2]
    · rw [d_X12_taxes_9, b1, if_neg (by rw [i32_le]; omega), if_pos rfl, ck_t hk]
      unfold d_X12_taxes_45 d_X12_taxes_79
      rw [ck_t ht', ck_t ht', u1, e1, e2, g2, bp_s, if_pos rfl, i64_sub0]
      simp only [nm_t, ck_t y2, y1]
      exact w3
theorem a_tax {n : Nat} {τ σ : Sg} (h : SR b B p m lk τ σ) (hf : gI σ 130 32 = 0) (hn : 200 ≤ n) (hs : 0 ≤ s.toInt ∧ s.toInt ≤ 7) (ht : 0 ≤ t.toInt ∧ t.toInt ≤ 7) (hv : 0 ≤ v.toInt ∧ v.toInt ≤ 5) (e1 : (gI σ 131 t.toNatClampNeg).toInt64 = P) (e2 : (gI σ 132 t.toNatClampNeg).toInt64 = Q) (hP : 0 ≤ P.toInt ∧ P.toInt ≤ 10000) (hQ : 1 ≤ Q.toInt ∧ Q.toInt ≤ 1000) :
    AO b B p m lk σ (bd (c_X5_taxLines n b P Q v τ) fun x τ' => bd (c_X5_becomeWhole b s x 0 τ') fun r τ'' => some (r, τ'')) (d_X12_does_169 n 0 v t s σ) := by
  have hb := h.2.2.2.2.2.2.2.2.2
  have n1 := nat0 hb.2.1
  have h12 := hb.2.2.1
  obtain ⟨x, τ', σ', w', w1, w2, w3, w4, w5, w6, w7⟩ := al_tax (s := s) (gI τ (b + 1) 1).toNatClampNeg n 0 0 0 τ σ h ht hv e1 e2 hP hQ (by decide) (by simp only [Int32.reduceToInt]; omega) (by omega) (by decide) (by decide)
  unfold c_X5_taxLines d_X12_does_169 c_X12_taxes
  rw [w2, w3, bd_s]
  unfold d_X12_taxes_112
  obtain ⟨r, τ'', σ'', r1, r2, r3, r4, r5⟩ := plain2 (n := w') (u := x) w4 (by rw [w6]; exact hf) (by omega) hs (by omega)
  rw [r1, r2, bd_s, bp_s, bp_s]
  exact ⟨r, τ'', σ'', rfl, rfl, r3, Fm_trans w5 r4, r5⟩
theorem al_flow : ∀ (d n : Nat) (l a : Int64) (k : Int32) (τ σ : Sg), SR b B p m lk τ σ → 0 ≤ t.toInt ∧ t.toInt ≤ 7 → 0 ≤ v.toInt ∧ v.toInt ≤ 5 → (gI σ 131 t.toNatClampNeg).toInt64 = P → (gI σ 132 t.toNatClampNeg).toInt64 = Q → 0 ≤ P.toInt ∧ P.toInt ≤ 10000 → 1 ≤ Q.toInt ∧ Q.toInt ≤ 1000 → 0 ≤ k.toInt → k.toInt + d = (gI τ (b + 1) 1).toInt → d < n → -1000000 * k.toInt ≤ l.toInt → l.toInt ≤ 1000000 * k.toInt → -120000000012 ≤ a.toInt → a.toInt ≤ 120000000012 →
    ∃ x τ' σ' w', n ≤ w' + d + 1 ∧ d_X5_flowLines_9 n b P Q v l a k τ = some (x, τ') ∧ d_X12_taxes_9 n s t v 1 a l k σ = d_X12_taxes_112 w' s x σ' ∧ SR b B p m lk τ' σ' ∧ Fm B p σ σ' ∧ gI σ' 130 32 = gI σ 130 32 ∧ -120000000012 ≤ x.toInt ∧ x.toInt ≤ 120000000012 := by
  intro d
  induction d with
  | zero =>
    intro n l a k τ σ h ht hv e1 e2 hP hQ h3 h4 h5 h6 h7 h8 h9
    obtain ⟨n, rfl⟩ : ∃ k, n = k + 1 := ⟨n - 1, by omega⟩
    obtain ⟨b1, b2, b3, -⟩ := h.2.2.2.2.2.2.2.2.2
    refine ⟨a, τ, σ, n, by omega, ?_, ?_, h, Fm_refl, rfl, by omega, by omega⟩
    · rw [d_X5_flowLines_9, if_pos (by rw [i32_le]; omega)]
    · rw [d_X12_taxes_9, b1, if_pos (by rw [i32_le]; omega)]
  | succ d ih =>
    intro n l a k τ σ h ht hv e1 e2 hP hQ h3 h4 h5 h6 h7 h8 h9
    obtain ⟨n, rfl⟩ : ∃ k, n = k + 1 := ⟨n - 1, by omega⟩
    obtain ⟨b1, b2, b3, b4⟩ := h.2.2.2.2.2.2.2.2.2
    obtain ⟨c1, c2, c3⟩ := cnt1 (v := k) (m := 64) h3 (by omega) (by decide)
    obtain ⟨u1, u2, u3⟩ := b4 k.toNatClampNeg (by omega)
    obtain ⟨y1, y2⟩ := ixR (k := k) h.1.2.2.2.1 h.1.2.2.2.2.2 ⟨h3, by omega⟩
    have hk : ix k 12 := ix_of h3 (by omega)
    have ht' : ix t 8 := ix_of ht.1 (by omega)
    have hb' : b = 20 ∨ b = 34 ∨ b = 47 := h.1.2.2.1
    have e4 := i64_of32 (gI τ (b + 2) k.toNatClampNeg)
    have z0 : (l + (gI τ (b + 2) k.toNatClampNeg).toInt64).toInt = l.toInt + (gI τ (b + 2) k.toNatClampNeg).toInt := by rw [i64_add (by omega) (by omega), e4]
    have m1 := bnd_mul (a := (l + (gI τ (b + 2) k.toNatClampNeg).toInt64).toInt) (b := P.toInt) (C := 10000) (A := 12000000) (by omega) (by omega) hP.1 hP.2
    have z1 : ((l + (gI τ (b + 2) k.toNatClampNeg).toInt64) * P).toInt = (l + (gI τ (b + 2) k.toNatClampNeg).toInt64).toInt * P.toInt := i64_mul (by omega) (by omega)
    obtain ⟨g, g1, g2, g3⟩ := rt_v (u := (l + (gI τ (b + 2) k.toNatClampNeg).toInt64) * P) (l := Q) (k := v) (by omega) (by omega) (by omega) (by omega) hv
    have gb := rnd_b (n := ((l + (gI τ (b + 2) k.toNatClampNeg).toInt64) * P).toInt) (k := v.toInt) hQ.1
    rw [← g3] at gb
    have z4 : (g - a).toInt = g.toInt - a.toInt := i64_sub (by omega) (by omega)
    have z5 : (a + (g - a)).toInt = g.toInt := by rw [i64_add (by omega) (by omega), z4]; omega
    obtain ⟨z, zf⟩ := SR_res (v := g - a) (k := k.toNatClampNeg) h (by omega)
    obtain ⟨x, τ', σ', w', w1, w2, w3, w4, w5, w6, w7⟩ := ih n (l + (gI τ (b + 2) k.toNatClampNeg).toInt64) (a + (g - a)) (k + 1) _ _ z ht hv e1 e2 hP hQ (by omega) (by rw [gI_pJ]; omega) (by omega) (by omega) (by omega) (by omega) (by omega)
    refine ⟨x, τ', σ', w', by omega, ?_, ?_, w4, Fm_trans zf w5, w6, w7⟩
    · rw [d_X5_flowLines_9, if_neg (by rw [i32_le]; omega), ck_t hk, nm_t, g1, bp_s, ck_t hk, nm_t, ck_t hk, gJ_pJ_s, nm_t, nm_t, w2]
    · rw [d_X12_taxes_9, b1, if_neg (by rw [i32_le]; omega), if_neg (by decide), ck_t hk]
      unfold d_X12_taxes_45 d_X12_taxes_79
      rw [ck_t ht', ck_t ht', u1, e1, e2, g2, bp_s, if_neg (by decide)]
      simp only [nm_t, ck_t y2, y1]
      exact w3
theorem a_flow {n : Nat} {τ σ : Sg} (h : SR b B p m lk τ σ) (hf : gI σ 130 32 = 0) (hn : 200 ≤ n) (hs : 0 ≤ s.toInt ∧ s.toInt ≤ 7) (ht : 0 ≤ t.toInt ∧ t.toInt ≤ 7) (hv : 0 ≤ v.toInt ∧ v.toInt ≤ 5) (e1 : (gI σ 131 t.toNatClampNeg).toInt64 = P) (e2 : (gI σ 132 t.toNatClampNeg).toInt64 = Q) (hP : 0 ≤ P.toInt ∧ P.toInt ≤ 10000) (hQ : 1 ≤ Q.toInt ∧ Q.toInt ≤ 1000) :
    AO b B p m lk σ (bd (c_X5_flowLines n b P Q v τ) fun x τ' => bd (c_X5_becomeWhole b s x 0 τ') fun r τ'' => some (r, τ'')) (d_X12_does_169 n 1 v t s σ) := by
  have hb := h.2.2.2.2.2.2.2.2.2
  have n1 := nat0 hb.2.1
  have h12 := hb.2.2.1
  obtain ⟨x, τ', σ', w', w1, w2, w3, w4, w5, w6, w7⟩ := al_flow (s := s) (gI τ (b + 1) 1).toNatClampNeg n 0 0 0 τ σ h ht hv e1 e2 hP hQ (by decide) (by simp only [Int32.reduceToInt]; omega) (by omega) (by decide) (by decide) (by decide) (by decide)
  unfold c_X5_flowLines d_X12_does_169 c_X12_taxes
  rw [w2, w3, bd_s]
  unfold d_X12_taxes_112
  obtain ⟨r, τ'', σ'', r1, r2, r3, r4, r5⟩ := plain2 (n := w') (u := x) w4 (by rw [w6]; exact hf) (by omega) hs (by omega)
  rw [r1, r2, bd_s, bp_s, bp_s]
  exact ⟨r, τ'', σ'', rfl, rfl, r3, Fm_trans w5 r4, r5⟩
end ACTS6
