section ACTS2
variable {b B p m n : Nat} {lk : Int32} {τ σ : Sg} {s t v h1 : Int32}
theorem n7 {s : Int32} (hs : 0 ≤ s.toInt ∧ s.toInt ≤ 7) : s.toNatClampNeg < 8 := by rw [i32_nat]; omega
theorem i64_ext {a b : Int64} (h : a.toInt = b.toInt) : a = b := i64_eq.mpr h
/-- comp's rounding to whole numbers is the reference's times -/
theorem rt_v {u l : Int64} {k : Int32} (hl : 1 ≤ l.toInt) (hl2 : l.toInt ≤ 4611686018427387903) (hu : -4611686018427387904 ≤ u.toInt) (hu2 : u.toInt ≤ 4611686018427387904) (hk : 0 ≤ k.toInt ∧ k.toInt ≤ 5) : ∃ x, f_X3_rounding u l 1 k = some x ∧ f_X12_times u l k = some x ∧ x.toInt = rnd u.toInt l.toInt k.toInt := by
  have e1 : (1 : Int64).toInt = 1 := rfl
  obtain ⟨x, x1, x2⟩ := rounding_v (n := u) (l := l) (k := 1) (m := k) hl (by decide) (by rw [e1]; omega) hu hu2 hk
  obtain ⟨y, y1, y2⟩ := times_v (n := u) (d := l) (m := k) (by omega) hl2 hu hu2 hk
  rw [e1, Int.mul_one, Int.mul_one] at x2
  have e : x = y := i64_ext (by rw [x2, y2])
  subst e
  exact ⟨x, x1, y1, x2⟩
theorem bnd_mul {a b A C : Int} (h1 : -A ≤ a) (h2 : a ≤ A) (h3 : 0 ≤ b) (h4 : b ≤ C) : -(A * C) ≤ a * b ∧ a * b ≤ A * C := by
  have hA : 0 ≤ A := by omega
  have e1 : a * b ≤ A * b := Int.mul_le_mul_of_nonneg_right h2 h3
  have e2 : A * b ≤ A * C := Int.mul_le_mul_of_nonneg_left h4 hA
  have e3 : -A * b ≤ a * b := Int.mul_le_mul_of_nonneg_right h1 h3
  have e4 : -A * b = -(A * b) := Int.neg_mul A b
  omega
theorem pos_mul {a b A C : Int} (h1 : 1 ≤ a) (h2 : a ≤ A) (h3 : 1 ≤ b) (h4 : b ≤ C) : 1 ≤ a * b ∧ a * b ≤ A * C := by
  have e1 : a * b ≤ A * b := Int.mul_le_mul_of_nonneg_right h2 (by omega)
  have e2 : A * b ≤ A * C := Int.mul_le_mul_of_nonneg_left h4 (by omega)
  have e3 : 1 * b ≤ a * b := Int.mul_le_mul_of_nonneg_right h1 (by omega)
  omega
/-- act 3: a slot times a rate -/
theorem a_rate {P Q : Int64} (h : SR b B p m lk τ σ) (hf : gI σ 130 32 = 0) (hn : 100 ≤ n) (hs : 0 ≤ s.toInt ∧ s.toInt ≤ 7) (ht : 0 ≤ t.toInt ∧ t.toInt ≤ 7) (hv : 0 ≤ v.toInt ∧ v.toInt ≤ 7) (e1 : (gI σ 131 v.toNatClampNeg).toInt64 = P) (e2 : (gI σ 132 v.toNatClampNeg).toInt64 = Q) (hP : 0 ≤ P.toInt ∧ P.toInt ≤ 10000) (hQ : 1 ≤ Q.toInt ∧ Q.toInt ≤ 1000) :
    AO b B p m lk σ (c_X5_become n b s (gJ τ (b + 9) t.toNatClampNeg * P) (gJ τ (b + 10) t.toNatClampNeg * Q) (gI τ (b + 11) t.toNatClampNeg) τ) (c_X12_rates n s t v σ) := by
  unfold c_X12_rates
  obtain ⟨x1, x2⟩ := ixB (v := s) h.1.2.2.2.1 h.1.2.2.2.2.2 hs
  obtain ⟨y1, y2⟩ := ixB (v := t) h.1.2.2.2.1 h.1.2.2.2.2.2 ht
  obtain ⟨c1, c2, c3, c4, l1, l2, l3, l4, l5⟩ := h.2.1 _ (n7 ht)
  have hx : ix v 8 := ix_of hv.1 (by omega)
  simp only [nm_t, ck_t y2, ck_t hx, y1, c1, c2, c3, e1, e2]
  have m1 := bnd_mul (b := P.toInt) (C := 10000) (A := 1099511627776) (by omega) l2 hP.1 hP.2
  have m2 := pos_mul l3 l4 hQ.1 hQ.2
  have z1 : (gJ τ (b + 9) t.toNatClampNeg * P).toInt = (gJ τ (b + 9) t.toNatClampNeg).toInt * P.toInt := i64_mul (by omega) (by omega)
  have z2 : (gJ τ (b + 10) t.toNatClampNeg * Q).toInt = (gJ τ (b + 10) t.toNatClampNeg).toInt * Q.toInt := i64_mul (by omega) (by omega)
  rcases be2 (u := gJ τ (b + 9) t.toNatClampNeg * P) (l := gJ τ (b + 10) t.toNatClampNeg * Q) h hf hn hs c4 (by omega) (by omega) (by omega) with ⟨x, y, q, k1, k2⟩ | ⟨k1, k2⟩
  · rw [k1, k2, bd_s, if_neg (by decide), ck_t c4, gI_pJ, gI_pJ, ck_t x2, x1]
    exact AO_set h hf hs q c4
  · rw [k1, k2, bd_s, if_pos rfl]
    exact AO_spent h
/-- act 7: a part -/
theorem a_part (h : SR b B p m lk τ σ) (hf : gI σ 130 32 = 0) (hn : 100 ≤ n) (hs : 0 ≤ s.toInt ∧ s.toInt ≤ 7) (ht : 0 ≤ t.toInt ∧ t.toInt ≤ 7) : AO b B p m lk σ (c_X5_becomeWhole b s (gJ τ (b + 6) t.toNatClampNeg) (gI τ b 10) τ) (ck (ix (8 * gI σ 130 16 + t) 16) <| bd (c_X12_becomesWhole n s (gJ σ 144 (8 * gI σ 130 16 + t).toNatClampNeg) σ) fun x σ1 => if x = 0 then some σ1 else ck (gI σ1 130 28 = 0 ∨ gI σ1 130 28 = 1) <| ck (ix (8 * gI σ 130 16 + s) 16) <| nm (pI σ1 149 (8 * gI σ 130 16 + s).toNatClampNeg (gI σ1 130 28)) fun σ2 => some σ2) := by
  obtain ⟨x1, x2⟩ := ixB (v := s) h.1.2.2.2.1 h.1.2.2.2.2.2 hs
  obtain ⟨y1, y2⟩ := ixB (v := t) h.1.2.2.2.1 h.1.2.2.2.2.2 ht
  obtain ⟨c1, c2, c3⟩ := h.2.2.1 _ (n7 ht)
  obtain ⟨f1, f2, f3, f4, -⟩ := h.2.2.2.2.2.2.2.1
  rw [ck_t y2, y1, c1]
  rcases bw2 (u := gJ τ (b + 6) t.toNatClampNeg) h hf hn hs f4 (by omega) with ⟨q, e1, e2⟩ | ⟨e1, e2⟩
  · rw [e1, e2, bd_s, if_neg (by decide), gI_pJ, gI_pJ, f3, ck_t f4, ck_t x2, nm_t, x1]
    exact AO_set h hf hs q f4
  · rw [e1, e2, bd_s, if_pos rfl]
    exact AO_spent h
/-- act 11: a slot's rounding, only shown -/
theorem a_show (h : SR b B p m lk τ σ) (hf : gI σ 130 32 = 0) (hn : 100 ≤ n) (hs : 0 ≤ s.toInt ∧ s.toInt ≤ 7) (ht : 0 ≤ t.toInt ∧ t.toInt ≤ 7) (hv : 0 ≤ v.toInt ∧ v.toInt ≤ 5) : AO b B p m lk σ (bp (f_X3_rounding (gJ τ (b + 9) t.toNatClampNeg) (gJ τ (b + 10) t.toNatClampNeg) 1 v) fun x => bd (c_X5_becomeWhole b s x 1 τ) fun r τ' => some (r, τ')) (ck (ix (8 * gI σ 130 16 + t) 16) <| ck (ix (8 * gI σ 130 16 + t) 16) <| bp (f_X12_times (gJ σ 142 (8 * gI σ 130 16 + t).toNatClampNeg) (gJ σ 143 (8 * gI σ 130 16 + t).toNatClampNeg) v) fun x => bd (c_X12_becomesWhole n s x σ) fun y σ1 => if y = 0 then some σ1 else ck (ix (8 * gI σ 130 16 + s) 16) <| nm (pI σ1 149 (8 * gI σ 130 16 + s).toNatClampNeg 1) fun σ2 => some σ2) := by
  obtain ⟨x1, x2⟩ := ixB (v := s) h.1.2.2.2.1 h.1.2.2.2.2.2 hs
  obtain ⟨y1, y2⟩ := ixB (v := t) h.1.2.2.2.1 h.1.2.2.2.2.2 ht
  obtain ⟨c1, c2, c3, c4, l1, l2, l3, l4, l5⟩ := h.2.1 _ (n7 ht)
  rw [ck_t y2, ck_t y2, y1, c1, c2]
  obtain ⟨x, k1, k2, k3⟩ := rt_v (u := gJ τ (b + 9) t.toNatClampNeg) (l := gJ τ (b + 10) t.toNatClampNeg) (k := v) l3 (by omega) (by omega) (by omega) hv
  have kb := rnd_b (n := (gJ τ (b + 9) t.toNatClampNeg).toInt) (k := v.toInt) l3
  rw [k1, k2, bp_s, bp_s]
  rcases bw2 (u := x) (h1 := 1) h hf hn hs (Or.inr rfl) (by rw [k3]; omega) with ⟨q, e1, e2⟩ | ⟨e1, e2⟩
  · rw [e1, e2, bd_s, bd_s, if_neg (by decide), ck_t x2, nm_t, x1]
    exact AO_set h hf hs q (Or.inr rfl)
  · rw [e1, e2, bd_s, bd_s, if_pos rfl]
    exact AO_spent h
/-- act 4: a slot rounded to a multiple of v -/
theorem a_round (h : SR b B p m lk τ σ) (hf : gI σ 130 32 = 0) (hn : 100 ≤ n) (hs : 0 ≤ s.toInt ∧ s.toInt ≤ 7) (ht : 0 ≤ t.toInt ∧ t.toInt ≤ 5) (hv : 1 ≤ v.toInt ∧ v.toInt ≤ 100) : AO b B p m lk σ (bp (f_X3_rounding (gJ τ (b + 9) s.toNatClampNeg) (gJ τ (b + 10) s.toNatClampNeg) v.toInt64 t) fun x => ck (ix s 8) <| bd (c_X5_becomeWhole b s x (gI τ (b + 11) s.toNatClampNeg) τ) fun r τ' => some (r, τ')) (ck (ix (8 * gI σ 130 16 + s) 16) <| ck (ix (8 * gI σ 130 16 + s) 16) <| bp (f_X12_times (gJ σ 142 (8 * gI σ 130 16 + s).toNatClampNeg) (gJ σ 143 (8 * gI σ 130 16 + s).toNatClampNeg * v.toInt64) t) fun x => bd (c_X12_becomesWhole n s (v.toInt64 * x) σ) fun y σ1 => some σ1) := by
  obtain ⟨x1, x2⟩ := ixB (v := s) h.1.2.2.2.1 h.1.2.2.2.2.2 hs
  obtain ⟨c1, c2, c3, c4, l1, l2, l3, l4, l5⟩ := h.2.1 _ (n7 hs)
  have hx : ix s 8 := ix_of hs.1 (by omega)
  rw [ck_t x2, ck_t x2, x1, c1, c2]
  have e := i64_of32 v
  have m2 := pos_mul (b := v.toInt64.toInt) (C := 100) l3 l4 (by omega) (by omega)
  have z2 : (gJ τ (b + 10) s.toNatClampNeg * v.toInt64).toInt = (gJ τ (b + 10) s.toNatClampNeg).toInt * v.toInt64.toInt := i64_mul (by omega) (by omega)
  obtain ⟨x, k1, k2⟩ := rounding_v (n := gJ τ (b + 9) s.toNatClampNeg) (l := gJ τ (b + 10) s.toNatClampNeg) (k := v.toInt64) (m := t) l3 (by omega) (by omega) (by omega) (by omega) ht
  obtain ⟨y, j1, j2⟩ := times_v (n := gJ τ (b + 9) s.toNatClampNeg) (d := gJ τ (b + 10) s.toNatClampNeg * v.toInt64) (m := t) (by omega) (by omega) (by omega) (by omega) ht
  have kb := rnd_b (n := (gJ τ (b + 9) s.toNatClampNeg).toInt) (k := t.toInt) m2.1
  rw [z2] at j2
  rw [← j2] at kb k2
  have m3 := bnd_mul (a := y.toInt) (b := v.toInt64.toInt) (A := 1099511627777) (C := 100) (by omega) (by omega) (by omega) (by omega)
  have exy : v.toInt64 * y = x := by
    refine i64_ext ?_
    rw [i64_mul (by rw [Int.mul_comm]; omega) (by rw [Int.mul_comm]; omega), k2, Int.mul_comm]
  rw [k1, j1, bp_s, bp_s, exy, ck_t hx]
  rcases bw2 (u := x) h hf hn hs c4 (by omega) with ⟨q, e1, e2⟩ | ⟨e1, e2⟩
  · rw [e1, e2, bd_s, bd_s]
    have hid : pI (pJ (pJ σ 142 (8 * B + s.toNatClampNeg) x) 143 (8 * B + s.toNatClampNeg) 1) 149 (8 * B + s.toNatClampNeg) (gI τ (b + 11) s.toNatClampNeg) = pJ (pJ σ 142 (8 * B + s.toNatClampNeg) x) 143 (8 * B + s.toNatClampNeg) 1 := pI_id (by rw [gI_pJ, gI_pJ, c3])
    have z := AO_set h hf hs q c4
    rw [hid] at z
    exact z
  · rw [e1, e2, bd_s, bd_s]
    exact AO_spent h
end ACTS2
