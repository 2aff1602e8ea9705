section ACTS4
variable {b B p m n : Nat} {lk : Int32} {τ σ : Sg} {s t v h1 : Int32}
theorem rnd4 {n d : Int} : rnd n d 4 = n / d := by
  unfold rnd
  by_cases q : n % d = 0
  · rw [if_pos q]
  · rw [if_neg q, if_neg (by decide), if_neg (by decide), if_neg (by decide), if_neg (by decide), if_pos rfl]
theorem SR_car {x y w cu cl : Int64} (h : SR b B p m lk τ σ) (hs : 0 ≤ s.toInt ∧ s.toInt ≤ 7) (hl : SL w 1) (hc : Car cu cl) : SR b B p m lk (pJ (pJ (pJ (pJ τ (b + 9) s.toNatClampNeg w) (b + 10) s.toNatClampNeg 1) b 7 cu) b 8 cl) (pJ (pJ (pJ (pJ (pJ (pJ σ 142 (8 * B + s.toNatClampNeg) x) 143 (8 * B + s.toNatClampNeg) y) 142 (8 * B + s.toNatClampNeg) w) 143 (8 * B + s.toNatClampNeg) 1) 147 (4 * B + p) cu) 148 (4 * B + p) cl) ∧ Fm B p σ (pJ (pJ (pJ (pJ (pJ (pJ σ 142 (8 * B + s.toNatClampNeg) x) 143 (8 * B + s.toNatClampNeg) y) 142 (8 * B + s.toNatClampNeg) w) 143 (8 * B + s.toNatClampNeg) 1) 147 (4 * B + p) cu) 148 (4 * B + p) cl) := by
  obtain ⟨⟨lt, ls, hb, hB, hp, hb0⟩, a1, a2, a3, a4, a5, a6, a7, a8, a9⟩ := h
  have hb' : b = 20 ∨ b = 34 ∨ b = 47 := hb
  have h7 := n7 hs
  refine ⟨⟨⟨lt, ls, hb, hB, hp, hb0⟩, fun k hk => ?_, Sp_f a2 (by simp (disch := omega) only [RI_pI, RI_mI, RI_pJ, RI_mJ, RI_pD, RI_mD, RJ_pI, RJ_mI, RJ_pJ, RJ_mJ, RJ_pD, RJ_mD, RD_pI, RD_mI, RD_pJ, RD_mJ, RD_pD, RD_mD]) (by simp (disch := omega) only [RI_pI, RI_mI, RI_pJ, RI_mJ, RI_pD, RI_mD, RJ_pI, RJ_mI, RJ_pJ, RJ_mJ, RJ_pD, RJ_mD, RD_pI, RD_mI, RD_pJ, RD_mJ, RD_pD, RD_mD]), Sr_f a3 (by simp (disch := omega) only [RI_pI, RI_mI, RI_pJ, RI_mJ, RI_pD, RI_mD, RJ_pI, RJ_mI, RJ_pJ, RJ_mJ, RJ_pD, RJ_mD, RD_pI, RD_mI, RD_pJ, RD_mJ, RD_pD, RD_mD]) (by simp (disch := omega) only [RI_pI, RI_mI, RI_pJ, RI_mJ, RI_pD, RI_mD, RJ_pI, RJ_mI, RJ_pJ, RJ_mJ, RJ_pD, RJ_mD, RD_pI, RD_mI, RD_pJ, RD_mJ, RD_pD, RD_mD]), Sa_f a4 (by simp (disch := omega) only [RI_pI, RI_mI, RI_pJ, RI_mJ, RI_pD, RI_mD, RJ_pI, RJ_mI, RJ_pJ, RJ_mJ, RJ_pD, RJ_mD, RD_pI, RD_mI, RD_pJ, RD_mJ, RD_pD, RD_mD]) (by simp (disch := omega) only [RI_pI, RI_mI, RI_pJ, RI_mJ, RI_pD, RI_mD, RJ_pI, RJ_mI, RJ_pJ, RJ_mJ, RJ_pD, RJ_mD, RD_pI, RD_mI, RD_pJ, RD_mJ, RD_pD, RD_mD]), Sk_f a5 (by first | rfl | simp (disch := omega) only [gI_pI_s, gJ_pJ_s, gD_pD_s, gI_pJ, gI_pD, gJ_pI, gJ_pD, gD_pI, gD_pJ, gI_pI_a, gJ_pJ_a, gD_pD_a, gI_pI_k, gJ_pJ_k, gD_pD_k, gI_mI_i, gJ_mJ_i, gD_mD_i, gI_mJ, gI_mD, gJ_mI, gJ_mD, gD_mI, gD_mJ, gI_mI_a, gJ_mJ_a, gD_mD_a, gI_mI_o, gJ_mJ_o, gD_mD_o]) (by first | rfl | simp (disch := omega) only [gI_pI_s, gJ_pJ_s, gD_pD_s, gI_pJ, gI_pD, gJ_pI, gJ_pD, gD_pI, gD_pJ, gI_pI_a, gJ_pJ_a, gD_pD_a, gI_pI_k, gJ_pJ_k, gD_pD_k, gI_mI_i, gJ_mJ_i, gD_mD_i, gI_mJ, gI_mD, gJ_mI, gJ_mD, gD_mI, gD_mJ, gI_mI_a, gJ_mJ_a, gD_mD_a, gI_mI_o, gJ_mJ_o, gD_mD_o]), ?_, Sf_f a7 (by first | rfl | simp (disch := omega) only [gI_pI_s, gJ_pJ_s, gD_pD_s, gI_pJ, gI_pD, gJ_pI, gJ_pD, gD_pI, gD_pJ, gI_pI_a, gJ_pJ_a, gD_pD_a, gI_pI_k, gJ_pJ_k, gD_pD_k, gI_mI_i, gJ_mJ_i, gD_mD_i, gI_mJ, gI_mD, gJ_mI, gJ_mD, gD_mI, gD_mJ, gI_mI_a, gJ_mJ_a, gD_mD_a, gI_mI_o, gJ_mJ_o, gD_mD_o]) (by first | rfl | simp (disch := omega) only [gI_pI_s, gJ_pJ_s, gD_pD_s, gI_pJ, gI_pD, gJ_pI, gJ_pD, gD_pI, gD_pJ, gI_pI_a, gJ_pJ_a, gD_pD_a, gI_pI_k, gJ_pJ_k, gD_pD_k, gI_mI_i, gJ_mJ_i, gD_mD_i, gI_mJ, gI_mD, gJ_mI, gJ_mD, gD_mI, gD_mJ, gI_mI_a, gJ_mJ_a, gD_mD_a, gI_mI_o, gJ_mJ_o, gD_mD_o]) (by first | rfl | simp (disch := omega) only [gI_pI_s, gJ_pJ_s, gD_pD_s, gI_pJ, gI_pD, gJ_pI, gJ_pD, gD_pI, gD_pJ, gI_pI_a, gJ_pJ_a, gD_pD_a, gI_pI_k, gJ_pJ_k, gD_pD_k, gI_mI_i, gJ_mJ_i, gD_mD_i, gI_mJ, gI_mD, gJ_mI, gJ_mD, gD_mI, gD_mJ, gI_mI_a, gJ_mJ_a, gD_mD_a, gI_mI_o, gJ_mJ_o, gD_mD_o]) (by first | rfl | simp (disch := omega) only [gI_pI_s, gJ_pJ_s, gD_pD_s, gI_pJ, gI_pD, gJ_pI, gJ_pD, gD_pI, gD_pJ, gI_pI_a, gJ_pJ_a, gD_pD_a, gI_pI_k, gJ_pJ_k, gD_pD_k, gI_mI_i, gJ_mJ_i, gD_mD_i, gI_mJ, gI_mD, gJ_mI, gJ_mD, gD_mI, gD_mJ, gI_mI_a, gJ_mJ_a, gD_mD_a, gI_mI_o, gJ_mJ_o, gD_mD_o]) (by first | rfl | simp (disch := omega) only [gI_pI_s, gJ_pJ_s, gD_pD_s, gI_pJ, gI_pD, gJ_pI, gJ_pD, gD_pI, gD_pJ, gI_pI_a, gJ_pJ_a, gD_pD_a, gI_pI_k, gJ_pJ_k, gD_pD_k, gI_mI_i, gJ_mJ_i, gD_mD_i, gI_mJ, gI_mD, gJ_mI, gJ_mD, gD_mI, gD_mJ, gI_mI_a, gJ_mJ_a, gD_mD_a, gI_mI_o, gJ_mJ_o, gD_mD_o]), Si_f a8 (fun a ha => by simp (disch := omega) only [RI_pI, RI_mI, RI_pJ, RI_mJ, RI_pD, RI_mD, RJ_pI, RJ_mI, RJ_pJ, RJ_mJ, RJ_pD, RJ_mD, RD_pI, RD_mI, RD_pJ, RD_mJ, RD_pD, RD_mD]) (by simp (disch := omega) only [RI_pI, RI_mI, RI_pJ, RI_mJ, RI_pD, RI_mD, RJ_pI, RJ_mI, RJ_pJ, RJ_mJ, RJ_pD, RJ_mD, RD_pI, RD_mI, RD_pJ, RD_mJ, RD_pD, RD_mD]) (by simp (disch := omega) only [RI_pI, RI_mI, RI_pJ, RI_mJ, RI_pD, RI_mD, RJ_pI, RJ_mI, RJ_pJ, RJ_mJ, RJ_pD, RJ_mD, RD_pI, RD_mI, RD_pJ, RD_mJ, RD_pD, RD_mD]) (by simp (disch := omega) only [RI_pI, RI_mI, RI_pJ, RI_mJ, RI_pD, RI_mD, RJ_pI, RJ_mI, RJ_pJ, RJ_mJ, RJ_pD, RJ_mD, RD_pI, RD_mI, RD_pJ, RD_mJ, RD_pD, RD_mD]) (by first | rfl | simp (disch := omega) only [gI_pI_s, gJ_pJ_s, gD_pD_s, gI_pJ, gI_pD, gJ_pI, gJ_pD, gD_pI, gD_pJ, gI_pI_a, gJ_pJ_a, gD_pD_a, gI_pI_k, gJ_pJ_k, gD_pD_k, gI_mI_i, gJ_mJ_i, gD_mD_i, gI_mJ, gI_mD, gJ_mI, gJ_mD, gD_mI, gD_mJ, gI_mI_a, gJ_mJ_a, gD_mD_a, gI_mI_o, gJ_mJ_o, gD_mD_o]) (by first | rfl | simp (disch := omega) only [gI_pI_s, gJ_pJ_s, gD_pD_s, gI_pJ, gI_pD, gJ_pI, gJ_pD, gD_pI, gD_pJ, gI_pI_a, gJ_pJ_a, gD_pD_a, gI_pI_k, gJ_pJ_k, gD_pD_k, gI_mI_i, gJ_mJ_i, gD_mD_i, gI_mJ, gI_mD, gJ_mI, gJ_mD, gD_mI, gD_mJ, gI_mI_a, gJ_mJ_a, gD_mD_a, gI_mI_o, gJ_mJ_o, gD_mD_o]), Sb_f a9 (by first | rfl | simp (disch := omega) only [gI_pI_s, gJ_pJ_s, gD_pD_s, gI_pJ, gI_pD, gJ_pI, gJ_pD, gD_pI, gD_pJ, gI_pI_a, gJ_pJ_a, gD_pD_a, gI_pI_k, gJ_pJ_k, gD_pD_k, gI_mI_i, gJ_mJ_i, gD_mD_i, gI_mJ, gI_mD, gJ_mI, gJ_mD, gD_mI, gD_mJ, gI_mI_a, gJ_mJ_a, gD_mD_a, gI_mI_o, gJ_mJ_o, gD_mD_o]) (by simp (disch := omega) only [RI_pI, RI_mI, RI_pJ, RI_mJ, RI_pD, RI_mD, RJ_pI, RJ_mI, RJ_pJ, RJ_mJ, RJ_pD, RJ_mD, RD_pI, RD_mI, RD_pJ, RD_mJ, RD_pD, RD_mD]) (by first | rfl | simp (disch := omega) only [gI_pI_s, gJ_pJ_s, gD_pD_s, gI_pJ, gI_pD, gJ_pI, gJ_pD, gD_pI, gD_pJ, gI_pI_a, gJ_pJ_a, gD_pD_a, gI_pI_k, gJ_pJ_k, gD_pD_k, gI_mI_i, gJ_mJ_i, gD_mD_i, gI_mJ, gI_mD, gJ_mI, gJ_mD, gD_mI, gD_mJ, gI_mI_a, gJ_mJ_a, gD_mD_a, gI_mI_o, gJ_mJ_o, gD_mD_o]) (by simp (disch := omega) only [RI_pI, RI_mI, RI_pJ, RI_mJ, RI_pD, RI_mD, RJ_pI, RJ_mI, RJ_pJ, RJ_mJ, RJ_pD, RJ_mD, RD_pI, RD_mI, RD_pJ, RD_mJ, RD_pD, RD_mD])⟩, ?_⟩
  · obtain ⟨c1, c2, c3, c4, c5⟩ := a1 k hk
    by_cases e : k = s.toNatClampNeg
    · subst e
      simp (disch := omega) only [gI_pI_s, gJ_pJ_s, gD_pD_s, gI_pJ, gI_pD, gJ_pI, gJ_pD, gD_pI, gD_pJ, gI_pI_a, gJ_pJ_a, gD_pD_a, gI_pI_k, gJ_pJ_k, gD_pD_k]
      exact ⟨trivial, trivial, c3, c4, hl⟩
    · simp (disch := omega) only [gI_pI_s, gJ_pJ_s, gD_pD_s, gI_pJ, gI_pD, gJ_pI, gJ_pD, gD_pI, gD_pJ, gI_pI_a, gJ_pJ_a, gD_pD_a, gI_pI_k, gJ_pJ_k, gD_pD_k]
      exact ⟨c1, c2, c3, c4, c5⟩
  · unfold Sc
    simp (disch := omega) only [gI_pI_s, gJ_pJ_s, gD_pD_s, gI_pJ, gI_pD, gJ_pI, gJ_pD, gD_pI, gD_pJ, gI_pI_a, gJ_pJ_a, gD_pD_a, gI_pI_k, gJ_pJ_k, gD_pD_k]
    exact ⟨trivial, trivial, hc⟩
  · refine ⟨fun a ha => Sm_pJ (Sm_pJ (Sm_pJ (Sm_pJ (Sm_pJ (Sm_pJ Sm_refl (by omega)) (by omega)) (by omega)) (by omega)) (by omega)) (by omega), fun k hk => ?_, fun j hj => ?_, fun j hj => ?_, fun j hj => ?_⟩
    all_goals simp (disch := omega) only [gI_pI_s, gJ_pJ_s, gD_pD_s, gI_pJ, gI_pD, gJ_pI, gJ_pD, gD_pI, gD_pJ, gI_pI_a, gJ_pJ_a, gD_pD_a, gI_pI_k, gJ_pJ_k, gD_pD_k]
    all_goals trivial
/-- act 8: what was carried is added, the whole part stays, the rest is carried on -/
theorem a_carry {P : Int32} (h : SR b B p m lk τ σ) (hf : gI σ 130 32 = 0) (hn : 100 ≤ n) (hs : 0 ≤ s.toInt ∧ s.toInt ≤ 7) (hP : 0 ≤ P.toInt ∧ P.toInt ≤ 3) (hp : P.toNatClampNeg = p) : AO b B p m lk σ (c_X5_carry n b s τ) (c_X12_carries n s P σ) := by
  obtain ⟨x1, x2⟩ := ixB (v := s) h.1.2.2.2.1 h.1.2.2.2.2.2 hs
  obtain ⟨c1, c2, c3, c4, l1, l2, l3, l4, l5⟩ := h.2.1 _ (n7 hs)
  obtain ⟨d1, d2, d3, d4, d5, d6⟩ := h.2.2.2.2.2.2.1
  have hxs : ix s 8 := ix_of hs.1 (by omega)
  have hB := h.1.2.2.2.1
  have hb0 := h.1.2.2.2.2.2
  have hb' : b = 20 ∨ b = 34 ∨ b = 47 := h.1.2.2.1
  obtain ⟨-, y1, y2⟩ := ix2 (c := 4) (m := 2) (k := 4) (v := gI σ 130 16) (w := P) (by decide) (ix_of (by omega) (by omega)) (ix_of hP.1 (by omega)) rfl (by decide)
  have eB : (gI σ 130 16).toNatClampNeg = B := by rw [i32_nat]; omega
  rw [eB, hp] at y1
  have y2' : ix (4 * gI σ 130 16 + P) 8 := y2
  have h7 := n7 hs
  -- the sum
  have m1 := bnd_mul (a := (gJ τ b 7).toInt) (b := (gJ τ (b + 10) s.toNatClampNeg).toInt) (A := 1048576) (C := 1048576) (by omega) (by omega) (by omega) (by omega)
  have m2 := bnd_mul (a := (gJ τ (b + 9) s.toNatClampNeg).toInt) (b := (gJ τ b 8).toInt) (A := 1099511627776) (C := 1048576) (by omega) (by omega) (by omega) (by omega)
  have m3 := pos_mul (a := (gJ τ b 8).toInt) (b := (gJ τ (b + 10) s.toNatClampNeg).toInt) (A := 1048576) (C := 1048576) (by omega) (by omega) (by omega) (by omega)
  have z1 : (gJ τ b 7 * gJ τ (b + 10) s.toNatClampNeg).toInt = (gJ τ b 7).toInt * (gJ τ (b + 10) s.toNatClampNeg).toInt := i64_mul (by omega) (by omega)
  have z2 : (gJ τ (b + 9) s.toNatClampNeg * gJ τ b 8).toInt = (gJ τ (b + 9) s.toNatClampNeg).toInt * (gJ τ b 8).toInt := i64_mul (by omega) (by omega)
  have z3 : (gJ τ b 8 * gJ τ (b + 10) s.toNatClampNeg).toInt = (gJ τ b 8).toInt * (gJ τ (b + 10) s.toNatClampNeg).toInt := i64_mul (by omega) (by omega)
  have z4 : (gJ τ b 7 * gJ τ (b + 10) s.toNatClampNeg + gJ τ (b + 9) s.toNatClampNeg * gJ τ b 8).toInt = (gJ τ b 7).toInt * (gJ τ (b + 10) s.toNatClampNeg).toInt + (gJ τ (b + 9) s.toNatClampNeg).toInt * (gJ τ b 8).toInt := by rw [i64_add (by omega) (by omega), z1, z2]
  unfold c_X5_carry c_X12_carries
  simp only [nm_t, ck_t hxs, ck_t x2, ck_t y2', x1, y1, c1, c2, d1, d2]
  generalize hU : gJ τ b 7 * gJ τ (b + 10) s.toNatClampNeg + gJ τ (b + 9) s.toNatClampNeg * gJ τ b 8 = U at *
  generalize hL : gJ τ b 8 * gJ τ (b + 10) s.toNatClampNeg = L at *
  obtain ⟨g, g1, g2, g3, g4⟩ := div_v (n := n) (a := U) (b := L) hn (by omega) (by omega) (by omega)
  obtain ⟨k1, k2, k3, k4, k5, k6, k7⟩ := quo_v (a := U) (b := L) (by omega) (by omega) g3 g4
  have gz : ¬ g = 0 := by rw [i64_eq]; simp only [Int64.reduceToInt]; omega
  rw [g1, bp_s, if_neg (by rw [i64_le]; simp only [Int64.reduceToInt]; omega), ck_t gz]
  by_cases q : fin40 (U / g) (L / g)
  · obtain ⟨q1, q2, q3⟩ := q
    rw [spent_t ⟨q1, q2, q3⟩, bp_s, if_pos rfl, mb_t hB hb0 hs g2 g4 ⟨q1, q2, q3⟩, bd_s, if_neg (by decide)]
    generalize U / g = X at *
    generalize L / g = Y at *
    obtain ⟨w, w1, w2⟩ := rounding_v (n := X) (l := Y) (k := 1) (m := 4) k3 (by decide) (by simp only [Int64.reduceToInt]; omega) (by omega) (by omega) (by decide)
    obtain ⟨w', w1', w2', w3', w4'⟩ := floor_v (n := X) (d := Y) (by omega) (by omega) (by omega) (by omega)
    have e4 : (4 : Int32).toInt = 4 := rfl
    have e1 : (1 : Int64).toInt = 1 := rfl
    rw [e4, e1, Int.mul_one, Int.mul_one, rnd4] at w2
    have ew : w' = w := i64_ext (by rw [w2, w2'])
    subst ew
    have r1 := Int.emod_nonneg X.toInt (b := Y.toInt) (by omega)
    have r2 := Int.emod_lt_of_pos X.toInt (b := Y.toInt) (by omega)
    have re := Int.emod_add_mul_ediv X.toInt Y.toInt
    have wb : -1099511627776 ≤ w'.toInt ∧ w'.toInt ≤ 1099511627776 := by
      rw [w2']
      generalize X.toInt / Y.toInt = F at *
      by_cases h0 : 0 ≤ F
      · have : 1 * F ≤ Y.toInt * F := Int.mul_le_mul_of_nonneg_right k3 h0
        omega
      · have : Y.toInt * (F + 1) ≤ 1 * (F + 1) := Int.mul_le_mul_of_nonpos_right k3 (by omega)
        rw [Int.mul_add] at this
        omega
    have fw : fin40 w' 1 := ⟨wb.1, wb.2, by decide⟩
    have rd1 : gJ (pJ (pJ σ 142 (8 * B + s.toNatClampNeg) X) 143 (8 * B + s.toNatClampNeg) Y) 142 (8 * B + s.toNatClampNeg) = X := by simp (disch := omega) only [gI_pI_s, gJ_pJ_s, gD_pD_s, gI_pJ, gI_pD, gJ_pI, gJ_pD, gD_pI, gD_pJ, gI_pI_a, gJ_pJ_a, gD_pD_a, gI_pI_k, gJ_pJ_k, gD_pD_k]
    have rd2 : gJ (pJ (pJ σ 142 (8 * B + s.toNatClampNeg) X) 143 (8 * B + s.toNatClampNeg) Y) 143 (8 * B + s.toNatClampNeg) = Y := gJ_pJ_s
    have rg : Int.gcd (X - w' * Y).toInt Y.toInt = 1 := by
      rw [w4']
      have e : X.toInt % Y.toInt = X.toInt - Y.toInt * (X.toInt / Y.toInt) := by omega
      rw [e, Int.gcd_sub_mul_left_left]
      exact k5
    have cg : f_X12_common n (X - w' * Y) Y = some 1 := by
      obtain ⟨g', -, j2, j3, -⟩ := div_v (n := n) (a := X - w' * Y) (b := Y) hn (by omega) (by omega) (by omega)
      rw [j2]
      congr 1
      rw [i64_eq, j3, rg]; rfl
    have hw := mw_t (n := n) (u := w') (σ := pJ (pJ σ 142 (8 * B + s.toNatClampNeg) X) 143 (8 * B + s.toNatClampNeg) Y) hn hB hb0 hs fw
    rw [w1, bp_s, rd1, rd2, w1', bp_s, hw, bd_s, if_neg (by decide), cg, bp_s, ck_t (show ¬ (1 : Int64) = 0 by decide), div1, div1]
    have rd3 : gJ (pJ (pJ τ (b + 9) s.toNatClampNeg w') (b + 10) s.toNatClampNeg 1) (b + 9) s.toNatClampNeg = w' := by simp (disch := omega) only [gI_pI_s, gJ_pJ_s, gD_pD_s, gI_pJ, gI_pD, gJ_pI, gJ_pD, gD_pI, gD_pJ, gI_pI_a, gJ_pJ_a, gD_pD_a, gI_pI_k, gJ_pJ_k, gD_pD_k]
    rw [rd3]
    have z := SR_car (x := X) (y := Y) (w := w') (cu := X - w' * Y) (cl := Y) h hs (SL1 fw) ⟨by rw [w4']; exact r1, by rw [w4']; exact r2, q3, rg⟩
    exact ⟨_, _, _, rfl, rfl, z.1, z.2, by simp (disch := omega) only [gI_pI_s, gJ_pJ_s, gD_pD_s, gI_pJ, gI_pD, gJ_pI, gJ_pD, gD_pI, gD_pJ, gI_pI_a, gJ_pJ_a, gD_pD_a, gI_pI_k, gJ_pJ_k, gD_pD_k]; exact hf⟩
  · rw [spent_f q, bp_s, if_neg (by decide), mb_f g2 g4 q, bd_s, if_pos rfl]
    exact AO_spent h
end ACTS4
