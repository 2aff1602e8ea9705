section ACTS3
variable {b B p m n : Nat} {lk : Int32} {τ σ : Sg} {s t v h1 : Int32}
/-- act 5: a slot is added to another or taken off -/
theorem a_add (h : SR b B p m lk τ σ) (hf : gI σ 130 32 = 0) (hn : 100 ≤ n) (hs : 0 ≤ s.toInt ∧ s.toInt ≤ 7) (ht : 0 ≤ t.toInt ∧ t.toInt ≤ 7) : AO b B p m lk σ (if v = 0 then (ck (ix t 8) <| d_X5_step_269 n b s t (gJ τ (b + 9) t.toNatClampNeg) τ) else (ck (ix t 8) <| d_X5_step_269 n b s t (-(gJ τ (b + 9) t.toNatClampNeg)) τ)) (c_X12_adds n s t v σ) := by
  obtain ⟨x1, x2⟩ := ixB (v := s) h.1.2.2.2.1 h.1.2.2.2.2.2 hs
  obtain ⟨y1, y2⟩ := ixB (v := t) h.1.2.2.2.1 h.1.2.2.2.2.2 ht
  obtain ⟨c1, c2, c3, c4, l1, l2, l3, l4, l5⟩ := h.2.1 _ (n7 hs)
  obtain ⟨d1, d2, d3, d4, k1, k2, k3, k4, k5⟩ := h.2.1 _ (n7 ht)
  have hxs : ix s 8 := ix_of hs.1 (by omega)
  have hxt : ix t 8 := ix_of ht.1 (by omega)
  -- the upper number that both come to
  have key : ∀ (A : Int64) (z : Int32), (z = 0 ∨ z = 1) → -1152921504606846976 ≤ A.toInt → A.toInt ≤ 1152921504606846976 → AO b B p m lk σ (d_X5_step_344 n z (gJ τ (b + 10) s.toNatClampNeg * gJ τ (b + 10) t.toNatClampNeg) (gJ τ (b + 9) s.toNatClampNeg * gJ τ (b + 10) t.toNatClampNeg + A) s b τ) (d_X12_adds_95 n (8 * gI σ 130 16 + s) (8 * gI σ 130 16 + t) z A (gJ τ (b + 9) s.toNatClampNeg * gJ τ (b + 10) t.toNatClampNeg) s σ) := by
    intro A z hz hA1 hA2
    unfold d_X5_step_344 d_X12_adds_95
    simp only [ck_t x2, ck_t y2, x1, y1, c2, d2, nm_t]
    have m1 := bnd_mul (a := (gJ τ (b + 9) s.toNatClampNeg).toInt) (b := (gJ τ (b + 10) t.toNatClampNeg).toInt) (C := 1048576) (A := 1099511627776) (by omega) l2 (by omega) k4
    have m2 := pos_mul l3 l4 k3 k4
    have z1 : (gJ τ (b + 9) s.toNatClampNeg * gJ τ (b + 10) t.toNatClampNeg).toInt = (gJ τ (b + 9) s.toNatClampNeg).toInt * (gJ τ (b + 10) t.toNatClampNeg).toInt := i64_mul (by omega) (by omega)
    have z2 : (gJ τ (b + 10) s.toNatClampNeg * gJ τ (b + 10) t.toNatClampNeg).toInt = (gJ τ (b + 10) s.toNatClampNeg).toInt * (gJ τ (b + 10) t.toNatClampNeg).toInt := i64_mul (by omega) (by omega)
    have z3 : (gJ τ (b + 9) s.toNatClampNeg * gJ τ (b + 10) t.toNatClampNeg + A).toInt = (gJ τ (b + 9) s.toNatClampNeg).toInt * (gJ τ (b + 10) t.toNatClampNeg).toInt + A.toInt := by rw [i64_add (by omega) (by omega), z1]
    rcases be2 (u := gJ τ (b + 9) s.toNatClampNeg * gJ τ (b + 10) t.toNatClampNeg + A) (l := gJ τ (b + 10) s.toNatClampNeg * gJ τ (b + 10) t.toNatClampNeg) h hf hn hs hz (by omega) (by omega) (by omega) with ⟨x, y, q, e1, e2⟩ | ⟨e1, e2⟩
    · rw [e1, e2, bd_s, bd_s, if_neg (by decide), ck_t hz]
      exact AO_set h hf hs q hz
    · rw [e1, e2, bd_s, bd_s, if_pos rfl]
      exact AO_spent h
  have mt := bnd_mul (a := (gJ τ (b + 9) t.toNatClampNeg).toInt) (b := (gJ τ (b + 10) s.toNatClampNeg).toInt) (C := 1048576) (A := 1099511627776) (by omega) k2 (by omega) l4
  have zt : (gJ τ (b + 9) t.toNatClampNeg * gJ τ (b + 10) s.toNatClampNeg).toInt = (gJ τ (b + 9) t.toNatClampNeg).toInt * (gJ τ (b + 10) s.toNatClampNeg).toInt := i64_mul (by omega) (by omega)
  have zn : (-(gJ τ (b + 9) t.toNatClampNeg * gJ τ (b + 10) s.toNatClampNeg)).toInt = -((gJ τ (b + 9) t.toNatClampNeg).toInt * (gJ τ (b + 10) s.toNatClampNeg).toInt) := by rw [i64_neg (by omega), zt]
  have en : -(gJ τ (b + 9) t.toNatClampNeg) * gJ τ (b + 10) s.toNatClampNeg = -(gJ τ (b + 9) t.toNatClampNeg * gJ τ (b + 10) s.toNatClampNeg) := Int64.neg_mul _ _
  unfold c_X12_adds d_X12_adds_42 d_X12_adds_47 d_X5_step_269 d_X5_step_339
  simp only [nm_t, ck_t x2, ck_t y2, ck_t hxs, ck_t hxt, x1, y1, c1, c2, c3, d1, d2, d3, en]
  by_cases q1 : gI τ (b + 11) s.toNatClampNeg = 0
  · rw [if_pos q1]
    by_cases q2 : gI τ (b + 11) t.toNatClampNeg = 0
    · simp only [if_pos q1, if_pos q2]
      by_cases q3 : v = 0
      · rw [if_pos q3, if_pos q3]
        exact key _ 0 (Or.inl rfl) (by omega) (by omega)
      · rw [if_neg q3, if_neg q3]
        exact key _ 0 (Or.inl rfl) (by omega) (by omega)
    · simp only [if_pos q1, if_neg q2]
      by_cases q3 : v = 0
      · rw [if_pos q3, if_pos q3]
        exact key _ 1 (Or.inr rfl) (by omega) (by omega)
      · rw [if_neg q3, if_neg q3]
        exact key _ 1 (Or.inr rfl) (by omega) (by omega)
  · simp only [if_neg q1]
    by_cases q3 : v = 0
    · rw [if_pos q3, if_pos q3]
      exact key _ 1 (Or.inr rfl) (by omega) (by omega)
    · rw [if_neg q3, if_neg q3]
      exact key _ 1 (Or.inr rfl) (by omega) (by omega)
/-- nothing done in both -/
theorem AO_nop (h : SR b B p m lk τ σ) (hf : gI σ 130 32 = 0) : AO b B p m lk σ (some (0, τ)) (some σ) := ⟨_, _, _, rfl, rfl, h, Fm_refl, hf⟩
/-- act 9: a slot is capped -/
theorem a_cap {L : Int64} (h : SR b B p m lk τ σ) (hf : gI σ 130 32 = 0) (hn : 100 ≤ n) (hs : 0 ≤ s.toInt ∧ s.toInt ≤ 7) (hL : 0 ≤ L.toInt ∧ L.toInt ≤ 1000000) : AO b B p m lk σ (c_X5_cap b s t L τ) (c_X12_caps s t L σ) := by
  obtain ⟨x1, x2⟩ := ixB (v := s) h.1.2.2.2.1 h.1.2.2.2.2.2 hs
  obtain ⟨c1, c2, c3, c4, l1, l2, l3, l4, l5⟩ := h.2.1 _ (n7 hs)
  have hxs : ix s 8 := ix_of hs.1 (by omega)
  have go : AO b B p m lk σ (d_X5_cap_41 b s L τ) (d_X12_caps_68 L (8 * gI σ 130 16 + s) 1 σ) := by
    unfold d_X5_cap_41 d_X12_caps_68
    have q : fin40 L 1 := ⟨by omega, by omega, by decide⟩
    rw [ck_t hxs, bw_t hs c4 q, bd_s, if_neg (by decide), ck_t x2, nm_t, ck_t x2, nm_t, x1]
    have hid : pI (pJ (pJ σ 142 (8 * B + s.toNatClampNeg) L) 143 (8 * B + s.toNatClampNeg) 1) 149 (8 * B + s.toNatClampNeg) (gI τ (b + 11) s.toNatClampNeg) = pJ (pJ σ 142 (8 * B + s.toNatClampNeg) L) 143 (8 * B + s.toNatClampNeg) 1 := pI_id (by rw [gI_pJ, gI_pJ, c3])
    have z := AO_set h hf hs (SL1 q) c4
    rw [hid] at z
    exact z
  have no : d_X12_caps_68 L (8 * gI σ 130 16 + s) 0 σ = some σ := rfl
  unfold c_X5_cap c_X12_caps
  simp only [nm_t, ck_t x2, ck_t hxs, x1, c1, c2, no]
  by_cases q1 : t = 0
  · rw [if_pos q1, if_pos q1]
    by_cases q2 : gJ τ (b + 9) s.toNatClampNeg ≤ L * gJ τ (b + 10) s.toNatClampNeg
    · rw [if_pos q2, if_pos q2]; exact AO_nop h hf
    · rw [if_neg q2, if_neg q2]; exact go
  · rw [if_neg q1, if_neg q1]
    by_cases q2 : L * gJ τ (b + 10) s.toNatClampNeg ≤ gJ τ (b + 9) s.toNatClampNeg
    · rw [if_pos q2, if_pos q2]; exact AO_nop h hf
    · rw [if_neg q2, if_neg q2]; exact go
theorem SR_book {x : Int64} {w : Int32} (h : SR b B p m lk τ σ) (ht : 0 ≤ t.toInt ∧ t.toInt ≤ 7) (hm : m < 1000000) (hw : w = 0 ∨ w = 1) : SR b B p (m + 1) lk (pI (pJ τ (b + 4) t.toNatClampNeg x) (b + 3) 1 (gI τ (b + 3) 1 + w)) (pI (pJ σ 146 (8 * B + t.toNatClampNeg) x) 130 31 (gI σ 130 31 + w)) ∧ Fm B p σ (pI (pJ σ 146 (8 * B + t.toNatClampNeg) x) 130 31 (gI σ 130 31 + w)) := by
  obtain ⟨⟨lt, ls, hb, hB, hp, hb0⟩, a1, a2, a3, a4, a5, a6, a7, a8, a9⟩ := h
  have hb' : b = 20 ∨ b = 34 ∨ b = 47 := hb
  have h7 := n7 ht
  refine ⟨⟨⟨lt, ls, hb, hB, hp, hb0⟩, Ss_f a1 (by simp (disch := omega) only [RI_pI, RI_mI, RI_pJ, RI_mJ, RI_pD, RI_mD, RJ_pI, RJ_mI, RJ_pJ, RJ_mJ, RJ_pD, RJ_mD, RD_pI, RD_mI, RD_pJ, RD_mJ, RD_pD, RD_mD]) (by simp (disch := omega) only [RI_pI, RI_mI, RI_pJ, RI_mJ, RI_pD, RI_mD, RJ_pI, RJ_mI, RJ_pJ, RJ_mJ, RJ_pD, RJ_mD, RD_pI, RD_mI, RD_pJ, RD_mJ, RD_pD, RD_mD]) (by simp (disch := omega) only [RI_pI, RI_mI, RI_pJ, RI_mJ, RI_pD, RI_mD, RJ_pI, RJ_mI, RJ_pJ, RJ_mJ, RJ_pD, RJ_mD, RD_pI, RD_mI, RD_pJ, RD_mJ, RD_pD, RD_mD]) (by simp (disch := omega) only [RI_pI, RI_mI, RI_pJ, RI_mJ, RI_pD, RI_mD, RJ_pI, RJ_mI, RJ_pJ, RJ_mJ, RJ_pD, RJ_mD, RD_pI, RD_mI, RD_pJ, RD_mJ, RD_pD, RD_mD]) (by simp (disch := omega) only [RI_pI, RI_mI, RI_pJ, RI_mJ, RI_pD, RI_mD, RJ_pI, RJ_mI, RJ_pJ, RJ_mJ, RJ_pD, RJ_mD, RD_pI, RD_mI, RD_pJ, RD_mJ, RD_pD, RD_mD]) (by simp (disch := omega) only [RI_pI, RI_mI, RI_pJ, RI_mJ, RI_pD, RI_mD, RJ_pI, RJ_mI, RJ_pJ, RJ_mJ, RJ_pD, RJ_mD, RD_pI, RD_mI, RD_pJ, RD_mJ, RD_pD, RD_mD]), Sp_f a2 (by simp (disch := omega) only [RI_pI, RI_mI, RI_pJ, RI_mJ, RI_pD, RI_mD, RJ_pI, RJ_mI, RJ_pJ, RJ_mJ, RJ_pD, RJ_mD, RD_pI, RD_mI, RD_pJ, RD_mJ, RD_pD, RD_mD]) (by simp (disch := omega) only [RI_pI, RI_mI, RI_pJ, RI_mJ, RI_pD, RI_mD, RJ_pI, RJ_mI, RJ_pJ, RJ_mJ, RJ_pD, RJ_mD, RD_pI, RD_mI, RD_pJ, RD_mJ, RD_pD, RD_mD]), Sr_f a3 (by simp (disch := omega) only [RI_pI, RI_mI, RI_pJ, RI_mJ, RI_pD, RI_mD, RJ_pI, RJ_mI, RJ_pJ, RJ_mJ, RJ_pD, RJ_mD, RD_pI, RD_mI, RD_pJ, RD_mJ, RD_pD, RD_mD]) (by simp (disch := omega) only [RI_pI, RI_mI, RI_pJ, RI_mJ, RI_pD, RI_mD, RJ_pI, RJ_mI, RJ_pJ, RJ_mJ, RJ_pD, RJ_mD, RD_pI, RD_mI, RD_pJ, RD_mJ, RD_pD, RD_mD]), fun k hk => ?_, ?_, Sc_f a6 (by simp (disch := omega) only [RI_pI, RI_mI, RI_pJ, RI_mJ, RI_pD, RI_mD, RJ_pI, RJ_mI, RJ_pJ, RJ_mJ, RJ_pD, RJ_mD, RD_pI, RD_mI, RD_pJ, RD_mJ, RD_pD, RD_mD]) (by simp (disch := omega) only [RI_pI, RI_mI, RI_pJ, RI_mJ, RI_pD, RI_mD, RJ_pI, RJ_mI, RJ_pJ, RJ_mJ, RJ_pD, RJ_mD, RD_pI, RD_mI, RD_pJ, RD_mJ, RD_pD, RD_mD]) (by simp (disch := omega) only [RI_pI, RI_mI, RI_pJ, RI_mJ, RI_pD, RI_mD, RJ_pI, RJ_mI, RJ_pJ, RJ_mJ, RJ_pD, RJ_mD, RD_pI, RD_mI, RD_pJ, RD_mJ, RD_pD, RD_mD]) (by simp (disch := omega) only [RI_pI, RI_mI, RI_pJ, RI_mJ, RI_pD, RI_mD, RJ_pI, RJ_mI, RJ_pJ, RJ_mJ, RJ_pD, RJ_mD, RD_pI, RD_mI, RD_pJ, RD_mJ, RD_pD, RD_mD]), Sf_f a7 (by first | rfl | simp (disch := omega) only [gI_pI_s, gJ_pJ_s, gD_pD_s, gI_pJ, gI_pD, gJ_pI, gJ_pD, gD_pI, gD_pJ, gI_pI_a, gJ_pJ_a, gD_pD_a, gI_pI_k, gJ_pJ_k, gD_pD_k, gI_mI_i, gJ_mJ_i, gD_mD_i, gI_mJ, gI_mD, gJ_mI, gJ_mD, gD_mI, gD_mJ, gI_mI_a, gJ_mJ_a, gD_mD_a, gI_mI_o, gJ_mJ_o, gD_mD_o]) (by first | rfl | simp (disch := omega) only [gI_pI_s, gJ_pJ_s, gD_pD_s, gI_pJ, gI_pD, gJ_pI, gJ_pD, gD_pI, gD_pJ, gI_pI_a, gJ_pJ_a, gD_pD_a, gI_pI_k, gJ_pJ_k, gD_pD_k, gI_mI_i, gJ_mJ_i, gD_mD_i, gI_mJ, gI_mD, gJ_mI, gJ_mD, gD_mI, gD_mJ, gI_mI_a, gJ_mJ_a, gD_mD_a, gI_mI_o, gJ_mJ_o, gD_mD_o]) (by first | rfl | simp (disch := omega) only [gI_pI_s, gJ_pJ_s, gD_pD_s, gI_pJ, gI_pD, gJ_pI, gJ_pD, gD_pI, gD_pJ, gI_pI_a, gJ_pJ_a, gD_pD_a, gI_pI_k, gJ_pJ_k, gD_pD_k, gI_mI_i, gJ_mJ_i, gD_mD_i, gI_mJ, gI_mD, gJ_mI, gJ_mD, gD_mI, gD_mJ, gI_mI_a, gJ_mJ_a, gD_mD_a, gI_mI_o, gJ_mJ_o, gD_mD_o]) (by first | rfl | simp (disch := omega) only [gI_pI_s, gJ_pJ_s, gD_pD_s, gI_pJ, gI_pD, gJ_pI, gJ_pD, gD_pI, gD_pJ, gI_pI_a, gJ_pJ_a, gD_pD_a, gI_pI_k, gJ_pJ_k, gD_pD_k, gI_mI_i, gJ_mJ_i, gD_mD_i, gI_mJ, gI_mD, gJ_mI, gJ_mD, gD_mI, gD_mJ, gI_mI_a, gJ_mJ_a, gD_mD_a, gI_mI_o, gJ_mJ_o, gD_mD_o]) (by first | rfl | simp (disch := omega) only [gI_pI_s, gJ_pJ_s, gD_pD_s, gI_pJ, gI_pD, gJ_pI, gJ_pD, gD_pI, gD_pJ, gI_pI_a, gJ_pJ_a, gD_pD_a, gI_pI_k, gJ_pJ_k, gD_pD_k, gI_mI_i, gJ_mJ_i, gD_mD_i, gI_mJ, gI_mD, gJ_mI, gJ_mD, gD_mI, gD_mJ, gI_mI_a, gJ_mJ_a, gD_mD_a, gI_mI_o, gJ_mJ_o, gD_mD_o]), Si_f a8 (fun a ha => by simp (disch := omega) only [RI_pI, RI_mI, RI_pJ, RI_mJ, RI_pD, RI_mD, RJ_pI, RJ_mI, RJ_pJ, RJ_mJ, RJ_pD, RJ_mD, RD_pI, RD_mI, RD_pJ, RD_mJ, RD_pD, RD_mD]) (by simp (disch := omega) only [RI_pI, RI_mI, RI_pJ, RI_mJ, RI_pD, RI_mD, RJ_pI, RJ_mI, RJ_pJ, RJ_mJ, RJ_pD, RJ_mD, RD_pI, RD_mI, RD_pJ, RD_mJ, RD_pD, RD_mD]) (by simp (disch := omega) only [RI_pI, RI_mI, RI_pJ, RI_mJ, RI_pD, RI_mD, RJ_pI, RJ_mI, RJ_pJ, RJ_mJ, RJ_pD, RJ_mD, RD_pI, RD_mI, RD_pJ, RD_mJ, RD_pD, RD_mD]) (by simp (disch := omega) only [RI_pI, RI_mI, RI_pJ, RI_mJ, RI_pD, RI_mD, RJ_pI, RJ_mI, RJ_pJ, RJ_mJ, RJ_pD, RJ_mD, RD_pI, RD_mI, RD_pJ, RD_mJ, RD_pD, RD_mD]) (by first | rfl | simp (disch := omega) only [gI_pI_s, gJ_pJ_s, gD_pD_s, gI_pJ, gI_pD, gJ_pI, gJ_pD, gD_pI, gD_pJ, gI_pI_a, gJ_pJ_a, gD_pD_a, gI_pI_k, gJ_pJ_k, gD_pD_k, gI_mI_i, gJ_mJ_i, gD_mD_i, gI_mJ, gI_mD, gJ_mI, gJ_mD, gD_mI, gD_mJ, gI_mI_a, gJ_mJ_a, gD_mD_a, gI_mI_o, gJ_mJ_o, gD_mD_o]) (by first | rfl | simp (disch := omega) only [gI_pI_s, gJ_pJ_s, gD_pD_s, gI_pJ, gI_pD, gJ_pI, gJ_pD, gD_pI, gD_pJ, gI_pI_a, gJ_pJ_a, gD_pD_a, gI_pI_k, gJ_pJ_k, gD_pD_k, gI_mI_i, gJ_mJ_i, gD_mD_i, gI_mJ, gI_mD, gJ_mI, gJ_mD, gD_mI, gD_mJ, gI_mI_a, gJ_mJ_a, gD_mD_a, gI_mI_o, gJ_mJ_o, gD_mD_o]), Sb_f a9 (by first | rfl | simp (disch := omega) only [gI_pI_s, gJ_pJ_s, gD_pD_s, gI_pJ, gI_pD, gJ_pI, gJ_pD, gD_pI, gD_pJ, gI_pI_a, gJ_pJ_a, gD_pD_a, gI_pI_k, gJ_pJ_k, gD_pD_k, gI_mI_i, gJ_mJ_i, gD_mD_i, gI_mJ, gI_mD, gJ_mI, gJ_mD, gD_mI, gD_mJ, gI_mI_a, gJ_mJ_a, gD_mD_a, gI_mI_o, gJ_mJ_o, gD_mD_o]) (by simp (disch := omega) only [RI_pI, RI_mI, RI_pJ, RI_mJ, RI_pD, RI_mD, RJ_pI, RJ_mI, RJ_pJ, RJ_mJ, RJ_pD, RJ_mD, RD_pI, RD_mI, RD_pJ, RD_mJ, RD_pD, RD_mD]) (by first | rfl | simp (disch := omega) only [gI_pI_s, gJ_pJ_s, gD_pD_s, gI_pJ, gI_pD, gJ_pI, gJ_pD, gD_pI, gD_pJ, gI_pI_a, gJ_pJ_a, gD_pD_a, gI_pI_k, gJ_pJ_k, gD_pD_k, gI_mI_i, gJ_mJ_i, gD_mD_i, gI_mJ, gI_mD, gJ_mI, gJ_mD, gD_mI, gD_mJ, gI_mI_a, gJ_mJ_a, gD_mD_a, gI_mI_o, gJ_mJ_o, gD_mD_o]) (by simp (disch := omega) only [RI_pI, RI_mI, RI_pJ, RI_mJ, RI_pD, RI_mD, RJ_pI, RJ_mI, RJ_pJ, RJ_mJ, RJ_pD, RJ_mD, RD_pI, RD_mI, RD_pJ, RD_mJ, RD_pD, RD_mD])⟩, ?_⟩
  · by_cases e : k = t.toNatClampNeg
    · subst e
      simp (disch := omega) only [gI_pI_s, gJ_pJ_s, gD_pD_s, gI_pJ, gI_pD, gJ_pI, gJ_pD, gD_pI, gD_pJ, gI_pI_a, gJ_pJ_a, gD_pD_a, gI_pI_k, gJ_pJ_k, gD_pD_k]
    · simp (disch := omega) only [gI_pI_s, gJ_pJ_s, gD_pD_s, gI_pJ, gI_pD, gJ_pI, gJ_pD, gD_pI, gD_pJ, gI_pI_a, gJ_pJ_a, gD_pD_a, gI_pI_k, gJ_pJ_k, gD_pD_k]
      exact a4 k hk
  · unfold Sk
    simp (disch := omega) only [gI_pI_s, gJ_pJ_s, gD_pD_s, gI_pJ, gI_pD, gJ_pI, gJ_pD, gD_pI, gD_pJ, gI_pI_a, gJ_pJ_a, gD_pD_a, gI_pI_k, gJ_pJ_k, gD_pD_k]
    obtain ⟨k1, k2, k3⟩ := a5
    have e : (gI σ 130 31 + w).toInt = (gI σ 130 31).toInt + w.toInt := by
      rcases hw with rfl | rfl
      · simp only [Int32.reduceToInt]
        rw [i32_add (by simp only [Int32.reduceToInt]; omega) (by simp only [Int32.reduceToInt]; omega)]; rfl
      · simp only [Int32.reduceToInt]
        rw [i32_add (by simp only [Int32.reduceToInt]; omega) (by simp only [Int32.reduceToInt]; omega)]; rfl
    have ew : w.toInt = 0 ∨ w.toInt = 1 := by
      rcases hw with rfl | rfl
      · exact Or.inl rfl
      · exact Or.inr rfl
    refine ⟨?_, by omega, by omega⟩
    rw [k1, Int32.add_assoc]
  · refine ⟨fun a ha => Sm_pI (Sm_pJ Sm_refl (by omega)) (by omega), fun k hk => ?_, fun j hj => ?_, fun j hj => ?_, fun j hj => ?_⟩
    all_goals simp (disch := omega) only [gI_pI_s, gJ_pJ_s, gD_pD_s, gI_pJ, gI_pD, gJ_pI, gJ_pD, gD_pI, gD_pJ, gI_pI_a, gJ_pJ_a, gD_pD_a, gI_pI_k, gJ_pJ_k, gD_pD_k]
    all_goals trivial
theorem SR_mono {m' : Nat} (h : SR b B p m lk τ σ) (hm : m ≤ m') : SR b B p m' lk τ σ := by
  obtain ⟨h0, a1, a2, a3, a4, a5, a6⟩ := h
  exact ⟨h0, a1, a2, a3, a4, ⟨a5.1, a5.2.1, by have := a5.2.2; omega⟩, a6⟩
theorem AO_mono {m' : Nat} {x : Option (Int32 × Sg)} {y : Option Sg} (h : AO b B p m lk σ x y) (hm : m ≤ m') : AO b B p m' lk σ x y := by
  obtain ⟨r, τ', σ', h1, h2, h3, h4, h5⟩ := h
  exact ⟨r, τ', σ', h1, h2, SR_mono h3 hm, h4, h5⟩
/-- act 10: a slot is booked -/
theorem a_book (h : SR b B p m lk τ σ) (hf : gI σ 130 32 = 0) (hn : 100 ≤ n) (hs : 0 ≤ s.toInt ∧ s.toInt ≤ 7) (ht : 0 ≤ t.toInt ∧ t.toInt ≤ 7) (hm : m < 1000000) : AO b B p (m + 1) lk σ (c_X5_book b s t v τ) (c_X12_books s t v σ) := by
  obtain ⟨x1, x2⟩ := ixB (v := s) h.1.2.2.2.1 h.1.2.2.2.2.2 hs
  obtain ⟨y1, y2⟩ := ixB (v := t) h.1.2.2.2.1 h.1.2.2.2.2.2 ht
  obtain ⟨c1, c2, c3, c4, l1, l2, l3, l4, l5⟩ := h.2.1 _ (n7 hs)
  have d1 := h.2.2.2.2.1 _ (n7 ht)
  have hxs : ix s 8 := ix_of hs.1 (by omega)
  have hxt : ix t 8 := ix_of ht.1 (by omega)
  have hb' : b = 20 ∨ b = 34 ∨ b = 47 := h.1.2.2.1
  have go : ∀ A : Int64, AO b B p (m + 1) lk σ (d_X5_book_44 b s A (gJ τ (b + 4) t.toNatClampNeg) t (b + 4) τ) (d_X12_books_67 (8 * gI σ 130 16 + s) A (gJ τ (b + 4) t.toNatClampNeg) (8 * gI σ 130 16 + t) 146 σ) := by
    intro A
    unfold d_X5_book_44 d_X12_books_67 d_X12_books_89
    simp only [nm_t, ck_t hxt, ck_t hxs, ck_t y2, ck_t x2, x1, y1]
    rcases c4 with c4 | c4
    · rw [if_pos (show gI (pJ τ (b + 4) t.toNatClampNeg (gJ τ (b + 4) t.toNatClampNeg + A)) (b + 11) s.toNatClampNeg = 0 from c4), if_pos (show gI (pJ σ 146 (8 * B + t.toNatClampNeg) (gJ τ (b + 4) t.toNatClampNeg + A)) 149 (8 * B + s.toNatClampNeg) = 0 from c3.trans c4)]
      have z := SR_book (x := gJ τ (b + 4) t.toNatClampNeg + A) (w := 0) h ht hm (Or.inl rfl)
      have hid : pI (pJ τ (b + 4) t.toNatClampNeg (gJ τ (b + 4) t.toNatClampNeg + A)) (b + 3) 1 (gI τ (b + 3) 1 + 0) = pJ τ (b + 4) t.toNatClampNeg (gJ τ (b + 4) t.toNatClampNeg + A) := pI_id (by rw [gI_pJ, Int32.add_zero])
      rw [hid] at z
      exact ⟨_, _, _, rfl, rfl, z.1, z.2, by simp (disch := omega) only [gI_pI_s, gJ_pJ_s, gD_pD_s, gI_pJ, gI_pD, gJ_pI, gJ_pD, gD_pI, gD_pJ, gI_pI_a, gJ_pJ_a, gD_pD_a, gI_pI_k, gJ_pJ_k, gD_pD_k]; exact hf⟩
    · have e : ¬ gI τ (b + 11) s.toNatClampNeg = 0 := by rw [c4]; decide
      rw [if_neg (show ¬ gI (pJ τ (b + 4) t.toNatClampNeg (gJ τ (b + 4) t.toNatClampNeg + A)) (b + 11) s.toNatClampNeg = 0 from e), if_neg (show ¬ gI (pJ σ 146 (8 * B + t.toNatClampNeg) (gJ τ (b + 4) t.toNatClampNeg + A)) 149 (8 * B + s.toNatClampNeg) = 0 from fun q => e (c3.symm.trans q))]
      have z := SR_book (x := gJ τ (b + 4) t.toNatClampNeg + A) (w := 1) h ht hm (Or.inr rfl)
      exact ⟨_, _, _, rfl, rfl, z.1, z.2, by simp (disch := omega) only [gI_pI_s, gJ_pJ_s, gD_pD_s, gI_pJ, gI_pD, gJ_pI, gJ_pD, gD_pI, gD_pJ, gI_pI_a, gJ_pJ_a, gD_pD_a, gI_pI_k, gJ_pJ_k, gD_pD_k]; exact hf⟩
  unfold c_X5_book c_X12_books
  simp only [nm_t, ck_t x2, ck_t y2, ck_t hxs, ck_t hxt, x1, y1, c1, c2, d1]
  by_cases q : gJ τ (b + 10) s.toNatClampNeg = 1
  · rw [if_pos q, if_pos q]
    by_cases q2 : v = 0
    · rw [if_pos q2, if_pos q2]; exact go _
    · rw [if_neg q2, if_neg q2]; exact go _
  · rw [if_neg q, if_neg q]; exact AO_mono (AO_spent h) (by omega)
end ACTS3
