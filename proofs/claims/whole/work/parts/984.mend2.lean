section MEND2
variable {p c : Nat} {P law fr to : Int32}
theorem k13m {k : Int32} (h : 0 ≤ k.toInt ∧ k.toInt ≤ 12) : k = 0 ∨ k = 1 ∨ k = 2 ∨ k = 3 ∨ k = 4 ∨ k = 5 ∨ k = 6 ∨ k = 7 ∨ k = 8 ∨ k = 9 ∨ k = 10 ∨ k = 11 ∨ k = 12 := by
  simp only [i32_eq, Int32.reduceToInt]; omega
/-- what an act chooses by -/
theorem chk_or {τ σ : Sg} {i : Int32} (h : Rl c τ σ) (hp : p < 4) (hi : 0 ≤ i.toInt ∧ i.toInt < 20) :
    (∃ o C C32, Chk (gI τ (5 * p + 75) i.toNatClampNeg) o C ∧ C32.toInt = C ∧ 0 ≤ (gI τ (5 * p + 74 + o) i.toNatClampNeg).toInt ∧ (gI τ (5 * p + 74 + o) i.toNatClampNeg).toInt < C ∧ c_X6_choice (5 * p + 74) i τ = some (gI τ (5 * p + 74 + o) i.toNatClampNeg) ∧ c_X6_choices (5 * p + 74) i τ = some C32) ∨
    (f_X12_hasChoice 130 (gI τ (5 * p + 75) i.toNatClampNeg) = some 0 ∧ (∃ x, c_X6_choice (5 * p + 74) i τ = some x) ∧ c_X6_choices (5 * p + 74) i τ = some 0) := by
  have ni := nat0 hi.1
  have hxi : ix i 20 := ix_of hi.1 (by omega)
  obtain ⟨-, -, -, -, A1, A2, A3, A4, A5⟩ := (h.2.2.2.2.2.1.2.2.2 p hp).2.2.2.1 i.toNatClampNeg (by omega)
  have g1 : gI τ (5 * p + 74 + 1) i.toNatClampNeg = gI τ (5 * p + 75) i.toNatClampNeg := rfl
  have g3 : gI τ (5 * p + 74 + 3) i.toNatClampNeg = gI τ (5 * p + 77) i.toNatClampNeg := rfl
  have g4 : gI τ (5 * p + 74 + 4) i.toNatClampNeg = gI τ (5 * p + 78) i.toNatClampNeg := rfl
  unfold c_X6_choice c_X6_choices c_X6_choosesByT
  simp only [ck_t hxi, g1]
  generalize gI τ (5 * p + 75) i.toNatClampNeg = K at *
  have z : ∀ (a b : Prop), (∃ x, some (gI τ (5 * p + 74 + 4) i.toNatClampNeg) = some x) := fun _ _ => ⟨_, rfl⟩
  rcases k13m ⟨A1, A2⟩ with rfl | rfl | rfl | rfl | rfl | rfl | rfl | rfl | rfl | rfl | rfl | rfl | rfl
  all_goals simp only [fitP, TM, VL, VM, Int32.reduceToNatClampNeg, List.getD_cons_zero, List.getD_cons_succ] at A5
  · right; exact ⟨rfl, ⟨_, rfl⟩, rfl⟩
  · left; exact ⟨4, 6, 6, Or.inl ⟨by decide, rfl, rfl⟩, rfl, by rw [g4]; omega, by rw [g4]; omega, rfl, rfl⟩
  · left; exact ⟨4, 6, 6, Or.inl ⟨by decide, rfl, rfl⟩, rfl, by rw [g4]; omega, by rw [g4]; omega, rfl, rfl⟩
  · right; exact ⟨rfl, ⟨_, rfl⟩, rfl⟩
  · left; exact ⟨3, 6, 6, Or.inr (Or.inl ⟨by decide, rfl, rfl⟩), rfl, by rw [g3]; omega, by rw [g3]; omega, rfl, rfl⟩
  · right; exact ⟨rfl, ⟨_, rfl⟩, rfl⟩
  · left; exact ⟨3, 4, 4, Or.inr (Or.inr ⟨by decide, rfl, rfl⟩), rfl, by rw [g3]; omega, by rw [g3]; omega, rfl, rfl⟩
  · right; exact ⟨rfl, ⟨_, rfl⟩, rfl⟩
  · right; exact ⟨rfl, ⟨_, rfl⟩, rfl⟩
  · right; exact ⟨rfl, ⟨_, rfl⟩, rfl⟩
  · right; exact ⟨rfl, ⟨_, rfl⟩, rfl⟩
  · left; exact ⟨4, 6, 6, Or.inl ⟨by decide, rfl, rfl⟩, rfl, by rw [g4]; omega, by rw [g4]; omega, rfl, rfl⟩
  · right; exact ⟨rfl, ⟨_, rfl⟩, rfl⟩
/-- all the acts -/
theorem al_mend (hF : FLT) (hp : p < 4) (hP : P.toInt = p) (hl : 0 ≤ law.toInt ∧ law.toInt ≤ 6) (hl2 : law ≠ 2) (hfr : -1000000 ≤ fr.toInt) (hto : to.toInt ≤ 1000000) (hsp : to.toInt - fr.toInt ≤ 300) (hsp2 : fr.toInt ≤ to.toInt) {N : Nat} :
    ∀ (d n : Nat) (i b0 : Int32) (τ σ : Sg), Rl c τ σ → (gI τ (5 * p + 74) 4).toInt = N → fr.toInt ≤ b0.toInt → b0.toInt ≤ to.toInt → 0 ≤ i.toInt → i.toInt + d = N → d + 2510 < n →
    ∃ r τ' σ', d_X11_mend_76 n law fr to (5 * p + 74) b0 i τ = some (r, τ') ∧ d_X12_mend_60 n P law fr to i σ = some (r, σ') ∧ Rl c τ' σ' := by
  have hx1 : ix P 4 := ix_of (by omega) (by omega)
  have eP : P.toNatClampNeg = p := by rw [i32_nat]; omega
  intro d
  induction d with
  | zero =>
    intro n i b0 τ σ h hN hb1 hb2 h3 h4 h5
    obtain ⟨n, rfl⟩ : ∃ k, n = k + 1 := ⟨n - 1, by omega⟩
    have e136 := (h.2.2.2.2.2.1.2.2.2 p hp).1
    rw [d_X11_mend_76, d_X12_mend_60, ck_t hx1, eP, e136, if_pos (by rw [i32_le]; omega), if_pos (by rw [i32_le]; omega)]
    exact ⟨_, _, _, rfl, rfl, h⟩
  | succ d ih =>
    intro n i b0 τ σ h hN hb1 hb2 h3 h4 h5
    obtain ⟨n, rfl⟩ : ∃ k, n = k + 1 := ⟨n - 1, by omega⟩
    obtain ⟨e136, -, l20, hacts, -⟩ := h.2.2.2.2.2.1.2.2.2 p hp
    have hi : 0 ≤ i.toInt ∧ i.toInt < 20 := by omega
    have ni := nat0 hi.1
    have c1 : (i + 1).toInt = i.toInt + 1 := i32_add1 (m := 64) (by omega) (by decide)
    have hxi : ix i 20 := ix_of hi.1 (by omega)
    obtain ⟨-, x2, x3⟩ := ix2 (c := 20) (m := 4) (k := 20) (v := P) (w := i) (by decide) hx1 hxi rfl (by decide)
    rw [eP] at x2
    have x3' : ix (20 * P + i) 80 := x3
    obtain ⟨hK, -, hT, hV, -⟩ := hacts i.toNatClampNeg (by omega)
    have hle : ¬ gI τ (5 * p + 74) 4 ≤ i := by rw [i32_le]; omega
    rw [d_X11_mend_76, if_neg hle, d_X12_mend_60, ck_t hx1, eP, e136, if_neg hle, nm_t]
    unfold d_X12_mend_103 d_X12_mend_120
    simp only [ck_t x3', x2, hK, hT, hV]
    rcases chk_or h hp hi with ⟨o, C, C32, hk, hC, hp1, hp2, s1, s2⟩ | ⟨s1, ⟨x, s2⟩, s3⟩
    · rw [s1, s2, bp_s, bp_s]
      have hd : ∀ k60 : Int32 → Sg → Option (Int32 × Sg), (if gI τ (5 * p + 75) i.toNatClampNeg = 4 then d_X12_mend_125 k60 n P law fr to i (20 * P + i) (gI τ (5 * p + 77) i.toNatClampNeg) 0 σ else if gI τ (5 * p + 75) i.toNatClampNeg = 6 then d_X12_mend_125 k60 n P law fr to i (20 * P + i) (gI τ (5 * p + 77) i.toNatClampNeg) 0 σ else d_X12_mend_125 k60 n P law fr to i (20 * P + i) (gI τ (5 * p + 78) i.toNatClampNeg) 0 σ) = d_X12_mend_125 k60 n P law fr to i (20 * P + i) (gI τ (5 * p + 74 + o) i.toNatClampNeg) 0 σ := by
        intro k60
        rcases hk with ⟨hk, rfl, -⟩ | ⟨hk, rfl, -⟩ | ⟨hk, rfl, -⟩
        · have n4 : ¬ gI τ (5 * p + 75) i.toNatClampNeg = 4 := by rcases hk with hk | hk | hk <;> (rw [hk]; decide)
          have n6 : ¬ gI τ (5 * p + 75) i.toNatClampNeg = 6 := by rcases hk with hk | hk | hk <;> (rw [hk]; decide)
          rw [if_neg n4, if_neg n6]
        · rw [if_pos hk]
        · have n4 : ¬ gI τ (5 * p + 75) i.toNatClampNeg = 4 := by rw [hk]; decide
          rw [if_neg n4, if_pos hk]
      rw [hd]
      have hC6 : C ≤ 6 := by
        rcases hk with ⟨-, -, h⟩ | ⟨-, -, h⟩ | ⟨-, -, h⟩ <;> omega
      have z := al_in (k76 := fun c6 c7 τ => d_X11_mend_76 n law fr to (5 * p + 74) c6 c7 τ) (k60 := fun c5 τ => d_X12_mend_60 n P law fr to c5 τ) (c := c) (pr := gI τ (5 * p + 74 + o) i.toNatClampNeg) hF hp hP hl hl2 hfr hto hsp hsp2 hi hk hC ⟨hp1, hp2⟩ C.toNat n n 0 b0 τ σ h rfl rfl hb1 hb2 (by decide) (by simp only [Int32.reduceToInt]; omega) (by omega) (by omega)
      rcases z with z | ⟨b1, τ', σ', z1, z2, z3, z4, z5, z6, z7⟩
      · exact z
      · rw [z1, z2]
        exact ih n (i + 1) b1 τ' σ' z3 (by rw [z6]; exact hN) z4 z5 (by omega) (by omega) (by omega)
    · rw [s2, s3, bp_s, bp_s]
      obtain ⟨n, rfl⟩ : ∃ k, n = k + 1 := ⟨n - 1, by omega⟩
      have hr : ∀ y : Int32, d_X12_mend_125 (fun c5 τ => d_X12_mend_60 (n + 1) P law fr to c5 τ) (n + 1) P law fr to i (20 * P + i) y 0 σ = d_X12_mend_60 (n + 1) P law fr to (i + 1) σ := by
        intro y
        rw [d_X12_mend_125, ck_t x3', x2, hK]
        unfold d_X12_mend_145 d_X12_mend_228
        simp only [ck_t x3', x2, hK, s1, bp_s, nm_t, if_true, ite_self, show ¬ (6 : Int32) ≤ 0 by decide, show ¬ (4 : Int32) ≤ 0 by decide, if_false]
      have hl : d_X11_mend_107 (fun c6 c7 τ => d_X11_mend_76 (n + 1) law fr to (5 * p + 74) c6 c7 τ) (n + 1) law fr to (5 * p + 74) b0 i x 0 0 τ = d_X11_mend_76 (n + 1) law fr to (5 * p + 74) b0 (i + 1) τ := by
        rw [d_X11_mend_107, if_pos (show (0 : Int32) ≤ 0 by decide)]
        unfold d_X11_mend_206
        rw [nm_t]
      rw [hl]
      simp only [hr, ite_self]
      exact ih (n + 1) (i + 1) b0 τ σ h hN hb1 hb2 (by omega) (by omega) (by omega)
theorem s_mend (hF : FLT) (n : Nat) (hn : 5000 ≤ n) (a1 a2 a3 a4 : Int32) {c : Nat} {τ σ : Sg} (h : Rl c τ σ) : ∃ r τ' σ', c_X11_mend n a1 a2 a3 a4 τ = some (r, τ') ∧ c_X12_mend n a1 a2 a3 a4 σ = some (r, σ') ∧ Rl (c + 1) τ' σ' := by
  have h5 := h.2.2.2.2.2.1
  have vp1 := v_isProgram12 h5 a1
  have g3 := h5.2.2.1
  have no : ∃ r τ' σ', some ((-1 : Int32), τ) = some (r, τ') ∧ some ((-1 : Int32), σ) = some (r, σ') ∧ Rl (c + 1) τ' σ' := ⟨_, _, _, rfl, rfl, Rl_s h⟩
  unfold c_X11_mend c_X12_mend
  rw [v_isProgram, vp1, v_isLaw, v_isSpan, v_in, v_isSpan12]
  simp only [bp_s, ite10, Int32.reduceToInt]
  by_cases q1 : 0 ≤ a1.toInt ∧ a1.toInt < (gI τ 4 8).toInt
  · rw [if_pos q1, if_pos q1]
    have n1 := nat0 q1.1
    have x1 : ix a1 4 := ix_of q1.1 (by omega)
    by_cases q2 : 0 ≤ a2.toInt ∧ a2.toInt ≤ 6
    · rw [if_pos q2, if_pos q2]
      by_cases q4 : a2 = 2
      · rw [if_pos q4, if_pos q4]; exact no
      · rw [if_neg q4, if_neg q4]
        by_cases q3 : (-1000000 ≤ a3.toInt ∧ a3.toInt ≤ 1000000) ∧ (-1000000 ≤ a4.toInt ∧ a4.toInt ≤ 1000000) ∧ a3.toInt ≤ a4.toInt ∧ a4.toInt - a3.toInt ≤ 300
        · rw [if_pos q3, if_pos q3, ck_t x1]
          obtain ⟨r, τ', σ', e1, e2, e3, e4, e5⟩ := al_least (p := a1.toNatClampNeg) (q := a1.toNatClampNeg) (P := a1) (Q := -1) (law := a2) (c := c) hF (by omega) n1.symm (by omega) (fun k => absurd k q4) (fun _ => rfl) q2 (a4.toInt - a3.toInt + 1).toNat n n a3 a4 τ σ h (by omega) (by omega) (by omega) (by omega) (by omega)
          have e1' : c_X10_firstBreak n (5 * a1.toNatClampNeg + 74) (5 * a1.toNatClampNeg + 74) a2 a3 a4 τ = some (r, τ') := e1
          have e2' : c_X12_leastOf n a1 a2 (-1) a3 a4 σ = some (r, σ') := e2
          rw [e1', e2', bd_s, bd_s]
          have h' : Rl c τ' σ' := Rl_try h e3 e4
          by_cases q5 : r = 9999999
          · rw [if_pos q5, if_pos q5]
            exact ⟨_, _, _, rfl, rfl, Rl_s h'⟩
          · rw [if_neg q5, if_neg q5]
            have e6 : a3.toInt ≤ r.toInt ∧ r.toInt ≤ a4.toInt := by
              rcases e5 with ⟨e5, -⟩ | e5
              · exact absurd e5 q5
              · exact e5
            have hN := (h'.2.2.2.2.2.1.2.2.2 a1.toNatClampNeg (by omega)).2
            obtain ⟨r2, τ2, σ2, f1, f2, f3⟩ := al_mend (p := a1.toNatClampNeg) (P := a1) (law := a2) (fr := a3) (to := a4) (c := c) (N := (gI τ' (5 * a1.toNatClampNeg + 74) 4).toInt.toNat) hF (by omega) n1.symm q2 q4 (by omega) (by omega) (by omega) (by omega) (gI τ' (5 * a1.toNatClampNeg + 74) 4).toInt.toNat n 0 r τ' σ' h' (by omega) e6.1 e6.2 (by decide) (by simp only [Int32.reduceToInt]; omega) (by omega)
            exact ⟨_, _, _, f1, f2, Rl_s f3⟩
        · rw [if_neg q3, if_neg q3]; exact no
    · rw [if_neg q2, if_neg q2]; exact no
  · rw [if_neg q1, if_neg q1]; exact no
end MEND2
