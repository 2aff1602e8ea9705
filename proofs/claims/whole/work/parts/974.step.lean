section STEP
variable {b B p m n : Nat} {lk : Int32} {τ σ τ' σ' : Sg} {s t v i P : Int32}
theorem bd_id {α : Type} {x : Option (α × Sg)} : bd x (fun v τ => some (v, τ)) = x := by
  cases x with
  | none => rfl
  | some q => rfl
theorem bp_id {α : Type} {x : Option α} : bp x (fun v => some v) = x := by
  cases x with
  | none => rfl
  | some q => rfl
/-- rates, weights and the acts of program p are the same -/
def Cx (p : Nat) (τ σ : Sg) : Prop := Rtab τ σ ∧ Rwts τ σ ∧ gI σ 136 p = gI τ (5 * p + 74) 4 ∧ 0 ≤ (gI τ (5 * p + 74) 4).toInt ∧ (gI τ (5 * p + 74) 4).toInt ≤ 20 ∧ ∀ i, i < 20 → gI σ 137 (20 * p + i) = gI τ (5 * p + 75) i ∧ gI σ 138 (20 * p + i) = gI τ (5 * p + 76) i ∧ gI σ 139 (20 * p + i) = gI τ (5 * p + 77) i ∧ gI σ 140 (20 * p + i) = gI τ (5 * p + 78) i ∧ Act (gI τ (5 * p + 75) i) (gI τ (5 * p + 76) i) (gI τ (5 * p + 77) i) (gI τ (5 * p + 78) i)
theorem Cx_f (h : Cx p τ σ) (hp : p < 4) (e : ∀ a, (6 ≤ a ∧ a ≤ 13) ∨ (74 ≤ a ∧ a ≤ 93) → Sm τ τ' a) (e' : ∀ a, 131 ≤ a ∧ a ≤ 140 → Sm σ σ' a) : Cx p τ' σ' := by
  obtain ⟨h1, h2, h3⟩ := h
  refine ⟨Rtab_f h1 (fun a ha => e a (by omega)) (fun a ha => e' a (by omega)), Rwts_f h2 (fun a ha => e a (by omega)) (fun a ha => e' a (by omega)), ?_⟩
  rw [(e (5 * p + 74) (by omega)).1, (e (5 * p + 75) (by omega)).1, (e (5 * p + 76) (by omega)).1, (e (5 * p + 77) (by omega)).1, (e (5 * p + 78) (by omega)).1, (e' 136 (by omega)).1, (e' 137 (by omega)).1, (e' 138 (by omega)).1, (e' 139 (by omega)).1, (e' 140 (by omega)).1]
  exact h3
/-- one act -/
theorem step_v (h : SR b B p m lk τ σ) (hc : Cx p τ σ) (hf : gI σ 130 32 = 0) (hn : 300 ≤ n) (hm : m < 1000000) (hP : P.toInt = p) (hi : 0 ≤ i.toInt ∧ i.toInt < 20) : AO b B p (m + 1) lk σ (c_X5_step n b (5 * p + 74) i τ) (c_X12_does n P (20 * P + i) σ) := by
  have hp := h.1.2.2.2.2.1
  obtain ⟨t1, t2, -, -, -, t6⟩ := hc
  have ni := nat0 hi.1
  have hxi : ix i 20 := ix_of hi.1 (by omega)
  obtain ⟨-, x2, x3⟩ := ix2 (c := 20) (m := 4) (k := 20) (v := P) (w := i) (by decide) (ix_of (by omega) (by omega)) hxi rfl (by decide)
  have eP : P.toNatClampNeg = p := by rw [i32_nat]; omega
  rw [eP] at x2
  have x3' : ix (20 * P + i) 80 := x3
  obtain ⟨r1, r2, r3, r4, A1, A2, A3, A4, A5⟩ := t6 i.toNatClampNeg (by omega)
  have hs : 0 ≤ (gI τ (5 * p + 76) i.toNatClampNeg).toInt ∧ (gI τ (5 * p + 76) i.toNatClampNeg).toInt ≤ 7 := ⟨A3, A4⟩
  unfold c_X5_step c_X12_does
  simp only [nm_t, ck_t hxi, ck_t x3', x2, r1, r2, r3, r4]
  have g1 : gI τ (5 * p + 74 + 1) i.toNatClampNeg = gI τ (5 * p + 75) i.toNatClampNeg := rfl
  have g2 : gI τ (5 * p + 74 + 2) i.toNatClampNeg = gI τ (5 * p + 76) i.toNatClampNeg := rfl
  have g3 : gI τ (5 * p + 74 + 3) i.toNatClampNeg = gI τ (5 * p + 77) i.toNatClampNeg := rfl
  have g4 : gI τ (5 * p + 74 + 4) i.toNatClampNeg = gI τ (5 * p + 78) i.toNatClampNeg := rfl
  rw [g1, g2, g3, g4]
  generalize gI τ (5 * p + 76) i.toNatClampNeg = s at *
  generalize gI τ (5 * p + 77) i.toNatClampNeg = t at *
  generalize gI τ (5 * p + 78) i.toNatClampNeg = v at *
  have hxs : ix s 8 := ix_of hs.1 (by omega)
  have rt : ∀ k : Int32, 0 ≤ k.toInt ∧ k.toInt ≤ 7 → ix k 8 ∧ (gI σ 131 k.toNatClampNeg).toInt64 = (gI τ 6 k.toNatClampNeg).toInt64 ∧ (gI σ 132 k.toNatClampNeg).toInt64 = (gI τ 7 k.toNatClampNeg).toInt64 ∧ (0 ≤ (gI τ 6 k.toNatClampNeg).toInt64.toInt ∧ (gI τ 6 k.toNatClampNeg).toInt64.toInt ≤ 10000) ∧ (1 ≤ (gI τ 7 k.toNatClampNeg).toInt64.toInt ∧ (gI τ 7 k.toNatClampNeg).toInt64.toInt ≤ 1000) := by
    intro k hk
    obtain ⟨u1, u2, u3, u4, u5, u6⟩ := t1 k.toNatClampNeg (n7 hk)
    rw [i64_of32, i64_of32, u1, u2]
    exact ⟨ix_of hk.1 (by omega), rfl, rfl, ⟨u3, u4⟩, ⟨u5, u6⟩⟩
  have A5' : fitP (gI τ (5 * p + 75) i.toNatClampNeg).toNatClampNeg t.toInt v.toInt := A5
  clear A5
  rcases k13 ⟨A1, A2⟩ with e | e | e | e | e | e | e | e | e | e | e | e | e
  all_goals rw [e] at A5' ⊢
  all_goals simp only [fitP, TM, VL, VM, Int32.reduceToNatClampNeg, List.getD_cons_zero, List.getD_cons_succ] at A5'
  · simp only [if_neg (show ¬ (0 : Int32) = 1 by decide), if_neg (show ¬ (0 : Int32) = 2 by decide), if_neg (show ¬ (0 : Int32) = 3 by decide), if_neg (show ¬ (0 : Int32) = 4 by decide), if_neg (show ¬ (0 : Int32) = 5 by decide), if_neg (show ¬ (0 : Int32) = 6 by decide), if_neg (show ¬ (0 : Int32) = 7 by decide), if_neg (show ¬ (0 : Int32) = 8 by decide), if_neg (show ¬ (0 : Int32) = 9 by decide), if_neg (show ¬ (0 : Int32) = 10 by decide), if_neg (show ¬ (0 : Int32) = 11 by decide), if_neg (show ¬ (0 : Int32) = 12 by decide), if_pos (show (0 : Int32) = 0 from rfl), bd_id, bp_id]
    have z := a_sum (n := n) h hf (by omega) hs (by omega)
    try simp only [bd_id, bp_id, nm_t] at z
    first | exact z | exact AO_mono z (Nat.le_succ m)
  · simp only [if_neg (show ¬ (1 : Int32) = 0 by decide), if_neg (show ¬ (1 : Int32) = 2 by decide), if_neg (show ¬ (1 : Int32) = 3 by decide), if_neg (show ¬ (1 : Int32) = 4 by decide), if_neg (show ¬ (1 : Int32) = 5 by decide), if_neg (show ¬ (1 : Int32) = 6 by decide), if_neg (show ¬ (1 : Int32) = 7 by decide), if_neg (show ¬ (1 : Int32) = 8 by decide), if_neg (show ¬ (1 : Int32) = 9 by decide), if_neg (show ¬ (1 : Int32) = 10 by decide), if_neg (show ¬ (1 : Int32) = 11 by decide), if_neg (show ¬ (1 : Int32) = 12 by decide), if_pos (show (1 : Int32) = 1 from rfl), ck_t (rt t ⟨A5'.1, A5'.2.1⟩).1, bd_id, bp_id]
    have z := a_tax (n := n) h hf (by omega) hs ⟨A5'.1, A5'.2.1⟩ ⟨A5'.2.2.1, A5'.2.2.2⟩ (rt t ⟨A5'.1, A5'.2.1⟩).2.1 (rt t ⟨A5'.1, A5'.2.1⟩).2.2.1 (rt t ⟨A5'.1, A5'.2.1⟩).2.2.2.1 (rt t ⟨A5'.1, A5'.2.1⟩).2.2.2.2
    try simp only [ck_t (rt t ⟨A5'.1, A5'.2.1⟩).1, bd_id, bp_id, nm_t] at z
    first | exact z | exact AO_mono z (Nat.le_succ m)
  · simp only [if_neg (show ¬ (2 : Int32) = 0 by decide), if_neg (show ¬ (2 : Int32) = 1 by decide), if_neg (show ¬ (2 : Int32) = 3 by decide), if_neg (show ¬ (2 : Int32) = 4 by decide), if_neg (show ¬ (2 : Int32) = 5 by decide), if_neg (show ¬ (2 : Int32) = 6 by decide), if_neg (show ¬ (2 : Int32) = 7 by decide), if_neg (show ¬ (2 : Int32) = 8 by decide), if_neg (show ¬ (2 : Int32) = 9 by decide), if_neg (show ¬ (2 : Int32) = 10 by decide), if_neg (show ¬ (2 : Int32) = 11 by decide), if_neg (show ¬ (2 : Int32) = 12 by decide), if_pos (show (2 : Int32) = 2 from rfl), ck_t (rt t ⟨A5'.1, A5'.2.1⟩).1, bd_id, bp_id]
    have z := a_flow (n := n) h hf (by omega) hs ⟨A5'.1, A5'.2.1⟩ ⟨A5'.2.2.1, A5'.2.2.2⟩ (rt t ⟨A5'.1, A5'.2.1⟩).2.1 (rt t ⟨A5'.1, A5'.2.1⟩).2.2.1 (rt t ⟨A5'.1, A5'.2.1⟩).2.2.2.1 (rt t ⟨A5'.1, A5'.2.1⟩).2.2.2.2
    try simp only [ck_t (rt t ⟨A5'.1, A5'.2.1⟩).1, bd_id, bp_id, nm_t] at z
    first | exact z | exact AO_mono z (Nat.le_succ m)
  · simp only [if_neg (show ¬ (3 : Int32) = 0 by decide), if_neg (show ¬ (3 : Int32) = 1 by decide), if_neg (show ¬ (3 : Int32) = 2 by decide), if_neg (show ¬ (3 : Int32) = 4 by decide), if_neg (show ¬ (3 : Int32) = 5 by decide), if_neg (show ¬ (3 : Int32) = 6 by decide), if_neg (show ¬ (3 : Int32) = 7 by decide), if_neg (show ¬ (3 : Int32) = 8 by decide), if_neg (show ¬ (3 : Int32) = 9 by decide), if_neg (show ¬ (3 : Int32) = 10 by decide), if_neg (show ¬ (3 : Int32) = 11 by decide), if_neg (show ¬ (3 : Int32) = 12 by decide), if_pos (show (3 : Int32) = 3 from rfl), ck_t (rt t ⟨A5'.1, A5'.2.1⟩).1, ck_t (rt v ⟨A5'.2.2.1, A5'.2.2.2⟩).1, bd_id, bp_id]
    have z := a_rate (n := n) h hf (by omega) hs ⟨A5'.1, A5'.2.1⟩ ⟨A5'.2.2.1, A5'.2.2.2⟩ (rt v ⟨A5'.2.2.1, A5'.2.2.2⟩).2.1 (rt v ⟨A5'.2.2.1, A5'.2.2.2⟩).2.2.1 (rt v ⟨A5'.2.2.1, A5'.2.2.2⟩).2.2.2.1 (rt v ⟨A5'.2.2.1, A5'.2.2.2⟩).2.2.2.2
    try simp only [ck_t (rt t ⟨A5'.1, A5'.2.1⟩).1, bd_id, bp_id, nm_t] at z
    first | exact z | exact AO_mono z (Nat.le_succ m)
  · simp only [if_neg (show ¬ (4 : Int32) = 0 by decide), if_neg (show ¬ (4 : Int32) = 1 by decide), if_neg (show ¬ (4 : Int32) = 2 by decide), if_neg (show ¬ (4 : Int32) = 3 by decide), if_neg (show ¬ (4 : Int32) = 5 by decide), if_neg (show ¬ (4 : Int32) = 6 by decide), if_neg (show ¬ (4 : Int32) = 7 by decide), if_neg (show ¬ (4 : Int32) = 8 by decide), if_neg (show ¬ (4 : Int32) = 9 by decide), if_neg (show ¬ (4 : Int32) = 10 by decide), if_neg (show ¬ (4 : Int32) = 11 by decide), if_neg (show ¬ (4 : Int32) = 12 by decide), if_pos (show (4 : Int32) = 4 from rfl), ck_t hxs, bd_id, bp_id]
    have z := a_round (n := n) h hf (by omega) hs ⟨A5'.1, A5'.2.1⟩ ⟨A5'.2.2.1, A5'.2.2.2⟩
    try simp only [ck_t hxs, bd_id, bp_id, nm_t] at z
    first | exact z | exact AO_mono z (Nat.le_succ m)
  · simp only [if_neg (show ¬ (5 : Int32) = 0 by decide), if_neg (show ¬ (5 : Int32) = 1 by decide), if_neg (show ¬ (5 : Int32) = 2 by decide), if_neg (show ¬ (5 : Int32) = 3 by decide), if_neg (show ¬ (5 : Int32) = 4 by decide), if_neg (show ¬ (5 : Int32) = 6 by decide), if_neg (show ¬ (5 : Int32) = 7 by decide), if_neg (show ¬ (5 : Int32) = 8 by decide), if_neg (show ¬ (5 : Int32) = 9 by decide), if_neg (show ¬ (5 : Int32) = 10 by decide), if_neg (show ¬ (5 : Int32) = 11 by decide), if_neg (show ¬ (5 : Int32) = 12 by decide), if_pos (show (5 : Int32) = 5 from rfl), ck_t (rt t ⟨A5'.1, A5'.2.1⟩).1, bd_id, bp_id]
    have z := a_add (n := n) (v := v) h hf (by omega) hs ⟨A5'.1, A5'.2.1⟩
    try simp only [ck_t (rt t ⟨A5'.1, A5'.2.1⟩).1, bd_id, bp_id, nm_t] at z
    first | exact z | exact AO_mono z (Nat.le_succ m)
  · simp only [if_neg (show ¬ (6 : Int32) = 0 by decide), if_neg (show ¬ (6 : Int32) = 1 by decide), if_neg (show ¬ (6 : Int32) = 2 by decide), if_neg (show ¬ (6 : Int32) = 3 by decide), if_neg (show ¬ (6 : Int32) = 4 by decide), if_neg (show ¬ (6 : Int32) = 5 by decide), if_neg (show ¬ (6 : Int32) = 7 by decide), if_neg (show ¬ (6 : Int32) = 8 by decide), if_neg (show ¬ (6 : Int32) = 9 by decide), if_neg (show ¬ (6 : Int32) = 10 by decide), if_neg (show ¬ (6 : Int32) = 11 by decide), if_neg (show ¬ (6 : Int32) = 12 by decide), if_pos (show (6 : Int32) = 6 from rfl), bd_id, bp_id]
    have wm : Wm v.toNatClampNeg v τ σ := by
      have nv := nat0 (v := v) A5'.2.2.1
      obtain ⟨q1, q2, q3, q4⟩ := t2 v.toNatClampNeg (by omega)
      exact ⟨by omega, by omega, q1, q2, q3, q4⟩
    have z := a_split (n := n) h hf (by omega) hs ⟨A5'.1, A5'.2.1⟩ ⟨A5'.2.2.1, A5'.2.2.2⟩ wm
    try simp only [bd_id, bp_id, nm_t] at z
    first | exact z | exact AO_mono z (Nat.le_succ m)
  · simp only [if_neg (show ¬ (7 : Int32) = 0 by decide), if_neg (show ¬ (7 : Int32) = 1 by decide), if_neg (show ¬ (7 : Int32) = 2 by decide), if_neg (show ¬ (7 : Int32) = 3 by decide), if_neg (show ¬ (7 : Int32) = 4 by decide), if_neg (show ¬ (7 : Int32) = 5 by decide), if_neg (show ¬ (7 : Int32) = 6 by decide), if_neg (show ¬ (7 : Int32) = 8 by decide), if_neg (show ¬ (7 : Int32) = 9 by decide), if_neg (show ¬ (7 : Int32) = 10 by decide), if_neg (show ¬ (7 : Int32) = 11 by decide), if_neg (show ¬ (7 : Int32) = 12 by decide), if_pos (show (7 : Int32) = 7 from rfl), ck_t (rt t ⟨A5'.1, A5'.2.1⟩).1, bd_id, bp_id]
    have z := a_part (n := n) h hf (by omega) hs ⟨A5'.1, A5'.2.1⟩
    try simp only [ck_t (rt t ⟨A5'.1, A5'.2.1⟩).1, bd_id, bp_id, nm_t] at z
    first | exact z | exact AO_mono z (Nat.le_succ m)
  · simp only [if_neg (show ¬ (8 : Int32) = 0 by decide), if_neg (show ¬ (8 : Int32) = 1 by decide), if_neg (show ¬ (8 : Int32) = 2 by decide), if_neg (show ¬ (8 : Int32) = 3 by decide), if_neg (show ¬ (8 : Int32) = 4 by decide), if_neg (show ¬ (8 : Int32) = 5 by decide), if_neg (show ¬ (8 : Int32) = 6 by decide), if_neg (show ¬ (8 : Int32) = 7 by decide), if_neg (show ¬ (8 : Int32) = 9 by decide), if_neg (show ¬ (8 : Int32) = 10 by decide), if_neg (show ¬ (8 : Int32) = 11 by decide), if_neg (show ¬ (8 : Int32) = 12 by decide), if_pos (show (8 : Int32) = 8 from rfl), bd_id, bp_id]
    have z := a_carry (n := n) (P := P) h hf (by omega) hs (by omega) eP
    try simp only [bd_id, bp_id, nm_t] at z
    first | exact z | exact AO_mono z (Nat.le_succ m)
  · simp only [if_neg (show ¬ (9 : Int32) = 0 by decide), if_neg (show ¬ (9 : Int32) = 1 by decide), if_neg (show ¬ (9 : Int32) = 2 by decide), if_neg (show ¬ (9 : Int32) = 3 by decide), if_neg (show ¬ (9 : Int32) = 4 by decide), if_neg (show ¬ (9 : Int32) = 5 by decide), if_neg (show ¬ (9 : Int32) = 6 by decide), if_neg (show ¬ (9 : Int32) = 7 by decide), if_neg (show ¬ (9 : Int32) = 8 by decide), if_neg (show ¬ (9 : Int32) = 10 by decide), if_neg (show ¬ (9 : Int32) = 11 by decide), if_neg (show ¬ (9 : Int32) = 12 by decide), if_pos (show (9 : Int32) = 9 from rfl), bd_id, bp_id]
    have z := a_cap (n := n) (t := t) (L := v.toInt64) h hf (by omega) hs (by rw [i64_of32]; exact ⟨A5'.2.2.1, A5'.2.2.2⟩)
    try simp only [bd_id, bp_id, nm_t] at z
    first | exact z | exact AO_mono z (Nat.le_succ m)
  · simp only [if_neg (show ¬ (10 : Int32) = 0 by decide), if_neg (show ¬ (10 : Int32) = 1 by decide), if_neg (show ¬ (10 : Int32) = 2 by decide), if_neg (show ¬ (10 : Int32) = 3 by decide), if_neg (show ¬ (10 : Int32) = 4 by decide), if_neg (show ¬ (10 : Int32) = 5 by decide), if_neg (show ¬ (10 : Int32) = 6 by decide), if_neg (show ¬ (10 : Int32) = 7 by decide), if_neg (show ¬ (10 : Int32) = 8 by decide), if_neg (show ¬ (10 : Int32) = 9 by decide), if_neg (show ¬ (10 : Int32) = 11 by decide), if_neg (show ¬ (10 : Int32) = 12 by decide), if_pos (show (10 : Int32) = 10 from rfl), bd_id, bp_id]
    have z := a_book (n := n) (v := v) h hf (by omega) hs ⟨A5'.1, A5'.2.1⟩ hm
    try simp only [bd_id, bp_id, nm_t] at z
    first | exact z | exact AO_mono z (Nat.le_succ m)
  · simp only [if_neg (show ¬ (11 : Int32) = 0 by decide), if_neg (show ¬ (11 : Int32) = 1 by decide), if_neg (show ¬ (11 : Int32) = 2 by decide), if_neg (show ¬ (11 : Int32) = 3 by decide), if_neg (show ¬ (11 : Int32) = 4 by decide), if_neg (show ¬ (11 : Int32) = 5 by decide), if_neg (show ¬ (11 : Int32) = 6 by decide), if_neg (show ¬ (11 : Int32) = 7 by decide), if_neg (show ¬ (11 : Int32) = 8 by decide), if_neg (show ¬ (11 : Int32) = 9 by decide), if_neg (show ¬ (11 : Int32) = 10 by decide), if_neg (show ¬ (11 : Int32) = 12 by decide), if_pos (show (11 : Int32) = 11 from rfl), ck_t (rt t ⟨A5'.1, A5'.2.1⟩).1, bd_id, bp_id]
    have z := a_show (n := n) h hf (by omega) hs ⟨A5'.1, A5'.2.1⟩ ⟨A5'.2.2.1, A5'.2.2.2⟩
    try simp only [ck_t (rt t ⟨A5'.1, A5'.2.1⟩).1, bd_id, bp_id, nm_t] at z
    first | exact z | exact AO_mono z (Nat.le_succ m)
  · simp only [if_neg (show ¬ (12 : Int32) = 0 by decide), if_neg (show ¬ (12 : Int32) = 1 by decide), if_neg (show ¬ (12 : Int32) = 2 by decide), if_neg (show ¬ (12 : Int32) = 3 by decide), if_neg (show ¬ (12 : Int32) = 4 by decide), if_neg (show ¬ (12 : Int32) = 5 by decide), if_neg (show ¬ (12 : Int32) = 6 by decide), if_neg (show ¬ (12 : Int32) = 7 by decide), if_neg (show ¬ (12 : Int32) = 8 by decide), if_neg (show ¬ (12 : Int32) = 9 by decide), if_neg (show ¬ (12 : Int32) = 10 by decide), if_neg (show ¬ (12 : Int32) = 11 by decide), if_pos (show (12 : Int32) = 12 from rfl), ck_t (rt t ⟨A5'.1, A5'.2.1⟩).1, bd_id, bp_id]
    have z := a_days (n := n) h hf (by omega) hs ⟨A5'.1, A5'.2.1⟩ ⟨A5'.2.2.1, A5'.2.2.2⟩ (rt t ⟨A5'.1, A5'.2.1⟩).2.1 (rt t ⟨A5'.1, A5'.2.1⟩).2.2.1 (rt t ⟨A5'.1, A5'.2.1⟩).2.2.2.1 (rt t ⟨A5'.1, A5'.2.1⟩).2.2.2.2
    try simp only [ck_t (rt t ⟨A5'.1, A5'.2.1⟩).1, bd_id, bp_id, nm_t] at z
    first | exact z | exact AO_mono z (Nat.le_succ m)
end STEP
