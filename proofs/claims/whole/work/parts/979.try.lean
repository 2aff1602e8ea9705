section TRY
variable {b p : Nat} {P : Int32} {τ σ : Sg}
/-- what a try leaves alone in the reference -/
def Fy (σ σ' : Sg) : Prop := (∀ a, a ≠ 130 ∧ ¬ (142 ≤ a ∧ a ≤ 149) ∧ a ≠ 158 → Sm σ σ' a) ∧ (∀ k, k ≠ 16 ∧ ¬ (27 ≤ k ∧ k ≤ 32) → gI σ' 130 k = gI σ 130 k) ∧ gI σ' 130 16 = 0 ∧ (∀ j, j < 8 → gJ σ' 142 j = gJ σ 142 j ∧ gJ σ' 143 j = gJ σ 143 j ∧ gJ σ' 144 j = gJ σ 144 j ∧ gI σ' 149 j = gI σ 149 j ∧ gJ σ' 146 j = gJ σ 146 j) ∧ (∀ j, j < 12 → gJ σ' 145 j = gJ σ 145 j) ∧ (∀ j, j < 4 → gJ σ' 147 j = gJ σ 147 j ∧ gJ σ' 148 j = gJ σ 148 j) ∧ Lay σ'
/-- a run that was done: what the laws look at -/
def Tr (b : Nat) (τ σ : Sg) : Prop := Sa b 1 τ σ ∧ Sk b 20 0 τ σ ∧ Sp b 1 τ σ ∧ Sf b τ σ ∧ Si b τ σ
theorem l_reset4 : ∀ (d n : Nat) (v : Int32) (σ : Sg) {A : Nat}, 0 ≤ v.toInt → v.toInt + d = 8 → d < n → d_X4_reset_2 n A v σ = some (pI (mJ σ (A + 1) v.toNatClampNeg 8 (fun _ => 0)) A 1 0) := by
  intro d
  induction d with
  | zero =>
    intro n v σ A h3 h4 h5
    obtain ⟨n, rfl⟩ : ∃ k, n = k + 1 := ⟨n - 1, by omega⟩
    have := nat0 h3
    rw [d_X4_reset_2, if_pos (by rw [i32_le]; simp only [Int32.reduceToInt]; omega), mJ_nil (by omega)]
    rfl
  | succ d ih =>
    intro n v σ A h3 h4 h5
    obtain ⟨n, rfl⟩ : ∃ k, n = k + 1 := ⟨n - 1, by omega⟩
    obtain ⟨c1, c2, c3⟩ := cnt1 (v := v) (m := 64) h3 (by omega) (by decide)
    rw [d_X4_reset_2, if_neg (by rw [i32_le]; simp only [Int32.reduceToInt]; omega), ck_ix (by omega), nm_t, nm_t, ih n (v + 1) _ (by omega) (by omega) (by omega), c2, mJ_step (f := fun _ => 0) (v := 0) (by omega) rfl]
theorem ix8p {v : Int32} (hv : 0 ≤ v.toInt ∧ v.toInt ≤ 7) : (8 + v).toNatClampNeg = 8 + v.toNatClampNeg ∧ ix (8 + v) 16 := by
  have e : (8 + v).toInt = 8 + v.toInt := by
    rw [i32_add (by simp only [Int32.reduceToInt]; omega) (by simp only [Int32.reduceToInt]; omega)]; rfl
  have n1 := nat0 hv.1
  refine ⟨?_, ix_of (by omega) (by omega)⟩
  rw [i32_nat (8 + v), e]; omega
theorem r_7 : ∀ (d n : Nat) (v : Int32) (σ : Sg), 0 ≤ v.toInt → v.toInt + d = 8 → d < n → ∃ w, n ≤ w + d + 1 ∧ d_X12_tries_7 n P v σ = d_X12_tries_29 w P (mJ σ 146 (8 + v.toNatClampNeg) 16 (fun _ => 0)) := by
  intro d
  induction d with
  | zero =>
    intro n v σ h3 h4 h5
    obtain ⟨n, rfl⟩ : ∃ k, n = k + 1 := ⟨n - 1, by omega⟩
    have := nat0 h3
    refine ⟨n, by omega, ?_⟩
    rw [d_X12_tries_7, if_pos (by rw [i32_le]; simp only [Int32.reduceToInt]; omega), mJ_nil (by omega)]
  | succ d ih =>
    intro n v σ h3 h4 h5
    obtain ⟨n, rfl⟩ : ∃ k, n = k + 1 := ⟨n - 1, by omega⟩
    obtain ⟨c1, c2, c3⟩ := cnt1 (v := v) (m := 64) h3 (by omega) (by decide)
    obtain ⟨x1, x2⟩ := ix8p (v := v) ⟨h3, by omega⟩
    obtain ⟨w, w1, w2⟩ := ih n (v + 1) (pJ σ 146 (8 + v.toNatClampNeg) 0) (by omega) (by omega) (by omega)
    refine ⟨w, by omega, ?_⟩
    rw [d_X12_tries_7, if_neg (by rw [i32_le]; simp only [Int32.reduceToInt]; omega), ck_t x2, nm_t, nm_t, x1, w2, c2, ← Nat.add_assoc, mJ_step (f := fun _ => 0) (v := 0) (by omega) rfl]
/-- a program is tried, from accounts and carried 0, on the bill that lies ready -/
theorem try_w {n n' : Nat} (hn : 1000 ≤ n) (hn' : 1000 ≤ n') (lt : Lay τ) (ls : Lay σ) (hb : O4 b) (hp : p < 4) (hP : P.toInt = p) (hbl : Sb b τ σ) (hx : Cx p τ σ) :
    ∃ r x τ' σ', (bp (c_X5_startAfresh n b τ) fun τ1 => c_X5_perform n b (5 * p + 74) τ1) = some (r, τ') ∧ c_X12_tries n' P σ = some (x, σ') ∧ ((r = 0 ∧ x = 0 ∧ Tr b τ' σ') ∨ (r ≠ 0 ∧ x = 1 ∧ ∀ j, j < 8 → gJ σ' 146 (8 + j) = 0)) ∧ Sr b 1 τ' σ' ∧ Fy σ σ' ∧ To b (b + 13) τ τ' ∧ gI τ' (b + 1) 1 = gI τ (b + 1) 1 := by
  have hb' : b = 20 ∨ b = 34 ∨ b = 47 := hb
  have z0 : (0 : Int32).toNatClampNeg = 0 := rfl
  have eP : P.toNatClampNeg = p := by rw [i32_nat]; omega
  have k1 := l_reset4 8 n 0 τ (A := b + 3) (by decide) (by decide) (by omega)
  rw [z0] at k1
  have hs : c_X5_startAfresh n b τ = some (pJ (pJ (pI (mJ τ (b + 3 + 1) 0 8 (fun _ => 0)) (b + 3) 1 0) b 7 0) b 8 1) := by
    unfold c_X5_startAfresh c_X4_reset
    rw [k1, bp_s, nm_t, nm_t]
  rw [hs, bp_s]
  obtain ⟨w, w1, w2⟩ := r_7 (P := P) 8 n' 0 (pI σ 130 16 1) (by decide) (by decide) (by omega)
  rw [z0, Nat.add_zero] at w2
  have e4 : (4 + P).toInt = 4 + P.toInt := by
    rw [i32_add (by simp only [Int32.reduceToInt]; omega) (by simp only [Int32.reduceToInt]; omega)]; rfl
  have x4 : ix (4 + P) 8 := ix_of (by omega) (by omega)
  have x4' : (4 + P).toNatClampNeg = 4 + p := by rw [i32_nat, e4]; omega
  have hm : c_X12_tries n' P σ = bd (c_X12_runs w P (pJ (pJ (mJ (pI σ 130 16 1) 146 8 16 (fun _ => 0)) 147 (4 + p) 0) 148 (4 + p) 1)) fun x41 σ40 => nm (pI σ40 130 16 0) fun σ43 => if x41 = -2 then some (0, σ43) else some (1, σ43) := by
    unfold c_X12_tries
    rw [nm_t, w2]
    unfold d_X12_tries_29
    rw [ck_t x4, nm_t, ck_t x4, nm_t, x4']
  rw [hm]
  generalize hT : pJ (pJ (pI (mJ τ (b + 3 + 1) 0 8 (fun _ => 0)) (b + 3) 1 0) b 7 0) b 8 1 = τ1
  generalize hS : pJ (pJ (mJ (pI σ 130 16 1) 146 8 16 (fun _ => 0)) 147 (4 + p) 0) 148 (4 + p) 1 = σ1
  have l1 : Lay τ1 := by rw [← hT]; exact lt
  have m1 : Lay σ1 := by rw [← hS]; exact ls
  have fT : ∀ a, a ≠ b ∧ a ≠ b + 3 ∧ a ≠ b + 4 → Sm τ τ1 a := fun a ha => by
    rw [← hT]
    exact Sm_pJ (Sm_pJ (Sm_pI (Sm_mJ Sm_refl (by omega)) (by omega)) (by omega)) (by omega)
  have tT : To b (b + 13) τ τ1 := by
    rw [← hT]
    refine ⟨lt, ⟨rfl, rfl, rfl, rfl⟩, fun a ha => ?_⟩
    exact Sm_pJ (Sm_pJ (Sm_pI (Sm_mJ Sm_refl (by omega)) (by omega)) (by omega)) (by omega)
  have fS : ∀ a, a ≠ 130 ∧ a ≠ 146 ∧ a ≠ 147 ∧ a ≠ 148 → Sm σ σ1 a := fun a ha => by
    rw [← hS]
    exact Sm_pJ (Sm_pJ (Sm_mJ (Sm_pI Sm_refl (by omega)) (by omega)) (by omega)) (by omega)
  have fS2 : ∀ k, k ≠ 16 → gI σ1 130 k = gI σ 130 k := fun k hk => by rw [← hS]; simp (disch := omega) only [gI_pI_s, gJ_pJ_s, gD_pD_s, gI_pJ, gI_pD, gJ_pI, gJ_pD, gD_pI, gD_pJ, gI_pI_a, gJ_pJ_a, gD_pD_a, gI_pI_k, gJ_pJ_k, gD_pD_k, gI_mI_i, gJ_mJ_i, gD_mD_i, gI_mJ, gI_mD, gJ_mI, gJ_mD, gD_mI, gD_mJ, gI_mI_a, gJ_mJ_a, gD_mD_a, gI_mI_o, gJ_mJ_o, gD_mD_o]
  have b1 : (gI σ1 130 16).toInt = (1 : Nat) := by rw [← hS]; simp (disch := omega) only [gI_pI_s, gJ_pJ_s, gD_pD_s, gI_pJ, gI_pD, gJ_pI, gJ_pD, gD_pI, gD_pJ, gI_pI_a, gJ_pJ_a, gD_pD_a, gI_pI_k, gJ_pJ_k, gD_pD_k, gI_mI_i, gJ_mJ_i, gD_mD_i, gI_mJ, gI_mD, gJ_mI, gJ_mD, gD_mI, gD_mJ, gI_mI_a, gJ_mJ_a, gD_mD_a, gI_mI_o, gJ_mJ_o, gD_mD_o]; rfl
  have s146 : ∀ j, j < 8 → gJ σ1 146 j = gJ σ 146 j := fun j hj => by rw [← hS]; simp (disch := omega) only [gI_pI_s, gJ_pJ_s, gD_pD_s, gI_pJ, gI_pD, gJ_pI, gJ_pD, gD_pI, gD_pJ, gI_pI_a, gJ_pJ_a, gD_pD_a, gI_pI_k, gJ_pJ_k, gD_pD_k, gI_mI_i, gJ_mJ_i, gD_mD_i, gI_mJ, gI_mD, gJ_mI, gJ_mD, gD_mI, gD_mJ, gI_mI_a, gJ_mJ_a, gD_mD_a, gI_mI_o, gJ_mJ_o, gD_mD_o]
  have s147 : ∀ j, j < 4 → gJ σ1 147 j = gJ σ 147 j ∧ gJ σ1 148 j = gJ σ 148 j := fun j hj => by rw [← hS]; simp (disch := omega) only [gI_pI_s, gJ_pJ_s, gD_pD_s, gI_pJ, gI_pD, gJ_pI, gJ_pD, gD_pI, gD_pJ, gI_pI_a, gJ_pJ_a, gD_pD_a, gI_pI_k, gJ_pJ_k, gD_pD_k, gI_mI_i, gJ_mJ_i, gD_mD_i, gI_mJ, gI_mD, gJ_mI, gJ_mD, gD_mI, gD_mJ, gI_mI_a, gJ_mJ_a, gD_mD_a, gI_mI_o, gJ_mJ_o, gD_mD_o]; exact ⟨trivial, trivial⟩
  have cx : Cx p τ1 σ1 := Cx_f hx hp (fun a ha => fT a (by omega)) (fun a ha => fS a (by omega))
  have aA : Sa b 1 τ1 σ1 := fun k hk => by
    have e1 : gJ σ1 146 (8 * 1 + k) = 0 := by rw [← hS]; simp (disch := omega) only [gI_pI_s, gJ_pJ_s, gD_pD_s, gI_pJ, gI_pD, gJ_pI, gJ_pD, gD_pI, gD_pJ, gI_pI_a, gJ_pJ_a, gD_pD_a, gI_pI_k, gJ_pJ_k, gD_pD_k, gI_mI_i, gJ_mJ_i, gD_mD_i, gI_mJ, gI_mD, gJ_mI, gJ_mD, gD_mI, gD_mJ, gI_mI_a, gJ_mJ_a, gD_mD_a, gI_mI_o, gJ_mJ_o, gD_mD_o]
    have e2 : gJ τ1 (b + 4) k = 0 := by rw [← hT, show b + 4 = b + 3 + 1 by omega]; simp (disch := omega) only [gI_pI_s, gJ_pJ_s, gD_pD_s, gI_pJ, gI_pD, gJ_pI, gJ_pD, gD_pI, gD_pJ, gI_pI_a, gJ_pJ_a, gD_pD_a, gI_pI_k, gJ_pJ_k, gD_pD_k, gI_mI_i, gJ_mJ_i, gD_mD_i, gI_mJ, gI_mD, gJ_mI, gJ_mD, gD_mI, gD_mJ, gI_mI_a, gJ_mJ_a, gD_mD_a, gI_mI_o, gJ_mJ_o, gD_mD_o]
    rw [e1, e2]
  have aK : gI τ1 (b + 3) 1 = 0 := by rw [← hT]; simp (disch := omega) only [gI_pI_s, gJ_pJ_s, gD_pD_s, gI_pJ, gI_pD, gJ_pI, gJ_pD, gD_pI, gD_pJ, gI_pI_a, gJ_pJ_a, gD_pD_a, gI_pI_k, gJ_pJ_k, gD_pD_k, gI_mI_i, gJ_mJ_i, gD_mD_i, gI_mJ, gI_mD, gJ_mI, gJ_mD, gD_mI, gD_mJ, gI_mI_a, gJ_mJ_a, gD_mD_a, gI_mI_o, gJ_mJ_o, gD_mD_o]
  have aC : Sc b 1 p τ1 σ1 := by
    have e1 : gJ σ1 147 (4 * 1 + p) = 0 := by rw [← hS]; simp (disch := omega) only [gI_pI_s, gJ_pJ_s, gD_pD_s, gI_pJ, gI_pD, gJ_pI, gJ_pD, gD_pI, gD_pJ, gI_pI_a, gJ_pJ_a, gD_pD_a, gI_pI_k, gJ_pJ_k, gD_pD_k, gI_mI_i, gJ_mJ_i, gD_mD_i, gI_mJ, gI_mD, gJ_mI, gJ_mD, gD_mI, gD_mJ, gI_mI_a, gJ_mJ_a, gD_mD_a, gI_mI_o, gJ_mJ_o, gD_mD_o]
    have e2 : gJ σ1 148 (4 * 1 + p) = 1 := by rw [← hS]; simp (disch := omega) only [gI_pI_s, gJ_pJ_s, gD_pD_s, gI_pJ, gI_pD, gJ_pI, gJ_pD, gD_pI, gD_pJ, gI_pI_a, gJ_pJ_a, gD_pD_a, gI_pI_k, gJ_pJ_k, gD_pD_k, gI_mI_i, gJ_mJ_i, gD_mD_i, gI_mJ, gI_mD, gJ_mI, gJ_mD, gD_mI, gD_mJ, gI_mI_a, gJ_mJ_a, gD_mD_a, gI_mI_o, gJ_mJ_o, gD_mD_o]
    have e3 : gJ τ1 b 7 = 0 := by rw [← hT]; simp (disch := omega) only [gI_pI_s, gJ_pJ_s, gD_pD_s, gI_pJ, gI_pD, gJ_pI, gJ_pD, gD_pI, gD_pJ, gI_pI_a, gJ_pJ_a, gD_pD_a, gI_pI_k, gJ_pJ_k, gD_pD_k, gI_mI_i, gJ_mJ_i, gD_mD_i, gI_mJ, gI_mD, gJ_mI, gJ_mD, gD_mI, gD_mJ, gI_mI_a, gJ_mJ_a, gD_mD_a, gI_mI_o, gJ_mJ_o, gD_mD_o]
    have e4 : gJ τ1 b 8 = 1 := by rw [← hT]; simp (disch := omega) only [gI_pI_s, gJ_pJ_s, gD_pD_s, gI_pJ, gI_pD, gJ_pI, gJ_pD, gD_pI, gD_pJ, gI_pI_a, gJ_pJ_a, gD_pD_a, gI_pI_k, gJ_pJ_k, gD_pD_k, gI_mI_i, gJ_mJ_i, gD_mD_i, gI_mJ, gI_mD, gJ_mI, gJ_mD, gD_mI, gD_mJ, gI_mI_a, gJ_mJ_a, gD_mD_a, gI_mI_o, gJ_mJ_o, gD_mD_o]
    unfold Sc
    rw [e1, e2, e3, e4]
    exact ⟨rfl, rfl, Car01⟩
  have aB : Sb b τ1 σ1 := Sb_f hbl (by rw [(fT (b + 1) (by omega)).1]) (fT (b + 2) (by omega)).1 (fS2 17 (by decide)) (fS 141 (by decide)).1
  have fy : ∀ σ2, Fq 1 p σ1 σ2 → Lay σ2 → Fy σ (pI σ2 130 16 0) := by
    intro σ2 q4 ql
    refine ⟨fun a ha => Sm_pI (Sm_tr (fS a (by omega)) (q4.1 a (by omega))) (by omega), fun k hk => ?_, gI_pI_s, fun j hj => ?_, fun j hj => ?_, fun j hj => ?_, ql⟩
    · rw [gI_pI_k hk.1, q4.2.1 k hk.2, fS2 k hk.1]
    · obtain ⟨a1, a2, a3, a4, a5⟩ := q4.2.2.1 j (by omega)
      simp (disch := omega) only [gI_pI_s, gJ_pJ_s, gD_pD_s, gI_pJ, gI_pD, gJ_pI, gJ_pD, gD_pI, gD_pJ, gI_pI_a, gJ_pJ_a, gD_pD_a, gI_pI_k, gJ_pJ_k, gD_pD_k, gI_mI_i, gJ_mJ_i, gD_mD_i, gI_mJ, gI_mD, gJ_mI, gJ_mD, gD_mI, gD_mJ, gI_mI_a, gJ_mJ_a, gD_mD_a, gI_mI_o, gJ_mJ_o, gD_mD_o]
      rw [a1, a2, a3, a4, a5, (fS 142 (by decide)).2.1, (fS 143 (by decide)).2.1, (fS 144 (by decide)).2.1, (fS 149 (by decide)).1, s146 j hj]
      exact ⟨rfl, rfl, rfl, rfl, rfl⟩
    · simp (disch := omega) only [gI_pI_s, gJ_pJ_s, gD_pD_s, gI_pJ, gI_pD, gJ_pI, gJ_pD, gD_pI, gD_pJ, gI_pI_a, gJ_pJ_a, gD_pD_a, gI_pI_k, gJ_pJ_k, gD_pD_k, gI_mI_i, gJ_mJ_i, gD_mD_i, gI_mJ, gI_mD, gJ_mI, gJ_mD, gD_mI, gD_mJ, gI_mI_a, gJ_mJ_a, gD_mD_a, gI_mI_o, gJ_mJ_o, gD_mD_o]
      rw [q4.2.2.2.1 j (by omega), (fS 145 (by decide)).2.1]
    · obtain ⟨a1, a2⟩ := q4.2.2.2.2 j (by omega)
      simp (disch := omega) only [gI_pI_s, gJ_pJ_s, gD_pD_s, gI_pJ, gI_pD, gJ_pI, gJ_pD, gD_pI, gD_pJ, gI_pI_a, gJ_pJ_a, gD_pD_a, gI_pI_k, gJ_pJ_k, gD_pD_k, gI_mI_i, gJ_mJ_i, gD_mD_i, gI_mJ, gI_mD, gJ_mI, gJ_mD, gD_mI, gD_mJ, gI_mI_a, gJ_mJ_a, gD_mD_a, gI_mI_o, gJ_mJ_o, gD_mD_o]
      rw [a1, a2]
      exact s147 j hj
  rcases run_v (b := b) (B := 1) (p := p) (lk := 0) (P := P) (τ := τ1) (σ := σ1) (n := 500) (Nat.le_refl _) l1 m1 hb (Nat.le_refl _) hp b1 hP aA aK aC aB cx with ⟨τ2, σ2, q1, q2, q3, q4, q5, q6⟩ | ⟨r, i, τ2, σ2, q0, q0', q1, q2, q3, q6, q7, ⟨ql, qb⟩, t1, t2, t3, g1, g2, g3, q4, q5⟩
  · have q1 := Le_up (f := fun n => c_X5_perform n b (5 * p + 74) τ1) (fun n => u_c_X5_perform) (show 500 ≤ n by omega) _ q1
    have q2 := Le_up (f := fun n => c_X12_runs n P σ1) (fun n => u_c_X12_runs) (show 500 ≤ w by omega) _ q2
    rw [q1, q2, bd_s, nm_t, if_pos rfl]
    obtain ⟨⟨lt2, ls2, -⟩, s1, s2, s3, s4, s5, s6, s7, s8, s9⟩ := q3
    refine ⟨0, 0, _, _, rfl, rfl, Or.inl ⟨rfl, rfl, Sa_f s4 rfl (by simp (disch := omega) only [RI_pI, RI_mI, RI_pJ, RI_mJ, RI_pD, RI_mD, RJ_pI, RJ_mI, RJ_pJ, RJ_mJ, RJ_pD, RJ_mD, RD_pI, RD_mI, RD_pJ, RD_mJ, RD_pD, RD_mD]), Sk_f s5 rfl rfl, Sp_f s2 rfl (by simp (disch := omega) only [RI_pI, RI_mI, RI_pJ, RI_mJ, RI_pD, RI_mD, RJ_pI, RJ_mI, RJ_pJ, RJ_mJ, RJ_pD, RJ_mD, RD_pI, RD_mI, RD_pJ, RD_mJ, RD_pD, RD_mD]), Sf_f s7 rfl rfl rfl rfl rfl, Si_f s8 (fun a ha => rfl) rfl rfl rfl rfl rfl⟩, Sr_f s3 rfl (by simp (disch := omega) only [RI_pI, RI_mI, RI_pJ, RI_mJ, RI_pD, RI_mD, RJ_pI, RJ_mI, RJ_pJ, RJ_mJ, RJ_pD, RJ_mD, RD_pI, RD_mI, RD_pJ, RD_mJ, RD_pD, RD_mD]), fy σ2 q4 ls2, To_trans tT q5, by rw [← s9.1, q4.2.1 17 (by decide), aB.1, (fT (b + 1) (by omega)).1]⟩
  · have q1 := Le_up (f := fun n => c_X5_perform n b (5 * p + 74) τ1) (fun n => u_c_X5_perform) (show 500 ≤ n by omega) _ q1
    have q2 := Le_up (f := fun n => c_X12_runs n P σ1) (fun n => u_c_X12_runs) (show 500 ≤ w by omega) _ q2
    have ni : ¬ i = -2 := by rw [i32_eq]; simp only [Int32.reduceToInt]; omega
    rw [q1, q2, bd_s, nm_t, if_neg ni]
    exact ⟨r, 1, _, _, rfl, rfl, Or.inr ⟨q0, rfl, fun j hj => by rw [gJ_pI, g1, ← hS]; simp (disch := omega) only [gI_pI_s, gJ_pJ_s, gD_pD_s, gI_pJ, gI_pD, gJ_pI, gJ_pD, gD_pI, gD_pJ, gI_pI_a, gJ_pJ_a, gD_pD_a, gI_pI_k, gJ_pJ_k, gD_pD_k, gI_mI_i, gJ_mJ_i, gD_mD_i, gI_mJ, gI_mD, gJ_mI, gJ_mD, gD_mI, gD_mJ, gI_mI_a, gJ_mJ_a, gD_mD_a, gI_mI_o, gJ_mJ_o, gD_mD_o]⟩, Sr_f t3 rfl (by simp (disch := omega) only [RI_pI, RI_mI, RI_pJ, RI_mJ, RI_pD, RI_mD, RJ_pI, RJ_mI, RJ_pJ, RJ_mJ, RJ_pD, RJ_mD, RD_pI, RD_mI, RD_pJ, RD_mJ, RD_pD, RD_mD]), fy σ2 q4 ql, To_trans tT q5, by rw [qb, (fT (b + 1) (by omega)).1]⟩
theorem try_v {n : Nat} (hn : 1000 ≤ n) (lt : Lay τ) (ls : Lay σ) (hb : O4 b) (hp : p < 4) (hP : P.toInt = p) (hbl : Sb b τ σ) (hx : Cx p τ σ) :
    ∃ r x τ' σ', (bp (c_X5_startAfresh n b τ) fun τ1 => c_X5_perform n b (5 * p + 74) τ1) = some (r, τ') ∧ c_X12_tries n P σ = some (x, σ') ∧ ((r = 0 ∧ x = 0 ∧ Tr b τ' σ') ∨ (r ≠ 0 ∧ x = 1)) ∧ Sr b 1 τ' σ' ∧ Fy σ σ' ∧ To b (b + 13) τ τ' := by
  obtain ⟨r, x, τ', σ', e1, e2, e3, e4, e5, e6, -⟩ := try_w hn hn lt ls hb hp hP hbl hx
  refine ⟨r, x, τ', σ', e1, e2, ?_, e4, e5, e6⟩
  rcases e3 with e3 | ⟨e3, e3', -⟩
  · exact Or.inl e3
  · exact Or.inr ⟨e3, e3'⟩
end TRY
