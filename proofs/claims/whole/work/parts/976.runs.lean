section RUNS
variable {b B p : Nat} {lk P : Int32} {τ σ : Sg}
/-- what a whole run of program p with base B leaves alone -/
def Fq (B p : Nat) (σ σ' : Sg) : Prop := (∀ a, a ≠ 130 ∧ ¬ (142 ≤ a ∧ a ≤ 149) ∧ a ≠ 158 → Sm σ σ' a) ∧ (∀ k, ¬ (27 ≤ k ∧ k ≤ 32) → gI σ' 130 k = gI σ 130 k) ∧ (∀ j, ¬ (8 * B ≤ j ∧ j < 8 * B + 8) → gJ σ' 142 j = gJ σ 142 j ∧ gJ σ' 143 j = gJ σ 143 j ∧ gJ σ' 144 j = gJ σ 144 j ∧ gI σ' 149 j = gI σ 149 j ∧ gJ σ' 146 j = gJ σ 146 j) ∧ (∀ j, ¬ (12 * B ≤ j ∧ j < 12 * B + 12) → gJ σ' 145 j = gJ σ 145 j) ∧ (∀ j, j ≠ 4 * B + p → gJ σ' 147 j = gJ σ 147 j ∧ gJ σ' 148 j = gJ σ 148 j)
theorem Fq_of {σ' : Sg} (h : Fm B p σ σ') : Fq B p σ σ' := ⟨fun a ha => h.1 a (by omega), h.2⟩
theorem Fq_trans {σ' σ'' : Sg} (h : Fq B p σ σ') (h' : Fq B p σ' σ'') : Fq B p σ σ'' := by
  obtain ⟨a1, a2, a3, a4, a5⟩ := h
  obtain ⟨b1, b2, b3, b4, b5⟩ := h'
  refine ⟨fun a ha => Sm_tr (a1 a ha) (b1 a ha), fun k hk => (b2 k hk).trans (a2 k hk), fun j hj => ?_, fun j hj => (b4 j hj).trans (a4 j hj), fun j hj => ⟨(b5 j hj).1.trans (a5 j hj).1, (b5 j hj).2.trans (a5 j hj).2⟩⟩
  obtain ⟨c1, c2, c3, c4, c5⟩ := a3 j hj
  obtain ⟨d1, d2, d3, d4, d5⟩ := b3 j hj
  exact ⟨d1.trans c1, d2.trans c2, d3.trans c3, d4.trans c4, d5.trans c5⟩
theorem r_27 : ∀ (d n : Nat) (k : Int32) (σ : Sg) {v1 v2 : Int32} {v3 v5 : Int64} {f : Nat → Int64}, B ≤ 1 → (gI σ 130 16).toInt = B → (∀ j, j < 8 → gJ σ 146 (8 * B + j) = f j) → 0 ≤ k.toInt → k.toInt + d = 8 → d < n → ∃ w, n ≤ w + d + 1 ∧ d_X12_runs_27 n v1 v2 v3 v5 k σ = d_X12_runs_62 w v1 v2 v3 v5 (mJ σ 158 k.toNatClampNeg 8 f) := by
  intro d
  induction d with
  | zero =>
    intro n k σ v1 v2 v3 v5 f hB hb0 hf h3 h4 h5
    obtain ⟨n, rfl⟩ : ∃ k, n = k + 1 := ⟨n - 1, by omega⟩
    have := nat0 h3
    refine ⟨n, by omega, ?_⟩
    rw [d_X12_runs_27, if_pos (by rw [i32_le]; simp only [Int32.reduceToInt]; omega), mJ_nil (by omega)]
  | succ d ih =>
    intro n k σ v1 v2 v3 v5 f hB hb0 hf h3 h4 h5
    obtain ⟨n, rfl⟩ : ∃ k, n = k + 1 := ⟨n - 1, by omega⟩
    obtain ⟨c1, c2, c3⟩ := cnt1 (v := k) (m := 64) h3 (by omega) (by decide)
    obtain ⟨x1, x2⟩ := ixB (v := k) hB hb0 ⟨h3, by omega⟩
    obtain ⟨w, w1, w2⟩ := ih n (k + 1) (pJ σ 158 k.toNatClampNeg (f k.toNatClampNeg)) (v1 := v1) (v2 := v2) (v3 := v3) (v5 := v5) (f := f) hB hb0 (fun j hj => by rw [gJ_pJ_a (by decide)]; exact hf j hj) (by omega) (by omega) (by omega)
    refine ⟨w, by omega, ?_⟩
    rw [d_X12_runs_27, if_neg (by rw [i32_le]; simp only [Int32.reduceToInt]; omega), ck_t x2, ck_ix (by omega), nm_t, nm_t, x1, hf _ (by omega), w2, c2, mJ_step (by omega) rfl]
theorem r_clears : ∀ (d n : Nat) (k : Int32) (σ : Sg), B ≤ 1 → (gI σ 130 16).toInt = B → 0 ≤ k.toInt → k.toInt + d = 8 → d < n → d_X12_clears_2 n k σ = some (pI (pI (mJ (mI (mJ (mJ σ 142 (8 * B + k.toNatClampNeg) (8 * B + 8) (fun _ => 0)) 143 (8 * B + k.toNatClampNeg) (8 * B + 8) (fun _ => 1)) 149 (8 * B + k.toNatClampNeg) (8 * B + 8) (fun _ => 0)) 144 (8 * B + k.toNatClampNeg) (8 * B + 8) (fun _ => 0)) 130 27 0) 130 28 0) := by
  intro d
  induction d with
  | zero =>
    intro n k σ hB hb0 h3 h4 h5
    obtain ⟨n, rfl⟩ : ∃ k, n = k + 1 := ⟨n - 1, by omega⟩
    have := nat0 h3
    rw [d_X12_clears_2, if_pos (by rw [i32_le]; simp only [Int32.reduceToInt]; omega), mJ_nil (by omega), mJ_nil (by omega), mI_nil (by omega), mJ_nil (by omega)]
    rfl
  | succ d ih =>
    intro n k σ hB hb0 h3 h4 h5
    obtain ⟨n, rfl⟩ : ∃ k, n = k + 1 := ⟨n - 1, by omega⟩
    obtain ⟨c1, c2, c3⟩ := cnt1 (v := k) (m := 64) h3 (by omega) (by decide)
    obtain ⟨x1, x2⟩ := ixB (v := k) hB hb0 ⟨h3, by omega⟩
    rw [d_X12_clears_2, if_neg (by rw [i32_le]; simp only [Int32.reduceToInt]; omega)]
    simp only [nm_t, gI_pJ, gI_pI_a (show 130 ≠ 149 by decide), ck_t x2, x1]
    rw [ih n (k + 1) _ hB (by simp (disch := omega) only [gI_pI_s, gJ_pJ_s, gD_pD_s, gI_pJ, gI_pD, gJ_pI, gJ_pD, gD_pI, gD_pJ, gI_pI_a, gJ_pJ_a, gD_pD_a, gI_pI_k, gJ_pJ_k, gD_pD_k]; exact hb0) (by omega) (by omega) (by omega), c2, ← Nat.add_assoc]
    rw [mJ_pJ (a := 142) (b := 144) (by decide), mJ_pI (a := 142), mJ_pJ (a := 142) (b := 143) (by decide), mJ_step (a := 142) (f := fun _ => 0) (v := 0) (by omega) rfl, mJ_pJ (a := 143) (b := 144) (by decide), mJ_pI (a := 143), mJ_step (a := 143) (f := fun _ => 1) (v := 1) (by omega) rfl, mI_pJ (a := 149), mI_step (a := 149) (f := fun _ => 0) (v := 0) (by omega) rfl, mJ_step (a := 144) (f := fun _ => 0) (v := 0) (by omega) rfl]
theorem r_69 : ∀ (d n : Nat) (k : Int32) (σ : Sg) {v1 v2 : Int32} {v3 v5 : Int64}, B ≤ 1 → (gI σ 130 16).toInt = B → 0 ≤ k.toInt → k.toInt + d = 12 → d < n → ∃ w, n ≤ w + d + 1 ∧ d_X12_runs_69 n v1 v2 v3 v5 k σ = d_X12_runs_98 w v1 v2 v3 v5 (mJ σ 145 (12 * B + k.toNatClampNeg) (12 * B + 12) (fun _ => 0)) := by
  intro d
  induction d with
  | zero =>
    intro n k σ v1 v2 v3 v5 hB hb0 h3 h4 h5
    obtain ⟨n, rfl⟩ : ∃ k, n = k + 1 := ⟨n - 1, by omega⟩
    have := nat0 h3
    refine ⟨n, by omega, ?_⟩
    rw [d_X12_runs_69, if_pos (by rw [i32_le]; simp only [Int32.reduceToInt]; omega), mJ_nil (by omega)]
  | succ d ih =>
    intro n k σ v1 v2 v3 v5 hB hb0 h3 h4 h5
    obtain ⟨n, rfl⟩ : ∃ k, n = k + 1 := ⟨n - 1, by omega⟩
    obtain ⟨c1, c2, c3⟩ := cnt1 (v := k) (m := 64) h3 (by omega) (by decide)
    obtain ⟨x1, x2⟩ := ixR (k := k) hB hb0 ⟨h3, by omega⟩
    obtain ⟨w, w1, w2⟩ := ih n (k + 1) (pJ σ 145 (12 * B + k.toNatClampNeg) 0) (v1 := v1) (v2 := v2) (v3 := v3) (v5 := v5) hB hb0 (by omega) (by omega) (by omega)
    refine ⟨w, by omega, ?_⟩
    rw [d_X12_runs_69, if_neg (by rw [i32_le]; simp only [Int32.reduceToInt]; omega), ck_t x2, nm_t, nm_t, x1, w2, c2, ← Nat.add_assoc, mJ_step (f := fun _ => 0) (v := 0) (by omega) rfl]
theorem r_144 : ∀ (d n : Nat) (k : Int32) (σ : Sg) {v2 v7 : Int32} {v3 v5 : Int64} {f : Nat → Int64}, B ≤ 1 → (gI σ 130 16).toInt = B → (∀ j, j < 8 → gJ σ 158 j = f (8 * B + j)) → 0 ≤ k.toInt → k.toInt + d = 8 → d < n → ∃ w, n ≤ w + d + 1 ∧ d_X12_runs_144 n v2 v3 v5 v7 k σ = d_X12_runs_179 w v2 v3 v5 v7 (mJ σ 146 (8 * B + k.toNatClampNeg) (8 * B + 8) f) := by
  intro d
  induction d with
  | zero =>
    intro n k σ v2 v7 v3 v5 f hB hb0 hf h3 h4 h5
    obtain ⟨n, rfl⟩ : ∃ k, n = k + 1 := ⟨n - 1, by omega⟩
    have := nat0 h3
    refine ⟨n, by omega, ?_⟩
    rw [d_X12_runs_144, if_pos (by rw [i32_le]; simp only [Int32.reduceToInt]; omega), mJ_nil (by omega)]
  | succ d ih =>
    intro n k σ v2 v7 v3 v5 f hB hb0 hf h3 h4 h5
    obtain ⟨n, rfl⟩ : ∃ k, n = k + 1 := ⟨n - 1, by omega⟩
    obtain ⟨c1, c2, c3⟩ := cnt1 (v := k) (m := 64) h3 (by omega) (by decide)
    obtain ⟨x1, x2⟩ := ixB (v := k) hB hb0 ⟨h3, by omega⟩
    obtain ⟨w, w1, w2⟩ := ih n (k + 1) (pJ σ 146 (8 * B + k.toNatClampNeg) (f (8 * B + k.toNatClampNeg))) (v2 := v2) (v7 := v7) (v3 := v3) (v5 := v5) (f := f) hB hb0 (fun j hj => by rw [gJ_pJ_a (by decide)]; exact hf j hj) (by omega) (by omega) (by omega)
    refine ⟨w, by omega, ?_⟩
    rw [d_X12_runs_144, if_neg (by rw [i32_le]; simp only [Int32.reduceToInt]; omega), ck_ix (by omega), ck_t x2, nm_t, nm_t, x1, hf _ (by omega), w2, c2, ← Nat.add_assoc, mJ_step (by omega) rfl]
/-- a run of program p, on the bill, the accounts and the carried that lie ready -/
theorem run_v {n : Nat} (hn : 500 ≤ n) (lt : Lay τ) (ls : Lay σ) (hb : O4 b) (hB : B ≤ 1) (hp : p < 4) (hb0 : (gI σ 130 16).toInt = B) (hP : P.toInt = p) (ha : Sa b B τ σ) (hk : gI τ (b + 3) 1 = lk) (hc : Sc b B p τ σ) (hbl : Sb b τ σ) (hx : Cx p τ σ) :
    (∃ τ' σ', c_X5_perform n b (5 * p + 74) τ = some (0, τ') ∧ c_X12_runs n P σ = some (-2, σ') ∧ SR b B p 20 lk τ' σ' ∧ Fq B p σ σ' ∧ To b (b + 13) τ τ' ∧ gI σ' 130 32 = 0) ∨
    (∃ r i τ' σ', r ≠ 0 ∧ 0 ≤ i.toInt ∧ c_X5_perform n b (5 * p + 74) τ = some (r, τ') ∧ c_X12_runs n P σ = some (i, σ') ∧ gI τ' b 9 = i ∧ gI σ' 130 32 = r ∧ gI σ' 130 31 = 0 ∧ (Lay σ' ∧ gI τ' (b + 1) 1 = gI τ (b + 1) 1) ∧ Ss b B τ' σ' ∧ Sp b B τ' σ' ∧ Sr b B τ' σ' ∧ gJ σ' 146 = gJ σ 146 ∧ gJ σ' 147 = gJ σ 147 ∧ gJ σ' 148 = gJ σ 148 ∧ Fq B p σ σ' ∧ To b (b + 13) τ τ') := by
  have hb' : b = 20 ∨ b = 34 ∨ b = 47 := hb
  have z0 : (0 : Int32).toNatClampNeg = 0 := rfl
  have eP : P.toNatClampNeg = p := by rw [i32_nat]; omega
  -- the component's start
  obtain ⟨τ1, c1, c2, c3, c4, c5, c6, c7, c8, c9⟩ := wipe_v (b := b) (τ := τ) (n := n) (by omega) hb
  -- the reference's start
  obtain ⟨-, y1, y2⟩ := ix2 (c := 4) (m := 2) (k := 4) (v := gI σ 130 16) (w := P) (by decide) (ix_of (by omega) (by omega)) (ix_of (by omega) (by omega)) rfl (by decide)
  have eB : (gI σ 130 16).toNatClampNeg = B := by rw [i32_nat]; omega
  rw [eB, eP] at y1
  have y2' : ix (4 * gI σ 130 16 + P) 8 := y2
  obtain ⟨w, w1, w2⟩ := r_27 (B := B) 8 n 0 σ (v1 := P) (v2 := 4 * gI σ 130 16 + P) (v3 := gJ σ 147 (4 * B + p)) (v5 := gJ σ 148 (4 * B + p)) (f := fun j => gJ σ 146 (8 * B + j)) hB hb0 (fun j _ => rfl) (by decide) (by decide) (by omega)
  rw [z0] at w2
  have hR : c_X12_runs n P σ = d_X12_runs_62 w P (4 * gI σ 130 16 + P) (gJ σ 147 (4 * B + p)) (gJ σ 148 (4 * B + p)) (mJ σ 158 0 8 (fun j => gJ σ 146 (8 * B + j))) := by
    unfold c_X12_runs
    simp only [nm_t, ck_t y2', y1]
    exact w2
  have k2 := r_clears (B := B) 8 w 0 (mJ σ 158 0 8 (fun j => gJ σ 146 (8 * B + j))) hB hb0 (by decide) (by decide) (by omega)
  rw [z0, Nat.add_zero] at k2
  obtain ⟨w', w3, w4⟩ := r_69 (B := B) 12 w 0 (pI (pI (mJ (mI (mJ (mJ (mJ σ 158 0 8 (fun j => gJ σ 146 (8 * B + j))) 142 (8 * B) (8 * B + 8) (fun _ => 0)) 143 (8 * B) (8 * B + 8) (fun _ => 1)) 149 (8 * B) (8 * B + 8) (fun _ => 0)) 144 (8 * B) (8 * B + 8) (fun _ => 0)) 130 27 0) 130 28 0) (v1 := P) (v2 := 4 * gI σ 130 16 + P) (v3 := gJ σ 147 (4 * B + p)) (v5 := gJ σ 148 (4 * B + p)) hB (by simp (disch := omega) only [gI_pI_s, gJ_pJ_s, gD_pD_s, gI_pJ, gI_pD, gJ_pI, gJ_pD, gD_pI, gD_pJ, gI_pI_a, gJ_pJ_a, gD_pD_a, gI_pI_k, gJ_pJ_k, gD_pD_k, gI_mI_i, gJ_mJ_i, gD_mD_i, gI_mJ, gI_mD, gJ_mI, gJ_mD, gD_mI, gD_mJ, gI_mI_a, gJ_mJ_a, gD_mD_a, gI_mI_o, gJ_mJ_o, gD_mD_o]; exact hb0) (by decide) (by decide) (by omega)
  rw [z0, Nat.add_zero] at w4
  unfold d_X12_runs_62 c_X12_clears at hR
  rw [k2, bp_s, w4] at hR
  unfold d_X12_runs_98 at hR
  rw [nm_t, nm_t] at hR
  generalize hS : pI (pI (mJ (pI (pI (mJ (mI (mJ (mJ (mJ σ 158 0 8 (fun j => gJ σ 146 (8 * B + j))) 142 (8 * B) (8 * B + 8) (fun _ => 0)) 143 (8 * B) (8 * B + 8) (fun _ => 1)) 149 (8 * B) (8 * B + 8) (fun _ => 0)) 144 (8 * B) (8 * B + 8) (fun _ => 0)) 130 27 0) 130 28 0) 145 (12 * B) (12 * B + 12) (fun _ => 0)) 130 31 0) 130 32 0 = σ1 at hR
  -- they stand alike
  have f1 : Fq B p σ σ1 := by
    rw [← hS]
    refine ⟨fun a ha => Sm_pI (Sm_pI (Sm_mJ (Sm_pI (Sm_pI (Sm_mJ (Sm_mI (Sm_mJ (Sm_mJ (Sm_mJ Sm_refl (by omega)) (by omega)) (by omega)) (by omega)) (by omega)) (by omega)) (by omega)) (by omega)) (by omega)) (by omega), fun k hk => ?_, fun j hj => ?_, fun j hj => ?_, fun j hj => ?_⟩
    all_goals simp (disch := omega) only [gI_pI_s, gJ_pJ_s, gD_pD_s, gI_pJ, gI_pD, gJ_pI, gJ_pD, gD_pI, gD_pJ, gI_pI_a, gJ_pJ_a, gD_pD_a, gI_pI_k, gJ_pJ_k, gD_pD_k, gI_mI_i, gJ_mJ_i, gD_mD_i, gI_mJ, gI_mD, gJ_mI, gJ_mD, gD_mI, gD_mJ, gI_mI_a, gJ_mJ_a, gD_mD_a, gI_mI_o, gJ_mJ_o, gD_mD_o]
    all_goals trivial
  have g146 : gJ σ1 146 = gJ σ 146 := by rw [← hS]; simp (disch := omega) only [RI_pI, RI_mI, RI_pJ, RI_mJ, RI_pD, RI_mD, RJ_pI, RJ_mI, RJ_pJ, RJ_mJ, RJ_pD, RJ_mD, RD_pI, RD_mI, RD_pJ, RD_mJ, RD_pD, RD_mD]
  have g147 : gJ σ1 147 = gJ σ 147 := by rw [← hS]; simp (disch := omega) only [RI_pI, RI_mI, RI_pJ, RI_mJ, RI_pD, RI_mD, RJ_pI, RJ_mI, RJ_pJ, RJ_mJ, RJ_pD, RJ_mD, RD_pI, RD_mI, RD_pJ, RD_mJ, RD_pD, RD_mD]
  have g148 : gJ σ1 148 = gJ σ 148 := by rw [← hS]; simp (disch := omega) only [RI_pI, RI_mI, RI_pJ, RI_mJ, RI_pD, RI_mD, RJ_pI, RJ_mI, RJ_pJ, RJ_mJ, RJ_pD, RJ_mD, RD_pI, RD_mI, RD_pJ, RD_mJ, RD_pD, RD_mD]
  have g141 : gI σ1 141 = gI σ 141 := (f1.1 141 (by decide)).1
  have g31 : gI σ1 130 31 = 0 := by rw [← hS]; simp (disch := omega) only [gI_pI_s, gJ_pJ_s, gD_pD_s, gI_pJ, gI_pD, gJ_pI, gJ_pD, gD_pI, gD_pJ, gI_pI_a, gJ_pJ_a, gD_pD_a, gI_pI_k, gJ_pJ_k, gD_pD_k, gI_mI_i, gJ_mJ_i, gD_mD_i, gI_mJ, gI_mD, gJ_mI, gJ_mD, gD_mI, gD_mJ, gI_mI_a, gJ_mJ_a, gD_mD_a, gI_mI_o, gJ_mJ_o, gD_mD_o]
  have g32 : gI σ1 130 32 = 0 := by rw [← hS]; simp (disch := omega) only [gI_pI_s, gJ_pJ_s, gD_pD_s, gI_pJ, gI_pD, gJ_pI, gJ_pD, gD_pI, gD_pJ, gI_pI_a, gJ_pJ_a, gD_pD_a, gI_pI_k, gJ_pJ_k, gD_pD_k, gI_mI_i, gJ_mJ_i, gD_mD_i, gI_mJ, gI_mD, gJ_mI, gJ_mD, gD_mI, gD_mJ, gI_mI_a, gJ_mJ_a, gD_mD_a, gI_mI_o, gJ_mJ_o, gD_mD_o]
  have g27 : gI σ1 130 27 = 0 := by rw [← hS]; simp (disch := omega) only [gI_pI_s, gJ_pJ_s, gD_pD_s, gI_pJ, gI_pD, gJ_pI, gJ_pD, gD_pI, gD_pJ, gI_pI_a, gJ_pJ_a, gD_pD_a, gI_pI_k, gJ_pJ_k, gD_pD_k, gI_mI_i, gJ_mJ_i, gD_mD_i, gI_mJ, gI_mD, gJ_mI, gJ_mD, gD_mI, gD_mJ, gI_mI_a, gJ_mJ_a, gD_mD_a, gI_mI_o, gJ_mJ_o, gD_mD_o]
  have g28 : gI σ1 130 28 = 0 := by rw [← hS]; simp (disch := omega) only [gI_pI_s, gJ_pJ_s, gD_pD_s, gI_pJ, gI_pD, gJ_pI, gJ_pD, gD_pI, gD_pJ, gI_pI_a, gJ_pJ_a, gD_pD_a, gI_pI_k, gJ_pJ_k, gD_pD_k, gI_mI_i, gJ_mJ_i, gD_mD_i, gI_mJ, gI_mD, gJ_mI, gJ_mD, gD_mI, gD_mJ, gI_mI_a, gJ_mJ_a, gD_mD_a, gI_mI_o, gJ_mJ_o, gD_mD_o]
  have g158 : ∀ j, j < 8 → gJ σ1 158 j = gJ σ 146 (8 * B + j) := fun j hj => by rw [← hS]; simp (disch := omega) only [gI_pI_s, gJ_pJ_s, gD_pD_s, gI_pJ, gI_pD, gJ_pI, gJ_pD, gD_pI, gD_pJ, gI_pI_a, gJ_pJ_a, gD_pD_a, gI_pI_k, gJ_pJ_k, gD_pD_k, gI_mI_i, gJ_mJ_i, gD_mD_i, gI_mJ, gI_mD, gJ_mI, gJ_mD, gD_mI, gD_mJ, gI_mI_a, gJ_mJ_a, gD_mD_a, gI_mI_o, gJ_mJ_o, gD_mD_o]
  have gsl : ∀ j, j < 8 → gJ σ1 142 (8 * B + j) = 0 ∧ gJ σ1 143 (8 * B + j) = 1 ∧ gI σ1 149 (8 * B + j) = 0 ∧ gJ σ1 144 (8 * B + j) = 0 := fun j hj => by
    rw [← hS]; simp (disch := omega) only [gI_pI_s, gJ_pJ_s, gD_pD_s, gI_pJ, gI_pD, gJ_pI, gJ_pD, gD_pI, gD_pJ, gI_pI_a, gJ_pJ_a, gD_pD_a, gI_pI_k, gJ_pJ_k, gD_pD_k, gI_mI_i, gJ_mJ_i, gD_mD_i, gI_mJ, gI_mD, gJ_mI, gJ_mD, gD_mI, gD_mJ, gI_mI_a, gJ_mJ_a, gD_mD_a, gI_mI_o, gJ_mJ_o, gD_mD_o]; exact ⟨trivial, trivial, trivial, trivial⟩
  have g145 : ∀ j, j < 12 → gJ σ1 145 (12 * B + j) = 0 := fun j hj => by rw [← hS]; simp (disch := omega) only [gI_pI_s, gJ_pJ_s, gD_pD_s, gI_pJ, gI_pD, gJ_pI, gJ_pD, gD_pI, gD_pJ, gI_pI_a, gJ_pJ_a, gD_pD_a, gI_pI_k, gJ_pJ_k, gD_pD_k, gI_mI_i, gJ_mJ_i, gD_mD_i, gI_mJ, gI_mD, gJ_mI, gJ_mD, gD_mI, gD_mJ, gI_mI_a, gJ_mJ_a, gD_mD_a, gI_mI_o, gJ_mJ_o, gD_mD_o]
  have l1 : Lay σ1 := by rw [← hS]; exact ls
  have sr : SR b B p 0 lk τ1 σ1 := by
    refine ⟨⟨by rw [c9]; exact lt, l1, hb, hB, hp, by rw [f1.2.1 16 (by decide)]; exact hb0⟩, fun k hk => ?_, fun k hk => ?_, fun k hk => ?_, fun k hk => ?_, ?_, ?_, ?_, ?_, ?_⟩
    · obtain ⟨q1, q2, q3, q4⟩ := gsl k hk
      obtain ⟨r1, r2, r3, r4⟩ := c2 k hk
      rw [q1, q2, q3, r1, r2, r3]
      exact ⟨rfl, rfl, rfl, Or.inl rfl, by decide, by decide, by decide, by decide, by decide⟩
    · rw [(gsl k hk).2.2.2, (c2 k hk).2.2.2]
      exact ⟨rfl, by decide, by decide⟩
    · rw [g145 k hk, c3 k hk]
    · rw [g146, (c7 (b + 4) (by omega)).2.1]; exact ha k hk
    · unfold Sk
      rw [g31, (c7 (b + 3) (by omega)).1, hk]
      exact ⟨(Int32.add_zero lk).symm, by decide, by decide⟩
    · unfold Sc
      rw [g147, g148, c8]; exact hc
    · unfold Sf
      rw [g27, g28, c4, c5, c6]
      exact ⟨rfl, Or.inl rfl, rfl, Or.inl rfl, rfl⟩
    · intro q
      rw [c4] at q
      exact absurd q (by decide)
    · refine Sb_f hbl ?_ (c7 (b + 2) (by omega)).1 (f1.2.1 17 (by decide)) g141
      rw [(c7 (b + 1) (by omega)).1]
  have cx : Cx p τ1 σ1 := Cx_f hx hp (fun a ha => c7 a (by omega)) (fun a ha => f1.1 a (by omega))
  have e4 : gI τ1 (5 * p + 74) = gI τ (5 * p + 74) := (c7 _ (by omega)).1
  have h20 := cx.2.2.2.2.1
  have h0 := cx.2.2.2.1
  have nsz := nat0 h0
  have hT : ∀ r τ', c_X5_perform n b (5 * p + 74) τ = some (r, τ') → To b (b + 13) τ τ' := fun r τ' e => (k_f_X5_perform (To_refl lt) hb (by omega) (by unfold O5; omega)).2 _ e
  unfold c_X5_perform at hT ⊢
  rw [c1, bp_s] at hT ⊢
  rw [hR]
  rcases al_run (b := b) (B := B) (p := p) (lk := lk) (P := P) (gI τ1 (5 * p + 74) 4).toNatClampNeg n w' 0 τ1 σ1 (4 * gI σ 130 16 + P) (gJ σ 147 (4 * B + p)) (gJ σ 148 (4 * B + p)) (by rw [z0]; exact sr) cx g32 hP (by decide) (by simp only [Int32.reduceToInt]; omega) (by omega) (by omega) with ⟨τ', σ', q1, q2, q3, q4, q5, q6⟩ | ⟨r, i, τ', σ', w2', q0, q0', q1, q2, qw, q3, q4, q5, q6⟩
  · left
    exact ⟨τ', σ', q1, q2, q3, Fq_trans f1 (Fq_of q4), hT _ _ q1, q6⟩
  · right
    have b16 : (gI σ' 130 16).toInt = B := by rw [q4.2.1 16 (by decide), f1.2.1 16 (by decide)]; exact hb0
    obtain ⟨w5, v1, v2⟩ := r_144 (B := B) 8 w2' 0 σ' (v2 := 4 * gI σ 130 16 + P) (v7 := i) (v3 := gJ σ 147 (4 * B + p)) (v5 := gJ σ 148 (4 * B + p)) (f := gJ σ 146) hB b16 (fun j hj => by rw [(q4.1 158 (by decide)).2.1]; exact g158 j hj) (by decide) (by decide) (by omega)
    rw [z0, Nat.add_zero] at v2
    have hE : d_X12_runs_141 w2' (4 * gI σ 130 16 + P) (gJ σ 147 (4 * B + p)) (gJ σ 148 (4 * B + p)) i σ' = some (i, pI (pJ (pJ (mJ σ' 146 (8 * B) (8 * B + 8) (gJ σ 146)) 147 (4 * B + p) (gJ σ 147 (4 * B + p))) 148 (4 * B + p) (gJ σ 148 (4 * B + p))) 130 31 0) := by
      unfold d_X12_runs_141
      rw [v2]
      unfold d_X12_runs_179
      rw [ck_t y2', nm_t, ck_t y2', nm_t, nm_t, y1]
    rw [q1, q2, hE]
    have q3l : Lay σ' := q3.1.2.1
    obtain ⟨-, t1, t2, t3, -, -, -, -, -, tb⟩ := q3
    have fq : Fq B p σ' (pI (pJ (pJ (mJ σ' 146 (8 * B) (8 * B + 8) (gJ σ 146)) 147 (4 * B + p) (gJ σ 147 (4 * B + p))) 148 (4 * B + p) (gJ σ 148 (4 * B + p))) 130 31 0) := by
      refine ⟨fun a ha => Sm_pI (Sm_pJ (Sm_pJ (Sm_mJ Sm_refl (by omega)) (by omega)) (by omega)) (by omega), fun k hk => ?_, fun j hj => ?_, fun j hj => ?_, fun j hj => ?_⟩
      all_goals simp (disch := omega) only [gI_pI_s, gJ_pJ_s, gD_pD_s, gI_pJ, gI_pD, gJ_pI, gJ_pD, gD_pI, gD_pJ, gI_pI_a, gJ_pJ_a, gD_pD_a, gI_pI_k, gJ_pJ_k, gD_pD_k, gI_mI_i, gJ_mJ_i, gD_mD_i, gI_mJ, gI_mD, gJ_mI, gJ_mD, gD_mI, gD_mJ, gI_mI_a, gJ_mJ_a, gD_mD_a, gI_mI_o, gJ_mJ_o, gD_mD_o]
      all_goals trivial
    have lσ : Lay σ' := q3l
    refine ⟨r, i, _, _, q0, q0', rfl, rfl, gI_pI_s, ?_, gI_pI_s, ⟨lσ, by rw [gI_pI_a (by omega), ← tb.1, q4.2.1 17 (by decide), f1.2.1 17 (by decide)]; exact hbl.1⟩, ?_, ?_, ?_, ?_, ?_, ?_, Fq_trans (Fq_trans f1 (Fq_of q4)) fq, hT _ _ q1⟩
    · rw [gI_pI_k (by decide)]; exact q6
    · refine Ss_f t1 (by simp (disch := omega) only [RI_pI, RI_mI, RI_pJ, RI_mJ, RI_pD, RI_mD, RJ_pI, RJ_mI, RJ_pJ, RJ_mJ, RJ_pD, RJ_mD, RD_pI, RD_mI, RD_pJ, RD_mJ, RD_pD, RD_mD]) (by simp (disch := omega) only [RI_pI, RI_mI, RI_pJ, RI_mJ, RI_pD, RI_mD, RJ_pI, RJ_mI, RJ_pJ, RJ_mJ, RJ_pD, RJ_mD, RD_pI, RD_mI, RD_pJ, RD_mJ, RD_pD, RD_mD]) (by simp (disch := omega) only [RI_pI, RI_mI, RI_pJ, RI_mJ, RI_pD, RI_mD, RJ_pI, RJ_mI, RJ_pJ, RJ_mJ, RJ_pD, RJ_mD, RD_pI, RD_mI, RD_pJ, RD_mJ, RD_pD, RD_mD]) (by simp (disch := omega) only [RI_pI, RI_mI, RI_pJ, RI_mJ, RI_pD, RI_mD, RJ_pI, RJ_mI, RJ_pJ, RJ_mJ, RJ_pD, RJ_mD, RD_pI, RD_mI, RD_pJ, RD_mJ, RD_pD, RD_mD]) (by simp (disch := omega) only [RI_pI, RI_mI, RI_pJ, RI_mJ, RI_pD, RI_mD, RJ_pI, RJ_mI, RJ_pJ, RJ_mJ, RJ_pD, RJ_mD, RD_pI, RD_mI, RD_pJ, RD_mJ, RD_pD, RD_mD]) (by simp (disch := omega) only [RI_pI, RI_mI, RI_pJ, RI_mJ, RI_pD, RI_mD, RJ_pI, RJ_mI, RJ_pJ, RJ_mJ, RJ_pD, RJ_mD, RD_pI, RD_mI, RD_pJ, RD_mJ, RD_pD, RD_mD])
    · refine Sp_f t2 (by simp (disch := omega) only [RI_pI, RI_mI, RI_pJ, RI_mJ, RI_pD, RI_mD, RJ_pI, RJ_mI, RJ_pJ, RJ_mJ, RJ_pD, RJ_mD, RD_pI, RD_mI, RD_pJ, RD_mJ, RD_pD, RD_mD]) (by simp (disch := omega) only [RI_pI, RI_mI, RI_pJ, RI_mJ, RI_pD, RI_mD, RJ_pI, RJ_mI, RJ_pJ, RJ_mJ, RJ_pD, RJ_mD, RD_pI, RD_mI, RD_pJ, RD_mJ, RD_pD, RD_mD])
    · refine Sr_f t3 (by simp (disch := omega) only [RI_pI, RI_mI, RI_pJ, RI_mJ, RI_pD, RI_mD, RJ_pI, RJ_mI, RJ_pJ, RJ_mJ, RJ_pD, RJ_mD, RD_pI, RD_mI, RD_pJ, RD_mJ, RD_pD, RD_mD]) (by simp (disch := omega) only [RI_pI, RI_mI, RI_pJ, RI_mJ, RI_pD, RI_mD, RJ_pI, RJ_mI, RJ_pJ, RJ_mJ, RJ_pD, RJ_mD, RD_pI, RD_mI, RD_pJ, RD_mJ, RD_pD, RD_mD])
    · funext j
      by_cases c : 8 * B ≤ j ∧ j < 8 * B + 8
      · simp (disch := omega) only [gI_pI_s, gJ_pJ_s, gD_pD_s, gI_pJ, gI_pD, gJ_pI, gJ_pD, gD_pI, gD_pJ, gI_pI_a, gJ_pJ_a, gD_pD_a, gI_pI_k, gJ_pJ_k, gD_pD_k, gI_mI_i, gJ_mJ_i, gD_mD_i, gI_mJ, gI_mD, gJ_mI, gJ_mD, gD_mI, gD_mJ, gI_mI_a, gJ_mJ_a, gD_mD_a, gI_mI_o, gJ_mJ_o, gD_mD_o]
      · simp (disch := omega) only [gI_pI_s, gJ_pJ_s, gD_pD_s, gI_pJ, gI_pD, gJ_pI, gJ_pD, gD_pI, gD_pJ, gI_pI_a, gJ_pJ_a, gD_pD_a, gI_pI_k, gJ_pJ_k, gD_pD_k, gI_mI_i, gJ_mJ_i, gD_mD_i, gI_mJ, gI_mD, gJ_mI, gJ_mD, gD_mI, gD_mJ, gI_mI_a, gJ_mJ_a, gD_mD_a, gI_mI_o, gJ_mJ_o, gD_mD_o]
        rw [(q4.2.2.1 j c).2.2.2.2, (f1.2.2.1 j c).2.2.2.2]
    · funext j
      by_cases c : j = 4 * B + p
      · subst c
        simp (disch := omega) only [gI_pI_s, gJ_pJ_s, gD_pD_s, gI_pJ, gI_pD, gJ_pI, gJ_pD, gD_pI, gD_pJ, gI_pI_a, gJ_pJ_a, gD_pD_a, gI_pI_k, gJ_pJ_k, gD_pD_k, gI_mI_i, gJ_mJ_i, gD_mD_i, gI_mJ, gI_mD, gJ_mI, gJ_mD, gD_mI, gD_mJ, gI_mI_a, gJ_mJ_a, gD_mD_a, gI_mI_o, gJ_mJ_o, gD_mD_o]
      · simp (disch := omega) only [gI_pI_s, gJ_pJ_s, gD_pD_s, gI_pJ, gI_pD, gJ_pI, gJ_pD, gD_pI, gD_pJ, gI_pI_a, gJ_pJ_a, gD_pD_a, gI_pI_k, gJ_pJ_k, gD_pD_k, gI_mI_i, gJ_mJ_i, gD_mD_i, gI_mJ, gI_mD, gJ_mI, gJ_mD, gD_mI, gD_mJ, gI_mI_a, gJ_mJ_a, gD_mD_a, gI_mI_o, gJ_mJ_o, gD_mD_o]
        rw [(q4.2.2.2.2 j c).1, (f1.2.2.2.2 j c).1]
    · funext j
      by_cases c : j = 4 * B + p
      · subst c
        simp (disch := omega) only [gI_pI_s, gJ_pJ_s, gD_pD_s, gI_pJ, gI_pD, gJ_pI, gJ_pD, gD_pI, gD_pJ, gI_pI_a, gJ_pJ_a, gD_pD_a, gI_pI_k, gJ_pJ_k, gD_pD_k, gI_mI_i, gJ_mJ_i, gD_mD_i, gI_mJ, gI_mD, gJ_mI, gJ_mD, gD_mI, gD_mJ, gI_mI_a, gJ_mJ_a, gD_mD_a, gI_mI_o, gJ_mJ_o, gD_mD_o]
      · simp (disch := omega) only [gI_pI_s, gJ_pJ_s, gD_pD_s, gI_pJ, gI_pD, gJ_pI, gJ_pD, gD_pI, gD_pJ, gI_pI_a, gJ_pJ_a, gD_pD_a, gI_pI_k, gJ_pJ_k, gD_pD_k, gI_mI_i, gJ_mJ_i, gD_mD_i, gI_mJ, gI_mD, gJ_mI, gJ_mD, gD_mI, gD_mJ, gI_mI_a, gJ_mJ_a, gD_mD_a, gI_mI_o, gJ_mJ_o, gD_mD_o]
        rw [(q4.2.2.2.2 j c).2, (f1.2.2.2.2 j c).2]
end RUNS
