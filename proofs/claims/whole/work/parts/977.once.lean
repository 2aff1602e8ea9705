section ONCE
variable {p : Nat} {P : Int32} {τ σ : Sg} {c : Nat} {M : Int}
def LedM (M : Int) (τ σ : Sg) : Prop := gI σ 130 13 = gI τ 16 1 ∧ 0 ≤ (gI τ 16 1).toInt ∧ (gI τ 16 1).toInt ≤ M ∧ ∀ k, k < 8 → gJ σ 146 k = gJ τ 17 k
/-- Rl, with a bound of its own for the leaks -/
def RlM (M : Int) (c : Nat) (τ σ : Sg) : Prop := (Lay τ ∧ Lay σ ∧ Rold τ) ∧ Rtab τ σ ∧ Rwts τ σ ∧ Rbil τ σ ∧ LedM M τ σ ∧ Rprg τ σ ∧ Rlst τ σ ∧ Rtap c τ σ ∧ Rmis τ σ
theorem RlM_of (h : Rl c τ σ) : RlM (800 * c) c τ σ := h
theorem RlM_to (h : RlM M c τ σ) (hM : M ≤ 800 * ((c + 1 : Nat) : Int)) : Rl (c + 1) τ σ := by
  obtain ⟨h0, h1, h2, h3, h4, h5, h6, h7, h8⟩ := h
  exact ⟨h0, h1, h2, h3, ⟨h4.1, h4.2.1, Int.le_trans h4.2.2.1 hM, h4.2.2.2⟩, h5, h6, Rtap_f h7 (Nat.le_succ _) (fun _ _ => Sm_refl) (fun _ _ => Sm_refl), h8⟩
theorem l_become0 : ∀ (d n : Nat) (v : Int32) (σ : Sg) {A B m : Nat} {f : Nat → Int32}, A + 1 ≠ B + 1 → A + 1 ≠ B → (gI σ B 1).toInt = m → m ≤ 12 → (∀ j, j < m → gI σ (B + 1) j = f j) → 0 ≤ v.toInt → v.toInt + d = m → d < n → d_X0_become_2 n A B v σ = some (pI (mI σ (A + 1) v.toNatClampNeg m f) A 1 (gI σ B 1)) := by
  intro d
  induction d with
  | zero =>
    intro n v σ A B m f h1 h1' hm hm2 h2 h3 h4 h5
    obtain ⟨n, rfl⟩ : ∃ k, n = k + 1 := ⟨n - 1, by omega⟩
    have := nat0 h3
    rw [d_X0_become_2, if_pos (by rw [i32_le]; omega), mI_nil (by omega)]
    rfl
  | succ d ih =>
    intro n v σ A B m f h1 h1' hm hm2 h2 h3 h4 h5
    obtain ⟨n, rfl⟩ : ∃ k, n = k + 1 := ⟨n - 1, by omega⟩
    obtain ⟨c1, c2, c3⟩ := cnt1 (v := v) (m := 64) h3 (by omega) (by decide)
    have hv : ix v 12 := ix_of h3 (by omega)
    have eb : gI (pI σ (A + 1) v.toNatClampNeg (f v.toNatClampNeg)) B 1 = gI σ B 1 := gI_pI_a (by omega)
    rw [d_X0_become_2, if_neg (by rw [i32_le]; omega), ck_t hv, ck_t hv, nm_t, nm_t, h2 _ (by omega),
      ih n (v + 1) (pI σ (A + 1) v.toNatClampNeg (f v.toNatClampNeg)) (A := A) (B := B) (m := m) (f := f) h1 h1' (by rw [eb]; exact hm) hm2 (fun j hj => by rw [gI_pI_a (by omega)]; exact h2 j hj) (by omega) (by omega) (by omega), c2, mI_step (by omega) rfl, eb]
theorem r_15 : ∀ (d n : Nat) (v : Int32) (σ : Sg) {m : Nat} {f : Nat → Int32}, (gI σ 130 3).toInt = m → m ≤ 12 → (∀ j, j < m → gI σ 133 j = f j) → 0 ≤ v.toInt → v.toInt + d = m → d < n → ∃ w, n ≤ w + d + 1 ∧ d_X12_runsReal_15 n P v σ = d_X12_runsReal_41 w P (mI σ 141 v.toNatClampNeg m f) := by
  intro d
  induction d with
  | zero =>
    intro n v σ m f hm hm2 h2 h3 h4 h5
    obtain ⟨n, rfl⟩ : ∃ k, n = k + 1 := ⟨n - 1, by omega⟩
    have := nat0 h3
    refine ⟨n, by omega, ?_⟩
    rw [d_X12_runsReal_15, if_pos (by rw [i32_le]; omega), mI_nil (by omega)]
  | succ d ih =>
    intro n v σ m f hm hm2 h2 h3 h4 h5
    obtain ⟨n, rfl⟩ : ∃ k, n = k + 1 := ⟨n - 1, by omega⟩
    obtain ⟨c1, c2, c3⟩ := cnt1 (v := v) (m := 64) h3 (by omega) (by decide)
    have hv : ix v 12 := ix_of h3 (by omega)
    have eb : gI (pI σ 141 v.toNatClampNeg (f v.toNatClampNeg)) 130 3 = gI σ 130 3 := gI_pI_a (by decide)
    obtain ⟨w, w1, w2⟩ := ih n (v + 1) (pI σ 141 v.toNatClampNeg (f v.toNatClampNeg)) (m := m) (f := f) (by rw [eb]; exact hm) hm2 (fun j hj => by rw [gI_pI_a (by decide)]; exact h2 j hj) (by omega) (by omega) (by omega)
    refine ⟨w, by omega, ?_⟩
    rw [d_X12_runsReal_15, if_neg (by rw [i32_le]; omega), ck_t hv, ck_t hv, nm_t, nm_t, h2 _ (by omega), w2, c2, mI_step (by omega) rfl]
theorem Rprg_g {τ' σ' : Sg} (h : Rprg τ σ) (e : ∀ a, 74 ≤ a ∧ a ≤ 93 → Sm τ τ' a) (e' : ∀ a, 136 ≤ a ∧ a ≤ 140 → Sm σ σ' a) (e1 : gJ σ' 147 = gJ σ 147) (e2 : gJ σ' 148 = gJ σ 148) (f : gI σ' 130 7 = gI σ 130 7) (f' : gI τ' 4 8 = gI τ 4 8) : Rprg τ' σ' := by
  refine ⟨by rw [f, f']; exact h.1, by rw [f']; exact h.2.1, by rw [f']; exact h.2.2.1, fun p hp => ?_⟩
  rw [f', (e (5 * p + 74) (by omega)).1, (e (5 * p + 74) (by omega)).2.1, (e (5 * p + 75) (by omega)).1, (e (5 * p + 76) (by omega)).1, (e (5 * p + 77) (by omega)).1, (e (5 * p + 78) (by omega)).1,
    (e' 136 (by omega)).1, (e' 137 (by omega)).1, (e' 138 (by omega)).1, (e' 139 (by omega)).1, (e' 140 (by omega)).1, e1, e2]
  exact h.2.2.2 p hp
/-- one real run in both -/
theorem once_v {n : Nat} (hn : 700 ≤ n) (h : RlM M c τ σ) (hM : M ≤ 1000000000) (hP : P.toInt = p) (hp : (p : Int) < (gI τ 4 8).toInt) :
    (∃ τ' σ', c_X11_runOnce n (5 * p + 74) τ = some (0, τ') ∧ c_X12_runsReal n P σ = some (-2, σ') ∧ RlM (M + 20) c τ' σ' ∧ gI τ' 4 8 = gI τ 4 8 ∧ gI τ' (5 * p + 74) 4 = gI τ (5 * p + 74) 4) ∨
    (∃ r i τ' σ', r ≠ 0 ∧ 0 ≤ i.toInt ∧ c_X11_runOnce n (5 * p + 74) τ = some (r, τ') ∧ c_X12_runsReal n P σ = some (i, σ') ∧ gI σ' 130 32 = r ∧ RlM M c τ' σ' ∧ gI τ' 4 8 = gI τ 4 8) := by
  obtain ⟨⟨lt, ls, h0⟩, h1, h2, h3, h4, h5, h6, h7, h8⟩ := h
  have z0 : (0 : Int32).toNatClampNeg = 0 := rfl
  have hp4 : p < 4 := by have := h5.2.2.1; omega
  obtain ⟨b1, b2, b3, b4⟩ := h3
  have nb := nat0 b2
  obtain ⟨j1, j2, j3, j4, j5⟩ := h5.2.2.2 p hp4
  obtain ⟨u1, u2, u3⟩ := j5 hp
  -- the component's start
  have k1 := l_become0 (gI τ 14 1).toNatClampNeg n 0 τ (A := 21) (B := 14) (m := (gI τ 14 1).toNatClampNeg) (f := gI τ 15) (by decide) (by decide) (by omega) (by omega) (fun j _ => rfl) (by decide) (by simp only [Int32.reduceToInt]; omega) (by omega)
  rw [z0] at k1
  have k2 := l_become4 8 n 0 (pI (mI τ (21 + 1) 0 (gI τ 14 1).toNatClampNeg (gI τ 15)) 21 1 (gI τ 14 1)) (A := 23) (B := 16) (f := gJ τ 17) (by decide) (fun j _ => rfl) (by decide) (by decide) (by omega)
  rw [z0] at k2
  have hc : c_X11_runOnce n (5 * p + 74) τ = bd (c_X5_perform n 20 (5 * p + 74) (pJ (pJ (pI (mJ (pI (mI τ (21 + 1) 0 (gI τ 14 1).toNatClampNeg (gI τ 15)) 21 1 (gI τ 14 1)) (23 + 1) 0 8 (gJ τ 17)) 23 1 (gI (pI (mI τ (21 + 1) 0 (gI τ 14 1).toNatClampNeg (gI τ 15)) 21 1 (gI τ 14 1)) 16 1)) 20 7 (gJ τ (5 * p + 74) 5)) 20 8 (gJ τ (5 * p + 74) 6))) fun x109 σ108 => if x109 = 0 then (bp (c_X4_become n 16 23 σ108) fun σ121 => nm (pJ σ121 (5 * p + 74) 5 (gJ σ121 20 7)) fun σ127 => nm (pJ σ127 (5 * p + 74) 6 (gJ σ127 20 8)) fun σ133 => some (x109, σ133)) else (some (x109, σ108)) := by
    unfold c_X11_runOnce c_X0_become
    rw [k1, bp_s]
    have ek : c_X4_become n 23 16 (pI (mI τ (21 + 1) 0 (gI τ 14 1).toNatClampNeg (gI τ 15)) 21 1 (gI τ 14 1)) = some (pI (mJ (pI (mI τ (21 + 1) 0 (gI τ 14 1).toNatClampNeg (gI τ 15)) 21 1 (gI τ 14 1)) (23 + 1) 0 8 (gJ τ 17)) 23 1 (gI (pI (mI τ (21 + 1) 0 (gI τ 14 1).toNatClampNeg (gI τ 15)) 21 1 (gI τ 14 1)) 16 1)) := k2
    rw [ek, bp_s, nm_t, nm_t]
    have e5 : gJ (pI (mJ (pI (mI τ (21 + 1) 0 (gI τ 14 1).toNatClampNeg (gI τ 15)) 21 1 (gI τ 14 1)) (23 + 1) 0 8 (gJ τ 17)) 23 1 (gI (pI (mI τ (21 + 1) 0 (gI τ 14 1).toNatClampNeg (gI τ 15)) 21 1 (gI τ 14 1)) 16 1)) (5 * p + 74) 5 = gJ τ (5 * p + 74) 5 := by simp (disch := omega) only [gI_pI_s, gJ_pJ_s, gD_pD_s, gI_pJ, gI_pD, gJ_pI, gJ_pD, gD_pI, gD_pJ, gI_pI_a, gJ_pJ_a, gD_pD_a, gI_pI_k, gJ_pJ_k, gD_pD_k, gI_mI_i, gJ_mJ_i, gD_mD_i, gI_mJ, gI_mD, gJ_mI, gJ_mD, gD_mI, gD_mJ, gI_mI_a, gJ_mJ_a, gD_mD_a, gI_mI_o, gJ_mJ_o, gD_mD_o]
    have e6 : gJ (pJ (pI (mJ (pI (mI τ (21 + 1) 0 (gI τ 14 1).toNatClampNeg (gI τ 15)) 21 1 (gI τ 14 1)) (23 + 1) 0 8 (gJ τ 17)) 23 1 (gI (pI (mI τ (21 + 1) 0 (gI τ 14 1).toNatClampNeg (gI τ 15)) 21 1 (gI τ 14 1)) 16 1)) 20 7 (gJ τ (5 * p + 74) 5)) (5 * p + 74) 6 = gJ τ (5 * p + 74) 6 := by simp (disch := omega) only [gI_pI_s, gJ_pJ_s, gD_pD_s, gI_pJ, gI_pD, gJ_pI, gJ_pD, gD_pI, gD_pJ, gI_pI_a, gJ_pJ_a, gD_pD_a, gI_pI_k, gJ_pJ_k, gD_pD_k, gI_mI_i, gJ_mJ_i, gD_mD_i, gI_mJ, gI_mD, gJ_mI, gJ_mD, gD_mI, gD_mJ, gI_mI_a, gJ_mJ_a, gD_mD_a, gI_mI_o, gJ_mJ_o, gD_mD_o]
    rw [e5, e6]
  -- the reference's start
  obtain ⟨w, w1, w2⟩ := r_15 (P := P) (gI τ 14 1).toNatClampNeg n 0 (pI (pI σ 130 16 0) 130 17 (gI σ 130 3)) (m := (gI τ 14 1).toNatClampNeg) (f := gI σ 133) (by simp (disch := omega) only [gI_pI_s, gJ_pJ_s, gD_pD_s, gI_pJ, gI_pD, gJ_pI, gJ_pD, gD_pI, gD_pJ, gI_pI_a, gJ_pJ_a, gD_pD_a, gI_pI_k, gJ_pJ_k, gD_pD_k, gI_mI_i, gJ_mJ_i, gD_mD_i, gI_mJ, gI_mD, gJ_mI, gJ_mD, gD_mI, gD_mJ, gI_mI_a, gJ_mJ_a, gD_mD_a, gI_mI_o, gJ_mJ_o, gD_mD_o]; rw [b1]; omega) (by omega) (fun j _ => by simp (disch := omega) only [gI_pI_s, gJ_pJ_s, gD_pD_s, gI_pJ, gI_pD, gJ_pI, gJ_pD, gD_pI, gD_pJ, gI_pI_a, gJ_pJ_a, gD_pD_a, gI_pI_k, gJ_pJ_k, gD_pD_k, gI_mI_i, gJ_mJ_i, gD_mD_i, gI_mJ, gI_mD, gJ_mI, gJ_mD, gD_mI, gD_mJ, gI_mI_a, gJ_mJ_a, gD_mD_a, gI_mI_o, gJ_mJ_o, gD_mD_o]) (by decide) (by simp only [Int32.reduceToInt]; omega) (by omega)
  rw [z0] at w2
  have hm : c_X12_runsReal n P σ = bd (c_X12_runs w P (mI (pI (pI σ 130 16 0) 130 17 (gI σ 130 3)) 141 0 (gI τ 14 1).toNatClampNeg (gI σ 133))) fun x33 σ32 => nm (pI σ32 130 14 x33) fun σ35 => nm (pI σ35 130 13 ((gI σ35 130 13) + (gI σ35 130 31))) fun σ37 => some (gI σ37 130 14, σ37) := by
    unfold c_X12_runsReal
    rw [nm_t, nm_t, gI_pI_k (by decide)]
    exact w2
  generalize hT : pJ (pJ (pI (mJ (pI (mI τ (21 + 1) 0 (gI τ 14 1).toNatClampNeg (gI τ 15)) 21 1 (gI τ 14 1)) (23 + 1) 0 8 (gJ τ 17)) 23 1 (gI (pI (mI τ (21 + 1) 0 (gI τ 14 1).toNatClampNeg (gI τ 15)) 21 1 (gI τ 14 1)) 16 1)) 20 7 (gJ τ (5 * p + 74) 5)) 20 8 (gJ τ (5 * p + 74) 6) = τ1 at hc
  generalize hS : mI (pI (pI σ 130 16 0) 130 17 (gI σ 130 3)) 141 0 (gI τ 14 1).toNatClampNeg (gI σ 133) = σ1 at hm
  have l1 : Lay τ1 := by rw [← hT]; exact lt
  have m1 : Lay σ1 := by rw [← hS]; exact ls
  have fT : ∀ a, ¬ (20 ≤ a ∧ a ≤ 24) → Sm τ τ1 a := fun a ha => by
    rw [← hT]
    exact Sm_pJ (Sm_pJ (Sm_pI (Sm_mJ (Sm_pI (Sm_mI Sm_refl (by omega)) (by omega)) (by omega)) (by omega)) (by omega)) (by omega)
  have fS : ∀ a, a ≠ 130 ∧ a ≠ 141 → Sm σ σ1 a := fun a ha => by
    rw [← hS]
    exact Sm_mI (Sm_pI (Sm_pI Sm_refl (by omega)) (by omega)) (by omega)
  have fS2 : ∀ k, k ≠ 16 ∧ k ≠ 17 → gI σ1 130 k = gI σ 130 k := fun k hk => by rw [← hS]; simp (disch := omega) only [gI_pI_s, gJ_pJ_s, gD_pD_s, gI_pJ, gI_pD, gJ_pI, gJ_pD, gD_pI, gD_pJ, gI_pI_a, gJ_pJ_a, gD_pD_a, gI_pI_k, gJ_pJ_k, gD_pD_k, gI_mI_i, gJ_mJ_i, gD_mD_i, gI_mJ, gI_mD, gJ_mI, gJ_mD, gD_mI, gD_mJ, gI_mI_a, gJ_mJ_a, gD_mD_a, gI_mI_o, gJ_mJ_o, gD_mD_o]
  have fS16 : gI σ1 130 16 = 0 := by rw [← hS]; simp (disch := omega) only [gI_pI_s, gJ_pJ_s, gD_pD_s, gI_pJ, gI_pD, gJ_pI, gJ_pD, gD_pI, gD_pJ, gI_pI_a, gJ_pJ_a, gD_pD_a, gI_pI_k, gJ_pJ_k, gD_pD_k, gI_mI_i, gJ_mJ_i, gD_mD_i, gI_mJ, gI_mD, gJ_mI, gJ_mD, gD_mI, gD_mJ, gI_mI_a, gJ_mJ_a, gD_mD_a, gI_mI_o, gJ_mJ_o, gD_mD_o]
  have cx : Cx p τ1 σ1 := Cx_f ⟨h1, h2, j1, j2, j3, j4⟩ hp4 (fun a ha => fT a (by omega)) (fun a ha => fS a (by omega))
  have aK : gI τ1 (20 + 3) 1 = gI τ 16 1 := by rw [← hT]; simp (disch := omega) only [gI_pI_s, gJ_pJ_s, gD_pD_s, gI_pJ, gI_pD, gJ_pI, gJ_pD, gD_pI, gD_pJ, gI_pI_a, gJ_pJ_a, gD_pD_a, gI_pI_k, gJ_pJ_k, gD_pD_k, gI_mI_i, gJ_mJ_i, gD_mD_i, gI_mJ, gI_mD, gJ_mI, gJ_mD, gD_mI, gD_mJ, gI_mI_a, gJ_mJ_a, gD_mD_a, gI_mI_o, gJ_mJ_o, gD_mD_o]
  have aA : Sa 20 0 τ1 σ1 := fun k hk => by
    have e1 : gJ σ1 146 = gJ σ 146 := (fS 146 (by decide)).2.1
    have e2 : gJ τ1 (20 + 4) k = gJ τ 17 k := by rw [← hT]; simp (disch := omega) only [gI_pI_s, gJ_pJ_s, gD_pD_s, gI_pJ, gI_pD, gJ_pI, gJ_pD, gD_pI, gD_pJ, gI_pI_a, gJ_pJ_a, gD_pD_a, gI_pI_k, gJ_pJ_k, gD_pD_k, gI_mI_i, gJ_mJ_i, gD_mD_i, gI_mJ, gI_mD, gJ_mI, gJ_mD, gD_mI, gD_mJ, gI_mI_a, gJ_mJ_a, gD_mD_a, gI_mI_o, gJ_mJ_o, gD_mD_o]
    rw [show 8 * 0 + k = k by omega, e1, e2]; exact h4.2.2.2 k hk
  have aC : Sc 20 0 p τ1 σ1 := by
    have e1 : gJ σ1 147 = gJ σ 147 := (fS 147 (by decide)).2.1
    have e2 : gJ σ1 148 = gJ σ 148 := (fS 148 (by decide)).2.1
    have e3 : gJ τ1 20 7 = gJ τ (5 * p + 74) 5 := by rw [← hT]; simp (disch := omega) only [gI_pI_s, gJ_pJ_s, gD_pD_s, gI_pJ, gI_pD, gJ_pI, gJ_pD, gD_pI, gD_pJ, gI_pI_a, gJ_pJ_a, gD_pD_a, gI_pI_k, gJ_pJ_k, gD_pD_k, gI_mI_i, gJ_mJ_i, gD_mD_i, gI_mJ, gI_mD, gJ_mI, gJ_mD, gD_mI, gD_mJ, gI_mI_a, gJ_mJ_a, gD_mD_a, gI_mI_o, gJ_mJ_o, gD_mD_o]
    have e4 : gJ τ1 20 8 = gJ τ (5 * p + 74) 6 := by rw [← hT]; simp (disch := omega) only [gI_pI_s, gJ_pJ_s, gD_pD_s, gI_pJ, gI_pD, gJ_pI, gJ_pD, gD_pI, gD_pJ, gI_pI_a, gJ_pJ_a, gD_pD_a, gI_pI_k, gJ_pJ_k, gD_pD_k, gI_mI_i, gJ_mJ_i, gD_mD_i, gI_mJ, gI_mD, gJ_mI, gJ_mD, gD_mI, gD_mJ, gI_mI_a, gJ_mJ_a, gD_mD_a, gI_mI_o, gJ_mJ_o, gD_mD_o]
    unfold Sc
    rw [show 4 * 0 + p = p by omega, e1, e2, e3, e4]
    exact ⟨u1, u2, u3⟩
  have aB : Sb 20 τ1 σ1 := by
    have e1 : gI σ1 130 17 = gI τ 14 1 := by rw [← hS]; simp (disch := omega) only [gI_pI_s, gJ_pJ_s, gD_pD_s, gI_pJ, gI_pD, gJ_pI, gJ_pD, gD_pI, gD_pJ, gI_pI_a, gJ_pJ_a, gD_pD_a, gI_pI_k, gJ_pJ_k, gD_pD_k, gI_mI_i, gJ_mJ_i, gD_mD_i, gI_mJ, gI_mD, gJ_mI, gJ_mD, gD_mI, gD_mJ, gI_mI_a, gJ_mJ_a, gD_mD_a, gI_mI_o, gJ_mJ_o, gD_mD_o]; exact b1
    have e2 : gI τ1 (20 + 1) 1 = gI τ 14 1 := by rw [← hT]; simp (disch := omega) only [gI_pI_s, gJ_pJ_s, gD_pD_s, gI_pJ, gI_pD, gJ_pI, gJ_pD, gD_pI, gD_pJ, gI_pI_a, gJ_pJ_a, gD_pD_a, gI_pI_k, gJ_pJ_k, gD_pD_k, gI_mI_i, gJ_mJ_i, gD_mD_i, gI_mJ, gI_mD, gJ_mI, gJ_mD, gD_mI, gD_mJ, gI_mI_a, gJ_mJ_a, gD_mD_a, gI_mI_o, gJ_mJ_o, gD_mD_o]
    unfold Sb
    rw [e1, e2]
    refine ⟨rfl, b2, b3, fun j hj => ?_⟩
    have e3 : gI σ1 141 j = gI σ 133 j := by rw [← hS]; simp (disch := omega) only [gI_pI_s, gJ_pJ_s, gD_pD_s, gI_pJ, gI_pD, gJ_pI, gJ_pD, gD_pI, gD_pJ, gI_pI_a, gJ_pJ_a, gD_pD_a, gI_pI_k, gJ_pJ_k, gD_pD_k, gI_mI_i, gJ_mJ_i, gD_mD_i, gI_mJ, gI_mD, gJ_mI, gJ_mD, gD_mI, gD_mJ, gI_mI_a, gJ_mJ_a, gD_mD_a, gI_mI_o, gJ_mJ_o, gD_mD_o]
    have e4 : gI τ1 (20 + 2) j = gI τ 15 j := by rw [← hT]; simp (disch := omega) only [gI_pI_s, gJ_pJ_s, gD_pD_s, gI_pJ, gI_pD, gJ_pI, gJ_pD, gD_pI, gD_pJ, gI_pI_a, gJ_pJ_a, gD_pD_a, gI_pI_k, gJ_pJ_k, gD_pD_k, gI_mI_i, gJ_mJ_i, gD_mD_i, gI_mJ, gI_mD, gJ_mI, gJ_mD, gD_mI, gD_mJ, gI_mI_a, gJ_mJ_a, gD_mD_a, gI_mI_o, gJ_mJ_o, gD_mD_o]
    rw [e3, e4]
    exact b4 j (by omega)
  rw [hc, hm]
  rcases run_v (b := 20) (B := 0) (p := p) (lk := gI τ 16 1) (P := P) (τ := τ1) (σ := σ1) (n := 500) (Nat.le_refl _) l1 m1 (by decide) (by decide) hp4 (by rw [fS16]; rfl) hP aA aK aC aB cx with ⟨τ2, σ2, q1, q2, q3, q4, q5, q6⟩ | ⟨r, i, τ2, σ2, q0, q0', q1, q2, q3, q6, q7, ⟨ql, qb⟩, t1, t2, t3, g1, g2, g3, q4, q5⟩
  · have q1 := Le_up (f := fun n => c_X5_perform n 20 (5 * p + 74) τ1) (fun n => u_c_X5_perform) (show 500 ≤ n by omega) _ q1
    have q2 := Le_up (f := fun n => c_X12_runs n P σ1) (fun n => u_c_X12_runs) (show 500 ≤ w by omega) _ q2
    rw [q1, q2, bd_s, bd_s, if_pos rfl]
    have k3 := l_become4 8 n 0 τ2 (A := 16) (B := 23) (f := gJ τ2 24) (by decide) (fun j _ => rfl) (by decide) (by decide) (by omega)
    rw [z0] at k3
    have k3' : c_X4_become n 16 23 τ2 = some (pI (mJ τ2 (16 + 1) 0 8 (gJ τ2 24)) 16 1 (gI τ2 23 1)) := k3
    rw [k3', bp_s, nm_t, nm_t, nm_t, nm_t]
    obtain ⟨⟨lt2, ls2, -⟩, s1, s2, s3, s4, s5, s6, s7, -⟩ := q3
    left
    have fF : ∀ a, ¬ (20 ≤ a ∧ a ≤ 32) ∧ a ≠ 16 ∧ a ≠ 17 ∧ a ≠ 5 * p + 74 → Sm τ (pJ (pJ (pI (mJ τ2 (16 + 1) 0 8 (gJ τ2 24)) 16 1 (gI τ2 23 1)) (5 * p + 74) 5 (gJ (pI (mJ τ2 (16 + 1) 0 8 (gJ τ2 24)) 16 1 (gI τ2 23 1)) 20 7)) (5 * p + 74) 6 (gJ (pJ (pI (mJ τ2 (16 + 1) 0 8 (gJ τ2 24)) 16 1 (gI τ2 23 1)) (5 * p + 74) 5 (gJ (pI (mJ τ2 (16 + 1) 0 8 (gJ τ2 24)) 16 1 (gI τ2 23 1)) 20 7)) 20 8)) a := fun a ha => Sm_pJ (Sm_pJ (Sm_pI (Sm_mJ (Sm_tr (fT a (by omega)) (Sm_to q5 (by omega))) (by omega)) (by omega)) (by omega)) (by omega)
    have fG : ∀ a, a ≠ 130 ∧ a ≠ 141 ∧ ¬ (142 ≤ a ∧ a ≤ 149) ∧ a ≠ 158 → Sm σ (pI (pI σ2 130 14 (-2)) 130 13 (gI (pI σ2 130 14 (-2)) 130 13 + gI (pI σ2 130 14 (-2)) 130 31)) a := fun a ha => Sm_pI (Sm_pI (Sm_tr (fS a (by omega)) (q4.1 a (by omega))) (by omega)) (by omega)
    have fG2 : ∀ k, k ≠ 16 ∧ k ≠ 17 ∧ k ≠ 13 ∧ k ≠ 14 ∧ ¬ (27 ≤ k ∧ k ≤ 32) → gI (pI (pI σ2 130 14 (-2)) 130 13 (gI (pI σ2 130 14 (-2)) 130 13 + gI (pI σ2 130 14 (-2)) 130 31)) 130 k = gI σ 130 k := fun k hk => by
      rw [gI_pI_k (by omega), gI_pI_k (by omega), q4.2.1 k (by omega), fS2 k (by omega)]
    have e16 : gI σ2 130 16 = 0 := by rw [q4.2.1 16 (by decide)]; exact fS16
    have e13 : gI σ2 130 13 = gI τ 16 1 := by rw [q4.2.1 13 (by decide), fS2 13 (by decide)]; exact h4.1
    have pq : gI (pJ (pJ (pI (mJ τ2 (16 + 1) 0 8 (gJ τ2 24)) 16 1 (gI τ2 23 1)) (5 * p + 74) 5 (gJ (pI (mJ τ2 (16 + 1) 0 8 (gJ τ2 24)) 16 1 (gI τ2 23 1)) 20 7)) (5 * p + 74) 6 (gJ (pJ (pI (mJ τ2 (16 + 1) 0 8 (gJ τ2 24)) 16 1 (gI τ2 23 1)) (5 * p + 74) 5 (gJ (pI (mJ τ2 (16 + 1) 0 8 (gJ τ2 24)) 16 1 (gI τ2 23 1)) 20 7)) 20 8)) (5 * p + 74) = gI τ (5 * p + 74) := by
      simp (disch := omega) only [RI_pI, RI_mI, RI_pJ, RI_mJ, RI_pD, RI_mD, RJ_pI, RJ_mI, RJ_pJ, RJ_mJ, RJ_pD, RJ_mD, RD_pI, RD_mI, RD_pJ, RD_mJ, RD_pD, RD_mD]
      rw [(Sm_to q5 (a := 5 * p + 74) (by omega)).1, (fT (5 * p + 74) (by omega)).1]
    refine ⟨_, pI (pI σ2 130 14 (-2)) 130 13 (gI (pI σ2 130 14 (-2)) 130 13 + gI (pI σ2 130 14 (-2)) 130 31), rfl, by rw [gI_pI_k (by decide), gI_pI_s], ⟨⟨lt2, ls2, Rold_f h0 (fun a ha => fF a (by omega))⟩, Rtab_f h1 (fun a ha => fF a (by omega)) (fun a ha => fG a (by omega)), Rwts_f h2 (fun a ha => fF a (by omega)) (fun a ha => fG a (by omega)), Rbil_f ⟨b1, b2, b3, b4⟩ (fun a ha => fF a (by omega)) (fG 133 (by decide)) (fG2 3 (by decide)), ?_, ?_, ?_, Rtap_f h7 (Nat.le_refl _) (fun a ha => fF a (by omega)) (fun a ha => fG a (by omega)), ?_⟩, ?_, ?_⟩
    · -- the ledger
      have eL : (gI τ 16 1 + gI σ2 130 31).toInt = (gI τ 16 1).toInt + (gI σ2 130 31).toInt := i32_add (by have := h4.2.1; have := s5.2.1; omega) (by have := h4.2.2.1; have := s5.2.2; omega)
      have e23 : gI τ2 23 1 = gI τ 16 1 + gI σ2 130 31 := s5.1
      refine ⟨?_, ?_, ?_, fun k hk => ?_⟩
      · simp (disch := omega) only [gI_pI_s, gJ_pJ_s, gD_pD_s, gI_pJ, gI_pD, gJ_pI, gJ_pD, gD_pI, gD_pJ, gI_pI_a, gJ_pJ_a, gD_pD_a, gI_pI_k, gJ_pJ_k, gD_pD_k, gI_mI_i, gJ_mJ_i, gD_mD_i, gI_mJ, gI_mD, gJ_mI, gJ_mD, gD_mI, gD_mJ, gI_mI_a, gJ_mJ_a, gD_mD_a, gI_mI_o, gJ_mJ_o, gD_mD_o]
        rw [e13, e23]
      · simp (disch := omega) only [gI_pI_s, gJ_pJ_s, gD_pD_s, gI_pJ, gI_pD, gJ_pI, gJ_pD, gD_pI, gD_pJ, gI_pI_a, gJ_pJ_a, gD_pD_a, gI_pI_k, gJ_pJ_k, gD_pD_k, gI_mI_i, gJ_mJ_i, gD_mD_i, gI_mJ, gI_mD, gJ_mI, gJ_mD, gD_mI, gD_mJ, gI_mI_a, gJ_mJ_a, gD_mD_a, gI_mI_o, gJ_mJ_o, gD_mD_o]
        rw [e23, eL]; have := h4.2.1; have := s5.2.1; omega
      · simp (disch := omega) only [gI_pI_s, gJ_pJ_s, gD_pD_s, gI_pJ, gI_pD, gJ_pI, gJ_pD, gD_pI, gD_pJ, gI_pI_a, gJ_pJ_a, gD_pD_a, gI_pI_k, gJ_pJ_k, gD_pD_k, gI_mI_i, gJ_mJ_i, gD_mD_i, gI_mJ, gI_mD, gJ_mI, gJ_mD, gD_mI, gD_mJ, gI_mI_a, gJ_mJ_a, gD_mD_a, gI_mI_o, gJ_mJ_o, gD_mD_o]
        rw [e23, eL]; have := h4.2.2.1; have := s5.2.2; omega
      · simp (disch := omega) only [gI_pI_s, gJ_pJ_s, gD_pD_s, gI_pJ, gI_pD, gJ_pI, gJ_pD, gD_pI, gD_pJ, gI_pI_a, gJ_pJ_a, gD_pD_a, gI_pI_k, gJ_pJ_k, gD_pD_k, gI_mI_i, gJ_mJ_i, gD_mD_i, gI_mJ, gI_mD, gJ_mI, gJ_mD, gD_mI, gD_mJ, gI_mI_a, gJ_mJ_a, gD_mD_a, gI_mI_o, gJ_mJ_o, gD_mD_o]
        have := s4 k hk
        rw [show 8 * 0 + k = k by omega] at this
        exact this
    · -- the programs
      refine ⟨?_, ?_, ?_, fun p' hp' => ?_⟩
      · rw [fG2 7 (by decide), (fF 4 (by omega)).1]; exact h5.1
      · rw [(fF 4 (by omega)).1]; exact h5.2.1
      · rw [(fF 4 (by omega)).1]; exact h5.2.2.1
      · obtain ⟨y1, y2, y3, y4, y5⟩ := h5.2.2.2 p' hp'
        have g147 : ∀ j, j ≠ p → gJ (pI (pI σ2 130 14 (-2)) 130 13 (gI (pI σ2 130 14 (-2)) 130 13 + gI (pI σ2 130 14 (-2)) 130 31)) 147 j = gJ σ 147 j ∧ gJ (pI (pI σ2 130 14 (-2)) 130 13 (gI (pI σ2 130 14 (-2)) 130 13 + gI (pI σ2 130 14 (-2)) 130 31)) 148 j = gJ σ 148 j := fun j hj => by
          have := q4.2.2.2.2 j (by omega)
          rw [gJ_pI, gJ_pI, gJ_pI, gJ_pI, this.1, this.2, (fS 147 (by decide)).2.1, (fS 148 (by decide)).2.1]
          exact ⟨rfl, rfl⟩
        by_cases e : p' = p
        · subst e
          rw [pq, (fF (5 * p' + 75) (by omega)).1, (fF (5 * p' + 76) (by omega)).1, (fF (5 * p' + 77) (by omega)).1, (fF (5 * p' + 78) (by omega)).1, (fG 136 (by decide)).1, (fG 137 (by decide)).1, (fG 138 (by decide)).1, (fG 139 (by decide)).1, (fG 140 (by decide)).1]
          refine ⟨y1, y2, y3, y4, fun _ => ?_⟩
          simp (disch := omega) only [gI_pI_s, gJ_pJ_s, gD_pD_s, gI_pJ, gI_pD, gJ_pI, gJ_pD, gD_pI, gD_pJ, gI_pI_a, gJ_pJ_a, gD_pD_a, gI_pI_k, gJ_pJ_k, gD_pD_k, gI_mI_i, gJ_mJ_i, gD_mD_i, gI_mJ, gI_mD, gJ_mI, gJ_mD, gD_mI, gD_mJ, gI_mI_a, gJ_mJ_a, gD_mD_a, gI_mI_o, gJ_mJ_o, gD_mD_o]
          have := s6
          unfold Sc at this
          rw [show 4 * 0 + p' = p' by omega] at this
          exact this
        · have sp : Sm τ (pJ (pJ (pI (mJ τ2 (16 + 1) 0 8 (gJ τ2 24)) 16 1 (gI τ2 23 1)) (5 * p + 74) 5 (gJ (pI (mJ τ2 (16 + 1) 0 8 (gJ τ2 24)) 16 1 (gI τ2 23 1)) 20 7)) (5 * p + 74) 6 (gJ (pJ (pI (mJ τ2 (16 + 1) 0 8 (gJ τ2 24)) 16 1 (gI τ2 23 1)) (5 * p + 74) 5 (gJ (pI (mJ τ2 (16 + 1) 0 8 (gJ τ2 24)) 16 1 (gI τ2 23 1)) 20 7)) 20 8)) (5 * p' + 74) := fF (5 * p' + 74) (by omega)
          rw [sp.1, sp.2.1, (fF (5 * p' + 75) (by omega)).1, (fF (5 * p' + 76) (by omega)).1, (fF (5 * p' + 77) (by omega)).1, (fF (5 * p' + 78) (by omega)).1, (fF 4 (by omega)).1, (fG 136 (by decide)).1, (fG 137 (by decide)).1, (fG 138 (by decide)).1, (fG 139 (by decide)).1, (fG 140 (by decide)).1, (g147 p' e).1, (g147 p' e).2]
          exact ⟨y1, y2, y3, y4, y5⟩
    · -- the last run
      refine ⟨?_, fun k hk => ?_, fun k hk => ?_⟩
      · simp (disch := omega) only [gI_pI_s, gJ_pJ_s, gD_pD_s, gI_pJ, gI_pD, gJ_pI, gJ_pD, gD_pI, gD_pJ, gI_pI_a, gJ_pJ_a, gD_pD_a, gI_pI_k, gJ_pJ_k, gD_pD_k, gI_mI_i, gJ_mJ_i, gD_mD_i, gI_mJ, gI_mD, gJ_mI, gJ_mD, gD_mI, gD_mJ, gI_mI_a, gJ_mJ_a, gD_mD_a, gI_mI_o, gJ_mJ_o, gD_mD_o]
        exact s7.2.2.2.2.symm
      · have a := s1 k hk
        have b := (s2 k hk).1
        rw [show 8 * 0 + k = k by omega] at a b
        simp (disch := omega) only [gI_pI_s, gJ_pJ_s, gD_pD_s, gI_pJ, gI_pD, gJ_pI, gJ_pD, gD_pI, gD_pJ, gI_pI_a, gJ_pJ_a, gD_pD_a, gI_pI_k, gJ_pJ_k, gD_pD_k, gI_mI_i, gJ_mJ_i, gD_mD_i, gI_mJ, gI_mD, gJ_mI, gJ_mD, gD_mI, gD_mJ, gI_mI_a, gJ_mJ_a, gD_mD_a, gI_mI_o, gJ_mJ_o, gD_mD_o]
        exact ⟨a.1, a.2.1, a.2.2.1, a.2.2.2.1, b⟩
      · have a := s3 k hk
        rw [show 12 * 0 + k = k by omega] at a
        simp (disch := omega) only [gI_pI_s, gJ_pJ_s, gD_pD_s, gI_pJ, gI_pD, gJ_pI, gJ_pD, gD_pI, gD_pJ, gI_pI_a, gJ_pJ_a, gD_pD_a, gI_pI_k, gJ_pJ_k, gD_pD_k, gI_mI_i, gJ_mJ_i, gD_mD_i, gI_mJ, gI_mD, gJ_mI, gJ_mD, gD_mI, gD_mJ, gI_mI_a, gJ_mJ_a, gD_mD_a, gI_mI_o, gJ_mJ_o, gD_mD_o]
        exact a
    · refine ⟨?_, ?_⟩
      · rw [fG2 15 (by decide), (fF 4 (by omega)).1]; exact h8.1
      · simp (disch := omega) only [gI_pI_s, gJ_pJ_s, gD_pD_s, gI_pJ, gI_pD, gJ_pI, gJ_pD, gD_pI, gD_pJ, gI_pI_a, gJ_pJ_a, gD_pD_a, gI_pI_k, gJ_pJ_k, gD_pD_k, gI_mI_i, gJ_mJ_i, gD_mD_i, gI_mJ, gI_mD, gJ_mI, gJ_mD, gD_mI, gD_mJ, gI_mI_a, gJ_mJ_a, gD_mD_a, gI_mI_o, gJ_mJ_o, gD_mD_o]; exact e16
    · rw [(fF 4 (by omega)).1]
    · rw [pq]
  · have q1 := Le_up (f := fun n => c_X5_perform n 20 (5 * p + 74) τ1) (fun n => u_c_X5_perform) (show 500 ≤ n by omega) _ q1
    have q2 := Le_up (f := fun n => c_X12_runs n P σ1) (fun n => u_c_X12_runs) (show 500 ≤ w by omega) _ q2
    rw [q1, q2, bd_s, bd_s, if_neg q0, nm_t, nm_t]
    right
    have fF : ∀ a, ¬ (20 ≤ a ∧ a ≤ 32) → Sm τ τ2 a := fun a ha => Sm_tr (fT a (by omega)) (Sm_to q5 (by omega))
    have fG : ∀ a, a ≠ 130 ∧ a ≠ 141 ∧ ¬ (142 ≤ a ∧ a ≤ 149) ∧ a ≠ 158 → Sm σ (pI (pI σ2 130 14 i) 130 13 (gI (pI σ2 130 14 i) 130 13 + gI (pI σ2 130 14 i) 130 31)) a := fun a ha => Sm_pI (Sm_pI (Sm_tr (fS a (by omega)) (q4.1 a (by omega))) (by omega)) (by omega)
    have fG2 : ∀ k, k ≠ 16 ∧ k ≠ 17 ∧ k ≠ 13 ∧ k ≠ 14 ∧ ¬ (27 ≤ k ∧ k ≤ 32) → gI (pI (pI σ2 130 14 i) 130 13 (gI (pI σ2 130 14 i) 130 13 + gI (pI σ2 130 14 i) 130 31)) 130 k = gI σ 130 k := fun k hk => by
      rw [gI_pI_k (by omega), gI_pI_k (by omega), q4.2.1 k (by omega), fS2 k (by omega)]
    have e16 : gI σ2 130 16 = 0 := by rw [q4.2.1 16 (by decide)]; exact fS16
    have e13 : gI (pI (pI σ2 130 14 i) 130 13 (gI (pI σ2 130 14 i) 130 13 + gI (pI σ2 130 14 i) 130 31)) 130 13 = gI σ 130 13 := by
      rw [gI_pI_s, gI_pI_k (by decide), gI_pI_k (by decide), q7, Int32.add_zero, q4.2.1 13 (by decide), fS2 13 (by decide)]
    have c146 : gJ (pI (pI σ2 130 14 i) 130 13 (gI (pI σ2 130 14 i) 130 13 + gI (pI σ2 130 14 i) 130 31)) 146 = gJ σ 146 := by
      simp (disch := omega) only [RI_pI, RI_mI, RI_pJ, RI_mJ, RI_pD, RI_mD, RJ_pI, RJ_mI, RJ_pJ, RJ_mJ, RJ_pD, RJ_mD, RD_pI, RD_mI, RD_pJ, RD_mJ, RD_pD, RD_mD]; rw [g1, (fS 146 (by decide)).2.1]
    have c147 : gJ (pI (pI σ2 130 14 i) 130 13 (gI (pI σ2 130 14 i) 130 13 + gI (pI σ2 130 14 i) 130 31)) 147 = gJ σ 147 := by
      simp (disch := omega) only [RI_pI, RI_mI, RI_pJ, RI_mJ, RI_pD, RI_mD, RJ_pI, RJ_mI, RJ_pJ, RJ_mJ, RJ_pD, RJ_mD, RD_pI, RD_mI, RD_pJ, RD_mJ, RD_pD, RD_mD]; rw [g2, (fS 147 (by decide)).2.1]
    have c148 : gJ (pI (pI σ2 130 14 i) 130 13 (gI (pI σ2 130 14 i) 130 13 + gI (pI σ2 130 14 i) 130 31)) 148 = gJ σ 148 := by
      simp (disch := omega) only [RI_pI, RI_mI, RI_pJ, RI_mJ, RI_pD, RI_mD, RJ_pI, RJ_mI, RJ_pJ, RJ_mJ, RJ_pD, RJ_mD, RD_pI, RD_mI, RD_pJ, RD_mJ, RD_pD, RD_mD]; rw [g3, (fS 148 (by decide)).2.1]
    refine ⟨r, i, τ2, pI (pI σ2 130 14 i) 130 13 (gI (pI σ2 130 14 i) 130 13 + gI (pI σ2 130 14 i) 130 31), q0, q0', rfl, by rw [gI_pI_k (by decide), gI_pI_s], ?_, ⟨⟨q5.1, ql, Rold_f h0 (fun a ha => fF a (by omega))⟩, Rtab_f h1 (fun a ha => fF a (by omega)) (fun a ha => fG a (by omega)), Rwts_f h2 (fun a ha => fF a (by omega)) (fun a ha => fG a (by omega)), Rbil_f ⟨b1, b2, b3, b4⟩ (fun a ha => fF a (by omega)) (fG 133 (by decide)) (fG2 3 (by decide)), ?_, ?_, ?_, Rtap_f h7 (Nat.le_refl _) (fun a ha => fF a (by omega)) (fun a ha => fG a (by omega)), ?_⟩, ?_⟩
    · rw [gI_pI_k (by decide), gI_pI_k (by decide)]; exact q6
    · unfold LedM
      rw [(fF 16 (by decide)).1, (fF 17 (by decide)).2.1, e13, c146]
      exact h4
    · exact Rprg_g h5 (fun a ha => fF a (by omega)) (fun a ha => fG a (by omega)) c147 c148 (fG2 7 (by decide)) (by rw [(fF 4 (by decide)).1])
    · refine ⟨?_, fun k hk => ?_, fun k hk => ?_⟩
      · rw [gI_pI_k (by decide), gI_pI_s]; exact q3.symm
      · have a := t1 k hk
        have b := (t2 k hk).1
        rw [show 8 * 0 + k = k by omega] at a b
        simp (disch := omega) only [gI_pI_s, gJ_pJ_s, gD_pD_s, gI_pJ, gI_pD, gJ_pI, gJ_pD, gD_pI, gD_pJ, gI_pI_a, gJ_pJ_a, gD_pD_a, gI_pI_k, gJ_pJ_k, gD_pD_k, gI_mI_i, gJ_mJ_i, gD_mD_i, gI_mJ, gI_mD, gJ_mI, gJ_mD, gD_mI, gD_mJ, gI_mI_a, gJ_mJ_a, gD_mD_a, gI_mI_o, gJ_mJ_o, gD_mD_o]
        exact ⟨a.1, a.2.1, a.2.2.1, a.2.2.2.1, b⟩
      · have a := t3 k hk
        rw [show 12 * 0 + k = k by omega] at a
        simp (disch := omega) only [gI_pI_s, gJ_pJ_s, gD_pD_s, gI_pJ, gI_pD, gJ_pI, gJ_pD, gD_pI, gD_pJ, gI_pI_a, gJ_pJ_a, gD_pD_a, gI_pI_k, gJ_pJ_k, gD_pD_k, gI_mI_i, gJ_mJ_i, gD_mD_i, gI_mJ, gI_mD, gJ_mI, gJ_mD, gD_mI, gD_mJ, gI_mI_a, gJ_mJ_a, gD_mD_a, gI_mI_o, gJ_mJ_o, gD_mD_o]
        exact a
    · refine ⟨?_, ?_⟩
      · rw [fG2 15 (by decide), (fF 4 (by omega)).1]; exact h8.1
      · simp (disch := omega) only [gI_pI_s, gJ_pJ_s, gD_pD_s, gI_pJ, gI_pD, gJ_pI, gJ_pD, gD_pI, gD_pJ, gI_pI_a, gJ_pJ_a, gD_pD_a, gI_pI_k, gJ_pJ_k, gD_pD_k, gI_mI_i, gJ_mJ_i, gD_mD_i, gI_mJ, gI_mD, gJ_mI, gJ_mD, gD_mI, gD_mJ, gI_mI_a, gJ_mJ_a, gD_mD_a, gI_mI_o, gJ_mJ_o, gD_mD_o]; exact e16
    · rw [(fF 4 (by decide)).1]
end ONCE
