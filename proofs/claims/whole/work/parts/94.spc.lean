section SPC
theorem pJ_pJ {σ : Sg} {a k : Nat} {v w : Int64} : pJ (pJ σ a k v) a k w = pJ σ a k w := by
  have e : up2 (up2 σ.2.2.1 a k v) a k w = up2 σ.2.2.1 a k w := by
    funext x y
    unfold up2
    by_cases q : x = a ∧ y = k
    · rw [if_pos q, if_pos q]
    · rw [if_neg q, if_neg q, if_neg q]
  unfold pJ
  dsimp only
  rw [e]
theorem mJ_upd {σ : Sg} {a lo hi k : Nat} {f f' : Nat → Int64} {v : Int64} (hk : lo ≤ k ∧ k < hi) (h1 : f' k = v) (h2 : ∀ j, j ≠ k → f' j = f j) : pJ (mJ σ a lo hi f) a k v = mJ σ a lo hi f' := by
  have e : up2 (fun b j => if b = a ∧ lo ≤ j ∧ j < hi then f j else σ.2.2.1 b j) a k v = (fun b j => if b = a ∧ lo ≤ j ∧ j < hi then f' j else σ.2.2.1 b j) := by
    funext b j
    unfold up2
    by_cases q : b = a ∧ j = k
    · rw [if_pos q, if_pos (by omega), q.2, h1]
    · rw [if_neg q]
      dsimp only
      by_cases q2 : b = a ∧ lo ≤ j ∧ j < hi
      · rw [if_pos q2, if_pos q2, h2 j (by omega)]
      · rw [if_neg q2, if_neg q2]
  unfold pJ mJ
  dsimp only
  rw [e]
theorem mJ_mJ {σ : Sg} {a c lo hi l2 h2 : Nat} {f g : Nat → Int64} {k : Nat} {v : Int64} (h : a ≠ c) : pJ (mJ σ c lo hi f) a k v = mJ (pJ σ a k v) c lo hi f := (mJ_pJ h).symm
/-- a number as an Int64 -/
def J (z : Int) : Int64 := Int64.ofInt z
theorem J_int {z : Int} (h : -9223372036854775808 ≤ z) (h' : z < 9223372036854775808) : (J z).toInt = z := Int64.toInt_ofInt_of_le (by omega) (by omega)
theorem J_eq {x : Int64} {z : Int} (h : x.toInt = z) : x = J z := by
  have h1 := i64_lo x
  have h2 := i64_hi x
  exact i64_ext (by rw [J_int (by omega) (by omega), h])
theorem wsum_b {f : Nat → Int32} {k : Nat} (h : ∀ j, j < k → 0 ≤ (f j).toInt ∧ (f j).toInt ≤ 1000) : 0 ≤ wsum f k ∧ wsum f k ≤ 1000 * k := by
  induction k with
  | zero => rw [wsum]; omega
  | succ k ih =>
    rw [wsum]
    have := ih (fun j hj => h j (by omega))
    have := h k (by omega)
    omega
theorem al_weigh : ∀ (d n : Nat) (k : Int32) (σ : Sg) {A z m : Nat}, O6 A → z < 4 → (gI σ A 4).toInt = m → m ≤ 8 → (∀ j, j < 8 → 0 ≤ (gI σ (z + 9) j).toInt ∧ (gI σ (z + 9) j).toInt ≤ 1000) → (gJ σ A 5).toInt = wsum (gI σ (z + 9)) k.toNatClampNeg → 0 ≤ k.toInt → k.toInt + d = m → d < n →
    ∃ w S, n ≤ w + d + 1 ∧ d_X7_weigh_12 n A (z + 9) k σ = d_X7_weigh_51 w A (pJ (mI σ (A + 2) k.toNatClampNeg m (gI σ (z + 9))) A 5 S) ∧ S.toInt = wsum (gI σ (z + 9)) m := by
  intro d
  induction d with
  | zero =>
    intro n k σ A z m hA hz h1 h2 hw hs h3 h4 h5
    obtain ⟨n, rfl⟩ : ∃ k, n = k + 1 := ⟨n - 1, by omega⟩
    have n1 := nat0 h3
    have e : k.toNatClampNeg = m := by omega
    refine ⟨n, gJ σ A 5, by omega, ?_, by rw [hs, e]⟩
    rw [d_X7_weigh_12, if_pos (by rw [i32_le]; omega), e, mI_nil (Nat.le_refl _), pJ_id rfl]
  | succ d ih =>
    intro n k σ A z m hA hz h1 h2 hw hs h3 h4 h5
    obtain ⟨n, rfl⟩ : ∃ k, n = k + 1 := ⟨n - 1, by omega⟩
    obtain ⟨c1, c2, c3⟩ := cnt1 (v := k) (m := 64) h3 (by omega) (by decide)
    have hA' : A = 25 ∨ A = 39 ∨ A = 52 ∨ A = 63 := hA
    have hk : ix k 8 := ix_of h3 (by omega)
    have wk := hw k.toNatClampNeg (by omega)
    have wb := wsum_b (f := gI σ (z + 9)) (k := k.toNatClampNeg) (fun j hj => hw j (by omega))
    have e4 := i64_of32 (gI σ (z + 9) k.toNatClampNeg)
    have e5 : (gJ σ A 5 + (gI σ (z + 9) k.toNatClampNeg).toInt64).toInt = wsum (gI σ (z + 9)) (k.toNatClampNeg + 1) := by
      rw [i64_add (by omega) (by omega), e4, wsum, hs]
    have er : gI (pJ (pI σ (A + 2) k.toNatClampNeg (gI σ (z + 9) k.toNatClampNeg)) A 5 (gJ σ A 5 + (gI σ (z + 9) k.toNatClampNeg).toInt64)) (z + 9) = gI σ (z + 9) := by
      simp (disch := omega) only [RI_pI, RI_mI, RI_pJ, RI_mJ, RI_pD, RI_mD, RJ_pI, RJ_mI, RJ_pJ, RJ_mJ, RJ_pD, RJ_mD, RD_pI, RD_mI, RD_pJ, RD_mJ, RD_pD, RD_mD]
    obtain ⟨w, S, w1, w2, w3⟩ := ih n (k + 1) (pJ (pI σ (A + 2) k.toNatClampNeg (gI σ (z + 9) k.toNatClampNeg)) A 5 (gJ σ A 5 + (gI σ (z + 9) k.toNatClampNeg).toInt64)) (A := A) (z := z) (m := m) hA hz (by simp (disch := omega) only [gI_pI_s, gJ_pJ_s, gD_pD_s, gI_pJ, gI_pD, gJ_pI, gJ_pD, gD_pI, gD_pJ, gI_pI_a, gJ_pJ_a, gD_pD_a, gI_pI_k, gJ_pJ_k, gD_pD_k]; exact h1) h2 (by rw [er]; exact hw) (by rw [gJ_pJ_s, er, c2]; exact e5) (by omega) (by omega) (by omega)
    refine ⟨w, S, by omega, ?_, by rw [er] at w3; exact w3⟩
    rw [d_X7_weigh_12, if_neg (by rw [i32_le]; omega), ck_t hk, ck_t hk, nm_t, ck_t hk, nm_t, nm_t, gJ_pI, gI_pI_s, w2, er, c2, mI_pJ, pJ_pJ, mI_step (by omega) rfl]
/-- the splitter has weighed set z -/
theorem weigh_v {n A z : Nat} {σ : Sg} {v : Int32} (hn : 20 ≤ n) (hA : O6 A) (hz : z < 4) (hv : gI σ 13 z = v) (hm : 0 ≤ v.toInt ∧ v.toInt ≤ 8) (hw : ∀ j, j < 8 → 0 ≤ (gI σ (z + 9) j).toInt ∧ (gI σ (z + 9) j).toInt ≤ 1000) :
    ∃ σ', c_X7_weigh n A (z + 9) v σ = some σ' ∧ (gI σ' A 4).toInt = wN σ z ∧ (gJ σ' A 5).toInt = wS σ z ∧ (∀ j, j < wN σ z → (gI σ' (A + 2) j).toInt = wW σ z j) ∧ (∀ a, a ≠ A ∧ a ≠ A + 2 → Sm σ σ' a) ∧ (∀ k, k ≠ 4 → gI σ' A k = gI σ A k) ∧ (∀ k, k ≠ 5 → gJ σ' A k = gJ σ A k) ∧ gD σ' = gD σ ∧ Lay σ' = Lay σ := by
  have hA' : A = 25 ∨ A = 39 ∨ A = 52 ∨ A = 63 := hA
  have n1 := nat0 hm.1
  have z0 : (0 : Int32).toNatClampNeg = 0 := rfl
  have z1 : (1 : Int32).toNatClampNeg = 1 := rfl
  have er : gI (pJ (pI σ A 4 v) A 5 0) (z + 9) = gI σ (z + 9) := by simp (disch := omega) only [RI_pI, RI_mI, RI_pJ, RI_mJ, RI_pD, RI_mD, RJ_pI, RJ_mI, RJ_pJ, RJ_mJ, RJ_pD, RJ_mD, RD_pI, RD_mI, RD_pJ, RD_mJ, RD_pD, RD_mD]
  obtain ⟨w, S, w1, w2, w3⟩ := al_weigh v.toNatClampNeg n 0 (pJ (pI σ A 4 v) A 5 0) (A := A) (z := z) (m := v.toNatClampNeg) hA hz (by rw [gI_pJ, gI_pI_s]; omega) (by omega) (by rw [er]; exact hw) (by rw [gJ_pJ_s, z0]; rfl) (by decide) (by simp only [Int32.reduceToInt]; omega) (by omega)
  rw [er] at w2 w3
  rw [z0] at w2
  have eT : wT σ z = S.toInt := by unfold wT; rw [hv, w3]
  unfold c_X7_weigh
  rw [nm_t, nm_t, w2]
  unfold d_X7_weigh_51
  rw [gJ_pJ_s]
  by_cases q : S = 0
  · have e0 : wT σ z = 0 := by rw [eT, q]; rfl
    have eN : wN σ z = 2 := by unfold wN; rw [if_pos e0]
    have eS : wS σ z = 2 := by unfold wS; rw [if_pos e0]
    rw [if_pos q, ck_ix (by decide), nm_t, ck_ix (by decide), nm_t, nm_t, nm_t]
    refine ⟨_, rfl, ?_, ?_, fun j hj => ?_, fun a ha => ?_, fun k hk => ?_, fun k hk => ?_, rfl, rfl⟩
    · rw [gI_pJ, gI_pI_s, eN]; rfl
    · rw [gJ_pJ_s, eS]; rfl
    · rw [eN] at hj
      have : j = 0 ∨ j = 1 := by omega
      unfold wW
      rw [if_pos e0, z0, z1]
      rcases this with rfl | rfl
      · simp (disch := omega) only [gI_pI_s, gJ_pJ_s, gD_pD_s, gI_pJ, gI_pD, gJ_pI, gJ_pD, gD_pI, gD_pJ, gI_pI_a, gJ_pJ_a, gD_pD_a, gI_pI_k, gJ_pJ_k, gD_pD_k, gI_mI_i, gJ_mJ_i, gD_mD_i, gI_mJ, gI_mD, gJ_mI, gJ_mD, gD_mI, gD_mJ, gI_mI_a, gJ_mJ_a, gD_mD_a, gI_mI_o, gJ_mJ_o, gD_mD_o]; rfl
      · simp (disch := omega) only [gI_pI_s, gJ_pJ_s, gD_pD_s, gI_pJ, gI_pD, gJ_pI, gJ_pD, gD_pI, gD_pJ, gI_pI_a, gJ_pJ_a, gD_pD_a, gI_pI_k, gJ_pJ_k, gD_pD_k, gI_mI_i, gJ_mJ_i, gD_mD_i, gI_mJ, gI_mD, gJ_mI, gJ_mD, gD_mI, gD_mJ, gI_mI_a, gJ_mJ_a, gD_mD_a, gI_mI_o, gJ_mJ_o, gD_mD_o]; rfl
    · exact Sm_pJ (Sm_pI (Sm_pI (Sm_pI (Sm_pJ (Sm_mI (Sm_pJ (Sm_pI Sm_refl (by omega)) (by omega)) (by omega)) (by omega)) (by omega)) (by omega)) (by omega)) (by omega)
    · simp (disch := omega) only [gI_pI_s, gJ_pJ_s, gD_pD_s, gI_pJ, gI_pD, gJ_pI, gJ_pD, gD_pI, gD_pJ, gI_pI_a, gJ_pJ_a, gD_pD_a, gI_pI_k, gJ_pJ_k, gD_pD_k, gI_mI_i, gJ_mJ_i, gD_mD_i, gI_mJ, gI_mD, gJ_mI, gJ_mD, gD_mI, gD_mJ, gI_mI_a, gJ_mJ_a, gD_mD_a, gI_mI_o, gJ_mJ_o, gD_mD_o]
    · simp (disch := omega) only [gI_pI_s, gJ_pJ_s, gD_pD_s, gI_pJ, gI_pD, gJ_pI, gJ_pD, gD_pI, gD_pJ, gI_pI_a, gJ_pJ_a, gD_pD_a, gI_pI_k, gJ_pJ_k, gD_pD_k, gI_mI_i, gJ_mJ_i, gD_mD_i, gI_mJ, gI_mD, gJ_mI, gJ_mD, gD_mI, gD_mJ, gI_mI_a, gJ_mJ_a, gD_mD_a, gI_mI_o, gJ_mJ_o, gD_mD_o]
  · have e0 : ¬ wT σ z = 0 := by rw [eT]; exact fun h => q (i64_ext h)
    have eN : wN σ z = v.toNatClampNeg := by unfold wN; rw [if_neg e0, hv]
    have eS : wS σ z = S.toInt := by unfold wS; rw [if_neg e0, eT]
    rw [if_neg q]
    refine ⟨_, rfl, ?_, ?_, fun j hj => ?_, fun a ha => ?_, fun k hk => ?_, fun k hk => ?_, rfl, rfl⟩
    · simp (disch := omega) only [gI_pI_s, gJ_pJ_s, gD_pD_s, gI_pJ, gI_pD, gJ_pI, gJ_pD, gD_pI, gD_pJ, gI_pI_a, gJ_pJ_a, gD_pD_a, gI_pI_k, gJ_pJ_k, gD_pD_k, gI_mI_i, gJ_mJ_i, gD_mD_i, gI_mJ, gI_mD, gJ_mI, gJ_mD, gD_mI, gD_mJ, gI_mI_a, gJ_mJ_a, gD_mD_a, gI_mI_o, gJ_mJ_o, gD_mD_o]; rw [eN]; omega
    · rw [gJ_pJ_s, eS]
    · rw [eN] at hj
      unfold wW
      rw [if_neg e0]
      simp (disch := omega) only [gI_pI_s, gJ_pJ_s, gD_pD_s, gI_pJ, gI_pD, gJ_pI, gJ_pD, gD_pI, gD_pJ, gI_pI_a, gJ_pJ_a, gD_pD_a, gI_pI_k, gJ_pJ_k, gD_pD_k, gI_mI_i, gJ_mJ_i, gD_mD_i, gI_mJ, gI_mD, gJ_mI, gJ_mD, gD_mI, gD_mJ, gI_mI_a, gJ_mJ_a, gD_mD_a, gI_mI_o, gJ_mJ_o, gD_mD_o]
    · exact Sm_pJ (Sm_mI (Sm_pJ (Sm_pI Sm_refl (by omega)) (by omega)) (by omega)) (by omega)
    · simp (disch := omega) only [gI_pI_s, gJ_pJ_s, gD_pD_s, gI_pJ, gI_pD, gJ_pI, gJ_pD, gD_pI, gD_pJ, gI_pI_a, gJ_pJ_a, gD_pD_a, gI_pI_k, gJ_pJ_k, gD_pD_k, gI_mI_i, gJ_mJ_i, gD_mD_i, gI_mJ, gI_mD, gJ_mI, gJ_mD, gD_mI, gD_mJ, gI_mI_a, gJ_mJ_a, gD_mD_a, gI_mI_o, gJ_mJ_o, gD_mD_o]
    · simp (disch := omega) only [gI_pI_s, gJ_pJ_s, gD_pD_s, gI_pJ, gI_pD, gJ_pI, gJ_pD, gD_pI, gD_pJ, gI_pI_a, gJ_pJ_a, gD_pD_a, gI_pI_k, gJ_pJ_k, gD_pD_k, gI_mI_i, gJ_mJ_i, gD_mD_i, gI_mJ, gI_mD, gJ_mI, gJ_mD, gD_mI, gD_mJ, gI_mI_a, gJ_mJ_a, gD_mD_a, gI_mI_o, gJ_mJ_o, gD_mD_o]
end SPC
