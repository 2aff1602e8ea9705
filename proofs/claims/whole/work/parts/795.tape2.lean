theorem l_become4 : ∀ (d n : Nat) (v : Int32) (σ : Sg) {A B : Nat} {f : Nat → Int64}, A + 1 ≠ B + 1 → (∀ j, j < 8 → gJ σ (B + 1) j = f j) → 0 ≤ v.toInt → v.toInt + d = 8 → d < n → d_X4_become_2 n A B v σ = some (pI (mJ σ (A + 1) v.toNatClampNeg 8 f) A 1 (gI σ B 1)) := by
  intro d
  induction d with
  | zero =>
    intro n v σ A B f h1 h2 h3 h4 h5
    obtain ⟨n, rfl⟩ : ∃ k, n = k + 1 := ⟨n - 1, by omega⟩
    have := nat0 h3
    rw [d_X4_become_2, if_pos (by rw [i32_le]; simp only [Int32.reduceToInt]; omega), mJ_nil (by omega)]
    rfl
  | succ d ih =>
    intro n v σ A B f h1 h2 h3 h4 h5
    obtain ⟨n, rfl⟩ : ∃ k, n = k + 1 := ⟨n - 1, by omega⟩
    obtain ⟨c1, c2, c3⟩ := cnt1 (v := v) (m := 64) h3 (by omega) (by decide)
    rw [d_X4_become_2, if_neg (by rw [i32_le]; simp only [Int32.reduceToInt]; omega), ck_ix (by omega), ck_ix (by omega), nm_t, nm_t,
      ih n (v + 1) _ (f := f) h1 (fun j hj => by rw [gJ_pJ_a (by omega)]; exact h2 j hj) (by omega) (by omega) (by omega), c2, h2 _ (by omega), mJ_step (by omega) rfl, gI_pJ]
theorem l_image11 : ∀ (d n : Nat) (v : Int32) (σ : Sg) {A M : Nat} {f g : Nat → Int64}, 94 ≤ A → (gI σ 4 8).toInt = M → M ≤ 4 → (∀ j, j < 4 → gJ σ (5 * j + 74) 5 = f j ∧ gJ σ (5 * j + 74) 6 = g j) → 0 ≤ v.toInt → v.toInt + d = M → d < n → d_X11_image_42 n A v σ = some (gI σ 4 8, mJ (mJ σ (A + 4) v.toNatClampNeg M f) (A + 5) v.toNatClampNeg M g) := by
  intro d
  induction d with
  | zero =>
    intro n v σ A M f g h0 h1 h2 hf h3 h4 h5
    obtain ⟨n, rfl⟩ : ∃ k, n = k + 1 := ⟨n - 1, by omega⟩
    have := nat0 h3
    rw [d_X11_image_42, if_pos (by rw [i32_le]; omega), mJ_nil (by omega), mJ_nil (by omega)]
  | succ d ih =>
    intro n v σ A M f g h0 h1 h2 hf h3 h4 h5
    obtain ⟨n, rfl⟩ : ∃ k, n = k + 1 := ⟨n - 1, by omega⟩
    obtain ⟨c1, c2, c3⟩ := cnt1 (v := v) (m := 64) h3 (by omega) (by decide)
    obtain ⟨f1, f2⟩ := hf v.toNatClampNeg (by omega)
    rw [d_X11_image_42, if_neg (by rw [i32_le]; omega), ck_ix (by omega), ck_ix (by omega), nm_t, ck_ix (by omega), ck_ix (by omega), nm_t, nm_t, gJ_pJ_a (by omega), f1, f2,
      ih n (v + 1) (pJ (pJ σ (A + 4) v.toNatClampNeg (f v.toNatClampNeg)) (A + 5) v.toNatClampNeg (g v.toNatClampNeg)) (f := f) (g := g) h0 h1 h2 (fun j hj => by rw [gJ_pJ_a (by omega), gJ_pJ_a (by omega), gJ_pJ_a (by omega), gJ_pJ_a (by omega)]; exact hf j hj) (by omega) (by omega) (by omega), c2,
      mJ_pJ (by omega), mJ_step (by omega) rfl, mJ_step (by omega) rfl, gI_pJ, gI_pJ]
theorem l_image12a : ∀ (d n : Nat) (v1 v : Int32) (σ : Sg) {M : Nat} {f g : Nat → Int64}, 0 ≤ v1.toInt ∧ v1.toInt ≤ 5 → (gI σ 130 7).toInt = M → M ≤ 4 → (∀ j, j < 4 → gJ σ 147 j = f (4 * v1.toNatClampNeg + j) ∧ gJ σ 148 j = g (4 * v1.toNatClampNeg + j)) → 0 ≤ v.toInt → v.toInt + d = M → d < n → d_X12_image_69 n v1 v σ = some (gI σ 130 7, mJ (mJ σ 156 (4 * v1.toNatClampNeg + v.toNatClampNeg) (4 * v1.toNatClampNeg + M) f) 157 (4 * v1.toNatClampNeg + v.toNatClampNeg) (4 * v1.toNatClampNeg + M) g) := by
  intro d
  induction d with
  | zero =>
    intro n v1 v σ M f g h0 h1 h2 hf h3 h4 h5
    obtain ⟨n, rfl⟩ : ∃ k, n = k + 1 := ⟨n - 1, by omega⟩
    have := nat0 h3
    rw [d_X12_image_69, if_pos (by rw [i32_le]; omega), mJ_nil (by omega), mJ_nil (by omega)]
  | succ d ih =>
    intro n v1 v σ M f g h0 h1 h2 hf h3 h4 h5
    obtain ⟨n, rfl⟩ : ∃ k, n = k + 1 := ⟨n - 1, by omega⟩
    obtain ⟨c1, c2, c3⟩ := cnt1 (v := v) (m := 64) h3 (by omega) (by decide)
    obtain ⟨f1, f2⟩ := hf v.toNatClampNeg (by omega)
    obtain ⟨-, x2, x3⟩ := ix2 (c := 4) (m := 6) (k := 4) (v := v1) (w := v) (by decide) (ix_of h0.1 (by omega)) (ix_of h3 (by omega)) rfl (by decide)
    have x3' : ix (4 * v1 + v) 24 := x3
    rw [d_X12_image_69, if_neg (by rw [i32_le]; omega), ck_ix (by omega), ck_t x3', nm_t, ck_ix (by omega), ck_t x3', nm_t, nm_t, gJ_pJ_a (by omega), f1, f2, x2,
      ih n v1 (v + 1) (pJ (pJ σ 156 (4 * v1.toNatClampNeg + v.toNatClampNeg) (f (4 * v1.toNatClampNeg + v.toNatClampNeg))) 157 (4 * v1.toNatClampNeg + v.toNatClampNeg) (g (4 * v1.toNatClampNeg + v.toNatClampNeg))) (f := f) (g := g) h0 h1 h2 (fun j hj => by rw [gJ_pJ_a (by omega), gJ_pJ_a (by omega), gJ_pJ_a (by omega), gJ_pJ_a (by omega)]; exact hf j hj) (by omega) (by omega) (by omega), c2, ← Nat.add_assoc,
      mJ_pJ (by omega), mJ_step (by omega) rfl, mJ_step (by omega) rfl, gI_pJ, gI_pJ]
theorem l_image12 : ∀ (d n : Nat) (v1 v : Int32) (σ : Sg) {M : Nat} {f g h : Nat → Int64}, 0 ≤ v1.toInt ∧ v1.toInt ≤ 5 → (gI σ 130 7).toInt = M → M ≤ 4 → (∀ j, j < 4 → gJ σ 147 j = f (4 * v1.toNatClampNeg + j) ∧ gJ σ 148 j = g (4 * v1.toNatClampNeg + j)) → (∀ j, j < 8 → gJ σ 146 j = h (8 * v1.toNatClampNeg + j)) → 0 ≤ v.toInt → v.toInt + d = 8 → d + 10 < n → d_X12_image_38 n v1 v σ = some (gI σ 130 7, mJ (mJ (mJ σ 155 (8 * v1.toNatClampNeg + v.toNatClampNeg) (8 * v1.toNatClampNeg + 8) h) 156 (4 * v1.toNatClampNeg) (4 * v1.toNatClampNeg + M) f) 157 (4 * v1.toNatClampNeg) (4 * v1.toNatClampNeg + M) g) := by
  intro d
  induction d with
  | zero =>
    intro n v1 v σ M f g h h0 h1 h2 hf hh h3 h4 h5
    obtain ⟨n, rfl⟩ : ∃ k, n = k + 1 := ⟨n - 1, by omega⟩
    have := nat0 h3
    have z := l_image12a M n v1 0 σ h0 h1 h2 hf (by decide) (by simp only [Int32.reduceToInt]; omega) (by omega)
    have z0 : (0 : Int32).toNatClampNeg = 0 := rfl
    rw [z0, Nat.add_zero] at z
    rw [d_X12_image_38, if_pos (by rw [i32_le]; simp only [Int32.reduceToInt]; omega), mJ_nil (a := 155) (by omega)]
    unfold d_X12_image_67
    exact z
  | succ d ih =>
    intro n v1 v σ M f g h h0 h1 h2 hf hh h3 h4 h5
    obtain ⟨n, rfl⟩ : ∃ k, n = k + 1 := ⟨n - 1, by omega⟩
    obtain ⟨c1, c2, c3⟩ := cnt1 (v := v) (m := 64) h3 (by omega) (by decide)
    obtain ⟨-, x2, x3⟩ := ix2 (c := 8) (m := 6) (k := 8) (v := v1) (w := v) (by decide) (ix_of h0.1 (by omega)) (ix_of h3 (by omega)) rfl (by decide)
    have x3' : ix (8 * v1 + v) 48 := x3
    rw [d_X12_image_38, if_neg (by rw [i32_le]; simp only [Int32.reduceToInt]; omega), ck_ix (by omega), ck_t x3', nm_t, nm_t, hh _ (by omega), x2,
      ih n v1 (v + 1) (pJ σ 155 (8 * v1.toNatClampNeg + v.toNatClampNeg) (h (8 * v1.toNatClampNeg + v.toNatClampNeg))) (f := f) (g := g) (h := h) h0 h1 h2 (fun j hj => by rw [gJ_pJ_a (by omega), gJ_pJ_a (by omega)]; exact hf j hj) (fun j hj => by rw [gJ_pJ_a (by omega)]; exact hh j hj) (by omega) (by omega) (by omega), c2, ← Nat.add_assoc,
      mJ_step (by omega) rfl, gI_pJ]
theorem s_image (n : Nat) (hn : 100 ≤ n) (a1 : Int32) {c : Nat} {τ σ : Sg} (h : Rl c τ σ) : ∃ r τ' σ', c_X11_image n a1 τ = some (r, τ') ∧ c_X12_image n a1 σ = some (r, σ') ∧ Rl (c + 1) τ' σ' := by
  have H := h
  obtain ⟨⟨lt, ls, h0⟩, h1, h2, h3, h4, h5, h6, h7, h8⟩ := h
  by_cases q1 : 0 ≤ a1.toInt ∧ a1.toInt ≤ 5
  · obtain ⟨hx, hd, hn'⟩ := Rtap_g h7 q1
    have h7' := h7
    obtain ⟨t1, t2, t3, t4, t5, t6, t7, t8, t9, t10, t11, t12, t13, t14, t15⟩ := h7 _ hd
    have h5' := h5
    have h4' := h4
    obtain ⟨g1, g2, g3, g4⟩ := h5
    obtain ⟨b1, b2, b3, b4⟩ := h4
    have nM := nat0 g2
    have z0 : (0 : Int32).toNatClampNeg = 0 := rfl
    generalize hP : a1.toNatClampNeg = D at *
    generalize hM : (gI τ 4 8).toNatClampNeg = M at *
    have l0 := l_become4 8 n 0 (pI (pI τ (6 * D + 94) 0 5) (6 * D + 94) 5 (gI τ 4 8)) (A := 6 * D + 96) (B := 16) (f := gJ τ 17) (by omega) (fun j hj => rfl) (by decide) (by decide) (by omega)
    rw [z0, gI_pI_a (by omega), gI_pI_a (by omega)] at l0
    have l1 := l_image11 M n 0 (pI (mJ (pI (pI τ (6 * D + 94) 0 5) (6 * D + 94) 5 (gI τ 4 8)) (6 * D + 97) 0 8 (gJ τ 17)) (6 * D + 96) 1 (gI τ 16 1)) (A := 6 * D + 94) (M := M) (f := fun j => gJ τ (5 * j + 74) 5) (g := fun j => gJ τ (5 * j + 74) 6) (by omega) (by simp (disch := omega) only [gI_pI_s, gJ_pJ_s, gD_pD_s, gI_pJ, gI_pD, gJ_pI, gJ_pD, gD_pI, gD_pJ, gI_pI_a, gJ_pJ_a, gD_pD_a, gI_pI_k, gJ_pJ_k, gD_pD_k, gI_mI_i, gJ_mJ_i, gD_mD_i, gI_mJ, gI_mD, gJ_mI, gJ_mD, gD_mI, gD_mJ, gI_mI_a, gJ_mJ_a, gD_mD_a, gI_mI_o, gJ_mJ_o, gD_mD_o]; omega) (by omega) (fun j hj => by simp (disch := omega) only [gI_pI_s, gJ_pJ_s, gD_pD_s, gI_pJ, gI_pD, gJ_pI, gJ_pD, gD_pI, gD_pJ, gI_pI_a, gJ_pJ_a, gD_pD_a, gI_pI_k, gJ_pJ_k, gD_pD_k, gI_mI_i, gJ_mJ_i, gD_mD_i, gI_mJ, gI_mD, gJ_mI, gJ_mD, gD_mI, gD_mJ, gI_mI_a, gJ_mJ_a, gD_mD_a, gI_mI_o, gJ_mJ_o, gD_mD_o]; exact ⟨trivial, trivial⟩) (by decide) (by simp only [Int32.reduceToInt]; omega) (by omega)
    have l2 := l_image12 8 n a1 0 (pI (pI (pI σ 150 D 5) 153 D (gI τ 4 8)) 154 D (gI τ 16 1)) (M := M) (f := fun j => gJ σ 147 (j - 4 * D)) (g := fun j => gJ σ 148 (j - 4 * D)) (h := fun j => gJ σ 146 (j - 8 * D)) q1 (by simp (disch := omega) only [gI_pI_s, gJ_pJ_s, gD_pD_s, gI_pJ, gI_pD, gJ_pI, gJ_pD, gD_pI, gD_pJ, gI_pI_a, gJ_pJ_a, gD_pD_a, gI_pI_k, gJ_pJ_k, gD_pD_k, gI_mI_i, gJ_mJ_i, gD_mD_i, gI_mJ, gI_mD, gJ_mI, gJ_mD, gD_mI, gD_mJ, gI_mI_a, gJ_mJ_a, gD_mD_a, gI_mI_o, gJ_mJ_o, gD_mD_o]; rw [g1]; omega) (by omega) (fun j hj => by rw [hP]; simp only [gJ_pI]; rw [show 4 * D + j - 4 * D = j by omega]; exact ⟨rfl, rfl⟩) (fun j hj => by rw [hP]; simp only [gJ_pI]; rw [show 8 * D + j - 8 * D = j by omega]) (by decide) (by decide) (by omega)
    rw [z0] at l1
    rw [z0, hP] at l2
    simp (disch := omega) only [gI_pI_s, gJ_pJ_s, gD_pD_s, gI_pJ, gI_pD, gJ_pI, gJ_pD, gD_pI, gD_pJ, gI_pI_a, gJ_pJ_a, gD_pD_a, gI_pI_k, gJ_pJ_k, gD_pD_k, gI_mI_i, gJ_mJ_i, gD_mD_i, gI_mJ, gI_mD, gJ_mI, gJ_mD, gD_mI, gD_mJ, gI_mI_a, gJ_mJ_a, gD_mD_a, gI_mI_o, gJ_mJ_o, gD_mD_o] at l1 l2
    rw [g1] at l2
    refine ⟨gI τ 4 8, mJ (mJ (pI (mJ (pI (pI τ (6 * D + 94) 0 5) (6 * D + 94) 5 (gI τ 4 8)) (6 * D + 97) 0 8 (gJ τ 17)) (6 * D + 96) 1 (gI τ 16 1)) (6 * D + 94 + 4) 0 M (fun j => gJ τ (5 * j + 74) 5)) (6 * D + 94 + 5) 0 M (fun j => gJ τ (5 * j + 74) 6), mJ (mJ (mJ (pI (pI (pI σ 150 D 5) 153 D (gI τ 4 8)) 154 D (gI τ 16 1)) 155 (8 * D + 0) (8 * D + 8) (fun j => gJ σ 146 (j - 8 * D))) 156 (4 * D) (4 * D + M) (fun j => gJ σ 147 (j - 4 * D))) 157 (4 * D) (4 * D + M) (fun j => gJ σ 148 (j - 4 * D)), ?_, ?_, ?_⟩
    · simp (disch := omega) only [c_X11_image, c_X4_become, bp_s, bd_s, nm_t, ite10, if_pos, if_neg, ck_ix, i32_lt, i32_le, Int32.reduceToInt, reduceIte, i32_eq, Int.reduceEq, if_true, if_false, v_in, v_isRate, v_isSlot, v_isMode, v_isLaw, v_isTape, hP, gI_pI_s, gJ_pJ_s, gD_pD_s, gI_pJ, gI_pD, gJ_pI, gJ_pD, gD_pI, gD_pJ, gI_pI_a, gJ_pJ_a, gD_pD_a, gI_pI_k, gJ_pJ_k, gD_pD_k, l0, l1]
    · simp (disch := omega) only [c_X12_image, v_isTape12, bp_s, bd_s, nm_t, ite10, if_pos, if_neg, ck_ix, i32_lt, i32_le, Int32.reduceToInt, reduceIte, i32_eq, Int.reduceEq, if_true, if_false, v_in, v_isRate, v_isSlot, v_isMode, v_isLaw, v_isTape, hP, gI_pI_s, gJ_pJ_s, gD_pD_s, gI_pJ, gI_pD, gJ_pI, gJ_pD, gD_pI, gD_pJ, gI_pI_a, gJ_pJ_a, gD_pD_a, gI_pI_k, gJ_pJ_k, gD_pD_k, g1, b1, l2]
    have E : ∀ a, ¬ (94 ≤ a ∧ a ≤ 129) → Sm τ (mJ (mJ (pI (mJ (pI (pI τ (6 * D + 94) 0 5) (6 * D + 94) 5 (gI τ 4 8)) (6 * D + 97) 0 8 (gJ τ 17)) (6 * D + 96) 1 (gI τ 16 1)) (6 * D + 94 + 4) 0 M (fun j => gJ τ (5 * j + 74) 5)) (6 * D + 94 + 5) 0 M (fun j => gJ τ (5 * j + 74) 6)) a := fun a ha => Sm_mJ (Sm_mJ (Sm_pI (Sm_mJ (Sm_pI (Sm_pI Sm_refl (by omega)) (by omega)) (by omega)) (by omega)) (by omega)) (by omega)
    have E' : ∀ a, ¬ (150 ≤ a ∧ a ≤ 157) → Sm σ (mJ (mJ (mJ (pI (pI (pI σ 150 D 5) 153 D (gI τ 4 8)) 154 D (gI τ 16 1)) 155 (8 * D + 0) (8 * D + 8) (fun j => gJ σ 146 (j - 8 * D))) 156 (4 * D) (4 * D + M) (fun j => gJ σ 147 (j - 4 * D))) 157 (4 * D) (4 * D + M) (fun j => gJ σ 148 (j - 4 * D))) a := fun a ha => Sm_mJ (Sm_mJ (Sm_mJ (Sm_pI (Sm_pI (Sm_pI Sm_refl (by omega)) (by omega)) (by omega)) (by omega)) (by omega)) (by omega)
    have h5 := h5'
    have h4 := h4'
    refine ⟨⟨lt, ls, Rold_f h0 (fun a ha => E a (by omega))⟩, Rtab_f h1 (fun a ha => E a (by omega)) (fun a ha => E' a (by omega)), Rwts_f h2 (fun a ha => E a (by omega)) (fun a ha => E' a (by omega)), Rbil_f h3 (fun a ha => E a (by omega)) (E' 133 (by omega)) (by first | rfl | simp (disch := omega) only [gI_pI_s, gJ_pJ_s, gD_pD_s, gI_pJ, gI_pD, gJ_pI, gJ_pD, gD_pI, gD_pJ, gI_pI_a, gJ_pJ_a, gD_pD_a, gI_pI_k, gJ_pJ_k, gD_pD_k, gI_mI_i, gJ_mJ_i, gD_mD_i, gI_mJ, gI_mD, gJ_mI, gJ_mD, gD_mI, gD_mJ, gI_mI_a, gJ_mJ_a, gD_mD_a, gI_mI_o, gJ_mJ_o, gD_mD_o]), Rled_f h4 (Nat.le_succ _) (fun a ha => E a (by omega)) (E' 146 (by omega)) (by first | rfl | simp (disch := omega) only [gI_pI_s, gJ_pJ_s, gD_pD_s, gI_pJ, gI_pD, gJ_pI, gJ_pD, gD_pI, gD_pJ, gI_pI_a, gJ_pJ_a, gD_pD_a, gI_pI_k, gJ_pJ_k, gD_pD_k, gI_mI_i, gJ_mJ_i, gD_mD_i, gI_mJ, gI_mD, gJ_mI, gJ_mD, gD_mI, gD_mJ, gI_mI_a, gJ_mJ_a, gD_mD_a, gI_mI_o, gJ_mJ_o, gD_mD_o]), Rprg_f h5 (fun a ha => E a (by omega)) (fun a ha => E' a (by omega)) (by first | rfl | simp (disch := omega) only [gI_pI_s, gJ_pJ_s, gD_pD_s, gI_pJ, gI_pD, gJ_pI, gJ_pD, gD_pI, gD_pJ, gI_pI_a, gJ_pJ_a, gD_pD_a, gI_pI_k, gJ_pJ_k, gD_pD_k, gI_mI_i, gJ_mJ_i, gD_mD_i, gI_mJ, gI_mD, gJ_mI, gJ_mD, gD_mI, gD_mJ, gI_mI_a, gJ_mJ_a, gD_mD_a, gI_mI_o, gJ_mJ_o, gD_mD_o]) (by first | rfl | simp (disch := omega) only [gI_pI_s, gJ_pJ_s, gD_pD_s, gI_pJ, gI_pD, gJ_pI, gJ_pD, gD_pI, gD_pJ, gI_pI_a, gJ_pJ_a, gD_pD_a, gI_pI_k, gJ_pJ_k, gD_pD_k, gI_mI_i, gJ_mJ_i, gD_mD_i, gI_mJ, gI_mD, gJ_mI, gJ_mD, gD_mI, gD_mJ, gI_mI_a, gJ_mJ_a, gD_mD_a, gI_mI_o, gJ_mJ_o, gD_mD_o]), Rlst_f h6 (fun a ha => E a (by omega)) (fun a ha => E' a (by omega)) (by first | rfl | simp (disch := omega) only [gI_pI_s, gJ_pJ_s, gD_pD_s, gI_pJ, gI_pD, gJ_pI, gJ_pD, gD_pI, gD_pJ, gI_pI_a, gJ_pJ_a, gD_pD_a, gI_pI_k, gJ_pJ_k, gD_pD_k, gI_mI_i, gJ_mJ_i, gD_mD_i, gI_mJ, gI_mD, gJ_mI, gJ_mD, gD_mI, gD_mJ, gI_mI_a, gJ_mJ_a, gD_mD_a, gI_mI_o, gJ_mJ_o, gD_mD_o]) (by first | rfl | simp (disch := omega) only [gI_pI_s, gJ_pJ_s, gD_pD_s, gI_pJ, gI_pD, gJ_pI, gJ_pD, gD_pI, gD_pJ, gI_pI_a, gJ_pJ_a, gD_pD_a, gI_pI_k, gJ_pJ_k, gD_pD_k, gI_mI_i, gJ_mJ_i, gD_mD_i, gI_mJ, gI_mD, gJ_mI, gJ_mD, gD_mI, gD_mJ, gI_mI_a, gJ_mJ_a, gD_mD_a, gI_mI_o, gJ_mJ_o, gD_mD_o]), fun d hd' => ?_, Rmis_f h8 (by first | rfl | simp (disch := omega) only [gI_pI_s, gJ_pJ_s, gD_pD_s, gI_pJ, gI_pD, gJ_pI, gJ_pD, gD_pI, gD_pJ, gI_pI_a, gJ_pJ_a, gD_pD_a, gI_pI_k, gJ_pJ_k, gD_pD_k, gI_mI_i, gJ_mJ_i, gD_mD_i, gI_mJ, gI_mD, gJ_mI, gJ_mD, gD_mI, gD_mJ, gI_mI_a, gJ_mJ_a, gD_mD_a, gI_mI_o, gJ_mJ_o, gD_mD_o]) (by first | rfl | simp (disch := omega) only [gI_pI_s, gJ_pJ_s, gD_pD_s, gI_pJ, gI_pD, gJ_pI, gJ_pD, gD_pI, gD_pJ, gI_pI_a, gJ_pJ_a, gD_pD_a, gI_pI_k, gJ_pJ_k, gD_pD_k, gI_mI_i, gJ_mJ_i, gD_mD_i, gI_mJ, gI_mD, gJ_mI, gJ_mD, gD_mI, gD_mJ, gI_mI_a, gJ_mJ_a, gD_mD_a, gI_mI_o, gJ_mJ_o, gD_mD_o]) (by first | rfl | simp (disch := omega) only [gI_pI_s, gJ_pJ_s, gD_pD_s, gI_pJ, gI_pD, gJ_pI, gJ_pD, gD_pI, gD_pJ, gI_pI_a, gJ_pJ_a, gD_pD_a, gI_pI_k, gJ_pJ_k, gD_pD_k, gI_mI_i, gJ_mJ_i, gD_mD_i, gI_mJ, gI_mD, gJ_mI, gJ_mD, gD_mI, gD_mJ, gI_mI_a, gJ_mJ_a, gD_mD_a, gI_mI_o, gJ_mJ_o, gD_mD_o])⟩
    obtain ⟨u1, u2, u3, u4, u5, u6, u7, u8, u9, u10, u11, u12, u13, u14, u15⟩ := h7' d hd'
    by_cases e : d = D
    · subst e
      simp (disch := omega) only [gI_pI_s, gJ_pJ_s, gD_pD_s, gI_pJ, gI_pD, gJ_pI, gJ_pD, gD_pI, gD_pJ, gI_pI_a, gJ_pJ_a, gD_pD_a, gI_pI_k, gJ_pJ_k, gD_pD_k, gI_mI_i, gJ_mJ_i, gD_mD_i, gI_mJ, gI_mD, gJ_mI, gJ_mD, gD_mI, gD_mJ, gI_mI_a, gJ_mJ_a, gD_mD_a, gI_mI_o, gJ_mJ_o, gD_mD_o]
      refine ⟨trivial, by decide, by decide, u4, u5, u6, fun j hj => ?_, trivial, g2, g3, trivial, b2, by omega, fun k hk => ?_, fun p hp => ?_⟩
      · exact u7 j hj
      · simp (disch := omega) only [gI_pI_s, gJ_pJ_s, gD_pD_s, gI_pJ, gI_pD, gJ_pI, gJ_pD, gD_pI, gD_pJ, gI_pI_a, gJ_pJ_a, gD_pD_a, gI_pI_k, gJ_pJ_k, gD_pD_k, gI_mI_i, gJ_mJ_i, gD_mD_i, gI_mJ, gI_mD, gJ_mI, gJ_mD, gD_mI, gD_mJ, gI_mI_a, gJ_mJ_a, gD_mD_a, gI_mI_o, gJ_mJ_o, gD_mD_o]
        rw [show 8 * d + k - 8 * d = k by omega]
        exact b4 k hk
      · by_cases e : p < M
        · simp (disch := omega) only [gI_pI_s, gJ_pJ_s, gD_pD_s, gI_pJ, gI_pD, gJ_pI, gJ_pD, gD_pI, gD_pJ, gI_pI_a, gJ_pJ_a, gD_pD_a, gI_pI_k, gJ_pJ_k, gD_pD_k, gI_mI_i, gJ_mJ_i, gD_mD_i, gI_mJ, gI_mD, gJ_mI, gJ_mD, gD_mI, gD_mJ, gI_mI_a, gJ_mJ_a, gD_mD_a, gI_mI_o, gJ_mJ_o, gD_mD_o]
          rw [show 4 * d + p - 4 * d = p by omega]
          obtain ⟨i1, i2, i3⟩ := (g4 p hp).2.2.2.2 (by omega)
          exact ⟨i1, i2, fun _ => i3⟩
        · simp (disch := omega) only [gI_pI_s, gJ_pJ_s, gD_pD_s, gI_pJ, gI_pD, gJ_pI, gJ_pD, gD_pI, gD_pJ, gI_pI_a, gJ_pJ_a, gD_pD_a, gI_pI_k, gJ_pJ_k, gD_pD_k, gI_mI_i, gJ_mJ_i, gD_mD_i, gI_mJ, gI_mD, gJ_mI, gJ_mD, gD_mI, gD_mJ, gI_mI_a, gJ_mJ_a, gD_mD_a, gI_mI_o, gJ_mJ_o, gD_mD_o]
          exact ⟨(u15 p hp).1, (u15 p hp).2.1, fun q => absurd q (by omega)⟩
    · simp (disch := omega) only [gI_pI_s, gJ_pJ_s, gD_pD_s, gI_pJ, gI_pD, gJ_pI, gJ_pD, gD_pI, gD_pJ, gI_pI_a, gJ_pJ_a, gD_pD_a, gI_pI_k, gJ_pJ_k, gD_pD_k, gI_mI_i, gJ_mJ_i, gD_mD_i, gI_mJ, gI_mD, gJ_mI, gJ_mD, gD_mI, gD_mJ, gI_mI_a, gJ_mJ_a, gD_mD_a, gI_mI_o, gJ_mJ_o, gD_mD_o]
      refine ⟨u1, u2, u3, u4, u5, u6, fun j hj => ?_, u8, u9, u10, u11, u12, by omega, fun k hk => ?_, fun p hp => ?_⟩
      · exact u7 j hj
      · simp (disch := omega) only [gI_pI_s, gJ_pJ_s, gD_pD_s, gI_pJ, gI_pD, gJ_pI, gJ_pD, gD_pI, gD_pJ, gI_pI_a, gJ_pJ_a, gD_pD_a, gI_pI_k, gJ_pJ_k, gD_pD_k, gI_mI_i, gJ_mJ_i, gD_mD_i, gI_mJ, gI_mD, gJ_mI, gJ_mD, gD_mI, gD_mJ, gI_mI_a, gJ_mJ_a, gD_mD_a, gI_mI_o, gJ_mJ_o, gD_mD_o]
        exact u14 k hk
      · simp (disch := omega) only [gI_pI_s, gJ_pJ_s, gD_pD_s, gI_pJ, gI_pD, gJ_pI, gJ_pD, gD_pI, gD_pJ, gI_pI_a, gJ_pJ_a, gD_pD_a, gI_pI_k, gJ_pJ_k, gD_pD_k, gI_mI_i, gJ_mJ_i, gD_mD_i, gI_mJ, gI_mD, gJ_mI, gJ_mD, gD_mI, gD_mJ, gI_mI_a, gJ_mJ_a, gD_mD_a, gI_mI_o, gJ_mJ_o, gD_mD_o]
        exact u15 p hp
  · refine ⟨-1, τ, σ, ?_, ?_, Rl_s H⟩
    · simp (disch := omega) only [c_X11_image, bp_s, bd_s, nm_t, ite10, if_pos, if_neg, ck_ix, i32_lt, i32_le, Int32.reduceToInt, reduceIte, i32_eq, Int.reduceEq, if_true, if_false, v_in, v_isRate, v_isSlot, v_isMode, v_isLaw, v_isTape]
    · simp (disch := omega) only [c_X12_image, v_isTape12, bp_s, bd_s, nm_t, ite10, if_pos, if_neg, ck_ix, i32_lt, i32_le, Int32.reduceToInt, reduceIte, i32_eq, Int.reduceEq, if_true, if_false, v_in, v_isRate, v_isSlot, v_isMode, v_isLaw, v_isTape]
