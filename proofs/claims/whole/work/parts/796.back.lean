/-- fields 5 and 6 of the programs lo .. hi - 1 -/
def bk (σ : Sg) (lo hi : Nat) (F G : Nat → Int64) : Sg := (σ.1, σ.2.1, (fun a j => if 5 * lo + 74 ≤ a ∧ a < 5 * hi + 74 ∧ a % 5 = 4 ∧ (j = 5 ∨ j = 6) then (if j = 5 then F ((a - 74) / 5) else G ((a - 74) / 5)) else σ.2.2.1 a j), σ.2.2.2)
section BK
variable {σ σ1 : Sg} {a b k j lo hi p : Nat} {F G : Nat → Int64}
theorem gI_bk : gI (bk σ lo hi F G) a j = gI σ a j := rfl
theorem gJ_bk : gJ (bk σ lo hi F G) a j = if 5 * lo + 74 ≤ a ∧ a < 5 * hi + 74 ∧ a % 5 = 4 ∧ (j = 5 ∨ j = 6) then (if j = 5 then F ((a - 74) / 5) else G ((a - 74) / 5)) else gJ σ a j := rfl
theorem gJ_bk_5 (h : lo ≤ p ∧ p < hi) : gJ (bk σ lo hi F G) (5 * p + 74) 5 = F p := by
  rw [gJ_bk, if_pos (by omega), if_pos rfl, show (5 * p + 74 - 74) / 5 = p by omega]
theorem gJ_bk_6 (h : lo ≤ p ∧ p < hi) : gJ (bk σ lo hi F G) (5 * p + 74) 6 = G p := by
  rw [gJ_bk, if_pos (by omega), if_neg (by decide), show (5 * p + 74 - 74) / 5 = p by omega]
theorem gJ_bk_a (h : ¬ (5 * lo + 74 ≤ a ∧ a < 5 * hi + 74)) : gJ (bk σ lo hi F G) a j = gJ σ a j := by
  rw [gJ_bk, if_neg (by omega)]
theorem bk_nil (h : hi ≤ lo) : bk σ lo hi F G = σ := by
  have e : (fun a j => if 5 * lo + 74 ≤ a ∧ a < 5 * hi + 74 ∧ a % 5 = 4 ∧ (j = 5 ∨ j = 6) then (if j = 5 then F ((a - 74) / 5) else G ((a - 74) / 5)) else σ.2.2.1 a j) = σ.2.2.1 := by
    funext b j; exact if_neg (by omega)
  unfold bk; rw [e]
theorem bk_step (h : lo < hi) : bk (pJ (pJ σ (5 * lo + 74) 5 (F lo)) (5 * lo + 74) 6 (G lo)) (lo + 1) hi F G = bk σ lo hi F G := by
  have q : (fun a j => if 5 * (lo + 1) + 74 ≤ a ∧ a < 5 * hi + 74 ∧ a % 5 = 4 ∧ (j = 5 ∨ j = 6) then (if j = 5 then F ((a - 74) / 5) else G ((a - 74) / 5)) else (up2 (up2 σ.2.2.1 (5 * lo + 74) 5 (F lo)) (5 * lo + 74) 6 (G lo)) a j) = (fun a j => if 5 * lo + 74 ≤ a ∧ a < 5 * hi + 74 ∧ a % 5 = 4 ∧ (j = 5 ∨ j = 6) then (if j = 5 then F ((a - 74) / 5) else G ((a - 74) / 5)) else σ.2.2.1 a j) := by
    funext a j
    unfold up2
    by_cases h1 : a = 5 * lo + 74 ∧ j = 6
    · obtain ⟨rfl, rfl⟩ := h1
      rw [if_neg (by omega), if_pos ⟨rfl, rfl⟩, if_pos (by omega), if_neg (by decide), show (5 * lo + 74 - 74) / 5 = lo by omega]
    · by_cases h2 : a = 5 * lo + 74 ∧ j = 5
      · obtain ⟨rfl, rfl⟩ := h2
        rw [if_neg (by omega), if_neg h1, if_pos ⟨rfl, rfl⟩, if_pos (by omega), if_pos rfl, show (5 * lo + 74 - 74) / 5 = lo by omega]
      · by_cases h3 : 5 * (lo + 1) + 74 ≤ a ∧ a < 5 * hi + 74 ∧ a % 5 = 4 ∧ (j = 5 ∨ j = 6)
        · have h4 : 5 * lo + 74 ≤ a ∧ a < 5 * hi + 74 ∧ a % 5 = 4 ∧ (j = 5 ∨ j = 6) := by omega
          rw [if_pos h3, if_pos h4]
        · rw [if_neg h3, if_neg h1, if_neg h2, if_neg (by omega)]
  unfold bk pJ
  dsimp only
  rw [q]
theorem Sm_bk (h : Sm σ σ1 b) (ne : ¬ (74 ≤ b ∧ b < 5 * hi + 74)) : Sm σ (bk σ1 lo hi F G) b := ⟨h.1, by rw [← h.2.1]; funext j; exact gJ_bk_a (by omega), h.2.2⟩
end BK
theorem l_back11 : ∀ (d n : Nat) (v : Int32) (σ : Sg) {A M K : Nat} {F G : Nat → Int64}, 94 ≤ A → (gI σ 4 8).toInt = M → M ≤ 4 → (gI σ A 5).toInt = K → (∀ j, j < 4 → j < K → gJ σ (A + 4) j = F j ∧ gJ σ (A + 5) j = G j) → (∀ j, K ≤ j → F j = 0 ∧ G j = 1) → 0 ≤ v.toInt → v.toInt + d = M → d < n → d_X11_back_72 n A v σ = some (gI σ 16 1, bk σ v.toNatClampNeg M F G) := by
  intro d
  induction d with
  | zero =>
    intro n v σ A M K F G h0 h1 h2 hk hf hg h3 h4 h5
    obtain ⟨n, rfl⟩ : ∃ k, n = k + 1 := ⟨n - 1, by omega⟩
    have := nat0 h3
    rw [d_X11_back_72, if_pos (by rw [i32_le]; omega), bk_nil (by omega)]
  | succ d ih =>
    intro n v σ A M K F G h0 h1 h2 hk hf hg h3 h4 h5
    obtain ⟨n, rfl⟩ : ∃ k, n = k + 1 := ⟨n - 1, by omega⟩
    obtain ⟨c1, c2, c3⟩ := cnt1 (v := v) (m := 64) h3 (by omega) (by decide)
    rw [d_X11_back_72, if_neg (by rw [i32_le]; omega)]
    have go : d_X11_back_72 n A (v + 1) (pJ (pJ σ (5 * v.toNatClampNeg + 74) 5 (F v.toNatClampNeg)) (5 * v.toNatClampNeg + 74) 6 (G v.toNatClampNeg)) = some (gI σ 16 1, bk σ v.toNatClampNeg M F G) := by
      rw [ih n (v + 1) (pJ (pJ σ (5 * v.toNatClampNeg + 74) 5 (F v.toNatClampNeg)) (5 * v.toNatClampNeg + 74) 6 (G v.toNatClampNeg)) (A := A) (M := M) (K := K) (F := F) (G := G) h0 h1 h2 hk (fun j hj hK => by rw [gJ_pJ_a (by omega), gJ_pJ_a (by omega), gJ_pJ_a (by omega), gJ_pJ_a (by omega)]; exact hf j hj hK) hg (by omega) (by omega) (by omega), c2, bk_step (by omega), gI_pJ, gI_pJ]
    by_cases q : (K : Int) ≤ v.toInt
    · obtain ⟨f1, f2⟩ := hg v.toNatClampNeg (by omega)
      rw [f1, f2] at go
      rw [if_pos (by rw [i32_le]; omega)]
      unfold d_X11_back_93 d_X11_back_116 d_X11_back_140
      rw [ck_ix (by omega), if_pos rfl, nm_t, ck_ix (by omega), if_pos rfl, nm_t, nm_t]
      exact go
    · obtain ⟨f1, f2⟩ := hf v.toNatClampNeg (by omega) (by omega)
      rw [← f1, ← f2] at go
      rw [if_neg (by rw [i32_le]; omega)]
      unfold d_X11_back_93 d_X11_back_116 d_X11_back_140
      rw [ck_ix (by omega), if_neg (by decide), ck_ix (by omega), nm_t, ck_ix (by omega), if_neg (by decide), ck_ix (by omega), nm_t, nm_t, gJ_pJ_a (by omega)]
      exact go
theorem l_back12a : ∀ (d n : Nat) (v1 v : Int32) (σ : Sg) {M K : Nat} {F G : Nat → Int64}, 0 ≤ v1.toInt ∧ v1.toInt ≤ 5 → (gI σ 130 7).toInt = M → M ≤ 4 → (gI σ 153 v1.toNatClampNeg).toInt = K → (∀ j, j < 4 → j < K → gJ σ 156 (4 * v1.toNatClampNeg + j) = F j ∧ gJ σ 157 (4 * v1.toNatClampNeg + j) = G j) → (∀ j, K ≤ j → F j = 0 ∧ G j = 1) → 0 ≤ v.toInt → v.toInt + d = M → d < n → d_X12_back_71 n v1 v σ = some (gI σ 130 13, mJ (mJ σ 147 v.toNatClampNeg M F) 148 v.toNatClampNeg M G) := by
  intro d
  induction d with
  | zero =>
    intro n v1 v σ M K F G h0 h1 h2 hk hf hg h3 h4 h5
    obtain ⟨n, rfl⟩ : ∃ k, n = k + 1 := ⟨n - 1, by omega⟩
    have := nat0 h3
    rw [d_X12_back_71, if_pos (by rw [i32_le]; omega), mJ_nil (by omega), mJ_nil (by omega)]
  | succ d ih =>
    intro n v1 v σ M K F G h0 h1 h2 hk hf hg h3 h4 h5
    obtain ⟨n, rfl⟩ : ∃ k, n = k + 1 := ⟨n - 1, by omega⟩
    obtain ⟨c1, c2, c3⟩ := cnt1 (v := v) (m := 64) h3 (by omega) (by decide)
    obtain ⟨-, x2, x3⟩ := ix2 (c := 4) (m := 6) (k := 4) (v := v1) (w := v) (by decide) (ix_of h0.1 (by omega)) (ix_of h3 (by omega)) rfl (by decide)
    have x3' : ix (4 * v1 + v) 24 := x3
    rw [d_X12_back_71, if_neg (by rw [i32_le]; omega)]
    have go : d_X12_back_71 n v1 (v + 1) (pJ (pJ σ 147 v.toNatClampNeg (F v.toNatClampNeg)) 148 v.toNatClampNeg (G v.toNatClampNeg)) = some (gI σ 130 13, mJ (mJ σ 147 v.toNatClampNeg M F) 148 v.toNatClampNeg M G) := by
      rw [ih n v1 (v + 1) (pJ (pJ σ 147 v.toNatClampNeg (F v.toNatClampNeg)) 148 v.toNatClampNeg (G v.toNatClampNeg)) (M := M) (K := K) (F := F) (G := G) h0 h1 h2 hk (fun j hj hK => by rw [gJ_pJ_a (by omega), gJ_pJ_a (by omega), gJ_pJ_a (by omega), gJ_pJ_a (by omega)]; exact hf j hj hK) hg (by omega) (by omega) (by omega), c2,
        mJ_pJ (by omega), mJ_step (by omega) rfl, mJ_step (by omega) rfl, gI_pJ, gI_pJ]
    by_cases q : (K : Int) ≤ v.toInt
    · obtain ⟨f1, f2⟩ := hg v.toNatClampNeg (by omega)
      rw [f1, f2] at go
      rw [ck_ix (by omega), if_pos (by rw [i32_le]; omega)]
      unfold d_X12_back_108 d_X12_back_138
      rw [ck_ix (by omega), nm_t, ck_ix (by omega), if_pos (by rw [gI_pJ, i32_le]; omega), ck_ix (by omega), nm_t, nm_t]
      exact go
    · obtain ⟨f1, f2⟩ := hf v.toNatClampNeg (by omega) (by omega)
      rw [← f1, ← f2] at go
      rw [ck_ix (by omega), if_neg (by rw [i32_le]; omega), ck_t x3']
      unfold d_X12_back_108 d_X12_back_138
      rw [ck_ix (by omega), nm_t, ck_ix (by omega), if_neg (by rw [gI_pJ, i32_le]; omega), ck_t x3', ck_ix (by omega), nm_t, nm_t, gJ_pJ_a (by omega), x2]
      exact go
theorem l_back12 : ∀ (d n : Nat) (v1 v : Int32) (σ : Sg) {M K : Nat} {F G h : Nat → Int64}, 0 ≤ v1.toInt ∧ v1.toInt ≤ 5 → (gI σ 130 7).toInt = M → M ≤ 4 → (gI σ 153 v1.toNatClampNeg).toInt = K → (∀ j, j < 4 → j < K → gJ σ 156 (4 * v1.toNatClampNeg + j) = F j ∧ gJ σ 157 (4 * v1.toNatClampNeg + j) = G j) → (∀ j, K ≤ j → F j = 0 ∧ G j = 1) → (∀ j, j < 8 → gJ σ 155 (8 * v1.toNatClampNeg + j) = h j) → 0 ≤ v.toInt → v.toInt + d = 8 → d + 10 < n → d_X12_back_40 n v1 v σ = some (gI σ 130 13, mJ (mJ (mJ σ 146 v.toNatClampNeg 8 h) 147 0 M F) 148 0 M G) := by
  intro d
  induction d with
  | zero =>
    intro n v1 v σ M K F G h h0 h1 h2 hk hf hg hh h3 h4 h5
    obtain ⟨n, rfl⟩ : ∃ k, n = k + 1 := ⟨n - 1, by omega⟩
    have := nat0 h3
    have z := l_back12a M n v1 0 σ h0 h1 h2 hk hf hg (by decide) (by simp only [Int32.reduceToInt]; omega) (by omega)
    have z0 : (0 : Int32).toNatClampNeg = 0 := rfl
    rw [z0] at z
    rw [d_X12_back_40, if_pos (by rw [i32_le]; simp only [Int32.reduceToInt]; omega), mJ_nil (a := 146) (by omega)]
    unfold d_X12_back_69
    exact z
  | succ d ih =>
    intro n v1 v σ M K F G h h0 h1 h2 hk hf hg hh h3 h4 h5
    obtain ⟨n, rfl⟩ : ∃ k, n = k + 1 := ⟨n - 1, by omega⟩
    obtain ⟨c1, c2, c3⟩ := cnt1 (v := v) (m := 64) h3 (by omega) (by decide)
    obtain ⟨-, x2, x3⟩ := ix2 (c := 8) (m := 6) (k := 8) (v := v1) (w := v) (by decide) (ix_of h0.1 (by omega)) (ix_of h3 (by omega)) rfl (by decide)
    have x3' : ix (8 * v1 + v) 48 := x3
    rw [d_X12_back_40, if_neg (by rw [i32_le]; simp only [Int32.reduceToInt]; omega), ck_t x3', ck_ix (by omega), nm_t, nm_t, x2, hh _ (by omega),
      ih n v1 (v + 1) (pJ σ 146 v.toNatClampNeg (h v.toNatClampNeg)) (M := M) (K := K) (F := F) (G := G) (h := h) h0 h1 h2 hk (fun j hj hK => by rw [gJ_pJ_a (by omega), gJ_pJ_a (by omega)]; exact hf j hj hK) hg (fun j hj => by rw [gJ_pJ_a (by omega)]; exact hh j hj) (by omega) (by omega) (by omega), c2,
      mJ_step (by omega) rfl, gI_pJ]
theorem Car01 : Car 0 1 := ⟨by decide, by decide, by decide, by decide⟩
theorem s_back (n : Nat) (hn : 100 ≤ n) (a1 : Int32) {c : Nat} {τ σ : Sg} (h : Rl c τ σ) : ∃ r τ' σ', c_X11_back n a1 τ = some (r, τ') ∧ c_X12_back n a1 σ = some (r, σ') ∧ Rl (c + 1) τ' σ' := by
  have H := h
  obtain ⟨⟨lt, ls, h0⟩, h1, h2, h3, h4, h5, h6, h7, h8⟩ := h
  by_cases q1 : 0 ≤ a1.toInt ∧ a1.toInt ≤ 5
  · obtain ⟨hx, hd, hn'⟩ := Rtap_g h7 q1
    obtain ⟨t1, t2, t3, t4, t5, t6, t7, t8, t9, t10, t11, t12, t13, t14, t15⟩ := h7 _ hd
    by_cases q2 : (gI τ (6 * a1.toNatClampNeg + 94) 0).toInt = 0
    · refine ⟨-11, _, _, ?_, ?_, Rl_ref H⟩
      · simp (disch := omega) only [c_X11_back, c_X11_refuse, bp_s, bd_s, nm_t, ite10, if_pos, if_neg, ck_ix, i32_lt, i32_le, Int32.reduceToInt, reduceIte, i32_eq, Int.reduceEq, if_true, if_false, v_in, v_isRate, v_isSlot, v_isMode, v_isLaw, v_isTape]
      · simp (disch := omega) only [c_X12_back, c_X12_lacks, v_isTape12, c_X12_refuse, t1, h8.1, bp_s, bd_s, nm_t, ite10, if_pos, if_neg, ck_ix, i32_lt, i32_le, Int32.reduceToInt, reduceIte, i32_eq, Int.reduceEq, if_true, if_false, v_in, v_isRate, v_isSlot, v_isMode, v_isLaw, v_isTape]
    · by_cases q3 : (gI τ (6 * a1.toNatClampNeg + 94) 0).toInt = 5
      · by_cases q4 : (gI τ (6 * a1.toNatClampNeg + 94) 5).toInt ≤ (gI τ 4 8).toInt
        · have h5' := h5
          obtain ⟨g1, g2, g3, g4⟩ := h5
          obtain ⟨b1, b2, b3, b4⟩ := h4
          have nM := nat0 g2
          have nK := nat0 t9
          have z0 : (0 : Int32).toNatClampNeg = 0 := rfl
          generalize hP : a1.toNatClampNeg = D at *
          generalize hM : (gI τ 4 8).toNatClampNeg = M at *
          generalize hK : (gI τ (6 * D + 94) 5).toNatClampNeg = K at *
          have l0 := l_become4 8 n 0 τ (A := 16) (B := 6 * D + 96) (f := gJ τ (6 * D + 97)) (by omega) (fun j hj => rfl) (by decide) (by decide) (by omega)
          rw [z0] at l0
          have l1 := l_back11 M n 0 (pI (mJ τ (16 + 1) 0 8 (gJ τ (6 * D + 97))) 16 1 (gI τ (6 * D + 96) 1)) (A := 6 * D + 94) (M := M) (K := K) (F := (fun j => if K ≤ j then 0 else gJ τ (6 * D + 98) j)) (G := (fun j => if K ≤ j then 1 else gJ τ (6 * D + 99) j)) (by omega) (by simp (disch := omega) only [gI_pI_s, gJ_pJ_s, gD_pD_s, gI_pJ, gI_pD, gJ_pI, gJ_pD, gD_pI, gD_pJ, gI_pI_a, gJ_pJ_a, gD_pD_a, gI_pI_k, gJ_pJ_k, gD_pD_k, gI_mI_i, gJ_mJ_i, gD_mD_i, gI_mJ, gI_mD, gJ_mI, gJ_mD, gD_mI, gD_mJ, gI_mI_a, gJ_mJ_a, gD_mD_a, gI_mI_o, gJ_mJ_o, gD_mD_o]; omega) (by omega) (by simp (disch := omega) only [gI_pI_s, gJ_pJ_s, gD_pD_s, gI_pJ, gI_pD, gJ_pI, gJ_pD, gD_pI, gD_pJ, gI_pI_a, gJ_pJ_a, gD_pD_a, gI_pI_k, gJ_pJ_k, gD_pD_k, gI_mI_i, gJ_mJ_i, gD_mD_i, gI_mJ, gI_mD, gJ_mI, gJ_mD, gD_mI, gD_mJ, gI_mI_a, gJ_mJ_a, gD_mD_a, gI_mI_o, gJ_mJ_o, gD_mD_o]; omega) (fun j hj hK => by simp (disch := omega) only [gI_pI_s, gJ_pJ_s, gD_pD_s, gI_pJ, gI_pD, gJ_pI, gJ_pD, gD_pI, gD_pJ, gI_pI_a, gJ_pJ_a, gD_pD_a, gI_pI_k, gJ_pJ_k, gD_pD_k, gI_mI_i, gJ_mJ_i, gD_mD_i, gI_mJ, gI_mD, gJ_mI, gJ_mD, gD_mI, gD_mJ, gI_mI_a, gJ_mJ_a, gD_mD_a, gI_mI_o, gJ_mJ_o, gD_mD_o, if_neg]; exact ⟨trivial, trivial⟩) (fun j hj => by simp (disch := omega) only [if_pos]; exact ⟨trivial, trivial⟩) (by decide) (by simp only [Int32.reduceToInt]; omega) (by omega)
          have l2 := l_back12 8 n a1 0 (pI σ 130 13 (gI τ (6 * D + 96) 1)) (M := M) (K := K) (F := (fun j => if K ≤ j then 0 else gJ τ (6 * D + 98) j)) (G := (fun j => if K ≤ j then 1 else gJ τ (6 * D + 99) j)) (h := gJ τ (6 * D + 97)) q1 (by simp (disch := omega) only [gI_pI_s, gJ_pJ_s, gD_pD_s, gI_pJ, gI_pD, gJ_pI, gJ_pD, gD_pI, gD_pJ, gI_pI_a, gJ_pJ_a, gD_pD_a, gI_pI_k, gJ_pJ_k, gD_pD_k, gI_mI_i, gJ_mJ_i, gD_mD_i, gI_mJ, gI_mD, gJ_mI, gJ_mD, gD_mI, gD_mJ, gI_mI_a, gJ_mJ_a, gD_mD_a, gI_mI_o, gJ_mJ_o, gD_mD_o]; rw [g1]; omega) (by omega) (by rw [hP]; simp (disch := omega) only [gI_pI_s, gJ_pJ_s, gD_pD_s, gI_pJ, gI_pD, gJ_pI, gJ_pD, gD_pI, gD_pJ, gI_pI_a, gJ_pJ_a, gD_pD_a, gI_pI_k, gJ_pJ_k, gD_pD_k, gI_mI_i, gJ_mJ_i, gD_mD_i, gI_mJ, gI_mD, gJ_mI, gJ_mD, gD_mI, gD_mJ, gI_mI_a, gJ_mJ_a, gD_mD_a, gI_mI_o, gJ_mJ_o, gD_mD_o]; rw [t8]; omega) (fun j hj hK => by rw [hP]; simp (disch := omega) only [gI_pI_s, gJ_pJ_s, gD_pD_s, gI_pJ, gI_pD, gJ_pI, gJ_pD, gD_pI, gD_pJ, gI_pI_a, gJ_pJ_a, gD_pD_a, gI_pI_k, gJ_pJ_k, gD_pD_k, gI_mI_i, gJ_mJ_i, gD_mD_i, gI_mJ, gI_mD, gJ_mI, gJ_mD, gD_mI, gD_mJ, gI_mI_a, gJ_mJ_a, gD_mD_a, gI_mI_o, gJ_mJ_o, gD_mD_o, if_neg]; exact ⟨(t15 j hj).1, (t15 j hj).2.1⟩) (fun j hj => by simp (disch := omega) only [if_pos]; exact ⟨trivial, trivial⟩) (fun j hj => by rw [hP]; exact t14 j hj) (by decide) (by decide) (by omega)
          rw [z0, gI_pI_s] at l1 l2
          refine ⟨gI τ (6 * D + 96) 1, bk (pI (mJ τ (16 + 1) 0 8 (gJ τ (6 * D + 97))) 16 1 (gI τ (6 * D + 96) 1)) 0 M (fun j => if K ≤ j then 0 else gJ τ (6 * D + 98) j) (fun j => if K ≤ j then 1 else gJ τ (6 * D + 99) j), mJ (mJ (mJ (pI σ 130 13 (gI τ (6 * D + 96) 1)) 146 0 8 (gJ τ (6 * D + 97))) 147 0 M (fun j => if K ≤ j then 0 else gJ τ (6 * D + 98) j)) 148 0 M (fun j => if K ≤ j then 1 else gJ τ (6 * D + 99) j), ?_, ?_, ?_⟩
          · simp (disch := omega) only [c_X11_back, c_X4_become, bp_s, bd_s, nm_t, ite10, if_pos, if_neg, ck_ix, i32_lt, i32_le, Int32.reduceToInt, reduceIte, i32_eq, Int.reduceEq, if_true, if_false, v_in, v_isRate, v_isSlot, v_isMode, v_isLaw, v_isTape, hP, l0, l1]
          · simp (disch := omega) only [c_X12_back, c_X12_lacks, v_isTape12, bp_s, bd_s, nm_t, ite10, if_pos, if_neg, ck_ix, i32_lt, i32_le, Int32.reduceToInt, reduceIte, i32_eq, Int.reduceEq, if_true, if_false, v_in, v_isRate, v_isSlot, v_isMode, v_isLaw, v_isTape, hP, t1, t8, g1, t11, l2]
          have E : ∀ a, ¬ (16 ≤ a ∧ a ≤ 17) ∧ ¬ (74 ≤ a ∧ a ≤ 93) → Sm τ (bk (pI (mJ τ (16 + 1) 0 8 (gJ τ (6 * D + 97))) 16 1 (gI τ (6 * D + 96) 1)) 0 M (fun j => if K ≤ j then 0 else gJ τ (6 * D + 98) j) (fun j => if K ≤ j then 1 else gJ τ (6 * D + 99) j)) a := fun a ha => Sm_bk (Sm_pI (Sm_mJ Sm_refl (by omega)) (by omega)) (by omega)
          have E' : ∀ a, a ≠ 130 ∧ ¬ (146 ≤ a ∧ a ≤ 148) → Sm σ (mJ (mJ (mJ (pI σ 130 13 (gI τ (6 * D + 96) 1)) 146 0 8 (gJ τ (6 * D + 97))) 147 0 M (fun j => if K ≤ j then 0 else gJ τ (6 * D + 98) j)) 148 0 M (fun j => if K ≤ j then 1 else gJ τ (6 * D + 99) j)) a := fun a ha => Sm_mJ (Sm_mJ (Sm_mJ (Sm_pI Sm_refl (by omega)) (by omega)) (by omega)) (by omega)
          refine ⟨⟨lt, ls, Rold_f h0 (fun a ha => E a (by omega))⟩, Rtab_f h1 (fun a ha => E a (by omega)) (fun a ha => E' a (by omega)), Rwts_f h2 (fun a ha => E a (by omega)) (fun a ha => E' a (by omega)), Rbil_f h3 (fun a ha => E a (by omega)) (E' 133 (by omega)) (by first | rfl | simp (disch := omega) only [gI_pI_s, gJ_pJ_s, gD_pD_s, gI_pJ, gI_pD, gJ_pI, gJ_pD, gD_pI, gD_pJ, gI_pI_a, gJ_pJ_a, gD_pD_a, gI_pI_k, gJ_pJ_k, gD_pD_k, gI_mI_i, gJ_mJ_i, gD_mD_i, gI_mJ, gI_mD, gJ_mI, gJ_mD, gD_mI, gD_mJ, gI_mI_a, gJ_mJ_a, gD_mD_a, gI_mI_o, gJ_mJ_o, gD_mD_o]), ⟨?_, ?_, ?_, fun k hk => ?_⟩, ⟨?_, ?_, ?_, fun p hp => ?_⟩, Rlst_f h6 (fun a ha => E a (by omega)) (fun a ha => E' a (by omega)) (by first | rfl | simp (disch := omega) only [gI_pI_s, gJ_pJ_s, gD_pD_s, gI_pJ, gI_pD, gJ_pI, gJ_pD, gD_pI, gD_pJ, gI_pI_a, gJ_pJ_a, gD_pD_a, gI_pI_k, gJ_pJ_k, gD_pD_k, gI_mI_i, gJ_mJ_i, gD_mD_i, gI_mJ, gI_mD, gJ_mI, gJ_mD, gD_mI, gD_mJ, gI_mI_a, gJ_mJ_a, gD_mD_a, gI_mI_o, gJ_mJ_o, gD_mD_o]) (by first | rfl | simp (disch := omega) only [gI_pI_s, gJ_pJ_s, gD_pD_s, gI_pJ, gI_pD, gJ_pI, gJ_pD, gD_pI, gD_pJ, gI_pI_a, gJ_pJ_a, gD_pD_a, gI_pI_k, gJ_pJ_k, gD_pD_k, gI_mI_i, gJ_mJ_i, gD_mD_i, gI_mJ, gI_mD, gJ_mI, gJ_mD, gD_mI, gD_mJ, gI_mI_a, gJ_mJ_a, gD_mD_a, gI_mI_o, gJ_mJ_o, gD_mD_o]), Rtap_f h7 (Nat.le_succ _) (fun a ha => E a (by omega)) (fun a ha => E' a (by omega)), Rmis_f h8 (by first | rfl | simp (disch := omega) only [gI_pI_s, gJ_pJ_s, gD_pD_s, gI_pJ, gI_pD, gJ_pI, gJ_pD, gD_pI, gD_pJ, gI_pI_a, gJ_pJ_a, gD_pD_a, gI_pI_k, gJ_pJ_k, gD_pD_k, gI_mI_i, gJ_mJ_i, gD_mD_i, gI_mJ, gI_mD, gJ_mI, gJ_mD, gD_mI, gD_mJ, gI_mI_a, gJ_mJ_a, gD_mD_a, gI_mI_o, gJ_mJ_o, gD_mD_o]) (by first | rfl | simp (disch := omega) only [gI_pI_s, gJ_pJ_s, gD_pD_s, gI_pJ, gI_pD, gJ_pI, gJ_pD, gD_pI, gD_pJ, gI_pI_a, gJ_pJ_a, gD_pD_a, gI_pI_k, gJ_pJ_k, gD_pD_k, gI_mI_i, gJ_mJ_i, gD_mD_i, gI_mJ, gI_mD, gJ_mI, gJ_mD, gD_mI, gD_mJ, gI_mI_a, gJ_mJ_a, gD_mD_a, gI_mI_o, gJ_mJ_o, gD_mD_o]) (by first | rfl | simp (disch := omega) only [gI_pI_s, gJ_pJ_s, gD_pD_s, gI_pJ, gI_pD, gJ_pI, gJ_pD, gD_pI, gD_pJ, gI_pI_a, gJ_pJ_a, gD_pD_a, gI_pI_k, gJ_pJ_k, gD_pD_k, gI_mI_i, gJ_mJ_i, gD_mD_i, gI_mJ, gI_mD, gJ_mI, gJ_mD, gD_mI, gD_mJ, gI_mI_a, gJ_mJ_a, gD_mD_a, gI_mI_o, gJ_mJ_o, gD_mD_o])⟩
          · simp (disch := omega) only [gI_bk, gI_pI_s, gJ_pJ_s, gD_pD_s, gI_pJ, gI_pD, gJ_pI, gJ_pD, gD_pI, gD_pJ, gI_pI_a, gJ_pJ_a, gD_pD_a, gI_pI_k, gJ_pJ_k, gD_pD_k, gI_mI_i, gJ_mJ_i, gD_mD_i, gI_mJ, gI_mD, gJ_mI, gJ_mD, gD_mI, gD_mJ, gI_mI_a, gJ_mJ_a, gD_mD_a, gI_mI_o, gJ_mJ_o, gD_mD_o]
          · simp (disch := omega) only [gI_bk, gI_pI_s, gJ_pJ_s, gD_pD_s, gI_pJ, gI_pD, gJ_pI, gJ_pD, gD_pI, gD_pJ, gI_pI_a, gJ_pJ_a, gD_pD_a, gI_pI_k, gJ_pJ_k, gD_pD_k, gI_mI_i, gJ_mJ_i, gD_mD_i, gI_mJ, gI_mD, gJ_mI, gJ_mD, gD_mI, gD_mJ, gI_mI_a, gJ_mJ_a, gD_mD_a, gI_mI_o, gJ_mJ_o, gD_mD_o]; exact t12
          · simp (disch := omega) only [gI_bk, gI_pI_s, gJ_pJ_s, gD_pD_s, gI_pJ, gI_pD, gJ_pI, gJ_pD, gD_pI, gD_pJ, gI_pI_a, gJ_pJ_a, gD_pD_a, gI_pI_k, gJ_pJ_k, gD_pD_k, gI_mI_i, gJ_mJ_i, gD_mD_i, gI_mJ, gI_mD, gJ_mI, gJ_mD, gD_mI, gD_mJ, gI_mI_a, gJ_mJ_a, gD_mD_a, gI_mI_o, gJ_mJ_o, gD_mD_o]; omega
          · rw [gJ_bk_a (by omega)]
            simp (disch := omega) only [gI_pI_s, gJ_pJ_s, gD_pD_s, gI_pJ, gI_pD, gJ_pI, gJ_pD, gD_pI, gD_pJ, gI_pI_a, gJ_pJ_a, gD_pD_a, gI_pI_k, gJ_pJ_k, gD_pD_k, gI_mI_i, gJ_mJ_i, gD_mD_i, gI_mJ, gI_mD, gJ_mI, gJ_mD, gD_mI, gD_mJ, gI_mI_a, gJ_mJ_a, gD_mD_a, gI_mI_o, gJ_mJ_o, gD_mD_o]
          · exact g1
          · exact g2
          · exact g3
          · obtain ⟨j1, j2, j3, j4, j5⟩ := g4 p hp
            simp (disch := omega) only [gI_bk, gI_pI_s, gJ_pJ_s, gD_pD_s, gI_pJ, gI_pD, gJ_pI, gJ_pD, gD_pI, gD_pJ, gI_pI_a, gJ_pJ_a, gD_pD_a, gI_pI_k, gJ_pJ_k, gD_pD_k, gI_mI_i, gJ_mJ_i, gD_mD_i, gI_mJ, gI_mD, gJ_mI, gJ_mD, gD_mI, gD_mJ, gI_mI_a, gJ_mJ_a, gD_mD_a, gI_mI_o, gJ_mJ_o, gD_mD_o]
            refine ⟨j1, j2, j3, j4, fun q => ?_⟩
            have q' : p < M := by
              have e : gI (pI (mJ τ 17 0 8 (gJ τ (6 * D + 97))) 16 1 (gI τ (6 * D + 96) 1)) 4 8 = gI τ 4 8 := rfl
              omega
            rw [gJ_bk_5 (by omega), gJ_bk_6 (by omega)]
            simp (disch := omega) only [gI_pI_s, gJ_pJ_s, gD_pD_s, gI_pJ, gI_pD, gJ_pI, gJ_pD, gD_pI, gD_pJ, gI_pI_a, gJ_pJ_a, gD_pD_a, gI_pI_k, gJ_pJ_k, gD_pD_k, gI_mI_i, gJ_mJ_i, gD_mD_i, gI_mJ, gI_mD, gJ_mI, gJ_mD, gD_mI, gD_mJ, gI_mI_a, gJ_mJ_a, gD_mD_a, gI_mI_o, gJ_mJ_o, gD_mD_o]
            refine ⟨trivial, trivial, ?_⟩
            by_cases e : K ≤ p
            · rw [if_pos e, if_pos e]; exact Car01
            · rw [if_neg e, if_neg e]; exact (t15 p hp).2.2 (by omega)
        · refine ⟨-3, τ, σ, ?_, ?_, Rl_s H⟩
          · simp (disch := omega) only [c_X11_back, bp_s, bd_s, nm_t, ite10, if_pos, if_neg, ck_ix, i32_lt, i32_le, Int32.reduceToInt, reduceIte, i32_eq, Int.reduceEq, if_true, if_false, v_in, v_isRate, v_isSlot, v_isMode, v_isLaw, v_isTape]
          · simp (disch := omega) only [c_X12_back, c_X12_lacks, v_isTape12, t1, t8, h5.1, bp_s, bd_s, nm_t, ite10, if_pos, if_neg, ck_ix, i32_lt, i32_le, Int32.reduceToInt, reduceIte, i32_eq, Int.reduceEq, if_true, if_false, v_in, v_isRate, v_isSlot, v_isMode, v_isLaw, v_isTape]
      · refine ⟨-12, _, _, ?_, ?_, Rl_ref H⟩
        · simp (disch := omega) only [c_X11_back, c_X11_refuse, bp_s, bd_s, nm_t, ite10, if_pos, if_neg, ck_ix, i32_lt, i32_le, Int32.reduceToInt, reduceIte, i32_eq, Int.reduceEq, if_true, if_false, v_in, v_isRate, v_isSlot, v_isMode, v_isLaw, v_isTape]
        · simp (disch := omega) only [c_X12_back, c_X12_lacks, v_isTape12, c_X12_refuse, t1, h8.1, bp_s, bd_s, nm_t, ite10, if_pos, if_neg, ck_ix, i32_lt, i32_le, Int32.reduceToInt, reduceIte, i32_eq, Int.reduceEq, if_true, if_false, v_in, v_isRate, v_isSlot, v_isMode, v_isLaw, v_isTape]
  · refine ⟨-1, τ, σ, ?_, ?_, Rl_s H⟩
    · simp (disch := omega) only [c_X11_back, bp_s, bd_s, nm_t, ite10, if_pos, if_neg, ck_ix, i32_lt, i32_le, Int32.reduceToInt, reduceIte, i32_eq, Int.reduceEq, if_true, if_false, v_in, v_isRate, v_isSlot, v_isMode, v_isLaw, v_isTape]
    · simp (disch := omega) only [c_X12_back, c_X12_lacks, v_isTape12, bp_s, bd_s, nm_t, ite10, if_pos, if_neg, ck_ix, i32_lt, i32_le, Int32.reduceToInt, reduceIte, i32_eq, Int.reduceEq, if_true, if_false, v_in, v_isRate, v_isSlot, v_isMode, v_isLaw, v_isTape]
