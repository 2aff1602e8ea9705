section FILL
variable {N : Nat}
theorem fct_le {k : Nat} (h : k ≤ 5) : fct k ≤ 120 := by
  have e : k = 0 ∨ k = 1 ∨ k = 2 ∨ k = 3 ∨ k = 4 ∨ k = 5 := by omega
  rcases e with rfl | rfl | rfl | rfl | rfl | rfl <;> decide
theorem o6_v {v2 : Nat} (hN : N ≤ 6) : ∀ (d n : Nat) (k v4 : Int32) (σ : Sg), Lay σ → (gI σ 14 1).toInt = N → 0 ≤ k.toInt → k.toInt + d = N → v4.toInt = fct k.toNatClampNeg → (∀ j : Nat, (j : Int) < k.toInt → (gI σ 68 j).toInt = j) → d < n → ∃ (w : Nat) (σ' : Sg) (x : Int32), n ≤ w + d + 1 ∧ d_X10_firstOrderThatMatters_6 n v2 14 v4 k σ = d_X10_firstOrderThatMatters_39 w v2 14 x σ' ∧ x.toInt = fct N ∧ (∀ j : Nat, j < N → (gI σ' 68 j).toInt = j) ∧ To 68 69 σ σ' := by
  intro d
  induction d with
  | zero =>
    intro n k v4 σ hl h1 h2 h3 h4 h5 h6
    obtain ⟨n, rfl⟩ : ∃ k, n = k + 1 := ⟨n - 1, by omega⟩
    have hk : k.toNatClampNeg = N := by have := nat0 h2; omega
    rw [d_X10_firstOrderThatMatters_6, if_pos (by rw [i32_le]; omega)]
    exact ⟨n, σ, v4, by omega, rfl, by rw [h4, hk], fun j hj => h5 j (by omega), To_refl hl⟩
  | succ d ih =>
    intro n k v4 σ hl h1 h2 h3 h4 h5 h6
    obtain ⟨n, rfl⟩ : ∃ k, n = k + 1 := ⟨n - 1, by omega⟩
    obtain ⟨c1, c2, c3⟩ := cnt1 (v := k) (m := 64) h2 (by omega) (by decide)
    have f5 := fct_le (k := k.toNatClampNeg) (by omega)
    have hm : fct k.toNatClampNeg * (k.toNatClampNeg + 1) ≤ 120 * 6 := Nat.mul_le_mul f5 (by omega)
    have e1 : v4.toInt * (k + 1).toInt = ((fct k.toNatClampNeg * (k.toNatClampNeg + 1) : Nat) : Int) := by
      rw [h4, c1, ← c3]; push_cast; rfl
    have e2 : (v4 * (k + 1)).toInt = ((fct (k + 1).toNatClampNeg : Nat) : Int) := by
      rw [i32_mul (by omega) (by omega), e1, c2]; rfl
    have t : To 68 69 σ (pI σ 68 k.toNatClampNeg k) := To_pI (To_refl hl) (by omega)
    obtain ⟨w, σ', x, w1, w2, w3, w4, w5⟩ := ih n (k + 1) (v4 * (k + 1)) (pI σ 68 k.toNatClampNeg k) t.1 (by rw [gI_pI_a (by decide)]; exact h1) (by omega) (by omega) e2 (fun j hj => by
      by_cases e : j = k.toNatClampNeg
      · subst e; rw [gI_pI_s]; exact c3.symm
      · rw [gI_pI_k e]; exact h5 j (by omega)) (by omega)
    refine ⟨w, σ', x, by omega, ?_, w3, w4, To_trans t w5⟩
    rw [d_X10_firstOrderThatMatters_6, if_neg (by rw [i32_le]; omega), ck_ix (by omega), nm_t, nm_t, nm_t, w2]
theorem r24_v {v1 : Int32} (hN : N ≤ 6) : ∀ (d n : Nat) (k : Int32) (σ : Sg), Lay σ → (gI σ 130 3).toInt = N → 0 ≤ k.toInt → k.toInt + d = N → (∀ j : Nat, (j : Int) < k.toInt → (gI σ 162 j).toInt = j) → d < n → ∃ (w : Nat) (σ' : Sg), n ≤ w + d + 1 ∧ d_X12_order_24 n v1 k σ = d_X12_order_45 w v1 σ' ∧ (∀ j : Nat, j < N → (gI σ' 162 j).toInt = j) ∧ To 162 163 σ σ' := by
  intro d
  induction d with
  | zero =>
    intro n k σ hl h1 h2 h3 h5 h6
    obtain ⟨n, rfl⟩ : ∃ k, n = k + 1 := ⟨n - 1, by omega⟩
    rw [d_X12_order_24, if_pos (by rw [i32_le]; omega)]
    exact ⟨n, σ, by omega, rfl, fun j hj => h5 j (by omega), To_refl hl⟩
  | succ d ih =>
    intro n k σ hl h1 h2 h3 h5 h6
    obtain ⟨n, rfl⟩ : ∃ k, n = k + 1 := ⟨n - 1, by omega⟩
    obtain ⟨c1, c2, c3⟩ := cnt1 (v := k) (m := 64) h2 (by omega) (by decide)
    have t : To 162 163 σ (pI σ 162 k.toNatClampNeg k) := To_pI (To_refl hl) (by omega)
    obtain ⟨w, σ', w1, w2, w4, w5⟩ := ih n (k + 1) (pI σ 162 k.toNatClampNeg k) t.1 (by rw [gI_pI_a (by decide)]; exact h1) (by omega) (by omega) (fun j hj => by
      by_cases e : j = k.toNatClampNeg
      · subst e; rw [gI_pI_s]; exact c3.symm
      · rw [gI_pI_k e]; exact h5 j (by omega)) (by omega)
    refine ⟨w, σ', by omega, ?_, w4, To_trans t w5⟩
    rw [d_X12_order_24, if_neg (by rw [i32_le]; omega), ck_ix (by omega), nm_t, nm_t, w2]
theorem bec_v {b : Nat} {x : Int32} {f : Nat → Int32} (hb : b = 35 ∨ b = 48) (hN : N ≤ 12) (hx : x.toInt = N) : ∀ (d n : Nat) (k : Int32) (σ : Sg), gI σ 14 1 = x → (∀ j, j < N → gI σ 15 j = f j) → 0 ≤ k.toInt → k.toInt + d = N → d < n → d_X0_become_2 n b 14 k σ = some (pI (mI σ (b + 1) k.toNatClampNeg N f) b 1 x) := by
  intro d
  induction d with
  | zero =>
    intro n k σ h1 hf h2 h3 h6
    obtain ⟨n, rfl⟩ : ∃ k, n = k + 1 := ⟨n - 1, by omega⟩
    have := nat0 h2
    rw [d_X0_become_2, h1, if_pos (by rw [i32_le]; omega), mI_nil (by omega)]
    unfold d_X0_become_28
    rw [nm_t, h1]
  | succ d ih =>
    intro n k σ h1 hf h2 h3 h6
    obtain ⟨n, rfl⟩ : ∃ k, n = k + 1 := ⟨n - 1, by omega⟩
    obtain ⟨c1, c2, c3⟩ := cnt1 (v := k) (m := 64) h2 (by omega) (by decide)
    have hi : ix k 12 := ix_of h2 (by omega)
    have e15 : gI σ (14 + 1) k.toNatClampNeg = f k.toNatClampNeg := hf _ (by omega)
    rw [d_X0_become_2, h1, if_neg (by rw [i32_le]; omega), ck_t hi, ck_t hi, nm_t, nm_t, e15, ih n (k + 1) (pI σ (b + 1) k.toNatClampNeg (f k.toNatClampNeg)) (by rw [gI_pI_a (by omega)]; exact h1) (fun j hj => by rw [gI_pI_a (by omega)]; exact hf j hj) (by omega) (by omega) (by omega), c2, mI_step (by omega) rfl]
theorem ix12p {v : Int32} (hv : 0 ≤ v.toInt ∧ v.toInt ≤ 11) : (12 + v).toNatClampNeg = 12 + v.toNatClampNeg ∧ ix (12 + v) 24 := by
  have e : (12 + v).toInt = 12 + v.toInt := by
    rw [i32_add (by simp only [Int32.reduceToInt]; omega) (by simp only [Int32.reduceToInt]; omega)]; rfl
  have n1 := nat0 hv.1
  refine ⟨?_, ix_of (by omega) (by omega)⟩
  rw [i32_nat (12 + v), e]; omega
/-- a row's entry is an index -/
theorem Row_ix {a : Nat} {L : List Nat} {σ : Sg} (h : Row a L σ) (ho : okP N L = true) (hN : N ≤ 6) {j : Nat} (hj : j < N) : ix (gI σ a j) 12 ∧ (gI σ a j).toNatClampNeg = gtL L j ∧ gtL L j < N := by
  have hl := ok_len ho
  have e := h j (by omega)
  have l := ok_lt ho hj
  exact ⟨ix_of (by omega) (by omega), by rw [i32_nat]; omega, l⟩
theorem o108_v {k90 : Int32 → Sg → Option (Int32 × Sg)} {v2 : Nat} {v4 v5 v6 x : Int32} {L : List Nat} {f : Nat → Int32} (hN : N ≤ 6) (ho : okP N L = true) (hx : x.toInt = N) : ∀ (d n : Nat) (k : Int32) (σ : Sg), gI σ 14 1 = x → Row 68 L σ → (∀ j, j < N → gI σ 15 j = f j) → 0 ≤ k.toInt → k.toInt + d = N → d < n → ∃ w, n ≤ w + d + 1 ∧ d_X10_firstOrderThatMatters_108 k90 n v2 14 v4 v5 v6 k σ = d_X10_firstOrderThatMatters_148 k90 w v2 14 v4 v5 v6 (mI σ 49 k.toNatClampNeg N (fun j => f (gtL L j))) := by
  intro d
  induction d with
  | zero =>
    intro n k σ h1 hr hf h2 h3 h6
    obtain ⟨n, rfl⟩ : ∃ k, n = k + 1 := ⟨n - 1, by omega⟩
    have := nat0 h2
    refine ⟨n, by omega, ?_⟩
    rw [d_X10_firstOrderThatMatters_108, h1, if_pos (by rw [i32_le]; omega), mI_nil (by omega)]
  | succ d ih =>
    intro n k σ h1 hr hf h2 h3 h6
    obtain ⟨n, rfl⟩ : ∃ k, n = k + 1 := ⟨n - 1, by omega⟩
    obtain ⟨c1, c2, c3⟩ := cnt1 (v := k) (m := 64) h2 (by omega) (by decide)
    obtain ⟨r1, r2, r3⟩ := Row_ix hr ho hN (j := k.toNatClampNeg) (by omega)
    have e15 : gI σ (14 + 1) (gtL L k.toNatClampNeg) = f (gtL L k.toNatClampNeg) := hf _ r3
    obtain ⟨w, w1, w2⟩ := ih n (k + 1) (pI σ 49 k.toNatClampNeg (f (gtL L k.toNatClampNeg))) (by rw [gI_pI_a (by decide)]; exact h1) (fun j hj => by rw [gI_pI_a (by decide)]; exact hr j hj) (fun j hj => by rw [gI_pI_a (by decide)]; exact hf j hj) (by omega) (by omega) (by omega)
    refine ⟨w, by omega, ?_⟩
    rw [d_X10_firstOrderThatMatters_108, h1, if_neg (by rw [i32_le]; omega), ck_ix (by omega), ck_t r1, ck_ix (by omega), nm_t, nm_t, r2, e15, w2, c2, mI_step (f := fun j => f (gtL L j)) (by omega) rfl]
theorem t10_v {v1 x : Int32} {L : List Nat} {f : Nat → Int32} (hN : N ≤ 6) (ho : okP N L = true) (hx : x.toInt = N) : ∀ (d n : Nat) (k : Int32) (σ : Sg), gI σ 130 3 = x → Row 162 L σ → (∀ j, j < N → gI σ 133 j = f j) → 0 ≤ k.toInt → k.toInt + d = N → d < n → ∃ w, n ≤ w + d + 1 ∧ d_X12_triesOrder_10 n v1 k σ = d_X12_triesOrder_41 w v1 (mI σ 141 k.toNatClampNeg N (fun j => f (gtL L j))) := by
  intro d
  induction d with
  | zero =>
    intro n k σ h1 hr hf h2 h3 h6
    obtain ⟨n, rfl⟩ : ∃ k, n = k + 1 := ⟨n - 1, by omega⟩
    have := nat0 h2
    refine ⟨n, by omega, ?_⟩
    rw [d_X12_triesOrder_10, h1, if_pos (by rw [i32_le]; omega), mI_nil (by omega)]
  | succ d ih =>
    intro n k σ h1 hr hf h2 h3 h6
    obtain ⟨n, rfl⟩ : ∃ k, n = k + 1 := ⟨n - 1, by omega⟩
    obtain ⟨c1, c2, c3⟩ := cnt1 (v := k) (m := 64) h2 (by omega) (by decide)
    obtain ⟨r1, r2, r3⟩ := Row_ix hr ho hN (j := k.toNatClampNeg) (by omega)
    obtain ⟨w, w1, w2⟩ := ih n (k + 1) (pI σ 141 k.toNatClampNeg (f (gtL L k.toNatClampNeg))) (by rw [gI_pI_a (by decide)]; exact h1) (fun j hj => by rw [gI_pI_a (by decide)]; exact hr j hj) (fun j hj => by rw [gI_pI_a (by decide)]; exact hf j hj) (by omega) (by omega) (by omega)
    refine ⟨w, by omega, ?_⟩
    rw [d_X12_triesOrder_10, h1, if_neg (by rw [i32_le]; omega), ck_ix (by omega), ck_t r1, ck_ix (by omega), nm_t, nm_t, r2, hf _ r3, w2, c2, mI_step (f := fun j => f (gtL L j)) (by omega) rfl]
theorem r57_v {v1 v2 x : Int32} {f : Nat → Int64} (hN : N ≤ 6) (hx : x.toInt = N) : ∀ (d n : Nat) (k : Int32) (σ : Sg), gI σ 130 3 = x → (∀ j, j < N → gJ σ 145 (12 + j) = f j) → 0 ≤ k.toInt → k.toInt + d = N → d < n → ∃ w, n ≤ w + d + 1 ∧ d_X12_order_57 n v1 v2 k σ = d_X12_order_86 w v1 v2 (mJ σ 163 k.toNatClampNeg N f) := by
  intro d
  induction d with
  | zero =>
    intro n k σ h1 hf h2 h3 h6
    obtain ⟨n, rfl⟩ : ∃ k, n = k + 1 := ⟨n - 1, by omega⟩
    have := nat0 h2
    refine ⟨n, by omega, ?_⟩
    rw [d_X12_order_57, h1, if_pos (by rw [i32_le]; omega), mJ_nil (by omega)]
  | succ d ih =>
    intro n k σ h1 hf h2 h3 h6
    obtain ⟨n, rfl⟩ : ∃ k, n = k + 1 := ⟨n - 1, by omega⟩
    obtain ⟨c1, c2, c3⟩ := cnt1 (v := k) (m := 64) h2 (by omega) (by decide)
    obtain ⟨x1, x2⟩ := ix12p (v := k) ⟨h2, by omega⟩
    obtain ⟨w, w1, w2⟩ := ih n (k + 1) (pJ σ 163 k.toNatClampNeg (f k.toNatClampNeg)) (by rw [gI_pJ]; exact h1) (fun j hj => by rw [gJ_pJ_a (by decide)]; exact hf j hj) (by omega) (by omega) (by omega)
    refine ⟨w, by omega, ?_⟩
    rw [d_X12_order_57, h1, if_neg (by rw [i32_le]; omega), ck_t x2, ck_ix (by omega), nm_t, nm_t, x1, hf _ (by omega), w2, c2, mJ_step (by omega) rfl]
/-- they differ already -/
theorem o125_1 {k88 : Int32 → Sg → Option (Int32 × Sg)} {v1 v2 v3 x : Int32} {σ : Sg} (hN : N ≤ 6) (hx : x.toInt = N) (h1 : gI σ 130 3 = x) : ∀ (d n : Nat) (k : Int32), 0 ≤ k.toInt → k.toInt + d = N → d < n → d_X12_order_125 k88 n v1 v2 v3 1 k σ = some (v3, σ) := by
  intro d
  induction d with
  | zero =>
    intro n k h2 h3 h6
    obtain ⟨n, rfl⟩ : ∃ k, n = k + 1 := ⟨n - 1, by omega⟩
    rw [d_X12_order_125, h1, if_pos (by rw [i32_le]; omega)]
    rfl
  | succ d ih =>
    intro n k h2 h3 h6
    obtain ⟨n, rfl⟩ : ∃ k, n = k + 1 := ⟨n - 1, by omega⟩
    obtain ⟨c1, c2, c3⟩ := cnt1 (v := k) (m := 64) h2 (by omega) (by decide)
    rw [d_X12_order_125, h1, if_neg (by rw [i32_le]; omega), if_neg (by decide)]
    exact ih n (k + 1) (by omega) (by omega) (by omega)
/-- the lines' results, compared -/
theorem other_v {k88 : Int32 → Sg → Option (Int32 × Sg)} {v1 v2 v3 x : Int32} {L : List Nat} {τ σ : Sg} (hN : N ≤ 6) (ho : okP N L = true) (hx : x.toInt = N) (h1 : gI σ 130 3 = x) (hr : Row 68 L τ) (hr' : Row 162 L σ) (e1 : ∀ j, j < N → gJ σ 145 (12 + j) = gJ τ 59 j) (e2 : ∀ j, j < N → gJ σ 163 j = gJ τ 46 j) : ∀ (d n n' : Nat) (k : Int32), 0 ≤ k.toInt → k.toInt + d = N → d + 1 < n → d + 1 < n' →
    (d_X10_hasOtherResults_2 n x k τ = some 0 ∧ d_X12_order_125 k88 n' v1 v2 v3 0 k σ = k88 v3 σ) ∨ (d_X10_hasOtherResults_2 n x k τ = some 1 ∧ d_X12_order_125 k88 n' v1 v2 v3 0 k σ = some (v3, σ)) := by
  intro d
  induction d with
  | zero =>
    intro n n' k h2 h3 h6 h7
    obtain ⟨n, rfl⟩ : ∃ k, n = k + 1 := ⟨n - 1, by omega⟩
    obtain ⟨n', rfl⟩ : ∃ k, n' = k + 1 := ⟨n' - 1, by omega⟩
    left
    have hle : x ≤ k := by rw [i32_le]; omega
    rw [d_X10_hasOtherResults_2, d_X12_order_125, h1, if_pos hle, if_pos hle]
    exact ⟨rfl, rfl⟩
  | succ d ih =>
    intro n n' k h2 h3 h6 h7
    obtain ⟨n, rfl⟩ : ∃ k, n = k + 1 := ⟨n - 1, by omega⟩
    obtain ⟨n', rfl⟩ : ∃ k, n' = k + 1 := ⟨n' - 1, by omega⟩
    obtain ⟨c1, c2, c3⟩ := cnt1 (v := k) (m := 64) h2 (by omega) (by decide)
    obtain ⟨x1, x2⟩ := ix12p (v := k) ⟨h2, by omega⟩
    obtain ⟨r1, r2, r3⟩ := Row_ix hr ho hN (j := k.toNatClampNeg) (by omega)
    obtain ⟨s1, s2, s3⟩ := Row_ix hr' ho hN (j := k.toNatClampNeg) (by omega)
    have hle : ¬ x ≤ k := by rw [i32_le]; omega
    have i6 : ix k 6 := ix_of h2 (by omega)
    have i12 : ix k 12 := ix_of h2 (by omega)
    rw [d_X10_hasOtherResults_2, d_X12_order_125, h1, if_neg hle, if_neg hle, if_pos rfl, ck_t i12, ck_t i6, ck_t r1, ck_t x2, ck_t i6, ck_t s1, r2, s2, x1, e1 _ (by omega), e2 _ r3]
    by_cases q : gJ τ 59 k.toNatClampNeg = gJ τ 46 (gtL L k.toNatClampNeg)
    · rw [if_pos q, if_pos q, nm_t]
      exact ih n n' (k + 1) (by omega) (by omega) (by omega) (by omega)
    · rw [if_neg q, if_neg q]
      right
      refine ⟨rfl, ?_⟩
      exact o125_1 hN hx h1 d n' (k + 1) (by omega) (by omega) (by omega)
theorem dif0 {σ : Sg} (e : ∀ k, k < 8 → gJ σ 159 k = 0 ∧ gJ σ 146 (8 + k) = 0) : ∀ (d n : Nat) (k : Int32), 0 ≤ k.toInt → k.toInt + d = 8 → d < n → d_X12_differs_5 n 1 0 k σ = some 0 := by
  intro d
  induction d with
  | zero =>
    intro n k h3 h4 h5
    obtain ⟨n, rfl⟩ : ∃ k, n = k + 1 := ⟨n - 1, by omega⟩
    rw [d_X12_differs_5, if_pos (by rw [i32_le]; simp only [Int32.reduceToInt]; omega), ck_t (Or.inl rfl)]
  | succ d ih =>
    intro n k h3 h4 h5
    obtain ⟨n, rfl⟩ : ∃ k, n = k + 1 := ⟨n - 1, by omega⟩
    obtain ⟨c1, c2, c3⟩ := cnt1 (v := k) (m := 64) h3 (by omega) (by decide)
    obtain ⟨x1, x2⟩ := ix8p (v := k) ⟨h3, by omega⟩
    obtain ⟨y1, y2⟩ := e k.toNatClampNeg (by omega)
    rw [d_X12_differs_5, if_neg (by rw [i32_le]; simp only [Int32.reduceToInt]; omega), if_pos rfl, ck_ix (by omega), ck_t x2, x1, y1, y2, if_pos (by decide)]
    exact ih n (k + 1) (by omega) (by omega) (by omega)
end FILL
