section DRR
def uJ (g : Nat → Int64) (k : Nat) (v : Int64) : Nat → Int64 := fun j => if j = k then v else g j
def uI (g : Nat → Int32) (k : Nat) (v : Int32) : Nat → Int32 := fun j => if j = k then v else g j
theorem uJ_s {g : Nat → Int64} {k : Nat} {v : Int64} : uJ g k v k = v := if_pos rfl
theorem uJ_o {g : Nat → Int64} {k j : Nat} {v : Int64} (h : j ≠ k) : uJ g k v j = g j := if_neg h
theorem uI_s {g : Nat → Int32} {k : Nat} {v : Int32} : uI g k v k = v := if_pos rfl
theorem uI_o {g : Nat → Int32} {k j : Nat} {v : Int32} (h : j ≠ k) : uI g k v j = g j := if_neg h
theorem mI_uI {σ : Sg} {a lo hi k : Nat} {f : Nat → Int32} {v : Int32} (hk : lo ≤ k ∧ k < hi) : pI (mI σ a lo hi f) a k v = mI σ a lo hi (uI f k v) := by
  have e : up2 (fun b j => if b = a ∧ lo ≤ j ∧ j < hi then f j else σ.2.1 b j) a k v = (fun b j => if b = a ∧ lo ≤ j ∧ j < hi then uI f k v j else σ.2.1 b j) := by
    funext b j
    unfold up2
    by_cases q : b = a ∧ j = k
    · rw [if_pos q, if_pos (by omega), q.2, uI_s]
    · rw [if_neg q]
      dsimp only
      by_cases q2 : b = a ∧ lo ≤ j ∧ j < hi
      · rw [if_pos q2, if_pos q2, uI_o (by omega)]
      · rw [if_neg q2, if_neg q2]
  unfold pI
  dsimp only [mI]
  rw [e]
theorem mJ_uJ {σ : Sg} {a lo hi k : Nat} {f : Nat → Int64} {v : Int64} (hk : lo ≤ k ∧ k < hi) : pJ (mJ σ a lo hi f) a k v = mJ σ a lo hi (uJ f k v) := mJ_upd hk uJ_s (fun _ h => uJ_o h)
theorem i32_div {a b : Int32} (h : -2147483648 < a.toInt) : (a / b).toInt = a.toInt.tdiv b.toInt := by
  refine Int32.toInt_div_of_ne_left a b (fun e => ?_)
  rw [e] at h
  exact absurd h (by decide)
/-- Java's rest of what is not negative -/
theorem i32_rest {a b : Int32} (h : 0 ≤ a.toInt) (hb : 0 < b.toInt) : (a - a / b * b).toInt = a.toInt % b.toInt := by
  have e1 := i32_div (a := a) (b := b) (by omega)
  rw [Int.tdiv_eq_ediv_of_nonneg h] at e1
  have e2 := Int.mul_ediv_add_emod a.toInt b.toInt
  have e3 := Int.emod_nonneg a.toInt (b := b.toInt) (by omega)
  have e4 := Int.emod_lt_of_pos a.toInt hb
  have h1 := i32_hi a
  have e5 : (a / b * b).toInt = a.toInt - a.toInt % b.toInt := by
    have e : (a / b).toInt * b.toInt = a.toInt - a.toInt % b.toInt := by rw [e1, Int.mul_comm]; omega
    have h2 : 0 ≤ (a / b).toInt * b.toInt := by rw [e1]; exact Int.mul_nonneg (Int.ediv_nonneg h (by omega)) (by omega)
    rw [i32_mul (by omega) (by omega), e]
  have h2 : 0 ≤ a.toInt - a.toInt % b.toInt := by
    have : 0 ≤ b.toInt * (a.toInt / b.toInt) := Int.mul_nonneg (by omega) (Int.ediv_nonneg h (by omega))
    omega
  rw [i32_sub (by omega) (by omega), e5]
  omega
def Sd (σ : Sg) (N : Nat) (r : Nat → Int32) (f g : Nat → Int64) : Sg := mJ (mJ (mI σ 166 0 N r) 164 0 N f) 165 0 N g
variable {σ : Sg} {N : Nat} {r : Nat → Int32} {f g : Nat → Int64} {k : Nat}
theorem Sd_r (h : k < N) : gI (Sd σ N r f g) 166 k = r k := by
  unfold Sd; simp (disch := omega) only [gI_pI_s, gJ_pJ_s, gD_pD_s, gI_pJ, gI_pD, gJ_pI, gJ_pD, gD_pI, gD_pJ, gI_pI_a, gJ_pJ_a, gD_pD_a, gI_pI_k, gJ_pJ_k, gD_pD_k, gI_mI_i, gJ_mJ_i, gD_mD_i, gI_mJ, gI_mD, gJ_mI, gJ_mD, gD_mI, gD_mJ, gI_mI_a, gJ_mJ_a, gD_mD_a, gI_mI_o, gJ_mJ_o, gD_mD_o]
theorem Sd_f (h : k < N) : gJ (Sd σ N r f g) 164 k = f k := by
  unfold Sd; simp (disch := omega) only [gI_pI_s, gJ_pJ_s, gD_pD_s, gI_pJ, gI_pD, gJ_pI, gJ_pD, gD_pI, gD_pJ, gI_pI_a, gJ_pJ_a, gD_pD_a, gI_pI_k, gJ_pJ_k, gD_pD_k, gI_mI_i, gJ_mJ_i, gD_mD_i, gI_mJ, gI_mD, gJ_mI, gJ_mD, gD_mI, gD_mJ, gI_mI_a, gJ_mJ_a, gD_mD_a, gI_mI_o, gJ_mJ_o, gD_mD_o]
theorem Sd_g (h : k < N) : gJ (Sd σ N r f g) 165 k = g k := by
  unfold Sd; simp (disch := omega) only [gI_pI_s, gJ_pJ_s, gD_pD_s, gI_pJ, gI_pD, gJ_pI, gJ_pD, gD_pI, gD_pJ, gI_pI_a, gJ_pJ_a, gD_pD_a, gI_pI_k, gJ_pJ_k, gD_pD_k, gI_mI_i, gJ_mJ_i, gD_mD_i, gI_mJ, gI_mD, gJ_mI, gJ_mD, gD_mI, gD_mJ, gI_mI_a, gJ_mJ_a, gD_mD_a, gI_mI_o, gJ_mJ_o, gD_mD_o]
theorem Sd_pr {v : Int32} (h : k < N) : pI (Sd σ N r f g) 166 k v = Sd σ N (uI r k v) f g := by
  unfold Sd
  rw [← mJ_pI, ← mJ_pI, mI_uI ⟨by omega, h⟩]
theorem Sd_pf {v : Int64} (h : k < N) : pJ (Sd σ N r f g) 164 k v = Sd σ N r (uJ f k v) g := by
  unfold Sd
  rw [← mJ_pJ (by decide), mJ_uJ ⟨by omega, h⟩]
theorem Sd_pg {v : Int64} (h : k < N) : pJ (Sd σ N r f g) 165 k v = Sd σ N r f (uJ g k v) := by
  unfold Sd
  rw [mJ_uJ ⟨by omega, h⟩]
theorem U64 : (-1099511627776 : Int64).toInt = -1099511627776 := rfl
/-- what the drift's reference is called with -/
def Dq (q N : Nat) (m sg : Int) (v2 v8 v9 : Int32) (v10 : Int64) : Prop := (1 ≤ q ∧ q ≤ 100) ∧ N = 2 * q ∧ v2.toInt = m ∧ 0 ≤ m ∧ m ≤ 5 ∧ v8.toInt = q ∧ v9.toInt = N ∧ v10.toInt = sg ∧ (sg = 1 ∨ sg = -1)
variable {q : Nat} {m sg : Int} {v2 v3 v8 v9 v12 : Int32} {v10 : Int64}
theorem slip64 {j : Int32} (h : Dq q N m sg v2 v8 v9 v10) (h0 : 0 ≤ j.toInt) (h1 : j.toInt < N) : ∃ x, f_X12_times j.toInt64 v8.toInt64 v2 = some x ∧ (v10 * (v8.toInt64 * x - j.toInt64)).toInt = sg * SlQ q m j.toNatClampNeg ∧ -(q : Int) ≤ sg * SlQ q m j.toNatClampNeg ∧ sg * SlQ q m j.toNatClampNeg ≤ q := by
  obtain ⟨⟨a1, a2⟩, a3, a4, a5, a6, a7, a8, a9, a10⟩ := h
  obtain ⟨x, e1, e2⟩ := times_v (n := j.toInt64) (d := v8.toInt64) (m := v2) (by rw [i64_of32]; omega) (by rw [i64_of32]; omega) (by rw [i64_of32]; omega) (by rw [i64_of32]; omega) (by omega)
  rw [i64_of32, i64_of32, a7, a4] at e2
  have nj := nat0 h0
  have sb := SlQ_b (q := q) (m := m) (x := j.toNatClampNeg) (by omega)
  have s2 := sg_b a10 sb.1 sb.2
  have es : SlQ q m j.toNatClampNeg = (q : Int) * x.toInt - j.toInt := by unfold SlQ; rw [nj, ← e2]
  have p1 : (v8.toInt64 * x).toInt = (q : Int) * x.toInt := by
    rw [i64_mul (by rw [i64_of32, a7]; omega) (by rw [i64_of32, a7]; omega), i64_of32, a7]
  have p2 : (v8.toInt64 * x - j.toInt64).toInt = SlQ q m j.toNatClampNeg := by
    rw [i64_sub (by rw [p1, i64_of32]; omega) (by rw [p1, i64_of32]; omega), p1, i64_of32, es]
  refine ⟨x, e1, ?_, s2⟩
  rw [i64_mul (by rw [p2, a9]; omega) (by rw [p2, a9]; omega), p2, a9]
/-- the first loop: nothing reached but the empty sum -/
theorem dr119 : ∀ (d n : Nat) (k : Int32) (σ : Sg) {v4 v7 : Int32}, v9.toInt = N → N ≤ 200 → 0 ≤ k.toInt → k.toInt + d = N → d < n → ∃ w, n ≤ w + d + 1 ∧ d_X12_drift_119 n v2 v3 v4 v7 v8 v9 v10 k σ = d_X12_drift_159 w v2 v3 v4 v7 v8 v9 v10 (mJ (mI σ 166 k.toNatClampNeg N (fun _ => 0)) 164 k.toNatClampNeg N (fun j => if j = 0 then 0 else -1099511627776)) := by
  intro d
  induction d with
  | zero =>
    intro n k σ v4 v7 h9 hN h3 h4 h5
    obtain ⟨n, rfl⟩ : ∃ k, n = k + 1 := ⟨n - 1, by omega⟩
    have := nat0 h3
    refine ⟨n, by omega, ?_⟩
    rw [d_X12_drift_119, if_pos (by rw [i32_le]; omega), mI_nil (by omega), mJ_nil (by omega)]
  | succ d ih =>
    intro n k σ v4 v7 h9 hN h3 h4 h5
    obtain ⟨n, rfl⟩ : ∃ k, n = k + 1 := ⟨n - 1, by omega⟩
    obtain ⟨c1, c2, c3⟩ := cnt1 (v := k) (m := 300) h3 (by omega) (by decide)
    have hk : ix k 200 := ix_of h3 (by omega)
    obtain ⟨w, w1, w2⟩ := ih n (k + 1) (pJ (pI σ 166 k.toNatClampNeg 0) 164 k.toNatClampNeg (if k.toNatClampNeg = 0 then 0 else -1099511627776)) (v4 := v4) (v7 := v7) h9 hN (by omega) (by omega) (by omega)
    refine ⟨w, by omega, ?_⟩
    rw [d_X12_drift_119, if_neg (by rw [i32_le]; omega), ck_t hk, nm_t]
    unfold d_X12_drift_152
    simp only [ck_t hk, nm_t]
    have e : ∀ X : Option (Int32 × Sg), ∀ A B : Option (Int32 × Sg), A = X → B = X → (if k = 0 then A else B) = X := fun X A B h1 h2 => by split <;> assumption
    by_cases q : k = 0
    · rw [if_pos q]
      rw [if_pos (show k.toNatClampNeg = 0 by rw [q]; rfl)] at w2
      rw [w2, c2]
      rw [show mI (pJ (pI σ 166 k.toNatClampNeg 0) 164 k.toNatClampNeg 0) 166 (k.toNatClampNeg + 1) N (fun _ => 0) = pJ (mI (pI σ 166 k.toNatClampNeg 0) 166 (k.toNatClampNeg + 1) N (fun _ => 0)) 164 k.toNatClampNeg 0 from rfl, mI_step (f := fun _ => 0) (v := 0) (by omega) rfl, mJ_step (f := fun j => if j = 0 then 0 else -1099511627776) (by omega) (by rw [q]; rfl)]
    · have q' : ¬ k.toNatClampNeg = 0 := by intro e; apply q; rw [i32_eq, show (0 : Int32).toInt = 0 from rfl]; omega
      rw [if_neg q]
      rw [if_neg q'] at w2
      rw [w2, c2]
      rw [show mI (pJ (pI σ 166 k.toNatClampNeg 0) 164 k.toNatClampNeg (-1099511627776)) 166 (k.toNatClampNeg + 1) N (fun _ => 0) = pJ (mI (pI σ 166 k.toNatClampNeg 0) 166 (k.toNatClampNeg + 1) N (fun _ => 0)) 164 k.toNatClampNeg (-1099511627776) from rfl, mI_step (f := fun _ => 0) (v := 0) (by omega) rfl, mJ_step (f := fun j => if j = 0 then 0 else -1099511627776) (by omega) (if_neg q')]
/-- the second: which places one line reaches -/
theorem dr162 {p M : Nat} {v4 v7 : Int32} : ∀ (d n : Nat) (a : Int32) (r : Nat → Int32), v9.toInt = N → 0 < N → N ≤ 200 → v7.toInt = p → p ≤ 10000 → v4.toInt = M → M ≤ 1000 → (∀ j, j < N → (r j ≠ 0 ↔ ∃ b, b < a.toNatClampNeg ∧ b * p % N = j)) → 0 ≤ a.toInt → a.toInt + d = M + 1 → d < n →
    ∃ w r', n ≤ w + d + 1 ∧ d_X12_drift_162 n v2 v3 v4 v7 v8 v9 v10 a (Sd σ N r f g) = d_X12_drift_193 w v2 v3 v8 v9 v10 (Sd σ N r' f g) ∧ ∀ j, j < N → (r' j ≠ 0 ↔ ∃ b, b ≤ M ∧ b * p % N = j) := by
  intro d
  induction d with
  | zero =>
    intro n a r h9 hN0 hN h7 hp h4 hM hr h3 h5 h6
    obtain ⟨n, rfl⟩ : ∃ k, n = k + 1 := ⟨n - 1, by omega⟩
    have na := nat0 h3
    refine ⟨n, r, by omega, by rw [d_X12_drift_162, if_pos (by rw [i32_lt]; omega)], fun j hj => ?_⟩
    rw [hr j hj]
    constructor
    · rintro ⟨b, b1, b2⟩; exact ⟨b, by omega, b2⟩
    · rintro ⟨b, b1, b2⟩; exact ⟨b, by omega, b2⟩
  | succ d ih =>
    intro n a r h9 hN0 hN h7 hp h4 hM hr h3 h5 h6
    obtain ⟨n, rfl⟩ : ∃ k, n = k + 1 := ⟨n - 1, by omega⟩
    obtain ⟨c1, c2, c3⟩ := cnt1 (v := a) (m := 3000) h3 (by omega) (by decide)
    have ap : 0 ≤ (a.toNatClampNeg * p : Nat) := Nat.zero_le _
    have ap2 : a.toNatClampNeg * p ≤ 1000 * 10000 := Nat.mul_le_mul (by omega) hp
    have e1 : (a.toInt64 * v7.toInt64).toInt = ((a.toNatClampNeg * p : Nat) : Int) := by
      rw [i64_mul (by rw [i64_of32, i64_of32, h7, ← c3, ← Int.natCast_mul]; omega) (by rw [i64_of32, i64_of32, h7, ← c3, ← Int.natCast_mul]; omega), i64_of32, i64_of32, h7, ← c3, Int.natCast_mul]
    obtain ⟨Q, R, -, -, d3, d4, -⟩ := dm_v (n := a.toInt64 * v7.toInt64) (d := v9.toInt64) (by rw [i64_of32]; omega) (by rw [e1]; omega)
    rw [e1, i64_of32, h9, Int.tmod_eq_emod_of_nonneg (by omega)] at d4
    have d5 : R = ((a.toNatClampNeg * p % N : Nat) : Int) := by rw [d4]; rfl
    have d6 := Nat.mod_lt (a.toNatClampNeg * p) hN0
    have d7 : ((a.toInt64 * v7.toInt64 - a.toInt64 * v7.toInt64 / v9.toInt64 * v9.toInt64).toInt32).toInt = ((a.toNatClampNeg * p % N : Nat) : Int) := by
      rw [Jvm.FP.Core.int64_toInt32 (by rw [d3, d5]; omega) (by rw [d3, d5]; omega), d3, d5]
    have d8 : ((a.toInt64 * v7.toInt64 - a.toInt64 * v7.toInt64 / v9.toInt64 * v9.toInt64).toInt32).toNatClampNeg = a.toNatClampNeg * p % N := by
      rw [i32_nat, d7]; omega
    have hr' : ∀ j, j < N → (uI r (a.toNatClampNeg * p % N) 1 j ≠ 0 ↔ ∃ b, b < (a + 1).toNatClampNeg ∧ b * p % N = j) := by
      intro j hj
      by_cases q : j = a.toNatClampNeg * p % N
      · rw [q, uI_s]
        exact ⟨fun _ => ⟨a.toNatClampNeg, by omega, rfl⟩, fun _ => by decide⟩
      · rw [uI_o q, hr j hj]
        constructor
        · rintro ⟨b, b1, b2⟩; exact ⟨b, by omega, b2⟩
        · rintro ⟨b, b1, b2⟩
          refine ⟨b, ?_, b2⟩
          by_cases q2 : b = a.toNatClampNeg
          · rw [q2] at b2; exact absurd b2.symm q
          · omega
    obtain ⟨w, r', w1, w2, w3⟩ := ih n (a + 1) (uI r (a.toNatClampNeg * p % N) 1) h9 hN0 hN h7 hp h4 hM hr' (by omega) (by omega) (by omega)
    refine ⟨w, r', by omega, ?_, w3⟩
    rw [d_X12_drift_162, if_neg (by rw [i32_lt]; omega), ck_t (show ¬ v9.toInt64 = 0 by rw [i64_eq, i64_of32]; show ¬ _ = (0 : Int); omega), ck_t (show ix _ 200 from ix_of (by rw [d7]; omega) (by rw [d7]; omega)), nm_t, nm_t, d8, Sd_pr d6, w2]
end DRR
