section DRS
variable {σ : Sg} {N : Nat} {r : Nat → Int32} {f g : Nat → Int64} {q : Nat} {m sg : Int} {v2 v3 v8 v9 v12 : Int32} {v10 : Int64}
theorem dr205 {K : Int32 → Sg → Option (Int32 × Sg)} : ∀ (d n : Nat) (k : Int32) (g : Nat → Int64), v9.toInt = N → N ≤ 200 → (∀ j, j < k.toNatClampNeg → (g j).toInt = (-1099511627776 : Int)) → 0 ≤ k.toInt → k.toInt + d = N → d < n →
    ∃ w g', n ≤ w + d + 1 ∧ d_X12_drift_205 K n v2 v3 v8 v9 v10 v12 k (Sd σ N r f g) = d_X12_drift_228 K w v2 v3 v8 v9 v10 v12 (Sd σ N r f g') ∧ ∀ j, j < N → (g' j).toInt = (-1099511627776 : Int) := by
  intro d
  induction d with
  | zero =>
    intro n k g h9 hN hg h3 h4 h5
    obtain ⟨n, rfl⟩ : ∃ k, n = k + 1 := ⟨n - 1, by omega⟩
    have := nat0 h3
    exact ⟨n, g, by omega, by rw [d_X12_drift_205, if_pos (by rw [i32_le]; omega)], fun j hj => hg j (by omega)⟩
  | succ d ih =>
    intro n k g h9 hN hg h3 h4 h5
    obtain ⟨n, rfl⟩ : ∃ k, n = k + 1 := ⟨n - 1, by omega⟩
    obtain ⟨c1, c2, c3⟩ := cnt1 (v := k) (m := 300) h3 (by omega) (by decide)
    obtain ⟨w, g', w1, w2, w3⟩ := ih n (k + 1) (uJ g k.toNatClampNeg (-1099511627776)) h9 hN (fun j hj => by
      by_cases q : j = k.toNatClampNeg
      · rw [q, uJ_s]; rfl
      · rw [uJ_o q]; exact hg j (by omega)) (by omega) (by omega) (by omega)
    refine ⟨w, g', by omega, ?_, w3⟩
    rw [d_X12_drift_205, if_neg (by rw [i32_le]; omega), ck_t (show ix k 200 from ix_of h3 (by omega)), nm_t, nm_t, Sd_pg (by omega), w2]
theorem uJ_id {k : Nat} : uJ g k (g k) = g := by
  funext j
  by_cases h : j = k
  · rw [h, uJ_s]
  · rw [uJ_o h]
/-- one line more, from the place i -/
theorem dr241 {K1 K2 : Int32 → Sg → Option (Int32 × Sg)} {i : Int32} (hD : Dq q N m sg v2 v8 v9 v10) (hi0 : 0 ≤ i.toInt) (hi1 : i.toInt < N) (hF : (f i.toNatClampNeg).toInt ≠ (-1099511627776 : Int)) (hF2 : -5000 ≤ (f i.toNatClampNeg).toInt ∧ (f i.toNatClampNeg).toInt ≤ 5000) : ∀ (d n : Nat) (j : Int32) (g : Nat → Int64), Jp N (-1099511627776 : Int) (fun c => (f c).toInt) (fun b => if r b = 0 then (-1099511627776 : Int) else sg * SlQ q m b) (fun c => (g c).toInt) i.toNatClampNeg j.toNatClampNeg → 0 ≤ j.toInt → j.toInt + d = N → d < n →
    ∃ g', d_X12_drift_241 K1 K2 n v2 v3 v8 v9 v10 v12 i j (Sd σ N r f g) = K2 (i + 1) (Sd σ N r f g') ∧ Jp N (-1099511627776 : Int) (fun c => (f c).toInt) (fun b => if r b = 0 then (-1099511627776 : Int) else sg * SlQ q m b) (fun c => (g' c).toInt) (i.toNatClampNeg + 1) 0 := by
  intro d
  have hD' := hD
  obtain ⟨⟨a1, a2⟩, a3, a4, a5, a6, a7, a8, a9, a10⟩ := hD'
  have ni := nat0 hi0
  induction d with
  | zero =>
    intro n j g hJ h3 h4 h5
    obtain ⟨n, rfl⟩ : ∃ k, n = k + 1 := ⟨n - 1, by omega⟩
    have nj := nat0 h3
    refine ⟨g, ?_, Jp_row hJ (by omega)⟩
    rw [d_X12_drift_241, if_pos (by rw [i32_le]; omega), d_X12_drift_351, nm_t]
  | succ d ih =>
    intro n j g hJ h3 h4 h5
    obtain ⟨n, rfl⟩ : ∃ k, n = k + 1 := ⟨n - 1, by omega⟩
    obtain ⟨c1, c2, c3⟩ := cnt1 (v := j) (m := 300) h3 (by omega) (by decide)
    obtain ⟨x, e1, e2, e3, e4⟩ := slip64 (j := j) hD h3 (by omega)
    have hi : ix i 200 := ix_of hi0 (by omega)
    have hj : ix j 200 := ix_of h3 (by omega)
    have s1 : (i + j).toInt = i.toInt + j.toInt := i32_add (by omega) (by omega)
    have s2 : ((i + j) - (i + j) / v9 * v9).toInt = (((i.toNatClampNeg + j.toNatClampNeg) % N : Nat) : Int) := by
      rw [i32_rest (by omega) (by omega), s1, a8, ← ni, ← c3]; rfl
    have s3 := Nat.mod_lt (i.toNatClampNeg + j.toNatClampNeg) (show 0 < N by omega)
    have s4 : ((i + j) - (i + j) / v9 * v9).toNatClampNeg = (i.toNatClampNeg + j.toNatClampNeg) % N := by rw [i32_nat, s2]; omega
    have s5 : ix ((i + j) - (i + j) / v9 * v9) 200 := ix_of (by rw [s2]; omega) (by rw [s2]; omega)
    have t1 : (f i.toNatClampNeg + v10 * (v8.toInt64 * x - j.toInt64)).toInt = (f i.toNatClampNeg).toInt + sg * SlQ q m j.toNatClampNeg := by
      rw [i64_add (by rw [e2]; omega) (by rw [e2]; omega), e2]
    have nz : ¬ v9 = 0 := by rw [i32_eq]; show ¬ _ = (0 : Int); omega
    have fu : ¬ f i.toNatClampNeg ≤ -1099511627776 := by rw [i64_le, U64]; omega
    rw [d_X12_drift_241, if_neg (by rw [i32_le]; omega), ck_t hi, Sd_f (by omega), if_neg fu, ck_t hi, e1, bp_s, nm_t, ck_t nz, nm_t, ck_t hj, Sd_r (by omega)]
    unfold d_X12_drift_337 d_X12_drift_344
    simp only [ck_t s5, nm_t]
    rw [s4, Sd_g s3, Sd_pg s3, Sd_pg s3, uJ_id]
    by_cases q1 : r j.toNatClampNeg = 0
    · rw [if_pos q1]
      obtain ⟨g', z1, z2⟩ := ih n (j + 1) g (by rw [c2]; exact Jp_skip hJ (if_pos q1)) (by omega) (by omega) (by omega)
      exact ⟨g', z1, z2⟩
    · rw [if_neg q1]
      by_cases q2 : (f i.toNatClampNeg).toInt + sg * SlQ q m j.toNatClampNeg ≤ (g ((i.toNatClampNeg + j.toNatClampNeg) % N)).toInt
      · rw [if_pos (by rw [i64_le, t1]; exact q2)]
        obtain ⟨g', z1, z2⟩ := ih n (j + 1) g (by rw [c2]; exact Jp_keep hJ (by rw [if_neg q1]; omega) (by rw [if_neg q1]; exact q2)) (by omega) (by omega) (by omega)
        exact ⟨g', z1, z2⟩
      · rw [if_neg (by rw [i64_le, t1]; exact q2)]
        have hJ2 := Jp_put hJ (by omega) (by omega) hF (by rw [if_neg q1]; omega) (by rw [if_neg q1]; omega) (by rw [if_neg q1]; exact q2)
        obtain ⟨g', z1, z2⟩ := ih n (j + 1) (uJ g ((i.toNatClampNeg + j.toNatClampNeg) % N) (f i.toNatClampNeg + v10 * (v8.toInt64 * x - j.toInt64))) (by
          rw [c2]
          refine Jp_cong hJ2 (by omega) (fun c hc => ?_)
          by_cases q3 : c = (i.toNatClampNeg + j.toNatClampNeg) % N
          · rw [q3, uJ_s, t1]; unfold updZ; rw [if_pos rfl, if_neg q1]
          · rw [uJ_o q3]; unfold updZ; rw [if_neg q3]) (by omega) (by omega) (by omega)
        exact ⟨g', z1, z2⟩
theorem dr231 {K : Int32 → Sg → Option (Int32 × Sg)} (hD : Dq q N m sg v2 v8 v9 v10) (hF : ∀ c, c < N → (f c).toInt ≠ (-1099511627776 : Int) → -5000 ≤ (f c).toInt ∧ (f c).toInt ≤ 5000) : ∀ (d n : Nat) (i : Int32) (g : Nat → Int64), Jp N (-1099511627776 : Int) (fun c => (f c).toInt) (fun b => if r b = 0 then (-1099511627776 : Int) else sg * SlQ q m b) (fun c => (g c).toInt) i.toNatClampNeg 0 → 0 ≤ i.toInt → i.toInt + d = N → d + 210 < n →
    ∃ w g', n ≤ w + d + 1 ∧ d_X12_drift_231 K n v2 v3 v8 v9 v10 v12 i (Sd σ N r f g) = d_X12_drift_357 K w v2 v3 v8 v9 v10 v12 (Sd σ N r f g') ∧ Jp N (-1099511627776 : Int) (fun c => (f c).toInt) (fun b => if r b = 0 then (-1099511627776 : Int) else sg * SlQ q m b) (fun c => (g' c).toInt) N 0 := by
  intro d
  have hD' := hD
  obtain ⟨⟨a1, a2⟩, a3, a4, a5, a6, a7, a8, a9, a10⟩ := hD'
  induction d with
  | zero =>
    intro n i g hJ h3 h4 h5
    obtain ⟨n, rfl⟩ : ∃ k, n = k + 1 := ⟨n - 1, by omega⟩
    have ni := nat0 h3
    refine ⟨n, g, by omega, by rw [d_X12_drift_231, if_pos (by rw [i32_le]; omega)], ?_⟩
    rw [show i.toNatClampNeg = N by omega] at hJ
    exact hJ
  | succ d ih =>
    intro n i g hJ h3 h4 h5
    obtain ⟨n, rfl⟩ : ∃ k, n = k + 1 := ⟨n - 1, by omega⟩
    obtain ⟨c1, c2, c3⟩ := cnt1 (v := i) (m := 300) h3 (by omega) (by decide)
    rw [d_X12_drift_231, if_neg (by rw [i32_le]; omega)]
    have z0 : (0 : Int32).toNatClampNeg = 0 := rfl
    by_cases q : (f i.toNatClampNeg).toInt = (-1099511627776 : Int)
    · obtain ⟨w, g', w1, w2, w3⟩ := ih n (i + 1) g (by rw [c2]; exact Jp_none hJ q) (by omega) (by omega) (by omega)
      refine ⟨w, g', by omega, ?_, w3⟩
      obtain ⟨n, rfl⟩ : ∃ k, n = k + 1 := ⟨n - 1, by omega⟩
      rw [d_X12_drift_241, if_neg (by rw [i32_le]; show ¬ _ ≤ (0 : Int); omega), ck_t (show ix i 200 from ix_of h3 (by omega)), Sd_f (by omega), if_pos (by rw [i64_le, U64]; omega), d_X12_drift_351, nm_t, w2]
    · obtain ⟨g1, e1, e2⟩ := dr241 (σ := σ) (K1 := K) (K2 := fun c13 τ => d_X12_drift_231 K n v2 v3 v8 v9 v10 v12 c13 τ) (v3 := v3) (v12 := v12) (i := i) hD h3 (by omega) q (hF _ (by omega) q) N n 0 g (by rw [z0]; exact hJ) (by decide) (by simp only [Int32.reduceToInt]; omega) (by omega)
      obtain ⟨w, g', w1, w2, w3⟩ := ih n (i + 1) g1 (by rw [c2]; exact e2) (by omega) (by omega) (by omega)
      exact ⟨w, g', by omega, by rw [e1, w2], w3⟩
theorem dr360 {K : Int32 → Sg → Option (Int32 × Sg)} : ∀ (d n : Nat) (k : Int32) (f : Nat → Int64), v9.toInt = N → N ≤ 200 → (∀ j, j < k.toNatClampNeg → f j = g j) → 0 ≤ k.toInt → k.toInt + d = N → d < n →
    ∃ f', d_X12_drift_360 K n v2 v3 v8 v9 v10 v12 k (Sd σ N r f g) = K (v12 + 1) (Sd σ N r f' g) ∧ ∀ j, j < N → f' j = g j := by
  intro d
  induction d with
  | zero =>
    intro n k f h9 hN hf h3 h4 h5
    obtain ⟨n, rfl⟩ : ∃ k, n = k + 1 := ⟨n - 1, by omega⟩
    have := nat0 h3
    exact ⟨f, by rw [d_X12_drift_360, if_pos (by rw [i32_le]; omega), d_X12_drift_387, nm_t], fun j hj => hf j (by omega)⟩
  | succ d ih =>
    intro n k f h9 hN hf h3 h4 h5
    obtain ⟨n, rfl⟩ : ∃ k, n = k + 1 := ⟨n - 1, by omega⟩
    obtain ⟨c1, c2, c3⟩ := cnt1 (v := k) (m := 300) h3 (by omega) (by decide)
    have hk : ix k 200 := ix_of h3 (by omega)
    obtain ⟨f', w2, w3⟩ := ih n (k + 1) (uJ f k.toNatClampNeg (g k.toNatClampNeg)) h9 hN (fun j hj => by
      by_cases q : j = k.toNatClampNeg
      · rw [q, uJ_s]
      · rw [uJ_o q]; exact hf j (by omega)) (by omega) (by omega) (by omega)
    refine ⟨f', ?_, w3⟩
    rw [d_X12_drift_360, if_neg (by rw [i32_le]; omega), ck_t hk, ck_t hk, nm_t, nm_t, Sd_g (by omega), Sd_pf (by omega), w2]
theorem dr196 {p M L : Nat} (hD : Dq q N m sg v2 v8 v9 v10) (hr : ∀ j, j < N → (r j ≠ 0 ↔ ∃ b, b ≤ M ∧ b * p % N = j)) (hL : v3.toInt = L) (hL2 : L ≤ 12) : ∀ (d n : Nat) (t : Int32) (f g : Nat → Int64), Tb q p M m sg (fun s => s * p % N) N t.toNatClampNeg (-1099511627776 : Int) (fun c => (f c).toInt) → 0 ≤ t.toInt → t.toInt + d = L → d + 700 < n →
    ∃ w f' g', n ≤ w + d + 1 ∧ d_X12_drift_196 n v2 v3 v8 v9 v10 t (Sd σ N r f g) = d_X12_drift_393 w v2 v8 v9 v10 (Sd σ N r f' g') ∧ Tb q p M m sg (fun s => s * p % N) N L (-1099511627776 : Int) (fun c => (f' c).toInt) := by
  intro d
  have hD' := hD
  obtain ⟨⟨a1, a2⟩, a3, a4, a5, a6, a7, a8, a9, a10⟩ := hD'
  have per : Per q m N := ⟨by omega, Or.inr a3⟩
  have tH : Tb q p M m sg (fun s => s * p % N) N 1 (-1099511627776 : Int) (fun b => if r b = 0 then (-1099511627776 : Int) else sg * SlQ q m b) := by
    have one : ∀ a : Nat, ls q p m sg [a] = sg * SlQ q m (a * p) := fun a => by show sg * SlQ q m (a * p) + 0 = _; omega
    refine ⟨fun c hc h => ?_, fun l hl => ?_⟩
    · by_cases q1 : r c = 0
      · simp only at h; rw [if_pos q1] at h; exact absurd rfl h
      · obtain ⟨b, b1, b2⟩ := (hr c hc).mp q1
        refine ⟨[b], ⟨rfl, fun a ha => by rw [List.mem_singleton.mp ha]; exact b1⟩, ?_, ?_⟩
        · show (b + 0) * p % N = c
          rw [Nat.add_zero]; exact b2
        · simp only
          rw [if_neg q1, one, ← b2, SlQ_mod per]
    · obtain ⟨b, rfl⟩ : ∃ b, l = [b] := List.length_eq_one_iff.mp hl.1
      have hb : b ≤ M := hl.2 b (List.mem_singleton.mpr rfl)
      have hs : [b].sum * p % N = b * p % N := by show (b + 0) * p % N = _; rw [Nat.add_zero]
      have hlt := Nat.mod_lt (b * p) (show 0 < N by omega)
      have hrb : r (b * p % N) ≠ 0 := (hr _ hlt).mpr ⟨b, hb, rfl⟩
      have sb := SlQ_b (q := q) (m := m) (x := b * p % N) (by omega)
      have s2 := sg_b a10 sb.1 sb.2
      simp only
      rw [hs, if_neg hrb, one, SlQ_mod per]
      rw [SlQ_mod per] at s2
      exact ⟨hlt, by omega, by omega⟩
  induction d with
  | zero =>
    intro n t f g hT h3 h4 h5
    obtain ⟨n, rfl⟩ : ∃ k, n = k + 1 := ⟨n - 1, by omega⟩
    have nt := nat0 h3
    refine ⟨n, f, g, by omega, by rw [d_X12_drift_196, if_pos (by rw [i32_le]; omega)], ?_⟩
    rw [show t.toNatClampNeg = L by omega] at hT
    exact hT
  | succ d ih =>
    intro n t f g hT h3 h4 h5
    obtain ⟨n, rfl⟩ : ∃ k, n = k + 1 := ⟨n - 1, by omega⟩
    obtain ⟨c1, c2, c3⟩ := cnt1 (v := t) (m := 300) h3 (by omega) (by decide)
    have z0 : (0 : Int32).toNatClampNeg = 0 := rfl
    have qt : q * t.toNatClampNeg ≤ 100 * 12 := Nat.mul_le_mul a2 (by omega)
    have hF : ∀ c, c < N → (f c).toInt ≠ (-1099511627776 : Int) → -5000 ≤ (f c).toInt ∧ (f c).toInt ≤ 5000 := by
      intro c hc hf
      have := Tb_b hT (by omega) a10 hc hf
      omega
    obtain ⟨w1, g1, x1, x2, x3⟩ := dr205 (σ := σ) (r := r) (f := f) (v2 := v2) (v3 := v3) (v8 := v8) (v10 := v10) (v12 := t) (K := fun c12 τ => d_X12_drift_196 n v2 v3 v8 v9 v10 c12 τ) N n 0 g a8 (by omega) (fun j hj => by rw [z0] at hj; omega) (by decide) (by simp only [Int32.reduceToInt]; omega) (by omega)
    obtain ⟨w2, g2, y1, y2, y3⟩ := dr231 (σ := σ) (r := r) (f := f) (v3 := v3) (v12 := t) (K := fun c12 τ => d_X12_drift_196 n v2 v3 v8 v9 v10 c12 τ) hD hF N w1 0 g1 (by rw [z0]; exact Jp_start x3) (by decide) (by simp only [Int32.reduceToInt]; omega) (by omega)
    obtain ⟨f2, u2, u3⟩ := dr360 (σ := σ) (r := r) (g := g2) (v2 := v2) (v3 := v3) (v8 := v8) (v10 := v10) (v12 := t) (K := fun c12 τ => d_X12_drift_196 n v2 v3 v8 v9 v10 c12 τ) N w2 0 f a8 (by omega) (fun j hj => by rw [z0] at hj; omega) (by decide) (by simp only [Int32.reduceToInt]; omega) (by omega)
    have hT2 : Tb q p M m sg (fun s => s * p % N) N (t.toNatClampNeg + 1) (-1099511627776 : Int) (fun c => (f2 c).toInt) := by
      refine Tb_cong (Jp_Tb (fun s s' => ?_) hT tH y3) (fun c hc => by rw [u3 c hc])
      show (s + s') * p % N = (s * p % N + s' * p % N) % N
      rw [Nat.add_mul, Nat.add_mod]
    obtain ⟨w, f', g', v1, v2', v3'⟩ := ih n (t + 1) f2 g2 (by rw [c2]; exact hT2) (by omega) (by omega) (by omega)
    refine ⟨w, f', g', by omega, ?_, v3'⟩
    rw [d_X12_drift_196, if_neg (by rw [i32_le]; omega), x2, d_X12_drift_228, y2, d_X12_drift_357, u2, v2']
/-- the last loop -/
theorem dr401 (hD : Dq q N m sg v2 v8 v9 v10) (hF : ∀ c, c < N → (f c).toInt ≠ (-1099511627776 : Int) → -5000 ≤ (f c).toInt ∧ (f c).toInt ≤ 5000) : ∀ (d n : Nat) (k : Int32) (x : Int64), Gp (-1099511627776 : Int) (fun c => (f c).toInt) (fun c => sg * SlQ q m c) k.toNatClampNeg x.toInt → 0 ≤ k.toInt → k.toInt + d = N → d < n →
    ∃ w x', 0 ≤ w ∧ d_X12_drift_401 n v2 v8 v9 v10 x k (Sd σ N r f g) = d_X12_drift_476 w v8 v10 x' (Sd σ N r f g) ∧ Gp (-1099511627776 : Int) (fun c => (f c).toInt) (fun c => sg * SlQ q m c) N x'.toInt := by
  intro d
  have hD' := hD
  obtain ⟨⟨a1, a2⟩, a3, a4, a5, a6, a7, a8, a9, a10⟩ := hD'
  induction d with
  | zero =>
    intro n k x hG h3 h4 h5
    obtain ⟨n, rfl⟩ : ∃ k, n = k + 1 := ⟨n - 1, by omega⟩
    have nk := nat0 h3
    refine ⟨n, x, by omega, by rw [d_X12_drift_401, if_pos (by rw [i32_le]; omega)], ?_⟩
    rw [show k.toNatClampNeg = N by omega] at hG
    exact hG
  | succ d ih =>
    intro n k x hG h3 h4 h5
    obtain ⟨n, rfl⟩ : ∃ k, n = k + 1 := ⟨n - 1, by omega⟩
    obtain ⟨c1, c2, c3⟩ := cnt1 (v := k) (m := 300) h3 (by omega) (by decide)
    have hk : ix k 200 := ix_of h3 (by omega)
    obtain ⟨y, e1, e2, e3, e4⟩ := slip64 (j := k) hD h3 (by omega)
    rw [d_X12_drift_401, if_neg (by rw [i32_le]; omega), ck_t hk, e1, bp_s, nm_t, ck_t hk, Sd_f (by omega)]
    unfold d_X12_drift_466 d_X12_drift_468
    simp only [nm_t]
    by_cases q1 : (f k.toNatClampNeg).toInt = (-1099511627776 : Int)
    · rw [if_pos (by rw [i64_le, U64]; omega)]
      exact ih n (k + 1) x (by rw [c2]; exact Gp_skip hG q1) (by omega) (by omega) (by omega)
    · have fb := hF _ (by omega) q1
      rw [if_neg (by rw [i64_le, U64]; omega)]
      have t1 : (f k.toNatClampNeg - v10 * (v8.toInt64 * y - k.toInt64)).toInt = (f k.toNatClampNeg).toInt - sg * SlQ q m k.toNatClampNeg := by
        rw [i64_sub (by rw [e2]; omega) (by rw [e2]; omega), e2]
      by_cases q2 : (f k.toNatClampNeg).toInt - sg * SlQ q m k.toNatClampNeg ≤ x.toInt
      · rw [if_pos (by rw [i64_le, t1]; exact q2)]
        exact ih n (k + 1) x (by rw [c2]; exact Gp_keep hG q2) (by omega) (by omega) (by omega)
      · rw [if_neg (by rw [i64_le, t1]; exact q2)]
        refine ih n (k + 1) _ ?_ (by omega) (by omega) (by omega)
        rw [c2, t1]
        exact Gp_put hG q1 (by omega)
theorem Gr_b {q p M n : Nat} {m sg g : Int} (h : Gr q p M n m sg g) (hq : 0 < q) (hs : sg = 1 ∨ sg = -1) : -((q * n + q : Nat) : Int) ≤ g ∧ g ≤ ((q * n + q : Nat) : Int) := by
  obtain ⟨⟨l, a1, a2⟩, -⟩ := h
  have b := ls_b (p := p) (m := m) (l := l) hq hs
  rw [a1.1] at b
  have c := SlQ_b (q := q) (m := m) (x := l.sum * p) hq
  have d := sg_b hs c.1 c.2
  omega
theorem Gr_lo {q p M n : Nat} {m sg : Int} {l : List Nat} (hq : 0 < q) (hs : sg = 1 ∨ sg = -1) (hl : Ln M n l) : -((q * n + q : Nat) : Int) ≤ ls q p m sg l - sg * SlQ q m (l.sum * p) := by
  have b := ls_b (p := p) (m := m) (l := l) hq hs
  rw [hl.1] at b
  have c := SlQ_b (q := q) (m := m) (x := l.sum * p) hq
  have d := sg_b hs c.1 c.2
  omega
/-- the reference's answer -/
theorem drift_ref {n p M L : Nat} {v4 v7 : Int32} (hn : 3000 ≤ n) (hD : Dq q N m sg v2 v8 v9 v10) (h7 : v7.toInt = p) (hp : p ≤ 10000) (h4 : v4.toInt = M) (hM : M ≤ 1000) (h3 : v3.toInt = L) (hL : L ≤ 12) :
    ∃ x R r' f' g', d_X12_drift_114 n v2 v3 v4 v7 v8 v9 v10 σ = some (R, Sd σ N r' f' g') ∧ Gr q p M L m sg x ∧ R.toInt = (sg * x).tdiv q := by
  have hD' := hD
  obtain ⟨⟨a1, a2⟩, a3, a4, a5, a6, a7, a8, a9, a10⟩ := hD'
  have z0 : (0 : Int32).toNatClampNeg = 0 := rfl
  have per : Per q m N := ⟨by omega, Or.inr a3⟩
  obtain ⟨w1, x1, x2⟩ := dr119 (v2 := v2) (v3 := v3) (v8 := v8) (v9 := v9) (v10 := v10) (v4 := v4) (v7 := v7) N n 0 σ a8 (by omega) (by decide) (by simp only [Int32.reduceToInt]; omega) (by omega)
  rw [z0] at x2
  have e0 : mJ (mI σ 166 0 N (fun _ => 0)) 164 0 N (fun j => if j = 0 then 0 else -1099511627776) = Sd σ N (fun _ => 0) (fun j => if j = 0 then 0 else -1099511627776) (gJ σ 165) := by
    unfold Sd
    exact (mJ_idt (fun j _ _ => by simp (disch := omega) only [gI_pI_s, gJ_pJ_s, gD_pD_s, gI_pJ, gI_pD, gJ_pI, gJ_pD, gD_pI, gD_pJ, gI_pI_a, gJ_pJ_a, gD_pD_a, gI_pI_k, gJ_pJ_k, gD_pD_k, gI_mI_i, gJ_mJ_i, gD_mD_i, gI_mJ, gI_mD, gJ_mI, gJ_mD, gD_mI, gD_mJ, gI_mI_a, gJ_mJ_a, gD_mD_a, gI_mI_o, gJ_mJ_o, gD_mD_o])).symm
  rw [e0] at x2
  obtain ⟨w2, r', y1, y2, y3⟩ := dr162 (σ := σ) (f := fun j => if j = 0 then 0 else -1099511627776) (g := gJ σ 165) (v2 := v2) (v3 := v3) (v8 := v8) (v10 := v10) (M + 1) w1 0 (fun _ => 0) a8 (by omega) (by omega) h7 hp h4 hM (fun j hj => by
    rw [z0]
    constructor
    · intro h; exact absurd rfl h
    · rintro ⟨b, b1, -⟩; omega) (by decide) (by simp only [Int32.reduceToInt]; omega) (by omega)
  have t0 : Tb q p M m sg (fun s => s * p % N) N 0 (-1099511627776 : Int) (fun c => ((if c = 0 then 0 else -1099511627776 : Int64)).toInt) := by
    refine ⟨fun c hc h => ?_, fun l hl => ?_⟩
    · by_cases c0 : c = 0
      · refine ⟨[], ⟨rfl, fun a ha => absurd ha (List.not_mem_nil)⟩, ?_, ?_⟩
        · show 0 * p % N = c
          rw [Nat.zero_mul, Nat.zero_mod, c0]
        · show (if c = 0 then (0 : Int64) else -1099511627776).toInt = 0
          rw [if_pos c0]; rfl
      · exact absurd (show (if c = 0 then (0 : Int64) else -1099511627776).toInt = -1099511627776 by rw [if_neg c0]; rfl) h
    · have : l = [] := List.length_eq_zero_iff.mp hl.1
      subst this
      have : ([] : List Nat).sum * p % N = 0 := by show 0 * p % N = 0; rw [Nat.zero_mul, Nat.zero_mod]
      have e1 : (fun s => s * p % N) ([] : List Nat).sum = 0 := this
      rw [e1]
      exact ⟨by omega, by decide, Int.le_refl 0⟩
  obtain ⟨w3, f', g', u1, u2, u3⟩ := dr196 (σ := σ) (r := r') hD y3 h3 hL L w2 0 (fun j => if j = 0 then 0 else -1099511627776) (gJ σ 165) (by rw [z0]; exact t0) (by decide) (by simp only [Int32.reduceToInt]; omega) (by omega)
  have qL : q * L ≤ 100 * 12 := Nat.mul_le_mul a2 hL
  have hF : ∀ c, c < N → (f' c).toInt ≠ (-1099511627776 : Int) → -5000 ≤ (f' c).toInt ∧ (f' c).toInt ≤ 5000 := by
    intro c hc hf
    have := Tb_b u3 (by omega) a10 hc hf
    omega
  obtain ⟨w4, x, -, s2, s3⟩ := dr401 (σ := σ) (r := r') (f := f') (g := g') hD hF N w3 0 (-1099511627776) (by rw [z0]; exact Gp_start) (by decide) (by simp only [Int32.reduceToInt]; omega) (by omega)
  have gr : Gr q p M L m sg x.toInt := Gp_Gr (κ := fun s => s * p % N) (fun s => by rw [SlQ_mod per]) u3 (fun l hl => by have := Gr_lo (q := q) (n := L) (sg := sg) (l := l) (p := p) (m := m) (show 0 < q by omega) a10 hl; omega) s3
  have gb := Gr_b gr (by omega) a10
  have vx : (v10 * x).toInt = sg * x.toInt := by
    have := sg_b (s := x.toInt) (q := ((q * L + q : Nat) : Int)) a10 gb.1 gb.2
    rw [i64_mul (by rw [a9]; omega) (by rw [a9]; omega), a9]
  have sb := sg_b (s := x.toInt) (q := ((q * L + q : Nat) : Int)) a10 gb.1 gb.2
  have vd : (v10 * x / v8.toInt64).toInt = (sg * x.toInt).tdiv q := by
    rw [i64_div (by rw [vx]; omega), vx, i64_of32, a7]
  have vb : -10000 ≤ (sg * x.toInt).tdiv q ∧ (sg * x.toInt).tdiv q ≤ 10000 := by
    have na := Int.natAbs_tdiv_le_natAbs (sg * x.toInt) q
    omega
  refine ⟨x.toInt, (v10 * x / v8.toInt64).toInt32, r', f', g', ?_, gr, ?_⟩
  · unfold d_X12_drift_114
    rw [x2, d_X12_drift_159, y2, d_X12_drift_193, u2, d_X12_drift_393, s2, d_X12_drift_476, ck_t (show ¬ v8.toInt64 = 0 by rw [i64_eq, i64_of32]; show ¬ _ = (0 : Int); omega)]
  · rw [Jvm.FP.Core.int64_toInt32 (by rw [vd]; omega) (by rw [vd]; omega), vd]
end DRS
