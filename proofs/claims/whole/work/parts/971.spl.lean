section SPLM
variable {B z N : Nat} {x S : Int} {W : Nat → Int} {rule v1 v5 : Int32} {τ : Sg} {X : Int64}
/-- what the reference knows of set z -/
def Wm (z : Nat) (v : Int32) (τ σ : Sg) : Prop := z < 4 ∧ v.toInt = z ∧ gI σ 134 z = gI τ 13 z ∧ 0 ≤ (gI τ 13 z).toInt ∧ (gI τ 13 z).toInt ≤ 8 ∧ ∀ j, j < 8 → gI σ 135 (8 * z + j) = gI τ (z + 9) j ∧ 0 ≤ (gI τ (z + 9) j).toInt ∧ (gI τ (z + 9) j).toInt ≤ 1000
theorem Wm_f {σ σ' : Sg} {v : Int32} (h : Wm z v τ σ) (e1 : gI σ' 134 = gI σ 134) (e2 : gI σ' 135 = gI σ 135) : Wm z v τ σ' := by
  unfold Wm; rw [e1, e2]; exact h
theorem ixW {v k : Int32} (hz : z < 4) (hv : v.toInt = z) (hk : 0 ≤ k.toInt ∧ k.toInt ≤ 7) : (8 * v + k).toNatClampNeg = 8 * z + k.toNatClampNeg ∧ ix (8 * v + k) 32 := by
  obtain ⟨-, x2, x3⟩ := ix2 (c := 8) (m := 4) (k := 8) (v := v) (w := k) (by decide) (ix_of (by omega) (by omega)) (ix_of hk.1 (by omega)) rfl (by decide)
  have e : v.toNatClampNeg = z := by rw [i32_nat]; omega
  rw [e] at x2
  exact ⟨x2, x3⟩
theorem al_even : ∀ (d n : Nat) (a k : Int32) (σ : Sg), Wm z v1 τ σ → a.toInt = wsum (gI τ (z + 9)) k.toNatClampNeg → 0 ≤ k.toInt → k.toInt + d = (gI τ 13 z).toInt → d < n → d_X12_isEven_4 n v1 a k σ = some (if wT τ z = 0 then 1 else 0) := by
  intro d
  induction d with
  | zero =>
    intro n a k σ h ha h3 h4 h5
    obtain ⟨n, rfl⟩ : ∃ k, n = k + 1 := ⟨n - 1, by omega⟩
    obtain ⟨hz, hv, m1, m2, m3, m4⟩ := h
    have e : v1.toNatClampNeg = z := by rw [i32_nat]; omega
    have n1 := nat0 h3
    have n2 := nat0 m2
    rw [d_X12_isEven_4, ck_ix (by omega), e, m1, if_pos (by rw [i32_le]; omega)]
    unfold d_X12_isEven_34
    have et : wT τ z = a.toInt := by unfold wT; rw [ha]; congr 1; omega
    rw [et]
    by_cases q : a = 0
    · rw [if_pos q, if_pos (by rw [q]; rfl)]
    · rw [if_neg q, if_neg (fun h => q (by rw [i32_eq]; exact h))]
  | succ d ih =>
    intro n a k σ h ha h3 h4 h5
    obtain ⟨n, rfl⟩ : ∃ k, n = k + 1 := ⟨n - 1, by omega⟩
    have h' := h
    obtain ⟨hz, hv, m1, m2, m3, m4⟩ := h
    have e : v1.toNatClampNeg = z := by rw [i32_nat]; omega
    obtain ⟨c1, c2, c3⟩ := cnt1 (v := k) (m := 64) h3 (by omega) (by decide)
    obtain ⟨x1, x2⟩ := ixW (v := v1) (k := k) hz hv ⟨h3, by omega⟩
    have wk := m4 k.toNatClampNeg (by omega)
    have wb := wsum_b (f := gI τ (z + 9)) (k := k.toNatClampNeg) (fun j hj => (m4 j (by omega)).2)
    have e5 : (a + gI τ (z + 9) k.toNatClampNeg).toInt = wsum (gI τ (z + 9)) (k.toNatClampNeg + 1) := by
      rw [i32_add (by omega) (by omega), wsum, ha]
    rw [d_X12_isEven_4, ck_ix (by omega), e, m1, if_neg (by rw [i32_le]; omega), ck_t x2, nm_t, nm_t, x1, wk.1]
    exact ih n (a + gI τ (z + 9) k.toNatClampNeg) (k + 1) σ h' (by rw [c2]; exact e5) (by omega) (by omega) (by omega)
theorem m_even {n : Nat} {σ : Sg} (h : Wm z v1 τ σ) (hn : 20 ≤ n) : c_X12_isEven n v1 σ = some (if wT τ z = 0 then 1 else 0) := by
  have n2 := nat0 h.2.2.2.1
  exact al_even (gI τ 13 z).toNatClampNeg n 0 0 σ h rfl (by decide) (by simp only [Int32.reduceToInt]; omega) (by have := h.2.2.2.2.1; omega)
theorem m_weighed {n : Nat} {σ : Sg} {k : Int32} (h : Wm z v1 τ σ) (hn : 20 ≤ n) (hk : 0 ≤ k.toInt ∧ k.toInt ≤ 7) : c_X12_weighed n v1 k σ = some (J (wW τ z k.toNatClampNeg)) := by
  obtain ⟨x1, x2⟩ := ixW (v := v1) (k := k) h.1 h.2.1 hk
  have wk := h.2.2.2.2.2 k.toNatClampNeg (by rw [i32_nat]; omega)
  unfold c_X12_weighed
  rw [m_even h hn, bp_s, ite10]
  unfold wW
  by_cases q : wT τ z = 0
  · rw [if_pos q, if_pos q]; rfl
  · rw [if_neg q, if_neg q, ck_t x2, x1, wk.1]
    congr 1
theorem m_parts {n : Nat} {σ : Sg} (h : Wm z v1 τ σ) (hn : 20 ≤ n) : ∃ P, c_X12_partsOf n v1 σ = some P ∧ P.toInt = wN τ z := by
  have hz := h.1
  have hv := h.2.1
  have e : v1.toNatClampNeg = z := by rw [i32_nat]; omega
  unfold c_X12_partsOf
  rw [m_even h hn, bp_s, ite10]
  unfold wN
  by_cases q : wT τ z = 0
  · rw [if_pos q, if_pos q]; exact ⟨2, rfl, rfl⟩
  · rw [if_neg q, if_neg q, ck_ix (by omega), e, h.2.2.1]
    exact ⟨_, rfl, (nat0 h.2.2.2.1).symm⟩
theorem al_all : ∀ (d n : Nat) (a : Int64) (k : Int32) (σ : Sg), Wm z v1 τ σ → a.toInt = isum (wW τ z) k.toNatClampNeg → 0 ≤ k.toInt → k.toInt + d = wN τ z → d + 30 < n → d_X12_allWeights_5 n v1 a k σ = some (J (wS τ z)) := by
  intro d
  induction d with
  | zero =>
    intro n a k σ h ha h3 h4 h5
    obtain ⟨n, rfl⟩ : ∃ k, n = k + 1 := ⟨n - 1, by omega⟩
    obtain ⟨P, p1, p2⟩ := m_parts h (n := n) (by omega)
    obtain ⟨k1, k2, k3, k4, k5, k6⟩ := wts_v (τ := τ) (z := z) ⟨h.2.2.2.1, h.2.2.2.2.1⟩ (fun j hj => (h.2.2.2.2.2 j hj).2)
    have n1 := nat0 h3
    rw [d_X12_allWeights_5, p1, bp_s, if_pos (by rw [i32_le]; omega)]
    congr 1
    refine J_eq ?_
    rw [ha, ← k6]; congr 1; omega
  | succ d ih =>
    intro n a k σ h ha h3 h4 h5
    obtain ⟨n, rfl⟩ : ∃ k, n = k + 1 := ⟨n - 1, by omega⟩
    obtain ⟨P, p1, p2⟩ := m_parts h (n := n) (by omega)
    obtain ⟨k1, k2, k3, k4, k5, k6⟩ := wts_v (τ := τ) (z := z) ⟨h.2.2.2.1, h.2.2.2.2.1⟩ (fun j hj => (h.2.2.2.2.2 j hj).2)
    obtain ⟨c1, c2, c3⟩ := cnt1 (v := k) (m := 64) h3 (by omega) (by decide)
    have wk := k5 k.toNatClampNeg (by omega)
    have sb := isum_b (q := wW τ z) (k := k.toNatClampNeg) (M := 1000) (fun j hj => ⟨by have := k5 j (by omega); omega, by have := k5 j (by omega); omega⟩)
    have e5 : (a + J (wW τ z k.toNatClampNeg)).toInt = isum (wW τ z) (k.toNatClampNeg + 1) := by
      have e2 : (J (wW τ z k.toNatClampNeg)).toInt = wW τ z k.toNatClampNeg := J_int (by omega) (by omega)
      rw [i64_add (by omega) (by omega), isum, ha, e2]
    rw [d_X12_allWeights_5, p1, bp_s, if_neg (by rw [i32_le]; omega), m_weighed h (by omega) ⟨h3, by omega⟩, bp_s, nm_t, nm_t]
    exact ih n _ (k + 1) σ h (by rw [c2]; exact e5) (by omega) (by omega) (by omega)
theorem m_all {n : Nat} {σ : Sg} (h : Wm z v1 τ σ) (hn : 50 ≤ n) : c_X12_allWeights n v1 σ = some (J (wS τ z)) := by
  obtain ⟨k1, k2, k3, k4, k5, k6⟩ := wts_v (τ := τ) (z := z) ⟨h.2.2.2.1, h.2.2.2.2.1⟩ (fun j hj => (h.2.2.2.2.2 j hj).2)
  exact al_all (wN τ z) n 0 0 σ h rfl (by decide) (by simp only [Int32.reduceToInt]; omega) (by omega)
/-- the reference is about to split x by set z into N parts -/
def Spm (B z N : Nat) (x S : Int) (W : Nat → Int) (v1 v5 : Int32) (X : Int64) (τ σ : Sg) : Prop := Wm z v1 τ σ ∧ B ≤ 1 ∧ (gI σ 130 16).toInt = B ∧ v5.toInt = N ∧ N = wN τ z ∧ S = wS τ z ∧ W = wW τ z ∧ X.toInt = x ∧ -1099511627776 ≤ x ∧ x ≤ 1099511627776
theorem Spm_f {σ σ' : Sg} (h : Spm B z N x S W v1 v5 X τ σ) (e1 : gI σ' = gI σ) : Spm B z N x S W v1 v5 X τ σ' := by
  obtain ⟨h1, h2, h3, h4⟩ := h
  exact ⟨Wm_f h1 (by rw [e1]) (by rw [e1]), h2, by rw [e1]; exact h3, h4⟩
theorem Spm_w {σ : Sg} (h : Spm B z N x S W v1 v5 X τ σ) : 1 ≤ N ∧ N ≤ 8 ∧ 1 ≤ S ∧ S ≤ 8000 ∧ (∀ j, j < N → 0 ≤ W j ∧ W j ≤ 1000 ∧ W j ≤ S) ∧ isum W N = S := by
  obtain ⟨h1, h2, h3, h4, rfl, rfl, rfl, -⟩ := h
  exact wts_v ⟨h1.2.2.2.1, h1.2.2.2.2.1⟩ (fun j hj => (h1.2.2.2.2.2 j hj).2)
theorem al_spl : ∀ (d n : Nat) (k : Int32) (L : Int64) (σ : Sg), Spm B z N x S W v1 v5 X τ σ → 0 ≤ rule.toInt → L.toInt = x - isum (fun j => if N ≤ j then 0 else q0 x S W rule.toInt j) k.toNatClampNeg → 0 ≤ k.toInt → k.toInt + d = 8 → d + 30 < n →
    ∃ w L', n ≤ w + d + 1 ∧ d_X12_splits_22 n X rule v1 v5 (J S) L k σ = d_X12_splits_118 w X rule v1 v5 (J S) L' (mJ σ 144 (8 * B + k.toNatClampNeg) (8 * B + 8) (fun j => J (if N ≤ j - 8 * B then 0 else q0 x S W rule.toInt (j - 8 * B)))) ∧ L'.toInt = lft x S W rule.toInt N := by
  intro d
  induction d with
  | zero =>
    intro n k L σ h hr hL h3 h4 h5
    obtain ⟨n, rfl⟩ : ∃ k, n = k + 1 := ⟨n - 1, by omega⟩
    obtain ⟨k1, k2, k3, k4, k5, k6⟩ := Spm_w h
    have n1 := nat0 h3
    refine ⟨n, L, by omega, ?_, ?_⟩
    · rw [d_X12_splits_22, if_pos (by rw [i32_le]; simp only [Int32.reduceToInt]; omega), mJ_nil (by omega)]
    · have e : k.toNatClampNeg = 8 := by omega
      rw [hL, e]
      unfold lft
      congr 1
      have st : ∀ i, i ≤ N → isum (fun j => if N ≤ j then 0 else q0 x S W rule.toInt j) i = isum (q0 x S W rule.toInt) i := by
        intro i
        induction i with
        | zero => intro _; rfl
        | succ i im =>
          intro hi
          rw [isum, isum, im (by omega), if_neg (by omega)]
      have st2 : ∀ i, isum (fun j => if N ≤ j then 0 else q0 x S W rule.toInt j) (N + i) = isum (q0 x S W rule.toInt) N := by
        intro i
        induction i with
        | zero => rw [Nat.add_zero]; exact st N (Nat.le_refl _)
        | succ i im => rw [← Nat.add_assoc, isum, im, if_pos (by omega), Int.add_zero]
      have := st2 (8 - N)
      rw [show N + (8 - N) = 8 by omega] at this
      exact this
  | succ d ih =>
    intro n k L σ h hr hL h3 h4 h5
    obtain ⟨n, rfl⟩ : ∃ k, n = k + 1 := ⟨n - 1, by omega⟩
    have h' := h
    obtain ⟨hw, hB, hb0, h5', eN, eS, eW, eX, hx1, hx2⟩ := h
    obtain ⟨k1, k2, k3, k4, k5, k6⟩ := Spm_w h'
    obtain ⟨c1, c2, c3⟩ := cnt1 (v := k) (m := 64) h3 (by omega) (by decide)
    obtain ⟨x1, x2⟩ := ixB (v := k) hB hb0 ⟨h3, by omega⟩
    have sb := isum_b (q := (fun j => if N ≤ j then 0 else q0 x S W rule.toInt j)) (k := k.toNatClampNeg) (M := 1099511627778) (fun j hj => by
      by_cases c : N ≤ j
      · simp only [if_pos c]; omega
      · simp only [if_neg c]; exact q0_b k3 hx1 hx2 (k5 j (by omega)).1 (k5 j (by omega)).2.2)
    have go : ∀ g : Int64, g.toInt = (if N ≤ k.toNatClampNeg then 0 else q0 x S W rule.toInt k.toNatClampNeg) → -1099511627778 ≤ g.toInt → g.toInt ≤ 1099511627778 → ∃ w L', n + 1 ≤ w + (d + 1) + 1 ∧ d_X12_splits_86 (fun c8 c10 τ => d_X12_splits_22 n X rule v1 v5 (J S) c8 c10 τ) n X rule v1 v5 (J S) L k g σ = d_X12_splits_118 w X rule v1 v5 (J S) L' (mJ σ 144 (8 * B + k.toNatClampNeg) (8 * B + 8) (fun j => J (if N ≤ j - 8 * B then 0 else q0 x S W rule.toInt (j - 8 * B)))) ∧ L'.toInt = lft x S W rule.toInt N := by
      intro g hg hg1 hg2
      have eL : (L - g).toInt = x - isum (fun j => if N ≤ j then 0 else q0 x S W rule.toInt j) (k.toNatClampNeg + 1) := by
        rw [i64_sub (by omega) (by omega), isum, hL, hg]; omega
      obtain ⟨w, L', w1, w2, w3⟩ := ih n (k + 1) (L - g) (pJ σ 144 (8 * B + k.toNatClampNeg) g) (Spm_f h' rfl) hr (by rw [c2]; exact eL) (by omega) (by omega) (by omega)
      refine ⟨w, L', by omega, ?_, w3⟩
      unfold d_X12_splits_86
      rw [ck_t x2, nm_t, nm_t, nm_t, x1]
      show d_X12_splits_22 n X rule v1 v5 (J S) (L - g) (k + 1) _ = _
      rw [w2, c2, ← Nat.add_assoc, mJ_step (f := (fun j => J (if N ≤ j - 8 * B then 0 else q0 x S W rule.toInt (j - 8 * B)))) (v := g) (by omega) (by rw [show 8 * B + k.toNatClampNeg - 8 * B = k.toNatClampNeg by omega]; exact (J_eq hg).symm)]
    rw [d_X12_splits_22, if_neg (by rw [i32_le]; simp only [Int32.reduceToInt]; omega)]
    by_cases q : N ≤ k.toNatClampNeg
    · rw [if_pos (by rw [i32_le]; omega)]
      unfold d_X12_splits_50
      rw [if_neg (by rw [i32_lt]; omega)]
      exact go 0 (by rw [if_pos q]; rfl) (by decide) (by decide)
    · rw [if_neg (by rw [i32_le]; omega), m_weighed hw (by omega) ⟨h3, by omega⟩, bp_s, ← eW]
      have wb := k5 k.toNatClampNeg (by omega)
      have eJ : (J (W k.toNatClampNeg)).toInt = W k.toNatClampNeg := J_int (by omega) (by omega)
      have eJS : (J S).toInt = S := J_int (by omega) (by omega)
      have m1 := bnd_mul (a := x) (b := W k.toNatClampNeg) (A := 1099511627776) (C := 1000) (by omega) (by omega) wb.1 wb.2.1
      have z1 : (X * J (W k.toNatClampNeg)).toInt = x * W k.toNatClampNeg := by
        rw [i64_mul (by rw [eX, eJ]; omega) (by rw [eX, eJ]; omega), eX, eJ]
      have qb := q0_b (r := rule.toInt) k3 hx1 hx2 wb.1 wb.2.2
      unfold d_X12_splits_50
      rw [if_pos (by rw [i32_lt]; omega)]
      by_cases r2 : 2 ≤ rule.toInt
      · obtain ⟨g, g1, g2⟩ := times_v (n := X * J (W k.toNatClampNeg)) (d := J S) (m := 0) (by omega) (by omega) (by omega) (by omega) (by decide)
        have gq : g.toInt = q0 x S W rule.toInt k.toNatClampNeg := by
          rw [g2, z1, eJS]; unfold q0; rw [if_neg (by omega)]; rfl
        rw [if_pos (by rw [i32_le]; simp only [Int32.reduceToInt]; exact r2), g1, bp_s]
        exact go g (by rw [if_neg q]; exact gq) (by omega) (by omega)
      · obtain ⟨g, g1, g2, -⟩ := floor_v (n := X * J (W k.toNatClampNeg)) (d := J S) (by omega) (by omega) (by omega) (by omega)
        have gq : g.toInt = q0 x S W rule.toInt k.toNatClampNeg := by
          rw [g2, z1, eJS]; unfold q0; rw [if_pos (by omega)]
        rw [if_neg (by rw [i32_le]; simp only [Int32.reduceToInt]; exact r2), g1, bp_s]
        exact go g (by rw [if_neg q]; exact gq) (by omega) (by omega)
end SPLM
