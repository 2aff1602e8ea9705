section SPC2
variable {A N : Nat} {x S : Int} {W : Nat → Int} {rule : Int32}
/-- what a splitter at A holds when it is about to part x -/
def Spl (A N : Nat) (x S : Int) (W : Nat → Int) (σ : Sg) : Prop := O6 A ∧ (gI σ A 4).toInt = N ∧ 1 ≤ N ∧ N ≤ 8 ∧ (gJ σ A 5).toInt = S ∧ 1 ≤ S ∧ S ≤ 8000 ∧ (gJ σ A 6).toInt = x ∧ -1099511627776 ≤ x ∧ x ≤ 1099511627776 ∧ (∀ j, j < N → (gI σ (A + 2) j).toInt = W j) ∧ (∀ j, j < N → 0 ≤ W j ∧ W j ≤ 1000 ∧ W j ≤ S) ∧ isum W N = S
theorem q0_b {j : Nat} {r : Int} (hS : 1 ≤ S) (hx : -1099511627776 ≤ x) (hx2 : x ≤ 1099511627776) (hW : 0 ≤ W j) (hW2 : W j ≤ S) : -1099511627778 ≤ q0 x S W r j ∧ q0 x S W r j ≤ 1099511627778 := by
  have d := (q0_d (x := x) (S := S) (W := W) (rule := r) (by omega) j).2
  have b1 : x * W j ≤ 1099511627776 * S := by
    have a1 : x * W j ≤ 1099511627776 * W j := Int.mul_le_mul_of_nonneg_right hx2 hW
    omega
  have b2 : -1099511627776 * S ≤ x * W j := by
    have a1 : -1099511627776 * W j ≤ x * W j := Int.mul_le_mul_of_nonneg_right hx hW
    omega
  generalize q0 x S W r j = q at *
  constructor
  · by_cases c : -1099511627778 ≤ q
    · exact c
    · have : q * S ≤ -1099511627779 * S := Int.mul_le_mul_of_nonneg_right (by omega) (by omega)
      omega
  · by_cases c : q ≤ 1099511627778
    · exact c
    · have : 1099511627779 * S ≤ q * S := Int.mul_le_mul_of_nonneg_right (by omega) (by omega)
      omega
theorem isum_b {q : Nat → Int} {k : Nat} {M : Int} (h : ∀ j, j < k → -M ≤ q j ∧ q j ≤ M) : -(M * k) ≤ isum q k ∧ isum q k ≤ M * k := by
  have a := isum_le (f := q) (g := fun _ => M) (k := k) (fun j hj => (h j hj).2)
  have b := isum_le (f := fun _ => -M) (g := q) (k := k) (fun j hj => (h j hj).1)
  rw [isum_c] at a b
  rw [Int.mul_comm M k]
  rw [Int.mul_neg] at b
  omega
/-- the parts by rounding -/
theorem al_div : ∀ (d n : Nat) (k : Int32) (L : Int64) (md : Int32) (σ : Sg), Spl A N x S W σ → (rule.toInt < 2 → md = 4) → (2 ≤ rule.toInt → md = 0) → L.toInt = x - isum (q0 x S W rule.toInt) k.toNatClampNeg → 0 ≤ k.toInt → k.toInt + d = N → d < n →
    ∃ w L', n ≤ w + d + 1 ∧ d_X7_divide_47 n A rule md L k σ = d_X7_divide_104 w A rule L' (mJ σ (A + 1) k.toNatClampNeg N (fun j => J (q0 x S W rule.toInt j))) ∧ L'.toInt = lft x S W rule.toInt N := by
  intro d
  induction d with
  | zero =>
    intro n k L md σ h hm1 hm2 hL h3 h4 h5
    obtain ⟨n, rfl⟩ : ∃ k, n = k + 1 := ⟨n - 1, by omega⟩
    obtain ⟨hA, s1, s2, s3, -⟩ := h
    have n1 := nat0 h3
    have e : k.toNatClampNeg = N := by omega
    refine ⟨n, L, by omega, ?_, by unfold lft; rw [hL, e]⟩
    rw [d_X7_divide_47, if_pos (by rw [i32_le]; omega), e, mJ_nil (Nat.le_refl _)]
  | succ d ih =>
    intro n k L md σ h hm1 hm2 hL h3 h4 h5
    obtain ⟨n, rfl⟩ : ∃ k, n = k + 1 := ⟨n - 1, by omega⟩
    have h' := h
    obtain ⟨hA, s1, s2, s3, s4, s5, s6, s7, s8, s9, s10, s11, s12⟩ := h
    obtain ⟨c1, c2, c3⟩ := cnt1 (v := k) (m := 64) h3 (by omega) (by decide)
    have hA' : A = 25 ∨ A = 39 ∨ A = 52 ∨ A = 63 := hA
    have hk : ix k 8 := ix_of h3 (by omega)
    have wk := s10 k.toNatClampNeg (by omega)
    have wb := s11 k.toNatClampNeg (by omega)
    have e4 := i64_of32 (gI σ (A + 2) k.toNatClampNeg)
    have m1 := bnd_mul (a := x) (b := W k.toNatClampNeg) (A := 1099511627776) (C := 1000) (by omega) (by omega) wb.1 wb.2.1
    have z1 : (gJ σ A 6 * (gI σ (A + 2) k.toNatClampNeg).toInt64).toInt = x * W k.toNatClampNeg := by
      rw [i64_mul (by rw [s7, e4, wk]; omega) (by rw [s7, e4, wk]; omega), s7, e4, wk]
    have hmd : 0 ≤ md.toInt ∧ md.toInt ≤ 5 := by
      by_cases q : rule.toInt < 2
      · rw [hm1 q]; decide
      · rw [hm2 (by omega)]; decide
    obtain ⟨g, g1, -, g3⟩ := rt_v (u := gJ σ A 6 * (gI σ (A + 2) k.toNatClampNeg).toInt64) (l := gJ σ A 5) (k := md) (by omega) (by omega) (by omega) (by omega) hmd
    have gq : g.toInt = q0 x S W rule.toInt k.toNatClampNeg := by
      rw [g3, z1, s4]
      unfold q0
      by_cases q : rule.toInt < 2
      · rw [if_pos q, hm1 q]
        exact rnd4
      · rw [if_neg q, hm2 (by omega)]
        rfl
    have gJ' := J_eq gq
    have qb := q0_b (r := rule.toInt) s5 s8 s9 wb.1 wb.2.2
    have sb := isum_b (q := (q0 x S W rule.toInt)) (k := k.toNatClampNeg) (M := 1099511627778) (fun j hj => q0_b s5 s8 s9 (s11 j (by omega)).1 (s11 j (by omega)).2.2)
    have eL : (L - g).toInt = x - isum (q0 x S W rule.toInt) (k.toNatClampNeg + 1) := by
      rw [i64_sub (by omega) (by omega), isum, hL, gq]; omega
    have hS' : Spl A N x S W (pJ σ (A + 1) k.toNatClampNeg g) := by
      refine ⟨hA, s1, s2, s3, ?_, s5, s6, ?_, s8, s9, s10, s11, s12⟩
      · rw [gJ_pJ_a (by omega)]; exact s4
      · rw [gJ_pJ_a (by omega)]; exact s7
    obtain ⟨w, L', w1, w2, w3⟩ := ih n (k + 1) (L - g) md (pJ σ (A + 1) k.toNatClampNeg g) hS' hm1 hm2 (by rw [c2]; exact eL) (by omega) (by omega) (by omega)
    refine ⟨w, L', by omega, ?_, w3⟩
    rw [d_X7_divide_47, if_neg (by rw [i32_le]; omega), ck_t hk, g1, bp_s, ck_t hk, nm_t, ck_t hk, gJ_pJ_s, nm_t, nm_t, w2, c2, mJ_step (f := (fun j => J (q0 x S W rule.toInt j))) (v := g) (by omega) gJ'.symm]
/-- what is left is given in order -/
theorem al_ord : ∀ (d n : Nat) (k : Int32) (L : Int64) (L0 : Int) (σ : Sg), Spl A N x S W σ → (∀ j, k.toNatClampNeg ≤ j → j < N → gJ σ (A + 1) j = J (q0 x S W rule.toInt j)) → L.toInt = L0 - cnt W k.toNatClampNeg → -100 ≤ L0 → L0 ≤ 100 → 0 ≤ k.toInt → k.toInt + d = N → d < n →
    d_X7_giveInOrder_5 n A L k σ = some (mJ σ (A + 1) k.toNatClampNeg N (fun j => J (q0 x S W rule.toInt j + (if 0 < W j ∧ cnt W j < L0 then 1 else 0)))) := by
  intro d
  induction d with
  | zero =>
    intro n k L L0 σ h hp hL hl1 hl2 h3 h4 h5
    obtain ⟨n, rfl⟩ : ∃ k, n = k + 1 := ⟨n - 1, by omega⟩
    obtain ⟨hA, s1, s2, s3, -⟩ := h
    have n1 := nat0 h3
    rw [d_X7_giveInOrder_5, if_pos (by rw [i32_le]; omega), mJ_nil (by omega)]
  | succ d ih =>
    intro n k L L0 σ h hp hL hl1 hl2 h3 h4 h5
    obtain ⟨n, rfl⟩ : ∃ k, n = k + 1 := ⟨n - 1, by omega⟩
    have h' := h
    obtain ⟨hA, s1, s2, s3, s4, s5, s6, s7, s8, s9, s10, s11, s12⟩ := h
    obtain ⟨c1, c2, c3⟩ := cnt1 (v := k) (m := 64) h3 (by omega) (by decide)
    have hA' : A = 25 ∨ A = 39 ∨ A = 52 ∨ A = 63 := hA
    have hk : ix k 8 := ix_of h3 (by omega)
    have wk := s10 k.toNatClampNeg (by omega)
    have wb := s11 k.toNatClampNeg (by omega)
    have qb := q0_b (r := rule.toInt) s5 s8 s9 wb.1 wb.2.2
    have cb : 0 ≤ cnt W k.toNatClampNeg := by have := cnt_mono (W := W) (k := 0) (i := k.toNatClampNeg) (by omega); rw [cnt] at this; exact this
    have cb2 : cnt W k.toNatClampNeg ≤ k.toNatClampNeg := by
      generalize k.toNatClampNeg = i
      induction i with
      | zero => rw [cnt]; omega
      | succ i im =>
        rw [cnt]
        by_cases q : 0 < W i
        · rw [if_pos q]; omega
        · rw [if_neg q]; omega
    rw [d_X7_giveInOrder_5, if_neg (by rw [i32_le]; omega)]
    by_cases q : L.toInt ≤ 0
    · rw [if_pos (by rw [i64_le]; simp only [Int64.reduceToInt]; exact q)]
      congr 1
      have e : ∀ j, k.toNatClampNeg ≤ j → j < N → gJ σ (A + 1) j = J (q0 x S W rule.toInt j + (if 0 < W j ∧ cnt W j < L0 then 1 else 0)) := by
        intro j j1 j2
        have := cnt_mono (W := W) j1
        rw [if_neg (by omega), Int.add_zero]
        exact hp j j1 j2
      have e2 : ∀ i, k.toNatClampNeg ≤ i → mJ σ (A + 1) k.toNatClampNeg i (fun j => J (q0 x S W rule.toInt j + (if 0 < W j ∧ cnt W j < L0 then 1 else 0))) = σ ∨ N < i := by
        intro i
        induction i with
        | zero => intro hi; left; exact mJ_nil (by omega)
        | succ i im =>
          intro hi
          by_cases c : k.toNatClampNeg ≤ i
          · rcases im c with c' | c'
            · by_cases c2 : N < i + 1
              · right; exact c2
              · left
                have : mJ σ (A + 1) k.toNatClampNeg (i + 1) (fun j => J (q0 x S W rule.toInt j + (if 0 < W j ∧ cnt W j < L0 then 1 else 0))) = pJ (mJ σ (A + 1) k.toNatClampNeg i (fun j => J (q0 x S W rule.toInt j + (if 0 < W j ∧ cnt W j < L0 then 1 else 0)))) (A + 1) i (J (q0 x S W rule.toInt i + (if 0 < W i ∧ cnt W i < L0 then 1 else 0))) := by
                  have e : (fun b j => if b = A + 1 ∧ k.toNatClampNeg ≤ j ∧ j < i + 1 then J (q0 x S W rule.toInt j + (if 0 < W j ∧ cnt W j < L0 then 1 else 0)) else σ.2.2.1 b j) = up2 (fun b j => if b = A + 1 ∧ k.toNatClampNeg ≤ j ∧ j < i then J (q0 x S W rule.toInt j + (if 0 < W j ∧ cnt W j < L0 then 1 else 0)) else σ.2.2.1 b j) (A + 1) i (J (q0 x S W rule.toInt i + (if 0 < W i ∧ cnt W i < L0 then 1 else 0))) := by
                    funext b j
                    unfold up2
                    by_cases z : b = A + 1 ∧ j = i
                    · rw [if_pos z, if_pos (show b = A + 1 ∧ k.toNatClampNeg ≤ j ∧ j < i + 1 by omega), z.2]
                    · rw [if_neg z]
                      dsimp only
                      by_cases z2 : b = A + 1 ∧ k.toNatClampNeg ≤ j ∧ j < i
                      · rw [if_pos z2, if_pos (show b = A + 1 ∧ k.toNatClampNeg ≤ j ∧ j < i + 1 by omega)]
                      · rw [if_neg z2, if_neg (show ¬ (b = A + 1 ∧ k.toNatClampNeg ≤ j ∧ j < i + 1) by omega)]
                  unfold mJ pJ
                  dsimp only
                  rw [e]
                rw [this, c']
                exact pJ_id (e i c (by omega))
            · right; omega
          · left; exact mJ_nil (by omega)
      rcases e2 N (by omega) with e3 | e3
      · exact e3.symm
      · omega
    · rw [if_neg (by rw [i64_le]; simp only [Int64.reduceToInt]; exact q), ck_t hk]
      by_cases q2 : W k.toNatClampNeg ≤ 0
      · have ec : cnt W (k.toNatClampNeg + 1) = cnt W k.toNatClampNeg := by rw [cnt, if_neg (by omega), Int.add_zero]
        rw [if_pos (by rw [i32_le]; simp only [Int32.reduceToInt]; omega)]
        unfold d_X7_giveInOrder_45
        rw [nm_t]
        have z := ih n (k + 1) L L0 σ h' (fun j j1 j2 => hp j (by omega) j2) (by rw [c2, ec]; exact hL) hl1 hl2 (by omega) (by omega) (by omega)
        show d_X7_giveInOrder_5 n A L (k + 1) σ = _
        rw [z, c2]
        congr 1
        have ep := hp k.toNatClampNeg (by omega) (by omega)
        have es := mJ_step (σ := σ) (a := A + 1) (lo := k.toNatClampNeg) (hi := N) (f := (fun j => J (q0 x S W rule.toInt j + (if 0 < W j ∧ cnt W j < L0 then 1 else 0)))) (v := gJ σ (A + 1) k.toNatClampNeg) (by omega) (by rw [if_neg (by omega), Int.add_zero, ep])
        rw [pJ_id rfl] at es
        exact es
      · have ec : cnt W (k.toNatClampNeg + 1) = cnt W k.toNatClampNeg + 1 := by rw [cnt, if_pos (by omega)]
        have ep := hp k.toNatClampNeg (by omega) (by omega)
        have e1 : (gJ σ (A + 1) k.toNatClampNeg + 1) = J (q0 x S W rule.toInt k.toNatClampNeg + 1) := by
          refine J_eq ?_
          have e2 : (1 : Int64).toInt = 1 := rfl
          have e3 : (gJ σ (A + 1) k.toNatClampNeg).toInt = q0 x S W rule.toInt k.toNatClampNeg := by rw [ep]; exact J_int (by omega) (by omega)
          rw [i64_add (by omega) (by omega), e2, e3]
        have eL : (L - 1).toInt = L0 - cnt W (k.toNatClampNeg + 1) := by
          have e2 : (1 : Int64).toInt = 1 := rfl
          rw [i64_sub (by omega) (by omega), e2, ec, hL]; omega
        rw [if_neg (by rw [i32_le]; simp only [Int32.reduceToInt]; omega), ck_t hk, ck_t hk, nm_t, nm_t]
        unfold d_X7_giveInOrder_45
        rw [nm_t]
        have hS' : Spl A N x S W (pJ σ (A + 1) k.toNatClampNeg (gJ σ (A + 1) k.toNatClampNeg + 1)) := by
          refine ⟨hA, s1, s2, s3, ?_, s5, s6, ?_, s8, s9, s10, s11, s12⟩
          · rw [gJ_pJ_a (by omega)]; exact s4
          · rw [gJ_pJ_a (by omega)]; exact s7
        have z := ih n (k + 1) (L - 1) L0 (pJ σ (A + 1) k.toNatClampNeg (gJ σ (A + 1) k.toNatClampNeg + 1)) hS' (fun j j1 j2 => by rw [gJ_pJ_k (by omega)]; exact hp j (by omega) j2) (by rw [c2]; exact eL) hl1 hl2 (by omega) (by omega) (by omega)
        show d_X7_giveInOrder_5 n A (L - 1) (k + 1) _ = _
        rw [z, c2]
        congr 1
        exact mJ_step (f := (fun j => J (q0 x S W rule.toInt j + (if 0 < W j ∧ cnt W j < L0 then 1 else 0)))) (by omega) (by rw [if_pos (by omega), e1])
end SPC2
