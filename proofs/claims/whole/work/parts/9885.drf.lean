section DRF
variable {τ σ : Sg} {N q p M B Jn L : Nat} {m sg : Int}
theorem gI_cp {a c k : Nat} (h : c < k) : gI (cpI τ 71 0 a 0 k) a c = gI τ 71 c := by
  show (if a = a ∧ 0 ≤ c ∧ c < 0 + k then τ.2.1 71 (0 + (c - 0)) else τ.2.1 a c) = _
  rw [if_pos (by omega), Nat.zero_add, Nat.sub_zero]
  rfl
theorem gI_cp_a {a b k : Nat} (h : b ≠ a) : gI (cpI τ 71 0 a 0 k) b = gI τ b := by
  funext j
  show (if b = a ∧ 0 ≤ j ∧ j < 0 + k then τ.2.1 71 (0 + (j - 0)) else τ.2.1 b j) = _
  rw [if_neg (by omega)]
  rfl
theorem b24_end {n : Nat} {v1 : Int32} : b_X1_greatest_24 (n + 1) 69 v1 0 τ = b_X1_greatest_57 n 69 τ := by
  rw [b_X1_greatest_24, if_pos (by decide)]
theorem k12 {k : Int32} (h : 1 ≤ k.toInt ∧ k.toInt ≤ 12) : k = 1 ∨ k = 2 ∨ k = 3 ∨ k = 4 ∨ k = 5 ∨ k = 6 ∨ k = 7 ∨ k = 8 ∨ k = 9 ∨ k = 10 ∨ k = 11 ∨ k = 12 := by
  simp only [i32_eq, Int32.reduceToInt]
  omega
theorem greatest_v {n : Nat} {v1 : Int32} (hn : 2000 ≤ n) (h : Cd q p M N m sg τ B Jn) (hp : Per q m N) (hq2 : q ≤ 100) (hs : sg = 1 ∨ sg = -1) (hL : v1.toInt = L) (hL1 : 1 ≤ L) (hL2 : L ≤ 12) :
    ∃ R x τ', f_X1_greatest n 69 v1 τ = some (R, τ') ∧ Gr q p M L m sg x ∧ R.toInt = x.tdiv q ∧ Fdr τ τ' := by
  have hC := h
  obtain ⟨⟨hl, b2, b3, b4⟩, h1, h2, h3, h4⟩ := h
  have hN2 : N ≤ 200 := by have := hp.2; omega
  have hN0 : 0 < N := by have := hp.2; have := hp.1; omega
  have nN : (gI τ 69 4).toNatClampNeg = N := by rw [i32_nat, h1]; omega
  have hl1 : Lay (cpI τ 71 0 B 0 N) := hl
  have g1 : Gd q p M N m sg 1 (cpI τ 71 0 B 0 N) := by
    refine ⟨B, Jn, ⟨⟨hl, b2, b3, b4⟩, ?_, ?_, fun c hc => ?_, fun c hc => ?_⟩, Tb_cong (single_v hC hp hq2 hs) (fun c hc => by rw [gI_cp hc])⟩
    · rw [gI_cp_a (by omega)]; exact h1
    · rw [gI_cp_a (by omega)]; exact h2
    · rw [gI_cp_a (by omega)]; exact h3 c hc
    · rw [gI_cp_a (by omega)]; exact h4 c hc
  have f1 : Fdr τ (cpI τ 71 0 B 0 N) := ⟨fun a ha => ⟨gI_cp_a (by omega), rfl, rfl⟩, rfl, rfl, hl⟩
  have okc : okC τ 13 71 (0 : Int32) B (0 : Int32) (gI τ 69 4) := by
    refine (okC_iff hl (ar_d (by omega)) (ar_d (by omega))).mpr ⟨⟨by decide, by decide, by rw [i32_lt]; show ¬ _ < (0 : Int); omega⟩, ?_, ?_⟩
    · rw [nN]; show 0 + N ≤ 200; omega
    · rw [nN]; show 0 + N ≤ 200; omega
  unfold f_X1_greatest
  rw [ck_t (lo1 hl), hl.2.2.2.1.2.1, b2, ck_t (show ¬ (71 : Nat) = 0 by decide), nm_t, ck_t (show ¬ B = 0 by omega), nm_t, ck_t okc, nm_t, nN, show (0 : Int32).toNatClampNeg = 0 from rfl]
  obtain ⟨n, rfl⟩ : ∃ k, n = k + 4 := ⟨n - 4, by omega⟩
  generalize hT : cpI τ 71 0 B 0 N = τ1 at *
  rcases k12 (k := v1) (by omega) with e | e | e | e | e | e | e | e | e | e | e | e
  · subst e
    have eL : L = 1 := by simp only [Int32.reduceToInt] at hL; omega
    subst eL
    rw [show f_J6_highestOneBit_0f7a4 (1 : Int32) = some 1 from by decide, bp_s, nm_t, show (1 : Int32) >>> ((1 : Int32) &&& 31) = 0 from by decide]
    rw [show b_X1_greatest_24 (n + 4) 69 1 0 τ1 = _ from b24_end (n := n + 3)]
    obtain ⟨R, x, r1, r2, r3⟩ := g57 (n := n + 3) (by omega) g1 hp hq2 hs (by decide)
    exact ⟨R, x, τ1, r1, r2, r3, f1⟩
  · subst e
    have eL : L = 2 := by simp only [Int32.reduceToInt] at hL; omega
    subst eL
    rw [show f_J6_highestOneBit_0f7a4 (2 : Int32) = some 2 from by decide, bp_s, nm_t, show (2 : Int32) >>> ((1 : Int32) &&& 31) = 1 from by decide]
    obtain ⟨τ2, e1, g2, f2⟩ := gstep (n := n + 3) (v1 := 2) (v2 := 1) (by omega) g1 hp hq2 hs (by decide) (by decide)
    rw [show (if (2 : Int32) &&& 1 = 0 then 1 + 1 else 1 + 1 + 1) = 2 from by decide] at g2
    rw [show (1 : Int32) >>> ((1 : Int32) &&& 31) = 0 from by decide] at e1
    rw [show b_X1_greatest_24 (n + 4) 69 2 1 τ1 = _ from e1]
    rw [show b_X1_greatest_24 (n + 3) 69 2 0 τ2 = _ from b24_end (n := n + 2)]
    obtain ⟨R, x, r1, r2, r3⟩ := g57 (n := n + 2) (by omega) g2 hp hq2 hs (by decide)
    exact ⟨R, x, τ2, r1, r2, r3, (Fdr_tr f1 f2)⟩
  · subst e
    have eL : L = 3 := by simp only [Int32.reduceToInt] at hL; omega
    subst eL
    rw [show f_J6_highestOneBit_0f7a4 (3 : Int32) = some 2 from by decide, bp_s, nm_t, show (2 : Int32) >>> ((1 : Int32) &&& 31) = 1 from by decide]
    obtain ⟨τ2, e1, g2, f2⟩ := gstep (n := n + 3) (v1 := 3) (v2 := 1) (by omega) g1 hp hq2 hs (by decide) (by decide)
    rw [show (if (3 : Int32) &&& 1 = 0 then 1 + 1 else 1 + 1 + 1) = 3 from by decide] at g2
    rw [show (1 : Int32) >>> ((1 : Int32) &&& 31) = 0 from by decide] at e1
    rw [show b_X1_greatest_24 (n + 4) 69 3 1 τ1 = _ from e1]
    rw [show b_X1_greatest_24 (n + 3) 69 3 0 τ2 = _ from b24_end (n := n + 2)]
    obtain ⟨R, x, r1, r2, r3⟩ := g57 (n := n + 2) (by omega) g2 hp hq2 hs (by decide)
    exact ⟨R, x, τ2, r1, r2, r3, (Fdr_tr f1 f2)⟩
  · subst e
    have eL : L = 4 := by simp only [Int32.reduceToInt] at hL; omega
    subst eL
    rw [show f_J6_highestOneBit_0f7a4 (4 : Int32) = some 4 from by decide, bp_s, nm_t, show (4 : Int32) >>> ((1 : Int32) &&& 31) = 2 from by decide]
    obtain ⟨τ2, e1, g2, f2⟩ := gstep (n := n + 3) (v1 := 4) (v2 := 2) (by omega) g1 hp hq2 hs (by decide) (by decide)
    rw [show (if (4 : Int32) &&& 2 = 0 then 1 + 1 else 1 + 1 + 1) = 2 from by decide] at g2
    rw [show (2 : Int32) >>> ((1 : Int32) &&& 31) = 1 from by decide] at e1
    rw [show b_X1_greatest_24 (n + 4) 69 4 2 τ1 = _ from e1]
    obtain ⟨τ3, e2, g3, f3⟩ := gstep (n := n + 2) (v1 := 4) (v2 := 1) (by omega) g2 hp hq2 hs (by decide) (by decide)
    rw [show (if (4 : Int32) &&& 1 = 0 then 2 + 2 else 2 + 2 + 1) = 4 from by decide] at g3
    rw [show (1 : Int32) >>> ((1 : Int32) &&& 31) = 0 from by decide] at e2
    rw [show b_X1_greatest_24 (n + 3) 69 4 1 τ2 = _ from e2]
    rw [show b_X1_greatest_24 (n + 2) 69 4 0 τ3 = _ from b24_end (n := n + 1)]
    obtain ⟨R, x, r1, r2, r3⟩ := g57 (n := n + 1) (by omega) g3 hp hq2 hs (by decide)
    exact ⟨R, x, τ3, r1, r2, r3, (Fdr_tr (Fdr_tr f1 f2) f3)⟩
  · subst e
    have eL : L = 5 := by simp only [Int32.reduceToInt] at hL; omega
    subst eL
    rw [show f_J6_highestOneBit_0f7a4 (5 : Int32) = some 4 from by decide, bp_s, nm_t, show (4 : Int32) >>> ((1 : Int32) &&& 31) = 2 from by decide]
    obtain ⟨τ2, e1, g2, f2⟩ := gstep (n := n + 3) (v1 := 5) (v2 := 2) (by omega) g1 hp hq2 hs (by decide) (by decide)
    rw [show (if (5 : Int32) &&& 2 = 0 then 1 + 1 else 1 + 1 + 1) = 2 from by decide] at g2
    rw [show (2 : Int32) >>> ((1 : Int32) &&& 31) = 1 from by decide] at e1
    rw [show b_X1_greatest_24 (n + 4) 69 5 2 τ1 = _ from e1]
    obtain ⟨τ3, e2, g3, f3⟩ := gstep (n := n + 2) (v1 := 5) (v2 := 1) (by omega) g2 hp hq2 hs (by decide) (by decide)
    rw [show (if (5 : Int32) &&& 1 = 0 then 2 + 2 else 2 + 2 + 1) = 5 from by decide] at g3
    rw [show (1 : Int32) >>> ((1 : Int32) &&& 31) = 0 from by decide] at e2
    rw [show b_X1_greatest_24 (n + 3) 69 5 1 τ2 = _ from e2]
    rw [show b_X1_greatest_24 (n + 2) 69 5 0 τ3 = _ from b24_end (n := n + 1)]
    obtain ⟨R, x, r1, r2, r3⟩ := g57 (n := n + 1) (by omega) g3 hp hq2 hs (by decide)
    exact ⟨R, x, τ3, r1, r2, r3, (Fdr_tr (Fdr_tr f1 f2) f3)⟩
  · subst e
    have eL : L = 6 := by simp only [Int32.reduceToInt] at hL; omega
    subst eL
    rw [show f_J6_highestOneBit_0f7a4 (6 : Int32) = some 4 from by decide, bp_s, nm_t, show (4 : Int32) >>> ((1 : Int32) &&& 31) = 2 from by decide]
    obtain ⟨τ2, e1, g2, f2⟩ := gstep (n := n + 3) (v1 := 6) (v2 := 2) (by omega) g1 hp hq2 hs (by decide) (by decide)
    rw [show (if (6 : Int32) &&& 2 = 0 then 1 + 1 else 1 + 1 + 1) = 3 from by decide] at g2
    rw [show (2 : Int32) >>> ((1 : Int32) &&& 31) = 1 from by decide] at e1
    rw [show b_X1_greatest_24 (n + 4) 69 6 2 τ1 = _ from e1]
    obtain ⟨τ3, e2, g3, f3⟩ := gstep (n := n + 2) (v1 := 6) (v2 := 1) (by omega) g2 hp hq2 hs (by decide) (by decide)
    rw [show (if (6 : Int32) &&& 1 = 0 then 3 + 3 else 3 + 3 + 1) = 6 from by decide] at g3
    rw [show (1 : Int32) >>> ((1 : Int32) &&& 31) = 0 from by decide] at e2
    rw [show b_X1_greatest_24 (n + 3) 69 6 1 τ2 = _ from e2]
    rw [show b_X1_greatest_24 (n + 2) 69 6 0 τ3 = _ from b24_end (n := n + 1)]
    obtain ⟨R, x, r1, r2, r3⟩ := g57 (n := n + 1) (by omega) g3 hp hq2 hs (by decide)
    exact ⟨R, x, τ3, r1, r2, r3, (Fdr_tr (Fdr_tr f1 f2) f3)⟩
  · subst e
    have eL : L = 7 := by simp only [Int32.reduceToInt] at hL; omega
    subst eL
    rw [show f_J6_highestOneBit_0f7a4 (7 : Int32) = some 4 from by decide, bp_s, nm_t, show (4 : Int32) >>> ((1 : Int32) &&& 31) = 2 from by decide]
    obtain ⟨τ2, e1, g2, f2⟩ := gstep (n := n + 3) (v1 := 7) (v2 := 2) (by omega) g1 hp hq2 hs (by decide) (by decide)
    rw [show (if (7 : Int32) &&& 2 = 0 then 1 + 1 else 1 + 1 + 1) = 3 from by decide] at g2
    rw [show (2 : Int32) >>> ((1 : Int32) &&& 31) = 1 from by decide] at e1
    rw [show b_X1_greatest_24 (n + 4) 69 7 2 τ1 = _ from e1]
    obtain ⟨τ3, e2, g3, f3⟩ := gstep (n := n + 2) (v1 := 7) (v2 := 1) (by omega) g2 hp hq2 hs (by decide) (by decide)
    rw [show (if (7 : Int32) &&& 1 = 0 then 3 + 3 else 3 + 3 + 1) = 7 from by decide] at g3
    rw [show (1 : Int32) >>> ((1 : Int32) &&& 31) = 0 from by decide] at e2
    rw [show b_X1_greatest_24 (n + 3) 69 7 1 τ2 = _ from e2]
    rw [show b_X1_greatest_24 (n + 2) 69 7 0 τ3 = _ from b24_end (n := n + 1)]
    obtain ⟨R, x, r1, r2, r3⟩ := g57 (n := n + 1) (by omega) g3 hp hq2 hs (by decide)
    exact ⟨R, x, τ3, r1, r2, r3, (Fdr_tr (Fdr_tr f1 f2) f3)⟩
  · subst e
    have eL : L = 8 := by simp only [Int32.reduceToInt] at hL; omega
    subst eL
    rw [show f_J6_highestOneBit_0f7a4 (8 : Int32) = some 8 from by decide, bp_s, nm_t, show (8 : Int32) >>> ((1 : Int32) &&& 31) = 4 from by decide]
    obtain ⟨τ2, e1, g2, f2⟩ := gstep (n := n + 3) (v1 := 8) (v2 := 4) (by omega) g1 hp hq2 hs (by decide) (by decide)
    rw [show (if (8 : Int32) &&& 4 = 0 then 1 + 1 else 1 + 1 + 1) = 2 from by decide] at g2
    rw [show (4 : Int32) >>> ((1 : Int32) &&& 31) = 2 from by decide] at e1
    rw [show b_X1_greatest_24 (n + 4) 69 8 4 τ1 = _ from e1]
    obtain ⟨τ3, e2, g3, f3⟩ := gstep (n := n + 2) (v1 := 8) (v2 := 2) (by omega) g2 hp hq2 hs (by decide) (by decide)
    rw [show (if (8 : Int32) &&& 2 = 0 then 2 + 2 else 2 + 2 + 1) = 4 from by decide] at g3
    rw [show (2 : Int32) >>> ((1 : Int32) &&& 31) = 1 from by decide] at e2
    rw [show b_X1_greatest_24 (n + 3) 69 8 2 τ2 = _ from e2]
    obtain ⟨τ4, e3, g4, f4⟩ := gstep (n := n + 1) (v1 := 8) (v2 := 1) (by omega) g3 hp hq2 hs (by decide) (by decide)
    rw [show (if (8 : Int32) &&& 1 = 0 then 4 + 4 else 4 + 4 + 1) = 8 from by decide] at g4
    rw [show (1 : Int32) >>> ((1 : Int32) &&& 31) = 0 from by decide] at e3
    rw [show b_X1_greatest_24 (n + 2) 69 8 1 τ3 = _ from e3]
    rw [show b_X1_greatest_24 (n + 1) 69 8 0 τ4 = _ from b24_end (n := n + 0)]
    obtain ⟨R, x, r1, r2, r3⟩ := g57 (n := n + 0) (by omega) g4 hp hq2 hs (by decide)
    exact ⟨R, x, τ4, r1, r2, r3, (Fdr_tr (Fdr_tr (Fdr_tr f1 f2) f3) f4)⟩
  · subst e
    have eL : L = 9 := by simp only [Int32.reduceToInt] at hL; omega
    subst eL
    rw [show f_J6_highestOneBit_0f7a4 (9 : Int32) = some 8 from by decide, bp_s, nm_t, show (8 : Int32) >>> ((1 : Int32) &&& 31) = 4 from by decide]
    obtain ⟨τ2, e1, g2, f2⟩ := gstep (n := n + 3) (v1 := 9) (v2 := 4) (by omega) g1 hp hq2 hs (by decide) (by decide)
    rw [show (if (9 : Int32) &&& 4 = 0 then 1 + 1 else 1 + 1 + 1) = 2 from by decide] at g2
    rw [show (4 : Int32) >>> ((1 : Int32) &&& 31) = 2 from by decide] at e1
    rw [show b_X1_greatest_24 (n + 4) 69 9 4 τ1 = _ from e1]
    obtain ⟨τ3, e2, g3, f3⟩ := gstep (n := n + 2) (v1 := 9) (v2 := 2) (by omega) g2 hp hq2 hs (by decide) (by decide)
    rw [show (if (9 : Int32) &&& 2 = 0 then 2 + 2 else 2 + 2 + 1) = 4 from by decide] at g3
    rw [show (2 : Int32) >>> ((1 : Int32) &&& 31) = 1 from by decide] at e2
    rw [show b_X1_greatest_24 (n + 3) 69 9 2 τ2 = _ from e2]
    obtain ⟨τ4, e3, g4, f4⟩ := gstep (n := n + 1) (v1 := 9) (v2 := 1) (by omega) g3 hp hq2 hs (by decide) (by decide)
    rw [show (if (9 : Int32) &&& 1 = 0 then 4 + 4 else 4 + 4 + 1) = 9 from by decide] at g4
    rw [show (1 : Int32) >>> ((1 : Int32) &&& 31) = 0 from by decide] at e3
    rw [show b_X1_greatest_24 (n + 2) 69 9 1 τ3 = _ from e3]
    rw [show b_X1_greatest_24 (n + 1) 69 9 0 τ4 = _ from b24_end (n := n + 0)]
    obtain ⟨R, x, r1, r2, r3⟩ := g57 (n := n + 0) (by omega) g4 hp hq2 hs (by decide)
    exact ⟨R, x, τ4, r1, r2, r3, (Fdr_tr (Fdr_tr (Fdr_tr f1 f2) f3) f4)⟩
  · subst e
    have eL : L = 10 := by simp only [Int32.reduceToInt] at hL; omega
    subst eL
    rw [show f_J6_highestOneBit_0f7a4 (10 : Int32) = some 8 from by decide, bp_s, nm_t, show (8 : Int32) >>> ((1 : Int32) &&& 31) = 4 from by decide]
    obtain ⟨τ2, e1, g2, f2⟩ := gstep (n := n + 3) (v1 := 10) (v2 := 4) (by omega) g1 hp hq2 hs (by decide) (by decide)
    rw [show (if (10 : Int32) &&& 4 = 0 then 1 + 1 else 1 + 1 + 1) = 2 from by decide] at g2
    rw [show (4 : Int32) >>> ((1 : Int32) &&& 31) = 2 from by decide] at e1
    rw [show b_X1_greatest_24 (n + 4) 69 10 4 τ1 = _ from e1]
    obtain ⟨τ3, e2, g3, f3⟩ := gstep (n := n + 2) (v1 := 10) (v2 := 2) (by omega) g2 hp hq2 hs (by decide) (by decide)
    rw [show (if (10 : Int32) &&& 2 = 0 then 2 + 2 else 2 + 2 + 1) = 5 from by decide] at g3
    rw [show (2 : Int32) >>> ((1 : Int32) &&& 31) = 1 from by decide] at e2
    rw [show b_X1_greatest_24 (n + 3) 69 10 2 τ2 = _ from e2]
    obtain ⟨τ4, e3, g4, f4⟩ := gstep (n := n + 1) (v1 := 10) (v2 := 1) (by omega) g3 hp hq2 hs (by decide) (by decide)
    rw [show (if (10 : Int32) &&& 1 = 0 then 5 + 5 else 5 + 5 + 1) = 10 from by decide] at g4
    rw [show (1 : Int32) >>> ((1 : Int32) &&& 31) = 0 from by decide] at e3
    rw [show b_X1_greatest_24 (n + 2) 69 10 1 τ3 = _ from e3]
    rw [show b_X1_greatest_24 (n + 1) 69 10 0 τ4 = _ from b24_end (n := n + 0)]
    obtain ⟨R, x, r1, r2, r3⟩ := g57 (n := n + 0) (by omega) g4 hp hq2 hs (by decide)
    exact ⟨R, x, τ4, r1, r2, r3, (Fdr_tr (Fdr_tr (Fdr_tr f1 f2) f3) f4)⟩
  · subst e
    have eL : L = 11 := by simp only [Int32.reduceToInt] at hL; omega
    subst eL
    rw [show f_J6_highestOneBit_0f7a4 (11 : Int32) = some 8 from by decide, bp_s, nm_t, show (8 : Int32) >>> ((1 : Int32) &&& 31) = 4 from by decide]
    obtain ⟨τ2, e1, g2, f2⟩ := gstep (n := n + 3) (v1 := 11) (v2 := 4) (by omega) g1 hp hq2 hs (by decide) (by decide)
    rw [show (if (11 : Int32) &&& 4 = 0 then 1 + 1 else 1 + 1 + 1) = 2 from by decide] at g2
    rw [show (4 : Int32) >>> ((1 : Int32) &&& 31) = 2 from by decide] at e1
    rw [show b_X1_greatest_24 (n + 4) 69 11 4 τ1 = _ from e1]
    obtain ⟨τ3, e2, g3, f3⟩ := gstep (n := n + 2) (v1 := 11) (v2 := 2) (by omega) g2 hp hq2 hs (by decide) (by decide)
    rw [show (if (11 : Int32) &&& 2 = 0 then 2 + 2 else 2 + 2 + 1) = 5 from by decide] at g3
    rw [show (2 : Int32) >>> ((1 : Int32) &&& 31) = 1 from by decide] at e2
    rw [show b_X1_greatest_24 (n + 3) 69 11 2 τ2 = _ from e2]
    obtain ⟨τ4, e3, g4, f4⟩ := gstep (n := n + 1) (v1 := 11) (v2 := 1) (by omega) g3 hp hq2 hs (by decide) (by decide)
    rw [show (if (11 : Int32) &&& 1 = 0 then 5 + 5 else 5 + 5 + 1) = 11 from by decide] at g4
    rw [show (1 : Int32) >>> ((1 : Int32) &&& 31) = 0 from by decide] at e3
    rw [show b_X1_greatest_24 (n + 2) 69 11 1 τ3 = _ from e3]
    rw [show b_X1_greatest_24 (n + 1) 69 11 0 τ4 = _ from b24_end (n := n + 0)]
    obtain ⟨R, x, r1, r2, r3⟩ := g57 (n := n + 0) (by omega) g4 hp hq2 hs (by decide)
    exact ⟨R, x, τ4, r1, r2, r3, (Fdr_tr (Fdr_tr (Fdr_tr f1 f2) f3) f4)⟩
  · subst e
    have eL : L = 12 := by simp only [Int32.reduceToInt] at hL; omega
    subst eL
    rw [show f_J6_highestOneBit_0f7a4 (12 : Int32) = some 8 from by decide, bp_s, nm_t, show (8 : Int32) >>> ((1 : Int32) &&& 31) = 4 from by decide]
    obtain ⟨τ2, e1, g2, f2⟩ := gstep (n := n + 3) (v1 := 12) (v2 := 4) (by omega) g1 hp hq2 hs (by decide) (by decide)
    rw [show (if (12 : Int32) &&& 4 = 0 then 1 + 1 else 1 + 1 + 1) = 3 from by decide] at g2
    rw [show (4 : Int32) >>> ((1 : Int32) &&& 31) = 2 from by decide] at e1
    rw [show b_X1_greatest_24 (n + 4) 69 12 4 τ1 = _ from e1]
    obtain ⟨τ3, e2, g3, f3⟩ := gstep (n := n + 2) (v1 := 12) (v2 := 2) (by omega) g2 hp hq2 hs (by decide) (by decide)
    rw [show (if (12 : Int32) &&& 2 = 0 then 3 + 3 else 3 + 3 + 1) = 6 from by decide] at g3
    rw [show (2 : Int32) >>> ((1 : Int32) &&& 31) = 1 from by decide] at e2
    rw [show b_X1_greatest_24 (n + 3) 69 12 2 τ2 = _ from e2]
    obtain ⟨τ4, e3, g4, f4⟩ := gstep (n := n + 1) (v1 := 12) (v2 := 1) (by omega) g3 hp hq2 hs (by decide) (by decide)
    rw [show (if (12 : Int32) &&& 1 = 0 then 6 + 6 else 6 + 6 + 1) = 12 from by decide] at g4
    rw [show (1 : Int32) >>> ((1 : Int32) &&& 31) = 0 from by decide] at e3
    rw [show b_X1_greatest_24 (n + 2) 69 12 1 τ3 = _ from e3]
    rw [show b_X1_greatest_24 (n + 1) 69 12 0 τ4 = _ from b24_end (n := n + 0)]
    obtain ⟨R, x, r1, r2, r3⟩ := g57 (n := n + 0) (by omega) g4 hp hq2 hs (by decide)
    exact ⟨R, x, τ4, r1, r2, r3, (Fdr_tr (Fdr_tr (Fdr_tr f1 f2) f3) f4)⟩
/-- x was returned or thrown, and the reference says so -/
def RXg {ρ : Type} (x : ρ ⊕ String) (v : ρ) (t : Int32) : Prop := (x = .inl v ∧ t = 0) ∨ (x = .inr nIA ∧ t = 1)
theorem Rl_drift {c : Nat} {τ' : Sg} {r' : Nat → Int32} {f' g' : Nat → Int64} (h : Rl c τ σ) (f : Fdr τ τ') : Rl (c + 1) τ' (Sd (pI σ 130 0 0) N r' f' g') := by
  obtain ⟨⟨lt, ls, h0⟩, h1, h2, h3, h4, h5, h6, h7, h8⟩ := h
  have E : ∀ a, ¬ (69 ≤ a ∧ a ≤ 73) → Sm τ τ' a := f.1
  have E' : ∀ a, a ≠ 130 ∧ ¬ (164 ≤ a ∧ a ≤ 166) → Sm σ (Sd (pI σ 130 0 0) N r' f' g') a := fun a ha => Sm_mJ (Sm_mJ (Sm_mI (Sm_pI Sm_refl (by omega)) (by omega)) (by omega)) (by omega)
  have lt := f.2.2.2
  have ls : Lay (Sd (pI σ 130 0 0) N r' f' g') := ls
  have e4 := (E 4 (by omega)).1
  have e20 := (E 20 (by omega)).1
  have F : ∀ k, k ≠ 0 → gI (Sd (pI σ 130 0 0) N r' f' g') 130 k = gI σ 130 k := fun k hk => by unfold Sd; simp (disch := omega) only [gI_pI_s, gJ_pJ_s, gD_pD_s, gI_pJ, gI_pD, gJ_pI, gJ_pD, gD_pI, gD_pJ, gI_pI_a, gJ_pJ_a, gD_pD_a, gI_pI_k, gJ_pJ_k, gD_pD_k, gI_mI_i, gJ_mJ_i, gD_mD_i, gI_mJ, gI_mD, gJ_mI, gJ_mD, gD_mI, gD_mJ, gI_mI_a, gJ_mJ_a, gD_mD_a, gI_mI_o, gJ_mJ_o, gD_mD_o]
  exact ⟨⟨lt, ls, Rold_f h0 (fun a ha => E a (by omega))⟩, Rtab_f h1 (fun a ha => E a (by omega)) (fun a ha => E' a (by omega)), Rwts_f h2 (fun a ha => E a (by omega)) (fun a ha => E' a (by omega)), Rbil_f h3 (fun a ha => E a (by omega)) (E' 133 (by omega)) (F 3 (by decide)), Rled_f h4 (Nat.le_succ _) (fun a ha => E a (by omega)) (E' 146 (by omega)) (F 13 (by decide)), Rprg_f h5 (fun a ha => E a (by omega)) (fun a ha => E' a (by omega)) (F 7 (by decide)) (by rw [e4]), Rlst_f h6 (fun a ha => E a (by omega)) (fun a ha => E' a (by omega)) (F 14 (by decide)) (by rw [e20]), Rtap_f h7 (Nat.le_succ _) (fun a ha => E a (by omega)) (fun a ha => E' a (by omega)), Rmis_f h8 (F 15 (by decide)) (F 16 (by decide)) (by rw [e4])⟩
theorem Lay_r (h : Lay τ) : gR τ 4 0 = 5 ∧ gR τ 4 7 = 69 ∧ gR τ 5 0 = 6 ∧ gR τ 5 1 = 7 ∧ okO τ 4 10 ∧ okO τ 5 7 ∧ okO τ 69 1 :=
  ⟨h.2.2.1 4 0 (by decide) (by decide) (by decide) (by decide), h.2.2.1 4 7 (by decide) (by decide) (by decide) (by decide), h.2.2.1 5 0 (by decide) (by decide) (by decide) (by decide), h.2.2.1 5 1 (by decide) (by decide) (by decide) (by decide), lobj h (by decide) (by decide) (by decide), lobj h (by decide) (by decide) (by decide), lo1 h⟩
theorem ar67 {a : Nat} (h : a = 6 ∨ a = 7) : Ar 13 8 a := by rcases h with e | e <;> subst e <;> decide
theorem s_drift {c n : Nat} (v1 v2 v3 v4 v5 : Int32) (h : Rl c τ σ) (hn : 5000 ≤ n) : ∃ x v τ' σ', f_X11_drift n 4 v1 v2 v3 v4 v5 τ = some (x, τ') ∧ c_X12_drift n v1 v2 v3 v4 v5 σ = some (v, σ') ∧ RXg x v (gI σ' 130 0) ∧ Rl (c + 1) τ' σ' ∧ ToX 69 74 τ τ' := by
  have hL := h.1.1
  obtain ⟨r1, r2, r3, r4, o1, o2, o3⟩ := Lay_r hL
  have l169 := hL.1
  have fl : d_X12_drift_66 n v1 v2 v3 v4 v5 σ = some (0, pI σ 130 0 1) := rfl
  have bad : ∃ x v τ' σ', some ((.inr nIA : Int32 ⊕ String), nw τ 19 6) = some (x, τ') ∧ some ((0 : Int32), pI σ 130 0 1) = some (v, σ') ∧ RXg x v (gI σ' 130 0) ∧ Rl (c + 1) τ' σ' ∧ ToX 69 74 τ τ' :=
    ⟨_, _, _, _, rfl, rfl, Or.inr ⟨rfl, rfl⟩, Rl_thr (Rl_nw h) 1, ToX_nw (To_refl hL)⟩
  unfold f_X11_drift c_X12_drift b_X11_drift_28 b_X11_drift_73
  rw [fl]
  simp only [v_in, v_isRate, v_isMode, bp_s, ite10, i32_lt, i32_le, Int32.reduceToInt]
  by_cases q1 : 0 ≤ v1.toInt ∧ v1.toInt ≤ 7
  · rw [if_pos q1, if_pos q1]
    have n1 := nat0 q1.1
    have hx : ix v1 8 := ix_of q1.1 (by omega)
    obtain ⟨t1, t2, t3, t4, t5, t6⟩ := h.2.1 v1.toNatClampNeg (by omega)
    rw [ck_t o1, r1, ck_t (show ¬ (5 : Nat) = 0 by decide), nm_t, ck_t o2, r4, ck_t (show ¬ (7 : Nat) = 0 by decide), nm_t, ck_t ((okA_iff hL (ar67 (by omega))).mpr hx), ck_t hx, t2]
    by_cases q2 : 100 < (gI τ 7 v1.toNatClampNeg).toInt
    · rw [if_pos q2, if_pos q2]; exact bad
    · rw [if_neg q2, if_neg q2]
      by_cases q3 : 0 ≤ v2.toInt ∧ v2.toInt ≤ 5
      · rw [if_pos q3, if_pos q3]
        by_cases q4 : 1 ≤ v3.toInt ∧ v3.toInt ≤ 12
        · rw [if_pos q4, if_neg (show ¬ v3.toInt < 1 by omega), if_neg (show ¬ 12 < v3.toInt by omega)]
          by_cases q5 : 0 ≤ v4.toInt ∧ v4.toInt ≤ 1000
          · rw [if_pos q5, if_neg (show ¬ v4.toInt < 0 by omega), if_neg (show ¬ 1000 < v4.toInt by omega)]
            by_cases q6 : 0 ≤ v5.toInt ∧ v5.toInt ≤ 1
            · rw [if_pos q6, if_neg (show ¬ v5.toInt < 0 by omega), if_pos (show v5.toInt ≤ 1 by omega)]
              -- the work
              obtain ⟨q, hq⟩ : ∃ q : Nat, (gI τ 7 v1.toNatClampNeg).toInt = q := ⟨(gI τ 7 v1.toNatClampNeg).toInt.toNat, by omega⟩
              obtain ⟨p, hp⟩ : ∃ p : Nat, (gI τ 6 v1.toNatClampNeg).toInt = p := ⟨(gI τ 6 v1.toNatClampNeg).toInt.toNat, by omega⟩
              obtain ⟨L, hLL⟩ : ∃ L : Nat, v3.toInt = L := ⟨v3.toInt.toNat, by omega⟩
              obtain ⟨M, hM⟩ : ∃ M : Nat, v4.toInt = M := ⟨v4.toInt.toNat, by omega⟩
              have work : ∀ (s0 : Int32) (s1 : Int64) (sg : Int), s0.toInt = sg → s1.toInt = sg → (sg = 1 ∨ sg = -1) → ∃ x v τ' σ', b_X11_drift_93 n 4 v1 v2 v3 v4 s0 τ = some (x, τ') ∧ d_X12_drift_114 n v2 v3 v4 (gI τ 6 v1.toNatClampNeg) (gI τ 7 v1.toNatClampNeg) (2 * gI τ 7 v1.toNatClampNeg) s1 (pI σ 130 0 0) = some (v, σ') ∧ RXg x v (gI σ' 130 0) ∧ Rl (c + 1) τ' σ' ∧ ToX 69 74 τ τ' := by
                intro s0 s1 sg e0 e1 hs
                have t2 : (2 * gI τ 7 v1.toNatClampNeg).toInt = ((2 * q : Nat) : Int) := by
                  have o2 : (2 : Int32).toInt = 2 := rfl
                  rw [i32_mul (by rw [o2]; omega) (by rw [o2]; omega), o2]; omega
                obtain ⟨x, R, r', f', g', w1, w2, w3⟩ := drift_ref (σ := pI σ 130 0 0) (n := n) (N := 2 * q) (q := q) (p := p) (M := M) (L := L) (m := v2.toInt) (sg := sg) (v2 := v2) (v3 := v3) (v4 := v4) (v7 := gI τ 6 v1.toNatClampNeg) (v8 := gI τ 7 v1.toNatClampNeg) (v9 := 2 * gI τ 7 v1.toNatClampNeg) (v10 := s1) (by omega) ⟨by omega, rfl, rfl, q3.1, q3.2, hq, t2, e1, hs⟩ hp (by omega) hM (by omega) hLL (by omega)
                obtain ⟨τ1, N, B, Jn, m1, m2, m3, m4⟩ := measure_v (τ := τ) (n := n) (q := q) (p := p) (M := M) (m := v2.toInt) (sg := sg) (vp := gI τ 6 v1.toNatClampNeg) (vq := gI τ 7 v1.toNatClampNeg) (vm := v2) (vM := v4) (vs := s0) (by omega) hL hq (by omega) (by omega) hp (by omega) rfl q3 hM e0 hs
                obtain ⟨R2, x2, τ2, g1, g2, g3, g4⟩ := greatest_v (n := n) (v1 := v3) (by omega) m3 m2 (by omega) hs hLL (by omega) (by omega)
                have ex : x2 = x := Gr_one g2 w2
                have hL1 := m4.2.2.2
                obtain ⟨r1', r2', -, -, o1', -, o3'⟩ := Lay_r hL1
                have qp : 0 < q := m2.1
                have gb := Gr_b w2 qp hs
                have qL : q * L ≤ 100 * 12 := Nat.mul_le_mul (by omega) (by omega)
                have rb := Int.natAbs_tdiv_le_natAbs x q
                have eR : s0 * R2 = R := by
                  rw [i32_eq, w3, i32_mul (by rw [e0, g3, ex]; rcases hs with z | z <;> rw [z] <;> omega) (by rw [e0, g3, ex]; rcases hs with z | z <;> rw [z] <;> omega), e0, g3, ex]
                  rcases hs with z | z
                  · rw [z, Int.one_mul, Int.one_mul]
                  · rw [z, Int.neg_mul, Int.neg_mul, Int.one_mul, Int.one_mul, Int.neg_tdiv]
                have f := Fdr_tr m4 g4
                refine ⟨.inl R, R, τ2, _, ?_, w1, Or.inl ⟨rfl, ?_⟩, Rl_drift h f, f.2.2.2, ⟨by show τ.1.1 ≤ τ2.1.1; rw [f.2.1]; exact Nat.le_refl _, by show τ2.1.1 ≤ τ.1.1 + 1; rw [f.2.1]; omega, by rw [f.2.2.1]; omega, by show τ2.1.2.2 0 = τ.1.2.2 0; rw [f.2.1]⟩, fun a _ ha => f.1 a (by omega)⟩
                · unfold b_X11_drift_93
                  simp only [nm_t, r1, r2, r3, r4]
                  rw [ck_t o1, ck_t (show ¬ (69 : Nat) = 0 by decide), ck_t (show ¬ (5 : Nat) = 0 by decide), ck_t o2, ck_t (show ¬ (6 : Nat) = 0 by decide), ck_t ((okA_iff hL (ar67 (by omega))).mpr hx), ck_t o2, ck_t (show ¬ (7 : Nat) = 0 by decide), ck_t ((okA_iff hL (ar67 (by omega))).mpr hx), ck_t o3, m1, bp_s, r2', ck_t o1', ck_t (show ¬ (69 : Nat) = 0 by decide), ck_t o3', g1, bd_s, eR]
                · unfold Sd; simp (disch := omega) only [gI_pI_s, gJ_pJ_s, gD_pD_s, gI_pJ, gI_pD, gJ_pI, gJ_pD, gD_pI, gD_pJ, gI_pI_a, gJ_pJ_a, gD_pD_a, gI_pI_k, gJ_pJ_k, gD_pD_k, gI_mI_i, gJ_mJ_i, gD_mD_i, gI_mJ, gI_mD, gJ_mI, gJ_mD, gD_mI, gD_mJ, gI_mI_a, gJ_mJ_a, gD_mD_a, gI_mI_o, gJ_mJ_o, gD_mD_o]
              unfold d_X12_drift_67
              rw [ref_t, bd_s, if_pos rfl, ck_t hx, nm_t, ck_t hx, nm_t, nm_t]
              rw [show gI (pI σ 130 0 0) 131 v1.toNatClampNeg = gI τ 6 v1.toNatClampNeg by rw [gI_pI_a (by decide)]; exact t1, show gI (pI σ 130 0 0) 132 v1.toNatClampNeg = gI τ 7 v1.toNatClampNeg by rw [gI_pI_a (by decide)]; exact ‹gI σ 132 v1.toNatClampNeg = gI τ 7 v1.toNatClampNeg›]
              by_cases q7 : v5 = 0
              · rw [if_pos q7, if_pos q7]
                exact work 1 1 1 rfl rfl (Or.inl rfl)
              · rw [if_neg q7, if_neg q7]
                exact work (-1) (-1) (-1) rfl rfl (Or.inr rfl)
            · rw [if_neg q6]
              by_cases q7 : v5.toInt < 0
              · rw [if_pos q7]; exact bad
              · rw [if_neg q7, if_neg (by omega)]; exact bad
          · rw [if_neg q5]
            by_cases q7 : v4.toInt < 0
            · rw [if_pos q7]; exact bad
            · rw [if_neg q7, if_pos (by omega)]; exact bad
        · rw [if_neg q4]
          by_cases q7 : v3.toInt < 1
          · rw [if_pos q7]; exact bad
          · rw [if_neg q7, if_pos (by omega)]; exact bad
      · rw [if_neg q3, if_neg q3]; exact bad
  · rw [if_neg q1, if_neg q1]; exact bad
end DRF
