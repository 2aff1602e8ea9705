section DRG
variable {τ σ : Sg} {N q p M B Jn O : Nat} {m sg : Int}
theorem S2_70 {f g : Nat → Int32} {k : Nat} {v : Int32} (h : k < N) : pI (mI (mI τ 70 0 N f) 71 0 N g) 70 k v = mI (mI τ 70 0 N (uI f k v)) 71 0 N g := by
  rw [← mI_pI (by decide), mI_uI ⟨by omega, h⟩]
theorem S2_71 {f g : Nat → Int32} {k : Nat} {v : Int32} (h : k < N) : pI (mI (mI τ 70 0 N f) 71 0 N g) 71 k v = mI (mI τ 70 0 N f) 71 0 N (uI g k v) := mI_uI ⟨by omega, h⟩
theorem cm30 {vp vm vM vs : Int32} (hL : Lay τ) (hN : (gI τ 69 4).toInt = N) (hN2 : N ≤ 200) (hq : (gI τ 69 5).toInt = q) (hq1 : 1 ≤ q) (hq2 : q ≤ 100) (hp : vp.toInt = p) (hp2 : p ≤ 10000) (hm : vm.toInt = m) (hm2 : 0 ≤ m ∧ m ≤ 5) (hM : vM.toInt = M) (hs : vs.toInt = sg) (hs2 : sg = 1 ∨ sg = -1) :
    ∀ (d n : Nat) (k : Int32) (f g : Nat → Int32), (∀ c, c < k.toNatClampNeg → (f c).toInt = sg * SlQ q m (c * p) ∧ (g c).toInt = if c ≤ M then sg * SlQ q m (c * p) else (-1000000 : Int)) → 0 ≤ k.toInt → k.toInt + d = N → d < n →
    ∃ f' g', b_X1_measure_30 n 69 vp vm vM vs k (mI (mI τ 70 0 N f) 71 0 N g) = some (mI (mI τ 70 0 N f') 71 0 N g') ∧ ∀ c, c < N → (f' c).toInt = sg * SlQ q m (c * p) ∧ (g' c).toInt = if c ≤ M then sg * SlQ q m (c * p) else (-1000000 : Int) := by
  intro d
  have g0 : gR τ 69 0 = 70 := hL.2.2.2.1.1
  have g1 : gR τ 69 1 = 71 := hL.2.2.2.1.2.1
  induction d with
  | zero =>
    intro n k f g h hk0 hk1 hn
    obtain ⟨n, rfl⟩ : ∃ k, n = k + 1 := ⟨n - 1, by omega⟩
    have nk := nat0 hk0
    refine ⟨f, g, ?_, fun c hc => h c (by omega)⟩
    rw [b_X1_measure_30, ck_t (show okO (mI (mI τ 70 0 N f) 71 0 N g) 69 1 from lo1 (σ := τ) hL), gI_mI_a (by decide), gI_mI_a (by decide), if_pos (by rw [i32_le]; omega)]
  | succ d ih =>
    intro n k f g h hk0 hk1 hn
    obtain ⟨n, rfl⟩ : ∃ k, n = k + 1 := ⟨n - 1, by omega⟩
    obtain ⟨c1, c2, c3⟩ := cnt1 (v := k) (m := 300) hk0 (by omega) (by decide)
    have hk : ix k 200 := ix_of hk0 (by omega)
    have kp : k.toNatClampNeg * p ≤ 200 * 10000 := Nat.mul_le_mul (by omega) hp2
    have e1 : (k.toInt64 * vp.toInt64).toInt = ((k.toNatClampNeg * p : Nat) : Int) := by
      rw [i64_mul (by rw [i64_of32, i64_of32, hp, ← c3, ← Int.natCast_mul]; omega) (by rw [i64_of32, i64_of32, hp, ← c3, ← Int.natCast_mul]; omega), i64_of32, i64_of32, hp, ← c3, Int.natCast_mul]
    have o1 : (1 : Int64).toInt = 1 := rfl
    have eq5 : gI (mI (mI τ 70 0 N f) 71 0 N g) 69 5 = gI τ 69 5 := by rw [gI_mI_a (by decide), gI_mI_a (by decide)]
    obtain ⟨x, x1, x2⟩ := rounding_v (n := k.toInt64 * vp.toInt64) (l := (gI τ 69 5).toInt64) (k := 1) (m := vm) (by rw [i64_of32]; omega) (by rw [o1]; omega) (by rw [i64_of32, o1]; omega) (by rw [e1]; omega) (by rw [e1]; omega) (by omega)
    rw [e1, i64_of32, o1, Int.mul_one, Int.mul_one, hq, hm] at x2
    have sb := SlQ_b (q := q) (m := m) (x := k.toNatClampNeg * p) (by omega)
    have s2 := sg_b hs2 sb.1 sb.2
    have es : SlQ q m (k.toNatClampNeg * p) = (q : Int) * x.toInt - ((k.toNatClampNeg * p : Nat) : Int) := by unfold SlQ; rw [← x2]
    have p1 : ((gI τ 69 5).toInt64 * x).toInt = (q : Int) * x.toInt := by
      rw [i64_mul (by rw [i64_of32, hq]; omega) (by rw [i64_of32, hq]; omega), i64_of32, hq]
    have p2 : ((gI τ 69 5).toInt64 * x - k.toInt64 * vp.toInt64).toInt = SlQ q m (k.toNatClampNeg * p) := by
      rw [i64_sub (by rw [p1, e1]; omega) (by rw [p1, e1]; omega), p1, e1, es]
    have p3 : (((gI τ 69 5).toInt64 * x - k.toInt64 * vp.toInt64).toInt32).toInt = SlQ q m (k.toNatClampNeg * p) := by
      rw [Jvm.FP.Core.int64_toInt32 (by rw [p2]; omega) (by rw [p2]; omega), p2]
    have p4 : (vs * (((gI τ 69 5).toInt64 * x - k.toInt64 * vp.toInt64).toInt32)).toInt = sg * SlQ q m (k.toNatClampNeg * p) := by
      rw [i32_mul (by rw [p3, hs]; omega) (by rw [p3, hs]; omega), p3, hs]
    have kN : k.toNatClampNeg < N := by omega
    rw [b_X1_measure_30, ck_t (show okO (mI (mI τ 70 0 N f) 71 0 N g) 69 1 from lo1 (σ := τ) hL), eq5]
    rw [show gI (mI (mI τ 70 0 N f) 71 0 N g) 69 4 = gI τ 69 4 by rw [gI_mI_a (by decide), gI_mI_a (by decide)], if_neg (by rw [i32_le]; omega)]
    have eR : gR (mI (mI τ 70 0 N f) 71 0 N g) 69 = gR τ 69 := rfl
    simp only [nm_t, eR, g0]
    rw [ck_t (show ¬ (70 : Nat) = 0 by decide), x1, bp_s, ck_t ((okW_iff (show Lay (mI (mI τ 70 0 N f) 71 0 N g) from hL) (ar_d (by omega))).mpr hk), S2_70 kN]
    generalize vs * (((gI τ 69 5).toInt64 * x - k.toInt64 * vp.toInt64).toInt32) = y at *
    have eR2 : gR (mI (mI τ 70 0 N (uI f k.toNatClampNeg y)) 71 0 N g) 69 = gR τ 69 := rfl
    unfold b_X1_measure_104
    simp only [nm_t, eR2, g0, g1]
    have L2 : Lay (mI (mI τ 70 0 N (uI f k.toNatClampNeg y)) 71 0 N g) := hL
    rw [ck_t (lo1 L2), ck_t (show ¬ (71 : Nat) = 0 by decide), ck_t ((okW_iff L2 (ar_d (by omega))).mpr hk), ck_t (show ¬ (70 : Nat) = 0 by decide), ck_t ((okA_iff L2 (ar_d (by omega))).mpr hk), ck_t ((okW_iff L2 (ar_d (by omega))).mpr hk), S2_71 kN, S2_71 kN, gI_mI_a (by decide), gI_mI_i ⟨by omega, kN⟩, uI_s]
    have fin : ∀ z : Int32, (z.toInt = if k.toNatClampNeg ≤ M then sg * SlQ q m (k.toNatClampNeg * p) else (-1000000 : Int)) → ∃ f' g', b_X1_measure_30 n 69 vp vm vM vs (k + 1) (mI (mI τ 70 0 N (uI f k.toNatClampNeg y)) 71 0 N (uI g k.toNatClampNeg z)) = some (mI (mI τ 70 0 N f') 71 0 N g') ∧ ∀ c, c < N → (f' c).toInt = sg * SlQ q m (c * p) ∧ (g' c).toInt = if c ≤ M then sg * SlQ q m (c * p) else (-1000000 : Int) := by
      intro z hz
      refine ih n (k + 1) _ _ (fun c hc => ?_) (by omega) (by omega) (by omega)
      by_cases q1 : c = k.toNatClampNeg
      · rw [q1, uI_s, uI_s]; exact ⟨p4, hz⟩
      · rw [uI_o q1, uI_o q1]; exact h c (by omega)
    by_cases q1 : vM < k
    · rw [if_pos q1]
      rw [i32_lt] at q1
      exact fin _ (by rw [if_neg (by omega)]; rfl)
    · rw [if_neg q1]
      rw [i32_lt] at q1
      exact fin _ (by rw [if_pos (by omega)]; exact p4)
theorem measure_v {n : Nat} {vp vq vm vM vs : Int32} (hn : 300 ≤ n) (hL : Lay τ) (hq : vq.toInt = q) (hq1 : 1 ≤ q) (hq2 : q ≤ 100) (hp : vp.toInt = p) (hp2 : p ≤ 10000) (hm : vm.toInt = m) (hm2 : 0 ≤ m ∧ m ≤ 5) (hM : vM.toInt = M) (hs : vs.toInt = sg) (hs2 : sg = 1 ∨ sg = -1) :
    ∃ τ' N B Jn, f_X1_measure n 69 vp vq vm vM vs τ = some τ' ∧ Per q m N ∧ Cd q p M N m sg τ' B Jn ∧ Fdr τ τ' := by
  have key : ∀ (vN : Int32) (N : Nat), vN.toInt = N → N ≤ 200 → ∃ τ' B Jn, b_X1_measure_24 n 69 vp vm vM vs vN 69 (pI τ 69 5 vq) = some τ' ∧ Cd q p M N m sg τ' B Jn ∧ Fdr τ τ' := by
    intro vN N hN hN2
    have hL2 : Lay (pI (pI τ 69 5 vq) 69 4 vN) := hL
    have e4 : gI (pI (pI τ 69 5 vq) 69 4 vN) 69 4 = vN := gI_pI_s
    have e5 : gI (pI (pI τ 69 5 vq) 69 4 vN) 69 5 = vq := by rw [gI_pI_k (by decide), gI_pI_s]
    have z0 : (0 : Int32).toNatClampNeg = 0 := rfl
    obtain ⟨f', g', a1, a2⟩ := cm30 (N := N) (q := q) (p := p) (M := M) (m := m) (sg := sg) (vp := vp) (vm := vm) (vM := vM) (vs := vs) hL2 (by rw [e4]; exact hN) hN2 (by rw [e5]; exact hq) hq1 hq2 hp hp2 hm hm2 hM hs hs2 N n 0 (gI (pI (pI τ 69 5 vq) 69 4 vN) 70) (gI (pI (pI τ 69 5 vq) 69 4 vN) 71) (fun c hc => by rw [z0] at hc; omega) (by decide) (by simp only [Int32.reduceToInt]; omega) (by omega)
    have i1 : mI (mI (pI (pI τ 69 5 vq) 69 4 vN) 70 0 N (gI (pI (pI τ 69 5 vq) 69 4 vN) 70)) 71 0 N (gI (pI (pI τ 69 5 vq) 69 4 vN) 71) = pI (pI τ 69 5 vq) 69 4 vN := by
      rw [mI_idt (a := 70) (fun _ _ _ => rfl), mI_idt (fun _ _ _ => rfl)]
    rw [i1] at a1
    obtain ⟨B, Jn, bj⟩ : ∃ B Jn, BJ τ B Jn := by
      rcases hL.2.2.2.1.2.2 with ⟨x1, x2⟩ | ⟨x1, x2⟩
      · exact ⟨72, 73, hL, x1, x2, by omega⟩
      · exact ⟨73, 72, hL, x1, x2, by omega⟩
    refine ⟨mI (mI (pI (pI τ 69 5 vq) 69 4 vN) 70 0 N f') 71 0 N g', B, Jn, ?_, ⟨⟨hL, bj.2⟩, ?_, ?_, fun c hc => ?_, fun c hc => ?_⟩, ⟨fun a ha => Sm_mI (Sm_mI (Sm_pI (Sm_pI Sm_refl (by omega)) (by omega)) (by omega)) (by omega), rfl, rfl, hL⟩⟩
    · unfold b_X1_measure_24
      rw [ck_t (show okO (pI τ 69 5 vq) 69 1 from lo1 (σ := τ) hL), nm_t]
      exact a1
    · rw [gI_mI_a (by decide), gI_mI_a (by decide), e4]; exact hN
    · rw [gI_mI_a (by decide), gI_mI_a (by decide), e5]; exact hq
    · rw [gI_mI_a (by decide), gI_mI_i ⟨by omega, hc⟩]; exact (a2 c hc).1
    · rw [gI_mI_i ⟨by omega, hc⟩]; exact (a2 c hc).2
  have e5 : gI (pI τ 69 5 vq) 69 5 = vq := gI_pI_s
  unfold f_X1_measure
  rw [ck_t (lo1 hL), nm_t, ck_t (show okO (pI τ 69 5 vq) 69 1 from lo1 (σ := τ) hL), ck_t (show okO (pI τ 69 5 vq) 69 1 from lo1 (σ := τ) hL), e5]
  by_cases m1 : vm = 1
  · rw [if_pos m1]
    have t2 : (2 * vq).toInt = ((2 * q : Nat) : Int) := by
      have o2 : (2 : Int32).toInt = 2 := rfl
      rw [i32_mul (by rw [o2]; omega) (by rw [o2]; omega), o2]; omega
    obtain ⟨τ', B, Jn, x1, x2, x3⟩ := key (2 * vq) (2 * q) t2 (by omega)
    exact ⟨τ', 2 * q, B, Jn, x1, ⟨by omega, Or.inr rfl⟩, x2, x3⟩
  · rw [if_neg m1]
    obtain ⟨τ', B, Jn, x1, x2, x3⟩ := key vq q hq (by omega)
    refine ⟨τ', q, B, Jn, x1, ⟨by omega, Or.inl ⟨rfl, ?_⟩⟩, x2, x3⟩
    rw [i32_eq, show (1 : Int32).toInt = 1 from rfl] at m1
    omega
/-- the best of c lines stand in the row -/
def Gd (q p M N : Nat) (m sg : Int) (c : Nat) (τ : Sg) : Prop := ∃ B Jn, Cd q p M N m sg τ B Jn ∧ Tb q p M m sg (fun s => s % N) N c (-1000000 : Int) (fun k => (gI τ B k).toInt)
theorem gstep {n c : Nat} {v1 v2 : Int32} (hn : 1000 ≤ n) (h : Gd q p M N m sg c τ) (hp : Per q m N) (hq2 : q ≤ 100) (hs : sg = 1 ∨ sg = -1) (hc : c ≤ 12) (hv : ¬ v2 ≤ 0) :
    ∃ τ', b_X1_greatest_24 (n + 1) 69 v1 v2 τ = b_X1_greatest_24 n 69 v1 (v2 >>> ((1 : Int32) &&& 31)) τ' ∧ Gd q p M N m sg (if v1 &&& v2 = 0 then c + c else c + c + 1) τ' ∧ Fdr τ τ' := by
  obtain ⟨B, Jn, hC, hT⟩ := h
  have hB := hC.1
  obtain ⟨hL, b2, b3, b4⟩ := hB
  obtain ⟨τ1, e1, c1, t1, f1⟩ := join_v (n := n) hn hC hp hq2 hs (by omega) (by omega) (Or.inl rfl) hT hT
  have c1' := c1
  obtain ⟨⟨hL1, -, -, -⟩, -⟩ := c1'
  rw [b_X1_greatest_24, if_neg hv, ck_t (lo1 hL), b2, ck_t (show ¬ B = 0 by omega), nm_t, e1, bp_s]
  unfold b_X1_greatest_50
  simp only [nm_t]
  by_cases q1 : v1 &&& v2 = 0
  · rw [if_pos q1, if_pos q1]
    exact ⟨τ1, rfl, ⟨Jn, B, c1, t1⟩, f1⟩
  · rw [if_neg q1, if_neg q1]
    obtain ⟨τ2, e2, c2, t2, f2⟩ := join_v (n := n) hn c1 hp hq2 hs (by omega) (n2 := 1) (by omega) (Or.inr rfl) t1 (single_v c1 hp hq2 hs)
    rw [ck_t (lo1 hL1), hL1.2.2.2.1.2.1, ck_t (show ¬ (71 : Nat) = 0 by decide), e2, bp_s]
    exact ⟨τ2, rfl, ⟨B, Jn, c2, t2⟩, Fdr_tr f1 f2⟩
theorem cg62 (hC : Cd q p M N m sg τ B Jn) (hN2 : N ≤ 200) (hq1 : 1 ≤ q) (hq2 : q ≤ 100) (hs : sg = 1 ∨ sg = -1) (hF : ∀ c, c < N → (gI τ B c).toInt ≠ (-1000000 : Int) → -5000 ≤ (gI τ B c).toInt ∧ (gI τ B c).toInt ≤ 5000) :
    ∀ (d n : Nat) (k x : Int32), Gp (-1000000 : Int) (fun c => (gI τ B c).toInt) (fun c => sg * SlQ q m (c * p)) k.toNatClampNeg x.toInt → 0 ≤ k.toInt → k.toInt + d = N → d < n →
    ∃ w x', b_X1_greatest_62 n 69 x k τ = b_X1_greatest_105 w 69 x' τ ∧ Gp (-1000000 : Int) (fun c => (gI τ B c).toInt) (fun c => sg * SlQ q m (c * p)) N x'.toInt := by
  obtain ⟨⟨hL, b2, b3, b4⟩, h1, h2, h3, h4⟩ := hC
  have g0 : gR τ 69 0 = 70 := hL.2.2.2.1.1
  intro d
  induction d with
  | zero =>
    intro n k x hG hk0 hk1 hn
    obtain ⟨n, rfl⟩ : ∃ k, n = k + 1 := ⟨n - 1, by omega⟩
    have nk := nat0 hk0
    refine ⟨n, x, by rw [b_X1_greatest_62, ck_t (lo1 hL), if_pos (by rw [i32_le]; omega)], ?_⟩
    rw [show k.toNatClampNeg = N by omega] at hG
    exact hG
  | succ d ih =>
    intro n k x hG hk0 hk1 hn
    obtain ⟨n, rfl⟩ : ∃ k, n = k + 1 := ⟨n - 1, by omega⟩
    obtain ⟨c1, c2, c3⟩ := cnt1 (v := k) (m := 300) hk0 (by omega) (by decide)
    have hk : ix k 200 := ix_of hk0 (by omega)
    rw [b_X1_greatest_62, ck_t (lo1 hL), if_neg (by rw [i32_le]; omega), b2, g0, ck_t (show ¬ B = 0 by omega)]
    unfold b_X1_greatest_99
    simp only [nm_t]
    rw [ck_t ((okA_iff hL (ar_d (by omega))).mpr hk), ck_t ((okA_iff hL (ar_d (by omega))).mpr hk), ck_t (show ¬ (70 : Nat) = 0 by decide), ck_t ((okA_iff hL (ar_d (by omega))).mpr hk)]
    by_cases q1 : (gI τ B k.toNatClampNeg).toInt = (-1000000 : Int)
    · rw [if_pos (by rw [i32_eq, U32]; exact q1)]
      exact ih n (k + 1) x (by rw [c2]; exact Gp_skip hG q1) (by omega) (by omega) (by omega)
    · have fb := hF _ (by omega) q1
      rw [if_neg (by rw [i32_eq, U32]; exact q1)]
      have e3 := h3 k.toNatClampNeg (by omega)
      have sb := SlQ_b (q := q) (m := m) (x := k.toNatClampNeg * p) (by omega)
      have s2 := sg_b hs sb.1 sb.2
      have t1 : (gI τ B k.toNatClampNeg - gI τ 70 k.toNatClampNeg).toInt = (gI τ B k.toNatClampNeg).toInt - sg * SlQ q m (k.toNatClampNeg * p) := by
        rw [i32_sub (by omega) (by omega), e3]
      unfold f_J9_max_7cf53
      by_cases q2 : x.toInt < (gI τ B k.toNatClampNeg).toInt - sg * SlQ q m (k.toNatClampNeg * p)
      · rw [if_pos (by rw [i32_lt, t1]; exact q2), bp_s]
        refine ih n (k + 1) _ ?_ (by omega) (by omega) (by omega)
        rw [c2, t1]
        exact Gp_put hG q1 (by omega)
      · rw [if_neg (by rw [i32_lt, t1]; exact q2), bp_s]
        exact ih n (k + 1) x (by rw [c2]; exact Gp_keep hG (by omega)) (by omega) (by omega) (by omega)
theorem Fdr_refl (h : Lay τ) : Fdr τ τ := ⟨fun _ _ => Sm_refl, rfl, rfl, h⟩
theorem g57 {n c : Nat} (hn : 300 ≤ n) (h : Gd q p M N m sg c τ) (hp : Per q m N) (hq2 : q ≤ 100) (hs : sg = 1 ∨ sg = -1) (hc : c ≤ 24) :
    ∃ R x, b_X1_greatest_57 n 69 τ = some (R, τ) ∧ Gr q p M c m sg x ∧ R.toInt = x.tdiv q := by
  obtain ⟨B, Jn, hC, hT⟩ := h
  have hq : 0 < q := hp.1
  have hN2 : N ≤ 200 := by have := hp.2; omega
  have q1 : q * c ≤ 100 * 24 := Nat.mul_le_mul hq2 hc
  have z0 : (0 : Int32).toNatClampNeg = 0 := rfl
  have hF : ∀ c, c < N → (gI τ B c).toInt ≠ (-1000000 : Int) → -5000 ≤ (gI τ B c).toInt ∧ (gI τ B c).toInt ≤ 5000 := by
    intro c hc hf
    have := Tb_b hT hq hs hc hf
    omega
  obtain ⟨w, x, e1, e2⟩ := cg62 hC hN2 hq hq2 hs hF N n 0 (-1000000) (by rw [z0]; exact Gp_start) (by decide) (by simp only [Int32.reduceToInt]; omega) (by omega)
  obtain ⟨⟨hL, b2, b3, b4⟩, h1, h2, h3, h4⟩ := hC
  have gr : Gr q p M c m sg x.toInt := Gp_Gr (κ := fun s => s % N) (fun s => by
    rw [SlQ_cong hp (x := s % N * p) (y := s * p) (by rw [Nat.mul_mod, Nat.mod_mod, ← Nat.mul_mod])]) hT (fun l hl => by have := Gr_lo (q := q) (n := c) (sg := sg) (l := l) (p := p) (m := m) hq hs hl; omega) e2
  have gb := Gr_b gr hq hs
  refine ⟨x / gI τ 69 5, x.toInt, ?_, gr, by rw [i32_div (by omega), h2]⟩
  unfold b_X1_greatest_57
  rw [e1, b_X1_greatest_105, ck_t (lo1 hL), if_neg (by rw [i32_le]; show ¬ _ ≤ (0 : Int); omega), ck_t (by rw [i32_eq]; show ¬ _ = (0 : Int); omega)]
end DRG
