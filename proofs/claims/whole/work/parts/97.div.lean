section DIV
theorem isum_W {f : Nat → Int32} {k : Nat} : isum (fun j => (f j).toInt) k = wsum f k := by
  induction k with
  | zero => rfl
  | succ k ih => rw [isum, wsum, ih]
theorem wsum_ge {f : Nat → Int32} {k j : Nat} (h : ∀ j, j < k → 0 ≤ (f j).toInt) (hj : j < k) : (f j).toInt ≤ wsum f k := by
  induction k with
  | zero => omega
  | succ k ih =>
    rw [wsum]
    have hk := h k (by omega)
    by_cases e : j = k
    · subst e
      have : 0 ≤ wsum f j := by
        clear ih hk hj
        induction j with
        | zero => rw [wsum]; omega
        | succ j im =>
          rw [wsum]
          have := im (fun i hi => h i (by omega))
          have := h j (by omega)
          omega
      omega
    · have := ih (fun i hi => h i (by omega)) (by omega)
      omega
/-- what is known of a set's weights -/
theorem wts_v {τ : Sg} {z : Nat} (hm : 0 ≤ (gI τ 13 z).toInt ∧ (gI τ 13 z).toInt ≤ 8) (hw : ∀ j, j < 8 → 0 ≤ (gI τ (z + 9) j).toInt ∧ (gI τ (z + 9) j).toInt ≤ 1000) :
    1 ≤ wN τ z ∧ wN τ z ≤ 8 ∧ 1 ≤ wS τ z ∧ wS τ z ≤ 8000 ∧ (∀ j, j < wN τ z → 0 ≤ wW τ z j ∧ wW τ z j ≤ 1000 ∧ wW τ z j ≤ wS τ z) ∧ isum (wW τ z) (wN τ z) = wS τ z := by
  have n1 := nat0 hm.1
  have b := wsum_b (f := gI τ (z + 9)) (k := (gI τ 13 z).toNatClampNeg) (fun j hj => hw j (by omega))
  by_cases q : wT τ z = 0
  · have e1 : wN τ z = 2 := by unfold wN; rw [if_pos q]
    have e2 : wS τ z = 2 := by unfold wS; rw [if_pos q]
    have e3 : wW τ z = fun _ => 1 := by funext j; unfold wW; rw [if_pos q]
    rw [e1, e2, e3]
    refine ⟨by omega, by omega, by omega, by omega, fun j _ => ⟨(by decide : (0 : Int) ≤ 1), (by decide : (1 : Int) ≤ 1000), (by decide : (1 : Int) ≤ 2)⟩, ?_⟩
    rfl
  · have e1 : wN τ z = (gI τ 13 z).toNatClampNeg := by unfold wN; rw [if_neg q]
    have e2 : wS τ z = wT τ z := by unfold wS; rw [if_neg q]
    have e3 : wW τ z = fun j => (gI τ (z + 9) j).toInt := by funext j; unfold wW; rw [if_neg q]
    have e4 : wT τ z = wsum (gI τ (z + 9)) (gI τ 13 z).toNatClampNeg := rfl
    rw [e1, e2, e3]
    have np : 1 ≤ (gI τ 13 z).toNatClampNeg := by
      by_cases c : 1 ≤ (gI τ 13 z).toNatClampNeg
      · exact c
      · have : (gI τ 13 z).toNatClampNeg = 0 := by omega
        rw [this] at e4
        exact absurd e4 q
    refine ⟨np, by omega, by omega, by omega, fun j hj => ⟨(hw j (by omega)).1, (hw j (by omega)).2, ?_⟩, ?_⟩
    · rw [e4]; exact wsum_ge (fun i hi => (hw i (by omega)).1) hj
    · rw [isum_W, e4]
theorem Pf_hi {x S : Int} {W : Nat → Int} {N j : Nat} {rule : Int} (h : N ≤ j) : Pf x S W N rule j = 0 := by unfold Pf; rw [if_pos h]
/-- the component's splitter -/
theorem divide_v {n A z : Nat} {τ : Sg} {X : Int64} {rule sz : Int32} (hn : 100 ≤ n) (hA : O6 A) (hz : z < 4) (hsz : gI τ 13 z = sz) (hm : 0 ≤ sz.toInt ∧ sz.toInt ≤ 8) (hw : ∀ j, j < 8 → 0 ≤ (gI τ (z + 9) j).toInt ∧ (gI τ (z + 9) j).toInt ≤ 1000) (hx : -1099511627776 ≤ X.toInt ∧ X.toInt ≤ 1099511627776) (hr : 0 ≤ rule.toInt ∧ rule.toInt ≤ 3) :
    ∃ τ', c_X7_divide n A X rule (z + 9) sz τ = some τ' ∧ (∀ j, j < 8 → gJ τ' (A + 1) j = J (Pf X.toInt (wS τ z) (wW τ z) (wN τ z) rule.toInt j)) ∧ gI τ' A 1 = 1 ∧ gJ τ' A 6 = X ∧ (gI τ' A 4).toInt = wN τ z ∧ (gJ τ' A 5).toInt = wS τ z ∧ (∀ j, j < wN τ z → (gI τ' (A + 2) j).toInt = wW τ z j) ∧ (∀ a, ¬ (A ≤ a ∧ a ≤ A + 3) → Sm τ τ' a) ∧ Lay τ' = Lay τ := by
  have hA' : A = 25 ∨ A = 39 ∨ A = 52 ∨ A = 63 := hA
  have z0 : (0 : Int32).toNatClampNeg = 0 := rfl
  -- wiped
  have wp : ∀ (d n : Nat) (k : Int32) (σ : Sg), 0 ≤ k.toInt → k.toInt + d = 8 → d < n → d_X7_wipe_2 n A k σ = some (pI (mJ σ (A + 1) k.toNatClampNeg 8 (fun _ => 0)) A 1 0) := by
    intro d
    induction d with
    | zero =>
      intro n k σ h3 h4 h5
      obtain ⟨n, rfl⟩ : ∃ k, n = k + 1 := ⟨n - 1, by omega⟩
      have := nat0 h3
      rw [d_X7_wipe_2, if_pos (by rw [i32_le]; simp only [Int32.reduceToInt]; omega), mJ_nil (by omega)]
      rfl
    | succ d ih =>
      intro n k σ h3 h4 h5
      obtain ⟨n, rfl⟩ : ∃ k, n = k + 1 := ⟨n - 1, by omega⟩
      obtain ⟨c1, c2, c3⟩ := cnt1 (v := k) (m := 64) h3 (by omega) (by decide)
      rw [d_X7_wipe_2, if_neg (by rw [i32_le]; simp only [Int32.reduceToInt]; omega), ck_ix (by omega), nm_t, nm_t, ih n (k + 1) _ (by omega) (by omega) (by omega), c2, mJ_step (f := fun _ => 0) (v := 0) (by omega) rfl]
  have w1 := wp 8 n 0 τ (by decide) (by decide) (by omega)
  rw [z0] at w1
  unfold c_X7_divide c_X7_wipe
  rw [w1, bp_s, nm_t, nm_t]
  generalize hτ : pJ (pI (pI (mJ τ (A + 1) 0 8 (fun _ => 0)) A 1 0) A 1 1) A 6 X = τ1
  have l1 : Lay τ1 = Lay τ := by rw [← hτ]; rfl
  have f1 : ∀ a, ¬ (A ≤ a ∧ a ≤ A + 3) → Sm τ τ1 a := fun a ha => by
    rw [← hτ]
    exact Sm_pJ (Sm_pI (Sm_pI (Sm_mJ Sm_refl (by omega)) (by omega)) (by omega)) (by omega)
  have p1 : ∀ j, j < 8 → gJ τ1 (A + 1) j = 0 := fun j hj => by rw [← hτ]; simp (disch := omega) only [gI_pI_s, gJ_pJ_s, gD_pD_s, gI_pJ, gI_pD, gJ_pI, gJ_pD, gD_pI, gD_pJ, gI_pI_a, gJ_pJ_a, gD_pD_a, gI_pI_k, gJ_pJ_k, gD_pD_k, gI_mI_i, gJ_mJ_i, gD_mD_i, gI_mJ, gI_mD, gJ_mI, gJ_mD, gD_mI, gD_mJ, gI_mI_a, gJ_mJ_a, gD_mD_a, gI_mI_o, gJ_mJ_o, gD_mD_o]
  have u1 : gI τ1 A 1 = 1 := by rw [← hτ]; simp (disch := omega) only [gI_pI_s, gJ_pJ_s, gD_pD_s, gI_pJ, gI_pD, gJ_pI, gJ_pD, gD_pI, gD_pJ, gI_pI_a, gJ_pJ_a, gD_pD_a, gI_pI_k, gJ_pJ_k, gD_pD_k, gI_mI_i, gJ_mJ_i, gD_mD_i, gI_mJ, gI_mD, gJ_mI, gJ_mD, gD_mI, gD_mJ, gI_mI_a, gJ_mJ_a, gD_mD_a, gI_mI_o, gJ_mJ_o, gD_mD_o]
  have x1 : gJ τ1 A 6 = X := by rw [← hτ]; simp (disch := omega) only [gI_pI_s, gJ_pJ_s, gD_pD_s, gI_pJ, gI_pD, gJ_pI, gJ_pD, gD_pI, gD_pJ, gI_pI_a, gJ_pJ_a, gD_pD_a, gI_pI_k, gJ_pJ_k, gD_pD_k, gI_mI_i, gJ_mJ_i, gD_mD_i, gI_mJ, gI_mD, gJ_mI, gJ_mD, gD_mI, gD_mJ, gI_mI_a, gJ_mJ_a, gD_mD_a, gI_mI_o, gJ_mJ_o, gD_mD_o]
  have g13 : gI τ1 13 = gI τ 13 := (f1 13 (by omega)).1
  have gz : gI τ1 (z + 9) = gI τ (z + 9) := (f1 (z + 9) (by omega)).1
  -- weighed
  have ef : ∀ a, 9 ≤ a ∧ a ≤ 13 → gI τ1 a = gI τ a := fun a ha => (f1 a (by omega)).1
  obtain ⟨τ2, v1, v2, v3, v4, v5, v6, v7, v8, v9⟩ := weigh_v (n := n) (A := A) (z := z) (σ := τ1) (v := sz) (by omega) hA hz (by rw [g13]; exact hsz) hm (by rw [gz]; exact hw)
  rw [wN_f ef hz] at v2 v4
  rw [wS_f ef hz] at v3
  have v4' : ∀ j, j < wN τ z → (gI τ2 (A + 2) j).toInt = wW τ z j := fun j hj => by rw [v4 j hj, wW_f ef hz]
  obtain ⟨k1, k2, k3, k4, k5, k6⟩ := wts_v (τ := τ) (z := z) (by rw [hsz]; exact hm) hw
  rw [v1, bp_s]
  have x2 : gJ τ2 A 6 = X := by rw [v7 6 (by decide)]; exact x1
  have u2 : gI τ2 A 1 = 1 := by rw [v6 1 (by decide)]; exact u1
  have p2 : ∀ j, j < 8 → gJ τ2 (A + 1) j = 0 := fun j hj => by rw [(v5 (A + 1) (by omega)).2.1]; exact p1 j hj
  have f2 : ∀ a, ¬ (A ≤ a ∧ a ≤ A + 3) → Sm τ τ2 a := fun a ha => Sm_tr (f1 a ha) (v5 a (by omega))
  have sp : Spl A (wN τ z) X.toInt (wS τ z) (wW τ z) τ2 := ⟨hA, v2, k1, k2, v3, k3, k4, by rw [x2], hx.1, hx.2, v4', k5, k6⟩
  generalize hN : wN τ z = N at *
  generalize hS : wS τ z = S at *
  generalize hW : wW τ z = W at *
  generalize hX : X.toInt = x at *
  have lb := lft_b (x := x) (rule := rule.toInt) k6 (by omega)
  -- rounded
  have dv : ∀ md : Int32, (rule.toInt < 2 → md = 4) → (2 ≤ rule.toInt → md = 0) → ∃ w L', n ≤ w + N + 1 ∧ d_X7_divide_36 n A rule md τ2 = d_X7_divide_104 w A rule L' (mJ τ2 (A + 1) 0 N (fun j => J (q0 x S W rule.toInt j))) ∧ L'.toInt = lft x S W rule.toInt N := by
    intro md h1 h2
    unfold d_X7_divide_36
    rw [nm_t, x2]
    obtain ⟨w, L', a1, a2, a3⟩ := al_div (rule := rule) N n 0 X md τ2 sp h1 h2 (by rw [hX, z0, isum]; omega) (by decide) (by simp only [Int32.reduceToInt]; omega) (by omega)
    rw [z0] at a2
    exact ⟨w, L', a1, a2, a3⟩
  -- the end: from the parts' row
  have fin : ∀ (R : Sg) (G : Nat → Int64), (∀ j, j < N → gJ R (A + 1) j = J (Pf x S W N rule.toInt j)) → (∀ j, N ≤ j → j < 8 → gJ R (A + 1) j = gJ τ2 (A + 1) j) → gI R = gI τ2 → gJ R A = gJ τ2 A → (∀ a, ¬ (A ≤ a ∧ a ≤ A + 3) → Sm τ2 R a) → Lay R = Lay τ2 →
      ∃ τ', some R = some τ' ∧ (∀ j, j < 8 → gJ τ' (A + 1) j = J (Pf x S W N rule.toInt j)) ∧ gI τ' A 1 = 1 ∧ gJ τ' A 6 = X ∧ (gI τ' A 4).toInt = N ∧ (gJ τ' A 5).toInt = S ∧ (∀ j, j < N → (gI τ' (A + 2) j).toInt = W j) ∧ (∀ a, ¬ (A ≤ a ∧ a ≤ A + 3) → Sm τ τ' a) ∧ Lay τ' = Lay τ := by
    intro R G q1 q2 q3 q4 q5 q6
    refine ⟨R, rfl, fun j hj => ?_, by rw [q3]; exact u2, by rw [q4]; exact x2, by rw [q3]; exact v2, by rw [q4]; exact v3, by rw [q3]; exact v4', fun a ha => Sm_tr (f2 a ha) (q5 a ha), q6.trans (v9.trans l1)⟩
    by_cases e : j < N
    · exact q1 j e
    · rw [q2 j (by omega) hj, p2 j hj, Pf_hi (by omega)]; rfl
  have pf : ∀ j, j < N → Pf x S W N rule.toInt j = q0 x S W rule.toInt j + (if rule.toInt = 0 then rI (fun i => x * W i % S) N (lft x S W rule.toInt N).toNat j else if rule.toInt = 1 then (if 0 < W j ∧ cnt W j < lft x S W rule.toInt N then 1 else 0) else if rule.toInt = 2 then (if j = N - 1 then lft x S W rule.toInt N else 0) else (if j = 0 then lft x S W rule.toInt N else 0)) := fun j hj => by
    unfold Pf; rw [if_neg (by omega)]
  have er : ∀ k : Int32, (rule = k) ↔ rule.toInt = k.toInt := fun k => i32_eq
  simp only [er, Int32.reduceToInt]
  by_cases r0 : rule.toInt = 0
  · rw [if_pos r0]
    unfold d_X7_divide_31
    obtain ⟨w, L', a1, a2, a3⟩ := dv 4 (fun _ => rfl) (fun h => by omega)
    rw [a2]
    unfold d_X7_divide_104 c_X7_giveByRests
    rw [if_pos (by rw [i32_eq]; exact r0)]
    have sp3 : Spl A N x S W (mJ τ2 (A + 1) 0 N (fun j => J (q0 x S W rule.toInt j))) := Spl_f sp rfl (gJ_mJ_a (by omega)) (gJ_mJ_a (by omega)) rfl
    obtain ⟨w', b1, b2⟩ := al_rest (rule := rule) N w 0 L' _ sp3 (by omega) (fun j hj => gJ_mJ_i (by omega)) (by decide) (by simp only [Int32.reduceToInt]; omega) (by omega)
    rw [z0] at b2
    rw [b2]
    unfold d_X7_giveByRests_46
    have cc := al_give (rule := rule) L'.toInt.toNat w' 0 0 L' τ2 sp (by omega) (by rw [a3]; exact lb.2.2 (by omega)) (by rw [a3]; exact lb.2.1) rfl (by have := lb.2.2 (by omega); omega) (by omega)
    have e0 : (fun j => J (q0 x S W rule.toInt j + rI (fun i => x * W i % S) N 0 j)) = (fun j => J (q0 x S W rule.toInt j)) := by
      funext j; rw [rI, Int.add_zero]
    have e1 : (fun j => J (if rI (fun i => x * W i % S) N 0 j = 1 then -1 else x * W j % S)) = (fun j => J (x * W j % S)) := by
      funext j; rw [rI, if_neg (by decide)]
    rw [e0, e1, Nat.zero_add] at cc
    rw [cc, bp_s]
    refine fin _ (fun _ => 0) (fun j hj => ?_) (fun j h1 h2 => ?_) rfl ?_ (fun a ha => Sm_mJ (Sm_mJ Sm_refl (by omega)) (by omega)) rfl
    · rw [gJ_mJ_a (by omega), gJ_mJ_i (by omega), pf j hj, if_pos r0, a3]
    · rw [gJ_mJ_a (by omega), gJ_mJ_o (by omega)]
    · funext j; rw [gJ_mJ_a (by omega), gJ_mJ_a (by omega)]
  · rw [if_neg r0]
    by_cases r1 : rule.toInt = 1
    · rw [if_pos r1]
      unfold d_X7_divide_31
      obtain ⟨w, L', a1, a2, a3⟩ := dv 4 (fun _ => rfl) (fun h => by omega)
      rw [a2]
      unfold d_X7_divide_104 c_X7_giveInOrder
      rw [if_neg (by rw [i32_eq]; exact r0), if_pos (by rw [i32_eq]; exact r1)]
      have sp3 : Spl A N x S W (mJ τ2 (A + 1) 0 N (fun j => J (q0 x S W rule.toInt j))) := Spl_f sp rfl (gJ_mJ_a (by omega)) (gJ_mJ_a (by omega)) rfl
      have cc := al_ord (rule := rule) N w 0 L' (lft x S W rule.toInt N) _ sp3 (fun j _ hj => gJ_mJ_i (by omega)) (by rw [a3, z0, cnt]; omega) (by omega) (by omega) (by decide) (by simp only [Int32.reduceToInt]; omega) (by omega)
      rw [z0] at cc
      rw [cc, bp_s]
      refine fin _ (fun _ => 0) (fun j hj => ?_) (fun j h1 h2 => ?_) rfl ?_ (fun a ha => Sm_mJ (Sm_mJ Sm_refl (by omega)) (by omega)) rfl
      · rw [gJ_mJ_i (by omega), pf j hj, if_neg r0, if_pos r1]
      · rw [gJ_mJ_o (by omega), gJ_mJ_o (by omega)]
      · funext j; rw [gJ_mJ_a (by omega), gJ_mJ_a (by omega)]
    · rw [if_neg r1]
      obtain ⟨w, L', a1, a2, a3⟩ := dv 0 (fun h => by omega) (fun _ => rfl)
      rw [a2]
      unfold d_X7_divide_104
      rw [if_neg (by rw [i32_eq]; exact r0), if_neg (by rw [i32_eq]; exact r1)]
      have one : ∀ (v : Int32) (i : Nat), v.toInt = i → i < N → (∀ j, j < N → Pf x S W N rule.toInt j = q0 x S W rule.toInt j + (if j = i then lft x S W rule.toInt N else 0)) → ∃ τ', d_X7_divide_150 w L' v (A + 1) (mJ τ2 (A + 1) 0 N (fun j => J (q0 x S W rule.toInt j))) = some τ' ∧ (∀ j, j < 8 → gJ τ' (A + 1) j = J (Pf x S W N rule.toInt j)) ∧ gI τ' A 1 = 1 ∧ gJ τ' A 6 = X ∧ (gI τ' A 4).toInt = N ∧ (gJ τ' A 5).toInt = S ∧ (∀ j, j < N → (gI τ' (A + 2) j).toInt = W j) ∧ (∀ a, ¬ (A ≤ a ∧ a ≤ A + 3) → Sm τ τ' a) ∧ Lay τ' = Lay τ := by
        intro v i hv hi hpf
        have ev : v.toNatClampNeg = i := by rw [i32_nat]; omega
        have hiv : ix v 8 := ix_of (by omega) (by omega)
        unfold d_X7_divide_150
        rw [ck_t hiv, ck_t hiv, nm_t, ev]
        have qb := q0_b (x := x) (S := S) (W := W) (j := i) (r := rule.toInt) (by omega) hx.1 hx.2 (k5 i hi).1 (k5 i hi).2.2
        have ea : gJ (mJ τ2 (A + 1) 0 N (fun j => J (q0 x S W rule.toInt j))) (A + 1) i + L' = J (q0 x S W rule.toInt i + lft x S W rule.toInt N) := by
          rw [gJ_mJ_i (by omega)]
          refine J_eq ?_
          have e2 : (J (q0 x S W rule.toInt i)).toInt = q0 x S W rule.toInt i := J_int (by omega) (by omega)
          rw [i64_add (by omega) (by omega), e2, a3]
        rw [ea]
        refine fin _ (fun _ => 0) (fun j hj => ?_) (fun j h1 h2 => ?_) rfl ?_ (fun a ha => Sm_pJ (Sm_mJ Sm_refl (by omega)) (by omega)) rfl
        · rw [hpf j hj]
          by_cases e : j = i
          · subst e; rw [gJ_pJ_s, if_pos rfl]
          · rw [gJ_pJ_k e, gJ_mJ_i (by omega), if_neg e, Int.add_zero]
        · rw [gJ_pJ_k (by omega), gJ_mJ_o (by omega)]
        · funext j; rw [gJ_pJ_a (by omega), gJ_mJ_a (by omega)]
      by_cases r2 : rule.toInt = 2
      · rw [if_pos (by rw [i32_eq]; exact r2)]
        have e4 : gI (mJ τ2 (A + 1) 0 N (fun j => J (q0 x S W rule.toInt j))) A 4 = gI τ2 A 4 := rfl
        refine one _ (N - 1) ?_ (by omega) (fun j hj => by rw [pf j hj, if_neg r0, if_neg r1, if_pos r2])
        rw [e4, i32_sub (by simp only [Int32.reduceToInt]; omega) (by simp only [Int32.reduceToInt]; omega), v2]
        simp only [Int32.reduceToInt]; omega
      · rw [if_neg (by rw [i32_eq]; exact r2)]
        exact one 0 0 rfl (by omega) (fun j hj => by rw [pf j hj, if_neg r0, if_neg r1, if_neg r2])
end DIV
