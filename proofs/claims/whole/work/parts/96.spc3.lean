section SPC3
variable {A N : Nat} {x S : Int} {W : Nat → Int} {rule : Int32}
theorem Spl_f {σ σ' : Sg} (h : Spl A N x S W σ) (e1 : gI σ' A 4 = gI σ A 4) (e2 : gJ σ' A 5 = gJ σ A 5) (e3 : gJ σ' A 6 = gJ σ A 6) (e4 : gI σ' (A + 2) = gI σ (A + 2)) : Spl A N x S W σ' := by
  unfold Spl
  rw [e1, e2, e3, e4]
  exact h
/-- the rests -/
theorem al_rest : ∀ (d n : Nat) (k : Int32) (L : Int64) (σ : Sg), Spl A N x S W σ → rule.toInt < 2 → (∀ j, j < N → gJ σ (A + 1) j = J (q0 x S W rule.toInt j)) → 0 ≤ k.toInt → k.toInt + d = N → d < n →
    ∃ w, n ≤ w + d + 1 ∧ d_X7_giveByRests_2 n A L k σ = d_X7_giveByRests_46 w A L (mJ σ (A + 3) k.toNatClampNeg N (fun j => J (x * W j % S))) := by
  intro d
  induction d with
  | zero =>
    intro n k L σ h hr hp h3 h4 h5
    obtain ⟨n, rfl⟩ : ∃ k, n = k + 1 := ⟨n - 1, by omega⟩
    obtain ⟨hA, s1, s2, s3, -⟩ := h
    have n1 := nat0 h3
    refine ⟨n, by omega, ?_⟩
    rw [d_X7_giveByRests_2, if_pos (by rw [i32_le]; omega), mJ_nil (by omega)]
  | succ d ih =>
    intro n k L σ h hr hp h3 h4 h5
    obtain ⟨n, rfl⟩ : ∃ k, n = k + 1 := ⟨n - 1, by omega⟩
    have h' := h
    obtain ⟨hA, s1, s2, s3, s4, s5, s6, s7, s8, s9, s10, s11, s12⟩ := h
    obtain ⟨c1, c2, c3⟩ := cnt1 (v := k) (m := 64) h3 (by omega) (by decide)
    have hA' : A = 25 ∨ A = 39 ∨ A = 52 ∨ A = 63 := hA
    have hk : ix k 8 := ix_of h3 (by omega)
    have wk := s10 k.toNatClampNeg (by omega)
    have wb := s11 k.toNatClampNeg (by omega)
    have e4 := i64_of32 (gI σ (A + 2) k.toNatClampNeg)
    have m1 := bnd_mul (a := x) (b := W k.toNatClampNeg) (A := 1099511627776) (C := 1000) (by omega) (by omega) wb.1 wb.2.1
    have z1 : (gJ σ A 6 * (gI σ (A + 2) k.toNatClampNeg).toInt64).toInt = x * W k.toNatClampNeg := by
      rw [i64_mul (by rw [s7, e4, wk]; omega) (by rw [s7, e4, wk]; omega), s7, e4, wk]
    have qb := q0_b (r := rule.toInt) s5 s8 s9 wb.1 wb.2.2
    have ep : (gJ σ (A + 1) k.toNatClampNeg).toInt = q0 x S W rule.toInt k.toNatClampNeg := by rw [hp _ (by omega)]; exact J_int (by omega) (by omega)
    have dd := (q0_d (x := x) (S := S) (W := W) (rule := rule.toInt) (by omega) k.toNatClampNeg).1 hr
    have z2 : (gJ σ (A + 1) k.toNatClampNeg * gJ σ A 5).toInt = q0 x S W rule.toInt k.toNatClampNeg * S := by
      rw [i64_mul (by rw [ep, s4]; omega) (by rw [ep, s4]; omega), ep, s4]
    have z3 : gJ σ A 6 * (gI σ (A + 2) k.toNatClampNeg).toInt64 - gJ σ (A + 1) k.toNatClampNeg * gJ σ A 5 = J (x * W k.toNatClampNeg % S) := by
      refine J_eq ?_
      rw [i64_sub (by omega) (by omega), z1, z2]; omega
    have hS' : Spl A N x S W (pJ σ (A + 3) k.toNatClampNeg (J (x * W k.toNatClampNeg % S))) := Spl_f h' rfl (gJ_pJ_a (by omega)) (gJ_pJ_a (by omega)) rfl
    obtain ⟨w, w1, w2⟩ := ih n (k + 1) L (pJ σ (A + 3) k.toNatClampNeg (J (x * W k.toNatClampNeg % S))) hS' hr (fun j hj => by rw [gJ_pJ_a (by omega)]; exact hp j hj) (by omega) (by omega) (by omega)
    refine ⟨w, by omega, ?_⟩
    rw [d_X7_giveByRests_2, if_neg (by rw [i32_le]; omega), ck_t hk, ck_t hk, ck_t hk, nm_t, nm_t, z3, w2, c2, mJ_step (f := fun j => J (x * W j % S)) (by omega) rfl]
/-- the search for the greatest rest -/
theorem al_arg : ∀ (d n : Nat) (K : Int32 → Sg → Option Sg) (k4 k : Int32) (L : Int64) (v3 : Int32) (σ : Sg) (f : Nat → Int), (gI σ A 4).toInt = N → 1 ≤ N → N ≤ 8 → (∀ j, j < N → (gJ σ (A + 3) j).toInt = f j) → 0 ≤ k4.toInt → k4.toNatClampNeg = amx f k.toNatClampNeg → 1 ≤ k.toInt → k.toInt + d = N → d < n →
    ∃ w i, n ≤ w + d + 1 ∧ d_X7_giveByRests_69 K n A L v3 k4 k σ = d_X7_giveByRests_106 K w A L v3 i σ ∧ 0 ≤ i.toInt ∧ i.toNatClampNeg = amx f N := by
  intro d
  induction d with
  | zero =>
    intro n K k4 k L v3 σ f h1 h2 h2' hf h0 ha h3 h4 h5
    obtain ⟨n, rfl⟩ : ∃ k, n = k + 1 := ⟨n - 1, by omega⟩
    have n1 := nat0 (v := k) (by omega)
    have e : k.toNatClampNeg = N := by omega
    refine ⟨n, k4, by omega, ?_, h0, by rw [ha, e]⟩
    rw [d_X7_giveByRests_69, if_pos (by rw [i32_le]; omega)]
  | succ d ih =>
    intro n K k4 k L v3 σ f h1 h2 h2' hf h0 ha h3 h4 h5
    obtain ⟨n, rfl⟩ : ∃ k, n = k + 1 := ⟨n - 1, by omega⟩
    obtain ⟨c1, c2, c3⟩ := cnt1 (v := k) (m := 64) (by omega) (by omega) (by decide)
    have al := amx_lt (f := f) (k := k.toNatClampNeg) (by omega)
    have n4 := nat0 h0
    have hk : ix k 8 := ix_of (by omega) (by omega)
    have hk4 : ix k4 8 := ix_of h0 (by omega)
    have f1 := hf k.toNatClampNeg (by omega)
    have f2 := hf k4.toNatClampNeg (by omega)
    rw [d_X7_giveByRests_69, if_neg (by rw [i32_le]; omega), ck_t hk, ck_t hk4]
    unfold d_X7_giveByRests_100
    simp only [nm_t]
    by_cases q : f k.toNatClampNeg ≤ f k4.toNatClampNeg
    · rw [if_pos (by rw [i64_le, f1, f2]; exact q)]
      obtain ⟨w, i, w1, w2, w3, w4⟩ := ih n K k4 (k + 1) L v3 σ f h1 h2 h2' hf h0 (by rw [c2, amx, ← ha, if_neg (by omega)]) (by omega) (by omega) (by omega)
      exact ⟨w, i, by omega, w2, w3, w4⟩
    · rw [if_neg (by rw [i64_le, f1, f2]; exact q)]
      obtain ⟨w, i, w1, w2, w3, w4⟩ := ih n K k (k + 1) L v3 σ f h1 h2 h2' hf (by omega) (by rw [c2, amx, ← ha, if_pos (by omega)]) (by omega) (by omega) (by omega)
      exact ⟨w, i, by omega, w2, w3, w4⟩
/-- one more to the greatest rest, again and again -/
theorem al_give : ∀ (d n g : Nat) (k : Int32) (L : Int64) (σ : Sg), Spl A N x S W σ → rule.toInt < 2 → 0 ≤ L.toInt → L.toInt ≤ N → k.toInt = g → g + d = L.toInt → d + 20 < n →
    d_X7_giveByRests_48 n A L k (mJ (mJ σ (A + 1) 0 N (fun j => J (q0 x S W rule.toInt j + rI (fun i => x * W i % S) N g j))) (A + 3) 0 N (fun j => J (if rI (fun i => x * W i % S) N g j = 1 then -1 else x * W j % S))) = some (mJ (mJ σ (A + 1) 0 N (fun j => J (q0 x S W rule.toInt j + rI (fun i => x * W i % S) N (g + d) j))) (A + 3) 0 N (fun j => J (if rI (fun i => x * W i % S) N (g + d) j = 1 then -1 else x * W j % S))) := by
  intro d
  induction d with
  | zero =>
    intro n g k L σ h hr hl1 hl2 h3 h4 h5
    obtain ⟨n, rfl⟩ : ∃ k, n = k + 1 := ⟨n - 1, by omega⟩
    rw [d_X7_giveByRests_48, if_pos (by rw [i64_le, i64_of32]; omega)]
    rfl
  | succ d ih =>
    intro n g k L σ h hr hl1 hl2 h3 h4 h5
    obtain ⟨n, rfl⟩ : ∃ k, n = k + 1 := ⟨n - 1, by omega⟩
    have h' := h
    obtain ⟨hA, s1, s2, s3, s4, s5, s6, s7, s8, s9, s10, s11, s12⟩ := h
    have hA' : A = 25 ∨ A = 39 ∨ A = 52 ∨ A = 63 := hA
    obtain ⟨c1, c2, c3⟩ := cnt1 (v := k) (m := 64) (by omega) (by omega) (by decide)
    have e4 : gI (mJ (mJ σ (A + 1) 0 N (fun j => J (q0 x S W rule.toInt j + rI (fun i => x * W i % S) N g j))) (A + 3) 0 N (fun j => J (if rI (fun i => x * W i % S) N g j = 1 then -1 else x * W j % S))) A 4 = gI σ A 4 := rfl
    rw [d_X7_giveByRests_48, if_neg (by rw [i64_le, i64_of32]; omega), e4, if_neg (by rw [i32_le]; omega)]
    have mb : ∀ j, 0 ≤ x * W j % S ∧ x * W j % S < S := fun j => ⟨Int.emod_nonneg _ (by omega), Int.emod_lt_of_pos _ (by omega)⟩
    obtain ⟨w, i, w1, w2, w3, w4⟩ := al_arg (A := A) (N := N) (N - 1) n (fun c3 τ => d_X7_giveByRests_48 n A L c3 τ) 0 1 L k (mJ (mJ σ (A + 1) 0 N (fun j => J (q0 x S W rule.toInt j + rI (fun i => x * W i % S) N g j))) (A + 3) 0 N (fun j => J (if rI (fun i => x * W i % S) N g j = 1 then -1 else x * W j % S))) (fun j => if rI (fun i => x * W i % S) N g j = 1 then -1 else x * W j % S) (by rw [e4]; exact s1) s2 s3 (fun j hj => by
      rw [gJ_mJ_i (by omega)]
      have := mb j
      by_cases q : rI (fun i => x * W i % S) N g j = 1
      · rw [if_pos q]; rfl
      · rw [if_neg q]; exact J_int (by omega) (by omega)) (by decide) (by
      have e0 : (0 : Int32).toNatClampNeg = 0 := rfl
      have e1 : (1 : Int32).toNatClampNeg = 1 := rfl
      rw [e0, e1, amx, amx]
      rw [if_neg (by omega)]) (by decide) (by simp only [Int32.reduceToInt]; omega) (by omega)
    rw [w2]
    have al := amx_lt (f := fun j => if rI (fun i => x * W i % S) N g j = 1 then -1 else x * W j % S) (k := N) (by omega)
    rw [← w4] at al
    have ni := nat0 w3
    have hi : ix i 8 := ix_of w3 (by omega)
    unfold d_X7_giveByRests_106
    simp only [nm_t, ck_t hi]
    show d_X7_giveByRests_48 n A L (k + 1) _ = _
    -- the chosen one had no gift yet
    have free := rI_free (r := (fun i => x * W i % S)) (N := N) (n := g) (by omega)
    have nf : ¬ rI (fun i => x * W i % S) N g i.toNatClampNeg = 1 := by
      intro q
      obtain ⟨u, u1, u2⟩ := free
      have := amx_le (f := fun j => if rI (fun i => x * W i % S) N g j = 1 then -1 else x * W j % S) (k := N) u u1
      rw [← w4, if_pos q, if_neg u2] at this
      have := mb u
      omega
    have n0 : rI (fun i => x * W i % S) N g i.toNatClampNeg = 0 := by
      rcases rI_01 (r := (fun i => x * W i % S)) (N := N) (n := g) (j := i.toNatClampNeg) with q | q
      · exact q
      · exact absurd q nf
    have rs : ∀ j, rI (fun i => x * W i % S) N (g + 1) j = if j = i.toNatClampNeg then 1 else rI (fun i => x * W i % S) N g j := by
      intro j
      rw [rI, w4]
    have wb := s11 i.toNatClampNeg al
    have qb := q0_b (r := rule.toInt) s5 s8 s9 wb.1 wb.2.2
    have rd : gJ (mJ (mJ σ (A + 1) 0 N (fun j => J (q0 x S W rule.toInt j + rI (fun i => x * W i % S) N g j))) (A + 3) 0 N (fun j => J (if rI (fun i => x * W i % S) N g j = 1 then -1 else x * W j % S))) (A + 1) i.toNatClampNeg = J (q0 x S W rule.toInt i.toNatClampNeg) := by
      rw [gJ_mJ_a (by omega), gJ_mJ_i (by omega), n0, Int.add_zero]
    have ev : J (q0 x S W rule.toInt i.toNatClampNeg) + 1 = J (q0 x S W rule.toInt i.toNatClampNeg + 1) := by
      refine J_eq ?_
      have e1 : (1 : Int64).toInt = 1 := rfl
      have e2 : (J (q0 x S W rule.toInt i.toNatClampNeg)).toInt = q0 x S W rule.toInt i.toNatClampNeg := J_int (by omega) (by omega)
      rw [i64_add (by omega) (by omega), e1, e2]
    rw [rd, ev, mJ_mJ (l2 := 0) (h2 := 0) (g := fun _ => 0) (by omega), mJ_upd (a := A + 1) (f' := fun j => J (q0 x S W rule.toInt j + rI (fun i => x * W i % S) N (g + 1) j)) (by omega) (by rw [rs, if_pos rfl]) (fun j hj => by rw [rs, if_neg hj]),
      mJ_upd (a := A + 3) (f' := fun j => J (if rI (fun i => x * W i % S) N (g + 1) j = 1 then -1 else x * W j % S)) (by omega) (by rw [rs, if_pos rfl, if_pos rfl]; rfl) (fun j hj => by rw [rs, if_neg hj])]
    rw [ih n (g + 1) (k + 1) L σ h' hr hl1 hl2 (by omega) (by omega) (by omega)]
    have eg : g + 1 + d = g + (d + 1) := by omega
    rw [eg]
end SPC3
