section SPLM2
variable {B z N : Nat} {x S : Int} {W : Nat → Int} {rule v1 v5 : Int32} {τ : Sg} {X : Int64}
/-- nothing is left -/
theorem m_none {n : Nat} {L : Int64} {σ : Sg} (hn : 1 ≤ n) (hL : L.toInt ≤ 0) : d_X12_splits_223 n X v1 v5 (J S) L σ = some σ := by
  obtain ⟨n, rfl⟩ : ∃ k, n = k + 1 := ⟨n - 1, by omega⟩
  rw [d_X12_splits_223, if_pos (by rw [i64_le]; exact hL)]
theorem mJ_idt {σ : Sg} {a lo hi : Nat} {f : Nat → Int64} (h : ∀ j, lo ≤ j → j < hi → gJ σ a j = f j) : mJ σ a lo hi f = σ := by
  have e : (fun b j => if b = a ∧ lo ≤ j ∧ j < hi then f j else σ.2.2.1 b j) = σ.2.2.1 := by
    funext b j
    by_cases q : b = a ∧ lo ≤ j ∧ j < hi
    · rw [if_pos q, ← h j q.2.1 q.2.2, q.1]; rfl
    · rw [if_neg q]
  unfold mJ
  rw [e]
theorem al_ordm : ∀ (d n : Nat) (k : Int32) (L : Int64) (L0 : Int) (σ : Sg), Spm B z N x S W v1 v5 X τ σ → rule.toInt = 1 → (∀ j, k.toNatClampNeg ≤ j → j < N → gJ σ 144 (8 * B + j) = J (q0 x S W rule.toInt j)) → L.toInt = L0 - cnt W k.toNatClampNeg → L0 ≤ cnt W N → -100 ≤ L0 → L0 ≤ 100 → 0 ≤ k.toInt → k.toInt + d = N → d + 30 < n →
    d_X12_splits_158 n X rule v1 v5 (J S) L k σ = some (mJ σ 144 (8 * B + k.toNatClampNeg) (8 * B + N) (fun j => J (q0 x S W rule.toInt (j - 8 * B) + (if 0 < W (j - 8 * B) ∧ cnt W (j - 8 * B) < L0 then 1 else 0)))) := by
  intro d
  induction d with
  | zero =>
    intro n k L L0 σ h hr hp hL hc hl1 hl2 h3 h4 h5
    obtain ⟨n, rfl⟩ : ∃ k, n = k + 1 := ⟨n - 1, by omega⟩
    have n1 := nat0 h3
    have e : k.toNatClampNeg = N := by omega
    rw [e] at hL ⊢
    rw [d_X12_splits_158, if_pos (by rw [i32_eq]; exact hr), if_pos (by rw [i64_le]; simp only [Int64.reduceToInt]; omega), m_none (by omega) (by omega), mJ_nil (Nat.le_refl _)]
  | succ d ih =>
    intro n k L L0 σ h hr hp hL hc hl1 hl2 h3 h4 h5
    obtain ⟨n, rfl⟩ : ∃ k, n = k + 1 := ⟨n - 1, by omega⟩
    have h' := h
    obtain ⟨hw, hB, hb0, h5', eN, eS, eW, eX, hx1, hx2⟩ := h
    obtain ⟨k1, k2, k3, k4, k5, k6⟩ := Spm_w h'
    obtain ⟨c1, c2, c3⟩ := cnt1 (v := k) (m := 64) h3 (by omega) (by decide)
    obtain ⟨x1, x2⟩ := ixB (v := k) hB hb0 ⟨h3, by omega⟩
    have wb := k5 k.toNatClampNeg (by omega)
    have qb := q0_b (r := rule.toInt) k3 hx1 hx2 wb.1 wb.2.2
    have cb : 0 ≤ cnt W k.toNatClampNeg := by have := cnt_mono (W := W) (k := 0) (i := k.toNatClampNeg) (by omega); rw [cnt] at this; exact this
    rw [d_X12_splits_158, if_pos (by rw [i32_eq]; exact hr)]
    by_cases q : L.toInt ≤ 0
    · rw [if_pos (by rw [i64_le]; simp only [Int64.reduceToInt]; exact q), m_none (by omega) q]
      congr 1
      refine (mJ_idt (fun j j1 j2 => ?_)).symm
      have e := hp (j - 8 * B) (by omega) (by omega)
      rw [show 8 * B + (j - 8 * B) = j by omega] at e
      have := cnt_mono (W := W) (k := k.toNatClampNeg) (i := j - 8 * B) (by omega)
      rw [e, if_neg (by omega), Int.add_zero]
    · have eJ : (J (W k.toNatClampNeg)).toInt = W k.toNatClampNeg := J_int (by omega) (by omega)
      have ep := hp k.toNatClampNeg (by omega) (by omega)
      have ep2 : (gJ σ 144 (8 * B + k.toNatClampNeg)).toInt = q0 x S W rule.toInt k.toNatClampNeg := by rw [ep]; exact J_int (by omega) (by omega)
      rw [if_neg (by rw [i64_le]; simp only [Int64.reduceToInt]; exact q), m_weighed hw (by omega) ⟨h3, by omega⟩, bp_s, ← eW]
      have go : ∀ g : Int64, g.toInt = (if 0 < W k.toNatClampNeg then 1 else 0) → d_X12_splits_188 (fun c8 c10 τ => d_X12_splits_158 n X rule v1 v5 (J S) c8 c10 τ) n X rule v1 v5 (J S) L k g σ = some (mJ σ 144 (8 * B + k.toNatClampNeg) (8 * B + N) (fun j => J (q0 x S W rule.toInt (j - 8 * B) + (if 0 < W (j - 8 * B) ∧ cnt W (j - 8 * B) < L0 then 1 else 0)))) := by
        intro g hg
        have hg' : g.toInt = 0 ∨ g.toInt = 1 := by
          by_cases c : 0 < W k.toNatClampNeg
          · rw [if_pos c] at hg; exact Or.inr hg
          · rw [if_neg c] at hg; exact Or.inl hg
        have eL : (L - g).toInt = L0 - cnt W (k.toNatClampNeg + 1) := by
          rw [i64_sub (by omega) (by omega), cnt, hL, ← hg]; omega
        have ea : gJ σ 144 (8 * B + k.toNatClampNeg) + g = J (q0 x S W rule.toInt k.toNatClampNeg + (if 0 < W k.toNatClampNeg ∧ cnt W k.toNatClampNeg < L0 then 1 else 0)) := by
          refine J_eq ?_
          rw [i64_add (by omega) (by omega), ep2, hg]
          by_cases c : 0 < W k.toNatClampNeg
          · rw [if_pos c, if_pos (by omega)]
          · rw [if_neg c, if_neg (fun z => c z.1)]
        unfold d_X12_splits_188
        rw [ck_t x2, ck_t x2, nm_t, nm_t, nm_t, x1, ea]
        show d_X12_splits_158 n X rule v1 v5 (J S) (L - g) (k + 1) _ = _
        rw [ih n (k + 1) (L - g) L0 (pJ σ 144 (8 * B + k.toNatClampNeg) (J (q0 x S W rule.toInt k.toNatClampNeg + (if 0 < W k.toNatClampNeg ∧ cnt W k.toNatClampNeg < L0 then 1 else 0)))) (Spm_f h' rfl) hr (fun j j1 j2 => by rw [gJ_pJ_k (by omega)]; exact hp j (by omega) j2) (by rw [c2]; exact eL) hc hl1 hl2 (by omega) (by omega) (by omega), c2, ← Nat.add_assoc]
        congr 1
        exact mJ_step (f := (fun j => J (q0 x S W rule.toInt (j - 8 * B) + (if 0 < W (j - 8 * B) ∧ cnt W (j - 8 * B) < L0 then 1 else 0)))) (by omega) (by rw [show 8 * B + k.toNatClampNeg - 8 * B = k.toNatClampNeg by omega])
      by_cases c : 0 < W k.toNatClampNeg
      · rw [if_neg (by rw [i64_le]; simp only [Int64.reduceToInt]; omega)]
        exact go 1 (by rw [if_pos c]; rfl)
      · rw [if_pos (by rw [i64_le]; simp only [Int64.reduceToInt]; omega)]
        exact go 0 (by rw [if_neg c]; rfl)
/-- the reference's search -/
theorem al_argm : ∀ (d n : Nat) (K : Int64 → Sg → Option Sg) (k10 k : Int32) (v11 L : Int64) (σ : Sg) (f : Nat → Int), Spm B z N x S W v1 v5 X τ σ → (∀ j, j < N → (X * J (W j) - gJ σ 144 (8 * B + j) * J S).toInt = f j) → 0 ≤ k10.toInt → k10.toNatClampNeg = amx f k.toNatClampNeg → (1 ≤ k.toInt → v11.toInt = f (amx f k.toNatClampNeg)) → 0 ≤ k.toInt → k.toInt + d = N → d + 30 < n →
    ∃ w i, n ≤ w + d + 1 ∧ d_X12_splits_239 K n X v1 v5 (J S) L k10 v11 k σ = d_X12_splits_304 K w X v1 v5 (J S) L i σ ∧ 0 ≤ i.toInt ∧ i.toNatClampNeg = amx f N := by
  intro d
  induction d with
  | zero =>
    intro n K k10 k v11 L σ f h hf h0 ha hm h3 h4 h5
    obtain ⟨n, rfl⟩ : ∃ k, n = k + 1 := ⟨n - 1, by omega⟩
    have n1 := nat0 h3
    have e : k.toNatClampNeg = N := by omega
    have h5' := h.2.2.2.1
    refine ⟨n, k10, by omega, ?_, h0, by rw [ha, e]⟩
    rw [d_X12_splits_239, if_pos (by rw [i32_le]; omega)]
  | succ d ih =>
    intro n K k10 k v11 L σ f h hf h0 ha hm h3 h4 h5
    obtain ⟨n, rfl⟩ : ∃ k, n = k + 1 := ⟨n - 1, by omega⟩
    have h' := h
    obtain ⟨hw, hB, hb0, h5', eN, eS, eW, eX, hx1, hx2⟩ := h
    obtain ⟨k1, k2, k3, k4, k5, k6⟩ := Spm_w h'
    obtain ⟨c1, c2, c3⟩ := cnt1 (v := k) (m := 64) h3 (by omega) (by decide)
    obtain ⟨x1, x2⟩ := ixB (v := k) hB hb0 ⟨h3, by omega⟩
    have f1 := hf k.toNatClampNeg (by omega)
    rw [d_X12_splits_239, if_neg (by rw [i32_le]; omega), m_weighed hw (by omega) ⟨h3, by omega⟩, bp_s, ← eW, ck_t x2, nm_t, x1]
    unfold d_X12_splits_290 d_X12_splits_298
    simp only [nm_t]
    generalize X * J (W k.toNatClampNeg) - gJ σ 144 (8 * B + k.toNatClampNeg) * J S = R at *
    by_cases q0' : k.toInt = 0
    · rw [if_pos (by rw [i32_eq]; exact q0')]
      have e0 : k.toNatClampNeg = 0 := by omega
      obtain ⟨w, i, w1, w2, w3, w4⟩ := ih n K k (k + 1) R L σ f h' hf (by omega) (by rw [c2, e0, amx, amx, if_neg (by omega)]) (fun _ => by rw [c2, e0, amx, amx, if_neg (by omega), f1, e0]) (by omega) (by omega) (by omega)
      exact ⟨w, i, by omega, w2, w3, w4⟩
    · rw [if_neg (by rw [i32_eq]; exact q0')]
      have hm' := hm (by omega)
      by_cases q : f k.toNatClampNeg ≤ f (amx f k.toNatClampNeg)
      · rw [if_pos (by rw [i64_le, f1, hm']; exact q)]
        obtain ⟨w, i, w1, w2, w3, w4⟩ := ih n K k10 (k + 1) v11 L σ f h' hf h0 (by rw [c2, amx, if_neg (by omega), ha]) (fun _ => by rw [c2, amx, if_neg (by omega)]; exact hm') (by omega) (by omega) (by omega)
        exact ⟨w, i, by omega, w2, w3, w4⟩
      · rw [if_neg (by rw [i64_le, f1, hm']; exact q)]
        obtain ⟨w, i, w1, w2, w3, w4⟩ := ih n K k (k + 1) R L σ f h' hf (by omega) (by rw [c2, amx, if_pos (by omega)]) (fun _ => by rw [c2, amx, if_pos (by omega), f1]) (by omega) (by omega) (by omega)
        exact ⟨w, i, by omega, w2, w3, w4⟩
theorem al_givem : ∀ (d n g : Nat) (L : Int64) (L0 : Int) (σ : Sg), Spm B z N x S W v1 v5 X τ σ → rule.toInt < 2 → L0 ≤ N → L.toInt = L0 - g → L.toInt = d → d + 50 < n →
    d_X12_splits_223 n X v1 v5 (J S) L (mJ σ 144 (8 * B) (8 * B + N) (fun j => J (q0 x S W rule.toInt (j - 8 * B) + rI (fun i => x * W i % S) N g (j - 8 * B)))) = some (mJ σ 144 (8 * B) (8 * B + N) (fun j => J (q0 x S W rule.toInt (j - 8 * B) + rI (fun i => x * W i % S) N (g + d) (j - 8 * B)))) := by
  intro d
  induction d with
  | zero =>
    intro n g L L0 σ h hr hl2 h3 h4 h5
    exact m_none (by omega) (by omega)
  | succ d ih =>
    intro n g L L0 σ h hr hl2 h3 h4 h5
    obtain ⟨n, rfl⟩ : ∃ k, n = k + 1 := ⟨n - 1, by omega⟩
    have h' := h
    obtain ⟨hw, hB, hb0, h5', eN, eS, eW, eX, hx1, hx2⟩ := h
    obtain ⟨k1, k2, k3, k4, k5, k6⟩ := Spm_w h'
    have mb : ∀ j, 0 ≤ x * W j % S ∧ x * W j % S < S := fun j => ⟨Int.emod_nonneg _ (by omega), Int.emod_lt_of_pos _ (by omega)⟩
    have eJS : (J S).toInt = S := J_int (by omega) (by omega)
    rw [d_X12_splits_223, if_neg (by rw [i64_le]; simp only [Int64.reduceToInt]; omega)]
    have z0 : (0 : Int32).toNatClampNeg = 0 := rfl
    have hS2 : Spm B z N x S W v1 v5 X τ (mJ σ 144 (8 * B) (8 * B + N) (fun j => J (q0 x S W rule.toInt (j - 8 * B) + rI (fun i => x * W i % S) N g (j - 8 * B)))) := Spm_f h' rfl
    obtain ⟨w, i, w1, w2, w3, w4⟩ := al_argm (B := B) (z := z) (N := N) (x := x) (S := S) (W := W) (v1 := v1) (v5 := v5) (X := X) (τ := τ) N n (fun c8 τ => d_X12_splits_223 n X v1 v5 (J S) c8 τ) 0 0 0 L (mJ σ 144 (8 * B) (8 * B + N) (fun j => J (q0 x S W rule.toInt (j - 8 * B) + rI (fun i => x * W i % S) N g (j - 8 * B)))) (fun j => x * W j % S - rI (fun i => x * W i % S) N g j * S) hS2 (fun j hj => by
      have wb := k5 j hj
      have qb := q0_b (r := rule.toInt) k3 hx1 hx2 wb.1 wb.2.2
      have dd := (q0_d (x := x) (S := S) (W := W) (rule := rule.toInt) (by omega) j).1 hr
      have eJ : (J (W j)).toInt = W j := J_int (by omega) (by omega)
      have m1 := bnd_mul (a := x) (b := W j) (A := 1099511627776) (C := 1000) (by omega) (by omega) wb.1 wb.2.1
      have z1 : (X * J (W j)).toInt = x * W j := by rw [i64_mul (by rw [eX, eJ]; omega) (by rw [eX, eJ]; omega), eX, eJ]
      have r01 := rI_01 (r := (fun i => x * W i % S)) (N := N) (n := g) (j := j)
      rw [gJ_mJ_i (by omega), show 8 * B + j - 8 * B = j by omega]
      have e2 : (J (q0 x S W rule.toInt j + rI (fun i => x * W i % S) N g j)).toInt = q0 x S W rule.toInt j + rI (fun i => x * W i % S) N g j := J_int (by omega) (by omega)
      have e3 : (q0 x S W rule.toInt j + rI (fun i => x * W i % S) N g j) * S = q0 x S W rule.toInt j * S + rI (fun i => x * W i % S) N g j * S := Int.add_mul _ _ _
      have e4 : rI (fun i => x * W i % S) N g j * S = 0 ∨ rI (fun i => x * W i % S) N g j * S = S := by
        rcases r01 with c | c
        · left; rw [c, Int.zero_mul]
        · right; rw [c, Int.one_mul]
      have z2 : (J (q0 x S W rule.toInt j + rI (fun i => x * W i % S) N g j) * J S).toInt = q0 x S W rule.toInt j * S + rI (fun i => x * W i % S) N g j * S := by
        rw [i64_mul (by rw [e2, eJS, e3]; omega) (by rw [e2, eJS, e3]; omega), e2, eJS, e3]
      rw [i64_sub (by omega) (by omega), z1, z2]; omega) (by decide) (by rw [z0, amx]) (fun c => absurd c (by decide)) (by decide) (by simp only [Int32.reduceToInt]; omega) (by omega)
    rw [w2]
    have free := rI_free (r := (fun i => x * W i % S)) (N := N) (n := g) (by omega)
    have same : amx (fun j => x * W j % S - rI (fun i => x * W i % S) N g j * S) N = amx (fun j => if rI (fun i => x * W i % S) N g j = 1 then -1 else x * W j % S) N := by
      refine amx_same (D := fun j => rI (fun i => x * W i % S) N g j = 1) (fun j hj hd => ?_) (fun j hj hd => ?_) free
      · have := mb j
        rcases rI_01 (r := (fun i => x * W i % S)) (N := N) (n := g) (j := j) with c | c
        · simp only [if_neg hd, c, Int.zero_mul]; omega
        · exact absurd c hd
      · have mj := mb j
        refine ⟨?_, ?_⟩
        · show (if rI (fun i => x * W i % S) N g j = 1 then -1 else x * W j % S) < 0
          rw [if_pos hd]; decide
        · show x * W j % S - rI (fun i => x * W i % S) N g j * S < 0
          rw [hd, Int.one_mul]; omega
    rw [same] at w4
    have al := amx_lt (f := fun j => if rI (fun i => x * W i % S) N g j = 1 then -1 else x * W j % S) (k := N) (by omega)
    rw [← w4] at al
    have ni := nat0 w3
    obtain ⟨x1, x2⟩ := ixB (v := i) hB (show (gI (mJ σ 144 (8 * B) (8 * B + N) (fun j => J (q0 x S W rule.toInt (j - 8 * B) + rI (fun i => x * W i % S) N g (j - 8 * B)))) 130 16).toInt = B from hb0) ⟨w3, by omega⟩
    unfold d_X12_splits_304
    rw [ck_t x2, ck_t x2, nm_t, nm_t, x1]
    show d_X12_splits_223 n X v1 v5 (J S) (L - 1) _ = _
    have nf : ¬ rI (fun i => x * W i % S) N g i.toNatClampNeg = 1 := by
      intro q
      obtain ⟨u, u1, u2⟩ := free
      have := amx_le (f := fun j => if rI (fun i => x * W i % S) N g j = 1 then -1 else x * W j % S) (k := N) u u1
      rw [← w4, if_pos q, if_neg u2] at this
      have := mb u
      omega
    have n0 : rI (fun i => x * W i % S) N g i.toNatClampNeg = 0 := by
      rcases rI_01 (r := (fun i => x * W i % S)) (N := N) (n := g) (j := i.toNatClampNeg) with q | q
      · exact q
      · exact absurd q nf
    have rs : ∀ j, rI (fun i => x * W i % S) N (g + 1) j = if j = i.toNatClampNeg then 1 else rI (fun i => x * W i % S) N g j := by
      intro j
      rw [rI, w4]
    have wb := k5 i.toNatClampNeg al
    have qb := q0_b (r := rule.toInt) k3 hx1 hx2 wb.1 wb.2.2
    have rd : gJ (mJ σ 144 (8 * B) (8 * B + N) (fun j => J (q0 x S W rule.toInt (j - 8 * B) + rI (fun i => x * W i % S) N g (j - 8 * B)))) 144 (8 * B + i.toNatClampNeg) = J (q0 x S W rule.toInt i.toNatClampNeg) := by
      rw [gJ_mJ_i (by omega), show 8 * B + i.toNatClampNeg - 8 * B = i.toNatClampNeg by omega, n0, Int.add_zero]
    have ev : J (q0 x S W rule.toInt i.toNatClampNeg) + 1 = J (q0 x S W rule.toInt i.toNatClampNeg + 1) := by
      refine J_eq ?_
      have e1 : (1 : Int64).toInt = 1 := rfl
      have e2 : (J (q0 x S W rule.toInt i.toNatClampNeg)).toInt = q0 x S W rule.toInt i.toNatClampNeg := J_int (by omega) (by omega)
      rw [i64_add (by omega) (by omega), e1, e2]
    have eL : (L - 1).toInt = L.toInt - 1 := by
      have e1 : (1 : Int64).toInt = 1 := rfl
      rw [i64_sub (by omega) (by omega), e1]
    rw [rd, ev, mJ_upd (a := 144) (f' := fun j => J (q0 x S W rule.toInt (j - 8 * B) + (if j - 8 * B = i.toNatClampNeg ∧ 8 * B ≤ j then 1 else rI (fun i => x * W i % S) N g (j - 8 * B)))) (by omega) (by rw [show 8 * B + i.toNatClampNeg - 8 * B = i.toNatClampNeg by omega, if_pos (by omega)]) (fun j hj => by rw [if_neg (by omega)])]
    rw [mJ_cong (g := fun j => J (q0 x S W rule.toInt (j - 8 * B) + rI (fun i => x * W i % S) N (g + 1) (j - 8 * B))) (fun j j1 j2 => by
      rw [rs]
      by_cases c : j - 8 * B = i.toNatClampNeg
      · rw [if_pos ⟨c, j1⟩, if_pos c]
      · rw [if_neg (fun z => c z.1), if_neg c])]
    rw [ih n (g + 1) (L - 1) L0 σ h' hr hl2 (by omega) (by omega) (by omega)]
    have eg : g + 1 + d = g + (d + 1) := by omega
    rw [eg]
end SPLM2
