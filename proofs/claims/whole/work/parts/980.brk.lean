section BRK
variable {b p : Nat} {P : Int32} {τ σ : Sg}
/-- what a law's trial leaves alone in the reference -/
def Ft (σ σ' : Sg) : Prop := (∀ a, a ≠ 130 ∧ a ≠ 141 ∧ ¬ (142 ≤ a ∧ a ≤ 149) ∧ ¬ (158 ≤ a ∧ a ≤ 163) → Sm σ σ' a) ∧ (∀ k, ¬ (16 ≤ k ∧ k ≤ 17) ∧ ¬ (27 ≤ k ∧ k ≤ 32) → gI σ' 130 k = gI σ 130 k) ∧ gI σ' 130 16 = 0 ∧ (∀ j, j < 8 → gJ σ' 142 j = gJ σ 142 j ∧ gJ σ' 143 j = gJ σ 143 j ∧ gJ σ' 144 j = gJ σ 144 j ∧ gI σ' 149 j = gI σ 149 j ∧ gJ σ' 146 j = gJ σ 146 j) ∧ (∀ j, j < 12 → gJ σ' 145 j = gJ σ 145 j) ∧ (∀ j, j < 4 → gJ σ' 147 j = gJ σ 147 j ∧ gJ σ' 148 j = gJ σ 148 j) ∧ Lay σ'
theorem Ft_refl (h : Lay σ) (h0 : gI σ 130 16 = 0) : Ft σ σ := ⟨fun _ _ => Sm_refl, fun _ _ => rfl, h0, fun _ _ => ⟨rfl, rfl, rfl, rfl, rfl⟩, fun _ _ => rfl, fun _ _ => ⟨rfl, rfl⟩, h⟩
theorem Ft_trans {σ' σ'' : Sg} (h : Ft σ σ') (h' : Ft σ' σ'') : Ft σ σ'' := by
  obtain ⟨a1, a2, a3, a4, a5, a6, a7⟩ := h
  obtain ⟨b1, b2, b3, b4, b5, b6, b7⟩ := h'
  refine ⟨fun a ha => Sm_tr (a1 a ha) (b1 a ha), fun k hk => (b2 k hk).trans (a2 k hk), b3, fun j hj => ?_, fun j hj => (b5 j hj).trans (a5 j hj), fun j hj => ⟨(b6 j hj).1.trans (a6 j hj).1, (b6 j hj).2.trans (a6 j hj).2⟩, b7⟩
  obtain ⟨c1, c2, c3, c4, c5⟩ := a4 j hj
  obtain ⟨d1, d2, d3, d4, d5⟩ := b4 j hj
  exact ⟨d1.trans c1, d2.trans c2, d3.trans c3, d4.trans c4, d5.trans c5⟩
theorem Ft_of {σ' : Sg} (h : Fy σ σ') : Ft σ σ' := ⟨fun a ha => h.1 a (by omega), fun k hk => h.2.1 k (by omega), h.2.2⟩
/-- trials leave what the calls show alone -/
theorem Rl_try {c : Nat} {τ' σ' : Sg} (h : Rl c τ σ) (t : To 33 69 τ τ') (f : Ft σ σ') : Rl c τ' σ' := by
  obtain ⟨⟨lt, ls, h0⟩, h1, h2, h3, h4, h5, h6, h7, h8⟩ := h
  obtain ⟨f1, f2, f3, f4, f5, f6, f7⟩ := f
  have E : ∀ a, ¬ (33 ≤ a ∧ a < 69) → Sm τ τ' a := fun a ha => Sm_to t ha
  refine ⟨⟨t.1, f7, Rold_f h0 (fun a ha => E a (by omega))⟩, Rtab_f h1 (fun a ha => E a (by omega)) (fun a ha => f1 a (by omega)), Rwts_f h2 (fun a ha => E a (by omega)) (fun a ha => f1 a (by omega)), Rbil_f h3 (fun a ha => E a (by omega)) (f1 133 (by decide)) (f2 3 (by decide)), ?_, ?_, ?_, Rtap_f h7 (Nat.le_refl _) (fun a ha => E a (by omega)) (fun a ha => f1 a (by omega)), ?_⟩
  · unfold Rled
    rw [(E 16 (by decide)).1, (E 17 (by decide)).2.1, f2 13 (by decide)]
    exact ⟨h4.1, h4.2.1, h4.2.2.1, fun k hk => by rw [(f4 k hk).2.2.2.2]; exact h4.2.2.2 k hk⟩
  · refine ⟨by rw [f2 7 (by decide), (E 4 (by decide)).1]; exact h5.1, by rw [(E 4 (by decide)).1]; exact h5.2.1, by rw [(E 4 (by decide)).1]; exact h5.2.2.1, fun p hp => ?_⟩
    rw [(E 4 (by decide)).1, (E (5 * p + 74) (by omega)).1, (E (5 * p + 74) (by omega)).2.1, (E (5 * p + 75) (by omega)).1, (E (5 * p + 76) (by omega)).1, (E (5 * p + 77) (by omega)).1, (E (5 * p + 78) (by omega)).1,
      (f1 136 (by decide)).1, (f1 137 (by decide)).1, (f1 138 (by decide)).1, (f1 139 (by decide)).1, (f1 140 (by decide)).1, (f6 p hp).1, (f6 p hp).2]
    exact h5.2.2.2 p hp
  · unfold Rlst
    rw [f2 14 (by decide), (E 20 (by decide)).1, (E 26 (by decide)).2.1, (E 29 (by decide)).2.1, (E 30 (by decide)).2.1, (E 31 (by decide)).1, (E 32 (by decide)).2.1]
    refine ⟨h6.1, fun k hk => ?_, fun k hk => by rw [f5 k hk]; exact h6.2.2 k hk⟩
    obtain ⟨d1, d2, d3, d4, d5⟩ := f4 k hk
    rw [d1, d2, d3, d4]
    exact h6.2.1 k hk
  · unfold Rmis
    rw [f2 15 (by decide), (E 4 (by decide)).1, f3]
    exact ⟨h8.1, rfl⟩
theorem bp_bd {α β γ : Type} {u : Option α} {f : α → Option (β × Sg)} {K : β → Sg → Option γ} : (bp u fun z => bd (f z) K) = bd (bp u f) K := by
  cases u with
  | none => rfl
  | some z => rfl
/-- a program is tried on one line -/
theorem ta_v {n : Nat} {a : Int32} (hn : 1000 ≤ n) (lt : Lay τ) (ls : Lay σ) (hb : b = 34 ∨ b = 47) (hp : p < 4) (hP : P.toInt = p) (ha : -1000000 ≤ a.toInt ∧ a.toInt ≤ 1000000) (hx : Cx p τ σ) :
    ∃ r x τ' σ', (bp (c_X0_becomeOneLine (b + 1) a τ) fun τ0 => bp (c_X5_startAfresh n b τ0) fun τ1 => c_X5_perform n b (5 * p + 74) τ1) = some (r, τ') ∧ c_X12_triesAmount n P a σ = some (x, σ') ∧ ((r = 0 ∧ x = 0 ∧ Tr b τ' σ') ∨ (r ≠ 0 ∧ x = 1)) ∧ Sr b 1 τ' σ' ∧ Ft σ σ' ∧ Sm σ σ' 159 ∧ To b (b + 13) τ τ' := by
  have z0 : (0 : Int32).toNatClampNeg = 0 := rfl
  have hb4 : O4 b := by unfold O4; omega
  have e1 : c_X0_becomeOneLine (b + 1) a τ = some (pI (pI τ (b + 1 + 1) 0 a) (b + 1) 1 1) := by
    unfold c_X0_becomeOneLine
    rw [ck_ix (by decide), nm_t, nm_t, z0]
  rw [e1, bp_s]
  have e2 : c_X12_triesAmount n P a σ = bd (c_X12_tries n P (pI (pI σ 130 17 1) 141 0 a)) fun x22 σ21 => ck (x22 = 0 ∨ x22 = 1) (some (x22, σ21)) := by
    unfold c_X12_triesAmount
    rw [nm_t, ck_ix (by decide), nm_t, z0]
  rw [e2]
  have sb : Sb b (pI (pI τ (b + 1 + 1) 0 a) (b + 1) 1 1) (pI (pI σ 130 17 1) 141 0 a) := by
    unfold Sb
    simp (disch := omega) only [gI_pI_s, gJ_pJ_s, gD_pD_s, gI_pJ, gI_pD, gJ_pI, gJ_pD, gD_pI, gD_pJ, gI_pI_a, gJ_pJ_a, gD_pD_a, gI_pI_k, gJ_pJ_k, gD_pD_k, gI_mI_i, gJ_mJ_i, gD_mD_i, gI_mJ, gI_mD, gJ_mI, gJ_mD, gD_mI, gD_mJ, gI_mI_a, gJ_mJ_a, gD_mD_a, gI_mI_o, gJ_mJ_o, gD_mD_o]
    refine ⟨trivial, by decide, by decide, fun j hj => ?_⟩
    have e : j = 0 := by
      have : (1 : Int32).toInt = 1 := rfl
      omega
    subst e
    simp (disch := omega) only [gI_pI_s, gJ_pJ_s, gD_pD_s, gI_pJ, gI_pD, gJ_pI, gJ_pD, gD_pI, gD_pJ, gI_pI_a, gJ_pJ_a, gD_pD_a, gI_pI_k, gJ_pJ_k, gD_pD_k, gI_mI_i, gJ_mJ_i, gD_mD_i, gI_mJ, gI_mD, gJ_mI, gJ_mD, gD_mI, gD_mJ, gI_mI_a, gJ_mJ_a, gD_mD_a, gI_mI_o, gJ_mJ_o, gD_mD_o]
    exact ⟨trivial, ha⟩
  have cx : Cx p (pI (pI τ (b + 1 + 1) 0 a) (b + 1) 1 1) (pI (pI σ 130 17 1) 141 0 a) := Cx_f hx hp (fun a ha => Sm_pI (Sm_pI Sm_refl (by omega)) (by omega)) (fun a ha => Sm_pI (Sm_pI Sm_refl (by omega)) (by omega))
  obtain ⟨r, x, τ', σ', q1, q2, q3, q4, q5, q6⟩ := try_v (b := b) (p := p) (P := P) (τ := pI (pI τ (b + 1 + 1) 0 a) (b + 1) 1 1) (σ := pI (pI σ 130 17 1) 141 0 a) hn lt ls hb4 hp hP sb cx
  have tt : To b (b + 13) τ (pI (pI τ (b + 1 + 1) 0 a) (b + 1) 1 1) := To_pI (To_pI (To_refl lt) (by omega)) (by omega)
  rw [q1, q2, bd_s]
  have x01 : x = 0 ∨ x = 1 := by
    rcases q3 with ⟨-, h, -⟩ | ⟨-, h⟩
    · exact Or.inl h
    · exact Or.inr h
  rw [ck_t x01]
  refine ⟨r, x, τ', σ', rfl, rfl, q3, q4, ?_, Sm_tr (Sm_pI (Sm_pI Sm_refl (by decide)) (by decide)) (q5.1 159 (by decide)), To_trans tt q6⟩
  have fz := Ft_of q5
  obtain ⟨a1, a2, a3, a4, a5, a6, a7⟩ := fz
  refine ⟨fun a ha => Sm_tr (Sm_pI (Sm_pI Sm_refl (by omega)) (by omega)) (a1 a ha), fun k hk => ?_, a3, fun j hj => ?_, fun j hj => ?_, fun j hj => ?_, a7⟩
  · rw [a2 k hk, gI_pI_a (by decide), gI_pI_k (by omega)]
  · have := a4 j hj
    simp (disch := omega) only [gI_pI_s, gJ_pJ_s, gD_pD_s, gI_pJ, gI_pD, gJ_pI, gJ_pD, gD_pI, gD_pJ, gI_pI_a, gJ_pJ_a, gD_pD_a, gI_pI_k, gJ_pJ_k, gD_pD_k, gI_mI_i, gJ_mJ_i, gD_mD_i, gI_mJ, gI_mD, gJ_mI, gJ_mD, gD_mI, gD_mJ, gI_mI_a, gJ_mJ_a, gD_mD_a, gI_mI_o, gJ_mJ_o, gD_mD_o] at this
    exact this
  · exact a5 j hj
  · exact a6 j hj
theorem tot_v : ∀ (d n : Nat) (x k : Int32) (a : Int64), Sa 34 1 τ σ → 0 ≤ k.toInt → k.toInt + d = 8 → d < n → ∃ s w, d_X4_total_4 n 37 a k τ = some s ∧ d_X12_breaks_54 n x a k σ = d_X12_breaks_82 w x s σ := by
  intro d
  induction d with
  | zero =>
    intro n x k a h h3 h4 h5
    obtain ⟨n, rfl⟩ : ∃ k, n = k + 1 := ⟨n - 1, by omega⟩
    refine ⟨a, n, ?_, ?_⟩
    · rw [d_X4_total_4, if_pos (by rw [i32_le]; simp only [Int32.reduceToInt]; omega)]
    · rw [d_X12_breaks_54, if_pos (by rw [i32_le]; simp only [Int32.reduceToInt]; omega)]
  | succ d ih =>
    intro n x k a h h3 h4 h5
    obtain ⟨n, rfl⟩ : ∃ k, n = k + 1 := ⟨n - 1, by omega⟩
    obtain ⟨c1, c2, c3⟩ := cnt1 (v := k) (m := 64) h3 (by omega) (by decide)
    obtain ⟨x1, x2⟩ := ix8p (v := k) ⟨h3, by omega⟩
    have e := h k.toNatClampNeg (by omega)
    have e' : gJ σ 146 (8 + k.toNatClampNeg) = gJ τ (37 + 1) k.toNatClampNeg := e
    obtain ⟨s, w, w1, w2⟩ := ih n x (k + 1) (a + gJ τ (37 + 1) k.toNatClampNeg) h (by omega) (by omega) (by omega)
    refine ⟨s, w, ?_, ?_⟩
    · rw [d_X4_total_4, if_neg (by rw [i32_le]; simp only [Int32.reduceToInt]; omega), ck_ix (by omega), nm_t, nm_t, w1]
    · rw [d_X12_breaks_54, if_neg (by rw [i32_le]; simp only [Int32.reduceToInt]; omega), ck_t x2, nm_t, nm_t, x1, e', w2]
theorem dif1 : ∀ (d n : Nat) (g : Int64) (k : Int32), 0 ≤ k.toInt → k.toInt + d = 8 → d < n → d_X12_differs_5 n g 1 k σ = some 1 := by
  intro d
  induction d with
  | zero =>
    intro n g k h3 h4 h5
    obtain ⟨n, rfl⟩ : ∃ k, n = k + 1 := ⟨n - 1, by omega⟩
    rw [d_X12_differs_5, if_pos (by rw [i32_le]; simp only [Int32.reduceToInt]; omega), ck_t (Or.inr rfl)]
  | succ d ih =>
    intro n g k h3 h4 h5
    obtain ⟨n, rfl⟩ : ∃ k, n = k + 1 := ⟨n - 1, by omega⟩
    obtain ⟨c1, c2, c3⟩ := cnt1 (v := k) (m := 64) h3 (by omega) (by decide)
    rw [d_X12_differs_5, if_neg (by rw [i32_le]; simp only [Int32.reduceToInt]; omega), if_neg (by decide)]
    exact ih n g (k + 1) (by omega) (by omega) (by omega)
theorem mat_v {A1 A2 : Nat} {g : Int32} {g' : Int64} (hg : g.toInt64 = g') (e1 : ∀ k, k < 8 → gJ σ 159 k = gJ τ (A1 + 1) k) (e2 : ∀ k, k < 8 → gJ σ 146 (8 + k) = gJ τ (A2 + 1) k) : ∀ (d n : Nat) (k : Int32), 0 ≤ k.toInt → k.toInt + d = 8 → d + 1 < n → (d_X4_matches_2 n A1 A2 g k τ = some 1 ∧ d_X12_differs_5 n g' 0 k σ = some 0) ∨ (d_X4_matches_2 n A1 A2 g k τ = some 0 ∧ d_X12_differs_5 n g' 0 k σ = some 1) := by
  intro d
  induction d with
  | zero =>
    intro n k h3 h4 h5
    obtain ⟨n, rfl⟩ : ∃ k, n = k + 1 := ⟨n - 1, by omega⟩
    left
    refine ⟨?_, ?_⟩
    · rw [d_X4_matches_2, if_pos (by rw [i32_le]; simp only [Int32.reduceToInt]; omega)]
    · rw [d_X12_differs_5, if_pos (by rw [i32_le]; simp only [Int32.reduceToInt]; omega), ck_t (Or.inl rfl)]
  | succ d ih =>
    intro n k h3 h4 h5
    obtain ⟨n, rfl⟩ : ∃ k, n = k + 1 := ⟨n - 1, by omega⟩
    obtain ⟨c1, c2, c3⟩ := cnt1 (v := k) (m := 64) h3 (by omega) (by decide)
    obtain ⟨x1, x2⟩ := ix8p (v := k) ⟨h3, by omega⟩
    have hk : ix k 8 := ix_of h3 (by omega)
    have hle : ¬ (8 : Int32) ≤ k := by rw [i32_le]; simp only [Int32.reduceToInt]; omega
    rw [d_X4_matches_2, d_X12_differs_5, if_neg hle, if_neg hle, if_pos rfl, ck_t hk, ck_t hk, ck_t hk, ck_t x2, x1, e1 _ (by omega), e2 _ (by omega), hg]
    by_cases q : gJ τ (A1 + 1) k.toNatClampNeg = g' * gJ τ (A2 + 1) k.toNatClampNeg
    · rw [if_pos q, if_pos q, nm_t]
      exact ih n (k + 1) (by omega) (by omega) (by omega)
    · rw [if_neg q, if_neg q]
      right
      refine ⟨rfl, ?_⟩
      exact dif1 d n g' (k + 1) (by omega) (by omega) (by omega)
theorem notes_v : ∀ (d n : Nat) (k : Int32) (σ : Sg) {f : Nat → Int64}, (∀ j, j < 8 → gJ σ 146 (8 + j) = f j) → 0 ≤ k.toInt → k.toInt + d = 8 → d < n → d_X12_notes_2 n k σ = some (mJ σ 159 k.toNatClampNeg 8 f) := by
  intro d
  induction d with
  | zero =>
    intro n k σ f hf h3 h4 h5
    obtain ⟨n, rfl⟩ : ∃ k, n = k + 1 := ⟨n - 1, by omega⟩
    have := nat0 h3
    rw [d_X12_notes_2, if_pos (by rw [i32_le]; simp only [Int32.reduceToInt]; omega), mJ_nil (by omega)]
  | succ d ih =>
    intro n k σ f hf h3 h4 h5
    obtain ⟨n, rfl⟩ : ∃ k, n = k + 1 := ⟨n - 1, by omega⟩
    obtain ⟨c1, c2, c3⟩ := cnt1 (v := k) (m := 64) h3 (by omega) (by decide)
    obtain ⟨x1, x2⟩ := ix8p (v := k) ⟨h3, by omega⟩
    rw [d_X12_notes_2, if_neg (by rw [i32_le]; simp only [Int32.reduceToInt]; omega), ck_t x2, ck_ix (by omega), nm_t, nm_t, x1, hf _ (by omega), ih n (k + 1) (pJ σ 159 k.toNatClampNeg (f k.toNatClampNeg)) (f := f) (fun j hj => by rw [gJ_pJ_a (by decide)]; exact hf j hj) (by omega) (by omega) (by omega), c2, mJ_step (by omega) rfl]
/-- unfair already -/
theorem unf1 : ∀ (d n : Nat) (g : Int64) (k : Int32) {z N : Nat} {v : Int32}, Wm z v τ σ → gI σ 130 30 = v → gI σ 130 27 = 1 → N = wN τ z → 0 ≤ k.toInt → k.toInt + d = N → d + 50 < n → d_X12_isUnfair_25 n 1 g k σ = some 1 := by
  intro d
  induction d with
  | zero =>
    intro n g k z N v hw hv hu hN h3 h4 h5
    obtain ⟨n, rfl⟩ : ∃ k, n = k + 1 := ⟨n - 1, by omega⟩
    obtain ⟨Q, p1, p2⟩ := m_parts hw (n := n) (by omega)
    rw [d_X12_isUnfair_25, if_neg (by rw [hu]; decide), hv, p1, bp_s, if_pos (by rw [i32_le]; omega), ck_t (Or.inr rfl)]
  | succ d ih =>
    intro n g k z N v hw hv hu hN h3 h4 h5
    obtain ⟨n, rfl⟩ : ∃ k, n = k + 1 := ⟨n - 1, by omega⟩
    obtain ⟨Q, p1, p2⟩ := m_parts hw (n := n) (by omega)
    obtain ⟨k1, k2, k3, k4, k5, k6⟩ := wts_v (τ := τ) (z := z) ⟨hw.2.2.2.1, hw.2.2.2.2.1⟩ (fun j hj => (hw.2.2.2.2.2 j hj).2)
    obtain ⟨c1, c2, c3⟩ := cnt1 (v := k) (m := 64) h3 (by omega) (by decide)
    obtain ⟨x1, x2⟩ := ix8p (v := k) ⟨h3, by omega⟩
    rw [d_X12_isUnfair_25, if_neg (by rw [hu]; decide), hv, p1, bp_s, if_neg (by rw [i32_le]; omega), ck_t x2, m_weighed hw (by omega) ⟨h3, by omega⟩, bp_s, nm_t, if_neg (by decide)]
    exact ih n g (k + 1) hw hv hu hN (by omega) (by omega) (by omega)
theorem str_v : ∀ (d n : Nat) (k : Int32) {z N : Nat} {v : Int32}, Tr 34 τ σ → Wm z v τ σ → gI σ 130 30 = v → gI τ (34 + 5) 1 = 1 → N = wN τ z → z = (gI σ 130 30).toNatClampNeg → 0 ≤ k.toInt → k.toInt + d = N → d + 60 < n →
    (d_X7_strays_2 n 39 k τ = some 0 ∧ d_X12_isUnfair_25 n 0 (J (wS τ z)) k σ = some 0) ∨ (d_X7_strays_2 n 39 k τ = some 1 ∧ d_X12_isUnfair_25 n 0 (J (wS τ z)) k σ = some 1) := by
  intro d
  induction d with
  | zero =>
    intro n k z N v ht hw hv hu hN hz h3 h4 h5
    obtain ⟨n, rfl⟩ : ∃ k, n = k + 1 := ⟨n - 1, by omega⟩
    obtain ⟨Q, p1, p2⟩ := m_parts hw (n := n) (by omega)
    have hu' : gI σ 130 27 = 1 := by rw [ht.2.2.2.1.1]; exact hu
    obtain ⟨i1, i2, i3, i4, i5, i6⟩ := ht.2.2.2.2 hu
    rw [← hz] at i4
    have i4' : (gI τ 39 4).toInt = wN τ z := i4
    left
    refine ⟨?_, ?_⟩
    · rw [d_X7_strays_2, if_pos (by rw [i32_le]; omega)]
    · rw [d_X12_isUnfair_25, if_neg (by rw [hu']; decide), hv, p1, bp_s, if_pos (by rw [i32_le]; omega), ck_t (Or.inl rfl)]
  | succ d ih =>
    intro n k z N v ht hw hv hu hN hz h3 h4 h5
    obtain ⟨n, rfl⟩ : ∃ k, n = k + 1 := ⟨n - 1, by omega⟩
    obtain ⟨Q, p1, p2⟩ := m_parts hw (n := n) (by omega)
    obtain ⟨k1, k2, k3, k4, k5, k6⟩ := wts_v (τ := τ) (z := z) ⟨hw.2.2.2.1, hw.2.2.2.2.1⟩ (fun j hj => (hw.2.2.2.2.2 j hj).2)
    obtain ⟨c1, c2, c3⟩ := cnt1 (v := k) (m := 64) h3 (by omega) (by decide)
    obtain ⟨x1, x2⟩ := ix8p (v := k) ⟨h3, by omega⟩
    have hk : ix k 8 := ix_of h3 (by omega)
    have hu' : gI σ 130 27 = 1 := by rw [ht.2.2.2.1.1]; exact hu
    obtain ⟨i1, i2, i3, i4, i5, i6⟩ := ht.2.2.2.2 hu
    rw [← hz] at i4 i5 i6
    have i4' : (gI τ 39 4).toInt = wN τ z := i4
    have i5' : gJ τ 39 5 = J (wS τ z) := J_eq i5
    have i6' : (gI τ (39 + 2) k.toNatClampNeg).toInt64 = J (wW τ z k.toNatClampNeg) := J_eq (by rw [i64_of32]; exact i6 _ (by omega))
    have i1' : gJ σ 130 29 = gJ τ 39 6 := i1
    have ep : gJ σ 144 (8 + k.toNatClampNeg) = gJ τ (39 + 1) k.toNatClampNeg := (ht.2.2.1 k.toNatClampNeg (by omega)).1
    have h27 : ¬ gI σ 130 27 = 0 := by rw [hu']; decide
    have hQ : ¬ Q ≤ k := by rw [i32_le]; omega
    have hle : ¬ gI τ 39 4 ≤ k := by rw [i32_le]; omega
    rw [d_X7_strays_2, if_neg hle, ck_t hk, ck_t hk, nm_t, i5', i6', d_X12_isUnfair_25, if_neg h27, hv, p1, bp_s, if_neg hQ, ck_t x2, m_weighed hw (by omega) ⟨h3, by omega⟩, bp_s]
    simp only [nm_t, x1, ep, i1', if_pos (show (0 : Int32) = 0 from rfl)]
    have one : d_X12_isUnfair_94 (fun c1 c4 => d_X12_isUnfair_25 n c1 (J (wS τ z)) c4 σ) n (J (wS τ z)) k σ = some 1 := by
      exact unf1 d n (J (wS τ z)) (k + 1) hw hv hu' hN (by omega) (by omega) (by omega)
    rw [one]
    by_cases q1 : J (wS τ z) ≤ gJ τ (39 + 1) k.toNatClampNeg * J (wS τ z) - gJ τ 39 6 * J (wW τ z k.toNatClampNeg)
    · rw [if_pos q1, if_pos q1]
      right; exact ⟨rfl, rfl⟩
    · rw [if_neg q1, if_neg q1]
      by_cases q2 : -(J (wS τ z)) < gJ τ (39 + 1) k.toNatClampNeg * J (wS τ z) - gJ τ 39 6 * J (wW τ z k.toNatClampNeg)
      · rw [if_pos q2, if_pos q2]
        exact ih n (k + 1) ht hw hv hu hN hz (by omega) (by omega) (by omega)
      · rw [if_neg q2, if_neg q2]
        right; exact ⟨rfl, rfl⟩
end BRK
