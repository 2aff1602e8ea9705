section ORDER
variable {c p N : Nat} {P : Int32}
theorem Ft_lo {σ σ' : Sg} (h0 : gI σ 130 16 = 0) (e : ∀ a, ¬ (a = 130 ∨ a = 141 ∨ (158 ≤ a ∧ a ≤ 163)) → Sm σ σ' a) (e' : ∀ k, k ≠ 17 → gI σ' 130 k = gI σ 130 k) (hl : Lay σ') : Ft σ σ' := by
  refine ⟨fun a ha => e a (by omega), fun k hk => e' k (by omega), (e' 16 (by decide)).trans h0, fun j _ => ?_, fun j _ => ?_, fun j _ => ?_, hl⟩
  · rw [(e 142 (by decide)).2.1, (e 143 (by decide)).2.1, (e 144 (by decide)).2.1, (e 149 (by decide)).1, (e 146 (by decide)).2.1]
    exact ⟨rfl, rfl, rfl, rfl, rfl⟩
  · rw [(e 145 (by decide)).2.1]
  · rw [(e 147 (by decide)).2.1, (e 148 (by decide)).2.1]
    exact ⟨rfl, rfl⟩
/-- what stands between two orders; ok: the first order's run was done -/
def Od (N : Nat) (L : List Nat) (ok : Bool) (τ σ : Sg) : Prop := Row 68 L τ ∧ Row 162 L σ ∧ gI τ 48 1 = gI τ 14 1 ∧ (∀ j, j < N → gJ σ 163 j = gJ τ 46 j) ∧ (ok = true → ∀ k, k < 8 → gJ σ 159 k = gJ τ 38 k) ∧ (ok = false → ∀ k, k < 8 → gJ σ 159 k = 0)
def k1 (ok : Bool) : Int32 := if ok then 1 else 0
def k0 (ok : Bool) : Int32 := if ok then 0 else 1
/-- one order is tried by both -/
theorem ord1 {b : Nat} {τ σ : Sg} {n n' : Nat} {L : List Nat} (hb : b = 34 ∨ b = 47) (hn : 1100 ≤ n) (hn' : 1100 ≤ n') (h : Rl c τ σ) (hp : p < 4) (hP : P.toInt = p) (hN : N ≤ 6) (ho : okP N L = true) (hc : (gI τ 14 1).toInt = N) (h1 : gI τ (b + 1) 1 = gI τ 14 1) (h2 : ∀ j, j < N → gI τ (b + 2) j = gI τ 15 (gtL L j)) (hr : Row 162 L σ) :
    ∃ r x τ' σ', (bp (c_X5_startAfresh n b τ) fun τ1 => c_X5_perform n b (5 * p + 74) τ1) = some (r, τ') ∧ c_X12_triesOrder n' P σ = some (x, σ') ∧ ((r = 0 ∧ x = 0 ∧ Tr b τ' σ') ∨ (r ≠ 0 ∧ x = 1 ∧ ∀ j, j < 8 → gJ σ' 146 (8 + j) = 0)) ∧ Sr b 1 τ' σ' ∧ Rl c τ' σ' ∧ To b (b + 13) τ τ' ∧ gI τ' (b + 1) 1 = gI τ (b + 1) 1 ∧ (∀ a, 159 ≤ a ∧ a ≤ 163 → Sm σ σ' a) := by
  have z0 : (0 : Int32).toNatClampNeg = 0 := rfl
  have hb4 : O4 b := by unfold O4; omega
  obtain ⟨b1, b2, b3, b4⟩ := h.2.2.2.1
  have lt := h.1.1
  have ls := h.1.2.1
  have ec : (gI σ 130 3).toInt = N := by rw [b1]; exact hc
  unfold c_X12_triesOrder
  rw [nm_t]
  obtain ⟨w, w1, w2⟩ := t10_v (v1 := P) (x := gI σ 130 3) (f := gI σ 133) hN ho ec N n' 0 (pI σ 130 17 (gI σ 130 3)) (gI_pI_k (by decide)) (fun j hj => by rw [gI_pI_a (by decide)]; exact hr j hj) (fun j hj => gI_pI_a (by decide)) (by decide) (by simp only [Int32.reduceToInt]; omega) (by omega)
  rw [w2, z0]
  generalize hS : mI (pI σ 130 17 (gI σ 130 3)) 141 0 N (fun j => gI σ 133 (gtL L j)) = σ1
  have l1 : Lay σ1 := by rw [← hS]; exact ls
  have fS : ∀ a, ¬ (a = 130 ∨ a = 141) → Sm σ σ1 a := fun a ha => by rw [← hS]; exact Sm_mI (Sm_pI Sm_refl (by omega)) (by omega)
  have gS : ∀ k, k ≠ 17 → gI σ1 130 k = gI σ 130 k := fun k hk => by rw [← hS, gI_mI_a (by decide), gI_pI_k hk]
  have ft : Ft σ σ1 := Ft_lo (Rl_0 h) (fun a ha => fS a (by omega)) gS l1
  have sb : Sb b τ σ1 := by
    refine ⟨by rw [h1, ← hS, gI_mI_a (by decide), gI_pI_s]; exact b1, by rw [h1]; exact b2, by rw [h1]; exact b3, fun j hj => ?_⟩
    rw [h1] at hj
    have hj' : j < N := by omega
    have l := ok_lt ho hj'
    obtain ⟨d1, d2, d3⟩ := b4 (gtL L j) (by omega)
    rw [h2 j hj', ← hS, gI_mI_i (by omega)]
    exact ⟨d1, d2, d3⟩
  have cx : Cx p τ σ1 := Cx_f (Rl_Cx h hp) hp (fun a _ => Sm_refl) (fun a ha => fS a (by omega))
  obtain ⟨r, x, τ', σ', q1, q2, q3, q4, q5, q6, q7⟩ := try_w (n := n) (n' := w) (by omega) (by omega) lt l1 hb4 hp hP sb cx
  have x01 : x = 0 ∨ x = 1 := by
    rcases q3 with ⟨-, h, -⟩ | ⟨-, h, -⟩
    · exact Or.inl h
    · exact Or.inr h
  unfold d_X12_triesOrder_41
  rw [q2, bd_s, ck_t x01]
  refine ⟨r, x, τ', σ', q1, rfl, q3, q4, Rl_try h (To_mono q6 (by omega)) (Ft_trans ft (Ft_of q5)), q6, q7, fun a ha => Sm_tr (fS a (by omega)) (q5.1 a (by omega))⟩
theorem Row_f {a : Nat} {L : List Nat} {σ σ' : Sg} (h : Row a L σ) (e : Sm σ σ' a) : Row a L σ' := fun j hj => by rw [e.1]; exact h j hj
/-- order by order -/
theorem all_ord {ok : Bool} (hp : p < 4) (hP : P.toInt = p) (hN : N ≤ 6) {v4 : Int32} (hv4 : v4.toInt ≤ 720) : ∀ (m n n' : Nat) (L : List Nat) (v6 v3 : Int32) (τ σ : Sg), goes N m L = true → Rl c τ σ → (gI τ 14 1).toInt = N → Od N L ok τ σ → v4.toInt = v6.toInt + m → v6.toInt = v3.toInt + 1 → 0 ≤ v3.toInt → m + 1500 < n → m + 1500 < n' →
    ∃ r τ' σ', d_X10_firstOrderThatMatters_90 n (5 * p + 74) 14 v4 (k1 ok) v6 τ = some (r, τ') ∧ d_X12_order_88 n' P (k0 ok) v3 σ = some (r, σ') ∧ Rl c τ' σ' := by
  have z0 : (0 : Int32).toNatClampNeg = 0 := rfl
  intro m
  induction m with
  | zero =>
    intro n n' L v6 v3 τ σ hg h hc ⟨o1, o2, o3, o4, o5, o6⟩ h1 h2 h3 h4 h5
    obtain ⟨n, rfl⟩ : ∃ k, n = k + 1 := ⟨n - 1, by omega⟩
    obtain ⟨n', rfl⟩ : ∃ k, n' = k + 1 := ⟨n' - 1, by omega⟩
    rw [goes, Bool.and_eq_true] at hg
    have hl := ok_len hg.1
    have ec : (gI σ 130 3).toInt = L.length := by rw [h.2.2.2.1.1, hl]; exact hc
    rw [d_X10_firstOrderThatMatters_90, if_pos (by rw [i32_le]; omega), d_X12_order_88]
    rcases steps_v (n := n') h.1.2.1 o2 (by omega) ec (by omega) with ⟨w1, w2⟩ | ⟨L', σ', w1, -⟩
    · rw [w2, bd_s, if_pos rfl]
      exact ⟨_, _, _, rfl, rfl, h⟩
    · rw [w1] at hg
      exact absurd (show false = true from hg.2) (by decide)
  | succ m ih =>
    intro n n' L v6 v3 τ σ hg h hc ⟨o1, o2, o3, o4, o5, o6⟩ h1 h2 h3 h4 h5
    obtain ⟨n, rfl⟩ : ∃ k, n = k + 1 := ⟨n - 1, by omega⟩
    obtain ⟨n', rfl⟩ : ∃ k, n' = k + 1 := ⟨n' - 1, by omega⟩
    rw [goes, Bool.and_eq_true] at hg
    have hl := ok_len hg.1
    have ec : (gI σ 130 3).toInt = L.length := by rw [h.2.2.2.1.1, hl]; exact hc
    have lt := h.1.1
    have ls := h.1.2.1
    have c6 : (v6 + 1).toInt = v6.toInt + 1 := i32_add1 (m := 1000) (by omega) (by decide)
    have c3 : (v3 + 1).toInt = v3.toInt + 1 := i32_add1 (m := 1000) (by omega) (by decide)
    have e63 : v3 + 1 = v6 := by rw [i32_eq]; omega
    rw [d_X10_firstOrderThatMatters_90, if_neg (by rw [i32_le]; omega), d_X12_order_88]
    rcases steps_v (n := n') ls o2 (by omega) ec (by omega) with ⟨w1, -⟩ | ⟨L', σ1, w1, w2, w3, w4⟩
    · rw [w1] at hg
      exact absurd (show false = true from hg.2) (by decide)
    · rw [w1] at hg
      have hg2 : goes N m L' = true := hg.2
      have ho' : okP N L' = true := by
        cases m with
        | zero => rw [goes, Bool.and_eq_true] at hg2; exact hg2.1
        | succ m => rw [goes, Bool.and_eq_true] at hg2; exact hg2.1
      obtain ⟨τ1, x1, x2, x3⟩ := goto_v (n := n) (v1 := gI τ 14 1) lt o1 (by omega) (by rw [hl]; exact hc) w1 (by omega)
      rw [w2, bd_s, if_neg (by decide), nm_t, e63, x1, bp_s]
      have f1 : ∀ a, a ≠ 68 → Sm τ τ1 a := fun a ha => Sm_to x3 (by omega)
      have g1 : ∀ a, a ≠ 162 → Sm σ σ1 a := fun a ha => Sm_to w4 (by omega)
      have hc1 : gI τ1 14 1 = gI τ 14 1 := by rw [(f1 14 (by decide)).1]
      obtain ⟨w, y1, y2⟩ := o108_v (k90 := fun c6 τ => d_X10_firstOrderThatMatters_90 n (5 * p + 74) 14 v4 (k1 ok) c6 τ) (v2 := 5 * p + 74) (v4 := v4) (v5 := k1 ok) (v6 := v6) (x := gI τ 14 1) (f := gI τ 15) hN ho' hc N n 0 τ1 hc1 x2 (fun j _ => by rw [(f1 15 (by decide)).1]) (by decide) (by simp only [Int32.reduceToInt]; omega) (by omega)
      rw [y2, z0]
      generalize hT : mI τ1 49 0 N (fun j => gI τ 15 (gtL L' j)) = τ2
      have f2 : ∀ a, ¬ (a = 68 ∨ a = 49) → Sm τ τ2 a := fun a ha => by rw [← hT]; exact Sm_mI (f1 a (by omega)) (by omega)
      have tt : To 33 69 τ τ2 := by
        refine ⟨by rw [← hT]; exact x3.1, ?_, fun a ha => f2 a (by omega)⟩
        obtain ⟨u1, u2, u3, u4⟩ := x3.2.1
        rw [← hT]
        exact ⟨u1, u2, u3, u4⟩
      have fts : Ft σ σ1 := Ft_lo (Rl_0 h) (fun a ha => g1 a (by omega)) (fun k _ => by rw [(g1 130 (by decide)).1]) w4.1
      have h2' : Rl c τ2 σ1 := Rl_try h tt fts
      have r68 : Row 68 L' τ2 := by
        intro j hj
        rw [← hT, gI_mI_a (by decide)]; exact x2 j hj
      obtain ⟨r, x, τ3, σ3, q1, q2, q3, q4, q5, q6, q7, q8⟩ := ord1 (b := 47) (n := w) (n' := n') (p := p) (P := P) (c := c) (Or.inr rfl) (by omega) (by omega) h2' hp hP hN ho' (by rw [(f2 14 (by decide)).1]; exact hc) (by rw [(f2 48 (by decide)).1, (f2 14 (by decide)).1]; exact o3) (fun j hj => by rw [(f2 15 (by decide)).1, ← hT, gI_mI_i (by omega)]) w3
      unfold d_X10_firstOrderThatMatters_148
      rw [bp_bd, q1, bd_s, q2, bd_s]
      have F3 : ∀ a, ¬ (a = 68 ∨ (47 ≤ a ∧ a ≤ 59)) → Sm τ τ3 a := fun a ha => Sm_tr (f2 a (by omega)) (Sm_to q6 (by omega))
      have G3 : ∀ a, 159 ≤ a ∧ a ≤ 163 ∧ a ≠ 162 → Sm σ σ3 a := fun a ha => Sm_tr (g1 a (by omega)) (q8 a (by omega))
      have R3 : Row 68 L' τ3 := Row_f r68 (Sm_to q6 (by omega))
      have S3 : Row 162 L' σ3 := Row_f w3 (q8 162 (by decide))
      have hc3 : gI τ3 14 1 = gI τ 14 1 := by rw [(F3 14 (by decide)).1]
      have hs3 : gI σ3 130 3 = gI τ 14 1 := by rw [q5.2.2.2.1.1]; exact hc3
      have od : Od N L' ok τ3 σ3 := by
        refine ⟨R3, S3, ?_, fun j hj => ?_, fun q k hk => ?_, fun q k hk => ?_⟩
        · rw [hc3, show gI τ3 48 1 = gI τ2 48 1 from q7, (f2 48 (by decide)).1]; exact o3
        · rw [(G3 163 (by decide)).2.1, (F3 46 (by decide)).2.1]; exact o4 j hj
        · rw [(G3 159 (by decide)).2.1, (F3 38 (by decide)).2.1]; exact o5 q k hk
        · rw [(G3 159 (by decide)).2.1]; exact o6 q k hk
      -- they differ
      have dif : ∃ r τ' σ', some (v6, τ3) = some (r, τ') ∧ d_X12_order_115 (fun c3 τ => d_X12_order_88 n' P (k0 ok) c3 τ) n' P (k0 ok) v6 σ3 = some (r, σ') ∧ Rl c τ' σ' := by
        refine ⟨v6, τ3, σ3, rfl, ?_, q5⟩
        unfold d_X12_order_115 d_X12_order_120
        exact o125_1 hN hc hs3 N n' 0 (by decide) (by simp only [Int32.reduceToInt]; omega) (by omega)
      -- the results decide
      have res : ∃ r τ' σ', (bp (c_X10_hasOtherResults w (gI τ3 14 1) τ3) fun x147 => if x147 = 0 then (nm (v6 + (1 : Int32)) fun x149 => d_X10_firstOrderThatMatters_90 n (5 * p + 74) 14 v4 (k1 ok) x149 τ3) else some (v6, τ3)) = some (r, τ') ∧ d_X12_order_120 (fun c3 τ => d_X12_order_88 n' P (k0 ok) c3 τ) n' P (k0 ok) v6 0 σ3 = some (r, σ') ∧ Rl c τ' σ' := by
        unfold c_X10_hasOtherResults d_X12_order_120
        rw [hc3]
        rcases other_v (k88 := fun c3 τ => d_X12_order_88 n' P (k0 ok) c3 τ) (v1 := P) (v2 := k0 ok) (v3 := v6) (x := gI τ 14 1) hN ho' hc hs3 R3 S3 (fun j hj => q4 j (by omega)) od.2.2.2.1 N w n' 0 (by decide) (by simp only [Int32.reduceToInt]; omega) (by omega) (by omega) with ⟨s1, s2⟩ | ⟨s1, s2⟩
        · rw [s1, s2, bp_s, if_pos rfl, nm_t]
          exact ih n n' L' (v6 + 1) v6 τ3 σ3 hg2 q5 (by rw [hc3]; exact hc) od (by omega) (by omega) (by omega) (by omega) (by omega)
        · rw [s1, s2, bp_s, if_neg (by decide)]
          exact ⟨_, _, _, rfl, rfl, q5⟩
      unfold d_X10_firstOrderThatMatters_175 c_X10_differs d_X10_differs_34 c_X12_differs
      cases ok with
      | true =>
        rcases q3 with ⟨e1, e2, e3⟩ | ⟨e1, e2, -⟩
        · rw [if_pos e1, if_pos (show k1 true = 1 from rfl), if_neg (show ¬ k1 true = 0 by decide), if_pos (show x = k0 true from e2)]
          rcases mat_v (τ := τ3) (σ := σ3) (A1 := 37) (A2 := 50) (g := 1) (g' := 1) rfl (fun k hk => od.2.2.2.2.1 rfl k hk) (fun k hk => e3.1 k hk) 8 w 0 (by decide) (by decide) (by omega) with ⟨m1, -⟩ | ⟨m1, -⟩
          · rcases mat_v (τ := τ3) (σ := σ3) (A1 := 37) (A2 := 50) (g := 1) (g' := 1) rfl (fun k hk => od.2.2.2.2.1 rfl k hk) (fun k hk => e3.1 k hk) 8 n' 0 (by decide) (by decide) (by omega) with ⟨-, m2⟩ | ⟨m2, -⟩
            · unfold c_X4_matches
              rw [m1, m2, bp_s, if_neg (by decide), bp_s, bp_s, if_pos rfl, if_pos rfl]
              exact res
            · have a1 := Le_up (f := fun n => d_X4_matches_2 n 37 50 1 0 τ3) (fun n => u_d_X4_matches_2) (show w ≤ w + n' by omega) _ m1
              have a2 := Le_up (f := fun n => d_X4_matches_2 n 37 50 1 0 τ3) (fun n => u_d_X4_matches_2) (show n' ≤ w + n' by omega) _ m2
              rw [a1] at a2
              cases a2
          · rcases mat_v (τ := τ3) (σ := σ3) (A1 := 37) (A2 := 50) (g := 1) (g' := 1) rfl (fun k hk => od.2.2.2.2.1 rfl k hk) (fun k hk => e3.1 k hk) 8 n' 0 (by decide) (by decide) (by omega) with ⟨m2, -⟩ | ⟨-, m2⟩
            · have a1 := Le_up (f := fun n => d_X4_matches_2 n 37 50 1 0 τ3) (fun n => u_d_X4_matches_2) (show w ≤ w + n' by omega) _ m1
              have a2 := Le_up (f := fun n => d_X4_matches_2 n 37 50 1 0 τ3) (fun n => u_d_X4_matches_2) (show n' ≤ w + n' by omega) _ m2
              rw [a1] at a2
              cases a2
            · unfold c_X4_matches
              rw [m1, m2, bp_s, if_pos rfl, bp_s, bp_s, if_neg (by decide), if_neg (by decide)]
              exact dif
        · rw [if_neg e1, if_neg (show ¬ k1 true = 0 by decide), if_neg (show ¬ x = k0 true by rw [e2]; decide), bp_s, if_neg (by decide)]
          exact dif
      | false =>
        rcases q3 with ⟨e1, e2, e3⟩ | ⟨e1, e2, e3⟩
        · rw [if_pos e1, if_neg (show ¬ k1 false = 1 by decide), if_neg (show ¬ x = k0 false by rw [e2]; decide), bp_s, if_neg (by decide)]
          exact dif
        · rw [if_neg e1, if_pos (show k1 false = 0 from rfl), if_pos (show k1 false = 0 from rfl), if_pos (show x = k0 false from e2)]
          rw [dif0 (σ := σ3) (fun k hk => ⟨od.2.2.2.2.2 rfl k hk, e3 k hk⟩) 8 n' 0 (by decide) (by decide) (by omega), bp_s, bp_s, if_pos rfl, if_pos rfl]
          exact res
theorem s_order (n : Nat) (hn : 5000 ≤ n) (a1 : Int32) {c : Nat} {τ σ : Sg} (h : Rl c τ σ) : ∃ r τ' σ', c_X11_order n a1 τ = some (r, τ') ∧ c_X12_order n a1 σ = some (r, σ') ∧ Rl (c + 1) τ' σ' := by
  have h5 := h.2.2.2.2.2.1
  have vp1 := v_isProgram12 h5 a1
  have g3 := h5.2.2.1
  obtain ⟨b1, b2, b3, b4⟩ := h.2.2.2.1
  have lt := h.1.1
  have ls := h.1.2.1
  have z0 : (0 : Int32).toNatClampNeg = 0 := rfl
  unfold c_X11_order c_X12_order
  rw [v_isProgram, vp1]
  simp only [bp_s, ite10, b1]
  by_cases q1 : 0 ≤ a1.toInt ∧ a1.toInt < (gI τ 4 8).toInt
  · rw [if_pos q1, if_pos q1]
    have n1 := nat0 q1.1
    have x1 : ix a1 4 := ix_of q1.1 (by omega)
    by_cases q2 : gI τ 14 1 ≤ 6
    · rw [if_pos q2, if_pos q2, ck_t x1]
      rw [i32_le] at q2
      simp only [Int32.reduceToInt] at q2
      have hp : a1.toNatClampNeg < 4 := by omega
      generalize hpp : a1.toNatClampNeg = p at *
      obtain ⟨N, hNe⟩ : ∃ N : Nat, (gI τ 14 1).toInt = N := ⟨(gI τ 14 1).toInt.toNat, by omega⟩
      have hN : N ≤ 6 := by omega
      obtain ⟨gg, gf, gp⟩ := goes_all hN
      have len : (List.range N).length = N := List.length_range
      have gt : ∀ j, j < N → gtL (List.range N) j = j := fun j hj => by
        unfold gtL
        rw [List.getD_eq_getElem?_getD, List.getElem?_range hj]; rfl
      have hok : okP N (List.range N) = true := by
        cases hm : fct N - 1 with
        | zero => rw [hm, goes, Bool.and_eq_true] at gg; exact gg.1
        | succ m => rw [hm, goes, Bool.and_eq_true] at gg; exact gg.1
      -- the first order: as they stand
      obtain ⟨w, τ1, v4, w1, w2, w3, w4, w5⟩ := o6_v (v2 := 5 * p + 74) hN N n 0 1 τ lt hNe (by decide) (by simp only [Int32.reduceToInt]; omega) rfl (fun j hj => by simp only [Int32.reduceToInt] at hj; omega) (by omega)
      have f1 : ∀ a, a ≠ 68 → Sm τ τ1 a := fun a ha => Sm_to w5 (by omega)
      have c1 : gI τ1 14 1 = gI τ 14 1 := by rw [(f1 14 (by decide)).1]
      obtain ⟨w', σ1, y1, y2, y3, y4⟩ := r24_v (v1 := a1) hN N n 0 σ ls (by rw [b1]; exact hNe) (by decide) (by simp only [Int32.reduceToInt]; omega) (fun j hj => by simp only [Int32.reduceToInt] at hj; omega) (by omega)
      have g1 : ∀ a, a ≠ 162 → Sm σ σ1 a := fun a ha => Sm_to y4 (by omega)
      have e6 : c_X10_firstOrderThatMatters n (5 * p + 74) 14 τ = d_X10_firstOrderThatMatters_39 w (5 * p + 74) 14 v4 τ1 := w2
      rw [e6, y2]
      unfold d_X10_firstOrderThatMatters_39 d_X12_order_45 c_X0_become
      rw [bec_v (b := 35) (x := gI τ 14 1) (f := gI τ 15) (N := N) (Or.inl rfl) (by omega) hNe N w 0 τ1 c1 (fun j _ => by rw [(f1 15 (by decide)).1]) (by decide) (by simp only [Int32.reduceToInt]; omega) (by omega), bp_s, z0]
      generalize hT : pI (mI τ1 (35 + 1) 0 N (gI τ 15)) 35 1 (gI τ 14 1) = τ2
      have f2 : ∀ a, ¬ (a = 68 ∨ a = 35 ∨ a = 36) → Sm τ τ2 a := fun a ha => by rw [← hT]; exact Sm_pI (Sm_mI (f1 a (by omega)) (by omega)) (by omega)
      have tt : To 33 69 τ τ2 := by
        refine ⟨by rw [← hT]; exact w5.1, ?_, fun a ha => f2 a (by omega)⟩
        obtain ⟨u1, u2, u3, u4⟩ := w5.2.1
        rw [← hT]
        exact ⟨u1, u2, u3, u4⟩
      have fts : Ft σ σ1 := Ft_lo (Rl_0 h) (fun a ha => g1 a (by omega)) (fun k _ => by rw [(g1 130 (by decide)).1]) y4.1
      have h2' : Rl c τ2 σ1 := Rl_try h tt fts
      have r68 : Row 68 (List.range N) τ2 := by
        intro j hj
        rw [len] at hj
        rw [← hT, gI_pI_a (by decide), gI_mI_a (by decide), gt j hj]; exact w4 j hj
      have r162 : Row 162 (List.range N) σ1 := by
        intro j hj
        rw [len] at hj
        rw [gt j hj]; exact y3 j hj
      obtain ⟨r, x, τ3, σ3, q1', q2', q3, q4, q5, q6, q7, q8⟩ := ord1 (b := 34) (n := w) (n' := w') (p := p) (P := a1) (c := c) (Or.inl rfl) (by omega) (by omega) h2' hp n1.symm hN hok (by rw [(f2 14 (by decide)).1]; exact hNe) (by rw [(f2 14 (by decide)).1, ← hT]; exact gI_pI_s) (fun j hj => by rw [(f2 15 (by decide)).1, gt j hj, ← hT, gI_pI_a (by omega)]; exact gI_mI_i (by omega)) r162
      rw [bp_bd, q1', bd_s, q2', bd_s]
      -- the reference keeps what came out
      have hs3 : gI σ3 130 3 = gI τ 14 1 := by rw [q5.2.2.2.1.1, (Sm_to q6 (show ¬ (34 ≤ 14 ∧ 14 < 34 + 13) by decide)).1, (f2 14 (by decide)).1]
      unfold c_X12_notes
      rw [notes_v 8 w' 0 σ3 (f := fun j => gJ σ3 146 (8 + j)) (fun j _ => rfl) (by decide) (by decide) (by omega), bp_s, z0]
      obtain ⟨u, u1, u2⟩ := r57_v (v1 := a1) (v2 := x) (x := gI τ 14 1) (f := fun j => gJ σ3 145 (12 + j)) hN hNe N w' 0 (mJ σ3 159 0 8 (fun j => gJ σ3 146 (8 + j))) (by rw [gI_mJ]; exact hs3) (fun j _ => by rw [gJ_mJ_a (by decide)]) (by decide) (by simp only [Int32.reduceToInt]; omega) (by omega)
      rw [u2, z0]
      unfold d_X12_order_86
      generalize hS : mJ (mJ σ3 159 0 8 (fun j => gJ σ3 146 (8 + j))) 163 0 N (fun j => gJ σ3 145 (12 + j)) = σ4
      have g4 : ∀ a, ¬ (a = 159 ∨ a = 163) → Sm σ3 σ4 a := fun a ha => by rw [← hS]; exact Sm_mJ (Sm_mJ Sm_refl (by omega)) (by omega)
      have ft4 : Ft σ3 σ4 := Ft_lo (Rl_0 q5) (fun a ha => g4 a (by omega)) (fun k _ => by rw [(g4 130 (by decide)).1]) (by rw [← hS]; exact q5.1.2.1)
      -- the component's second machine gets the bill
      have c3 : gI τ3 14 1 = gI τ 14 1 := by rw [(Sm_to q6 (by decide)).1, (f2 14 (by decide)).1]
      have c3' : ∀ j, gI τ3 15 j = gI τ 15 j := fun j => by rw [(Sm_to q6 (by decide)).1, (f2 15 (by decide)).1]
      have bec : ∀ s0, d_X10_firstOrderThatMatters_74 w (5 * p + 74) 14 v4 s0 τ3 = d_X10_firstOrderThatMatters_90 w (5 * p + 74) 14 v4 s0 1 (pI (mI τ3 49 0 N (gI τ 15)) 48 1 (gI τ 14 1)) := by
        intro s0
        unfold d_X10_firstOrderThatMatters_74 c_X0_become
        rw [bec_v (b := 48) (x := gI τ 14 1) (f := gI τ 15) (N := N) (Or.inr rfl) (by omega) hNe N w 0 τ3 c3 (fun j _ => c3' j) (by decide) (by simp only [Int32.reduceToInt]; omega) (by omega), bp_s, z0]
      generalize hT4 : pI (mI τ3 49 0 N (gI τ 15)) 48 1 (gI τ 14 1) = τ4 at bec
      have f4 : ∀ a, ¬ (a = 48 ∨ a = 49) → Sm τ3 τ4 a := fun a ha => by rw [← hT4]; exact Sm_pI (Sm_mI Sm_refl (by omega)) (by omega)
      have tt4 : To 33 69 τ3 τ4 := by
        refine ⟨by rw [← hT4]; exact q5.1.1, ?_, fun a ha => f4 a (by omega)⟩
        rw [← hT4]
        exact ⟨rfl, rfl, rfl, rfl⟩
      have h4 : Rl c τ4 σ4 := Rl_try q5 tt4 ft4
      have fin : ∀ ok : Bool, (if r = 0 then d_X10_firstOrderThatMatters_74 w (5 * p + 74) 14 v4 1 τ3 else d_X10_firstOrderThatMatters_74 w (5 * p + 74) 14 v4 0 τ3) = d_X10_firstOrderThatMatters_74 w (5 * p + 74) 14 v4 (k1 ok) τ3 → x = k0 ok → (ok = true → ∀ k, k < 8 → gJ σ3 146 (8 + k) = gJ τ3 38 k) → (ok = false → ∀ k, k < 8 → gJ σ3 146 (8 + k) = 0) → ∃ r' τ' σ', (bd (if r = 0 then d_X10_firstOrderThatMatters_74 w (5 * p + 74) 14 v4 1 τ3 else d_X10_firstOrderThatMatters_74 w (5 * p + 74) 14 v4 0 τ3) fun x45 σ44 => some (x45, σ44)) = some (r', τ') ∧ d_X12_order_88 u a1 x 0 σ4 = some (r', σ') ∧ Rl (c + 1) τ' σ' := by
        intro ok e1 e2 e3 e4
        have od : Od N (List.range N) ok τ4 σ4 := by
          refine ⟨Row_f (Row_f r68 (Sm_to q6 (by decide))) (f4 68 (by decide)), Row_f (Row_f r162 (q8 162 (by decide))) (g4 162 (by decide)), ?_, fun j hj => ?_, fun q k hk => ?_, fun q k hk => ?_⟩
          · rw [(f4 14 (by decide)).1, c3, ← hT4, gI_pI_s]
          · rw [(f4 46 (by decide)).2.1, ← hS, gJ_mJ_i (by omega)]
            exact q4 j (by omega)
          · rw [(f4 38 (by decide)).2.1, ← hS, gJ_mJ_a (by decide), gJ_mJ_i (by omega)]
            exact e3 q k hk
          · rw [← hS, gJ_mJ_a (by decide), gJ_mJ_i (by omega)]
            exact e4 q k hk
        have w3' : v4.toInt = (1 : Int32).toInt + ((fct N - 1 : Nat) : Int) := by
          rw [w3]; simp only [Int32.reduceToInt]; omega
        obtain ⟨r', τ', σ', z1, z2, z3⟩ := all_ord (ok := ok) (p := p) (P := a1) (N := N) (c := c) (v4 := v4) hp n1.symm hN (by rw [w3]; omega) (fct N - 1) w u (List.range N) 1 0 τ4 σ4 gg h4 (by rw [(f4 14 (by decide)).1, c3]; exact hNe) od w3' (by decide) (by decide) (by omega) (by omega)
        rw [e1, bec, z1, bd_s, e2, z2]
        exact ⟨_, _, _, rfl, rfl, Rl_s z3⟩
      rcases q3 with ⟨e1, e2, e3⟩ | ⟨e1, e2, e3⟩
      · exact fin true (by rw [if_pos e1]; rfl) e2 (fun _ k hk => e3.1 k hk) (fun q => absurd q (by decide))
      · exact fin false (by rw [if_neg e1]; rfl) e2 (fun q => absurd q (by decide)) (fun _ => e3)
    · rw [if_neg q2, if_neg q2]
      exact ⟨_, _, _, rfl, rfl, Rl_s h⟩
  · rw [if_neg q1, if_neg q1]
    exact ⟨_, _, _, rfl, rfl, Rl_s h⟩
end ORDER
