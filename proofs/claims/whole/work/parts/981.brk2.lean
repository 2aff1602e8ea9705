section BRK2
variable {p q c : Nat} {P Q law a : Int32} {τ σ : Sg}
/-- what is owed of runs by doubles -/
def FLT : Prop := ∀ (n p : Nat) (P a : Int32) (τ σ : Sg), 1000 ≤ n → Lay τ → Lay σ → Cx p τ σ → p < 4 → P.toInt = p → -1000000 ≤ a.toInt ∧ a.toInt ≤ 1000000 → gI σ 130 16 = 0 →
  ∃ τ2 σ2, c_X2_perform n (5 * p + 74) a τ = some τ2 ∧ c_X12_floats n P a σ = some σ2 ∧ (∀ k, k < 8 → gJ σ2 146 (8 + k) = gJ τ2 62 k) ∧ Ft σ σ2 ∧ Sm σ σ2 159
theorem Rl_Cx (h : Rl c τ σ) (hp : p < 4) : Cx p τ σ := by
  obtain ⟨-, h1, h2, -, -, h5, -⟩ := h
  obtain ⟨j1, j2, j3, j4, -⟩ := h5.2.2.2 p hp
  exact ⟨h1, h2, j1, j2, j3, j4⟩
theorem k7 {k : Int32} (h : 0 ≤ k.toInt ∧ k.toInt ≤ 6) : k = 0 ∨ k = 1 ∨ k = 2 ∨ k = 3 ∨ k = 4 ∨ k = 5 ∨ k = 6 := by
  simp only [i32_eq, Int32.reduceToInt]
  omega
/-- does a break the law: both say the same -/
theorem breaks_v {n : Nat} (hF : FLT) (hn : 2000 ≤ n) (h : Rl c τ σ) (hp : p < 4) (hP : P.toInt = p) (hq : q < 4) (hQ : law = 2 → Q.toInt = q) (hq2 : law ≠ 2 → q = p) (hl : 0 ≤ law.toInt ∧ law.toInt ≤ 6) (ha : -1000000 ≤ a.toInt ∧ a.toInt ≤ 1000000) :
    ∃ r τ' σ', c_X10_breaks n (5 * p + 74) (5 * q + 74) law a τ = some (r, τ') ∧ c_X12_breaks n P law Q a σ = some (r, σ') ∧ (r = 0 ∨ r = 1) ∧ To 33 69 τ τ' ∧ Ft σ σ' := by
  have hT : ∀ r τ', c_X10_breaks n (5 * p + 74) (5 * q + 74) law a τ = some (r, τ') → To 33 69 τ τ' := fun r τ' e => (k_f_X10_breaks (To_refl h.1.1) (by omega) (by unfold O5; omega) (by unfold O5; omega)).2 _ e
  suffices hh : ∃ r τ' σ', c_X10_breaks n (5 * p + 74) (5 * q + 74) law a τ = some (r, τ') ∧ c_X12_breaks n P law Q a σ = some (r, σ') ∧ (r = 0 ∨ r = 1) ∧ Ft σ σ' by
    obtain ⟨r, τ', σ', e1, e2, e3, e4⟩ := hh
    exact ⟨r, τ', σ', e1, e2, e3, hT _ _ e1, e4⟩
  clear hT
  obtain ⟨r, x, τ1, σ1, q1, q2, q3, -, q5, q6, q7⟩ := ta_v (b := 34) (p := p) (P := P) (n := n) (a := a) (τ := τ) (σ := σ) (by omega) h.1.1 h.1.2.1 (Or.inl rfl) hp hP ha (Rl_Cx h hp)
  have h1 : Rl c τ1 σ1 := Rl_try h (To_mono q7 (by omega)) q5
  have l1 := h1.1.1
  have m1 := h1.1.2.1
  unfold c_X10_breaks c_X12_breaks
  simp only [bp_bd]
  have q1' : (bp (c_X0_becomeOneLine 35 a τ) fun τ0 => bp (c_X5_startAfresh n 34 τ0) fun τ1 => c_X5_perform n 34 (5 * p + 74) τ1) = some (r, τ1) := q1
  rw [q1', q2, bd_s, bd_s]
  have hz : (if r = 0 then d_X10_breaks_36 n (5 * p + 74) (5 * q + 74) law a 1 τ1 else d_X10_breaks_36 n (5 * p + 74) (5 * q + 74) law a 0 τ1) = d_X10_breaks_36 n (5 * p + 74) (5 * q + 74) law a (if r = 0 then 1 else 0) τ1 := by
    by_cases e : r = 0
    · rw [if_pos e, if_pos e]
    · rw [if_neg e, if_neg e]
  rw [hz]
  -- the second run and the comparison
  have two : ∀ (sg s0 : Int32) (sg' : Int64) (am : Int32) (u : Nat) (U : Int32), sg.toInt64 = sg' → u < 4 → U.toInt = u → -1000000 ≤ am.toInt ∧ am.toInt ≤ 1000000 → s0 = (if r = 0 then 1 else 0) →
      ∃ y τ' σ', (bd (bp (c_X0_becomeOneLine 48 am τ1) fun τ0 => bp (c_X5_startAfresh n 47 τ0) fun τ2 => c_X5_perform n 47 (5 * u + 74) τ2) fun x158 σ157 => if x158 = 0 then d_X10_breaks_168 n sg 1 s0 σ157 else d_X10_breaks_168 n sg 0 s0 σ157) = some (y, τ') ∧
        (bp (c_X12_notes n σ1) fun σ61 => bd (c_X12_triesAmount n U am σ61) fun x65 σ64 => if x65 = x then (if x = 0 then (bp (c_X12_differs n sg' σ64) fun x70 => if x70 = 0 then some ((0 : Int32), σ64) else some (1, σ64)) else some (0, σ64)) else some (1, σ64)) = some (y, σ') ∧ (y = 0 ∨ y = 1) ∧ Ft σ σ' := by
    intro sg s0 sg' am u U hsg hu hU ham hs0
    have nv := notes_v 8 n 0 σ1 (f := fun j => gJ σ1 146 (8 + j)) (fun j _ => rfl) (by decide) (by decide) (by omega)
    have z0 : (0 : Int32).toNatClampNeg = 0 := rfl
    rw [z0] at nv
    have nv' : c_X12_notes n σ1 = some (mJ σ1 159 0 8 (fun j => gJ σ1 146 (8 + j))) := nv
    rw [nv', bp_s]
    have cx : Cx u τ1 (mJ σ1 159 0 8 (fun j => gJ σ1 146 (8 + j))) := Cx_f (Rl_Cx h1 hu) hu (fun _ _ => Sm_refl) (fun a ha => Sm_mJ Sm_refl (by omega))
    obtain ⟨r2, x2, τ2, σ2, w1, w2, w3, -, w5, w6, w7⟩ := ta_v (b := 47) (p := u) (P := U) (n := n) (a := am) (τ := τ1) (σ := mJ σ1 159 0 8 (fun j => gJ σ1 146 (8 + j))) (by omega) l1 m1 (Or.inr rfl) hu hU ham cx
    have w1' : (bp (c_X0_becomeOneLine 48 am τ1) fun τ0 => bp (c_X5_startAfresh n 47 τ0) fun τ2 => c_X5_perform n 47 (5 * u + 74) τ2) = some (r2, τ2) := w1
    rw [w1', w2, bd_s, bd_s]
    have ft : Ft σ σ2 := by
      refine Ft_trans q5 ?_
      obtain ⟨a1, a2, a3, a4, a5, a6, a7⟩ := w5
      exact ⟨fun a ha => Sm_tr (Sm_mJ Sm_refl (by omega)) (a1 a ha), a2, a3, a4, a5, a6, a7⟩
    have e159 : ∀ k, k < 8 → gJ σ2 159 k = gJ σ1 146 (8 + k) := fun k hk => by rw [w6.2.1, gJ_mJ_i (by omega)]
    have e38 : gJ τ2 (37 + 1) = gJ τ1 (37 + 1) := (Sm_to w7 (by omega)).2.1
    unfold d_X10_breaks_168 c_X10_differs d_X10_differs_34
    rcases q3 with ⟨hr, hx, ht⟩ | ⟨hr, hx⟩
    · rw [if_pos hr] at hs0
      subst hs0
      rcases w3 with ⟨hr2, hx2, ht2⟩ | ⟨hr2, hx2⟩
      · rw [hx, hx2, if_pos hr2, if_pos rfl, if_neg (show ¬ (1 : Int32) = 0 by decide), if_pos rfl, if_pos rfl]
        have mv := mat_v (τ := τ2) (σ := σ2) (A1 := 37) (A2 := 50) hsg (fun k hk => by rw [e159 k hk, e38]; exact ht.1 k hk) (fun k hk => ht2.1 k hk) 8 n 0 (by decide) (by decide) (by omega)
        unfold c_X4_matches c_X12_differs
        rcases mv with ⟨v1, v2⟩ | ⟨v1, v2⟩
        · rw [v1, v2, bp_s, bp_s, if_neg (by decide), if_pos rfl, bp_s, ck_t (Or.inl rfl)]
          exact ⟨_, _, _, rfl, rfl, Or.inl rfl, ft⟩
        · rw [v1, v2, bp_s, bp_s, if_pos rfl, if_neg (by decide), bp_s, ck_t (Or.inr rfl)]
          exact ⟨_, _, _, rfl, rfl, Or.inr rfl, ft⟩
      · rw [hx, hx2, if_neg hr2, if_neg (show ¬ (1 : Int32) = 0 by decide), if_neg (show ¬ (1 : Int32) = 0 by decide), bp_s, ck_t (Or.inr rfl)]
        exact ⟨_, _, _, rfl, rfl, Or.inr rfl, ft⟩
    · rw [if_neg hr] at hs0
      subst hs0
      rcases w3 with ⟨hr2, hx2, ht2⟩ | ⟨hr2, hx2⟩
      · rw [hx, hx2, if_pos hr2, if_neg (show ¬ (0 : Int32) = 1 by decide), if_neg (show ¬ (0 : Int32) = 1 by decide), bp_s, ck_t (Or.inr rfl)]
        exact ⟨_, _, _, rfl, rfl, Or.inr rfl, ft⟩
      · rw [hx, hx2, if_neg hr2, if_pos rfl, if_pos rfl, if_pos rfl, if_neg (show ¬ (1 : Int32) = 0 by decide), bp_s, ck_t (Or.inl rfl)]
        exact ⟨_, _, _, rfl, rfl, Or.inl rfl, ft⟩
  unfold d_X10_breaks_36 d_X10_breaks_104 d_X10_breaks_207 d_X10_breaks_242 d_X12_breaks_136 d_X12_breaks_171 d_X12_breaks_189 d_X12_breaks_210
  rcases k7 hl with e | e | e | e | e | e | e
  · subst e
    simp only [if_pos (show (0 : Int32) = 0 from rfl), if_true]
    rcases q3 with ⟨hr, hx, ht⟩ | ⟨hr, hx⟩
    · obtain ⟨s, w, w1, w2⟩ := tot_v (τ := τ1) (σ := σ1) 8 n x 0 0 ht.1 (by decide) (by decide) (by omega)
      have w1' : c_X4_total n 37 τ1 = some s := w1
      rw [if_pos hr, if_neg (show ¬ (1 : Int32) = 0 by decide), w1', w2, bp_s]
      unfold d_X12_breaks_82 d_X12_breaks_98
      rw [if_pos hx]
      by_cases e : s = 0
      · rw [if_pos e, if_pos e]; exact ⟨_, _, _, rfl, rfl, Or.inl rfl, q5⟩
      · rw [if_neg e, if_neg e]; exact ⟨_, _, _, rfl, rfl, Or.inr rfl, q5⟩
    · have key : ∀ (d n : Nat) (k : Int32) (s : Int64), 0 ≤ k.toInt → k.toInt + d = 8 → d < n → d_X12_breaks_54 n x s k σ1 = some (0, σ1) := by
        intro d
        induction d with
        | zero =>
          intro n k s h3 h4 h5
          obtain ⟨n, rfl⟩ : ∃ k, n = k + 1 := ⟨n - 1, by omega⟩
          rw [d_X12_breaks_54, if_pos (by rw [i32_le]; simp only [Int32.reduceToInt]; omega)]
          unfold d_X12_breaks_82 d_X12_breaks_98
          rw [if_neg (by rw [hx]; decide)]
        | succ d ih =>
          intro n k s h3 h4 h5
          obtain ⟨n, rfl⟩ : ∃ k, n = k + 1 := ⟨n - 1, by omega⟩
          obtain ⟨c1, c2, c3⟩ := cnt1 (v := k) (m := 64) h3 (by omega) (by decide)
          obtain ⟨x1, x2⟩ := ix8p (v := k) ⟨h3, by omega⟩
          rw [d_X12_breaks_54, if_neg (by rw [i32_le]; simp only [Int32.reduceToInt]; omega), ck_t x2, nm_t, nm_t]
          exact ih n (k + 1) _ (by omega) (by omega) (by omega)
      rw [if_neg hr, if_pos rfl, key 8 n 0 0 (by decide) (by decide) (by omega)]
      exact ⟨_, _, _, rfl, rfl, Or.inl rfl, q5⟩
  · subst e
    simp only [if_neg (show ¬ (1 : Int32) = 0 by decide), if_pos (show (1 : Int32) = 1 from rfl), if_true]
    have eq : q = p := hq2 (by decide)
    subst eq
    have en : (-a).toInt = -a.toInt := i32_neg (by omega)
    unfold d_X10_breaks_127 d_X10_breaks_157
    simp only [bp_bd, if_pos (show (1 : Int32) = 1 from rfl), if_true]
    have z := two (-1) _ (-1) (-a) q P rfl hp hP (by omega) rfl
    simp only [bp_bd] at z
    exact z
  · subst e
    simp only [if_neg (show ¬ (2 : Int32) = 0 by decide), if_neg (show ¬ (2 : Int32) = 1 by decide), if_pos (show (2 : Int32) = 2 from rfl), if_true]
    unfold d_X10_breaks_127 d_X10_breaks_157
    simp only [bp_bd, if_neg (show ¬ (2 : Int32) = 1 by decide)]
    have z := two 1 _ 1 a q Q rfl hq (hQ rfl) ha rfl
    simp only [bp_bd] at z
    exact z
  · subst e
    simp only [if_neg (show ¬ (3 : Int32) = 0 by decide), if_neg (show ¬ (3 : Int32) = 1 by decide), if_neg (show ¬ (3 : Int32) = 2 by decide), if_pos (show (3 : Int32) = 3 from rfl), if_true]
    rcases q3 with ⟨hr, hx, ht⟩ | ⟨hr, hx⟩
    · rw [if_pos hr, if_neg (show ¬ (1 : Int32) = 0 by decide), if_pos hx]
      unfold c_X12_isUnfair
      have u1 : gI σ1 130 27 = gI τ1 39 1 := ht.2.2.2.1.1
      rcases ht.2.2.2.1.2.1 with hu | hu
      · have hu' : gI τ1 39 1 = 0 := hu
        rw [if_pos hu', u1, if_pos hu']
        unfold d_X12_isUnfair_21
        obtain ⟨n, rfl⟩ : ∃ k, n = k + 1 := ⟨n - 1, by omega⟩
        rw [d_X12_isUnfair_25, u1, if_pos hu', ck_t (Or.inl rfl), bp_s, if_pos rfl]
        exact ⟨_, _, _, rfl, rfl, Or.inl rfl, q5⟩
      · have hu' : gI τ1 39 1 = 1 := hu
        have hu0 : ¬ gI τ1 39 1 = 0 := by rw [hu']; decide
        obtain ⟨i1, i2, i3, -⟩ := ht.2.2.2.2 hu
        have nz := nat0 i2
        obtain ⟨y1, y2, y3, y4⟩ := h1.2.2.1 (gI σ1 130 30).toNatClampNeg (by omega)
        have wm : Wm (gI σ1 130 30).toNatClampNeg (gI σ1 130 30) τ1 σ1 := ⟨by omega, by omega, y1, y2, y3, y4⟩
        rw [if_neg hu0, u1, if_neg hu0, m_all wm (by omega), bp_s]
        unfold d_X12_isUnfair_21 c_X7_strays
        obtain ⟨k1, k2, -⟩ := wts_v (τ := τ1) (z := (gI σ1 130 30).toNatClampNeg) ⟨y2, y3⟩ (fun j hj => (y4 j hj).2)
        rcases str_v (τ := τ1) (σ := σ1) (wN τ1 (gI σ1 130 30).toNatClampNeg) n 0 ht wm rfl hu rfl rfl (by decide) (by simp only [Int32.reduceToInt]; omega) (by omega) with ⟨v1, v2⟩ | ⟨v1, v2⟩
        · rw [v1, v2, bp_s, bp_s, if_pos rfl, if_pos rfl]
          exact ⟨_, _, _, rfl, rfl, Or.inl rfl, q5⟩
        · rw [v1, v2, bp_s, bp_s, if_neg (by decide), if_neg (by decide)]
          exact ⟨_, _, _, rfl, rfl, Or.inr rfl, q5⟩
    · rw [if_neg hr, if_pos rfl, if_neg (by rw [hx]; decide)]
      exact ⟨_, _, _, rfl, rfl, Or.inl rfl, q5⟩
  · subst e
    simp only [if_neg (show ¬ (4 : Int32) = 0 by decide), if_neg (show ¬ (4 : Int32) = 1 by decide), if_neg (show ¬ (4 : Int32) = 2 by decide), if_neg (show ¬ (4 : Int32) = 3 by decide), if_pos (show (4 : Int32) = 4 from rfl), if_true]
    rcases q3 with ⟨hr, hx, ht⟩ | ⟨hr, hx⟩
    · rw [if_pos hr, if_neg (show ¬ (1 : Int32) = 0 by decide), ck_t (Or.inl hx), hx]
      exact ⟨_, _, _, rfl, rfl, Or.inl rfl, q5⟩
    · rw [if_neg hr, if_pos rfl, ck_t (Or.inr hx), hx]
      exact ⟨_, _, _, rfl, rfl, Or.inr rfl, q5⟩
  · subst e
    simp only [if_neg (show ¬ (5 : Int32) = 0 by decide), if_neg (show ¬ (5 : Int32) = 1 by decide), if_neg (show ¬ (5 : Int32) = 2 by decide), if_neg (show ¬ (5 : Int32) = 3 by decide), if_neg (show ¬ (5 : Int32) = 4 by decide), if_pos (show (5 : Int32) = 5 from rfl), if_true]
    rcases q3 with ⟨hr, hx, ht⟩ | ⟨hr, hx⟩
    · rw [if_pos hr, if_neg (show ¬ (1 : Int32) = 0 by decide), if_pos hx]
      have e : gI τ1 37 1 = gI σ1 130 31 := by
        have := ht.2.1.1
        rw [Int32.zero_add] at this
        exact this
      rw [e]
      by_cases e2 : gI σ1 130 31 ≤ 0
      · rw [if_pos e2, if_pos e2]; exact ⟨_, _, _, rfl, rfl, Or.inl rfl, q5⟩
      · rw [if_neg e2, if_neg e2]; exact ⟨_, _, _, rfl, rfl, Or.inr rfl, q5⟩
    · rw [if_neg hr, if_pos rfl, if_neg (by rw [hx]; decide)]
      exact ⟨_, _, _, rfl, rfl, Or.inl rfl, q5⟩
  · subst e
    simp only [if_neg (show ¬ (6 : Int32) = 0 by decide), if_neg (show ¬ (6 : Int32) = 1 by decide), if_neg (show ¬ (6 : Int32) = 2 by decide), if_neg (show ¬ (6 : Int32) = 3 by decide), if_neg (show ¬ (6 : Int32) = 4 by decide), if_neg (show ¬ (6 : Int32) = 5 by decide)]
    rcases q3 with ⟨hr, hx, ht⟩ | ⟨hr, hx⟩
    · rw [if_pos hr, if_neg (show ¬ (1 : Int32) = 0 by decide), if_pos hx]
      have nv := notes_v 8 n 0 σ1 (f := fun j => gJ σ1 146 (8 + j)) (fun j _ => rfl) (by decide) (by decide) (by omega)
      have z0 : (0 : Int32).toNatClampNeg = 0 := rfl
      rw [z0] at nv
      have nv' : c_X12_notes n σ1 = some (mJ σ1 159 0 8 (fun j => gJ σ1 146 (8 + j))) := nv
      rw [nv', bp_s]
      have cx : Cx p τ1 (mJ σ1 159 0 8 (fun j => gJ σ1 146 (8 + j))) := Cx_f (Rl_Cx h1 hp) hp (fun _ _ => Sm_refl) (fun a ha => Sm_mJ Sm_refl (by omega))
      obtain ⟨τ2, σ2, w1, w2, w3, w4, w5⟩ := hF n p P a τ1 (mJ σ1 159 0 8 (fun j => gJ σ1 146 (8 + j))) (by omega) l1 m1 cx hp hP ha q5.2.2.1
      have w7 : To 60 68 τ1 τ2 := (k_f_X2_perform (To_refl l1) (by omega) (by unfold O5; omega)).2 _ w1
      rw [w1, w2, bp_s, bp_s]
      have ft : Ft σ σ2 := by
        refine Ft_trans q5 ?_
        obtain ⟨a1, a2, a3, a4, a5, a6, a7⟩ := w4
        exact ⟨fun a ha => Sm_tr (Sm_mJ Sm_refl (by omega)) (a1 a ha), a2, a3, a4, a5, a6, a7⟩
      have e159 : ∀ k, k < 8 → gJ σ2 159 k = gJ σ1 146 (8 + k) := fun k hk => by rw [w5.2.1, gJ_mJ_i (by omega)]
      have e38 : gJ τ2 (37 + 1) = gJ τ1 (37 + 1) := (Sm_to w7 (by omega)).2.1
      have mv := mat_v (τ := τ2) (σ := σ2) (A1 := 37) (A2 := 61) (g := 1) (g' := 1) rfl (fun k hk => by rw [e159 k hk, e38]; exact ht.1 k hk) (fun k hk => w3 k hk) 8 n 0 (by decide) (by decide) (by omega)
      unfold c_X4_matches c_X12_differs
      rcases mv with ⟨v1, v2⟩ | ⟨v1, v2⟩
      · rw [v1, v2, bp_s, bp_s, if_neg (by decide), ck_t (Or.inl rfl)]
        exact ⟨_, _, _, rfl, rfl, Or.inl rfl, ft⟩
      · rw [v1, v2, bp_s, bp_s, if_pos rfl, ck_t (Or.inr rfl)]
        exact ⟨_, _, _, rfl, rfl, Or.inr rfl, ft⟩
    · rw [if_neg hr, if_pos rfl, if_neg (by rw [hx]; decide)]
      exact ⟨_, _, _, rfl, rfl, Or.inl rfl, q5⟩
end BRK2
