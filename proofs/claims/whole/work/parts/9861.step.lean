section PERM2
theorem ok_len {N : Nat} {L : List Nat} (h : okP N L = true) : L.length = N := by
  unfold okP at h
  rw [Bool.and_eq_true] at h
  exact eq_of_beq h.1
theorem ok_lt {N : Nat} {L : List Nat} (h : okP N L = true) {j : Nat} (hj : j < N) : gtL L j < N := by
  have hl := ok_len h
  unfold okP at h
  rw [Bool.and_eq_true] at h
  have := List.all_eq_true.mp h.2
  have hj' : j < L.length := by omega
  have e : gtL L j = L[j] := by unfold gtL; rw [List.getD_eq_getElem?_getD, List.getElem?_eq_getElem hj']; rfl
  rw [e]
  exact of_decide_eq_true (this L[j] (List.getElem_mem hj'))
/-- a row that holds a list -/
def Row (a : Nat) (L : List Nat) (σ : Sg) : Prop := ∀ j, j < L.length → (gI σ a j).toInt = gtL L j
theorem swp_len {L : List Nat} {a b : Nat} : (swp L a b).length = L.length := by unfold swp; rw [List.length_set, List.length_set]
theorem swp_gt {L : List Nat} {a b j : Nat} (ha : a < L.length) (hb : b < L.length) (hj : j < L.length) : gtL (swp L a b) j = if j = b then gtL L a else if j = a then gtL L b else gtL L j := by
  unfold swp
  show ((L.set a (gtL L b)).set b (gtL L a)).getD j 0 = _
  rw [List.getD_eq_getElem?_getD, List.getElem?_set, List.length_set]
  by_cases e : j = b
  · subst e
    rw [if_pos rfl, if_pos hj, if_pos rfl]; rfl
  · rw [if_neg (fun q => e q.symm), if_neg e, List.getElem?_set]
    by_cases e2 : j = a
    · subst e2
      rw [if_pos rfl, if_pos hj, if_pos rfl]; rfl
    · rw [if_neg (fun q => e2 q.symm), if_neg e2, ← List.getD_eq_getElem?_getD]; rfl
theorem Row_swp {c i j : Nat} {L : List Nat} {σ : Sg} (h : Row c L σ) (hi : i < L.length) (hj : j < L.length) : Row c (swp L i j) (pI (pI σ c i (gI σ c j)) c j (gI σ c i)) := by
  intro k hk
  rw [swp_len] at hk
  rw [swp_gt hi hj hk]
  by_cases e : k = j
  · subst e
    rw [if_pos rfl, gI_pI_s]; exact h i hi
  · rw [if_neg e, gI_pI_k e]
    by_cases e2 : k = i
    · subst e2
      rw [if_pos rfl, gI_pI_s]; exact h j hj
    · rw [if_neg e2, gI_pI_k e2]; exact h k hk
theorem Row_le {c i j : Nat} {L : List Nat} {σ : Sg} (h : Row c L σ) (hi : i < L.length) (hj : j < L.length) : (gI σ c i ≤ gI σ c j) = (gtL L i ≤ gtL L j) := by
  rw [i32_le, h i hi, h j hj]
  exact propext ⟨fun q => by omega, fun q => by omega⟩
theorem i32_dec {v : Int32} (h : 0 ≤ v.toInt) : (v + (-1)).toInt = v.toInt - 1 := by
  have := i32_hi v
  rw [i32_add (by simp only [Int32.reduceToInt]; omega) (by simp only [Int32.reduceToInt]; omega)]
  rfl
theorem i32_sub1 {v : Int32} (h : 0 ≤ v.toInt) : (v - 1).toInt = v.toInt - 1 := by
  have := i32_hi v
  rw [i32_sub (by simp only [Int32.reduceToInt]; omega) (by simp only [Int32.reduceToInt]; omega)]
  rfl
theorem i32_sub2 {v : Int32} (h : 0 ≤ v.toInt) : (v - 2).toInt = v.toInt - 2 := by
  have := i32_hi v
  rw [i32_sub (by simp only [Int32.reduceToInt]; omega) (by simp only [Int32.reduceToInt]; omega)]
  rfl
variable {L : List Nat} {v1 : Int32}
/-- the component's pivot -/
theorem g4_v {σ : Sg} (h : Row 68 L σ) (hL : L.length ≤ 6) : ∀ (i n : Nat) (v2 : Int32) (p : Nat), piv L i = some p → i < L.length → v2.toInt + 1 = i → i < n → ∃ (w : Nat) (p' : Int32), n ≤ w + i + 1 ∧ p'.toInt = (p : Int) ∧ p + 1 < L.length ∧ d_X10_goToNextOrder_4 n v1 v2 σ = d_X10_goToNextOrder_31 w v1 p' σ := by
  intro i
  induction i with
  | zero => intro n v2 p hp; unfold piv at hp; cases hp
  | succ i ih =>
    intro n v2 p hp hi hv hn
    obtain ⟨n, rfl⟩ : ∃ k, n = k + 1 := ⟨n - 1, by omega⟩
    have c1 : (v2 + 1).toInt = v2.toInt + 1 := i32_add1 (m := 64) (by omega) (by decide)
    have c2 := i32_dec (v := v2) (by omega)
    have n1 : v2.toNatClampNeg = i := by rw [i32_nat]; omega
    have n2 : (v2 + 1).toNatClampNeg = i + 1 := by rw [i32_nat]; omega
    rw [d_X10_goToNextOrder_4, if_neg (by rw [i32_lt]; simp only [Int32.reduceToInt]; omega), ck_ix (by omega), ck_ix (by omega), n1, n2]
    have e := Row_le h (show i < L.length by omega) hi
    rw [piv] at hp
    by_cases q : gtL L i ≤ gtL L (i + 1)
    · rw [if_pos q] at hp
      cases hp
      rw [if_pos (e.mpr q)]
      exact ⟨n, v2, by omega, by omega, by omega, rfl⟩
    · rw [if_neg q] at hp
      rw [if_neg (fun z => q (e.mp z)), nm_t]
      obtain ⟨w, p', w1, w2, w3, w4⟩ := ih n (v2 + -1) p hp (by omega) (by omega) (by omega)
      exact ⟨w, p', by omega, w2, w3, w4⟩
theorem g40_v {σ : Sg} (h : Row 68 L σ) (hL : L.length ≤ 6) {p : Nat} {v2 : Int32} (hp : v2.toInt = p) : ∀ (j n : Nat) (v3 : Int32), v3.toInt = j → p ≤ j → j < L.length → j < n → ∃ (w : Nat) (q' : Int32), n ≤ w + j + 1 ∧ q'.toInt = (lst L p j : Int) ∧ lst L p j < L.length ∧ d_X10_goToNextOrder_40 n v1 v2 v3 σ = d_X10_goToNextOrder_66 w v1 v2 q' σ := by
  intro j
  induction j with
  | zero =>
    intro n v3 hv hpj hj hn
    obtain ⟨n, rfl⟩ : ∃ k, n = k + 1 := ⟨n - 1, by omega⟩
    rw [d_X10_goToNextOrder_40, if_pos (by rw [i32_le]; omega)]
    exact ⟨n, v3, by omega, hv, hj, rfl⟩
  | succ j ih =>
    intro n v3 hv hpj hj hn
    obtain ⟨n, rfl⟩ : ∃ k, n = k + 1 := ⟨n - 1, by omega⟩
    have c2 := i32_dec (v := v3) (by omega)
    have n1 : v2.toNatClampNeg = p := by rw [i32_nat]; omega
    have n2 : v3.toNatClampNeg = j + 1 := by rw [i32_nat]; omega
    have e := Row_le h (show p < L.length by omega) hj
    rw [d_X10_goToNextOrder_40, lst]
    by_cases q : p = j + 1
    · rw [if_pos (show v3 ≤ v2 by rw [i32_le]; omega), if_pos (show gtL L p ≤ gtL L (j + 1) by rw [q]; exact Nat.le_refl _)]
      exact ⟨n, v3, by omega, by omega, by omega, rfl⟩
    · rw [if_neg (show ¬ v3 ≤ v2 by rw [i32_le]; omega), ck_ix (by omega), ck_ix (by omega), n1, n2]
      by_cases q : gtL L p ≤ gtL L (j + 1)
      · rw [if_pos q, if_pos (e.mpr q)]
        exact ⟨n, v3, by omega, by omega, by omega, rfl⟩
      · rw [if_neg q, if_neg (fun z => q (e.mp z)), nm_t]
        obtain ⟨w, q', w1, w2, w3, w4⟩ := ih n (v3 + -1) (by omega) (by omega) (by omega) (by omega)
        exact ⟨w, q', by omega, w2, w3, w4⟩
theorem swap_v {σ : Sg} {v4 v5 : Int32} {a b : Nat} (h4 : v4.toInt = a) (h5 : v5.toInt = b) (ha : a < 6) (hb : b < 6) : c_X10_swap v4 v5 σ = some (pI (pI σ 68 a (gI σ 68 b)) 68 b (gI σ 68 a)) := by
  have n4 : v4.toNatClampNeg = a := by rw [i32_nat]; omega
  have n5 : v5.toNatClampNeg = b := by rw [i32_nat]; omega
  have x4 : ix v4 6 := ix_of (by omega) (by omega)
  have x5 : ix v5 6 := ix_of (by omega) (by omega)
  unfold c_X10_swap
  rw [ck_t x4, nm_t, ck_t x5, ck_t x4, nm_t, ck_t x5, nm_t, n4, n5]
theorem g82_v : ∀ (f n : Nat) (v4 v5 : Int32) (a b : Nat) (L : List Nat) (σ : Sg), Lay σ → Row 68 L σ → L.length ≤ 6 → v4.toInt = a → v5.toInt = b → b < L.length → b ≤ a + f → f < n → ∃ σ', d_X10_goToNextOrder_82 n v4 v5 σ = some σ' ∧ Row 68 (rvs f L a b) σ' ∧ To 68 69 σ σ' := by
  intro f
  induction f with
  | zero =>
    intro n v4 v5 a b L σ hl h hL h4 h5 hb hf hn
    obtain ⟨n, rfl⟩ : ∃ k, n = k + 1 := ⟨n - 1, by omega⟩
    rw [d_X10_goToNextOrder_82, if_pos (by rw [i32_le]; omega), rvs]
    exact ⟨σ, rfl, h, To_refl hl⟩
  | succ f ih =>
    intro n v4 v5 a b L σ hl h hL h4 h5 hb hf hn
    obtain ⟨n, rfl⟩ : ∃ k, n = k + 1 := ⟨n - 1, by omega⟩
    rw [d_X10_goToNextOrder_82, rvs]
    by_cases q : b ≤ a
    · rw [if_pos (show v5 ≤ v4 by rw [i32_le]; omega), if_pos q]
      exact ⟨σ, rfl, h, To_refl hl⟩
    · have hh : ¬ v5 ≤ v4 := by rw [i32_le]; omega
      have c1 : (v4 + 1).toInt = v4.toInt + 1 := i32_add1 (m := 64) (by omega) (by decide)
      have c2 := i32_dec (v := v5) (by omega)
      rw [if_neg hh, if_neg q]
      rw [swap_v h4 h5 (by omega) (by omega), bp_s, nm_t, nm_t]
      have t : To 68 69 σ (pI (pI σ 68 a (gI σ 68 b)) 68 b (gI σ 68 a)) := To_pI (To_pI (To_refl hl) (by omega)) (by omega)
      obtain ⟨σ', w1, w2, w3⟩ := ih n (v4 + 1) (v5 + -1) (a + 1) (b - 1) (swp L a b) _  t.1 (Row_swp h (by omega) hb) (by rw [swp_len]; exact hL) (by omega) (by omega) (by rw [swp_len]; omega) (by omega) (by omega)
      exact ⟨σ', w1, w2, To_trans t w3⟩
/-- the component's next order -/
theorem goto_v {n : Nat} {σ : Sg} {L' : List Nat} (hl : Lay σ) (h : Row 68 L σ) (hL : L.length ≤ 6) (hv : v1.toInt = L.length) (hx : nxt L = some L') (hn : 100 ≤ n) : ∃ σ', c_X10_goToNextOrder n v1 σ = some σ' ∧ Row 68 L' σ' ∧ To 68 69 σ σ' := by
  unfold nxt at hx
  match hp : piv L (L.length - 1), hx with
  | some p, hx =>
    cases hx
    have hL1 : 1 ≤ L.length := by
      refine Nat.pos_of_ne_zero fun e => ?_
      rw [e] at hp; unfold piv at hp; cases hp
    have s2 := i32_sub2 (v := v1) (by omega)
    have s1 := i32_sub1 (v := v1) (by omega)
    unfold c_X10_goToNextOrder
    rw [nm_t]
    obtain ⟨w, p', w1, w2, w3, w4⟩ := g4_v (v1 := v1) h hL (L.length - 1) n (v1 - 2) p hp (by omega) (by omega) (by omega)
    rw [w4]
    unfold d_X10_goToNextOrder_31
    rw [if_pos (by rw [i32_le]; simp only [Int32.reduceToInt]; omega), nm_t]
    obtain ⟨w', q', x1, x2, x3, x4⟩ := g40_v (v1 := v1) h hL w2 (L.length - 1) w (v1 - 1) (by omega) (by omega) (by omega) (by omega)
    rw [x4]
    unfold d_X10_goToNextOrder_66
    have n4 : p'.toNatClampNeg = p := by rw [i32_nat]; omega
    have n5 : q'.toNatClampNeg = lst L p (L.length - 1) := by rw [i32_nat]; omega
    have c1 : (p' + 1).toInt = p'.toInt + 1 := i32_add1 (m := 64) (by omega) (by decide)
    rw [swap_v w2 x2 (by omega) (by omega), bp_s, nm_t, nm_t]
    have t : To 68 69 σ (pI (pI σ 68 p (gI σ 68 (lst L p (L.length - 1)))) 68 (lst L p (L.length - 1)) (gI σ 68 p)) := To_pI (To_pI (To_refl hl) (by omega)) (by omega)
    obtain ⟨σ', y1, y2, y3⟩ := g82_v 6 w' (p' + 1) (v1 - 1) (p + 1) (L.length - 1) (swp L p (lst L p (L.length - 1))) _ t.1 (Row_swp h (by omega) x3) (by rw [swp_len]; exact hL) (by omega) (by omega) (by rw [swp_len]; omega) (by omega) (by omega)
    exact ⟨σ', y1, y2, To_trans t y3⟩
/-- the reference's -/
theorem h7_v {σ : Sg} (h : Row 162 L σ) (hL : L.length ≤ 6) : ∀ (i n : Nat) (v2 : Int32), i < L.length → v2.toInt + 1 = i → i < n → (piv L i = none ∧ d_X12_steps_7 n v2 σ = some (0, σ)) ∨ (∃ (p w : Nat) (p' : Int32), piv L i = some p ∧ n ≤ w + i + 1 ∧ p'.toInt = (p : Int) ∧ p + 1 < L.length ∧ d_X12_steps_7 n v2 σ = d_X12_steps_34 w p' σ) := by
  intro i
  induction i with
  | zero =>
    intro n v2 hi hv hn
    obtain ⟨n, rfl⟩ : ∃ k, n = k + 1 := ⟨n - 1, by omega⟩
    left
    refine ⟨rfl, ?_⟩
    rw [d_X12_steps_7, if_pos (by rw [i32_lt]; simp only [Int32.reduceToInt]; omega)]
    unfold d_X12_steps_34
    rw [if_neg (by rw [i32_le]; simp only [Int32.reduceToInt]; omega)]
  | succ i ih =>
    intro n v2 hi hv hn
    obtain ⟨n, rfl⟩ : ∃ k, n = k + 1 := ⟨n - 1, by omega⟩
    have c1 : (v2 + 1).toInt = v2.toInt + 1 := i32_add1 (m := 64) (by omega) (by decide)
    have c2 := i32_dec (v := v2) (by omega)
    have n1 : v2.toNatClampNeg = i := by rw [i32_nat]; omega
    have n2 : (v2 + 1).toNatClampNeg = i + 1 := by rw [i32_nat]; omega
    rw [d_X12_steps_7, if_neg (by rw [i32_lt]; simp only [Int32.reduceToInt]; omega), ck_ix (by omega), ck_ix (by omega), n1, n2]
    have e := Row_le h (show i < L.length by omega) hi
    rw [piv]
    by_cases q : gtL L i ≤ gtL L (i + 1)
    · rw [if_pos q, if_pos (e.mpr q)]
      right
      exact ⟨i, n, v2, rfl, by omega, by omega, by omega, rfl⟩
    · rw [if_neg q, if_neg (fun z => q (e.mp z)), nm_t]
      rcases ih n (v2 + -1) (by omega) (by omega) (by omega) with z | ⟨p, w, p', w1, w2, w3, w4, w5⟩
      · exact Or.inl z
      · exact Or.inr ⟨p, w, p', w1, by omega, w3, w4, w5⟩
theorem h47_v {σ : Sg} (h : Row 162 L σ) (hL : L.length ≤ 6) {p : Nat} {v2 : Int32} (hp : v2.toInt = p) : ∀ (j n : Nat) (v3 : Int32), v3.toInt = j → p ≤ j → j < L.length → j < n → ∃ (w : Nat) (q' : Int32), n ≤ w + j + 1 ∧ q'.toInt = (lst L p j : Int) ∧ lst L p j < L.length ∧ d_X12_steps_47 n v2 v3 σ = d_X12_steps_68 w v2 q' σ := by
  intro j
  induction j with
  | zero =>
    intro n v3 hv hpj hj hn
    obtain ⟨n, rfl⟩ : ∃ k, n = k + 1 := ⟨n - 1, by omega⟩
    have n1 : v2.toNatClampNeg = 0 := by rw [i32_nat]; omega
    have n2 : v3.toNatClampNeg = 0 := by rw [i32_nat]; omega
    rw [d_X12_steps_47, ck_ix (by omega), ck_ix (by omega), n1, n2, if_pos (by rw [i32_le]; omega)]
    exact ⟨n, v3, by omega, hv, hj, rfl⟩
  | succ j ih =>
    intro n v3 hv hpj hj hn
    obtain ⟨n, rfl⟩ : ∃ k, n = k + 1 := ⟨n - 1, by omega⟩
    have c2 := i32_dec (v := v3) (by omega)
    have n1 : v2.toNatClampNeg = p := by rw [i32_nat]; omega
    have n2 : v3.toNatClampNeg = j + 1 := by rw [i32_nat]; omega
    have e := Row_le h (show p < L.length by omega) hj
    rw [d_X12_steps_47, lst, ck_ix (by omega), ck_ix (by omega), n1, n2]
    by_cases q : gtL L p ≤ gtL L (j + 1)
    · rw [if_pos q, if_pos (e.mpr q)]
      exact ⟨n, v3, by omega, by omega, by omega, rfl⟩
    · have hne : p ≠ j + 1 := fun z => q (by rw [z]; exact Nat.le_refl _)
      rw [if_neg q, if_neg (fun z => q (e.mp z)), nm_t]
      obtain ⟨w, q', w1, w2, w3, w4⟩ := ih n (v3 + -1) (by omega) (by omega) (by omega) (by omega)
      exact ⟨w, q', by omega, w2, w3, w4⟩
theorem h107_s {σ : Sg} {n : Nat} {v4 v5 : Int32} {a b : Nat} (h4 : v4.toInt = a) (h5 : v5.toInt = b) (hab : a < b) (hb : b < 6) : d_X12_steps_107 (n + 1) v4 v5 σ = d_X12_steps_107 n (v4 + 1) (v5 + -1) (pI (pI σ 162 a (gI σ 162 b)) 162 b (gI σ 162 a)) := by
  have hh : ¬ v5 ≤ v4 := by rw [i32_le]; omega
  have x4 : ix v4 6 := ix_of (by omega) (by omega)
  have x5 : ix v5 6 := ix_of (by omega) (by omega)
  have n4 : v4.toNatClampNeg = a := by rw [i32_nat]; omega
  have n5 : v5.toNatClampNeg = b := by rw [i32_nat]; omega
  rw [d_X12_steps_107, if_neg hh, ck_t x4, nm_t, ck_t x5, ck_t x4, nm_t, ck_t x5, nm_t, nm_t, nm_t, n4, n5]
theorem h107_v : ∀ (f n : Nat) (v4 v5 : Int32) (a b : Nat) (L : List Nat) (σ : Sg), Lay σ → Row 162 L σ → L.length ≤ 6 → v4.toInt = a → v5.toInt = b → b < L.length → b ≤ a + f → f < n → ∃ σ', d_X12_steps_107 n v4 v5 σ = some (1, σ') ∧ Row 162 (rvs f L a b) σ' ∧ To 162 163 σ σ' := by
  intro f
  induction f with
  | zero =>
    intro n v4 v5 a b L σ hl h hL h4 h5 hb hf hn
    obtain ⟨n, rfl⟩ : ∃ k, n = k + 1 := ⟨n - 1, by omega⟩
    rw [d_X12_steps_107, if_pos (by rw [i32_le]; omega), rvs]
    exact ⟨σ, rfl, h, To_refl hl⟩
  | succ f ih =>
    intro n v4 v5 a b L σ hl h hL h4 h5 hb hf hn
    obtain ⟨n, rfl⟩ : ∃ k, n = k + 1 := ⟨n - 1, by omega⟩
    rw [rvs]
    by_cases q : b ≤ a
    · rw [d_X12_steps_107, if_pos (show v5 ≤ v4 by rw [i32_le]; omega), if_pos q]
      exact ⟨σ, rfl, h, To_refl hl⟩
    · rw [h107_s h4 h5 (by omega) (by omega), if_neg q]
      have c1 : (v4 + 1).toInt = v4.toInt + 1 := i32_add1 (m := 64) (by omega) (by decide)
      have c2 := i32_dec (v := v5) (by omega)
      have t : To 162 163 σ (pI (pI σ 162 a (gI σ 162 b)) 162 b (gI σ 162 a)) := To_pI (To_pI (To_refl hl) (by omega)) (by omega)
      obtain ⟨σ', w1, w2, w3⟩ := ih n (v4 + 1) (v5 + -1) (a + 1) (b - 1) (swp L a b) _ t.1 (Row_swp h (by omega) hb) (by rw [swp_len]; exact hL) (by omega) (by omega) (by rw [swp_len]; omega) (by omega) (by omega)
      exact ⟨σ', w1, w2, To_trans t w3⟩
theorem h68_s {σ : Sg} {n : Nat} {v4 v5 : Int32} {a b : Nat} (h4 : v4.toInt = a) (h5 : v5.toInt = b) (ha : a < 6) (hb : b < 6) : d_X12_steps_68 n v4 v5 σ = d_X12_steps_107 n (v4 + 1) (gI σ 130 3 - 1) (pI (pI σ 162 a (gI σ 162 b)) 162 b (gI σ 162 a)) := by
  have x4 : ix v4 6 := ix_of (by omega) (by omega)
  have x5 : ix v5 6 := ix_of (by omega) (by omega)
  have n4 : v4.toNatClampNeg = a := by rw [i32_nat]; omega
  have n5 : v5.toNatClampNeg = b := by rw [i32_nat]; omega
  have e3 : ∀ (i j : Nat) (x y : Int32), gI (pI (pI σ 162 i x) 162 j y) 130 3 = gI σ 130 3 := fun i j x y => by rw [gI_pI_a (by decide), gI_pI_a (by decide)]
  unfold d_X12_steps_68
  rw [ck_t x4, nm_t, ck_t x5, ck_t x4, nm_t, ck_t x5, nm_t, nm_t, nm_t, n4, n5, e3]
theorem steps_v {n : Nat} {σ : Sg} (hl : Lay σ) (h : Row 162 L σ) (hL : L.length ≤ 6) (hv : (gI σ 130 3).toInt = L.length) (hn : 100 ≤ n) : (nxt L = none ∧ c_X12_steps n σ = some (0, σ)) ∨ (∃ L' σ', nxt L = some L' ∧ c_X12_steps n σ = some (1, σ') ∧ Row 162 L' σ' ∧ To 162 163 σ σ') := by
  have s2 := i32_sub2 (v := gI σ 130 3) (by omega)
  have s1 := i32_sub1 (v := gI σ 130 3) (by omega)
  unfold c_X12_steps nxt
  rw [nm_t]
  by_cases hL0 : L.length = 0
  · left
    obtain ⟨n, rfl⟩ : ∃ k, n = k + 1 := ⟨n - 1, by omega⟩
    rw [hL0, piv, d_X12_steps_7, if_pos (by rw [i32_lt]; simp only [Int32.reduceToInt]; omega)]
    unfold d_X12_steps_34
    rw [if_neg (by rw [i32_le]; simp only [Int32.reduceToInt]; omega)]
    exact ⟨rfl, rfl⟩
  · rcases h7_v h hL (L.length - 1) n (gI σ 130 3 - 2) (by omega) (by omega) (by omega) with ⟨w1, w2⟩ | ⟨p, w, p', w0, w1, w2, w3, w4⟩
    · left
      rw [w1, w2]
      exact ⟨rfl, rfl⟩
    · right
      rw [w0, w4]
      unfold d_X12_steps_34
      rw [if_pos (by rw [i32_le]; simp only [Int32.reduceToInt]; omega), nm_t]
      obtain ⟨w', q', x1, x2, x3, x4⟩ := h47_v h hL w2 (L.length - 1) w (gI σ 130 3 - 1) (by omega) (by omega) (by omega) (by omega)
      rw [x4]
      rw [h68_s w2 x2 (by omega) (by omega)]
      have c1 : (p' + 1).toInt = p'.toInt + 1 := i32_add1 (m := 64) (by omega) (by decide)
      have t : To 162 163 σ (pI (pI σ 162 p (gI σ 162 (lst L p (L.length - 1)))) 162 (lst L p (L.length - 1)) (gI σ 162 p)) := To_pI (To_pI (To_refl hl) (by omega)) (by omega)
      obtain ⟨σ', y1, y2, y3⟩ := h107_v 6 w' (p' + 1) (gI σ 130 3 - 1) (p + 1) (L.length - 1) (swp L p (lst L p (L.length - 1))) _ t.1 (Row_swp h (by omega) x3) (by rw [swp_len]; exact hL) (by omega) (by omega) (by rw [swp_len]; omega) (by omega) (by omega)
      exact ⟨_, σ', rfl, y1, y2, To_trans t y3⟩
end PERM2
