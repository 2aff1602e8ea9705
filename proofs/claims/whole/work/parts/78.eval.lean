theorem bp_s {α β : Type} {v : α} {f : α → Option β} : bp (some v) f = f v := rfl
theorem bd_s {α β : Type} {v : α} {τ : Sg} {f : α → Sg → Option β} : bd (some (v, τ)) f = f v τ := rfl
theorem ck_ix {β : Type} {v : Int32} {m : Nat} {x : Option β} (h : 0 ≤ v.toInt ∧ v.toInt < m) : ck (ix v m) x = x := ck_t (ix_iff.mpr h)
theorem ite10 {β : Type} {P : Prop} [Decidable P] {x y : β} : (if (if P then (1 : Int32) else 0) = 0 then x else y) = if P then y else x := by
  by_cases h : P
  · rw [if_pos h, if_pos h, if_neg (by decide)]
  · rw [if_neg h, if_neg h, if_pos rfl]
theorem ck01 {β : Type} {P : Prop} [Decidable P] {x : Option β} : ck ((if P then (1 : Int32) else 0) = 0 ∨ (if P then (1 : Int32) else 0) = 1) x = x := by
  refine ck_t ?_
  by_cases h : P
  · rw [if_pos h]; right; rfl
  · rw [if_neg h]; left; rfl
theorem v_in (v a b : Int32) : f_X12_in v a b = some (if a.toInt ≤ v.toInt ∧ v.toInt ≤ b.toInt then 1 else 0) := by
  unfold f_X12_in b_X12_in_14
  simp only [i32_lt]
  by_cases h : a.toInt ≤ v.toInt ∧ v.toInt ≤ b.toInt
  · rw [if_neg (by omega), if_neg (by omega), if_pos h]
  · rw [if_neg h]
    by_cases h2 : v.toInt < a.toInt
    · rw [if_pos h2]
    · rw [if_neg h2, if_pos (by omega)]
theorem v_isRate (v : Int32) : f_X11_isRate v = some (if 0 ≤ v.toInt ∧ v.toInt ≤ 7 then 1 else 0) := by
  unfold f_X11_isRate b_X11_isRate_14
  simp only [i32_lt, i32_le, Int32.reduceToInt]
  by_cases h : 0 ≤ v.toInt ∧ v.toInt ≤ 7
  · rw [if_neg (by omega), if_neg (by omega), if_pos h]
  · rw [if_neg h]
    by_cases h2 : v.toInt < 0
    · rw [if_pos h2]
    · rw [if_neg h2, if_pos (by omega)]
theorem v_isSlot (v : Int32) : f_X11_isSlot v = some (if 0 ≤ v.toInt ∧ v.toInt ≤ 7 then 1 else 0) := v_isRate v
theorem v_isMode (v : Int32) : f_X11_isMode v = some (if 0 ≤ v.toInt ∧ v.toInt ≤ 5 then 1 else 0) := by
  unfold f_X11_isMode b_X11_isMode_14
  simp only [i32_lt, i32_le, Int32.reduceToInt]
  by_cases h : 0 ≤ v.toInt ∧ v.toInt ≤ 5
  · rw [if_neg (by omega), if_neg (by omega), if_pos h]
  · rw [if_neg h]
    by_cases h2 : v.toInt < 0
    · rw [if_pos h2]
    · rw [if_neg h2, if_pos (by omega)]
theorem v_isTape (v : Int32) : f_X11_isTape v = some (if 0 ≤ v.toInt ∧ v.toInt ≤ 5 then 1 else 0) := v_isMode v
theorem v_isTape12 (v : Int32) : f_X12_isTape v = some (if 0 ≤ v.toInt ∧ v.toInt ≤ 5 then 1 else 0) := by
  unfold f_X12_isTape
  rw [v_in, bp_s]
  simp only [Int32.reduceToInt]
  rw [ck01]
theorem v_isLaw (v : Int32) : f_X11_isLaw v = some (if 0 ≤ v.toInt ∧ v.toInt ≤ 6 then 1 else 0) := by
  unfold f_X11_isLaw b_X11_isLaw_14
  simp only [i32_lt, i32_le, Int32.reduceToInt]
  by_cases h : 0 ≤ v.toInt ∧ v.toInt ≤ 6
  · rw [if_neg (by omega), if_neg (by omega), if_pos h]
  · rw [if_neg h]
    by_cases h2 : v.toInt < 0
    · rw [if_pos h2]
    · rw [if_neg h2, if_pos (by omega)]
theorem v_isLine (v : Int64) : f_X11_isLine v = some (if -1000000 ≤ v.toInt ∧ v.toInt ≤ 1000000 then 1 else 0) := by
  unfold f_X11_isLine b_X11_isLine_20
  simp only [i64_lt, i64_le, Int64.reduceToInt]
  by_cases h : -1000000 ≤ v.toInt ∧ v.toInt ≤ 1000000
  · rw [if_neg (by omega), if_neg (by omega), if_pos h]
  · rw [if_neg h]
    by_cases h2 : v.toInt < -1000000
    · rw [if_pos h2]
    · rw [if_neg h2, if_pos (by omega)]
theorem v_isLine12 (v : Int64) : f_X12_isLine v = some (if -1000000 ≤ v.toInt ∧ v.toInt ≤ 1000000 then 1 else 0) := v_isLine v
theorem v_isSpan (a b m : Int32) : f_X11_isSpan a b m = some (if (-1000000 ≤ a.toInt ∧ a.toInt ≤ 1000000) ∧ (-1000000 ≤ b.toInt ∧ b.toInt ≤ 1000000) ∧ a.toInt ≤ b.toInt ∧ b.toInt - a.toInt ≤ m.toInt then 1 else 0) := by
  unfold f_X11_isSpan b_X11_isSpan_32
  simp only [v_isLine, bp_s, ite10, i64_of32, i32_lt]
  by_cases h1 : -1000000 ≤ a.toInt ∧ a.toInt ≤ 1000000
  · by_cases h2 : -1000000 ≤ b.toInt ∧ b.toInt ≤ 1000000
    · rw [if_pos h1, if_pos h2, i32_sub (by omega) (by omega)]
      by_cases h3 : b.toInt < a.toInt
      · rw [if_pos h3, if_neg (by omega)]
      · rw [if_neg h3]
        by_cases h4 : m.toInt < b.toInt - a.toInt
        · rw [if_pos h4, if_neg (by omega)]
        · rw [if_neg h4, if_pos (by omega)]
    · rw [if_pos h1, if_neg h2, if_neg (by omega)]
  · rw [if_neg h1, if_neg (by omega)]
theorem v_isSpan12 (a b m : Int32) : f_X12_isSpan a b m = some (if (-1000000 ≤ a.toInt ∧ a.toInt ≤ 1000000) ∧ (-1000000 ≤ b.toInt ∧ b.toInt ≤ 1000000) ∧ a.toInt ≤ b.toInt ∧ b.toInt - a.toInt ≤ m.toInt then 1 else 0) := by
  unfold f_X12_isSpan b_X12_isSpan_40
  simp only [v_in, bp_s, ite10, i32_lt, Int32.reduceToInt]
  by_cases h1 : -1000000 ≤ a.toInt ∧ a.toInt ≤ 1000000
  · by_cases h2 : -1000000 ≤ b.toInt ∧ b.toInt ≤ 1000000
    · rw [if_pos h1, if_pos h2, i32_sub (by omega) (by omega)]
      by_cases h3 : b.toInt < a.toInt
      · rw [if_pos h3, if_neg (by omega)]
      · rw [if_neg h3]
        by_cases h4 : m.toInt < b.toInt - a.toInt
        · rw [if_pos h4, if_neg (by omega)]
        · rw [if_neg h4, if_pos (by omega)]
    · rw [if_pos h1, if_neg h2, if_neg (by omega)]
  · rw [if_neg h1, if_neg (by omega)]
theorem v_isProgram {τ : Sg} (v : Int32) : c_X11_isProgram v τ = some (if 0 ≤ v.toInt ∧ v.toInt < (gI τ 4 8).toInt then 1 else 0) := by
  unfold c_X11_isProgram d_X11_isProgram_16
  simp only [i32_lt, i32_le, Int32.reduceToInt]
  by_cases h : 0 ≤ v.toInt ∧ v.toInt < (gI τ 4 8).toInt
  · rw [if_neg (by omega), if_neg (by omega), if_pos h]
  · rw [if_neg h]
    by_cases h2 : v.toInt < 0
    · rw [if_pos h2]
    · rw [if_neg h2, if_pos (by omega)]
theorem v_isProgram12 {τ σ : Sg} (h : Rprg τ σ) (v : Int32) : c_X12_isProgram v σ = some (if 0 ≤ v.toInt ∧ v.toInt < (gI τ 4 8).toInt then 1 else 0) := by
  unfold c_X12_isProgram
  obtain ⟨e, e1, e2, -⟩ := h
  rw [v_in, bp_s, ck01, e]
  have e3 : (gI τ 4 8 - 1).toInt = (gI τ 4 8).toInt - 1 := i32_sub (by simp only [Int32.reduceToInt]; omega) (by simp only [Int32.reduceToInt]; omega)
  rw [e3]
  simp only [Int32.reduceToInt]
  by_cases h : 0 ≤ v.toInt ∧ v.toInt < (gI τ 4 8).toInt
  · rw [if_pos h, if_pos (by omega)]
  · rw [if_neg h, if_neg (by omega)]
/-- act i of program v is there -/
def isA (τ : Sg) (v i : Int32) : Prop := (0 ≤ v.toInt ∧ v.toInt < (gI τ 4 8).toInt) ∧ 0 ≤ i.toInt ∧ i.toInt < (gI τ (5 * v.toNatClampNeg + 74) 4).toInt
theorem v_isAct {τ σ : Sg} (h : Rprg τ σ) (v i : Int32) : (isA τ v i ∧ c_X11_isAct v i τ = some 1 ∧ c_X12_isAct v i σ = some 1) ∨ (¬ isA τ v i ∧ c_X11_isAct v i τ = some 0 ∧ c_X12_isAct v i σ = some 0) := by
  have h' := h
  obtain ⟨e, e1, e2, e3⟩ := h
  unfold c_X11_isAct c_X12_isAct d_X11_isAct_29 d_X12_isAct_28 isA
  rw [v_isProgram, v_isProgram12 h']
  simp only [bp_s, ite10]
  by_cases h1 : 0 ≤ v.toInt ∧ v.toInt < (gI τ 4 8).toInt
  · rw [if_pos h1, if_pos h1]
    have h4 : v.toNatClampNeg < 4 := by rw [i32_nat]; omega
    obtain ⟨g1, g2, g3, -⟩ := e3 v.toNatClampNeg h4
    rw [ck_ix (by omega), ck_ix (by omega), g1, v_in, bp_s, ite10]
    have e4 : (gI τ (5 * v.toNatClampNeg + 74) 4 - 1).toInt = (gI τ (5 * v.toNatClampNeg + 74) 4).toInt - 1 := i32_sub (by simp only [Int32.reduceToInt]; omega) (by simp only [Int32.reduceToInt]; omega)
    rw [e4]
    simp only [i32_lt, i32_le, Int32.reduceToInt]
    by_cases h2 : 0 ≤ i.toInt ∧ i.toInt < (gI τ (5 * v.toNatClampNeg + 74) 4).toInt
    · left
      rw [if_neg (by omega), if_neg (by omega), if_pos (by omega)]
      exact ⟨⟨h1, h2⟩, rfl, rfl⟩
    · right
      refine ⟨fun q => h2 q.2, ?_, by rw [if_neg (by omega)]⟩
      by_cases h3 : i.toInt < 0
      · rw [if_pos h3]
      · rw [if_neg h3, if_pos (by omega)]
  · right
    rw [if_neg h1, if_neg h1]
    exact ⟨fun q => h1 q.1, rfl, rfl⟩
theorem Rl_s {c : Nat} {τ σ : Sg} (h : Rl c τ σ) : Rl (c + 1) τ σ := by
  obtain ⟨h0, h1, h2, h3, h4, h5, h6, h7, h8⟩ := h
  exact ⟨h0, h1, h2, h3, Rled_f h4 (Nat.le_succ _) (fun _ _ => Sm_refl) Sm_refl rfl, h5, h6, Rtap_f h7 (Nat.le_succ _) (fun _ _ => Sm_refl) (fun _ _ => Sm_refl), h8⟩
