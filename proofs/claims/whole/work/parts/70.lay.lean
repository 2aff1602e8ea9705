section ACC
variable {σ : Sg} {a b k j t n : Nat}
theorem sN_pI {v : Int32} : sN (pI σ a k v) = sN σ := rfl
theorem sZ_pI {v : Int32} : sZ (pI σ a k v) = sZ σ := rfl
theorem sK_pI {v : Int32} : sK (pI σ a k v) b = sK σ b := rfl
theorem gJ_pI {v : Int32} : gJ (pI σ a k v) b j = gJ σ b j := rfl
theorem gD_pI {v : Int32} : gD (pI σ a k v) b j = gD σ b j := rfl
theorem gR_pI {v : Int32} : gR (pI σ a k v) b j = gR σ b j := rfl
theorem gI_pI {v : Int32} : gI (pI σ a k v) b j = if b = a ∧ j = k then v else gI σ b j := rfl
theorem gI_pI_s {v : Int32} : gI (pI σ a k v) a k = v := if_pos ⟨rfl, rfl⟩
theorem gI_pI_a {v : Int32} (h : b ≠ a) : gI (pI σ a k v) b j = gI σ b j := if_neg (fun q => h q.1)
theorem gI_pI_k {v : Int32} (h : j ≠ k) : gI (pI σ a k v) b j = gI σ b j := if_neg (fun q => h q.2)
theorem sN_pJ {v : Int64} : sN (pJ σ a k v) = sN σ := rfl
theorem sZ_pJ {v : Int64} : sZ (pJ σ a k v) = sZ σ := rfl
theorem sK_pJ {v : Int64} : sK (pJ σ a k v) b = sK σ b := rfl
theorem gI_pJ {v : Int64} : gI (pJ σ a k v) b j = gI σ b j := rfl
theorem gD_pJ {v : Int64} : gD (pJ σ a k v) b j = gD σ b j := rfl
theorem gR_pJ {v : Int64} : gR (pJ σ a k v) b j = gR σ b j := rfl
theorem gJ_pJ {v : Int64} : gJ (pJ σ a k v) b j = if b = a ∧ j = k then v else gJ σ b j := rfl
theorem gJ_pJ_s {v : Int64} : gJ (pJ σ a k v) a k = v := if_pos ⟨rfl, rfl⟩
theorem gJ_pJ_a {v : Int64} (h : b ≠ a) : gJ (pJ σ a k v) b j = gJ σ b j := if_neg (fun q => h q.1)
theorem gJ_pJ_k {v : Int64} (h : j ≠ k) : gJ (pJ σ a k v) b j = gJ σ b j := if_neg (fun q => h q.2)
theorem sN_pD {v : UInt64} : sN (pD σ a k v) = sN σ := rfl
theorem sZ_pD {v : UInt64} : sZ (pD σ a k v) = sZ σ := rfl
theorem sK_pD {v : UInt64} : sK (pD σ a k v) b = sK σ b := rfl
theorem gI_pD {v : UInt64} : gI (pD σ a k v) b j = gI σ b j := rfl
theorem gJ_pD {v : UInt64} : gJ (pD σ a k v) b j = gJ σ b j := rfl
theorem gR_pD {v : UInt64} : gR (pD σ a k v) b j = gR σ b j := rfl
theorem gD_pD {v : UInt64} : gD (pD σ a k v) b j = if b = a ∧ j = k then v else gD σ b j := rfl
theorem gD_pD_s {v : UInt64} : gD (pD σ a k v) a k = v := if_pos ⟨rfl, rfl⟩
theorem gD_pD_a {v : UInt64} (h : b ≠ a) : gD (pD σ a k v) b j = gD σ b j := if_neg (fun q => h q.1)
theorem gD_pD_k {v : UInt64} (h : j ≠ k) : gD (pD σ a k v) b j = gD σ b j := if_neg (fun q => h q.2)
theorem sN_pR {v : Nat} : sN (pR σ a k v) = sN σ := rfl
theorem sZ_pR {v : Nat} : sZ (pR σ a k v) = sZ σ := rfl
theorem sK_pR {v : Nat} : sK (pR σ a k v) b = sK σ b := rfl
theorem gI_pR {v : Nat} : gI (pR σ a k v) b j = gI σ b j := rfl
theorem gJ_pR {v : Nat} : gJ (pR σ a k v) b j = gJ σ b j := rfl
theorem gD_pR {v : Nat} : gD (pR σ a k v) b j = gD σ b j := rfl
theorem gR_pR {v : Nat} : gR (pR σ a k v) b j = if b = a ∧ j = k then v else gR σ b j := rfl
theorem gR_pR_s {v : Nat} : gR (pR σ a k v) a k = v := if_pos ⟨rfl, rfl⟩
theorem gR_pR_a {v : Nat} (h : b ≠ a) : gR (pR σ a k v) b j = gR σ b j := if_neg (fun q => h q.1)
theorem gR_pR_k {v : Nat} (h : j ≠ k) : gR (pR σ a k v) b j = gR σ b j := if_neg (fun q => h q.2)
theorem sN_nw : sN (nw σ t n) = sN σ + 1 := rfl
theorem sZ_nw : sZ (nw σ t n) = sZ σ + n := rfl
theorem sK_nw : sK (nw σ t n) b = if b = sN σ then (t, n) else sK σ b := rfl
theorem sK_nw_o (h : b < sN σ) : sK (nw σ t n) b = sK σ b := if_neg (Nat.ne_of_lt h)
theorem gI_nw : gI (nw σ t n) b j = if b = sN σ then 0 else gI σ b j := rfl
theorem gI_nw_o (h : b < sN σ) : gI (nw σ t n) b j = gI σ b j := if_neg (Nat.ne_of_lt h)
theorem gJ_nw : gJ (nw σ t n) b j = if b = sN σ then 0 else gJ σ b j := rfl
theorem gJ_nw_o (h : b < sN σ) : gJ (nw σ t n) b j = gJ σ b j := if_neg (Nat.ne_of_lt h)
theorem gD_nw : gD (nw σ t n) b j = if b = sN σ then 0 else gD σ b j := rfl
theorem gD_nw_o (h : b < sN σ) : gD (nw σ t n) b j = gD σ b j := if_neg (Nat.ne_of_lt h)
theorem gR_nw : gR (nw σ t n) b j = if b = sN σ then 0 else gR σ b j := rfl
theorem gR_nw_o (h : b < sN σ) : gR (nw σ t n) b j = gR σ b j := if_neg (Nat.ne_of_lt h)
theorem ck_t {β : Type} {P : Prop} [Decidable P] {x : Option β} (h : P) : ck P x = x := if_pos h
theorem nm_t {α β : Type} {v : α} {f : α → Option β} : nm v f = f v := rfl
theorem bd_t {α β : Type} {x : Option (α × Sg)} {y : α} {τ : Sg} {f : α → Sg → Option β} (h : x = some (y, τ)) : bd x f = f y τ := by rw [h]; rfl
theorem bp_t {α β : Type} {x : Option α} {y : α} {f : α → Option β} (h : x = some y) : bp x f = f y := by rw [h]; rfl
/-- two heaps alike but for the cells 0..3, where the second is as T -/
def aL (T σ τ : Sg) : Prop := sN σ = sN τ ∧ sZ σ = sZ τ ∧ (∀ a, 4 ≤ a → sK σ a = sK τ a) ∧ (∀ a k, 4 ≤ a → gI σ a k = gI τ a k ∧ gJ σ a k = gJ τ a k ∧ gD σ a k = gD τ a k ∧ gR σ a k = gR τ a k) ∧ 4 ≤ sN σ ∧ (∀ a, a < 4 → (sK σ a).1 = 13 ∧ (sK τ a).1 = 13) ∧ (∀ a, a < 4 → sK τ a = sK T a ∧ ∀ k, gI τ a k = gI T a k)
variable {T : Sg}
theorem aL_pI {τ : Sg} {v : Int32} (h : aL T σ τ) (ha : 4 ≤ a) : aL T (pI σ a k v) (pI τ a k v) := by
  refine ⟨h.1, h.2.1, h.2.2.1, fun b j hb => ?_, h.2.2.2.2.1, h.2.2.2.2.2.1, fun b hb => ⟨(h.2.2.2.2.2.2 b hb).1, fun j => by rw [gI_pI_a (by omega)]; exact (h.2.2.2.2.2.2 b hb).2 j⟩⟩
  obtain ⟨h1, h2, h3, h4⟩ := h.2.2.2.1 b j hb
  refine ⟨?_, ?_, ?_, ?_⟩
  · rw [gI_pI, gI_pI, h1]
  · exact h2
  · exact h3
  · exact h4
theorem aL_pJ {τ : Sg} {v : Int64} (h : aL T σ τ) : aL T (pJ σ a k v) (pJ τ a k v) := by
  refine ⟨h.1, h.2.1, h.2.2.1, fun b j hb => ?_, h.2.2.2.2⟩
  obtain ⟨h1, h2, h3, h4⟩ := h.2.2.2.1 b j hb
  refine ⟨?_, ?_, ?_, ?_⟩
  · exact h1
  · rw [gJ_pJ, gJ_pJ, h2]
  · exact h3
  · exact h4
theorem aL_pD {τ : Sg} {v : UInt64} (h : aL T σ τ) : aL T (pD σ a k v) (pD τ a k v) := by
  refine ⟨h.1, h.2.1, h.2.2.1, fun b j hb => ?_, h.2.2.2.2⟩
  obtain ⟨h1, h2, h3, h4⟩ := h.2.2.2.1 b j hb
  refine ⟨?_, ?_, ?_, ?_⟩
  · exact h1
  · exact h2
  · rw [gD_pD, gD_pD, h3]
  · exact h4
theorem aL_pR {τ : Sg} {v : Nat} (h : aL T σ τ) : aL T (pR σ a k v) (pR τ a k v) := by
  refine ⟨h.1, h.2.1, h.2.2.1, fun b j hb => ?_, h.2.2.2.2⟩
  obtain ⟨h1, h2, h3, h4⟩ := h.2.2.2.1 b j hb
  refine ⟨?_, ?_, ?_, ?_⟩
  · exact h1
  · exact h2
  · exact h3
  · rw [gR_pR, gR_pR, h4]
theorem aL_nw {τ : Sg} (h : aL T σ τ) : aL T (nw σ t n) (nw τ t n) := by
  have h0 := h.1
  refine ⟨by rw [sN_nw, sN_nw, h.1], by rw [sZ_nw, sZ_nw, h.2.1], fun b hb => by rw [sK_nw, sK_nw, h0, h.2.2.1 b hb], fun b j hb => ?_, Nat.le_succ_of_le h.2.2.2.2.1, fun b hb => by
    have h5 := h.2.2.2.2.1
    rw [sK_nw, sK_nw, if_neg (by omega), if_neg (by omega)]
    exact h.2.2.2.2.2.1 b hb, fun b hb => by
    have h5 := h.2.2.2.2.1
    rw [sK_nw_o (by omega)]
    refine ⟨(h.2.2.2.2.2.2 b hb).1, fun j => ?_⟩
    rw [gI_nw_o (by omega)]
    exact (h.2.2.2.2.2.2 b hb).2 j⟩
  obtain ⟨h1, h2, h3, h4⟩ := h.2.2.2.1 b j hb
  refine ⟨?_, ?_, ?_, ?_⟩
  · rw [gI_nw, gI_nw, h0, h1]
  · rw [gJ_nw, gJ_nw, h0, h2]
  · rw [gD_nw, gD_nw, h0, h3]
  · rw [gR_nw, gR_nw, h0, h4]
theorem aL_okO {τ : Sg} {c : Nat} (h : aL T σ τ) : okO σ a c ↔ okO τ a c := by
  unfold okO
  rw [h.1]
  constructor
  · rintro ⟨h1, h2, h3⟩
    exact ⟨h1, h2, by rw [← h.2.2.1 a h1]; exact h3⟩
  · rintro ⟨h1, h2, h3⟩
    exact ⟨h1, h2, by rw [h.2.2.1 a h1]; exact h3⟩
theorem aL_okW {τ : Sg} {i : Int32} (h : aL T σ τ) : okW σ a t i ↔ okW τ a t i := by
  unfold okW okA
  rw [h.1]
  constructor
  · rintro ⟨h1, h2, h3⟩
    exact ⟨h1, h2, by rw [← h.2.2.1 a h1]; exact h3⟩
  · rintro ⟨h1, h2, h3⟩
    exact ⟨h1, h2, by rw [h.2.2.1 a h1]; exact h3⟩
theorem aL_ge {τ : Sg} {i : Int32} (h : aL T σ τ) (ht : t ≠ 13) (ha : okA σ a t i) : 4 ≤ a := by
  by_cases h4 : 4 ≤ a
  · exact h4
  · exact absurd ((h.2.2.2.2.2.1 a (by omega)).1.symm.trans ha.2.1).symm ht
theorem aL_okA {τ : Sg} {i : Int32} (h : aL T σ τ) (ht : t ≠ 13) : okA σ a t i ↔ okA τ a t i := by
  by_cases h4 : 4 ≤ a
  · unfold okA
    rw [h.1, h.2.2.1 a h4]
  · constructor
    · intro q
      exact absurd ((h.2.2.2.2.2.1 a (by omega)).1.symm.trans q.2.1).symm ht
    · intro q
      exact absurd ((h.2.2.2.2.2.1 a (by omega)).2.symm.trans q.2.1).symm ht
end ACC
