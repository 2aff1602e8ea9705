def TM : List Int := [0, 7, 7, 7, 5, 7, 3, 7, 0, 1, 7, 7, 7]
def VL : List Int := [0, 0, 0, 0, 1, 0, 0, 0, 0, 0, 0, 0, 1]
def VM : List Int := [0, 5, 5, 7, 100, 1, 3, 0, 0, 1000000, 1, 5, 30]
/-- t and v fit a kind -/
abbrev fitP (k : Nat) (t v : Int) : Prop := 0 ≤ t ∧ t ≤ TM.getD k 0 ∧ VL.getD k 0 ≤ v ∧ v ≤ VM.getD k 0
def Act (k s t v : Int32) : Prop := 0 ≤ k.toInt ∧ k.toInt ≤ 12 ∧ 0 ≤ s.toInt ∧ s.toInt ≤ 7 ∧ fitP k.toNatClampNeg t.toInt v.toInt
def Car (u l : Int64) : Prop := 0 ≤ u.toInt ∧ u.toInt < l.toInt ∧ l.toInt ≤ 1048576 ∧ Int.gcd u.toInt l.toInt = 1
def Rold (τ : Sg) : Prop := ∀ k, k < 13 → (gI τ 1 k).toInt = TM.getD k 0 ∧ (gI τ 2 k).toInt = VL.getD k 0 ∧ (gI τ 3 k).toInt = VM.getD k 0
def Rtab (τ σ : Sg) : Prop := ∀ k, k < 8 → gI σ 131 k = gI τ 6 k ∧ gI σ 132 k = gI τ 7 k ∧ 0 ≤ (gI τ 6 k).toInt ∧ (gI τ 6 k).toInt ≤ 10000 ∧ 1 ≤ (gI τ 7 k).toInt ∧ (gI τ 7 k).toInt ≤ 1000
def Rwts (τ σ : Sg) : Prop := ∀ s, s < 4 → gI σ 134 s = gI τ 13 s ∧ 0 ≤ (gI τ 13 s).toInt ∧ (gI τ 13 s).toInt ≤ 8 ∧ ∀ j, j < 8 → gI σ 135 (8 * s + j) = gI τ (s + 9) j ∧ 0 ≤ (gI τ (s + 9) j).toInt ∧ (gI τ (s + 9) j).toInt ≤ 1000
def Rbil (τ σ : Sg) : Prop := gI σ 130 3 = gI τ 14 1 ∧ 0 ≤ (gI τ 14 1).toInt ∧ (gI τ 14 1).toInt ≤ 12 ∧ ∀ j, j < 12 → gI σ 133 j = gI τ 15 j ∧ -1000000 ≤ (gI τ 15 j).toInt ∧ (gI τ 15 j).toInt ≤ 1000000
def Rled (c : Nat) (τ σ : Sg) : Prop := gI σ 130 13 = gI τ 16 1 ∧ 0 ≤ (gI τ 16 1).toInt ∧ (gI τ 16 1).toInt ≤ 800 * c ∧ ∀ k, k < 8 → gJ σ 146 k = gJ τ 17 k
def Rprg (τ σ : Sg) : Prop := gI σ 130 7 = gI τ 4 8 ∧ 0 ≤ (gI τ 4 8).toInt ∧ (gI τ 4 8).toInt ≤ 4 ∧ ∀ p, p < 4 → gI σ 136 p = gI τ (5 * p + 74) 4 ∧ 0 ≤ (gI τ (5 * p + 74) 4).toInt ∧ (gI τ (5 * p + 74) 4).toInt ≤ 20 ∧
  (∀ i, i < 20 → gI σ 137 (20 * p + i) = gI τ (5 * p + 75) i ∧ gI σ 138 (20 * p + i) = gI τ (5 * p + 76) i ∧ gI σ 139 (20 * p + i) = gI τ (5 * p + 77) i ∧ gI σ 140 (20 * p + i) = gI τ (5 * p + 78) i ∧ Act (gI τ (5 * p + 75) i) (gI τ (5 * p + 76) i) (gI τ (5 * p + 77) i) (gI τ (5 * p + 78) i)) ∧
  ((p : Int) < (gI τ 4 8).toInt → gJ σ 147 p = gJ τ (5 * p + 74) 5 ∧ gJ σ 148 p = gJ τ (5 * p + 74) 6 ∧ Car (gJ τ (5 * p + 74) 5) (gJ τ (5 * p + 74) 6))
def Rlst (τ σ : Sg) : Prop := gI σ 130 14 = gI τ 20 9 ∧ (∀ k, k < 8 → gJ σ 142 k = gJ τ 29 k ∧ gJ σ 143 k = gJ τ 30 k ∧ gI σ 149 k = gI τ 31 k ∧ (gI τ 31 k = 0 ∨ gI τ 31 k = 1) ∧ gJ σ 144 k = gJ τ 26 k) ∧ ∀ k, k < 12 → gJ σ 145 k = gJ τ 32 k
def Rtap (c : Nat) (τ σ : Sg) : Prop := ∀ d, d < 6 → gI σ 150 d = gI τ (6 * d + 94) 0 ∧ 0 ≤ (gI τ (6 * d + 94) 0).toInt ∧ (gI τ (6 * d + 94) 0).toInt ≤ 5 ∧ gI σ 151 d = gI τ (6 * d + 94) 6 ∧ 0 ≤ (gI τ (6 * d + 94) 6).toInt ∧ (gI τ (6 * d + 94) 6).toInt ≤ 64 ∧
  (∀ j : Nat, (j : Int) < (gI τ (6 * d + 94) 6).toInt → gJ σ 152 (64 * d + j) = gJ τ (6 * d + 95) j) ∧ gI σ 153 d = gI τ (6 * d + 94) 5 ∧ 0 ≤ (gI τ (6 * d + 94) 5).toInt ∧ (gI τ (6 * d + 94) 5).toInt ≤ 4 ∧ gI σ 154 d = gI τ (6 * d + 96) 1 ∧ 0 ≤ (gI τ (6 * d + 96) 1).toInt ∧ (gI τ (6 * d + 96) 1).toInt ≤ 800 * c ∧
  (∀ k, k < 8 → gJ σ 155 (8 * d + k) = gJ τ (6 * d + 97) k) ∧ ∀ p, p < 4 → gJ σ 156 (4 * d + p) = gJ τ (6 * d + 98) p ∧ gJ σ 157 (4 * d + p) = gJ τ (6 * d + 99) p ∧ ((p : Int) < (gI τ (6 * d + 94) 5).toInt → Car (gJ τ (6 * d + 98) p) (gJ τ (6 * d + 99) p))
def Rmis (τ σ : Sg) : Prop := gI σ 130 15 = gI τ 4 9 ∧ gI σ 130 16 = 0
/-- the component's cells in τ and the reference's in σ say the same, behind c calls -/
def Rl (c : Nat) (τ σ : Sg) : Prop := (Lay τ ∧ Lay σ ∧ Rold τ) ∧ Rtab τ σ ∧ Rwts τ σ ∧ Rbil τ σ ∧ Rled c τ σ ∧ Rprg τ σ ∧ Rlst τ σ ∧ Rtap c τ σ ∧ Rmis τ σ
/-- the rows of cell a are the same -/
def Sm (σ σ' : Sg) (a : Nat) : Prop := gI σ' a = gI σ a ∧ gJ σ' a = gJ σ a ∧ gD σ' a = gD σ a
section SMS
variable {σ σ1 σ' τ τ' : Sg} {a b k : Nat}
theorem Sm_refl : Sm σ σ a := ⟨rfl, rfl, rfl⟩
theorem Sm_pI {v : Int32} (h : Sm σ σ1 a) (ne : a ≠ b) : Sm σ (pI σ1 b k v) a := ⟨by rw [← h.1]; funext j; exact gI_pI_a ne, h.2.1, h.2.2⟩
theorem Sm_pJ {v : Int64} (h : Sm σ σ1 a) (ne : a ≠ b) : Sm σ (pJ σ1 b k v) a := ⟨h.1, by rw [← h.2.1]; funext j; exact gJ_pJ_a ne, h.2.2⟩
theorem Sm_pD {v : UInt64} (h : Sm σ σ1 a) (ne : a ≠ b) : Sm σ (pD σ1 b k v) a := ⟨h.1, h.2.1, by rw [← h.2.2]; funext j; exact gD_pD_a ne⟩
theorem Sm_to {lo hi : Nat} (t : To lo hi σ σ') (h : ¬ (lo ≤ a ∧ a < hi)) : Sm σ σ' a := t.2.2 a h
theorem Sm_tr (h : Sm σ σ1 a) (h' : Sm σ1 σ' a) : Sm σ σ' a := ⟨h'.1.trans h.1, h'.2.1.trans h.2.1, h'.2.2.trans h.2.2⟩
theorem Rold_f (h : Rold τ) (e : ∀ a, 1 ≤ a ∧ a ≤ 3 → Sm τ τ' a) : Rold τ' := by
  unfold Rold
  rw [(e 1 (by omega)).1, (e 2 (by omega)).1, (e 3 (by omega)).1]
  exact h
theorem Rtab_f (h : Rtab τ σ) (e : ∀ a, a = 6 ∨ a = 7 → Sm τ τ' a) (e' : ∀ a, a = 131 ∨ a = 132 → Sm σ σ' a) : Rtab τ' σ' := by
  unfold Rtab
  rw [(e 6 (by omega)).1, (e 7 (by omega)).1, (e' 131 (by omega)).1, (e' 132 (by omega)).1]
  exact h
theorem Rwts_f (h : Rwts τ σ) (e : ∀ a, 9 ≤ a ∧ a ≤ 13 → Sm τ τ' a) (e' : ∀ a, a = 134 ∨ a = 135 → Sm σ σ' a) : Rwts τ' σ' := by
  intro s hs
  rw [(e 13 (by omega)).1, (e (s + 9) (by omega)).1, (e' 134 (by omega)).1, (e' 135 (by omega)).1]
  exact h s hs
theorem Rbil_f (h : Rbil τ σ) (e : ∀ a, a = 14 ∨ a = 15 → Sm τ τ' a) (e' : Sm σ σ' 133) (f : gI σ' 130 3 = gI σ 130 3) : Rbil τ' σ' := by
  unfold Rbil
  rw [(e 14 (by omega)).1, (e 15 (by omega)).1, e'.1, f]
  exact h
theorem Rled_f {c c' : Nat} (h : Rled c τ σ) (hc : c ≤ c') (e : ∀ a, a = 16 ∨ a = 17 → Sm τ τ' a) (e' : Sm σ σ' 146) (f : gI σ' 130 13 = gI σ 130 13) : Rled c' τ' σ' := by
  unfold Rled
  rw [(e 16 (by omega)).1, (e 17 (by omega)).2.1, e'.2.1, f]
  exact ⟨h.1, h.2.1, by have := h.2.2.1; omega, h.2.2.2⟩
theorem Rprg_f (h : Rprg τ σ) (e : ∀ a, 74 ≤ a ∧ a ≤ 93 → Sm τ τ' a) (e' : ∀ a, (136 ≤ a ∧ a ≤ 140) ∨ a = 147 ∨ a = 148 → Sm σ σ' a) (f : gI σ' 130 7 = gI σ 130 7) (f' : gI τ' 4 8 = gI τ 4 8) : Rprg τ' σ' := by
  refine ⟨by rw [f, f']; exact h.1, by rw [f']; exact h.2.1, by rw [f']; exact h.2.2.1, fun p hp => ?_⟩
  rw [f', (e (5 * p + 74) (by omega)).1, (e (5 * p + 74) (by omega)).2.1, (e (5 * p + 75) (by omega)).1, (e (5 * p + 76) (by omega)).1, (e (5 * p + 77) (by omega)).1, (e (5 * p + 78) (by omega)).1,
    (e' 136 (by omega)).1, (e' 137 (by omega)).1, (e' 138 (by omega)).1, (e' 139 (by omega)).1, (e' 140 (by omega)).1, (e' 147 (by omega)).2.1, (e' 148 (by omega)).2.1]
  exact h.2.2.2 p hp
theorem Rlst_f (h : Rlst τ σ) (e : ∀ a, a = 26 ∨ (29 ≤ a ∧ a ≤ 32) → Sm τ τ' a) (e' : ∀ a, (142 ≤ a ∧ a ≤ 145) ∨ a = 149 → Sm σ σ' a) (f : gI σ' 130 14 = gI σ 130 14) (f' : gI τ' 20 9 = gI τ 20 9) : Rlst τ' σ' := by
  unfold Rlst
  rw [f, f', (e 26 (by omega)).2.1, (e 29 (by omega)).2.1, (e 30 (by omega)).2.1, (e 31 (by omega)).1, (e 32 (by omega)).2.1, (e' 142 (by omega)).2.1, (e' 143 (by omega)).2.1, (e' 144 (by omega)).2.1, (e' 145 (by omega)).2.1, (e' 149 (by omega)).1]
  exact h
theorem Rtap_f {c c' : Nat} (h : Rtap c τ σ) (hc : c ≤ c') (e : ∀ a, 94 ≤ a ∧ a ≤ 129 → Sm τ τ' a) (e' : ∀ a, 150 ≤ a ∧ a ≤ 157 → Sm σ σ' a) : Rtap c' τ' σ' := by
  intro d hd
  rw [(e (6 * d + 94) (by omega)).1, (e (6 * d + 95) (by omega)).2.1, (e (6 * d + 96) (by omega)).1, (e (6 * d + 97) (by omega)).2.1, (e (6 * d + 98) (by omega)).2.1, (e (6 * d + 99) (by omega)).2.1,
    (e' 150 (by omega)).1, (e' 151 (by omega)).1, (e' 152 (by omega)).2.1, (e' 153 (by omega)).1, (e' 154 (by omega)).1, (e' 155 (by omega)).2.1, (e' 156 (by omega)).2.1, (e' 157 (by omega)).2.1]
  obtain ⟨h1, h2, h3, h4, h5, h6, h7, h8, h9, h10, h11, h12, h13, h14, h15⟩ := h d hd
  exact ⟨h1, h2, h3, h4, h5, h6, h7, h8, h9, h10, h11, h12, by omega, h14, h15⟩
theorem Rmis_f (h : Rmis τ σ) (f : gI σ' 130 15 = gI σ 130 15) (f1 : gI σ' 130 16 = gI σ 130 16) (f' : gI τ' 4 9 = gI τ 4 9) : Rmis τ' σ' := by
  unfold Rmis
  rw [f, f1, f']
  exact h
/-- only the other's cells have changed -/
theorem Rl_f {c : Nat} (h : Rl c τ σ) (hl : Lay τ') (hl' : Lay σ') (e : ∀ a, 1 ≤ a ∧ a ≤ 129 → Sm τ τ' a) (e' : ∀ a, 130 ≤ a ∧ a ≤ 157 → Sm σ σ' a) : Rl c τ' σ' := by
  obtain ⟨⟨-, -, h0⟩, h1, h2, h3, h4, h5, h6, h7, h8⟩ := h
  have f : gI σ' 130 = gI σ 130 := (e' 130 (by omega)).1
  exact ⟨⟨hl, hl', Rold_f h0 (fun a ha => e a (by omega))⟩, Rtab_f h1 (fun a ha => e a (by omega)) (fun a ha => e' a (by omega)), Rwts_f h2 (fun a ha => e a (by omega)) (fun a ha => e' a (by omega)),
    Rbil_f h3 (fun a ha => e a (by omega)) (e' 133 (by omega)) (by rw [f]), Rled_f h4 (Nat.le_refl _) (fun a ha => e a (by omega)) (e' 146 (by omega)) (by rw [f]),
    Rprg_f h5 (fun a ha => e a (by omega)) (fun a ha => e' a (by omega)) (by rw [f]) (by rw [(e 4 (by omega)).1]),
    Rlst_f h6 (fun a ha => e a (by omega)) (fun a ha => e' a (by omega)) (by rw [f]) (by rw [(e 20 (by omega)).1]),
    Rtap_f h7 (Nat.le_refl _) (fun a ha => e a (by omega)) (fun a ha => e' a (by omega)), Rmis_f h8 (by rw [f]) (by rw [f]) (by rw [(e 4 (by omega)).1])⟩
end SMS
