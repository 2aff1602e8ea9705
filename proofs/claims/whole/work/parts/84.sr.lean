def SL (u l : Int64) : Prop := -1099511627776 ≤ u.toInt ∧ u.toInt ≤ 1099511627776 ∧ 1 ≤ l.toInt ∧ l.toInt ≤ 1048576 ∧ Int.gcd u.toInt l.toInt = 1
def wsum (f : Nat → Int32) : Nat → Int
  | 0 => 0
  | n + 1 => wsum f n + (f n).toInt
def wT (τ : Sg) (s : Nat) : Int := wsum (gI τ (s + 9)) (gI τ 13 s).toNatClampNeg
def wN (τ : Sg) (s : Nat) : Nat := if wT τ s = 0 then 2 else (gI τ 13 s).toNatClampNeg
def wW (τ : Sg) (s j : Nat) : Int := if wT τ s = 0 then 1 else (gI τ (s + 9) j).toInt
def wS (τ : Sg) (s : Nat) : Int := if wT τ s = 0 then 2 else wT τ s
def Ss (b B : Nat) (τ σ : Sg) : Prop := ∀ k, k < 8 → gJ σ 142 (8 * B + k) = gJ τ (b + 9) k ∧ gJ σ 143 (8 * B + k) = gJ τ (b + 10) k ∧ gI σ 149 (8 * B + k) = gI τ (b + 11) k ∧ (gI τ (b + 11) k = 0 ∨ gI τ (b + 11) k = 1) ∧ SL (gJ τ (b + 9) k) (gJ τ (b + 10) k)
def Sp (b B : Nat) (τ σ : Sg) : Prop := ∀ k, k < 8 → gJ σ 144 (8 * B + k) = gJ τ (b + 6) k ∧ -2199023255552 ≤ (gJ τ (b + 6) k).toInt ∧ (gJ τ (b + 6) k).toInt ≤ 2199023255552
def Sr (b B : Nat) (τ σ : Sg) : Prop := ∀ k, k < 12 → gJ σ 145 (12 * B + k) = gJ τ (b + 12) k
def Sa (b B : Nat) (τ σ : Sg) : Prop := ∀ k, k < 8 → gJ σ 146 (8 * B + k) = gJ τ (b + 4) k
def Sk (b m : Nat) (lk : Int32) (τ σ : Sg) : Prop := gI τ (b + 3) 1 = lk + gI σ 130 31 ∧ 0 ≤ (gI σ 130 31).toInt ∧ (gI σ 130 31).toInt ≤ m
def Sc (b B p : Nat) (τ σ : Sg) : Prop := gJ σ 147 (4 * B + p) = gJ τ b 7 ∧ gJ σ 148 (4 * B + p) = gJ τ b 8 ∧ Car (gJ τ b 7) (gJ τ b 8)
def Sf (b : Nat) (τ σ : Sg) : Prop := gI σ 130 27 = gI τ (b + 5) 1 ∧ (gI τ (b + 5) 1 = 0 ∨ gI τ (b + 5) 1 = 1) ∧ gI σ 130 28 = gI τ b 10 ∧ (gI τ b 10 = 0 ∨ gI τ b 10 = 1) ∧ gI τ b 9 = -2
/-- what the last split was made of -/
def Si (b : Nat) (τ σ : Sg) : Prop := gI τ (b + 5) 1 = 1 → gJ σ 130 29 = gJ τ (b + 5) 6 ∧ 0 ≤ (gI σ 130 30).toInt ∧ (gI σ 130 30).toInt ≤ 3 ∧ (gI τ (b + 5) 4).toInt = wN τ (gI σ 130 30).toNatClampNeg ∧ (gJ τ (b + 5) 5).toInt = wS τ (gI σ 130 30).toNatClampNeg ∧ ∀ j, j < wN τ (gI σ 130 30).toNatClampNeg → (gI τ (b + 7) j).toInt = wW τ (gI σ 130 30).toNatClampNeg j
def Sb (b : Nat) (τ σ : Sg) : Prop := gI σ 130 17 = gI τ (b + 1) 1 ∧ 0 ≤ (gI τ (b + 1) 1).toInt ∧ (gI τ (b + 1) 1).toInt ≤ 12 ∧ ∀ j : Nat, (j : Int) < (gI τ (b + 1) 1).toInt → gI σ 141 j = gI τ (b + 2) j ∧ -1000000 ≤ (gI τ (b + 2) j).toInt ∧ (gI τ (b + 2) j).toInt ≤ 1000000
/-- the machine at b in τ and the reference's run with base B of program p in σ stand alike -/
def SR (b B p m : Nat) (lk : Int32) (τ σ : Sg) : Prop := (Lay τ ∧ Lay σ ∧ O4 b ∧ B ≤ 1 ∧ p < 4 ∧ (gI σ 130 16).toInt = B) ∧ Ss b B τ σ ∧ Sp b B τ σ ∧ Sr b B τ σ ∧ Sa b B τ σ ∧ Sk b m lk τ σ ∧ Sc b B p τ σ ∧ Sf b τ σ ∧ Si b τ σ ∧ Sb b τ σ
/-- what a run of program p with base B leaves alone in the reference -/
def Fm (B p : Nat) (σ σ' : Sg) : Prop := (∀ a, a ≠ 130 ∧ ¬ (142 ≤ a ∧ a ≤ 149) → Sm σ σ' a) ∧ (∀ k, ¬ (27 ≤ k ∧ k ≤ 32) → gI σ' 130 k = gI σ 130 k) ∧ (∀ j, ¬ (8 * B ≤ j ∧ j < 8 * B + 8) → gJ σ' 142 j = gJ σ 142 j ∧ gJ σ' 143 j = gJ σ 143 j ∧ gJ σ' 144 j = gJ σ 144 j ∧ gI σ' 149 j = gI σ 149 j ∧ gJ σ' 146 j = gJ σ 146 j) ∧ (∀ j, ¬ (12 * B ≤ j ∧ j < 12 * B + 12) → gJ σ' 145 j = gJ σ 145 j) ∧ (∀ j, j ≠ 4 * B + p → gJ σ' 147 j = gJ σ 147 j ∧ gJ σ' 148 j = gJ σ 148 j)
section SRS
variable {b B p m s : Nat} {lk : Int32} {τ σ τ' σ' σ'' : Sg}
theorem Fm_refl : Fm B p σ σ := ⟨fun _ _ => Sm_refl, fun _ _ => rfl, fun _ _ => ⟨rfl, rfl, rfl, rfl, rfl⟩, fun _ _ => rfl, fun _ _ => ⟨rfl, rfl⟩⟩
theorem Fm_trans (h : Fm B p σ σ') (h' : Fm B p σ' σ'') : Fm B p σ σ'' := by
  obtain ⟨a1, a2, a3, a4, a5⟩ := h
  obtain ⟨b1, b2, b3, b4, b5⟩ := h'
  refine ⟨fun a ha => Sm_tr (a1 a ha) (b1 a ha), fun k hk => (b2 k hk).trans (a2 k hk), fun j hj => ?_, fun j hj => (b4 j hj).trans (a4 j hj), fun j hj => ⟨(b5 j hj).1.trans (a5 j hj).1, (b5 j hj).2.trans (a5 j hj).2⟩⟩
  obtain ⟨c1, c2, c3, c4, c5⟩ := a3 j hj
  obtain ⟨d1, d2, d3, d4, d5⟩ := b3 j hj
  exact ⟨d1.trans c1, d2.trans c2, d3.trans c3, d4.trans c4, d5.trans c5⟩
theorem Ss_f (h : Ss b B τ σ) (e1 : gJ τ' (b + 9) = gJ τ (b + 9)) (e2 : gJ τ' (b + 10) = gJ τ (b + 10)) (e3 : gI τ' (b + 11) = gI τ (b + 11)) (f1 : gJ σ' 142 = gJ σ 142) (f2 : gJ σ' 143 = gJ σ 143) (f3 : gI σ' 149 = gI σ 149) : Ss b B τ' σ' := by
  unfold Ss; rw [e1, e2, e3, f1, f2, f3]; exact h
theorem Sp_f (h : Sp b B τ σ) (e1 : gJ τ' (b + 6) = gJ τ (b + 6)) (f1 : gJ σ' 144 = gJ σ 144) : Sp b B τ' σ' := by
  unfold Sp; rw [e1, f1]; exact h
theorem Sr_f (h : Sr b B τ σ) (e1 : gJ τ' (b + 12) = gJ τ (b + 12)) (f1 : gJ σ' 145 = gJ σ 145) : Sr b B τ' σ' := by
  unfold Sr; rw [e1, f1]; exact h
theorem Sa_f (h : Sa b B τ σ) (e1 : gJ τ' (b + 4) = gJ τ (b + 4)) (f1 : gJ σ' 146 = gJ σ 146) : Sa b B τ' σ' := by
  unfold Sa; rw [e1, f1]; exact h
theorem Sk_f (h : Sk b m lk τ σ) (e1 : gI τ' (b + 3) 1 = gI τ (b + 3) 1) (f1 : gI σ' 130 31 = gI σ 130 31) : Sk b m lk τ' σ' := by
  unfold Sk; rw [e1, f1]; exact h
theorem Sc_f (h : Sc b B p τ σ) (e1 : gJ τ' b 7 = gJ τ b 7) (e2 : gJ τ' b 8 = gJ τ b 8) (f1 : gJ σ' 147 = gJ σ 147) (f2 : gJ σ' 148 = gJ σ 148) : Sc b B p τ' σ' := by
  unfold Sc; rw [e1, e2, f1, f2]; exact h
theorem Sf_f (h : Sf b τ σ) (e1 : gI τ' (b + 5) 1 = gI τ (b + 5) 1) (e2 : gI τ' b 10 = gI τ b 10) (f1 : gI σ' 130 27 = gI σ 130 27) (f2 : gI σ' 130 28 = gI σ 130 28) (e3 : gI τ' b 9 = gI τ b 9) : Sf b τ' σ' := by
  unfold Sf; rw [e1, e2, e3, f1, f2]; exact h
theorem wT_f (e : ∀ a, 9 ≤ a ∧ a ≤ 13 → gI τ' a = gI τ a) (hs : s < 4) : wT τ' s = wT τ s := by
  unfold wT; rw [e (s + 9) (by omega), e 13 (by omega)]
theorem wN_f (e : ∀ a, 9 ≤ a ∧ a ≤ 13 → gI τ' a = gI τ a) (hs : s < 4) : wN τ' s = wN τ s := by
  unfold wN; rw [wT_f e hs, e 13 (by omega)]
theorem wS_f (e : ∀ a, 9 ≤ a ∧ a ≤ 13 → gI τ' a = gI τ a) (hs : s < 4) : wS τ' s = wS τ s := by
  unfold wS; rw [wT_f e hs]
theorem wW_f {j : Nat} (e : ∀ a, 9 ≤ a ∧ a ≤ 13 → gI τ' a = gI τ a) (hs : s < 4) : wW τ' s j = wW τ s j := by
  unfold wW; rw [wT_f e hs, e (s + 9) (by omega)]
theorem Si_f (h : Si b τ σ) (e : ∀ a, 9 ≤ a ∧ a ≤ 13 → gI τ' a = gI τ a) (e1 : gI τ' (b + 5) = gI τ (b + 5)) (e2 : gJ τ' (b + 5) = gJ τ (b + 5)) (e3 : gI τ' (b + 7) = gI τ (b + 7)) (f1 : gJ σ' 130 29 = gJ σ 130 29) (f2 : gI σ' 130 30 = gI σ 130 30) : Si b τ' σ' := by
  intro q
  rw [e1] at q
  obtain ⟨a1, a2, a3, a4, a5, a6⟩ := h q
  have hs : (gI σ 130 30).toNatClampNeg < 4 := by rw [i32_nat]; omega
  rw [f1, f2, e1, e2, e3, wN_f e hs, wS_f e hs]
  refine ⟨a1, a2, a3, a4, a5, fun j hj => ?_⟩
  rw [wW_f e hs]
  exact a6 j hj
theorem Sb_f (h : Sb b τ σ) (e1 : gI τ' (b + 1) 1 = gI τ (b + 1) 1) (e2 : gI τ' (b + 2) = gI τ (b + 2)) (f1 : gI σ' 130 17 = gI σ 130 17) (f2 : gI σ' 141 = gI σ 141) : Sb b τ' σ' := by
  unfold Sb; rw [e1, e2, f1, f2]; exact h
end SRS
