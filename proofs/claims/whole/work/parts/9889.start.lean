section START
/-- below m, each -/
def allB (P : Nat → Bool) : Nat → Bool
  | 0 => true
  | m + 1 => P m && allB P m
theorem allB_v {P : Nat → Bool} : ∀ {m : Nat}, allB P m = true → ∀ i, i < m → P i = true := by
  intro m
  induction m with
  | zero => intro _ i hi; omega
  | succ m ih =>
    intro h i hi
    have h' : (P m && allB P m) = true := h
    rw [Bool.and_eq_true] at h'
    by_cases q : i = m
    · rw [q]; exact h'.1
    · exact ih h'.2 i (by omega)
/-- what is seen of the heap behind the two constructors -/
def ckRow (σ : Sg) (a : Nat) : Bool := allB (fun k => Nat.beq (gR σ a k) (rt a k)) 64
def ckKind (σ : Sg) (a : Nat) : Bool := Nat.beq (sK σ a).1 (kt a).1 && Nat.beq (sK σ a).2 (kt a).2
abbrev kTab (σ : Sg) : Prop := ∀ k, k < 8 → gI σ 131 k = gI σ 6 k ∧ gI σ 132 k = gI σ 7 k ∧ 0 ≤ (gI σ 6 k).toInt ∧ (gI σ 6 k).toInt ≤ 10000 ∧ 1 ≤ (gI σ 7 k).toInt ∧ (gI σ 7 k).toInt ≤ 1000
abbrev kWts (σ : Sg) : Prop := ∀ s, s < 4 → gI σ 134 s = gI σ 13 s ∧ 0 ≤ (gI σ 13 s).toInt ∧ (gI σ 13 s).toInt ≤ 8 ∧ ∀ j, j < 8 → gI σ 135 (8 * s + j) = gI σ (s + 9) j ∧ 0 ≤ (gI σ (s + 9) j).toInt ∧ (gI σ (s + 9) j).toInt ≤ 1000
abbrev kBil (σ : Sg) : Prop := gI σ 130 3 = gI σ 14 1 ∧ 0 ≤ (gI σ 14 1).toInt ∧ (gI σ 14 1).toInt ≤ 12 ∧ ∀ j, j < 12 → gI σ 133 j = gI σ 15 j ∧ -1000000 ≤ (gI σ 15 j).toInt ∧ (gI σ 15 j).toInt ≤ 1000000
abbrev kLed (σ : Sg) : Prop := gI σ 130 13 = gI σ 16 1 ∧ 0 ≤ (gI σ 16 1).toInt ∧ (gI σ 16 1).toInt ≤ 0 ∧ ∀ k, k < 8 → gJ σ 146 k = gJ σ 17 k
abbrev kPrg (σ : Sg) : Prop := gI σ 130 7 = gI σ 4 8 ∧ gI σ 4 8 = 0 ∧ ∀ p, p < 4 → gI σ 136 p = gI σ (5 * p + 74) 4 ∧ 0 ≤ (gI σ (5 * p + 74) 4).toInt ∧ (gI σ (5 * p + 74) 4).toInt ≤ 20
abbrev kAct (σ : Sg) (p : Nat) : Prop := ∀ i, i < 20 → gI σ 137 (20 * p + i) = 0 ∧ gI σ 138 (20 * p + i) = 0 ∧ gI σ 139 (20 * p + i) = 0 ∧ gI σ 140 (20 * p + i) = 0 ∧ gI σ (5 * p + 75) i = 0 ∧ gI σ (5 * p + 76) i = 0 ∧ gI σ (5 * p + 77) i = 0 ∧ gI σ (5 * p + 78) i = 0
abbrev kLst (σ : Sg) : Prop := gI σ 130 14 = gI σ 20 9 ∧ (∀ k, k < 8 → gJ σ 142 k = gJ σ 29 k ∧ gJ σ 143 k = gJ σ 30 k ∧ gI σ 149 k = gI σ 31 k ∧ (gI σ 31 k = 0 ∨ gI σ 31 k = 1) ∧ gJ σ 144 k = gJ σ 26 k) ∧ ∀ k, k < 12 → gJ σ 145 k = gJ σ 32 k
abbrev kTap (σ : Sg) : Prop := ∀ d, d < 6 → gI σ 150 d = 0 ∧ gI σ (6 * d + 94) 0 = 0 ∧ gI σ 151 d = 0 ∧ gI σ (6 * d + 94) 6 = 0 ∧ gI σ 153 d = 0 ∧ gI σ (6 * d + 94) 5 = 0 ∧ gI σ 154 d = 0 ∧ gI σ (6 * d + 96) 1 = 0 ∧
  (∀ k, k < 8 → gJ σ 155 (8 * d + k) = gJ σ (6 * d + 97) k) ∧ ∀ p, p < 4 → gJ σ 156 (4 * d + p) = gJ σ (6 * d + 98) p ∧ gJ σ 157 (4 * d + p) = gJ σ (6 * d + 99) p
abbrev kMis (σ : Sg) : Prop := gI σ 130 15 = gI σ 4 9 ∧ gI σ 130 16 = 0
theorem ck_kind : (st0 6000 (sg0 0 (fun _ => 0))).map (fun σ => allB (fun i => ckKind σ (4 + i)) 165) = some true := by decide +kernel
theorem ck_tab : (st0 6000 (sg0 0 (fun _ => 0))).map (fun σ => decide (kTab σ ∧ kWts σ ∧ kBil σ)) = some true := by decide +kernel
theorem ck_led : (st0 6000 (sg0 0 (fun _ => 0))).map (fun σ => decide (kLed σ ∧ kPrg σ ∧ kLst σ ∧ kMis σ)) = some true := by decide +kernel
theorem ck_tap : (st0 6000 (sg0 0 (fun _ => 0))).map (fun σ => decide (kTap σ)) = some true := by decide +kernel
theorem ck_act0 : (st0 6000 (sg0 0 (fun _ => 0))).map (fun σ => decide (kAct σ 0)) = some true := by decide +kernel
theorem ck_act1 : (st0 6000 (sg0 0 (fun _ => 0))).map (fun σ => decide (kAct σ 1)) = some true := by decide +kernel
theorem ck_act2 : (st0 6000 (sg0 0 (fun _ => 0))).map (fun σ => decide (kAct σ 2)) = some true := by decide +kernel
theorem ck_act3 : (st0 6000 (sg0 0 (fun _ => 0))).map (fun σ => decide (kAct σ 3)) = some true := by decide +kernel
theorem ck_69 : (st0 6000 (sg0 0 (fun _ => 0))).map (fun σ => Nat.beq (gR σ 69 0) 70 && Nat.beq (gR σ 69 1) 71 && Nat.beq (gR σ 69 2) 72 && Nat.beq (gR σ 69 3) 73) = some true := by decide +kernel
end START
