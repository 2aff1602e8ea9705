def KT : List (Nat × Nat) := [(10, 10), (7, 4), (13, 8), (13, 8), (18, 4), (13, 8), (13, 8), (13, 8), (13, 8), (13, 4), (0, 2), (13, 12), (3, 2), (14, 8), (16, 4), (17, 6), (4, 11), (0, 2), (13, 12), (3, 2), (14, 8), (6, 7), (14, 8), (13, 8), (14, 8), (14, 8), (14, 8), (15, 8), (14, 12), (9, 4), (4, 11), (0, 2), (13, 12), (3, 2), (14, 8), (6, 7), (14, 8), (13, 8), (14, 8), (14, 8), (14, 8), (15, 8), (14, 12), (4, 11), (0, 2), (13, 12), (3, 2), (14, 8), (6, 7), (14, 8), (13, 8), (14, 8), (14, 8), (14, 8), (15, 8), (14, 12), (2, 4), (3, 2), (14, 8), (6, 7), (14, 8), (13, 8), (14, 8), (12, 8), (13, 6), (1, 6), (13, 200), (13, 200), (13, 200), (13, 200), (5, 7), (13, 20), (13, 20), (13, 20), (13, 20), (5, 7), (13, 20), (13, 20), (13, 20), (13, 20), (5, 7), (13, 20), (13, 20), (13, 20), (13, 20), (5, 7), (13, 20), (13, 20), (13, 20), (13, 20), (8, 7), (14, 64), (3, 2), (14, 8), (14, 4), (14, 4), (8, 7), (14, 64), (3, 2), (14, 8), (14, 4), (14, 4), (8, 7), (14, 64), (3, 2), (14, 8), (14, 4), (14, 4), (8, 7), (14, 64), (3, 2), (14, 8), (14, 4), (14, 4), (8, 7), (14, 64), (3, 2), (14, 8), (14, 4), (14, 4), (8, 7), (14, 64), (3, 2), (14, 8), (14, 4), (14, 4), (11, 52), (13, 8), (13, 8), (13, 12), (13, 4), (13, 32), (13, 4), (13, 80), (13, 80), (13, 80), (13, 80), (13, 12), (14, 16), (14, 16), (14, 16), (14, 24), (14, 16), (14, 8), (14, 8), (15, 16), (13, 6), (13, 6), (14, 384), (13, 6), (13, 6), (14, 48), (14, 24), (14, 24), (14, 8), (14, 8), (12, 8), (12, 8), (13, 6), (14, 12), (14, 200), (14, 200), (15, 200), (14, 64), (14, 1)]
def RT : List (List Nat) := [[5, 14, 16, 18, 19, 20, 33, 69, 0, 0], [6, 7, 8, 13], [], [], [9, 10, 11, 12], [], [], [], [], [], [15, 0], [], [17, 0], [], [74, 79, 84, 89], [94, 100, 106, 112, 118, 124], [21, 23, 25, 29, 30, 31, 32, 0, 0, 0, 0], [22, 0], [], [24, 0], [], [26, 0, 27, 28, 0, 0, 0], [], [], [], [], [], [], [], [34, 47, 60, 68], [35, 37, 39, 43, 44, 45, 46, 0, 0, 0, 0], [36, 0], [], [38, 0], [], [40, 0, 41, 42, 0, 0, 0], [], [], [], [], [], [], [], [48, 50, 52, 56, 57, 58, 59, 0, 0, 0, 0], [49, 0], [], [51, 0], [], [53, 0, 54, 55, 0, 0, 0], [], [], [], [], [], [], [], [61, 63, 67, 0], [62, 0], [], [64, 0, 65, 66, 0, 0, 0], [], [], [], [], [], [70, 71, 72, 73, 0, 0], [], [], [], [], [75, 76, 77, 78, 0, 0, 0], [], [], [], [], [80, 81, 82, 83, 0, 0, 0], [], [], [], [], [85, 86, 87, 88, 0, 0, 0], [], [], [], [], [90, 91, 92, 93, 0, 0, 0], [], [], [], [], [0, 95, 96, 98, 99, 0, 0], [], [97, 0], [], [], [], [0, 101, 102, 104, 105, 0, 0], [], [103, 0], [], [], [], [0, 107, 108, 110, 111, 0, 0], [], [109, 0], [], [], [], [0, 113, 114, 116, 117, 0, 0], [], [115, 0], [], [], [], [0, 119, 120, 122, 123, 0, 0], [], [121, 0], [], [], [], [0, 125, 126, 128, 129, 0, 0], [], [127, 0], [], [], [], [0, 131, 132, 0, 133, 134, 135, 0, 136, 137, 138, 139, 140, 0, 0, 0, 0, 0, 141, 142, 143, 144, 145, 146, 147, 148, 149, 0, 0, 0, 0, 0, 0, 150, 151, 152, 153, 154, 155, 156, 157, 158, 159, 160, 161, 0, 162, 163, 164, 165, 166, 167], [], [], [], [], [], [], [], [], [], [], [], [], [], [], [], [], [], [], [], [], [], [], [], [], [], [], [], [], [], [], [], [], [], [], [], [], [], []]
def kt (a : Nat) : Nat × Nat := KT.getD (a - 4) (0, 0)
def rt (a k : Nat) : Nat := (RT.getD (a - 4) []).getD k 0
/-- the heap's layout behind the two constructors -/
def Lay (σ : Sg) : Prop := 169 ≤ sN σ ∧ (∀ a, 4 ≤ a → a < 169 → sK σ a = kt a) ∧ (∀ a k, 4 ≤ a → a < 169 → a ≠ 69 → k < 64 → gR σ a k = rt a k) ∧ (gR σ 69 0 = 70 ∧ gR σ 69 1 = 71 ∧ ((gR σ 69 2 = 72 ∧ gR σ 69 3 = 73) ∨ (gR σ 69 2 = 73 ∧ gR σ 69 3 = 72))) ∧ (∀ a, 1 ≤ a → a < 4 → sK σ a = (13, 13))
def Mod (lo hi : Nat) (σ τ : Sg) : Prop := ∀ a, ¬ (lo ≤ a ∧ a < hi) → gI τ a = gI σ a ∧ gJ τ a = gJ σ a ∧ gD τ a = gD σ a
/-- from σ to τ only cells of lo .. hi - 1 have changed, and no reference -/
def To (lo hi : Nat) (σ τ : Sg) : Prop := Lay τ ∧ (sN τ = sN σ ∧ sZ τ = sZ σ ∧ sK τ = sK σ ∧ gR τ = gR σ) ∧ Mod lo hi σ τ
abbrev ix (i : Int32) (m : Nat) : Prop := ¬ (i < 0 ∨ m ≤ i.toNatClampNeg)
abbrev cx (m : Nat) (i : Int32) (m2 : Nat) (j n : Int32) : Prop := (¬ i < 0 ∧ ¬ j < 0 ∧ ¬ n < 0) ∧ i.toNatClampNeg + n.toNatClampNeg ≤ m ∧ j.toNatClampNeg + n.toNatClampNeg ≤ m2
abbrev Ar (t m a : Nat) : Prop := 4 ≤ a ∧ a < 169 ∧ kt a = (t, m)
theorem ixl {i : Int32} {m : Nat} (h : ix i m) : i.toNatClampNeg < m := by
  by_cases q : m ≤ i.toNatClampNeg
  · exact absurd (Or.inr q) h
  · omega
section LAYS
variable {σ : Sg} {i : Int32} {t m a v : Nat}
theorem okA_iff (h : Lay σ) (ha : Ar t m a) : okA σ a t i ↔ ix i m := by
  have e := h.2.1 a ha.1 ha.2.1
  rw [ha.2.2] at e
  unfold okA
  rw [e]
  constructor
  · intro q; exact q.2.2
  · intro q; exact ⟨by have := h.1; have := ha.2.1; omega, rfl, q⟩
theorem okW_iff (h : Lay σ) (ha : Ar t m a) : okW σ a t i ↔ ix i m := by
  unfold okW
  rw [okA_iff h ha]
  exact ⟨fun q => q.2, fun q => ⟨ha.1, q⟩⟩
theorem okA_old (h : Lay σ) (ha : 1 ≤ a ∧ a < 4) : okA σ a 13 i ↔ ix i 13 := by
  unfold okA
  rw [h.2.2.2.2 a ha.1 ha.2]
  exact ⟨fun q => q.2.2, fun q => ⟨by have := h.1; omega, rfl, q⟩⟩
theorem okC_iff {j n : Int32} {b m2 : Nat} (h : Lay σ) (ha : Ar t m a) (hb : Ar t m2 b) : okC σ t a i b j n ↔ cx m i m2 j n := by
  have e := h.2.1 a ha.1 ha.2.1
  rw [ha.2.2] at e
  have e2 := h.2.1 b hb.1 hb.2.1
  rw [hb.2.2] at e2
  unfold okC
  rw [e, e2]
  have h1 := h.1
  have h2 := ha.2.1
  have h3 := hb.2.1
  exact ⟨fun q => ⟨q.2.2.1, q.2.2.2⟩, fun q => ⟨⟨ha.1, by omega, rfl⟩, ⟨hb.1, by omega, rfl⟩, q.1, q.2⟩⟩
theorem lobj {c : Nat} (h : Lay σ) (h4 : 4 ≤ a) (ha : a < 169) (hk : (kt a).1 = c) : okO σ a c := by
  refine ⟨h4, by have := h.1; omega, ?_⟩
  rw [h.2.1 a h4 ha]; exact hk
abbrev O0 (v : Nat) : Prop := v = 14 ∨ v = 21 ∨ v = 35 ∨ v = 48
abbrev O3 (v : Nat) : Prop := v = 16 ∨ v = 23 ∨ v = 37 ∨ v = 50 ∨ v = 61 ∨ v = 96 ∨ v = 102 ∨ v = 108 ∨ v = 114 ∨ v = 120 ∨ v = 126
abbrev O4 (v : Nat) : Prop := v = 20 ∨ v = 34 ∨ v = 47
abbrev O6 (v : Nat) : Prop := v = 25 ∨ v = 39 ∨ v = 52 ∨ v = 63
abbrev O5 (v : Nat) : Prop := v = 74 ∨ v = 79 ∨ v = 84 ∨ v = 89
abbrev O8 (v : Nat) : Prop := v = 94 ∨ v = 100 ∨ v = 106 ∨ v = 112 ∨ v = 118 ∨ v = 124
theorem lo0 (h : Lay σ) (hv : O0 v) : okO σ v 0 := by
  rcases hv with rfl|rfl|rfl|rfl <;> exact lobj h (by decide) (by decide) (by decide)
theorem lr0_0 (h : Lay σ) (hv : O0 v) : gR σ v 0 = v + 1 := by
  rcases hv with rfl|rfl|rfl|rfl <;> exact h.2.2.1 _ 0 (by decide) (by decide) (by decide) (by decide)
theorem ln0_0 (h : Lay σ) (hv : O0 v) : ¬ gR σ v 0 = 0 := by rw [lr0_0 h hv]; omega
theorem ar0_0 (hv : O0 v) : Ar 13 12 (v + 1) := by
  rcases hv with rfl|rfl|rfl|rfl <;> decide
theorem lo1 (h : Lay σ) : okO σ 69 1 := lobj h (by decide) (by decide) (by decide)
theorem lo2 (h : Lay σ) : okO σ 60 2 := lobj h (by decide) (by decide) (by decide)
theorem lr2_0 (h : Lay σ) : gR σ 60 0 = 61 := h.2.2.1 60 0 (by decide) (by decide) (by decide) (by decide)
theorem ln2_0 (h : Lay σ) : ¬ gR σ 60 0 = 0 := by rw [lr2_0 h]; decide
theorem lr2_1 (h : Lay σ) : gR σ 60 1 = 63 := h.2.2.1 60 1 (by decide) (by decide) (by decide) (by decide)
theorem ln2_1 (h : Lay σ) : ¬ gR σ 60 1 = 0 := by rw [lr2_1 h]; decide
theorem lr2_2 (h : Lay σ) : gR σ 60 2 = 67 := h.2.2.1 60 2 (by decide) (by decide) (by decide) (by decide)
theorem ln2_2 (h : Lay σ) : ¬ gR σ 60 2 = 0 := by rw [lr2_2 h]; decide
theorem lo3 (h : Lay σ) (hv : O3 v) : okO σ v 3 := by
  rcases hv with rfl|rfl|rfl|rfl|rfl|rfl|rfl|rfl|rfl|rfl|rfl <;> exact lobj h (by decide) (by decide) (by decide)
theorem lr3_0 (h : Lay σ) (hv : O3 v) : gR σ v 0 = v + 1 := by
  rcases hv with rfl|rfl|rfl|rfl|rfl|rfl|rfl|rfl|rfl|rfl|rfl <;> exact h.2.2.1 _ 0 (by decide) (by decide) (by decide) (by decide)
theorem ln3_0 (h : Lay σ) (hv : O3 v) : ¬ gR σ v 0 = 0 := by rw [lr3_0 h hv]; omega
theorem ar3_0 (hv : O3 v) : Ar 14 8 (v + 1) := by
  rcases hv with rfl|rfl|rfl|rfl|rfl|rfl|rfl|rfl|rfl|rfl|rfl <;> decide
theorem lo4 (h : Lay σ) (hv : O4 v) : okO σ v 4 := by
  rcases hv with rfl|rfl|rfl <;> exact lobj h (by decide) (by decide) (by decide)
theorem lr4_0 (h : Lay σ) (hv : O4 v) : gR σ v 0 = v + 1 := by
  rcases hv with rfl|rfl|rfl <;> exact h.2.2.1 _ 0 (by decide) (by decide) (by decide) (by decide)
theorem ln4_0 (h : Lay σ) (hv : O4 v) : ¬ gR σ v 0 = 0 := by rw [lr4_0 h hv]; omega
theorem o4_0 (hv : O4 v) : O0 (v + 1) := by
  rcases hv with rfl|rfl|rfl <;> decide
theorem lr4_1 (h : Lay σ) (hv : O4 v) : gR σ v 1 = v + 3 := by
  rcases hv with rfl|rfl|rfl <;> exact h.2.2.1 _ 1 (by decide) (by decide) (by decide) (by decide)
theorem ln4_1 (h : Lay σ) (hv : O4 v) : ¬ gR σ v 1 = 0 := by rw [lr4_1 h hv]; omega
theorem o4_1 (hv : O4 v) : O3 (v + 3) := by
  rcases hv with rfl|rfl|rfl <;> decide
theorem lr4_2 (h : Lay σ) (hv : O4 v) : gR σ v 2 = v + 5 := by
  rcases hv with rfl|rfl|rfl <;> exact h.2.2.1 _ 2 (by decide) (by decide) (by decide) (by decide)
theorem ln4_2 (h : Lay σ) (hv : O4 v) : ¬ gR σ v 2 = 0 := by rw [lr4_2 h hv]; omega
theorem o4_2 (hv : O4 v) : O6 (v + 5) := by
  rcases hv with rfl|rfl|rfl <;> decide
theorem lr4_3 (h : Lay σ) (hv : O4 v) : gR σ v 3 = v + 9 := by
  rcases hv with rfl|rfl|rfl <;> exact h.2.2.1 _ 3 (by decide) (by decide) (by decide) (by decide)
theorem ln4_3 (h : Lay σ) (hv : O4 v) : ¬ gR σ v 3 = 0 := by rw [lr4_3 h hv]; omega
theorem ar4_3 (hv : O4 v) : Ar 14 8 (v + 9) := by
  rcases hv with rfl|rfl|rfl <;> decide
theorem lr4_4 (h : Lay σ) (hv : O4 v) : gR σ v 4 = v + 10 := by
  rcases hv with rfl|rfl|rfl <;> exact h.2.2.1 _ 4 (by decide) (by decide) (by decide) (by decide)
theorem ln4_4 (h : Lay σ) (hv : O4 v) : ¬ gR σ v 4 = 0 := by rw [lr4_4 h hv]; omega
theorem ar4_4 (hv : O4 v) : Ar 14 8 (v + 10) := by
  rcases hv with rfl|rfl|rfl <;> decide
theorem lr4_5 (h : Lay σ) (hv : O4 v) : gR σ v 5 = v + 11 := by
  rcases hv with rfl|rfl|rfl <;> exact h.2.2.1 _ 5 (by decide) (by decide) (by decide) (by decide)
theorem ln4_5 (h : Lay σ) (hv : O4 v) : ¬ gR σ v 5 = 0 := by rw [lr4_5 h hv]; omega
theorem ar4_5 (hv : O4 v) : Ar 15 8 (v + 11) := by
  rcases hv with rfl|rfl|rfl <;> decide
theorem lr4_6 (h : Lay σ) (hv : O4 v) : gR σ v 6 = v + 12 := by
  rcases hv with rfl|rfl|rfl <;> exact h.2.2.1 _ 6 (by decide) (by decide) (by decide) (by decide)
theorem ln4_6 (h : Lay σ) (hv : O4 v) : ¬ gR σ v 6 = 0 := by rw [lr4_6 h hv]; omega
theorem ar4_6 (hv : O4 v) : Ar 14 12 (v + 12) := by
  rcases hv with rfl|rfl|rfl <;> decide
theorem lo5 (h : Lay σ) (hv : O5 v) : okO σ v 5 := by
  rcases hv with rfl|rfl|rfl|rfl <;> exact lobj h (by decide) (by decide) (by decide)
theorem lr5_0 (h : Lay σ) (hv : O5 v) : gR σ v 0 = v + 1 := by
  rcases hv with rfl|rfl|rfl|rfl <;> exact h.2.2.1 _ 0 (by decide) (by decide) (by decide) (by decide)
theorem ln5_0 (h : Lay σ) (hv : O5 v) : ¬ gR σ v 0 = 0 := by rw [lr5_0 h hv]; omega
theorem ar5_0 (hv : O5 v) : Ar 13 20 (v + 1) := by
  rcases hv with rfl|rfl|rfl|rfl <;> decide
theorem lr5_1 (h : Lay σ) (hv : O5 v) : gR σ v 1 = v + 2 := by
  rcases hv with rfl|rfl|rfl|rfl <;> exact h.2.2.1 _ 1 (by decide) (by decide) (by decide) (by decide)
theorem ln5_1 (h : Lay σ) (hv : O5 v) : ¬ gR σ v 1 = 0 := by rw [lr5_1 h hv]; omega
theorem ar5_1 (hv : O5 v) : Ar 13 20 (v + 2) := by
  rcases hv with rfl|rfl|rfl|rfl <;> decide
theorem lr5_2 (h : Lay σ) (hv : O5 v) : gR σ v 2 = v + 3 := by
  rcases hv with rfl|rfl|rfl|rfl <;> exact h.2.2.1 _ 2 (by decide) (by decide) (by decide) (by decide)
theorem ln5_2 (h : Lay σ) (hv : O5 v) : ¬ gR σ v 2 = 0 := by rw [lr5_2 h hv]; omega
theorem ar5_2 (hv : O5 v) : Ar 13 20 (v + 3) := by
  rcases hv with rfl|rfl|rfl|rfl <;> decide
theorem lr5_3 (h : Lay σ) (hv : O5 v) : gR σ v 3 = v + 4 := by
  rcases hv with rfl|rfl|rfl|rfl <;> exact h.2.2.1 _ 3 (by decide) (by decide) (by decide) (by decide)
theorem ln5_3 (h : Lay σ) (hv : O5 v) : ¬ gR σ v 3 = 0 := by rw [lr5_3 h hv]; omega
theorem ar5_3 (hv : O5 v) : Ar 13 20 (v + 4) := by
  rcases hv with rfl|rfl|rfl|rfl <;> decide
theorem lo6 (h : Lay σ) (hv : O6 v) : okO σ v 6 := by
  rcases hv with rfl|rfl|rfl|rfl <;> exact lobj h (by decide) (by decide) (by decide)
theorem lr6_0 (h : Lay σ) (hv : O6 v) : gR σ v 0 = v + 1 := by
  rcases hv with rfl|rfl|rfl|rfl <;> exact h.2.2.1 _ 0 (by decide) (by decide) (by decide) (by decide)
theorem ln6_0 (h : Lay σ) (hv : O6 v) : ¬ gR σ v 0 = 0 := by rw [lr6_0 h hv]; omega
theorem ar6_0 (hv : O6 v) : Ar 14 8 (v + 1) := by
  rcases hv with rfl|rfl|rfl|rfl <;> decide
theorem lr6_2 (h : Lay σ) (hv : O6 v) : gR σ v 2 = v + 2 := by
  rcases hv with rfl|rfl|rfl|rfl <;> exact h.2.2.1 _ 2 (by decide) (by decide) (by decide) (by decide)
theorem ln6_2 (h : Lay σ) (hv : O6 v) : ¬ gR σ v 2 = 0 := by rw [lr6_2 h hv]; omega
theorem ar6_2 (hv : O6 v) : Ar 13 8 (v + 2) := by
  rcases hv with rfl|rfl|rfl|rfl <;> decide
theorem lr6_3 (h : Lay σ) (hv : O6 v) : gR σ v 3 = v + 3 := by
  rcases hv with rfl|rfl|rfl|rfl <;> exact h.2.2.1 _ 3 (by decide) (by decide) (by decide) (by decide)
theorem ln6_3 (h : Lay σ) (hv : O6 v) : ¬ gR σ v 3 = 0 := by rw [lr6_3 h hv]; omega
theorem ar6_3 (hv : O6 v) : Ar 14 8 (v + 3) := by
  rcases hv with rfl|rfl|rfl|rfl <;> decide
theorem lo7 (h : Lay σ) : okO σ 5 7 := lobj h (by decide) (by decide) (by decide)
theorem lr7_0 (h : Lay σ) : gR σ 5 0 = 6 := h.2.2.1 5 0 (by decide) (by decide) (by decide) (by decide)
theorem ln7_0 (h : Lay σ) : ¬ gR σ 5 0 = 0 := by rw [lr7_0 h]; decide
theorem lr7_1 (h : Lay σ) : gR σ 5 1 = 7 := h.2.2.1 5 1 (by decide) (by decide) (by decide) (by decide)
theorem ln7_1 (h : Lay σ) : ¬ gR σ 5 1 = 0 := by rw [lr7_1 h]; decide
theorem lr7_2 (h : Lay σ) : gR σ 5 2 = 8 := h.2.2.1 5 2 (by decide) (by decide) (by decide) (by decide)
theorem ln7_2 (h : Lay σ) : ¬ gR σ 5 2 = 0 := by rw [lr7_2 h]; decide
theorem lr7_3 (h : Lay σ) : gR σ 5 3 = 13 := h.2.2.1 5 3 (by decide) (by decide) (by decide) (by decide)
theorem ln7_3 (h : Lay σ) : ¬ gR σ 5 3 = 0 := by rw [lr7_3 h]; decide
theorem lo8 (h : Lay σ) (hv : O8 v) : okO σ v 8 := by
  rcases hv with rfl|rfl|rfl|rfl|rfl|rfl <;> exact lobj h (by decide) (by decide) (by decide)
theorem lr8_1 (h : Lay σ) (hv : O8 v) : gR σ v 1 = v + 1 := by
  rcases hv with rfl|rfl|rfl|rfl|rfl|rfl <;> exact h.2.2.1 _ 1 (by decide) (by decide) (by decide) (by decide)
theorem ln8_1 (h : Lay σ) (hv : O8 v) : ¬ gR σ v 1 = 0 := by rw [lr8_1 h hv]; omega
theorem ar8_1 (hv : O8 v) : Ar 14 64 (v + 1) := by
  rcases hv with rfl|rfl|rfl|rfl|rfl|rfl <;> decide
theorem lr8_2 (h : Lay σ) (hv : O8 v) : gR σ v 2 = v + 2 := by
  rcases hv with rfl|rfl|rfl|rfl|rfl|rfl <;> exact h.2.2.1 _ 2 (by decide) (by decide) (by decide) (by decide)
theorem ln8_2 (h : Lay σ) (hv : O8 v) : ¬ gR σ v 2 = 0 := by rw [lr8_2 h hv]; omega
theorem o8_2 (hv : O8 v) : O3 (v + 2) := by
  rcases hv with rfl|rfl|rfl|rfl|rfl|rfl <;> decide
theorem lr8_3 (h : Lay σ) (hv : O8 v) : gR σ v 3 = v + 4 := by
  rcases hv with rfl|rfl|rfl|rfl|rfl|rfl <;> exact h.2.2.1 _ 3 (by decide) (by decide) (by decide) (by decide)
theorem ln8_3 (h : Lay σ) (hv : O8 v) : ¬ gR σ v 3 = 0 := by rw [lr8_3 h hv]; omega
theorem ar8_3 (hv : O8 v) : Ar 14 4 (v + 4) := by
  rcases hv with rfl|rfl|rfl|rfl|rfl|rfl <;> decide
theorem lr8_4 (h : Lay σ) (hv : O8 v) : gR σ v 4 = v + 5 := by
  rcases hv with rfl|rfl|rfl|rfl|rfl|rfl <;> exact h.2.2.1 _ 4 (by decide) (by decide) (by decide) (by decide)
theorem ln8_4 (h : Lay σ) (hv : O8 v) : ¬ gR σ v 4 = 0 := by rw [lr8_4 h hv]; omega
theorem ar8_4 (hv : O8 v) : Ar 14 4 (v + 5) := by
  rcases hv with rfl|rfl|rfl|rfl|rfl|rfl <;> decide
theorem lo9 (h : Lay σ) : okO σ 33 9 := lobj h (by decide) (by decide) (by decide)
theorem lr9_0 (h : Lay σ) : gR σ 33 0 = 34 := h.2.2.1 33 0 (by decide) (by decide) (by decide) (by decide)
theorem ln9_0 (h : Lay σ) : ¬ gR σ 33 0 = 0 := by rw [lr9_0 h]; decide
theorem lr9_1 (h : Lay σ) : gR σ 33 1 = 47 := h.2.2.1 33 1 (by decide) (by decide) (by decide) (by decide)
theorem ln9_1 (h : Lay σ) : ¬ gR σ 33 1 = 0 := by rw [lr9_1 h]; decide
theorem lr9_2 (h : Lay σ) : gR σ 33 2 = 60 := h.2.2.1 33 2 (by decide) (by decide) (by decide) (by decide)
theorem ln9_2 (h : Lay σ) : ¬ gR σ 33 2 = 0 := by rw [lr9_2 h]; decide
theorem lr9_3 (h : Lay σ) : gR σ 33 3 = 68 := h.2.2.1 33 3 (by decide) (by decide) (by decide) (by decide)
theorem ln9_3 (h : Lay σ) : ¬ gR σ 33 3 = 0 := by rw [lr9_3 h]; decide
theorem lo10 (h : Lay σ) : okO σ 4 10 := lobj h (by decide) (by decide) (by decide)
theorem lr10_0 (h : Lay σ) : gR σ 4 0 = 5 := h.2.2.1 4 0 (by decide) (by decide) (by decide) (by decide)
theorem ln10_0 (h : Lay σ) : ¬ gR σ 4 0 = 0 := by rw [lr10_0 h]; decide
theorem lr10_1 (h : Lay σ) : gR σ 4 1 = 14 := h.2.2.1 4 1 (by decide) (by decide) (by decide) (by decide)
theorem ln10_1 (h : Lay σ) : ¬ gR σ 4 1 = 0 := by rw [lr10_1 h]; decide
theorem lr10_2 (h : Lay σ) : gR σ 4 2 = 16 := h.2.2.1 4 2 (by decide) (by decide) (by decide) (by decide)
theorem ln10_2 (h : Lay σ) : ¬ gR σ 4 2 = 0 := by rw [lr10_2 h]; decide
theorem lr10_3 (h : Lay σ) : gR σ 4 3 = 18 := h.2.2.1 4 3 (by decide) (by decide) (by decide) (by decide)
theorem ln10_3 (h : Lay σ) : ¬ gR σ 4 3 = 0 := by rw [lr10_3 h]; decide
theorem lr10_4 (h : Lay σ) : gR σ 4 4 = 19 := h.2.2.1 4 4 (by decide) (by decide) (by decide) (by decide)
theorem ln10_4 (h : Lay σ) : ¬ gR σ 4 4 = 0 := by rw [lr10_4 h]; decide
theorem lr10_5 (h : Lay σ) : gR σ 4 5 = 20 := h.2.2.1 4 5 (by decide) (by decide) (by decide) (by decide)
theorem ln10_5 (h : Lay σ) : ¬ gR σ 4 5 = 0 := by rw [lr10_5 h]; decide
theorem lr10_6 (h : Lay σ) : gR σ 4 6 = 33 := h.2.2.1 4 6 (by decide) (by decide) (by decide) (by decide)
theorem ln10_6 (h : Lay σ) : ¬ gR σ 4 6 = 0 := by rw [lr10_6 h]; decide
theorem lr10_7 (h : Lay σ) : gR σ 4 7 = 69 := h.2.2.1 4 7 (by decide) (by decide) (by decide) (by decide)
theorem ln10_7 (h : Lay σ) : ¬ gR σ 4 7 = 0 := by rw [lr10_7 h]; decide
theorem lo11 (h : Lay σ) : okO σ 130 11 := lobj h (by decide) (by decide) (by decide)
theorem lr11_1 (h : Lay σ) : gR σ 130 1 = 131 := h.2.2.1 130 1 (by decide) (by decide) (by decide) (by decide)
theorem ln11_1 (h : Lay σ) : ¬ gR σ 130 1 = 0 := by rw [lr11_1 h]; decide
theorem lr11_2 (h : Lay σ) : gR σ 130 2 = 132 := h.2.2.1 130 2 (by decide) (by decide) (by decide) (by decide)
theorem ln11_2 (h : Lay σ) : ¬ gR σ 130 2 = 0 := by rw [lr11_2 h]; decide
theorem lr11_4 (h : Lay σ) : gR σ 130 4 = 133 := h.2.2.1 130 4 (by decide) (by decide) (by decide) (by decide)
theorem ln11_4 (h : Lay σ) : ¬ gR σ 130 4 = 0 := by rw [lr11_4 h]; decide
theorem lr11_5 (h : Lay σ) : gR σ 130 5 = 134 := h.2.2.1 130 5 (by decide) (by decide) (by decide) (by decide)
theorem ln11_5 (h : Lay σ) : ¬ gR σ 130 5 = 0 := by rw [lr11_5 h]; decide
theorem lr11_6 (h : Lay σ) : gR σ 130 6 = 135 := h.2.2.1 130 6 (by decide) (by decide) (by decide) (by decide)
theorem ln11_6 (h : Lay σ) : ¬ gR σ 130 6 = 0 := by rw [lr11_6 h]; decide
theorem lr11_8 (h : Lay σ) : gR σ 130 8 = 136 := h.2.2.1 130 8 (by decide) (by decide) (by decide) (by decide)
theorem ln11_8 (h : Lay σ) : ¬ gR σ 130 8 = 0 := by rw [lr11_8 h]; decide
theorem lr11_9 (h : Lay σ) : gR σ 130 9 = 137 := h.2.2.1 130 9 (by decide) (by decide) (by decide) (by decide)
theorem ln11_9 (h : Lay σ) : ¬ gR σ 130 9 = 0 := by rw [lr11_9 h]; decide
theorem lr11_10 (h : Lay σ) : gR σ 130 10 = 138 := h.2.2.1 130 10 (by decide) (by decide) (by decide) (by decide)
theorem ln11_10 (h : Lay σ) : ¬ gR σ 130 10 = 0 := by rw [lr11_10 h]; decide
theorem lr11_11 (h : Lay σ) : gR σ 130 11 = 139 := h.2.2.1 130 11 (by decide) (by decide) (by decide) (by decide)
theorem ln11_11 (h : Lay σ) : ¬ gR σ 130 11 = 0 := by rw [lr11_11 h]; decide
theorem lr11_12 (h : Lay σ) : gR σ 130 12 = 140 := h.2.2.1 130 12 (by decide) (by decide) (by decide) (by decide)
theorem ln11_12 (h : Lay σ) : ¬ gR σ 130 12 = 0 := by rw [lr11_12 h]; decide
theorem lr11_18 (h : Lay σ) : gR σ 130 18 = 141 := h.2.2.1 130 18 (by decide) (by decide) (by decide) (by decide)
theorem ln11_18 (h : Lay σ) : ¬ gR σ 130 18 = 0 := by rw [lr11_18 h]; decide
theorem lr11_19 (h : Lay σ) : gR σ 130 19 = 142 := h.2.2.1 130 19 (by decide) (by decide) (by decide) (by decide)
theorem ln11_19 (h : Lay σ) : ¬ gR σ 130 19 = 0 := by rw [lr11_19 h]; decide
theorem lr11_20 (h : Lay σ) : gR σ 130 20 = 143 := h.2.2.1 130 20 (by decide) (by decide) (by decide) (by decide)
theorem ln11_20 (h : Lay σ) : ¬ gR σ 130 20 = 0 := by rw [lr11_20 h]; decide
theorem lr11_21 (h : Lay σ) : gR σ 130 21 = 144 := h.2.2.1 130 21 (by decide) (by decide) (by decide) (by decide)
theorem ln11_21 (h : Lay σ) : ¬ gR σ 130 21 = 0 := by rw [lr11_21 h]; decide
theorem lr11_22 (h : Lay σ) : gR σ 130 22 = 145 := h.2.2.1 130 22 (by decide) (by decide) (by decide) (by decide)
theorem ln11_22 (h : Lay σ) : ¬ gR σ 130 22 = 0 := by rw [lr11_22 h]; decide
theorem lr11_23 (h : Lay σ) : gR σ 130 23 = 146 := h.2.2.1 130 23 (by decide) (by decide) (by decide) (by decide)
theorem ln11_23 (h : Lay σ) : ¬ gR σ 130 23 = 0 := by rw [lr11_23 h]; decide
theorem lr11_24 (h : Lay σ) : gR σ 130 24 = 147 := h.2.2.1 130 24 (by decide) (by decide) (by decide) (by decide)
theorem ln11_24 (h : Lay σ) : ¬ gR σ 130 24 = 0 := by rw [lr11_24 h]; decide
theorem lr11_25 (h : Lay σ) : gR σ 130 25 = 148 := h.2.2.1 130 25 (by decide) (by decide) (by decide) (by decide)
theorem ln11_25 (h : Lay σ) : ¬ gR σ 130 25 = 0 := by rw [lr11_25 h]; decide
theorem lr11_26 (h : Lay σ) : gR σ 130 26 = 149 := h.2.2.1 130 26 (by decide) (by decide) (by decide) (by decide)
theorem ln11_26 (h : Lay σ) : ¬ gR σ 130 26 = 0 := by rw [lr11_26 h]; decide
theorem lr11_33 (h : Lay σ) : gR σ 130 33 = 150 := h.2.2.1 130 33 (by decide) (by decide) (by decide) (by decide)
theorem ln11_33 (h : Lay σ) : ¬ gR σ 130 33 = 0 := by rw [lr11_33 h]; decide
theorem lr11_34 (h : Lay σ) : gR σ 130 34 = 151 := h.2.2.1 130 34 (by decide) (by decide) (by decide) (by decide)
theorem ln11_34 (h : Lay σ) : ¬ gR σ 130 34 = 0 := by rw [lr11_34 h]; decide
theorem lr11_35 (h : Lay σ) : gR σ 130 35 = 152 := h.2.2.1 130 35 (by decide) (by decide) (by decide) (by decide)
theorem ln11_35 (h : Lay σ) : ¬ gR σ 130 35 = 0 := by rw [lr11_35 h]; decide
theorem lr11_36 (h : Lay σ) : gR σ 130 36 = 153 := h.2.2.1 130 36 (by decide) (by decide) (by decide) (by decide)
theorem ln11_36 (h : Lay σ) : ¬ gR σ 130 36 = 0 := by rw [lr11_36 h]; decide
theorem lr11_37 (h : Lay σ) : gR σ 130 37 = 154 := h.2.2.1 130 37 (by decide) (by decide) (by decide) (by decide)
theorem ln11_37 (h : Lay σ) : ¬ gR σ 130 37 = 0 := by rw [lr11_37 h]; decide
theorem lr11_38 (h : Lay σ) : gR σ 130 38 = 155 := h.2.2.1 130 38 (by decide) (by decide) (by decide) (by decide)
theorem ln11_38 (h : Lay σ) : ¬ gR σ 130 38 = 0 := by rw [lr11_38 h]; decide
theorem lr11_39 (h : Lay σ) : gR σ 130 39 = 156 := h.2.2.1 130 39 (by decide) (by decide) (by decide) (by decide)
theorem ln11_39 (h : Lay σ) : ¬ gR σ 130 39 = 0 := by rw [lr11_39 h]; decide
theorem lr11_40 (h : Lay σ) : gR σ 130 40 = 157 := h.2.2.1 130 40 (by decide) (by decide) (by decide) (by decide)
theorem ln11_40 (h : Lay σ) : ¬ gR σ 130 40 = 0 := by rw [lr11_40 h]; decide
theorem lr11_41 (h : Lay σ) : gR σ 130 41 = 158 := h.2.2.1 130 41 (by decide) (by decide) (by decide) (by decide)
theorem ln11_41 (h : Lay σ) : ¬ gR σ 130 41 = 0 := by rw [lr11_41 h]; decide
theorem lr11_42 (h : Lay σ) : gR σ 130 42 = 159 := h.2.2.1 130 42 (by decide) (by decide) (by decide) (by decide)
theorem ln11_42 (h : Lay σ) : ¬ gR σ 130 42 = 0 := by rw [lr11_42 h]; decide
theorem lr11_43 (h : Lay σ) : gR σ 130 43 = 160 := h.2.2.1 130 43 (by decide) (by decide) (by decide) (by decide)
theorem ln11_43 (h : Lay σ) : ¬ gR σ 130 43 = 0 := by rw [lr11_43 h]; decide
theorem lr11_44 (h : Lay σ) : gR σ 130 44 = 161 := h.2.2.1 130 44 (by decide) (by decide) (by decide) (by decide)
theorem ln11_44 (h : Lay σ) : ¬ gR σ 130 44 = 0 := by rw [lr11_44 h]; decide
theorem lr11_46 (h : Lay σ) : gR σ 130 46 = 162 := h.2.2.1 130 46 (by decide) (by decide) (by decide) (by decide)
theorem ln11_46 (h : Lay σ) : ¬ gR σ 130 46 = 0 := by rw [lr11_46 h]; decide
theorem lr11_47 (h : Lay σ) : gR σ 130 47 = 163 := h.2.2.1 130 47 (by decide) (by decide) (by decide) (by decide)
theorem ln11_47 (h : Lay σ) : ¬ gR σ 130 47 = 0 := by rw [lr11_47 h]; decide
theorem lr11_48 (h : Lay σ) : gR σ 130 48 = 164 := h.2.2.1 130 48 (by decide) (by decide) (by decide) (by decide)
theorem ln11_48 (h : Lay σ) : ¬ gR σ 130 48 = 0 := by rw [lr11_48 h]; decide
theorem lr11_49 (h : Lay σ) : gR σ 130 49 = 165 := h.2.2.1 130 49 (by decide) (by decide) (by decide) (by decide)
theorem ln11_49 (h : Lay σ) : ¬ gR σ 130 49 = 0 := by rw [lr11_49 h]; decide
theorem lr11_50 (h : Lay σ) : gR σ 130 50 = 166 := h.2.2.1 130 50 (by decide) (by decide) (by decide) (by decide)
theorem ln11_50 (h : Lay σ) : ¬ gR σ 130 50 = 0 := by rw [lr11_50 h]; decide
theorem lr11_51 (h : Lay σ) : gR σ 130 51 = 167 := h.2.2.1 130 51 (by decide) (by decide) (by decide) (by decide)
theorem ln11_51 (h : Lay σ) : ¬ gR σ 130 51 = 0 := by rw [lr11_51 h]; decide
theorem e5 {i : Nat} (hi : i < 4) : O5 (5 * i + 74) := by omega
theorem lre16 {i : Nat} (h : Lay σ) (hi : i < 4) : gR σ 18 i = 5 * i + 74 := by
  have e : i = 0 ∨ i = 1 ∨ i = 2 ∨ i = 3 := by omega
  rcases e with rfl|rfl|rfl|rfl <;> exact h.2.2.1 18 _ (by decide) (by decide) (by decide) (by decide)
theorem lne16 {i : Nat} (h : Lay σ) (hi : i < 4) : ¬ gR σ 18 i = 0 := by rw [lre16 h hi]; omega
theorem e8 {i : Nat} (hi : i < 6) : O8 (6 * i + 94) := by omega
theorem lre17 {i : Nat} (h : Lay σ) (hi : i < 6) : gR σ 19 i = 6 * i + 94 := by
  have e : i = 0 ∨ i = 1 ∨ i = 2 ∨ i = 3 ∨ i = 4 ∨ i = 5 := by omega
  rcases e with rfl|rfl|rfl|rfl|rfl|rfl <;> exact h.2.2.1 19 _ (by decide) (by decide) (by decide) (by decide)
theorem lne17 {i : Nat} (h : Lay σ) (hi : i < 6) : ¬ gR σ 19 i = 0 := by rw [lre17 h hi]; omega
theorem e18 {i : Nat} (hi : i < 4) : Ar 13 8 (i + 9) := by
  have e : i = 0 ∨ i = 1 ∨ i = 2 ∨ i = 3 := by omega
  rcases e with rfl|rfl|rfl|rfl <;> decide
theorem lre18 {i : Nat} (h : Lay σ) (hi : i < 4) : gR σ 8 i = i + 9 := by
  have e : i = 0 ∨ i = 1 ∨ i = 2 ∨ i = 3 := by omega
  rcases e with rfl|rfl|rfl|rfl <;> exact h.2.2.1 8 _ (by decide) (by decide) (by decide) (by decide)
theorem lne18 {i : Nat} (h : Lay σ) (hi : i < 4) : ¬ gR σ 8 i = 0 := by rw [lre18 h hi]; omega
end LAYS
section TOS
variable {lo hi a k : Nat} {σ0 σ τ : Sg}
theorem To_refl (h : Lay σ) : To lo hi σ σ := ⟨h, ⟨rfl, rfl, rfl, rfl⟩, fun _ _ => ⟨rfl, rfl, rfl⟩⟩
theorem To_pI {v : Int32} (t : To lo hi σ0 σ) (h : lo ≤ a ∧ a < hi) : To lo hi σ0 (pI σ a k v) :=
  ⟨t.1, t.2.1, fun b hb => ⟨by rw [← (t.2.2 b hb).1]; funext j; exact gI_pI_a (fun e => hb (e ▸ h)), (t.2.2 b hb).2⟩⟩
theorem To_pJ {v : Int64} (t : To lo hi σ0 σ) (h : lo ≤ a ∧ a < hi) : To lo hi σ0 (pJ σ a k v) :=
  ⟨t.1, t.2.1, fun b hb => ⟨(t.2.2 b hb).1, by rw [← (t.2.2 b hb).2.1]; funext j; exact gJ_pJ_a (fun e => hb (e ▸ h)), (t.2.2 b hb).2.2⟩⟩
theorem To_pD {v : UInt64} (t : To lo hi σ0 σ) (h : lo ≤ a ∧ a < hi) : To lo hi σ0 (pD σ a k v) :=
  ⟨t.1, t.2.1, fun b hb => ⟨(t.2.2 b hb).1, (t.2.2 b hb).2.1, by rw [← (t.2.2 b hb).2.2]; funext j; exact gD_pD_a (fun e => hb (e ▸ h))⟩⟩
theorem To_cpJ {sp b dp n : Nat} (t : To lo hi σ0 σ) (h : lo ≤ b ∧ b < hi) : To lo hi σ0 (cpJ σ a sp b dp n) :=
  ⟨t.1, t.2.1, fun c hc => ⟨(t.2.2 c hc).1, by rw [← (t.2.2 c hc).2.1]; funext j; exact if_neg (fun (e : c = b ∧ dp ≤ j ∧ j < dp + n) => hc (e.1 ▸ h)), (t.2.2 c hc).2.2⟩⟩
theorem To_trans (t : To lo hi σ0 σ) (u : To lo hi σ τ) : To lo hi σ0 τ :=
  ⟨u.1, ⟨u.2.1.1.trans t.2.1.1, u.2.1.2.1.trans t.2.1.2.1, u.2.1.2.2.1.trans t.2.1.2.2.1, u.2.1.2.2.2.trans t.2.1.2.2.2⟩, fun b hb =>
    ⟨(u.2.2 b hb).1.trans (t.2.2 b hb).1, (u.2.2 b hb).2.1.trans (t.2.2 b hb).2.1, (u.2.2 b hb).2.2.trans (t.2.2 b hb).2.2⟩⟩
theorem To_mono {lo' hi' : Nat} (t : To lo hi σ0 σ) (h : lo' ≤ lo ∧ hi ≤ hi') : To lo' hi' σ0 σ :=
  ⟨t.1, t.2.1, fun b hb => t.2.2 b (fun q => hb (by omega))⟩
end TOS
def FR {β : Type} (Φ : β → Prop) (x y : Option β) : Prop := x = y ∧ ∀ b, y = some b → Φ b
section FRS
variable {α β : Type} {Φ : β → Prop} {x y x' y' : Option β} {P Q : Prop}
theorem FR_ck [Decidable P] (h : P) (k : FR Φ x y) : FR Φ (ck P x) y := by rw [ck_t h]; exact k
theorem FR_ckI [Decidable P] [Decidable Q] (h : P ↔ Q) (k : Q → FR Φ x y) : FR Φ (ck P x) (ck Q y) := by
  unfold ck
  by_cases q : Q
  · rw [if_pos (h.mpr q), if_pos q]; exact k q
  · rw [if_neg (fun p => q (h.mp p)), if_neg q]; exact ⟨rfl, fun _ e => nomatch e⟩
theorem FR_nmR {v w : α} {f : α → Option β} (e : v = w) (k : FR Φ (f w) y) : FR Φ (nm v f) y := by subst e; exact k
theorem FR_nm {v : α} {f g : α → Option β} (k : ∀ z, FR Φ (f z) (g z)) : FR Φ (nm v f) (nm v g) := k v
theorem FR_nmS {lo hi : Nat} {σ0 σ1 : Sg} {f g : Sg → Option β} (t : To lo hi σ0 σ1) (k : ∀ τ, To lo hi σ0 τ → FR Φ (f τ) (g τ)) : FR Φ (nm σ1 f) (nm σ1 g) := k σ1 t
theorem FR_nmP {u : Option α} {f g : α → Option β} (k : ∀ z, FR Φ (f z) (g z)) : FR Φ (bp u f) (bp u g) := by
  cases u with
  | none => exact ⟨rfl, fun _ e => nomatch e⟩
  | some z => exact k z
theorem FR_bpP {u w : Option α} {f g : α → Option β} (e : u = w) (k : ∀ z, FR Φ (f z) (g z)) : FR Φ (bp u f) (bp w g) := by subst e; exact FR_nmP k
theorem FR_bp {Ψ : α → Prop} {u w : Option α} {f g : α → Option β} (e : FR Ψ u w) (k : ∀ z, Ψ z → FR Φ (f z) (g z)) : FR Φ (bp u f) (bp w g) := by
  obtain ⟨e1, e2⟩ := e
  subst e1
  cases u with
  | none => exact ⟨rfl, fun _ e => nomatch e⟩
  | some z => exact k z (e2 z rfl)
theorem FR_bd {Ψ : α × Sg → Prop} {u w : Option (α × Sg)} {f g : α → Sg → Option β} (e : FR Ψ u w) (k : ∀ z τ, Ψ (z, τ) → FR Φ (f z τ) (g z τ)) : FR Φ (bd u f) (bd w g) := by
  obtain ⟨e1, e2⟩ := e
  subst e1
  cases u with
  | none => exact ⟨rfl, fun _ e => nomatch e⟩
  | some z => obtain ⟨z, τ⟩ := z; exact k z τ (e2 _ rfl)
theorem FR_it [Decidable P] (k : P → FR Φ x y) (k' : ¬ P → FR Φ x' y') : FR Φ (if P then x else x') (if P then y else y') := by
  by_cases q : P
  · rw [if_pos q, if_pos q]; exact k q
  · rw [if_neg q, if_neg q]; exact k' q
theorem FR_none : FR Φ none none := ⟨rfl, fun _ e => nomatch e⟩
theorem FR_some {b : β} (h : Φ b) : FR Φ (some b) (some b) := ⟨rfl, fun c e => by cases e; exact h⟩
theorem FR_triv (x : Option β) : FR (fun _ => True) x x := ⟨rfl, fun _ _ => trivial⟩
end FRS
