/-- row a: j from lo on, below hi, is f j -/
def mI (σ : Sg) (a lo hi : Nat) (f : Nat → Int32) : Sg := (σ.1, (fun b j => if b = a ∧ lo ≤ j ∧ j < hi then f j else σ.2.1 b j), σ.2.2)
/-- row a: j from lo on, below hi, is f j -/
def mJ (σ : Sg) (a lo hi : Nat) (f : Nat → Int64) : Sg := (σ.1, σ.2.1, (fun b j => if b = a ∧ lo ≤ j ∧ j < hi then f j else σ.2.2.1 b j), σ.2.2.2)
/-- row a: j from lo on, below hi, is f j -/
def mD (σ : Sg) (a lo hi : Nat) (f : Nat → UInt64) : Sg := (σ.1, σ.2.1, σ.2.2.1, (fun b j => if b = a ∧ lo ≤ j ∧ j < hi then f j else σ.2.2.2.1 b j), σ.2.2.2.2)
section ROWS
variable {σ σ1 : Sg} {a b k j lo hi l2 h2 : Nat}
theorem gI_mI {f : Nat → Int32} : gI (mI σ a lo hi f) b j = if b = a ∧ lo ≤ j ∧ j < hi then f j else gI σ b j := rfl
theorem gI_mI_i {f : Nat → Int32} (h : lo ≤ j ∧ j < hi) : gI (mI σ a lo hi f) a j = f j := if_pos ⟨rfl, h⟩
theorem gI_mI_o {f : Nat → Int32} (h : ¬ (lo ≤ j ∧ j < hi)) : gI (mI σ a lo hi f) b j = gI σ b j := if_neg (fun q => h q.2)
theorem gI_mI_a {f : Nat → Int32} (h : b ≠ a) : gI (mI σ a lo hi f) b j = gI σ b j := if_neg (fun q => h q.1)
theorem gJ_mI {f : Nat → Int32} : gJ (mI σ a lo hi f) b j = gJ σ b j := rfl
theorem gD_mI {f : Nat → Int32} : gD (mI σ a lo hi f) b j = gD σ b j := rfl
theorem gR_mI {f : Nat → Int32} : gR (mI σ a lo hi f) b j = gR σ b j := rfl
theorem sN_mI {f : Nat → Int32} : sN (mI σ a lo hi f) = sN σ := rfl
theorem sZ_mI {f : Nat → Int32} : sZ (mI σ a lo hi f) = sZ σ := rfl
theorem mI_nil {f : Nat → Int32} (h : hi ≤ lo) : mI σ a lo hi f = σ := by
  have e : (fun b j => if b = a ∧ lo ≤ j ∧ j < hi then f j else σ.2.1 b j) = σ.2.1 := by
    funext b j; exact if_neg (by omega)
  unfold mI; rw [e]
theorem mI_step {f : Nat → Int32} {v : Int32} (h : lo < hi) (e : f lo = v) : mI (pI σ a lo v) a (lo + 1) hi f = mI σ a lo hi f := by
  have q : (fun b j => if b = a ∧ lo + 1 ≤ j ∧ j < hi then f j else (up2 σ.2.1 a lo v) b j) = (fun b j => if b = a ∧ lo ≤ j ∧ j < hi then f j else σ.2.1 b j) := by
    funext b j
    unfold up2
    by_cases h1 : b = a ∧ j = lo
    · rw [if_neg (by omega), if_pos h1, if_pos (by omega), h1.2, e]
    · by_cases h2 : b = a ∧ lo + 1 ≤ j ∧ j < hi
      · rw [if_pos h2, if_pos (by omega)]
      · rw [if_neg h2, if_neg h1, if_neg (by omega)]
  unfold mI pI
  dsimp only
  rw [q]
theorem mI_pI {f : Nat → Int32} {v : Int32} (h : b ≠ a) : mI (pI σ b k v) a lo hi f = pI (mI σ a lo hi f) b k v := by
  have q : (fun c j => if c = a ∧ lo ≤ j ∧ j < hi then f j else (up2 σ.2.1 b k v) c j) = up2 (fun c j => if c = a ∧ lo ≤ j ∧ j < hi then f j else σ.2.1 c j) b k v := by
    funext c j
    unfold up2
    by_cases h1 : c = b ∧ j = k
    · rw [if_neg (by omega), if_pos h1, if_pos h1]
    · rw [if_neg h1, if_neg h1]
  unfold mI pI
  dsimp only
  rw [q]
theorem mI_pJ {f : Nat → Int32} {v : Int64} : mI (pJ σ b k v) a lo hi f = pJ (mI σ a lo hi f) b k v := rfl
theorem mI_pD {f : Nat → Int32} {v : UInt64} : mI (pD σ b k v) a lo hi f = pD (mI σ a lo hi f) b k v := rfl
theorem mI_cong {f g : Nat → Int32} (h : ∀ j, lo ≤ j → j < hi → f j = g j) : mI σ a lo hi f = mI σ a lo hi g := by
  have q : (fun b j => if b = a ∧ lo ≤ j ∧ j < hi then f j else σ.2.1 b j) = (fun b j => if b = a ∧ lo ≤ j ∧ j < hi then g j else σ.2.1 b j) := by
    funext b j
    by_cases h1 : b = a ∧ lo ≤ j ∧ j < hi
    · rw [if_pos h1, if_pos h1, h j h1.2.1 h1.2.2]
    · rw [if_neg h1, if_neg h1]
  unfold mI
  rw [q]
theorem Sm_mI {f : Nat → Int32} (h : Sm σ σ1 b) (ne : b ≠ a) : Sm σ (mI σ1 a lo hi f) b := ⟨by rw [← h.1]; funext j; exact gI_mI_a ne, h.2.1, h.2.2⟩
theorem gJ_mJ {f : Nat → Int64} : gJ (mJ σ a lo hi f) b j = if b = a ∧ lo ≤ j ∧ j < hi then f j else gJ σ b j := rfl
theorem gJ_mJ_i {f : Nat → Int64} (h : lo ≤ j ∧ j < hi) : gJ (mJ σ a lo hi f) a j = f j := if_pos ⟨rfl, h⟩
theorem gJ_mJ_o {f : Nat → Int64} (h : ¬ (lo ≤ j ∧ j < hi)) : gJ (mJ σ a lo hi f) b j = gJ σ b j := if_neg (fun q => h q.2)
theorem gJ_mJ_a {f : Nat → Int64} (h : b ≠ a) : gJ (mJ σ a lo hi f) b j = gJ σ b j := if_neg (fun q => h q.1)
theorem gI_mJ {f : Nat → Int64} : gI (mJ σ a lo hi f) b j = gI σ b j := rfl
theorem gD_mJ {f : Nat → Int64} : gD (mJ σ a lo hi f) b j = gD σ b j := rfl
theorem gR_mJ {f : Nat → Int64} : gR (mJ σ a lo hi f) b j = gR σ b j := rfl
theorem sN_mJ {f : Nat → Int64} : sN (mJ σ a lo hi f) = sN σ := rfl
theorem sZ_mJ {f : Nat → Int64} : sZ (mJ σ a lo hi f) = sZ σ := rfl
theorem mJ_nil {f : Nat → Int64} (h : hi ≤ lo) : mJ σ a lo hi f = σ := by
  have e : (fun b j => if b = a ∧ lo ≤ j ∧ j < hi then f j else σ.2.2.1 b j) = σ.2.2.1 := by
    funext b j; exact if_neg (by omega)
  unfold mJ; rw [e]
theorem mJ_step {f : Nat → Int64} {v : Int64} (h : lo < hi) (e : f lo = v) : mJ (pJ σ a lo v) a (lo + 1) hi f = mJ σ a lo hi f := by
  have q : (fun b j => if b = a ∧ lo + 1 ≤ j ∧ j < hi then f j else (up2 σ.2.2.1 a lo v) b j) = (fun b j => if b = a ∧ lo ≤ j ∧ j < hi then f j else σ.2.2.1 b j) := by
    funext b j
    unfold up2
    by_cases h1 : b = a ∧ j = lo
    · rw [if_neg (by omega), if_pos h1, if_pos (by omega), h1.2, e]
    · by_cases h2 : b = a ∧ lo + 1 ≤ j ∧ j < hi
      · rw [if_pos h2, if_pos (by omega)]
      · rw [if_neg h2, if_neg h1, if_neg (by omega)]
  unfold mJ pJ
  dsimp only
  rw [q]
theorem mJ_pJ {f : Nat → Int64} {v : Int64} (h : b ≠ a) : mJ (pJ σ b k v) a lo hi f = pJ (mJ σ a lo hi f) b k v := by
  have q : (fun c j => if c = a ∧ lo ≤ j ∧ j < hi then f j else (up2 σ.2.2.1 b k v) c j) = up2 (fun c j => if c = a ∧ lo ≤ j ∧ j < hi then f j else σ.2.2.1 c j) b k v := by
    funext c j
    unfold up2
    by_cases h1 : c = b ∧ j = k
    · rw [if_neg (by omega), if_pos h1, if_pos h1]
    · rw [if_neg h1, if_neg h1]
  unfold mJ pJ
  dsimp only
  rw [q]
theorem mJ_pI {f : Nat → Int64} {v : Int32} : mJ (pI σ b k v) a lo hi f = pI (mJ σ a lo hi f) b k v := rfl
theorem mJ_pD {f : Nat → Int64} {v : UInt64} : mJ (pD σ b k v) a lo hi f = pD (mJ σ a lo hi f) b k v := rfl
theorem mJ_cong {f g : Nat → Int64} (h : ∀ j, lo ≤ j → j < hi → f j = g j) : mJ σ a lo hi f = mJ σ a lo hi g := by
  have q : (fun b j => if b = a ∧ lo ≤ j ∧ j < hi then f j else σ.2.2.1 b j) = (fun b j => if b = a ∧ lo ≤ j ∧ j < hi then g j else σ.2.2.1 b j) := by
    funext b j
    by_cases h1 : b = a ∧ lo ≤ j ∧ j < hi
    · rw [if_pos h1, if_pos h1, h j h1.2.1 h1.2.2]
    · rw [if_neg h1, if_neg h1]
  unfold mJ
  rw [q]
theorem Sm_mJ {f : Nat → Int64} (h : Sm σ σ1 b) (ne : b ≠ a) : Sm σ (mJ σ1 a lo hi f) b := ⟨h.1, by rw [← h.2.1]; funext j; exact gJ_mJ_a ne, h.2.2⟩
theorem gD_mD {f : Nat → UInt64} : gD (mD σ a lo hi f) b j = if b = a ∧ lo ≤ j ∧ j < hi then f j else gD σ b j := rfl
theorem gD_mD_i {f : Nat → UInt64} (h : lo ≤ j ∧ j < hi) : gD (mD σ a lo hi f) a j = f j := if_pos ⟨rfl, h⟩
theorem gD_mD_o {f : Nat → UInt64} (h : ¬ (lo ≤ j ∧ j < hi)) : gD (mD σ a lo hi f) b j = gD σ b j := if_neg (fun q => h q.2)
theorem gD_mD_a {f : Nat → UInt64} (h : b ≠ a) : gD (mD σ a lo hi f) b j = gD σ b j := if_neg (fun q => h q.1)
theorem gI_mD {f : Nat → UInt64} : gI (mD σ a lo hi f) b j = gI σ b j := rfl
theorem gJ_mD {f : Nat → UInt64} : gJ (mD σ a lo hi f) b j = gJ σ b j := rfl
theorem gR_mD {f : Nat → UInt64} : gR (mD σ a lo hi f) b j = gR σ b j := rfl
theorem sN_mD {f : Nat → UInt64} : sN (mD σ a lo hi f) = sN σ := rfl
theorem sZ_mD {f : Nat → UInt64} : sZ (mD σ a lo hi f) = sZ σ := rfl
theorem mD_nil {f : Nat → UInt64} (h : hi ≤ lo) : mD σ a lo hi f = σ := by
  have e : (fun b j => if b = a ∧ lo ≤ j ∧ j < hi then f j else σ.2.2.2.1 b j) = σ.2.2.2.1 := by
    funext b j; exact if_neg (by omega)
  unfold mD; rw [e]
theorem mD_step {f : Nat → UInt64} {v : UInt64} (h : lo < hi) (e : f lo = v) : mD (pD σ a lo v) a (lo + 1) hi f = mD σ a lo hi f := by
  have q : (fun b j => if b = a ∧ lo + 1 ≤ j ∧ j < hi then f j else (up2 σ.2.2.2.1 a lo v) b j) = (fun b j => if b = a ∧ lo ≤ j ∧ j < hi then f j else σ.2.2.2.1 b j) := by
    funext b j
    unfold up2
    by_cases h1 : b = a ∧ j = lo
    · rw [if_neg (by omega), if_pos h1, if_pos (by omega), h1.2, e]
    · by_cases h2 : b = a ∧ lo + 1 ≤ j ∧ j < hi
      · rw [if_pos h2, if_pos (by omega)]
      · rw [if_neg h2, if_neg h1, if_neg (by omega)]
  unfold mD pD
  dsimp only
  rw [q]
theorem mD_pD {f : Nat → UInt64} {v : UInt64} (h : b ≠ a) : mD (pD σ b k v) a lo hi f = pD (mD σ a lo hi f) b k v := by
  have q : (fun c j => if c = a ∧ lo ≤ j ∧ j < hi then f j else (up2 σ.2.2.2.1 b k v) c j) = up2 (fun c j => if c = a ∧ lo ≤ j ∧ j < hi then f j else σ.2.2.2.1 c j) b k v := by
    funext c j
    unfold up2
    by_cases h1 : c = b ∧ j = k
    · rw [if_neg (by omega), if_pos h1, if_pos h1]
    · rw [if_neg h1, if_neg h1]
  unfold mD pD
  dsimp only
  rw [q]
theorem mD_pI {f : Nat → UInt64} {v : Int32} : mD (pI σ b k v) a lo hi f = pI (mD σ a lo hi f) b k v := rfl
theorem mD_pJ {f : Nat → UInt64} {v : Int64} : mD (pJ σ b k v) a lo hi f = pJ (mD σ a lo hi f) b k v := rfl
theorem mD_cong {f g : Nat → UInt64} (h : ∀ j, lo ≤ j → j < hi → f j = g j) : mD σ a lo hi f = mD σ a lo hi g := by
  have q : (fun b j => if b = a ∧ lo ≤ j ∧ j < hi then f j else σ.2.2.2.1 b j) = (fun b j => if b = a ∧ lo ≤ j ∧ j < hi then g j else σ.2.2.2.1 b j) := by
    funext b j
    by_cases h1 : b = a ∧ lo ≤ j ∧ j < hi
    · rw [if_pos h1, if_pos h1, h j h1.2.1 h1.2.2]
    · rw [if_neg h1, if_neg h1]
  unfold mD
  rw [q]
theorem Sm_mD {f : Nat → UInt64} (h : Sm σ σ1 b) (ne : b ≠ a) : Sm σ (mD σ1 a lo hi f) b := ⟨h.1, h.2.1, by rw [← h.2.2]; funext j; exact gD_mD_a ne⟩
end ROWS
/-- a counter's step -/
theorem cnt1 {v : Int32} {m : Nat} (h : 0 ≤ v.toInt) (h1 : v.toInt < m) (hm : m < 2147483648) : (v + 1).toInt = v.toInt + 1 ∧ (v + 1).toNatClampNeg = v.toNatClampNeg + 1 ∧ (v.toNatClampNeg : Int) = v.toInt := by
  have e : (v + 1).toInt = v.toInt + 1 := i32_add1 (m := 2147483646) (by omega) (by decide)
  refine ⟨e, ?_, ?_⟩
  · rw [i32_nat, i32_nat, e]; omega
  · rw [i32_nat]; omega
theorem nat0 {v : Int32} (h : 0 ≤ v.toInt) : (v.toNatClampNeg : Int) = v.toInt := by rw [i32_nat]; omega
