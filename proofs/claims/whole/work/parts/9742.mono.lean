theorem u_d_X12_allWeights_5 : ∀ {n : Nat} {v1 : Int32} {v2 : Int64} {v4 : Int32} {σ : Sg}, Le (d_X12_allWeights_5 n v1 v2 v4 σ) (d_X12_allWeights_5 (n + 1) v1 v2 v4 σ) := by
  intro n
  induction n with
  | zero => intro v1 v2 v4 σ; exact Le_none
  | succ n ih =>
    intro v1 v2 v4 σ
    unfold d_X12_allWeights_5
    refine Le_bp (u_c_X12_partsOf) (fun x11 => ?_)
    refine Le_it ?_ ?_
    · exact Le_refl _
    · refine Le_bp (u_c_X12_weighed) (fun x14 => ?_)
      refine Le_nm (fun x15 => ?_)
      refine Le_nm (fun x16 => ?_)
      exact ih
theorem u_c_X12_allWeights {n : Nat} {v1 : Int32} {σ : Sg} : Le (c_X12_allWeights n v1 σ) (c_X12_allWeights (n + 1) v1 σ) := by
  unfold c_X12_allWeights
  exact u_d_X12_allWeights_5
theorem u_d_X12_splits_304 {k223 k223' : Int64 → Sg → Option Sg} {n : Nat} {v1 : Int64} {v4 : Int32} {v5 : Int32} {v6 : Int64} {v8 : Int64} {v10 : Int32} {σ : Sg} (h_k223 : ∀ (c0 : Int64) (c1 : Sg), Le (k223 c0 c1) (k223' c0 c1)) : Le (d_X12_splits_304 k223 n v1 v4 v5 v6 v8 v10 σ) (d_X12_splits_304 k223' (n + 1) v1 v4 v5 v6 v8 v10 σ) := by
  unfold d_X12_splits_304
  refine Le_ck (fun _ => ?_)
  refine Le_ck (fun _ => ?_)
  refine Le_nm (fun σ68 => ?_)
  refine Le_nm (fun x69 => ?_)
  exact h_k223 _ _
theorem u_d_X12_splits_298 {k223 k223' : Int64 → Sg → Option Sg} {k239 k239' : Int32 → Int64 → Int32 → Option Sg} {n : Nat} {v1 : Int64} {v4 : Int32} {v5 : Int32} {v6 : Int64} {v8 : Int64} {v10 : Int32} {v11 : Int64} {v13 : Int32} {σ : Sg} (h_k223 : ∀ (c0 : Int64) (c1 : Sg), Le (k223 c0 c1) (k223' c0 c1)) (h_k239 : ∀ (c0 : Int32) (c1 : Int64) (c2 : Int32), Le (k239 c0 c1 c2) (k239' c0 c1 c2)) : Le (d_X12_splits_298 k223 k239 n v1 v4 v5 v6 v8 v10 v11 v13 σ) (d_X12_splits_298 k223' k239' (n + 1) v1 v4 v5 v6 v8 v10 v11 v13 σ) := by
  unfold d_X12_splits_298
  refine Le_nm (fun x78 => ?_)
  exact h_k239 _ _ _
theorem u_d_X12_splits_290 {k223 k223' : Int64 → Sg → Option Sg} {k239 k239' : Int32 → Int64 → Int32 → Option Sg} {n : Nat} {v1 : Int64} {v4 : Int32} {v5 : Int32} {v6 : Int64} {v8 : Int64} {v13 : Int32} {v14 : Int64} {σ : Sg} (h_k223 : ∀ (c0 : Int64) (c1 : Sg), Le (k223 c0 c1) (k223' c0 c1)) (h_k239 : ∀ (c0 : Int32) (c1 : Int64) (c2 : Int32), Le (k239 c0 c1 c2) (k239' c0 c1 c2)) : Le (d_X12_splits_290 k223 k239 n v1 v4 v5 v6 v8 v13 v14 σ) (d_X12_splits_290 k223' k239' (n + 1) v1 v4 v5 v6 v8 v13 v14 σ) := by
  unfold d_X12_splits_290
  exact u_d_X12_splits_298 h_k223 h_k239
theorem u_d_X12_splits_239 {k223 k223' : Int64 → Sg → Option Sg} (h_k223 : ∀ (c0 : Int64) (c1 : Sg), Le (k223 c0 c1) (k223' c0 c1)) : ∀ {n : Nat} {v1 : Int64} {v4 : Int32} {v5 : Int32} {v6 : Int64} {v8 : Int64} {v10 : Int32} {v11 : Int64} {v13 : Int32} {σ : Sg}, Le (d_X12_splits_239 k223 n v1 v4 v5 v6 v8 v10 v11 v13 σ) (d_X12_splits_239 k223' (n + 1) v1 v4 v5 v6 v8 v10 v11 v13 σ) := by
  intro n
  induction n with
  | zero => intro v1 v4 v5 v6 v8 v10 v11 v13 σ; exact Le_none
  | succ n ih =>
    intro v1 v4 v5 v6 v8 v10 v11 v13 σ
    unfold d_X12_splits_239
    refine Le_it ?_ ?_
    · exact u_d_X12_splits_304 h_k223
    · refine Le_bp (u_c_X12_weighed) (fun x72 => ?_)
      refine Le_ck (fun _ => ?_)
      refine Le_nm (fun x76 => ?_)
      refine Le_it ?_ ?_
      · exact u_d_X12_splits_290 h_k223 (fun c10 c11 c13 => ih)
      · refine Le_it ?_ ?_
        · exact u_d_X12_splits_298 h_k223 (fun c10 c11 c13 => ih)
        · exact u_d_X12_splits_290 h_k223 (fun c10 c11 c13 => ih)
theorem u_d_X12_splits_223 : ∀ {n : Nat} {v1 : Int64} {v4 : Int32} {v5 : Int32} {v6 : Int64} {v8 : Int64} {σ : Sg}, Le (d_X12_splits_223 n v1 v4 v5 v6 v8 σ) (d_X12_splits_223 (n + 1) v1 v4 v5 v6 v8 σ) := by
  intro n
  induction n with
  | zero => intro v1 v4 v5 v6 v8 σ; exact Le_none
  | succ n ih =>
    intro v1 v4 v5 v6 v8 σ
    unfold d_X12_splits_223
    refine Le_it ?_ ?_
    · exact Le_refl _
    · exact u_d_X12_splits_239 (fun c8 τ => ih)
theorem u_d_X12_splits_188 {k158 k158' : Int64 → Int32 → Sg → Option Sg} {n : Nat} {v1 : Int64} {v3 : Int32} {v4 : Int32} {v5 : Int32} {v6 : Int64} {v8 : Int64} {v10 : Int32} {s0 : Int64} {σ : Sg} (h_k158 : ∀ (c0 : Int64) (c1 : Int32) (c2 : Sg), Le (k158 c0 c1 c2) (k158' c0 c1 c2)) : Le (d_X12_splits_188 k158 n v1 v3 v4 v5 v6 v8 v10 s0 σ) (d_X12_splits_188 k158' (n + 1) v1 v3 v4 v5 v6 v8 v10 s0 σ) := by
  unfold d_X12_splits_188
  refine Le_ck (fun _ => ?_)
  refine Le_ck (fun _ => ?_)
  refine Le_nm (fun σ90 => ?_)
  refine Le_nm (fun x91 => ?_)
  refine Le_nm (fun x92 => ?_)
  exact h_k158 _ _ _
theorem u_d_X12_splits_158 : ∀ {n : Nat} {v1 : Int64} {v3 : Int32} {v4 : Int32} {v5 : Int32} {v6 : Int64} {v8 : Int64} {v10 : Int32} {σ : Sg}, Le (d_X12_splits_158 n v1 v3 v4 v5 v6 v8 v10 σ) (d_X12_splits_158 (n + 1) v1 v3 v4 v5 v6 v8 v10 σ) := by
  intro n
  induction n with
  | zero => intro v1 v3 v4 v5 v6 v8 v10 σ; exact Le_none
  | succ n ih =>
    intro v1 v3 v4 v5 v6 v8 v10 σ
    unfold d_X12_splits_158
    refine Le_it ?_ ?_
    · refine Le_it ?_ ?_
      · exact u_d_X12_splits_223
      · refine Le_bp (u_c_X12_weighed) (fun x83 => ?_)
        refine Le_it ?_ ?_
        · exact u_d_X12_splits_188 (fun c8 c10 τ => ih)
        · exact u_d_X12_splits_188 (fun c8 c10 τ => ih)
    · exact u_d_X12_splits_223
theorem u_d_X12_splits_147 {n : Nat} {v8 : Int64} {s0 : Int32} {s1 : Int32} {s2 : Nat} {σ : Sg} : Le (d_X12_splits_147 n v8 s0 s1 s2 σ) (d_X12_splits_147 (n + 1) v8 s0 s1 s2 σ) := by
  unfold d_X12_splits_147
  refine Le_ck (fun _ => ?_)
  refine Le_ck (fun _ => ?_)
  refine Le_nm (fun σ99 => ?_)
  exact Le_refl _
theorem u_d_X12_splits_118 {n : Nat} {v1 : Int64} {v3 : Int32} {v4 : Int32} {v5 : Int32} {v6 : Int64} {v8 : Int64} {σ : Sg} : Le (d_X12_splits_118 n v1 v3 v4 v5 v6 v8 σ) (d_X12_splits_118 (n + 1) v1 v3 v4 v5 v6 v8 σ) := by
  unfold d_X12_splits_118
  refine Le_it ?_ ?_
  · exact u_d_X12_splits_158
  · refine Le_it ?_ ?_
    · exact u_d_X12_splits_147
    · exact u_d_X12_splits_147
theorem u_d_X12_splits_86 {k22 k22' : Int64 → Int32 → Sg → Option Sg} {n : Nat} {v1 : Int64} {v3 : Int32} {v4 : Int32} {v5 : Int32} {v6 : Int64} {v8 : Int64} {v10 : Int32} {s0 : Int64} {σ : Sg} (h_k22 : ∀ (c0 : Int64) (c1 : Int32) (c2 : Sg), Le (k22 c0 c1 c2) (k22' c0 c1 c2)) : Le (d_X12_splits_86 k22 n v1 v3 v4 v5 v6 v8 v10 s0 σ) (d_X12_splits_86 k22' (n + 1) v1 v3 v4 v5 v6 v8 v10 s0 σ) := by
  unfold d_X12_splits_86
  refine Le_ck (fun _ => ?_)
  refine Le_nm (fun σ109 => ?_)
  refine Le_nm (fun x110 => ?_)
  refine Le_nm (fun x111 => ?_)
  exact h_k22 _ _ _
theorem u_d_X12_splits_50 {k22 k22' : Int64 → Int32 → Sg → Option Sg} {n : Nat} {v1 : Int64} {v3 : Int32} {v4 : Int32} {v5 : Int32} {v6 : Int64} {v8 : Int64} {v10 : Int32} {s0 : Int64} {σ : Sg} (h_k22 : ∀ (c0 : Int64) (c1 : Int32) (c2 : Sg), Le (k22 c0 c1 c2) (k22' c0 c1 c2)) : Le (d_X12_splits_50 k22 n v1 v3 v4 v5 v6 v8 v10 s0 σ) (d_X12_splits_50 k22' (n + 1) v1 v3 v4 v5 v6 v8 v10 s0 σ) := by
  unfold d_X12_splits_50
  refine Le_it ?_ ?_
  · refine Le_it ?_ ?_
    · refine Le_bp (Le_refl _) (fun x104 => ?_)
      exact u_d_X12_splits_86 h_k22
    · refine Le_bp (Le_refl _) (fun x113 => ?_)
      exact u_d_X12_splits_86 h_k22
  · exact u_d_X12_splits_86 h_k22
theorem u_d_X12_splits_22 : ∀ {n : Nat} {v1 : Int64} {v3 : Int32} {v4 : Int32} {v5 : Int32} {v6 : Int64} {v8 : Int64} {v10 : Int32} {σ : Sg}, Le (d_X12_splits_22 n v1 v3 v4 v5 v6 v8 v10 σ) (d_X12_splits_22 (n + 1) v1 v3 v4 v5 v6 v8 v10 σ) := by
  intro n
  induction n with
  | zero => intro v1 v3 v4 v5 v6 v8 v10 σ; exact Le_none
  | succ n ih =>
    intro v1 v3 v4 v5 v6 v8 v10 σ
    unfold d_X12_splits_22
    refine Le_it ?_ ?_
    · exact u_d_X12_splits_118
    · refine Le_it ?_ ?_
      · exact u_d_X12_splits_50 (fun c8 c10 τ => ih)
      · refine Le_bp (u_c_X12_weighed) (fun x116 => ?_)
        exact u_d_X12_splits_50 (fun c8 c10 τ => ih)
theorem u_c_X12_splits {n : Nat} {v1 : Int64} {v3 : Int32} {v4 : Int32} {σ : Sg} : Le (c_X12_splits n v1 v3 v4 σ) (c_X12_splits (n + 1) v1 v3 v4 σ) := by
  unfold c_X12_splits
  refine Le_bp (u_c_X12_partsOf) (fun x55 => ?_)
  refine Le_bp (u_c_X12_allWeights) (fun x57 => ?_)
  exact u_d_X12_splits_22
theorem u_c_X12_rates {n : Nat} {v1 : Int32} {v2 : Int32} {v3 : Int32} {σ : Sg} : Le (c_X12_rates n v1 v2 v3 σ) (c_X12_rates (n + 1) v1 v2 v3 σ) := by
  unfold c_X12_rates
  refine Le_nm (fun x29 => ?_)
  refine Le_ck (fun _ => ?_)
  refine Le_nm (fun x33 => ?_)
  refine Le_ck (fun _ => ?_)
  refine Le_ck (fun _ => ?_)
  refine Le_ck (fun _ => ?_)
  refine Le_ck (fun _ => ?_)
  refine Le_bd (u_c_X12_becomes) (fun x48 σ47 => ?_)
  refine Le_it ?_ ?_
  · exact Le_refl _
  · refine Le_ck (fun _ => ?_)
    refine Le_ck (fun _ => ?_)
    refine Le_nm (fun σ55 => ?_)
    exact Le_refl _
theorem u_d_X12_adds_95 {n : Nat} {v4 : Int32} {v5 : Int32} {v6 : Int32} {s0 : Int64} {s1 : Int64} {s2 : Int32} {σ : Sg} : Le (d_X12_adds_95 n v4 v5 v6 s0 s1 s2 σ) (d_X12_adds_95 (n + 1) v4 v5 v6 s0 s1 s2 σ) := by
  unfold d_X12_adds_95
  refine Le_ck (fun _ => ?_)
  refine Le_ck (fun _ => ?_)
  refine Le_bd (u_c_X12_becomes) (fun x66 σ65 => ?_)
  refine Le_it ?_ ?_
  · exact Le_refl _
  · refine Le_ck (fun _ => ?_)
    refine Le_ck (fun _ => ?_)
    refine Le_nm (fun σ73 => ?_)
    exact Le_refl _
theorem u_d_X12_adds_47 {n : Nat} {v1 : Int32} {v3 : Int32} {v4 : Int32} {v5 : Int32} {s0 : Int32} {σ : Sg} : Le (d_X12_adds_47 n v1 v3 v4 v5 s0 σ) (d_X12_adds_47 (n + 1) v1 v3 v4 v5 s0 σ) := by
  unfold d_X12_adds_47
  refine Le_ck (fun _ => ?_)
  refine Le_ck (fun _ => ?_)
  refine Le_nm (fun x51 => ?_)
  refine Le_ck (fun _ => ?_)
  refine Le_ck (fun _ => ?_)
  refine Le_it ?_ ?_
  · exact u_d_X12_adds_95
  · exact u_d_X12_adds_95
theorem u_d_X12_adds_42 {n : Nat} {v1 : Int32} {v3 : Int32} {v4 : Int32} {v5 : Int32} {σ : Sg} : Le (d_X12_adds_42 n v1 v3 v4 v5 σ) (d_X12_adds_42 (n + 1) v1 v3 v4 v5 σ) := by
  unfold d_X12_adds_42
  exact u_d_X12_adds_47
theorem u_c_X12_adds {n : Nat} {v1 : Int32} {v2 : Int32} {v3 : Int32} {σ : Sg} : Le (c_X12_adds n v1 v2 v3 σ) (c_X12_adds (n + 1) v1 v2 v3 σ) := by
  unfold c_X12_adds
  refine Le_nm (fun x38 => ?_)
  refine Le_nm (fun x39 => ?_)
  refine Le_ck (fun _ => ?_)
  refine Le_it ?_ ?_
  · refine Le_ck (fun _ => ?_)
    refine Le_it ?_ ?_
    · exact u_d_X12_adds_47
    · exact u_d_X12_adds_42
  · exact u_d_X12_adds_42
theorem u_c_X12_carries {n : Nat} {v1 : Int32} {v2 : Int32} {σ : Sg} : Le (c_X12_carries n v1 v2 σ) (c_X12_carries (n + 1) v1 v2 σ) := by
  unfold c_X12_carries
  refine Le_nm (fun x75 => ?_)
  refine Le_nm (fun x76 => ?_)
  refine Le_ck (fun _ => ?_)
  refine Le_ck (fun _ => ?_)
  refine Le_ck (fun _ => ?_)
  refine Le_ck (fun _ => ?_)
  refine Le_nm (fun x89 => ?_)
  refine Le_ck (fun _ => ?_)
  refine Le_ck (fun _ => ?_)
  refine Le_nm (fun x94 => ?_)
  refine Le_ck (fun _ => ?_)
  refine Le_nm (fun x97 => ?_)
  refine Le_ck (fun _ => ?_)
  refine Le_nm (fun x100 => ?_)
  refine Le_bd (u_c_X12_becomes) (fun x103 σ102 => ?_)
  refine Le_it ?_ ?_
  · exact Le_refl _
  · refine Le_ck (fun _ => ?_)
    refine Le_ck (fun _ => ?_)
    refine Le_bp (Le_refl _) (fun x113 => ?_)
    refine Le_ck (fun _ => ?_)
    refine Le_ck (fun _ => ?_)
    refine Le_nm (fun x118 => ?_)
    refine Le_ck (fun _ => ?_)
    refine Le_nm (fun x121 => ?_)
    refine Le_bd (u_c_X12_becomesWhole) (fun x124 σ123 => ?_)
    refine Le_it ?_ ?_
    · refine Le_ck (fun _ => ?_)
      refine Le_nm (fun σ143 => ?_)
      refine Le_ck (fun _ => ?_)
      refine Le_nm (fun σ148 => ?_)
      exact Le_refl _
    · refine Le_bp (u_f_X12_common) (fun x127 => ?_)
      refine Le_ck (fun _ => ?_)
      refine Le_ck (fun _ => ?_)
      refine Le_nm (fun σ133 => ?_)
      refine Le_ck (fun _ => ?_)
      refine Le_nm (fun σ138 => ?_)
      exact Le_refl _
theorem u_d_X12_days_14 : ∀ {n : Nat} {v1 : Int32} {v2 : Int32} {v3 : Int32} {v4 : Int32} {v5 : Int32} {σ : Sg}, Le (d_X12_days_14 n v1 v2 v3 v4 v5 σ) (d_X12_days_14 (n + 1) v1 v2 v3 v4 v5 σ) := by
  intro n
  induction n with
  | zero => intro v1 v2 v3 v4 v5 σ; exact Le_none
  | succ n ih =>
    intro v1 v2 v3 v4 v5 σ
    unfold d_X12_days_14
    refine Le_it ?_ ?_
    · exact Le_refl _
    · refine Le_it ?_ ?_
      · refine Le_ck (fun _ => ?_)
        refine Le_ck (fun _ => ?_)
        refine Le_ck (fun _ => ?_)
        refine Le_ck (fun _ => ?_)
        refine Le_bp (Le_refl _) (fun x47 => ?_)
        refine Le_ck (fun _ => ?_)
        refine Le_ck (fun _ => ?_)
        refine Le_ck (fun _ => ?_)
        refine Le_bd (u_c_X12_becomes) (fun x56 σ55 => ?_)
        refine Le_nm (fun x57 => ?_)
        exact ih
      · exact Le_refl _
theorem u_c_X12_days {n : Nat} {v1 : Int32} {v2 : Int32} {v3 : Int32} {σ : Sg} : Le (c_X12_days n v1 v2 v3 σ) (c_X12_days (n + 1) v1 v2 v3 σ) := by
  unfold c_X12_days
  refine Le_nm (fun x30 => ?_)
  exact u_d_X12_days_14
theorem u_d_X12_does_138 {n : Nat} {v3 : Int32} {v7 : Int64} {σ : Sg} : Le (d_X12_does_138 n v3 v7 σ) (d_X12_does_138 (n + 1) v3 v7 σ) := by
  unfold d_X12_does_138
  refine Le_bp (u_c_X12_plain) (fun σ144 => ?_)
  exact Le_refl _
theorem u_d_X12_does_110 : ∀ {n : Nat} {v3 : Int32} {v7 : Int64} {v9 : Int32} {σ : Sg}, Le (d_X12_does_110 n v3 v7 v9 σ) (d_X12_does_110 (n + 1) v3 v7 v9 σ) := by
  intro n
  induction n with
  | zero => intro v3 v7 v9 σ; exact Le_none
  | succ n ih =>
    intro v3 v7 v9 σ
    unfold d_X12_does_110
    refine Le_it ?_ ?_
    · exact u_d_X12_does_138
    · refine Le_ck (fun _ => ?_)
      refine Le_nm (fun x148 => ?_)
      refine Le_nm (fun x149 => ?_)
      exact ih
theorem u_d_X12_does_169 {n : Nat} {s0 : Int32} {s1 : Int32} {s2 : Int32} {s3 : Int32} {σ : Sg} : Le (d_X12_does_169 n s0 s1 s2 s3 σ) (d_X12_does_169 (n + 1) s0 s1 s2 s3 σ) := by
  unfold d_X12_does_169
  refine Le_bp (u_c_X12_taxes) (fun σ156 => ?_)
  exact Le_refl _
theorem u_c_X12_does {n : Nat} {v1 : Int32} {v2 : Int32} {σ : Sg} : Le (c_X12_does n v1 v2 σ) (c_X12_does (n + 1) v1 v2 σ) := by
  unfold c_X12_does
  refine Le_ck (fun _ => ?_)
  refine Le_nm (fun x126 => ?_)
  refine Le_ck (fun _ => ?_)
  refine Le_nm (fun x130 => ?_)
  refine Le_ck (fun _ => ?_)
  refine Le_nm (fun x134 => ?_)
  refine Le_nm (fun x135 => ?_)
  refine Le_ck (fun _ => ?_)
  refine Le_it ?_ ?_
  · exact u_d_X12_does_110
  · refine Le_it ?_ ?_
    · refine Le_ck (fun _ => ?_)
      refine Le_it ?_ ?_
      · exact u_d_X12_does_169
      · exact u_d_X12_does_169
    · refine Le_it ?_ ?_
      · refine Le_ck (fun _ => ?_)
        refine Le_it ?_ ?_
        · exact u_d_X12_does_169
        · exact u_d_X12_does_169
      · refine Le_it ?_ ?_
        · refine Le_bp (u_c_X12_rates) (fun σ163 => ?_)
          exact Le_refl _
        · refine Le_it ?_ ?_
          · refine Le_ck (fun _ => ?_)
            refine Le_ck (fun _ => ?_)
            refine Le_bp (Le_refl _) (fun x172 => ?_)
            refine Le_bd (u_c_X12_becomesWhole) (fun x175 σ174 => ?_)
            exact Le_refl _
          · refine Le_it ?_ ?_
            · refine Le_bp (u_c_X12_adds) (fun σ178 => ?_)
              exact Le_refl _
            · refine Le_it ?_ ?_
              · refine Le_ck (fun _ => ?_)
                refine Le_it ?_ ?_
                · refine Le_ck (fun _ => ?_)
                  refine Le_bp (u_c_X12_splits) (fun σ188 => ?_)
                  refine Le_nm (fun σ190 => ?_)
                  refine Le_ck (fun _ => ?_)
                  refine Le_ck (fun _ => ?_)
                  refine Le_nm (fun σ196 => ?_)
                  refine Le_ck (fun _ => ?_)
                  refine Le_nm (fun σ201 => ?_)
                  refine Le_nm (fun σ203 => ?_)
                  exact Le_refl _
                · refine Le_nm (fun σ204 => ?_)
                  exact Le_refl _
              · refine Le_it ?_ ?_
                · refine Le_ck (fun _ => ?_)
                  refine Le_bd (u_c_X12_becomesWhole) (fun x211 σ210 => ?_)
                  refine Le_it ?_ ?_
                  · exact Le_refl _
                  · refine Le_ck (fun _ => ?_)
                    refine Le_ck (fun _ => ?_)
                    refine Le_nm (fun σ218 => ?_)
                    exact Le_refl _
                · refine Le_it ?_ ?_
                  · refine Le_bp (u_c_X12_carries) (fun σ221 => ?_)
                    exact Le_refl _
                  · refine Le_it ?_ ?_
                    · refine Le_bp (Le_refl _) (fun σ224 => ?_)
                      exact Le_refl _
                    · refine Le_it ?_ ?_
                      · refine Le_bp (Le_refl _) (fun σ227 => ?_)
                        exact Le_refl _
                      · refine Le_it ?_ ?_
                        · refine Le_ck (fun _ => ?_)
                          refine Le_ck (fun _ => ?_)
                          refine Le_bp (Le_refl _) (fun x236 => ?_)
                          refine Le_bd (u_c_X12_becomesWhole) (fun x239 σ238 => ?_)
                          refine Le_it ?_ ?_
                          · exact Le_refl _
                          · refine Le_ck (fun _ => ?_)
                            refine Le_nm (fun σ245 => ?_)
                            exact Le_refl _
                        · refine Le_bp (u_c_X12_days) (fun σ247 => ?_)
                          exact Le_refl _
theorem u_d_X12_runs_179 {n : Nat} {v2 : Int32} {v3 : Int64} {v5 : Int64} {v7 : Int32} {σ : Sg} : Le (d_X12_runs_179 n v2 v3 v5 v7 σ) (d_X12_runs_179 (n + 1) v2 v3 v5 v7 σ) := by
  unfold d_X12_runs_179
  refine Le_ck (fun _ => ?_)
  refine Le_nm (fun σ97 => ?_)
  refine Le_ck (fun _ => ?_)
  refine Le_nm (fun σ102 => ?_)
  refine Le_nm (fun σ104 => ?_)
  exact Le_refl _
theorem u_d_X12_runs_144 : ∀ {n : Nat} {v2 : Int32} {v3 : Int64} {v5 : Int64} {v7 : Int32} {v8 : Int32} {σ : Sg}, Le (d_X12_runs_144 n v2 v3 v5 v7 v8 σ) (d_X12_runs_144 (n + 1) v2 v3 v5 v7 v8 σ) := by
  intro n
  induction n with
  | zero => intro v2 v3 v5 v7 v8 σ; exact Le_none
  | succ n ih =>
    intro v2 v3 v5 v7 v8 σ
    unfold d_X12_runs_144
    refine Le_it ?_ ?_
    · exact u_d_X12_runs_179
    · refine Le_ck (fun _ => ?_)
      refine Le_ck (fun _ => ?_)
      refine Le_nm (fun σ112 => ?_)
      refine Le_nm (fun x113 => ?_)
      exact ih
theorem u_d_X12_runs_141 {n : Nat} {v2 : Int32} {v3 : Int64} {v5 : Int64} {v7 : Int32} {σ : Sg} : Le (d_X12_runs_141 n v2 v3 v5 v7 σ) (d_X12_runs_141 (n + 1) v2 v3 v5 v7 σ) := by
  unfold d_X12_runs_141
  exact u_d_X12_runs_144
theorem u_d_X12_runs_111 : ∀ {n : Nat} {v1 : Int32} {v2 : Int32} {v3 : Int64} {v5 : Int64} {v7 : Int32} {σ : Sg}, Le (d_X12_runs_111 n v1 v2 v3 v5 v7 σ) (d_X12_runs_111 (n + 1) v1 v2 v3 v5 v7 σ) := by
  intro n
  induction n with
  | zero => intro v1 v2 v3 v5 v7 σ; exact Le_none
  | succ n ih =>
    intro v1 v2 v3 v5 v7 σ
    unfold d_X12_runs_111
    refine Le_ck (fun _ => ?_)
    refine Le_it ?_ ?_
    · exact Le_refl _
    · refine Le_bp (u_c_X12_does) (fun σ88 => ?_)
      refine Le_it ?_ ?_
      · refine Le_nm (fun x91 => ?_)
        exact ih
      · exact u_d_X12_runs_141
theorem u_d_X12_runs_98 {n : Nat} {v1 : Int32} {v2 : Int32} {v3 : Int64} {v5 : Int64} {σ : Sg} : Le (d_X12_runs_98 n v1 v2 v3 v5 σ) (d_X12_runs_98 (n + 1) v1 v2 v3 v5 σ) := by
  unfold d_X12_runs_98
  refine Le_nm (fun σ79 => ?_)
  refine Le_nm (fun σ81 => ?_)
  exact u_d_X12_runs_111
theorem u_d_X12_runs_69 : ∀ {n : Nat} {v1 : Int32} {v2 : Int32} {v3 : Int64} {v5 : Int64} {v7 : Int32} {σ : Sg}, Le (d_X12_runs_69 n v1 v2 v3 v5 v7 σ) (d_X12_runs_69 (n + 1) v1 v2 v3 v5 v7 σ) := by
  intro n
  induction n with
  | zero => intro v1 v2 v3 v5 v7 σ; exact Le_none
  | succ n ih =>
    intro v1 v2 v3 v5 v7 σ
    unfold d_X12_runs_69
    refine Le_it ?_ ?_
    · exact u_d_X12_runs_98
    · refine Le_ck (fun _ => ?_)
      refine Le_nm (fun σ118 => ?_)
      refine Le_nm (fun x119 => ?_)
      exact ih
theorem u_d_X12_runs_62 {n : Nat} {v1 : Int32} {v2 : Int32} {v3 : Int64} {v5 : Int64} {σ : Sg} : Le (d_X12_runs_62 n v1 v2 v3 v5 σ) (d_X12_runs_62 (n + 1) v1 v2 v3 v5 σ) := by
  unfold d_X12_runs_62
  refine Le_bp (u_c_X12_clears) (fun σ76 => ?_)
  exact u_d_X12_runs_69
theorem u_d_X12_runs_27 : ∀ {n : Nat} {v1 : Int32} {v2 : Int32} {v3 : Int64} {v5 : Int64} {v7 : Int32} {σ : Sg}, Le (d_X12_runs_27 n v1 v2 v3 v5 v7 σ) (d_X12_runs_27 (n + 1) v1 v2 v3 v5 v7 σ) := by
  intro n
  induction n with
  | zero => intro v1 v2 v3 v5 v7 σ; exact Le_none
  | succ n ih =>
    intro v1 v2 v3 v5 v7 σ
    unfold d_X12_runs_27
    refine Le_it ?_ ?_
    · exact u_d_X12_runs_62
    · refine Le_ck (fun _ => ?_)
      refine Le_ck (fun _ => ?_)
      refine Le_nm (fun σ127 => ?_)
      refine Le_nm (fun x128 => ?_)
      exact ih
theorem u_c_X12_runs {n : Nat} {v1 : Int32} {σ : Sg} : Le (c_X12_runs n v1 σ) (c_X12_runs (n + 1) v1 σ) := by
  unfold c_X12_runs
  refine Le_nm (fun x64 => ?_)
  refine Le_ck (fun _ => ?_)
  refine Le_nm (fun x68 => ?_)
  refine Le_ck (fun _ => ?_)
  refine Le_nm (fun x72 => ?_)
  exact u_d_X12_runs_27
theorem u_d_X12_runsReal_41 {n : Nat} {v1 : Int32} {σ : Sg} : Le (d_X12_runsReal_41 n v1 σ) (d_X12_runsReal_41 (n + 1) v1 σ) := by
  unfold d_X12_runsReal_41
  refine Le_bd (u_c_X12_runs) (fun x33 σ32 => ?_)
  refine Le_nm (fun σ35 => ?_)
  refine Le_nm (fun σ37 => ?_)
  exact Le_refl _
theorem u_d_X12_runsReal_15 : ∀ {n : Nat} {v1 : Int32} {v2 : Int32} {σ : Sg}, Le (d_X12_runsReal_15 n v1 v2 σ) (d_X12_runsReal_15 (n + 1) v1 v2 σ) := by
  intro n
  induction n with
  | zero => intro v1 v2 σ; exact Le_none
  | succ n ih =>
    intro v1 v2 σ
    unfold d_X12_runsReal_15
    refine Le_it ?_ ?_
    · exact u_d_X12_runsReal_41
    · refine Le_ck (fun _ => ?_)
      refine Le_ck (fun _ => ?_)
      refine Le_nm (fun σ45 => ?_)
      refine Le_nm (fun x46 => ?_)
      exact ih
theorem u_c_X12_runsReal {n : Nat} {v1 : Int32} {σ : Sg} : Le (c_X12_runsReal n v1 σ) (c_X12_runsReal (n + 1) v1 σ) := by
  unfold c_X12_runsReal
  refine Le_nm (fun σ25 => ?_)
  refine Le_nm (fun σ27 => ?_)
  exact u_d_X12_runsReal_15
theorem u_c_X12_run {n : Nat} {v1 : Int32} {σ : Sg} : Le (c_X12_run n v1 σ) (c_X12_run (n + 1) v1 σ) := by
  unfold c_X12_run
  refine Le_bp (Le_refl _) (fun x15 => ?_)
  refine Le_it ?_ ?_
  · exact Le_refl _
  · refine Le_bd (u_c_X12_runsReal) (fun x19 σ18 => ?_)
    refine Le_it ?_ ?_
    · refine Le_ck (fun _ => ?_)
      exact Le_refl _
    · exact Le_refl _
theorem u_d_X12_years_22 : ∀ {n : Nat} {v1 : Int32} {v2 : Int32} {v3 : Int32} {σ : Sg}, Le (d_X12_years_22 n v1 v2 v3 σ) (d_X12_years_22 (n + 1) v1 v2 v3 σ) := by
  intro n
  induction n with
  | zero => intro v1 v2 v3 σ; exact Le_none
  | succ n ih =>
    intro v1 v2 v3 σ
    unfold d_X12_years_22
    refine Le_it ?_ ?_
    · exact Le_refl _
    · refine Le_bd (u_c_X12_runsReal) (fun x22 σ21 => ?_)
      refine Le_it ?_ ?_
      · refine Le_nm (fun x24 => ?_)
        exact ih
      · exact Le_refl _
theorem u_c_X12_years {n : Nat} {v1 : Int32} {v2 : Int32} {σ : Sg} : Le (c_X12_years n v1 v2 σ) (c_X12_years (n + 1) v1 v2 σ) := by
  unfold c_X12_years
  refine Le_bp (Le_refl _) (fun x13 => ?_)
  refine Le_it ?_ ?_
  · exact Le_refl _
  · refine Le_bp (Le_refl _) (fun x16 => ?_)
    refine Le_it ?_ ?_
    · exact Le_refl _
    · exact u_d_X12_years_22
theorem u_d_X12_tries_29 {n : Nat} {v1 : Int32} {σ : Sg} : Le (d_X12_tries_29 n v1 σ) (d_X12_tries_29 (n + 1) v1 σ) := by
  unfold d_X12_tries_29
  refine Le_ck (fun _ => ?_)
  refine Le_nm (fun σ32 => ?_)
  refine Le_ck (fun _ => ?_)
  refine Le_nm (fun σ37 => ?_)
  refine Le_bd (u_c_X12_runs) (fun x41 σ40 => ?_)
  refine Le_nm (fun σ43 => ?_)
  refine Le_it ?_ ?_
  · exact Le_refl _
  · exact Le_refl _
theorem u_d_X12_tries_7 : ∀ {n : Nat} {v1 : Int32} {v2 : Int32} {σ : Sg}, Le (d_X12_tries_7 n v1 v2 σ) (d_X12_tries_7 (n + 1) v1 v2 σ) := by
  intro n
  induction n with
  | zero => intro v1 v2 σ; exact Le_none
  | succ n ih =>
    intro v1 v2 σ
    unfold d_X12_tries_7
    refine Le_it ?_ ?_
    · exact u_d_X12_tries_29
    · refine Le_ck (fun _ => ?_)
      refine Le_nm (fun σ49 => ?_)
      refine Le_nm (fun x50 => ?_)
      exact ih
theorem u_c_X12_tries {n : Nat} {v1 : Int32} {σ : Sg} : Le (c_X12_tries n v1 σ) (c_X12_tries (n + 1) v1 σ) := by
  unfold c_X12_tries
  refine Le_nm (fun σ26 => ?_)
  exact u_d_X12_tries_7
theorem u_c_X12_triesAmount {n : Nat} {v1 : Int32} {v2 : Int32} {σ : Sg} : Le (c_X12_triesAmount n v1 v2 σ) (c_X12_triesAmount (n + 1) v1 v2 σ) := by
  unfold c_X12_triesAmount
  refine Le_nm (fun σ13 => ?_)
  refine Le_ck (fun _ => ?_)
  refine Le_nm (fun σ18 => ?_)
  refine Le_bd (u_c_X12_tries) (fun x22 σ21 => ?_)
  refine Le_ck (fun _ => ?_)
  exact Le_refl _
theorem u_d_X12_notes_2 : ∀ {n : Nat} {v1 : Int32} {σ : Sg}, Le (d_X12_notes_2 n v1 σ) (d_X12_notes_2 (n + 1) v1 σ) := by
  intro n
  induction n with
  | zero => intro v1 σ; exact Le_none
  | succ n ih =>
    intro v1 σ
    unfold d_X12_notes_2
    refine Le_it ?_ ?_
    · exact Le_refl _
    · refine Le_ck (fun _ => ?_)
      refine Le_ck (fun _ => ?_)
      refine Le_nm (fun σ18 => ?_)
      refine Le_nm (fun x19 => ?_)
      exact ih
theorem u_c_X12_notes {n : Nat} {σ : Sg} : Le (c_X12_notes n σ) (c_X12_notes (n + 1) σ) := by
  unfold c_X12_notes
  exact u_d_X12_notes_2
theorem u_d_X12_differs_44 {k5 k5' : Int32 → Int32 → Option Int32} {n : Nat} {v1 : Int64} {v4 : Int32} {s0 : Int32} {σ : Sg} (h_k5 : ∀ (c0 : Int32) (c1 : Int32), Le (k5 c0 c1) (k5' c0 c1)) : Le (d_X12_differs_44 k5 n v1 v4 s0 σ) (d_X12_differs_44 k5' (n + 1) v1 v4 s0 σ) := by
  unfold d_X12_differs_44
  refine Le_nm (fun x12 => ?_)
  exact h_k5 _ _
theorem u_d_X12_differs_39 {k5 k5' : Int32 → Int32 → Option Int32} {n : Nat} {v1 : Int64} {v4 : Int32} {σ : Sg} (h_k5 : ∀ (c0 : Int32) (c1 : Int32), Le (k5 c0 c1) (k5' c0 c1)) : Le (d_X12_differs_39 k5 n v1 v4 σ) (d_X12_differs_39 k5' (n + 1) v1 v4 σ) := by
  unfold d_X12_differs_39
  exact u_d_X12_differs_44 h_k5
theorem u_d_X12_differs_5 : ∀ {n : Nat} {v1 : Int64} {v3 : Int32} {v4 : Int32} {σ : Sg}, Le (d_X12_differs_5 n v1 v3 v4 σ) (d_X12_differs_5 (n + 1) v1 v3 v4 σ) := by
  intro n
  induction n with
  | zero => intro v1 v3 v4 σ; exact Le_none
  | succ n ih =>
    intro v1 v3 v4 σ
    unfold d_X12_differs_5
    refine Le_it ?_ ?_
    · refine Le_ck (fun _ => ?_)
      exact Le_refl _
    · refine Le_it ?_ ?_
      · refine Le_ck (fun _ => ?_)
        refine Le_ck (fun _ => ?_)
        refine Le_it ?_ ?_
        · exact u_d_X12_differs_44 (fun c3 c4 => ih)
        · exact u_d_X12_differs_39 (fun c3 c4 => ih)
      · exact u_d_X12_differs_39 (fun c3 c4 => ih)
theorem u_c_X12_differs {n : Nat} {v1 : Int64} {σ : Sg} : Le (c_X12_differs n v1 σ) (c_X12_differs (n + 1) v1 σ) := by
  unfold c_X12_differs
  exact u_d_X12_differs_5
theorem u_d_X12_isUnfair_99 {k25 k25' : Int32 → Int32 → Option Int32} {n : Nat} {v2 : Int64} {v4 : Int32} {s0 : Int32} {σ : Sg} (h_k25 : ∀ (c0 : Int32) (c1 : Int32), Le (k25 c0 c1) (k25' c0 c1)) : Le (d_X12_isUnfair_99 k25 n v2 v4 s0 σ) (d_X12_isUnfair_99 k25' (n + 1) v2 v4 s0 σ) := by
  unfold d_X12_isUnfair_99
  refine Le_nm (fun x33 => ?_)
  exact h_k25 _ _
theorem u_d_X12_isUnfair_94 {k25 k25' : Int32 → Int32 → Option Int32} {n : Nat} {v2 : Int64} {v4 : Int32} {σ : Sg} (h_k25 : ∀ (c0 : Int32) (c1 : Int32), Le (k25 c0 c1) (k25' c0 c1)) : Le (d_X12_isUnfair_94 k25 n v2 v4 σ) (d_X12_isUnfair_94 k25' (n + 1) v2 v4 σ) := by
  unfold d_X12_isUnfair_94
  exact u_d_X12_isUnfair_99 h_k25
theorem u_d_X12_isUnfair_25 : ∀ {n : Nat} {v1 : Int32} {v2 : Int64} {v4 : Int32} {σ : Sg}, Le (d_X12_isUnfair_25 n v1 v2 v4 σ) (d_X12_isUnfair_25 (n + 1) v1 v2 v4 σ) := by
  intro n
  induction n with
  | zero => intro v1 v2 v4 σ; exact Le_none
  | succ n ih =>
    intro v1 v2 v4 σ
    unfold d_X12_isUnfair_25
    refine Le_it ?_ ?_
    · refine Le_ck (fun _ => ?_)
      exact Le_refl _
    · refine Le_bp (u_c_X12_partsOf) (fun x23 => ?_)
      refine Le_it ?_ ?_
      · refine Le_ck (fun _ => ?_)
        exact Le_refl _
      · refine Le_ck (fun _ => ?_)
        refine Le_bp (u_c_X12_weighed) (fun x30 => ?_)
        refine Le_nm (fun x31 => ?_)
        refine Le_it ?_ ?_
        · refine Le_it ?_ ?_
          · exact u_d_X12_isUnfair_94 (fun c1 c4 => ih)
          · refine Le_it ?_ ?_
            · exact u_d_X12_isUnfair_99 (fun c1 c4 => ih)
            · exact u_d_X12_isUnfair_94 (fun c1 c4 => ih)
        · exact u_d_X12_isUnfair_94 (fun c1 c4 => ih)
theorem u_d_X12_isUnfair_21 {n : Nat} {v1 : Int32} {s0 : Int64} {σ : Sg} : Le (d_X12_isUnfair_21 n v1 s0 σ) (d_X12_isUnfair_21 (n + 1) v1 s0 σ) := by
  unfold d_X12_isUnfair_21
  exact u_d_X12_isUnfair_25
theorem u_c_X12_isUnfair {n : Nat} {σ : Sg} : Le (c_X12_isUnfair n σ) (c_X12_isUnfair (n + 1) σ) := by
  unfold c_X12_isUnfair
  refine Le_it ?_ ?_
  · exact u_d_X12_isUnfair_21
  · refine Le_bp (u_c_X12_allWeights) (fun x37 => ?_)
    exact u_d_X12_isUnfair_21
theorem u_d_X12_splitsF_52 : ∀ {n : Nat} {v6 : Int32} {σ : Sg}, Le (d_X12_splitsF_52 n v6 σ) (d_X12_splitsF_52 (n + 1) v6 σ) := by
  intro n
  induction n with
  | zero => intro v6 σ; exact Le_none
  | succ n ih =>
    intro v6 σ
    unfold d_X12_splitsF_52
    refine Le_it ?_ ?_
    · exact Le_refl _
    · refine Le_ck (fun _ => ?_)
      refine Le_ck (fun _ => ?_)
      refine Le_nm (fun σ41 => ?_)
      refine Le_nm (fun x42 => ?_)
      exact ih
theorem u_d_X12_splitsF_39 {n : Nat} {v2 : Int32} {v3 : Int32} {s0 : Int64} {σ : Sg} : Le (d_X12_splitsF_39 n v2 v3 s0 σ) (d_X12_splitsF_39 (n + 1) v2 v3 s0 σ) := by
  unfold d_X12_splitsF_39
  refine Le_bp (u_c_X12_splits) (fun σ30 => ?_)
  refine Le_nm (fun σ32 => ?_)
  exact u_d_X12_splitsF_52
theorem u_d_X12_splitsF_33 {n : Nat} {v2 : Int32} {v3 : Int32} {σ : Sg} : Le (d_X12_splitsF_33 n v2 v3 σ) (d_X12_splitsF_33 (n + 1) v2 v3 σ) := by
  unfold d_X12_splitsF_33
  exact u_d_X12_splitsF_39
theorem u_c_X12_splitsF {n : Nat} {v1 : Int32} {v2 : Int32} {v3 : Int32} {σ : Sg} : Le (c_X12_splitsF n v1 v2 v3 σ) (c_X12_splitsF (n + 1) v1 v2 v3 σ) := by
  unfold c_X12_splitsF
  refine Le_ck (fun _ => ?_)
  refine Le_nm (fun x25 => ?_)
  refine Le_nm (fun σ26 => ?_)
  refine Le_it ?_ ?_
  · exact u_d_X12_splitsF_33
  · refine Le_it ?_ ?_
    · exact u_d_X12_splitsF_39
    · exact u_d_X12_splitsF_33
theorem u_d_X12_doesF_494 {n : Nat} {v4 : Int32} {σ : Sg} : Le (d_X12_doesF_494 n v4 σ) (d_X12_doesF_494 (n + 1) v4 σ) := by
  unfold d_X12_doesF_494
  refine Le_bp (Le_refl _) (fun σ185 => ?_)
  exact Le_refl _
theorem u_d_X12_doesF_226 {n : Nat} {v4 : Int32} {s0 : UInt64} {s1 : Int32} {s2 : Nat} {σ : Sg} : Le (d_X12_doesF_226 n v4 s0 s1 s2 σ) (d_X12_doesF_226 (n + 1) v4 s0 s1 s2 σ) := by
  unfold d_X12_doesF_226
  refine Le_ck (fun _ => ?_)
  refine Le_nm (fun σ239 => ?_)
  exact u_d_X12_doesF_494
theorem u_d_X12_doesF_375 {n : Nat} {v4 : Int32} {s0 : UInt64} {s1 : Int32} {s2 : Nat} {σ : Sg} : Le (d_X12_doesF_375 n v4 s0 s1 s2 σ) (d_X12_doesF_375 (n + 1) v4 s0 s1 s2 σ) := by
  unfold d_X12_doesF_375
  refine Le_ck (fun _ => ?_)
  refine Le_nm (fun σ285 => ?_)
  exact u_d_X12_doesF_494
theorem u_d_X12_doesF_349 {n : Nat} {v4 : Int32} {v6 : Int32} {s0 : Int32} {σ : Sg} : Le (d_X12_doesF_349 n v4 v6 s0 σ) (d_X12_doesF_349 (n + 1) v4 v6 s0 σ) := by
  unfold d_X12_doesF_349
  refine Le_it ?_ ?_
  · refine Le_ck (fun _ => ?_)
    exact u_d_X12_doesF_375
  · exact u_d_X12_doesF_375
theorem u_d_X12_doesF_415 {n : Nat} {v4 : Int32} {s0 : Int64} {s1 : Int64} {s2 : Int32} {s3 : Nat} {σ : Sg} : Le (d_X12_doesF_415 n v4 s0 s1 s2 s3 σ) (d_X12_doesF_415 (n + 1) v4 s0 s1 s2 s3 σ) := by
  unfold d_X12_doesF_415
  refine Le_ck (fun _ => ?_)
  refine Le_nm (fun σ299 => ?_)
  exact u_d_X12_doesF_494
theorem u_d_X12_doesF_446 : ∀ {n : Nat} {v4 : Int32} {v5 : Int32} {v6 : Int32} {v10 : Int32} {σ : Sg}, Le (d_X12_doesF_446 n v4 v5 v6 v10 σ) (d_X12_doesF_446 (n + 1) v4 v5 v6 v10 σ) := by
  intro n
  induction n with
  | zero => intro v4 v5 v6 v10 σ; exact Le_none
  | succ n ih =>
    intro v4 v5 v6 v10 σ
    unfold d_X12_doesF_446
    refine Le_it ?_ ?_
    · exact u_d_X12_doesF_494
    · refine Le_ck (fun _ => ?_)
      refine Le_ck (fun _ => ?_)
      refine Le_bp (Le_refl _) (fun x320 => ?_)
      refine Le_ck (fun _ => ?_)
      refine Le_bp (Le_refl _) (fun x323 => ?_)
      refine Le_ck (fun _ => ?_)
      refine Le_ck (fun _ => ?_)
      refine Le_nm (fun σ326 => ?_)
      refine Le_bp (Le_refl _) (fun σ329 => ?_)
      refine Le_nm (fun x330 => ?_)
      exact ih
theorem u_c_X12_doesF {n : Nat} {v1 : Int32} {v2 : UInt64} {σ : Sg} : Le (c_X12_doesF n v1 v2 σ) (c_X12_doesF (n + 1) v1 v2 σ) := by
  unfold c_X12_doesF
  refine Le_ck (fun _ => ?_)
  refine Le_nm (fun x165 => ?_)
  refine Le_ck (fun _ => ?_)
  refine Le_nm (fun x169 => ?_)
  refine Le_ck (fun _ => ?_)
  refine Le_nm (fun x173 => ?_)
  refine Le_ck (fun _ => ?_)
  refine Le_it ?_ ?_
  · refine Le_ck (fun _ => ?_)
    refine Le_ck (fun _ => ?_)
    refine Le_nm (fun σ182 => ?_)
    exact u_d_X12_doesF_494
  · refine Le_it ?_ ?_
    · refine Le_ck (fun _ => ?_)
      refine Le_bp (Le_refl _) (fun x191 => ?_)
      refine Le_ck (fun _ => ?_)
      refine Le_bp (Le_refl _) (fun x194 => ?_)
      refine Le_ck (fun _ => ?_)
      refine Le_ck (fun _ => ?_)
      refine Le_nm (fun σ197 => ?_)
      exact u_d_X12_doesF_494
    · refine Le_it ?_ ?_
      · refine Le_ck (fun _ => ?_)
        refine Le_bp (Le_refl _) (fun x203 => ?_)
        refine Le_ck (fun _ => ?_)
        refine Le_bp (Le_refl _) (fun x206 => ?_)
        refine Le_ck (fun _ => ?_)
        refine Le_ck (fun _ => ?_)
        refine Le_nm (fun σ209 => ?_)
        exact u_d_X12_doesF_494
      · refine Le_it ?_ ?_
        · refine Le_ck (fun _ => ?_)
          refine Le_bp (Le_refl _) (fun x216 => ?_)
          refine Le_ck (fun _ => ?_)
          refine Le_ck (fun _ => ?_)
          refine Le_nm (fun σ219 => ?_)
          exact u_d_X12_doesF_494
        · refine Le_it ?_ ?_
          · refine Le_ck (fun _ => ?_)
            refine Le_bp (Le_refl _) (fun x226 => ?_)
            refine Le_ck (fun _ => ?_)
            refine Le_nm (fun σ228 => ?_)
            exact u_d_X12_doesF_494
          · refine Le_it ?_ ?_
            · refine Le_it ?_ ?_
              · refine Le_ck (fun _ => ?_)
                refine Le_ck (fun _ => ?_)
                refine Le_ck (fun _ => ?_)
                exact u_d_X12_doesF_226
              · refine Le_ck (fun _ => ?_)
                refine Le_ck (fun _ => ?_)
                refine Le_ck (fun _ => ?_)
                exact u_d_X12_doesF_226
            · refine Le_it ?_ ?_
              · refine Le_bp (u_c_X12_splitsF) (fun σ247 => ?_)
                exact u_d_X12_doesF_494
              · refine Le_it ?_ ?_
                · refine Le_ck (fun _ => ?_)
                  refine Le_ck (fun _ => ?_)
                  refine Le_nm (fun σ255 => ?_)
                  exact u_d_X12_doesF_494
                · refine Le_it ?_ ?_
                  · refine Le_ck (fun _ => ?_)
                    refine Le_ck (fun _ => ?_)
                    refine Le_nm (fun x261 => ?_)
                    refine Le_ck (fun _ => ?_)
                    refine Le_ck (fun _ => ?_)
                    refine Le_nm (fun σ265 => ?_)
                    refine Le_ck (fun _ => ?_)
                    refine Le_ck (fun _ => ?_)
                    refine Le_nm (fun σ271 => ?_)
                    exact u_d_X12_doesF_494
                  · refine Le_it ?_ ?_
                    · refine Le_it ?_ ?_
                      · refine Le_ck (fun _ => ?_)
                        refine Le_it ?_ ?_
                        · exact u_d_X12_doesF_349
                        · exact u_d_X12_doesF_349
                      · refine Le_ck (fun _ => ?_)
                        refine Le_it ?_ ?_
                        · exact u_d_X12_doesF_349
                        · exact u_d_X12_doesF_349
                    · refine Le_it ?_ ?_
                      · refine Le_ck (fun _ => ?_)
                        refine Le_it ?_ ?_
                        · refine Le_ck (fun _ => ?_)
                          exact u_d_X12_doesF_415
                        · refine Le_ck (fun _ => ?_)
                          exact u_d_X12_doesF_415
                      · refine Le_it ?_ ?_
                        · refine Le_ck (fun _ => ?_)
                          refine Le_bp (Le_refl _) (fun x309 => ?_)
                          refine Le_ck (fun _ => ?_)
                          refine Le_nm (fun σ311 => ?_)
                          exact u_d_X12_doesF_494
                        · exact u_d_X12_doesF_446
theorem u_d_X12_floats_45 : ∀ {n : Nat} {v1 : Int32} {v2 : Int32} {v3 : Int32} {σ : Sg}, Le (d_X12_floats_45 n v1 v2 v3 σ) (d_X12_floats_45 (n + 1) v1 v2 v3 σ) := by
  intro n
  induction n with
  | zero => intro v1 v2 v3 σ; exact Le_none
  | succ n ih =>
    intro v1 v2 v3 σ
    unfold d_X12_floats_45
    refine Le_ck (fun _ => ?_)
    refine Le_it ?_ ?_
    · exact Le_refl _
    · refine Le_bp (u_c_X12_doesF) (fun σ36 => ?_)
      refine Le_nm (fun x37 => ?_)
      exact ih
theorem u_d_X12_floats_43 {n : Nat} {v1 : Int32} {v2 : Int32} {σ : Sg} : Le (d_X12_floats_43 n v1 v2 σ) (d_X12_floats_43 (n + 1) v1 v2 σ) := by
  unfold d_X12_floats_43
  exact u_d_X12_floats_45
theorem u_d_X12_floats_7 : ∀ {n : Nat} {v1 : Int32} {v2 : Int32} {v3 : Int32} {σ : Sg}, Le (d_X12_floats_7 n v1 v2 v3 σ) (d_X12_floats_7 (n + 1) v1 v2 v3 σ) := by
  intro n
  induction n with
  | zero => intro v1 v2 v3 σ; exact Le_none
  | succ n ih =>
    intro v1 v2 v3 σ
    unfold d_X12_floats_7
    refine Le_it ?_ ?_
    · exact u_d_X12_floats_43
    · refine Le_ck (fun _ => ?_)
      refine Le_nm (fun σ42 => ?_)
      refine Le_ck (fun _ => ?_)
      refine Le_nm (fun σ47 => ?_)
      refine Le_ck (fun _ => ?_)
      refine Le_nm (fun σ52 => ?_)
      refine Le_nm (fun x53 => ?_)
      exact ih
theorem u_c_X12_floats {n : Nat} {v1 : Int32} {v2 : Int32} {σ : Sg} : Le (c_X12_floats n v1 v2 σ) (c_X12_floats (n + 1) v1 v2 σ) := by
  unfold c_X12_floats
  refine Le_nm (fun σ28 => ?_)
  exact u_d_X12_floats_7
theorem u_d_X12_breaks_98 {n : Nat} {σ : Sg} : Le (d_X12_breaks_98 n σ) (d_X12_breaks_98 (n + 1) σ) := by
  unfold d_X12_breaks_98
  exact Le_refl _
theorem u_d_X12_breaks_82 {n : Nat} {v5 : Int32} {v6 : Int64} {σ : Sg} : Le (d_X12_breaks_82 n v5 v6 σ) (d_X12_breaks_82 (n + 1) v5 v6 σ) := by
  unfold d_X12_breaks_82
  refine Le_it ?_ ?_
  · refine Le_it ?_ ?_
    · exact u_d_X12_breaks_98
    · exact Le_refl _
  · exact u_d_X12_breaks_98
theorem u_d_X12_breaks_54 : ∀ {n : Nat} {v5 : Int32} {v6 : Int64} {v8 : Int32} {σ : Sg}, Le (d_X12_breaks_54 n v5 v6 v8 σ) (d_X12_breaks_54 (n + 1) v5 v6 v8 σ) := by
  intro n
  induction n with
  | zero => intro v5 v6 v8 σ; exact Le_none
  | succ n ih =>
    intro v5 v6 v8 σ
    unfold d_X12_breaks_54
    refine Le_it ?_ ?_
    · exact u_d_X12_breaks_82
    · refine Le_ck (fun _ => ?_)
      refine Le_nm (fun x56 => ?_)
      refine Le_nm (fun x57 => ?_)
      exact ih
theorem u_d_X12_breaks_136 {n : Nat} {σ : Sg} : Le (d_X12_breaks_136 n σ) (d_X12_breaks_136 (n + 1) σ) := by
  unfold d_X12_breaks_136
  exact Le_refl _
theorem u_d_X12_breaks_171 {n : Nat} {σ : Sg} : Le (d_X12_breaks_171 n σ) (d_X12_breaks_171 (n + 1) σ) := by
  unfold d_X12_breaks_171
  exact Le_refl _
theorem u_d_X12_breaks_189 {n : Nat} {σ : Sg} : Le (d_X12_breaks_189 n σ) (d_X12_breaks_189 (n + 1) σ) := by
  unfold d_X12_breaks_189
  exact Le_refl _
theorem u_d_X12_breaks_210 {n : Nat} {σ : Sg} : Le (d_X12_breaks_210 n σ) (d_X12_breaks_210 (n + 1) σ) := by
  unfold d_X12_breaks_210
  exact Le_refl _
theorem u_c_X12_breaks {n : Nat} {v1 : Int32} {v2 : Int32} {v3 : Int32} {v4 : Int32} {σ : Sg} : Le (c_X12_breaks n v1 v2 v3 v4 σ) (c_X12_breaks (n + 1) v1 v2 v3 v4 σ) := by
  unfold c_X12_breaks
  refine Le_bd (u_c_X12_triesAmount) (fun x47 σ46 => ?_)
  refine Le_it ?_ ?_
  · exact u_d_X12_breaks_54
  · refine Le_it ?_ ?_
    · refine Le_bp (u_c_X12_notes) (fun σ61 => ?_)
      refine Le_bd (u_c_X12_triesAmount) (fun x65 σ64 => ?_)
      refine Le_it ?_ ?_
      · refine Le_it ?_ ?_
        · refine Le_bp (u_c_X12_differs) (fun x70 => ?_)
          refine Le_it ?_ ?_
          · exact u_d_X12_breaks_136
          · exact Le_refl _
        · exact u_d_X12_breaks_136
      · exact Le_refl _
    · refine Le_it ?_ ?_
      · refine Le_bp (u_c_X12_notes) (fun σ75 => ?_)
        refine Le_bd (u_c_X12_triesAmount) (fun x79 σ78 => ?_)
        refine Le_it ?_ ?_
        · refine Le_it ?_ ?_
          · refine Le_bp (u_c_X12_differs) (fun x84 => ?_)
            refine Le_it ?_ ?_
            · exact u_d_X12_breaks_171
            · exact Le_refl _
          · exact u_d_X12_breaks_171
        · exact Le_refl _
      · refine Le_it ?_ ?_
        · refine Le_it ?_ ?_
          · refine Le_bp (u_c_X12_isUnfair) (fun x90 => ?_)
            refine Le_it ?_ ?_
            · exact u_d_X12_breaks_189
            · exact Le_refl _
          · exact u_d_X12_breaks_189
        · refine Le_it ?_ ?_
          · refine Le_ck (fun _ => ?_)
            exact Le_refl _
          · refine Le_it ?_ ?_
            · refine Le_it ?_ ?_
              · refine Le_it ?_ ?_
                · exact u_d_X12_breaks_210
                · exact Le_refl _
              · exact u_d_X12_breaks_210
            · refine Le_it ?_ ?_
              · refine Le_bp (u_c_X12_notes) (fun σ101 => ?_)
                refine Le_bp (u_c_X12_floats) (fun σ104 => ?_)
                refine Le_bp (u_c_X12_differs) (fun x107 => ?_)
                refine Le_ck (fun _ => ?_)
                exact Le_refl _
              · exact Le_refl _
theorem u_d_X12_leastOf_4 : ∀ {n : Nat} {v1 : Int32} {v2 : Int32} {v3 : Int32} {v5 : Int32} {v6 : Int32} {σ : Sg}, Le (d_X12_leastOf_4 n v1 v2 v3 v5 v6 σ) (d_X12_leastOf_4 (n + 1) v1 v2 v3 v5 v6 σ) := by
  intro n
  induction n with
  | zero => intro v1 v2 v3 v5 v6 σ; exact Le_none
  | succ n ih =>
    intro v1 v2 v3 v5 v6 σ
    unfold d_X12_leastOf_4
    refine Le_it ?_ ?_
    · exact Le_refl _
    · refine Le_bd (u_c_X12_breaks) (fun x10 σ9 => ?_)
      refine Le_it ?_ ?_
      · refine Le_nm (fun x12 => ?_)
        exact ih
      · exact Le_refl _
theorem u_c_X12_leastOf {n : Nat} {v1 : Int32} {v2 : Int32} {v3 : Int32} {v4 : Int32} {v5 : Int32} {σ : Sg} : Le (c_X12_leastOf n v1 v2 v3 v4 v5 σ) (c_X12_leastOf (n + 1) v1 v2 v3 v4 v5 σ) := by
  unfold c_X12_leastOf
  exact u_d_X12_leastOf_4
theorem u_d_X12_least_39 {n : Nat} {v1 : Int32} {v2 : Int32} {v3 : Int32} {v4 : Int32} {v5 : Int32} {σ : Sg} : Le (d_X12_least_39 n v1 v2 v3 v4 v5 σ) (d_X12_least_39 (n + 1) v1 v2 v3 v4 v5 σ) := by
  unfold d_X12_least_39
  refine Le_bp (Le_refl _) (fun x25 => ?_)
  refine Le_it ?_ ?_
  · exact Le_refl _
  · refine Le_bd (u_c_X12_leastOf) (fun x30 σ29 => ?_)
    exact Le_refl _
theorem u_c_X12_least {n : Nat} {v1 : Int32} {v2 : Int32} {v3 : Int32} {v4 : Int32} {v5 : Int32} {σ : Sg} : Le (c_X12_least n v1 v2 v3 v4 v5 σ) (c_X12_least (n + 1) v1 v2 v3 v4 v5 σ) := by
  unfold c_X12_least
  refine Le_bp (Le_refl _) (fun x17 => ?_)
  refine Le_it ?_ ?_
  · exact Le_refl _
  · refine Le_bp (Le_refl _) (fun x20 => ?_)
    refine Le_it ?_ ?_
    · exact Le_refl _
    · refine Le_it ?_ ?_
      · refine Le_bp (Le_refl _) (fun x32 => ?_)
        refine Le_it ?_ ?_
        · exact Le_refl _
        · exact u_d_X12_least_39
      · refine Le_it ?_ ?_
        · exact u_d_X12_least_39
        · exact Le_refl _
theorem u_d_X12_steps_107 : ∀ {n : Nat} {v4 : Int32} {v5 : Int32} {σ : Sg}, Le (d_X12_steps_107 n v4 v5 σ) (d_X12_steps_107 (n + 1) v4 v5 σ) := by
  intro n
  induction n with
  | zero => intro v4 v5 σ; exact Le_none
  | succ n ih =>
    intro v4 v5 σ
    unfold d_X12_steps_107
    refine Le_it ?_ ?_
    · exact Le_refl _
    · refine Le_ck (fun _ => ?_)
      refine Le_nm (fun x90 => ?_)
      refine Le_ck (fun _ => ?_)
      refine Le_ck (fun _ => ?_)
      refine Le_nm (fun σ95 => ?_)
      refine Le_ck (fun _ => ?_)
      refine Le_nm (fun σ100 => ?_)
      refine Le_nm (fun x101 => ?_)
      refine Le_nm (fun x102 => ?_)
      exact ih
theorem u_d_X12_steps_68 {n : Nat} {v1 : Int32} {v2 : Int32} {σ : Sg} : Le (d_X12_steps_68 n v1 v2 σ) (d_X12_steps_68 (n + 1) v1 v2 σ) := by
  unfold d_X12_steps_68
  refine Le_ck (fun _ => ?_)
  refine Le_nm (fun x71 => ?_)
  refine Le_ck (fun _ => ?_)
  refine Le_ck (fun _ => ?_)
  refine Le_nm (fun σ76 => ?_)
  refine Le_ck (fun _ => ?_)
  refine Le_nm (fun σ81 => ?_)
  refine Le_nm (fun x82 => ?_)
  refine Le_nm (fun x84 => ?_)
  exact u_d_X12_steps_107
theorem u_d_X12_steps_47 : ∀ {n : Nat} {v1 : Int32} {v2 : Int32} {σ : Sg}, Le (d_X12_steps_47 n v1 v2 σ) (d_X12_steps_47 (n + 1) v1 v2 σ) := by
  intro n
  induction n with
  | zero => intro v1 v2 σ; exact Le_none
  | succ n ih =>
    intro v1 v2 σ
    unfold d_X12_steps_47
    refine Le_ck (fun _ => ?_)
    refine Le_ck (fun _ => ?_)
    refine Le_it ?_ ?_
    · exact u_d_X12_steps_68
    · refine Le_nm (fun x103 => ?_)
      exact ih
theorem u_d_X12_steps_34 {n : Nat} {v1 : Int32} {σ : Sg} : Le (d_X12_steps_34 n v1 σ) (d_X12_steps_34 (n + 1) v1 σ) := by
  unfold d_X12_steps_34
  refine Le_it ?_ ?_
  · refine Le_nm (fun x59 => ?_)
    exact u_d_X12_steps_47
  · exact Le_refl _
theorem u_d_X12_steps_7 : ∀ {n : Nat} {v1 : Int32} {σ : Sg}, Le (d_X12_steps_7 n v1 σ) (d_X12_steps_7 (n + 1) v1 σ) := by
  intro n
  induction n with
  | zero => intro v1 σ; exact Le_none
  | succ n ih =>
    intro v1 σ
    unfold d_X12_steps_7
    refine Le_it ?_ ?_
    · exact u_d_X12_steps_34
    · refine Le_ck (fun _ => ?_)
      refine Le_ck (fun _ => ?_)
      refine Le_it ?_ ?_
      · exact u_d_X12_steps_34
      · refine Le_nm (fun x111 => ?_)
        exact ih
theorem u_c_X12_steps {n : Nat} {σ : Sg} : Le (c_X12_steps n σ) (c_X12_steps (n + 1) σ) := by
  unfold c_X12_steps
  refine Le_nm (fun x55 => ?_)
  exact u_d_X12_steps_7
theorem u_d_X12_triesOrder_41 {n : Nat} {v1 : Int32} {σ : Sg} : Le (d_X12_triesOrder_41 n v1 σ) (d_X12_triesOrder_41 (n + 1) v1 σ) := by
  unfold d_X12_triesOrder_41
  refine Le_bd (u_c_X12_tries) (fun x27 σ26 => ?_)
  refine Le_ck (fun _ => ?_)
  exact Le_refl _
theorem u_d_X12_triesOrder_10 : ∀ {n : Nat} {v1 : Int32} {v2 : Int32} {σ : Sg}, Le (d_X12_triesOrder_10 n v1 v2 σ) (d_X12_triesOrder_10 (n + 1) v1 v2 σ) := by
  intro n
  induction n with
  | zero => intro v1 v2 σ; exact Le_none
  | succ n ih =>
    intro v1 v2 σ
    unfold d_X12_triesOrder_10
    refine Le_it ?_ ?_
    · exact u_d_X12_triesOrder_41
    · refine Le_ck (fun _ => ?_)
      refine Le_ck (fun _ => ?_)
      refine Le_ck (fun _ => ?_)
      refine Le_nm (fun σ38 => ?_)
      refine Le_nm (fun x39 => ?_)
      exact ih
theorem u_c_X12_triesOrder {n : Nat} {v1 : Int32} {σ : Sg} : Le (c_X12_triesOrder n v1 σ) (c_X12_triesOrder (n + 1) v1 σ) := by
  unfold c_X12_triesOrder
  refine Le_nm (fun σ21 => ?_)
  exact u_d_X12_triesOrder_10
theorem u_d_X12_order_178 {k88 k88' : Int32 → Sg → Option (Int32 × Sg)} {n : Nat} {v1 : Int32} {v2 : Int32} {v3 : Int32} {v4 : Int32} {σ : Sg} (h_k88 : ∀ (c0 : Int32) (c1 : Sg), Le (k88 c0 c1) (k88' c0 c1)) : Le (d_X12_order_178 k88 n v1 v2 v3 v4 σ) (d_X12_order_178 k88' (n + 1) v1 v2 v3 v4 σ) := by
  unfold d_X12_order_178
  refine Le_it ?_ ?_
  · exact h_k88 _ _
  · exact Le_refl _
theorem u_d_X12_order_170 {k88 k88' : Int32 → Sg → Option (Int32 × Sg)} {k125 k125' : Int32 → Int32 → Option (Int32 × Sg)} {n : Nat} {v1 : Int32} {v2 : Int32} {v3 : Int32} {v5 : Int32} {s0 : Int32} {σ : Sg} (h_k88 : ∀ (c0 : Int32) (c1 : Sg), Le (k88 c0 c1) (k88' c0 c1)) (h_k125 : ∀ (c0 : Int32) (c1 : Int32), Le (k125 c0 c1) (k125' c0 c1)) : Le (d_X12_order_170 k88 k125 n v1 v2 v3 v5 s0 σ) (d_X12_order_170 k88' k125' (n + 1) v1 v2 v3 v5 s0 σ) := by
  unfold d_X12_order_170
  refine Le_nm (fun x84 => ?_)
  exact h_k125 _ _
theorem u_d_X12_order_165 {k88 k88' : Int32 → Sg → Option (Int32 × Sg)} {k125 k125' : Int32 → Int32 → Option (Int32 × Sg)} {n : Nat} {v1 : Int32} {v2 : Int32} {v3 : Int32} {v5 : Int32} {σ : Sg} (h_k88 : ∀ (c0 : Int32) (c1 : Sg), Le (k88 c0 c1) (k88' c0 c1)) (h_k125 : ∀ (c0 : Int32) (c1 : Int32), Le (k125 c0 c1) (k125' c0 c1)) : Le (d_X12_order_165 k88 k125 n v1 v2 v3 v5 σ) (d_X12_order_165 k88' k125' (n + 1) v1 v2 v3 v5 σ) := by
  unfold d_X12_order_165
  exact u_d_X12_order_170 h_k88 h_k125
theorem u_d_X12_order_125 {k88 k88' : Int32 → Sg → Option (Int32 × Sg)} (h_k88 : ∀ (c0 : Int32) (c1 : Sg), Le (k88 c0 c1) (k88' c0 c1)) : ∀ {n : Nat} {v1 : Int32} {v2 : Int32} {v3 : Int32} {v4 : Int32} {v5 : Int32} {σ : Sg}, Le (d_X12_order_125 k88 n v1 v2 v3 v4 v5 σ) (d_X12_order_125 k88' (n + 1) v1 v2 v3 v4 v5 σ) := by
  intro n
  induction n with
  | zero => intro v1 v2 v3 v4 v5 σ; exact Le_none
  | succ n ih =>
    intro v1 v2 v3 v4 v5 σ
    unfold d_X12_order_125
    refine Le_it ?_ ?_
    · exact u_d_X12_order_178 h_k88
    · refine Le_it ?_ ?_
      · refine Le_ck (fun _ => ?_)
        refine Le_ck (fun _ => ?_)
        refine Le_ck (fun _ => ?_)
        refine Le_it ?_ ?_
        · exact u_d_X12_order_170 h_k88 (fun c4 c5 => ih)
        · exact u_d_X12_order_165 h_k88 (fun c4 c5 => ih)
      · exact u_d_X12_order_165 h_k88 (fun c4 c5 => ih)
theorem u_d_X12_order_120 {k88 k88' : Int32 → Sg → Option (Int32 × Sg)} {n : Nat} {v1 : Int32} {v2 : Int32} {v3 : Int32} {s0 : Int32} {σ : Sg} (h_k88 : ∀ (c0 : Int32) (c1 : Sg), Le (k88 c0 c1) (k88' c0 c1)) : Le (d_X12_order_120 k88 n v1 v2 v3 s0 σ) (d_X12_order_120 k88' (n + 1) v1 v2 v3 s0 σ) := by
  unfold d_X12_order_120
  exact u_d_X12_order_125 h_k88
theorem u_d_X12_order_115 {k88 k88' : Int32 → Sg → Option (Int32 × Sg)} {n : Nat} {v1 : Int32} {v2 : Int32} {v3 : Int32} {σ : Sg} (h_k88 : ∀ (c0 : Int32) (c1 : Sg), Le (k88 c0 c1) (k88' c0 c1)) : Le (d_X12_order_115 k88 n v1 v2 v3 σ) (d_X12_order_115 k88' (n + 1) v1 v2 v3 σ) := by
  unfold d_X12_order_115
  exact u_d_X12_order_120 h_k88
theorem u_d_X12_order_88 : ∀ {n : Nat} {v1 : Int32} {v2 : Int32} {v3 : Int32} {σ : Sg}, Le (d_X12_order_88 n v1 v2 v3 σ) (d_X12_order_88 (n + 1) v1 v2 v3 σ) := by
  intro n
  induction n with
  | zero => intro v1 v2 v3 σ; exact Le_none
  | succ n ih =>
    intro v1 v2 v3 σ
    unfold d_X12_order_88
    refine Le_bd (u_c_X12_steps) (fun x72 σ71 => ?_)
    refine Le_it ?_ ?_
    · exact Le_refl _
    · refine Le_nm (fun x74 => ?_)
      refine Le_bd (u_c_X12_triesOrder) (fun x78 σ77 => ?_)
      refine Le_it ?_ ?_
      · refine Le_bp (u_c_X12_differs) (fun x97 => ?_)
        refine Le_it ?_ ?_
        · exact u_d_X12_order_120 (fun c3 τ => ih)
        · exact u_d_X12_order_115 (fun c3 τ => ih)
      · exact u_d_X12_order_115 (fun c3 τ => ih)
theorem u_d_X12_order_86 {n : Nat} {v1 : Int32} {v2 : Int32} {σ : Sg} : Le (d_X12_order_86 n v1 v2 σ) (d_X12_order_86 (n + 1) v1 v2 σ) := by
  unfold d_X12_order_86
  exact u_d_X12_order_88
theorem u_d_X12_order_57 : ∀ {n : Nat} {v1 : Int32} {v2 : Int32} {v3 : Int32} {σ : Sg}, Le (d_X12_order_57 n v1 v2 v3 σ) (d_X12_order_57 (n + 1) v1 v2 v3 σ) := by
  intro n
  induction n with
  | zero => intro v1 v2 v3 σ; exact Le_none
  | succ n ih =>
    intro v1 v2 v3 σ
    unfold d_X12_order_57
    refine Le_it ?_ ?_
    · exact u_d_X12_order_86
    · refine Le_ck (fun _ => ?_)
      refine Le_ck (fun _ => ?_)
      refine Le_nm (fun σ105 => ?_)
      refine Le_nm (fun x106 => ?_)
      exact ih
theorem u_d_X12_order_45 {n : Nat} {v1 : Int32} {σ : Sg} : Le (d_X12_order_45 n v1 σ) (d_X12_order_45 (n + 1) v1 σ) := by
  unfold d_X12_order_45
  refine Le_bd (u_c_X12_triesOrder) (fun x63 σ62 => ?_)
  refine Le_bp (u_c_X12_notes) (fun σ66 => ?_)
  exact u_d_X12_order_57
theorem u_d_X12_order_24 : ∀ {n : Nat} {v1 : Int32} {v2 : Int32} {σ : Sg}, Le (d_X12_order_24 n v1 v2 σ) (d_X12_order_24 (n + 1) v1 v2 σ) := by
  intro n
  induction n with
  | zero => intro v1 v2 σ; exact Le_none
  | succ n ih =>
    intro v1 v2 σ
    unfold d_X12_order_24
    refine Le_it ?_ ?_
    · exact u_d_X12_order_45
    · refine Le_ck (fun _ => ?_)
      refine Le_nm (fun σ110 => ?_)
      refine Le_nm (fun x111 => ?_)
      exact ih
theorem u_c_X12_order {n : Nat} {v1 : Int32} {σ : Sg} : Le (c_X12_order n v1 σ) (c_X12_order (n + 1) v1 σ) := by
  unfold c_X12_order
  refine Le_bp (Le_refl _) (fun x55 => ?_)
  refine Le_it ?_ ?_
  · exact Le_refl _
  · refine Le_it ?_ ?_
    · exact u_d_X12_order_24
    · exact Le_refl _
theorem u_d_X12_drift_476 {n : Nat} {v8 : Int32} {v10 : Int64} {v12 : Int64} {σ : Sg} : Le (d_X12_drift_476 n v8 v10 v12 σ) (d_X12_drift_476 (n + 1) v8 v10 v12 σ) := by
  unfold d_X12_drift_476
  refine Le_ck (fun _ => ?_)
  exact Le_refl _
theorem u_d_X12_drift_468 {k401 k401' : Int64 → Int32 → Option (Int32 × Sg)} {n : Nat} {v2 : Int32} {v8 : Int32} {v9 : Int32} {v10 : Int64} {v14 : Int32} {s0 : Int64} {σ : Sg} (h_k401 : ∀ (c0 : Int64) (c1 : Int32), Le (k401 c0 c1) (k401' c0 c1)) : Le (d_X12_drift_468 k401 n v2 v8 v9 v10 v14 s0 σ) (d_X12_drift_468 k401' (n + 1) v2 v8 v9 v10 v14 s0 σ) := by
  unfold d_X12_drift_468
  refine Le_nm (fun x138 => ?_)
  exact h_k401 _ _
theorem u_d_X12_drift_466 {k401 k401' : Int64 → Int32 → Option (Int32 × Sg)} {n : Nat} {v2 : Int32} {v8 : Int32} {v9 : Int32} {v10 : Int64} {v12 : Int64} {v14 : Int32} {σ : Sg} (h_k401 : ∀ (c0 : Int64) (c1 : Int32), Le (k401 c0 c1) (k401' c0 c1)) : Le (d_X12_drift_466 k401 n v2 v8 v9 v10 v12 v14 σ) (d_X12_drift_466 k401' (n + 1) v2 v8 v9 v10 v12 v14 σ) := by
  unfold d_X12_drift_466
  exact u_d_X12_drift_468 h_k401
theorem u_d_X12_drift_401 : ∀ {n : Nat} {v2 : Int32} {v8 : Int32} {v9 : Int32} {v10 : Int64} {v12 : Int64} {v14 : Int32} {σ : Sg}, Le (d_X12_drift_401 n v2 v8 v9 v10 v12 v14 σ) (d_X12_drift_401 (n + 1) v2 v8 v9 v10 v12 v14 σ) := by
  intro n
  induction n with
  | zero => intro v2 v8 v9 v10 v12 v14 σ; exact Le_none
  | succ n ih =>
    intro v2 v8 v9 v10 v12 v14 σ
    unfold d_X12_drift_401
    refine Le_it ?_ ?_
    · exact u_d_X12_drift_476
    · refine Le_ck (fun _ => ?_)
      refine Le_bp (Le_refl _) (fun x133 => ?_)
      refine Le_nm (fun x134 => ?_)
      refine Le_ck (fun _ => ?_)
      refine Le_it ?_ ?_
      · exact u_d_X12_drift_466 (fun c12 c14 => ih)
      · refine Le_it ?_ ?_
        · exact u_d_X12_drift_466 (fun c12 c14 => ih)
        · exact u_d_X12_drift_468 (fun c12 c14 => ih)
theorem u_d_X12_drift_393 {n : Nat} {v2 : Int32} {v8 : Int32} {v9 : Int32} {v10 : Int64} {σ : Sg} : Le (d_X12_drift_393 n v2 v8 v9 v10 σ) (d_X12_drift_393 (n + 1) v2 v8 v9 v10 σ) := by
  unfold d_X12_drift_393
  exact u_d_X12_drift_401
theorem u_d_X12_drift_387 {k196 k196' : Int32 → Sg → Option (Int32 × Sg)} {n : Nat} {v2 : Int32} {v3 : Int32} {v8 : Int32} {v9 : Int32} {v10 : Int64} {v12 : Int32} {σ : Sg} (h_k196 : ∀ (c0 : Int32) (c1 : Sg), Le (k196 c0 c1) (k196' c0 c1)) : Le (d_X12_drift_387 k196 n v2 v3 v8 v9 v10 v12 σ) (d_X12_drift_387 k196' (n + 1) v2 v3 v8 v9 v10 v12 σ) := by
  unfold d_X12_drift_387
  refine Le_nm (fun x143 => ?_)
  exact h_k196 _ _
theorem u_d_X12_drift_360 {k196 k196' : Int32 → Sg → Option (Int32 × Sg)} (h_k196 : ∀ (c0 : Int32) (c1 : Sg), Le (k196 c0 c1) (k196' c0 c1)) : ∀ {n : Nat} {v2 : Int32} {v3 : Int32} {v8 : Int32} {v9 : Int32} {v10 : Int64} {v12 : Int32} {v13 : Int32} {σ : Sg}, Le (d_X12_drift_360 k196 n v2 v3 v8 v9 v10 v12 v13 σ) (d_X12_drift_360 k196' (n + 1) v2 v3 v8 v9 v10 v12 v13 σ) := by
  intro n
  induction n with
  | zero => intro v2 v3 v8 v9 v10 v12 v13 σ; exact Le_none
  | succ n ih =>
    intro v2 v3 v8 v9 v10 v12 v13 σ
    unfold d_X12_drift_360
    refine Le_it ?_ ?_
    · exact u_d_X12_drift_387 h_k196
    · refine Le_ck (fun _ => ?_)
      refine Le_ck (fun _ => ?_)
      refine Le_nm (fun σ151 => ?_)
      refine Le_nm (fun x152 => ?_)
      exact ih
theorem u_d_X12_drift_357 {k196 k196' : Int32 → Sg → Option (Int32 × Sg)} {n : Nat} {v2 : Int32} {v3 : Int32} {v8 : Int32} {v9 : Int32} {v10 : Int64} {v12 : Int32} {σ : Sg} (h_k196 : ∀ (c0 : Int32) (c1 : Sg), Le (k196 c0 c1) (k196' c0 c1)) : Le (d_X12_drift_357 k196 n v2 v3 v8 v9 v10 v12 σ) (d_X12_drift_357 k196' (n + 1) v2 v3 v8 v9 v10 v12 σ) := by
  unfold d_X12_drift_357
  exact u_d_X12_drift_360 h_k196
theorem u_d_X12_drift_351 {k196 k196' : Int32 → Sg → Option (Int32 × Sg)} {k231 k231' : Int32 → Sg → Option (Int32 × Sg)} {n : Nat} {v2 : Int32} {v3 : Int32} {v8 : Int32} {v9 : Int32} {v10 : Int64} {v12 : Int32} {v13 : Int32} {σ : Sg} (h_k196 : ∀ (c0 : Int32) (c1 : Sg), Le (k196 c0 c1) (k196' c0 c1)) (h_k231 : ∀ (c0 : Int32) (c1 : Sg), Le (k231 c0 c1) (k231' c0 c1)) : Le (d_X12_drift_351 k196 k231 n v2 v3 v8 v9 v10 v12 v13 σ) (d_X12_drift_351 k196' k231' (n + 1) v2 v3 v8 v9 v10 v12 v13 σ) := by
  unfold d_X12_drift_351
  refine Le_nm (fun x154 => ?_)
  exact h_k231 _ _
theorem u_d_X12_drift_344 {k196 k196' : Int32 → Sg → Option (Int32 × Sg)} {k231 k231' : Int32 → Sg → Option (Int32 × Sg)} {k241 k241' : Int32 → Sg → Option (Int32 × Sg)} {n : Nat} {v2 : Int32} {v3 : Int32} {v8 : Int32} {v9 : Int32} {v10 : Int64} {v12 : Int32} {v13 : Int32} {v14 : Int32} {s0 : Int64} {s1 : Int32} {s2 : Nat} {σ : Sg} (h_k196 : ∀ (c0 : Int32) (c1 : Sg), Le (k196 c0 c1) (k196' c0 c1)) (h_k231 : ∀ (c0 : Int32) (c1 : Sg), Le (k231 c0 c1) (k231' c0 c1)) (h_k241 : ∀ (c0 : Int32) (c1 : Sg), Le (k241 c0 c1) (k241' c0 c1)) : Le (d_X12_drift_344 k196 k231 k241 n v2 v3 v8 v9 v10 v12 v13 v14 s0 s1 s2 σ) (d_X12_drift_344 k196' k231' k241' (n + 1) v2 v3 v8 v9 v10 v12 v13 v14 s0 s1 s2 σ) := by
  unfold d_X12_drift_344
  refine Le_ck (fun _ => ?_)
  refine Le_nm (fun σ178 => ?_)
  refine Le_nm (fun x179 => ?_)
  exact h_k241 _ _
theorem u_d_X12_drift_337 {k196 k196' : Int32 → Sg → Option (Int32 × Sg)} {k231 k231' : Int32 → Sg → Option (Int32 × Sg)} {k241 k241' : Int32 → Sg → Option (Int32 × Sg)} {n : Nat} {v2 : Int32} {v3 : Int32} {v8 : Int32} {v9 : Int32} {v10 : Int64} {v12 : Int32} {v13 : Int32} {v14 : Int32} {v17 : Int32} {s0 : Int32} {s1 : Nat} {σ : Sg} (h_k196 : ∀ (c0 : Int32) (c1 : Sg), Le (k196 c0 c1) (k196' c0 c1)) (h_k231 : ∀ (c0 : Int32) (c1 : Sg), Le (k231 c0 c1) (k231' c0 c1)) (h_k241 : ∀ (c0 : Int32) (c1 : Sg), Le (k241 c0 c1) (k241' c0 c1)) : Le (d_X12_drift_337 k196 k231 k241 n v2 v3 v8 v9 v10 v12 v13 v14 v17 s0 s1 σ) (d_X12_drift_337 k196' k231' k241' (n + 1) v2 v3 v8 v9 v10 v12 v13 v14 v17 s0 s1 σ) := by
  unfold d_X12_drift_337
  refine Le_ck (fun _ => ?_)
  exact u_d_X12_drift_344 h_k196 h_k231 h_k241
theorem u_d_X12_drift_241 {k196 k196' : Int32 → Sg → Option (Int32 × Sg)} {k231 k231' : Int32 → Sg → Option (Int32 × Sg)} (h_k196 : ∀ (c0 : Int32) (c1 : Sg), Le (k196 c0 c1) (k196' c0 c1)) (h_k231 : ∀ (c0 : Int32) (c1 : Sg), Le (k231 c0 c1) (k231' c0 c1)) : ∀ {n : Nat} {v2 : Int32} {v3 : Int32} {v8 : Int32} {v9 : Int32} {v10 : Int64} {v12 : Int32} {v13 : Int32} {v14 : Int32} {σ : Sg}, Le (d_X12_drift_241 k196 k231 n v2 v3 v8 v9 v10 v12 v13 v14 σ) (d_X12_drift_241 k196' k231' (n + 1) v2 v3 v8 v9 v10 v12 v13 v14 σ) := by
  intro n
  induction n with
  | zero => intro v2 v3 v8 v9 v10 v12 v13 v14 σ; exact Le_none
  | succ n ih =>
    intro v2 v3 v8 v9 v10 v12 v13 v14 σ
    unfold d_X12_drift_241
    refine Le_it ?_ ?_
    · exact u_d_X12_drift_351 h_k196 h_k231
    · refine Le_ck (fun _ => ?_)
      refine Le_it ?_ ?_
      · exact u_d_X12_drift_351 h_k196 h_k231
      · refine Le_ck (fun _ => ?_)
        refine Le_bp (Le_refl _) (fun x163 => ?_)
        refine Le_nm (fun x164 => ?_)
        refine Le_ck (fun _ => ?_)
        refine Le_nm (fun x166 => ?_)
        refine Le_ck (fun _ => ?_)
        refine Le_it ?_ ?_
        · exact u_d_X12_drift_337 h_k196 h_k231 (fun c14 τ => ih)
        · refine Le_ck (fun _ => ?_)
          refine Le_it ?_ ?_
          · exact u_d_X12_drift_337 h_k196 h_k231 (fun c14 τ => ih)
          · exact u_d_X12_drift_344 h_k196 h_k231 (fun c14 τ => ih)
theorem u_d_X12_drift_231 {k196 k196' : Int32 → Sg → Option (Int32 × Sg)} (h_k196 : ∀ (c0 : Int32) (c1 : Sg), Le (k196 c0 c1) (k196' c0 c1)) : ∀ {n : Nat} {v2 : Int32} {v3 : Int32} {v8 : Int32} {v9 : Int32} {v10 : Int64} {v12 : Int32} {v13 : Int32} {σ : Sg}, Le (d_X12_drift_231 k196 n v2 v3 v8 v9 v10 v12 v13 σ) (d_X12_drift_231 k196' (n + 1) v2 v3 v8 v9 v10 v12 v13 σ) := by
  intro n
  induction n with
  | zero => intro v2 v3 v8 v9 v10 v12 v13 σ; exact Le_none
  | succ n ih =>
    intro v2 v3 v8 v9 v10 v12 v13 σ
    unfold d_X12_drift_231
    refine Le_it ?_ ?_
    · exact u_d_X12_drift_357 h_k196
    · exact u_d_X12_drift_241 h_k196 (fun c13 τ => ih)
theorem u_d_X12_drift_228 {k196 k196' : Int32 → Sg → Option (Int32 × Sg)} {n : Nat} {v2 : Int32} {v3 : Int32} {v8 : Int32} {v9 : Int32} {v10 : Int64} {v12 : Int32} {σ : Sg} (h_k196 : ∀ (c0 : Int32) (c1 : Sg), Le (k196 c0 c1) (k196' c0 c1)) : Le (d_X12_drift_228 k196 n v2 v3 v8 v9 v10 v12 σ) (d_X12_drift_228 k196' (n + 1) v2 v3 v8 v9 v10 v12 σ) := by
  unfold d_X12_drift_228
  exact u_d_X12_drift_231 h_k196
theorem u_d_X12_drift_205 {k196 k196' : Int32 → Sg → Option (Int32 × Sg)} (h_k196 : ∀ (c0 : Int32) (c1 : Sg), Le (k196 c0 c1) (k196' c0 c1)) : ∀ {n : Nat} {v2 : Int32} {v3 : Int32} {v8 : Int32} {v9 : Int32} {v10 : Int64} {v12 : Int32} {v13 : Int32} {σ : Sg}, Le (d_X12_drift_205 k196 n v2 v3 v8 v9 v10 v12 v13 σ) (d_X12_drift_205 k196' (n + 1) v2 v3 v8 v9 v10 v12 v13 σ) := by
  intro n
  induction n with
  | zero => intro v2 v3 v8 v9 v10 v12 v13 σ; exact Le_none
  | succ n ih =>
    intro v2 v3 v8 v9 v10 v12 v13 σ
    unfold d_X12_drift_205
    refine Le_it ?_ ?_
    · exact u_d_X12_drift_228 h_k196
    · refine Le_ck (fun _ => ?_)
      refine Le_nm (fun σ187 => ?_)
      refine Le_nm (fun x188 => ?_)
      exact ih
theorem u_d_X12_drift_196 : ∀ {n : Nat} {v2 : Int32} {v3 : Int32} {v8 : Int32} {v9 : Int32} {v10 : Int64} {v12 : Int32} {σ : Sg}, Le (d_X12_drift_196 n v2 v3 v8 v9 v10 v12 σ) (d_X12_drift_196 (n + 1) v2 v3 v8 v9 v10 v12 σ) := by
  intro n
  induction n with
  | zero => intro v2 v3 v8 v9 v10 v12 σ; exact Le_none
  | succ n ih =>
    intro v2 v3 v8 v9 v10 v12 σ
    unfold d_X12_drift_196
    refine Le_it ?_ ?_
    · exact u_d_X12_drift_393
    · exact u_d_X12_drift_205 (fun c12 τ => ih)
theorem u_d_X12_drift_193 {n : Nat} {v2 : Int32} {v3 : Int32} {v8 : Int32} {v9 : Int32} {v10 : Int64} {σ : Sg} : Le (d_X12_drift_193 n v2 v3 v8 v9 v10 σ) (d_X12_drift_193 (n + 1) v2 v3 v8 v9 v10 σ) := by
  unfold d_X12_drift_193
  exact u_d_X12_drift_196
theorem u_d_X12_drift_162 : ∀ {n : Nat} {v2 : Int32} {v3 : Int32} {v4 : Int32} {v7 : Int32} {v8 : Int32} {v9 : Int32} {v10 : Int64} {v12 : Int32} {σ : Sg}, Le (d_X12_drift_162 n v2 v3 v4 v7 v8 v9 v10 v12 σ) (d_X12_drift_162 (n + 1) v2 v3 v4 v7 v8 v9 v10 v12 σ) := by
  intro n
  induction n with
  | zero => intro v2 v3 v4 v7 v8 v9 v10 v12 σ; exact Le_none
  | succ n ih =>
    intro v2 v3 v4 v7 v8 v9 v10 v12 σ
    unfold d_X12_drift_162
    refine Le_it ?_ ?_
    · exact u_d_X12_drift_193
    · refine Le_ck (fun _ => ?_)
      refine Le_ck (fun _ => ?_)
      refine Le_nm (fun σ194 => ?_)
      refine Le_nm (fun x195 => ?_)
      exact ih
theorem u_d_X12_drift_159 {n : Nat} {v2 : Int32} {v3 : Int32} {v4 : Int32} {v7 : Int32} {v8 : Int32} {v9 : Int32} {v10 : Int64} {σ : Sg} : Le (d_X12_drift_159 n v2 v3 v4 v7 v8 v9 v10 σ) (d_X12_drift_159 (n + 1) v2 v3 v4 v7 v8 v9 v10 σ) := by
  unfold d_X12_drift_159
  exact u_d_X12_drift_162
theorem u_d_X12_drift_152 {k119 k119' : Int32 → Sg → Option (Int32 × Sg)} {n : Nat} {v2 : Int32} {v3 : Int32} {v4 : Int32} {v7 : Int32} {v8 : Int32} {v9 : Int32} {v10 : Int64} {v12 : Int32} {s0 : Int64} {s1 : Int32} {s2 : Nat} {σ : Sg} (h_k119 : ∀ (c0 : Int32) (c1 : Sg), Le (k119 c0 c1) (k119' c0 c1)) : Le (d_X12_drift_152 k119 n v2 v3 v4 v7 v8 v9 v10 v12 s0 s1 s2 σ) (d_X12_drift_152 k119' (n + 1) v2 v3 v4 v7 v8 v9 v10 v12 s0 s1 s2 σ) := by
  unfold d_X12_drift_152
  refine Le_ck (fun _ => ?_)
  refine Le_nm (fun σ206 => ?_)
  refine Le_nm (fun x207 => ?_)
  exact h_k119 _ _
theorem u_d_X12_drift_119 : ∀ {n : Nat} {v2 : Int32} {v3 : Int32} {v4 : Int32} {v7 : Int32} {v8 : Int32} {v9 : Int32} {v10 : Int64} {v12 : Int32} {σ : Sg}, Le (d_X12_drift_119 n v2 v3 v4 v7 v8 v9 v10 v12 σ) (d_X12_drift_119 (n + 1) v2 v3 v4 v7 v8 v9 v10 v12 σ) := by
  intro n
  induction n with
  | zero => intro v2 v3 v4 v7 v8 v9 v10 v12 σ; exact Le_none
  | succ n ih =>
    intro v2 v3 v4 v7 v8 v9 v10 v12 σ
    unfold d_X12_drift_119
    refine Le_it ?_ ?_
    · exact u_d_X12_drift_159
    · refine Le_ck (fun _ => ?_)
      refine Le_nm (fun σ200 => ?_)
      refine Le_it ?_ ?_
      · exact u_d_X12_drift_152 (fun c12 τ => ih)
      · exact u_d_X12_drift_152 (fun c12 τ => ih)
theorem u_d_X12_drift_114 {n : Nat} {v2 : Int32} {v3 : Int32} {v4 : Int32} {v7 : Int32} {v8 : Int32} {v9 : Int32} {s0 : Int64} {σ : Sg} : Le (d_X12_drift_114 n v2 v3 v4 v7 v8 v9 s0 σ) (d_X12_drift_114 (n + 1) v2 v3 v4 v7 v8 v9 s0 σ) := by
  unfold d_X12_drift_114
  exact u_d_X12_drift_119
theorem u_d_X12_drift_67 {n : Nat} {v1 : Int32} {v2 : Int32} {v3 : Int32} {v4 : Int32} {v5 : Int32} {s0 : Int32} {σ : Sg} : Le (d_X12_drift_67 n v1 v2 v3 v4 v5 s0 σ) (d_X12_drift_67 (n + 1) v1 v2 v3 v4 v5 s0 σ) := by
  unfold d_X12_drift_67
  refine Le_bd (Le_refl _) (fun x110 σ109 => ?_)
  refine Le_it ?_ ?_
  · refine Le_ck (fun _ => ?_)
    refine Le_nm (fun x116 => ?_)
    refine Le_ck (fun _ => ?_)
    refine Le_nm (fun x120 => ?_)
    refine Le_nm (fun x121 => ?_)
    refine Le_it ?_ ?_
    · exact u_d_X12_drift_114
    · exact u_d_X12_drift_114
  · exact Le_refl _
theorem u_d_X12_drift_66 {n : Nat} {v1 : Int32} {v2 : Int32} {v3 : Int32} {v4 : Int32} {v5 : Int32} {σ : Sg} : Le (d_X12_drift_66 n v1 v2 v3 v4 v5 σ) (d_X12_drift_66 (n + 1) v1 v2 v3 v4 v5 σ) := by
  unfold d_X12_drift_66
  exact u_d_X12_drift_67
theorem u_c_X12_drift {n : Nat} {v1 : Int32} {v2 : Int32} {v3 : Int32} {v4 : Int32} {v5 : Int32} {σ : Sg} : Le (c_X12_drift n v1 v2 v3 v4 v5 σ) (c_X12_drift (n + 1) v1 v2 v3 v4 v5 σ) := by
  unfold c_X12_drift
  refine Le_bp (Le_refl _) (fun x105 => ?_)
  refine Le_it ?_ ?_
  · exact u_d_X12_drift_66
  · refine Le_ck (fun _ => ?_)
    refine Le_it ?_ ?_
    · exact u_d_X12_drift_66
    · refine Le_bp (Le_refl _) (fun x214 => ?_)
      refine Le_it ?_ ?_
      · exact u_d_X12_drift_66
      · refine Le_bp (Le_refl _) (fun x217 => ?_)
        refine Le_it ?_ ?_
        · exact u_d_X12_drift_66
        · refine Le_bp (Le_refl _) (fun x220 => ?_)
          refine Le_it ?_ ?_
          · exact u_d_X12_drift_66
          · refine Le_bp (Le_refl _) (fun x223 => ?_)
            refine Le_it ?_ ?_
            · exact u_d_X12_drift_66
            · exact u_d_X12_drift_67
theorem u_d_X12_mend_228 {k60 k60' : Int32 → Sg → Option (Int32 × Sg)} {n : Nat} {v1 : Int32} {v2 : Int32} {v3 : Int32} {v4 : Int32} {v5 : Int32} {σ : Sg} (h_k60 : ∀ (c0 : Int32) (c1 : Sg), Le (k60 c0 c1) (k60' c0 c1)) : Le (d_X12_mend_228 k60 n v1 v2 v3 v4 v5 σ) (d_X12_mend_228 k60' (n + 1) v1 v2 v3 v4 v5 σ) := by
  unfold d_X12_mend_228
  refine Le_nm (fun x91 => ?_)
  exact h_k60 _ _
theorem u_d_X12_mend_198 {k60 k60' : Int32 → Sg → Option (Int32 × Sg)} {k125 k125' : Int32 → Sg → Option (Int32 × Sg)} {n : Nat} {v1 : Int32} {v2 : Int32} {v3 : Int32} {v4 : Int32} {v5 : Int32} {v6 : Int32} {v7 : Int32} {v8 : Int32} {s0 : Int32} {σ : Sg} (h_k60 : ∀ (c0 : Int32) (c1 : Sg), Le (k60 c0 c1) (k60' c0 c1)) (h_k125 : ∀ (c0 : Int32) (c1 : Sg), Le (k125 c0 c1) (k125' c0 c1)) : Le (d_X12_mend_198 k60 k125 n v1 v2 v3 v4 v5 v6 v7 v8 s0 σ) (d_X12_mend_198 k60' k125' (n + 1) v1 v2 v3 v4 v5 v6 v7 v8 s0 σ) := by
  unfold d_X12_mend_198
  refine Le_bp (Le_refl _) (fun σ104 => ?_)
  refine Le_it ?_ ?_
  · refine Le_nm (fun x106 => ?_)
    exact h_k125 _ _
  · exact Le_refl _
theorem u_d_X12_mend_197 {k60 k60' : Int32 → Sg → Option (Int32 × Sg)} {k125 k125' : Int32 → Sg → Option (Int32 × Sg)} {n : Nat} {v1 : Int32} {v2 : Int32} {v3 : Int32} {v4 : Int32} {v5 : Int32} {v6 : Int32} {v7 : Int32} {v8 : Int32} {σ : Sg} (h_k60 : ∀ (c0 : Int32) (c1 : Sg), Le (k60 c0 c1) (k60' c0 c1)) (h_k125 : ∀ (c0 : Int32) (c1 : Sg), Le (k125 c0 c1) (k125' c0 c1)) : Le (d_X12_mend_197 k60 k125 n v1 v2 v3 v4 v5 v6 v7 v8 σ) (d_X12_mend_197 k60' k125' (n + 1) v1 v2 v3 v4 v5 v6 v7 v8 σ) := by
  unfold d_X12_mend_197
  exact u_d_X12_mend_198 h_k60 h_k125
theorem u_d_X12_mend_145 {k60 k60' : Int32 → Sg → Option (Int32 × Sg)} {k125 k125' : Int32 → Sg → Option (Int32 × Sg)} {n : Nat} {v1 : Int32} {v2 : Int32} {v3 : Int32} {v4 : Int32} {v5 : Int32} {v6 : Int32} {v7 : Int32} {v8 : Int32} {s0 : Int32} {s1 : Int32} {σ : Sg} (h_k60 : ∀ (c0 : Int32) (c1 : Sg), Le (k60 c0 c1) (k60' c0 c1)) (h_k125 : ∀ (c0 : Int32) (c1 : Sg), Le (k125 c0 c1) (k125' c0 c1)) : Le (d_X12_mend_145 k60 k125 n v1 v2 v3 v4 v5 v6 v7 v8 s0 s1 σ) (d_X12_mend_145 k60' k125' (n + 1) v1 v2 v3 v4 v5 v6 v7 v8 s0 s1 σ) := by
  unfold d_X12_mend_145
  refine Le_it ?_ ?_
  · exact u_d_X12_mend_228 h_k60
  · refine Le_ck (fun _ => ?_)
    refine Le_bp (Le_refl _) (fun x97 => ?_)
    refine Le_it ?_ ?_
    · exact u_d_X12_mend_228 h_k60
    · refine Le_bp (Le_refl _) (fun σ100 => ?_)
      refine Le_it ?_ ?_
      · exact u_d_X12_mend_197 h_k60 h_k125
      · refine Le_bd (u_c_X12_leastOf) (fun x110 σ109 => ?_)
        refine Le_it ?_ ?_
        · exact u_d_X12_mend_198 h_k60 h_k125
        · exact u_d_X12_mend_197 h_k60 h_k125
theorem u_d_X12_mend_125 {k60 k60' : Int32 → Sg → Option (Int32 × Sg)} (h_k60 : ∀ (c0 : Int32) (c1 : Sg), Le (k60 c0 c1) (k60' c0 c1)) : ∀ {n : Nat} {v1 : Int32} {v2 : Int32} {v3 : Int32} {v4 : Int32} {v5 : Int32} {v6 : Int32} {v7 : Int32} {v8 : Int32} {σ : Sg}, Le (d_X12_mend_125 k60 n v1 v2 v3 v4 v5 v6 v7 v8 σ) (d_X12_mend_125 k60' (n + 1) v1 v2 v3 v4 v5 v6 v7 v8 σ) := by
  intro n
  induction n with
  | zero => intro v1 v2 v3 v4 v5 v6 v7 v8 σ; exact Le_none
  | succ n ih =>
    intro v1 v2 v3 v4 v5 v6 v7 v8 σ
    unfold d_X12_mend_125
    refine Le_ck (fun _ => ?_)
    refine Le_it ?_ ?_
    · exact u_d_X12_mend_145 h_k60 (fun c8 τ => ih)
    · exact u_d_X12_mend_145 h_k60 (fun c8 τ => ih)
theorem u_d_X12_mend_120 {k60 k60' : Int32 → Sg → Option (Int32 × Sg)} {n : Nat} {v1 : Int32} {v2 : Int32} {v3 : Int32} {v4 : Int32} {v5 : Int32} {v6 : Int32} {s0 : Int32} {σ : Sg} (h_k60 : ∀ (c0 : Int32) (c1 : Sg), Le (k60 c0 c1) (k60' c0 c1)) : Le (d_X12_mend_120 k60 n v1 v2 v3 v4 v5 v6 s0 σ) (d_X12_mend_120 k60' (n + 1) v1 v2 v3 v4 v5 v6 s0 σ) := by
  unfold d_X12_mend_120
  exact u_d_X12_mend_125 h_k60
theorem u_d_X12_mend_103 {k60 k60' : Int32 → Sg → Option (Int32 × Sg)} {n : Nat} {v1 : Int32} {v2 : Int32} {v3 : Int32} {v4 : Int32} {v5 : Int32} {v6 : Int32} {σ : Sg} (h_k60 : ∀ (c0 : Int32) (c1 : Sg), Le (k60 c0 c1) (k60' c0 c1)) : Le (d_X12_mend_103 k60 n v1 v2 v3 v4 v5 v6 σ) (d_X12_mend_103 k60' (n + 1) v1 v2 v3 v4 v5 v6 σ) := by
  unfold d_X12_mend_103
  refine Le_ck (fun _ => ?_)
  exact u_d_X12_mend_120 h_k60
theorem u_d_X12_mend_60 : ∀ {n : Nat} {v1 : Int32} {v2 : Int32} {v3 : Int32} {v4 : Int32} {v5 : Int32} {σ : Sg}, Le (d_X12_mend_60 n v1 v2 v3 v4 v5 σ) (d_X12_mend_60 (n + 1) v1 v2 v3 v4 v5 σ) := by
  intro n
  induction n with
  | zero => intro v1 v2 v3 v4 v5 σ; exact Le_none
  | succ n ih =>
    intro v1 v2 v3 v4 v5 σ
    unfold d_X12_mend_60
    refine Le_ck (fun _ => ?_)
    refine Le_it ?_ ?_
    · exact Le_refl _
    · refine Le_nm (fun x76 => ?_)
      refine Le_ck (fun _ => ?_)
      refine Le_it ?_ ?_
      · exact u_d_X12_mend_103 (fun c5 τ => ih)
      · refine Le_ck (fun _ => ?_)
        refine Le_it ?_ ?_
        · exact u_d_X12_mend_103 (fun c5 τ => ih)
        · refine Le_ck (fun _ => ?_)
          exact u_d_X12_mend_120 (fun c5 τ => ih)
theorem u_c_X12_mend {n : Nat} {v1 : Int32} {v2 : Int32} {v3 : Int32} {v4 : Int32} {σ : Sg} : Le (c_X12_mend n v1 v2 v3 v4 σ) (c_X12_mend (n + 1) v1 v2 v3 v4 σ) := by
  unfold c_X12_mend
  refine Le_bp (Le_refl _) (fun x58 => ?_)
  refine Le_it ?_ ?_
  · exact Le_refl _
  · refine Le_bp (Le_refl _) (fun x61 => ?_)
    refine Le_it ?_ ?_
    · exact Le_refl _
    · refine Le_it ?_ ?_
      · exact Le_refl _
      · refine Le_bp (Le_refl _) (fun x65 => ?_)
        refine Le_it ?_ ?_
        · exact Le_refl _
        · refine Le_bd (u_c_X12_leastOf) (fun x69 σ68 => ?_)
          refine Le_it ?_ ?_
          · exact Le_refl _
          · exact u_d_X12_mend_60
theorem u_d_X12_same_155 {n : Nat} {v3 : Int32} {σ : Sg} : Le (d_X12_same_155 n v3 σ) (d_X12_same_155 (n + 1) v3 σ) := by
  unfold d_X12_same_155
  refine Le_it ?_ ?_
  · exact Le_refl _
  · exact Le_refl _
theorem u_d_X12_same_148 {k42 k42' : Int32 → Int32 → Option Int32} {n : Nat} {v1 : Int32} {v2 : Int32} {v4 : Int32} {s0 : Int32} {σ : Sg} (h_k42 : ∀ (c0 : Int32) (c1 : Int32), Le (k42 c0 c1) (k42' c0 c1)) : Le (d_X12_same_148 k42 n v1 v2 v4 s0 σ) (d_X12_same_148 k42' (n + 1) v1 v2 v4 s0 σ) := by
  unfold d_X12_same_148
  refine Le_nm (fun x72 => ?_)
  exact h_k42 _ _
theorem u_d_X12_same_147 {k42 k42' : Int32 → Int32 → Option Int32} {n : Nat} {v1 : Int32} {v2 : Int32} {v4 : Int32} {σ : Sg} (h_k42 : ∀ (c0 : Int32) (c1 : Int32), Le (k42 c0 c1) (k42' c0 c1)) : Le (d_X12_same_147 k42 n v1 v2 v4 σ) (d_X12_same_147 k42' (n + 1) v1 v2 v4 σ) := by
  unfold d_X12_same_147
  exact u_d_X12_same_148 h_k42
theorem u_d_X12_same_42 : ∀ {n : Nat} {v1 : Int32} {v2 : Int32} {v3 : Int32} {v4 : Int32} {σ : Sg}, Le (d_X12_same_42 n v1 v2 v3 v4 σ) (d_X12_same_42 (n + 1) v1 v2 v3 v4 σ) := by
  intro n
  induction n with
  | zero => intro v1 v2 v3 v4 σ; exact Le_none
  | succ n ih =>
    intro v1 v2 v3 v4 σ
    unfold d_X12_same_42
    refine Le_ck (fun _ => ?_)
    refine Le_it ?_ ?_
    · exact u_d_X12_same_155
    · refine Le_it ?_ ?_
      · exact u_d_X12_same_155
      · refine Le_nm (fun x64 => ?_)
        refine Le_nm (fun x65 => ?_)
        refine Le_ck (fun _ => ?_)
        refine Le_ck (fun _ => ?_)
        refine Le_it ?_ ?_
        · refine Le_ck (fun _ => ?_)
          refine Le_ck (fun _ => ?_)
          refine Le_it ?_ ?_
          · refine Le_ck (fun _ => ?_)
            refine Le_ck (fun _ => ?_)
            refine Le_it ?_ ?_
            · refine Le_ck (fun _ => ?_)
              refine Le_ck (fun _ => ?_)
              refine Le_it ?_ ?_
              · exact u_d_X12_same_148 (fun c3 c4 => ih)
              · exact u_d_X12_same_147 (fun c3 c4 => ih)
            · exact u_d_X12_same_147 (fun c3 c4 => ih)
          · exact u_d_X12_same_147 (fun c3 c4 => ih)
        · exact u_d_X12_same_147 (fun c3 c4 => ih)
theorem u_d_X12_same_38 {n : Nat} {v1 : Int32} {v2 : Int32} {s0 : Int32} {σ : Sg} : Le (d_X12_same_38 n v1 v2 s0 σ) (d_X12_same_38 (n + 1) v1 v2 s0 σ) := by
  unfold d_X12_same_38
  exact u_d_X12_same_42
theorem u_c_X12_same {n : Nat} {v1 : Int32} {v2 : Int32} {σ : Sg} : Le (c_X12_same n v1 v2 σ) (c_X12_same (n + 1) v1 v2 σ) := by
  unfold c_X12_same
  refine Le_bp (Le_refl _) (fun x46 => ?_)
  refine Le_it ?_ ?_
  · exact Le_refl _
  · refine Le_bp (Le_refl _) (fun x49 => ?_)
    refine Le_it ?_ ?_
    · exact Le_refl _
    · refine Le_ck (fun _ => ?_)
      refine Le_ck (fun _ => ?_)
      refine Le_it ?_ ?_
      · exact u_d_X12_same_38
      · exact u_d_X12_same_38
theorem u_d_X12_tape_52 : ∀ {n : Nat} {v1 : Int32} {v3 : Int32} {v4 : Int32} {σ : Sg}, Le (d_X12_tape_52 n v1 v3 v4 σ) (d_X12_tape_52 (n + 1) v1 v3 v4 σ) := by
  intro n
  induction n with
  | zero => intro v1 v3 v4 σ; exact Le_none
  | succ n ih =>
    intro v1 v3 v4 σ
    unfold d_X12_tape_52
    refine Le_it ?_ ?_
    · exact Le_refl _
    · refine Le_ck (fun _ => ?_)
      refine Le_nm (fun σ48 => ?_)
      refine Le_nm (fun x49 => ?_)
      exact ih
theorem u_c_X12_tape {n : Nat} {v1 : Int32} {v2 : Int32} {v3 : Int32} {σ : Sg} : Le (c_X12_tape n v1 v2 v3 σ) (c_X12_tape (n + 1) v1 v2 v3 σ) := by
  unfold c_X12_tape
  refine Le_bp (Le_refl _) (fun x26 => ?_)
  refine Le_it ?_ ?_
  · exact Le_refl _
  · refine Le_bp (Le_refl _) (fun x29 => ?_)
    refine Le_it ?_ ?_
    · exact Le_refl _
    · refine Le_it ?_ ?_
      · refine Le_it ?_ ?_
        · refine Le_ck (fun _ => ?_)
          refine Le_nm (fun σ37 => ?_)
          refine Le_ck (fun _ => ?_)
          refine Le_nm (fun σ42 => ?_)
          exact u_d_X12_tape_52
        · refine Le_bd (Le_refl _) (fun x53 σ52 => ?_)
          exact Le_refl _
      · exact Le_refl _
theorem u_d_X12_image_69 : ∀ {n : Nat} {v1 : Int32} {v2 : Int32} {σ : Sg}, Le (d_X12_image_69 n v1 v2 σ) (d_X12_image_69 (n + 1) v1 v2 σ) := by
  intro n
  induction n with
  | zero => intro v1 v2 σ; exact Le_none
  | succ n ih =>
    intro v1 v2 σ
    unfold d_X12_image_69
    refine Le_it ?_ ?_
    · exact Le_refl _
    · refine Le_ck (fun _ => ?_)
      refine Le_ck (fun _ => ?_)
      refine Le_nm (fun σ73 => ?_)
      refine Le_ck (fun _ => ?_)
      refine Le_ck (fun _ => ?_)
      refine Le_nm (fun σ81 => ?_)
      refine Le_nm (fun x82 => ?_)
      exact ih
theorem u_d_X12_image_67 {n : Nat} {v1 : Int32} {σ : Sg} : Le (d_X12_image_67 n v1 σ) (d_X12_image_67 (n + 1) v1 σ) := by
  unfold d_X12_image_67
  exact u_d_X12_image_69
theorem u_d_X12_image_38 : ∀ {n : Nat} {v1 : Int32} {v2 : Int32} {σ : Sg}, Le (d_X12_image_38 n v1 v2 σ) (d_X12_image_38 (n + 1) v1 v2 σ) := by
  intro n
  induction n with
  | zero => intro v1 v2 σ; exact Le_none
  | succ n ih =>
    intro v1 v2 σ
    unfold d_X12_image_38
    refine Le_it ?_ ?_
    · exact u_d_X12_image_67
    · refine Le_ck (fun _ => ?_)
      refine Le_ck (fun _ => ?_)
      refine Le_nm (fun σ90 => ?_)
      refine Le_nm (fun x91 => ?_)
      exact ih
theorem u_c_X12_image {n : Nat} {v1 : Int32} {σ : Sg} : Le (c_X12_image n v1 σ) (c_X12_image (n + 1) v1 σ) := by
  unfold c_X12_image
  refine Le_bp (Le_refl _) (fun x47 => ?_)
  refine Le_it ?_ ?_
  · exact Le_refl _
  · refine Le_ck (fun _ => ?_)
    refine Le_nm (fun σ53 => ?_)
    refine Le_ck (fun _ => ?_)
    refine Le_nm (fun σ58 => ?_)
    refine Le_ck (fun _ => ?_)
    refine Le_nm (fun σ63 => ?_)
    exact u_d_X12_image_38
theorem u_d_X12_back_138 {k71 k71' : Int32 → Sg → Option (Int32 × Sg)} {n : Nat} {v1 : Int32} {v3 : Int32} {s0 : Int64} {s1 : Int32} {s2 : Nat} {σ : Sg} (h_k71 : ∀ (c0 : Int32) (c1 : Sg), Le (k71 c0 c1) (k71' c0 c1)) : Le (d_X12_back_138 k71 n v1 v3 s0 s1 s2 σ) (d_X12_back_138 k71' (n + 1) v1 v3 s0 s1 s2 σ) := by
  unfold d_X12_back_138
  refine Le_ck (fun _ => ?_)
  refine Le_nm (fun σ83 => ?_)
  refine Le_nm (fun x84 => ?_)
  exact h_k71 _ _
theorem u_d_X12_back_108 {k71 k71' : Int32 → Sg → Option (Int32 × Sg)} {n : Nat} {v1 : Int32} {v3 : Int32} {s0 : Int64} {s1 : Int32} {s2 : Nat} {σ : Sg} (h_k71 : ∀ (c0 : Int32) (c1 : Sg), Le (k71 c0 c1) (k71' c0 c1)) : Le (d_X12_back_108 k71 n v1 v3 s0 s1 s2 σ) (d_X12_back_108 k71' (n + 1) v1 v3 s0 s1 s2 σ) := by
  unfold d_X12_back_108
  refine Le_ck (fun _ => ?_)
  refine Le_nm (fun σ74 => ?_)
  refine Le_ck (fun _ => ?_)
  refine Le_it ?_ ?_
  · exact u_d_X12_back_138 h_k71
  · refine Le_ck (fun _ => ?_)
    exact u_d_X12_back_138 h_k71
theorem u_d_X12_back_71 : ∀ {n : Nat} {v1 : Int32} {v3 : Int32} {σ : Sg}, Le (d_X12_back_71 n v1 v3 σ) (d_X12_back_71 (n + 1) v1 v3 σ) := by
  intro n
  induction n with
  | zero => intro v1 v3 σ; exact Le_none
  | succ n ih =>
    intro v1 v3 σ
    unfold d_X12_back_71
    refine Le_it ?_ ?_
    · exact Le_refl _
    · refine Le_ck (fun _ => ?_)
      refine Le_it ?_ ?_
      · exact u_d_X12_back_108 (fun c3 τ => ih)
      · refine Le_ck (fun _ => ?_)
        exact u_d_X12_back_108 (fun c3 τ => ih)
theorem u_d_X12_back_69 {n : Nat} {v1 : Int32} {σ : Sg} : Le (d_X12_back_69 n v1 σ) (d_X12_back_69 (n + 1) v1 σ) := by
  unfold d_X12_back_69
  exact u_d_X12_back_71
theorem u_d_X12_back_40 : ∀ {n : Nat} {v1 : Int32} {v3 : Int32} {σ : Sg}, Le (d_X12_back_40 n v1 v3 σ) (d_X12_back_40 (n + 1) v1 v3 σ) := by
  intro n
  induction n with
  | zero => intro v1 v3 σ; exact Le_none
  | succ n ih =>
    intro v1 v3 σ
    unfold d_X12_back_40
    refine Le_it ?_ ?_
    · exact u_d_X12_back_69
    · refine Le_ck (fun _ => ?_)
      refine Le_ck (fun _ => ?_)
      refine Le_nm (fun σ98 => ?_)
      refine Le_nm (fun x99 => ?_)
      exact ih
theorem u_c_X12_back {n : Nat} {v1 : Int32} {σ : Sg} : Le (c_X12_back n v1 σ) (c_X12_back (n + 1) v1 σ) := by
  unfold c_X12_back
  refine Le_bd (Le_refl _) (fun x53 σ52 => ?_)
  refine Le_it ?_ ?_
  · refine Le_ck (fun _ => ?_)
    refine Le_it ?_ ?_
    · refine Le_ck (fun _ => ?_)
      refine Le_nm (fun σ63 => ?_)
      exact u_d_X12_back_40
    · exact Le_refl _
  · exact Le_refl _
theorem u_d_X12_load_55 {n : Nat} {σ : Sg} : Le (d_X12_load_55 n σ) (d_X12_load_55 (n + 1) σ) := by
  unfold d_X12_load_55
  refine Le_bd (Le_refl _) (fun x68 σ67 => ?_)
  exact Le_refl _
theorem u_d_X12_load_78 {n : Nat} {σ : Sg} : Le (d_X12_load_78 n σ) (d_X12_load_78 (n + 1) σ) := by
  unfold d_X12_load_78
  refine Le_bd (Le_refl _) (fun x76 σ75 => ?_)
  exact Le_refl _
theorem u_d_X12_load_160 {n : Nat} {v3 : Int32} {σ : Sg} : Le (d_X12_load_160 n v3 σ) (d_X12_load_160 (n + 1) v3 σ) := by
  unfold d_X12_load_160
  refine Le_nm (fun σ84 => ?_)
  exact Le_refl _
theorem u_d_X12_load_126 : ∀ {n : Nat} {v1 : Int32} {v2 : Int32} {v3 : Int32} {v4 : Int32} {σ : Sg}, Le (d_X12_load_126 n v1 v2 v3 v4 σ) (d_X12_load_126 (n + 1) v1 v2 v3 v4 σ) := by
  intro n
  induction n with
  | zero => intro v1 v2 v3 v4 σ; exact Le_none
  | succ n ih =>
    intro v1 v2 v3 v4 σ
    unfold d_X12_load_126
    refine Le_it ?_ ?_
    · exact u_d_X12_load_160
    · refine Le_ck (fun _ => ?_)
      refine Le_ck (fun _ => ?_)
      refine Le_nm (fun σ92 => ?_)
      refine Le_nm (fun x93 => ?_)
      exact ih
theorem u_d_X12_load_123 {n : Nat} {v1 : Int32} {v2 : Int32} {v3 : Int32} {σ : Sg} : Le (d_X12_load_123 n v1 v2 v3 σ) (d_X12_load_123 (n + 1) v1 v2 v3 σ) := by
  unfold d_X12_load_123
  exact u_d_X12_load_126
theorem u_d_X12_load_88 : ∀ {n : Nat} {v1 : Int32} {v2 : Int32} {v3 : Int32} {v4 : Int32} {σ : Sg}, Le (d_X12_load_88 n v1 v2 v3 v4 σ) (d_X12_load_88 (n + 1) v1 v2 v3 v4 σ) := by
  intro n
  induction n with
  | zero => intro v1 v2 v3 v4 σ; exact Le_none
  | succ n ih =>
    intro v1 v2 v3 v4 σ
    unfold d_X12_load_88
    refine Le_it ?_ ?_
    · exact u_d_X12_load_123
    · refine Le_ck (fun _ => ?_)
      refine Le_bp (Le_refl _) (fun x99 => ?_)
      refine Le_it ?_ ?_
      · exact Le_refl _
      · refine Le_nm (fun x101 => ?_)
        exact ih
theorem u_c_X12_load {n : Nat} {v1 : Int32} {v2 : Int32} {v3 : Int32} {σ : Sg} : Le (c_X12_load n v1 v2 v3 σ) (c_X12_load (n + 1) v1 v2 v3 σ) := by
  unfold c_X12_load
  refine Le_bp (Le_refl _) (fun x52 => ?_)
  refine Le_it ?_ ?_
  · exact Le_refl _
  · refine Le_bp (Le_refl _) (fun x55 => ?_)
    refine Le_it ?_ ?_
    · exact Le_refl _
    · refine Le_ck (fun _ => ?_)
      refine Le_it ?_ ?_
      · refine Le_bd (Le_refl _) (fun x104 σ103 => ?_)
        exact Le_refl _
      · refine Le_ck (fun _ => ?_)
        refine Le_it ?_ ?_
        · exact u_d_X12_load_55
        · refine Le_ck (fun _ => ?_)
          refine Le_it ?_ ?_
          · exact u_d_X12_load_55
          · refine Le_it ?_ ?_
            · exact u_d_X12_load_78
            · refine Le_ck (fun _ => ?_)
              refine Le_it ?_ ?_
              · exact u_d_X12_load_88
              · exact u_d_X12_load_78
theorem u_d_X12_copy_34 {n : Nat} {σ : Sg} : Le (d_X12_copy_34 n σ) (d_X12_copy_34 (n + 1) σ) := by
  unfold d_X12_copy_34
  refine Le_bd (Le_refl _) (fun x75 σ74 => ?_)
  exact Le_refl _
theorem u_d_X12_copy_66 {n : Nat} {σ : Sg} : Le (d_X12_copy_66 n σ) (d_X12_copy_66 (n + 1) σ) := by
  unfold d_X12_copy_66
  refine Le_bd (Le_refl _) (fun x85 σ84 => ?_)
  exact Le_refl _
theorem u_d_X12_copy_114 {n : Nat} {σ : Sg} : Le (d_X12_copy_114 n σ) (d_X12_copy_114 (n + 1) σ) := by
  unfold d_X12_copy_114
  refine Le_bd (Le_refl _) (fun x95 σ94 => ?_)
  exact Le_refl _
theorem u_d_X12_copy_161 : ∀ {n : Nat} {v3 : Int32} {v4 : Int32} {v5 : Int32} {v6 : Int32} {σ : Sg}, Le (d_X12_copy_161 n v3 v4 v5 v6 σ) (d_X12_copy_161 (n + 1) v3 v4 v5 v6 σ) := by
  intro n
  induction n with
  | zero => intro v3 v4 v5 v6 σ; exact Le_none
  | succ n ih =>
    intro v3 v4 v5 v6 σ
    unfold d_X12_copy_161
    refine Le_it ?_ ?_
    · exact Le_refl _
    · refine Le_ck (fun _ => ?_)
      refine Le_ck (fun _ => ?_)
      refine Le_nm (fun σ114 => ?_)
      refine Le_nm (fun x115 => ?_)
      exact ih
theorem u_d_X12_copy_158 {n : Nat} {v3 : Int32} {v4 : Int32} {v5 : Int32} {σ : Sg} : Le (d_X12_copy_158 n v3 v4 v5 σ) (d_X12_copy_158 (n + 1) v3 v4 v5 σ) := by
  unfold d_X12_copy_158
  exact u_d_X12_copy_161
theorem u_d_X12_copy_124 : ∀ {n : Nat} {v1 : Int32} {v2 : Int32} {v3 : Int32} {v4 : Int32} {v5 : Int32} {v6 : Int32} {σ : Sg}, Le (d_X12_copy_124 n v1 v2 v3 v4 v5 v6 σ) (d_X12_copy_124 (n + 1) v1 v2 v3 v4 v5 v6 σ) := by
  intro n
  induction n with
  | zero => intro v1 v2 v3 v4 v5 v6 σ; exact Le_none
  | succ n ih =>
    intro v1 v2 v3 v4 v5 v6 σ
    unfold d_X12_copy_124
    refine Le_it ?_ ?_
    · exact u_d_X12_copy_158
    · refine Le_ck (fun _ => ?_)
      refine Le_ck (fun _ => ?_)
      refine Le_nm (fun σ123 => ?_)
      refine Le_nm (fun x124 => ?_)
      exact ih
theorem u_c_X12_copy {n : Nat} {v1 : Int32} {v2 : Int32} {v3 : Int32} {v4 : Int32} {v5 : Int32} {σ : Sg} : Le (c_X12_copy n v1 v2 v3 v4 v5 σ) (c_X12_copy (n + 1) v1 v2 v3 v4 v5 σ) := by
  unfold c_X12_copy
  refine Le_bp (Le_refl _) (fun x62 => ?_)
  refine Le_it ?_ ?_
  · exact Le_refl _
  · refine Le_bp (Le_refl _) (fun x65 => ?_)
    refine Le_it ?_ ?_
    · exact Le_refl _
    · refine Le_ck (fun _ => ?_)
      refine Le_it ?_ ?_
      · exact u_d_X12_copy_34
      · refine Le_ck (fun _ => ?_)
        refine Le_it ?_ ?_
        · exact u_d_X12_copy_34
        · refine Le_ck (fun _ => ?_)
          refine Le_it ?_ ?_
          · exact u_d_X12_copy_66
          · refine Le_ck (fun _ => ?_)
            refine Le_ck (fun _ => ?_)
            refine Le_it ?_ ?_
            · refine Le_it ?_ ?_
              · exact u_d_X12_copy_114
              · refine Le_it ?_ ?_
                · exact u_d_X12_copy_114
                · refine Le_it ?_ ?_
                  · exact u_d_X12_copy_114
                  · refine Le_ck (fun _ => ?_)
                    refine Le_it ?_ ?_
                    · exact u_d_X12_copy_114
                    · refine Le_ck (fun _ => ?_)
                      refine Le_it ?_ ?_
                      · exact u_d_X12_copy_124
                      · exact u_d_X12_copy_114
            · exact u_d_X12_copy_66
