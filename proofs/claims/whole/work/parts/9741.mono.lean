/-- what the first answers the second answers too -/
def Le {β : Type} (x y : Option β) : Prop := ∀ r, x = some r → y = some r
section LES
variable {α β : Type} {P : Prop} {x y x' y' : Option β}
theorem Le_refl (x : Option β) : Le x x := fun _ h => h
theorem Le_none : Le none y := fun _ h => nomatch h
theorem Le_trans {z : Option β} (h : Le x y) (h' : Le y z) : Le x z := fun r q => h' r (h r q)
theorem Le_ck [Decidable P] (k : P → Le x y) : Le (ck P x) (ck P y) := by
  unfold ck
  by_cases q : P
  · rw [if_pos q, if_pos q]; exact k q
  · rw [if_neg q, if_neg q]; exact Le_none
theorem Le_nm {v : α} {f g : α → Option β} (k : ∀ z, Le (f z) (g z)) : Le (nm v f) (nm v g) := k v
theorem Le_bp {u w : Option α} {f g : α → Option β} (e : Le u w) (k : ∀ z, Le (f z) (g z)) : Le (bp u f) (bp w g) := by
  cases u with
  | none => exact Le_none
  | some z => rw [e z rfl]; exact k z
theorem Le_bd {u w : Option (α × Sg)} {f g : α → Sg → Option β} (e : Le u w) (k : ∀ z τ, Le (f z τ) (g z τ)) : Le (bd u f) (bd w g) := by
  cases u with
  | none => exact Le_none
  | some z => rw [e z rfl]; exact k z.1 z.2
theorem Le_it [Decidable P] (k : Le x y) (k' : Le x' y') : Le (if P then x else x') (if P then y else y') := by
  by_cases q : P
  · rw [if_pos q, if_pos q]; exact k
  · rw [if_neg q, if_neg q]; exact k'
/-- many steps of fuel -/
theorem Le_up {f : Nat → Option β} (h : ∀ n, Le (f n) (f (n + 1))) {n m : Nat} (hm : n ≤ m) : Le (f n) (f m) := by
  induction m with
  | zero =>
    have : n = 0 := by omega
    subst this; exact Le_refl _
  | succ m ih =>
    by_cases e : n = m + 1
    · subst e; exact Le_refl _
    · exact Le_trans (ih (by omega)) (h m)
end LES
theorem u_b_X3_divisor_55 {n : Nat} {v4 : Int64} : Le (b_X3_divisor_55 n v4) (b_X3_divisor_55 (n + 1) v4) := by
  unfold b_X3_divisor_55
  refine Le_it ?_ ?_
  · exact Le_refl _
  · exact Le_refl _
theorem u_b_X3_divisor_20 : ∀ {n : Nat} {v4 : Int64} {v6 : Int64} {v8 : Int32}, Le (b_X3_divisor_20 n v4 v6 v8) (b_X3_divisor_20 (n + 1) v4 v6 v8) := by
  intro n
  induction n with
  | zero => intro v4 v6 v8; exact Le_none
  | succ n ih =>
    intro v4 v6 v8
    unfold b_X3_divisor_20
    refine Le_it ?_ ?_
    · exact u_b_X3_divisor_55
    · refine Le_it ?_ ?_
      · exact u_b_X3_divisor_55
      · refine Le_ck (fun _ => ?_)
        refine Le_nm (fun x10 => ?_)
        refine Le_nm (fun x11 => ?_)
        exact ih
theorem u_b_X3_divisor_12 {n : Nat} {v2 : Int64} {s0 : Int64} : Le (b_X3_divisor_12 n v2 s0) (b_X3_divisor_12 (n + 1) v2 s0) := by
  unfold b_X3_divisor_12
  exact u_b_X3_divisor_20
theorem u_f_X3_divisor {n : Nat} {v0 : Int64} {v2 : Int64} : Le (f_X3_divisor n v0 v2) (f_X3_divisor (n + 1) v0 v2) := by
  unfold f_X3_divisor
  refine Le_it ?_ ?_
  · exact u_b_X3_divisor_12
  · exact u_b_X3_divisor_12
theorem u_b_X12_common_17 : ∀ {n : Nat} {v4 : Int64} {v6 : Int64}, Le (b_X12_common_17 n v4 v6) (b_X12_common_17 (n + 1) v4 v6) := by
  intro n
  induction n with
  | zero => intro v4 v6; exact Le_none
  | succ n ih =>
    intro v4 v6
    unfold b_X12_common_17
    refine Le_it ?_ ?_
    · exact Le_refl _
    · refine Le_ck (fun _ => ?_)
      refine Le_nm (fun x7 => ?_)
      exact ih
theorem u_b_X12_common_12 {n : Nat} {v2 : Int64} {s0 : Int64} : Le (b_X12_common_12 n v2 s0) (b_X12_common_12 (n + 1) v2 s0) := by
  unfold b_X12_common_12
  exact u_b_X12_common_17
theorem u_f_X12_common {n : Nat} {v0 : Int64} {v2 : Int64} : Le (f_X12_common n v0 v2) (f_X12_common (n + 1) v0 v2) := by
  unfold f_X12_common
  refine Le_it ?_ ?_
  · exact u_b_X12_common_12
  · exact u_b_X12_common_12
theorem u_d_X0_become_28 {n : Nat} {v0 : Nat} {v1 : Nat} {σ : Sg} : Le (d_X0_become_28 n v0 v1 σ) (d_X0_become_28 (n + 1) v0 v1 σ) := by
  unfold d_X0_become_28
  refine Le_nm (fun σ19 => ?_)
  exact Le_refl _
theorem u_d_X0_become_2 : ∀ {n : Nat} {v0 : Nat} {v1 : Nat} {v2 : Int32} {σ : Sg}, Le (d_X0_become_2 n v0 v1 v2 σ) (d_X0_become_2 (n + 1) v0 v1 v2 σ) := by
  intro n
  induction n with
  | zero => intro v0 v1 v2 σ; exact Le_none
  | succ n ih =>
    intro v0 v1 v2 σ
    unfold d_X0_become_2
    refine Le_it ?_ ?_
    · exact u_d_X0_become_28
    · refine Le_ck (fun _ => ?_)
      refine Le_ck (fun _ => ?_)
      refine Le_nm (fun σ27 => ?_)
      refine Le_nm (fun x28 => ?_)
      exact ih
theorem u_c_X0_become {n : Nat} {v0 : Nat} {v1 : Nat} {σ : Sg} : Le (c_X0_become n v0 v1 σ) (c_X0_become (n + 1) v0 v1 σ) := by
  unfold c_X0_become
  exact u_d_X0_become_2
theorem u_d_X4_reset_21 {n : Nat} {v0 : Nat} {σ : Sg} : Le (d_X4_reset_21 n v0 σ) (d_X4_reset_21 (n + 1) v0 σ) := by
  unfold d_X4_reset_21
  refine Le_nm (fun σ11 => ?_)
  exact Le_refl _
theorem u_d_X4_reset_2 : ∀ {n : Nat} {v0 : Nat} {v1 : Int32} {σ : Sg}, Le (d_X4_reset_2 n v0 v1 σ) (d_X4_reset_2 (n + 1) v0 v1 σ) := by
  intro n
  induction n with
  | zero => intro v0 v1 σ; exact Le_none
  | succ n ih =>
    intro v0 v1 σ
    unfold d_X4_reset_2
    refine Le_it ?_ ?_
    · exact u_d_X4_reset_21
    · refine Le_ck (fun _ => ?_)
      refine Le_nm (fun σ16 => ?_)
      refine Le_nm (fun x17 => ?_)
      exact ih
theorem u_c_X4_reset {n : Nat} {v0 : Nat} {σ : Sg} : Le (c_X4_reset n v0 σ) (c_X4_reset (n + 1) v0 σ) := by
  unfold c_X4_reset
  exact u_d_X4_reset_2
theorem u_d_X7_wipe_21 {n : Nat} {v0 : Nat} {σ : Sg} : Le (d_X7_wipe_21 n v0 σ) (d_X7_wipe_21 (n + 1) v0 σ) := by
  unfold d_X7_wipe_21
  refine Le_nm (fun σ11 => ?_)
  exact Le_refl _
theorem u_d_X7_wipe_2 : ∀ {n : Nat} {v0 : Nat} {v1 : Int32} {σ : Sg}, Le (d_X7_wipe_2 n v0 v1 σ) (d_X7_wipe_2 (n + 1) v0 v1 σ) := by
  intro n
  induction n with
  | zero => intro v0 v1 σ; exact Le_none
  | succ n ih =>
    intro v0 v1 σ
    unfold d_X7_wipe_2
    refine Le_it ?_ ?_
    · exact u_d_X7_wipe_21
    · refine Le_ck (fun _ => ?_)
      refine Le_nm (fun σ16 => ?_)
      refine Le_nm (fun x17 => ?_)
      exact ih
theorem u_c_X7_wipe {n : Nat} {v0 : Nat} {σ : Sg} : Le (c_X7_wipe n v0 σ) (c_X7_wipe (n + 1) v0 σ) := by
  unfold c_X7_wipe
  exact u_d_X7_wipe_2
theorem u_d_X7_weigh_51 {n : Nat} {v0 : Nat} {σ : Sg} : Le (d_X7_weigh_51 n v0 σ) (d_X7_weigh_51 (n + 1) v0 σ) := by
  unfold d_X7_weigh_51
  refine Le_it ?_ ?_
  · refine Le_ck (fun _ => ?_)
    refine Le_nm (fun σ44 => ?_)
    refine Le_ck (fun _ => ?_)
    refine Le_nm (fun σ49 => ?_)
    refine Le_nm (fun σ51 => ?_)
    refine Le_nm (fun σ53 => ?_)
    exact Le_refl _
  · exact Le_refl _
theorem u_d_X7_weigh_12 : ∀ {n : Nat} {v0 : Nat} {v1 : Nat} {v3 : Int32} {σ : Sg}, Le (d_X7_weigh_12 n v0 v1 v3 σ) (d_X7_weigh_12 (n + 1) v0 v1 v3 σ) := by
  intro n
  induction n with
  | zero => intro v0 v1 v3 σ; exact Le_none
  | succ n ih =>
    intro v0 v1 v3 σ
    unfold d_X7_weigh_12
    refine Le_it ?_ ?_
    · exact u_d_X7_weigh_51
    · refine Le_ck (fun _ => ?_)
      refine Le_ck (fun _ => ?_)
      refine Le_nm (fun σ58 => ?_)
      refine Le_ck (fun _ => ?_)
      refine Le_nm (fun σ63 => ?_)
      refine Le_nm (fun x64 => ?_)
      exact ih
theorem u_c_X7_weigh {n : Nat} {v0 : Nat} {v1 : Nat} {v2 : Int32} {σ : Sg} : Le (c_X7_weigh n v0 v1 v2 σ) (c_X7_weigh (n + 1) v0 v1 v2 σ) := by
  unfold c_X7_weigh
  refine Le_nm (fun σ34 => ?_)
  refine Le_nm (fun σ36 => ?_)
  exact u_d_X7_weigh_12
theorem u_d_X7_giveByRests_106 {k48 k48' : Int32 → Sg → Option Sg} {n : Nat} {v0 : Nat} {v1 : Int64} {v3 : Int32} {v4 : Int32} {σ : Sg} (h_k48 : ∀ (c0 : Int32) (c1 : Sg), Le (k48 c0 c1) (k48' c0 c1)) : Le (d_X7_giveByRests_106 k48 n v0 v1 v3 v4 σ) (d_X7_giveByRests_106 k48' (n + 1) v0 v1 v3 v4 σ) := by
  unfold d_X7_giveByRests_106
  refine Le_ck (fun _ => ?_)
  refine Le_ck (fun _ => ?_)
  refine Le_nm (fun σ47 => ?_)
  refine Le_ck (fun _ => ?_)
  refine Le_nm (fun σ52 => ?_)
  refine Le_nm (fun x53 => ?_)
  exact h_k48 _ _
theorem u_d_X7_giveByRests_100 {k48 k48' : Int32 → Sg → Option Sg} {k69 k69' : Int32 → Int32 → Option Sg} {n : Nat} {v0 : Nat} {v1 : Int64} {v3 : Int32} {v4 : Int32} {v5 : Int32} {σ : Sg} (h_k48 : ∀ (c0 : Int32) (c1 : Sg), Le (k48 c0 c1) (k48' c0 c1)) (h_k69 : ∀ (c0 : Int32) (c1 : Int32), Le (k69 c0 c1) (k69' c0 c1)) : Le (d_X7_giveByRests_100 k48 k69 n v0 v1 v3 v4 v5 σ) (d_X7_giveByRests_100 k48' k69' (n + 1) v0 v1 v3 v4 v5 σ) := by
  unfold d_X7_giveByRests_100
  refine Le_nm (fun x60 => ?_)
  exact h_k69 _ _
theorem u_d_X7_giveByRests_69 {k48 k48' : Int32 → Sg → Option Sg} (h_k48 : ∀ (c0 : Int32) (c1 : Sg), Le (k48 c0 c1) (k48' c0 c1)) : ∀ {n : Nat} {v0 : Nat} {v1 : Int64} {v3 : Int32} {v4 : Int32} {v5 : Int32} {σ : Sg}, Le (d_X7_giveByRests_69 k48 n v0 v1 v3 v4 v5 σ) (d_X7_giveByRests_69 k48' (n + 1) v0 v1 v3 v4 v5 σ) := by
  intro n
  induction n with
  | zero => intro v0 v1 v3 v4 v5 σ; exact Le_none
  | succ n ih =>
    intro v0 v1 v3 v4 v5 σ
    unfold d_X7_giveByRests_69
    refine Le_it ?_ ?_
    · exact u_d_X7_giveByRests_106 h_k48
    · refine Le_ck (fun _ => ?_)
      refine Le_ck (fun _ => ?_)
      refine Le_it ?_ ?_
      · exact u_d_X7_giveByRests_100 h_k48 (fun c4 c5 => ih)
      · exact u_d_X7_giveByRests_100 h_k48 (fun c4 c5 => ih)
theorem u_d_X7_giveByRests_48 : ∀ {n : Nat} {v0 : Nat} {v1 : Int64} {v3 : Int32} {σ : Sg}, Le (d_X7_giveByRests_48 n v0 v1 v3 σ) (d_X7_giveByRests_48 (n + 1) v0 v1 v3 σ) := by
  intro n
  induction n with
  | zero => intro v0 v1 v3 σ; exact Le_none
  | succ n ih =>
    intro v0 v1 v3 σ
    unfold d_X7_giveByRests_48
    refine Le_it ?_ ?_
    · exact Le_refl _
    · refine Le_it ?_ ?_
      · exact Le_refl _
      · exact u_d_X7_giveByRests_69 (fun c3 τ => ih)
theorem u_d_X7_giveByRests_46 {n : Nat} {v0 : Nat} {v1 : Int64} {σ : Sg} : Le (d_X7_giveByRests_46 n v0 v1 σ) (d_X7_giveByRests_46 (n + 1) v0 v1 σ) := by
  unfold d_X7_giveByRests_46
  exact u_d_X7_giveByRests_48
theorem u_d_X7_giveByRests_2 : ∀ {n : Nat} {v0 : Nat} {v1 : Int64} {v3 : Int32} {σ : Sg}, Le (d_X7_giveByRests_2 n v0 v1 v3 σ) (d_X7_giveByRests_2 (n + 1) v0 v1 v3 σ) := by
  intro n
  induction n with
  | zero => intro v0 v1 v3 σ; exact Le_none
  | succ n ih =>
    intro v0 v1 v3 σ
    unfold d_X7_giveByRests_2
    refine Le_it ?_ ?_
    · exact u_d_X7_giveByRests_46
    · refine Le_ck (fun _ => ?_)
      refine Le_ck (fun _ => ?_)
      refine Le_ck (fun _ => ?_)
      refine Le_nm (fun σ70 => ?_)
      refine Le_nm (fun x71 => ?_)
      exact ih
theorem u_c_X7_giveByRests {n : Nat} {v0 : Nat} {v1 : Int64} {σ : Sg} : Le (c_X7_giveByRests n v0 v1 σ) (c_X7_giveByRests (n + 1) v0 v1 σ) := by
  unfold c_X7_giveByRests
  exact u_d_X7_giveByRests_2
theorem u_d_X7_giveInOrder_45 {k5 k5' : Int64 → Int32 → Sg → Option Sg} {n : Nat} {v0 : Nat} {v3 : Int64} {v5 : Int32} {σ : Sg} (h_k5 : ∀ (c0 : Int64) (c1 : Int32) (c2 : Sg), Le (k5 c0 c1 c2) (k5' c0 c1 c2)) : Le (d_X7_giveInOrder_45 k5 n v0 v3 v5 σ) (d_X7_giveInOrder_45 k5' (n + 1) v0 v3 v5 σ) := by
  unfold d_X7_giveInOrder_45
  refine Le_nm (fun x21 => ?_)
  exact h_k5 _ _ _
theorem u_d_X7_giveInOrder_5 : ∀ {n : Nat} {v0 : Nat} {v3 : Int64} {v5 : Int32} {σ : Sg}, Le (d_X7_giveInOrder_5 n v0 v3 v5 σ) (d_X7_giveInOrder_5 (n + 1) v0 v3 v5 σ) := by
  intro n
  induction n with
  | zero => intro v0 v3 v5 σ; exact Le_none
  | succ n ih =>
    intro v0 v3 v5 σ
    unfold d_X7_giveInOrder_5
    refine Le_it ?_ ?_
    · exact Le_refl _
    · refine Le_it ?_ ?_
      · exact Le_refl _
      · refine Le_ck (fun _ => ?_)
        refine Le_it ?_ ?_
        · exact u_d_X7_giveInOrder_45 (fun c3 c5 τ => ih)
        · refine Le_ck (fun _ => ?_)
          refine Le_ck (fun _ => ?_)
          refine Le_nm (fun σ26 => ?_)
          refine Le_nm (fun x27 => ?_)
          exact u_d_X7_giveInOrder_45 (fun c3 c5 τ => ih)
theorem u_c_X7_giveInOrder {n : Nat} {v0 : Nat} {v1 : Int64} {σ : Sg} : Le (c_X7_giveInOrder n v0 v1 σ) (c_X7_giveInOrder (n + 1) v0 v1 σ) := by
  unfold c_X7_giveInOrder
  exact u_d_X7_giveInOrder_5
theorem u_d_X7_divide_150 {n : Nat} {v7 : Int64} {s0 : Int32} {s1 : Nat} {σ : Sg} : Le (d_X7_divide_150 n v7 s0 s1 σ) (d_X7_divide_150 (n + 1) v7 s0 s1 σ) := by
  unfold d_X7_divide_150
  refine Le_ck (fun _ => ?_)
  refine Le_ck (fun _ => ?_)
  refine Le_nm (fun σ66 => ?_)
  exact Le_refl _
theorem u_d_X7_divide_104 {n : Nat} {v0 : Nat} {v3 : Int32} {v7 : Int64} {σ : Sg} : Le (d_X7_divide_104 n v0 v3 v7 σ) (d_X7_divide_104 (n + 1) v0 v3 v7 σ) := by
  unfold d_X7_divide_104
  refine Le_it ?_ ?_
  · refine Le_bp (u_c_X7_giveByRests) (fun σ72 => ?_)
    exact Le_refl _
  · refine Le_it ?_ ?_
    · refine Le_bp (u_c_X7_giveInOrder) (fun σ69 => ?_)
      exact Le_refl _
    · refine Le_it ?_ ?_
      · exact u_d_X7_divide_150
      · exact u_d_X7_divide_150
theorem u_d_X7_divide_47 : ∀ {n : Nat} {v0 : Nat} {v3 : Int32} {v6 : Int32} {v7 : Int64} {v9 : Int32} {σ : Sg}, Le (d_X7_divide_47 n v0 v3 v6 v7 v9 σ) (d_X7_divide_47 (n + 1) v0 v3 v6 v7 v9 σ) := by
  intro n
  induction n with
  | zero => intro v0 v3 v6 v7 v9 σ; exact Le_none
  | succ n ih =>
    intro v0 v3 v6 v7 v9 σ
    unfold d_X7_divide_47
    refine Le_it ?_ ?_
    · exact u_d_X7_divide_104
    · refine Le_ck (fun _ => ?_)
      refine Le_bp (Le_refl _) (fun x79 => ?_)
      refine Le_ck (fun _ => ?_)
      refine Le_nm (fun σ81 => ?_)
      refine Le_ck (fun _ => ?_)
      refine Le_nm (fun x86 => ?_)
      refine Le_nm (fun x87 => ?_)
      exact ih
theorem u_d_X7_divide_36 {n : Nat} {v0 : Nat} {v3 : Int32} {s0 : Int32} {σ : Sg} : Le (d_X7_divide_36 n v0 v3 s0 σ) (d_X7_divide_36 (n + 1) v0 v3 s0 σ) := by
  unfold d_X7_divide_36
  refine Le_nm (fun x55 => ?_)
  exact u_d_X7_divide_47
theorem u_d_X7_divide_31 {n : Nat} {v0 : Nat} {v3 : Int32} {σ : Sg} : Le (d_X7_divide_31 n v0 v3 σ) (d_X7_divide_31 (n + 1) v0 v3 σ) := by
  unfold d_X7_divide_31
  exact u_d_X7_divide_36
theorem u_c_X7_divide {n : Nat} {v0 : Nat} {v1 : Int64} {v3 : Int32} {v4 : Nat} {v5 : Int32} {σ : Sg} : Le (c_X7_divide n v0 v1 v3 v4 v5 σ) (c_X7_divide (n + 1) v0 v1 v3 v4 v5 σ) := by
  unfold c_X7_divide
  refine Le_bp (u_c_X7_wipe) (fun σ45 => ?_)
  refine Le_nm (fun σ47 => ?_)
  refine Le_nm (fun σ49 => ?_)
  refine Le_bp (u_c_X7_weigh) (fun σ52 => ?_)
  refine Le_it ?_ ?_
  · exact u_d_X7_divide_31
  · refine Le_it ?_ ?_
    · exact u_d_X7_divide_31
    · exact u_d_X7_divide_36
theorem u_d_X2_passDays_3 : ∀ {n : Nat} {v1 : Int32} {v2 : UInt64} {v4 : Int32} {v5 : Int32} {σ : Sg}, Le (d_X2_passDays_3 n v1 v2 v4 v5 σ) (d_X2_passDays_3 (n + 1) v1 v2 v4 v5 σ) := by
  intro n
  induction n with
  | zero => intro v1 v2 v4 v5 σ; exact Le_none
  | succ n ih =>
    intro v1 v2 v4 v5 σ
    unfold d_X2_passDays_3
    refine Le_it ?_ ?_
    · exact Le_refl _
    · refine Le_ck (fun _ => ?_)
      refine Le_ck (fun _ => ?_)
      refine Le_ck (fun _ => ?_)
      refine Le_bp (Le_refl _) (fun x27 => ?_)
      refine Le_ck (fun _ => ?_)
      refine Le_bp (Le_refl _) (fun x30 => ?_)
      refine Le_ck (fun _ => ?_)
      refine Le_nm (fun σ32 => ?_)
      refine Le_nm (fun x33 => ?_)
      exact ih
theorem u_c_X2_passDays {n : Nat} {v1 : Int32} {v2 : UInt64} {v4 : Int32} {σ : Sg} : Le (c_X2_passDays n v1 v2 v4 σ) (c_X2_passDays (n + 1) v1 v2 v4 σ) := by
  unfold c_X2_passDays
  exact u_d_X2_passDays_3
theorem u_d_X2_step_224 {n : Nat} {s0 : UInt64} {s1 : Int32} {s2 : Nat} {σ : Sg} : Le (d_X2_step_224 n s0 s1 s2 σ) (d_X2_step_224 (n + 1) s0 s1 s2 σ) := by
  unfold d_X2_step_224
  refine Le_ck (fun _ => ?_)
  refine Le_nm (fun σ224 => ?_)
  exact Le_refl _
theorem u_d_X2_step_330 {n : Nat} {v5 : Int32} {v7 : Int32} {σ : Sg} : Le (d_X2_step_330 n v5 v7 σ) (d_X2_step_330 (n + 1) v5 v7 σ) := by
  unfold d_X2_step_330
  refine Le_ck (fun _ => ?_)
  refine Le_nm (fun σ278 => ?_)
  exact Le_refl _
theorem u_d_X2_step_379 {n : Nat} {s0 : Int64} {s1 : Int64} {s2 : Int32} {s3 : Nat} {σ : Sg} : Le (d_X2_step_379 n s0 s1 s2 s3 σ) (d_X2_step_379 (n + 1) s0 s1 s2 s3 σ) := by
  unfold d_X2_step_379
  refine Le_ck (fun _ => ?_)
  refine Le_nm (fun σ297 => ?_)
  exact Le_refl _
theorem u_c_X2_step {n : Nat} {v1 : Nat} {v2 : Int32} {v4 : Int32} {σ : Sg} : Le (c_X2_step n v1 v2 v4 σ) (c_X2_step (n + 1) v1 v2 v4 σ) := by
  unfold c_X2_step
  refine Le_ck (fun _ => ?_)
  refine Le_nm (fun x152 => ?_)
  refine Le_ck (fun _ => ?_)
  refine Le_nm (fun x156 => ?_)
  refine Le_ck (fun _ => ?_)
  refine Le_nm (fun x160 => ?_)
  refine Le_ck (fun _ => ?_)
  refine Le_it ?_ ?_
  · refine Le_ck (fun _ => ?_)
    refine Le_nm (fun σ169 => ?_)
    exact Le_refl _
  · refine Le_it ?_ ?_
    · refine Le_bp (Le_refl _) (fun x175 => ?_)
      refine Le_ck (fun _ => ?_)
      refine Le_bp (Le_refl _) (fun x178 => ?_)
      refine Le_ck (fun _ => ?_)
      refine Le_nm (fun σ180 => ?_)
      exact Le_refl _
    · refine Le_it ?_ ?_
      · refine Le_bp (Le_refl _) (fun x186 => ?_)
        refine Le_ck (fun _ => ?_)
        refine Le_bp (Le_refl _) (fun x189 => ?_)
        refine Le_ck (fun _ => ?_)
        refine Le_nm (fun σ191 => ?_)
        exact Le_refl _
      · refine Le_it ?_ ?_
        · refine Le_ck (fun _ => ?_)
          refine Le_bp (Le_refl _) (fun x199 => ?_)
          refine Le_ck (fun _ => ?_)
          refine Le_ck (fun _ => ?_)
          refine Le_nm (fun σ202 => ?_)
          exact Le_refl _
        · refine Le_it ?_ ?_
          · refine Le_ck (fun _ => ?_)
            refine Le_bp (Le_refl _) (fun x210 => ?_)
            refine Le_ck (fun _ => ?_)
            refine Le_nm (fun σ212 => ?_)
            exact Le_refl _
          · refine Le_it ?_ ?_
            · refine Le_it ?_ ?_
              · refine Le_ck (fun _ => ?_)
                refine Le_ck (fun _ => ?_)
                refine Le_ck (fun _ => ?_)
                exact u_d_X2_step_224
              · refine Le_ck (fun _ => ?_)
                refine Le_ck (fun _ => ?_)
                refine Le_ck (fun _ => ?_)
                exact u_d_X2_step_224
            · refine Le_it ?_ ?_
              · refine Le_ck (fun _ => ?_)
                refine Le_bp (Le_refl _) (fun x238 => ?_)
                refine Le_ck (fun _ => ?_)
                refine Le_ck (fun _ => ?_)
                refine Le_bp (u_c_X7_divide) (fun σ250 => ?_)
                exact Le_refl _
              · refine Le_it ?_ ?_
                · refine Le_ck (fun _ => ?_)
                  refine Le_ck (fun _ => ?_)
                  refine Le_nm (fun σ262 => ?_)
                  exact Le_refl _
                · refine Le_it ?_ ?_
                  · refine Le_bp (Le_refl _) (fun σ266 => ?_)
                    exact Le_refl _
                  · refine Le_it ?_ ?_
                    · refine Le_it ?_ ?_
                      · refine Le_ck (fun _ => ?_)
                        refine Le_it ?_ ?_
                        · exact Le_refl _
                        · exact u_d_X2_step_330
                      · refine Le_ck (fun _ => ?_)
                        refine Le_it ?_ ?_
                        · exact Le_refl _
                        · exact u_d_X2_step_330
                    · refine Le_it ?_ ?_
                      · refine Le_ck (fun _ => ?_)
                        refine Le_it ?_ ?_
                        · refine Le_ck (fun _ => ?_)
                          exact u_d_X2_step_379
                        · refine Le_ck (fun _ => ?_)
                          exact u_d_X2_step_379
                      · refine Le_it ?_ ?_
                        · refine Le_ck (fun _ => ?_)
                          refine Le_bp (Le_refl _) (fun x308 => ?_)
                          refine Le_ck (fun _ => ?_)
                          refine Le_nm (fun σ310 => ?_)
                          exact Le_refl _
                        · refine Le_bp (Le_refl _) (fun x312 => ?_)
                          refine Le_bp (u_c_X2_passDays) (fun σ315 => ?_)
                          exact Le_refl _
theorem u_d_X2_perform_46 : ∀ {n : Nat} {v1 : Nat} {v3 : Int32} {v4 : Int32} {σ : Sg}, Le (d_X2_perform_46 n v1 v3 v4 σ) (d_X2_perform_46 (n + 1) v1 v3 v4 σ) := by
  intro n
  induction n with
  | zero => intro v1 v3 v4 σ; exact Le_none
  | succ n ih =>
    intro v1 v3 v4 σ
    unfold d_X2_perform_46
    refine Le_it ?_ ?_
    · exact Le_refl _
    · refine Le_bp (u_c_X2_step) (fun σ60 => ?_)
      refine Le_ck (fun _ => ?_)
      refine Le_ck (fun _ => ?_)
      refine Le_ck (fun _ => ?_)
      refine Le_bp (Le_refl _) (fun x73 => ?_)
      refine Le_ck (fun _ => ?_)
      refine Le_nm (fun σ75 => ?_)
      refine Le_nm (fun x76 => ?_)
      exact ih
theorem u_d_X2_perform_43 {n : Nat} {v1 : Nat} {v3 : Int32} {σ : Sg} : Le (d_X2_perform_43 n v1 v3 σ) (d_X2_perform_43 (n + 1) v1 v3 σ) := by
  unfold d_X2_perform_43
  exact u_d_X2_perform_46
theorem u_d_X2_perform_22 : ∀ {n : Nat} {v1 : Nat} {v3 : Int32} {v4 : Int32} {σ : Sg}, Le (d_X2_perform_22 n v1 v3 v4 σ) (d_X2_perform_22 (n + 1) v1 v3 v4 σ) := by
  intro n
  induction n with
  | zero => intro v1 v3 v4 σ; exact Le_none
  | succ n ih =>
    intro v1 v3 v4 σ
    unfold d_X2_perform_22
    refine Le_it ?_ ?_
    · exact u_d_X2_perform_43
    · refine Le_ck (fun _ => ?_)
      refine Le_nm (fun σ81 => ?_)
      refine Le_nm (fun x82 => ?_)
      exact ih
theorem u_c_X2_perform {n : Nat} {v1 : Nat} {v3 : Int32} {σ : Sg} : Le (c_X2_perform n v1 v3 σ) (c_X2_perform (n + 1) v1 v3 σ) := by
  unfold c_X2_perform
  refine Le_bp (u_c_X4_reset) (fun σ46 => ?_)
  refine Le_bp (u_c_X7_wipe) (fun σ52 => ?_)
  refine Le_nm (fun σ54 => ?_)
  exact u_d_X2_perform_22
theorem u_d_X4_become_26 {n : Nat} {v0 : Nat} {v1 : Nat} {σ : Sg} : Le (d_X4_become_26 n v0 v1 σ) (d_X4_become_26 (n + 1) v0 v1 σ) := by
  unfold d_X4_become_26
  refine Le_nm (fun σ17 => ?_)
  exact Le_refl _
theorem u_d_X4_become_2 : ∀ {n : Nat} {v0 : Nat} {v1 : Nat} {v2 : Int32} {σ : Sg}, Le (d_X4_become_2 n v0 v1 v2 σ) (d_X4_become_2 (n + 1) v0 v1 v2 σ) := by
  intro n
  induction n with
  | zero => intro v0 v1 v2 σ; exact Le_none
  | succ n ih =>
    intro v0 v1 v2 σ
    unfold d_X4_become_2
    refine Le_it ?_ ?_
    · exact u_d_X4_become_26
    · refine Le_ck (fun _ => ?_)
      refine Le_ck (fun _ => ?_)
      refine Le_nm (fun σ26 => ?_)
      refine Le_nm (fun x27 => ?_)
      exact ih
theorem u_c_X4_become {n : Nat} {v0 : Nat} {v1 : Nat} {σ : Sg} : Le (c_X4_become n v0 v1 σ) (c_X4_become (n + 1) v0 v1 σ) := by
  unfold c_X4_become
  exact u_d_X4_become_2
theorem u_d_X4_total_4 : ∀ {n : Nat} {v0 : Nat} {v1 : Int64} {v3 : Int32} {σ : Sg}, Le (d_X4_total_4 n v0 v1 v3 σ) (d_X4_total_4 (n + 1) v0 v1 v3 σ) := by
  intro n
  induction n with
  | zero => intro v0 v1 v3 σ; exact Le_none
  | succ n ih =>
    intro v0 v1 v3 σ
    unfold d_X4_total_4
    refine Le_it ?_ ?_
    · exact Le_refl _
    · refine Le_ck (fun _ => ?_)
      refine Le_nm (fun x12 => ?_)
      refine Le_nm (fun x13 => ?_)
      exact ih
theorem u_c_X4_total {n : Nat} {v0 : Nat} {σ : Sg} : Le (c_X4_total n v0 σ) (c_X4_total (n + 1) v0 σ) := by
  unfold c_X4_total
  exact u_d_X4_total_4
theorem u_d_X4_matches_2 : ∀ {n : Nat} {v0 : Nat} {v1 : Nat} {v2 : Int32} {v3 : Int32} {σ : Sg}, Le (d_X4_matches_2 n v0 v1 v2 v3 σ) (d_X4_matches_2 (n + 1) v0 v1 v2 v3 σ) := by
  intro n
  induction n with
  | zero => intro v0 v1 v2 v3 σ; exact Le_none
  | succ n ih =>
    intro v0 v1 v2 v3 σ
    unfold d_X4_matches_2
    refine Le_it ?_ ?_
    · exact Le_refl _
    · refine Le_ck (fun _ => ?_)
      refine Le_ck (fun _ => ?_)
      refine Le_it ?_ ?_
      · refine Le_nm (fun x20 => ?_)
        exact ih
      · exact Le_refl _
theorem u_c_X4_matches {n : Nat} {v0 : Nat} {v1 : Nat} {v2 : Int32} {σ : Sg} : Le (c_X4_matches n v0 v1 v2 σ) (c_X4_matches (n + 1) v0 v1 v2 σ) := by
  unfold c_X4_matches
  exact u_d_X4_matches_2
theorem u_d_X5_wipe_56 {n : Nat} {v0 : Nat} {σ : Sg} : Le (d_X5_wipe_56 n v0 σ) (d_X5_wipe_56 (n + 1) v0 σ) := by
  unfold d_X5_wipe_56
  refine Le_bp (u_c_X7_wipe) (fun σ40 => ?_)
  refine Le_nm (fun σ42 => ?_)
  refine Le_nm (fun σ44 => ?_)
  exact Le_refl _
theorem u_d_X5_wipe_37 : ∀ {n : Nat} {v0 : Nat} {v1 : Int32} {σ : Sg}, Le (d_X5_wipe_37 n v0 v1 σ) (d_X5_wipe_37 (n + 1) v0 v1 σ) := by
  intro n
  induction n with
  | zero => intro v0 v1 σ; exact Le_none
  | succ n ih =>
    intro v0 v1 σ
    unfold d_X5_wipe_37
    refine Le_it ?_ ?_
    · exact u_d_X5_wipe_56
    · refine Le_ck (fun _ => ?_)
      refine Le_nm (fun σ49 => ?_)
      refine Le_nm (fun x50 => ?_)
      exact ih
theorem u_d_X5_wipe_35 {n : Nat} {v0 : Nat} {σ : Sg} : Le (d_X5_wipe_35 n v0 σ) (d_X5_wipe_35 (n + 1) v0 σ) := by
  unfold d_X5_wipe_35
  exact u_d_X5_wipe_37
theorem u_d_X5_wipe_2 : ∀ {n : Nat} {v0 : Nat} {v1 : Int32} {σ : Sg}, Le (d_X5_wipe_2 n v0 v1 σ) (d_X5_wipe_2 (n + 1) v0 v1 σ) := by
  intro n
  induction n with
  | zero => intro v0 v1 σ; exact Le_none
  | succ n ih =>
    intro v0 v1 σ
    unfold d_X5_wipe_2
    refine Le_it ?_ ?_
    · exact u_d_X5_wipe_35
    · refine Le_ck (fun _ => ?_)
      refine Le_nm (fun σ55 => ?_)
      refine Le_ck (fun _ => ?_)
      refine Le_nm (fun σ60 => ?_)
      refine Le_ck (fun _ => ?_)
      refine Le_nm (fun σ65 => ?_)
      refine Le_nm (fun x66 => ?_)
      exact ih
theorem u_c_X5_wipe {n : Nat} {v0 : Nat} {σ : Sg} : Le (c_X5_wipe n v0 σ) (c_X5_wipe (n + 1) v0 σ) := by
  unfold c_X5_wipe
  exact u_d_X5_wipe_2
theorem u_c_X5_startAfresh {n : Nat} {v0 : Nat} {σ : Sg} : Le (c_X5_startAfresh n v0 σ) (c_X5_startAfresh (n + 1) v0 σ) := by
  unfold c_X5_startAfresh
  refine Le_bp (u_c_X4_reset) (fun σ16 => ?_)
  refine Le_nm (fun σ18 => ?_)
  refine Le_nm (fun σ20 => ?_)
  exact Le_refl _
theorem u_d_X5_sumOfLines_4 : ∀ {n : Nat} {v0 : Nat} {v1 : Int64} {v3 : Int32} {σ : Sg}, Le (d_X5_sumOfLines_4 n v0 v1 v3 σ) (d_X5_sumOfLines_4 (n + 1) v0 v1 v3 σ) := by
  intro n
  induction n with
  | zero => intro v0 v1 v3 σ; exact Le_none
  | succ n ih =>
    intro v0 v1 v3 σ
    unfold d_X5_sumOfLines_4
    refine Le_it ?_ ?_
    · exact Le_refl _
    · refine Le_ck (fun _ => ?_)
      refine Le_nm (fun x24 => ?_)
      refine Le_nm (fun x25 => ?_)
      exact ih
theorem u_c_X5_sumOfLines {n : Nat} {v0 : Nat} {σ : Sg} : Le (c_X5_sumOfLines n v0 σ) (c_X5_sumOfLines (n + 1) v0 σ) := by
  unfold c_X5_sumOfLines
  exact u_d_X5_sumOfLines_4
theorem u_d_X5_taxLines_6 : ∀ {n : Nat} {v0 : Nat} {v1 : Int64} {v3 : Int64} {v5 : Int32} {v6 : Int64} {v8 : Int32} {σ : Sg}, Le (d_X5_taxLines_6 n v0 v1 v3 v5 v6 v8 σ) (d_X5_taxLines_6 (n + 1) v0 v1 v3 v5 v6 v8 σ) := by
  intro n
  induction n with
  | zero => intro v0 v1 v3 v5 v6 v8 σ; exact Le_none
  | succ n ih =>
    intro v0 v1 v3 v5 v6 v8 σ
    unfold d_X5_taxLines_6
    refine Le_it ?_ ?_
    · exact Le_refl _
    · refine Le_ck (fun _ => ?_)
      refine Le_bp (Le_refl _) (fun x37 => ?_)
      refine Le_ck (fun _ => ?_)
      refine Le_nm (fun σ39 => ?_)
      refine Le_ck (fun _ => ?_)
      refine Le_nm (fun x44 => ?_)
      refine Le_nm (fun x45 => ?_)
      exact ih
theorem u_c_X5_taxLines {n : Nat} {v0 : Nat} {v1 : Int64} {v3 : Int64} {v5 : Int32} {σ : Sg} : Le (c_X5_taxLines n v0 v1 v3 v5 σ) (c_X5_taxLines (n + 1) v0 v1 v3 v5 σ) := by
  unfold c_X5_taxLines
  exact u_d_X5_taxLines_6
theorem u_d_X5_flowLines_9 : ∀ {n : Nat} {v0 : Nat} {v1 : Int64} {v3 : Int64} {v5 : Int32} {v6 : Int64} {v8 : Int64} {v10 : Int32} {σ : Sg}, Le (d_X5_flowLines_9 n v0 v1 v3 v5 v6 v8 v10 σ) (d_X5_flowLines_9 (n + 1) v0 v1 v3 v5 v6 v8 v10 σ) := by
  intro n
  induction n with
  | zero => intro v0 v1 v3 v5 v6 v8 v10 σ; exact Le_none
  | succ n ih =>
    intro v0 v1 v3 v5 v6 v8 v10 σ
    unfold d_X5_flowLines_9
    refine Le_it ?_ ?_
    · exact Le_refl _
    · refine Le_ck (fun _ => ?_)
      refine Le_nm (fun x35 => ?_)
      refine Le_bp (Le_refl _) (fun x39 => ?_)
      refine Le_ck (fun _ => ?_)
      refine Le_nm (fun σ41 => ?_)
      refine Le_ck (fun _ => ?_)
      refine Le_nm (fun x46 => ?_)
      refine Le_nm (fun x47 => ?_)
      exact ih
theorem u_c_X5_flowLines {n : Nat} {v0 : Nat} {v1 : Int64} {v3 : Int64} {v5 : Int32} {σ : Sg} : Le (c_X5_flowLines n v0 v1 v3 v5 σ) (c_X5_flowLines (n + 1) v0 v1 v3 v5 σ) := by
  unfold c_X5_flowLines
  exact u_d_X5_flowLines_9
theorem u_c_X5_become {n : Nat} {v0 : Nat} {v1 : Int32} {v2 : Int64} {v4 : Int64} {v6 : Int32} {σ : Sg} : Le (c_X5_become n v0 v1 v2 v4 v6 σ) (c_X5_become (n + 1) v0 v1 v2 v4 v6 σ) := by
  unfold c_X5_become
  refine Le_bp (u_f_X3_divisor) (fun x24 => ?_)
  refine Le_it ?_ ?_
  · exact Le_refl _
  · refine Le_ck (fun _ => ?_)
    refine Le_bp (Le_refl _) (fun x28 => ?_)
    refine Le_it ?_ ?_
    · refine Le_ck (fun _ => ?_)
      refine Le_nm (fun σ34 => ?_)
      refine Le_ck (fun _ => ?_)
      refine Le_nm (fun σ39 => ?_)
      refine Le_ck (fun _ => ?_)
      refine Le_ck (fun _ => ?_)
      refine Le_nm (fun σ45 => ?_)
      exact Le_refl _
    · exact Le_refl _
theorem u_c_X5_carry {n : Nat} {v0 : Nat} {v1 : Int32} {σ : Sg} : Le (c_X5_carry n v0 v1 σ) (c_X5_carry (n + 1) v0 v1 σ) := by
  unfold c_X5_carry
  refine Le_ck (fun _ => ?_)
  refine Le_ck (fun _ => ?_)
  refine Le_nm (fun x46 => ?_)
  refine Le_ck (fun _ => ?_)
  refine Le_nm (fun x49 => ?_)
  refine Le_bp (u_f_X3_divisor) (fun x51 => ?_)
  refine Le_it ?_ ?_
  · exact Le_refl _
  · refine Le_ck (fun _ => ?_)
    refine Le_bp (Le_refl _) (fun x55 => ?_)
    refine Le_it ?_ ?_
    · refine Le_nm (fun x57 => ?_)
      refine Le_nm (fun x58 => ?_)
      refine Le_bp (Le_refl _) (fun x61 => ?_)
      refine Le_ck (fun _ => ?_)
      refine Le_nm (fun σ63 => ?_)
      refine Le_ck (fun _ => ?_)
      refine Le_nm (fun σ68 => ?_)
      refine Le_ck (fun _ => ?_)
      refine Le_nm (fun σ73 => ?_)
      refine Le_nm (fun σ75 => ?_)
      exact Le_refl _
    · exact Le_refl _
theorem u_d_X5_passDays_3 : ∀ {n : Nat} {v0 : Nat} {v1 : Int32} {v2 : Int64} {v4 : Int64} {v6 : Int32} {v7 : Int32} {σ : Sg}, Le (d_X5_passDays_3 n v0 v1 v2 v4 v6 v7 σ) (d_X5_passDays_3 (n + 1) v0 v1 v2 v4 v6 v7 σ) := by
  intro n
  induction n with
  | zero => intro v0 v1 v2 v4 v6 v7 σ; exact Le_none
  | succ n ih =>
    intro v0 v1 v2 v4 v6 v7 σ
    unfold d_X5_passDays_3
    refine Le_it ?_ ?_
    · exact Le_refl _
    · refine Le_ck (fun _ => ?_)
      refine Le_ck (fun _ => ?_)
      refine Le_bp (Le_refl _) (fun x37 => ?_)
      refine Le_it ?_ ?_
      · exact Le_refl _
      · refine Le_ck (fun _ => ?_)
        refine Le_ck (fun _ => ?_)
        refine Le_nm (fun x43 => ?_)
        refine Le_ck (fun _ => ?_)
        refine Le_bp (Le_refl _) (fun x47 => ?_)
        refine Le_it ?_ ?_
        · refine Le_ck (fun _ => ?_)
          refine Le_nm (fun σ51 => ?_)
          refine Le_nm (fun x52 => ?_)
          exact ih
        · exact Le_refl _
theorem u_c_X5_passDays {n : Nat} {v0 : Nat} {v1 : Int32} {v2 : Int64} {v4 : Int64} {v6 : Int32} {σ : Sg} : Le (c_X5_passDays n v0 v1 v2 v4 v6 σ) (c_X5_passDays (n + 1) v0 v1 v2 v4 v6 σ) := by
  unfold c_X5_passDays
  exact u_d_X5_passDays_3
theorem u_d_X5_step_344 {n : Nat} {s0 : Int32} {s1 : Int64} {s2 : Int64} {s3 : Int32} {s4 : Nat} {σ : Sg} : Le (d_X5_step_344 n s0 s1 s2 s3 s4 σ) (d_X5_step_344 (n + 1) s0 s1 s2 s3 s4 σ) := by
  unfold d_X5_step_344
  refine Le_bd (u_c_X5_become) (fun x314 σ313 => ?_)
  exact Le_refl _
theorem u_d_X5_step_339 {n : Nat} {s0 : Int64} {s1 : Int64} {s2 : Int32} {s3 : Nat} {σ : Sg} : Le (d_X5_step_339 n s0 s1 s2 s3 σ) (d_X5_step_339 (n + 1) s0 s1 s2 s3 σ) := by
  unfold d_X5_step_339
  exact u_d_X5_step_344
theorem u_d_X5_step_269 {n : Nat} {v0 : Nat} {v4 : Int32} {v5 : Int32} {s0 : Int64} {σ : Sg} : Le (d_X5_step_269 n v0 v4 v5 s0 σ) (d_X5_step_269 (n + 1) v0 v4 v5 s0 σ) := by
  unfold d_X5_step_269
  refine Le_ck (fun _ => ?_)
  refine Le_ck (fun _ => ?_)
  refine Le_ck (fun _ => ?_)
  refine Le_nm (fun x302 => ?_)
  refine Le_ck (fun _ => ?_)
  refine Le_ck (fun _ => ?_)
  refine Le_ck (fun _ => ?_)
  refine Le_it ?_ ?_
  · refine Le_ck (fun _ => ?_)
    refine Le_it ?_ ?_
    · exact u_d_X5_step_344
    · exact u_d_X5_step_339
  · exact u_d_X5_step_339
theorem u_c_X5_step {n : Nat} {v0 : Nat} {v1 : Nat} {v2 : Int32} {σ : Sg} : Le (c_X5_step n v0 v1 v2 σ) (c_X5_step (n + 1) v0 v1 v2 σ) := by
  unfold c_X5_step
  refine Le_ck (fun _ => ?_)
  refine Le_nm (fun x199 => ?_)
  refine Le_ck (fun _ => ?_)
  refine Le_nm (fun x203 => ?_)
  refine Le_ck (fun _ => ?_)
  refine Le_nm (fun x207 => ?_)
  refine Le_ck (fun _ => ?_)
  refine Le_it ?_ ?_
  · refine Le_bp (u_c_X5_sumOfLines) (fun x214 => ?_)
    refine Le_bd (Le_refl _) (fun x217 σ216 => ?_)
    exact Le_refl _
  · refine Le_it ?_ ?_
    · refine Le_ck (fun _ => ?_)
      refine Le_ck (fun _ => ?_)
      refine Le_bd (u_c_X5_taxLines) (fun x229 σ228 => ?_)
      refine Le_bd (Le_refl _) (fun x233 σ232 => ?_)
      exact Le_refl _
    · refine Le_it ?_ ?_
      · refine Le_ck (fun _ => ?_)
        refine Le_ck (fun _ => ?_)
        refine Le_bd (u_c_X5_flowLines) (fun x245 σ244 => ?_)
        refine Le_bd (Le_refl _) (fun x249 σ248 => ?_)
        exact Le_refl _
      · refine Le_it ?_ ?_
        · refine Le_ck (fun _ => ?_)
          refine Le_ck (fun _ => ?_)
          refine Le_ck (fun _ => ?_)
          refine Le_ck (fun _ => ?_)
          refine Le_ck (fun _ => ?_)
          refine Le_bd (u_c_X5_become) (fun x270 σ269 => ?_)
          exact Le_refl _
        · refine Le_it ?_ ?_
          · refine Le_ck (fun _ => ?_)
            refine Le_ck (fun _ => ?_)
            refine Le_bp (Le_refl _) (fun x280 => ?_)
            refine Le_ck (fun _ => ?_)
            refine Le_bd (Le_refl _) (fun x286 σ285 => ?_)
            exact Le_refl _
          · refine Le_it ?_ ?_
            · refine Le_it ?_ ?_
              · refine Le_ck (fun _ => ?_)
                exact u_d_X5_step_269
              · refine Le_ck (fun _ => ?_)
                exact u_d_X5_step_269
            · refine Le_it ?_ ?_
              · refine Le_ck (fun _ => ?_)
                refine Le_it ?_ ?_
                · refine Le_ck (fun _ => ?_)
                  refine Le_ck (fun _ => ?_)
                  refine Le_nm (fun σ332 => ?_)
                  refine Le_ck (fun _ => ?_)
                  refine Le_ck (fun _ => ?_)
                  refine Le_ck (fun _ => ?_)
                  refine Le_bp (u_c_X7_divide) (fun σ350 => ?_)
                  exact Le_refl _
                · exact Le_refl _
              · refine Le_it ?_ ?_
                · refine Le_ck (fun _ => ?_)
                  refine Le_bd (Le_refl _) (fun x361 σ360 => ?_)
                  exact Le_refl _
                · refine Le_it ?_ ?_
                  · refine Le_bd (u_c_X5_carry) (fun x366 σ365 => ?_)
                    exact Le_refl _
                  · refine Le_it ?_ ?_
                    · refine Le_bd (Le_refl _) (fun x371 σ370 => ?_)
                      exact Le_refl _
                    · refine Le_it ?_ ?_
                      · refine Le_bd (Le_refl _) (fun x376 σ375 => ?_)
                        exact Le_refl _
                      · refine Le_it ?_ ?_
                        · refine Le_ck (fun _ => ?_)
                          refine Le_ck (fun _ => ?_)
                          refine Le_bp (Le_refl _) (fun x386 => ?_)
                          refine Le_bd (Le_refl _) (fun x389 σ388 => ?_)
                          exact Le_refl _
                        · refine Le_ck (fun _ => ?_)
                          refine Le_ck (fun _ => ?_)
                          refine Le_bd (u_c_X5_passDays) (fun x400 σ399 => ?_)
                          exact Le_refl _
theorem u_d_X5_perform_28 {n : Nat} {v0 : Nat} {v3 : Int32} {v4 : Int32} {σ : Sg} : Le (d_X5_perform_28 n v0 v3 v4 σ) (d_X5_perform_28 (n + 1) v0 v3 v4 σ) := by
  unfold d_X5_perform_28
  refine Le_nm (fun σ24 => ?_)
  exact Le_refl _
theorem u_d_X5_perform_6 : ∀ {n : Nat} {v0 : Nat} {v1 : Nat} {v3 : Int32} {σ : Sg}, Le (d_X5_perform_6 n v0 v1 v3 σ) (d_X5_perform_6 (n + 1) v0 v1 v3 σ) := by
  intro n
  induction n with
  | zero => intro v0 v1 v3 σ; exact Le_none
  | succ n ih =>
    intro v0 v1 v3 σ
    unfold d_X5_perform_6
    refine Le_it ?_ ?_
    · exact Le_refl _
    · refine Le_bd (u_c_X5_step) (fun x20 σ19 => ?_)
      refine Le_it ?_ ?_
      · refine Le_nm (fun x22 => ?_)
        exact ih
      · exact u_d_X5_perform_28
theorem u_c_X5_perform {n : Nat} {v0 : Nat} {v1 : Nat} {σ : Sg} : Le (c_X5_perform n v0 v1 σ) (c_X5_perform (n + 1) v0 v1 σ) := by
  unfold c_X5_perform
  refine Le_bp (u_c_X5_wipe) (fun σ14 => ?_)
  exact u_d_X5_perform_6
theorem u_d_X6_hasActsOf_15 : ∀ {n : Nat} {v0 : Nat} {v1 : Nat} {v2 : Int32} {σ : Sg}, Le (d_X6_hasActsOf_15 n v0 v1 v2 σ) (d_X6_hasActsOf_15 (n + 1) v0 v1 v2 σ) := by
  intro n
  induction n with
  | zero => intro v0 v1 v2 σ; exact Le_none
  | succ n ih =>
    intro v0 v1 v2 σ
    unfold d_X6_hasActsOf_15
    refine Le_it ?_ ?_
    · exact Le_refl _
    · refine Le_ck (fun _ => ?_)
      refine Le_ck (fun _ => ?_)
      refine Le_it ?_ ?_
      · refine Le_ck (fun _ => ?_)
        refine Le_ck (fun _ => ?_)
        refine Le_it ?_ ?_
        · refine Le_ck (fun _ => ?_)
          refine Le_ck (fun _ => ?_)
          refine Le_it ?_ ?_
          · refine Le_ck (fun _ => ?_)
            refine Le_ck (fun _ => ?_)
            refine Le_it ?_ ?_
            · refine Le_nm (fun x71 => ?_)
              exact ih
            · exact Le_refl _
          · exact Le_refl _
        · exact Le_refl _
      · exact Le_refl _
theorem u_c_X6_hasActsOf {n : Nat} {v0 : Nat} {v1 : Nat} {σ : Sg} : Le (c_X6_hasActsOf n v0 v1 σ) (c_X6_hasActsOf (n + 1) v0 v1 σ) := by
  unfold c_X6_hasActsOf
  refine Le_it ?_ ?_
  · exact u_d_X6_hasActsOf_15
  · exact Le_refl _
theorem u_d_X7_strays_2 : ∀ {n : Nat} {v0 : Nat} {v1 : Int32} {σ : Sg}, Le (d_X7_strays_2 n v0 v1 σ) (d_X7_strays_2 (n + 1) v0 v1 σ) := by
  intro n
  induction n with
  | zero => intro v0 v1 σ; exact Le_none
  | succ n ih =>
    intro v0 v1 σ
    unfold d_X7_strays_2
    refine Le_it ?_ ?_
    · exact Le_refl _
    · refine Le_ck (fun _ => ?_)
      refine Le_ck (fun _ => ?_)
      refine Le_nm (fun x20 => ?_)
      refine Le_it ?_ ?_
      · exact Le_refl _
      · refine Le_it ?_ ?_
        · refine Le_nm (fun x23 => ?_)
          exact ih
        · exact Le_refl _
theorem u_c_X7_strays {n : Nat} {v0 : Nat} {σ : Sg} : Le (c_X7_strays n v0 σ) (c_X7_strays (n + 1) v0 σ) := by
  unfold c_X7_strays
  exact u_d_X7_strays_2
theorem u_d_X8_reset_30 : ∀ {n : Nat} {v1 : Int32} {σ : Sg}, Le (d_X8_reset_30 n v1 σ) (d_X8_reset_30 (n + 1) v1 σ) := by
  intro n
  induction n with
  | zero => intro v1 σ; exact Le_none
  | succ n ih =>
    intro v1 σ
    unfold d_X8_reset_30
    refine Le_it ?_ ?_
    · exact Le_refl _
    · refine Le_ck (fun _ => ?_)
      refine Le_ck (fun _ => ?_)
      refine Le_nm (fun σ43 => ?_)
      refine Le_ck (fun _ => ?_)
      refine Le_ck (fun _ => ?_)
      refine Le_nm (fun σ51 => ?_)
      refine Le_ck (fun _ => ?_)
      refine Le_nm (fun σ56 => ?_)
      refine Le_nm (fun x57 => ?_)
      exact ih
theorem u_d_X8_reset_28 {n : Nat} {σ : Sg} : Le (d_X8_reset_28 n σ) (d_X8_reset_28 (n + 1) σ) := by
  unfold d_X8_reset_28
  exact u_d_X8_reset_30
theorem u_d_X8_reset_2 : ∀ {n : Nat} {v1 : Int32} {σ : Sg}, Le (d_X8_reset_2 n v1 σ) (d_X8_reset_2 (n + 1) v1 σ) := by
  intro n
  induction n with
  | zero => intro v1 σ; exact Le_none
  | succ n ih =>
    intro v1 σ
    unfold d_X8_reset_2
    refine Le_it ?_ ?_
    · exact u_d_X8_reset_28
    · refine Le_ck (fun _ => ?_)
      refine Le_nm (fun σ62 => ?_)
      refine Le_ck (fun _ => ?_)
      refine Le_nm (fun σ67 => ?_)
      refine Le_nm (fun x68 => ?_)
      exact ih
theorem u_c_X8_reset {n : Nat} {σ : Sg} : Le (c_X8_reset n σ) (c_X8_reset (n + 1) σ) := by
  unfold c_X8_reset
  exact u_d_X8_reset_2
theorem u_d_X9_holdRow_12 : ∀ {n : Nat} {v0 : Nat} {v3 : Int32} {σ : Sg}, Le (d_X9_holdRow_12 n v0 v3 σ) (d_X9_holdRow_12 (n + 1) v0 v3 σ) := by
  intro n
  induction n with
  | zero => intro v0 v3 σ; exact Le_none
  | succ n ih =>
    intro v0 v3 σ
    unfold d_X9_holdRow_12
    refine Le_it ?_ ?_
    · exact Le_refl _
    · refine Le_ck (fun _ => ?_)
      refine Le_nm (fun σ21 => ?_)
      refine Le_nm (fun x22 => ?_)
      exact ih
theorem u_c_X9_holdRow {n : Nat} {v0 : Nat} {v1 : Int32} {v2 : Int32} {σ : Sg} : Le (c_X9_holdRow n v0 v1 v2 σ) (c_X9_holdRow (n + 1) v0 v1 v2 σ) := by
  unfold c_X9_holdRow
  refine Le_nm (fun σ13 => ?_)
  refine Le_nm (fun σ15 => ?_)
  exact u_d_X9_holdRow_12
theorem u_d_X10_differs_34 {n : Nat} {σ : Sg} : Le (d_X10_differs_34 n σ) (d_X10_differs_34 (n + 1) σ) := by
  unfold d_X10_differs_34
  exact Le_refl _
theorem u_c_X10_differs {n : Nat} {v1 : Int32} {v2 : Int32} {v3 : Int32} {σ : Sg} : Le (c_X10_differs n v1 v2 v3 σ) (c_X10_differs (n + 1) v1 v2 v3 σ) := by
  unfold c_X10_differs
  refine Le_it ?_ ?_
  · refine Le_it ?_ ?_
    · exact u_d_X10_differs_34
    · refine Le_bp (u_c_X4_matches) (fun x30 => ?_)
      refine Le_it ?_ ?_
      · exact Le_refl _
      · exact u_d_X10_differs_34
  · exact Le_refl _
theorem u_d_X10_breaks_104 {n : Nat} {σ : Sg} : Le (d_X10_breaks_104 n σ) (d_X10_breaks_104 (n + 1) σ) := by
  unfold d_X10_breaks_104
  exact Le_refl _
theorem u_d_X10_breaks_168 {n : Nat} {s0 : Int32} {s1 : Int32} {s2 : Int32} {σ : Sg} : Le (d_X10_breaks_168 n s0 s1 s2 σ) (d_X10_breaks_168 (n + 1) s0 s1 s2 σ) := by
  unfold d_X10_breaks_168
  refine Le_bp (u_c_X10_differs) (fun x163 => ?_)
  refine Le_ck (fun _ => ?_)
  exact Le_refl _
theorem u_d_X10_breaks_157 {n : Nat} {v4 : Int32} {s0 : Int32} {s1 : Int32} {σ : Sg} : Le (d_X10_breaks_157 n v4 s0 s1 σ) (d_X10_breaks_157 (n + 1) v4 s0 s1 σ) := by
  unfold d_X10_breaks_157
  refine Le_it ?_ ?_
  · exact u_d_X10_breaks_168
  · exact u_d_X10_breaks_168
theorem u_d_X10_breaks_127 {n : Nat} {v3 : Nat} {v4 : Int32} {v6 : Int32} {s0 : Int32} {s1 : Nat} {σ : Sg} : Le (d_X10_breaks_127 n v3 v4 v6 s0 s1 σ) (d_X10_breaks_127 (n + 1) v3 v4 v6 s0 s1 σ) := by
  unfold d_X10_breaks_127
  refine Le_bp (Le_refl _) (fun σ145 => ?_)
  refine Le_bp (u_c_X5_startAfresh) (fun σ151 => ?_)
  refine Le_bd (u_c_X5_perform) (fun x158 σ157 => ?_)
  refine Le_it ?_ ?_
  · exact u_d_X10_breaks_157
  · exact u_d_X10_breaks_157
theorem u_d_X10_breaks_207 {n : Nat} {σ : Sg} : Le (d_X10_breaks_207 n σ) (d_X10_breaks_207 (n + 1) σ) := by
  unfold d_X10_breaks_207
  exact Le_refl _
theorem u_d_X10_breaks_242 {n : Nat} {σ : Sg} : Le (d_X10_breaks_242 n σ) (d_X10_breaks_242 (n + 1) σ) := by
  unfold d_X10_breaks_242
  exact Le_refl _
theorem u_d_X10_breaks_36 {n : Nat} {v2 : Nat} {v3 : Nat} {v4 : Int32} {v5 : Int32} {s0 : Int32} {σ : Sg} : Le (d_X10_breaks_36 n v2 v3 v4 v5 s0 σ) (d_X10_breaks_36 (n + 1) v2 v3 v4 v5 s0 σ) := by
  unfold d_X10_breaks_36
  refine Le_it ?_ ?_
  · refine Le_it ?_ ?_
    · exact u_d_X10_breaks_104
    · refine Le_bp (u_c_X4_total) (fun x133 => ?_)
      refine Le_it ?_ ?_
      · exact u_d_X10_breaks_104
      · exact Le_refl _
  · refine Le_it ?_ ?_
    · refine Le_it ?_ ?_
      · exact u_d_X10_breaks_127
      · exact u_d_X10_breaks_127
    · refine Le_it ?_ ?_
      · refine Le_it ?_ ?_
        · exact u_d_X10_breaks_127
        · exact u_d_X10_breaks_127
      · refine Le_it ?_ ?_
        · refine Le_it ?_ ?_
          · exact u_d_X10_breaks_207
          · refine Le_it ?_ ?_
            · exact u_d_X10_breaks_207
            · refine Le_bp (u_c_X7_strays) (fun x189 => ?_)
              refine Le_it ?_ ?_
              · exact u_d_X10_breaks_207
              · exact Le_refl _
        · refine Le_it ?_ ?_
          · refine Le_it ?_ ?_
            · exact Le_refl _
            · exact Le_refl _
          · refine Le_it ?_ ?_
            · refine Le_it ?_ ?_
              · exact u_d_X10_breaks_242
              · refine Le_it ?_ ?_
                · exact u_d_X10_breaks_242
                · exact Le_refl _
            · refine Le_it ?_ ?_
              · exact Le_refl _
              · refine Le_bp (u_c_X2_perform) (fun σ209 => ?_)
                refine Le_bp (u_c_X4_matches) (fun x223 => ?_)
                refine Le_it ?_ ?_
                · exact Le_refl _
                · exact Le_refl _
theorem u_c_X10_breaks {n : Nat} {v2 : Nat} {v3 : Nat} {v4 : Int32} {v5 : Int32} {σ : Sg} : Le (c_X10_breaks n v2 v3 v4 v5 σ) (c_X10_breaks (n + 1) v2 v3 v4 v5 σ) := by
  unfold c_X10_breaks
  refine Le_bp (Le_refl _) (fun σ108 => ?_)
  refine Le_bp (u_c_X5_startAfresh) (fun σ114 => ?_)
  refine Le_bd (u_c_X5_perform) (fun x121 σ120 => ?_)
  refine Le_it ?_ ?_
  · exact u_d_X10_breaks_36
  · exact u_d_X10_breaks_36
theorem u_d_X10_firstBreak_4 : ∀ {n : Nat} {v2 : Nat} {v3 : Nat} {v4 : Int32} {v6 : Int32} {v7 : Int32} {σ : Sg}, Le (d_X10_firstBreak_4 n v2 v3 v4 v6 v7 σ) (d_X10_firstBreak_4 (n + 1) v2 v3 v4 v6 v7 σ) := by
  intro n
  induction n with
  | zero => intro v2 v3 v4 v6 v7 σ; exact Le_none
  | succ n ih =>
    intro v2 v3 v4 v6 v7 σ
    unfold d_X10_firstBreak_4
    refine Le_it ?_ ?_
    · exact Le_refl _
    · refine Le_bd (u_c_X10_breaks) (fun x10 σ9 => ?_)
      refine Le_it ?_ ?_
      · refine Le_nm (fun x12 => ?_)
        exact ih
      · exact Le_refl _
theorem u_c_X10_firstBreak {n : Nat} {v2 : Nat} {v3 : Nat} {v4 : Int32} {v5 : Int32} {v6 : Int32} {σ : Sg} : Le (c_X10_firstBreak n v2 v3 v4 v5 v6 σ) (c_X10_firstBreak (n + 1) v2 v3 v4 v5 v6 σ) := by
  unfold c_X10_firstBreak
  exact u_d_X10_firstBreak_4
theorem u_d_X10_goToNextOrder_82 : ∀ {n : Nat} {v4 : Int32} {v5 : Int32} {σ : Sg}, Le (d_X10_goToNextOrder_82 n v4 v5 σ) (d_X10_goToNextOrder_82 (n + 1) v4 v5 σ) := by
  intro n
  induction n with
  | zero => intro v4 v5 σ; exact Le_none
  | succ n ih =>
    intro v4 v5 σ
    unfold d_X10_goToNextOrder_82
    refine Le_it ?_ ?_
    · exact Le_refl _
    · refine Le_bp (Le_refl _) (fun σ40 => ?_)
      refine Le_nm (fun x41 => ?_)
      refine Le_nm (fun x42 => ?_)
      exact ih
theorem u_d_X10_goToNextOrder_66 {n : Nat} {v1 : Int32} {v2 : Int32} {v3 : Int32} {σ : Sg} : Le (d_X10_goToNextOrder_66 n v1 v2 v3 σ) (d_X10_goToNextOrder_66 (n + 1) v1 v2 v3 σ) := by
  unfold d_X10_goToNextOrder_66
  refine Le_bp (Le_refl _) (fun σ34 => ?_)
  refine Le_nm (fun x35 => ?_)
  refine Le_nm (fun x36 => ?_)
  exact u_d_X10_goToNextOrder_82
theorem u_d_X10_goToNextOrder_40 : ∀ {n : Nat} {v1 : Int32} {v2 : Int32} {v3 : Int32} {σ : Sg}, Le (d_X10_goToNextOrder_40 n v1 v2 v3 σ) (d_X10_goToNextOrder_40 (n + 1) v1 v2 v3 σ) := by
  intro n
  induction n with
  | zero => intro v1 v2 v3 σ; exact Le_none
  | succ n ih =>
    intro v1 v2 v3 σ
    unfold d_X10_goToNextOrder_40
    refine Le_it ?_ ?_
    · exact u_d_X10_goToNextOrder_66
    · refine Le_ck (fun _ => ?_)
      refine Le_ck (fun _ => ?_)
      refine Le_it ?_ ?_
      · exact u_d_X10_goToNextOrder_66
      · refine Le_nm (fun x50 => ?_)
        exact ih
theorem u_d_X10_goToNextOrder_31 {n : Nat} {v1 : Int32} {v2 : Int32} {σ : Sg} : Le (d_X10_goToNextOrder_31 n v1 v2 σ) (d_X10_goToNextOrder_31 (n + 1) v1 v2 σ) := by
  unfold d_X10_goToNextOrder_31
  refine Le_it ?_ ?_
  · refine Le_nm (fun x30 => ?_)
    exact u_d_X10_goToNextOrder_40
  · exact Le_refl _
theorem u_d_X10_goToNextOrder_4 : ∀ {n : Nat} {v1 : Int32} {v2 : Int32} {σ : Sg}, Le (d_X10_goToNextOrder_4 n v1 v2 σ) (d_X10_goToNextOrder_4 (n + 1) v1 v2 σ) := by
  intro n
  induction n with
  | zero => intro v1 v2 σ; exact Le_none
  | succ n ih =>
    intro v1 v2 σ
    unfold d_X10_goToNextOrder_4
    refine Le_it ?_ ?_
    · exact u_d_X10_goToNextOrder_31
    · refine Le_ck (fun _ => ?_)
      refine Le_ck (fun _ => ?_)
      refine Le_it ?_ ?_
      · exact u_d_X10_goToNextOrder_31
      · refine Le_nm (fun x58 => ?_)
        exact ih
theorem u_c_X10_goToNextOrder {n : Nat} {v1 : Int32} {σ : Sg} : Le (c_X10_goToNextOrder n v1 σ) (c_X10_goToNextOrder (n + 1) v1 σ) := by
  unfold c_X10_goToNextOrder
  refine Le_nm (fun x27 => ?_)
  exact u_d_X10_goToNextOrder_4
theorem u_d_X10_hasOtherResults_2 : ∀ {n : Nat} {v1 : Int32} {v2 : Int32} {σ : Sg}, Le (d_X10_hasOtherResults_2 n v1 v2 σ) (d_X10_hasOtherResults_2 (n + 1) v1 v2 σ) := by
  intro n
  induction n with
  | zero => intro v1 v2 σ; exact Le_none
  | succ n ih =>
    intro v1 v2 σ
    unfold d_X10_hasOtherResults_2
    refine Le_it ?_ ?_
    · exact Le_refl _
    · refine Le_ck (fun _ => ?_)
      refine Le_ck (fun _ => ?_)
      refine Le_ck (fun _ => ?_)
      refine Le_it ?_ ?_
      · refine Le_nm (fun x36 => ?_)
        exact ih
      · exact Le_refl _
theorem u_c_X10_hasOtherResults {n : Nat} {v1 : Int32} {σ : Sg} : Le (c_X10_hasOtherResults n v1 σ) (c_X10_hasOtherResults (n + 1) v1 σ) := by
  unfold c_X10_hasOtherResults
  exact u_d_X10_hasOtherResults_2
theorem u_d_X10_firstOrderThatMatters_175 {k90 k90' : Int32 → Sg → Option (Int32 × Sg)} {n : Nat} {v2 : Nat} {v3 : Nat} {v4 : Int32} {v5 : Int32} {v6 : Int32} {s0 : Int32} {s1 : Int32} {σ : Sg} (h_k90 : ∀ (c0 : Int32) (c1 : Sg), Le (k90 c0 c1) (k90' c0 c1)) : Le (d_X10_firstOrderThatMatters_175 k90 n v2 v3 v4 v5 v6 s0 s1 σ) (d_X10_firstOrderThatMatters_175 k90' (n + 1) v2 v3 v4 v5 v6 s0 s1 σ) := by
  unfold d_X10_firstOrderThatMatters_175
  refine Le_bp (u_c_X10_differs) (fun x142 => ?_)
  refine Le_it ?_ ?_
  · refine Le_bp (u_c_X10_hasOtherResults) (fun x147 => ?_)
    refine Le_it ?_ ?_
    · refine Le_nm (fun x149 => ?_)
      exact h_k90 _ _
    · exact Le_refl _
  · exact Le_refl _
theorem u_d_X10_firstOrderThatMatters_148 {k90 k90' : Int32 → Sg → Option (Int32 × Sg)} {n : Nat} {v2 : Nat} {v3 : Nat} {v4 : Int32} {v5 : Int32} {v6 : Int32} {σ : Sg} (h_k90 : ∀ (c0 : Int32) (c1 : Sg), Le (k90 c0 c1) (k90' c0 c1)) : Le (d_X10_firstOrderThatMatters_148 k90 n v2 v3 v4 v5 v6 σ) (d_X10_firstOrderThatMatters_148 k90' (n + 1) v2 v3 v4 v5 v6 σ) := by
  unfold d_X10_firstOrderThatMatters_148
  refine Le_bp (u_c_X5_startAfresh) (fun σ131 => ?_)
  refine Le_bd (u_c_X5_perform) (fun x138 σ137 => ?_)
  refine Le_it ?_ ?_
  · exact u_d_X10_firstOrderThatMatters_175 h_k90
  · exact u_d_X10_firstOrderThatMatters_175 h_k90
theorem u_d_X10_firstOrderThatMatters_108 {k90 k90' : Int32 → Sg → Option (Int32 × Sg)} (h_k90 : ∀ (c0 : Int32) (c1 : Sg), Le (k90 c0 c1) (k90' c0 c1)) : ∀ {n : Nat} {v2 : Nat} {v3 : Nat} {v4 : Int32} {v5 : Int32} {v6 : Int32} {v7 : Int32} {σ : Sg}, Le (d_X10_firstOrderThatMatters_108 k90 n v2 v3 v4 v5 v6 v7 σ) (d_X10_firstOrderThatMatters_108 k90' (n + 1) v2 v3 v4 v5 v6 v7 σ) := by
  intro n
  induction n with
  | zero => intro v2 v3 v4 v5 v6 v7 σ; exact Le_none
  | succ n ih =>
    intro v2 v3 v4 v5 v6 v7 σ
    unfold d_X10_firstOrderThatMatters_108
    refine Le_it ?_ ?_
    · exact u_d_X10_firstOrderThatMatters_148 h_k90
    · refine Le_ck (fun _ => ?_)
      refine Le_ck (fun _ => ?_)
      refine Le_ck (fun _ => ?_)
      refine Le_nm (fun σ166 => ?_)
      refine Le_nm (fun x167 => ?_)
      exact ih
theorem u_d_X10_firstOrderThatMatters_90 : ∀ {n : Nat} {v2 : Nat} {v3 : Nat} {v4 : Int32} {v5 : Int32} {v6 : Int32} {σ : Sg}, Le (d_X10_firstOrderThatMatters_90 n v2 v3 v4 v5 v6 σ) (d_X10_firstOrderThatMatters_90 (n + 1) v2 v3 v4 v5 v6 σ) := by
  intro n
  induction n with
  | zero => intro v2 v3 v4 v5 v6 σ; exact Le_none
  | succ n ih =>
    intro v2 v3 v4 v5 v6 σ
    unfold d_X10_firstOrderThatMatters_90
    refine Le_it ?_ ?_
    · exact Le_refl _
    · refine Le_bp (u_c_X10_goToNextOrder) (fun σ123 => ?_)
      exact u_d_X10_firstOrderThatMatters_108 (fun c6 τ => ih)
theorem u_d_X10_firstOrderThatMatters_74 {n : Nat} {v2 : Nat} {v3 : Nat} {v4 : Int32} {s0 : Int32} {σ : Sg} : Le (d_X10_firstOrderThatMatters_74 n v2 v3 v4 s0 σ) (d_X10_firstOrderThatMatters_74 (n + 1) v2 v3 v4 s0 σ) := by
  unfold d_X10_firstOrderThatMatters_74
  refine Le_bp (u_c_X0_become) (fun σ118 => ?_)
  exact u_d_X10_firstOrderThatMatters_90
theorem u_d_X10_firstOrderThatMatters_39 {n : Nat} {v2 : Nat} {v3 : Nat} {v4 : Int32} {σ : Sg} : Le (d_X10_firstOrderThatMatters_39 n v2 v3 v4 σ) (d_X10_firstOrderThatMatters_39 (n + 1) v2 v3 v4 σ) := by
  unfold d_X10_firstOrderThatMatters_39
  refine Le_bp (u_c_X0_become) (fun σ95 => ?_)
  refine Le_bp (u_c_X5_startAfresh) (fun σ101 => ?_)
  refine Le_bd (u_c_X5_perform) (fun x108 σ107 => ?_)
  refine Le_it ?_ ?_
  · exact u_d_X10_firstOrderThatMatters_74
  · exact u_d_X10_firstOrderThatMatters_74
theorem u_d_X10_firstOrderThatMatters_6 : ∀ {n : Nat} {v2 : Nat} {v3 : Nat} {v4 : Int32} {v5 : Int32} {σ : Sg}, Le (d_X10_firstOrderThatMatters_6 n v2 v3 v4 v5 σ) (d_X10_firstOrderThatMatters_6 (n + 1) v2 v3 v4 v5 σ) := by
  intro n
  induction n with
  | zero => intro v2 v3 v4 v5 σ; exact Le_none
  | succ n ih =>
    intro v2 v3 v4 v5 σ
    unfold d_X10_firstOrderThatMatters_6
    refine Le_it ?_ ?_
    · exact u_d_X10_firstOrderThatMatters_39
    · refine Le_ck (fun _ => ?_)
      refine Le_nm (fun σ172 => ?_)
      refine Le_nm (fun x173 => ?_)
      refine Le_nm (fun x174 => ?_)
      exact ih
theorem u_c_X10_firstOrderThatMatters {n : Nat} {v2 : Nat} {v3 : Nat} {σ : Sg} : Le (c_X10_firstOrderThatMatters n v2 v3 σ) (c_X10_firstOrderThatMatters (n + 1) v2 v3 σ) := by
  unfold c_X10_firstOrderThatMatters
  exact u_d_X10_firstOrderThatMatters_6
theorem u_c_X11_begin {n : Nat} {σ : Sg} : Le (c_X11_begin n σ) (c_X11_begin (n + 1) σ) := by
  unfold c_X11_begin
  refine Le_nm (fun σ29 => ?_)
  refine Le_nm (fun σ31 => ?_)
  refine Le_nm (fun σ36 => ?_)
  refine Le_bp (u_c_X8_reset) (fun σ42 => ?_)
  refine Le_bp (u_c_X4_reset) (fun σ48 => ?_)
  refine Le_bp (u_c_X5_wipe) (fun σ54 => ?_)
  exact Le_refl _
theorem u_c_X11_runOnce {n : Nat} {v1 : Nat} {σ : Sg} : Le (c_X11_runOnce n v1 σ) (c_X11_runOnce (n + 1) v1 σ) := by
  unfold c_X11_runOnce
  refine Le_bp (u_c_X0_become) (fun σ77 => ?_)
  refine Le_bp (u_c_X4_become) (fun σ88 => ?_)
  refine Le_nm (fun σ94 => ?_)
  refine Le_nm (fun σ100 => ?_)
  refine Le_bd (u_c_X5_perform) (fun x109 σ108 => ?_)
  refine Le_it ?_ ?_
  · refine Le_bp (u_c_X4_become) (fun σ121 => ?_)
    refine Le_nm (fun σ127 => ?_)
    refine Le_nm (fun σ133 => ?_)
    exact Le_refl _
  · exact Le_refl _
theorem u_c_X11_run {n : Nat} {v1 : Int32} {σ : Sg} : Le (c_X11_run n v1 σ) (c_X11_run (n + 1) v1 σ) := by
  unfold c_X11_run
  refine Le_bp (Le_refl _) (fun x22 => ?_)
  refine Le_it ?_ ?_
  · exact Le_refl _
  · refine Le_ck (fun _ => ?_)
    refine Le_bd (u_c_X11_runOnce) (fun x31 σ30 => ?_)
    refine Le_it ?_ ?_
    · refine Le_ck (fun _ => ?_)
      exact Le_refl _
    · exact Le_refl _
theorem u_d_X11_years_22 : ∀ {n : Nat} {v1 : Int32} {v2 : Int32} {v3 : Int32} {σ : Sg}, Le (d_X11_years_22 n v1 v2 v3 σ) (d_X11_years_22 (n + 1) v1 v2 v3 σ) := by
  intro n
  induction n with
  | zero => intro v1 v2 v3 σ; exact Le_none
  | succ n ih =>
    intro v1 v2 v3 σ
    unfold d_X11_years_22
    refine Le_it ?_ ?_
    · exact Le_refl _
    · refine Le_ck (fun _ => ?_)
      refine Le_bd (u_c_X11_runOnce) (fun x29 σ28 => ?_)
      refine Le_it ?_ ?_
      · refine Le_nm (fun x31 => ?_)
        exact ih
      · exact Le_refl _
theorem u_c_X11_years {n : Nat} {v1 : Int32} {v2 : Int32} {σ : Sg} : Le (c_X11_years n v1 v2 σ) (c_X11_years (n + 1) v1 v2 σ) := by
  unfold c_X11_years
  refine Le_bp (Le_refl _) (fun x16 => ?_)
  refine Le_it ?_ ?_
  · exact Le_refl _
  · refine Le_it ?_ ?_
    · exact Le_refl _
    · refine Le_it ?_ ?_
      · exact u_d_X11_years_22
      · exact Le_refl _
theorem u_d_X11_least_73 {n : Nat} {v1 : Int32} {v2 : Int32} {v4 : Int32} {v5 : Int32} {s0 : Nat} {σ : Sg} : Le (d_X11_least_73 n v1 v2 v4 v5 s0 σ) (d_X11_least_73 (n + 1) v1 v2 v4 v5 s0 σ) := by
  unfold d_X11_least_73
  refine Le_ck (fun _ => ?_)
  refine Le_bd (u_c_X10_firstBreak) (fun x69 σ68 => ?_)
  exact Le_refl _
theorem u_d_X11_least_53 {n : Nat} {v1 : Int32} {v2 : Int32} {v3 : Int32} {v4 : Int32} {v5 : Int32} {σ : Sg} : Le (d_X11_least_53 n v1 v2 v3 v4 v5 σ) (d_X11_least_53 (n + 1) v1 v2 v3 v4 v5 σ) := by
  unfold d_X11_least_53
  refine Le_it ?_ ?_
  · refine Le_ck (fun _ => ?_)
    exact u_d_X11_least_73
  · refine Le_ck (fun _ => ?_)
    exact u_d_X11_least_73
theorem u_c_X11_least {n : Nat} {v1 : Int32} {v2 : Int32} {v3 : Int32} {v4 : Int32} {v5 : Int32} {σ : Sg} : Le (c_X11_least n v1 v2 v3 v4 v5 σ) (c_X11_least (n + 1) v1 v2 v3 v4 v5 σ) := by
  unfold c_X11_least
  refine Le_bp (Le_refl _) (fun x39 => ?_)
  refine Le_it ?_ ?_
  · exact Le_refl _
  · refine Le_bp (Le_refl _) (fun x42 => ?_)
    refine Le_it ?_ ?_
    · exact Le_refl _
    · refine Le_bp (Le_refl _) (fun x45 => ?_)
      refine Le_it ?_ ?_
      · exact Le_refl _
      · refine Le_it ?_ ?_
        · refine Le_bp (Le_refl _) (fun x77 => ?_)
          refine Le_it ?_ ?_
          · exact Le_refl _
          · exact u_d_X11_least_53
        · refine Le_it ?_ ?_
          · exact u_d_X11_least_53
          · exact Le_refl _
theorem u_c_X11_order {n : Nat} {v1 : Int32} {σ : Sg} : Le (c_X11_order n v1 σ) (c_X11_order (n + 1) v1 σ) := by
  unfold c_X11_order
  refine Le_bp (Le_refl _) (fun x26 => ?_)
  refine Le_it ?_ ?_
  · exact Le_refl _
  · refine Le_it ?_ ?_
    · refine Le_ck (fun _ => ?_)
      refine Le_bd (u_c_X10_firstOrderThatMatters) (fun x45 σ44 => ?_)
      exact Le_refl _
    · exact Le_refl _
theorem u_d_X11_mend_206 {k76 k76' : Int32 → Int32 → Sg → Option (Int32 × Sg)} {n : Nat} {v2 : Int32} {v3 : Int32} {v4 : Int32} {v5 : Nat} {v6 : Int32} {v7 : Int32} {σ : Sg} (h_k76 : ∀ (c0 : Int32) (c1 : Int32) (c2 : Sg), Le (k76 c0 c1 c2) (k76' c0 c1 c2)) : Le (d_X11_mend_206 k76 n v2 v3 v4 v5 v6 v7 σ) (d_X11_mend_206 k76' (n + 1) v2 v3 v4 v5 v6 v7 σ) := by
  unfold d_X11_mend_206
  refine Le_nm (fun x86 => ?_)
  exact h_k76 _ _ _
theorem u_d_X11_mend_200 {k76 k76' : Int32 → Int32 → Sg → Option (Int32 × Sg)} {k107 k107' : Int32 → Int32 → Sg → Option (Int32 × Sg)} {n : Nat} {v2 : Int32} {v3 : Int32} {v4 : Int32} {v5 : Nat} {v6 : Int32} {v7 : Int32} {v8 : Int32} {v9 : Int32} {v10 : Int32} {σ : Sg} (h_k76 : ∀ (c0 : Int32) (c1 : Int32) (c2 : Sg), Le (k76 c0 c1 c2) (k76' c0 c1 c2)) (h_k107 : ∀ (c0 : Int32) (c1 : Int32) (c2 : Sg), Le (k107 c0 c1 c2) (k107' c0 c1 c2)) : Le (d_X11_mend_200 k76 k107 n v2 v3 v4 v5 v6 v7 v8 v9 v10 σ) (d_X11_mend_200 k76' k107' (n + 1) v2 v3 v4 v5 v6 v7 v8 v9 v10 σ) := by
  unfold d_X11_mend_200
  refine Le_nm (fun x105 => ?_)
  exact h_k107 _ _ _
theorem u_d_X11_mend_175 {k76 k76' : Int32 → Int32 → Sg → Option (Int32 × Sg)} {k107 k107' : Int32 → Int32 → Sg → Option (Int32 × Sg)} {n : Nat} {v2 : Int32} {v3 : Int32} {v4 : Int32} {v5 : Nat} {v6 : Int32} {v7 : Int32} {v8 : Int32} {v9 : Int32} {v10 : Int32} {σ : Sg} (h_k76 : ∀ (c0 : Int32) (c1 : Int32) (c2 : Sg), Le (k76 c0 c1 c2) (k76' c0 c1 c2)) (h_k107 : ∀ (c0 : Int32) (c1 : Int32) (c2 : Sg), Le (k107 c0 c1 c2) (k107' c0 c1 c2)) : Le (d_X11_mend_175 k76 k107 n v2 v3 v4 v5 v6 v7 v8 v9 v10 σ) (d_X11_mend_175 k76' k107' (n + 1) v2 v3 v4 v5 v6 v7 v8 v9 v10 σ) := by
  unfold d_X11_mend_175
  refine Le_bp (Le_refl _) (fun σ103 => ?_)
  refine Le_it ?_ ?_
  · exact Le_refl _
  · exact u_d_X11_mend_200 h_k76 h_k107
theorem u_d_X11_mend_107 {k76 k76' : Int32 → Int32 → Sg → Option (Int32 × Sg)} (h_k76 : ∀ (c0 : Int32) (c1 : Int32) (c2 : Sg), Le (k76 c0 c1 c2) (k76' c0 c1 c2)) : ∀ {n : Nat} {v2 : Int32} {v3 : Int32} {v4 : Int32} {v5 : Nat} {v6 : Int32} {v7 : Int32} {v8 : Int32} {v9 : Int32} {v10 : Int32} {σ : Sg}, Le (d_X11_mend_107 k76 n v2 v3 v4 v5 v6 v7 v8 v9 v10 σ) (d_X11_mend_107 k76' (n + 1) v2 v3 v4 v5 v6 v7 v8 v9 v10 σ) := by
  intro n
  induction n with
  | zero => intro v2 v3 v4 v5 v6 v7 v8 v9 v10 σ; exact Le_none
  | succ n ih =>
    intro v2 v3 v4 v5 v6 v7 v8 v9 v10 σ
    unfold d_X11_mend_107
    refine Le_it ?_ ?_
    · exact u_d_X11_mend_206 h_k76
    · refine Le_it ?_ ?_
      · exact u_d_X11_mend_200 h_k76 (fun c6 c10 τ => ih)
      · refine Le_bp (Le_refl _) (fun σ90 => ?_)
        refine Le_bd (u_c_X10_breaks) (fun x99 σ98 => ?_)
        refine Le_it ?_ ?_
        · refine Le_bd (u_c_X10_firstBreak) (fun x114 σ113 => ?_)
          exact u_d_X11_mend_175 h_k76 (fun c6 c10 τ => ih)
        · exact u_d_X11_mend_175 h_k76 (fun c6 c10 τ => ih)
theorem u_d_X11_mend_76 : ∀ {n : Nat} {v2 : Int32} {v3 : Int32} {v4 : Int32} {v5 : Nat} {v6 : Int32} {v7 : Int32} {σ : Sg}, Le (d_X11_mend_76 n v2 v3 v4 v5 v6 v7 σ) (d_X11_mend_76 (n + 1) v2 v3 v4 v5 v6 v7 σ) := by
  intro n
  induction n with
  | zero => intro v2 v3 v4 v5 v6 v7 σ; exact Le_none
  | succ n ih =>
    intro v2 v3 v4 v5 v6 v7 σ
    unfold d_X11_mend_76
    refine Le_it ?_ ?_
    · exact Le_refl _
    · refine Le_bp (Le_refl _) (fun x82 => ?_)
      refine Le_bp (Le_refl _) (fun x84 => ?_)
      exact u_d_X11_mend_107 (fun c6 c7 τ => ih)
theorem u_c_X11_mend {n : Nat} {v1 : Int32} {v2 : Int32} {v3 : Int32} {v4 : Int32} {σ : Sg} : Le (c_X11_mend n v1 v2 v3 v4 σ) (c_X11_mend (n + 1) v1 v2 v3 v4 σ) := by
  unfold c_X11_mend
  refine Le_bp (Le_refl _) (fun x56 => ?_)
  refine Le_it ?_ ?_
  · exact Le_refl _
  · refine Le_bp (Le_refl _) (fun x59 => ?_)
    refine Le_it ?_ ?_
    · exact Le_refl _
    · refine Le_it ?_ ?_
      · exact Le_refl _
      · refine Le_bp (Le_refl _) (fun x63 => ?_)
        refine Le_it ?_ ?_
        · exact Le_refl _
        · refine Le_ck (fun _ => ?_)
          refine Le_bd (u_c_X10_firstBreak) (fun x77 σ76 => ?_)
          refine Le_it ?_ ?_
          · exact Le_refl _
          · exact u_d_X11_mend_76
theorem u_c_X11_same {n : Nat} {v1 : Int32} {v2 : Int32} {σ : Sg} : Le (c_X11_same n v1 v2 σ) (c_X11_same (n + 1) v1 v2 σ) := by
  unfold c_X11_same
  refine Le_bp (Le_refl _) (fun x22 => ?_)
  refine Le_it ?_ ?_
  · exact Le_refl _
  · refine Le_bp (Le_refl _) (fun x25 => ?_)
    refine Le_it ?_ ?_
    · exact Le_refl _
    · refine Le_ck (fun _ => ?_)
      refine Le_ck (fun _ => ?_)
      refine Le_bp (u_c_X6_hasActsOf) (fun x38 => ?_)
      refine Le_it ?_ ?_
      · exact Le_refl _
      · exact Le_refl _
theorem u_c_X11_tape {n : Nat} {v1 : Int32} {v2 : Int32} {v3 : Int32} {σ : Sg} : Le (c_X11_tape n v1 v2 v3 σ) (c_X11_tape (n + 1) v1 v2 v3 σ) := by
  unfold c_X11_tape
  refine Le_bp (Le_refl _) (fun x17 => ?_)
  refine Le_it ?_ ?_
  · exact Le_refl _
  · refine Le_it ?_ ?_
    · exact Le_refl _
    · refine Le_it ?_ ?_
      · exact Le_refl _
      · refine Le_it ?_ ?_
        · refine Le_it ?_ ?_
          · refine Le_ck (fun _ => ?_)
            refine Le_bp (u_c_X9_holdRow) (fun σ31 => ?_)
            exact Le_refl _
          · refine Le_bd (Le_refl _) (fun x35 σ34 => ?_)
            exact Le_refl _
        · exact Le_refl _
theorem u_d_X11_image_42 : ∀ {n : Nat} {v2 : Nat} {v3 : Int32} {σ : Sg}, Le (d_X11_image_42 n v2 v3 σ) (d_X11_image_42 (n + 1) v2 v3 σ) := by
  intro n
  induction n with
  | zero => intro v2 v3 σ; exact Le_none
  | succ n ih =>
    intro v2 v3 σ
    unfold d_X11_image_42
    refine Le_it ?_ ?_
    · exact Le_refl _
    · refine Le_ck (fun _ => ?_)
      refine Le_ck (fun _ => ?_)
      refine Le_nm (fun σ85 => ?_)
      refine Le_ck (fun _ => ?_)
      refine Le_ck (fun _ => ?_)
      refine Le_nm (fun σ97 => ?_)
      refine Le_nm (fun x98 => ?_)
      exact ih
theorem u_c_X11_image {n : Nat} {v1 : Int32} {σ : Sg} : Le (c_X11_image n v1 σ) (c_X11_image (n + 1) v1 σ) := by
  unfold c_X11_image
  refine Le_bp (Le_refl _) (fun x51 => ?_)
  refine Le_it ?_ ?_
  · exact Le_refl _
  · refine Le_ck (fun _ => ?_)
    refine Le_nm (fun σ60 => ?_)
    refine Le_nm (fun σ63 => ?_)
    refine Le_bp (u_c_X4_become) (fun σ72 => ?_)
    exact u_d_X11_image_42
theorem u_d_X11_back_140 {k72 k72' : Int32 → Sg → Option (Int32 × Sg)} {n : Nat} {v2 : Nat} {v3 : Int32} {s0 : Int64} {s1 : Nat} {σ : Sg} (h_k72 : ∀ (c0 : Int32) (c1 : Sg), Le (k72 c0 c1) (k72' c0 c1)) : Le (d_X11_back_140 k72 n v2 v3 s0 s1 σ) (d_X11_back_140 k72' (n + 1) v2 v3 s0 s1 σ) := by
  unfold d_X11_back_140
  refine Le_nm (fun σ105 => ?_)
  refine Le_nm (fun x106 => ?_)
  exact h_k72 _ _
theorem u_d_X11_back_116 {k72 k72' : Int32 → Sg → Option (Int32 × Sg)} {n : Nat} {v2 : Nat} {v3 : Int32} {v4 : Int32} {s0 : Int64} {s1 : Nat} {σ : Sg} (h_k72 : ∀ (c0 : Int32) (c1 : Sg), Le (k72 c0 c1) (k72' c0 c1)) : Le (d_X11_back_116 k72 n v2 v3 v4 s0 s1 σ) (d_X11_back_116 k72' (n + 1) v2 v3 v4 s0 s1 σ) := by
  unfold d_X11_back_116
  refine Le_nm (fun σ96 => ?_)
  refine Le_ck (fun _ => ?_)
  refine Le_it ?_ ?_
  · exact u_d_X11_back_140 h_k72
  · refine Le_ck (fun _ => ?_)
    exact u_d_X11_back_140 h_k72
theorem u_d_X11_back_93 {k72 k72' : Int32 → Sg → Option (Int32 × Sg)} {n : Nat} {v2 : Nat} {v3 : Int32} {s0 : Int32} {σ : Sg} (h_k72 : ∀ (c0 : Int32) (c1 : Sg), Le (k72 c0 c1) (k72' c0 c1)) : Le (d_X11_back_93 k72 n v2 v3 s0 σ) (d_X11_back_93 k72' (n + 1) v2 v3 s0 σ) := by
  unfold d_X11_back_93
  refine Le_ck (fun _ => ?_)
  refine Le_it ?_ ?_
  · exact u_d_X11_back_116 h_k72
  · refine Le_ck (fun _ => ?_)
    exact u_d_X11_back_116 h_k72
theorem u_d_X11_back_72 : ∀ {n : Nat} {v2 : Nat} {v3 : Int32} {σ : Sg}, Le (d_X11_back_72 n v2 v3 σ) (d_X11_back_72 (n + 1) v2 v3 σ) := by
  intro n
  induction n with
  | zero => intro v2 v3 σ; exact Le_none
  | succ n ih =>
    intro v2 v3 σ
    unfold d_X11_back_72
    refine Le_it ?_ ?_
    · exact Le_refl _
    · refine Le_it ?_ ?_
      · exact u_d_X11_back_93 (fun c3 τ => ih)
      · exact u_d_X11_back_93 (fun c3 τ => ih)
theorem u_c_X11_back {n : Nat} {v1 : Int32} {σ : Sg} : Le (c_X11_back n v1 σ) (c_X11_back (n + 1) v1 σ) := by
  unfold c_X11_back
  refine Le_bp (Le_refl _) (fun x62 => ?_)
  refine Le_it ?_ ?_
  · exact Le_refl _
  · refine Le_ck (fun _ => ?_)
    refine Le_it ?_ ?_
    · refine Le_bd (Le_refl _) (fun x120 σ119 => ?_)
      exact Le_refl _
    · refine Le_it ?_ ?_
      · refine Le_it ?_ ?_
        · refine Le_bp (u_c_X4_become) (fun σ80 => ?_)
          exact u_d_X11_back_72
        · exact Le_refl _
      · refine Le_bd (Le_refl _) (fun x117 σ116 => ?_)
        exact Le_refl _
theorem u_d_X11_load_60 {n : Nat} {σ : Sg} : Le (d_X11_load_60 n σ) (d_X11_load_60 (n + 1) σ) := by
  unfold d_X11_load_60
  refine Le_bd (Le_refl _) (fun x69 σ68 => ?_)
  exact Le_refl _
theorem u_d_X11_load_154 {n : Nat} {v3 : Int32} {σ : Sg} : Le (d_X11_load_154 n v3 σ) (d_X11_load_154 (n + 1) v3 σ) := by
  unfold d_X11_load_154
  refine Le_nm (fun σ80 => ?_)
  exact Le_refl _
theorem u_d_X11_load_121 : ∀ {n : Nat} {v2 : Int32} {v3 : Int32} {v4 : Nat} {v5 : Int32} {σ : Sg}, Le (d_X11_load_121 n v2 v3 v4 v5 σ) (d_X11_load_121 (n + 1) v2 v3 v4 v5 σ) := by
  intro n
  induction n with
  | zero => intro v2 v3 v4 v5 σ; exact Le_none
  | succ n ih =>
    intro v2 v3 v4 v5 σ
    unfold d_X11_load_121
    refine Le_it ?_ ?_
    · exact u_d_X11_load_154
    · refine Le_ck (fun _ => ?_)
      refine Le_ck (fun _ => ?_)
      refine Le_nm (fun σ92 => ?_)
      refine Le_nm (fun x93 => ?_)
      exact ih
theorem u_d_X11_load_118 {n : Nat} {v2 : Int32} {v3 : Int32} {v4 : Nat} {σ : Sg} : Le (d_X11_load_118 n v2 v3 v4 σ) (d_X11_load_118 (n + 1) v2 v3 v4 σ) := by
  unfold d_X11_load_118
  exact u_d_X11_load_121
theorem u_d_X11_load_87 : ∀ {n : Nat} {v2 : Int32} {v3 : Int32} {v4 : Nat} {v5 : Int32} {σ : Sg}, Le (d_X11_load_87 n v2 v3 v4 v5 σ) (d_X11_load_87 (n + 1) v2 v3 v4 v5 σ) := by
  intro n
  induction n with
  | zero => intro v2 v3 v4 v5 σ; exact Le_none
  | succ n ih =>
    intro v2 v3 v4 v5 σ
    unfold d_X11_load_87
    refine Le_it ?_ ?_
    · exact u_d_X11_load_118
    · refine Le_ck (fun _ => ?_)
      refine Le_bp (Le_refl _) (fun x99 => ?_)
      refine Le_it ?_ ?_
      · exact Le_refl _
      · refine Le_nm (fun x101 => ?_)
        exact ih
theorem u_c_X11_load {n : Nat} {v1 : Int32} {v2 : Int32} {v3 : Int32} {σ : Sg} : Le (c_X11_load n v1 v2 v3 σ) (c_X11_load (n + 1) v1 v2 v3 σ) := by
  unfold c_X11_load
  refine Le_bp (Le_refl _) (fun x53 => ?_)
  refine Le_it ?_ ?_
  · exact Le_refl _
  · refine Le_it ?_ ?_
    · exact Le_refl _
    · refine Le_it ?_ ?_
      · refine Le_ck (fun _ => ?_)
        refine Le_it ?_ ?_
        · refine Le_bd (Le_refl _) (fun x107 σ106 => ?_)
          exact Le_refl _
        · refine Le_it ?_ ?_
          · exact u_d_X11_load_60
          · refine Le_it ?_ ?_
            · exact u_d_X11_load_60
            · refine Le_bp (Le_refl _) (fun x72 => ?_)
              refine Le_it ?_ ?_
              · refine Le_bd (Le_refl _) (fun x104 σ103 => ?_)
                exact Le_refl _
              · exact u_d_X11_load_87
      · exact Le_refl _
theorem u_d_X12_clears_74 {n : Nat} {σ : Sg} : Le (d_X12_clears_74 n σ) (d_X12_clears_74 (n + 1) σ) := by
  unfold d_X12_clears_74
  refine Le_nm (fun σ28 => ?_)
  refine Le_nm (fun σ30 => ?_)
  exact Le_refl _
theorem u_d_X12_clears_2 : ∀ {n : Nat} {v1 : Int32} {σ : Sg}, Le (d_X12_clears_2 n v1 σ) (d_X12_clears_2 (n + 1) v1 σ) := by
  intro n
  induction n with
  | zero => intro v1 σ; exact Le_none
  | succ n ih =>
    intro v1 σ
    unfold d_X12_clears_2
    refine Le_it ?_ ?_
    · exact u_d_X12_clears_74
    · refine Le_ck (fun _ => ?_)
      refine Le_nm (fun σ35 => ?_)
      refine Le_ck (fun _ => ?_)
      refine Le_nm (fun σ40 => ?_)
      refine Le_ck (fun _ => ?_)
      refine Le_nm (fun σ45 => ?_)
      refine Le_ck (fun _ => ?_)
      refine Le_nm (fun σ50 => ?_)
      refine Le_nm (fun x51 => ?_)
      exact ih
theorem u_c_X12_clears {n : Nat} {σ : Sg} : Le (c_X12_clears n σ) (c_X12_clears (n + 1) σ) := by
  unfold c_X12_clears
  exact u_d_X12_clears_2
theorem u_d_X12_resets_128 : ∀ {n : Nat} {v1 : Int32} {σ : Sg}, Le (d_X12_resets_128 n v1 σ) (d_X12_resets_128 (n + 1) v1 σ) := by
  intro n
  induction n with
  | zero => intro v1 σ; exact Le_none
  | succ n ih =>
    intro v1 σ
    unfold d_X12_resets_128
    refine Le_it ?_ ?_
    · exact Le_refl _
    · refine Le_ck (fun _ => ?_)
      refine Le_nm (fun σ78 => ?_)
      refine Le_nm (fun x79 => ?_)
      exact ih
theorem u_d_X12_resets_91 {n : Nat} {σ : Sg} : Le (d_X12_resets_91 n σ) (d_X12_resets_91 (n + 1) σ) := by
  unfold d_X12_resets_91
  refine Le_nm (fun σ59 => ?_)
  refine Le_nm (fun σ61 => ?_)
  refine Le_nm (fun σ63 => ?_)
  refine Le_nm (fun σ65 => ?_)
  refine Le_nm (fun σ67 => ?_)
  refine Le_nm (fun σ69 => ?_)
  refine Le_bp (u_c_X12_clears) (fun σ72 => ?_)
  exact u_d_X12_resets_128
theorem u_d_X12_resets_72 : ∀ {n : Nat} {v1 : Int32} {σ : Sg}, Le (d_X12_resets_72 n v1 σ) (d_X12_resets_72 (n + 1) v1 σ) := by
  intro n
  induction n with
  | zero => intro v1 σ; exact Le_none
  | succ n ih =>
    intro v1 σ
    unfold d_X12_resets_72
    refine Le_it ?_ ?_
    · exact u_d_X12_resets_91
    · refine Le_ck (fun _ => ?_)
      refine Le_nm (fun σ84 => ?_)
      refine Le_nm (fun x85 => ?_)
      exact ih
theorem u_d_X12_resets_70 {n : Nat} {σ : Sg} : Le (d_X12_resets_70 n σ) (d_X12_resets_70 (n + 1) σ) := by
  unfold d_X12_resets_70
  exact u_d_X12_resets_72
theorem u_d_X12_resets_30 : ∀ {n : Nat} {v1 : Int32} {σ : Sg}, Le (d_X12_resets_30 n v1 σ) (d_X12_resets_30 (n + 1) v1 σ) := by
  intro n
  induction n with
  | zero => intro v1 σ; exact Le_none
  | succ n ih =>
    intro v1 σ
    unfold d_X12_resets_30
    refine Le_it ?_ ?_
    · exact u_d_X12_resets_70
    · refine Le_ck (fun _ => ?_)
      refine Le_nm (fun σ90 => ?_)
      refine Le_ck (fun _ => ?_)
      refine Le_nm (fun σ95 => ?_)
      refine Le_ck (fun _ => ?_)
      refine Le_nm (fun σ100 => ?_)
      refine Le_nm (fun x101 => ?_)
      exact ih
theorem u_d_X12_resets_28 {n : Nat} {σ : Sg} : Le (d_X12_resets_28 n σ) (d_X12_resets_28 (n + 1) σ) := by
  unfold d_X12_resets_28
  exact u_d_X12_resets_30
theorem u_d_X12_resets_2 : ∀ {n : Nat} {v1 : Int32} {σ : Sg}, Le (d_X12_resets_2 n v1 σ) (d_X12_resets_2 (n + 1) v1 σ) := by
  intro n
  induction n with
  | zero => intro v1 σ; exact Le_none
  | succ n ih =>
    intro v1 σ
    unfold d_X12_resets_2
    refine Le_it ?_ ?_
    · exact u_d_X12_resets_28
    · refine Le_ck (fun _ => ?_)
      refine Le_nm (fun σ106 => ?_)
      refine Le_ck (fun _ => ?_)
      refine Le_nm (fun σ111 => ?_)
      refine Le_nm (fun x112 => ?_)
      exact ih
theorem u_c_X12_resets {n : Nat} {σ : Sg} : Le (c_X12_resets n σ) (c_X12_resets (n + 1) σ) := by
  unfold c_X12_resets
  exact u_d_X12_resets_2
theorem u_c_X12_begin {n : Nat} {σ : Sg} : Le (c_X12_begin n σ) (c_X12_begin (n + 1) σ) := by
  unfold c_X12_begin
  refine Le_bp (u_c_X12_resets) (fun σ6 => ?_)
  exact Le_refl _
theorem u_d_X12_becomes_48 {n : Nat} {σ : Sg} : Le (d_X12_becomes_48 n σ) (d_X12_becomes_48 (n + 1) σ) := by
  unfold d_X12_becomes_48
  refine Le_nm (fun σ25 => ?_)
  exact Le_refl _
theorem u_c_X12_becomes {n : Nat} {v1 : Int32} {v2 : Int64} {v4 : Int64} {σ : Sg} : Le (c_X12_becomes n v1 v2 v4 σ) (c_X12_becomes (n + 1) v1 v2 v4 σ) := by
  unfold c_X12_becomes
  refine Le_bp (u_f_X12_common) (fun x19 => ?_)
  refine Le_ck (fun _ => ?_)
  refine Le_nm (fun x21 => ?_)
  refine Le_nm (fun x22 => ?_)
  refine Le_it ?_ ?_
  · exact u_d_X12_becomes_48
  · refine Le_it ?_ ?_
    · exact u_d_X12_becomes_48
    · refine Le_it ?_ ?_
      · refine Le_ck (fun _ => ?_)
        refine Le_nm (fun σ32 => ?_)
        refine Le_ck (fun _ => ?_)
        refine Le_nm (fun σ37 => ?_)
        exact Le_refl _
      · exact u_d_X12_becomes_48
theorem u_c_X12_becomesWhole {n : Nat} {v1 : Int32} {v2 : Int64} {σ : Sg} : Le (c_X12_becomesWhole n v1 v2 σ) (c_X12_becomesWhole (n + 1) v1 v2 σ) := by
  unfold c_X12_becomesWhole
  refine Le_bd (u_c_X12_becomes) (fun x8 σ7 => ?_)
  refine Le_ck (fun _ => ?_)
  exact Le_refl _
theorem u_c_X12_plain {n : Nat} {v1 : Int32} {v2 : Int64} {σ : Sg} : Le (c_X12_plain n v1 v2 σ) (c_X12_plain (n + 1) v1 v2 σ) := by
  unfold c_X12_plain
  refine Le_bd (u_c_X12_becomesWhole) (fun x13 σ12 => ?_)
  refine Le_it ?_ ?_
  · exact Le_refl _
  · refine Le_ck (fun _ => ?_)
    refine Le_nm (fun σ19 => ?_)
    exact Le_refl _
theorem u_d_X12_taxes_112 {n : Nat} {v1 : Int32} {v5 : Int64} {σ : Sg} : Le (d_X12_taxes_112 n v1 v5 σ) (d_X12_taxes_112 (n + 1) v1 v5 σ) := by
  unfold d_X12_taxes_112
  refine Le_bp (u_c_X12_plain) (fun σ35 => ?_)
  exact Le_refl _
theorem u_d_X12_taxes_79 {k9 k9' : Int64 → Int64 → Int32 → Sg → Option Sg} {n : Nat} {v1 : Int32} {v2 : Int32} {v3 : Int32} {v4 : Int32} {v5 : Int64} {v7 : Int64} {v9 : Int32} {s0 : Int64} {s1 : Int64} {σ : Sg} (h_k9 : ∀ (c0 : Int64) (c1 : Int64) (c2 : Int32) (c3 : Sg), Le (k9 c0 c1 c2 c3) (k9' c0 c1 c2 c3)) : Le (d_X12_taxes_79 k9 n v1 v2 v3 v4 v5 v7 v9 s0 s1 σ) (d_X12_taxes_79 k9' (n + 1) v1 v2 v3 v4 v5 v7 v9 s0 s1 σ) := by
  unfold d_X12_taxes_79
  refine Le_nm (fun x50 => ?_)
  refine Le_ck (fun _ => ?_)
  refine Le_nm (fun σ55 => ?_)
  refine Le_nm (fun x56 => ?_)
  refine Le_nm (fun x57 => ?_)
  exact h_k9 _ _ _ _
theorem u_d_X12_taxes_45 {k9 k9' : Int64 → Int64 → Int32 → Sg → Option Sg} {n : Nat} {v1 : Int32} {v2 : Int32} {v3 : Int32} {v4 : Int32} {v5 : Int64} {v9 : Int32} {s0 : Int64} {σ : Sg} (h_k9 : ∀ (c0 : Int64) (c1 : Int64) (c2 : Int32) (c3 : Sg), Le (k9 c0 c1 c2 c3) (k9' c0 c1 c2 c3)) : Le (d_X12_taxes_45 k9 n v1 v2 v3 v4 v5 v9 s0 σ) (d_X12_taxes_45 k9' (n + 1) v1 v2 v3 v4 v5 v9 s0 σ) := by
  unfold d_X12_taxes_45
  refine Le_ck (fun _ => ?_)
  refine Le_ck (fun _ => ?_)
  refine Le_bp (Le_refl _) (fun x48 => ?_)
  refine Le_it ?_ ?_
  · exact u_d_X12_taxes_79 h_k9
  · exact u_d_X12_taxes_79 h_k9
theorem u_d_X12_taxes_9 : ∀ {n : Nat} {v1 : Int32} {v2 : Int32} {v3 : Int32} {v4 : Int32} {v5 : Int64} {v7 : Int64} {v9 : Int32} {σ : Sg}, Le (d_X12_taxes_9 n v1 v2 v3 v4 v5 v7 v9 σ) (d_X12_taxes_9 (n + 1) v1 v2 v3 v4 v5 v7 v9 σ) := by
  intro n
  induction n with
  | zero => intro v1 v2 v3 v4 v5 v7 v9 σ; exact Le_none
  | succ n ih =>
    intro v1 v2 v3 v4 v5 v7 v9 σ
    unfold d_X12_taxes_9
    refine Le_it ?_ ?_
    · exact u_d_X12_taxes_112
    · refine Le_it ?_ ?_
      · refine Le_ck (fun _ => ?_)
        exact u_d_X12_taxes_45 (fun c5 c7 c9 τ => ih)
      · refine Le_ck (fun _ => ?_)
        exact u_d_X12_taxes_45 (fun c5 c7 c9 τ => ih)
theorem u_c_X12_taxes {n : Nat} {v1 : Int32} {v2 : Int32} {v3 : Int32} {v4 : Int32} {σ : Sg} : Le (c_X12_taxes n v1 v2 v3 v4 σ) (c_X12_taxes (n + 1) v1 v2 v3 v4 σ) := by
  unfold c_X12_taxes
  exact u_d_X12_taxes_9
theorem u_d_X12_isEven_34 {n : Nat} {v2 : Int32} {σ : Sg} : Le (d_X12_isEven_34 n v2 σ) (d_X12_isEven_34 (n + 1) v2 σ) := by
  unfold d_X12_isEven_34
  refine Le_it ?_ ?_
  · exact Le_refl _
  · exact Le_refl _
theorem u_d_X12_isEven_4 : ∀ {n : Nat} {v1 : Int32} {v2 : Int32} {v3 : Int32} {σ : Sg}, Le (d_X12_isEven_4 n v1 v2 v3 σ) (d_X12_isEven_4 (n + 1) v1 v2 v3 σ) := by
  intro n
  induction n with
  | zero => intro v1 v2 v3 σ; exact Le_none
  | succ n ih =>
    intro v1 v2 v3 σ
    unfold d_X12_isEven_4
    refine Le_ck (fun _ => ?_)
    refine Le_it ?_ ?_
    · exact u_d_X12_isEven_34
    · refine Le_ck (fun _ => ?_)
      refine Le_nm (fun x20 => ?_)
      refine Le_nm (fun x21 => ?_)
      exact ih
theorem u_c_X12_isEven {n : Nat} {v1 : Int32} {σ : Sg} : Le (c_X12_isEven n v1 σ) (c_X12_isEven (n + 1) v1 σ) := by
  unfold c_X12_isEven
  exact u_d_X12_isEven_4
theorem u_c_X12_weighed {n : Nat} {v1 : Int32} {v2 : Int32} {σ : Sg} : Le (c_X12_weighed n v1 v2 σ) (c_X12_weighed (n + 1) v1 v2 σ) := by
  unfold c_X12_weighed
  refine Le_bp (u_c_X12_isEven) (fun x10 => ?_)
  refine Le_it ?_ ?_
  · refine Le_ck (fun _ => ?_)
    exact Le_refl _
  · exact Le_refl _
theorem u_c_X12_partsOf {n : Nat} {v1 : Int32} {σ : Sg} : Le (c_X12_partsOf n v1 σ) (c_X12_partsOf (n + 1) v1 σ) := by
  unfold c_X12_partsOf
  refine Le_bp (u_c_X12_isEven) (fun x10 => ?_)
  refine Le_it ?_ ?_
  · refine Le_ck (fun _ => ?_)
    exact Le_refl _
  · exact Le_refl _
