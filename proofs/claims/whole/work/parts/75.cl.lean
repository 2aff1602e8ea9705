def d_X0_become_28 (n : Nat) (v0 : Nat) (v1 : Nat) (σ : Sg) : Option Sg :=
  nm (pI σ v0 1 (gI σ v1 1)) fun σ19 =>
  some σ19
theorem k_b_X0_become_28 {lo hi : Nat} {σ0 : Sg} {n : Nat} {v0 : Nat} {v1 : Nat} {σ : Sg} (t : To lo hi σ0 σ) (h_v0 : O0 v0) (w_v0 : lo ≤ v0 ∧ v0 + 2 ≤ hi) (h_v1 : O0 v1) : FR (fun q => To lo hi σ0 q) (b_X0_become_28 n v0 v1 σ) (d_X0_become_28 n v0 v1 σ) := by
  unfold b_X0_become_28 d_X0_become_28
  refine FR_ck (lo0 t.1 h_v1) ?_
  refine FR_ck (lo0 t.1 h_v0) ?_
  refine FR_nmS (To_pI t (by omega)) (fun σ19 t => ?_)
  exact FR_some t
def d_X0_become_2 : Nat → Nat → Nat → Int32 → Sg → Option Sg
  | 0, _, _, _, _ => none
  | n + 1, v0, v1, v2, σ =>
  if (gI σ v1 1) ≤ v2 then (
    d_X0_become_28 n v0 v1 σ)
  else (
    ck (ix v2 12) <|
    ck (ix v2 12) <|
    nm (pI σ (v0 + 1) v2.toNatClampNeg (gI σ (v1 + 1) v2.toNatClampNeg)) fun σ27 =>
    nm (v2 + (1 : Int32)) fun x28 =>
    d_X0_become_2 n v0 v1 x28 σ27)
theorem k_b_X0_become_2 {lo hi : Nat} {σ0 : Sg} : ∀ {n : Nat} {v0 : Nat} {v1 : Nat} {v2 : Int32} {σ : Sg}, To lo hi σ0 σ → O0 v0 → lo ≤ v0 ∧ v0 + 2 ≤ hi → O0 v1 → FR (fun q => To lo hi σ0 q) (b_X0_become_2 n v0 v1 v2 σ) (d_X0_become_2 n v0 v1 v2 σ) := by
  intro n
  induction n with
  | zero => intro v0 v1 v2 σ t h_v0 w_v0 h_v1; exact FR_none
  | succ n ih =>
    intro v0 v1 v2 σ t h_v0 w_v0 h_v1
    unfold b_X0_become_2 d_X0_become_2
    refine FR_ck (lo0 t.1 h_v1) ?_
    refine FR_it (fun _ => ?_) (fun _ => ?_)
    · exact k_b_X0_become_28 t h_v0 (by omega) h_v1
    · refine FR_ck (lo0 t.1 h_v0) ?_
      refine FR_ck (ln0_0 t.1 h_v0) ?_
      refine FR_nmR (w := (v0 + 1)) (lr0_0 t.1 h_v0) ?_
      refine FR_ck (ln0_0 t.1 h_v1) ?_
      refine FR_nmR (w := (v1 + 1)) (lr0_0 t.1 h_v1) ?_
      refine FR_ckI (okA_iff t.1 (ar0_0 h_v1)) (fun q7 => ?_)
      refine FR_ckI (okW_iff t.1 (ar0_0 h_v0)) (fun q8 => ?_)
      refine FR_nmS (To_pI t (by omega)) (fun σ27 t => ?_)
      refine FR_nm (fun x28 => ?_)
      exact ih t h_v0 (by omega) h_v1
def c_X0_become (n : Nat) (v0 : Nat) (v1 : Nat) (σ : Sg) : Option Sg :=
  d_X0_become_2 n v0 v1 (0 : Int32) σ
theorem k_f_X0_become {lo hi : Nat} {σ0 : Sg} {n : Nat} {v0 : Nat} {v1 : Nat} {σ : Sg} (t : To lo hi σ0 σ) (h_v0 : O0 v0) (w_v0 : lo ≤ v0 ∧ v0 + 2 ≤ hi) (h_v1 : O0 v1) : FR (fun q => To lo hi σ0 q) (f_X0_become n v0 v1 σ) (c_X0_become n v0 v1 σ) := by
  unfold f_X0_become c_X0_become
  exact k_b_X0_become_2 t h_v0 (by omega) h_v1
def c_X0_becomeOneLine (v0 : Nat) (v1 : Int32) (σ : Sg) : Option Sg :=
  ck (ix (0 : Int32) 12) <|
  nm (pI σ (v0 + 1) (0 : Int32).toNatClampNeg v1) fun σ12 =>
  nm (pI σ12 v0 1 (1 : Int32)) fun σ14 =>
  some σ14
theorem k_f_X0_becomeOneLine {lo hi : Nat} {σ0 : Sg} {v0 : Nat} {v1 : Int32} {σ : Sg} (t : To lo hi σ0 σ) (h_v0 : O0 v0) (w_v0 : lo ≤ v0 ∧ v0 + 2 ≤ hi) : FR (fun q => To lo hi σ0 q) (f_X0_becomeOneLine v0 v1 σ) (c_X0_becomeOneLine v0 v1 σ) := by
  unfold f_X0_becomeOneLine c_X0_becomeOneLine
  refine FR_ck (lo0 t.1 h_v0) ?_
  refine FR_ck (ln0_0 t.1 h_v0) ?_
  refine FR_nmR (w := (v0 + 1)) (lr0_0 t.1 h_v0) ?_
  refine FR_ckI (okW_iff t.1 (ar0_0 h_v0)) (fun q11 => ?_)
  refine FR_nmS (To_pI t (by omega)) (fun σ12 t => ?_)
  refine FR_ck (lo0 t.1 h_v0) ?_
  refine FR_nmS (To_pI t (by omega)) (fun σ14 t => ?_)
  exact FR_some t
def d_X4_reset_21 (n : Nat) (v0 : Nat) (σ : Sg) : Option Sg :=
  nm (pI σ v0 1 (0 : Int32)) fun σ11 =>
  some σ11
theorem k_b_X4_reset_21 {lo hi : Nat} {σ0 : Sg} {n : Nat} {v0 : Nat} {σ : Sg} (t : To lo hi σ0 σ) (h_v0 : O3 v0) (w_v0 : lo ≤ v0 ∧ v0 + 2 ≤ hi) : FR (fun q => To lo hi σ0 q) (b_X4_reset_21 n v0 σ) (d_X4_reset_21 n v0 σ) := by
  unfold b_X4_reset_21 d_X4_reset_21
  refine FR_ck (lo3 t.1 h_v0) ?_
  refine FR_nmS (To_pI t (by omega)) (fun σ11 t => ?_)
  exact FR_some t
def d_X4_reset_2 : Nat → Nat → Int32 → Sg → Option Sg
  | 0, _, _, _ => none
  | n + 1, v0, v1, σ =>
  if (8 : Int32) ≤ v1 then (
    d_X4_reset_21 n v0 σ)
  else (
    ck (ix v1 8) <|
    nm (pJ σ (v0 + 1) v1.toNatClampNeg (0 : Int64)) fun σ16 =>
    nm (v1 + (1 : Int32)) fun x17 =>
    d_X4_reset_2 n v0 x17 σ16)
theorem k_b_X4_reset_2 {lo hi : Nat} {σ0 : Sg} : ∀ {n : Nat} {v0 : Nat} {v1 : Int32} {σ : Sg}, To lo hi σ0 σ → O3 v0 → lo ≤ v0 ∧ v0 + 2 ≤ hi → FR (fun q => To lo hi σ0 q) (b_X4_reset_2 n v0 v1 σ) (d_X4_reset_2 n v0 v1 σ) := by
  intro n
  induction n with
  | zero => intro v0 v1 σ t h_v0 w_v0; exact FR_none
  | succ n ih =>
    intro v0 v1 σ t h_v0 w_v0
    unfold b_X4_reset_2 d_X4_reset_2
    refine FR_it (fun _ => ?_) (fun _ => ?_)
    · exact k_b_X4_reset_21 t h_v0 (by omega)
    · refine FR_ck (lo3 t.1 h_v0) ?_
      refine FR_ck (ln3_0 t.1 h_v0) ?_
      refine FR_nmR (w := (v0 + 1)) (lr3_0 t.1 h_v0) ?_
      refine FR_ckI (okW_iff t.1 (ar3_0 h_v0)) (fun q16 => ?_)
      refine FR_nmS (To_pJ t (by omega)) (fun σ16 t => ?_)
      refine FR_nm (fun x17 => ?_)
      exact ih t h_v0 (by omega)
def c_X4_reset (n : Nat) (v0 : Nat) (σ : Sg) : Option Sg :=
  d_X4_reset_2 n v0 (0 : Int32) σ
theorem k_f_X4_reset {lo hi : Nat} {σ0 : Sg} {n : Nat} {v0 : Nat} {σ : Sg} (t : To lo hi σ0 σ) (h_v0 : O3 v0) (w_v0 : lo ≤ v0 ∧ v0 + 2 ≤ hi) : FR (fun q => To lo hi σ0 q) (f_X4_reset n v0 σ) (c_X4_reset n v0 σ) := by
  unfold f_X4_reset c_X4_reset
  exact k_b_X4_reset_2 t h_v0 (by omega)
def d_X7_wipe_21 (n : Nat) (v0 : Nat) (σ : Sg) : Option Sg :=
  nm (pI σ v0 1 (0 : Int32)) fun σ11 =>
  some σ11
theorem k_b_X7_wipe_21 {lo hi : Nat} {σ0 : Sg} {n : Nat} {v0 : Nat} {σ : Sg} (t : To lo hi σ0 σ) (h_v0 : O6 v0) (w_v0 : lo ≤ v0 ∧ v0 + 4 ≤ hi) : FR (fun q => To lo hi σ0 q) (b_X7_wipe_21 n v0 σ) (d_X7_wipe_21 n v0 σ) := by
  unfold b_X7_wipe_21 d_X7_wipe_21
  refine FR_ck (lo6 t.1 h_v0) ?_
  refine FR_nmS (To_pI t (by omega)) (fun σ11 t => ?_)
  exact FR_some t
def d_X7_wipe_2 : Nat → Nat → Int32 → Sg → Option Sg
  | 0, _, _, _ => none
  | n + 1, v0, v1, σ =>
  if (8 : Int32) ≤ v1 then (
    d_X7_wipe_21 n v0 σ)
  else (
    ck (ix v1 8) <|
    nm (pJ σ (v0 + 1) v1.toNatClampNeg (0 : Int64)) fun σ16 =>
    nm (v1 + (1 : Int32)) fun x17 =>
    d_X7_wipe_2 n v0 x17 σ16)
theorem k_b_X7_wipe_2 {lo hi : Nat} {σ0 : Sg} : ∀ {n : Nat} {v0 : Nat} {v1 : Int32} {σ : Sg}, To lo hi σ0 σ → O6 v0 → lo ≤ v0 ∧ v0 + 4 ≤ hi → FR (fun q => To lo hi σ0 q) (b_X7_wipe_2 n v0 v1 σ) (d_X7_wipe_2 n v0 v1 σ) := by
  intro n
  induction n with
  | zero => intro v0 v1 σ t h_v0 w_v0; exact FR_none
  | succ n ih =>
    intro v0 v1 σ t h_v0 w_v0
    unfold b_X7_wipe_2 d_X7_wipe_2
    refine FR_it (fun _ => ?_) (fun _ => ?_)
    · exact k_b_X7_wipe_21 t h_v0 (by omega)
    · refine FR_ck (lo6 t.1 h_v0) ?_
      refine FR_ck (ln6_0 t.1 h_v0) ?_
      refine FR_nmR (w := (v0 + 1)) (lr6_0 t.1 h_v0) ?_
      refine FR_ckI (okW_iff t.1 (ar6_0 h_v0)) (fun q20 => ?_)
      refine FR_nmS (To_pJ t (by omega)) (fun σ16 t => ?_)
      refine FR_nm (fun x17 => ?_)
      exact ih t h_v0 (by omega)
def c_X7_wipe (n : Nat) (v0 : Nat) (σ : Sg) : Option Sg :=
  d_X7_wipe_2 n v0 (0 : Int32) σ
theorem k_f_X7_wipe {lo hi : Nat} {σ0 : Sg} {n : Nat} {v0 : Nat} {σ : Sg} (t : To lo hi σ0 σ) (h_v0 : O6 v0) (w_v0 : lo ≤ v0 ∧ v0 + 4 ≤ hi) : FR (fun q => To lo hi σ0 q) (f_X7_wipe n v0 σ) (c_X7_wipe n v0 σ) := by
  unfold f_X7_wipe c_X7_wipe
  exact k_b_X7_wipe_2 t h_v0 (by omega)
def c_X2_rateOf (v1 : Int32) (σ : Sg) : Option UInt64 :=
  ck (ix v1 8) <|
  if (gI σ 7 v1.toNatClampNeg) ≤ 0 then (
    some (FP.dconst0))
  else (
    ck (ix v1 8) <|
    ck (ix v1 8) <|
    ck (n64 (FP.ddiv (FP.i2d (gI σ 6 v1.toNatClampNeg)) (FP.i2d (gI σ 7 v1.toNatClampNeg)))) <|
    some (FP.ddiv (FP.i2d (gI σ 6 v1.toNatClampNeg)) (FP.i2d (gI σ 7 v1.toNatClampNeg))))
theorem k_f_X2_rateOf {lo hi : Nat} {σ0 : Sg} {v1 : Int32} {σ : Sg} (t : To lo hi σ0 σ) : FR (fun _ => True) (f_X2_rateOf 5 v1 σ) (c_X2_rateOf v1 σ) := by
  unfold f_X2_rateOf c_X2_rateOf
  refine FR_ck (lo7 t.1) ?_
  refine FR_ck (ln7_1 t.1) ?_
  refine FR_nmR (w := 7) (lr7_1 t.1) ?_
  refine FR_ckI (okA_iff t.1 (by decide : Ar 13 8 7)) (fun q23 => ?_)
  refine FR_it (fun _ => ?_) (fun _ => ?_)
  · exact FR_some trivial
  · refine FR_ck (ln7_0 t.1) ?_
    refine FR_nmR (w := 6) (lr7_0 t.1) ?_
    refine FR_ckI (okA_iff t.1 (by decide : Ar 13 8 6)) (fun q25 => ?_)
    refine FR_nmR (w := 7) (lr7_1 t.1) ?_
    refine FR_ckI (okA_iff t.1 (by decide : Ar 13 8 7)) (fun q26 => ?_)
    refine FR_ckI Iff.rfl (fun q27 => ?_)
    exact FR_some trivial
def d_X7_weigh_51 (n : Nat) (v0 : Nat) (σ : Sg) : Option Sg :=
  if (gJ σ v0 5) = (0 : Int64) then (
    ck (ix (0 : Int32) 8) <|
    nm (pI σ (v0 + 2) (0 : Int32).toNatClampNeg (1 : Int32)) fun σ44 =>
    ck (ix (1 : Int32) 8) <|
    nm (pI σ44 (v0 + 2) (1 : Int32).toNatClampNeg (1 : Int32)) fun σ49 =>
    nm (pI σ49 v0 4 (2 : Int32)) fun σ51 =>
    nm (pJ σ51 v0 5 (2 : Int64)) fun σ53 =>
    some σ53)
  else (
    some σ)
theorem k_b_X7_weigh_51 {lo hi : Nat} {σ0 : Sg} {n : Nat} {v0 : Nat} {σ : Sg} (t : To lo hi σ0 σ) (h_v0 : O6 v0) (w_v0 : lo ≤ v0 ∧ v0 + 4 ≤ hi) : FR (fun q => To lo hi σ0 q) (b_X7_weigh_51 n v0 σ) (d_X7_weigh_51 n v0 σ) := by
  unfold b_X7_weigh_51 d_X7_weigh_51
  refine FR_ck (lo6 t.1 h_v0) ?_
  refine FR_it (fun _ => ?_) (fun _ => ?_)
  · refine FR_ck (ln6_2 t.1 h_v0) ?_
    refine FR_nmR (w := (v0 + 2)) (lr6_2 t.1 h_v0) ?_
    refine FR_ckI (okW_iff t.1 (ar6_2 h_v0)) (fun q30 => ?_)
    refine FR_nmS (To_pI t (by omega)) (fun σ44 t => ?_)
    refine FR_ck (lo6 t.1 h_v0) ?_
    refine FR_ck (ln6_2 t.1 h_v0) ?_
    refine FR_nmR (w := (v0 + 2)) (lr6_2 t.1 h_v0) ?_
    refine FR_ckI (okW_iff t.1 (ar6_2 h_v0)) (fun q33 => ?_)
    refine FR_nmS (To_pI t (by omega)) (fun σ49 t => ?_)
    refine FR_ck (lo6 t.1 h_v0) ?_
    refine FR_nmS (To_pI t (by omega)) (fun σ51 t => ?_)
    refine FR_ck (lo6 t.1 h_v0) ?_
    refine FR_nmS (To_pJ t (by omega)) (fun σ53 t => ?_)
    exact FR_some t
  · exact FR_some t
def d_X7_weigh_12 : Nat → Nat → Nat → Int32 → Sg → Option Sg
  | 0, _, _, _, _ => none
  | n + 1, v0, v1, v3, σ =>
  if (gI σ v0 4) ≤ v3 then (
    d_X7_weigh_51 n v0 σ)
  else (
    ck (ix v3 8) <|
    ck (ix v3 8) <|
    nm (pI σ (v0 + 2) v3.toNatClampNeg (gI σ v1 v3.toNatClampNeg)) fun σ58 =>
    ck (ix v3 8) <|
    nm (pJ σ58 v0 5 ((gJ σ58 v0 5) + ((gI σ58 (v0 + 2) v3.toNatClampNeg).toInt64))) fun σ63 =>
    nm (v3 + (1 : Int32)) fun x64 =>
    d_X7_weigh_12 n v0 v1 x64 σ63)
theorem k_b_X7_weigh_12 {lo hi : Nat} {σ0 : Sg} : ∀ {n : Nat} {v0 : Nat} {v1 : Nat} {v3 : Int32} {σ : Sg}, To lo hi σ0 σ → O6 v0 → lo ≤ v0 ∧ v0 + 4 ≤ hi → Ar 13 8 v1 → FR (fun q => To lo hi σ0 q) (b_X7_weigh_12 n v0 v1 v3 σ) (d_X7_weigh_12 n v0 v1 v3 σ) := by
  intro n
  induction n with
  | zero => intro v0 v1 v3 σ t h_v0 w_v0 h_v1; exact FR_none
  | succ n ih =>
    intro v0 v1 v3 σ t h_v0 w_v0 h_v1
    unfold b_X7_weigh_12 d_X7_weigh_12
    refine FR_ck (lo6 t.1 h_v0) ?_
    refine FR_it (fun _ => ?_) (fun _ => ?_)
    · exact k_b_X7_weigh_51 t h_v0 (by omega)
    · refine FR_ck (ln6_2 t.1 h_v0) ?_
      refine FR_nmR (w := (v0 + 2)) (lr6_2 t.1 h_v0) ?_
      refine FR_ckI (okA_iff t.1 h_v1) (fun q38 => ?_)
      refine FR_ckI (okW_iff t.1 (ar6_2 h_v0)) (fun q39 => ?_)
      refine FR_nmS (To_pI t (by omega)) (fun σ58 t => ?_)
      refine FR_ck (lo6 t.1 h_v0) ?_
      refine FR_ck (ln6_2 t.1 h_v0) ?_
      refine FR_nmR (w := (v0 + 2)) (lr6_2 t.1 h_v0) ?_
      refine FR_ckI (okA_iff t.1 (ar6_2 h_v0)) (fun q42 => ?_)
      refine FR_nmS (To_pJ t (by omega)) (fun σ63 t => ?_)
      refine FR_nm (fun x64 => ?_)
      exact ih t h_v0 (by omega) h_v1
def c_X7_weigh (n : Nat) (v0 : Nat) (v1 : Nat) (v2 : Int32) (σ : Sg) : Option Sg :=
  nm (pI σ v0 4 v2) fun σ34 =>
  nm (pJ σ34 v0 5 (0 : Int64)) fun σ36 =>
  d_X7_weigh_12 n v0 v1 (0 : Int32) σ36
theorem k_f_X7_weigh {lo hi : Nat} {σ0 : Sg} {n : Nat} {v0 : Nat} {v1 : Nat} {v2 : Int32} {σ : Sg} (t : To lo hi σ0 σ) (h_v0 : O6 v0) (w_v0 : lo ≤ v0 ∧ v0 + 4 ≤ hi) (h_v1 : Ar 13 8 v1) : FR (fun q => To lo hi σ0 q) (f_X7_weigh n v0 v1 v2 σ) (c_X7_weigh n v0 v1 v2 σ) := by
  unfold f_X7_weigh c_X7_weigh
  refine FR_ck (lo6 t.1 h_v0) ?_
  refine FR_nmS (To_pI t (by omega)) (fun σ34 t => ?_)
  refine FR_ck (lo6 t.1 h_v0) ?_
  refine FR_nmS (To_pJ t (by omega)) (fun σ36 t => ?_)
  exact k_b_X7_weigh_12 t h_v0 (by omega) h_v1
def d_X7_giveByRests_106 (k48 : Int32 → Sg → Option Sg) (n : Nat) (v0 : Nat) (v1 : Int64) (v3 : Int32) (v4 : Int32) (σ : Sg) : Option Sg :=
  ck (ix v4 8) <|
  ck (ix v4 8) <|
  nm (pJ σ (v0 + 1) v4.toNatClampNeg ((gJ σ (v0 + 1) v4.toNatClampNeg) + (1 : Int64))) fun σ47 =>
  ck (ix v4 8) <|
  nm (pJ σ47 (v0 + 3) v4.toNatClampNeg (-1 : Int64)) fun σ52 =>
  nm (v3 + (1 : Int32)) fun x53 =>
  k48 x53 σ52
theorem k_b_X7_giveByRests_106 {lo hi : Nat} {σ0 : Sg} {k48 k48c : Int32 → Sg → Option Sg} {n : Nat} {v0 : Nat} {v1 : Int64} {v3 : Int32} {v4 : Int32} {σ : Sg} (h_k48 : ∀ (c0 : Int32) (τ : Sg), To lo hi σ0 τ → FR (fun q => To lo hi σ0 q) (k48 c0 τ) (k48c c0 τ)) (t : To lo hi σ0 σ) (h_v0 : O6 v0) (w_v0 : lo ≤ v0 ∧ v0 + 4 ≤ hi) : FR (fun q => To lo hi σ0 q) (b_X7_giveByRests_106 k48 n v0 v1 v3 v4 σ) (d_X7_giveByRests_106 k48c n v0 v1 v3 v4 σ) := by
  unfold b_X7_giveByRests_106 d_X7_giveByRests_106
  refine FR_ck (lo6 t.1 h_v0) ?_
  refine FR_ck (ln6_0 t.1 h_v0) ?_
  refine FR_nmR (w := (v0 + 1)) (lr6_0 t.1 h_v0) ?_
  refine FR_ckI (okA_iff t.1 (ar6_0 h_v0)) (fun q47 => ?_)
  refine FR_ckI (okW_iff t.1 (ar6_0 h_v0)) (fun q48 => ?_)
  refine FR_nmS (To_pJ t (by omega)) (fun σ47 t => ?_)
  refine FR_ck (lo6 t.1 h_v0) ?_
  refine FR_ck (ln6_3 t.1 h_v0) ?_
  refine FR_nmR (w := (v0 + 3)) (lr6_3 t.1 h_v0) ?_
  refine FR_ckI (okW_iff t.1 (ar6_3 h_v0)) (fun q51 => ?_)
  refine FR_nmS (To_pJ t (by omega)) (fun σ52 t => ?_)
  refine FR_nm (fun x53 => ?_)
  exact h_k48 _ _ t
def d_X7_giveByRests_100 (k48 : Int32 → Sg → Option Sg) (k69 : Int32 → Int32 → Option Sg) (n : Nat) (v0 : Nat) (v1 : Int64) (v3 : Int32) (v4 : Int32) (v5 : Int32) (σ : Sg) : Option Sg :=
  nm (v5 + (1 : Int32)) fun x60 =>
  k69 v4 x60
theorem k_b_X7_giveByRests_100 {lo hi : Nat} {σ0 : Sg} {k48 k48c : Int32 → Sg → Option Sg} {k69 k69c : Int32 → Int32 → Option Sg} {n : Nat} {v0 : Nat} {v1 : Int64} {v3 : Int32} {v4 : Int32} {v5 : Int32} {σ : Sg} (h_k48 : ∀ (c0 : Int32) (τ : Sg), To lo hi σ0 τ → FR (fun q => To lo hi σ0 q) (k48 c0 τ) (k48c c0 τ)) (h_k69 : ∀ (c0 : Int32) (c1 : Int32), FR (fun q => To lo hi σ0 q) (k69 c0 c1) (k69c c0 c1)) (t : To lo hi σ0 σ) (h_v0 : O6 v0) : FR (fun q => To lo hi σ0 q) (b_X7_giveByRests_100 k48 k69 n v0 v1 v3 v4 v5 σ) (d_X7_giveByRests_100 k48c k69c n v0 v1 v3 v4 v5 σ) := by
  unfold b_X7_giveByRests_100 d_X7_giveByRests_100
  refine FR_nm (fun x60 => ?_)
  exact h_k69 _ _
def d_X7_giveByRests_69 (k48 : Int32 → Sg → Option Sg) : Nat → Nat → Int64 → Int32 → Int32 → Int32 → Sg → Option Sg
  | 0, _, _, _, _, _, _ => none
  | n + 1, v0, v1, v3, v4, v5, σ =>
  if (gI σ v0 4) ≤ v5 then (
    d_X7_giveByRests_106 k48 n v0 v1 v3 v4 σ)
  else (
    ck (ix v5 8) <|
    ck (ix v4 8) <|
    if (gJ σ (v0 + 3) v5.toNatClampNeg) ≤ (gJ σ (v0 + 3) v4.toNatClampNeg) then (
      d_X7_giveByRests_100 k48 (fun c4 c5 => d_X7_giveByRests_69 k48 n v0 v1 v3 c4 c5 σ) n v0 v1 v3 v4 v5 σ)
    else (
      d_X7_giveByRests_100 k48 (fun c4 c5 => d_X7_giveByRests_69 k48 n v0 v1 v3 c4 c5 σ) n v0 v1 v3 v5 v5 σ))
theorem k_b_X7_giveByRests_69 {lo hi : Nat} {σ0 : Sg} {k48 k48c : Int32 → Sg → Option Sg} (h_k48 : ∀ (c0 : Int32) (τ : Sg), To lo hi σ0 τ → FR (fun q => To lo hi σ0 q) (k48 c0 τ) (k48c c0 τ)) : ∀ {n : Nat} {v0 : Nat} {v1 : Int64} {v3 : Int32} {v4 : Int32} {v5 : Int32} {σ : Sg}, To lo hi σ0 σ → O6 v0 → lo ≤ v0 ∧ v0 + 4 ≤ hi → FR (fun q => To lo hi σ0 q) (b_X7_giveByRests_69 k48 n v0 v1 v3 v4 v5 σ) (d_X7_giveByRests_69 k48c n v0 v1 v3 v4 v5 σ) := by
  intro n
  induction n with
  | zero => intro v0 v1 v3 v4 v5 σ t h_v0 w_v0; exact FR_none
  | succ n ih =>
    intro v0 v1 v3 v4 v5 σ t h_v0 w_v0
    unfold b_X7_giveByRests_69 d_X7_giveByRests_69
    refine FR_ck (lo6 t.1 h_v0) ?_
    refine FR_it (fun _ => ?_) (fun _ => ?_)
    · exact k_b_X7_giveByRests_106 h_k48 t h_v0 (by omega)
    · refine FR_ck (ln6_3 t.1 h_v0) ?_
      refine FR_nmR (w := (v0 + 3)) (lr6_3 t.1 h_v0) ?_
      refine FR_ckI (okA_iff t.1 (ar6_3 h_v0)) (fun q54 => ?_)
      refine FR_nmR (w := (v0 + 3)) (lr6_3 t.1 h_v0) ?_
      refine FR_ckI (okA_iff t.1 (ar6_3 h_v0)) (fun q55 => ?_)
      refine FR_it (fun _ => ?_) (fun _ => ?_)
      · exact k_b_X7_giveByRests_100 h_k48 (fun c4 c5 => ih t h_v0 (by omega)) t h_v0
      · exact k_b_X7_giveByRests_100 h_k48 (fun c4 c5 => ih t h_v0 (by omega)) t h_v0
def d_X7_giveByRests_48 : Nat → Nat → Int64 → Int32 → Sg → Option Sg
  | 0, _, _, _, _ => none
  | n + 1, v0, v1, v3, σ =>
  if v1 ≤ (v3.toInt64) then (
    some σ)
  else (
    if (gI σ v0 4) ≤ v3 then (
      some σ)
    else (
      d_X7_giveByRests_69 (fun c3 τ => d_X7_giveByRests_48 n v0 v1 c3 τ) n v0 v1 v3 (0 : Int32) (1 : Int32) σ))
theorem k_b_X7_giveByRests_48 {lo hi : Nat} {σ0 : Sg} : ∀ {n : Nat} {v0 : Nat} {v1 : Int64} {v3 : Int32} {σ : Sg}, To lo hi σ0 σ → O6 v0 → lo ≤ v0 ∧ v0 + 4 ≤ hi → FR (fun q => To lo hi σ0 q) (b_X7_giveByRests_48 n v0 v1 v3 σ) (d_X7_giveByRests_48 n v0 v1 v3 σ) := by
  intro n
  induction n with
  | zero => intro v0 v1 v3 σ t h_v0 w_v0; exact FR_none
  | succ n ih =>
    intro v0 v1 v3 σ t h_v0 w_v0
    unfold b_X7_giveByRests_48 d_X7_giveByRests_48
    refine FR_it (fun _ => ?_) (fun _ => ?_)
    · exact FR_some t
    · refine FR_ck (lo6 t.1 h_v0) ?_
      refine FR_it (fun _ => ?_) (fun _ => ?_)
      · exact FR_some t
      · exact k_b_X7_giveByRests_69 (fun c3 τ t => ih t h_v0 (by omega)) t h_v0 (by omega)
def d_X7_giveByRests_46 (n : Nat) (v0 : Nat) (v1 : Int64) (σ : Sg) : Option Sg :=
  d_X7_giveByRests_48 n v0 v1 (0 : Int32) σ
theorem k_b_X7_giveByRests_46 {lo hi : Nat} {σ0 : Sg} {n : Nat} {v0 : Nat} {v1 : Int64} {σ : Sg} (t : To lo hi σ0 σ) (h_v0 : O6 v0) (w_v0 : lo ≤ v0 ∧ v0 + 4 ≤ hi) : FR (fun q => To lo hi σ0 q) (b_X7_giveByRests_46 n v0 v1 σ) (d_X7_giveByRests_46 n v0 v1 σ) := by
  unfold b_X7_giveByRests_46 d_X7_giveByRests_46
  exact k_b_X7_giveByRests_48 t h_v0 (by omega)
def d_X7_giveByRests_2 : Nat → Nat → Int64 → Int32 → Sg → Option Sg
  | 0, _, _, _, _ => none
  | n + 1, v0, v1, v3, σ =>
  if (gI σ v0 4) ≤ v3 then (
    d_X7_giveByRests_46 n v0 v1 σ)
  else (
    ck (ix v3 8) <|
    ck (ix v3 8) <|
    ck (ix v3 8) <|
    nm (pJ σ (v0 + 3) v3.toNatClampNeg (((gJ σ v0 6) * ((gI σ (v0 + 2) v3.toNatClampNeg).toInt64)) - ((gJ σ (v0 + 1) v3.toNatClampNeg) * (gJ σ v0 5)))) fun σ70 =>
    nm (v3 + (1 : Int32)) fun x71 =>
    d_X7_giveByRests_2 n v0 v1 x71 σ70)
theorem k_b_X7_giveByRests_2 {lo hi : Nat} {σ0 : Sg} : ∀ {n : Nat} {v0 : Nat} {v1 : Int64} {v3 : Int32} {σ : Sg}, To lo hi σ0 σ → O6 v0 → lo ≤ v0 ∧ v0 + 4 ≤ hi → FR (fun q => To lo hi σ0 q) (b_X7_giveByRests_2 n v0 v1 v3 σ) (d_X7_giveByRests_2 n v0 v1 v3 σ) := by
  intro n
  induction n with
  | zero => intro v0 v1 v3 σ t h_v0 w_v0; exact FR_none
  | succ n ih =>
    intro v0 v1 v3 σ t h_v0 w_v0
    unfold b_X7_giveByRests_2 d_X7_giveByRests_2
    refine FR_ck (lo6 t.1 h_v0) ?_
    refine FR_it (fun _ => ?_) (fun _ => ?_)
    · exact k_b_X7_giveByRests_46 t h_v0 (by omega)
    · refine FR_ck (ln6_3 t.1 h_v0) ?_
      refine FR_nmR (w := (v0 + 3)) (lr6_3 t.1 h_v0) ?_
      refine FR_ck (ln6_2 t.1 h_v0) ?_
      refine FR_nmR (w := (v0 + 2)) (lr6_2 t.1 h_v0) ?_
      refine FR_ckI (okA_iff t.1 (ar6_2 h_v0)) (fun q60 => ?_)
      refine FR_ck (ln6_0 t.1 h_v0) ?_
      refine FR_nmR (w := (v0 + 1)) (lr6_0 t.1 h_v0) ?_
      refine FR_ckI (okA_iff t.1 (ar6_0 h_v0)) (fun q62 => ?_)
      refine FR_ckI (okW_iff t.1 (ar6_3 h_v0)) (fun q63 => ?_)
      refine FR_nmS (To_pJ t (by omega)) (fun σ70 t => ?_)
      refine FR_nm (fun x71 => ?_)
      exact ih t h_v0 (by omega)
def c_X7_giveByRests (n : Nat) (v0 : Nat) (v1 : Int64) (σ : Sg) : Option Sg :=
  d_X7_giveByRests_2 n v0 v1 (0 : Int32) σ
theorem k_f_X7_giveByRests {lo hi : Nat} {σ0 : Sg} {n : Nat} {v0 : Nat} {v1 : Int64} {σ : Sg} (t : To lo hi σ0 σ) (h_v0 : O6 v0) (w_v0 : lo ≤ v0 ∧ v0 + 4 ≤ hi) : FR (fun q => To lo hi σ0 q) (f_X7_giveByRests n v0 v1 σ) (c_X7_giveByRests n v0 v1 σ) := by
  unfold f_X7_giveByRests c_X7_giveByRests
  exact k_b_X7_giveByRests_2 t h_v0 (by omega)
def d_X7_giveInOrder_45 (k5 : Int64 → Int32 → Sg → Option Sg) (n : Nat) (v0 : Nat) (v3 : Int64) (v5 : Int32) (σ : Sg) : Option Sg :=
  nm (v5 + (1 : Int32)) fun x21 =>
  k5 v3 x21 σ
theorem k_b_X7_giveInOrder_45 {lo hi : Nat} {σ0 : Sg} {k5 k5c : Int64 → Int32 → Sg → Option Sg} {n : Nat} {v0 : Nat} {v3 : Int64} {v5 : Int32} {σ : Sg} (h_k5 : ∀ (c0 : Int64) (c1 : Int32) (τ : Sg), To lo hi σ0 τ → FR (fun q => To lo hi σ0 q) (k5 c0 c1 τ) (k5c c0 c1 τ)) (t : To lo hi σ0 σ) (h_v0 : O6 v0) : FR (fun q => To lo hi σ0 q) (b_X7_giveInOrder_45 k5 n v0 v3 v5 σ) (d_X7_giveInOrder_45 k5c n v0 v3 v5 σ) := by
  unfold b_X7_giveInOrder_45 d_X7_giveInOrder_45
  refine FR_nm (fun x21 => ?_)
  exact h_k5 _ _ _ t
def d_X7_giveInOrder_5 : Nat → Nat → Int64 → Int32 → Sg → Option Sg
  | 0, _, _, _, _ => none
  | n + 1, v0, v3, v5, σ =>
  if (gI σ v0 4) ≤ v5 then (
    some σ)
  else (
    if v3 ≤ (0 : Int64) then (
      some σ)
    else (
      ck (ix v5 8) <|
      if (gI σ (v0 + 2) v5.toNatClampNeg) ≤ 0 then (
        d_X7_giveInOrder_45 (fun c3 c5 τ => d_X7_giveInOrder_5 n v0 c3 c5 τ) n v0 v3 v5 σ)
      else (
        ck (ix v5 8) <|
        ck (ix v5 8) <|
        nm (pJ σ (v0 + 1) v5.toNatClampNeg ((gJ σ (v0 + 1) v5.toNatClampNeg) + (1 : Int64))) fun σ26 =>
        nm (v3 - (1 : Int64)) fun x27 =>
        d_X7_giveInOrder_45 (fun c3 c5 τ => d_X7_giveInOrder_5 n v0 c3 c5 τ) n v0 x27 v5 σ26)))
theorem k_b_X7_giveInOrder_5 {lo hi : Nat} {σ0 : Sg} : ∀ {n : Nat} {v0 : Nat} {v3 : Int64} {v5 : Int32} {σ : Sg}, To lo hi σ0 σ → O6 v0 → lo ≤ v0 ∧ v0 + 4 ≤ hi → FR (fun q => To lo hi σ0 q) (b_X7_giveInOrder_5 n v0 v3 v5 σ) (d_X7_giveInOrder_5 n v0 v3 v5 σ) := by
  intro n
  induction n with
  | zero => intro v0 v3 v5 σ t h_v0 w_v0; exact FR_none
  | succ n ih =>
    intro v0 v3 v5 σ t h_v0 w_v0
    unfold b_X7_giveInOrder_5 d_X7_giveInOrder_5
    refine FR_ck (lo6 t.1 h_v0) ?_
    refine FR_it (fun _ => ?_) (fun _ => ?_)
    · exact FR_some t
    · refine FR_it (fun _ => ?_) (fun _ => ?_)
      · exact FR_some t
      · refine FR_ck (ln6_2 t.1 h_v0) ?_
        refine FR_nmR (w := (v0 + 2)) (lr6_2 t.1 h_v0) ?_
        refine FR_ckI (okA_iff t.1 (ar6_2 h_v0)) (fun q66 => ?_)
        refine FR_it (fun _ => ?_) (fun _ => ?_)
        · exact k_b_X7_giveInOrder_45 (fun c3 c5 τ t => ih t h_v0 (by omega)) t h_v0
        · refine FR_ck (ln6_0 t.1 h_v0) ?_
          refine FR_nmR (w := (v0 + 1)) (lr6_0 t.1 h_v0) ?_
          refine FR_ckI (okA_iff t.1 (ar6_0 h_v0)) (fun q68 => ?_)
          refine FR_ckI (okW_iff t.1 (ar6_0 h_v0)) (fun q69 => ?_)
          refine FR_nmS (To_pJ t (by omega)) (fun σ26 t => ?_)
          refine FR_nm (fun x27 => ?_)
          exact k_b_X7_giveInOrder_45 (fun c3 c5 τ t => ih t h_v0 (by omega)) t h_v0
def c_X7_giveInOrder (n : Nat) (v0 : Nat) (v1 : Int64) (σ : Sg) : Option Sg :=
  d_X7_giveInOrder_5 n v0 v1 (0 : Int32) σ
theorem k_f_X7_giveInOrder {lo hi : Nat} {σ0 : Sg} {n : Nat} {v0 : Nat} {v1 : Int64} {σ : Sg} (t : To lo hi σ0 σ) (h_v0 : O6 v0) (w_v0 : lo ≤ v0 ∧ v0 + 4 ≤ hi) : FR (fun q => To lo hi σ0 q) (f_X7_giveInOrder n v0 v1 σ) (c_X7_giveInOrder n v0 v1 σ) := by
  unfold f_X7_giveInOrder c_X7_giveInOrder
  exact k_b_X7_giveInOrder_5 t h_v0 (by omega)
def d_X7_divide_150 (n : Nat) (v7 : Int64) (s0 : Int32) (s1 : Nat) (σ : Sg) : Option Sg :=
  ck (ix s0 8) <|
  ck (ix s0 8) <|
  nm (pJ σ s1 s0.toNatClampNeg ((gJ σ s1 s0.toNatClampNeg) + v7)) fun σ66 =>
  some σ66
theorem k_b_X7_divide_150 {lo hi : Nat} {σ0 : Sg} {n : Nat} {v7 : Int64} {s0 : Int32} {s1 : Nat} {σ : Sg} (t : To lo hi σ0 σ) (h_s1 : Ar 14 8 s1) (w_s1 : lo ≤ s1 ∧ s1 < hi) : FR (fun q => To lo hi σ0 q) (b_X7_divide_150 n v7 s0 s1 σ) (d_X7_divide_150 n v7 s0 s1 σ) := by
  unfold b_X7_divide_150 d_X7_divide_150
  refine FR_ckI (okA_iff t.1 h_s1) (fun q70 => ?_)
  refine FR_ckI (okW_iff t.1 h_s1) (fun q71 => ?_)
  refine FR_nmS (To_pJ t (by omega)) (fun σ66 t => ?_)
  exact FR_some t
def d_X7_divide_104 (n : Nat) (v0 : Nat) (v3 : Int32) (v7 : Int64) (σ : Sg) : Option Sg :=
  if v3 = 0 then (
    bp (c_X7_giveByRests n v0 v7 σ) fun σ72 =>
    some σ72)
  else (
    if v3 = (1 : Int32) then (
      bp (c_X7_giveInOrder n v0 v7 σ) fun σ69 =>
      some σ69)
    else (
      if v3 = (2 : Int32) then (
        d_X7_divide_150 n v7 ((gI σ v0 4) - (1 : Int32)) (v0 + 1) σ)
      else (
        d_X7_divide_150 n v7 (0 : Int32) (v0 + 1) σ)))
theorem k_b_X7_divide_104 {lo hi : Nat} {σ0 : Sg} {n : Nat} {v0 : Nat} {v3 : Int32} {v7 : Int64} {σ : Sg} (t : To lo hi σ0 σ) (h_v0 : O6 v0) (w_v0 : lo ≤ v0 ∧ v0 + 4 ≤ hi) : FR (fun q => To lo hi σ0 q) (b_X7_divide_104 n v0 v3 v7 σ) (d_X7_divide_104 n v0 v3 v7 σ) := by
  unfold b_X7_divide_104 d_X7_divide_104
  refine FR_it (fun _ => ?_) (fun _ => ?_)
  · refine FR_ck (lo6 t.1 h_v0) ?_
    refine FR_bp (k_f_X7_giveByRests t h_v0 (by omega)) (fun σ72 t => ?_)
    exact FR_some t
  · refine FR_it (fun _ => ?_) (fun _ => ?_)
    · refine FR_ck (lo6 t.1 h_v0) ?_
      refine FR_bp (k_f_X7_giveInOrder t h_v0 (by omega)) (fun σ69 t => ?_)
      exact FR_some t
    · refine FR_ck (lo6 t.1 h_v0) ?_
      refine FR_ck (ln6_0 t.1 h_v0) ?_
      refine FR_nmR (w := (v0 + 1)) (lr6_0 t.1 h_v0) ?_
      refine FR_it (fun _ => ?_) (fun _ => ?_)
      · exact k_b_X7_divide_150 t (ar6_0 h_v0) (by omega)
      · exact k_b_X7_divide_150 t (ar6_0 h_v0) (by omega)
def d_X7_divide_47 : Nat → Nat → Int32 → Int32 → Int64 → Int32 → Sg → Option Sg
  | 0, _, _, _, _, _, _ => none
  | n + 1, v0, v3, v6, v7, v9, σ =>
  if (gI σ v0 4) ≤ v9 then (
    d_X7_divide_104 n v0 v3 v7 σ)
  else (
    ck (ix v9 8) <|
    bp (f_X3_rounding ((gJ σ v0 6) * ((gI σ (v0 + 2) v9.toNatClampNeg).toInt64)) (gJ σ v0 5) (1 : Int64) v6) fun x79 =>
    ck (ix v9 8) <|
    nm (pJ σ (v0 + 1) v9.toNatClampNeg x79) fun σ81 =>
    ck (ix v9 8) <|
    nm (v7 - (gJ σ81 (v0 + 1) v9.toNatClampNeg)) fun x86 =>
    nm (v9 + (1 : Int32)) fun x87 =>
    d_X7_divide_47 n v0 v3 v6 x86 x87 σ81)
theorem k_b_X7_divide_47 {lo hi : Nat} {σ0 : Sg} : ∀ {n : Nat} {v0 : Nat} {v3 : Int32} {v6 : Int32} {v7 : Int64} {v9 : Int32} {σ : Sg}, To lo hi σ0 σ → O6 v0 → lo ≤ v0 ∧ v0 + 4 ≤ hi → FR (fun q => To lo hi σ0 q) (b_X7_divide_47 n v0 v3 v6 v7 v9 σ) (d_X7_divide_47 n v0 v3 v6 v7 v9 σ) := by
  intro n
  induction n with
  | zero => intro v0 v3 v6 v7 v9 σ t h_v0 w_v0; exact FR_none
  | succ n ih =>
    intro v0 v3 v6 v7 v9 σ t h_v0 w_v0
    unfold b_X7_divide_47 d_X7_divide_47
    refine FR_ck (lo6 t.1 h_v0) ?_
    refine FR_it (fun _ => ?_) (fun _ => ?_)
    · exact k_b_X7_divide_104 t h_v0 (by omega)
    · refine FR_ck (ln6_0 t.1 h_v0) ?_
      refine FR_nmR (w := (v0 + 1)) (lr6_0 t.1 h_v0) ?_
      refine FR_ck (ln6_2 t.1 h_v0) ?_
      refine FR_nmR (w := (v0 + 2)) (lr6_2 t.1 h_v0) ?_
      refine FR_ckI (okA_iff t.1 (ar6_2 h_v0)) (fun q79 => ?_)
      refine FR_nmP (fun x79 => ?_)
      refine FR_ckI (okW_iff t.1 (ar6_0 h_v0)) (fun q80 => ?_)
      refine FR_nmS (To_pJ t (by omega)) (fun σ81 t => ?_)
      refine FR_ck (lo6 t.1 h_v0) ?_
      refine FR_ck (ln6_0 t.1 h_v0) ?_
      refine FR_nmR (w := (v0 + 1)) (lr6_0 t.1 h_v0) ?_
      refine FR_ckI (okA_iff t.1 (ar6_0 h_v0)) (fun q83 => ?_)
      refine FR_nm (fun x86 => ?_)
      refine FR_nm (fun x87 => ?_)
      exact ih t h_v0 (by omega)
def d_X7_divide_36 (n : Nat) (v0 : Nat) (v3 : Int32) (s0 : Int32) (σ : Sg) : Option Sg :=
  nm (gJ σ v0 6) fun x55 =>
  d_X7_divide_47 n v0 v3 s0 x55 (0 : Int32) σ
theorem k_b_X7_divide_36 {lo hi : Nat} {σ0 : Sg} {n : Nat} {v0 : Nat} {v3 : Int32} {s0 : Int32} {σ : Sg} (t : To lo hi σ0 σ) (h_v0 : O6 v0) (w_v0 : lo ≤ v0 ∧ v0 + 4 ≤ hi) : FR (fun q => To lo hi σ0 q) (b_X7_divide_36 n v0 v3 s0 σ) (d_X7_divide_36 n v0 v3 s0 σ) := by
  unfold b_X7_divide_36 d_X7_divide_36
  refine FR_ck (lo6 t.1 h_v0) ?_
  refine FR_nm (fun x55 => ?_)
  exact k_b_X7_divide_47 t h_v0 (by omega)
def d_X7_divide_31 (n : Nat) (v0 : Nat) (v3 : Int32) (σ : Sg) : Option Sg :=
  d_X7_divide_36 n v0 v3 (4 : Int32) σ
theorem k_b_X7_divide_31 {lo hi : Nat} {σ0 : Sg} {n : Nat} {v0 : Nat} {v3 : Int32} {σ : Sg} (t : To lo hi σ0 σ) (h_v0 : O6 v0) (w_v0 : lo ≤ v0 ∧ v0 + 4 ≤ hi) : FR (fun q => To lo hi σ0 q) (b_X7_divide_31 n v0 v3 σ) (d_X7_divide_31 n v0 v3 σ) := by
  unfold b_X7_divide_31 d_X7_divide_31
  exact k_b_X7_divide_36 t h_v0 (by omega)
def c_X7_divide (n : Nat) (v0 : Nat) (v1 : Int64) (v3 : Int32) (v4 : Nat) (v5 : Int32) (σ : Sg) : Option Sg :=
  bp (c_X7_wipe n v0 σ) fun σ45 =>
  nm (pI σ45 v0 1 (1 : Int32)) fun σ47 =>
  nm (pJ σ47 v0 6 v1) fun σ49 =>
  bp (c_X7_weigh n v0 v4 v5 σ49) fun σ52 =>
  if v3 = 0 then (
    d_X7_divide_31 n v0 v3 σ52)
  else (
    if v3 = (1 : Int32) then (
      d_X7_divide_31 n v0 v3 σ52)
    else (
      d_X7_divide_36 n v0 v3 (0 : Int32) σ52))
theorem k_f_X7_divide {lo hi : Nat} {σ0 : Sg} {n : Nat} {v0 : Nat} {v1 : Int64} {v3 : Int32} {v4 : Nat} {v5 : Int32} {σ : Sg} (t : To lo hi σ0 σ) (h_v0 : O6 v0) (w_v0 : lo ≤ v0 ∧ v0 + 4 ≤ hi) (h_v4 : Ar 13 8 v4) : FR (fun q => To lo hi σ0 q) (f_X7_divide n v0 v1 v3 v4 v5 σ) (c_X7_divide n v0 v1 v3 v4 v5 σ) := by
  unfold f_X7_divide c_X7_divide
  refine FR_ck (lo6 t.1 h_v0) ?_
  refine FR_bp (k_f_X7_wipe t h_v0 (by omega)) (fun σ45 t => ?_)
  refine FR_ck (lo6 t.1 h_v0) ?_
  refine FR_nmS (To_pI t (by omega)) (fun σ47 t => ?_)
  refine FR_ck (lo6 t.1 h_v0) ?_
  refine FR_nmS (To_pJ t (by omega)) (fun σ49 t => ?_)
  refine FR_ck (lo6 t.1 h_v0) ?_
  refine FR_bp (k_f_X7_weigh t h_v0 (by omega) h_v4) (fun σ52 t => ?_)
  refine FR_it (fun _ => ?_) (fun _ => ?_)
  · exact k_b_X7_divide_31 t h_v0 (by omega)
  · refine FR_it (fun _ => ?_) (fun _ => ?_)
    · exact k_b_X7_divide_31 t h_v0 (by omega)
    · exact k_b_X7_divide_36 t h_v0 (by omega)
def c_X2_carry (v1 : Int32) (σ : Sg) : Option Sg :=
  ck (ix v1 8) <|
  ck (n64 (FP.dadd (gD σ 60 3) (gD σ 67 v1.toNatClampNeg))) <|
  nm (FP.dadd (gD σ 60 3) (gD σ 67 v1.toNatClampNeg)) fun x23 =>
  bp (f_X2_floor x23) fun x26 =>
  ck (ix v1 8) <|
  nm (pD σ 67 v1.toNatClampNeg x26) fun σ28 =>
  ck (ix v1 8) <|
  ck (n64 (FP.dsub x23 (gD σ28 67 v1.toNatClampNeg))) <|
  nm (pD σ28 60 3 (FP.dsub x23 (gD σ28 67 v1.toNatClampNeg))) fun σ34 =>
  some σ34
theorem k_f_X2_carry {lo hi : Nat} {σ0 : Sg} {v1 : Int32} {σ : Sg} (t : To lo hi σ0 σ) (w_v0 : lo ≤ 60 ∧ 68 ≤ hi) : FR (fun q => To lo hi σ0 q) (f_X2_carry 60 v1 σ) (c_X2_carry v1 σ) := by
  unfold f_X2_carry c_X2_carry
  refine FR_ck (lo2 t.1) ?_
  refine FR_ck (ln2_2 t.1) ?_
  refine FR_nmR (w := 67) (lr2_2 t.1) ?_
  refine FR_ckI (okA_iff t.1 (by decide : Ar 12 8 67)) (fun q91 => ?_)
  refine FR_ckI Iff.rfl (fun q92 => ?_)
  refine FR_nm (fun x23 => ?_)
  refine FR_nmR (w := 67) (lr2_2 t.1) ?_
  refine FR_nmP (fun x26 => ?_)
  refine FR_ckI (okW_iff t.1 (by decide : Ar 12 8 67)) (fun q93 => ?_)
  refine FR_nmS (To_pD t (by omega)) (fun σ28 t => ?_)
  refine FR_ck (lo2 t.1) ?_
  refine FR_ck (ln2_2 t.1) ?_
  refine FR_nmR (w := 67) (lr2_2 t.1) ?_
  refine FR_ckI (okA_iff t.1 (by decide : Ar 12 8 67)) (fun q96 => ?_)
  refine FR_ckI Iff.rfl (fun q97 => ?_)
  refine FR_nmS (To_pD t (by omega)) (fun σ34 t => ?_)
  exact FR_some t
def d_X2_passDays_3 : Nat → Int32 → UInt64 → Int32 → Int32 → Sg → Option Sg
  | 0, _, _, _, _, _ => none
  | n + 1, v1, v2, v4, v5, σ =>
  if v4 ≤ v5 then (
    some σ)
  else (
    ck (ix v1 8) <|
    ck (ix v1 8) <|
    ck (n64 (FP.dmul (gD σ 67 v1.toNatClampNeg) v2)) <|
    bp (f_X2_even (FP.dmul (gD σ 67 v1.toNatClampNeg) v2)) fun x27 =>
    ck (n64 (FP.dadd (gD σ 67 v1.toNatClampNeg) x27)) <|
    bp (f_X2_within (FP.dadd (gD σ 67 v1.toNatClampNeg) x27)) fun x30 =>
    ck (ix v1 8) <|
    nm (pD σ 67 v1.toNatClampNeg x30) fun σ32 =>
    nm (v5 + (1 : Int32)) fun x33 =>
    d_X2_passDays_3 n v1 v2 v4 x33 σ32)
theorem k_b_X2_passDays_3 {lo hi : Nat} {σ0 : Sg} : ∀ {n : Nat} {v1 : Int32} {v2 : UInt64} {v4 : Int32} {v5 : Int32} {σ : Sg}, To lo hi σ0 σ → lo ≤ 60 ∧ 68 ≤ hi → FR (fun q => To lo hi σ0 q) (b_X2_passDays_3 n 60 v1 v2 v4 v5 σ) (d_X2_passDays_3 n v1 v2 v4 v5 σ) := by
  intro n
  induction n with
  | zero => intro v1 v2 v4 v5 σ t w_v0; exact FR_none
  | succ n ih =>
    intro v1 v2 v4 v5 σ t w_v0
    unfold b_X2_passDays_3 d_X2_passDays_3
    refine FR_it (fun _ => ?_) (fun _ => ?_)
    · exact FR_some t
    · refine FR_ck (lo2 t.1) ?_
      refine FR_ck (ln2_2 t.1) ?_
      refine FR_nmR (w := 67) (lr2_2 t.1) ?_
      refine FR_nmR (w := 67) (lr2_2 t.1) ?_
      refine FR_ckI (okA_iff t.1 (by decide : Ar 12 8 67)) (fun q100 => ?_)
      refine FR_nmR (w := 67) (lr2_2 t.1) ?_
      refine FR_ckI (okA_iff t.1 (by decide : Ar 12 8 67)) (fun q101 => ?_)
      refine FR_ckI Iff.rfl (fun q102 => ?_)
      refine FR_nmP (fun x27 => ?_)
      refine FR_ckI Iff.rfl (fun q103 => ?_)
      refine FR_nmP (fun x30 => ?_)
      refine FR_ckI (okW_iff t.1 (by decide : Ar 12 8 67)) (fun q104 => ?_)
      refine FR_nmS (To_pD t (by omega)) (fun σ32 t => ?_)
      refine FR_nm (fun x33 => ?_)
      exact ih t (by omega)
def c_X2_passDays (n : Nat) (v1 : Int32) (v2 : UInt64) (v4 : Int32) (σ : Sg) : Option Sg :=
  d_X2_passDays_3 n v1 v2 v4 (0 : Int32) σ
theorem k_f_X2_passDays {lo hi : Nat} {σ0 : Sg} {n : Nat} {v1 : Int32} {v2 : UInt64} {v4 : Int32} {σ : Sg} (t : To lo hi σ0 σ) (w_v0 : lo ≤ 60 ∧ 68 ≤ hi) : FR (fun q => To lo hi σ0 q) (f_X2_passDays n 60 v1 v2 v4 σ) (c_X2_passDays n v1 v2 v4 σ) := by
  unfold f_X2_passDays c_X2_passDays
  exact k_b_X2_passDays_3 t (by omega)
def d_X2_step_224 (n : Nat) (s0 : UInt64) (s1 : Int32) (s2 : Nat) (σ : Sg) : Option Sg :=
  ck (ix s1 8) <|
  nm (pD σ s2 s1.toNatClampNeg s0) fun σ224 =>
  some σ224
theorem k_b_X2_step_224 {lo hi : Nat} {σ0 : Sg} {n : Nat} {s0 : UInt64} {s1 : Int32} {s2 : Nat} {σ : Sg} (t : To lo hi σ0 σ) (h_s2 : Ar 12 8 s2) (w_s2 : lo ≤ s2 ∧ s2 < hi) : FR (fun q => To lo hi σ0 q) (b_X2_step_224 n s0 s1 s2 σ) (d_X2_step_224 n s0 s1 s2 σ) := by
  unfold b_X2_step_224 d_X2_step_224
  refine FR_ckI (okW_iff t.1 h_s2) (fun q105 => ?_)
  refine FR_nmS (To_pD t (by omega)) (fun σ224 t => ?_)
  exact FR_some t
def d_X2_step_330 (n : Nat) (v5 : Int32) (v7 : Int32) (σ : Sg) : Option Sg :=
  ck (ix v5 8) <|
  nm (pD σ 67 v5.toNatClampNeg (FP.i2d v7)) fun σ278 =>
  some σ278
theorem k_b_X2_step_330 {lo hi : Nat} {σ0 : Sg} {n : Nat} {v5 : Int32} {v7 : Int32} {σ : Sg} (t : To lo hi σ0 σ) (w_v0 : lo ≤ 60 ∧ 68 ≤ hi) : FR (fun q => To lo hi σ0 q) (b_X2_step_330 n 60 v5 v7 σ) (d_X2_step_330 n v5 v7 σ) := by
  unfold b_X2_step_330 d_X2_step_330
  refine FR_ck (lo2 t.1) ?_
  refine FR_ck (ln2_2 t.1) ?_
  refine FR_nmR (w := 67) (lr2_2 t.1) ?_
  refine FR_ckI (okW_iff t.1 (by decide : Ar 12 8 67)) (fun q108 => ?_)
  refine FR_nmS (To_pD t (by omega)) (fun σ278 t => ?_)
  exact FR_some t
def d_X2_step_379 (n : Nat) (s0 : Int64) (s1 : Int64) (s2 : Int32) (s3 : Nat) (σ : Sg) : Option Sg :=
  ck (ix s2 8) <|
  nm (pJ σ s3 s2.toNatClampNeg (s1 + s0)) fun σ297 =>
  some σ297
theorem k_b_X2_step_379 {lo hi : Nat} {σ0 : Sg} {n : Nat} {s0 : Int64} {s1 : Int64} {s2 : Int32} {s3 : Nat} {σ : Sg} (t : To lo hi σ0 σ) (h_s3 : Ar 14 8 s3) (w_s3 : lo ≤ s3 ∧ s3 < hi) : FR (fun q => To lo hi σ0 q) (b_X2_step_379 n s0 s1 s2 s3 σ) (d_X2_step_379 n s0 s1 s2 s3 σ) := by
  unfold b_X2_step_379 d_X2_step_379
  refine FR_ckI (okW_iff t.1 h_s3) (fun q109 => ?_)
  refine FR_nmS (To_pJ t (by omega)) (fun σ297 t => ?_)
  exact FR_some t
def c_X2_step (n : Nat) (v1 : Nat) (v2 : Int32) (v4 : Int32) (σ : Sg) : Option Sg :=
  ck (ix v2 20) <|
  nm (gI σ (v1 + 2) v2.toNatClampNeg) fun x152 =>
  ck (ix v2 20) <|
  nm (gI σ (v1 + 3) v2.toNatClampNeg) fun x156 =>
  ck (ix v2 20) <|
  nm (gI σ (v1 + 4) v2.toNatClampNeg) fun x160 =>
  ck (ix v2 20) <|
  if (gI σ (v1 + 1) v2.toNatClampNeg) = 0 then (
    ck (ix x152 8) <|
    nm (pD σ 67 x152.toNatClampNeg (FP.i2d v4)) fun σ169 =>
    some σ169)
  else (
    if (gI σ (v1 + 1) v2.toNatClampNeg) = 1 then (
      bp (c_X2_rateOf x156 σ) fun x175 =>
      ck (n64 (FP.dmul (FP.i2d v4) x175)) <|
      bp (f_X2_rounding (FP.dmul (FP.i2d v4) x175) (FP.dconst1) x160) fun x178 =>
      ck (ix x152 8) <|
      nm (pD σ 67 x152.toNatClampNeg x178) fun σ180 =>
      some σ180)
    else (
      if (gI σ (v1 + 1) v2.toNatClampNeg) = 2 then (
        bp (c_X2_rateOf x156 σ) fun x186 =>
        ck (n64 (FP.dmul (FP.i2d v4) x186)) <|
        bp (f_X2_rounding (FP.dmul (FP.i2d v4) x186) (FP.dconst1) x160) fun x189 =>
        ck (ix x152 8) <|
        nm (pD σ 67 x152.toNatClampNeg x189) fun σ191 =>
        some σ191)
      else (
        if (gI σ (v1 + 1) v2.toNatClampNeg) = 3 then (
          ck (ix x156 8) <|
          bp (c_X2_rateOf x160 σ) fun x199 =>
          ck (n64 (FP.dmul (gD σ 67 x156.toNatClampNeg) x199)) <|
          ck (ix x152 8) <|
          nm (pD σ 67 x152.toNatClampNeg (FP.dmul (gD σ 67 x156.toNatClampNeg) x199)) fun σ202 =>
          some σ202)
        else (
          if (gI σ (v1 + 1) v2.toNatClampNeg) = 4 then (
            ck (ix x152 8) <|
            bp (f_X2_rounding (gD σ 67 x152.toNatClampNeg) (FP.i2d x160) x156) fun x210 =>
            ck (ix x152 8) <|
            nm (pD σ 67 x152.toNatClampNeg x210) fun σ212 =>
            some σ212)
          else (
            if (gI σ (v1 + 1) v2.toNatClampNeg) = 5 then (
              if x160 = 0 then (
                ck (ix x152 8) <|
                ck (ix x156 8) <|
                ck (n64 (FP.dadd (gD σ 67 x152.toNatClampNeg) (gD σ 67 x156.toNatClampNeg))) <|
                d_X2_step_224 n (FP.dadd (gD σ 67 x152.toNatClampNeg) (gD σ 67 x156.toNatClampNeg)) x152 67 σ)
              else (
                ck (ix x152 8) <|
                ck (ix x156 8) <|
                ck (n64 (FP.dsub (gD σ 67 x152.toNatClampNeg) (gD σ 67 x156.toNatClampNeg))) <|
                d_X2_step_224 n (FP.dsub (gD σ 67 x152.toNatClampNeg) (gD σ 67 x156.toNatClampNeg)) x152 67 σ))
            else (
              if (gI σ (v1 + 1) v2.toNatClampNeg) = 6 then (
                ck (ix x152 8) <|
                bp (f_X2_dividable (gD σ 67 x152.toNatClampNeg)) fun x238 =>
                ck (ix x160 4) <|
                ck (ix x160 4) <|
                bp (c_X7_divide n 63 x238 x156 (x160.toNatClampNeg + 9) (gI σ 13 x160.toNatClampNeg) σ) fun σ250 =>
                some σ250)
              else (
                if (gI σ (v1 + 1) v2.toNatClampNeg) = 7 then (
                  ck (ix x156 8) <|
                  ck (ix x152 8) <|
                  nm (pD σ 67 x152.toNatClampNeg (FP.l2d (gJ σ 64 x156.toNatClampNeg))) fun σ262 =>
                  some σ262)
                else (
                  if (gI σ (v1 + 1) v2.toNatClampNeg) = 8 then (
                    bp (c_X2_carry x152 σ) fun σ266 =>
                    some σ266)
                  else (
                    if (gI σ (v1 + 1) v2.toNatClampNeg) = 9 then (
                      if x156 = 0 then (
                        ck (ix x152 8) <|
                        if (Op.cmpValue (FP.dcmp (gD σ 67 x152.toNatClampNeg) (FP.i2d x160)) .l) ≤ 0 then (
                          some σ)
                        else (
                          d_X2_step_330 n x152 x160 σ))
                      else (
                        ck (ix x152 8) <|
                        if 0 ≤ (Op.cmpValue (FP.dcmp (gD σ 67 x152.toNatClampNeg) (FP.i2d x160)) .g) then (
                          some σ)
                        else (
                          d_X2_step_330 n x152 x160 σ)))
                    else (
                      if (gI σ (v1 + 1) v2.toNatClampNeg) = 10 then (
                        ck (ix x156 8) <|
                        if x160 = 0 then (
                          ck (ix x152 8) <|
                          d_X2_step_379 n (FP.d2l (gD σ 67 x152.toNatClampNeg)) (gJ σ 62 x156.toNatClampNeg) x156 62 σ)
                        else (
                          ck (ix x152 8) <|
                          d_X2_step_379 n (-(FP.d2l (gD σ 67 x152.toNatClampNeg))) (gJ σ 62 x156.toNatClampNeg) x156 62 σ))
                      else (
                        if (gI σ (v1 + 1) v2.toNatClampNeg) = 11 then (
                          ck (ix x156 8) <|
                          bp (f_X2_rounding (gD σ 67 x156.toNatClampNeg) (FP.dconst1) x160) fun x308 =>
                          ck (ix x152 8) <|
                          nm (pD σ 67 x152.toNatClampNeg x308) fun σ310 =>
                          some σ310)
                        else (
                          bp (c_X2_rateOf x156 σ) fun x312 =>
                          bp (c_X2_passDays n x152 x312 x160 σ) fun σ315 =>
                          some σ315))))))))))))
theorem k_f_X2_step {lo hi : Nat} {σ0 : Sg} {n : Nat} {v1 : Nat} {v2 : Int32} {v4 : Int32} {σ : Sg} (t : To lo hi σ0 σ) (w_v0 : lo ≤ 60 ∧ 68 ≤ hi) (h_v1 : O5 v1) : FR (fun q => To lo hi σ0 q) (f_X2_step n 60 v1 v2 5 v4 σ) (c_X2_step n v1 v2 v4 σ) := by
  unfold f_X2_step c_X2_step
  refine FR_ck (lo5 t.1 h_v1) ?_
  refine FR_ck (ln5_1 t.1 h_v1) ?_
  refine FR_nmR (w := (v1 + 2)) (lr5_1 t.1 h_v1) ?_
  refine FR_ckI (okA_iff t.1 (ar5_1 h_v1)) (fun q112 => ?_)
  refine FR_nm (fun x152 => ?_)
  refine FR_ck (ln5_2 t.1 h_v1) ?_
  refine FR_nmR (w := (v1 + 3)) (lr5_2 t.1 h_v1) ?_
  refine FR_ckI (okA_iff t.1 (ar5_2 h_v1)) (fun q114 => ?_)
  refine FR_nm (fun x156 => ?_)
  refine FR_ck (ln5_3 t.1 h_v1) ?_
  refine FR_nmR (w := (v1 + 4)) (lr5_3 t.1 h_v1) ?_
  refine FR_ckI (okA_iff t.1 (ar5_3 h_v1)) (fun q116 => ?_)
  refine FR_nm (fun x160 => ?_)
  refine FR_ck (ln5_0 t.1 h_v1) ?_
  refine FR_nmR (w := (v1 + 1)) (lr5_0 t.1 h_v1) ?_
  refine FR_ckI (okA_iff t.1 (ar5_0 h_v1)) (fun q118 => ?_)
  refine FR_it (fun _ => ?_) (fun _ => ?_)
  · refine FR_ck (lo2 t.1) ?_
    refine FR_ck (ln2_2 t.1) ?_
    refine FR_nmR (w := 67) (lr2_2 t.1) ?_
    refine FR_ckI (okW_iff t.1 (by decide : Ar 12 8 67)) (fun q121 => ?_)
    refine FR_nmS (To_pD t (by omega)) (fun σ169 t => ?_)
    exact FR_some t
  · refine FR_it (fun _ => ?_) (fun _ => ?_)
    · refine FR_ck (lo2 t.1) ?_
      refine FR_ck (ln2_2 t.1) ?_
      refine FR_nmR (w := 67) (lr2_2 t.1) ?_
      refine FR_bpP (k_f_X2_rateOf t).1 (fun x175 => ?_)
      refine FR_ckI Iff.rfl (fun q124 => ?_)
      refine FR_nmP (fun x178 => ?_)
      refine FR_ckI (okW_iff t.1 (by decide : Ar 12 8 67)) (fun q125 => ?_)
      refine FR_nmS (To_pD t (by omega)) (fun σ180 t => ?_)
      exact FR_some t
    · refine FR_it (fun _ => ?_) (fun _ => ?_)
      · refine FR_ck (lo2 t.1) ?_
        refine FR_ck (ln2_2 t.1) ?_
        refine FR_nmR (w := 67) (lr2_2 t.1) ?_
        refine FR_bpP (k_f_X2_rateOf t).1 (fun x186 => ?_)
        refine FR_ckI Iff.rfl (fun q128 => ?_)
        refine FR_nmP (fun x189 => ?_)
        refine FR_ckI (okW_iff t.1 (by decide : Ar 12 8 67)) (fun q129 => ?_)
        refine FR_nmS (To_pD t (by omega)) (fun σ191 t => ?_)
        exact FR_some t
      · refine FR_it (fun _ => ?_) (fun _ => ?_)
        · refine FR_ck (lo2 t.1) ?_
          refine FR_ck (ln2_2 t.1) ?_
          refine FR_nmR (w := 67) (lr2_2 t.1) ?_
          refine FR_nmR (w := 67) (lr2_2 t.1) ?_
          refine FR_ckI (okA_iff t.1 (by decide : Ar 12 8 67)) (fun q132 => ?_)
          refine FR_bpP (k_f_X2_rateOf t).1 (fun x199 => ?_)
          refine FR_ckI Iff.rfl (fun q133 => ?_)
          refine FR_ckI (okW_iff t.1 (by decide : Ar 12 8 67)) (fun q134 => ?_)
          refine FR_nmS (To_pD t (by omega)) (fun σ202 t => ?_)
          exact FR_some t
        · refine FR_it (fun _ => ?_) (fun _ => ?_)
          · refine FR_ck (lo2 t.1) ?_
            refine FR_ck (ln2_2 t.1) ?_
            refine FR_nmR (w := 67) (lr2_2 t.1) ?_
            refine FR_nmR (w := 67) (lr2_2 t.1) ?_
            refine FR_ckI (okA_iff t.1 (by decide : Ar 12 8 67)) (fun q137 => ?_)
            refine FR_nmP (fun x210 => ?_)
            refine FR_ckI (okW_iff t.1 (by decide : Ar 12 8 67)) (fun q138 => ?_)
            refine FR_nmS (To_pD t (by omega)) (fun σ212 t => ?_)
            exact FR_some t
          · refine FR_it (fun _ => ?_) (fun _ => ?_)
            · refine FR_ck (lo2 t.1) ?_
              refine FR_ck (ln2_2 t.1) ?_
              refine FR_nmR (w := 67) (lr2_2 t.1) ?_
              refine FR_it (fun _ => ?_) (fun _ => ?_)
              · refine FR_nmR (w := 67) (lr2_2 t.1) ?_
                refine FR_ckI (okA_iff t.1 (by decide : Ar 12 8 67)) (fun q141 => ?_)
                refine FR_nmR (w := 67) (lr2_2 t.1) ?_
                refine FR_ckI (okA_iff t.1 (by decide : Ar 12 8 67)) (fun q142 => ?_)
                refine FR_ckI Iff.rfl (fun q143 => ?_)
                exact k_b_X2_step_224 t (by decide) (by omega)
              · refine FR_nmR (w := 67) (lr2_2 t.1) ?_
                refine FR_ckI (okA_iff t.1 (by decide : Ar 12 8 67)) (fun q144 => ?_)
                refine FR_nmR (w := 67) (lr2_2 t.1) ?_
                refine FR_ckI (okA_iff t.1 (by decide : Ar 12 8 67)) (fun q145 => ?_)
                refine FR_ckI Iff.rfl (fun q146 => ?_)
                exact k_b_X2_step_224 t (by decide) (by omega)
            · refine FR_it (fun _ => ?_) (fun _ => ?_)
              · refine FR_ck (lo2 t.1) ?_
                refine FR_ck (ln2_1 t.1) ?_
                refine FR_nmR (w := 63) (lr2_1 t.1) ?_
                refine FR_ck (ln2_2 t.1) ?_
                refine FR_nmR (w := 67) (lr2_2 t.1) ?_
                refine FR_ckI (okA_iff t.1 (by decide : Ar 12 8 67)) (fun q150 => ?_)
                refine FR_nmP (fun x238 => ?_)
                refine FR_ck (lo7 t.1) ?_
                refine FR_ck (ln7_2 t.1) ?_
                refine FR_nmR (w := 8) (lr7_2 t.1) ?_
                refine FR_ckI (okA_iff t.1 (by decide : Ar 18 4 8)) (fun q153 => ?_)
                refine FR_ck (lne18 t.1 (ixl q153)) ?_
                have q155 := ixl q153
                refine FR_nmR (w := (x160.toNatClampNeg + 9)) (lre18 t.1 q155) ?_
                refine FR_ck (ln7_3 t.1) ?_
                refine FR_nmR (w := 13) (lr7_3 t.1) ?_
                refine FR_ckI (okA_iff t.1 (by decide : Ar 13 4 13)) (fun q157 => ?_)
                refine FR_ck (lo6 t.1 (by decide)) ?_
                refine FR_bp (k_f_X7_divide t (by decide) (by omega) (e18 q155)) (fun σ250 t => ?_)
                exact FR_some t
              · refine FR_it (fun _ => ?_) (fun _ => ?_)
                · refine FR_ck (lo2 t.1) ?_
                  refine FR_ck (ln2_2 t.1) ?_
                  refine FR_nmR (w := 67) (lr2_2 t.1) ?_
                  refine FR_ck (ln2_1 t.1) ?_
                  refine FR_nmR (w := 63) (lr2_1 t.1) ?_
                  refine FR_ck (lo6 t.1 (by decide)) ?_
                  refine FR_ck (ln6_0 t.1 (by decide)) ?_
                  refine FR_nmR (w := 64) (lr6_0 t.1 (by decide)) ?_
                  refine FR_ckI (okA_iff t.1 (by decide : Ar 14 8 64)) (fun q164 => ?_)
                  refine FR_ckI (okW_iff t.1 (by decide : Ar 12 8 67)) (fun q165 => ?_)
                  refine FR_nmS (To_pD t (by omega)) (fun σ262 t => ?_)
                  exact FR_some t
                · refine FR_it (fun _ => ?_) (fun _ => ?_)
                  · refine FR_ck (lo2 t.1) ?_
                    refine FR_bp (k_f_X2_carry t (by omega)) (fun σ266 t => ?_)
                    exact FR_some t
                  · refine FR_it (fun _ => ?_) (fun _ => ?_)
                    · refine FR_it (fun _ => ?_) (fun _ => ?_)
                      · refine FR_ck (lo2 t.1) ?_
                        refine FR_ck (ln2_2 t.1) ?_
                        refine FR_nmR (w := 67) (lr2_2 t.1) ?_
                        refine FR_ckI (okA_iff t.1 (by decide : Ar 12 8 67)) (fun q169 => ?_)
                        refine FR_it (fun _ => ?_) (fun _ => ?_)
                        · exact FR_some t
                        · exact k_b_X2_step_330 t (by omega)
                      · refine FR_ck (lo2 t.1) ?_
                        refine FR_ck (ln2_2 t.1) ?_
                        refine FR_nmR (w := 67) (lr2_2 t.1) ?_
                        refine FR_ckI (okA_iff t.1 (by decide : Ar 12 8 67)) (fun q172 => ?_)
                        refine FR_it (fun _ => ?_) (fun _ => ?_)
                        · exact FR_some t
                        · exact k_b_X2_step_330 t (by omega)
                    · refine FR_it (fun _ => ?_) (fun _ => ?_)
                      · refine FR_ck (lo2 t.1) ?_
                        refine FR_ck (ln2_0 t.1) ?_
                        refine FR_nmR (w := 61) (lr2_0 t.1) ?_
                        refine FR_ck (lo3 t.1 (by decide)) ?_
                        refine FR_ck (ln3_0 t.1 (by decide)) ?_
                        refine FR_nmR (w := 62) (lr3_0 t.1 (by decide)) ?_
                        refine FR_ckI (okA_iff t.1 (by decide : Ar 14 8 62)) (fun q177 => ?_)
                        refine FR_it (fun _ => ?_) (fun _ => ?_)
                        · refine FR_ck (ln2_2 t.1) ?_
                          refine FR_nmR (w := 67) (lr2_2 t.1) ?_
                          refine FR_ckI (okA_iff t.1 (by decide : Ar 12 8 67)) (fun q179 => ?_)
                          exact k_b_X2_step_379 t (by decide) (by omega)
                        · refine FR_ck (ln2_2 t.1) ?_
                          refine FR_nmR (w := 67) (lr2_2 t.1) ?_
                          refine FR_ckI (okA_iff t.1 (by decide : Ar 12 8 67)) (fun q181 => ?_)
                          exact k_b_X2_step_379 t (by decide) (by omega)
                      · refine FR_it (fun _ => ?_) (fun _ => ?_)
                        · refine FR_ck (lo2 t.1) ?_
                          refine FR_ck (ln2_2 t.1) ?_
                          refine FR_nmR (w := 67) (lr2_2 t.1) ?_
                          refine FR_nmR (w := 67) (lr2_2 t.1) ?_
                          refine FR_ckI (okA_iff t.1 (by decide : Ar 12 8 67)) (fun q184 => ?_)
                          refine FR_nmP (fun x308 => ?_)
                          refine FR_ckI (okW_iff t.1 (by decide : Ar 12 8 67)) (fun q185 => ?_)
                          refine FR_nmS (To_pD t (by omega)) (fun σ310 t => ?_)
                          exact FR_some t
                        · refine FR_bpP (k_f_X2_rateOf t).1 (fun x312 => ?_)
                          refine FR_ck (lo2 t.1) ?_
                          refine FR_bp (k_f_X2_passDays t (by omega)) (fun σ315 t => ?_)
                          exact FR_some t
def d_X2_perform_46 : Nat → Nat → Int32 → Int32 → Sg → Option Sg
  | 0, _, _, _, _ => none
  | n + 1, v1, v3, v4, σ =>
  if (gI σ v1 4) ≤ v4 then (
    some σ)
  else (
    bp (c_X2_step n v1 v4 v3 σ) fun σ60 =>
    ck (ix v4 20) <|
    ck (ix v4 20) <|
    ck (ix (gI σ60 (v1 + 2) v4.toNatClampNeg) 8) <|
    bp (f_X2_within (gD σ60 67 (gI σ60 (v1 + 2) v4.toNatClampNeg).toNatClampNeg)) fun x73 =>
    ck (ix (gI σ60 (v1 + 2) v4.toNatClampNeg) 8) <|
    nm (pD σ60 67 (gI σ60 (v1 + 2) v4.toNatClampNeg).toNatClampNeg x73) fun σ75 =>
    nm (v4 + (1 : Int32)) fun x76 =>
    d_X2_perform_46 n v1 v3 x76 σ75)
theorem k_b_X2_perform_46 {lo hi : Nat} {σ0 : Sg} : ∀ {n : Nat} {v1 : Nat} {v3 : Int32} {v4 : Int32} {σ : Sg}, To lo hi σ0 σ → lo ≤ 60 ∧ 68 ≤ hi → O5 v1 → FR (fun q => To lo hi σ0 q) (b_X2_perform_46 n 60 v1 5 v3 v4 σ) (d_X2_perform_46 n v1 v3 v4 σ) := by
  intro n
  induction n with
  | zero => intro v1 v3 v4 σ t w_v0 h_v1; exact FR_none
  | succ n ih =>
    intro v1 v3 v4 σ t w_v0 h_v1
    unfold b_X2_perform_46 d_X2_perform_46
    refine FR_ck (lo5 t.1 h_v1) ?_
    refine FR_it (fun _ => ?_) (fun _ => ?_)
    · exact FR_some t
    · refine FR_ck (lo2 t.1) ?_
      refine FR_bp (k_f_X2_step t (by omega) h_v1) (fun σ60 t => ?_)
      refine FR_ck (lo2 t.1) ?_
      refine FR_ck (ln2_2 t.1) ?_
      refine FR_nmR (w := 67) (lr2_2 t.1) ?_
      refine FR_ck (lo5 t.1 h_v1) ?_
      refine FR_ck (ln5_1 t.1 h_v1) ?_
      refine FR_nmR (w := (v1 + 2)) (lr5_1 t.1 h_v1) ?_
      refine FR_ckI (okA_iff t.1 (ar5_1 h_v1)) (fun q193 => ?_)
      refine FR_nmR (w := 67) (lr2_2 t.1) ?_
      refine FR_nmR (w := (v1 + 2)) (lr5_1 t.1 h_v1) ?_
      refine FR_ckI (okA_iff t.1 (ar5_1 h_v1)) (fun q194 => ?_)
      refine FR_ckI (okA_iff t.1 (by decide : Ar 12 8 67)) (fun q195 => ?_)
      refine FR_nmP (fun x73 => ?_)
      refine FR_ckI (okW_iff t.1 (by decide : Ar 12 8 67)) (fun q196 => ?_)
      refine FR_nmS (To_pD t (by omega)) (fun σ75 t => ?_)
      refine FR_nm (fun x76 => ?_)
      exact ih t (by omega) h_v1
def d_X2_perform_43 (n : Nat) (v1 : Nat) (v3 : Int32) (σ : Sg) : Option Sg :=
  d_X2_perform_46 n v1 v3 (0 : Int32) σ
theorem k_b_X2_perform_43 {lo hi : Nat} {σ0 : Sg} {n : Nat} {v1 : Nat} {v3 : Int32} {σ : Sg} (t : To lo hi σ0 σ) (w_v0 : lo ≤ 60 ∧ 68 ≤ hi) (h_v1 : O5 v1) : FR (fun q => To lo hi σ0 q) (b_X2_perform_43 n 60 v1 5 v3 σ) (d_X2_perform_43 n v1 v3 σ) := by
  unfold b_X2_perform_43 d_X2_perform_43
  exact k_b_X2_perform_46 t (by omega) h_v1
def d_X2_perform_22 : Nat → Nat → Int32 → Int32 → Sg → Option Sg
  | 0, _, _, _, _ => none
  | n + 1, v1, v3, v4, σ =>
  if (8 : Int32) ≤ v4 then (
    d_X2_perform_43 n v1 v3 σ)
  else (
    ck (ix v4 8) <|
    nm (pD σ 67 v4.toNatClampNeg (FP.dconst0)) fun σ81 =>
    nm (v4 + (1 : Int32)) fun x82 =>
    d_X2_perform_22 n v1 v3 x82 σ81)
theorem k_b_X2_perform_22 {lo hi : Nat} {σ0 : Sg} : ∀ {n : Nat} {v1 : Nat} {v3 : Int32} {v4 : Int32} {σ : Sg}, To lo hi σ0 σ → lo ≤ 60 ∧ 68 ≤ hi → O5 v1 → FR (fun q => To lo hi σ0 q) (b_X2_perform_22 n 60 v1 5 v3 v4 σ) (d_X2_perform_22 n v1 v3 v4 σ) := by
  intro n
  induction n with
  | zero => intro v1 v3 v4 σ t w_v0 h_v1; exact FR_none
  | succ n ih =>
    intro v1 v3 v4 σ t w_v0 h_v1
    unfold b_X2_perform_22 d_X2_perform_22
    refine FR_it (fun _ => ?_) (fun _ => ?_)
    · exact k_b_X2_perform_43 t (by omega) h_v1
    · refine FR_ck (lo2 t.1) ?_
      refine FR_ck (ln2_2 t.1) ?_
      refine FR_nmR (w := 67) (lr2_2 t.1) ?_
      refine FR_ckI (okW_iff t.1 (by decide : Ar 12 8 67)) (fun q199 => ?_)
      refine FR_nmS (To_pD t (by omega)) (fun σ81 t => ?_)
      refine FR_nm (fun x82 => ?_)
      exact ih t (by omega) h_v1
def c_X2_perform (n : Nat) (v1 : Nat) (v3 : Int32) (σ : Sg) : Option Sg :=
  bp (c_X4_reset n 61 σ) fun σ46 =>
  bp (c_X7_wipe n 63 σ46) fun σ52 =>
  nm (pD σ52 60 3 (FP.dconst0)) fun σ54 =>
  d_X2_perform_22 n v1 v3 (0 : Int32) σ54
theorem k_f_X2_perform {lo hi : Nat} {σ0 : Sg} {n : Nat} {v1 : Nat} {v3 : Int32} {σ : Sg} (t : To lo hi σ0 σ) (w_v0 : lo ≤ 60 ∧ 68 ≤ hi) (h_v1 : O5 v1) : FR (fun q => To lo hi σ0 q) (f_X2_perform n 60 v1 5 v3 σ) (c_X2_perform n v1 v3 σ) := by
  unfold f_X2_perform c_X2_perform
  refine FR_ck (lo2 t.1) ?_
  refine FR_ck (ln2_0 t.1) ?_
  refine FR_nmR (w := 61) (lr2_0 t.1) ?_
  refine FR_ck (lo3 t.1 (by decide)) ?_
  refine FR_bp (k_f_X4_reset t (by decide) (by omega)) (fun σ46 t => ?_)
  refine FR_ck (lo2 t.1) ?_
  refine FR_ck (ln2_1 t.1) ?_
  refine FR_nmR (w := 63) (lr2_1 t.1) ?_
  refine FR_ck (lo6 t.1 (by decide)) ?_
  refine FR_bp (k_f_X7_wipe t (by decide) (by omega)) (fun σ52 t => ?_)
  refine FR_ck (lo2 t.1) ?_
  refine FR_nmS (To_pD t (by omega)) (fun σ54 t => ?_)
  exact k_b_X2_perform_22 t (by omega) h_v1
def d_X4_become_26 (n : Nat) (v0 : Nat) (v1 : Nat) (σ : Sg) : Option Sg :=
  nm (pI σ v0 1 (gI σ v1 1)) fun σ17 =>
  some σ17
theorem k_b_X4_become_26 {lo hi : Nat} {σ0 : Sg} {n : Nat} {v0 : Nat} {v1 : Nat} {σ : Sg} (t : To lo hi σ0 σ) (h_v0 : O3 v0) (w_v0 : lo ≤ v0 ∧ v0 + 2 ≤ hi) (h_v1 : O3 v1) : FR (fun q => To lo hi σ0 q) (b_X4_become_26 n v0 v1 σ) (d_X4_become_26 n v0 v1 σ) := by
  unfold b_X4_become_26 d_X4_become_26
  refine FR_ck (lo3 t.1 h_v1) ?_
  refine FR_ck (lo3 t.1 h_v0) ?_
  refine FR_nmS (To_pI t (by omega)) (fun σ17 t => ?_)
  exact FR_some t
def d_X4_become_2 : Nat → Nat → Nat → Int32 → Sg → Option Sg
  | 0, _, _, _, _ => none
  | n + 1, v0, v1, v2, σ =>
  if (8 : Int32) ≤ v2 then (
    d_X4_become_26 n v0 v1 σ)
  else (
    ck (ix v2 8) <|
    ck (ix v2 8) <|
    nm (pJ σ (v0 + 1) v2.toNatClampNeg (gJ σ (v1 + 1) v2.toNatClampNeg)) fun σ26 =>
    nm (v2 + (1 : Int32)) fun x27 =>
    d_X4_become_2 n v0 v1 x27 σ26)
theorem k_b_X4_become_2 {lo hi : Nat} {σ0 : Sg} : ∀ {n : Nat} {v0 : Nat} {v1 : Nat} {v2 : Int32} {σ : Sg}, To lo hi σ0 σ → O3 v0 → lo ≤ v0 ∧ v0 + 2 ≤ hi → O3 v1 → FR (fun q => To lo hi σ0 q) (b_X4_become_2 n v0 v1 v2 σ) (d_X4_become_2 n v0 v1 v2 σ) := by
  intro n
  induction n with
  | zero => intro v0 v1 v2 σ t h_v0 w_v0 h_v1; exact FR_none
  | succ n ih =>
    intro v0 v1 v2 σ t h_v0 w_v0 h_v1
    unfold b_X4_become_2 d_X4_become_2
    refine FR_it (fun _ => ?_) (fun _ => ?_)
    · exact k_b_X4_become_26 t h_v0 (by omega) h_v1
    · refine FR_ck (lo3 t.1 h_v0) ?_
      refine FR_ck (ln3_0 t.1 h_v0) ?_
      refine FR_nmR (w := (v0 + 1)) (lr3_0 t.1 h_v0) ?_
      refine FR_ck (lo3 t.1 h_v1) ?_
      refine FR_ck (ln3_0 t.1 h_v1) ?_
      refine FR_nmR (w := (v1 + 1)) (lr3_0 t.1 h_v1) ?_
      refine FR_ckI (okA_iff t.1 (ar3_0 h_v1)) (fun q213 => ?_)
      refine FR_ckI (okW_iff t.1 (ar3_0 h_v0)) (fun q214 => ?_)
      refine FR_nmS (To_pJ t (by omega)) (fun σ26 t => ?_)
      refine FR_nm (fun x27 => ?_)
      exact ih t h_v0 (by omega) h_v1
def c_X4_become (n : Nat) (v0 : Nat) (v1 : Nat) (σ : Sg) : Option Sg :=
  d_X4_become_2 n v0 v1 (0 : Int32) σ
theorem k_f_X4_become {lo hi : Nat} {σ0 : Sg} {n : Nat} {v0 : Nat} {v1 : Nat} {σ : Sg} (t : To lo hi σ0 σ) (h_v0 : O3 v0) (w_v0 : lo ≤ v0 ∧ v0 + 2 ≤ hi) (h_v1 : O3 v1) : FR (fun q => To lo hi σ0 q) (f_X4_become n v0 v1 σ) (c_X4_become n v0 v1 σ) := by
  unfold f_X4_become c_X4_become
  exact k_b_X4_become_2 t h_v0 (by omega) h_v1
def d_X4_total_4 : Nat → Nat → Int64 → Int32 → Sg → Option Int64
  | 0, _, _, _, _ => none
  | n + 1, v0, v1, v3, σ =>
  if (8 : Int32) ≤ v3 then (
    some v1)
  else (
    ck (ix v3 8) <|
    nm (v1 + (gJ σ (v0 + 1) v3.toNatClampNeg)) fun x12 =>
    nm (v3 + (1 : Int32)) fun x13 =>
    d_X4_total_4 n v0 x12 x13 σ)
theorem k_b_X4_total_4 {lo hi : Nat} {σ0 : Sg} : ∀ {n : Nat} {v0 : Nat} {v1 : Int64} {v3 : Int32} {σ : Sg}, To lo hi σ0 σ → O3 v0 → FR (fun _ => True) (b_X4_total_4 n v0 v1 v3 σ) (d_X4_total_4 n v0 v1 v3 σ) := by
  intro n
  induction n with
  | zero => intro v0 v1 v3 σ t h_v0; exact FR_none
  | succ n ih =>
    intro v0 v1 v3 σ t h_v0
    unfold b_X4_total_4 d_X4_total_4
    refine FR_it (fun _ => ?_) (fun _ => ?_)
    · exact FR_some trivial
    · refine FR_ck (lo3 t.1 h_v0) ?_
      refine FR_ck (ln3_0 t.1 h_v0) ?_
      refine FR_nmR (w := (v0 + 1)) (lr3_0 t.1 h_v0) ?_
      refine FR_ckI (okA_iff t.1 (ar3_0 h_v0)) (fun q217 => ?_)
      refine FR_nm (fun x12 => ?_)
      refine FR_nm (fun x13 => ?_)
      exact ih t h_v0
def c_X4_total (n : Nat) (v0 : Nat) (σ : Sg) : Option Int64 :=
  d_X4_total_4 n v0 (0 : Int64) (0 : Int32) σ
theorem k_f_X4_total {lo hi : Nat} {σ0 : Sg} {n : Nat} {v0 : Nat} {σ : Sg} (t : To lo hi σ0 σ) (h_v0 : O3 v0) : FR (fun _ => True) (f_X4_total n v0 σ) (c_X4_total n v0 σ) := by
  unfold f_X4_total c_X4_total
  exact k_b_X4_total_4 t h_v0
def d_X4_matches_2 : Nat → Nat → Nat → Int32 → Int32 → Sg → Option Int32
  | 0, _, _, _, _, _ => none
  | n + 1, v0, v1, v2, v3, σ =>
  if (8 : Int32) ≤ v3 then (
    some (1 : Int32))
  else (
    ck (ix v3 8) <|
    ck (ix v3 8) <|
    if (gJ σ (v0 + 1) v3.toNatClampNeg) = ((v2.toInt64) * (gJ σ (v1 + 1) v3.toNatClampNeg)) then (
      nm (v3 + (1 : Int32)) fun x20 =>
      d_X4_matches_2 n v0 v1 v2 x20 σ)
    else (
      some (0 : Int32)))
theorem k_b_X4_matches_2 {lo hi : Nat} {σ0 : Sg} : ∀ {n : Nat} {v0 : Nat} {v1 : Nat} {v2 : Int32} {v3 : Int32} {σ : Sg}, To lo hi σ0 σ → O3 v0 → O3 v1 → FR (fun _ => True) (b_X4_matches_2 n v0 v1 v2 v3 σ) (d_X4_matches_2 n v0 v1 v2 v3 σ) := by
  intro n
  induction n with
  | zero => intro v0 v1 v2 v3 σ t h_v0 h_v1; exact FR_none
  | succ n ih =>
    intro v0 v1 v2 v3 σ t h_v0 h_v1
    unfold b_X4_matches_2 d_X4_matches_2
    refine FR_it (fun _ => ?_) (fun _ => ?_)
    · exact FR_some trivial
    · refine FR_ck (lo3 t.1 h_v0) ?_
      refine FR_ck (ln3_0 t.1 h_v0) ?_
      refine FR_nmR (w := (v0 + 1)) (lr3_0 t.1 h_v0) ?_
      refine FR_ckI (okA_iff t.1 (ar3_0 h_v0)) (fun q220 => ?_)
      refine FR_ck (lo3 t.1 h_v1) ?_
      refine FR_ck (ln3_0 t.1 h_v1) ?_
      refine FR_nmR (w := (v1 + 1)) (lr3_0 t.1 h_v1) ?_
      refine FR_ckI (okA_iff t.1 (ar3_0 h_v1)) (fun q223 => ?_)
      refine FR_it (fun _ => ?_) (fun _ => ?_)
      · refine FR_nm (fun x20 => ?_)
        exact ih t h_v0 h_v1
      · exact FR_some trivial
def c_X4_matches (n : Nat) (v0 : Nat) (v1 : Nat) (v2 : Int32) (σ : Sg) : Option Int32 :=
  d_X4_matches_2 n v0 v1 v2 (0 : Int32) σ
theorem k_f_X4_matches {lo hi : Nat} {σ0 : Sg} {n : Nat} {v0 : Nat} {v1 : Nat} {v2 : Int32} {σ : Sg} (t : To lo hi σ0 σ) (h_v0 : O3 v0) (h_v1 : O3 v1) : FR (fun _ => True) (f_X4_matches n v0 v1 v2 σ) (c_X4_matches n v0 v1 v2 σ) := by
  unfold f_X4_matches c_X4_matches
  exact k_b_X4_matches_2 t h_v0 h_v1
def d_X5_wipe_56 (n : Nat) (v0 : Nat) (σ : Sg) : Option Sg :=
  bp (c_X7_wipe n (v0 + 5) σ) fun σ40 =>
  nm (pI σ40 v0 10 (0 : Int32)) fun σ42 =>
  nm (pI σ42 v0 9 (-2 : Int32)) fun σ44 =>
  some σ44
theorem k_b_X5_wipe_56 {lo hi : Nat} {σ0 : Sg} {n : Nat} {v0 : Nat} {σ : Sg} (t : To lo hi σ0 σ) (h_v0 : O4 v0) (w_v0 : lo ≤ v0 ∧ v0 + 13 ≤ hi) : FR (fun q => To lo hi σ0 q) (b_X5_wipe_56 n v0 σ) (d_X5_wipe_56 n v0 σ) := by
  unfold b_X5_wipe_56 d_X5_wipe_56
  refine FR_ck (lo4 t.1 h_v0) ?_
  refine FR_ck (ln4_2 t.1 h_v0) ?_
  refine FR_nmR (w := (v0 + 5)) (lr4_2 t.1 h_v0) ?_
  refine FR_ck (lo6 t.1 (o4_2 h_v0)) ?_
  refine FR_bp (k_f_X7_wipe t (o4_2 h_v0) (by omega)) (fun σ40 t => ?_)
  refine FR_ck (lo4 t.1 h_v0) ?_
  refine FR_nmS (To_pI t (by omega)) (fun σ42 t => ?_)
  refine FR_ck (lo4 t.1 h_v0) ?_
  refine FR_nmS (To_pI t (by omega)) (fun σ44 t => ?_)
  exact FR_some t
def d_X5_wipe_37 : Nat → Nat → Int32 → Sg → Option Sg
  | 0, _, _, _ => none
  | n + 1, v0, v1, σ =>
  if (12 : Int32) ≤ v1 then (
    d_X5_wipe_56 n v0 σ)
  else (
    ck (ix v1 12) <|
    nm (pJ σ (v0 + 12) v1.toNatClampNeg (0 : Int64)) fun σ49 =>
    nm (v1 + (1 : Int32)) fun x50 =>
    d_X5_wipe_37 n v0 x50 σ49)
theorem k_b_X5_wipe_37 {lo hi : Nat} {σ0 : Sg} : ∀ {n : Nat} {v0 : Nat} {v1 : Int32} {σ : Sg}, To lo hi σ0 σ → O4 v0 → lo ≤ v0 ∧ v0 + 13 ≤ hi → FR (fun q => To lo hi σ0 q) (b_X5_wipe_37 n v0 v1 σ) (d_X5_wipe_37 n v0 v1 σ) := by
  intro n
  induction n with
  | zero => intro v0 v1 σ t h_v0 w_v0; exact FR_none
  | succ n ih =>
    intro v0 v1 σ t h_v0 w_v0
    unfold b_X5_wipe_37 d_X5_wipe_37
    refine FR_it (fun _ => ?_) (fun _ => ?_)
    · exact k_b_X5_wipe_56 t h_v0 (by omega)
    · refine FR_ck (lo4 t.1 h_v0) ?_
      refine FR_ck (ln4_6 t.1 h_v0) ?_
      refine FR_nmR (w := (v0 + 12)) (lr4_6 t.1 h_v0) ?_
      refine FR_ckI (okW_iff t.1 (ar4_6 h_v0)) (fun q231 => ?_)
      refine FR_nmS (To_pJ t (by omega)) (fun σ49 t => ?_)
      refine FR_nm (fun x50 => ?_)
      exact ih t h_v0 (by omega)
def d_X5_wipe_35 (n : Nat) (v0 : Nat) (σ : Sg) : Option Sg :=
  d_X5_wipe_37 n v0 (0 : Int32) σ
theorem k_b_X5_wipe_35 {lo hi : Nat} {σ0 : Sg} {n : Nat} {v0 : Nat} {σ : Sg} (t : To lo hi σ0 σ) (h_v0 : O4 v0) (w_v0 : lo ≤ v0 ∧ v0 + 13 ≤ hi) : FR (fun q => To lo hi σ0 q) (b_X5_wipe_35 n v0 σ) (d_X5_wipe_35 n v0 σ) := by
  unfold b_X5_wipe_35 d_X5_wipe_35
  exact k_b_X5_wipe_37 t h_v0 (by omega)
def d_X5_wipe_2 : Nat → Nat → Int32 → Sg → Option Sg
  | 0, _, _, _ => none
  | n + 1, v0, v1, σ =>
  if (8 : Int32) ≤ v1 then (
    d_X5_wipe_35 n v0 σ)
  else (
    ck (ix v1 8) <|
    nm (pJ σ (v0 + 9) v1.toNatClampNeg (0 : Int64)) fun σ55 =>
    ck (ix v1 8) <|
    nm (pJ σ55 (v0 + 10) v1.toNatClampNeg (1 : Int64)) fun σ60 =>
    ck (ix v1 8) <|
    nm (pI σ60 (v0 + 11) v1.toNatClampNeg (0 : Int32)) fun σ65 =>
    nm (v1 + (1 : Int32)) fun x66 =>
    d_X5_wipe_2 n v0 x66 σ65)
theorem k_b_X5_wipe_2 {lo hi : Nat} {σ0 : Sg} : ∀ {n : Nat} {v0 : Nat} {v1 : Int32} {σ : Sg}, To lo hi σ0 σ → O4 v0 → lo ≤ v0 ∧ v0 + 13 ≤ hi → FR (fun q => To lo hi σ0 q) (b_X5_wipe_2 n v0 v1 σ) (d_X5_wipe_2 n v0 v1 σ) := by
  intro n
  induction n with
  | zero => intro v0 v1 σ t h_v0 w_v0; exact FR_none
  | succ n ih =>
    intro v0 v1 σ t h_v0 w_v0
    unfold b_X5_wipe_2 d_X5_wipe_2
    refine FR_it (fun _ => ?_) (fun _ => ?_)
    · exact k_b_X5_wipe_35 t h_v0 (by omega)
    · refine FR_ck (lo4 t.1 h_v0) ?_
      refine FR_ck (ln4_3 t.1 h_v0) ?_
      refine FR_nmR (w := (v0 + 9)) (lr4_3 t.1 h_v0) ?_
      refine FR_ckI (okW_iff t.1 (ar4_3 h_v0)) (fun q234 => ?_)
      refine FR_nmS (To_pJ t (by omega)) (fun σ55 t => ?_)
      refine FR_ck (lo4 t.1 h_v0) ?_
      refine FR_ck (ln4_4 t.1 h_v0) ?_
      refine FR_nmR (w := (v0 + 10)) (lr4_4 t.1 h_v0) ?_
      refine FR_ckI (okW_iff t.1 (ar4_4 h_v0)) (fun q237 => ?_)
      refine FR_nmS (To_pJ t (by omega)) (fun σ60 t => ?_)
      refine FR_ck (lo4 t.1 h_v0) ?_
      refine FR_ck (ln4_5 t.1 h_v0) ?_
      refine FR_nmR (w := (v0 + 11)) (lr4_5 t.1 h_v0) ?_
      refine FR_ckI (okW_iff t.1 (ar4_5 h_v0)) (fun q240 => ?_)
      refine FR_nmS (To_pI t (by omega)) (fun σ65 t => ?_)
      refine FR_nm (fun x66 => ?_)
      exact ih t h_v0 (by omega)
def c_X5_wipe (n : Nat) (v0 : Nat) (σ : Sg) : Option Sg :=
  d_X5_wipe_2 n v0 (0 : Int32) σ
theorem k_f_X5_wipe {lo hi : Nat} {σ0 : Sg} {n : Nat} {v0 : Nat} {σ : Sg} (t : To lo hi σ0 σ) (h_v0 : O4 v0) (w_v0 : lo ≤ v0 ∧ v0 + 13 ≤ hi) : FR (fun q => To lo hi σ0 q) (f_X5_wipe n v0 σ) (c_X5_wipe n v0 σ) := by
  unfold f_X5_wipe c_X5_wipe
  exact k_b_X5_wipe_2 t h_v0 (by omega)
def c_X5_startAfresh (n : Nat) (v0 : Nat) (σ : Sg) : Option Sg :=
  bp (c_X4_reset n (v0 + 3) σ) fun σ16 =>
  nm (pJ σ16 v0 7 (0 : Int64)) fun σ18 =>
  nm (pJ σ18 v0 8 (1 : Int64)) fun σ20 =>
  some σ20
theorem k_f_X5_startAfresh {lo hi : Nat} {σ0 : Sg} {n : Nat} {v0 : Nat} {σ : Sg} (t : To lo hi σ0 σ) (h_v0 : O4 v0) (w_v0 : lo ≤ v0 ∧ v0 + 13 ≤ hi) : FR (fun q => To lo hi σ0 q) (f_X5_startAfresh n v0 σ) (c_X5_startAfresh n v0 σ) := by
  unfold f_X5_startAfresh c_X5_startAfresh
  refine FR_ck (lo4 t.1 h_v0) ?_
  refine FR_ck (ln4_1 t.1 h_v0) ?_
  refine FR_nmR (w := (v0 + 3)) (lr4_1 t.1 h_v0) ?_
  refine FR_ck (lo3 t.1 (o4_1 h_v0)) ?_
  refine FR_bp (k_f_X4_reset t (o4_1 h_v0) (by omega)) (fun σ16 t => ?_)
  refine FR_ck (lo4 t.1 h_v0) ?_
  refine FR_nmS (To_pJ t (by omega)) (fun σ18 t => ?_)
  refine FR_ck (lo4 t.1 h_v0) ?_
  refine FR_nmS (To_pJ t (by omega)) (fun σ20 t => ?_)
  exact FR_some t
def d_X5_sumOfLines_4 : Nat → Nat → Int64 → Int32 → Sg → Option Int64
  | 0, _, _, _, _ => none
  | n + 1, v0, v1, v3, σ =>
  if (gI σ (v0 + 1) 1) ≤ v3 then (
    some v1)
  else (
    ck (ix v3 12) <|
    nm (v1 + ((gI σ (v0 + 2) v3.toNatClampNeg).toInt64)) fun x24 =>
    nm (v3 + (1 : Int32)) fun x25 =>
    d_X5_sumOfLines_4 n v0 x24 x25 σ)
theorem k_b_X5_sumOfLines_4 {lo hi : Nat} {σ0 : Sg} : ∀ {n : Nat} {v0 : Nat} {v1 : Int64} {v3 : Int32} {σ : Sg}, To lo hi σ0 σ → O4 v0 → FR (fun _ => True) (b_X5_sumOfLines_4 n v0 v1 v3 σ) (d_X5_sumOfLines_4 n v0 v1 v3 σ) := by
  intro n
  induction n with
  | zero => intro v0 v1 v3 σ t h_v0; exact FR_none
  | succ n ih =>
    intro v0 v1 v3 σ t h_v0
    unfold b_X5_sumOfLines_4 d_X5_sumOfLines_4
    refine FR_ck (lo4 t.1 h_v0) ?_
    refine FR_ck (ln4_0 t.1 h_v0) ?_
    refine FR_nmR (w := (v0 + 1)) (lr4_0 t.1 h_v0) ?_
    refine FR_ck (lo0 t.1 (o4_0 h_v0)) ?_
    refine FR_it (fun _ => ?_) (fun _ => ?_)
    · exact FR_some trivial
    · refine FR_nmR (w := (v0 + 1)) (lr4_0 t.1 h_v0) ?_
      refine FR_ck (lo0 t.1 (o4_0 h_v0)) ?_
      refine FR_ck (ln0_0 t.1 (o4_0 h_v0)) ?_
      refine FR_nmR (w := (v0 + 2)) (lr0_0 t.1 (o4_0 h_v0)) ?_
      refine FR_ckI (okA_iff t.1 (ar0_0 (o4_0 h_v0))) (fun q251 => ?_)
      refine FR_nm (fun x24 => ?_)
      refine FR_nm (fun x25 => ?_)
      exact ih t h_v0
def c_X5_sumOfLines (n : Nat) (v0 : Nat) (σ : Sg) : Option Int64 :=
  d_X5_sumOfLines_4 n v0 (0 : Int64) (0 : Int32) σ
theorem k_f_X5_sumOfLines {lo hi : Nat} {σ0 : Sg} {n : Nat} {v0 : Nat} {σ : Sg} (t : To lo hi σ0 σ) (h_v0 : O4 v0) : FR (fun _ => True) (f_X5_sumOfLines n v0 σ) (c_X5_sumOfLines n v0 σ) := by
  unfold f_X5_sumOfLines c_X5_sumOfLines
  exact k_b_X5_sumOfLines_4 t h_v0
def c_X5_becomeWhole (v0 : Nat) (v1 : Int32) (v2 : Int64) (v4 : Int32) (σ : Sg) : Option (Int32 × Sg) :=
  bp (f_X3_isSpent v2 (1 : Int64)) fun x20 =>
  if x20 = 0 then (
    ck (ix v1 8) <|
    nm (pJ σ (v0 + 9) v1.toNatClampNeg v2) fun σ26 =>
    ck (ix v1 8) <|
    nm (pJ σ26 (v0 + 10) v1.toNatClampNeg (1 : Int64)) fun σ31 =>
    ck (v4 = 0 ∨ v4 = 1) <|
    ck (ix v1 8) <|
    nm (pI σ31 (v0 + 11) v1.toNatClampNeg v4) fun σ37 =>
    some ((0 : Int32), σ37))
  else (
    some ((-6 : Int32), σ))
theorem k_f_X5_becomeWhole {lo hi : Nat} {σ0 : Sg} {v0 : Nat} {v1 : Int32} {v2 : Int64} {v4 : Int32} {σ : Sg} (t : To lo hi σ0 σ) (h_v0 : O4 v0) (w_v0 : lo ≤ v0 ∧ v0 + 13 ≤ hi) : FR (fun q => To lo hi σ0 q.2) (f_X5_becomeWhole v0 v1 v2 v4 σ) (c_X5_becomeWhole v0 v1 v2 v4 σ) := by
  unfold f_X5_becomeWhole c_X5_becomeWhole
  refine FR_nmP (fun x20 => ?_)
  refine FR_it (fun _ => ?_) (fun _ => ?_)
  · refine FR_ck (lo4 t.1 h_v0) ?_
    refine FR_ck (ln4_3 t.1 h_v0) ?_
    refine FR_nmR (w := (v0 + 9)) (lr4_3 t.1 h_v0) ?_
    refine FR_ckI (okW_iff t.1 (ar4_3 h_v0)) (fun q254 => ?_)
    refine FR_nmS (To_pJ t (by omega)) (fun σ26 t => ?_)
    refine FR_ck (lo4 t.1 h_v0) ?_
    refine FR_ck (ln4_4 t.1 h_v0) ?_
    refine FR_nmR (w := (v0 + 10)) (lr4_4 t.1 h_v0) ?_
    refine FR_ckI (okW_iff t.1 (ar4_4 h_v0)) (fun q257 => ?_)
    refine FR_nmS (To_pJ t (by omega)) (fun σ31 t => ?_)
    refine FR_ck (lo4 t.1 h_v0) ?_
    refine FR_ck (ln4_5 t.1 h_v0) ?_
    refine FR_nmR (w := (v0 + 11)) (lr4_5 t.1 h_v0) ?_
    refine FR_ckI Iff.rfl (fun q260 => ?_)
    refine FR_ckI (okW_iff t.1 (ar4_5 h_v0)) (fun q261 => ?_)
    refine FR_nmS (To_pI t (by omega)) (fun σ37 t => ?_)
    exact FR_some t
  · exact FR_some t
def d_X5_taxLines_6 : Nat → Nat → Int64 → Int64 → Int32 → Int64 → Int32 → Sg → Option (Int64 × Sg)
  | 0, _, _, _, _, _, _, _ => none
  | n + 1, v0, v1, v3, v5, v6, v8, σ =>
  if (gI σ (v0 + 1) 1) ≤ v8 then (
    some (v6, σ))
  else (
    ck (ix v8 12) <|
    bp (f_X3_rounding (((gI σ (v0 + 2) v8.toNatClampNeg).toInt64) * v1) v3 (1 : Int64) v5) fun x37 =>
    ck (ix v8 12) <|
    nm (pJ σ (v0 + 12) v8.toNatClampNeg x37) fun σ39 =>
    ck (ix v8 12) <|
    nm (v6 + (gJ σ39 (v0 + 12) v8.toNatClampNeg)) fun x44 =>
    nm (v8 + (1 : Int32)) fun x45 =>
    d_X5_taxLines_6 n v0 v1 v3 v5 x44 x45 σ39)
theorem k_b_X5_taxLines_6 {lo hi : Nat} {σ0 : Sg} : ∀ {n : Nat} {v0 : Nat} {v1 : Int64} {v3 : Int64} {v5 : Int32} {v6 : Int64} {v8 : Int32} {σ : Sg}, To lo hi σ0 σ → O4 v0 → lo ≤ v0 ∧ v0 + 13 ≤ hi → FR (fun q => To lo hi σ0 q.2) (b_X5_taxLines_6 n v0 v1 v3 v5 v6 v8 σ) (d_X5_taxLines_6 n v0 v1 v3 v5 v6 v8 σ) := by
  intro n
  induction n with
  | zero => intro v0 v1 v3 v5 v6 v8 σ t h_v0 w_v0; exact FR_none
  | succ n ih =>
    intro v0 v1 v3 v5 v6 v8 σ t h_v0 w_v0
    unfold b_X5_taxLines_6 d_X5_taxLines_6
    refine FR_ck (lo4 t.1 h_v0) ?_
    refine FR_ck (ln4_0 t.1 h_v0) ?_
    refine FR_nmR (w := (v0 + 1)) (lr4_0 t.1 h_v0) ?_
    refine FR_ck (lo0 t.1 (o4_0 h_v0)) ?_
    refine FR_it (fun _ => ?_) (fun _ => ?_)
    · exact FR_some t
    · refine FR_ck (ln4_6 t.1 h_v0) ?_
      refine FR_nmR (w := (v0 + 12)) (lr4_6 t.1 h_v0) ?_
      refine FR_nmR (w := (v0 + 1)) (lr4_0 t.1 h_v0) ?_
      refine FR_ck (lo0 t.1 (o4_0 h_v0)) ?_
      refine FR_ck (ln0_0 t.1 (o4_0 h_v0)) ?_
      refine FR_nmR (w := (v0 + 2)) (lr0_0 t.1 (o4_0 h_v0)) ?_
      refine FR_ckI (okA_iff t.1 (ar0_0 (o4_0 h_v0))) (fun q268 => ?_)
      refine FR_nmP (fun x37 => ?_)
      refine FR_ckI (okW_iff t.1 (ar4_6 h_v0)) (fun q269 => ?_)
      refine FR_nmS (To_pJ t (by omega)) (fun σ39 t => ?_)
      refine FR_ck (lo4 t.1 h_v0) ?_
      refine FR_ck (ln4_6 t.1 h_v0) ?_
      refine FR_nmR (w := (v0 + 12)) (lr4_6 t.1 h_v0) ?_
      refine FR_ckI (okA_iff t.1 (ar4_6 h_v0)) (fun q272 => ?_)
      refine FR_nm (fun x44 => ?_)
      refine FR_nm (fun x45 => ?_)
      exact ih t h_v0 (by omega)
