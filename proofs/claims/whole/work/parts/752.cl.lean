def c_X10_breaks (n : Nat) (v2 : Nat) (v3 : Nat) (v4 : Int32) (v5 : Int32) (σ : Sg) : Option (Int32 × Sg) :=
  bp (c_X0_becomeOneLine 35 v5 σ) fun σ108 =>
  bp (c_X5_startAfresh n 34 σ108) fun σ114 =>
  bd (c_X5_perform n 34 v2 σ114) fun x121 σ120 =>
  if x121 = 0 then (
    d_X10_breaks_36 n v2 v3 v4 v5 (1 : Int32) σ120)
  else (
    d_X10_breaks_36 n v2 v3 v4 v5 (0 : Int32) σ120)
theorem k_f_X10_breaks {lo hi : Nat} {σ0 : Sg} {n : Nat} {v2 : Nat} {v3 : Nat} {v4 : Int32} {v5 : Int32} {σ : Sg} (t : To lo hi σ0 σ) (w_v0 : lo ≤ 33 ∧ 69 ≤ hi) (h_v2 : O5 v2) (h_v3 : O5 v3) : FR (fun q => To lo hi σ0 q.2) (f_X10_breaks n 33 5 v2 v3 v4 v5 σ) (c_X10_breaks n v2 v3 v4 v5 σ) := by
  unfold f_X10_breaks c_X10_breaks
  refine FR_ck (lo9 t.1) ?_
  refine FR_ck (ln9_0 t.1) ?_
  refine FR_nmR (w := 34) (lr9_0 t.1) ?_
  refine FR_ck (lo4 t.1 (by decide)) ?_
  refine FR_ck (ln4_0 t.1 (by decide)) ?_
  refine FR_nmR (w := 35) (lr4_0 t.1 (by decide)) ?_
  refine FR_ck (lo0 t.1 (by decide)) ?_
  refine FR_bp (k_f_X0_becomeOneLine t (by decide) (by omega)) (fun σ108 t => ?_)
  refine FR_ck (lo9 t.1) ?_
  refine FR_ck (ln9_0 t.1) ?_
  refine FR_nmR (w := 34) (lr9_0 t.1) ?_
  refine FR_ck (lo4 t.1 (by decide)) ?_
  refine FR_bp (k_f_X5_startAfresh t (by decide) (by omega)) (fun σ114 t => ?_)
  refine FR_ck (lo9 t.1) ?_
  refine FR_ck (ln9_0 t.1) ?_
  refine FR_nmR (w := 34) (lr9_0 t.1) ?_
  refine FR_ck (lo4 t.1 (by decide)) ?_
  refine FR_bd (k_f_X5_perform t (by decide) (by omega) h_v2) (fun x121 σ120 t => ?_)
  refine FR_it (fun _ => ?_) (fun _ => ?_)
  · exact k_b_X10_breaks_36 t (by omega) h_v2 h_v3
  · exact k_b_X10_breaks_36 t (by omega) h_v2 h_v3
def d_X10_firstBreak_4 : Nat → Nat → Nat → Int32 → Int32 → Int32 → Sg → Option (Int32 × Sg)
  | 0, _, _, _, _, _, _ => none
  | n + 1, v2, v3, v4, v6, v7, σ =>
  if v6 < v7 then (
    some ((9999999 : Int32), σ))
  else (
    bd (c_X10_breaks n v2 v3 v4 v7 σ) fun x10 σ9 =>
    if x10 = 0 then (
      nm (v7 + (1 : Int32)) fun x12 =>
      d_X10_firstBreak_4 n v2 v3 v4 v6 x12 σ9)
    else (
      some (v7, σ9)))
theorem k_b_X10_firstBreak_4 {lo hi : Nat} {σ0 : Sg} : ∀ {n : Nat} {v2 : Nat} {v3 : Nat} {v4 : Int32} {v6 : Int32} {v7 : Int32} {σ : Sg}, To lo hi σ0 σ → lo ≤ 33 ∧ 69 ≤ hi → O5 v2 → O5 v3 → FR (fun q => To lo hi σ0 q.2) (b_X10_firstBreak_4 n 33 5 v2 v3 v4 v6 v7 σ) (d_X10_firstBreak_4 n v2 v3 v4 v6 v7 σ) := by
  intro n
  induction n with
  | zero => intro v2 v3 v4 v6 v7 σ t w_v0 h_v2 h_v3; exact FR_none
  | succ n ih =>
    intro v2 v3 v4 v6 v7 σ t w_v0 h_v2 h_v3
    unfold b_X10_firstBreak_4 d_X10_firstBreak_4
    refine FR_it (fun _ => ?_) (fun _ => ?_)
    · exact FR_some t
    · refine FR_ck (lo9 t.1) ?_
      refine FR_bd (k_f_X10_breaks t (by omega) h_v2 h_v3) (fun x10 σ9 t => ?_)
      refine FR_it (fun _ => ?_) (fun _ => ?_)
      · refine FR_nm (fun x12 => ?_)
        exact ih t (by omega) h_v2 h_v3
      · exact FR_some t
def c_X10_firstBreak (n : Nat) (v2 : Nat) (v3 : Nat) (v4 : Int32) (v5 : Int32) (v6 : Int32) (σ : Sg) : Option (Int32 × Sg) :=
  d_X10_firstBreak_4 n v2 v3 v4 v6 v5 σ
theorem k_f_X10_firstBreak {lo hi : Nat} {σ0 : Sg} {n : Nat} {v2 : Nat} {v3 : Nat} {v4 : Int32} {v5 : Int32} {v6 : Int32} {σ : Sg} (t : To lo hi σ0 σ) (w_v0 : lo ≤ 33 ∧ 69 ≤ hi) (h_v2 : O5 v2) (h_v3 : O5 v3) : FR (fun q => To lo hi σ0 q.2) (f_X10_firstBreak n 33 5 v2 v3 v4 v5 v6 σ) (c_X10_firstBreak n v2 v3 v4 v5 v6 σ) := by
  unfold f_X10_firstBreak c_X10_firstBreak
  exact k_b_X10_firstBreak_4 t (by omega) h_v2 h_v3
def c_X10_swap (v1 : Int32) (v2 : Int32) (σ : Sg) : Option Sg :=
  ck (ix v1 6) <|
  nm (gI σ 68 v1.toNatClampNeg) fun x20 =>
  ck (ix v2 6) <|
  ck (ix v1 6) <|
  nm (pI σ 68 v1.toNatClampNeg (gI σ 68 v2.toNatClampNeg)) fun σ25 =>
  ck (ix v2 6) <|
  nm (pI σ25 68 v2.toNatClampNeg x20) fun σ30 =>
  some σ30
theorem k_f_X10_swap {lo hi : Nat} {σ0 : Sg} {v1 : Int32} {v2 : Int32} {σ : Sg} (t : To lo hi σ0 σ) (w_v0 : lo ≤ 33 ∧ 69 ≤ hi) : FR (fun q => To lo hi σ0 q) (f_X10_swap 33 v1 v2 σ) (c_X10_swap v1 v2 σ) := by
  unfold f_X10_swap c_X10_swap
  refine FR_ck (lo9 t.1) ?_
  refine FR_ck (ln9_3 t.1) ?_
  refine FR_nmR (w := 68) (lr9_3 t.1) ?_
  refine FR_ckI (okA_iff t.1 (by decide : Ar 13 6 68)) (fun q590 => ?_)
  refine FR_nm (fun x20 => ?_)
  refine FR_nmR (w := 68) (lr9_3 t.1) ?_
  refine FR_nmR (w := 68) (lr9_3 t.1) ?_
  refine FR_ckI (okA_iff t.1 (by decide : Ar 13 6 68)) (fun q591 => ?_)
  refine FR_ckI (okW_iff t.1 (by decide : Ar 13 6 68)) (fun q592 => ?_)
  refine FR_nmS (To_pI t (by omega)) (fun σ25 t => ?_)
  refine FR_ck (lo9 t.1) ?_
  refine FR_ck (ln9_3 t.1) ?_
  refine FR_nmR (w := 68) (lr9_3 t.1) ?_
  refine FR_ckI (okW_iff t.1 (by decide : Ar 13 6 68)) (fun q595 => ?_)
  refine FR_nmS (To_pI t (by omega)) (fun σ30 t => ?_)
  exact FR_some t
def d_X10_goToNextOrder_82 : Nat → Int32 → Int32 → Sg → Option Sg
  | 0, _, _, _ => none
  | n + 1, v4, v5, σ =>
  if v5 ≤ v4 then (
    some σ)
  else (
    bp (c_X10_swap v4 v5 σ) fun σ40 =>
    nm (v4 + (1 : Int32)) fun x41 =>
    nm (v5 + ((-1) : Int32)) fun x42 =>
    d_X10_goToNextOrder_82 n x41 x42 σ40)
theorem k_b_X10_goToNextOrder_82 {lo hi : Nat} {σ0 : Sg} : ∀ {n : Nat} {v4 : Int32} {v5 : Int32} {σ : Sg}, To lo hi σ0 σ → lo ≤ 33 ∧ 69 ≤ hi → FR (fun q => To lo hi σ0 q) (b_X10_goToNextOrder_82 n 33 v4 v5 σ) (d_X10_goToNextOrder_82 n v4 v5 σ) := by
  intro n
  induction n with
  | zero => intro v4 v5 σ t w_v0; exact FR_none
  | succ n ih =>
    intro v4 v5 σ t w_v0
    unfold b_X10_goToNextOrder_82 d_X10_goToNextOrder_82
    refine FR_it (fun _ => ?_) (fun _ => ?_)
    · exact FR_some t
    · refine FR_ck (lo9 t.1) ?_
      refine FR_bp (k_f_X10_swap t (by omega)) (fun σ40 t => ?_)
      refine FR_nm (fun x41 => ?_)
      refine FR_nm (fun x42 => ?_)
      exact ih t (by omega)
def d_X10_goToNextOrder_66 (n : Nat) (v1 : Int32) (v2 : Int32) (v3 : Int32) (σ : Sg) : Option Sg :=
  bp (c_X10_swap v2 v3 σ) fun σ34 =>
  nm (v2 + (1 : Int32)) fun x35 =>
  nm (v1 - (1 : Int32)) fun x36 =>
  d_X10_goToNextOrder_82 n x35 x36 σ34
theorem k_b_X10_goToNextOrder_66 {lo hi : Nat} {σ0 : Sg} {n : Nat} {v1 : Int32} {v2 : Int32} {v3 : Int32} {σ : Sg} (t : To lo hi σ0 σ) (w_v0 : lo ≤ 33 ∧ 69 ≤ hi) : FR (fun q => To lo hi σ0 q) (b_X10_goToNextOrder_66 n 33 v1 v2 v3 σ) (d_X10_goToNextOrder_66 n v1 v2 v3 σ) := by
  unfold b_X10_goToNextOrder_66 d_X10_goToNextOrder_66
  refine FR_ck (lo9 t.1) ?_
  refine FR_bp (k_f_X10_swap t (by omega)) (fun σ34 t => ?_)
  refine FR_nm (fun x35 => ?_)
  refine FR_nm (fun x36 => ?_)
  exact k_b_X10_goToNextOrder_82 t (by omega)
def d_X10_goToNextOrder_40 : Nat → Int32 → Int32 → Int32 → Sg → Option Sg
  | 0, _, _, _, _ => none
  | n + 1, v1, v2, v3, σ =>
  if v3 ≤ v2 then (
    d_X10_goToNextOrder_66 n v1 v2 v3 σ)
  else (
    ck (ix v3 6) <|
    ck (ix v2 6) <|
    if (gI σ 68 v2.toNatClampNeg) ≤ (gI σ 68 v3.toNatClampNeg) then (
      d_X10_goToNextOrder_66 n v1 v2 v3 σ)
    else (
      nm (v3 + ((-1) : Int32)) fun x50 =>
      d_X10_goToNextOrder_40 n v1 v2 x50 σ))
theorem k_b_X10_goToNextOrder_40 {lo hi : Nat} {σ0 : Sg} : ∀ {n : Nat} {v1 : Int32} {v2 : Int32} {v3 : Int32} {σ : Sg}, To lo hi σ0 σ → lo ≤ 33 ∧ 69 ≤ hi → FR (fun q => To lo hi σ0 q) (b_X10_goToNextOrder_40 n 33 v1 v2 v3 σ) (d_X10_goToNextOrder_40 n v1 v2 v3 σ) := by
  intro n
  induction n with
  | zero => intro v1 v2 v3 σ t w_v0; exact FR_none
  | succ n ih =>
    intro v1 v2 v3 σ t w_v0
    unfold b_X10_goToNextOrder_40 d_X10_goToNextOrder_40
    refine FR_it (fun _ => ?_) (fun _ => ?_)
    · exact k_b_X10_goToNextOrder_66 t (by omega)
    · refine FR_ck (lo9 t.1) ?_
      refine FR_ck (ln9_3 t.1) ?_
      refine FR_nmR (w := 68) (lr9_3 t.1) ?_
      refine FR_ckI (okA_iff t.1 (by decide : Ar 13 6 68)) (fun q600 => ?_)
      refine FR_nmR (w := 68) (lr9_3 t.1) ?_
      refine FR_ckI (okA_iff t.1 (by decide : Ar 13 6 68)) (fun q601 => ?_)
      refine FR_it (fun _ => ?_) (fun _ => ?_)
      · exact k_b_X10_goToNextOrder_66 t (by omega)
      · refine FR_nm (fun x50 => ?_)
        exact ih t (by omega)
def d_X10_goToNextOrder_31 (n : Nat) (v1 : Int32) (v2 : Int32) (σ : Sg) : Option Sg :=
  if 0 ≤ v2 then (
    nm (v1 - (1 : Int32)) fun x30 =>
    d_X10_goToNextOrder_40 n v1 v2 x30 σ)
  else (
    some σ)
theorem k_b_X10_goToNextOrder_31 {lo hi : Nat} {σ0 : Sg} {n : Nat} {v1 : Int32} {v2 : Int32} {σ : Sg} (t : To lo hi σ0 σ) (w_v0 : lo ≤ 33 ∧ 69 ≤ hi) : FR (fun q => To lo hi σ0 q) (b_X10_goToNextOrder_31 n 33 v1 v2 σ) (d_X10_goToNextOrder_31 n v1 v2 σ) := by
  unfold b_X10_goToNextOrder_31 d_X10_goToNextOrder_31
  refine FR_it (fun _ => ?_) (fun _ => ?_)
  · refine FR_nm (fun x30 => ?_)
    exact k_b_X10_goToNextOrder_40 t (by omega)
  · exact FR_some t
def d_X10_goToNextOrder_4 : Nat → Int32 → Int32 → Sg → Option Sg
  | 0, _, _, _ => none
  | n + 1, v1, v2, σ =>
  if v2 < 0 then (
    d_X10_goToNextOrder_31 n v1 v2 σ)
  else (
    ck (ix v2 6) <|
    ck (ix (v2 + (1 : Int32)) 6) <|
    if (gI σ 68 v2.toNatClampNeg) ≤ (gI σ 68 (v2 + (1 : Int32)).toNatClampNeg) then (
      d_X10_goToNextOrder_31 n v1 v2 σ)
    else (
      nm (v2 + ((-1) : Int32)) fun x58 =>
      d_X10_goToNextOrder_4 n v1 x58 σ))
theorem k_b_X10_goToNextOrder_4 {lo hi : Nat} {σ0 : Sg} : ∀ {n : Nat} {v1 : Int32} {v2 : Int32} {σ : Sg}, To lo hi σ0 σ → lo ≤ 33 ∧ 69 ≤ hi → FR (fun q => To lo hi σ0 q) (b_X10_goToNextOrder_4 n 33 v1 v2 σ) (d_X10_goToNextOrder_4 n v1 v2 σ) := by
  intro n
  induction n with
  | zero => intro v1 v2 σ t w_v0; exact FR_none
  | succ n ih =>
    intro v1 v2 σ t w_v0
    unfold b_X10_goToNextOrder_4 d_X10_goToNextOrder_4
    refine FR_it (fun _ => ?_) (fun _ => ?_)
    · exact k_b_X10_goToNextOrder_31 t (by omega)
    · refine FR_ck (lo9 t.1) ?_
      refine FR_ck (ln9_3 t.1) ?_
      refine FR_nmR (w := 68) (lr9_3 t.1) ?_
      refine FR_ckI (okA_iff t.1 (by decide : Ar 13 6 68)) (fun q604 => ?_)
      refine FR_nmR (w := 68) (lr9_3 t.1) ?_
      refine FR_ckI (okA_iff t.1 (by decide : Ar 13 6 68)) (fun q605 => ?_)
      refine FR_it (fun _ => ?_) (fun _ => ?_)
      · exact k_b_X10_goToNextOrder_31 t (by omega)
      · refine FR_nm (fun x58 => ?_)
        exact ih t (by omega)
def c_X10_goToNextOrder (n : Nat) (v1 : Int32) (σ : Sg) : Option Sg :=
  nm (v1 - (2 : Int32)) fun x27 =>
  d_X10_goToNextOrder_4 n v1 x27 σ
theorem k_f_X10_goToNextOrder {lo hi : Nat} {σ0 : Sg} {n : Nat} {v1 : Int32} {σ : Sg} (t : To lo hi σ0 σ) (w_v0 : lo ≤ 33 ∧ 69 ≤ hi) : FR (fun q => To lo hi σ0 q) (f_X10_goToNextOrder n 33 v1 σ) (c_X10_goToNextOrder n v1 σ) := by
  unfold f_X10_goToNextOrder c_X10_goToNextOrder
  refine FR_nm (fun x27 => ?_)
  exact k_b_X10_goToNextOrder_4 t (by omega)
def d_X10_hasOtherResults_2 : Nat → Int32 → Int32 → Sg → Option Int32
  | 0, _, _, _ => none
  | n + 1, v1, v2, σ =>
  if v1 ≤ v2 then (
    some (0 : Int32))
  else (
    ck (ix v2 12) <|
    ck (ix v2 6) <|
    ck (ix (gI σ 68 v2.toNatClampNeg) 12) <|
    if (gJ σ 59 v2.toNatClampNeg) = (gJ σ 46 (gI σ 68 v2.toNatClampNeg).toNatClampNeg) then (
      nm (v2 + (1 : Int32)) fun x36 =>
      d_X10_hasOtherResults_2 n v1 x36 σ)
    else (
      some (1 : Int32)))
theorem k_b_X10_hasOtherResults_2 {lo hi : Nat} {σ0 : Sg} : ∀ {n : Nat} {v1 : Int32} {v2 : Int32} {σ : Sg}, To lo hi σ0 σ → FR (fun _ => True) (b_X10_hasOtherResults_2 n 33 v1 v2 σ) (d_X10_hasOtherResults_2 n v1 v2 σ) := by
  intro n
  induction n with
  | zero => intro v1 v2 σ t; exact FR_none
  | succ n ih =>
    intro v1 v2 σ t
    unfold b_X10_hasOtherResults_2 d_X10_hasOtherResults_2
    refine FR_it (fun _ => ?_) (fun _ => ?_)
    · exact FR_some trivial
    · refine FR_ck (lo9 t.1) ?_
      refine FR_ck (ln9_1 t.1) ?_
      refine FR_nmR (w := 47) (lr9_1 t.1) ?_
      refine FR_ck (lo4 t.1 (by decide)) ?_
      refine FR_ck (ln4_6 t.1 (by decide)) ?_
      refine FR_nmR (w := 59) (lr4_6 t.1 (by decide)) ?_
      refine FR_ckI (okA_iff t.1 (by decide : Ar 14 12 59)) (fun q610 => ?_)
      refine FR_ck (ln9_0 t.1) ?_
      refine FR_nmR (w := 34) (lr9_0 t.1) ?_
      refine FR_ck (lo4 t.1 (by decide)) ?_
      refine FR_ck (ln4_6 t.1 (by decide)) ?_
      refine FR_nmR (w := 46) (lr4_6 t.1 (by decide)) ?_
      refine FR_ck (ln9_3 t.1) ?_
      refine FR_nmR (w := 68) (lr9_3 t.1) ?_
      refine FR_ckI (okA_iff t.1 (by decide : Ar 13 6 68)) (fun q615 => ?_)
      refine FR_ckI (okA_iff t.1 (by decide : Ar 14 12 46)) (fun q616 => ?_)
      refine FR_it (fun _ => ?_) (fun _ => ?_)
      · refine FR_nm (fun x36 => ?_)
        exact ih t
      · exact FR_some trivial
def c_X10_hasOtherResults (n : Nat) (v1 : Int32) (σ : Sg) : Option Int32 :=
  d_X10_hasOtherResults_2 n v1 (0 : Int32) σ
theorem k_f_X10_hasOtherResults {lo hi : Nat} {σ0 : Sg} {n : Nat} {v1 : Int32} {σ : Sg} (t : To lo hi σ0 σ) : FR (fun _ => True) (f_X10_hasOtherResults n 33 v1 σ) (c_X10_hasOtherResults n v1 σ) := by
  unfold f_X10_hasOtherResults c_X10_hasOtherResults
  exact k_b_X10_hasOtherResults_2 t
def d_X10_firstOrderThatMatters_175 (k90 : Int32 → Sg → Option (Int32 × Sg)) (n : Nat) (v2 : Nat) (v3 : Nat) (v4 : Int32) (v5 : Int32) (v6 : Int32) (s0 : Int32) (s1 : Int32) (σ : Sg) : Option (Int32 × Sg) :=
  bp (c_X10_differs n s1 s0 (1 : Int32) σ) fun x142 =>
  if x142 = 0 then (
    bp (c_X10_hasOtherResults n (gI σ v3 1) σ) fun x147 =>
    if x147 = 0 then (
      nm (v6 + (1 : Int32)) fun x149 =>
      k90 x149 σ)
    else (
      some (v6, σ)))
  else (
    some (v6, σ))
theorem k_b_X10_firstOrderThatMatters_175 {lo hi : Nat} {σ0 : Sg} {k90 k90c : Int32 → Sg → Option (Int32 × Sg)} {n : Nat} {v2 : Nat} {v3 : Nat} {v4 : Int32} {v5 : Int32} {v6 : Int32} {s0 : Int32} {s1 : Int32} {σ : Sg} (h_k90 : ∀ (c0 : Int32) (τ : Sg), To lo hi σ0 τ → FR (fun q => To lo hi σ0 q.2) (k90 c0 τ) (k90c c0 τ)) (t : To lo hi σ0 σ) (h_v2 : O5 v2) (h_v3 : O0 v3) : FR (fun q => To lo hi σ0 q.2) (b_X10_firstOrderThatMatters_175 k90 n 33 5 v2 v3 v4 v5 v6 s0 s1 33 σ) (d_X10_firstOrderThatMatters_175 k90c n v2 v3 v4 v5 v6 s0 s1 σ) := by
  unfold b_X10_firstOrderThatMatters_175 d_X10_firstOrderThatMatters_175
  refine FR_ck (lo9 t.1) ?_
  refine FR_bpP (k_f_X10_differs t).1 (fun x142 => ?_)
  refine FR_it (fun _ => ?_) (fun _ => ?_)
  · refine FR_ck (lo0 t.1 h_v3) ?_
    refine FR_ck (lo9 t.1) ?_
    refine FR_bpP (k_f_X10_hasOtherResults t).1 (fun x147 => ?_)
    refine FR_it (fun _ => ?_) (fun _ => ?_)
    · refine FR_nm (fun x149 => ?_)
      exact h_k90 _ _ t
    · exact FR_some t
  · exact FR_some t
def d_X10_firstOrderThatMatters_148 (k90 : Int32 → Sg → Option (Int32 × Sg)) (n : Nat) (v2 : Nat) (v3 : Nat) (v4 : Int32) (v5 : Int32) (v6 : Int32) (σ : Sg) : Option (Int32 × Sg) :=
  bp (c_X5_startAfresh n 47 σ) fun σ131 =>
  bd (c_X5_perform n 47 v2 σ131) fun x138 σ137 =>
  if x138 = 0 then (
    d_X10_firstOrderThatMatters_175 k90 n v2 v3 v4 v5 v6 (1 : Int32) v5 σ137)
  else (
    d_X10_firstOrderThatMatters_175 k90 n v2 v3 v4 v5 v6 (0 : Int32) v5 σ137)
theorem k_b_X10_firstOrderThatMatters_148 {lo hi : Nat} {σ0 : Sg} {k90 k90c : Int32 → Sg → Option (Int32 × Sg)} {n : Nat} {v2 : Nat} {v3 : Nat} {v4 : Int32} {v5 : Int32} {v6 : Int32} {σ : Sg} (h_k90 : ∀ (c0 : Int32) (τ : Sg), To lo hi σ0 τ → FR (fun q => To lo hi σ0 q.2) (k90 c0 τ) (k90c c0 τ)) (t : To lo hi σ0 σ) (w_v0 : lo ≤ 33 ∧ 69 ≤ hi) (h_v2 : O5 v2) (h_v3 : O0 v3) : FR (fun q => To lo hi σ0 q.2) (b_X10_firstOrderThatMatters_148 k90 n 33 5 v2 v3 v4 v5 v6 σ) (d_X10_firstOrderThatMatters_148 k90c n v2 v3 v4 v5 v6 σ) := by
  unfold b_X10_firstOrderThatMatters_148 d_X10_firstOrderThatMatters_148
  refine FR_ck (lo9 t.1) ?_
  refine FR_ck (ln9_1 t.1) ?_
  refine FR_nmR (w := 47) (lr9_1 t.1) ?_
  refine FR_ck (lo4 t.1 (by decide)) ?_
  refine FR_bp (k_f_X5_startAfresh t (by decide) (by omega)) (fun σ131 t => ?_)
  refine FR_ck (lo9 t.1) ?_
  refine FR_ck (ln9_1 t.1) ?_
  refine FR_nmR (w := 47) (lr9_1 t.1) ?_
  refine FR_ck (lo4 t.1 (by decide)) ?_
  refine FR_bd (k_f_X5_perform t (by decide) (by omega) h_v2) (fun x138 σ137 t => ?_)
  refine FR_it (fun _ => ?_) (fun _ => ?_)
  · exact k_b_X10_firstOrderThatMatters_175 h_k90 t h_v2 h_v3
  · exact k_b_X10_firstOrderThatMatters_175 h_k90 t h_v2 h_v3
def d_X10_firstOrderThatMatters_108 (k90 : Int32 → Sg → Option (Int32 × Sg)) : Nat → Nat → Nat → Int32 → Int32 → Int32 → Int32 → Sg → Option (Int32 × Sg)
  | 0, _, _, _, _, _, _, _ => none
  | n + 1, v2, v3, v4, v5, v6, v7, σ =>
  if (gI σ v3 1) ≤ v7 then (
    d_X10_firstOrderThatMatters_148 k90 n v2 v3 v4 v5 v6 σ)
  else (
    ck (ix v7 6) <|
    ck (ix (gI σ 68 v7.toNatClampNeg) 12) <|
    ck (ix v7 12) <|
    nm (pI σ 49 v7.toNatClampNeg (gI σ (v3 + 1) (gI σ 68 v7.toNatClampNeg).toNatClampNeg)) fun σ166 =>
    nm (v7 + (1 : Int32)) fun x167 =>
    d_X10_firstOrderThatMatters_108 k90 n v2 v3 v4 v5 v6 x167 σ166)
theorem k_b_X10_firstOrderThatMatters_108 {lo hi : Nat} {σ0 : Sg} {k90 k90c : Int32 → Sg → Option (Int32 × Sg)} (h_k90 : ∀ (c0 : Int32) (τ : Sg), To lo hi σ0 τ → FR (fun q => To lo hi σ0 q.2) (k90 c0 τ) (k90c c0 τ)) : ∀ {n : Nat} {v2 : Nat} {v3 : Nat} {v4 : Int32} {v5 : Int32} {v6 : Int32} {v7 : Int32} {σ : Sg}, To lo hi σ0 σ → lo ≤ 33 ∧ 69 ≤ hi → O5 v2 → O0 v3 → FR (fun q => To lo hi σ0 q.2) (b_X10_firstOrderThatMatters_108 k90 n 33 5 v2 v3 v4 v5 v6 v7 σ) (d_X10_firstOrderThatMatters_108 k90c n v2 v3 v4 v5 v6 v7 σ) := by
  intro n
  induction n with
  | zero => intro v2 v3 v4 v5 v6 v7 σ t w_v0 h_v2 h_v3; exact FR_none
  | succ n ih =>
    intro v2 v3 v4 v5 v6 v7 σ t w_v0 h_v2 h_v3
    unfold b_X10_firstOrderThatMatters_108 d_X10_firstOrderThatMatters_108
    refine FR_ck (lo0 t.1 h_v3) ?_
    refine FR_it (fun _ => ?_) (fun _ => ?_)
    · exact k_b_X10_firstOrderThatMatters_148 h_k90 t (by omega) h_v2 h_v3
    · refine FR_ck (lo9 t.1) ?_
      refine FR_ck (ln9_1 t.1) ?_
      refine FR_nmR (w := 47) (lr9_1 t.1) ?_
      refine FR_ck (lo4 t.1 (by decide)) ?_
      refine FR_ck (ln4_0 t.1 (by decide)) ?_
      refine FR_nmR (w := 48) (lr4_0 t.1 (by decide)) ?_
      refine FR_ck (lo0 t.1 (by decide)) ?_
      refine FR_ck (ln0_0 t.1 (by decide)) ?_
      refine FR_nmR (w := 49) (lr0_0 t.1 (by decide)) ?_
      refine FR_ck (ln0_0 t.1 h_v3) ?_
      refine FR_nmR (w := (v3 + 1)) (lr0_0 t.1 h_v3) ?_
      refine FR_ck (ln9_3 t.1) ?_
      refine FR_nmR (w := 68) (lr9_3 t.1) ?_
      refine FR_ckI (okA_iff t.1 (by decide : Ar 13 6 68)) (fun q635 => ?_)
      refine FR_ckI (okA_iff t.1 (ar0_0 h_v3)) (fun q636 => ?_)
      refine FR_ckI (okW_iff t.1 (by decide : Ar 13 12 49)) (fun q637 => ?_)
      refine FR_nmS (To_pI t (by omega)) (fun σ166 t => ?_)
      refine FR_nm (fun x167 => ?_)
      exact ih t (by omega) h_v2 h_v3
def d_X10_firstOrderThatMatters_90 : Nat → Nat → Nat → Int32 → Int32 → Int32 → Sg → Option (Int32 × Sg)
  | 0, _, _, _, _, _, _ => none
  | n + 1, v2, v3, v4, v5, v6, σ =>
  if v4 ≤ v6 then (
    some ((9999999 : Int32), σ))
  else (
    bp (c_X10_goToNextOrder n (gI σ v3 1) σ) fun σ123 =>
    d_X10_firstOrderThatMatters_108 (fun c6 τ => d_X10_firstOrderThatMatters_90 n v2 v3 v4 v5 c6 τ) n v2 v3 v4 v5 v6 (0 : Int32) σ123)
theorem k_b_X10_firstOrderThatMatters_90 {lo hi : Nat} {σ0 : Sg} : ∀ {n : Nat} {v2 : Nat} {v3 : Nat} {v4 : Int32} {v5 : Int32} {v6 : Int32} {σ : Sg}, To lo hi σ0 σ → lo ≤ 33 ∧ 69 ≤ hi → O5 v2 → O0 v3 → FR (fun q => To lo hi σ0 q.2) (b_X10_firstOrderThatMatters_90 n 33 5 v2 v3 v4 v5 v6 σ) (d_X10_firstOrderThatMatters_90 n v2 v3 v4 v5 v6 σ) := by
  intro n
  induction n with
  | zero => intro v2 v3 v4 v5 v6 σ t w_v0 h_v2 h_v3; exact FR_none
  | succ n ih =>
    intro v2 v3 v4 v5 v6 σ t w_v0 h_v2 h_v3
    unfold b_X10_firstOrderThatMatters_90 d_X10_firstOrderThatMatters_90
    refine FR_it (fun _ => ?_) (fun _ => ?_)
    · exact FR_some t
    · refine FR_ck (lo0 t.1 h_v3) ?_
      refine FR_ck (lo9 t.1) ?_
      refine FR_bp (k_f_X10_goToNextOrder t (by omega)) (fun σ123 t => ?_)
      exact k_b_X10_firstOrderThatMatters_108 (fun c6 τ t => ih t (by omega) h_v2 h_v3) t (by omega) h_v2 h_v3
def d_X10_firstOrderThatMatters_74 (n : Nat) (v2 : Nat) (v3 : Nat) (v4 : Int32) (s0 : Int32) (σ : Sg) : Option (Int32 × Sg) :=
  bp (c_X0_become n 48 v3 σ) fun σ118 =>
  d_X10_firstOrderThatMatters_90 n v2 v3 v4 s0 (1 : Int32) σ118
theorem k_b_X10_firstOrderThatMatters_74 {lo hi : Nat} {σ0 : Sg} {n : Nat} {v2 : Nat} {v3 : Nat} {v4 : Int32} {s0 : Int32} {σ : Sg} (t : To lo hi σ0 σ) (w_v0 : lo ≤ 33 ∧ 69 ≤ hi) (h_v2 : O5 v2) (h_v3 : O0 v3) : FR (fun q => To lo hi σ0 q.2) (b_X10_firstOrderThatMatters_74 n 33 5 v2 v3 v4 s0 σ) (d_X10_firstOrderThatMatters_74 n v2 v3 v4 s0 σ) := by
  unfold b_X10_firstOrderThatMatters_74 d_X10_firstOrderThatMatters_74
  refine FR_ck (lo9 t.1) ?_
  refine FR_ck (ln9_1 t.1) ?_
  refine FR_nmR (w := 47) (lr9_1 t.1) ?_
  refine FR_ck (lo4 t.1 (by decide)) ?_
  refine FR_ck (ln4_0 t.1 (by decide)) ?_
  refine FR_nmR (w := 48) (lr4_0 t.1 (by decide)) ?_
  refine FR_ck (lo0 t.1 (by decide)) ?_
  refine FR_bp (k_f_X0_become t (by decide) (by omega) h_v3) (fun σ118 t => ?_)
  exact k_b_X10_firstOrderThatMatters_90 t (by omega) h_v2 h_v3
def d_X10_firstOrderThatMatters_39 (n : Nat) (v2 : Nat) (v3 : Nat) (v4 : Int32) (σ : Sg) : Option (Int32 × Sg) :=
  bp (c_X0_become n 35 v3 σ) fun σ95 =>
  bp (c_X5_startAfresh n 34 σ95) fun σ101 =>
  bd (c_X5_perform n 34 v2 σ101) fun x108 σ107 =>
  if x108 = 0 then (
    d_X10_firstOrderThatMatters_74 n v2 v3 v4 (1 : Int32) σ107)
  else (
    d_X10_firstOrderThatMatters_74 n v2 v3 v4 (0 : Int32) σ107)
theorem k_b_X10_firstOrderThatMatters_39 {lo hi : Nat} {σ0 : Sg} {n : Nat} {v2 : Nat} {v3 : Nat} {v4 : Int32} {σ : Sg} (t : To lo hi σ0 σ) (w_v0 : lo ≤ 33 ∧ 69 ≤ hi) (h_v2 : O5 v2) (h_v3 : O0 v3) : FR (fun q => To lo hi σ0 q.2) (b_X10_firstOrderThatMatters_39 n 33 5 v2 v3 v4 σ) (d_X10_firstOrderThatMatters_39 n v2 v3 v4 σ) := by
  unfold b_X10_firstOrderThatMatters_39 d_X10_firstOrderThatMatters_39
  refine FR_ck (lo9 t.1) ?_
  refine FR_ck (ln9_0 t.1) ?_
  refine FR_nmR (w := 34) (lr9_0 t.1) ?_
  refine FR_ck (lo4 t.1 (by decide)) ?_
  refine FR_ck (ln4_0 t.1 (by decide)) ?_
  refine FR_nmR (w := 35) (lr4_0 t.1 (by decide)) ?_
  refine FR_ck (lo0 t.1 (by decide)) ?_
  refine FR_bp (k_f_X0_become t (by decide) (by omega) h_v3) (fun σ95 t => ?_)
  refine FR_ck (lo9 t.1) ?_
  refine FR_ck (ln9_0 t.1) ?_
  refine FR_nmR (w := 34) (lr9_0 t.1) ?_
  refine FR_ck (lo4 t.1 (by decide)) ?_
  refine FR_bp (k_f_X5_startAfresh t (by decide) (by omega)) (fun σ101 t => ?_)
  refine FR_ck (lo9 t.1) ?_
  refine FR_ck (ln9_0 t.1) ?_
  refine FR_nmR (w := 34) (lr9_0 t.1) ?_
  refine FR_ck (lo4 t.1 (by decide)) ?_
  refine FR_bd (k_f_X5_perform t (by decide) (by omega) h_v2) (fun x108 σ107 t => ?_)
  refine FR_it (fun _ => ?_) (fun _ => ?_)
  · exact k_b_X10_firstOrderThatMatters_74 t (by omega) h_v2 h_v3
  · exact k_b_X10_firstOrderThatMatters_74 t (by omega) h_v2 h_v3
def d_X10_firstOrderThatMatters_6 : Nat → Nat → Nat → Int32 → Int32 → Sg → Option (Int32 × Sg)
  | 0, _, _, _, _, _ => none
  | n + 1, v2, v3, v4, v5, σ =>
  if (gI σ v3 1) ≤ v5 then (
    d_X10_firstOrderThatMatters_39 n v2 v3 v4 σ)
  else (
    ck (ix v5 6) <|
    nm (pI σ 68 v5.toNatClampNeg v5) fun σ172 =>
    nm (v4 * (v5 + (1 : Int32))) fun x173 =>
    nm (v5 + (1 : Int32)) fun x174 =>
    d_X10_firstOrderThatMatters_6 n v2 v3 x173 x174 σ172)
theorem k_b_X10_firstOrderThatMatters_6 {lo hi : Nat} {σ0 : Sg} : ∀ {n : Nat} {v2 : Nat} {v3 : Nat} {v4 : Int32} {v5 : Int32} {σ : Sg}, To lo hi σ0 σ → lo ≤ 33 ∧ 69 ≤ hi → O5 v2 → O0 v3 → FR (fun q => To lo hi σ0 q.2) (b_X10_firstOrderThatMatters_6 n 33 5 v2 v3 v4 v5 σ) (d_X10_firstOrderThatMatters_6 n v2 v3 v4 v5 σ) := by
  intro n
  induction n with
  | zero => intro v2 v3 v4 v5 σ t w_v0 h_v2 h_v3; exact FR_none
  | succ n ih =>
    intro v2 v3 v4 v5 σ t w_v0 h_v2 h_v3
    unfold b_X10_firstOrderThatMatters_6 d_X10_firstOrderThatMatters_6
    refine FR_ck (lo0 t.1 h_v3) ?_
    refine FR_it (fun _ => ?_) (fun _ => ?_)
    · exact k_b_X10_firstOrderThatMatters_39 t (by omega) h_v2 h_v3
    · refine FR_ck (lo9 t.1) ?_
      refine FR_ck (ln9_3 t.1) ?_
      refine FR_nmR (w := 68) (lr9_3 t.1) ?_
      refine FR_ckI (okW_iff t.1 (by decide : Ar 13 6 68)) (fun q659 => ?_)
      refine FR_nmS (To_pI t (by omega)) (fun σ172 t => ?_)
      refine FR_nm (fun x173 => ?_)
      refine FR_nm (fun x174 => ?_)
      exact ih t (by omega) h_v2 h_v3
def c_X10_firstOrderThatMatters (n : Nat) (v2 : Nat) (v3 : Nat) (σ : Sg) : Option (Int32 × Sg) :=
  d_X10_firstOrderThatMatters_6 n v2 v3 (1 : Int32) (0 : Int32) σ
theorem k_f_X10_firstOrderThatMatters {lo hi : Nat} {σ0 : Sg} {n : Nat} {v2 : Nat} {v3 : Nat} {σ : Sg} (t : To lo hi σ0 σ) (w_v0 : lo ≤ 33 ∧ 69 ≤ hi) (h_v2 : O5 v2) (h_v3 : O0 v3) : FR (fun q => To lo hi σ0 q.2) (f_X10_firstOrderThatMatters n 33 5 v2 v3 σ) (c_X10_firstOrderThatMatters n v2 v3 σ) := by
  unfold f_X10_firstOrderThatMatters c_X10_firstOrderThatMatters
  exact k_b_X10_firstOrderThatMatters_6 t (by omega) h_v2 h_v3
def c_X11_begin (n : Nat) (σ : Sg) : Option (Int32 × Sg) :=
  nm (pI σ 4 8 (0 : Int32)) fun σ29 =>
  nm (pI σ29 4 9 (0 : Int32)) fun σ31 =>
  nm (pI σ31 14 1 (0 : Int32)) fun σ36 =>
  bp (c_X8_reset n σ36) fun σ42 =>
  bp (c_X4_reset n 16 σ42) fun σ48 =>
  bp (c_X5_wipe n 20 σ48) fun σ54 =>
  some ((0 : Int32), σ54)
theorem k_f_X11_begin {lo hi : Nat} {σ0 : Sg} {n : Nat} {σ : Sg} (t : To lo hi σ0 σ) (w_v0 : lo ≤ 4 ∧ 130 ≤ hi) : FR (fun q => To lo hi σ0 q.2) (f_X11_begin n 4 σ) (c_X11_begin n σ) := by
  unfold f_X11_begin c_X11_begin
  refine FR_ck (lo10 t.1) ?_
  refine FR_nmS (To_pI t (by omega)) (fun σ29 t => ?_)
  refine FR_ck (lo10 t.1) ?_
  refine FR_nmS (To_pI t (by omega)) (fun σ31 t => ?_)
  refine FR_ck (lo10 t.1) ?_
  refine FR_ck (ln10_1 t.1) ?_
  refine FR_nmR (w := 14) (lr10_1 t.1) ?_
  refine FR_ck (lo0 t.1 (by decide)) ?_
  refine FR_nmS (To_pI t (by omega)) (fun σ36 t => ?_)
  refine FR_ck (lo10 t.1) ?_
  refine FR_ck (ln10_0 t.1) ?_
  refine FR_nmR (w := 5) (lr10_0 t.1) ?_
  refine FR_ck (lo7 t.1) ?_
  refine FR_bp (k_f_X8_reset t (by omega)) (fun σ42 t => ?_)
  refine FR_ck (lo10 t.1) ?_
  refine FR_ck (ln10_2 t.1) ?_
  refine FR_nmR (w := 16) (lr10_2 t.1) ?_
  refine FR_ck (lo3 t.1 (by decide)) ?_
  refine FR_bp (k_f_X4_reset t (by decide) (by omega)) (fun σ48 t => ?_)
  refine FR_ck (lo10 t.1) ?_
  refine FR_ck (ln10_5 t.1) ?_
  refine FR_nmR (w := 20) (lr10_5 t.1) ?_
  refine FR_ck (lo4 t.1 (by decide)) ?_
  refine FR_bp (k_f_X5_wipe t (by decide) (by omega)) (fun σ54 t => ?_)
  exact FR_some t
def c_X11_rate (v1 : Int32) (v2 : Int32) (v3 : Int32) (σ : Sg) : Option (Int32 × Sg) :=
  bp (f_X11_isRate v1) fun x20 =>
  if x20 = 0 then (
    some ((-1 : Int32), σ))
  else (
    if v2 < 0 then (
      some ((-1 : Int32), σ))
    else (
      if (10000 : Int32) < v2 then (
        some ((-1 : Int32), σ))
      else (
        if v3 < (1 : Int32) then (
          some ((-1 : Int32), σ))
        else (
          if v3 ≤ (1000 : Int32) then (
            ck (ix v1 8) <|
            nm (pI σ 6 v1.toNatClampNeg v2) fun σ33 =>
            ck (ix v1 8) <|
            nm (pI σ33 7 v1.toNatClampNeg v3) fun σ41 =>
            some ((0 : Int32), σ41))
          else (
            some ((-1 : Int32), σ))))))
theorem k_f_X11_rate {lo hi : Nat} {σ0 : Sg} {v1 : Int32} {v2 : Int32} {v3 : Int32} {σ : Sg} (t : To lo hi σ0 σ) (w_v0 : lo ≤ 4 ∧ 130 ≤ hi) : FR (fun q => To lo hi σ0 q.2) (f_X11_rate 4 v1 v2 v3 σ) (c_X11_rate v1 v2 v3 σ) := by
  unfold f_X11_rate c_X11_rate
  refine FR_nmP (fun x20 => ?_)
  refine FR_it (fun _ => ?_) (fun _ => ?_)
  · exact FR_some t
  · refine FR_it (fun _ => ?_) (fun _ => ?_)
    · exact FR_some t
    · refine FR_it (fun _ => ?_) (fun _ => ?_)
      · exact FR_some t
      · refine FR_it (fun _ => ?_) (fun _ => ?_)
        · exact FR_some t
        · refine FR_it (fun _ => ?_) (fun _ => ?_)
          · refine FR_ck (lo10 t.1) ?_
            refine FR_ck (ln10_0 t.1) ?_
            refine FR_nmR (w := 5) (lr10_0 t.1) ?_
            refine FR_ck (lo7 t.1) ?_
            refine FR_ck (ln7_0 t.1) ?_
            refine FR_nmR (w := 6) (lr7_0 t.1) ?_
            refine FR_ckI (okW_iff t.1 (by decide : Ar 13 8 6)) (fun q678 => ?_)
            refine FR_nmS (To_pI t (by omega)) (fun σ33 t => ?_)
            refine FR_ck (lo10 t.1) ?_
            refine FR_ck (ln10_0 t.1) ?_
            refine FR_nmR (w := 5) (lr10_0 t.1) ?_
            refine FR_ck (lo7 t.1) ?_
            refine FR_ck (ln7_1 t.1) ?_
            refine FR_nmR (w := 7) (lr7_1 t.1) ?_
            refine FR_ckI (okW_iff t.1 (by decide : Ar 13 8 7)) (fun q683 => ?_)
            refine FR_nmS (To_pI t (by omega)) (fun σ41 t => ?_)
            exact FR_some t
          · exact FR_some t
def c_X11_line (v1 : Int32) (σ : Sg) : Option (Int32 × Sg) :=
  bp (f_X11_isLine (v1.toInt64)) fun x27 =>
  if x27 = 0 then (
    some ((-1 : Int32), σ))
  else (
    if (gI σ 14 1) < (12 : Int32) then (
      ck (ix (gI σ 14 1) 12) <|
      nm (pI σ 15 (gI σ 14 1).toNatClampNeg v1) fun σ41 =>
      nm (pI σ41 14 1 ((gI σ41 14 1) + (1 : Int32))) fun σ46 =>
      some (gI σ46 14 1, σ46))
    else (
      some ((-2 : Int32), σ)))
theorem k_f_X11_line {lo hi : Nat} {σ0 : Sg} {v1 : Int32} {σ : Sg} (t : To lo hi σ0 σ) (w_v0 : lo ≤ 4 ∧ 130 ≤ hi) : FR (fun q => To lo hi σ0 q.2) (f_X11_line 4 v1 σ) (c_X11_line v1 σ) := by
  unfold f_X11_line c_X11_line
  refine FR_nmP (fun x27 => ?_)
  refine FR_it (fun _ => ?_) (fun _ => ?_)
  · exact FR_some t
  · refine FR_ck (lo10 t.1) ?_
    refine FR_ck (ln10_1 t.1) ?_
    refine FR_nmR (w := 14) (lr10_1 t.1) ?_
    refine FR_ck (lo0 t.1 (by decide)) ?_
    refine FR_it (fun _ => ?_) (fun _ => ?_)
    · refine FR_nmR (w := 14) (lr10_1 t.1) ?_
      refine FR_ck (lo0 t.1 (by decide)) ?_
      refine FR_ck (ln0_0 t.1 (by decide)) ?_
      refine FR_nmR (w := 15) (lr0_0 t.1 (by decide)) ?_
      refine FR_nmR (w := 14) (lr10_1 t.1) ?_
      refine FR_ck (lo0 t.1 (by decide)) ?_
      refine FR_ckI (okW_iff t.1 (by decide : Ar 13 12 15)) (fun q690 => ?_)
      refine FR_nmS (To_pI t (by omega)) (fun σ41 t => ?_)
      refine FR_ck (lo10 t.1) ?_
      refine FR_ck (ln10_1 t.1) ?_
      refine FR_nmR (w := 14) (lr10_1 t.1) ?_
      refine FR_ck (lo0 t.1 (by decide)) ?_
      refine FR_nmS (To_pI t (by omega)) (fun σ46 t => ?_)
      refine FR_ck (lo10 t.1) ?_
      refine FR_ck (ln10_1 t.1) ?_
      refine FR_nmR (w := 14) (lr10_1 t.1) ?_
      refine FR_ck (lo0 t.1 (by decide)) ?_
      exact FR_some t
    · exact FR_some t
def c_X11_bare (σ : Sg) : Option (Int32 × Sg) :=
  nm (gI σ 14 1) fun x13 =>
  nm (pI σ 14 1 (0 : Int32)) fun σ16 =>
  some (x13, σ16)
theorem k_f_X11_bare {lo hi : Nat} {σ0 : Sg} {σ : Sg} (t : To lo hi σ0 σ) (w_v0 : lo ≤ 4 ∧ 130 ≤ hi) : FR (fun q => To lo hi σ0 q.2) (f_X11_bare 4 σ) (c_X11_bare σ) := by
  unfold f_X11_bare c_X11_bare
  refine FR_ck (lo10 t.1) ?_
  refine FR_ck (ln10_1 t.1) ?_
  refine FR_nmR (w := 14) (lr10_1 t.1) ?_
  refine FR_ck (lo0 t.1 (by decide)) ?_
  refine FR_nm (fun x13 => ?_)
  refine FR_nmR (w := 14) (lr10_1 t.1) ?_
  refine FR_ck (lo0 t.1 (by decide)) ?_
  refine FR_nmS (To_pI t (by omega)) (fun σ16 t => ?_)
  exact FR_some t
def c_X11_weight (v1 : Int32) (v2 : Int32) (σ : Sg) : Option (Int32 × Sg) :=
  if v1 < 0 then (
    some ((-1 : Int32), σ))
  else (
    if (4 : Int32) ≤ v1 then (
      some ((-1 : Int32), σ))
    else (
      if v2 < (-1 : Int32) then (
        some ((-1 : Int32), σ))
      else (
        if v2 ≤ (1000 : Int32) then (
          if v2 = (-1 : Int32) then (
            ck (ix v1 4) <|
            nm (pI σ 13 v1.toNatClampNeg (0 : Int32)) fun σ98 =>
            some ((0 : Int32), σ98))
          else (
            ck (ix v1 4) <|
            if (gI σ 13 v1.toNatClampNeg) < (8 : Int32) then (
              ck (ix v1 4) <|
              ck (ix v1 4) <|
              ck (ix (gI σ 13 v1.toNatClampNeg) 8) <|
              nm (pI σ (v1.toNatClampNeg + 9) (gI σ 13 v1.toNatClampNeg).toNatClampNeg v2) fun σ74 =>
              ck (ix v1 4) <|
              ck (ix v1 4) <|
              nm (pI σ74 13 v1.toNatClampNeg ((gI σ74 13 v1.toNatClampNeg) + (1 : Int32))) fun σ83 =>
              ck (ix v1 4) <|
              some (gI σ83 13 v1.toNatClampNeg, σ83))
            else (
              some ((-2 : Int32), σ))))
        else (
          some ((-1 : Int32), σ)))))
theorem k_f_X11_weight {lo hi : Nat} {σ0 : Sg} {v1 : Int32} {v2 : Int32} {σ : Sg} (t : To lo hi σ0 σ) (w_v0 : lo ≤ 4 ∧ 130 ≤ hi) : FR (fun q => To lo hi σ0 q.2) (f_X11_weight 4 v1 v2 σ) (c_X11_weight v1 v2 σ) := by
  unfold f_X11_weight c_X11_weight
  refine FR_it (fun _ => ?_) (fun _ => ?_)
  · exact FR_some t
  · refine FR_it (fun _ => ?_) (fun _ => ?_)
    · exact FR_some t
    · refine FR_it (fun _ => ?_) (fun _ => ?_)
      · exact FR_some t
      · refine FR_it (fun _ => ?_) (fun _ => ?_)
        · refine FR_it (fun _ => ?_) (fun _ => ?_)
          · refine FR_ck (lo10 t.1) ?_
            refine FR_ck (ln10_0 t.1) ?_
            refine FR_nmR (w := 5) (lr10_0 t.1) ?_
            refine FR_ck (lo7 t.1) ?_
            refine FR_ck (ln7_3 t.1) ?_
            refine FR_nmR (w := 13) (lr7_3 t.1) ?_
            refine FR_ckI (okW_iff t.1 (by decide : Ar 13 4 13)) (fun q705 => ?_)
            refine FR_nmS (To_pI t (by omega)) (fun σ98 t => ?_)
            exact FR_some t
          · refine FR_ck (lo10 t.1) ?_
            refine FR_ck (ln10_0 t.1) ?_
            refine FR_nmR (w := 5) (lr10_0 t.1) ?_
            refine FR_ck (lo7 t.1) ?_
            refine FR_ck (ln7_3 t.1) ?_
            refine FR_nmR (w := 13) (lr7_3 t.1) ?_
            refine FR_ckI (okA_iff t.1 (by decide : Ar 13 4 13)) (fun q710 => ?_)
            refine FR_it (fun _ => ?_) (fun _ => ?_)
            · refine FR_nmR (w := 5) (lr10_0 t.1) ?_
              refine FR_ck (lo7 t.1) ?_
              refine FR_ck (ln7_2 t.1) ?_
              refine FR_nmR (w := 8) (lr7_2 t.1) ?_
              refine FR_ckI (okA_iff t.1 (by decide : Ar 18 4 8)) (fun q713 => ?_)
              refine FR_ck (lne18 t.1 (ixl q713)) ?_
              have q715 := ixl q713
              refine FR_nmR (w := (v1.toNatClampNeg + 9)) (lre18 t.1 q715) ?_
              refine FR_nmR (w := 5) (lr10_0 t.1) ?_
              refine FR_ck (lo7 t.1) ?_
              refine FR_ck (ln7_3 t.1) ?_
              refine FR_nmR (w := 13) (lr7_3 t.1) ?_
              refine FR_ckI (okA_iff t.1 (by decide : Ar 13 4 13)) (fun q718 => ?_)
              refine FR_ckI (okW_iff t.1 (e18 q715)) (fun q719 => ?_)
              refine FR_nmS (To_pI t (by omega)) (fun σ74 t => ?_)
              refine FR_ck (lo10 t.1) ?_
              refine FR_ck (ln10_0 t.1) ?_
              refine FR_nmR (w := 5) (lr10_0 t.1) ?_
              refine FR_ck (lo7 t.1) ?_
              refine FR_ck (ln7_3 t.1) ?_
              refine FR_nmR (w := 13) (lr7_3 t.1) ?_
              refine FR_ckI (okA_iff t.1 (by decide : Ar 13 4 13)) (fun q724 => ?_)
              refine FR_ckI (okW_iff t.1 (by decide : Ar 13 4 13)) (fun q725 => ?_)
              refine FR_nmS (To_pI t (by omega)) (fun σ83 t => ?_)
              refine FR_ck (lo10 t.1) ?_
              refine FR_ck (ln10_0 t.1) ?_
              refine FR_nmR (w := 5) (lr10_0 t.1) ?_
              refine FR_ck (lo7 t.1) ?_
              refine FR_ck (ln7_3 t.1) ?_
              refine FR_nmR (w := 13) (lr7_3 t.1) ?_
              refine FR_ckI (okA_iff t.1 (by decide : Ar 13 4 13)) (fun q730 => ?_)
              exact FR_some t
            · exact FR_some t
        · exact FR_some t
def c_X11_program (σ : Sg) : Option (Int32 × Sg) :=
  if (gI σ 4 8) < (4 : Int32) then (
    ck (ix (gI σ 4 8) 4) <|
    bp (c_X6_reset (5 * (gI σ 4 8).toNatClampNeg + 74) σ) fun σ23 =>
    nm (pI σ23 4 8 ((gI σ23 4 8) + (1 : Int32))) fun σ25 =>
    some ((gI σ25 4 8) - (1 : Int32), σ25))
  else (
    some ((-2 : Int32), σ))
theorem k_f_X11_program {lo hi : Nat} {σ0 : Sg} {σ : Sg} (t : To lo hi σ0 σ) (w_v0 : lo ≤ 4 ∧ 130 ≤ hi) : FR (fun q => To lo hi σ0 q.2) (f_X11_program 4 σ) (c_X11_program σ) := by
  unfold f_X11_program c_X11_program
  refine FR_ck (lo10 t.1) ?_
  refine FR_it (fun _ => ?_) (fun _ => ?_)
  · refine FR_ck (ln10_3 t.1) ?_
    refine FR_nmR (w := 18) (lr10_3 t.1) ?_
    refine FR_ckI (okA_iff t.1 (by decide : Ar 16 4 18)) (fun q733 => ?_)
    refine FR_ck (lne16 t.1 (ixl q733)) ?_
    have q735 := ixl q733
    refine FR_nmR (w := (5 * (gI σ 4 8).toNatClampNeg + 74)) (lre16 t.1 q735) ?_
    refine FR_ck (lo5 t.1 (e5 q735)) ?_
    refine FR_bp (k_f_X6_reset t (e5 q735) (by omega)) (fun σ23 t => ?_)
    refine FR_ck (lo10 t.1) ?_
    refine FR_nmS (To_pI t (by omega)) (fun σ25 t => ?_)
    refine FR_ck (lo10 t.1) ?_
    exact FR_some t
  · exact FR_some t
def d_X11_isProgram_16 (σ : Sg) : Option Int32 :=
  some (0 : Int32)
theorem k_b_X11_isProgram_16 {lo hi : Nat} {σ0 : Sg} {σ : Sg} (t : To lo hi σ0 σ) : FR (fun _ => True) (b_X11_isProgram_16 σ) (d_X11_isProgram_16 σ) := by
  unfold b_X11_isProgram_16 d_X11_isProgram_16
  exact FR_some trivial
def c_X11_isProgram (v1 : Int32) (σ : Sg) : Option Int32 :=
  if v1 < 0 then (
    d_X11_isProgram_16 σ)
  else (
    if (gI σ 4 8) ≤ v1 then (
      d_X11_isProgram_16 σ)
    else (
      some (1 : Int32)))
theorem k_f_X11_isProgram {lo hi : Nat} {σ0 : Sg} {v1 : Int32} {σ : Sg} (t : To lo hi σ0 σ) : FR (fun _ => True) (f_X11_isProgram 4 v1 σ) (c_X11_isProgram v1 σ) := by
  unfold f_X11_isProgram c_X11_isProgram
  refine FR_it (fun _ => ?_) (fun _ => ?_)
  · exact k_b_X11_isProgram_16 t
  · refine FR_ck (lo10 t.1) ?_
    refine FR_it (fun _ => ?_) (fun _ => ?_)
    · exact k_b_X11_isProgram_16 t
    · exact FR_some trivial
def d_X11_fits_35 (σ : Sg) : Option Int32 :=
  some (0 : Int32)
theorem k_b_X11_fits_35 {lo hi : Nat} {σ0 : Sg} {σ : Sg} (t : To lo hi σ0 σ) : FR (fun _ => True) (b_X11_fits_35 σ) (d_X11_fits_35 σ) := by
  unfold b_X11_fits_35 d_X11_fits_35
  exact FR_some trivial
def c_X11_fits (v0 : Int32) (v1 : Int32) (v2 : Int32) (σ : Sg) : Option Int32 :=
  if v1 < 0 then (
    d_X11_fits_35 σ)
  else (
    ck (ix v0 13) <|
    if (gI σ 1 v0.toNatClampNeg) < v1 then (
      d_X11_fits_35 σ)
    else (
      ck (ix v0 13) <|
      if v2 < (gI σ 2 v0.toNatClampNeg) then (
        d_X11_fits_35 σ)
      else (
        ck (ix v0 13) <|
        if (gI σ 3 v0.toNatClampNeg) < v2 then (
          d_X11_fits_35 σ)
        else (
          some (1 : Int32)))))
theorem k_f_X11_fits {lo hi : Nat} {σ0 : Sg} {v0 : Int32} {v1 : Int32} {v2 : Int32} {σ : Sg} (t : To lo hi σ0 σ) : FR (fun _ => True) (f_X11_fits v0 v1 v2 σ) (c_X11_fits v0 v1 v2 σ) := by
  unfold f_X11_fits c_X11_fits
  refine FR_it (fun _ => ?_) (fun _ => ?_)
  · exact k_b_X11_fits_35 t
  · refine FR_ckI (okA_old t.1 (by decide)) (fun q740 => ?_)
    refine FR_it (fun _ => ?_) (fun _ => ?_)
    · exact k_b_X11_fits_35 t
    · refine FR_ckI (okA_old t.1 (by decide)) (fun q741 => ?_)
      refine FR_it (fun _ => ?_) (fun _ => ?_)
      · exact k_b_X11_fits_35 t
      · refine FR_ckI (okA_old t.1 (by decide)) (fun q742 => ?_)
        refine FR_it (fun _ => ?_) (fun _ => ?_)
        · exact k_b_X11_fits_35 t
        · exact FR_some trivial
def c_X11_act (v1 : Int32) (v2 : Int32) (v3 : Int32) (v4 : Int32) (v5 : Int32) (σ : Sg) : Option (Int32 × Sg) :=
  bp (c_X11_isProgram v1 σ) fun x40 =>
  if x40 = 0 then (
    some ((-1 : Int32), σ))
  else (
    if v2 < 0 then (
      some ((-1 : Int32), σ))
    else (
      if (12 : Int32) < v2 then (
        some ((-1 : Int32), σ))
      else (
        bp (f_X11_isSlot v3) fun x45 =>
        if x45 = 0 then (
          some ((-1 : Int32), σ))
        else (
          bp (c_X11_fits v2 v4 v5 σ) fun x48 =>
          if x48 = 0 then (
            some ((-1 : Int32), σ))
          else (
            ck (ix v1 4) <|
            if (gI σ (5 * v1.toNatClampNeg + 74) 4) < (20 : Int32) then (
              ck (ix (gI σ (5 * v1.toNatClampNeg + 74) 4) 20) <|
              nm (pI σ (5 * v1.toNatClampNeg + 75) (gI σ (5 * v1.toNatClampNeg + 74) 4).toNatClampNeg v2) fun σ60 =>
              ck (ix (gI σ60 (5 * v1.toNatClampNeg + 74) 4) 20) <|
              nm (pI σ60 (5 * v1.toNatClampNeg + 76) (gI σ60 (5 * v1.toNatClampNeg + 74) 4).toNatClampNeg v3) fun σ65 =>
              ck (ix (gI σ65 (5 * v1.toNatClampNeg + 74) 4) 20) <|
              nm (pI σ65 (5 * v1.toNatClampNeg + 77) (gI σ65 (5 * v1.toNatClampNeg + 74) 4).toNatClampNeg v4) fun σ70 =>
              ck (ix (gI σ70 (5 * v1.toNatClampNeg + 74) 4) 20) <|
              nm (pI σ70 (5 * v1.toNatClampNeg + 78) (gI σ70 (5 * v1.toNatClampNeg + 74) 4).toNatClampNeg v5) fun σ75 =>
              nm (pI σ75 (5 * v1.toNatClampNeg + 74) 4 ((gI σ75 (5 * v1.toNatClampNeg + 74) 4) + (1 : Int32))) fun σ77 =>
              some (gI σ77 (5 * v1.toNatClampNeg + 74) 4, σ77))
            else (
              some ((-2 : Int32), σ)))))))
theorem k_f_X11_act {lo hi : Nat} {σ0 : Sg} {v1 : Int32} {v2 : Int32} {v3 : Int32} {v4 : Int32} {v5 : Int32} {σ : Sg} (t : To lo hi σ0 σ) (w_v0 : lo ≤ 4 ∧ 130 ≤ hi) : FR (fun q => To lo hi σ0 q.2) (f_X11_act 4 v1 v2 v3 v4 v5 σ) (c_X11_act v1 v2 v3 v4 v5 σ) := by
  unfold f_X11_act c_X11_act
  refine FR_ck (lo10 t.1) ?_
  refine FR_bpP (k_f_X11_isProgram t).1 (fun x40 => ?_)
  refine FR_it (fun _ => ?_) (fun _ => ?_)
  · exact FR_some t
  · refine FR_it (fun _ => ?_) (fun _ => ?_)
    · exact FR_some t
    · refine FR_it (fun _ => ?_) (fun _ => ?_)
      · exact FR_some t
      · refine FR_nmP (fun x45 => ?_)
        refine FR_it (fun _ => ?_) (fun _ => ?_)
        · exact FR_some t
        · refine FR_bpP (k_f_X11_fits t).1 (fun x48 => ?_)
          refine FR_it (fun _ => ?_) (fun _ => ?_)
          · exact FR_some t
          · refine FR_ck (ln10_3 t.1) ?_
            refine FR_nmR (w := 18) (lr10_3 t.1) ?_
            refine FR_ckI (okA_iff t.1 (by decide : Ar 16 4 18)) (fun q745 => ?_)
            refine FR_ck (lne16 t.1 (ixl q745)) ?_
            have q747 := ixl q745
            refine FR_nmR (w := (5 * v1.toNatClampNeg + 74)) (lre16 t.1 q747) ?_
            refine FR_ck (lo5 t.1 (e5 q747)) ?_
            refine FR_it (fun _ => ?_) (fun _ => ?_)
            · refine FR_ck (ln5_0 t.1 (e5 q747)) ?_
              refine FR_nmR (w := (5 * v1.toNatClampNeg + 75)) (lr5_0 t.1 (e5 q747)) ?_
              refine FR_ckI (okW_iff t.1 (ar5_0 (e5 q747))) (fun q750 => ?_)
              refine FR_nmS (To_pI t (by omega)) (fun σ60 t => ?_)
              refine FR_ck (lo5 t.1 (e5 q747)) ?_
              refine FR_ck (ln5_1 t.1 (e5 q747)) ?_
              refine FR_nmR (w := (5 * v1.toNatClampNeg + 76)) (lr5_1 t.1 (e5 q747)) ?_
              refine FR_ckI (okW_iff t.1 (ar5_1 (e5 q747))) (fun q753 => ?_)
              refine FR_nmS (To_pI t (by omega)) (fun σ65 t => ?_)
              refine FR_ck (lo5 t.1 (e5 q747)) ?_
              refine FR_ck (ln5_2 t.1 (e5 q747)) ?_
              refine FR_nmR (w := (5 * v1.toNatClampNeg + 77)) (lr5_2 t.1 (e5 q747)) ?_
              refine FR_ckI (okW_iff t.1 (ar5_2 (e5 q747))) (fun q756 => ?_)
              refine FR_nmS (To_pI t (by omega)) (fun σ70 t => ?_)
              refine FR_ck (lo5 t.1 (e5 q747)) ?_
              refine FR_ck (ln5_3 t.1 (e5 q747)) ?_
              refine FR_nmR (w := (5 * v1.toNatClampNeg + 78)) (lr5_3 t.1 (e5 q747)) ?_
              refine FR_ckI (okW_iff t.1 (ar5_3 (e5 q747))) (fun q759 => ?_)
              refine FR_nmS (To_pI t (by omega)) (fun σ75 t => ?_)
              refine FR_ck (lo5 t.1 (e5 q747)) ?_
              refine FR_nmS (To_pI t (by omega)) (fun σ77 t => ?_)
              refine FR_ck (lo5 t.1 (e5 q747)) ?_
              exact FR_some t
            · exact FR_some t
def d_X11_isAct_29 (σ : Sg) : Option Int32 :=
  some (0 : Int32)
theorem k_b_X11_isAct_29 {lo hi : Nat} {σ0 : Sg} {σ : Sg} (t : To lo hi σ0 σ) : FR (fun _ => True) (b_X11_isAct_29 σ) (d_X11_isAct_29 σ) := by
  unfold b_X11_isAct_29 d_X11_isAct_29
  exact FR_some trivial
def c_X11_isAct (v1 : Int32) (v2 : Int32) (σ : Sg) : Option Int32 :=
  bp (c_X11_isProgram v1 σ) fun x13 =>
  if x13 = 0 then (
    d_X11_isAct_29 σ)
  else (
    if v2 < 0 then (
      d_X11_isAct_29 σ)
    else (
      ck (ix v1 4) <|
      if (gI σ (5 * v1.toNatClampNeg + 74) 4) ≤ v2 then (
        d_X11_isAct_29 σ)
      else (
        some (1 : Int32))))
theorem k_f_X11_isAct {lo hi : Nat} {σ0 : Sg} {v1 : Int32} {v2 : Int32} {σ : Sg} (t : To lo hi σ0 σ) : FR (fun _ => True) (f_X11_isAct 4 v1 v2 σ) (c_X11_isAct v1 v2 σ) := by
  unfold f_X11_isAct c_X11_isAct
  refine FR_ck (lo10 t.1) ?_
  refine FR_bpP (k_f_X11_isProgram t).1 (fun x13 => ?_)
  refine FR_it (fun _ => ?_) (fun _ => ?_)
  · exact k_b_X11_isAct_29 t
  · refine FR_it (fun _ => ?_) (fun _ => ?_)
    · exact k_b_X11_isAct_29 t
    · refine FR_ck (ln10_3 t.1) ?_
      refine FR_nmR (w := 18) (lr10_3 t.1) ?_
      refine FR_ckI (okA_iff t.1 (by decide : Ar 16 4 18)) (fun q764 => ?_)
      refine FR_ck (lne16 t.1 (ixl q764)) ?_
      have q766 := ixl q764
      refine FR_nmR (w := (5 * v1.toNatClampNeg + 74)) (lre16 t.1 q766) ?_
      refine FR_ck (lo5 t.1 (e5 q766)) ?_
      refine FR_it (fun _ => ?_) (fun _ => ?_)
      · exact k_b_X11_isAct_29 t
      · exact FR_some trivial
def c_X11_set (v1 : Int32) (v2 : Int32) (v3 : Int32) (v4 : Int32) (σ : Sg) : Option (Int32 × Sg) :=
  bp (c_X11_isAct v1 v2 σ) fun x40 =>
  if x40 = 0 then (
    some ((-1 : Int32), σ))
  else (
    ck (ix v1 4) <|
    ck (ix v2 20) <|
    bp (c_X11_fits (gI σ (5 * v1.toNatClampNeg + 75) v2.toNatClampNeg) v3 v4 σ) fun x52 =>
    if x52 = 0 then (
      some ((-1 : Int32), σ))
    else (
      ck (ix v1 4) <|
      ck (ix v2 20) <|
      nm (pI σ (5 * v1.toNatClampNeg + 77) v2.toNatClampNeg v3) fun σ62 =>
      ck (ix v1 4) <|
      ck (ix v2 20) <|
      nm (pI σ62 (5 * v1.toNatClampNeg + 78) v2.toNatClampNeg v4) fun σ73 =>
      some ((0 : Int32), σ73)))
theorem k_f_X11_set {lo hi : Nat} {σ0 : Sg} {v1 : Int32} {v2 : Int32} {v3 : Int32} {v4 : Int32} {σ : Sg} (t : To lo hi σ0 σ) (w_v0 : lo ≤ 4 ∧ 130 ≤ hi) : FR (fun q => To lo hi σ0 q.2) (f_X11_set 4 v1 v2 v3 v4 σ) (c_X11_set v1 v2 v3 v4 σ) := by
  unfold f_X11_set c_X11_set
  refine FR_ck (lo10 t.1) ?_
  refine FR_bpP (k_f_X11_isAct t).1 (fun x40 => ?_)
  refine FR_it (fun _ => ?_) (fun _ => ?_)
  · exact FR_some t
  · refine FR_ck (ln10_3 t.1) ?_
    refine FR_nmR (w := 18) (lr10_3 t.1) ?_
    refine FR_ckI (okA_iff t.1 (by decide : Ar 16 4 18)) (fun q770 => ?_)
    refine FR_ck (lne16 t.1 (ixl q770)) ?_
    have q772 := ixl q770
    refine FR_nmR (w := (5 * v1.toNatClampNeg + 74)) (lre16 t.1 q772) ?_
    refine FR_ck (lo5 t.1 (e5 q772)) ?_
    refine FR_ck (ln5_0 t.1 (e5 q772)) ?_
    refine FR_nmR (w := (5 * v1.toNatClampNeg + 75)) (lr5_0 t.1 (e5 q772)) ?_
    refine FR_ckI (okA_iff t.1 (ar5_0 (e5 q772))) (fun q775 => ?_)
    refine FR_bpP (k_f_X11_fits t).1 (fun x52 => ?_)
    refine FR_it (fun _ => ?_) (fun _ => ?_)
    · exact FR_some t
    · refine FR_nmR (w := 18) (lr10_3 t.1) ?_
      refine FR_ckI (okA_iff t.1 (by decide : Ar 16 4 18)) (fun q776 => ?_)
      refine FR_ck (lne16 t.1 (ixl q776)) ?_
      have q778 := ixl q776
      refine FR_nmR (w := (5 * v1.toNatClampNeg + 74)) (lre16 t.1 q778) ?_
      refine FR_ck (lo5 t.1 (e5 q778)) ?_
      refine FR_ck (ln5_2 t.1 (e5 q778)) ?_
      refine FR_nmR (w := (5 * v1.toNatClampNeg + 77)) (lr5_2 t.1 (e5 q778)) ?_
      refine FR_ckI (okW_iff t.1 (ar5_2 (e5 q778))) (fun q781 => ?_)
      refine FR_nmS (To_pI t (by omega)) (fun σ62 t => ?_)
      refine FR_ck (lo10 t.1) ?_
      refine FR_ck (ln10_3 t.1) ?_
      refine FR_nmR (w := 18) (lr10_3 t.1) ?_
      refine FR_ckI (okA_iff t.1 (by decide : Ar 16 4 18)) (fun q784 => ?_)
      refine FR_ck (lne16 t.1 (ixl q784)) ?_
      have q786 := ixl q784
      refine FR_nmR (w := (5 * v1.toNatClampNeg + 74)) (lre16 t.1 q786) ?_
      refine FR_ck (lo5 t.1 (e5 q786)) ?_
      refine FR_ck (ln5_3 t.1 (e5 q786)) ?_
      refine FR_nmR (w := (5 * v1.toNatClampNeg + 78)) (lr5_3 t.1 (e5 q786)) ?_
      refine FR_ckI (okW_iff t.1 (ar5_3 (e5 q786))) (fun q789 => ?_)
      refine FR_nmS (To_pI t (by omega)) (fun σ73 t => ?_)
      exact FR_some t
def c_X11_told (v1 : Int32) (v2 : Int32) (v3 : Int32) (σ : Sg) : Option Int32 :=
  bp (c_X11_isAct v1 v2 σ) fun x46 =>
  if x46 = 0 then (
    some (-1 : Int32))
  else (
    if v3 = 0 then (
      ck (ix v1 4) <|
      ck (ix v2 20) <|
      some (gI σ (5 * v1.toNatClampNeg + 75) v2.toNatClampNeg))
    else (
      if v3 = 1 then (
        ck (ix v1 4) <|
        ck (ix v2 20) <|
        some (gI σ (5 * v1.toNatClampNeg + 76) v2.toNatClampNeg))
      else (
        if v3 = 2 then (
          ck (ix v1 4) <|
          ck (ix v2 20) <|
          some (gI σ (5 * v1.toNatClampNeg + 77) v2.toNatClampNeg))
        else (
          if v3 = 3 then (
            ck (ix v1 4) <|
            ck (ix v2 20) <|
            some (gI σ (5 * v1.toNatClampNeg + 78) v2.toNatClampNeg))
          else (
            some (-1 : Int32))))))
theorem k_f_X11_told {lo hi : Nat} {σ0 : Sg} {v1 : Int32} {v2 : Int32} {v3 : Int32} {σ : Sg} (t : To lo hi σ0 σ) : FR (fun _ => True) (f_X11_told 4 v1 v2 v3 σ) (c_X11_told v1 v2 v3 σ) := by
  unfold f_X11_told c_X11_told
  refine FR_ck (lo10 t.1) ?_
  refine FR_bpP (k_f_X11_isAct t).1 (fun x46 => ?_)
  refine FR_it (fun _ => ?_) (fun _ => ?_)
  · exact FR_some trivial
  · refine FR_it (fun _ => ?_) (fun _ => ?_)
    · refine FR_ck (ln10_3 t.1) ?_
      refine FR_nmR (w := 18) (lr10_3 t.1) ?_
      refine FR_ckI (okA_iff t.1 (by decide : Ar 16 4 18)) (fun q792 => ?_)
      refine FR_ck (lne16 t.1 (ixl q792)) ?_
      have q794 := ixl q792
      refine FR_nmR (w := (5 * v1.toNatClampNeg + 74)) (lre16 t.1 q794) ?_
      refine FR_ck (lo5 t.1 (e5 q794)) ?_
      refine FR_ck (ln5_0 t.1 (e5 q794)) ?_
      refine FR_nmR (w := (5 * v1.toNatClampNeg + 75)) (lr5_0 t.1 (e5 q794)) ?_
      refine FR_ckI (okA_iff t.1 (ar5_0 (e5 q794))) (fun q797 => ?_)
      exact FR_some trivial
    · refine FR_it (fun _ => ?_) (fun _ => ?_)
      · refine FR_ck (ln10_3 t.1) ?_
        refine FR_nmR (w := 18) (lr10_3 t.1) ?_
        refine FR_ckI (okA_iff t.1 (by decide : Ar 16 4 18)) (fun q799 => ?_)
        refine FR_ck (lne16 t.1 (ixl q799)) ?_
        have q801 := ixl q799
        refine FR_nmR (w := (5 * v1.toNatClampNeg + 74)) (lre16 t.1 q801) ?_
        refine FR_ck (lo5 t.1 (e5 q801)) ?_
        refine FR_ck (ln5_1 t.1 (e5 q801)) ?_
        refine FR_nmR (w := (5 * v1.toNatClampNeg + 76)) (lr5_1 t.1 (e5 q801)) ?_
        refine FR_ckI (okA_iff t.1 (ar5_1 (e5 q801))) (fun q804 => ?_)
        exact FR_some trivial
      · refine FR_it (fun _ => ?_) (fun _ => ?_)
        · refine FR_ck (ln10_3 t.1) ?_
          refine FR_nmR (w := 18) (lr10_3 t.1) ?_
          refine FR_ckI (okA_iff t.1 (by decide : Ar 16 4 18)) (fun q806 => ?_)
          refine FR_ck (lne16 t.1 (ixl q806)) ?_
          have q808 := ixl q806
          refine FR_nmR (w := (5 * v1.toNatClampNeg + 74)) (lre16 t.1 q808) ?_
          refine FR_ck (lo5 t.1 (e5 q808)) ?_
          refine FR_ck (ln5_2 t.1 (e5 q808)) ?_
          refine FR_nmR (w := (5 * v1.toNatClampNeg + 77)) (lr5_2 t.1 (e5 q808)) ?_
          refine FR_ckI (okA_iff t.1 (ar5_2 (e5 q808))) (fun q811 => ?_)
          exact FR_some trivial
        · refine FR_it (fun _ => ?_) (fun _ => ?_)
          · refine FR_ck (ln10_3 t.1) ?_
            refine FR_nmR (w := 18) (lr10_3 t.1) ?_
            refine FR_ckI (okA_iff t.1 (by decide : Ar 16 4 18)) (fun q813 => ?_)
            refine FR_ck (lne16 t.1 (ixl q813)) ?_
            have q815 := ixl q813
            refine FR_nmR (w := (5 * v1.toNatClampNeg + 74)) (lre16 t.1 q815) ?_
            refine FR_ck (lo5 t.1 (e5 q815)) ?_
            refine FR_ck (ln5_3 t.1 (e5 q815)) ?_
            refine FR_nmR (w := (5 * v1.toNatClampNeg + 78)) (lr5_3 t.1 (e5 q815)) ?_
            refine FR_ckI (okA_iff t.1 (ar5_3 (e5 q815))) (fun q818 => ?_)
            exact FR_some trivial
          · exact FR_some trivial
def c_X11_runOnce (n : Nat) (v1 : Nat) (σ : Sg) : Option (Int32 × Sg) :=
  bp (c_X0_become n 21 14 σ) fun σ77 =>
  bp (c_X4_become n 23 16 σ77) fun σ88 =>
  nm (pJ σ88 20 7 (gJ σ88 v1 5)) fun σ94 =>
  nm (pJ σ94 20 8 (gJ σ94 v1 6)) fun σ100 =>
  bd (c_X5_perform n 20 v1 σ100) fun x109 σ108 =>
  if x109 = 0 then (
    bp (c_X4_become n 16 23 σ108) fun σ121 =>
    nm (pJ σ121 v1 5 (gJ σ121 20 7)) fun σ127 =>
    nm (pJ σ127 v1 6 (gJ σ127 20 8)) fun σ133 =>
    some (x109, σ133))
  else (
    some (x109, σ108))
theorem k_f_X11_runOnce {lo hi : Nat} {σ0 : Sg} {n : Nat} {v1 : Nat} {σ : Sg} (t : To lo hi σ0 σ) (w_v0 : lo ≤ 4 ∧ 130 ≤ hi) (h_v1 : O5 v1) (w_v1 : lo ≤ v1 ∧ v1 + 5 ≤ hi) : FR (fun q => To lo hi σ0 q.2) (f_X11_runOnce n 4 v1 σ) (c_X11_runOnce n v1 σ) := by
  unfold f_X11_runOnce c_X11_runOnce
  refine FR_ck (lo10 t.1) ?_
  refine FR_ck (ln10_5 t.1) ?_
  refine FR_nmR (w := 20) (lr10_5 t.1) ?_
  refine FR_ck (lo4 t.1 (by decide)) ?_
  refine FR_ck (ln4_0 t.1 (by decide)) ?_
  refine FR_nmR (w := 21) (lr4_0 t.1 (by decide)) ?_
  refine FR_ck (ln10_1 t.1) ?_
  refine FR_nmR (w := 14) (lr10_1 t.1) ?_
  refine FR_ck (lo0 t.1 (by decide)) ?_
  refine FR_bp (k_f_X0_become t (by decide) (by omega) (by decide)) (fun σ77 t => ?_)
  refine FR_ck (lo10 t.1) ?_
  refine FR_ck (ln10_5 t.1) ?_
  refine FR_nmR (w := 20) (lr10_5 t.1) ?_
  refine FR_ck (lo4 t.1 (by decide)) ?_
  refine FR_ck (ln4_1 t.1 (by decide)) ?_
  refine FR_nmR (w := 23) (lr4_1 t.1 (by decide)) ?_
  refine FR_ck (ln10_2 t.1) ?_
  refine FR_nmR (w := 16) (lr10_2 t.1) ?_
  refine FR_ck (lo3 t.1 (by decide)) ?_
  refine FR_bp (k_f_X4_become t (by decide) (by omega) (by decide)) (fun σ88 t => ?_)
  refine FR_ck (lo10 t.1) ?_
  refine FR_ck (ln10_5 t.1) ?_
  refine FR_nmR (w := 20) (lr10_5 t.1) ?_
  refine FR_ck (lo5 t.1 h_v1) ?_
  refine FR_ck (lo4 t.1 (by decide)) ?_
  refine FR_nmS (To_pJ t (by omega)) (fun σ94 t => ?_)
  refine FR_ck (lo10 t.1) ?_
  refine FR_ck (ln10_5 t.1) ?_
  refine FR_nmR (w := 20) (lr10_5 t.1) ?_
  refine FR_ck (lo5 t.1 h_v1) ?_
  refine FR_ck (lo4 t.1 (by decide)) ?_
  refine FR_nmS (To_pJ t (by omega)) (fun σ100 t => ?_)
  refine FR_ck (lo10 t.1) ?_
  refine FR_ck (ln10_5 t.1) ?_
  refine FR_nmR (w := 20) (lr10_5 t.1) ?_
  refine FR_ck (ln10_0 t.1) ?_
  refine FR_nmR (w := 5) (lr10_0 t.1) ?_
  refine FR_ck (lo4 t.1 (by decide)) ?_
  refine FR_bd (k_f_X5_perform t (by decide) (by omega) h_v1) (fun x109 σ108 t => ?_)
  refine FR_it (fun _ => ?_) (fun _ => ?_)
  · refine FR_ck (lo10 t.1) ?_
    refine FR_ck (ln10_2 t.1) ?_
    refine FR_nmR (w := 16) (lr10_2 t.1) ?_
    refine FR_ck (ln10_5 t.1) ?_
    refine FR_nmR (w := 20) (lr10_5 t.1) ?_
    refine FR_ck (lo4 t.1 (by decide)) ?_
    refine FR_ck (ln4_1 t.1 (by decide)) ?_
    refine FR_nmR (w := 23) (lr4_1 t.1 (by decide)) ?_
    refine FR_ck (lo3 t.1 (by decide)) ?_
    refine FR_bp (k_f_X4_become t (by decide) (by omega) (by decide)) (fun σ121 t => ?_)
    refine FR_ck (lo10 t.1) ?_
    refine FR_ck (ln10_5 t.1) ?_
    refine FR_nmR (w := 20) (lr10_5 t.1) ?_
    refine FR_ck (lo4 t.1 (by decide)) ?_
    refine FR_ck (lo5 t.1 h_v1) ?_
    refine FR_nmS (To_pJ t (by omega)) (fun σ127 t => ?_)
    refine FR_ck (lo10 t.1) ?_
    refine FR_ck (ln10_5 t.1) ?_
    refine FR_nmR (w := 20) (lr10_5 t.1) ?_
    refine FR_ck (lo4 t.1 (by decide)) ?_
    refine FR_ck (lo5 t.1 h_v1) ?_
    refine FR_nmS (To_pJ t (by omega)) (fun σ133 t => ?_)
    exact FR_some t
  · exact FR_some t
def c_X11_run (n : Nat) (v1 : Int32) (σ : Sg) : Option (Int32 × Sg) :=
  bp (c_X11_isProgram v1 σ) fun x22 =>
  if x22 = 0 then (
    some ((-1 : Int32), σ))
  else (
    ck (ix v1 4) <|
    bd (c_X11_runOnce n (5 * v1.toNatClampNeg + 74) σ) fun x31 σ30 =>
    if x31 = 0 then (
      ck (ix v1 4) <|
      some (gI σ30 (5 * v1.toNatClampNeg + 74) 4, σ30))
    else (
      some (x31, σ30)))
theorem k_f_X11_run {lo hi : Nat} {σ0 : Sg} {n : Nat} {v1 : Int32} {σ : Sg} (t : To lo hi σ0 σ) (w_v0 : lo ≤ 4 ∧ 130 ≤ hi) : FR (fun q => To lo hi σ0 q.2) (f_X11_run n 4 v1 σ) (c_X11_run n v1 σ) := by
  unfold f_X11_run c_X11_run
  refine FR_ck (lo10 t.1) ?_
  refine FR_bpP (k_f_X11_isProgram t).1 (fun x22 => ?_)
  refine FR_it (fun _ => ?_) (fun _ => ?_)
  · exact FR_some t
  · refine FR_ck (ln10_3 t.1) ?_
    refine FR_nmR (w := 18) (lr10_3 t.1) ?_
    refine FR_ckI (okA_iff t.1 (by decide : Ar 16 4 18)) (fun q859 => ?_)
    refine FR_ck (lne16 t.1 (ixl q859)) ?_
    have q861 := ixl q859
    refine FR_nmR (w := (5 * v1.toNatClampNeg + 74)) (lre16 t.1 q861) ?_
    refine FR_bd (k_f_X11_runOnce t (by omega) (e5 q861) (by omega)) (fun x31 σ30 t => ?_)
    refine FR_it (fun _ => ?_) (fun _ => ?_)
    · refine FR_ck (lo10 t.1) ?_
      refine FR_ck (ln10_3 t.1) ?_
      refine FR_nmR (w := 18) (lr10_3 t.1) ?_
      refine FR_ckI (okA_iff t.1 (by decide : Ar 16 4 18)) (fun q864 => ?_)
      refine FR_ck (lne16 t.1 (ixl q864)) ?_
      have q866 := ixl q864
      refine FR_nmR (w := (5 * v1.toNatClampNeg + 74)) (lre16 t.1 q866) ?_
      refine FR_ck (lo5 t.1 (e5 q866)) ?_
      exact FR_some t
    · exact FR_some t
def d_X11_years_22 : Nat → Int32 → Int32 → Int32 → Sg → Option (Int32 × Sg)
  | 0, _, _, _, _ => none
  | n + 1, v1, v2, v3, σ =>
  if v2 ≤ v3 then (
    some (v2, σ))
  else (
    ck (ix v1 4) <|
    bd (c_X11_runOnce n (5 * v1.toNatClampNeg + 74) σ) fun x29 σ28 =>
    if x29 = 0 then (
      nm (v3 + (1 : Int32)) fun x31 =>
      d_X11_years_22 n v1 v2 x31 σ28)
    else (
      some (v3, σ28)))
theorem k_b_X11_years_22 {lo hi : Nat} {σ0 : Sg} : ∀ {n : Nat} {v1 : Int32} {v2 : Int32} {v3 : Int32} {σ : Sg}, To lo hi σ0 σ → lo ≤ 4 ∧ 130 ≤ hi → FR (fun q => To lo hi σ0 q.2) (b_X11_years_22 n 4 v1 v2 v3 σ) (d_X11_years_22 n v1 v2 v3 σ) := by
  intro n
  induction n with
  | zero => intro v1 v2 v3 σ t w_v0; exact FR_none
  | succ n ih =>
    intro v1 v2 v3 σ t w_v0
    unfold b_X11_years_22 d_X11_years_22
    refine FR_it (fun _ => ?_) (fun _ => ?_)
    · exact FR_some t
    · refine FR_ck (lo10 t.1) ?_
      refine FR_ck (ln10_3 t.1) ?_
      refine FR_nmR (w := 18) (lr10_3 t.1) ?_
      refine FR_ckI (okA_iff t.1 (by decide : Ar 16 4 18)) (fun q870 => ?_)
      refine FR_ck (lne16 t.1 (ixl q870)) ?_
      have q872 := ixl q870
      refine FR_nmR (w := (5 * v1.toNatClampNeg + 74)) (lre16 t.1 q872) ?_
      refine FR_bd (k_f_X11_runOnce t (by omega) (e5 q872) (by omega)) (fun x29 σ28 t => ?_)
      refine FR_it (fun _ => ?_) (fun _ => ?_)
      · refine FR_nm (fun x31 => ?_)
        exact ih t (by omega)
      · exact FR_some t
def c_X11_years (n : Nat) (v1 : Int32) (v2 : Int32) (σ : Sg) : Option (Int32 × Sg) :=
  bp (c_X11_isProgram v1 σ) fun x16 =>
  if x16 = 0 then (
    some ((-1 : Int32), σ))
  else (
    if v2 < 0 then (
      some ((-1 : Int32), σ))
    else (
      if v2 ≤ (40 : Int32) then (
        d_X11_years_22 n v1 v2 (0 : Int32) σ)
      else (
        some ((-1 : Int32), σ))))
theorem k_f_X11_years {lo hi : Nat} {σ0 : Sg} {n : Nat} {v1 : Int32} {v2 : Int32} {σ : Sg} (t : To lo hi σ0 σ) (w_v0 : lo ≤ 4 ∧ 130 ≤ hi) : FR (fun q => To lo hi σ0 q.2) (f_X11_years n 4 v1 v2 σ) (c_X11_years n v1 v2 σ) := by
  unfold f_X11_years c_X11_years
  refine FR_ck (lo10 t.1) ?_
  refine FR_bpP (k_f_X11_isProgram t).1 (fun x16 => ?_)
  refine FR_it (fun _ => ?_) (fun _ => ?_)
  · exact FR_some t
  · refine FR_it (fun _ => ?_) (fun _ => ?_)
    · exact FR_some t
    · refine FR_it (fun _ => ?_) (fun _ => ?_)
      · exact k_b_X11_years_22 t (by omega)
      · exact FR_some t
def c_X11_failed (σ : Sg) : Option Int32 :=
  some (gI σ 20 9)
theorem k_f_X11_failed {lo hi : Nat} {σ0 : Sg} {σ : Sg} (t : To lo hi σ0 σ) : FR (fun _ => True) (f_X11_failed 4 σ) (c_X11_failed σ) := by
  unfold f_X11_failed c_X11_failed
  refine FR_ck (lo10 t.1) ?_
  refine FR_ck (ln10_5 t.1) ?_
  refine FR_nmR (w := 20) (lr10_5 t.1) ?_
  refine FR_ck (lo4 t.1 (by decide)) ?_
  exact FR_some trivial
def d_X11_least_73 (n : Nat) (v1 : Int32) (v2 : Int32) (v4 : Int32) (v5 : Int32) (s0 : Nat) (σ : Sg) : Option (Int32 × Sg) :=
  ck (ix v1 4) <|
  bd (c_X10_firstBreak n (5 * v1.toNatClampNeg + 74) s0 v2 v4 v5 σ) fun x69 σ68 =>
  some (x69, σ68)
theorem k_b_X11_least_73 {lo hi : Nat} {σ0 : Sg} {n : Nat} {v1 : Int32} {v2 : Int32} {v4 : Int32} {v5 : Int32} {s0 : Nat} {σ : Sg} (t : To lo hi σ0 σ) (w_v0 : lo ≤ 4 ∧ 130 ≤ hi) (h_s0 : O5 s0) : FR (fun q => To lo hi σ0 q.2) (b_X11_least_73 n 4 v1 v2 v4 v5 s0 σ) (d_X11_least_73 n v1 v2 v4 v5 s0 σ) := by
  unfold b_X11_least_73 d_X11_least_73
  refine FR_ck (lo10 t.1) ?_
  refine FR_ck (ln10_6 t.1) ?_
  refine FR_nmR (w := 33) (lr10_6 t.1) ?_
  refine FR_ck (ln10_0 t.1) ?_
  refine FR_nmR (w := 5) (lr10_0 t.1) ?_
  refine FR_ck (ln10_3 t.1) ?_
  refine FR_nmR (w := 18) (lr10_3 t.1) ?_
  refine FR_ckI (okA_iff t.1 (by decide : Ar 16 4 18)) (fun q881 => ?_)
  refine FR_ck (lne16 t.1 (ixl q881)) ?_
  have q883 := ixl q881
  refine FR_nmR (w := (5 * v1.toNatClampNeg + 74)) (lre16 t.1 q883) ?_
  refine FR_ck (lo9 t.1) ?_
  refine FR_bd (k_f_X10_firstBreak t (by omega) (e5 q883) h_s0) (fun x69 σ68 t => ?_)
  exact FR_some t
def d_X11_least_53 (n : Nat) (v1 : Int32) (v2 : Int32) (v3 : Int32) (v4 : Int32) (v5 : Int32) (σ : Sg) : Option (Int32 × Sg) :=
  if v2 = (2 : Int32) then (
    ck (ix v3 4) <|
    d_X11_least_73 n v1 v2 v4 v5 (5 * v3.toNatClampNeg + 74) σ)
  else (
    ck (ix v1 4) <|
    d_X11_least_73 n v1 v2 v4 v5 (5 * v1.toNatClampNeg + 74) σ)
theorem k_b_X11_least_53 {lo hi : Nat} {σ0 : Sg} {n : Nat} {v1 : Int32} {v2 : Int32} {v3 : Int32} {v4 : Int32} {v5 : Int32} {σ : Sg} (t : To lo hi σ0 σ) (w_v0 : lo ≤ 4 ∧ 130 ≤ hi) : FR (fun q => To lo hi σ0 q.2) (b_X11_least_53 n 4 v1 v2 v3 v4 v5 σ) (d_X11_least_53 n v1 v2 v3 v4 v5 σ) := by
  unfold b_X11_least_53 d_X11_least_53
  refine FR_it (fun _ => ?_) (fun _ => ?_)
  · refine FR_ck (lo10 t.1) ?_
    refine FR_ck (ln10_3 t.1) ?_
    refine FR_nmR (w := 18) (lr10_3 t.1) ?_
    refine FR_ckI (okA_iff t.1 (by decide : Ar 16 4 18)) (fun q887 => ?_)
    refine FR_ck (lne16 t.1 (ixl q887)) ?_
    have q889 := ixl q887
    refine FR_nmR (w := (5 * v3.toNatClampNeg + 74)) (lre16 t.1 q889) ?_
    exact k_b_X11_least_73 t (by omega) (e5 q889)
  · refine FR_ck (lo10 t.1) ?_
    refine FR_ck (ln10_3 t.1) ?_
    refine FR_nmR (w := 18) (lr10_3 t.1) ?_
    refine FR_ckI (okA_iff t.1 (by decide : Ar 16 4 18)) (fun q892 => ?_)
    refine FR_ck (lne16 t.1 (ixl q892)) ?_
    have q894 := ixl q892
    refine FR_nmR (w := (5 * v1.toNatClampNeg + 74)) (lre16 t.1 q894) ?_
    exact k_b_X11_least_73 t (by omega) (e5 q894)
def c_X11_least (n : Nat) (v1 : Int32) (v2 : Int32) (v3 : Int32) (v4 : Int32) (v5 : Int32) (σ : Sg) : Option (Int32 × Sg) :=
  bp (c_X11_isProgram v1 σ) fun x39 =>
  if x39 = 0 then (
    some ((-1 : Int32), σ))
  else (
    bp (f_X11_isLaw v2) fun x42 =>
    if x42 = 0 then (
      some ((-1 : Int32), σ))
    else (
      bp (f_X11_isSpan v4 v5 (2000 : Int32)) fun x45 =>
      if x45 = 0 then (
        some ((-1 : Int32), σ))
      else (
        if v2 = (2 : Int32) then (
          bp (c_X11_isProgram v3 σ) fun x77 =>
          if x77 = 0 then (
            some ((-1 : Int32), σ))
          else (
            d_X11_least_53 n v1 v2 v3 v4 v5 σ))
        else (
          if v3 = (-1 : Int32) then (
            d_X11_least_53 n v1 v2 v3 v4 v5 σ)
          else (
            some ((-1 : Int32), σ))))))
theorem k_f_X11_least {lo hi : Nat} {σ0 : Sg} {n : Nat} {v1 : Int32} {v2 : Int32} {v3 : Int32} {v4 : Int32} {v5 : Int32} {σ : Sg} (t : To lo hi σ0 σ) (w_v0 : lo ≤ 4 ∧ 130 ≤ hi) : FR (fun q => To lo hi σ0 q.2) (f_X11_least n 4 v1 v2 v3 v4 v5 σ) (c_X11_least n v1 v2 v3 v4 v5 σ) := by
  unfold f_X11_least c_X11_least
  refine FR_ck (lo10 t.1) ?_
  refine FR_bpP (k_f_X11_isProgram t).1 (fun x39 => ?_)
  refine FR_it (fun _ => ?_) (fun _ => ?_)
  · exact FR_some t
  · refine FR_nmP (fun x42 => ?_)
    refine FR_it (fun _ => ?_) (fun _ => ?_)
    · exact FR_some t
    · refine FR_nmP (fun x45 => ?_)
      refine FR_it (fun _ => ?_) (fun _ => ?_)
      · exact FR_some t
      · refine FR_it (fun _ => ?_) (fun _ => ?_)
        · refine FR_bpP (k_f_X11_isProgram t).1 (fun x77 => ?_)
          refine FR_it (fun _ => ?_) (fun _ => ?_)
          · exact FR_some t
          · exact k_b_X11_least_53 t (by omega)
        · refine FR_it (fun _ => ?_) (fun _ => ?_)
          · exact k_b_X11_least_53 t (by omega)
          · exact FR_some t
def c_X11_order (n : Nat) (v1 : Int32) (σ : Sg) : Option (Int32 × Sg) :=
  bp (c_X11_isProgram v1 σ) fun x26 =>
  if x26 = 0 then (
    some ((-1 : Int32), σ))
  else (
    if (gI σ 14 1) ≤ (6 : Int32) then (
      ck (ix v1 4) <|
      bd (c_X10_firstOrderThatMatters n (5 * v1.toNatClampNeg + 74) 14 σ) fun x45 σ44 =>
      some (x45, σ44))
    else (
      some ((-2 : Int32), σ)))
theorem k_f_X11_order {lo hi : Nat} {σ0 : Sg} {n : Nat} {v1 : Int32} {σ : Sg} (t : To lo hi σ0 σ) (w_v0 : lo ≤ 4 ∧ 130 ≤ hi) : FR (fun q => To lo hi σ0 q.2) (f_X11_order n 4 v1 σ) (c_X11_order n v1 σ) := by
  unfold f_X11_order c_X11_order
  refine FR_ck (lo10 t.1) ?_
  refine FR_bpP (k_f_X11_isProgram t).1 (fun x26 => ?_)
  refine FR_it (fun _ => ?_) (fun _ => ?_)
  · exact FR_some t
  · refine FR_ck (ln10_1 t.1) ?_
    refine FR_nmR (w := 14) (lr10_1 t.1) ?_
    refine FR_ck (lo0 t.1 (by decide)) ?_
    refine FR_it (fun _ => ?_) (fun _ => ?_)
    · refine FR_ck (ln10_6 t.1) ?_
      refine FR_nmR (w := 33) (lr10_6 t.1) ?_
      refine FR_ck (ln10_0 t.1) ?_
      refine FR_nmR (w := 5) (lr10_0 t.1) ?_
      refine FR_ck (ln10_3 t.1) ?_
      refine FR_nmR (w := 18) (lr10_3 t.1) ?_
      refine FR_ckI (okA_iff t.1 (by decide : Ar 16 4 18)) (fun q902 => ?_)
      refine FR_ck (lne16 t.1 (ixl q902)) ?_
      have q904 := ixl q902
      refine FR_nmR (w := (5 * v1.toNatClampNeg + 74)) (lre16 t.1 q904) ?_
      refine FR_nmR (w := 14) (lr10_1 t.1) ?_
      refine FR_ck (lo9 t.1) ?_
      refine FR_bd (k_f_X10_firstOrderThatMatters t (by omega) (e5 q904) (by decide)) (fun x45 σ44 t => ?_)
      exact FR_some t
    · exact FR_some t
def d_X11_mend_206 (k76 : Int32 → Int32 → Sg → Option (Int32 × Sg)) (n : Nat) (v2 : Int32) (v3 : Int32) (v4 : Int32) (v5 : Nat) (v6 : Int32) (v7 : Int32) (σ : Sg) : Option (Int32 × Sg) :=
  nm (v7 + (1 : Int32)) fun x86 =>
  k76 v6 x86 σ
theorem k_b_X11_mend_206 {lo hi : Nat} {σ0 : Sg} {k76 k76c : Int32 → Int32 → Sg → Option (Int32 × Sg)} {n : Nat} {v2 : Int32} {v3 : Int32} {v4 : Int32} {v5 : Nat} {v6 : Int32} {v7 : Int32} {σ : Sg} (h_k76 : ∀ (c0 : Int32) (c1 : Int32) (τ : Sg), To lo hi σ0 τ → FR (fun q => To lo hi σ0 q.2) (k76 c0 c1 τ) (k76c c0 c1 τ)) (t : To lo hi σ0 σ) (h_v5 : O5 v5) : FR (fun q => To lo hi σ0 q.2) (b_X11_mend_206 k76 n 4 v2 v3 v4 v5 v6 v7 σ) (d_X11_mend_206 k76c n v2 v3 v4 v5 v6 v7 σ) := by
  unfold b_X11_mend_206 d_X11_mend_206
  refine FR_nm (fun x86 => ?_)
  exact h_k76 _ _ _ t
def d_X11_mend_200 (k76 : Int32 → Int32 → Sg → Option (Int32 × Sg)) (k107 : Int32 → Int32 → Sg → Option (Int32 × Sg)) (n : Nat) (v2 : Int32) (v3 : Int32) (v4 : Int32) (v5 : Nat) (v6 : Int32) (v7 : Int32) (v8 : Int32) (v9 : Int32) (v10 : Int32) (σ : Sg) : Option (Int32 × Sg) :=
  nm (v10 + (1 : Int32)) fun x105 =>
  k107 v6 x105 σ
theorem k_b_X11_mend_200 {lo hi : Nat} {σ0 : Sg} {k76 k76c : Int32 → Int32 → Sg → Option (Int32 × Sg)} {k107 k107c : Int32 → Int32 → Sg → Option (Int32 × Sg)} {n : Nat} {v2 : Int32} {v3 : Int32} {v4 : Int32} {v5 : Nat} {v6 : Int32} {v7 : Int32} {v8 : Int32} {v9 : Int32} {v10 : Int32} {σ : Sg} (h_k76 : ∀ (c0 : Int32) (c1 : Int32) (τ : Sg), To lo hi σ0 τ → FR (fun q => To lo hi σ0 q.2) (k76 c0 c1 τ) (k76c c0 c1 τ)) (h_k107 : ∀ (c0 : Int32) (c1 : Int32) (τ : Sg), To lo hi σ0 τ → FR (fun q => To lo hi σ0 q.2) (k107 c0 c1 τ) (k107c c0 c1 τ)) (t : To lo hi σ0 σ) (h_v5 : O5 v5) : FR (fun q => To lo hi σ0 q.2) (b_X11_mend_200 k76 k107 n 4 v2 v3 v4 v5 v6 v7 v8 v9 v10 σ) (d_X11_mend_200 k76c k107c n v2 v3 v4 v5 v6 v7 v8 v9 v10 σ) := by
  unfold b_X11_mend_200 d_X11_mend_200
  refine FR_nm (fun x105 => ?_)
  exact h_k107 _ _ _ t
def d_X11_mend_175 (k76 : Int32 → Int32 → Sg → Option (Int32 × Sg)) (k107 : Int32 → Int32 → Sg → Option (Int32 × Sg)) (n : Nat) (v2 : Int32) (v3 : Int32) (v4 : Int32) (v5 : Nat) (v6 : Int32) (v7 : Int32) (v8 : Int32) (v9 : Int32) (v10 : Int32) (σ : Sg) : Option (Int32 × Sg) :=
  bp (c_X6_choose v5 v7 v8 σ) fun σ103 =>
  if v6 = (9999999 : Int32) then (
    some (((10 : Int32) * v7) + v10, σ103))
  else (
    d_X11_mend_200 k76 k107 n v2 v3 v4 v5 v6 v7 v8 v9 v10 σ103)
theorem k_b_X11_mend_175 {lo hi : Nat} {σ0 : Sg} {k76 k76c : Int32 → Int32 → Sg → Option (Int32 × Sg)} {k107 k107c : Int32 → Int32 → Sg → Option (Int32 × Sg)} {n : Nat} {v2 : Int32} {v3 : Int32} {v4 : Int32} {v5 : Nat} {v6 : Int32} {v7 : Int32} {v8 : Int32} {v9 : Int32} {v10 : Int32} {σ : Sg} (h_k76 : ∀ (c0 : Int32) (c1 : Int32) (τ : Sg), To lo hi σ0 τ → FR (fun q => To lo hi σ0 q.2) (k76 c0 c1 τ) (k76c c0 c1 τ)) (h_k107 : ∀ (c0 : Int32) (c1 : Int32) (τ : Sg), To lo hi σ0 τ → FR (fun q => To lo hi σ0 q.2) (k107 c0 c1 τ) (k107c c0 c1 τ)) (t : To lo hi σ0 σ) (h_v5 : O5 v5) (w_v5 : lo ≤ v5 ∧ v5 + 5 ≤ hi) : FR (fun q => To lo hi σ0 q.2) (b_X11_mend_175 k76 k107 n 4 v2 v3 v4 v5 v6 v7 v8 v9 v10 σ) (d_X11_mend_175 k76c k107c n v2 v3 v4 v5 v6 v7 v8 v9 v10 σ) := by
  unfold b_X11_mend_175 d_X11_mend_175
  refine FR_ck (lo5 t.1 h_v5) ?_
  refine FR_bp (k_f_X6_choose t h_v5 (by omega)) (fun σ103 t => ?_)
  refine FR_it (fun _ => ?_) (fun _ => ?_)
  · exact FR_some t
  · exact k_b_X11_mend_200 h_k76 h_k107 t h_v5
def d_X11_mend_107 (k76 : Int32 → Int32 → Sg → Option (Int32 × Sg)) : Nat → Int32 → Int32 → Int32 → Nat → Int32 → Int32 → Int32 → Int32 → Int32 → Sg → Option (Int32 × Sg)
  | 0, _, _, _, _, _, _, _, _, _, _ => none
  | n + 1, v2, v3, v4, v5, v6, v7, v8, v9, v10, σ =>
  if v9 ≤ v10 then (
    d_X11_mend_206 k76 n v2 v3 v4 v5 v6 v7 σ)
  else (
    if v10 = v8 then (
      d_X11_mend_200 k76 (fun c6 c10 τ => d_X11_mend_107 k76 n v2 v3 v4 v5 c6 v7 v8 v9 c10 τ) n v2 v3 v4 v5 v6 v7 v8 v9 v10 σ)
    else (
      bp (c_X6_choose v5 v7 v10 σ) fun σ90 =>
      bd (c_X10_breaks n v5 v5 v2 v6 σ90) fun x99 σ98 =>
      if x99 = 0 then (
        bd (c_X10_firstBreak n v5 v5 v2 v3 v4 σ98) fun x114 σ113 =>
        d_X11_mend_175 k76 (fun c6 c10 τ => d_X11_mend_107 k76 n v2 v3 v4 v5 c6 v7 v8 v9 c10 τ) n v2 v3 v4 v5 x114 v7 v8 v9 v10 σ113)
      else (
        d_X11_mend_175 k76 (fun c6 c10 τ => d_X11_mend_107 k76 n v2 v3 v4 v5 c6 v7 v8 v9 c10 τ) n v2 v3 v4 v5 v6 v7 v8 v9 v10 σ98)))
theorem k_b_X11_mend_107 {lo hi : Nat} {σ0 : Sg} {k76 k76c : Int32 → Int32 → Sg → Option (Int32 × Sg)} (h_k76 : ∀ (c0 : Int32) (c1 : Int32) (τ : Sg), To lo hi σ0 τ → FR (fun q => To lo hi σ0 q.2) (k76 c0 c1 τ) (k76c c0 c1 τ)) : ∀ {n : Nat} {v2 : Int32} {v3 : Int32} {v4 : Int32} {v5 : Nat} {v6 : Int32} {v7 : Int32} {v8 : Int32} {v9 : Int32} {v10 : Int32} {σ : Sg}, To lo hi σ0 σ → lo ≤ 4 ∧ 130 ≤ hi → O5 v5 → lo ≤ v5 ∧ v5 + 5 ≤ hi → FR (fun q => To lo hi σ0 q.2) (b_X11_mend_107 k76 n 4 v2 v3 v4 v5 v6 v7 v8 v9 v10 σ) (d_X11_mend_107 k76c n v2 v3 v4 v5 v6 v7 v8 v9 v10 σ) := by
  intro n
  induction n with
  | zero => intro v2 v3 v4 v5 v6 v7 v8 v9 v10 σ t w_v0 h_v5 w_v5; exact FR_none
  | succ n ih =>
    intro v2 v3 v4 v5 v6 v7 v8 v9 v10 σ t w_v0 h_v5 w_v5
    unfold b_X11_mend_107 d_X11_mend_107
    refine FR_it (fun _ => ?_) (fun _ => ?_)
    · exact k_b_X11_mend_206 h_k76 t h_v5
    · refine FR_it (fun _ => ?_) (fun _ => ?_)
      · exact k_b_X11_mend_200 h_k76 (fun c6 c10 τ t => ih t (by omega) h_v5 (by omega)) t h_v5
      · refine FR_ck (lo5 t.1 h_v5) ?_
        refine FR_bp (k_f_X6_choose t h_v5 (by omega)) (fun σ90 t => ?_)
        refine FR_ck (lo10 t.1) ?_
        refine FR_ck (ln10_6 t.1) ?_
        refine FR_nmR (w := 33) (lr10_6 t.1) ?_
        refine FR_ck (ln10_0 t.1) ?_
        refine FR_nmR (w := 5) (lr10_0 t.1) ?_
        refine FR_ck (lo9 t.1) ?_
        refine FR_bd (k_f_X10_breaks t (by omega) h_v5 h_v5) (fun x99 σ98 t => ?_)
        refine FR_it (fun _ => ?_) (fun _ => ?_)
        · refine FR_ck (lo10 t.1) ?_
          refine FR_ck (ln10_6 t.1) ?_
          refine FR_nmR (w := 33) (lr10_6 t.1) ?_
          refine FR_ck (ln10_0 t.1) ?_
          refine FR_nmR (w := 5) (lr10_0 t.1) ?_
          refine FR_ck (lo9 t.1) ?_
          refine FR_bd (k_f_X10_firstBreak t (by omega) h_v5 h_v5) (fun x114 σ113 t => ?_)
          exact k_b_X11_mend_175 h_k76 (fun c6 c10 τ t => ih t (by omega) h_v5 (by omega)) t h_v5 (by omega)
        · exact k_b_X11_mend_175 h_k76 (fun c6 c10 τ t => ih t (by omega) h_v5 (by omega)) t h_v5 (by omega)
