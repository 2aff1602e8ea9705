def d_X12_runs_179 (n : Nat) (v2 : Int32) (v3 : Int64) (v5 : Int64) (v7 : Int32) (σ : Sg) : Option (Int32 × Sg) :=
  ck (ix v2 8) <|
  nm (pJ σ 147 v2.toNatClampNeg v3) fun σ97 =>
  ck (ix v2 8) <|
  nm (pJ σ97 148 v2.toNatClampNeg v5) fun σ102 =>
  nm (pI σ102 130 31 (0 : Int32)) fun σ104 =>
  some (v7, σ104)
theorem k_b_X12_runs_179 {lo hi : Nat} {σ0 : Sg} {n : Nat} {v2 : Int32} {v3 : Int64} {v5 : Int64} {v7 : Int32} {σ : Sg} (t : To lo hi σ0 σ) (w_v0 : lo ≤ 130 ∧ 168 ≤ hi) : FR (fun q => To lo hi σ0 q.2) (b_X12_runs_179 n 130 v2 v3 v5 v7 σ) (d_X12_runs_179 n v2 v3 v5 v7 σ) := by
  unfold b_X12_runs_179 d_X12_runs_179
  refine FR_ck (lo11 t.1) ?_
  refine FR_ck (ln11_24 t.1) ?_
  refine FR_nmR (w := 147) (lr11_24 t.1) ?_
  refine FR_ckI (okW_iff t.1 (by decide : Ar 14 8 147)) (fun q1448 => ?_)
  refine FR_nmS (To_pJ t (by omega)) (fun σ97 t => ?_)
  refine FR_ck (lo11 t.1) ?_
  refine FR_ck (ln11_25 t.1) ?_
  refine FR_nmR (w := 148) (lr11_25 t.1) ?_
  refine FR_ckI (okW_iff t.1 (by decide : Ar 14 8 148)) (fun q1451 => ?_)
  refine FR_nmS (To_pJ t (by omega)) (fun σ102 t => ?_)
  refine FR_ck (lo11 t.1) ?_
  refine FR_nmS (To_pI t (by omega)) (fun σ104 t => ?_)
  exact FR_some t
def d_X12_runs_144 : Nat → Int32 → Int64 → Int64 → Int32 → Int32 → Sg → Option (Int32 × Sg)
  | 0, _, _, _, _, _, _ => none
  | n + 1, v2, v3, v5, v7, v8, σ =>
  if (8 : Int32) ≤ v8 then (
    d_X12_runs_179 n v2 v3 v5 v7 σ)
  else (
    ck (ix v8 8) <|
    ck (ix (((8 : Int32) * (gI σ 130 16)) + v8) 16) <|
    nm (pJ σ 146 (((8 : Int32) * (gI σ 130 16)) + v8).toNatClampNeg (gJ σ 158 v8.toNatClampNeg)) fun σ112 =>
    nm (v8 + (1 : Int32)) fun x113 =>
    d_X12_runs_144 n v2 v3 v5 v7 x113 σ112)
theorem k_b_X12_runs_144 {lo hi : Nat} {σ0 : Sg} : ∀ {n : Nat} {v2 : Int32} {v3 : Int64} {v5 : Int64} {v7 : Int32} {v8 : Int32} {σ : Sg}, To lo hi σ0 σ → lo ≤ 130 ∧ 168 ≤ hi → FR (fun q => To lo hi σ0 q.2) (b_X12_runs_144 n 130 v2 v3 v5 v7 v8 σ) (d_X12_runs_144 n v2 v3 v5 v7 v8 σ) := by
  intro n
  induction n with
  | zero => intro v2 v3 v5 v7 v8 σ t w_v0; exact FR_none
  | succ n ih =>
    intro v2 v3 v5 v7 v8 σ t w_v0
    unfold b_X12_runs_144 d_X12_runs_144
    refine FR_it (fun _ => ?_) (fun _ => ?_)
    · exact k_b_X12_runs_179 t (by omega)
    · refine FR_ck (lo11 t.1) ?_
      refine FR_ck (ln11_23 t.1) ?_
      refine FR_nmR (w := 146) (lr11_23 t.1) ?_
      refine FR_ck (ln11_41 t.1) ?_
      refine FR_nmR (w := 158) (lr11_41 t.1) ?_
      refine FR_ckI (okA_iff t.1 (by decide : Ar 14 8 158)) (fun q1456 => ?_)
      refine FR_ckI (okW_iff t.1 (by decide : Ar 14 16 146)) (fun q1457 => ?_)
      refine FR_nmS (To_pJ t (by omega)) (fun σ112 t => ?_)
      refine FR_nm (fun x113 => ?_)
      exact ih t (by omega)
def d_X12_runs_141 (n : Nat) (v2 : Int32) (v3 : Int64) (v5 : Int64) (v7 : Int32) (σ : Sg) : Option (Int32 × Sg) :=
  d_X12_runs_144 n v2 v3 v5 v7 (0 : Int32) σ
theorem k_b_X12_runs_141 {lo hi : Nat} {σ0 : Sg} {n : Nat} {v2 : Int32} {v3 : Int64} {v5 : Int64} {v7 : Int32} {σ : Sg} (t : To lo hi σ0 σ) (w_v0 : lo ≤ 130 ∧ 168 ≤ hi) : FR (fun q => To lo hi σ0 q.2) (b_X12_runs_141 n 130 v2 v3 v5 v7 σ) (d_X12_runs_141 n v2 v3 v5 v7 σ) := by
  unfold b_X12_runs_141 d_X12_runs_141
  exact k_b_X12_runs_144 t (by omega)
def d_X12_runs_111 : Nat → Int32 → Int32 → Int64 → Int64 → Int32 → Sg → Option (Int32 × Sg)
  | 0, _, _, _, _, _, _ => none
  | n + 1, v1, v2, v3, v5, v7, σ =>
  ck (ix v1 4) <|
  if (gI σ 136 v1.toNatClampNeg) ≤ v7 then (
    some ((-2 : Int32), σ))
  else (
    bp (c_X12_does n v1 (((20 : Int32) * v1) + v7) σ) fun σ88 =>
    if (gI σ88 130 32) = 0 then (
      nm (v7 + (1 : Int32)) fun x91 =>
      d_X12_runs_111 n v1 v2 v3 v5 x91 σ88)
    else (
      d_X12_runs_141 n v2 v3 v5 v7 σ88))
theorem k_b_X12_runs_111 {lo hi : Nat} {σ0 : Sg} : ∀ {n : Nat} {v1 : Int32} {v2 : Int32} {v3 : Int64} {v5 : Int64} {v7 : Int32} {σ : Sg}, To lo hi σ0 σ → lo ≤ 130 ∧ 168 ≤ hi → FR (fun q => To lo hi σ0 q.2) (b_X12_runs_111 n 130 v1 v2 v3 v5 v7 σ) (d_X12_runs_111 n v1 v2 v3 v5 v7 σ) := by
  intro n
  induction n with
  | zero => intro v1 v2 v3 v5 v7 σ t w_v0; exact FR_none
  | succ n ih =>
    intro v1 v2 v3 v5 v7 σ t w_v0
    unfold b_X12_runs_111 d_X12_runs_111
    refine FR_ck (lo11 t.1) ?_
    refine FR_ck (ln11_8 t.1) ?_
    refine FR_nmR (w := 136) (lr11_8 t.1) ?_
    refine FR_ckI (okA_iff t.1 (by decide : Ar 13 4 136)) (fun q1460 => ?_)
    refine FR_it (fun _ => ?_) (fun _ => ?_)
    · exact FR_some t
    · refine FR_bp (k_f_X12_does t (by omega)) (fun σ88 t => ?_)
      refine FR_ck (lo11 t.1) ?_
      refine FR_it (fun _ => ?_) (fun _ => ?_)
      · refine FR_nm (fun x91 => ?_)
        exact ih t (by omega)
      · exact k_b_X12_runs_141 t (by omega)
def d_X12_runs_98 (n : Nat) (v1 : Int32) (v2 : Int32) (v3 : Int64) (v5 : Int64) (σ : Sg) : Option (Int32 × Sg) :=
  nm (pI σ 130 31 (0 : Int32)) fun σ79 =>
  nm (pI σ79 130 32 (0 : Int32)) fun σ81 =>
  d_X12_runs_111 n v1 v2 v3 v5 (0 : Int32) σ81
theorem k_b_X12_runs_98 {lo hi : Nat} {σ0 : Sg} {n : Nat} {v1 : Int32} {v2 : Int32} {v3 : Int64} {v5 : Int64} {σ : Sg} (t : To lo hi σ0 σ) (w_v0 : lo ≤ 130 ∧ 168 ≤ hi) : FR (fun q => To lo hi σ0 q.2) (b_X12_runs_98 n 130 v1 v2 v3 v5 σ) (d_X12_runs_98 n v1 v2 v3 v5 σ) := by
  unfold b_X12_runs_98 d_X12_runs_98
  refine FR_ck (lo11 t.1) ?_
  refine FR_nmS (To_pI t (by omega)) (fun σ79 t => ?_)
  refine FR_ck (lo11 t.1) ?_
  refine FR_nmS (To_pI t (by omega)) (fun σ81 t => ?_)
  exact k_b_X12_runs_111 t (by omega)
def d_X12_runs_69 : Nat → Int32 → Int32 → Int64 → Int64 → Int32 → Sg → Option (Int32 × Sg)
  | 0, _, _, _, _, _, _ => none
  | n + 1, v1, v2, v3, v5, v7, σ =>
  if (12 : Int32) ≤ v7 then (
    d_X12_runs_98 n v1 v2 v3 v5 σ)
  else (
    ck (ix (((12 : Int32) * (gI σ 130 16)) + v7) 24) <|
    nm (pJ σ 145 (((12 : Int32) * (gI σ 130 16)) + v7).toNatClampNeg (0 : Int64)) fun σ118 =>
    nm (v7 + (1 : Int32)) fun x119 =>
    d_X12_runs_69 n v1 v2 v3 v5 x119 σ118)
theorem k_b_X12_runs_69 {lo hi : Nat} {σ0 : Sg} : ∀ {n : Nat} {v1 : Int32} {v2 : Int32} {v3 : Int64} {v5 : Int64} {v7 : Int32} {σ : Sg}, To lo hi σ0 σ → lo ≤ 130 ∧ 168 ≤ hi → FR (fun q => To lo hi σ0 q.2) (b_X12_runs_69 n 130 v1 v2 v3 v5 v7 σ) (d_X12_runs_69 n v1 v2 v3 v5 v7 σ) := by
  intro n
  induction n with
  | zero => intro v1 v2 v3 v5 v7 σ t w_v0; exact FR_none
  | succ n ih =>
    intro v1 v2 v3 v5 v7 σ t w_v0
    unfold b_X12_runs_69 d_X12_runs_69
    refine FR_it (fun _ => ?_) (fun _ => ?_)
    · exact k_b_X12_runs_98 t (by omega)
    · refine FR_ck (lo11 t.1) ?_
      refine FR_ck (ln11_22 t.1) ?_
      refine FR_nmR (w := 145) (lr11_22 t.1) ?_
      refine FR_ckI (okW_iff t.1 (by decide : Ar 14 24 145)) (fun q1466 => ?_)
      refine FR_nmS (To_pJ t (by omega)) (fun σ118 t => ?_)
      refine FR_nm (fun x119 => ?_)
      exact ih t (by omega)
def d_X12_runs_62 (n : Nat) (v1 : Int32) (v2 : Int32) (v3 : Int64) (v5 : Int64) (σ : Sg) : Option (Int32 × Sg) :=
  bp (c_X12_clears n σ) fun σ76 =>
  d_X12_runs_69 n v1 v2 v3 v5 (0 : Int32) σ76
theorem k_b_X12_runs_62 {lo hi : Nat} {σ0 : Sg} {n : Nat} {v1 : Int32} {v2 : Int32} {v3 : Int64} {v5 : Int64} {σ : Sg} (t : To lo hi σ0 σ) (w_v0 : lo ≤ 130 ∧ 168 ≤ hi) : FR (fun q => To lo hi σ0 q.2) (b_X12_runs_62 n 130 v1 v2 v3 v5 σ) (d_X12_runs_62 n v1 v2 v3 v5 σ) := by
  unfold b_X12_runs_62 d_X12_runs_62
  refine FR_ck (lo11 t.1) ?_
  refine FR_bp (k_f_X12_clears t (by omega)) (fun σ76 t => ?_)
  exact k_b_X12_runs_69 t (by omega)
def d_X12_runs_27 : Nat → Int32 → Int32 → Int64 → Int64 → Int32 → Sg → Option (Int32 × Sg)
  | 0, _, _, _, _, _, _ => none
  | n + 1, v1, v2, v3, v5, v7, σ =>
  if (8 : Int32) ≤ v7 then (
    d_X12_runs_62 n v1 v2 v3 v5 σ)
  else (
    ck (ix (((8 : Int32) * (gI σ 130 16)) + v7) 16) <|
    ck (ix v7 8) <|
    nm (pJ σ 158 v7.toNatClampNeg (gJ σ 146 (((8 : Int32) * (gI σ 130 16)) + v7).toNatClampNeg)) fun σ127 =>
    nm (v7 + (1 : Int32)) fun x128 =>
    d_X12_runs_27 n v1 v2 v3 v5 x128 σ127)
theorem k_b_X12_runs_27 {lo hi : Nat} {σ0 : Sg} : ∀ {n : Nat} {v1 : Int32} {v2 : Int32} {v3 : Int64} {v5 : Int64} {v7 : Int32} {σ : Sg}, To lo hi σ0 σ → lo ≤ 130 ∧ 168 ≤ hi → FR (fun q => To lo hi σ0 q.2) (b_X12_runs_27 n 130 v1 v2 v3 v5 v7 σ) (d_X12_runs_27 n v1 v2 v3 v5 v7 σ) := by
  intro n
  induction n with
  | zero => intro v1 v2 v3 v5 v7 σ t w_v0; exact FR_none
  | succ n ih =>
    intro v1 v2 v3 v5 v7 σ t w_v0
    unfold b_X12_runs_27 d_X12_runs_27
    refine FR_it (fun _ => ?_) (fun _ => ?_)
    · exact k_b_X12_runs_62 t (by omega)
    · refine FR_ck (lo11 t.1) ?_
      refine FR_ck (ln11_41 t.1) ?_
      refine FR_nmR (w := 158) (lr11_41 t.1) ?_
      refine FR_ck (ln11_23 t.1) ?_
      refine FR_nmR (w := 146) (lr11_23 t.1) ?_
      refine FR_ckI (okA_iff t.1 (by decide : Ar 14 16 146)) (fun q1471 => ?_)
      refine FR_ckI (okW_iff t.1 (by decide : Ar 14 8 158)) (fun q1472 => ?_)
      refine FR_nmS (To_pJ t (by omega)) (fun σ127 t => ?_)
      refine FR_nm (fun x128 => ?_)
      exact ih t (by omega)
def c_X12_runs (n : Nat) (v1 : Int32) (σ : Sg) : Option (Int32 × Sg) :=
  nm (((4 : Int32) * (gI σ 130 16)) + v1) fun x64 =>
  ck (ix x64 8) <|
  nm (gJ σ 147 x64.toNatClampNeg) fun x68 =>
  ck (ix x64 8) <|
  nm (gJ σ 148 x64.toNatClampNeg) fun x72 =>
  d_X12_runs_27 n v1 x64 x68 x72 (0 : Int32) σ
theorem k_f_X12_runs {lo hi : Nat} {σ0 : Sg} {n : Nat} {v1 : Int32} {σ : Sg} (t : To lo hi σ0 σ) (w_v0 : lo ≤ 130 ∧ 168 ≤ hi) : FR (fun q => To lo hi σ0 q.2) (f_X12_runs n 130 v1 σ) (c_X12_runs n v1 σ) := by
  unfold f_X12_runs c_X12_runs
  refine FR_ck (lo11 t.1) ?_
  refine FR_nm (fun x64 => ?_)
  refine FR_ck (ln11_24 t.1) ?_
  refine FR_nmR (w := 147) (lr11_24 t.1) ?_
  refine FR_ckI (okA_iff t.1 (by decide : Ar 14 8 147)) (fun q1475 => ?_)
  refine FR_nm (fun x68 => ?_)
  refine FR_ck (ln11_25 t.1) ?_
  refine FR_nmR (w := 148) (lr11_25 t.1) ?_
  refine FR_ckI (okA_iff t.1 (by decide : Ar 14 8 148)) (fun q1477 => ?_)
  refine FR_nm (fun x72 => ?_)
  exact k_b_X12_runs_27 t (by omega)
def d_X12_runsReal_41 (n : Nat) (v1 : Int32) (σ : Sg) : Option (Int32 × Sg) :=
  bd (c_X12_runs n v1 σ) fun x33 σ32 =>
  nm (pI σ32 130 14 x33) fun σ35 =>
  nm (pI σ35 130 13 ((gI σ35 130 13) + (gI σ35 130 31))) fun σ37 =>
  some (gI σ37 130 14, σ37)
theorem k_b_X12_runsReal_41 {lo hi : Nat} {σ0 : Sg} {n : Nat} {v1 : Int32} {σ : Sg} (t : To lo hi σ0 σ) (w_v0 : lo ≤ 130 ∧ 168 ≤ hi) : FR (fun q => To lo hi σ0 q.2) (b_X12_runsReal_41 n 130 v1 σ) (d_X12_runsReal_41 n v1 σ) := by
  unfold b_X12_runsReal_41 d_X12_runsReal_41
  refine FR_ck (lo11 t.1) ?_
  refine FR_bd (k_f_X12_runs t (by omega)) (fun x33 σ32 t => ?_)
  refine FR_ck (lo11 t.1) ?_
  refine FR_nmS (To_pI t (by omega)) (fun σ35 t => ?_)
  refine FR_ck (lo11 t.1) ?_
  refine FR_nmS (To_pI t (by omega)) (fun σ37 t => ?_)
  refine FR_ck (lo11 t.1) ?_
  exact FR_some t
def d_X12_runsReal_15 : Nat → Int32 → Int32 → Sg → Option (Int32 × Sg)
  | 0, _, _, _ => none
  | n + 1, v1, v2, σ =>
  if (gI σ 130 3) ≤ v2 then (
    d_X12_runsReal_41 n v1 σ)
  else (
    ck (ix v2 12) <|
    ck (ix v2 12) <|
    nm (pI σ 141 v2.toNatClampNeg (gI σ 133 v2.toNatClampNeg)) fun σ45 =>
    nm (v2 + (1 : Int32)) fun x46 =>
    d_X12_runsReal_15 n v1 x46 σ45)
theorem k_b_X12_runsReal_15 {lo hi : Nat} {σ0 : Sg} : ∀ {n : Nat} {v1 : Int32} {v2 : Int32} {σ : Sg}, To lo hi σ0 σ → lo ≤ 130 ∧ 168 ≤ hi → FR (fun q => To lo hi σ0 q.2) (b_X12_runsReal_15 n 130 v1 v2 σ) (d_X12_runsReal_15 n v1 v2 σ) := by
  intro n
  induction n with
  | zero => intro v1 v2 σ t w_v0; exact FR_none
  | succ n ih =>
    intro v1 v2 σ t w_v0
    unfold b_X12_runsReal_15 d_X12_runsReal_15
    refine FR_ck (lo11 t.1) ?_
    refine FR_it (fun _ => ?_) (fun _ => ?_)
    · exact k_b_X12_runsReal_41 t (by omega)
    · refine FR_ck (ln11_18 t.1) ?_
      refine FR_nmR (w := 141) (lr11_18 t.1) ?_
      refine FR_ck (ln11_4 t.1) ?_
      refine FR_nmR (w := 133) (lr11_4 t.1) ?_
      refine FR_ckI (okA_iff t.1 (by decide : Ar 13 12 133)) (fun q1485 => ?_)
      refine FR_ckI (okW_iff t.1 (by decide : Ar 13 12 141)) (fun q1486 => ?_)
      refine FR_nmS (To_pI t (by omega)) (fun σ45 t => ?_)
      refine FR_nm (fun x46 => ?_)
      exact ih t (by omega)
def c_X12_runsReal (n : Nat) (v1 : Int32) (σ : Sg) : Option (Int32 × Sg) :=
  nm (pI σ 130 16 (0 : Int32)) fun σ25 =>
  nm (pI σ25 130 17 (gI σ25 130 3)) fun σ27 =>
  d_X12_runsReal_15 n v1 (0 : Int32) σ27
theorem k_f_X12_runsReal {lo hi : Nat} {σ0 : Sg} {n : Nat} {v1 : Int32} {σ : Sg} (t : To lo hi σ0 σ) (w_v0 : lo ≤ 130 ∧ 168 ≤ hi) : FR (fun q => To lo hi σ0 q.2) (f_X12_runsReal n 130 v1 σ) (c_X12_runsReal n v1 σ) := by
  unfold f_X12_runsReal c_X12_runsReal
  refine FR_ck (lo11 t.1) ?_
  refine FR_nmS (To_pI t (by omega)) (fun σ25 t => ?_)
  refine FR_ck (lo11 t.1) ?_
  refine FR_nmS (To_pI t (by omega)) (fun σ27 t => ?_)
  exact k_b_X12_runsReal_15 t (by omega)
def c_X12_run (n : Nat) (v1 : Int32) (σ : Sg) : Option (Int32 × Sg) :=
  bp (c_X12_isProgram v1 σ) fun x15 =>
  if x15 = 0 then (
    some ((-1 : Int32), σ))
  else (
    bd (c_X12_runsReal n v1 σ) fun x19 σ18 =>
    if x19 = (-2 : Int32) then (
      ck (ix v1 4) <|
      some (gI σ18 136 v1.toNatClampNeg, σ18))
    else (
      some (gI σ18 130 32, σ18)))
theorem k_f_X12_run {lo hi : Nat} {σ0 : Sg} {n : Nat} {v1 : Int32} {σ : Sg} (t : To lo hi σ0 σ) (w_v0 : lo ≤ 130 ∧ 168 ≤ hi) : FR (fun q => To lo hi σ0 q.2) (f_X12_run n 130 v1 σ) (c_X12_run n v1 σ) := by
  unfold f_X12_run c_X12_run
  refine FR_ck (lo11 t.1) ?_
  refine FR_bpP (k_f_X12_isProgram t).1 (fun x15 => ?_)
  refine FR_it (fun _ => ?_) (fun _ => ?_)
  · exact FR_some t
  · refine FR_bd (k_f_X12_runsReal t (by omega)) (fun x19 σ18 t => ?_)
    refine FR_it (fun _ => ?_) (fun _ => ?_)
    · refine FR_ck (lo11 t.1) ?_
      refine FR_ck (ln11_8 t.1) ?_
      refine FR_nmR (w := 136) (lr11_8 t.1) ?_
      refine FR_ckI (okA_iff t.1 (by decide : Ar 13 4 136)) (fun q1492 => ?_)
      exact FR_some t
    · refine FR_ck (lo11 t.1) ?_
      exact FR_some t
def d_X12_years_22 : Nat → Int32 → Int32 → Int32 → Sg → Option (Int32 × Sg)
  | 0, _, _, _, _ => none
  | n + 1, v1, v2, v3, σ =>
  if v2 ≤ v3 then (
    some (v3, σ))
  else (
    bd (c_X12_runsReal n v1 σ) fun x22 σ21 =>
    if x22 = (-2 : Int32) then (
      nm (v3 + (1 : Int32)) fun x24 =>
      d_X12_years_22 n v1 v2 x24 σ21)
    else (
      some (v3, σ21)))
theorem k_b_X12_years_22 {lo hi : Nat} {σ0 : Sg} : ∀ {n : Nat} {v1 : Int32} {v2 : Int32} {v3 : Int32} {σ : Sg}, To lo hi σ0 σ → lo ≤ 130 ∧ 168 ≤ hi → FR (fun q => To lo hi σ0 q.2) (b_X12_years_22 n 130 v1 v2 v3 σ) (d_X12_years_22 n v1 v2 v3 σ) := by
  intro n
  induction n with
  | zero => intro v1 v2 v3 σ t w_v0; exact FR_none
  | succ n ih =>
    intro v1 v2 v3 σ t w_v0
    unfold b_X12_years_22 d_X12_years_22
    refine FR_it (fun _ => ?_) (fun _ => ?_)
    · exact FR_some t
    · refine FR_ck (lo11 t.1) ?_
      refine FR_bd (k_f_X12_runsReal t (by omega)) (fun x22 σ21 t => ?_)
      refine FR_it (fun _ => ?_) (fun _ => ?_)
      · refine FR_nm (fun x24 => ?_)
        exact ih t (by omega)
      · exact FR_some t
def c_X12_years (n : Nat) (v1 : Int32) (v2 : Int32) (σ : Sg) : Option (Int32 × Sg) :=
  bp (c_X12_isProgram v1 σ) fun x13 =>
  if x13 = 0 then (
    some ((-1 : Int32), σ))
  else (
    bp (f_X12_in v2 (0 : Int32) (40 : Int32)) fun x16 =>
    if x16 = 0 then (
      some ((-1 : Int32), σ))
    else (
      d_X12_years_22 n v1 v2 (0 : Int32) σ))
theorem k_f_X12_years {lo hi : Nat} {σ0 : Sg} {n : Nat} {v1 : Int32} {v2 : Int32} {σ : Sg} (t : To lo hi σ0 σ) (w_v0 : lo ≤ 130 ∧ 168 ≤ hi) : FR (fun q => To lo hi σ0 q.2) (f_X12_years n 130 v1 v2 σ) (c_X12_years n v1 v2 σ) := by
  unfold f_X12_years c_X12_years
  refine FR_ck (lo11 t.1) ?_
  refine FR_bpP (k_f_X12_isProgram t).1 (fun x13 => ?_)
  refine FR_it (fun _ => ?_) (fun _ => ?_)
  · exact FR_some t
  · refine FR_nmP (fun x16 => ?_)
    refine FR_it (fun _ => ?_) (fun _ => ?_)
    · exact FR_some t
    · exact k_b_X12_years_22 t (by omega)
def c_X12_failed (σ : Sg) : Option Int32 :=
  some (gI σ 130 14)
theorem k_f_X12_failed {lo hi : Nat} {σ0 : Sg} {σ : Sg} (t : To lo hi σ0 σ) : FR (fun _ => True) (f_X12_failed 130 σ) (c_X12_failed σ) := by
  unfold f_X12_failed c_X12_failed
  refine FR_ck (lo11 t.1) ?_
  exact FR_some trivial
def d_X12_isRefused_10 (v1 : Int32) (s0 : Int32) (σ : Sg) : Option (Int32 × Sg) :=
  nm (pI σ 130 0 s0) fun σ5 =>
  if v1 = 0 then (
    some ((1 : Int32), σ5))
  else (
    some ((0 : Int32), σ5))
theorem k_b_X12_isRefused_10 {lo hi : Nat} {σ0 : Sg} {v1 : Int32} {s0 : Int32} {σ : Sg} (t : To lo hi σ0 σ) (w_s1 : lo ≤ 130 ∧ 168 ≤ hi) : FR (fun q => To lo hi σ0 q.2) (b_X12_isRefused_10 v1 s0 130 σ) (d_X12_isRefused_10 v1 s0 σ) := by
  unfold b_X12_isRefused_10 d_X12_isRefused_10
  refine FR_ck (lo11 t.1) ?_
  refine FR_nmS (To_pI t (by omega)) (fun σ5 t => ?_)
  refine FR_it (fun _ => ?_) (fun _ => ?_)
  · exact FR_some t
  · exact FR_some t
def c_X12_isRefused (v1 : Int32) (σ : Sg) : Option (Int32 × Sg) :=
  if v1 = 0 then (
    d_X12_isRefused_10 v1 (1 : Int32) σ)
  else (
    d_X12_isRefused_10 v1 (0 : Int32) σ)
theorem k_f_X12_isRefused {lo hi : Nat} {σ0 : Sg} {v1 : Int32} {σ : Sg} (t : To lo hi σ0 σ) (w_v0 : lo ≤ 130 ∧ 168 ≤ hi) : FR (fun q => To lo hi σ0 q.2) (f_X12_isRefused 130 v1 σ) (c_X12_isRefused v1 σ) := by
  unfold f_X12_isRefused c_X12_isRefused
  refine FR_it (fun _ => ?_) (fun _ => ?_)
  · exact k_b_X12_isRefused_10 t (by omega)
  · exact k_b_X12_isRefused_10 t (by omega)
def c_X12_account (v1 : Int32) (σ : Sg) : Option (Int64 × Sg) :=
  bp (f_X12_in v1 (0 : Int32) (7 : Int32)) fun x12 =>
  bd (c_X12_isRefused x12 σ) fun x16 σ15 =>
  if x16 = 0 then (
    ck (ix v1 16) <|
    some (gJ σ15 146 v1.toNatClampNeg, σ15))
  else (
    some ((0 : Int64), σ15))
theorem k_f_X12_account {lo hi : Nat} {σ0 : Sg} {v1 : Int32} {σ : Sg} (t : To lo hi σ0 σ) (w_v0 : lo ≤ 130 ∧ 168 ≤ hi) : FR (fun q => To lo hi σ0 q.2) (f_X12_account 130 v1 σ) (c_X12_account v1 σ) := by
  unfold f_X12_account c_X12_account
  refine FR_nmP (fun x12 => ?_)
  refine FR_ck (lo11 t.1) ?_
  refine FR_bd (k_f_X12_isRefused t (by omega)) (fun x16 σ15 t => ?_)
  refine FR_it (fun _ => ?_) (fun _ => ?_)
  · refine FR_ck (lo11 t.1) ?_
    refine FR_ck (ln11_23 t.1) ?_
    refine FR_nmR (w := 146) (lr11_23 t.1) ?_
    refine FR_ckI (okA_iff t.1 (by decide : Ar 14 16 146)) (fun q1501 => ?_)
    exact FR_some t
  · exact FR_some t
def d_X12_slot_25 (v1 : Int32) (v2 : Int32) (s0 : Int32) (σ : Sg) : Option (Int64 × Sg) :=
  bd (c_X12_isRefused s0 σ) fun x27 σ26 =>
  if x27 = 0 then (
    if v2 = 0 then (
      ck (ix v1 16) <|
      some (gJ σ26 142 v1.toNatClampNeg, σ26))
    else (
      if v2 = (1 : Int32) then (
        ck (ix v1 16) <|
        some (gJ σ26 143 v1.toNatClampNeg, σ26))
      else (
        ck (ix v1 16) <|
        if (gI σ26 149 v1.toNatClampNeg) = 0 then (
          some ((0 : Int64), σ26))
        else (
          some ((1 : Int64), σ26)))))
  else (
    some ((0 : Int64), σ26))
theorem k_b_X12_slot_25 {lo hi : Nat} {σ0 : Sg} {v1 : Int32} {v2 : Int32} {s0 : Int32} {σ : Sg} (t : To lo hi σ0 σ) (w_s1 : lo ≤ 130 ∧ 168 ≤ hi) : FR (fun q => To lo hi σ0 q.2) (b_X12_slot_25 130 v1 v2 s0 130 σ) (d_X12_slot_25 v1 v2 s0 σ) := by
  unfold b_X12_slot_25 d_X12_slot_25
  refine FR_ck (lo11 t.1) ?_
  refine FR_bd (k_f_X12_isRefused t (by omega)) (fun x27 σ26 t => ?_)
  refine FR_it (fun _ => ?_) (fun _ => ?_)
  · refine FR_it (fun _ => ?_) (fun _ => ?_)
    · refine FR_ck (lo11 t.1) ?_
      refine FR_ck (ln11_19 t.1) ?_
      refine FR_nmR (w := 142) (lr11_19 t.1) ?_
      refine FR_ckI (okA_iff t.1 (by decide : Ar 14 16 142)) (fun q1505 => ?_)
      exact FR_some t
    · refine FR_it (fun _ => ?_) (fun _ => ?_)
      · refine FR_ck (lo11 t.1) ?_
        refine FR_ck (ln11_20 t.1) ?_
        refine FR_nmR (w := 143) (lr11_20 t.1) ?_
        refine FR_ckI (okA_iff t.1 (by decide : Ar 14 16 143)) (fun q1508 => ?_)
        exact FR_some t
      · refine FR_ck (lo11 t.1) ?_
        refine FR_ck (ln11_26 t.1) ?_
        refine FR_nmR (w := 149) (lr11_26 t.1) ?_
        refine FR_ckI (okA_iff t.1 (by decide : Ar 15 16 149)) (fun q1511 => ?_)
        refine FR_it (fun _ => ?_) (fun _ => ?_)
        · exact FR_some t
        · exact FR_some t
  · exact FR_some t
def d_X12_slot_24 (v1 : Int32) (v2 : Int32) (σ : Sg) : Option (Int64 × Sg) :=
  d_X12_slot_25 v1 v2 (0 : Int32) σ
theorem k_b_X12_slot_24 {lo hi : Nat} {σ0 : Sg} {v1 : Int32} {v2 : Int32} {σ : Sg} (t : To lo hi σ0 σ) (w_s0 : lo ≤ 130 ∧ 168 ≤ hi) : FR (fun q => To lo hi σ0 q.2) (b_X12_slot_24 130 v1 v2 130 σ) (d_X12_slot_24 v1 v2 σ) := by
  unfold b_X12_slot_24 d_X12_slot_24
  exact k_b_X12_slot_25 t (by omega)
def c_X12_slot (v1 : Int32) (v2 : Int32) (σ : Sg) : Option (Int64 × Sg) :=
  bp (f_X12_in v1 (0 : Int32) (7 : Int32)) fun x22 =>
  if x22 = 0 then (
    d_X12_slot_24 v1 v2 σ)
  else (
    bp (f_X12_in v2 (0 : Int32) (2 : Int32)) fun x45 =>
    if x45 = 0 then (
      d_X12_slot_24 v1 v2 σ)
    else (
      d_X12_slot_25 v1 v2 (1 : Int32) σ))
theorem k_f_X12_slot {lo hi : Nat} {σ0 : Sg} {v1 : Int32} {v2 : Int32} {σ : Sg} (t : To lo hi σ0 σ) (w_v0 : lo ≤ 130 ∧ 168 ≤ hi) : FR (fun q => To lo hi σ0 q.2) (f_X12_slot 130 v1 v2 σ) (c_X12_slot v1 v2 σ) := by
  unfold f_X12_slot c_X12_slot
  refine FR_nmP (fun x22 => ?_)
  refine FR_it (fun _ => ?_) (fun _ => ?_)
  · exact k_b_X12_slot_24 t (by omega)
  · refine FR_nmP (fun x45 => ?_)
    refine FR_it (fun _ => ?_) (fun _ => ?_)
    · exact k_b_X12_slot_24 t (by omega)
    · exact k_b_X12_slot_25 t (by omega)
def c_X12_part (v1 : Int32) (σ : Sg) : Option (Int64 × Sg) :=
  bp (f_X12_in v1 (0 : Int32) (7 : Int32)) fun x12 =>
  bd (c_X12_isRefused x12 σ) fun x16 σ15 =>
  if x16 = 0 then (
    ck (ix v1 16) <|
    some (gJ σ15 144 v1.toNatClampNeg, σ15))
  else (
    some ((0 : Int64), σ15))
theorem k_f_X12_part {lo hi : Nat} {σ0 : Sg} {v1 : Int32} {σ : Sg} (t : To lo hi σ0 σ) (w_v0 : lo ≤ 130 ∧ 168 ≤ hi) : FR (fun q => To lo hi σ0 q.2) (f_X12_part 130 v1 σ) (c_X12_part v1 σ) := by
  unfold f_X12_part c_X12_part
  refine FR_nmP (fun x12 => ?_)
  refine FR_ck (lo11 t.1) ?_
  refine FR_bd (k_f_X12_isRefused t (by omega)) (fun x16 σ15 t => ?_)
  refine FR_it (fun _ => ?_) (fun _ => ?_)
  · refine FR_ck (lo11 t.1) ?_
    refine FR_ck (ln11_21 t.1) ?_
    refine FR_nmR (w := 144) (lr11_21 t.1) ?_
    refine FR_ckI (okA_iff t.1 (by decide : Ar 14 16 144)) (fun q1515 => ?_)
    exact FR_some t
  · exact FR_some t
def c_X12_got (v1 : Int32) (σ : Sg) : Option (Int64 × Sg) :=
  bp (f_X12_in v1 (0 : Int32) (11 : Int32)) fun x12 =>
  bd (c_X12_isRefused x12 σ) fun x16 σ15 =>
  if x16 = 0 then (
    ck (ix v1 24) <|
    some (gJ σ15 145 v1.toNatClampNeg, σ15))
  else (
    some ((0 : Int64), σ15))
theorem k_f_X12_got {lo hi : Nat} {σ0 : Sg} {v1 : Int32} {σ : Sg} (t : To lo hi σ0 σ) (w_v0 : lo ≤ 130 ∧ 168 ≤ hi) : FR (fun q => To lo hi σ0 q.2) (f_X12_got 130 v1 σ) (c_X12_got v1 σ) := by
  unfold f_X12_got c_X12_got
  refine FR_nmP (fun x12 => ?_)
  refine FR_ck (lo11 t.1) ?_
  refine FR_bd (k_f_X12_isRefused t (by omega)) (fun x16 σ15 t => ?_)
  refine FR_it (fun _ => ?_) (fun _ => ?_)
  · refine FR_ck (lo11 t.1) ?_
    refine FR_ck (ln11_22 t.1) ?_
    refine FR_nmR (w := 145) (lr11_22 t.1) ?_
    refine FR_ckI (okA_iff t.1 (by decide : Ar 14 24 145)) (fun q1519 => ?_)
    exact FR_some t
  · exact FR_some t
def d_X12_carried_23 (v1 : Int32) (v2 : Int32) (s0 : Int32) (σ : Sg) : Option (Int64 × Sg) :=
  bd (c_X12_isRefused s0 σ) fun x25 σ24 =>
  if x25 = 0 then (
    if v2 = 0 then (
      ck (ix v1 8) <|
      some (gJ σ24 147 v1.toNatClampNeg, σ24))
    else (
      ck (ix v1 8) <|
      some (gJ σ24 148 v1.toNatClampNeg, σ24)))
  else (
    some ((0 : Int64), σ24))
theorem k_b_X12_carried_23 {lo hi : Nat} {σ0 : Sg} {v1 : Int32} {v2 : Int32} {s0 : Int32} {σ : Sg} (t : To lo hi σ0 σ) (w_s1 : lo ≤ 130 ∧ 168 ≤ hi) : FR (fun q => To lo hi σ0 q.2) (b_X12_carried_23 130 v1 v2 s0 130 σ) (d_X12_carried_23 v1 v2 s0 σ) := by
  unfold b_X12_carried_23 d_X12_carried_23
  refine FR_ck (lo11 t.1) ?_
  refine FR_bd (k_f_X12_isRefused t (by omega)) (fun x25 σ24 t => ?_)
  refine FR_it (fun _ => ?_) (fun _ => ?_)
  · refine FR_it (fun _ => ?_) (fun _ => ?_)
    · refine FR_ck (lo11 t.1) ?_
      refine FR_ck (ln11_24 t.1) ?_
      refine FR_nmR (w := 147) (lr11_24 t.1) ?_
      refine FR_ckI (okA_iff t.1 (by decide : Ar 14 8 147)) (fun q1523 => ?_)
      exact FR_some t
    · refine FR_ck (lo11 t.1) ?_
      refine FR_ck (ln11_25 t.1) ?_
      refine FR_nmR (w := 148) (lr11_25 t.1) ?_
      refine FR_ckI (okA_iff t.1 (by decide : Ar 14 8 148)) (fun q1526 => ?_)
      exact FR_some t
  · exact FR_some t
def d_X12_carried_22 (v1 : Int32) (v2 : Int32) (σ : Sg) : Option (Int64 × Sg) :=
  d_X12_carried_23 v1 v2 (0 : Int32) σ
theorem k_b_X12_carried_22 {lo hi : Nat} {σ0 : Sg} {v1 : Int32} {v2 : Int32} {σ : Sg} (t : To lo hi σ0 σ) (w_s0 : lo ≤ 130 ∧ 168 ≤ hi) : FR (fun q => To lo hi σ0 q.2) (b_X12_carried_22 130 v1 v2 130 σ) (d_X12_carried_22 v1 v2 σ) := by
  unfold b_X12_carried_22 d_X12_carried_22
  exact k_b_X12_carried_23 t (by omega)
def c_X12_carried (v1 : Int32) (v2 : Int32) (σ : Sg) : Option (Int64 × Sg) :=
  bp (c_X12_isProgram v1 σ) fun x20 =>
  if x20 = 0 then (
    d_X12_carried_22 v1 v2 σ)
  else (
    bp (f_X12_in v2 (0 : Int32) (1 : Int32)) fun x37 =>
    if x37 = 0 then (
      d_X12_carried_22 v1 v2 σ)
    else (
      d_X12_carried_23 v1 v2 (1 : Int32) σ))
theorem k_f_X12_carried {lo hi : Nat} {σ0 : Sg} {v1 : Int32} {v2 : Int32} {σ : Sg} (t : To lo hi σ0 σ) (w_v0 : lo ≤ 130 ∧ 168 ≤ hi) : FR (fun q => To lo hi σ0 q.2) (f_X12_carried 130 v1 v2 σ) (c_X12_carried v1 v2 σ) := by
  unfold f_X12_carried c_X12_carried
  refine FR_ck (lo11 t.1) ?_
  refine FR_bpP (k_f_X12_isProgram t).1 (fun x20 => ?_)
  refine FR_it (fun _ => ?_) (fun _ => ?_)
  · exact k_b_X12_carried_22 t (by omega)
  · refine FR_nmP (fun x37 => ?_)
    refine FR_it (fun _ => ?_) (fun _ => ?_)
    · exact k_b_X12_carried_22 t (by omega)
    · exact k_b_X12_carried_23 t (by omega)
def d_X12_tries_29 (n : Nat) (v1 : Int32) (σ : Sg) : Option (Int32 × Sg) :=
  ck (ix ((4 : Int32) + v1) 8) <|
  nm (pJ σ 147 ((4 : Int32) + v1).toNatClampNeg (0 : Int64)) fun σ32 =>
  ck (ix ((4 : Int32) + v1) 8) <|
  nm (pJ σ32 148 ((4 : Int32) + v1).toNatClampNeg (1 : Int64)) fun σ37 =>
  bd (c_X12_runs n v1 σ37) fun x41 σ40 =>
  nm (pI σ40 130 16 (0 : Int32)) fun σ43 =>
  if x41 = (-2 : Int32) then (
    some ((0 : Int32), σ43))
  else (
    some ((1 : Int32), σ43))
theorem k_b_X12_tries_29 {lo hi : Nat} {σ0 : Sg} {n : Nat} {v1 : Int32} {σ : Sg} (t : To lo hi σ0 σ) (w_v0 : lo ≤ 130 ∧ 168 ≤ hi) : FR (fun q => To lo hi σ0 q.2) (b_X12_tries_29 n 130 v1 σ) (d_X12_tries_29 n v1 σ) := by
  unfold b_X12_tries_29 d_X12_tries_29
  refine FR_ck (lo11 t.1) ?_
  refine FR_ck (ln11_24 t.1) ?_
  refine FR_nmR (w := 147) (lr11_24 t.1) ?_
  refine FR_ckI (okW_iff t.1 (by decide : Ar 14 8 147)) (fun q1530 => ?_)
  refine FR_nmS (To_pJ t (by omega)) (fun σ32 t => ?_)
  refine FR_ck (lo11 t.1) ?_
  refine FR_ck (ln11_25 t.1) ?_
  refine FR_nmR (w := 148) (lr11_25 t.1) ?_
  refine FR_ckI (okW_iff t.1 (by decide : Ar 14 8 148)) (fun q1533 => ?_)
  refine FR_nmS (To_pJ t (by omega)) (fun σ37 t => ?_)
  refine FR_ck (lo11 t.1) ?_
  refine FR_bd (k_f_X12_runs t (by omega)) (fun x41 σ40 t => ?_)
  refine FR_ck (lo11 t.1) ?_
  refine FR_nmS (To_pI t (by omega)) (fun σ43 t => ?_)
  refine FR_it (fun _ => ?_) (fun _ => ?_)
  · exact FR_some t
  · exact FR_some t
def d_X12_tries_7 : Nat → Int32 → Int32 → Sg → Option (Int32 × Sg)
  | 0, _, _, _ => none
  | n + 1, v1, v2, σ =>
  if (8 : Int32) ≤ v2 then (
    d_X12_tries_29 n v1 σ)
  else (
    ck (ix ((8 : Int32) + v2) 16) <|
    nm (pJ σ 146 ((8 : Int32) + v2).toNatClampNeg (0 : Int64)) fun σ49 =>
    nm (v2 + (1 : Int32)) fun x50 =>
    d_X12_tries_7 n v1 x50 σ49)
theorem k_b_X12_tries_7 {lo hi : Nat} {σ0 : Sg} : ∀ {n : Nat} {v1 : Int32} {v2 : Int32} {σ : Sg}, To lo hi σ0 σ → lo ≤ 130 ∧ 168 ≤ hi → FR (fun q => To lo hi σ0 q.2) (b_X12_tries_7 n 130 v1 v2 σ) (d_X12_tries_7 n v1 v2 σ) := by
  intro n
  induction n with
  | zero => intro v1 v2 σ t w_v0; exact FR_none
  | succ n ih =>
    intro v1 v2 σ t w_v0
    unfold b_X12_tries_7 d_X12_tries_7
    refine FR_it (fun _ => ?_) (fun _ => ?_)
    · exact k_b_X12_tries_29 t (by omega)
    · refine FR_ck (lo11 t.1) ?_
      refine FR_ck (ln11_23 t.1) ?_
      refine FR_nmR (w := 146) (lr11_23 t.1) ?_
      refine FR_ckI (okW_iff t.1 (by decide : Ar 14 16 146)) (fun q1538 => ?_)
      refine FR_nmS (To_pJ t (by omega)) (fun σ49 t => ?_)
      refine FR_nm (fun x50 => ?_)
      exact ih t (by omega)
def c_X12_tries (n : Nat) (v1 : Int32) (σ : Sg) : Option (Int32 × Sg) :=
  nm (pI σ 130 16 (1 : Int32)) fun σ26 =>
  d_X12_tries_7 n v1 (0 : Int32) σ26
theorem k_f_X12_tries {lo hi : Nat} {σ0 : Sg} {n : Nat} {v1 : Int32} {σ : Sg} (t : To lo hi σ0 σ) (w_v0 : lo ≤ 130 ∧ 168 ≤ hi) : FR (fun q => To lo hi σ0 q.2) (f_X12_tries n 130 v1 σ) (c_X12_tries n v1 σ) := by
  unfold f_X12_tries c_X12_tries
  refine FR_ck (lo11 t.1) ?_
  refine FR_nmS (To_pI t (by omega)) (fun σ26 t => ?_)
  exact k_b_X12_tries_7 t (by omega)
def c_X12_triesAmount (n : Nat) (v1 : Int32) (v2 : Int32) (σ : Sg) : Option (Int32 × Sg) :=
  nm (pI σ 130 17 (1 : Int32)) fun σ13 =>
  ck (ix (0 : Int32) 12) <|
  nm (pI σ13 141 (0 : Int32).toNatClampNeg v2) fun σ18 =>
  bd (c_X12_tries n v1 σ18) fun x22 σ21 =>
  ck (x22 = 0 ∨ x22 = 1) <|
  some (x22, σ21)
theorem k_f_X12_triesAmount {lo hi : Nat} {σ0 : Sg} {n : Nat} {v1 : Int32} {v2 : Int32} {σ : Sg} (t : To lo hi σ0 σ) (w_v0 : lo ≤ 130 ∧ 168 ≤ hi) : FR (fun q => To lo hi σ0 q.2) (f_X12_triesAmount n 130 v1 v2 σ) (c_X12_triesAmount n v1 v2 σ) := by
  unfold f_X12_triesAmount c_X12_triesAmount
  refine FR_ck (lo11 t.1) ?_
  refine FR_nmS (To_pI t (by omega)) (fun σ13 t => ?_)
  refine FR_ck (lo11 t.1) ?_
  refine FR_ck (ln11_18 t.1) ?_
  refine FR_nmR (w := 141) (lr11_18 t.1) ?_
  refine FR_ckI (okW_iff t.1 (by decide : Ar 13 12 141)) (fun q1543 => ?_)
  refine FR_nmS (To_pI t (by omega)) (fun σ18 t => ?_)
  refine FR_ck (lo11 t.1) ?_
  refine FR_bd (k_f_X12_tries t (by omega)) (fun x22 σ21 t => ?_)
  refine FR_ckI Iff.rfl (fun q1545 => ?_)
  exact FR_some t
def d_X12_notes_2 : Nat → Int32 → Sg → Option Sg
  | 0, _, _ => none
  | n + 1, v1, σ =>
  if (8 : Int32) ≤ v1 then (
    some σ)
  else (
    ck (ix ((8 : Int32) + v1) 16) <|
    ck (ix v1 8) <|
    nm (pJ σ 159 v1.toNatClampNeg (gJ σ 146 ((8 : Int32) + v1).toNatClampNeg)) fun σ18 =>
    nm (v1 + (1 : Int32)) fun x19 =>
    d_X12_notes_2 n x19 σ18)
theorem k_b_X12_notes_2 {lo hi : Nat} {σ0 : Sg} : ∀ {n : Nat} {v1 : Int32} {σ : Sg}, To lo hi σ0 σ → lo ≤ 130 ∧ 168 ≤ hi → FR (fun q => To lo hi σ0 q) (b_X12_notes_2 n 130 v1 σ) (d_X12_notes_2 n v1 σ) := by
  intro n
  induction n with
  | zero => intro v1 σ t w_v0; exact FR_none
  | succ n ih =>
    intro v1 σ t w_v0
    unfold b_X12_notes_2 d_X12_notes_2
    refine FR_it (fun _ => ?_) (fun _ => ?_)
    · exact FR_some t
    · refine FR_ck (lo11 t.1) ?_
      refine FR_ck (ln11_42 t.1) ?_
      refine FR_nmR (w := 159) (lr11_42 t.1) ?_
      refine FR_ck (ln11_23 t.1) ?_
      refine FR_nmR (w := 146) (lr11_23 t.1) ?_
      refine FR_ckI (okA_iff t.1 (by decide : Ar 14 16 146)) (fun q1549 => ?_)
      refine FR_ckI (okW_iff t.1 (by decide : Ar 14 8 159)) (fun q1550 => ?_)
      refine FR_nmS (To_pJ t (by omega)) (fun σ18 t => ?_)
      refine FR_nm (fun x19 => ?_)
      exact ih t (by omega)
def c_X12_notes (n : Nat) (σ : Sg) : Option Sg :=
  d_X12_notes_2 n (0 : Int32) σ
theorem k_f_X12_notes {lo hi : Nat} {σ0 : Sg} {n : Nat} {σ : Sg} (t : To lo hi σ0 σ) (w_v0 : lo ≤ 130 ∧ 168 ≤ hi) : FR (fun q => To lo hi σ0 q) (f_X12_notes n 130 σ) (c_X12_notes n σ) := by
  unfold f_X12_notes c_X12_notes
  exact k_b_X12_notes_2 t (by omega)
def d_X12_differs_44 (k5 : Int32 → Int32 → Option Int32) (n : Nat) (v1 : Int64) (v4 : Int32) (s0 : Int32) (σ : Sg) : Option Int32 :=
  nm (v4 + (1 : Int32)) fun x12 =>
  k5 s0 x12
theorem k_b_X12_differs_44 {lo hi : Nat} {σ0 : Sg} {k5 k5c : Int32 → Int32 → Option Int32} {n : Nat} {v1 : Int64} {v4 : Int32} {s0 : Int32} {σ : Sg} (h_k5 : ∀ (c0 : Int32) (c1 : Int32), FR (fun _ => True) (k5 c0 c1) (k5c c0 c1)) (t : To lo hi σ0 σ) : FR (fun _ => True) (b_X12_differs_44 k5 n 130 v1 v4 s0 σ) (d_X12_differs_44 k5c n v1 v4 s0 σ) := by
  unfold b_X12_differs_44 d_X12_differs_44
  refine FR_nm (fun x12 => ?_)
  exact h_k5 _ _
def d_X12_differs_39 (k5 : Int32 → Int32 → Option Int32) (n : Nat) (v1 : Int64) (v4 : Int32) (σ : Sg) : Option Int32 :=
  d_X12_differs_44 k5 n v1 v4 (1 : Int32) σ
theorem k_b_X12_differs_39 {lo hi : Nat} {σ0 : Sg} {k5 k5c : Int32 → Int32 → Option Int32} {n : Nat} {v1 : Int64} {v4 : Int32} {σ : Sg} (h_k5 : ∀ (c0 : Int32) (c1 : Int32), FR (fun _ => True) (k5 c0 c1) (k5c c0 c1)) (t : To lo hi σ0 σ) : FR (fun _ => True) (b_X12_differs_39 k5 n 130 v1 v4 σ) (d_X12_differs_39 k5c n v1 v4 σ) := by
  unfold b_X12_differs_39 d_X12_differs_39
  exact k_b_X12_differs_44 h_k5 t
def d_X12_differs_5 : Nat → Int64 → Int32 → Int32 → Sg → Option Int32
  | 0, _, _, _, _ => none
  | n + 1, v1, v3, v4, σ =>
  if (8 : Int32) ≤ v4 then (
    ck (v3 = 0 ∨ v3 = 1) <|
    some v3)
  else (
    if v3 = 0 then (
      ck (ix v4 8) <|
      ck (ix ((8 : Int32) + v4) 16) <|
      if (gJ σ 159 v4.toNatClampNeg) = (v1 * (gJ σ 146 ((8 : Int32) + v4).toNatClampNeg)) then (
        d_X12_differs_44 (fun c3 c4 => d_X12_differs_5 n v1 c3 c4 σ) n v1 v4 (0 : Int32) σ)
      else (
        d_X12_differs_39 (fun c3 c4 => d_X12_differs_5 n v1 c3 c4 σ) n v1 v4 σ))
    else (
      d_X12_differs_39 (fun c3 c4 => d_X12_differs_5 n v1 c3 c4 σ) n v1 v4 σ))
theorem k_b_X12_differs_5 {lo hi : Nat} {σ0 : Sg} : ∀ {n : Nat} {v1 : Int64} {v3 : Int32} {v4 : Int32} {σ : Sg}, To lo hi σ0 σ → FR (fun _ => True) (b_X12_differs_5 n 130 v1 v3 v4 σ) (d_X12_differs_5 n v1 v3 v4 σ) := by
  intro n
  induction n with
  | zero => intro v1 v3 v4 σ t; exact FR_none
  | succ n ih =>
    intro v1 v3 v4 σ t
    unfold b_X12_differs_5 d_X12_differs_5
    refine FR_it (fun _ => ?_) (fun _ => ?_)
    · refine FR_ckI Iff.rfl (fun q1551 => ?_)
      exact FR_some trivial
    · refine FR_it (fun _ => ?_) (fun _ => ?_)
      · refine FR_ck (lo11 t.1) ?_
        refine FR_ck (ln11_42 t.1) ?_
        refine FR_nmR (w := 159) (lr11_42 t.1) ?_
        refine FR_ckI (okA_iff t.1 (by decide : Ar 14 8 159)) (fun q1554 => ?_)
        refine FR_ck (ln11_23 t.1) ?_
        refine FR_nmR (w := 146) (lr11_23 t.1) ?_
        refine FR_ckI (okA_iff t.1 (by decide : Ar 14 16 146)) (fun q1556 => ?_)
        refine FR_it (fun _ => ?_) (fun _ => ?_)
        · exact k_b_X12_differs_44 (fun c3 c4 => ih t) t
        · exact k_b_X12_differs_39 (fun c3 c4 => ih t) t
      · exact k_b_X12_differs_39 (fun c3 c4 => ih t) t
def c_X12_differs (n : Nat) (v1 : Int64) (σ : Sg) : Option Int32 :=
  d_X12_differs_5 n v1 (0 : Int32) (0 : Int32) σ
theorem k_f_X12_differs {lo hi : Nat} {σ0 : Sg} {n : Nat} {v1 : Int64} {σ : Sg} (t : To lo hi σ0 σ) : FR (fun _ => True) (f_X12_differs n 130 v1 σ) (c_X12_differs n v1 σ) := by
  unfold f_X12_differs c_X12_differs
  exact k_b_X12_differs_5 t
def d_X12_isUnfair_99 (k25 : Int32 → Int32 → Option Int32) (n : Nat) (v2 : Int64) (v4 : Int32) (s0 : Int32) (σ : Sg) : Option Int32 :=
  nm (v4 + (1 : Int32)) fun x33 =>
  k25 s0 x33
theorem k_b_X12_isUnfair_99 {lo hi : Nat} {σ0 : Sg} {k25 k25c : Int32 → Int32 → Option Int32} {n : Nat} {v2 : Int64} {v4 : Int32} {s0 : Int32} {σ : Sg} (h_k25 : ∀ (c0 : Int32) (c1 : Int32), FR (fun _ => True) (k25 c0 c1) (k25c c0 c1)) (t : To lo hi σ0 σ) : FR (fun _ => True) (b_X12_isUnfair_99 k25 n 130 v2 v4 s0 σ) (d_X12_isUnfair_99 k25c n v2 v4 s0 σ) := by
  unfold b_X12_isUnfair_99 d_X12_isUnfair_99
  refine FR_nm (fun x33 => ?_)
  exact h_k25 _ _
def d_X12_isUnfair_94 (k25 : Int32 → Int32 → Option Int32) (n : Nat) (v2 : Int64) (v4 : Int32) (σ : Sg) : Option Int32 :=
  d_X12_isUnfair_99 k25 n v2 v4 (1 : Int32) σ
theorem k_b_X12_isUnfair_94 {lo hi : Nat} {σ0 : Sg} {k25 k25c : Int32 → Int32 → Option Int32} {n : Nat} {v2 : Int64} {v4 : Int32} {σ : Sg} (h_k25 : ∀ (c0 : Int32) (c1 : Int32), FR (fun _ => True) (k25 c0 c1) (k25c c0 c1)) (t : To lo hi σ0 σ) : FR (fun _ => True) (b_X12_isUnfair_94 k25 n 130 v2 v4 σ) (d_X12_isUnfair_94 k25c n v2 v4 σ) := by
  unfold b_X12_isUnfair_94 d_X12_isUnfair_94
  exact k_b_X12_isUnfair_99 h_k25 t
def d_X12_isUnfair_25 : Nat → Int32 → Int64 → Int32 → Sg → Option Int32
  | 0, _, _, _, _ => none
  | n + 1, v1, v2, v4, σ =>
  if (gI σ 130 27) = 0 then (
    ck (v1 = 0 ∨ v1 = 1) <|
    some v1)
  else (
    bp (c_X12_partsOf n (gI σ 130 30) σ) fun x23 =>
    if x23 ≤ v4 then (
      ck (v1 = 0 ∨ v1 = 1) <|
      some v1)
    else (
      ck (ix ((8 : Int32) + v4) 16) <|
      bp (c_X12_weighed n (gI σ 130 30) v4 σ) fun x30 =>
      nm (((gJ σ 144 ((8 : Int32) + v4).toNatClampNeg) * v2) - ((gJ σ 130 29) * x30)) fun x31 =>
      if v1 = 0 then (
        if v2 ≤ x31 then (
          d_X12_isUnfair_94 (fun c1 c4 => d_X12_isUnfair_25 n c1 v2 c4 σ) n v2 v4 σ)
        else (
          if (-v2) < x31 then (
            d_X12_isUnfair_99 (fun c1 c4 => d_X12_isUnfair_25 n c1 v2 c4 σ) n v2 v4 (0 : Int32) σ)
          else (
            d_X12_isUnfair_94 (fun c1 c4 => d_X12_isUnfair_25 n c1 v2 c4 σ) n v2 v4 σ)))
      else (
        d_X12_isUnfair_94 (fun c1 c4 => d_X12_isUnfair_25 n c1 v2 c4 σ) n v2 v4 σ)))
theorem k_b_X12_isUnfair_25 {lo hi : Nat} {σ0 : Sg} : ∀ {n : Nat} {v1 : Int32} {v2 : Int64} {v4 : Int32} {σ : Sg}, To lo hi σ0 σ → FR (fun _ => True) (b_X12_isUnfair_25 n 130 v1 v2 v4 σ) (d_X12_isUnfair_25 n v1 v2 v4 σ) := by
  intro n
  induction n with
  | zero => intro v1 v2 v4 σ t; exact FR_none
  | succ n ih =>
    intro v1 v2 v4 σ t
    unfold b_X12_isUnfair_25 d_X12_isUnfair_25
    refine FR_ck (lo11 t.1) ?_
    refine FR_it (fun _ => ?_) (fun _ => ?_)
    · refine FR_ckI Iff.rfl (fun q1558 => ?_)
      exact FR_some trivial
    · refine FR_bpP (k_f_X12_partsOf t).1 (fun x23 => ?_)
      refine FR_it (fun _ => ?_) (fun _ => ?_)
      · refine FR_ckI Iff.rfl (fun q1559 => ?_)
        exact FR_some trivial
      · refine FR_ck (ln11_21 t.1) ?_
        refine FR_nmR (w := 144) (lr11_21 t.1) ?_
        refine FR_ckI (okA_iff t.1 (by decide : Ar 14 16 144)) (fun q1561 => ?_)
        refine FR_bpP (k_f_X12_weighed t).1 (fun x30 => ?_)
        refine FR_nm (fun x31 => ?_)
        refine FR_it (fun _ => ?_) (fun _ => ?_)
        · refine FR_it (fun _ => ?_) (fun _ => ?_)
          · exact k_b_X12_isUnfair_94 (fun c1 c4 => ih t) t
          · refine FR_it (fun _ => ?_) (fun _ => ?_)
            · exact k_b_X12_isUnfair_99 (fun c1 c4 => ih t) t
            · exact k_b_X12_isUnfair_94 (fun c1 c4 => ih t) t
        · exact k_b_X12_isUnfair_94 (fun c1 c4 => ih t) t
def d_X12_isUnfair_21 (n : Nat) (v1 : Int32) (s0 : Int64) (σ : Sg) : Option Int32 :=
  d_X12_isUnfair_25 n v1 s0 (0 : Int32) σ
theorem k_b_X12_isUnfair_21 {lo hi : Nat} {σ0 : Sg} {n : Nat} {v1 : Int32} {s0 : Int64} {σ : Sg} (t : To lo hi σ0 σ) : FR (fun _ => True) (b_X12_isUnfair_21 n 130 v1 s0 σ) (d_X12_isUnfair_21 n v1 s0 σ) := by
  unfold b_X12_isUnfair_21 d_X12_isUnfair_21
  exact k_b_X12_isUnfair_25 t
def c_X12_isUnfair (n : Nat) (σ : Sg) : Option Int32 :=
  if (gI σ 130 27) = 0 then (
    d_X12_isUnfair_21 n (0 : Int32) (1 : Int64) σ)
  else (
    bp (c_X12_allWeights n (gI σ 130 30) σ) fun x37 =>
    d_X12_isUnfair_21 n (0 : Int32) x37 σ)
theorem k_f_X12_isUnfair {lo hi : Nat} {σ0 : Sg} {n : Nat} {σ : Sg} (t : To lo hi σ0 σ) : FR (fun _ => True) (f_X12_isUnfair n 130 σ) (c_X12_isUnfair n σ) := by
  unfold f_X12_isUnfair c_X12_isUnfair
  refine FR_ck (lo11 t.1) ?_
  refine FR_it (fun _ => ?_) (fun _ => ?_)
  · exact k_b_X12_isUnfair_21 t
  · refine FR_bpP (k_f_X12_allWeights t).1 (fun x37 => ?_)
    exact k_b_X12_isUnfair_21 t
def c_X12_rateF (v1 : Int32) (σ : Sg) : Option UInt64 :=
  ck (ix v1 8) <|
  ck (ix v1 8) <|
  ck (n64 (FP.ddiv (FP.i2d (gI σ 131 v1.toNatClampNeg)) (FP.i2d (gI σ 132 v1.toNatClampNeg)))) <|
  some (FP.ddiv (FP.i2d (gI σ 131 v1.toNatClampNeg)) (FP.i2d (gI σ 132 v1.toNatClampNeg)))
theorem k_f_X12_rateF {lo hi : Nat} {σ0 : Sg} {v1 : Int32} {σ : Sg} (t : To lo hi σ0 σ) : FR (fun _ => True) (f_X12_rateF 130 v1 σ) (c_X12_rateF v1 σ) := by
  unfold f_X12_rateF c_X12_rateF
  refine FR_ck (lo11 t.1) ?_
  refine FR_ck (ln11_1 t.1) ?_
  refine FR_nmR (w := 131) (lr11_1 t.1) ?_
  refine FR_ckI (okA_iff t.1 (by decide : Ar 13 8 131)) (fun q1565 => ?_)
  refine FR_ck (ln11_2 t.1) ?_
  refine FR_nmR (w := 132) (lr11_2 t.1) ?_
  refine FR_ckI (okA_iff t.1 (by decide : Ar 13 8 132)) (fun q1567 => ?_)
  refine FR_ckI Iff.rfl (fun q1568 => ?_)
  exact FR_some trivial
def d_X12_splitsF_52 : Nat → Int32 → Sg → Option Sg
  | 0, _, _ => none
  | n + 1, v6, σ =>
  if (8 : Int32) ≤ v6 then (
    some σ)
  else (
    ck (ix ((8 : Int32) + v6) 16) <|
    ck (ix v6 8) <|
    nm (pD σ 161 v6.toNatClampNeg (FP.l2d (gJ σ 144 ((8 : Int32) + v6).toNatClampNeg))) fun σ41 =>
    nm (v6 + (1 : Int32)) fun x42 =>
    d_X12_splitsF_52 n x42 σ41)
theorem k_b_X12_splitsF_52 {lo hi : Nat} {σ0 : Sg} : ∀ {n : Nat} {v6 : Int32} {σ : Sg}, To lo hi σ0 σ → lo ≤ 130 ∧ 168 ≤ hi → FR (fun q => To lo hi σ0 q) (b_X12_splitsF_52 n 130 v6 σ) (d_X12_splitsF_52 n v6 σ) := by
  intro n
  induction n with
  | zero => intro v6 σ t w_v0; exact FR_none
  | succ n ih =>
    intro v6 σ t w_v0
    unfold b_X12_splitsF_52 d_X12_splitsF_52
    refine FR_it (fun _ => ?_) (fun _ => ?_)
    · exact FR_some t
    · refine FR_ck (lo11 t.1) ?_
      refine FR_ck (ln11_44 t.1) ?_
      refine FR_nmR (w := 161) (lr11_44 t.1) ?_
      refine FR_ck (ln11_21 t.1) ?_
      refine FR_nmR (w := 144) (lr11_21 t.1) ?_
      refine FR_ckI (okA_iff t.1 (by decide : Ar 14 16 144)) (fun q1572 => ?_)
      refine FR_ckI (okW_iff t.1 (by decide : Ar 12 8 161)) (fun q1573 => ?_)
      refine FR_nmS (To_pD t (by omega)) (fun σ41 t => ?_)
      refine FR_nm (fun x42 => ?_)
      exact ih t (by omega)
def d_X12_splitsF_39 (n : Nat) (v2 : Int32) (v3 : Int32) (s0 : Int64) (σ : Sg) : Option Sg :=
  bp (c_X12_splits n s0 v2 v3 σ) fun σ30 =>
  nm (pI σ30 130 16 (0 : Int32)) fun σ32 =>
  d_X12_splitsF_52 n (0 : Int32) σ32
theorem k_b_X12_splitsF_39 {lo hi : Nat} {σ0 : Sg} {n : Nat} {v2 : Int32} {v3 : Int32} {s0 : Int64} {σ : Sg} (t : To lo hi σ0 σ) (w_v0 : lo ≤ 130 ∧ 168 ≤ hi) (w_s1 : lo ≤ 130 ∧ 168 ≤ hi) : FR (fun q => To lo hi σ0 q) (b_X12_splitsF_39 n 130 v2 v3 s0 130 σ) (d_X12_splitsF_39 n v2 v3 s0 σ) := by
  unfold b_X12_splitsF_39 d_X12_splitsF_39
  refine FR_ck (lo11 t.1) ?_
  refine FR_bp (k_f_X12_splits t (by omega)) (fun σ30 t => ?_)
  refine FR_ck (lo11 t.1) ?_
  refine FR_nmS (To_pI t (by omega)) (fun σ32 t => ?_)
  exact k_b_X12_splitsF_52 t (by omega)
def d_X12_splitsF_33 (n : Nat) (v2 : Int32) (v3 : Int32) (σ : Sg) : Option Sg :=
  d_X12_splitsF_39 n v2 v3 (0 : Int64) σ
theorem k_b_X12_splitsF_33 {lo hi : Nat} {σ0 : Sg} {n : Nat} {v2 : Int32} {v3 : Int32} {σ : Sg} (t : To lo hi σ0 σ) (w_v0 : lo ≤ 130 ∧ 168 ≤ hi) (w_s0 : lo ≤ 130 ∧ 168 ≤ hi) : FR (fun q => To lo hi σ0 q) (b_X12_splitsF_33 n 130 v2 v3 130 σ) (d_X12_splitsF_33 n v2 v3 σ) := by
  unfold b_X12_splitsF_33 d_X12_splitsF_33
  exact k_b_X12_splitsF_39 t (by omega) (by omega)
def c_X12_splitsF (n : Nat) (v1 : Int32) (v2 : Int32) (v3 : Int32) (σ : Sg) : Option Sg :=
  ck (ix v1 8) <|
  nm (FP.d2l (gD σ 160 v1.toNatClampNeg)) fun x25 =>
  nm (pI σ 130 16 (1 : Int32)) fun σ26 =>
  if (1099511627776 : Int64) < x25 then (
    d_X12_splitsF_33 n v2 v3 σ26)
  else (
    if (-1099511627776 : Int64) ≤ x25 then (
      d_X12_splitsF_39 n v2 v3 x25 σ26)
    else (
      d_X12_splitsF_33 n v2 v3 σ26))
theorem k_f_X12_splitsF {lo hi : Nat} {σ0 : Sg} {n : Nat} {v1 : Int32} {v2 : Int32} {v3 : Int32} {σ : Sg} (t : To lo hi σ0 σ) (w_v0 : lo ≤ 130 ∧ 168 ≤ hi) : FR (fun q => To lo hi σ0 q) (f_X12_splitsF n 130 v1 v2 v3 σ) (c_X12_splitsF n v1 v2 v3 σ) := by
  unfold f_X12_splitsF c_X12_splitsF
  refine FR_ck (lo11 t.1) ?_
  refine FR_ck (ln11_43 t.1) ?_
  refine FR_nmR (w := 160) (lr11_43 t.1) ?_
  refine FR_ckI (okA_iff t.1 (by decide : Ar 12 8 160)) (fun q1578 => ?_)
  refine FR_nm (fun x25 => ?_)
  refine FR_nmS (To_pI t (by omega)) (fun σ26 t => ?_)
  refine FR_it (fun _ => ?_) (fun _ => ?_)
  · exact k_b_X12_splitsF_33 t (by omega) (by omega)
  · refine FR_it (fun _ => ?_) (fun _ => ?_)
    · exact k_b_X12_splitsF_39 t (by omega) (by omega)
    · exact k_b_X12_splitsF_33 t (by omega) (by omega)
def d_X12_keepsF_49 (s0 : UInt64) (s1 : Int32) (s2 : Nat) (σ : Sg) : Option Sg :=
  ck (ix s1 8) <|
  nm (pD σ s2 s1.toNatClampNeg s0) fun σ28 =>
  some σ28
theorem k_b_X12_keepsF_49 {lo hi : Nat} {σ0 : Sg} {s0 : UInt64} {s1 : Int32} {s2 : Nat} {σ : Sg} (t : To lo hi σ0 σ) (h_s2 : Ar 12 8 s2) (w_s2 : lo ≤ s2 ∧ s2 < hi) : FR (fun q => To lo hi σ0 q) (b_X12_keepsF_49 s0 s1 s2 σ) (d_X12_keepsF_49 s0 s1 s2 σ) := by
  unfold b_X12_keepsF_49 d_X12_keepsF_49
  refine FR_ckI (okW_iff t.1 h_s2) (fun q1579 => ?_)
  refine FR_nmS (To_pD t (by omega)) (fun σ28 t => ?_)
  exact FR_some t
def c_X12_keepsF (v1 : Int32) (σ : Sg) : Option Sg :=
  ck (ix v1 8) <|
  if (Op.cmpValue (FP.dcmp (gD σ 160 v1.toNatClampNeg) (4832362400168542208 : UInt64)) .l) ≤ 0 then (
    ck (ix v1 8) <|
    if 0 ≤ (Op.cmpValue (FP.dcmp (gD σ 160 v1.toNatClampNeg) (14055734437023318016 : UInt64)) .g) then (
      ck (ix v1 8) <|
      d_X12_keepsF_49 (gD σ 160 v1.toNatClampNeg) v1 160 σ)
    else (
      d_X12_keepsF_49 (14055734437023318016 : UInt64) v1 160 σ))
  else (
    d_X12_keepsF_49 (4832362400168542208 : UInt64) v1 160 σ)
theorem k_f_X12_keepsF {lo hi : Nat} {σ0 : Sg} {v1 : Int32} {σ : Sg} (t : To lo hi σ0 σ) (w_v0 : lo ≤ 130 ∧ 168 ≤ hi) : FR (fun q => To lo hi σ0 q) (f_X12_keepsF 130 v1 σ) (c_X12_keepsF v1 σ) := by
  unfold f_X12_keepsF c_X12_keepsF
  refine FR_ck (lo11 t.1) ?_
  refine FR_ck (ln11_43 t.1) ?_
  refine FR_nmR (w := 160) (lr11_43 t.1) ?_
  refine FR_nmR (w := 160) (lr11_43 t.1) ?_
  refine FR_ckI (okA_iff t.1 (by decide : Ar 12 8 160)) (fun q1582 => ?_)
  refine FR_it (fun _ => ?_) (fun _ => ?_)
  · refine FR_nmR (w := 160) (lr11_43 t.1) ?_
    refine FR_ckI (okA_iff t.1 (by decide : Ar 12 8 160)) (fun q1583 => ?_)
    refine FR_it (fun _ => ?_) (fun _ => ?_)
    · refine FR_nmR (w := 160) (lr11_43 t.1) ?_
      refine FR_ckI (okA_iff t.1 (by decide : Ar 12 8 160)) (fun q1584 => ?_)
      exact k_b_X12_keepsF_49 t (by decide) (by omega)
    · exact k_b_X12_keepsF_49 t (by decide) (by omega)
  · exact k_b_X12_keepsF_49 t (by decide) (by omega)
def d_X12_doesF_494 (n : Nat) (v4 : Int32) (σ : Sg) : Option Sg :=
  bp (c_X12_keepsF v4 σ) fun σ185 =>
  some σ185
theorem k_b_X12_doesF_494 {lo hi : Nat} {σ0 : Sg} {n : Nat} {v4 : Int32} {σ : Sg} (t : To lo hi σ0 σ) (w_v0 : lo ≤ 130 ∧ 168 ≤ hi) : FR (fun q => To lo hi σ0 q) (b_X12_doesF_494 n 130 v4 σ) (d_X12_doesF_494 n v4 σ) := by
  unfold b_X12_doesF_494 d_X12_doesF_494
  refine FR_ck (lo11 t.1) ?_
  refine FR_bp (k_f_X12_keepsF t (by omega)) (fun σ185 t => ?_)
  exact FR_some t
def d_X12_doesF_226 (n : Nat) (v4 : Int32) (s0 : UInt64) (s1 : Int32) (s2 : Nat) (σ : Sg) : Option Sg :=
  ck (ix s1 8) <|
  nm (pD σ s2 s1.toNatClampNeg s0) fun σ239 =>
  d_X12_doesF_494 n v4 σ239
theorem k_b_X12_doesF_226 {lo hi : Nat} {σ0 : Sg} {n : Nat} {v4 : Int32} {s0 : UInt64} {s1 : Int32} {s2 : Nat} {σ : Sg} (t : To lo hi σ0 σ) (w_v0 : lo ≤ 130 ∧ 168 ≤ hi) (h_s2 : Ar 12 8 s2) (w_s2 : lo ≤ s2 ∧ s2 < hi) : FR (fun q => To lo hi σ0 q) (b_X12_doesF_226 n 130 v4 s0 s1 s2 σ) (d_X12_doesF_226 n v4 s0 s1 s2 σ) := by
  unfold b_X12_doesF_226 d_X12_doesF_226
  refine FR_ckI (okW_iff t.1 h_s2) (fun q1586 => ?_)
  refine FR_nmS (To_pD t (by omega)) (fun σ239 t => ?_)
  exact k_b_X12_doesF_494 t (by omega)
def d_X12_doesF_375 (n : Nat) (v4 : Int32) (s0 : UInt64) (s1 : Int32) (s2 : Nat) (σ : Sg) : Option Sg :=
  ck (ix s1 8) <|
  nm (pD σ s2 s1.toNatClampNeg s0) fun σ285 =>
  d_X12_doesF_494 n v4 σ285
theorem k_b_X12_doesF_375 {lo hi : Nat} {σ0 : Sg} {n : Nat} {v4 : Int32} {s0 : UInt64} {s1 : Int32} {s2 : Nat} {σ : Sg} (t : To lo hi σ0 σ) (w_v0 : lo ≤ 130 ∧ 168 ≤ hi) (h_s2 : Ar 12 8 s2) (w_s2 : lo ≤ s2 ∧ s2 < hi) : FR (fun q => To lo hi σ0 q) (b_X12_doesF_375 n 130 v4 s0 s1 s2 σ) (d_X12_doesF_375 n v4 s0 s1 s2 σ) := by
  unfold b_X12_doesF_375 d_X12_doesF_375
  refine FR_ckI (okW_iff t.1 h_s2) (fun q1587 => ?_)
  refine FR_nmS (To_pD t (by omega)) (fun σ285 t => ?_)
  exact k_b_X12_doesF_494 t (by omega)
def d_X12_doesF_349 (n : Nat) (v4 : Int32) (v6 : Int32) (s0 : Int32) (σ : Sg) : Option Sg :=
  if s0 = 0 then (
    ck (ix v4 8) <|
    d_X12_doesF_375 n v4 (gD σ 160 v4.toNatClampNeg) v4 160 σ)
  else (
    d_X12_doesF_375 n v4 (FP.i2d v6) v4 160 σ)
theorem k_b_X12_doesF_349 {lo hi : Nat} {σ0 : Sg} {n : Nat} {v4 : Int32} {v6 : Int32} {s0 : Int32} {σ : Sg} (t : To lo hi σ0 σ) (w_v0 : lo ≤ 130 ∧ 168 ≤ hi) : FR (fun q => To lo hi σ0 q) (b_X12_doesF_349 n 130 v4 v6 s0 σ) (d_X12_doesF_349 n v4 v6 s0 σ) := by
  unfold b_X12_doesF_349 d_X12_doesF_349
  refine FR_ck (lo11 t.1) ?_
  refine FR_ck (ln11_43 t.1) ?_
  refine FR_nmR (w := 160) (lr11_43 t.1) ?_
  refine FR_it (fun _ => ?_) (fun _ => ?_)
  · refine FR_nmR (w := 160) (lr11_43 t.1) ?_
    refine FR_ckI (okA_iff t.1 (by decide : Ar 12 8 160)) (fun q1590 => ?_)
    exact k_b_X12_doesF_375 t (by omega) (by decide) (by omega)
  · exact k_b_X12_doesF_375 t (by omega) (by decide) (by omega)
def d_X12_doesF_415 (n : Nat) (v4 : Int32) (s0 : Int64) (s1 : Int64) (s2 : Int32) (s3 : Nat) (σ : Sg) : Option Sg :=
  ck (ix s2 16) <|
  nm (pJ σ s3 s2.toNatClampNeg (s1 + s0)) fun σ299 =>
  d_X12_doesF_494 n v4 σ299
theorem k_b_X12_doesF_415 {lo hi : Nat} {σ0 : Sg} {n : Nat} {v4 : Int32} {s0 : Int64} {s1 : Int64} {s2 : Int32} {s3 : Nat} {σ : Sg} (t : To lo hi σ0 σ) (w_v0 : lo ≤ 130 ∧ 168 ≤ hi) (h_s3 : Ar 14 16 s3) (w_s3 : lo ≤ s3 ∧ s3 < hi) : FR (fun q => To lo hi σ0 q) (b_X12_doesF_415 n 130 v4 s0 s1 s2 s3 σ) (d_X12_doesF_415 n v4 s0 s1 s2 s3 σ) := by
  unfold b_X12_doesF_415 d_X12_doesF_415
  refine FR_ckI (okW_iff t.1 h_s3) (fun q1591 => ?_)
  refine FR_nmS (To_pJ t (by omega)) (fun σ299 t => ?_)
  exact k_b_X12_doesF_494 t (by omega)
def d_X12_doesF_446 : Nat → Int32 → Int32 → Int32 → Int32 → Sg → Option Sg
  | 0, _, _, _, _, _ => none
  | n + 1, v4, v5, v6, v10, σ =>
  if v6 ≤ v10 then (
    d_X12_doesF_494 n v4 σ)
  else (
    ck (ix v4 8) <|
    ck (ix v4 8) <|
    bp (c_X12_rateF v5 σ) fun x320 =>
    ck (n64 (FP.dmul (gD σ 160 v4.toNatClampNeg) x320)) <|
    bp (f_X12_roundedF (FP.dmul (gD σ 160 v4.toNatClampNeg) x320) (FP.dconst1) (1 : Int32)) fun x323 =>
    ck (n64 (FP.dadd (gD σ 160 v4.toNatClampNeg) x323)) <|
    ck (ix v4 8) <|
    nm (pD σ 160 v4.toNatClampNeg (FP.dadd (gD σ 160 v4.toNatClampNeg) x323)) fun σ326 =>
    bp (c_X12_keepsF v4 σ326) fun σ329 =>
    nm (v10 + (1 : Int32)) fun x330 =>
    d_X12_doesF_446 n v4 v5 v6 x330 σ329)
theorem k_b_X12_doesF_446 {lo hi : Nat} {σ0 : Sg} : ∀ {n : Nat} {v4 : Int32} {v5 : Int32} {v6 : Int32} {v10 : Int32} {σ : Sg}, To lo hi σ0 σ → lo ≤ 130 ∧ 168 ≤ hi → FR (fun q => To lo hi σ0 q) (b_X12_doesF_446 n 130 v4 v5 v6 v10 σ) (d_X12_doesF_446 n v4 v5 v6 v10 σ) := by
  intro n
  induction n with
  | zero => intro v4 v5 v6 v10 σ t w_v0; exact FR_none
  | succ n ih =>
    intro v4 v5 v6 v10 σ t w_v0
    unfold b_X12_doesF_446 d_X12_doesF_446
    refine FR_it (fun _ => ?_) (fun _ => ?_)
    · exact k_b_X12_doesF_494 t (by omega)
    · refine FR_ck (lo11 t.1) ?_
      refine FR_ck (ln11_43 t.1) ?_
      refine FR_nmR (w := 160) (lr11_43 t.1) ?_
      refine FR_ckI (okA_iff t.1 (by decide : Ar 12 8 160)) (fun q1594 => ?_)
      refine FR_nmR (w := 160) (lr11_43 t.1) ?_
      refine FR_ckI (okA_iff t.1 (by decide : Ar 12 8 160)) (fun q1595 => ?_)
      refine FR_bpP (k_f_X12_rateF t).1 (fun x320 => ?_)
      refine FR_ckI Iff.rfl (fun q1596 => ?_)
      refine FR_nmP (fun x323 => ?_)
      refine FR_ckI Iff.rfl (fun q1597 => ?_)
      refine FR_ckI (okW_iff t.1 (by decide : Ar 12 8 160)) (fun q1598 => ?_)
      refine FR_nmS (To_pD t (by omega)) (fun σ326 t => ?_)
      refine FR_ck (lo11 t.1) ?_
      refine FR_bp (k_f_X12_keepsF t (by omega)) (fun σ329 t => ?_)
      refine FR_nm (fun x330 => ?_)
      exact ih t (by omega)
def c_X12_doesF (n : Nat) (v1 : Int32) (v2 : UInt64) (σ : Sg) : Option Sg :=
  ck (ix v1 80) <|
  nm (gI σ 138 v1.toNatClampNeg) fun x165 =>
  ck (ix v1 80) <|
  nm (gI σ 139 v1.toNatClampNeg) fun x169 =>
  ck (ix v1 80) <|
  nm (gI σ 140 v1.toNatClampNeg) fun x173 =>
  ck (ix v1 80) <|
  if (gI σ 137 v1.toNatClampNeg) = 0 then (
    ck (n64 (FP.dadd (FP.dconst0) v2)) <|
    ck (ix x165 8) <|
    nm (pD σ 160 x165.toNatClampNeg (FP.dadd (FP.dconst0) v2)) fun σ182 =>
    d_X12_doesF_494 n x165 σ182)
  else (
    if (gI σ 137 v1.toNatClampNeg) = 1 then (
      ck (n64 (FP.dadd (FP.dconst0) v2)) <|
      bp (c_X12_rateF x169 σ) fun x191 =>
      ck (n64 (FP.dmul (FP.dadd (FP.dconst0) v2) x191)) <|
      bp (f_X12_roundedF (FP.dmul (FP.dadd (FP.dconst0) v2) x191) (FP.dconst1) x173) fun x194 =>
      ck (n64 (FP.dadd (FP.dconst0) x194)) <|
      ck (ix x165 8) <|
      nm (pD σ 160 x165.toNatClampNeg (FP.dadd (FP.dconst0) x194)) fun σ197 =>
      d_X12_doesF_494 n x165 σ197)
    else (
      if (gI σ 137 v1.toNatClampNeg) = 2 then (
        ck (n64 (FP.dadd (FP.dconst0) v2)) <|
        bp (c_X12_rateF x169 σ) fun x203 =>
        ck (n64 (FP.dmul (FP.dadd (FP.dconst0) v2) x203)) <|
        bp (f_X12_roundedF (FP.dmul (FP.dadd (FP.dconst0) v2) x203) (FP.dconst1) x173) fun x206 =>
        ck (n64 (FP.dadd (FP.dconst0) x206)) <|
        ck (ix x165 8) <|
        nm (pD σ 160 x165.toNatClampNeg (FP.dadd (FP.dconst0) x206)) fun σ209 =>
        d_X12_doesF_494 n x165 σ209)
      else (
        if (gI σ 137 v1.toNatClampNeg) = 3 then (
          ck (ix x169 8) <|
          bp (c_X12_rateF x173 σ) fun x216 =>
          ck (n64 (FP.dmul (gD σ 160 x169.toNatClampNeg) x216)) <|
          ck (ix x165 8) <|
          nm (pD σ 160 x165.toNatClampNeg (FP.dmul (gD σ 160 x169.toNatClampNeg) x216)) fun σ219 =>
          d_X12_doesF_494 n x165 σ219)
        else (
          if (gI σ 137 v1.toNatClampNeg) = 4 then (
            ck (ix x165 8) <|
            bp (f_X12_roundedF (gD σ 160 x165.toNatClampNeg) (FP.i2d x173) x169) fun x226 =>
            ck (ix x165 8) <|
            nm (pD σ 160 x165.toNatClampNeg x226) fun σ228 =>
            d_X12_doesF_494 n x165 σ228)
          else (
            if (gI σ 137 v1.toNatClampNeg) = 5 then (
              if x173 = 0 then (
                ck (ix x165 8) <|
                ck (ix x169 8) <|
                ck (n64 (FP.dadd (gD σ 160 x165.toNatClampNeg) (gD σ 160 x169.toNatClampNeg))) <|
                d_X12_doesF_226 n x165 (FP.dadd (gD σ 160 x165.toNatClampNeg) (gD σ 160 x169.toNatClampNeg)) x165 160 σ)
              else (
                ck (ix x165 8) <|
                ck (ix x169 8) <|
                ck (n64 (FP.dsub (gD σ 160 x165.toNatClampNeg) (gD σ 160 x169.toNatClampNeg))) <|
                d_X12_doesF_226 n x165 (FP.dsub (gD σ 160 x165.toNatClampNeg) (gD σ 160 x169.toNatClampNeg)) x165 160 σ))
            else (
              if (gI σ 137 v1.toNatClampNeg) = 6 then (
                bp (c_X12_splitsF n x165 x169 x173 σ) fun σ247 =>
                d_X12_doesF_494 n x165 σ247)
              else (
                if (gI σ 137 v1.toNatClampNeg) = 7 then (
                  ck (ix x169 8) <|
                  ck (ix x165 8) <|
                  nm (pD σ 160 x165.toNatClampNeg (gD σ 161 x169.toNatClampNeg)) fun σ255 =>
                  d_X12_doesF_494 n x165 σ255)
                else (
                  if (gI σ 137 v1.toNatClampNeg) = 8 then (
                    ck (ix x165 8) <|
                    ck (n64 (FP.dadd (gD σ 130 45) (gD σ 160 x165.toNatClampNeg))) <|
                    nm (FP.dadd (gD σ 130 45) (gD σ 160 x165.toNatClampNeg)) fun x261 =>
                    ck (n64 x261) <|
                    ck (ix x165 8) <|
                    nm (pD σ 160 x165.toNatClampNeg (Jvm.Free.Hsc.floorOf x261)) fun σ265 =>
                    ck (ix x165 8) <|
                    ck (n64 (FP.dsub x261 (gD σ265 160 x165.toNatClampNeg))) <|
                    nm (pD σ265 130 45 (FP.dsub x261 (gD σ265 160 x165.toNatClampNeg))) fun σ271 =>
                    d_X12_doesF_494 n x165 σ271)
                  else (
                    if (gI σ 137 v1.toNatClampNeg) = 9 then (
                      if x169 = 0 then (
                        ck (ix x165 8) <|
                        if (Op.cmpValue (FP.dcmp (gD σ 160 x165.toNatClampNeg) (FP.i2d x173)) .l) ≤ 0 then (
                          d_X12_doesF_349 n x165 x173 (0 : Int32) σ)
                        else (
                          d_X12_doesF_349 n x165 x173 (1 : Int32) σ))
                      else (
                        ck (ix x165 8) <|
                        if 0 ≤ (Op.cmpValue (FP.dcmp (gD σ 160 x165.toNatClampNeg) (FP.i2d x173)) .g) then (
                          d_X12_doesF_349 n x165 x173 (0 : Int32) σ)
                        else (
                          d_X12_doesF_349 n x165 x173 (1 : Int32) σ)))
                    else (
                      if (gI σ 137 v1.toNatClampNeg) = 10 then (
                        ck (ix ((8 : Int32) + x169) 16) <|
                        if x173 = 0 then (
                          ck (ix x165 8) <|
                          d_X12_doesF_415 n x165 (FP.d2l (gD σ 160 x165.toNatClampNeg)) (gJ σ 146 ((8 : Int32) + x169).toNatClampNeg) ((8 : Int32) + x169) 146 σ)
                        else (
                          ck (ix x165 8) <|
                          d_X12_doesF_415 n x165 (-(FP.d2l (gD σ 160 x165.toNatClampNeg))) (gJ σ 146 ((8 : Int32) + x169).toNatClampNeg) ((8 : Int32) + x169) 146 σ))
                      else (
                        if (gI σ 137 v1.toNatClampNeg) = 11 then (
                          ck (ix x169 8) <|
                          bp (f_X12_roundedF (gD σ 160 x169.toNatClampNeg) (FP.dconst1) x173) fun x309 =>
                          ck (ix x165 8) <|
                          nm (pD σ 160 x165.toNatClampNeg x309) fun σ311 =>
                          d_X12_doesF_494 n x165 σ311)
                        else (
                          d_X12_doesF_446 n x165 x169 x173 (0 : Int32) σ))))))))))))
theorem k_f_X12_doesF {lo hi : Nat} {σ0 : Sg} {n : Nat} {v1 : Int32} {v2 : UInt64} {σ : Sg} (t : To lo hi σ0 σ) (w_v0 : lo ≤ 130 ∧ 168 ≤ hi) : FR (fun q => To lo hi σ0 q) (f_X12_doesF n 130 v1 v2 σ) (c_X12_doesF n v1 v2 σ) := by
  unfold f_X12_doesF c_X12_doesF
  refine FR_ck (lo11 t.1) ?_
  refine FR_ck (ln11_10 t.1) ?_
  refine FR_nmR (w := 138) (lr11_10 t.1) ?_
  refine FR_ckI (okA_iff t.1 (by decide : Ar 13 80 138)) (fun q1602 => ?_)
  refine FR_nm (fun x165 => ?_)
  refine FR_ck (ln11_11 t.1) ?_
  refine FR_nmR (w := 139) (lr11_11 t.1) ?_
  refine FR_ckI (okA_iff t.1 (by decide : Ar 13 80 139)) (fun q1604 => ?_)
  refine FR_nm (fun x169 => ?_)
  refine FR_ck (ln11_12 t.1) ?_
  refine FR_nmR (w := 140) (lr11_12 t.1) ?_
  refine FR_ckI (okA_iff t.1 (by decide : Ar 13 80 140)) (fun q1606 => ?_)
  refine FR_nm (fun x173 => ?_)
  refine FR_ck (ln11_9 t.1) ?_
  refine FR_nmR (w := 137) (lr11_9 t.1) ?_
  refine FR_ckI (okA_iff t.1 (by decide : Ar 13 80 137)) (fun q1608 => ?_)
  refine FR_it (fun _ => ?_) (fun _ => ?_)
  · refine FR_ck (ln11_43 t.1) ?_
    refine FR_nmR (w := 160) (lr11_43 t.1) ?_
    refine FR_ckI Iff.rfl (fun q1610 => ?_)
    refine FR_ckI (okW_iff t.1 (by decide : Ar 12 8 160)) (fun q1611 => ?_)
    refine FR_nmS (To_pD t (by omega)) (fun σ182 t => ?_)
    exact k_b_X12_doesF_494 t (by omega)
  · refine FR_it (fun _ => ?_) (fun _ => ?_)
    · refine FR_ck (ln11_43 t.1) ?_
      refine FR_nmR (w := 160) (lr11_43 t.1) ?_
      refine FR_ckI Iff.rfl (fun q1613 => ?_)
      refine FR_bpP (k_f_X12_rateF t).1 (fun x191 => ?_)
      refine FR_ckI Iff.rfl (fun q1614 => ?_)
      refine FR_nmP (fun x194 => ?_)
      refine FR_ckI Iff.rfl (fun q1615 => ?_)
      refine FR_ckI (okW_iff t.1 (by decide : Ar 12 8 160)) (fun q1616 => ?_)
      refine FR_nmS (To_pD t (by omega)) (fun σ197 t => ?_)
      exact k_b_X12_doesF_494 t (by omega)
    · refine FR_it (fun _ => ?_) (fun _ => ?_)
      · refine FR_ck (ln11_43 t.1) ?_
        refine FR_nmR (w := 160) (lr11_43 t.1) ?_
        refine FR_ckI Iff.rfl (fun q1618 => ?_)
        refine FR_bpP (k_f_X12_rateF t).1 (fun x203 => ?_)
        refine FR_ckI Iff.rfl (fun q1619 => ?_)
        refine FR_nmP (fun x206 => ?_)
        refine FR_ckI Iff.rfl (fun q1620 => ?_)
        refine FR_ckI (okW_iff t.1 (by decide : Ar 12 8 160)) (fun q1621 => ?_)
        refine FR_nmS (To_pD t (by omega)) (fun σ209 t => ?_)
        exact k_b_X12_doesF_494 t (by omega)
      · refine FR_it (fun _ => ?_) (fun _ => ?_)
        · refine FR_ck (ln11_43 t.1) ?_
          refine FR_nmR (w := 160) (lr11_43 t.1) ?_
          refine FR_nmR (w := 160) (lr11_43 t.1) ?_
          refine FR_ckI (okA_iff t.1 (by decide : Ar 12 8 160)) (fun q1623 => ?_)
          refine FR_bpP (k_f_X12_rateF t).1 (fun x216 => ?_)
          refine FR_ckI Iff.rfl (fun q1624 => ?_)
          refine FR_ckI (okW_iff t.1 (by decide : Ar 12 8 160)) (fun q1625 => ?_)
          refine FR_nmS (To_pD t (by omega)) (fun σ219 t => ?_)
          exact k_b_X12_doesF_494 t (by omega)
        · refine FR_it (fun _ => ?_) (fun _ => ?_)
          · refine FR_ck (ln11_43 t.1) ?_
            refine FR_nmR (w := 160) (lr11_43 t.1) ?_
            refine FR_nmR (w := 160) (lr11_43 t.1) ?_
            refine FR_ckI (okA_iff t.1 (by decide : Ar 12 8 160)) (fun q1627 => ?_)
            refine FR_nmP (fun x226 => ?_)
            refine FR_ckI (okW_iff t.1 (by decide : Ar 12 8 160)) (fun q1628 => ?_)
            refine FR_nmS (To_pD t (by omega)) (fun σ228 t => ?_)
            exact k_b_X12_doesF_494 t (by omega)
          · refine FR_it (fun _ => ?_) (fun _ => ?_)
            · refine FR_ck (ln11_43 t.1) ?_
              refine FR_nmR (w := 160) (lr11_43 t.1) ?_
              refine FR_it (fun _ => ?_) (fun _ => ?_)
              · refine FR_nmR (w := 160) (lr11_43 t.1) ?_
                refine FR_ckI (okA_iff t.1 (by decide : Ar 12 8 160)) (fun q1630 => ?_)
                refine FR_nmR (w := 160) (lr11_43 t.1) ?_
                refine FR_ckI (okA_iff t.1 (by decide : Ar 12 8 160)) (fun q1631 => ?_)
                refine FR_ckI Iff.rfl (fun q1632 => ?_)
                exact k_b_X12_doesF_226 t (by omega) (by decide) (by omega)
              · refine FR_nmR (w := 160) (lr11_43 t.1) ?_
                refine FR_ckI (okA_iff t.1 (by decide : Ar 12 8 160)) (fun q1633 => ?_)
                refine FR_nmR (w := 160) (lr11_43 t.1) ?_
                refine FR_ckI (okA_iff t.1 (by decide : Ar 12 8 160)) (fun q1634 => ?_)
                refine FR_ckI Iff.rfl (fun q1635 => ?_)
                exact k_b_X12_doesF_226 t (by omega) (by decide) (by omega)
            · refine FR_it (fun _ => ?_) (fun _ => ?_)
              · refine FR_bp (k_f_X12_splitsF t (by omega)) (fun σ247 t => ?_)
                exact k_b_X12_doesF_494 t (by omega)
              · refine FR_it (fun _ => ?_) (fun _ => ?_)
                · refine FR_ck (ln11_43 t.1) ?_
                  refine FR_nmR (w := 160) (lr11_43 t.1) ?_
                  refine FR_ck (ln11_44 t.1) ?_
                  refine FR_nmR (w := 161) (lr11_44 t.1) ?_
                  refine FR_ckI (okA_iff t.1 (by decide : Ar 12 8 161)) (fun q1638 => ?_)
                  refine FR_ckI (okW_iff t.1 (by decide : Ar 12 8 160)) (fun q1639 => ?_)
                  refine FR_nmS (To_pD t (by omega)) (fun σ255 t => ?_)
                  exact k_b_X12_doesF_494 t (by omega)
                · refine FR_it (fun _ => ?_) (fun _ => ?_)
                  · refine FR_ck (ln11_43 t.1) ?_
                    refine FR_nmR (w := 160) (lr11_43 t.1) ?_
                    refine FR_ckI (okA_iff t.1 (by decide : Ar 12 8 160)) (fun q1641 => ?_)
                    refine FR_ckI Iff.rfl (fun q1642 => ?_)
                    refine FR_nm (fun x261 => ?_)
                    refine FR_nmR (w := 160) (lr11_43 t.1) ?_
                    refine FR_ckI Iff.rfl (fun q1643 => ?_)
                    refine FR_ckI (okW_iff t.1 (by decide : Ar 12 8 160)) (fun q1644 => ?_)
                    refine FR_nmS (To_pD t (by omega)) (fun σ265 t => ?_)
                    refine FR_ck (lo11 t.1) ?_
                    refine FR_ck (ln11_43 t.1) ?_
                    refine FR_nmR (w := 160) (lr11_43 t.1) ?_
                    refine FR_ckI (okA_iff t.1 (by decide : Ar 12 8 160)) (fun q1647 => ?_)
                    refine FR_ckI Iff.rfl (fun q1648 => ?_)
                    refine FR_nmS (To_pD t (by omega)) (fun σ271 t => ?_)
                    exact k_b_X12_doesF_494 t (by omega)
                  · refine FR_it (fun _ => ?_) (fun _ => ?_)
                    · refine FR_it (fun _ => ?_) (fun _ => ?_)
                      · refine FR_ck (ln11_43 t.1) ?_
                        refine FR_nmR (w := 160) (lr11_43 t.1) ?_
                        refine FR_ckI (okA_iff t.1 (by decide : Ar 12 8 160)) (fun q1650 => ?_)
                        refine FR_it (fun _ => ?_) (fun _ => ?_)
                        · exact k_b_X12_doesF_349 t (by omega)
                        · exact k_b_X12_doesF_349 t (by omega)
                      · refine FR_ck (ln11_43 t.1) ?_
                        refine FR_nmR (w := 160) (lr11_43 t.1) ?_
                        refine FR_ckI (okA_iff t.1 (by decide : Ar 12 8 160)) (fun q1652 => ?_)
                        refine FR_it (fun _ => ?_) (fun _ => ?_)
                        · exact k_b_X12_doesF_349 t (by omega)
                        · exact k_b_X12_doesF_349 t (by omega)
                    · refine FR_it (fun _ => ?_) (fun _ => ?_)
                      · refine FR_ck (ln11_23 t.1) ?_
                        refine FR_nmR (w := 146) (lr11_23 t.1) ?_
                        refine FR_ckI (okA_iff t.1 (by decide : Ar 14 16 146)) (fun q1654 => ?_)
                        refine FR_it (fun _ => ?_) (fun _ => ?_)
                        · refine FR_ck (ln11_43 t.1) ?_
                          refine FR_nmR (w := 160) (lr11_43 t.1) ?_
                          refine FR_ckI (okA_iff t.1 (by decide : Ar 12 8 160)) (fun q1656 => ?_)
                          exact k_b_X12_doesF_415 t (by omega) (by decide) (by omega)
                        · refine FR_ck (ln11_43 t.1) ?_
                          refine FR_nmR (w := 160) (lr11_43 t.1) ?_
                          refine FR_ckI (okA_iff t.1 (by decide : Ar 12 8 160)) (fun q1658 => ?_)
                          exact k_b_X12_doesF_415 t (by omega) (by decide) (by omega)
                      · refine FR_it (fun _ => ?_) (fun _ => ?_)
                        · refine FR_ck (ln11_43 t.1) ?_
                          refine FR_nmR (w := 160) (lr11_43 t.1) ?_
                          refine FR_nmR (w := 160) (lr11_43 t.1) ?_
                          refine FR_ckI (okA_iff t.1 (by decide : Ar 12 8 160)) (fun q1660 => ?_)
                          refine FR_nmP (fun x309 => ?_)
                          refine FR_ckI (okW_iff t.1 (by decide : Ar 12 8 160)) (fun q1661 => ?_)
                          refine FR_nmS (To_pD t (by omega)) (fun σ311 t => ?_)
                          exact k_b_X12_doesF_494 t (by omega)
                        · exact k_b_X12_doesF_446 t (by omega)
def d_X12_floats_45 : Nat → Int32 → Int32 → Int32 → Sg → Option Sg
  | 0, _, _, _, _ => none
  | n + 1, v1, v2, v3, σ =>
  ck (ix v1 4) <|
  if (gI σ 136 v1.toNatClampNeg) ≤ v3 then (
    some σ)
  else (
    bp (c_X12_doesF n (((20 : Int32) * v1) + v3) (FP.i2d v2) σ) fun σ36 =>
    nm (v3 + (1 : Int32)) fun x37 =>
    d_X12_floats_45 n v1 v2 x37 σ36)
theorem k_b_X12_floats_45 {lo hi : Nat} {σ0 : Sg} : ∀ {n : Nat} {v1 : Int32} {v2 : Int32} {v3 : Int32} {σ : Sg}, To lo hi σ0 σ → lo ≤ 130 ∧ 168 ≤ hi → FR (fun q => To lo hi σ0 q) (b_X12_floats_45 n 130 v1 v2 v3 σ) (d_X12_floats_45 n v1 v2 v3 σ) := by
  intro n
  induction n with
  | zero => intro v1 v2 v3 σ t w_v0; exact FR_none
  | succ n ih =>
    intro v1 v2 v3 σ t w_v0
    unfold b_X12_floats_45 d_X12_floats_45
    refine FR_ck (lo11 t.1) ?_
    refine FR_ck (ln11_8 t.1) ?_
    refine FR_nmR (w := 136) (lr11_8 t.1) ?_
    refine FR_ckI (okA_iff t.1 (by decide : Ar 13 4 136)) (fun q1664 => ?_)
    refine FR_it (fun _ => ?_) (fun _ => ?_)
    · exact FR_some t
    · refine FR_bp (k_f_X12_doesF t (by omega)) (fun σ36 t => ?_)
      refine FR_nm (fun x37 => ?_)
      exact ih t (by omega)
def d_X12_floats_43 (n : Nat) (v1 : Int32) (v2 : Int32) (σ : Sg) : Option Sg :=
  d_X12_floats_45 n v1 v2 (0 : Int32) σ
theorem k_b_X12_floats_43 {lo hi : Nat} {σ0 : Sg} {n : Nat} {v1 : Int32} {v2 : Int32} {σ : Sg} (t : To lo hi σ0 σ) (w_v0 : lo ≤ 130 ∧ 168 ≤ hi) : FR (fun q => To lo hi σ0 q) (b_X12_floats_43 n 130 v1 v2 σ) (d_X12_floats_43 n v1 v2 σ) := by
  unfold b_X12_floats_43 d_X12_floats_43
  exact k_b_X12_floats_45 t (by omega)
def d_X12_floats_7 : Nat → Int32 → Int32 → Int32 → Sg → Option Sg
  | 0, _, _, _, _ => none
  | n + 1, v1, v2, v3, σ =>
  if (8 : Int32) ≤ v3 then (
    d_X12_floats_43 n v1 v2 σ)
  else (
    ck (ix v3 8) <|
    nm (pD σ 160 v3.toNatClampNeg (FP.dconst0)) fun σ42 =>
    ck (ix v3 8) <|
    nm (pD σ42 161 v3.toNatClampNeg (FP.dconst0)) fun σ47 =>
    ck (ix ((8 : Int32) + v3) 16) <|
    nm (pJ σ47 146 ((8 : Int32) + v3).toNatClampNeg (0 : Int64)) fun σ52 =>
    nm (v3 + (1 : Int32)) fun x53 =>
    d_X12_floats_7 n v1 v2 x53 σ52)
theorem k_b_X12_floats_7 {lo hi : Nat} {σ0 : Sg} : ∀ {n : Nat} {v1 : Int32} {v2 : Int32} {v3 : Int32} {σ : Sg}, To lo hi σ0 σ → lo ≤ 130 ∧ 168 ≤ hi → FR (fun q => To lo hi σ0 q) (b_X12_floats_7 n 130 v1 v2 v3 σ) (d_X12_floats_7 n v1 v2 v3 σ) := by
  intro n
  induction n with
  | zero => intro v1 v2 v3 σ t w_v0; exact FR_none
  | succ n ih =>
    intro v1 v2 v3 σ t w_v0
    unfold b_X12_floats_7 d_X12_floats_7
    refine FR_it (fun _ => ?_) (fun _ => ?_)
    · exact k_b_X12_floats_43 t (by omega)
    · refine FR_ck (lo11 t.1) ?_
      refine FR_ck (ln11_43 t.1) ?_
      refine FR_nmR (w := 160) (lr11_43 t.1) ?_
      refine FR_ckI (okW_iff t.1 (by decide : Ar 12 8 160)) (fun q1667 => ?_)
      refine FR_nmS (To_pD t (by omega)) (fun σ42 t => ?_)
      refine FR_ck (lo11 t.1) ?_
      refine FR_ck (ln11_44 t.1) ?_
      refine FR_nmR (w := 161) (lr11_44 t.1) ?_
      refine FR_ckI (okW_iff t.1 (by decide : Ar 12 8 161)) (fun q1670 => ?_)
      refine FR_nmS (To_pD t (by omega)) (fun σ47 t => ?_)
      refine FR_ck (lo11 t.1) ?_
      refine FR_ck (ln11_23 t.1) ?_
      refine FR_nmR (w := 146) (lr11_23 t.1) ?_
      refine FR_ckI (okW_iff t.1 (by decide : Ar 14 16 146)) (fun q1673 => ?_)
      refine FR_nmS (To_pJ t (by omega)) (fun σ52 t => ?_)
      refine FR_nm (fun x53 => ?_)
      exact ih t (by omega)
