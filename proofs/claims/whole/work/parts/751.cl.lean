def c_X5_taxLines (n : Nat) (v0 : Nat) (v1 : Int64) (v3 : Int64) (v5 : Int32) (σ : Sg) : Option (Int64 × Sg) :=
  d_X5_taxLines_6 n v0 v1 v3 v5 (0 : Int64) (0 : Int32) σ
theorem k_f_X5_taxLines {lo hi : Nat} {σ0 : Sg} {n : Nat} {v0 : Nat} {v1 : Int64} {v3 : Int64} {v5 : Int32} {σ : Sg} (t : To lo hi σ0 σ) (h_v0 : O4 v0) (w_v0 : lo ≤ v0 ∧ v0 + 13 ≤ hi) : FR (fun q => To lo hi σ0 q.2) (f_X5_taxLines n v0 v1 v3 v5 σ) (c_X5_taxLines n v0 v1 v3 v5 σ) := by
  unfold f_X5_taxLines c_X5_taxLines
  exact k_b_X5_taxLines_6 t h_v0 (by omega)
def d_X5_flowLines_9 : Nat → Nat → Int64 → Int64 → Int32 → Int64 → Int64 → Int32 → Sg → Option (Int64 × Sg)
  | 0, _, _, _, _, _, _, _, _ => none
  | n + 1, v0, v1, v3, v5, v6, v8, v10, σ =>
  if (gI σ (v0 + 1) 1) ≤ v10 then (
    some (v8, σ))
  else (
    ck (ix v10 12) <|
    nm (v6 + ((gI σ (v0 + 2) v10.toNatClampNeg).toInt64)) fun x35 =>
    bp (f_X3_rounding (x35 * v1) v3 (1 : Int64) v5) fun x39 =>
    ck (ix v10 12) <|
    nm (pJ σ (v0 + 12) v10.toNatClampNeg (x39 - v8)) fun σ41 =>
    ck (ix v10 12) <|
    nm (v8 + (gJ σ41 (v0 + 12) v10.toNatClampNeg)) fun x46 =>
    nm (v10 + (1 : Int32)) fun x47 =>
    d_X5_flowLines_9 n v0 v1 v3 v5 x35 x46 x47 σ41)
theorem k_b_X5_flowLines_9 {lo hi : Nat} {σ0 : Sg} : ∀ {n : Nat} {v0 : Nat} {v1 : Int64} {v3 : Int64} {v5 : Int32} {v6 : Int64} {v8 : Int64} {v10 : Int32} {σ : Sg}, To lo hi σ0 σ → O4 v0 → lo ≤ v0 ∧ v0 + 13 ≤ hi → FR (fun q => To lo hi σ0 q.2) (b_X5_flowLines_9 n v0 v1 v3 v5 v6 v8 v10 σ) (d_X5_flowLines_9 n v0 v1 v3 v5 v6 v8 v10 σ) := by
  intro n
  induction n with
  | zero => intro v0 v1 v3 v5 v6 v8 v10 σ t h_v0 w_v0; exact FR_none
  | succ n ih =>
    intro v0 v1 v3 v5 v6 v8 v10 σ t h_v0 w_v0
    unfold b_X5_flowLines_9 d_X5_flowLines_9
    refine FR_ck (lo4 t.1 h_v0) ?_
    refine FR_ck (ln4_0 t.1 h_v0) ?_
    refine FR_nmR (w := (v0 + 1)) (lr4_0 t.1 h_v0) ?_
    refine FR_ck (lo0 t.1 (o4_0 h_v0)) ?_
    refine FR_it (fun _ => ?_) (fun _ => ?_)
    · exact FR_some t
    · refine FR_nmR (w := (v0 + 1)) (lr4_0 t.1 h_v0) ?_
      refine FR_ck (lo0 t.1 (o4_0 h_v0)) ?_
      refine FR_ck (ln0_0 t.1 (o4_0 h_v0)) ?_
      refine FR_nmR (w := (v0 + 2)) (lr0_0 t.1 (o4_0 h_v0)) ?_
      refine FR_ckI (okA_iff t.1 (ar0_0 (o4_0 h_v0))) (fun q278 => ?_)
      refine FR_nm (fun x35 => ?_)
      refine FR_ck (ln4_6 t.1 h_v0) ?_
      refine FR_nmR (w := (v0 + 12)) (lr4_6 t.1 h_v0) ?_
      refine FR_nmP (fun x39 => ?_)
      refine FR_ckI (okW_iff t.1 (ar4_6 h_v0)) (fun q280 => ?_)
      refine FR_nmS (To_pJ t (by omega)) (fun σ41 t => ?_)
      refine FR_ck (lo4 t.1 h_v0) ?_
      refine FR_ck (ln4_6 t.1 h_v0) ?_
      refine FR_nmR (w := (v0 + 12)) (lr4_6 t.1 h_v0) ?_
      refine FR_ckI (okA_iff t.1 (ar4_6 h_v0)) (fun q283 => ?_)
      refine FR_nm (fun x46 => ?_)
      refine FR_nm (fun x47 => ?_)
      exact ih t h_v0 (by omega)
def c_X5_flowLines (n : Nat) (v0 : Nat) (v1 : Int64) (v3 : Int64) (v5 : Int32) (σ : Sg) : Option (Int64 × Sg) :=
  d_X5_flowLines_9 n v0 v1 v3 v5 (0 : Int64) (0 : Int64) (0 : Int32) σ
theorem k_f_X5_flowLines {lo hi : Nat} {σ0 : Sg} {n : Nat} {v0 : Nat} {v1 : Int64} {v3 : Int64} {v5 : Int32} {σ : Sg} (t : To lo hi σ0 σ) (h_v0 : O4 v0) (w_v0 : lo ≤ v0 ∧ v0 + 13 ≤ hi) : FR (fun q => To lo hi σ0 q.2) (f_X5_flowLines n v0 v1 v3 v5 σ) (c_X5_flowLines n v0 v1 v3 v5 σ) := by
  unfold f_X5_flowLines c_X5_flowLines
  exact k_b_X5_flowLines_9 t h_v0 (by omega)
def c_X5_become (n : Nat) (v0 : Nat) (v1 : Int32) (v2 : Int64) (v4 : Int64) (v6 : Int32) (σ : Sg) : Option (Int32 × Sg) :=
  bp (f_X3_divisor n v2 v4) fun x24 =>
  if x24 ≤ (0 : Int64) then (
    some ((-6 : Int32), σ))
  else (
    ck (¬ x24 = 0) <|
    bp (f_X3_isSpent (v2 / x24) (v4 / x24)) fun x28 =>
    if x28 = 0 then (
      ck (ix v1 8) <|
      nm (pJ σ (v0 + 9) v1.toNatClampNeg (v2 / x24)) fun σ34 =>
      ck (ix v1 8) <|
      nm (pJ σ34 (v0 + 10) v1.toNatClampNeg (v4 / x24)) fun σ39 =>
      ck (v6 = 0 ∨ v6 = 1) <|
      ck (ix v1 8) <|
      nm (pI σ39 (v0 + 11) v1.toNatClampNeg v6) fun σ45 =>
      some ((0 : Int32), σ45))
    else (
      some ((-6 : Int32), σ)))
theorem k_f_X5_become {lo hi : Nat} {σ0 : Sg} {n : Nat} {v0 : Nat} {v1 : Int32} {v2 : Int64} {v4 : Int64} {v6 : Int32} {σ : Sg} (t : To lo hi σ0 σ) (h_v0 : O4 v0) (w_v0 : lo ≤ v0 ∧ v0 + 13 ≤ hi) : FR (fun q => To lo hi σ0 q.2) (f_X5_become n v0 v1 v2 v4 v6 σ) (c_X5_become n v0 v1 v2 v4 v6 σ) := by
  unfold f_X5_become c_X5_become
  refine FR_nmP (fun x24 => ?_)
  refine FR_it (fun _ => ?_) (fun _ => ?_)
  · exact FR_some t
  · refine FR_ckI Iff.rfl (fun q284 => ?_)
    refine FR_nmP (fun x28 => ?_)
    refine FR_it (fun _ => ?_) (fun _ => ?_)
    · refine FR_ck (lo4 t.1 h_v0) ?_
      refine FR_ck (ln4_3 t.1 h_v0) ?_
      refine FR_nmR (w := (v0 + 9)) (lr4_3 t.1 h_v0) ?_
      refine FR_ckI (okW_iff t.1 (ar4_3 h_v0)) (fun q287 => ?_)
      refine FR_nmS (To_pJ t (by omega)) (fun σ34 t => ?_)
      refine FR_ck (lo4 t.1 h_v0) ?_
      refine FR_ck (ln4_4 t.1 h_v0) ?_
      refine FR_nmR (w := (v0 + 10)) (lr4_4 t.1 h_v0) ?_
      refine FR_ckI (okW_iff t.1 (ar4_4 h_v0)) (fun q290 => ?_)
      refine FR_nmS (To_pJ t (by omega)) (fun σ39 t => ?_)
      refine FR_ck (lo4 t.1 h_v0) ?_
      refine FR_ck (ln4_5 t.1 h_v0) ?_
      refine FR_nmR (w := (v0 + 11)) (lr4_5 t.1 h_v0) ?_
      refine FR_ckI Iff.rfl (fun q293 => ?_)
      refine FR_ckI (okW_iff t.1 (ar4_5 h_v0)) (fun q294 => ?_)
      refine FR_nmS (To_pI t (by omega)) (fun σ45 t => ?_)
      exact FR_some t
    · exact FR_some t
def c_X5_carry (n : Nat) (v0 : Nat) (v1 : Int32) (σ : Sg) : Option (Int32 × Sg) :=
  ck (ix v1 8) <|
  ck (ix v1 8) <|
  nm (((gJ σ v0 7) * (gJ σ (v0 + 10) v1.toNatClampNeg)) + ((gJ σ (v0 + 9) v1.toNatClampNeg) * (gJ σ v0 8))) fun x46 =>
  ck (ix v1 8) <|
  nm ((gJ σ v0 8) * (gJ σ (v0 + 10) v1.toNatClampNeg)) fun x49 =>
  bp (f_X3_divisor n x46 x49) fun x51 =>
  if x51 ≤ (0 : Int64) then (
    some ((-6 : Int32), σ))
  else (
    ck (¬ x51 = 0) <|
    bp (f_X3_isSpent (x46 / x51) (x49 / x51)) fun x55 =>
    if x55 = 0 then (
      nm (x46 / x51) fun x57 =>
      nm (x49 / x51) fun x58 =>
      bp (f_X3_rounding x57 x58 (1 : Int64) (4 : Int32)) fun x61 =>
      ck (ix v1 8) <|
      nm (pJ σ (v0 + 9) v1.toNatClampNeg x61) fun σ63 =>
      ck (ix v1 8) <|
      nm (pJ σ63 (v0 + 10) v1.toNatClampNeg (1 : Int64)) fun σ68 =>
      ck (ix v1 8) <|
      nm (pJ σ68 v0 7 (x57 - ((gJ σ68 (v0 + 9) v1.toNatClampNeg) * x58))) fun σ73 =>
      nm (pJ σ73 v0 8 x58) fun σ75 =>
      some ((0 : Int32), σ75))
    else (
      some ((-6 : Int32), σ)))
theorem k_f_X5_carry {lo hi : Nat} {σ0 : Sg} {n : Nat} {v0 : Nat} {v1 : Int32} {σ : Sg} (t : To lo hi σ0 σ) (h_v0 : O4 v0) (w_v0 : lo ≤ v0 ∧ v0 + 13 ≤ hi) : FR (fun q => To lo hi σ0 q.2) (f_X5_carry n v0 v1 σ) (c_X5_carry n v0 v1 σ) := by
  unfold f_X5_carry c_X5_carry
  refine FR_ck (lo4 t.1 h_v0) ?_
  refine FR_ck (ln4_4 t.1 h_v0) ?_
  refine FR_nmR (w := (v0 + 10)) (lr4_4 t.1 h_v0) ?_
  refine FR_ckI (okA_iff t.1 (ar4_4 h_v0)) (fun q297 => ?_)
  refine FR_ck (ln4_3 t.1 h_v0) ?_
  refine FR_nmR (w := (v0 + 9)) (lr4_3 t.1 h_v0) ?_
  refine FR_ckI (okA_iff t.1 (ar4_3 h_v0)) (fun q299 => ?_)
  refine FR_nm (fun x46 => ?_)
  refine FR_nmR (w := (v0 + 10)) (lr4_4 t.1 h_v0) ?_
  refine FR_ckI (okA_iff t.1 (ar4_4 h_v0)) (fun q300 => ?_)
  refine FR_nm (fun x49 => ?_)
  refine FR_nmP (fun x51 => ?_)
  refine FR_it (fun _ => ?_) (fun _ => ?_)
  · exact FR_some t
  · refine FR_ckI Iff.rfl (fun q301 => ?_)
    refine FR_nmP (fun x55 => ?_)
    refine FR_it (fun _ => ?_) (fun _ => ?_)
    · refine FR_nm (fun x57 => ?_)
      refine FR_nm (fun x58 => ?_)
      refine FR_nmR (w := (v0 + 9)) (lr4_3 t.1 h_v0) ?_
      refine FR_nmP (fun x61 => ?_)
      refine FR_ckI (okW_iff t.1 (ar4_3 h_v0)) (fun q302 => ?_)
      refine FR_nmS (To_pJ t (by omega)) (fun σ63 t => ?_)
      refine FR_ck (lo4 t.1 h_v0) ?_
      refine FR_ck (ln4_4 t.1 h_v0) ?_
      refine FR_nmR (w := (v0 + 10)) (lr4_4 t.1 h_v0) ?_
      refine FR_ckI (okW_iff t.1 (ar4_4 h_v0)) (fun q305 => ?_)
      refine FR_nmS (To_pJ t (by omega)) (fun σ68 t => ?_)
      refine FR_ck (lo4 t.1 h_v0) ?_
      refine FR_ck (ln4_3 t.1 h_v0) ?_
      refine FR_nmR (w := (v0 + 9)) (lr4_3 t.1 h_v0) ?_
      refine FR_ckI (okA_iff t.1 (ar4_3 h_v0)) (fun q308 => ?_)
      refine FR_nmS (To_pJ t (by omega)) (fun σ73 t => ?_)
      refine FR_ck (lo4 t.1 h_v0) ?_
      refine FR_nmS (To_pJ t (by omega)) (fun σ75 t => ?_)
      exact FR_some t
    · exact FR_some t
def d_X5_cap_41 (v0 : Nat) (v1 : Int32) (v3 : Int64) (σ : Sg) : Option (Int32 × Sg) :=
  ck (ix v1 8) <|
  bd (c_X5_becomeWhole v0 v1 v3 (gI σ (v0 + 11) v1.toNatClampNeg) σ) fun x37 σ36 =>
  some (x37, σ36)
theorem k_b_X5_cap_41 {lo hi : Nat} {σ0 : Sg} {v0 : Nat} {v1 : Int32} {v3 : Int64} {σ : Sg} (t : To lo hi σ0 σ) (h_v0 : O4 v0) (w_v0 : lo ≤ v0 ∧ v0 + 13 ≤ hi) : FR (fun q => To lo hi σ0 q.2) (b_X5_cap_41 v0 v1 v3 σ) (d_X5_cap_41 v0 v1 v3 σ) := by
  unfold b_X5_cap_41 d_X5_cap_41
  refine FR_ck (lo4 t.1 h_v0) ?_
  refine FR_ck (ln4_5 t.1 h_v0) ?_
  refine FR_nmR (w := (v0 + 11)) (lr4_5 t.1 h_v0) ?_
  refine FR_ckI (okA_iff t.1 (ar4_5 h_v0)) (fun q312 => ?_)
  refine FR_bd (k_f_X5_becomeWhole t h_v0 (by omega)) (fun x37 σ36 t => ?_)
  exact FR_some t
def c_X5_cap (v0 : Nat) (v1 : Int32) (v2 : Int32) (v3 : Int64) (σ : Sg) : Option (Int32 × Sg) :=
  ck (ix v1 8) <|
  nm (v3 * (gJ σ (v0 + 10) v1.toNatClampNeg)) fun x25 =>
  if v2 = 0 then (
    ck (ix v1 8) <|
    if (gJ σ (v0 + 9) v1.toNatClampNeg) ≤ x25 then (
      some ((0 : Int32), σ))
    else (
      d_X5_cap_41 v0 v1 v3 σ))
  else (
    ck (ix v1 8) <|
    if x25 ≤ (gJ σ (v0 + 9) v1.toNatClampNeg) then (
      some ((0 : Int32), σ))
    else (
      d_X5_cap_41 v0 v1 v3 σ))
theorem k_f_X5_cap {lo hi : Nat} {σ0 : Sg} {v0 : Nat} {v1 : Int32} {v2 : Int32} {v3 : Int64} {σ : Sg} (t : To lo hi σ0 σ) (h_v0 : O4 v0) (w_v0 : lo ≤ v0 ∧ v0 + 13 ≤ hi) : FR (fun q => To lo hi σ0 q.2) (f_X5_cap v0 v1 v2 v3 σ) (c_X5_cap v0 v1 v2 v3 σ) := by
  unfold f_X5_cap c_X5_cap
  refine FR_ck (lo4 t.1 h_v0) ?_
  refine FR_ck (ln4_4 t.1 h_v0) ?_
  refine FR_nmR (w := (v0 + 10)) (lr4_4 t.1 h_v0) ?_
  refine FR_ckI (okA_iff t.1 (ar4_4 h_v0)) (fun q315 => ?_)
  refine FR_nm (fun x25 => ?_)
  refine FR_it (fun _ => ?_) (fun _ => ?_)
  · refine FR_ck (ln4_3 t.1 h_v0) ?_
    refine FR_nmR (w := (v0 + 9)) (lr4_3 t.1 h_v0) ?_
    refine FR_ckI (okA_iff t.1 (ar4_3 h_v0)) (fun q317 => ?_)
    refine FR_it (fun _ => ?_) (fun _ => ?_)
    · exact FR_some t
    · exact k_b_X5_cap_41 t h_v0 (by omega)
  · refine FR_ck (ln4_3 t.1 h_v0) ?_
    refine FR_nmR (w := (v0 + 9)) (lr4_3 t.1 h_v0) ?_
    refine FR_ckI (okA_iff t.1 (ar4_3 h_v0)) (fun q319 => ?_)
    refine FR_it (fun _ => ?_) (fun _ => ?_)
    · exact FR_some t
    · exact k_b_X5_cap_41 t h_v0 (by omega)
def d_X5_book_44 (v0 : Nat) (v1 : Int32) (s0 : Int64) (s1 : Int64) (s2 : Int32) (s3 : Nat) (σ : Sg) : Option (Int32 × Sg) :=
  ck (ix s2 8) <|
  nm (pJ σ s3 s2.toNatClampNeg (s1 + s0)) fun σ47 =>
  ck (ix v1 8) <|
  if (gI σ47 (v0 + 11) v1.toNatClampNeg) = 0 then (
    some ((0 : Int32), σ47))
  else (
    nm (pI σ47 (v0 + 3) 1 ((gI σ47 (v0 + 3) 1) + (1 : Int32))) fun σ56 =>
    some ((0 : Int32), σ56))
theorem k_b_X5_book_44 {lo hi : Nat} {σ0 : Sg} {v0 : Nat} {v1 : Int32} {s0 : Int64} {s1 : Int64} {s2 : Int32} {s3 : Nat} {σ : Sg} (t : To lo hi σ0 σ) (h_v0 : O4 v0) (w_v0 : lo ≤ v0 ∧ v0 + 13 ≤ hi) (h_s3 : Ar 14 8 s3) (w_s3 : lo ≤ s3 ∧ s3 < hi) : FR (fun q => To lo hi σ0 q.2) (b_X5_book_44 v0 v1 s0 s1 s2 s3 σ) (d_X5_book_44 v0 v1 s0 s1 s2 s3 σ) := by
  unfold b_X5_book_44 d_X5_book_44
  refine FR_ckI (okW_iff t.1 h_s3) (fun q320 => ?_)
  refine FR_nmS (To_pJ t (by omega)) (fun σ47 t => ?_)
  refine FR_ck (lo4 t.1 h_v0) ?_
  refine FR_ck (ln4_5 t.1 h_v0) ?_
  refine FR_nmR (w := (v0 + 11)) (lr4_5 t.1 h_v0) ?_
  refine FR_ckI (okA_iff t.1 (ar4_5 h_v0)) (fun q323 => ?_)
  refine FR_it (fun _ => ?_) (fun _ => ?_)
  · exact FR_some t
  · refine FR_ck (ln4_1 t.1 h_v0) ?_
    refine FR_nmR (w := (v0 + 3)) (lr4_1 t.1 h_v0) ?_
    refine FR_ck (lo3 t.1 (o4_1 h_v0)) ?_
    refine FR_nmS (To_pI t (by omega)) (fun σ56 t => ?_)
    exact FR_some t
def c_X5_book (v0 : Nat) (v1 : Int32) (v2 : Int32) (v3 : Int32) (σ : Sg) : Option (Int32 × Sg) :=
  ck (ix v1 8) <|
  if (gJ σ (v0 + 10) v1.toNatClampNeg) = (1 : Int64) then (
    ck (ix v2 8) <|
    if v3 = 0 then (
      ck (ix v1 8) <|
      d_X5_book_44 v0 v1 (gJ σ (v0 + 9) v1.toNatClampNeg) (gJ σ (v0 + 4) v2.toNatClampNeg) v2 (v0 + 4) σ)
    else (
      ck (ix v1 8) <|
      d_X5_book_44 v0 v1 (-(gJ σ (v0 + 9) v1.toNatClampNeg)) (gJ σ (v0 + 4) v2.toNatClampNeg) v2 (v0 + 4) σ))
  else (
    some ((-5 : Int32), σ))
theorem k_f_X5_book {lo hi : Nat} {σ0 : Sg} {v0 : Nat} {v1 : Int32} {v2 : Int32} {v3 : Int32} {σ : Sg} (t : To lo hi σ0 σ) (h_v0 : O4 v0) (w_v0 : lo ≤ v0 ∧ v0 + 13 ≤ hi) : FR (fun q => To lo hi σ0 q.2) (f_X5_book v0 v1 v2 v3 σ) (c_X5_book v0 v1 v2 v3 σ) := by
  unfold f_X5_book c_X5_book
  refine FR_ck (lo4 t.1 h_v0) ?_
  refine FR_ck (ln4_4 t.1 h_v0) ?_
  refine FR_nmR (w := (v0 + 10)) (lr4_4 t.1 h_v0) ?_
  refine FR_ckI (okA_iff t.1 (ar4_4 h_v0)) (fun q328 => ?_)
  refine FR_it (fun _ => ?_) (fun _ => ?_)
  · refine FR_ck (ln4_1 t.1 h_v0) ?_
    refine FR_nmR (w := (v0 + 3)) (lr4_1 t.1 h_v0) ?_
    refine FR_ck (lo3 t.1 (o4_1 h_v0)) ?_
    refine FR_ck (ln3_0 t.1 (o4_1 h_v0)) ?_
    refine FR_nmR (w := (v0 + 4)) (lr3_0 t.1 (o4_1 h_v0)) ?_
    refine FR_ckI (okA_iff t.1 (ar3_0 (o4_1 h_v0))) (fun q332 => ?_)
    refine FR_it (fun _ => ?_) (fun _ => ?_)
    · refine FR_ck (ln4_3 t.1 h_v0) ?_
      refine FR_nmR (w := (v0 + 9)) (lr4_3 t.1 h_v0) ?_
      refine FR_ckI (okA_iff t.1 (ar4_3 h_v0)) (fun q334 => ?_)
      exact k_b_X5_book_44 t h_v0 (by omega) (ar3_0 (o4_1 h_v0)) (by omega)
    · refine FR_ck (ln4_3 t.1 h_v0) ?_
      refine FR_nmR (w := (v0 + 9)) (lr4_3 t.1 h_v0) ?_
      refine FR_ckI (okA_iff t.1 (ar4_3 h_v0)) (fun q336 => ?_)
      exact k_b_X5_book_44 t h_v0 (by omega) (ar3_0 (o4_1 h_v0)) (by omega)
  · exact FR_some t
def d_X5_passDays_3 : Nat → Nat → Int32 → Int64 → Int64 → Int32 → Int32 → Sg → Option (Int32 × Sg)
  | 0, _, _, _, _, _, _, _ => none
  | n + 1, v0, v1, v2, v4, v6, v7, σ =>
  if v6 ≤ v7 then (
    some ((0 : Int32), σ))
  else (
    ck (ix v1 8) <|
    ck (ix v1 8) <|
    bp (f_X3_rounding ((gJ σ (v0 + 9) v1.toNatClampNeg) * v2) ((gJ σ (v0 + 10) v1.toNatClampNeg) * v4) (1 : Int64) (1 : Int32)) fun x37 =>
    if x37 = (0 : Int64) then (
      some ((0 : Int32), σ))
    else (
      ck (ix v1 8) <|
      ck (ix v1 8) <|
      nm ((gJ σ (v0 + 9) v1.toNatClampNeg) + (x37 * (gJ σ (v0 + 10) v1.toNatClampNeg))) fun x43 =>
      ck (ix v1 8) <|
      bp (f_X3_isSpent x43 (gJ σ (v0 + 10) v1.toNatClampNeg)) fun x47 =>
      if x47 = 0 then (
        ck (ix v1 8) <|
        nm (pJ σ (v0 + 9) v1.toNatClampNeg x43) fun σ51 =>
        nm (v7 + (1 : Int32)) fun x52 =>
        d_X5_passDays_3 n v0 v1 v2 v4 v6 x52 σ51)
      else (
        some ((-6 : Int32), σ))))
theorem k_b_X5_passDays_3 {lo hi : Nat} {σ0 : Sg} : ∀ {n : Nat} {v0 : Nat} {v1 : Int32} {v2 : Int64} {v4 : Int64} {v6 : Int32} {v7 : Int32} {σ : Sg}, To lo hi σ0 σ → O4 v0 → lo ≤ v0 ∧ v0 + 13 ≤ hi → FR (fun q => To lo hi σ0 q.2) (b_X5_passDays_3 n v0 v1 v2 v4 v6 v7 σ) (d_X5_passDays_3 n v0 v1 v2 v4 v6 v7 σ) := by
  intro n
  induction n with
  | zero => intro v0 v1 v2 v4 v6 v7 σ t h_v0 w_v0; exact FR_none
  | succ n ih =>
    intro v0 v1 v2 v4 v6 v7 σ t h_v0 w_v0
    unfold b_X5_passDays_3 d_X5_passDays_3
    refine FR_it (fun _ => ?_) (fun _ => ?_)
    · exact FR_some t
    · refine FR_ck (lo4 t.1 h_v0) ?_
      refine FR_ck (ln4_3 t.1 h_v0) ?_
      refine FR_nmR (w := (v0 + 9)) (lr4_3 t.1 h_v0) ?_
      refine FR_ckI (okA_iff t.1 (ar4_3 h_v0)) (fun q339 => ?_)
      refine FR_ck (ln4_4 t.1 h_v0) ?_
      refine FR_nmR (w := (v0 + 10)) (lr4_4 t.1 h_v0) ?_
      refine FR_ckI (okA_iff t.1 (ar4_4 h_v0)) (fun q341 => ?_)
      refine FR_nmP (fun x37 => ?_)
      refine FR_it (fun _ => ?_) (fun _ => ?_)
      · exact FR_some t
      · refine FR_nmR (w := (v0 + 9)) (lr4_3 t.1 h_v0) ?_
        refine FR_ckI (okA_iff t.1 (ar4_3 h_v0)) (fun q342 => ?_)
        refine FR_nmR (w := (v0 + 10)) (lr4_4 t.1 h_v0) ?_
        refine FR_ckI (okA_iff t.1 (ar4_4 h_v0)) (fun q343 => ?_)
        refine FR_nm (fun x43 => ?_)
        refine FR_nmR (w := (v0 + 10)) (lr4_4 t.1 h_v0) ?_
        refine FR_ckI (okA_iff t.1 (ar4_4 h_v0)) (fun q344 => ?_)
        refine FR_nmP (fun x47 => ?_)
        refine FR_it (fun _ => ?_) (fun _ => ?_)
        · refine FR_nmR (w := (v0 + 9)) (lr4_3 t.1 h_v0) ?_
          refine FR_ckI (okW_iff t.1 (ar4_3 h_v0)) (fun q345 => ?_)
          refine FR_nmS (To_pJ t (by omega)) (fun σ51 t => ?_)
          refine FR_nm (fun x52 => ?_)
          exact ih t h_v0 (by omega)
        · exact FR_some t
def c_X5_passDays (n : Nat) (v0 : Nat) (v1 : Int32) (v2 : Int64) (v4 : Int64) (v6 : Int32) (σ : Sg) : Option (Int32 × Sg) :=
  d_X5_passDays_3 n v0 v1 v2 v4 v6 (0 : Int32) σ
theorem k_f_X5_passDays {lo hi : Nat} {σ0 : Sg} {n : Nat} {v0 : Nat} {v1 : Int32} {v2 : Int64} {v4 : Int64} {v6 : Int32} {σ : Sg} (t : To lo hi σ0 σ) (h_v0 : O4 v0) (w_v0 : lo ≤ v0 ∧ v0 + 13 ≤ hi) : FR (fun q => To lo hi σ0 q.2) (f_X5_passDays n v0 v1 v2 v4 v6 σ) (c_X5_passDays n v0 v1 v2 v4 v6 σ) := by
  unfold f_X5_passDays c_X5_passDays
  exact k_b_X5_passDays_3 t h_v0 (by omega)
def d_X5_step_344 (n : Nat) (s0 : Int32) (s1 : Int64) (s2 : Int64) (s3 : Int32) (s4 : Nat) (σ : Sg) : Option (Int32 × Sg) :=
  bd (c_X5_become n s4 s3 s2 s1 s0 σ) fun x314 σ313 =>
  some (x314, σ313)
theorem k_b_X5_step_344 {lo hi : Nat} {σ0 : Sg} {n : Nat} {s0 : Int32} {s1 : Int64} {s2 : Int64} {s3 : Int32} {s4 : Nat} {σ : Sg} (t : To lo hi σ0 σ) (h_s4 : O4 s4) (w_s4 : lo ≤ s4 ∧ s4 + 13 ≤ hi) : FR (fun q => To lo hi σ0 q.2) (b_X5_step_344 n s0 s1 s2 s3 s4 σ) (d_X5_step_344 n s0 s1 s2 s3 s4 σ) := by
  unfold b_X5_step_344 d_X5_step_344
  refine FR_ck (lo4 t.1 h_s4) ?_
  refine FR_bd (k_f_X5_become t h_s4 (by omega)) (fun x314 σ313 t => ?_)
  exact FR_some t
def d_X5_step_339 (n : Nat) (s0 : Int64) (s1 : Int64) (s2 : Int32) (s3 : Nat) (σ : Sg) : Option (Int32 × Sg) :=
  d_X5_step_344 n (1 : Int32) s0 s1 s2 s3 σ
theorem k_b_X5_step_339 {lo hi : Nat} {σ0 : Sg} {n : Nat} {s0 : Int64} {s1 : Int64} {s2 : Int32} {s3 : Nat} {σ : Sg} (t : To lo hi σ0 σ) (h_s3 : O4 s3) (w_s3 : lo ≤ s3 ∧ s3 + 13 ≤ hi) : FR (fun q => To lo hi σ0 q.2) (b_X5_step_339 n s0 s1 s2 s3 σ) (d_X5_step_339 n s0 s1 s2 s3 σ) := by
  unfold b_X5_step_339 d_X5_step_339
  exact k_b_X5_step_344 t h_s3 (by omega)
def d_X5_step_269 (n : Nat) (v0 : Nat) (v4 : Int32) (v5 : Int32) (s0 : Int64) (σ : Sg) : Option (Int32 × Sg) :=
  ck (ix v4 8) <|
  ck (ix v5 8) <|
  ck (ix v4 8) <|
  nm (((gJ σ (v0 + 9) v4.toNatClampNeg) * (gJ σ (v0 + 10) v5.toNatClampNeg)) + (s0 * (gJ σ (v0 + 10) v4.toNatClampNeg))) fun x302 =>
  ck (ix v4 8) <|
  ck (ix v5 8) <|
  ck (ix v4 8) <|
  if (gI σ (v0 + 11) v4.toNatClampNeg) = 0 then (
    ck (ix v5 8) <|
    if (gI σ (v0 + 11) v5.toNatClampNeg) = 0 then (
      d_X5_step_344 n (0 : Int32) ((gJ σ (v0 + 10) v4.toNatClampNeg) * (gJ σ (v0 + 10) v5.toNatClampNeg)) x302 v4 v0 σ)
    else (
      d_X5_step_339 n ((gJ σ (v0 + 10) v4.toNatClampNeg) * (gJ σ (v0 + 10) v5.toNatClampNeg)) x302 v4 v0 σ))
  else (
    d_X5_step_339 n ((gJ σ (v0 + 10) v4.toNatClampNeg) * (gJ σ (v0 + 10) v5.toNatClampNeg)) x302 v4 v0 σ)
theorem k_b_X5_step_269 {lo hi : Nat} {σ0 : Sg} {n : Nat} {v0 : Nat} {v4 : Int32} {v5 : Int32} {s0 : Int64} {σ : Sg} (t : To lo hi σ0 σ) (h_v0 : O4 v0) (w_v0 : lo ≤ v0 ∧ v0 + 13 ≤ hi) : FR (fun q => To lo hi σ0 q.2) (b_X5_step_269 n v0 v4 v5 s0 σ) (d_X5_step_269 n v0 v4 v5 s0 σ) := by
  unfold b_X5_step_269 d_X5_step_269
  refine FR_ck (lo4 t.1 h_v0) ?_
  refine FR_ck (ln4_3 t.1 h_v0) ?_
  refine FR_nmR (w := (v0 + 9)) (lr4_3 t.1 h_v0) ?_
  refine FR_ckI (okA_iff t.1 (ar4_3 h_v0)) (fun q349 => ?_)
  refine FR_ck (ln4_4 t.1 h_v0) ?_
  refine FR_nmR (w := (v0 + 10)) (lr4_4 t.1 h_v0) ?_
  refine FR_ckI (okA_iff t.1 (ar4_4 h_v0)) (fun q351 => ?_)
  refine FR_nmR (w := (v0 + 10)) (lr4_4 t.1 h_v0) ?_
  refine FR_ckI (okA_iff t.1 (ar4_4 h_v0)) (fun q352 => ?_)
  refine FR_nm (fun x302 => ?_)
  refine FR_nmR (w := (v0 + 10)) (lr4_4 t.1 h_v0) ?_
  refine FR_ckI (okA_iff t.1 (ar4_4 h_v0)) (fun q353 => ?_)
  refine FR_nmR (w := (v0 + 10)) (lr4_4 t.1 h_v0) ?_
  refine FR_ckI (okA_iff t.1 (ar4_4 h_v0)) (fun q354 => ?_)
  refine FR_ck (ln4_5 t.1 h_v0) ?_
  refine FR_nmR (w := (v0 + 11)) (lr4_5 t.1 h_v0) ?_
  refine FR_ckI (okA_iff t.1 (ar4_5 h_v0)) (fun q356 => ?_)
  refine FR_it (fun _ => ?_) (fun _ => ?_)
  · refine FR_nmR (w := (v0 + 11)) (lr4_5 t.1 h_v0) ?_
    refine FR_ckI (okA_iff t.1 (ar4_5 h_v0)) (fun q357 => ?_)
    refine FR_it (fun _ => ?_) (fun _ => ?_)
    · exact k_b_X5_step_344 t h_v0 (by omega)
    · exact k_b_X5_step_339 t h_v0 (by omega)
  · exact k_b_X5_step_339 t h_v0 (by omega)
def c_X5_step (n : Nat) (v0 : Nat) (v1 : Nat) (v2 : Int32) (σ : Sg) : Option (Int32 × Sg) :=
  ck (ix v2 20) <|
  nm (gI σ (v1 + 2) v2.toNatClampNeg) fun x199 =>
  ck (ix v2 20) <|
  nm (gI σ (v1 + 3) v2.toNatClampNeg) fun x203 =>
  ck (ix v2 20) <|
  nm (gI σ (v1 + 4) v2.toNatClampNeg) fun x207 =>
  ck (ix v2 20) <|
  if (gI σ (v1 + 1) v2.toNatClampNeg) = 0 then (
    bp (c_X5_sumOfLines n v0 σ) fun x214 =>
    bd (c_X5_becomeWhole v0 x199 x214 (0 : Int32) σ) fun x217 σ216 =>
    some (x217, σ216))
  else (
    if (gI σ (v1 + 1) v2.toNatClampNeg) = 1 then (
      ck (ix x203 8) <|
      ck (ix x203 8) <|
      bd (c_X5_taxLines n v0 ((gI σ 6 x203.toNatClampNeg).toInt64) ((gI σ 7 x203.toNatClampNeg).toInt64) x207 σ) fun x229 σ228 =>
      bd (c_X5_becomeWhole v0 x199 x229 (0 : Int32) σ228) fun x233 σ232 =>
      some (x233, σ232))
    else (
      if (gI σ (v1 + 1) v2.toNatClampNeg) = 2 then (
        ck (ix x203 8) <|
        ck (ix x203 8) <|
        bd (c_X5_flowLines n v0 ((gI σ 6 x203.toNatClampNeg).toInt64) ((gI σ 7 x203.toNatClampNeg).toInt64) x207 σ) fun x245 σ244 =>
        bd (c_X5_becomeWhole v0 x199 x245 (0 : Int32) σ244) fun x249 σ248 =>
        some (x249, σ248))
      else (
        if (gI σ (v1 + 1) v2.toNatClampNeg) = 3 then (
          ck (ix x203 8) <|
          ck (ix x207 8) <|
          ck (ix x203 8) <|
          ck (ix x207 8) <|
          ck (ix x203 8) <|
          bd (c_X5_become n v0 x199 ((gJ σ (v0 + 9) x203.toNatClampNeg) * ((gI σ 6 x207.toNatClampNeg).toInt64)) ((gJ σ (v0 + 10) x203.toNatClampNeg) * ((gI σ 7 x207.toNatClampNeg).toInt64)) (gI σ (v0 + 11) x203.toNatClampNeg) σ) fun x270 σ269 =>
          some (x270, σ269))
        else (
          if (gI σ (v1 + 1) v2.toNatClampNeg) = 4 then (
            ck (ix x199 8) <|
            ck (ix x199 8) <|
            bp (f_X3_rounding (gJ σ (v0 + 9) x199.toNatClampNeg) (gJ σ (v0 + 10) x199.toNatClampNeg) (x207.toInt64) x203) fun x280 =>
            ck (ix x199 8) <|
            bd (c_X5_becomeWhole v0 x199 x280 (gI σ (v0 + 11) x199.toNatClampNeg) σ) fun x286 σ285 =>
            some (x286, σ285))
          else (
            if (gI σ (v1 + 1) v2.toNatClampNeg) = 5 then (
              if x207 = 0 then (
                ck (ix x203 8) <|
                d_X5_step_269 n v0 x199 x203 (gJ σ (v0 + 9) x203.toNatClampNeg) σ)
              else (
                ck (ix x203 8) <|
                d_X5_step_269 n v0 x199 x203 (-(gJ σ (v0 + 9) x203.toNatClampNeg)) σ))
            else (
              if (gI σ (v1 + 1) v2.toNatClampNeg) = 6 then (
                ck (ix x199 8) <|
                if (gJ σ (v0 + 10) x199.toNatClampNeg) = (1 : Int64) then (
                  ck (ix x199 8) <|
                  ck ((gI σ (v0 + 11) x199.toNatClampNeg) = 0 ∨ (gI σ (v0 + 11) x199.toNatClampNeg) = 1) <|
                  nm (pI σ v0 10 (gI σ (v0 + 11) x199.toNatClampNeg)) fun σ332 =>
                  ck (ix x199 8) <|
                  ck (ix x207 4) <|
                  ck (ix x207 4) <|
                  bp (c_X7_divide n (v0 + 5) (gJ σ332 (v0 + 9) x199.toNatClampNeg) x203 (x207.toNatClampNeg + 9) (gI σ332 13 x207.toNatClampNeg) σ332) fun σ350 =>
                  some ((0 : Int32), σ350))
                else (
                  some ((-5 : Int32), σ)))
              else (
                if (gI σ (v1 + 1) v2.toNatClampNeg) = 7 then (
                  ck (ix x203 8) <|
                  bd (c_X5_becomeWhole v0 x199 (gJ σ (v0 + 6) x203.toNatClampNeg) (gI σ v0 10) σ) fun x361 σ360 =>
                  some (x361, σ360))
                else (
                  if (gI σ (v1 + 1) v2.toNatClampNeg) = 8 then (
                    bd (c_X5_carry n v0 x199 σ) fun x366 σ365 =>
                    some (x366, σ365))
                  else (
                    if (gI σ (v1 + 1) v2.toNatClampNeg) = 9 then (
                      bd (c_X5_cap v0 x199 x203 (x207.toInt64) σ) fun x371 σ370 =>
                      some (x371, σ370))
                    else (
                      if (gI σ (v1 + 1) v2.toNatClampNeg) = 10 then (
                        bd (c_X5_book v0 x199 x203 x207 σ) fun x376 σ375 =>
                        some (x376, σ375))
                      else (
                        if (gI σ (v1 + 1) v2.toNatClampNeg) = 11 then (
                          ck (ix x203 8) <|
                          ck (ix x203 8) <|
                          bp (f_X3_rounding (gJ σ (v0 + 9) x203.toNatClampNeg) (gJ σ (v0 + 10) x203.toNatClampNeg) (1 : Int64) x207) fun x386 =>
                          bd (c_X5_becomeWhole v0 x199 x386 (1 : Int32) σ) fun x389 σ388 =>
                          some (x389, σ388))
                        else (
                          ck (ix x203 8) <|
                          ck (ix x203 8) <|
                          bd (c_X5_passDays n v0 x199 ((gI σ 6 x203.toNatClampNeg).toInt64) ((gI σ 7 x203.toNatClampNeg).toInt64) x207 σ) fun x400 σ399 =>
                          some (x400, σ399)))))))))))))
theorem k_f_X5_step {lo hi : Nat} {σ0 : Sg} {n : Nat} {v0 : Nat} {v1 : Nat} {v2 : Int32} {σ : Sg} (t : To lo hi σ0 σ) (h_v0 : O4 v0) (w_v0 : lo ≤ v0 ∧ v0 + 13 ≤ hi) (h_v1 : O5 v1) : FR (fun q => To lo hi σ0 q.2) (f_X5_step n v0 v1 v2 5 σ) (c_X5_step n v0 v1 v2 σ) := by
  unfold f_X5_step c_X5_step
  refine FR_ck (lo5 t.1 h_v1) ?_
  refine FR_ck (ln5_1 t.1 h_v1) ?_
  refine FR_nmR (w := (v1 + 2)) (lr5_1 t.1 h_v1) ?_
  refine FR_ckI (okA_iff t.1 (ar5_1 h_v1)) (fun q360 => ?_)
  refine FR_nm (fun x199 => ?_)
  refine FR_ck (ln5_2 t.1 h_v1) ?_
  refine FR_nmR (w := (v1 + 3)) (lr5_2 t.1 h_v1) ?_
  refine FR_ckI (okA_iff t.1 (ar5_2 h_v1)) (fun q362 => ?_)
  refine FR_nm (fun x203 => ?_)
  refine FR_ck (ln5_3 t.1 h_v1) ?_
  refine FR_nmR (w := (v1 + 4)) (lr5_3 t.1 h_v1) ?_
  refine FR_ckI (okA_iff t.1 (ar5_3 h_v1)) (fun q364 => ?_)
  refine FR_nm (fun x207 => ?_)
  refine FR_ck (ln5_0 t.1 h_v1) ?_
  refine FR_nmR (w := (v1 + 1)) (lr5_0 t.1 h_v1) ?_
  refine FR_ckI (okA_iff t.1 (ar5_0 h_v1)) (fun q366 => ?_)
  refine FR_it (fun _ => ?_) (fun _ => ?_)
  · refine FR_ck (lo4 t.1 h_v0) ?_
    refine FR_bpP (k_f_X5_sumOfLines t h_v0).1 (fun x214 => ?_)
    refine FR_bd (k_f_X5_becomeWhole t h_v0 (by omega)) (fun x217 σ216 t => ?_)
    exact FR_some t
  · refine FR_it (fun _ => ?_) (fun _ => ?_)
    · refine FR_ck (lo7 t.1) ?_
      refine FR_ck (ln7_0 t.1) ?_
      refine FR_nmR (w := 6) (lr7_0 t.1) ?_
      refine FR_ckI (okA_iff t.1 (by decide : Ar 13 8 6)) (fun q370 => ?_)
      refine FR_ck (ln7_1 t.1) ?_
      refine FR_nmR (w := 7) (lr7_1 t.1) ?_
      refine FR_ckI (okA_iff t.1 (by decide : Ar 13 8 7)) (fun q372 => ?_)
      refine FR_ck (lo4 t.1 h_v0) ?_
      refine FR_bd (k_f_X5_taxLines t h_v0 (by omega)) (fun x229 σ228 t => ?_)
      refine FR_ck (lo4 t.1 h_v0) ?_
      refine FR_bd (k_f_X5_becomeWhole t h_v0 (by omega)) (fun x233 σ232 t => ?_)
      exact FR_some t
    · refine FR_it (fun _ => ?_) (fun _ => ?_)
      · refine FR_ck (lo7 t.1) ?_
        refine FR_ck (ln7_0 t.1) ?_
        refine FR_nmR (w := 6) (lr7_0 t.1) ?_
        refine FR_ckI (okA_iff t.1 (by decide : Ar 13 8 6)) (fun q377 => ?_)
        refine FR_ck (ln7_1 t.1) ?_
        refine FR_nmR (w := 7) (lr7_1 t.1) ?_
        refine FR_ckI (okA_iff t.1 (by decide : Ar 13 8 7)) (fun q379 => ?_)
        refine FR_ck (lo4 t.1 h_v0) ?_
        refine FR_bd (k_f_X5_flowLines t h_v0 (by omega)) (fun x245 σ244 t => ?_)
        refine FR_ck (lo4 t.1 h_v0) ?_
        refine FR_bd (k_f_X5_becomeWhole t h_v0 (by omega)) (fun x249 σ248 t => ?_)
        exact FR_some t
      · refine FR_it (fun _ => ?_) (fun _ => ?_)
        · refine FR_ck (lo4 t.1 h_v0) ?_
          refine FR_ck (ln4_3 t.1 h_v0) ?_
          refine FR_nmR (w := (v0 + 9)) (lr4_3 t.1 h_v0) ?_
          refine FR_ckI (okA_iff t.1 (ar4_3 h_v0)) (fun q384 => ?_)
          refine FR_ck (lo7 t.1) ?_
          refine FR_ck (ln7_0 t.1) ?_
          refine FR_nmR (w := 6) (lr7_0 t.1) ?_
          refine FR_ckI (okA_iff t.1 (by decide : Ar 13 8 6)) (fun q387 => ?_)
          refine FR_ck (ln4_4 t.1 h_v0) ?_
          refine FR_nmR (w := (v0 + 10)) (lr4_4 t.1 h_v0) ?_
          refine FR_ckI (okA_iff t.1 (ar4_4 h_v0)) (fun q389 => ?_)
          refine FR_ck (ln7_1 t.1) ?_
          refine FR_nmR (w := 7) (lr7_1 t.1) ?_
          refine FR_ckI (okA_iff t.1 (by decide : Ar 13 8 7)) (fun q391 => ?_)
          refine FR_ck (ln4_5 t.1 h_v0) ?_
          refine FR_nmR (w := (v0 + 11)) (lr4_5 t.1 h_v0) ?_
          refine FR_ckI (okA_iff t.1 (ar4_5 h_v0)) (fun q393 => ?_)
          refine FR_bd (k_f_X5_become t h_v0 (by omega)) (fun x270 σ269 t => ?_)
          exact FR_some t
        · refine FR_it (fun _ => ?_) (fun _ => ?_)
          · refine FR_ck (lo4 t.1 h_v0) ?_
            refine FR_ck (ln4_3 t.1 h_v0) ?_
            refine FR_nmR (w := (v0 + 9)) (lr4_3 t.1 h_v0) ?_
            refine FR_ckI (okA_iff t.1 (ar4_3 h_v0)) (fun q396 => ?_)
            refine FR_ck (ln4_4 t.1 h_v0) ?_
            refine FR_nmR (w := (v0 + 10)) (lr4_4 t.1 h_v0) ?_
            refine FR_ckI (okA_iff t.1 (ar4_4 h_v0)) (fun q398 => ?_)
            refine FR_nmP (fun x280 => ?_)
            refine FR_ck (ln4_5 t.1 h_v0) ?_
            refine FR_nmR (w := (v0 + 11)) (lr4_5 t.1 h_v0) ?_
            refine FR_ckI (okA_iff t.1 (ar4_5 h_v0)) (fun q400 => ?_)
            refine FR_bd (k_f_X5_becomeWhole t h_v0 (by omega)) (fun x286 σ285 t => ?_)
            exact FR_some t
          · refine FR_it (fun _ => ?_) (fun _ => ?_)
            · refine FR_it (fun _ => ?_) (fun _ => ?_)
              · refine FR_ck (lo4 t.1 h_v0) ?_
                refine FR_ck (ln4_3 t.1 h_v0) ?_
                refine FR_nmR (w := (v0 + 9)) (lr4_3 t.1 h_v0) ?_
                refine FR_ckI (okA_iff t.1 (ar4_3 h_v0)) (fun q403 => ?_)
                exact k_b_X5_step_269 t h_v0 (by omega)
              · refine FR_ck (lo4 t.1 h_v0) ?_
                refine FR_ck (ln4_3 t.1 h_v0) ?_
                refine FR_nmR (w := (v0 + 9)) (lr4_3 t.1 h_v0) ?_
                refine FR_ckI (okA_iff t.1 (ar4_3 h_v0)) (fun q406 => ?_)
                exact k_b_X5_step_269 t h_v0 (by omega)
            · refine FR_it (fun _ => ?_) (fun _ => ?_)
              · refine FR_ck (lo4 t.1 h_v0) ?_
                refine FR_ck (ln4_4 t.1 h_v0) ?_
                refine FR_nmR (w := (v0 + 10)) (lr4_4 t.1 h_v0) ?_
                refine FR_ckI (okA_iff t.1 (ar4_4 h_v0)) (fun q409 => ?_)
                refine FR_it (fun _ => ?_) (fun _ => ?_)
                · refine FR_ck (ln4_5 t.1 h_v0) ?_
                  refine FR_nmR (w := (v0 + 11)) (lr4_5 t.1 h_v0) ?_
                  refine FR_ckI (okA_iff t.1 (ar4_5 h_v0)) (fun q411 => ?_)
                  refine FR_ckI Iff.rfl (fun q412 => ?_)
                  refine FR_nmS (To_pI t (by omega)) (fun σ332 t => ?_)
                  refine FR_ck (lo4 t.1 h_v0) ?_
                  refine FR_ck (ln4_2 t.1 h_v0) ?_
                  refine FR_nmR (w := (v0 + 5)) (lr4_2 t.1 h_v0) ?_
                  refine FR_ck (ln4_3 t.1 h_v0) ?_
                  refine FR_nmR (w := (v0 + 9)) (lr4_3 t.1 h_v0) ?_
                  refine FR_ckI (okA_iff t.1 (ar4_3 h_v0)) (fun q416 => ?_)
                  refine FR_ck (lo7 t.1) ?_
                  refine FR_ck (ln7_2 t.1) ?_
                  refine FR_nmR (w := 8) (lr7_2 t.1) ?_
                  refine FR_ckI (okA_iff t.1 (by decide : Ar 18 4 8)) (fun q419 => ?_)
                  refine FR_ck (lne18 t.1 (ixl q419)) ?_
                  have q421 := ixl q419
                  refine FR_nmR (w := (x207.toNatClampNeg + 9)) (lre18 t.1 q421) ?_
                  refine FR_ck (ln7_3 t.1) ?_
                  refine FR_nmR (w := 13) (lr7_3 t.1) ?_
                  refine FR_ckI (okA_iff t.1 (by decide : Ar 13 4 13)) (fun q423 => ?_)
                  refine FR_ck (lo6 t.1 (o4_2 h_v0)) ?_
                  refine FR_bp (k_f_X7_divide t (o4_2 h_v0) (by omega) (e18 q421)) (fun σ350 t => ?_)
                  exact FR_some t
                · exact FR_some t
              · refine FR_it (fun _ => ?_) (fun _ => ?_)
                · refine FR_ck (lo4 t.1 h_v0) ?_
                  refine FR_ck (ln4_2 t.1 h_v0) ?_
                  refine FR_nmR (w := (v0 + 5)) (lr4_2 t.1 h_v0) ?_
                  refine FR_ck (lo6 t.1 (o4_2 h_v0)) ?_
                  refine FR_ck (ln6_0 t.1 (o4_2 h_v0)) ?_
                  refine FR_nmR (w := (v0 + 6)) (lr6_0 t.1 (o4_2 h_v0)) ?_
                  refine FR_ckI (okA_iff t.1 (ar6_0 (o4_2 h_v0))) (fun q429 => ?_)
                  refine FR_bd (k_f_X5_becomeWhole t h_v0 (by omega)) (fun x361 σ360 t => ?_)
                  exact FR_some t
                · refine FR_it (fun _ => ?_) (fun _ => ?_)
                  · refine FR_ck (lo4 t.1 h_v0) ?_
                    refine FR_bd (k_f_X5_carry t h_v0 (by omega)) (fun x366 σ365 t => ?_)
                    exact FR_some t
                  · refine FR_it (fun _ => ?_) (fun _ => ?_)
                    · refine FR_ck (lo4 t.1 h_v0) ?_
                      refine FR_bd (k_f_X5_cap t h_v0 (by omega)) (fun x371 σ370 t => ?_)
                      exact FR_some t
                    · refine FR_it (fun _ => ?_) (fun _ => ?_)
                      · refine FR_ck (lo4 t.1 h_v0) ?_
                        refine FR_bd (k_f_X5_book t h_v0 (by omega)) (fun x376 σ375 t => ?_)
                        exact FR_some t
                      · refine FR_it (fun _ => ?_) (fun _ => ?_)
                        · refine FR_ck (lo4 t.1 h_v0) ?_
                          refine FR_ck (ln4_3 t.1 h_v0) ?_
                          refine FR_nmR (w := (v0 + 9)) (lr4_3 t.1 h_v0) ?_
                          refine FR_ckI (okA_iff t.1 (ar4_3 h_v0)) (fun q435 => ?_)
                          refine FR_ck (ln4_4 t.1 h_v0) ?_
                          refine FR_nmR (w := (v0 + 10)) (lr4_4 t.1 h_v0) ?_
                          refine FR_ckI (okA_iff t.1 (ar4_4 h_v0)) (fun q437 => ?_)
                          refine FR_nmP (fun x386 => ?_)
                          refine FR_bd (k_f_X5_becomeWhole t h_v0 (by omega)) (fun x389 σ388 t => ?_)
                          exact FR_some t
                        · refine FR_ck (lo7 t.1) ?_
                          refine FR_ck (ln7_0 t.1) ?_
                          refine FR_nmR (w := 6) (lr7_0 t.1) ?_
                          refine FR_ckI (okA_iff t.1 (by decide : Ar 13 8 6)) (fun q440 => ?_)
                          refine FR_ck (ln7_1 t.1) ?_
                          refine FR_nmR (w := 7) (lr7_1 t.1) ?_
                          refine FR_ckI (okA_iff t.1 (by decide : Ar 13 8 7)) (fun q442 => ?_)
                          refine FR_ck (lo4 t.1 h_v0) ?_
                          refine FR_bd (k_f_X5_passDays t h_v0 (by omega)) (fun x400 σ399 t => ?_)
                          exact FR_some t
def d_X5_perform_28 (n : Nat) (v0 : Nat) (v3 : Int32) (v4 : Int32) (σ : Sg) : Option (Int32 × Sg) :=
  nm (pI σ v0 9 v3) fun σ24 =>
  some (v4, σ24)
theorem k_b_X5_perform_28 {lo hi : Nat} {σ0 : Sg} {n : Nat} {v0 : Nat} {v3 : Int32} {v4 : Int32} {σ : Sg} (t : To lo hi σ0 σ) (h_v0 : O4 v0) (w_v0 : lo ≤ v0 ∧ v0 + 13 ≤ hi) : FR (fun q => To lo hi σ0 q.2) (b_X5_perform_28 n v0 v3 v4 σ) (d_X5_perform_28 n v0 v3 v4 σ) := by
  unfold b_X5_perform_28 d_X5_perform_28
  refine FR_ck (lo4 t.1 h_v0) ?_
  refine FR_nmS (To_pI t (by omega)) (fun σ24 t => ?_)
  exact FR_some t
def d_X5_perform_6 : Nat → Nat → Nat → Int32 → Sg → Option (Int32 × Sg)
  | 0, _, _, _, _ => none
  | n + 1, v0, v1, v3, σ =>
  if (gI σ v1 4) ≤ v3 then (
    some ((0 : Int32), σ))
  else (
    bd (c_X5_step n v0 v1 v3 σ) fun x20 σ19 =>
    if x20 = 0 then (
      nm (v3 + (1 : Int32)) fun x22 =>
      d_X5_perform_6 n v0 v1 x22 σ19)
    else (
      d_X5_perform_28 n v0 v3 x20 σ19))
theorem k_b_X5_perform_6 {lo hi : Nat} {σ0 : Sg} : ∀ {n : Nat} {v0 : Nat} {v1 : Nat} {v3 : Int32} {σ : Sg}, To lo hi σ0 σ → O4 v0 → lo ≤ v0 ∧ v0 + 13 ≤ hi → O5 v1 → FR (fun q => To lo hi σ0 q.2) (b_X5_perform_6 n v0 v1 5 v3 σ) (d_X5_perform_6 n v0 v1 v3 σ) := by
  intro n
  induction n with
  | zero => intro v0 v1 v3 σ t h_v0 w_v0 h_v1; exact FR_none
  | succ n ih =>
    intro v0 v1 v3 σ t h_v0 w_v0 h_v1
    unfold b_X5_perform_6 d_X5_perform_6
    refine FR_ck (lo5 t.1 h_v1) ?_
    refine FR_it (fun _ => ?_) (fun _ => ?_)
    · exact FR_some t
    · refine FR_ck (lo4 t.1 h_v0) ?_
      refine FR_bd (k_f_X5_step t h_v0 (by omega) h_v1) (fun x20 σ19 t => ?_)
      refine FR_it (fun _ => ?_) (fun _ => ?_)
      · refine FR_nm (fun x22 => ?_)
        exact ih t h_v0 (by omega) h_v1
      · exact k_b_X5_perform_28 t h_v0 (by omega)
def c_X5_perform (n : Nat) (v0 : Nat) (v1 : Nat) (σ : Sg) : Option (Int32 × Sg) :=
  bp (c_X5_wipe n v0 σ) fun σ14 =>
  d_X5_perform_6 n v0 v1 (0 : Int32) σ14
theorem k_f_X5_perform {lo hi : Nat} {σ0 : Sg} {n : Nat} {v0 : Nat} {v1 : Nat} {σ : Sg} (t : To lo hi σ0 σ) (h_v0 : O4 v0) (w_v0 : lo ≤ v0 ∧ v0 + 13 ≤ hi) (h_v1 : O5 v1) : FR (fun q => To lo hi σ0 q.2) (f_X5_perform n v0 v1 5 σ) (c_X5_perform n v0 v1 σ) := by
  unfold f_X5_perform c_X5_perform
  refine FR_ck (lo4 t.1 h_v0) ?_
  refine FR_bp (k_f_X5_wipe t h_v0 (by omega)) (fun σ14 t => ?_)
  exact k_b_X5_perform_6 t h_v0 (by omega) h_v1
def c_X6_reset (v0 : Nat) (σ : Sg) : Option Sg :=
  nm (pI σ v0 4 (0 : Int32)) fun σ8 =>
  nm (pJ σ8 v0 5 (0 : Int64)) fun σ10 =>
  nm (pJ σ10 v0 6 (1 : Int64)) fun σ12 =>
  some σ12
theorem k_f_X6_reset {lo hi : Nat} {σ0 : Sg} {v0 : Nat} {σ : Sg} (t : To lo hi σ0 σ) (h_v0 : O5 v0) (w_v0 : lo ≤ v0 ∧ v0 + 5 ≤ hi) : FR (fun q => To lo hi σ0 q) (f_X6_reset v0 σ) (c_X6_reset v0 σ) := by
  unfold f_X6_reset c_X6_reset
  refine FR_ck (lo5 t.1 h_v0) ?_
  refine FR_nmS (To_pI t (by omega)) (fun σ8 t => ?_)
  refine FR_ck (lo5 t.1 h_v0) ?_
  refine FR_nmS (To_pJ t (by omega)) (fun σ10 t => ?_)
  refine FR_ck (lo5 t.1 h_v0) ?_
  refine FR_nmS (To_pJ t (by omega)) (fun σ12 t => ?_)
  exact FR_some t
def d_X6_hasActsOf_15 : Nat → Nat → Nat → Int32 → Sg → Option Int32
  | 0, _, _, _, _ => none
  | n + 1, v0, v1, v2, σ =>
  if (gI σ v0 4) ≤ v2 then (
    some (1 : Int32))
  else (
    ck (ix v2 20) <|
    ck (ix v2 20) <|
    if (gI σ (v0 + 1) v2.toNatClampNeg) = (gI σ (v1 + 1) v2.toNatClampNeg) then (
      ck (ix v2 20) <|
      ck (ix v2 20) <|
      if (gI σ (v0 + 2) v2.toNatClampNeg) = (gI σ (v1 + 2) v2.toNatClampNeg) then (
        ck (ix v2 20) <|
        ck (ix v2 20) <|
        if (gI σ (v0 + 3) v2.toNatClampNeg) = (gI σ (v1 + 3) v2.toNatClampNeg) then (
          ck (ix v2 20) <|
          ck (ix v2 20) <|
          if (gI σ (v0 + 4) v2.toNatClampNeg) = (gI σ (v1 + 4) v2.toNatClampNeg) then (
            nm (v2 + (1 : Int32)) fun x71 =>
            d_X6_hasActsOf_15 n v0 v1 x71 σ)
          else (
            some (0 : Int32)))
        else (
          some (0 : Int32)))
      else (
        some (0 : Int32)))
    else (
      some (0 : Int32)))
theorem k_b_X6_hasActsOf_15 {lo hi : Nat} {σ0 : Sg} : ∀ {n : Nat} {v0 : Nat} {v1 : Nat} {v2 : Int32} {σ : Sg}, To lo hi σ0 σ → O5 v0 → O5 v1 → FR (fun _ => True) (b_X6_hasActsOf_15 n v0 v1 v2 σ) (d_X6_hasActsOf_15 n v0 v1 v2 σ) := by
  intro n
  induction n with
  | zero => intro v0 v1 v2 σ t h_v0 h_v1; exact FR_none
  | succ n ih =>
    intro v0 v1 v2 σ t h_v0 h_v1
    unfold b_X6_hasActsOf_15 d_X6_hasActsOf_15
    refine FR_ck (lo5 t.1 h_v0) ?_
    refine FR_it (fun _ => ?_) (fun _ => ?_)
    · exact FR_some trivial
    · refine FR_ck (ln5_0 t.1 h_v0) ?_
      refine FR_nmR (w := (v0 + 1)) (lr5_0 t.1 h_v0) ?_
      refine FR_ckI (okA_iff t.1 (ar5_0 h_v0)) (fun q453 => ?_)
      refine FR_ck (lo5 t.1 h_v1) ?_
      refine FR_ck (ln5_0 t.1 h_v1) ?_
      refine FR_nmR (w := (v1 + 1)) (lr5_0 t.1 h_v1) ?_
      refine FR_ckI (okA_iff t.1 (ar5_0 h_v1)) (fun q456 => ?_)
      refine FR_it (fun _ => ?_) (fun _ => ?_)
      · refine FR_ck (ln5_1 t.1 h_v0) ?_
        refine FR_nmR (w := (v0 + 2)) (lr5_1 t.1 h_v0) ?_
        refine FR_ckI (okA_iff t.1 (ar5_1 h_v0)) (fun q458 => ?_)
        refine FR_ck (ln5_1 t.1 h_v1) ?_
        refine FR_nmR (w := (v1 + 2)) (lr5_1 t.1 h_v1) ?_
        refine FR_ckI (okA_iff t.1 (ar5_1 h_v1)) (fun q460 => ?_)
        refine FR_it (fun _ => ?_) (fun _ => ?_)
        · refine FR_ck (ln5_2 t.1 h_v0) ?_
          refine FR_nmR (w := (v0 + 3)) (lr5_2 t.1 h_v0) ?_
          refine FR_ckI (okA_iff t.1 (ar5_2 h_v0)) (fun q462 => ?_)
          refine FR_ck (ln5_2 t.1 h_v1) ?_
          refine FR_nmR (w := (v1 + 3)) (lr5_2 t.1 h_v1) ?_
          refine FR_ckI (okA_iff t.1 (ar5_2 h_v1)) (fun q464 => ?_)
          refine FR_it (fun _ => ?_) (fun _ => ?_)
          · refine FR_ck (ln5_3 t.1 h_v0) ?_
            refine FR_nmR (w := (v0 + 4)) (lr5_3 t.1 h_v0) ?_
            refine FR_ckI (okA_iff t.1 (ar5_3 h_v0)) (fun q466 => ?_)
            refine FR_ck (ln5_3 t.1 h_v1) ?_
            refine FR_nmR (w := (v1 + 4)) (lr5_3 t.1 h_v1) ?_
            refine FR_ckI (okA_iff t.1 (ar5_3 h_v1)) (fun q468 => ?_)
            refine FR_it (fun _ => ?_) (fun _ => ?_)
            · refine FR_nm (fun x71 => ?_)
              exact ih t h_v0 h_v1
            · exact FR_some trivial
          · exact FR_some trivial
        · exact FR_some trivial
      · exact FR_some trivial
def c_X6_hasActsOf (n : Nat) (v0 : Nat) (v1 : Nat) (σ : Sg) : Option Int32 :=
  if (gI σ v0 4) = (gI σ v1 4) then (
    d_X6_hasActsOf_15 n v0 v1 (0 : Int32) σ)
  else (
    some (0 : Int32))
theorem k_f_X6_hasActsOf {lo hi : Nat} {σ0 : Sg} {n : Nat} {v0 : Nat} {v1 : Nat} {σ : Sg} (t : To lo hi σ0 σ) (h_v0 : O5 v0) (h_v1 : O5 v1) : FR (fun _ => True) (f_X6_hasActsOf n v0 v1 σ) (c_X6_hasActsOf n v0 v1 σ) := by
  unfold f_X6_hasActsOf c_X6_hasActsOf
  refine FR_ck (lo5 t.1 h_v0) ?_
  refine FR_ck (lo5 t.1 h_v1) ?_
  refine FR_it (fun _ => ?_) (fun _ => ?_)
  · exact k_b_X6_hasActsOf_15 t h_v0 h_v1
  · exact FR_some trivial
def c_X6_choices (v0 : Nat) (v1 : Int32) (σ : Sg) : Option Int32 :=
  ck (ix v1 20) <|
  if (gI σ (v0 + 1) v1.toNatClampNeg) = 1 then (
    some (6 : Int32))
  else (
    if (gI σ (v0 + 1) v1.toNatClampNeg) = 2 then (
      some (6 : Int32))
    else (
      if (gI σ (v0 + 1) v1.toNatClampNeg) = 3 then (
        some (0 : Int32))
      else (
        if (gI σ (v0 + 1) v1.toNatClampNeg) = 4 then (
          some (6 : Int32))
        else (
          if (gI σ (v0 + 1) v1.toNatClampNeg) = 5 then (
            some (0 : Int32))
          else (
            if (gI σ (v0 + 1) v1.toNatClampNeg) = 6 then (
              some (4 : Int32))
            else (
              if (gI σ (v0 + 1) v1.toNatClampNeg) = 7 then (
                some (0 : Int32))
              else (
                if (gI σ (v0 + 1) v1.toNatClampNeg) = 8 then (
                  some (0 : Int32))
                else (
                  if (gI σ (v0 + 1) v1.toNatClampNeg) = 9 then (
                    some (0 : Int32))
                  else (
                    if (gI σ (v0 + 1) v1.toNatClampNeg) = 10 then (
                      some (0 : Int32))
                    else (
                      if (gI σ (v0 + 1) v1.toNatClampNeg) = 11 then (
                        some (6 : Int32))
                      else (
                        some (0 : Int32))))))))))))
theorem k_f_X6_choices {lo hi : Nat} {σ0 : Sg} {v0 : Nat} {v1 : Int32} {σ : Sg} (t : To lo hi σ0 σ) (h_v0 : O5 v0) : FR (fun _ => True) (f_X6_choices v0 v1 σ) (c_X6_choices v0 v1 σ) := by
  unfold f_X6_choices c_X6_choices
  refine FR_ck (lo5 t.1 h_v0) ?_
  refine FR_ck (ln5_0 t.1 h_v0) ?_
  refine FR_nmR (w := (v0 + 1)) (lr5_0 t.1 h_v0) ?_
  refine FR_ckI (okA_iff t.1 (ar5_0 h_v0)) (fun q473 => ?_)
  refine FR_it (fun _ => ?_) (fun _ => ?_)
  · exact FR_some trivial
  · refine FR_it (fun _ => ?_) (fun _ => ?_)
    · exact FR_some trivial
    · refine FR_it (fun _ => ?_) (fun _ => ?_)
      · exact FR_some trivial
      · refine FR_it (fun _ => ?_) (fun _ => ?_)
        · exact FR_some trivial
        · refine FR_it (fun _ => ?_) (fun _ => ?_)
          · exact FR_some trivial
          · refine FR_it (fun _ => ?_) (fun _ => ?_)
            · exact FR_some trivial
            · refine FR_it (fun _ => ?_) (fun _ => ?_)
              · exact FR_some trivial
              · refine FR_it (fun _ => ?_) (fun _ => ?_)
                · exact FR_some trivial
                · refine FR_it (fun _ => ?_) (fun _ => ?_)
                  · exact FR_some trivial
                  · refine FR_it (fun _ => ?_) (fun _ => ?_)
                    · exact FR_some trivial
                    · refine FR_it (fun _ => ?_) (fun _ => ?_)
                      · exact FR_some trivial
                      · exact FR_some trivial
def c_X6_choosesByT (v0 : Nat) (v1 : Int32) (σ : Sg) : Option Int32 :=
  ck (ix v1 20) <|
  if (gI σ (v0 + 1) v1.toNatClampNeg) = (4 : Int32) then (
    some (1 : Int32))
  else (
    ck (ix v1 20) <|
    if (gI σ (v0 + 1) v1.toNatClampNeg) = (6 : Int32) then (
      some (1 : Int32))
    else (
      some (0 : Int32)))
theorem k_f_X6_choosesByT {lo hi : Nat} {σ0 : Sg} {v0 : Nat} {v1 : Int32} {σ : Sg} (t : To lo hi σ0 σ) (h_v0 : O5 v0) : FR (fun _ => True) (f_X6_choosesByT v0 v1 σ) (c_X6_choosesByT v0 v1 σ) := by
  unfold f_X6_choosesByT c_X6_choosesByT
  refine FR_ck (lo5 t.1 h_v0) ?_
  refine FR_ck (ln5_0 t.1 h_v0) ?_
  refine FR_nmR (w := (v0 + 1)) (lr5_0 t.1 h_v0) ?_
  refine FR_ckI (okA_iff t.1 (ar5_0 h_v0)) (fun q476 => ?_)
  refine FR_it (fun _ => ?_) (fun _ => ?_)
  · exact FR_some trivial
  · refine FR_nmR (w := (v0 + 1)) (lr5_0 t.1 h_v0) ?_
    refine FR_ckI (okA_iff t.1 (ar5_0 h_v0)) (fun q477 => ?_)
    refine FR_it (fun _ => ?_) (fun _ => ?_)
    · exact FR_some trivial
    · exact FR_some trivial
def c_X6_choice (v0 : Nat) (v1 : Int32) (σ : Sg) : Option Int32 :=
  bp (c_X6_choosesByT v0 v1 σ) fun x14 =>
  if x14 = 0 then (
    ck (ix v1 20) <|
    some (gI σ (v0 + 4) v1.toNatClampNeg))
  else (
    ck (ix v1 20) <|
    some (gI σ (v0 + 3) v1.toNatClampNeg))
theorem k_f_X6_choice {lo hi : Nat} {σ0 : Sg} {v0 : Nat} {v1 : Int32} {σ : Sg} (t : To lo hi σ0 σ) (h_v0 : O5 v0) : FR (fun _ => True) (f_X6_choice v0 v1 σ) (c_X6_choice v0 v1 σ) := by
  unfold f_X6_choice c_X6_choice
  refine FR_ck (lo5 t.1 h_v0) ?_
  refine FR_bpP (k_f_X6_choosesByT t h_v0).1 (fun x14 => ?_)
  refine FR_it (fun _ => ?_) (fun _ => ?_)
  · refine FR_ck (ln5_3 t.1 h_v0) ?_
    refine FR_nmR (w := (v0 + 4)) (lr5_3 t.1 h_v0) ?_
    refine FR_ckI (okA_iff t.1 (ar5_3 h_v0)) (fun q480 => ?_)
    exact FR_some trivial
  · refine FR_ck (ln5_2 t.1 h_v0) ?_
    refine FR_nmR (w := (v0 + 3)) (lr5_2 t.1 h_v0) ?_
    refine FR_ckI (okA_iff t.1 (ar5_2 h_v0)) (fun q482 => ?_)
    exact FR_some trivial
def c_X6_choose (v0 : Nat) (v1 : Int32) (v2 : Int32) (σ : Sg) : Option Sg :=
  bp (c_X6_choosesByT v0 v1 σ) fun x16 =>
  if x16 = 0 then (
    ck (ix v1 20) <|
    nm (pI σ (v0 + 4) v1.toNatClampNeg v2) fun σ21 =>
    some σ21)
  else (
    ck (ix v1 20) <|
    nm (pI σ (v0 + 3) v1.toNatClampNeg v2) fun σ25 =>
    some σ25)
theorem k_f_X6_choose {lo hi : Nat} {σ0 : Sg} {v0 : Nat} {v1 : Int32} {v2 : Int32} {σ : Sg} (t : To lo hi σ0 σ) (h_v0 : O5 v0) (w_v0 : lo ≤ v0 ∧ v0 + 5 ≤ hi) : FR (fun q => To lo hi σ0 q) (f_X6_choose v0 v1 v2 σ) (c_X6_choose v0 v1 v2 σ) := by
  unfold f_X6_choose c_X6_choose
  refine FR_ck (lo5 t.1 h_v0) ?_
  refine FR_bpP (k_f_X6_choosesByT t h_v0).1 (fun x16 => ?_)
  refine FR_it (fun _ => ?_) (fun _ => ?_)
  · refine FR_ck (ln5_3 t.1 h_v0) ?_
    refine FR_nmR (w := (v0 + 4)) (lr5_3 t.1 h_v0) ?_
    refine FR_ckI (okW_iff t.1 (ar5_3 h_v0)) (fun q485 => ?_)
    refine FR_nmS (To_pI t (by omega)) (fun σ21 t => ?_)
    exact FR_some t
  · refine FR_ck (ln5_2 t.1 h_v0) ?_
    refine FR_nmR (w := (v0 + 3)) (lr5_2 t.1 h_v0) ?_
    refine FR_ckI (okW_iff t.1 (ar5_2 h_v0)) (fun q487 => ?_)
    refine FR_nmS (To_pI t (by omega)) (fun σ25 t => ?_)
    exact FR_some t
def d_X7_strays_2 : Nat → Nat → Int32 → Sg → Option Int32
  | 0, _, _, _ => none
  | n + 1, v0, v1, σ =>
  if (gI σ v0 4) ≤ v1 then (
    some (0 : Int32))
  else (
    ck (ix v1 8) <|
    ck (ix v1 8) <|
    nm (((gJ σ (v0 + 1) v1.toNatClampNeg) * (gJ σ v0 5)) - ((gJ σ v0 6) * ((gI σ (v0 + 2) v1.toNatClampNeg).toInt64))) fun x20 =>
    if (gJ σ v0 5) ≤ x20 then (
      some (1 : Int32))
    else (
      if (-(gJ σ v0 5)) < x20 then (
        nm (v1 + (1 : Int32)) fun x23 =>
        d_X7_strays_2 n v0 x23 σ)
      else (
        some (1 : Int32))))
theorem k_b_X7_strays_2 {lo hi : Nat} {σ0 : Sg} : ∀ {n : Nat} {v0 : Nat} {v1 : Int32} {σ : Sg}, To lo hi σ0 σ → O6 v0 → FR (fun _ => True) (b_X7_strays_2 n v0 v1 σ) (d_X7_strays_2 n v0 v1 σ) := by
  intro n
  induction n with
  | zero => intro v0 v1 σ t h_v0; exact FR_none
  | succ n ih =>
    intro v0 v1 σ t h_v0
    unfold b_X7_strays_2 d_X7_strays_2
    refine FR_ck (lo6 t.1 h_v0) ?_
    refine FR_it (fun _ => ?_) (fun _ => ?_)
    · exact FR_some trivial
    · refine FR_ck (ln6_0 t.1 h_v0) ?_
      refine FR_nmR (w := (v0 + 1)) (lr6_0 t.1 h_v0) ?_
      refine FR_ckI (okA_iff t.1 (ar6_0 h_v0)) (fun q490 => ?_)
      refine FR_ck (ln6_2 t.1 h_v0) ?_
      refine FR_nmR (w := (v0 + 2)) (lr6_2 t.1 h_v0) ?_
      refine FR_ckI (okA_iff t.1 (ar6_2 h_v0)) (fun q492 => ?_)
      refine FR_nm (fun x20 => ?_)
      refine FR_it (fun _ => ?_) (fun _ => ?_)
      · exact FR_some trivial
      · refine FR_it (fun _ => ?_) (fun _ => ?_)
        · refine FR_nm (fun x23 => ?_)
          exact ih t h_v0
        · exact FR_some trivial
def c_X7_strays (n : Nat) (v0 : Nat) (σ : Sg) : Option Int32 :=
  d_X7_strays_2 n v0 (0 : Int32) σ
theorem k_f_X7_strays {lo hi : Nat} {σ0 : Sg} {n : Nat} {v0 : Nat} {σ : Sg} (t : To lo hi σ0 σ) (h_v0 : O6 v0) : FR (fun _ => True) (f_X7_strays n v0 σ) (c_X7_strays n v0 σ) := by
  unfold f_X7_strays c_X7_strays
  exact k_b_X7_strays_2 t h_v0
def d_X8_reset_30 : Nat → Int32 → Sg → Option Sg
  | 0, _, _ => none
  | n + 1, v1, σ =>
  if (4 : Int32) ≤ v1 then (
    some σ)
  else (
    ck (ix v1 4) <|
    ck (ix (0 : Int32) 8) <|
    nm (pI σ (v1.toNatClampNeg + 9) (0 : Int32).toNatClampNeg (1 : Int32)) fun σ43 =>
    ck (ix v1 4) <|
    ck (ix (1 : Int32) 8) <|
    nm (pI σ43 (v1.toNatClampNeg + 9) (1 : Int32).toNatClampNeg (1 : Int32)) fun σ51 =>
    ck (ix v1 4) <|
    nm (pI σ51 13 v1.toNatClampNeg (2 : Int32)) fun σ56 =>
    nm (v1 + (1 : Int32)) fun x57 =>
    d_X8_reset_30 n x57 σ56)
theorem k_b_X8_reset_30 {lo hi : Nat} {σ0 : Sg} : ∀ {n : Nat} {v1 : Int32} {σ : Sg}, To lo hi σ0 σ → lo ≤ 5 ∧ 14 ≤ hi → FR (fun q => To lo hi σ0 q) (b_X8_reset_30 n 5 v1 σ) (d_X8_reset_30 n v1 σ) := by
  intro n
  induction n with
  | zero => intro v1 σ t w_v0; exact FR_none
  | succ n ih =>
    intro v1 σ t w_v0
    unfold b_X8_reset_30 d_X8_reset_30
    refine FR_it (fun _ => ?_) (fun _ => ?_)
    · exact FR_some t
    · refine FR_ck (lo7 t.1) ?_
      refine FR_ck (ln7_2 t.1) ?_
      refine FR_nmR (w := 8) (lr7_2 t.1) ?_
      refine FR_ckI (okA_iff t.1 (by decide : Ar 18 4 8)) (fun q495 => ?_)
      refine FR_ck (lne18 t.1 (ixl q495)) ?_
      have q497 := ixl q495
      refine FR_nmR (w := (v1.toNatClampNeg + 9)) (lre18 t.1 q497) ?_
      refine FR_ckI (okW_iff t.1 (e18 q497)) (fun q498 => ?_)
      refine FR_nmS (To_pI t (by omega)) (fun σ43 t => ?_)
      refine FR_ck (lo7 t.1) ?_
      refine FR_ck (ln7_2 t.1) ?_
      refine FR_nmR (w := 8) (lr7_2 t.1) ?_
      refine FR_ckI (okA_iff t.1 (by decide : Ar 18 4 8)) (fun q501 => ?_)
      refine FR_ck (lne18 t.1 (ixl q501)) ?_
      have q503 := ixl q501
      refine FR_nmR (w := (v1.toNatClampNeg + 9)) (lre18 t.1 q503) ?_
      refine FR_ckI (okW_iff t.1 (e18 q503)) (fun q504 => ?_)
      refine FR_nmS (To_pI t (by omega)) (fun σ51 t => ?_)
      refine FR_ck (lo7 t.1) ?_
      refine FR_ck (ln7_3 t.1) ?_
      refine FR_nmR (w := 13) (lr7_3 t.1) ?_
      refine FR_ckI (okW_iff t.1 (by decide : Ar 13 4 13)) (fun q507 => ?_)
      refine FR_nmS (To_pI t (by omega)) (fun σ56 t => ?_)
      refine FR_nm (fun x57 => ?_)
      exact ih t (by omega)
def d_X8_reset_28 (n : Nat) (σ : Sg) : Option Sg :=
  d_X8_reset_30 n (0 : Int32) σ
theorem k_b_X8_reset_28 {lo hi : Nat} {σ0 : Sg} {n : Nat} {σ : Sg} (t : To lo hi σ0 σ) (w_v0 : lo ≤ 5 ∧ 14 ≤ hi) : FR (fun q => To lo hi σ0 q) (b_X8_reset_28 n 5 σ) (d_X8_reset_28 n σ) := by
  unfold b_X8_reset_28 d_X8_reset_28
  exact k_b_X8_reset_30 t (by omega)
def d_X8_reset_2 : Nat → Int32 → Sg → Option Sg
  | 0, _, _ => none
  | n + 1, v1, σ =>
  if (8 : Int32) ≤ v1 then (
    d_X8_reset_28 n σ)
  else (
    ck (ix v1 8) <|
    nm (pI σ 6 v1.toNatClampNeg (0 : Int32)) fun σ62 =>
    ck (ix v1 8) <|
    nm (pI σ62 7 v1.toNatClampNeg (1 : Int32)) fun σ67 =>
    nm (v1 + (1 : Int32)) fun x68 =>
    d_X8_reset_2 n x68 σ67)
theorem k_b_X8_reset_2 {lo hi : Nat} {σ0 : Sg} : ∀ {n : Nat} {v1 : Int32} {σ : Sg}, To lo hi σ0 σ → lo ≤ 5 ∧ 14 ≤ hi → FR (fun q => To lo hi σ0 q) (b_X8_reset_2 n 5 v1 σ) (d_X8_reset_2 n v1 σ) := by
  intro n
  induction n with
  | zero => intro v1 σ t w_v0; exact FR_none
  | succ n ih =>
    intro v1 σ t w_v0
    unfold b_X8_reset_2 d_X8_reset_2
    refine FR_it (fun _ => ?_) (fun _ => ?_)
    · exact k_b_X8_reset_28 t (by omega)
    · refine FR_ck (lo7 t.1) ?_
      refine FR_ck (ln7_0 t.1) ?_
      refine FR_nmR (w := 6) (lr7_0 t.1) ?_
      refine FR_ckI (okW_iff t.1 (by decide : Ar 13 8 6)) (fun q510 => ?_)
      refine FR_nmS (To_pI t (by omega)) (fun σ62 t => ?_)
      refine FR_ck (lo7 t.1) ?_
      refine FR_ck (ln7_1 t.1) ?_
      refine FR_nmR (w := 7) (lr7_1 t.1) ?_
      refine FR_ckI (okW_iff t.1 (by decide : Ar 13 8 7)) (fun q513 => ?_)
      refine FR_nmS (To_pI t (by omega)) (fun σ67 t => ?_)
      refine FR_nm (fun x68 => ?_)
      exact ih t (by omega)
def c_X8_reset (n : Nat) (σ : Sg) : Option Sg :=
  d_X8_reset_2 n (0 : Int32) σ
theorem k_f_X8_reset {lo hi : Nat} {σ0 : Sg} {n : Nat} {σ : Sg} (t : To lo hi σ0 σ) (w_v0 : lo ≤ 5 ∧ 14 ≤ hi) : FR (fun q => To lo hi σ0 q) (f_X8_reset n 5 σ) (c_X8_reset n σ) := by
  unfold f_X8_reset c_X8_reset
  exact k_b_X8_reset_2 t (by omega)
def d_X9_holdRow_12 : Nat → Nat → Int32 → Sg → Option Sg
  | 0, _, _, _ => none
  | n + 1, v0, v3, σ =>
  if (gI σ v0 6) ≤ v3 then (
    some σ)
  else (
    ck (ix v3 64) <|
    nm (pJ σ (v0 + 1) v3.toNatClampNeg (0 : Int64)) fun σ21 =>
    nm (v3 + (1 : Int32)) fun x22 =>
    d_X9_holdRow_12 n v0 x22 σ21)
theorem k_b_X9_holdRow_12 {lo hi : Nat} {σ0 : Sg} : ∀ {n : Nat} {v0 : Nat} {v3 : Int32} {σ : Sg}, To lo hi σ0 σ → O8 v0 → lo ≤ v0 ∧ v0 + 6 ≤ hi → FR (fun q => To lo hi σ0 q) (b_X9_holdRow_12 n v0 v3 σ) (d_X9_holdRow_12 n v0 v3 σ) := by
  intro n
  induction n with
  | zero => intro v0 v3 σ t h_v0 w_v0; exact FR_none
  | succ n ih =>
    intro v0 v3 σ t h_v0 w_v0
    unfold b_X9_holdRow_12 d_X9_holdRow_12
    refine FR_ck (lo8 t.1 h_v0) ?_
    refine FR_it (fun _ => ?_) (fun _ => ?_)
    · exact FR_some t
    · refine FR_ck (ln8_1 t.1 h_v0) ?_
      refine FR_nmR (w := (v0 + 1)) (lr8_1 t.1 h_v0) ?_
      refine FR_ckI (okW_iff t.1 (ar8_1 h_v0)) (fun q516 => ?_)
      refine FR_nmS (To_pJ t (by omega)) (fun σ21 t => ?_)
      refine FR_nm (fun x22 => ?_)
      exact ih t h_v0 (by omega)
def c_X9_holdRow (n : Nat) (v0 : Nat) (v1 : Int32) (v2 : Int32) (σ : Sg) : Option Sg :=
  nm (pI σ v0 0 v1) fun σ13 =>
  nm (pI σ13 v0 6 v2) fun σ15 =>
  d_X9_holdRow_12 n v0 (0 : Int32) σ15
theorem k_f_X9_holdRow {lo hi : Nat} {σ0 : Sg} {n : Nat} {v0 : Nat} {v1 : Int32} {v2 : Int32} {σ : Sg} (t : To lo hi σ0 σ) (h_v0 : O8 v0) (w_v0 : lo ≤ v0 ∧ v0 + 6 ≤ hi) : FR (fun q => To lo hi σ0 q) (f_X9_holdRow n v0 v1 v2 σ) (c_X9_holdRow n v0 v1 v2 σ) := by
  unfold f_X9_holdRow c_X9_holdRow
  refine FR_ck (lo8 t.1 h_v0) ?_
  refine FR_nmS (To_pI t (by omega)) (fun σ13 t => ?_)
  refine FR_ck (lo8 t.1 h_v0) ?_
  refine FR_nmS (To_pI t (by omega)) (fun σ15 t => ?_)
  exact k_b_X9_holdRow_12 t h_v0 (by omega)
def d_X9_isRow_19 (σ : Sg) : Option Int32 :=
  some (0 : Int32)
theorem k_b_X9_isRow_19 {lo hi : Nat} {σ0 : Sg} {σ : Sg} (t : To lo hi σ0 σ) : FR (fun _ => True) (b_X9_isRow_19 σ) (d_X9_isRow_19 σ) := by
  unfold b_X9_isRow_19 d_X9_isRow_19
  exact FR_some trivial
def c_X9_isRow (v0 : Nat) (σ : Sg) : Option Int32 :=
  if (gI σ v0 0) = 0 then (
    d_X9_isRow_19 σ)
  else (
    if (gI σ v0 0) = (5 : Int32) then (
      d_X9_isRow_19 σ)
    else (
      some (1 : Int32)))
theorem k_f_X9_isRow {lo hi : Nat} {σ0 : Sg} {v0 : Nat} {σ : Sg} (t : To lo hi σ0 σ) (h_v0 : O8 v0) : FR (fun _ => True) (f_X9_isRow v0 σ) (c_X9_isRow v0 σ) := by
  unfold f_X9_isRow c_X9_isRow
  refine FR_ck (lo8 t.1 h_v0) ?_
  refine FR_it (fun _ => ?_) (fun _ => ?_)
  · exact k_b_X9_isRow_19 t
  · refine FR_it (fun _ => ?_) (fun _ => ?_)
    · exact k_b_X9_isRow_19 t
    · exact FR_some trivial
def d_X9_hasPlaces_30 (σ : Sg) : Option Int32 :=
  some (0 : Int32)
theorem k_b_X9_hasPlaces_30 {lo hi : Nat} {σ0 : Sg} {σ : Sg} (t : To lo hi σ0 σ) : FR (fun _ => True) (b_X9_hasPlaces_30 σ) (d_X9_hasPlaces_30 σ) := by
  unfold b_X9_hasPlaces_30 d_X9_hasPlaces_30
  exact FR_some trivial
def c_X9_hasPlaces (v0 : Nat) (v1 : Int32) (v2 : Int32) (σ : Sg) : Option Int32 :=
  if v1 < 0 then (
    d_X9_hasPlaces_30 σ)
  else (
    if v2 < 0 then (
      d_X9_hasPlaces_30 σ)
    else (
      if (gI σ v0 6) < v2 then (
        d_X9_hasPlaces_30 σ)
      else (
        if ((gI σ v0 6) - v2) < v1 then (
          d_X9_hasPlaces_30 σ)
        else (
          some (1 : Int32)))))
theorem k_f_X9_hasPlaces {lo hi : Nat} {σ0 : Sg} {v0 : Nat} {v1 : Int32} {v2 : Int32} {σ : Sg} (t : To lo hi σ0 σ) (h_v0 : O8 v0) : FR (fun _ => True) (f_X9_hasPlaces v0 v1 v2 σ) (c_X9_hasPlaces v0 v1 v2 σ) := by
  unfold f_X9_hasPlaces c_X9_hasPlaces
  refine FR_it (fun _ => ?_) (fun _ => ?_)
  · exact k_b_X9_hasPlaces_30 t
  · refine FR_it (fun _ => ?_) (fun _ => ?_)
    · exact k_b_X9_hasPlaces_30 t
    · refine FR_ck (lo8 t.1 h_v0) ?_
      refine FR_it (fun _ => ?_) (fun _ => ?_)
      · exact k_b_X9_hasPlaces_30 t
      · refine FR_it (fun _ => ?_) (fun _ => ?_)
        · exact k_b_X9_hasPlaces_30 t
        · exact FR_some trivial
def c_X9_narrowed (v0 : Nat) (v1 : Int64) (σ : Sg) : Option Int64 :=
  if (gI σ v0 0) = 1 then (
    some (((v1.toInt32).toInt8.toInt32).toInt64))
  else (
    if (gI σ v0 0) = 2 then (
      some (((v1.toInt32).toInt16.toInt32).toInt64))
    else (
      if (gI σ v0 0) = 3 then (
        some ((v1.toInt32).toInt64))
      else (
        some v1)))
theorem k_f_X9_narrowed {lo hi : Nat} {σ0 : Sg} {v0 : Nat} {v1 : Int64} {σ : Sg} (t : To lo hi σ0 σ) (h_v0 : O8 v0) : FR (fun _ => True) (f_X9_narrowed v0 v1 σ) (c_X9_narrowed v0 v1 σ) := by
  unfold f_X9_narrowed c_X9_narrowed
  refine FR_ck (lo8 t.1 h_v0) ?_
  refine FR_it (fun _ => ?_) (fun _ => ?_)
  · exact FR_some trivial
  · refine FR_it (fun _ => ?_) (fun _ => ?_)
    · exact FR_some trivial
    · refine FR_it (fun _ => ?_) (fun _ => ?_)
      · exact FR_some trivial
      · exact FR_some trivial
def d_X10_differs_34 (n : Nat) (σ : Sg) : Option Int32 :=
  some (0 : Int32)
theorem k_b_X10_differs_34 {lo hi : Nat} {σ0 : Sg} {n : Nat} {σ : Sg} (t : To lo hi σ0 σ) : FR (fun _ => True) (b_X10_differs_34 n σ) (d_X10_differs_34 n σ) := by
  unfold b_X10_differs_34 d_X10_differs_34
  exact FR_some trivial
def c_X10_differs (n : Nat) (v1 : Int32) (v2 : Int32) (v3 : Int32) (σ : Sg) : Option Int32 :=
  if v1 = v2 then (
    if v1 = 0 then (
      d_X10_differs_34 n σ)
    else (
      bp (c_X4_matches n 37 50 v3 σ) fun x30 =>
      if x30 = 0 then (
        some (1 : Int32))
      else (
        d_X10_differs_34 n σ)))
  else (
    some (1 : Int32))
theorem k_f_X10_differs {lo hi : Nat} {σ0 : Sg} {n : Nat} {v1 : Int32} {v2 : Int32} {v3 : Int32} {σ : Sg} (t : To lo hi σ0 σ) : FR (fun _ => True) (f_X10_differs n 33 v1 v2 v3 σ) (c_X10_differs n v1 v2 v3 σ) := by
  unfold f_X10_differs c_X10_differs
  refine FR_it (fun _ => ?_) (fun _ => ?_)
  · refine FR_it (fun _ => ?_) (fun _ => ?_)
    · exact k_b_X10_differs_34 t
    · refine FR_ck (lo9 t.1) ?_
      refine FR_ck (ln9_0 t.1) ?_
      refine FR_nmR (w := 34) (lr9_0 t.1) ?_
      refine FR_ck (lo4 t.1 (by decide)) ?_
      refine FR_ck (ln4_1 t.1 (by decide)) ?_
      refine FR_nmR (w := 37) (lr4_1 t.1 (by decide)) ?_
      refine FR_ck (ln9_1 t.1) ?_
      refine FR_nmR (w := 47) (lr9_1 t.1) ?_
      refine FR_ck (lo4 t.1 (by decide)) ?_
      refine FR_ck (ln4_1 t.1 (by decide)) ?_
      refine FR_nmR (w := 50) (lr4_1 t.1 (by decide)) ?_
      refine FR_ck (lo3 t.1 (by decide)) ?_
      refine FR_bpP (k_f_X4_matches t (by decide) (by decide)).1 (fun x30 => ?_)
      refine FR_it (fun _ => ?_) (fun _ => ?_)
      · exact FR_some trivial
      · exact k_b_X10_differs_34 t
  · exact FR_some trivial
def d_X10_breaks_104 (n : Nat) (σ : Sg) : Option (Int32 × Sg) :=
  some ((0 : Int32), σ)
theorem k_b_X10_breaks_104 {lo hi : Nat} {σ0 : Sg} {n : Nat} {σ : Sg} (t : To lo hi σ0 σ) : FR (fun q => To lo hi σ0 q.2) (b_X10_breaks_104 n σ) (d_X10_breaks_104 n σ) := by
  unfold b_X10_breaks_104 d_X10_breaks_104
  exact FR_some t
def d_X10_breaks_168 (n : Nat) (s0 : Int32) (s1 : Int32) (s2 : Int32) (σ : Sg) : Option (Int32 × Sg) :=
  bp (c_X10_differs n s2 s1 s0 σ) fun x163 =>
  ck (x163 = 0 ∨ x163 = 1) <|
  some (x163, σ)
theorem k_b_X10_breaks_168 {lo hi : Nat} {σ0 : Sg} {n : Nat} {s0 : Int32} {s1 : Int32} {s2 : Int32} {σ : Sg} (t : To lo hi σ0 σ) : FR (fun q => To lo hi σ0 q.2) (b_X10_breaks_168 n s0 s1 s2 33 σ) (d_X10_breaks_168 n s0 s1 s2 σ) := by
  unfold b_X10_breaks_168 d_X10_breaks_168
  refine FR_ck (lo9 t.1) ?_
  refine FR_bpP (k_f_X10_differs t).1 (fun x163 => ?_)
  refine FR_ckI Iff.rfl (fun q531 => ?_)
  exact FR_some t
def d_X10_breaks_157 (n : Nat) (v4 : Int32) (s0 : Int32) (s1 : Int32) (σ : Sg) : Option (Int32 × Sg) :=
  if v4 = (1 : Int32) then (
    d_X10_breaks_168 n (-1 : Int32) s0 s1 σ)
  else (
    d_X10_breaks_168 n (1 : Int32) s0 s1 σ)
theorem k_b_X10_breaks_157 {lo hi : Nat} {σ0 : Sg} {n : Nat} {v4 : Int32} {s0 : Int32} {s1 : Int32} {σ : Sg} (t : To lo hi σ0 σ) : FR (fun q => To lo hi σ0 q.2) (b_X10_breaks_157 n v4 s0 s1 33 σ) (d_X10_breaks_157 n v4 s0 s1 σ) := by
  unfold b_X10_breaks_157 d_X10_breaks_157
  refine FR_it (fun _ => ?_) (fun _ => ?_)
  · exact k_b_X10_breaks_168 t
  · exact k_b_X10_breaks_168 t
def d_X10_breaks_127 (n : Nat) (v3 : Nat) (v4 : Int32) (v6 : Int32) (s0 : Int32) (s1 : Nat) (σ : Sg) : Option (Int32 × Sg) :=
  bp (c_X0_becomeOneLine s1 s0 σ) fun σ145 =>
  bp (c_X5_startAfresh n 47 σ145) fun σ151 =>
  bd (c_X5_perform n 47 v3 σ151) fun x158 σ157 =>
  if x158 = 0 then (
    d_X10_breaks_157 n v4 (1 : Int32) v6 σ157)
  else (
    d_X10_breaks_157 n v4 (0 : Int32) v6 σ157)
theorem k_b_X10_breaks_127 {lo hi : Nat} {σ0 : Sg} {n : Nat} {v3 : Nat} {v4 : Int32} {v6 : Int32} {s0 : Int32} {s1 : Nat} {σ : Sg} (t : To lo hi σ0 σ) (w_v0 : lo ≤ 33 ∧ 69 ≤ hi) (h_v3 : O5 v3) (h_s1 : O0 s1) (w_s1 : lo ≤ s1 ∧ s1 + 2 ≤ hi) : FR (fun q => To lo hi σ0 q.2) (b_X10_breaks_127 n 33 5 v3 v4 v6 s0 s1 σ) (d_X10_breaks_127 n v3 v4 v6 s0 s1 σ) := by
  unfold b_X10_breaks_127 d_X10_breaks_127
  refine FR_ck (lo0 t.1 h_s1) ?_
  refine FR_bp (k_f_X0_becomeOneLine t h_s1 (by omega)) (fun σ145 t => ?_)
  refine FR_ck (lo9 t.1) ?_
  refine FR_ck (ln9_1 t.1) ?_
  refine FR_nmR (w := 47) (lr9_1 t.1) ?_
  refine FR_ck (lo4 t.1 (by decide)) ?_
  refine FR_bp (k_f_X5_startAfresh t (by decide) (by omega)) (fun σ151 t => ?_)
  refine FR_ck (lo9 t.1) ?_
  refine FR_ck (ln9_1 t.1) ?_
  refine FR_nmR (w := 47) (lr9_1 t.1) ?_
  refine FR_ck (lo4 t.1 (by decide)) ?_
  refine FR_bd (k_f_X5_perform t (by decide) (by omega) h_v3) (fun x158 σ157 t => ?_)
  refine FR_it (fun _ => ?_) (fun _ => ?_)
  · exact k_b_X10_breaks_157 t
  · exact k_b_X10_breaks_157 t
def d_X10_breaks_207 (n : Nat) (σ : Sg) : Option (Int32 × Sg) :=
  some ((0 : Int32), σ)
theorem k_b_X10_breaks_207 {lo hi : Nat} {σ0 : Sg} {n : Nat} {σ : Sg} (t : To lo hi σ0 σ) : FR (fun q => To lo hi σ0 q.2) (b_X10_breaks_207 n σ) (d_X10_breaks_207 n σ) := by
  unfold b_X10_breaks_207 d_X10_breaks_207
  exact FR_some t
def d_X10_breaks_242 (n : Nat) (σ : Sg) : Option (Int32 × Sg) :=
  some ((0 : Int32), σ)
theorem k_b_X10_breaks_242 {lo hi : Nat} {σ0 : Sg} {n : Nat} {σ : Sg} (t : To lo hi σ0 σ) : FR (fun q => To lo hi σ0 q.2) (b_X10_breaks_242 n σ) (d_X10_breaks_242 n σ) := by
  unfold b_X10_breaks_242 d_X10_breaks_242
  exact FR_some t
def d_X10_breaks_36 (n : Nat) (v2 : Nat) (v3 : Nat) (v4 : Int32) (v5 : Int32) (s0 : Int32) (σ : Sg) : Option (Int32 × Sg) :=
  if v4 = 0 then (
    if s0 = 0 then (
      d_X10_breaks_104 n σ)
    else (
      bp (c_X4_total n 37 σ) fun x133 =>
      if x133 = (0 : Int64) then (
        d_X10_breaks_104 n σ)
      else (
        some ((1 : Int32), σ))))
  else (
    if v4 = 1 then (
      if v4 = (1 : Int32) then (
        d_X10_breaks_127 n v3 v4 s0 (-v5) 48 σ)
      else (
        d_X10_breaks_127 n v3 v4 s0 v5 48 σ))
    else (
      if v4 = 2 then (
        if v4 = (1 : Int32) then (
          d_X10_breaks_127 n v3 v4 s0 (-v5) 48 σ)
        else (
          d_X10_breaks_127 n v3 v4 s0 v5 48 σ))
      else (
        if v4 = 3 then (
          if s0 = 0 then (
            d_X10_breaks_207 n σ)
          else (
            if (gI σ 39 1) = 0 then (
              d_X10_breaks_207 n σ)
            else (
              bp (c_X7_strays n 39 σ) fun x189 =>
              if x189 = 0 then (
                d_X10_breaks_207 n σ)
              else (
                some ((1 : Int32), σ)))))
        else (
          if v4 = 4 then (
            if s0 = 0 then (
              some ((1 : Int32), σ))
            else (
              some ((0 : Int32), σ)))
          else (
            if v4 = 5 then (
              if s0 = 0 then (
                d_X10_breaks_242 n σ)
              else (
                if (gI σ 37 1) ≤ 0 then (
                  d_X10_breaks_242 n σ)
                else (
                  some ((1 : Int32), σ))))
            else (
              if s0 = 0 then (
                some ((0 : Int32), σ))
              else (
                bp (c_X2_perform n v2 v5 σ) fun σ209 =>
                bp (c_X4_matches n 37 61 (1 : Int32) σ209) fun x223 =>
                if x223 = 0 then (
                  some ((1 : Int32), σ209))
                else (
                  some ((0 : Int32), σ209)))))))))
theorem k_b_X10_breaks_36 {lo hi : Nat} {σ0 : Sg} {n : Nat} {v2 : Nat} {v3 : Nat} {v4 : Int32} {v5 : Int32} {s0 : Int32} {σ : Sg} (t : To lo hi σ0 σ) (w_v0 : lo ≤ 33 ∧ 69 ≤ hi) (h_v2 : O5 v2) (h_v3 : O5 v3) : FR (fun q => To lo hi σ0 q.2) (b_X10_breaks_36 n 33 5 v2 v3 v4 v5 s0 σ) (d_X10_breaks_36 n v2 v3 v4 v5 s0 σ) := by
  unfold b_X10_breaks_36 d_X10_breaks_36
  refine FR_it (fun _ => ?_) (fun _ => ?_)
  · refine FR_it (fun _ => ?_) (fun _ => ?_)
    · exact k_b_X10_breaks_104 t
    · refine FR_ck (lo9 t.1) ?_
      refine FR_ck (ln9_0 t.1) ?_
      refine FR_nmR (w := 34) (lr9_0 t.1) ?_
      refine FR_ck (lo4 t.1 (by decide)) ?_
      refine FR_ck (ln4_1 t.1 (by decide)) ?_
      refine FR_nmR (w := 37) (lr4_1 t.1 (by decide)) ?_
      refine FR_ck (lo3 t.1 (by decide)) ?_
      refine FR_bpP (k_f_X4_total t (by decide)).1 (fun x133 => ?_)
      refine FR_it (fun _ => ?_) (fun _ => ?_)
      · exact k_b_X10_breaks_104 t
      · exact FR_some t
  · refine FR_it (fun _ => ?_) (fun _ => ?_)
    · refine FR_ck (lo9 t.1) ?_
      refine FR_ck (ln9_1 t.1) ?_
      refine FR_nmR (w := 47) (lr9_1 t.1) ?_
      refine FR_ck (lo4 t.1 (by decide)) ?_
      refine FR_ck (ln4_0 t.1 (by decide)) ?_
      refine FR_nmR (w := 48) (lr4_0 t.1 (by decide)) ?_
      refine FR_it (fun _ => ?_) (fun _ => ?_)
      · exact k_b_X10_breaks_127 t (by omega) h_v3 (by decide) (by omega)
      · exact k_b_X10_breaks_127 t (by omega) h_v3 (by decide) (by omega)
    · refine FR_it (fun _ => ?_) (fun _ => ?_)
      · refine FR_ck (lo9 t.1) ?_
        refine FR_ck (ln9_1 t.1) ?_
        refine FR_nmR (w := 47) (lr9_1 t.1) ?_
        refine FR_ck (lo4 t.1 (by decide)) ?_
        refine FR_ck (ln4_0 t.1 (by decide)) ?_
        refine FR_nmR (w := 48) (lr4_0 t.1 (by decide)) ?_
        refine FR_it (fun _ => ?_) (fun _ => ?_)
        · exact k_b_X10_breaks_127 t (by omega) h_v3 (by decide) (by omega)
        · exact k_b_X10_breaks_127 t (by omega) h_v3 (by decide) (by omega)
      · refine FR_it (fun _ => ?_) (fun _ => ?_)
        · refine FR_it (fun _ => ?_) (fun _ => ?_)
          · exact k_b_X10_breaks_207 t
          · refine FR_ck (lo9 t.1) ?_
            refine FR_ck (ln9_0 t.1) ?_
            refine FR_nmR (w := 34) (lr9_0 t.1) ?_
            refine FR_ck (lo4 t.1 (by decide)) ?_
            refine FR_ck (ln4_2 t.1 (by decide)) ?_
            refine FR_nmR (w := 39) (lr4_2 t.1 (by decide)) ?_
            refine FR_ck (lo6 t.1 (by decide)) ?_
            refine FR_it (fun _ => ?_) (fun _ => ?_)
            · exact k_b_X10_breaks_207 t
            · refine FR_nmR (w := 34) (lr9_0 t.1) ?_
              refine FR_ck (lo4 t.1 (by decide)) ?_
              refine FR_ck (ln4_2 t.1 (by decide)) ?_
              refine FR_nmR (w := 39) (lr4_2 t.1 (by decide)) ?_
              refine FR_ck (lo6 t.1 (by decide)) ?_
              refine FR_bpP (k_f_X7_strays t (by decide)).1 (fun x189 => ?_)
              refine FR_it (fun _ => ?_) (fun _ => ?_)
              · exact k_b_X10_breaks_207 t
              · exact FR_some t
        · refine FR_it (fun _ => ?_) (fun _ => ?_)
          · refine FR_it (fun _ => ?_) (fun _ => ?_)
            · exact FR_some t
            · exact FR_some t
          · refine FR_it (fun _ => ?_) (fun _ => ?_)
            · refine FR_it (fun _ => ?_) (fun _ => ?_)
              · exact k_b_X10_breaks_242 t
              · refine FR_ck (lo9 t.1) ?_
                refine FR_ck (ln9_0 t.1) ?_
                refine FR_nmR (w := 34) (lr9_0 t.1) ?_
                refine FR_ck (lo4 t.1 (by decide)) ?_
                refine FR_ck (ln4_1 t.1 (by decide)) ?_
                refine FR_nmR (w := 37) (lr4_1 t.1 (by decide)) ?_
                refine FR_ck (lo3 t.1 (by decide)) ?_
                refine FR_it (fun _ => ?_) (fun _ => ?_)
                · exact k_b_X10_breaks_242 t
                · exact FR_some t
            · refine FR_it (fun _ => ?_) (fun _ => ?_)
              · exact FR_some t
              · refine FR_ck (lo9 t.1) ?_
                refine FR_ck (ln9_2 t.1) ?_
                refine FR_nmR (w := 60) (lr9_2 t.1) ?_
                refine FR_ck (lo2 t.1) ?_
                refine FR_bp (k_f_X2_perform t (by omega) h_v2) (fun σ209 t => ?_)
                refine FR_ck (lo9 t.1) ?_
                refine FR_ck (ln9_0 t.1) ?_
                refine FR_nmR (w := 34) (lr9_0 t.1) ?_
                refine FR_ck (lo4 t.1 (by decide)) ?_
                refine FR_ck (ln4_1 t.1 (by decide)) ?_
                refine FR_nmR (w := 37) (lr4_1 t.1 (by decide)) ?_
                refine FR_ck (ln9_2 t.1) ?_
                refine FR_nmR (w := 60) (lr9_2 t.1) ?_
                refine FR_ck (lo2 t.1) ?_
                refine FR_ck (ln2_0 t.1) ?_
                refine FR_nmR (w := 61) (lr2_0 t.1) ?_
                refine FR_ck (lo3 t.1 (by decide)) ?_
                refine FR_bpP (k_f_X4_matches t (by decide) (by decide)).1 (fun x223 => ?_)
                refine FR_it (fun _ => ?_) (fun _ => ?_)
                · exact FR_some t
                · exact FR_some t
