def c_X12_told (v1 : Int32) (v2 : Int32) (v3 : Int32) (σ : Sg) : Option Int32 :=
  bp (c_X12_isAct v1 v2 σ) fun x23 =>
  if x23 = 0 then (
    some (-1 : Int32))
  else (
    nm (((20 : Int32) * v1) + v2) fun x25 =>
    if v3 = 0 then (
      ck (ix x25 80) <|
      some (gI σ 137 x25.toNatClampNeg))
    else (
      if v3 = (1 : Int32) then (
        ck (ix x25 80) <|
        some (gI σ 138 x25.toNatClampNeg))
      else (
        if v3 = (2 : Int32) then (
          ck (ix x25 80) <|
          some (gI σ 139 x25.toNatClampNeg))
        else (
          if v3 = (3 : Int32) then (
            ck (ix x25 80) <|
            some (gI σ 140 x25.toNatClampNeg))
          else (
            some (-1 : Int32))))))
theorem k_f_X12_told {lo hi : Nat} {σ0 : Sg} {v1 : Int32} {v2 : Int32} {v3 : Int32} {σ : Sg} (t : To lo hi σ0 σ) : FR (fun _ => True) (f_X12_told 130 v1 v2 v3 σ) (c_X12_told v1 v2 v3 σ) := by
  unfold f_X12_told c_X12_told
  refine FR_ck (lo11 t.1) ?_
  refine FR_bpP (k_f_X12_isAct t).1 (fun x23 => ?_)
  refine FR_it (fun _ => ?_) (fun _ => ?_)
  · exact FR_some trivial
  · refine FR_nm (fun x25 => ?_)
    refine FR_it (fun _ => ?_) (fun _ => ?_)
    · refine FR_ck (ln11_9 t.1) ?_
      refine FR_nmR (w := 137) (lr11_9 t.1) ?_
      refine FR_ckI (okA_iff t.1 (by decide : Ar 13 80 137)) (fun q1221 => ?_)
      exact FR_some trivial
    · refine FR_it (fun _ => ?_) (fun _ => ?_)
      · refine FR_ck (ln11_10 t.1) ?_
        refine FR_nmR (w := 138) (lr11_10 t.1) ?_
        refine FR_ckI (okA_iff t.1 (by decide : Ar 13 80 138)) (fun q1223 => ?_)
        exact FR_some trivial
      · refine FR_it (fun _ => ?_) (fun _ => ?_)
        · refine FR_ck (ln11_11 t.1) ?_
          refine FR_nmR (w := 139) (lr11_11 t.1) ?_
          refine FR_ckI (okA_iff t.1 (by decide : Ar 13 80 139)) (fun q1225 => ?_)
          exact FR_some trivial
        · refine FR_it (fun _ => ?_) (fun _ => ?_)
          · refine FR_ck (ln11_12 t.1) ?_
            refine FR_nmR (w := 140) (lr11_12 t.1) ?_
            refine FR_ckI (okA_iff t.1 (by decide : Ar 13 80 140)) (fun q1227 => ?_)
            exact FR_some trivial
          · exact FR_some trivial
def d_X12_becomes_48 (n : Nat) (σ : Sg) : Option (Int32 × Sg) :=
  nm (pI σ 130 32 (-6 : Int32)) fun σ25 =>
  some ((0 : Int32), σ25)
theorem k_b_X12_becomes_48 {lo hi : Nat} {σ0 : Sg} {n : Nat} {σ : Sg} (t : To lo hi σ0 σ) (w_v0 : lo ≤ 130 ∧ 168 ≤ hi) : FR (fun q => To lo hi σ0 q.2) (b_X12_becomes_48 n 130 σ) (d_X12_becomes_48 n σ) := by
  unfold b_X12_becomes_48 d_X12_becomes_48
  refine FR_ck (lo11 t.1) ?_
  refine FR_nmS (To_pI t (by omega)) (fun σ25 t => ?_)
  exact FR_some t
def c_X12_becomes (n : Nat) (v1 : Int32) (v2 : Int64) (v4 : Int64) (σ : Sg) : Option (Int32 × Sg) :=
  bp (f_X12_common n v2 v4) fun x19 =>
  ck (¬ x19 = 0) <|
  nm (v2 / x19) fun x21 =>
  nm (v4 / x19) fun x22 =>
  if (1099511627776 : Int64) < x21 then (
    d_X12_becomes_48 n σ)
  else (
    if x21 < (-1099511627776 : Int64) then (
      d_X12_becomes_48 n σ)
    else (
      if x22 ≤ (1048576 : Int64) then (
        ck (ix (((8 : Int32) * (gI σ 130 16)) + v1) 16) <|
        nm (pJ σ 142 (((8 : Int32) * (gI σ 130 16)) + v1).toNatClampNeg x21) fun σ32 =>
        ck (ix (((8 : Int32) * (gI σ32 130 16)) + v1) 16) <|
        nm (pJ σ32 143 (((8 : Int32) * (gI σ32 130 16)) + v1).toNatClampNeg x22) fun σ37 =>
        some ((1 : Int32), σ37))
      else (
        d_X12_becomes_48 n σ)))
theorem k_f_X12_becomes {lo hi : Nat} {σ0 : Sg} {n : Nat} {v1 : Int32} {v2 : Int64} {v4 : Int64} {σ : Sg} (t : To lo hi σ0 σ) (w_v0 : lo ≤ 130 ∧ 168 ≤ hi) : FR (fun q => To lo hi σ0 q.2) (f_X12_becomes n 130 v1 v2 v4 σ) (c_X12_becomes n v1 v2 v4 σ) := by
  unfold f_X12_becomes c_X12_becomes
  refine FR_nmP (fun x19 => ?_)
  refine FR_ckI Iff.rfl (fun q1229 => ?_)
  refine FR_nm (fun x21 => ?_)
  refine FR_nm (fun x22 => ?_)
  refine FR_it (fun _ => ?_) (fun _ => ?_)
  · exact k_b_X12_becomes_48 t (by omega)
  · refine FR_it (fun _ => ?_) (fun _ => ?_)
    · exact k_b_X12_becomes_48 t (by omega)
    · refine FR_it (fun _ => ?_) (fun _ => ?_)
      · refine FR_ck (lo11 t.1) ?_
        refine FR_ck (ln11_19 t.1) ?_
        refine FR_nmR (w := 142) (lr11_19 t.1) ?_
        refine FR_ckI (okW_iff t.1 (by decide : Ar 14 16 142)) (fun q1232 => ?_)
        refine FR_nmS (To_pJ t (by omega)) (fun σ32 t => ?_)
        refine FR_ck (lo11 t.1) ?_
        refine FR_ck (ln11_20 t.1) ?_
        refine FR_nmR (w := 143) (lr11_20 t.1) ?_
        refine FR_ckI (okW_iff t.1 (by decide : Ar 14 16 143)) (fun q1235 => ?_)
        refine FR_nmS (To_pJ t (by omega)) (fun σ37 t => ?_)
        exact FR_some t
      · exact k_b_X12_becomes_48 t (by omega)
def c_X12_becomesWhole (n : Nat) (v1 : Int32) (v2 : Int64) (σ : Sg) : Option (Int32 × Sg) :=
  bd (c_X12_becomes n v1 v2 (1 : Int64) σ) fun x8 σ7 =>
  ck (x8 = 0 ∨ x8 = 1) <|
  some (x8, σ7)
theorem k_f_X12_becomesWhole {lo hi : Nat} {σ0 : Sg} {n : Nat} {v1 : Int32} {v2 : Int64} {σ : Sg} (t : To lo hi σ0 σ) (w_v0 : lo ≤ 130 ∧ 168 ≤ hi) : FR (fun q => To lo hi σ0 q.2) (f_X12_becomesWhole n 130 v1 v2 σ) (c_X12_becomesWhole n v1 v2 σ) := by
  unfold f_X12_becomesWhole c_X12_becomesWhole
  refine FR_ck (lo11 t.1) ?_
  refine FR_bd (k_f_X12_becomes t (by omega)) (fun x8 σ7 t => ?_)
  refine FR_ckI Iff.rfl (fun q1237 => ?_)
  exact FR_some t
def c_X12_plain (n : Nat) (v1 : Int32) (v2 : Int64) (σ : Sg) : Option Sg :=
  bd (c_X12_becomesWhole n v1 v2 σ) fun x13 σ12 =>
  if x13 = 0 then (
    some σ12)
  else (
    ck (ix (((8 : Int32) * (gI σ12 130 16)) + v1) 16) <|
    nm (pI σ12 149 (((8 : Int32) * (gI σ12 130 16)) + v1).toNatClampNeg (0 : Int32)) fun σ19 =>
    some σ19)
theorem k_f_X12_plain {lo hi : Nat} {σ0 : Sg} {n : Nat} {v1 : Int32} {v2 : Int64} {σ : Sg} (t : To lo hi σ0 σ) (w_v0 : lo ≤ 130 ∧ 168 ≤ hi) : FR (fun q => To lo hi σ0 q) (f_X12_plain n 130 v1 v2 σ) (c_X12_plain n v1 v2 σ) := by
  unfold f_X12_plain c_X12_plain
  refine FR_ck (lo11 t.1) ?_
  refine FR_bd (k_f_X12_becomesWhole t (by omega)) (fun x13 σ12 t => ?_)
  refine FR_it (fun _ => ?_) (fun _ => ?_)
  · exact FR_some t
  · refine FR_ck (lo11 t.1) ?_
    refine FR_ck (ln11_26 t.1) ?_
    refine FR_nmR (w := 149) (lr11_26 t.1) ?_
    refine FR_ckI (okW_iff t.1 (by decide : Ar 15 16 149)) (fun q1241 => ?_)
    refine FR_nmS (To_pI t (by omega)) (fun σ19 t => ?_)
    exact FR_some t
def d_X12_taxes_112 (n : Nat) (v1 : Int32) (v5 : Int64) (σ : Sg) : Option Sg :=
  bp (c_X12_plain n v1 v5 σ) fun σ35 =>
  some σ35
theorem k_b_X12_taxes_112 {lo hi : Nat} {σ0 : Sg} {n : Nat} {v1 : Int32} {v5 : Int64} {σ : Sg} (t : To lo hi σ0 σ) (w_v0 : lo ≤ 130 ∧ 168 ≤ hi) : FR (fun q => To lo hi σ0 q) (b_X12_taxes_112 n 130 v1 v5 σ) (d_X12_taxes_112 n v1 v5 σ) := by
  unfold b_X12_taxes_112 d_X12_taxes_112
  refine FR_ck (lo11 t.1) ?_
  refine FR_bp (k_f_X12_plain t (by omega)) (fun σ35 t => ?_)
  exact FR_some t
def d_X12_taxes_79 (k9 : Int64 → Int64 → Int32 → Sg → Option Sg) (n : Nat) (v1 : Int32) (v2 : Int32) (v3 : Int32) (v4 : Int32) (v5 : Int64) (v7 : Int64) (v9 : Int32) (s0 : Int64) (s1 : Int64) (σ : Sg) : Option Sg :=
  nm (s1 - s0) fun x50 =>
  ck (ix (((12 : Int32) * (gI σ 130 16)) + v9) 24) <|
  nm (pJ σ 145 (((12 : Int32) * (gI σ 130 16)) + v9).toNatClampNeg x50) fun σ55 =>
  nm (v5 + x50) fun x56 =>
  nm (v9 + (1 : Int32)) fun x57 =>
  k9 x56 v7 x57 σ55
theorem k_b_X12_taxes_79 {lo hi : Nat} {σ0 : Sg} {k9 k9c : Int64 → Int64 → Int32 → Sg → Option Sg} {n : Nat} {v1 : Int32} {v2 : Int32} {v3 : Int32} {v4 : Int32} {v5 : Int64} {v7 : Int64} {v9 : Int32} {s0 : Int64} {s1 : Int64} {σ : Sg} (h_k9 : ∀ (c0 : Int64) (c1 : Int64) (c2 : Int32) (τ : Sg), To lo hi σ0 τ → FR (fun q => To lo hi σ0 q) (k9 c0 c1 c2 τ) (k9c c0 c1 c2 τ)) (t : To lo hi σ0 σ) (w_v0 : lo ≤ 130 ∧ 168 ≤ hi) : FR (fun q => To lo hi σ0 q) (b_X12_taxes_79 k9 n 130 v1 v2 v3 v4 v5 v7 v9 s0 s1 σ) (d_X12_taxes_79 k9c n v1 v2 v3 v4 v5 v7 v9 s0 s1 σ) := by
  unfold b_X12_taxes_79 d_X12_taxes_79
  refine FR_nm (fun x50 => ?_)
  refine FR_ck (lo11 t.1) ?_
  refine FR_ck (ln11_22 t.1) ?_
  refine FR_nmR (w := 145) (lr11_22 t.1) ?_
  refine FR_ckI (okW_iff t.1 (by decide : Ar 14 24 145)) (fun q1245 => ?_)
  refine FR_nmS (To_pJ t (by omega)) (fun σ55 t => ?_)
  refine FR_nm (fun x56 => ?_)
  refine FR_nm (fun x57 => ?_)
  exact h_k9 _ _ _ _ t
def d_X12_taxes_45 (k9 : Int64 → Int64 → Int32 → Sg → Option Sg) (n : Nat) (v1 : Int32) (v2 : Int32) (v3 : Int32) (v4 : Int32) (v5 : Int64) (v9 : Int32) (s0 : Int64) (σ : Sg) : Option Sg :=
  ck (ix v2 8) <|
  ck (ix v2 8) <|
  bp (f_X12_times (s0 * ((gI σ 131 v2.toNatClampNeg).toInt64)) ((gI σ 132 v2.toNatClampNeg).toInt64) v3) fun x48 =>
  if v4 = 0 then (
    d_X12_taxes_79 k9 n v1 v2 v3 v4 v5 s0 v9 (0 : Int64) x48 σ)
  else (
    d_X12_taxes_79 k9 n v1 v2 v3 v4 v5 s0 v9 v5 x48 σ)
theorem k_b_X12_taxes_45 {lo hi : Nat} {σ0 : Sg} {k9 k9c : Int64 → Int64 → Int32 → Sg → Option Sg} {n : Nat} {v1 : Int32} {v2 : Int32} {v3 : Int32} {v4 : Int32} {v5 : Int64} {v9 : Int32} {s0 : Int64} {σ : Sg} (h_k9 : ∀ (c0 : Int64) (c1 : Int64) (c2 : Int32) (τ : Sg), To lo hi σ0 τ → FR (fun q => To lo hi σ0 q) (k9 c0 c1 c2 τ) (k9c c0 c1 c2 τ)) (t : To lo hi σ0 σ) (w_v0 : lo ≤ 130 ∧ 168 ≤ hi) : FR (fun q => To lo hi σ0 q) (b_X12_taxes_45 k9 n 130 v1 v2 v3 v4 v5 v9 s0 σ) (d_X12_taxes_45 k9c n v1 v2 v3 v4 v5 v9 s0 σ) := by
  unfold b_X12_taxes_45 d_X12_taxes_45
  refine FR_ck (lo11 t.1) ?_
  refine FR_ck (ln11_1 t.1) ?_
  refine FR_nmR (w := 131) (lr11_1 t.1) ?_
  refine FR_ckI (okA_iff t.1 (by decide : Ar 13 8 131)) (fun q1248 => ?_)
  refine FR_ck (ln11_2 t.1) ?_
  refine FR_nmR (w := 132) (lr11_2 t.1) ?_
  refine FR_ckI (okA_iff t.1 (by decide : Ar 13 8 132)) (fun q1250 => ?_)
  refine FR_nmP (fun x48 => ?_)
  refine FR_it (fun _ => ?_) (fun _ => ?_)
  · exact k_b_X12_taxes_79 h_k9 t (by omega)
  · exact k_b_X12_taxes_79 h_k9 t (by omega)
def d_X12_taxes_9 : Nat → Int32 → Int32 → Int32 → Int32 → Int64 → Int64 → Int32 → Sg → Option Sg
  | 0, _, _, _, _, _, _, _, _ => none
  | n + 1, v1, v2, v3, v4, v5, v7, v9, σ =>
  if (gI σ 130 17) ≤ v9 then (
    d_X12_taxes_112 n v1 v5 σ)
  else (
    if v4 = 0 then (
      ck (ix v9 12) <|
      d_X12_taxes_45 (fun c5 c7 c9 τ => d_X12_taxes_9 n v1 v2 v3 v4 c5 c7 c9 τ) n v1 v2 v3 v4 v5 v9 ((gI σ 141 v9.toNatClampNeg).toInt64) σ)
    else (
      ck (ix v9 12) <|
      d_X12_taxes_45 (fun c5 c7 c9 τ => d_X12_taxes_9 n v1 v2 v3 v4 c5 c7 c9 τ) n v1 v2 v3 v4 v5 v9 (v7 + ((gI σ 141 v9.toNatClampNeg).toInt64)) σ))
theorem k_b_X12_taxes_9 {lo hi : Nat} {σ0 : Sg} : ∀ {n : Nat} {v1 : Int32} {v2 : Int32} {v3 : Int32} {v4 : Int32} {v5 : Int64} {v7 : Int64} {v9 : Int32} {σ : Sg}, To lo hi σ0 σ → lo ≤ 130 ∧ 168 ≤ hi → FR (fun q => To lo hi σ0 q) (b_X12_taxes_9 n 130 v1 v2 v3 v4 v5 v7 v9 σ) (d_X12_taxes_9 n v1 v2 v3 v4 v5 v7 v9 σ) := by
  intro n
  induction n with
  | zero => intro v1 v2 v3 v4 v5 v7 v9 σ t w_v0; exact FR_none
  | succ n ih =>
    intro v1 v2 v3 v4 v5 v7 v9 σ t w_v0
    unfold b_X12_taxes_9 d_X12_taxes_9
    refine FR_ck (lo11 t.1) ?_
    refine FR_it (fun _ => ?_) (fun _ => ?_)
    · exact k_b_X12_taxes_112 t (by omega)
    · refine FR_it (fun _ => ?_) (fun _ => ?_)
      · refine FR_ck (ln11_18 t.1) ?_
        refine FR_nmR (w := 141) (lr11_18 t.1) ?_
        refine FR_ckI (okA_iff t.1 (by decide : Ar 13 12 141)) (fun q1253 => ?_)
        exact k_b_X12_taxes_45 (fun c5 c7 c9 τ t => ih t (by omega)) t (by omega)
      · refine FR_ck (ln11_18 t.1) ?_
        refine FR_nmR (w := 141) (lr11_18 t.1) ?_
        refine FR_ckI (okA_iff t.1 (by decide : Ar 13 12 141)) (fun q1255 => ?_)
        exact k_b_X12_taxes_45 (fun c5 c7 c9 τ t => ih t (by omega)) t (by omega)
def c_X12_taxes (n : Nat) (v1 : Int32) (v2 : Int32) (v3 : Int32) (v4 : Int32) (σ : Sg) : Option Sg :=
  d_X12_taxes_9 n v1 v2 v3 v4 (0 : Int64) (0 : Int64) (0 : Int32) σ
theorem k_f_X12_taxes {lo hi : Nat} {σ0 : Sg} {n : Nat} {v1 : Int32} {v2 : Int32} {v3 : Int32} {v4 : Int32} {σ : Sg} (t : To lo hi σ0 σ) (w_v0 : lo ≤ 130 ∧ 168 ≤ hi) : FR (fun q => To lo hi σ0 q) (f_X12_taxes n 130 v1 v2 v3 v4 σ) (c_X12_taxes n v1 v2 v3 v4 σ) := by
  unfold f_X12_taxes c_X12_taxes
  exact k_b_X12_taxes_9 t (by omega)
def d_X12_isEven_34 (n : Nat) (v2 : Int32) (σ : Sg) : Option Int32 :=
  if v2 = 0 then (
    some (1 : Int32))
  else (
    some (0 : Int32))
theorem k_b_X12_isEven_34 {lo hi : Nat} {σ0 : Sg} {n : Nat} {v2 : Int32} {σ : Sg} (t : To lo hi σ0 σ) : FR (fun _ => True) (b_X12_isEven_34 n v2 σ) (d_X12_isEven_34 n v2 σ) := by
  unfold b_X12_isEven_34 d_X12_isEven_34
  refine FR_it (fun _ => ?_) (fun _ => ?_)
  · exact FR_some trivial
  · exact FR_some trivial
def d_X12_isEven_4 : Nat → Int32 → Int32 → Int32 → Sg → Option Int32
  | 0, _, _, _, _ => none
  | n + 1, v1, v2, v3, σ =>
  ck (ix v1 4) <|
  if (gI σ 134 v1.toNatClampNeg) ≤ v3 then (
    d_X12_isEven_34 n v2 σ)
  else (
    ck (ix (((8 : Int32) * v1) + v3) 32) <|
    nm (v2 + (gI σ 135 (((8 : Int32) * v1) + v3).toNatClampNeg)) fun x20 =>
    nm (v3 + (1 : Int32)) fun x21 =>
    d_X12_isEven_4 n v1 x20 x21 σ)
theorem k_b_X12_isEven_4 {lo hi : Nat} {σ0 : Sg} : ∀ {n : Nat} {v1 : Int32} {v2 : Int32} {v3 : Int32} {σ : Sg}, To lo hi σ0 σ → FR (fun _ => True) (b_X12_isEven_4 n 130 v1 v2 v3 σ) (d_X12_isEven_4 n v1 v2 v3 σ) := by
  intro n
  induction n with
  | zero => intro v1 v2 v3 σ t; exact FR_none
  | succ n ih =>
    intro v1 v2 v3 σ t
    unfold b_X12_isEven_4 d_X12_isEven_4
    refine FR_ck (lo11 t.1) ?_
    refine FR_ck (ln11_5 t.1) ?_
    refine FR_nmR (w := 134) (lr11_5 t.1) ?_
    refine FR_ckI (okA_iff t.1 (by decide : Ar 13 4 134)) (fun q1258 => ?_)
    refine FR_it (fun _ => ?_) (fun _ => ?_)
    · exact k_b_X12_isEven_34 t
    · refine FR_ck (ln11_6 t.1) ?_
      refine FR_nmR (w := 135) (lr11_6 t.1) ?_
      refine FR_ckI (okA_iff t.1 (by decide : Ar 13 32 135)) (fun q1260 => ?_)
      refine FR_nm (fun x20 => ?_)
      refine FR_nm (fun x21 => ?_)
      exact ih t
def c_X12_isEven (n : Nat) (v1 : Int32) (σ : Sg) : Option Int32 :=
  d_X12_isEven_4 n v1 (0 : Int32) (0 : Int32) σ
theorem k_f_X12_isEven {lo hi : Nat} {σ0 : Sg} {n : Nat} {v1 : Int32} {σ : Sg} (t : To lo hi σ0 σ) : FR (fun _ => True) (f_X12_isEven n 130 v1 σ) (c_X12_isEven n v1 σ) := by
  unfold f_X12_isEven c_X12_isEven
  exact k_b_X12_isEven_4 t
def c_X12_weighed (n : Nat) (v1 : Int32) (v2 : Int32) (σ : Sg) : Option Int64 :=
  bp (c_X12_isEven n v1 σ) fun x10 =>
  if x10 = 0 then (
    ck (ix (((8 : Int32) * v1) + v2) 32) <|
    some ((gI σ 135 (((8 : Int32) * v1) + v2).toNatClampNeg).toInt64))
  else (
    some (1 : Int64))
theorem k_f_X12_weighed {lo hi : Nat} {σ0 : Sg} {n : Nat} {v1 : Int32} {v2 : Int32} {σ : Sg} (t : To lo hi σ0 σ) : FR (fun _ => True) (f_X12_weighed n 130 v1 v2 σ) (c_X12_weighed n v1 v2 σ) := by
  unfold f_X12_weighed c_X12_weighed
  refine FR_ck (lo11 t.1) ?_
  refine FR_bpP (k_f_X12_isEven t).1 (fun x10 => ?_)
  refine FR_it (fun _ => ?_) (fun _ => ?_)
  · refine FR_ck (ln11_6 t.1) ?_
    refine FR_nmR (w := 135) (lr11_6 t.1) ?_
    refine FR_ckI (okA_iff t.1 (by decide : Ar 13 32 135)) (fun q1263 => ?_)
    exact FR_some trivial
  · exact FR_some trivial
def c_X12_partsOf (n : Nat) (v1 : Int32) (σ : Sg) : Option Int32 :=
  bp (c_X12_isEven n v1 σ) fun x10 =>
  if x10 = 0 then (
    ck (ix v1 4) <|
    some (gI σ 134 v1.toNatClampNeg))
  else (
    some (2 : Int32))
theorem k_f_X12_partsOf {lo hi : Nat} {σ0 : Sg} {n : Nat} {v1 : Int32} {σ : Sg} (t : To lo hi σ0 σ) : FR (fun _ => True) (f_X12_partsOf n 130 v1 σ) (c_X12_partsOf n v1 σ) := by
  unfold f_X12_partsOf c_X12_partsOf
  refine FR_ck (lo11 t.1) ?_
  refine FR_bpP (k_f_X12_isEven t).1 (fun x10 => ?_)
  refine FR_it (fun _ => ?_) (fun _ => ?_)
  · refine FR_ck (ln11_5 t.1) ?_
    refine FR_nmR (w := 134) (lr11_5 t.1) ?_
    refine FR_ckI (okA_iff t.1 (by decide : Ar 13 4 134)) (fun q1266 => ?_)
    exact FR_some trivial
  · exact FR_some trivial
def d_X12_allWeights_5 : Nat → Int32 → Int64 → Int32 → Sg → Option Int64
  | 0, _, _, _, _ => none
  | n + 1, v1, v2, v4, σ =>
  bp (c_X12_partsOf n v1 σ) fun x11 =>
  if x11 ≤ v4 then (
    some v2)
  else (
    bp (c_X12_weighed n v1 v4 σ) fun x14 =>
    nm (v2 + x14) fun x15 =>
    nm (v4 + (1 : Int32)) fun x16 =>
    d_X12_allWeights_5 n v1 x15 x16 σ)
theorem k_b_X12_allWeights_5 {lo hi : Nat} {σ0 : Sg} : ∀ {n : Nat} {v1 : Int32} {v2 : Int64} {v4 : Int32} {σ : Sg}, To lo hi σ0 σ → FR (fun _ => True) (b_X12_allWeights_5 n 130 v1 v2 v4 σ) (d_X12_allWeights_5 n v1 v2 v4 σ) := by
  intro n
  induction n with
  | zero => intro v1 v2 v4 σ t; exact FR_none
  | succ n ih =>
    intro v1 v2 v4 σ t
    unfold b_X12_allWeights_5 d_X12_allWeights_5
    refine FR_ck (lo11 t.1) ?_
    refine FR_bpP (k_f_X12_partsOf t).1 (fun x11 => ?_)
    refine FR_it (fun _ => ?_) (fun _ => ?_)
    · exact FR_some trivial
    · refine FR_bpP (k_f_X12_weighed t).1 (fun x14 => ?_)
      refine FR_nm (fun x15 => ?_)
      refine FR_nm (fun x16 => ?_)
      exact ih t
def c_X12_allWeights (n : Nat) (v1 : Int32) (σ : Sg) : Option Int64 :=
  d_X12_allWeights_5 n v1 (0 : Int64) (0 : Int32) σ
theorem k_f_X12_allWeights {lo hi : Nat} {σ0 : Sg} {n : Nat} {v1 : Int32} {σ : Sg} (t : To lo hi σ0 σ) : FR (fun _ => True) (f_X12_allWeights n 130 v1 σ) (c_X12_allWeights n v1 σ) := by
  unfold f_X12_allWeights c_X12_allWeights
  exact k_b_X12_allWeights_5 t
def d_X12_splits_304 (k223 : Int64 → Sg → Option Sg) (n : Nat) (v1 : Int64) (v4 : Int32) (v5 : Int32) (v6 : Int64) (v8 : Int64) (v10 : Int32) (σ : Sg) : Option Sg :=
  ck (ix (((8 : Int32) * (gI σ 130 16)) + v10) 16) <|
  ck (ix (((8 : Int32) * (gI σ 130 16)) + v10) 16) <|
  nm (pJ σ 144 (((8 : Int32) * (gI σ 130 16)) + v10).toNatClampNeg ((gJ σ 144 (((8 : Int32) * (gI σ 130 16)) + v10).toNatClampNeg) + (1 : Int64))) fun σ68 =>
  nm (v8 - (1 : Int64)) fun x69 =>
  k223 x69 σ68
theorem k_b_X12_splits_304 {lo hi : Nat} {σ0 : Sg} {k223 k223c : Int64 → Sg → Option Sg} {n : Nat} {v1 : Int64} {v4 : Int32} {v5 : Int32} {v6 : Int64} {v8 : Int64} {v10 : Int32} {σ : Sg} (h_k223 : ∀ (c0 : Int64) (τ : Sg), To lo hi σ0 τ → FR (fun q => To lo hi σ0 q) (k223 c0 τ) (k223c c0 τ)) (t : To lo hi σ0 σ) (w_v0 : lo ≤ 130 ∧ 168 ≤ hi) : FR (fun q => To lo hi σ0 q) (b_X12_splits_304 k223 n 130 v1 v4 v5 v6 v8 v10 σ) (d_X12_splits_304 k223c n v1 v4 v5 v6 v8 v10 σ) := by
  unfold b_X12_splits_304 d_X12_splits_304
  refine FR_ck (lo11 t.1) ?_
  refine FR_ck (ln11_21 t.1) ?_
  refine FR_nmR (w := 144) (lr11_21 t.1) ?_
  refine FR_ckI (okA_iff t.1 (by decide : Ar 14 16 144)) (fun q1270 => ?_)
  refine FR_ckI (okW_iff t.1 (by decide : Ar 14 16 144)) (fun q1271 => ?_)
  refine FR_nmS (To_pJ t (by omega)) (fun σ68 t => ?_)
  refine FR_nm (fun x69 => ?_)
  exact h_k223 _ _ t
def d_X12_splits_298 (k223 : Int64 → Sg → Option Sg) (k239 : Int32 → Int64 → Int32 → Option Sg) (n : Nat) (v1 : Int64) (v4 : Int32) (v5 : Int32) (v6 : Int64) (v8 : Int64) (v10 : Int32) (v11 : Int64) (v13 : Int32) (σ : Sg) : Option Sg :=
  nm (v13 + (1 : Int32)) fun x78 =>
  k239 v10 v11 x78
theorem k_b_X12_splits_298 {lo hi : Nat} {σ0 : Sg} {k223 k223c : Int64 → Sg → Option Sg} {k239 k239c : Int32 → Int64 → Int32 → Option Sg} {n : Nat} {v1 : Int64} {v4 : Int32} {v5 : Int32} {v6 : Int64} {v8 : Int64} {v10 : Int32} {v11 : Int64} {v13 : Int32} {σ : Sg} (h_k223 : ∀ (c0 : Int64) (τ : Sg), To lo hi σ0 τ → FR (fun q => To lo hi σ0 q) (k223 c0 τ) (k223c c0 τ)) (h_k239 : ∀ (c0 : Int32) (c1 : Int64) (c2 : Int32), FR (fun q => To lo hi σ0 q) (k239 c0 c1 c2) (k239c c0 c1 c2)) (t : To lo hi σ0 σ) : FR (fun q => To lo hi σ0 q) (b_X12_splits_298 k223 k239 n 130 v1 v4 v5 v6 v8 v10 v11 v13 σ) (d_X12_splits_298 k223c k239c n v1 v4 v5 v6 v8 v10 v11 v13 σ) := by
  unfold b_X12_splits_298 d_X12_splits_298
  refine FR_nm (fun x78 => ?_)
  exact h_k239 _ _ _
def d_X12_splits_290 (k223 : Int64 → Sg → Option Sg) (k239 : Int32 → Int64 → Int32 → Option Sg) (n : Nat) (v1 : Int64) (v4 : Int32) (v5 : Int32) (v6 : Int64) (v8 : Int64) (v13 : Int32) (v14 : Int64) (σ : Sg) : Option Sg :=
  d_X12_splits_298 k223 k239 n v1 v4 v5 v6 v8 v13 v14 v13 σ
theorem k_b_X12_splits_290 {lo hi : Nat} {σ0 : Sg} {k223 k223c : Int64 → Sg → Option Sg} {k239 k239c : Int32 → Int64 → Int32 → Option Sg} {n : Nat} {v1 : Int64} {v4 : Int32} {v5 : Int32} {v6 : Int64} {v8 : Int64} {v13 : Int32} {v14 : Int64} {σ : Sg} (h_k223 : ∀ (c0 : Int64) (τ : Sg), To lo hi σ0 τ → FR (fun q => To lo hi σ0 q) (k223 c0 τ) (k223c c0 τ)) (h_k239 : ∀ (c0 : Int32) (c1 : Int64) (c2 : Int32), FR (fun q => To lo hi σ0 q) (k239 c0 c1 c2) (k239c c0 c1 c2)) (t : To lo hi σ0 σ) : FR (fun q => To lo hi σ0 q) (b_X12_splits_290 k223 k239 n 130 v1 v4 v5 v6 v8 v13 v14 σ) (d_X12_splits_290 k223c k239c n v1 v4 v5 v6 v8 v13 v14 σ) := by
  unfold b_X12_splits_290 d_X12_splits_290
  exact k_b_X12_splits_298 h_k223 h_k239 t
def d_X12_splits_239 (k223 : Int64 → Sg → Option Sg) : Nat → Int64 → Int32 → Int32 → Int64 → Int64 → Int32 → Int64 → Int32 → Sg → Option Sg
  | 0, _, _, _, _, _, _, _, _, _ => none
  | n + 1, v1, v4, v5, v6, v8, v10, v11, v13, σ =>
  if v5 ≤ v13 then (
    d_X12_splits_304 k223 n v1 v4 v5 v6 v8 v10 σ)
  else (
    bp (c_X12_weighed n v4 v13 σ) fun x72 =>
    ck (ix (((8 : Int32) * (gI σ 130 16)) + v13) 16) <|
    nm ((v1 * x72) - ((gJ σ 144 (((8 : Int32) * (gI σ 130 16)) + v13).toNatClampNeg) * v6)) fun x76 =>
    if v13 = 0 then (
      d_X12_splits_290 k223 (fun c10 c11 c13 => d_X12_splits_239 k223 n v1 v4 v5 v6 v8 c10 c11 c13 σ) n v1 v4 v5 v6 v8 v13 x76 σ)
    else (
      if x76 ≤ v11 then (
        d_X12_splits_298 k223 (fun c10 c11 c13 => d_X12_splits_239 k223 n v1 v4 v5 v6 v8 c10 c11 c13 σ) n v1 v4 v5 v6 v8 v10 v11 v13 σ)
      else (
        d_X12_splits_290 k223 (fun c10 c11 c13 => d_X12_splits_239 k223 n v1 v4 v5 v6 v8 c10 c11 c13 σ) n v1 v4 v5 v6 v8 v13 x76 σ)))
theorem k_b_X12_splits_239 {lo hi : Nat} {σ0 : Sg} {k223 k223c : Int64 → Sg → Option Sg} (h_k223 : ∀ (c0 : Int64) (τ : Sg), To lo hi σ0 τ → FR (fun q => To lo hi σ0 q) (k223 c0 τ) (k223c c0 τ)) : ∀ {n : Nat} {v1 : Int64} {v4 : Int32} {v5 : Int32} {v6 : Int64} {v8 : Int64} {v10 : Int32} {v11 : Int64} {v13 : Int32} {σ : Sg}, To lo hi σ0 σ → lo ≤ 130 ∧ 168 ≤ hi → FR (fun q => To lo hi σ0 q) (b_X12_splits_239 k223 n 130 v1 v4 v5 v6 v8 v10 v11 v13 σ) (d_X12_splits_239 k223c n v1 v4 v5 v6 v8 v10 v11 v13 σ) := by
  intro n
  induction n with
  | zero => intro v1 v4 v5 v6 v8 v10 v11 v13 σ t w_v0; exact FR_none
  | succ n ih =>
    intro v1 v4 v5 v6 v8 v10 v11 v13 σ t w_v0
    unfold b_X12_splits_239 d_X12_splits_239
    refine FR_it (fun _ => ?_) (fun _ => ?_)
    · exact k_b_X12_splits_304 h_k223 t (by omega)
    · refine FR_ck (lo11 t.1) ?_
      refine FR_bpP (k_f_X12_weighed t).1 (fun x72 => ?_)
      refine FR_ck (ln11_21 t.1) ?_
      refine FR_nmR (w := 144) (lr11_21 t.1) ?_
      refine FR_ckI (okA_iff t.1 (by decide : Ar 14 16 144)) (fun q1274 => ?_)
      refine FR_nm (fun x76 => ?_)
      refine FR_it (fun _ => ?_) (fun _ => ?_)
      · exact k_b_X12_splits_290 h_k223 (fun c10 c11 c13 => ih t (by omega)) t
      · refine FR_it (fun _ => ?_) (fun _ => ?_)
        · exact k_b_X12_splits_298 h_k223 (fun c10 c11 c13 => ih t (by omega)) t
        · exact k_b_X12_splits_290 h_k223 (fun c10 c11 c13 => ih t (by omega)) t
def d_X12_splits_223 : Nat → Int64 → Int32 → Int32 → Int64 → Int64 → Sg → Option Sg
  | 0, _, _, _, _, _, _ => none
  | n + 1, v1, v4, v5, v6, v8, σ =>
  if v8 ≤ (0 : Int64) then (
    some σ)
  else (
    d_X12_splits_239 (fun c8 τ => d_X12_splits_223 n v1 v4 v5 v6 c8 τ) n v1 v4 v5 v6 v8 (0 : Int32) (0 : Int64) (0 : Int32) σ)
theorem k_b_X12_splits_223 {lo hi : Nat} {σ0 : Sg} : ∀ {n : Nat} {v1 : Int64} {v4 : Int32} {v5 : Int32} {v6 : Int64} {v8 : Int64} {σ : Sg}, To lo hi σ0 σ → lo ≤ 130 ∧ 168 ≤ hi → FR (fun q => To lo hi σ0 q) (b_X12_splits_223 n 130 v1 v4 v5 v6 v8 σ) (d_X12_splits_223 n v1 v4 v5 v6 v8 σ) := by
  intro n
  induction n with
  | zero => intro v1 v4 v5 v6 v8 σ t w_v0; exact FR_none
  | succ n ih =>
    intro v1 v4 v5 v6 v8 σ t w_v0
    unfold b_X12_splits_223 d_X12_splits_223
    refine FR_it (fun _ => ?_) (fun _ => ?_)
    · exact FR_some t
    · exact k_b_X12_splits_239 (fun c8 τ t => ih t (by omega)) t (by omega)
def d_X12_splits_188 (k158 : Int64 → Int32 → Sg → Option Sg) (n : Nat) (v1 : Int64) (v3 : Int32) (v4 : Int32) (v5 : Int32) (v6 : Int64) (v8 : Int64) (v10 : Int32) (s0 : Int64) (σ : Sg) : Option Sg :=
  ck (ix (((8 : Int32) * (gI σ 130 16)) + v10) 16) <|
  ck (ix (((8 : Int32) * (gI σ 130 16)) + v10) 16) <|
  nm (pJ σ 144 (((8 : Int32) * (gI σ 130 16)) + v10).toNatClampNeg ((gJ σ 144 (((8 : Int32) * (gI σ 130 16)) + v10).toNatClampNeg) + s0)) fun σ90 =>
  nm (v8 - s0) fun x91 =>
  nm (v10 + (1 : Int32)) fun x92 =>
  k158 x91 x92 σ90
theorem k_b_X12_splits_188 {lo hi : Nat} {σ0 : Sg} {k158 k158c : Int64 → Int32 → Sg → Option Sg} {n : Nat} {v1 : Int64} {v3 : Int32} {v4 : Int32} {v5 : Int32} {v6 : Int64} {v8 : Int64} {v10 : Int32} {s0 : Int64} {σ : Sg} (h_k158 : ∀ (c0 : Int64) (c1 : Int32) (τ : Sg), To lo hi σ0 τ → FR (fun q => To lo hi σ0 q) (k158 c0 c1 τ) (k158c c0 c1 τ)) (t : To lo hi σ0 σ) (w_v0 : lo ≤ 130 ∧ 168 ≤ hi) : FR (fun q => To lo hi σ0 q) (b_X12_splits_188 k158 n 130 v1 v3 v4 v5 v6 v8 v10 s0 σ) (d_X12_splits_188 k158c n v1 v3 v4 v5 v6 v8 v10 s0 σ) := by
  unfold b_X12_splits_188 d_X12_splits_188
  refine FR_ck (lo11 t.1) ?_
  refine FR_ck (ln11_21 t.1) ?_
  refine FR_nmR (w := 144) (lr11_21 t.1) ?_
  refine FR_ckI (okA_iff t.1 (by decide : Ar 14 16 144)) (fun q1277 => ?_)
  refine FR_ckI (okW_iff t.1 (by decide : Ar 14 16 144)) (fun q1278 => ?_)
  refine FR_nmS (To_pJ t (by omega)) (fun σ90 t => ?_)
  refine FR_nm (fun x91 => ?_)
  refine FR_nm (fun x92 => ?_)
  exact h_k158 _ _ _ t
def d_X12_splits_158 : Nat → Int64 → Int32 → Int32 → Int32 → Int64 → Int64 → Int32 → Sg → Option Sg
  | 0, _, _, _, _, _, _, _, _ => none
  | n + 1, v1, v3, v4, v5, v6, v8, v10, σ =>
  if v3 = (1 : Int32) then (
    if v8 ≤ (0 : Int64) then (
      d_X12_splits_223 n v1 v4 v5 v6 v8 σ)
    else (
      bp (c_X12_weighed n v4 v10 σ) fun x83 =>
      if x83 ≤ (0 : Int64) then (
        d_X12_splits_188 (fun c8 c10 τ => d_X12_splits_158 n v1 v3 v4 v5 v6 c8 c10 τ) n v1 v3 v4 v5 v6 v8 v10 (0 : Int64) σ)
      else (
        d_X12_splits_188 (fun c8 c10 τ => d_X12_splits_158 n v1 v3 v4 v5 v6 c8 c10 τ) n v1 v3 v4 v5 v6 v8 v10 (1 : Int64) σ)))
  else (
    d_X12_splits_223 n v1 v4 v5 v6 v8 σ)
theorem k_b_X12_splits_158 {lo hi : Nat} {σ0 : Sg} : ∀ {n : Nat} {v1 : Int64} {v3 : Int32} {v4 : Int32} {v5 : Int32} {v6 : Int64} {v8 : Int64} {v10 : Int32} {σ : Sg}, To lo hi σ0 σ → lo ≤ 130 ∧ 168 ≤ hi → FR (fun q => To lo hi σ0 q) (b_X12_splits_158 n 130 v1 v3 v4 v5 v6 v8 v10 σ) (d_X12_splits_158 n v1 v3 v4 v5 v6 v8 v10 σ) := by
  intro n
  induction n with
  | zero => intro v1 v3 v4 v5 v6 v8 v10 σ t w_v0; exact FR_none
  | succ n ih =>
    intro v1 v3 v4 v5 v6 v8 v10 σ t w_v0
    unfold b_X12_splits_158 d_X12_splits_158
    refine FR_it (fun _ => ?_) (fun _ => ?_)
    · refine FR_it (fun _ => ?_) (fun _ => ?_)
      · exact k_b_X12_splits_223 t (by omega)
      · refine FR_ck (lo11 t.1) ?_
        refine FR_bpP (k_f_X12_weighed t).1 (fun x83 => ?_)
        refine FR_it (fun _ => ?_) (fun _ => ?_)
        · exact k_b_X12_splits_188 (fun c8 c10 τ t => ih t (by omega)) t (by omega)
        · exact k_b_X12_splits_188 (fun c8 c10 τ t => ih t (by omega)) t (by omega)
    · exact k_b_X12_splits_223 t (by omega)
def d_X12_splits_147 (n : Nat) (v8 : Int64) (s0 : Int32) (s1 : Int32) (s2 : Nat) (σ : Sg) : Option Sg :=
  ck (ix (s1 + s0) 16) <|
  ck (ix (s1 + s0) 16) <|
  nm (pJ σ s2 (s1 + s0).toNatClampNeg ((gJ σ s2 (s1 + s0).toNatClampNeg) + v8)) fun σ99 =>
  some σ99
theorem k_b_X12_splits_147 {lo hi : Nat} {σ0 : Sg} {n : Nat} {v8 : Int64} {s0 : Int32} {s1 : Int32} {s2 : Nat} {σ : Sg} (t : To lo hi σ0 σ) (h_s2 : Ar 14 16 s2) (w_s2 : lo ≤ s2 ∧ s2 < hi) : FR (fun q => To lo hi σ0 q) (b_X12_splits_147 n v8 s0 s1 s2 σ) (d_X12_splits_147 n v8 s0 s1 s2 σ) := by
  unfold b_X12_splits_147 d_X12_splits_147
  refine FR_ckI (okA_iff t.1 h_s2) (fun q1280 => ?_)
  refine FR_ckI (okW_iff t.1 h_s2) (fun q1281 => ?_)
  refine FR_nmS (To_pJ t (by omega)) (fun σ99 t => ?_)
  exact FR_some t
def d_X12_splits_118 (n : Nat) (v1 : Int64) (v3 : Int32) (v4 : Int32) (v5 : Int32) (v6 : Int64) (v8 : Int64) (σ : Sg) : Option Sg :=
  if v3 ≤ (1 : Int32) then (
    d_X12_splits_158 n v1 v3 v4 v5 v6 v8 (0 : Int32) σ)
  else (
    if v3 = (2 : Int32) then (
      d_X12_splits_147 n v8 (v5 - (1 : Int32)) ((8 : Int32) * (gI σ 130 16)) 144 σ)
    else (
      d_X12_splits_147 n v8 (0 : Int32) ((8 : Int32) * (gI σ 130 16)) 144 σ))
theorem k_b_X12_splits_118 {lo hi : Nat} {σ0 : Sg} {n : Nat} {v1 : Int64} {v3 : Int32} {v4 : Int32} {v5 : Int32} {v6 : Int64} {v8 : Int64} {σ : Sg} (t : To lo hi σ0 σ) (w_v0 : lo ≤ 130 ∧ 168 ≤ hi) : FR (fun q => To lo hi σ0 q) (b_X12_splits_118 n 130 v1 v3 v4 v5 v6 v8 σ) (d_X12_splits_118 n v1 v3 v4 v5 v6 v8 σ) := by
  unfold b_X12_splits_118 d_X12_splits_118
  refine FR_it (fun _ => ?_) (fun _ => ?_)
  · exact k_b_X12_splits_158 t (by omega)
  · refine FR_ck (lo11 t.1) ?_
    refine FR_ck (ln11_21 t.1) ?_
    refine FR_nmR (w := 144) (lr11_21 t.1) ?_
    refine FR_it (fun _ => ?_) (fun _ => ?_)
    · exact k_b_X12_splits_147 t (by decide) (by omega)
    · exact k_b_X12_splits_147 t (by decide) (by omega)
def d_X12_splits_86 (k22 : Int64 → Int32 → Sg → Option Sg) (n : Nat) (v1 : Int64) (v3 : Int32) (v4 : Int32) (v5 : Int32) (v6 : Int64) (v8 : Int64) (v10 : Int32) (s0 : Int64) (σ : Sg) : Option Sg :=
  ck (ix (((8 : Int32) * (gI σ 130 16)) + v10) 16) <|
  nm (pJ σ 144 (((8 : Int32) * (gI σ 130 16)) + v10).toNatClampNeg s0) fun σ109 =>
  nm (v8 - s0) fun x110 =>
  nm (v10 + (1 : Int32)) fun x111 =>
  k22 x110 x111 σ109
theorem k_b_X12_splits_86 {lo hi : Nat} {σ0 : Sg} {k22 k22c : Int64 → Int32 → Sg → Option Sg} {n : Nat} {v1 : Int64} {v3 : Int32} {v4 : Int32} {v5 : Int32} {v6 : Int64} {v8 : Int64} {v10 : Int32} {s0 : Int64} {σ : Sg} (h_k22 : ∀ (c0 : Int64) (c1 : Int32) (τ : Sg), To lo hi σ0 τ → FR (fun q => To lo hi σ0 q) (k22 c0 c1 τ) (k22c c0 c1 τ)) (t : To lo hi σ0 σ) (w_v0 : lo ≤ 130 ∧ 168 ≤ hi) : FR (fun q => To lo hi σ0 q) (b_X12_splits_86 k22 n 130 v1 v3 v4 v5 v6 v8 v10 s0 σ) (d_X12_splits_86 k22c n v1 v3 v4 v5 v6 v8 v10 s0 σ) := by
  unfold b_X12_splits_86 d_X12_splits_86
  refine FR_ck (lo11 t.1) ?_
  refine FR_ck (ln11_21 t.1) ?_
  refine FR_nmR (w := 144) (lr11_21 t.1) ?_
  refine FR_ckI (okW_iff t.1 (by decide : Ar 14 16 144)) (fun q1286 => ?_)
  refine FR_nmS (To_pJ t (by omega)) (fun σ109 t => ?_)
  refine FR_nm (fun x110 => ?_)
  refine FR_nm (fun x111 => ?_)
  exact h_k22 _ _ _ t
def d_X12_splits_50 (k22 : Int64 → Int32 → Sg → Option Sg) (n : Nat) (v1 : Int64) (v3 : Int32) (v4 : Int32) (v5 : Int32) (v6 : Int64) (v8 : Int64) (v10 : Int32) (s0 : Int64) (σ : Sg) : Option Sg :=
  if v10 < v5 then (
    if (2 : Int32) ≤ v3 then (
      bp (f_X12_times s0 v6 (0 : Int32)) fun x104 =>
      d_X12_splits_86 k22 n v1 v3 v4 v5 v6 v8 v10 x104 σ)
    else (
      bp (f_X12_floor s0 v6) fun x113 =>
      d_X12_splits_86 k22 n v1 v3 v4 v5 v6 v8 v10 x113 σ))
  else (
    d_X12_splits_86 k22 n v1 v3 v4 v5 v6 v8 v10 (0 : Int64) σ)
theorem k_b_X12_splits_50 {lo hi : Nat} {σ0 : Sg} {k22 k22c : Int64 → Int32 → Sg → Option Sg} {n : Nat} {v1 : Int64} {v3 : Int32} {v4 : Int32} {v5 : Int32} {v6 : Int64} {v8 : Int64} {v10 : Int32} {s0 : Int64} {σ : Sg} (h_k22 : ∀ (c0 : Int64) (c1 : Int32) (τ : Sg), To lo hi σ0 τ → FR (fun q => To lo hi σ0 q) (k22 c0 c1 τ) (k22c c0 c1 τ)) (t : To lo hi σ0 σ) (w_v0 : lo ≤ 130 ∧ 168 ≤ hi) : FR (fun q => To lo hi σ0 q) (b_X12_splits_50 k22 n 130 v1 v3 v4 v5 v6 v8 v10 s0 σ) (d_X12_splits_50 k22c n v1 v3 v4 v5 v6 v8 v10 s0 σ) := by
  unfold b_X12_splits_50 d_X12_splits_50
  refine FR_it (fun _ => ?_) (fun _ => ?_)
  · refine FR_it (fun _ => ?_) (fun _ => ?_)
    · refine FR_nmP (fun x104 => ?_)
      exact k_b_X12_splits_86 h_k22 t (by omega)
    · refine FR_nmP (fun x113 => ?_)
      exact k_b_X12_splits_86 h_k22 t (by omega)
  · exact k_b_X12_splits_86 h_k22 t (by omega)
def d_X12_splits_22 : Nat → Int64 → Int32 → Int32 → Int32 → Int64 → Int64 → Int32 → Sg → Option Sg
  | 0, _, _, _, _, _, _, _, _ => none
  | n + 1, v1, v3, v4, v5, v6, v8, v10, σ =>
  if (8 : Int32) ≤ v10 then (
    d_X12_splits_118 n v1 v3 v4 v5 v6 v8 σ)
  else (
    if v5 ≤ v10 then (
      d_X12_splits_50 (fun c8 c10 τ => d_X12_splits_22 n v1 v3 v4 v5 v6 c8 c10 τ) n v1 v3 v4 v5 v6 v8 v10 (0 : Int64) σ)
    else (
      bp (c_X12_weighed n v4 v10 σ) fun x116 =>
      d_X12_splits_50 (fun c8 c10 τ => d_X12_splits_22 n v1 v3 v4 v5 v6 c8 c10 τ) n v1 v3 v4 v5 v6 v8 v10 (v1 * x116) σ))
theorem k_b_X12_splits_22 {lo hi : Nat} {σ0 : Sg} : ∀ {n : Nat} {v1 : Int64} {v3 : Int32} {v4 : Int32} {v5 : Int32} {v6 : Int64} {v8 : Int64} {v10 : Int32} {σ : Sg}, To lo hi σ0 σ → lo ≤ 130 ∧ 168 ≤ hi → FR (fun q => To lo hi σ0 q) (b_X12_splits_22 n 130 v1 v3 v4 v5 v6 v8 v10 σ) (d_X12_splits_22 n v1 v3 v4 v5 v6 v8 v10 σ) := by
  intro n
  induction n with
  | zero => intro v1 v3 v4 v5 v6 v8 v10 σ t w_v0; exact FR_none
  | succ n ih =>
    intro v1 v3 v4 v5 v6 v8 v10 σ t w_v0
    unfold b_X12_splits_22 d_X12_splits_22
    refine FR_it (fun _ => ?_) (fun _ => ?_)
    · exact k_b_X12_splits_118 t (by omega)
    · refine FR_it (fun _ => ?_) (fun _ => ?_)
      · exact k_b_X12_splits_50 (fun c8 c10 τ t => ih t (by omega)) t (by omega)
      · refine FR_ck (lo11 t.1) ?_
        refine FR_bpP (k_f_X12_weighed t).1 (fun x116 => ?_)
        exact k_b_X12_splits_50 (fun c8 c10 τ t => ih t (by omega)) t (by omega)
def c_X12_splits (n : Nat) (v1 : Int64) (v3 : Int32) (v4 : Int32) (σ : Sg) : Option Sg :=
  bp (c_X12_partsOf n v4 σ) fun x55 =>
  bp (c_X12_allWeights n v4 σ) fun x57 =>
  d_X12_splits_22 n v1 v3 v4 x55 x57 v1 (0 : Int32) σ
theorem k_f_X12_splits {lo hi : Nat} {σ0 : Sg} {n : Nat} {v1 : Int64} {v3 : Int32} {v4 : Int32} {σ : Sg} (t : To lo hi σ0 σ) (w_v0 : lo ≤ 130 ∧ 168 ≤ hi) : FR (fun q => To lo hi σ0 q) (f_X12_splits n 130 v1 v3 v4 σ) (c_X12_splits n v1 v3 v4 σ) := by
  unfold f_X12_splits c_X12_splits
  refine FR_ck (lo11 t.1) ?_
  refine FR_bpP (k_f_X12_partsOf t).1 (fun x55 => ?_)
  refine FR_bpP (k_f_X12_allWeights t).1 (fun x57 => ?_)
  exact k_b_X12_splits_22 t (by omega)
def c_X12_rates (n : Nat) (v1 : Int32) (v2 : Int32) (v3 : Int32) (σ : Sg) : Option Sg :=
  nm (((8 : Int32) * (gI σ 130 16)) + v2) fun x29 =>
  ck (ix x29 16) <|
  nm (gI σ 149 x29.toNatClampNeg) fun x33 =>
  ck (ix x29 16) <|
  ck (ix v3 8) <|
  ck (ix x29 16) <|
  ck (ix v3 8) <|
  bd (c_X12_becomes n v1 ((gJ σ 142 x29.toNatClampNeg) * ((gI σ 131 v3.toNatClampNeg).toInt64)) ((gJ σ 143 x29.toNatClampNeg) * ((gI σ 132 v3.toNatClampNeg).toInt64)) σ) fun x48 σ47 =>
  if x48 = 0 then (
    some σ47)
  else (
    ck (x33 = 0 ∨ x33 = 1) <|
    ck (ix (((8 : Int32) * (gI σ47 130 16)) + v1) 16) <|
    nm (pI σ47 149 (((8 : Int32) * (gI σ47 130 16)) + v1).toNatClampNeg x33) fun σ55 =>
    some σ55)
theorem k_f_X12_rates {lo hi : Nat} {σ0 : Sg} {n : Nat} {v1 : Int32} {v2 : Int32} {v3 : Int32} {σ : Sg} (t : To lo hi σ0 σ) (w_v0 : lo ≤ 130 ∧ 168 ≤ hi) : FR (fun q => To lo hi σ0 q) (f_X12_rates n 130 v1 v2 v3 σ) (c_X12_rates n v1 v2 v3 σ) := by
  unfold f_X12_rates c_X12_rates
  refine FR_ck (lo11 t.1) ?_
  refine FR_nm (fun x29 => ?_)
  refine FR_ck (ln11_26 t.1) ?_
  refine FR_nmR (w := 149) (lr11_26 t.1) ?_
  refine FR_ckI (okA_iff t.1 (by decide : Ar 15 16 149)) (fun q1291 => ?_)
  refine FR_nm (fun x33 => ?_)
  refine FR_ck (ln11_19 t.1) ?_
  refine FR_nmR (w := 142) (lr11_19 t.1) ?_
  refine FR_ckI (okA_iff t.1 (by decide : Ar 14 16 142)) (fun q1293 => ?_)
  refine FR_ck (ln11_1 t.1) ?_
  refine FR_nmR (w := 131) (lr11_1 t.1) ?_
  refine FR_ckI (okA_iff t.1 (by decide : Ar 13 8 131)) (fun q1295 => ?_)
  refine FR_ck (ln11_20 t.1) ?_
  refine FR_nmR (w := 143) (lr11_20 t.1) ?_
  refine FR_ckI (okA_iff t.1 (by decide : Ar 14 16 143)) (fun q1297 => ?_)
  refine FR_ck (ln11_2 t.1) ?_
  refine FR_nmR (w := 132) (lr11_2 t.1) ?_
  refine FR_ckI (okA_iff t.1 (by decide : Ar 13 8 132)) (fun q1299 => ?_)
  refine FR_bd (k_f_X12_becomes t (by omega)) (fun x48 σ47 t => ?_)
  refine FR_it (fun _ => ?_) (fun _ => ?_)
  · exact FR_some t
  · refine FR_ck (lo11 t.1) ?_
    refine FR_ck (ln11_26 t.1) ?_
    refine FR_nmR (w := 149) (lr11_26 t.1) ?_
    refine FR_ckI Iff.rfl (fun q1302 => ?_)
    refine FR_ckI (okW_iff t.1 (by decide : Ar 15 16 149)) (fun q1303 => ?_)
    refine FR_nmS (To_pI t (by omega)) (fun σ55 t => ?_)
    exact FR_some t
def d_X12_adds_95 (n : Nat) (v4 : Int32) (v5 : Int32) (v6 : Int32) (s0 : Int64) (s1 : Int64) (s2 : Int32) (σ : Sg) : Option Sg :=
  ck (ix v4 16) <|
  ck (ix v5 16) <|
  bd (c_X12_becomes n s2 (s1 + s0) ((gJ σ 143 v4.toNatClampNeg) * (gJ σ 143 v5.toNatClampNeg)) σ) fun x66 σ65 =>
  if x66 = 0 then (
    some σ65)
  else (
    ck (v6 = 0 ∨ v6 = 1) <|
    ck (ix v4 16) <|
    nm (pI σ65 149 v4.toNatClampNeg v6) fun σ73 =>
    some σ73)
theorem k_b_X12_adds_95 {lo hi : Nat} {σ0 : Sg} {n : Nat} {v4 : Int32} {v5 : Int32} {v6 : Int32} {s0 : Int64} {s1 : Int64} {s2 : Int32} {σ : Sg} (t : To lo hi σ0 σ) (w_v0 : lo ≤ 130 ∧ 168 ≤ hi) (w_s3 : lo ≤ 130 ∧ 168 ≤ hi) : FR (fun q => To lo hi σ0 q) (b_X12_adds_95 n 130 v4 v5 v6 s0 s1 s2 130 σ) (d_X12_adds_95 n v4 v5 v6 s0 s1 s2 σ) := by
  unfold b_X12_adds_95 d_X12_adds_95
  refine FR_ck (lo11 t.1) ?_
  refine FR_ck (ln11_20 t.1) ?_
  refine FR_nmR (w := 143) (lr11_20 t.1) ?_
  refine FR_ckI (okA_iff t.1 (by decide : Ar 14 16 143)) (fun q1306 => ?_)
  refine FR_nmR (w := 143) (lr11_20 t.1) ?_
  refine FR_ckI (okA_iff t.1 (by decide : Ar 14 16 143)) (fun q1307 => ?_)
  refine FR_ck (lo11 t.1) ?_
  refine FR_bd (k_f_X12_becomes t (by omega)) (fun x66 σ65 t => ?_)
  refine FR_it (fun _ => ?_) (fun _ => ?_)
  · exact FR_some t
  · refine FR_ck (lo11 t.1) ?_
    refine FR_ck (ln11_26 t.1) ?_
    refine FR_nmR (w := 149) (lr11_26 t.1) ?_
    refine FR_ckI Iff.rfl (fun q1311 => ?_)
    refine FR_ckI (okW_iff t.1 (by decide : Ar 15 16 149)) (fun q1312 => ?_)
    refine FR_nmS (To_pI t (by omega)) (fun σ73 t => ?_)
    exact FR_some t
def d_X12_adds_47 (n : Nat) (v1 : Int32) (v3 : Int32) (v4 : Int32) (v5 : Int32) (s0 : Int32) (σ : Sg) : Option Sg :=
  ck (ix v5 16) <|
  ck (ix v4 16) <|
  nm ((gJ σ 142 v5.toNatClampNeg) * (gJ σ 143 v4.toNatClampNeg)) fun x51 =>
  ck (ix v4 16) <|
  ck (ix v5 16) <|
  if v3 = 0 then (
    d_X12_adds_95 n v4 v5 s0 x51 ((gJ σ 142 v4.toNatClampNeg) * (gJ σ 143 v5.toNatClampNeg)) v1 σ)
  else (
    d_X12_adds_95 n v4 v5 s0 (-x51) ((gJ σ 142 v4.toNatClampNeg) * (gJ σ 143 v5.toNatClampNeg)) v1 σ)
theorem k_b_X12_adds_47 {lo hi : Nat} {σ0 : Sg} {n : Nat} {v1 : Int32} {v3 : Int32} {v4 : Int32} {v5 : Int32} {s0 : Int32} {σ : Sg} (t : To lo hi σ0 σ) (w_v0 : lo ≤ 130 ∧ 168 ≤ hi) : FR (fun q => To lo hi σ0 q) (b_X12_adds_47 n 130 v1 v3 v4 v5 s0 σ) (d_X12_adds_47 n v1 v3 v4 v5 s0 σ) := by
  unfold b_X12_adds_47 d_X12_adds_47
  refine FR_ck (lo11 t.1) ?_
  refine FR_ck (ln11_19 t.1) ?_
  refine FR_nmR (w := 142) (lr11_19 t.1) ?_
  refine FR_ckI (okA_iff t.1 (by decide : Ar 14 16 142)) (fun q1315 => ?_)
  refine FR_ck (ln11_20 t.1) ?_
  refine FR_nmR (w := 143) (lr11_20 t.1) ?_
  refine FR_ckI (okA_iff t.1 (by decide : Ar 14 16 143)) (fun q1317 => ?_)
  refine FR_nm (fun x51 => ?_)
  refine FR_nmR (w := 142) (lr11_19 t.1) ?_
  refine FR_ckI (okA_iff t.1 (by decide : Ar 14 16 142)) (fun q1318 => ?_)
  refine FR_nmR (w := 143) (lr11_20 t.1) ?_
  refine FR_ckI (okA_iff t.1 (by decide : Ar 14 16 143)) (fun q1319 => ?_)
  refine FR_it (fun _ => ?_) (fun _ => ?_)
  · exact k_b_X12_adds_95 t (by omega) (by omega)
  · exact k_b_X12_adds_95 t (by omega) (by omega)
def d_X12_adds_42 (n : Nat) (v1 : Int32) (v3 : Int32) (v4 : Int32) (v5 : Int32) (σ : Sg) : Option Sg :=
  d_X12_adds_47 n v1 v3 v4 v5 (1 : Int32) σ
theorem k_b_X12_adds_42 {lo hi : Nat} {σ0 : Sg} {n : Nat} {v1 : Int32} {v3 : Int32} {v4 : Int32} {v5 : Int32} {σ : Sg} (t : To lo hi σ0 σ) (w_v0 : lo ≤ 130 ∧ 168 ≤ hi) : FR (fun q => To lo hi σ0 q) (b_X12_adds_42 n 130 v1 v3 v4 v5 σ) (d_X12_adds_42 n v1 v3 v4 v5 σ) := by
  unfold b_X12_adds_42 d_X12_adds_42
  exact k_b_X12_adds_47 t (by omega)
def c_X12_adds (n : Nat) (v1 : Int32) (v2 : Int32) (v3 : Int32) (σ : Sg) : Option Sg :=
  nm (((8 : Int32) * (gI σ 130 16)) + v1) fun x38 =>
  nm (((8 : Int32) * (gI σ 130 16)) + v2) fun x39 =>
  ck (ix x38 16) <|
  if (gI σ 149 x38.toNatClampNeg) = 0 then (
    ck (ix x39 16) <|
    if (gI σ 149 x39.toNatClampNeg) = 0 then (
      d_X12_adds_47 n v1 v3 x38 x39 (0 : Int32) σ)
    else (
      d_X12_adds_42 n v1 v3 x38 x39 σ))
  else (
    d_X12_adds_42 n v1 v3 x38 x39 σ)
theorem k_f_X12_adds {lo hi : Nat} {σ0 : Sg} {n : Nat} {v1 : Int32} {v2 : Int32} {v3 : Int32} {σ : Sg} (t : To lo hi σ0 σ) (w_v0 : lo ≤ 130 ∧ 168 ≤ hi) : FR (fun q => To lo hi σ0 q) (f_X12_adds n 130 v1 v2 v3 σ) (c_X12_adds n v1 v2 v3 σ) := by
  unfold f_X12_adds c_X12_adds
  refine FR_ck (lo11 t.1) ?_
  refine FR_nm (fun x38 => ?_)
  refine FR_nm (fun x39 => ?_)
  refine FR_ck (ln11_26 t.1) ?_
  refine FR_nmR (w := 149) (lr11_26 t.1) ?_
  refine FR_ckI (okA_iff t.1 (by decide : Ar 15 16 149)) (fun q1322 => ?_)
  refine FR_it (fun _ => ?_) (fun _ => ?_)
  · refine FR_nmR (w := 149) (lr11_26 t.1) ?_
    refine FR_ckI (okA_iff t.1 (by decide : Ar 15 16 149)) (fun q1323 => ?_)
    refine FR_it (fun _ => ?_) (fun _ => ?_)
    · exact k_b_X12_adds_47 t (by omega)
    · exact k_b_X12_adds_42 t (by omega)
  · exact k_b_X12_adds_42 t (by omega)
def c_X12_carries (n : Nat) (v1 : Int32) (v2 : Int32) (σ : Sg) : Option Sg :=
  nm (((8 : Int32) * (gI σ 130 16)) + v1) fun x75 =>
  nm (((4 : Int32) * (gI σ 130 16)) + v2) fun x76 =>
  ck (ix x76 8) <|
  ck (ix x75 16) <|
  ck (ix x75 16) <|
  ck (ix x76 8) <|
  nm (((gJ σ 147 x76.toNatClampNeg) * (gJ σ 143 x75.toNatClampNeg)) + ((gJ σ 142 x75.toNatClampNeg) * (gJ σ 148 x76.toNatClampNeg))) fun x89 =>
  ck (ix x76 8) <|
  ck (ix x75 16) <|
  nm ((gJ σ 148 x76.toNatClampNeg) * (gJ σ 143 x75.toNatClampNeg)) fun x94 =>
  ck (ix x75 16) <|
  nm (gJ σ 142 x75.toNatClampNeg) fun x97 =>
  ck (ix x75 16) <|
  nm (gJ σ 143 x75.toNatClampNeg) fun x100 =>
  bd (c_X12_becomes n v1 x89 x94 σ) fun x103 σ102 =>
  if x103 = 0 then (
    some σ102)
  else (
    ck (ix x75 16) <|
    ck (ix x75 16) <|
    bp (f_X12_floor (gJ σ102 142 x75.toNatClampNeg) (gJ σ102 143 x75.toNatClampNeg)) fun x113 =>
    ck (ix x75 16) <|
    ck (ix x75 16) <|
    nm ((gJ σ102 142 x75.toNatClampNeg) - (x113 * (gJ σ102 143 x75.toNatClampNeg))) fun x118 =>
    ck (ix x75 16) <|
    nm (gJ σ102 143 x75.toNatClampNeg) fun x121 =>
    bd (c_X12_becomesWhole n v1 x113 σ102) fun x124 σ123 =>
    if x124 = 0 then (
      ck (ix x75 16) <|
      nm (pJ σ123 142 x75.toNatClampNeg x97) fun σ143 =>
      ck (ix x75 16) <|
      nm (pJ σ143 143 x75.toNatClampNeg x100) fun σ148 =>
      some σ148)
    else (
      bp (f_X12_common n x118 x121) fun x127 =>
      ck (¬ x127 = 0) <|
      ck (ix x76 8) <|
      nm (pJ σ123 147 x76.toNatClampNeg (x118 / x127)) fun σ133 =>
      ck (ix x76 8) <|
      nm (pJ σ133 148 x76.toNatClampNeg (x121 / x127)) fun σ138 =>
      some σ138))
theorem k_f_X12_carries {lo hi : Nat} {σ0 : Sg} {n : Nat} {v1 : Int32} {v2 : Int32} {σ : Sg} (t : To lo hi σ0 σ) (w_v0 : lo ≤ 130 ∧ 168 ≤ hi) : FR (fun q => To lo hi σ0 q) (f_X12_carries n 130 v1 v2 σ) (c_X12_carries n v1 v2 σ) := by
  unfold f_X12_carries c_X12_carries
  refine FR_ck (lo11 t.1) ?_
  refine FR_nm (fun x75 => ?_)
  refine FR_nm (fun x76 => ?_)
  refine FR_ck (ln11_24 t.1) ?_
  refine FR_nmR (w := 147) (lr11_24 t.1) ?_
  refine FR_ckI (okA_iff t.1 (by decide : Ar 14 8 147)) (fun q1326 => ?_)
  refine FR_ck (ln11_20 t.1) ?_
  refine FR_nmR (w := 143) (lr11_20 t.1) ?_
  refine FR_ckI (okA_iff t.1 (by decide : Ar 14 16 143)) (fun q1328 => ?_)
  refine FR_ck (ln11_19 t.1) ?_
  refine FR_nmR (w := 142) (lr11_19 t.1) ?_
  refine FR_ckI (okA_iff t.1 (by decide : Ar 14 16 142)) (fun q1330 => ?_)
  refine FR_ck (ln11_25 t.1) ?_
  refine FR_nmR (w := 148) (lr11_25 t.1) ?_
  refine FR_ckI (okA_iff t.1 (by decide : Ar 14 8 148)) (fun q1332 => ?_)
  refine FR_nm (fun x89 => ?_)
  refine FR_nmR (w := 148) (lr11_25 t.1) ?_
  refine FR_ckI (okA_iff t.1 (by decide : Ar 14 8 148)) (fun q1333 => ?_)
  refine FR_nmR (w := 143) (lr11_20 t.1) ?_
  refine FR_ckI (okA_iff t.1 (by decide : Ar 14 16 143)) (fun q1334 => ?_)
  refine FR_nm (fun x94 => ?_)
  refine FR_nmR (w := 142) (lr11_19 t.1) ?_
  refine FR_ckI (okA_iff t.1 (by decide : Ar 14 16 142)) (fun q1335 => ?_)
  refine FR_nm (fun x97 => ?_)
  refine FR_nmR (w := 143) (lr11_20 t.1) ?_
  refine FR_ckI (okA_iff t.1 (by decide : Ar 14 16 143)) (fun q1336 => ?_)
  refine FR_nm (fun x100 => ?_)
  refine FR_bd (k_f_X12_becomes t (by omega)) (fun x103 σ102 t => ?_)
  refine FR_it (fun _ => ?_) (fun _ => ?_)
  · exact FR_some t
  · refine FR_ck (lo11 t.1) ?_
    refine FR_ck (ln11_19 t.1) ?_
    refine FR_nmR (w := 142) (lr11_19 t.1) ?_
    refine FR_ckI (okA_iff t.1 (by decide : Ar 14 16 142)) (fun q1339 => ?_)
    refine FR_ck (ln11_20 t.1) ?_
    refine FR_nmR (w := 143) (lr11_20 t.1) ?_
    refine FR_ckI (okA_iff t.1 (by decide : Ar 14 16 143)) (fun q1341 => ?_)
    refine FR_nmP (fun x113 => ?_)
    refine FR_nmR (w := 142) (lr11_19 t.1) ?_
    refine FR_ckI (okA_iff t.1 (by decide : Ar 14 16 142)) (fun q1342 => ?_)
    refine FR_nmR (w := 143) (lr11_20 t.1) ?_
    refine FR_ckI (okA_iff t.1 (by decide : Ar 14 16 143)) (fun q1343 => ?_)
    refine FR_nm (fun x118 => ?_)
    refine FR_nmR (w := 143) (lr11_20 t.1) ?_
    refine FR_ckI (okA_iff t.1 (by decide : Ar 14 16 143)) (fun q1344 => ?_)
    refine FR_nm (fun x121 => ?_)
    refine FR_bd (k_f_X12_becomesWhole t (by omega)) (fun x124 σ123 t => ?_)
    refine FR_it (fun _ => ?_) (fun _ => ?_)
    · refine FR_ck (lo11 t.1) ?_
      refine FR_ck (ln11_19 t.1) ?_
      refine FR_nmR (w := 142) (lr11_19 t.1) ?_
      refine FR_ckI (okW_iff t.1 (by decide : Ar 14 16 142)) (fun q1347 => ?_)
      refine FR_nmS (To_pJ t (by omega)) (fun σ143 t => ?_)
      refine FR_ck (lo11 t.1) ?_
      refine FR_ck (ln11_20 t.1) ?_
      refine FR_nmR (w := 143) (lr11_20 t.1) ?_
      refine FR_ckI (okW_iff t.1 (by decide : Ar 14 16 143)) (fun q1350 => ?_)
      refine FR_nmS (To_pJ t (by omega)) (fun σ148 t => ?_)
      exact FR_some t
    · refine FR_nmP (fun x127 => ?_)
      refine FR_ck (lo11 t.1) ?_
      refine FR_ck (ln11_24 t.1) ?_
      refine FR_nmR (w := 147) (lr11_24 t.1) ?_
      refine FR_ckI Iff.rfl (fun q1353 => ?_)
      refine FR_ckI (okW_iff t.1 (by decide : Ar 14 8 147)) (fun q1354 => ?_)
      refine FR_nmS (To_pJ t (by omega)) (fun σ133 t => ?_)
      refine FR_ck (lo11 t.1) ?_
      refine FR_ck (ln11_25 t.1) ?_
      refine FR_nmR (w := 148) (lr11_25 t.1) ?_
      refine FR_ckI (okW_iff t.1 (by decide : Ar 14 8 148)) (fun q1357 => ?_)
      refine FR_nmS (To_pJ t (by omega)) (fun σ138 t => ?_)
      exact FR_some t
def d_X12_books_89 (s0 : Int32) (s1 : Int32) (σ : Sg) : Option Sg :=
  nm (pI σ 130 31 (s1 + s0)) fun σ49 =>
  some σ49
theorem k_b_X12_books_89 {lo hi : Nat} {σ0 : Sg} {s0 : Int32} {s1 : Int32} {σ : Sg} (t : To lo hi σ0 σ) (w_s2 : lo ≤ 130 ∧ 168 ≤ hi) : FR (fun q => To lo hi σ0 q) (b_X12_books_89 s0 s1 130 σ) (d_X12_books_89 s0 s1 σ) := by
  unfold b_X12_books_89 d_X12_books_89
  refine FR_ck (lo11 t.1) ?_
  refine FR_nmS (To_pI t (by omega)) (fun σ49 t => ?_)
  exact FR_some t
def d_X12_books_67 (v4 : Int32) (s0 : Int64) (s1 : Int64) (s2 : Int32) (s3 : Nat) (σ : Sg) : Option Sg :=
  ck (ix s2 16) <|
  nm (pJ σ s3 s2.toNatClampNeg (s1 + s0)) fun σ42 =>
  ck (ix v4 16) <|
  if (gI σ42 149 v4.toNatClampNeg) = 0 then (
    d_X12_books_89 (0 : Int32) (gI σ42 130 31) σ42)
  else (
    d_X12_books_89 (1 : Int32) (gI σ42 130 31) σ42)
theorem k_b_X12_books_67 {lo hi : Nat} {σ0 : Sg} {v4 : Int32} {s0 : Int64} {s1 : Int64} {s2 : Int32} {s3 : Nat} {σ : Sg} (t : To lo hi σ0 σ) (w_v0 : lo ≤ 130 ∧ 168 ≤ hi) (h_s3 : Ar 14 16 s3) (w_s3 : lo ≤ s3 ∧ s3 < hi) : FR (fun q => To lo hi σ0 q) (b_X12_books_67 130 v4 s0 s1 s2 s3 σ) (d_X12_books_67 v4 s0 s1 s2 s3 σ) := by
  unfold b_X12_books_67 d_X12_books_67
  refine FR_ckI (okW_iff t.1 h_s3) (fun q1359 => ?_)
  refine FR_nmS (To_pJ t (by omega)) (fun σ42 t => ?_)
  refine FR_ck (lo11 t.1) ?_
  refine FR_ck (ln11_26 t.1) ?_
  refine FR_nmR (w := 149) (lr11_26 t.1) ?_
  refine FR_ckI (okA_iff t.1 (by decide : Ar 15 16 149)) (fun q1362 => ?_)
  refine FR_it (fun _ => ?_) (fun _ => ?_)
  · exact k_b_X12_books_89 t (by omega)
  · exact k_b_X12_books_89 t (by omega)
def c_X12_books (v1 : Int32) (v2 : Int32) (v3 : Int32) (σ : Sg) : Option Sg :=
  nm (((8 : Int32) * (gI σ 130 16)) + v1) fun x29 =>
  ck (ix x29 16) <|
  if (gJ σ 143 x29.toNatClampNeg) = (1 : Int64) then (
    ck (ix (((8 : Int32) * (gI σ 130 16)) + v2) 16) <|
    if v3 = 0 then (
      ck (ix x29 16) <|
      d_X12_books_67 x29 (gJ σ 142 x29.toNatClampNeg) (gJ σ 146 (((8 : Int32) * (gI σ 130 16)) + v2).toNatClampNeg) (((8 : Int32) * (gI σ 130 16)) + v2) 146 σ)
    else (
      ck (ix x29 16) <|
      d_X12_books_67 x29 (-(gJ σ 142 x29.toNatClampNeg)) (gJ σ 146 (((8 : Int32) * (gI σ 130 16)) + v2).toNatClampNeg) (((8 : Int32) * (gI σ 130 16)) + v2) 146 σ))
  else (
    nm (pI σ 130 32 (-5 : Int32)) fun σ53 =>
    some σ53)
theorem k_f_X12_books {lo hi : Nat} {σ0 : Sg} {v1 : Int32} {v2 : Int32} {v3 : Int32} {σ : Sg} (t : To lo hi σ0 σ) (w_v0 : lo ≤ 130 ∧ 168 ≤ hi) : FR (fun q => To lo hi σ0 q) (f_X12_books 130 v1 v2 v3 σ) (c_X12_books v1 v2 v3 σ) := by
  unfold f_X12_books c_X12_books
  refine FR_ck (lo11 t.1) ?_
  refine FR_nm (fun x29 => ?_)
  refine FR_ck (ln11_20 t.1) ?_
  refine FR_nmR (w := 143) (lr11_20 t.1) ?_
  refine FR_ckI (okA_iff t.1 (by decide : Ar 14 16 143)) (fun q1365 => ?_)
  refine FR_it (fun _ => ?_) (fun _ => ?_)
  · refine FR_ck (ln11_23 t.1) ?_
    refine FR_nmR (w := 146) (lr11_23 t.1) ?_
    refine FR_ckI (okA_iff t.1 (by decide : Ar 14 16 146)) (fun q1367 => ?_)
    refine FR_it (fun _ => ?_) (fun _ => ?_)
    · refine FR_ck (ln11_19 t.1) ?_
      refine FR_nmR (w := 142) (lr11_19 t.1) ?_
      refine FR_ckI (okA_iff t.1 (by decide : Ar 14 16 142)) (fun q1369 => ?_)
      exact k_b_X12_books_67 t (by omega) (by decide) (by omega)
    · refine FR_ck (ln11_19 t.1) ?_
      refine FR_nmR (w := 142) (lr11_19 t.1) ?_
      refine FR_ckI (okA_iff t.1 (by decide : Ar 14 16 142)) (fun q1371 => ?_)
      exact k_b_X12_books_67 t (by omega) (by decide) (by omega)
  · refine FR_nmS (To_pI t (by omega)) (fun σ53 t => ?_)
    exact FR_some t
def d_X12_caps_68 (v3 : Int64) (v5 : Int32) (s0 : Int32) (σ : Sg) : Option Sg :=
  if s0 = 0 then (
    some σ)
  else (
    ck (ix v5 16) <|
    nm (pJ σ 142 v5.toNatClampNeg v3) fun σ42 =>
    ck (ix v5 16) <|
    nm (pJ σ42 143 v5.toNatClampNeg (1 : Int64)) fun σ47 =>
    some σ47)
theorem k_b_X12_caps_68 {lo hi : Nat} {σ0 : Sg} {v3 : Int64} {v5 : Int32} {s0 : Int32} {σ : Sg} (t : To lo hi σ0 σ) (w_v0 : lo ≤ 130 ∧ 168 ≤ hi) : FR (fun q => To lo hi σ0 q) (b_X12_caps_68 130 v3 v5 s0 σ) (d_X12_caps_68 v3 v5 s0 σ) := by
  unfold b_X12_caps_68 d_X12_caps_68
  refine FR_it (fun _ => ?_) (fun _ => ?_)
  · exact FR_some t
  · refine FR_ck (lo11 t.1) ?_
    refine FR_ck (ln11_19 t.1) ?_
    refine FR_nmR (w := 142) (lr11_19 t.1) ?_
    refine FR_ckI (okW_iff t.1 (by decide : Ar 14 16 142)) (fun q1374 => ?_)
    refine FR_nmS (To_pJ t (by omega)) (fun σ42 t => ?_)
    refine FR_ck (lo11 t.1) ?_
    refine FR_ck (ln11_20 t.1) ?_
    refine FR_nmR (w := 143) (lr11_20 t.1) ?_
    refine FR_ckI (okW_iff t.1 (by decide : Ar 14 16 143)) (fun q1377 => ?_)
    refine FR_nmS (To_pJ t (by omega)) (fun σ47 t => ?_)
    exact FR_some t
def c_X12_caps (v1 : Int32) (v2 : Int32) (v3 : Int64) (σ : Sg) : Option Sg :=
  nm (((8 : Int32) * (gI σ 130 16)) + v1) fun x28 =>
  if v2 = 0 then (
    ck (ix x28 16) <|
    ck (ix x28 16) <|
    if (gJ σ 142 x28.toNatClampNeg) ≤ (v3 * (gJ σ 143 x28.toNatClampNeg)) then (
      d_X12_caps_68 v3 x28 (0 : Int32) σ)
    else (
      d_X12_caps_68 v3 x28 (1 : Int32) σ))
  else (
    ck (ix x28 16) <|
    ck (ix x28 16) <|
    if (v3 * (gJ σ 143 x28.toNatClampNeg)) ≤ (gJ σ 142 x28.toNatClampNeg) then (
      d_X12_caps_68 v3 x28 (0 : Int32) σ)
    else (
      d_X12_caps_68 v3 x28 (1 : Int32) σ))
theorem k_f_X12_caps {lo hi : Nat} {σ0 : Sg} {v1 : Int32} {v2 : Int32} {v3 : Int64} {σ : Sg} (t : To lo hi σ0 σ) (w_v0 : lo ≤ 130 ∧ 168 ≤ hi) : FR (fun q => To lo hi σ0 q) (f_X12_caps 130 v1 v2 v3 σ) (c_X12_caps v1 v2 v3 σ) := by
  unfold f_X12_caps c_X12_caps
  refine FR_ck (lo11 t.1) ?_
  refine FR_nm (fun x28 => ?_)
  refine FR_it (fun _ => ?_) (fun _ => ?_)
  · refine FR_ck (ln11_19 t.1) ?_
    refine FR_nmR (w := 142) (lr11_19 t.1) ?_
    refine FR_ckI (okA_iff t.1 (by decide : Ar 14 16 142)) (fun q1380 => ?_)
    refine FR_ck (ln11_20 t.1) ?_
    refine FR_nmR (w := 143) (lr11_20 t.1) ?_
    refine FR_ckI (okA_iff t.1 (by decide : Ar 14 16 143)) (fun q1382 => ?_)
    refine FR_it (fun _ => ?_) (fun _ => ?_)
    · exact k_b_X12_caps_68 t (by omega)
    · exact k_b_X12_caps_68 t (by omega)
  · refine FR_ck (ln11_19 t.1) ?_
    refine FR_nmR (w := 142) (lr11_19 t.1) ?_
    refine FR_ckI (okA_iff t.1 (by decide : Ar 14 16 142)) (fun q1384 => ?_)
    refine FR_ck (ln11_20 t.1) ?_
    refine FR_nmR (w := 143) (lr11_20 t.1) ?_
    refine FR_ckI (okA_iff t.1 (by decide : Ar 14 16 143)) (fun q1386 => ?_)
    refine FR_it (fun _ => ?_) (fun _ => ?_)
    · exact k_b_X12_caps_68 t (by omega)
    · exact k_b_X12_caps_68 t (by omega)
def d_X12_days_14 : Nat → Int32 → Int32 → Int32 → Int32 → Int32 → Sg → Option Sg
  | 0, _, _, _, _, _, _ => none
  | n + 1, v1, v2, v3, v4, v5, σ =>
  if v3 ≤ v5 then (
    some σ)
  else (
    if (gI σ 130 32) = 0 then (
      ck (ix v4 16) <|
      ck (ix v2 8) <|
      ck (ix v4 16) <|
      ck (ix v2 8) <|
      bp (f_X12_times ((gJ σ 142 v4.toNatClampNeg) * ((gI σ 131 v2.toNatClampNeg).toInt64)) ((gJ σ 143 v4.toNatClampNeg) * ((gI σ 132 v2.toNatClampNeg).toInt64)) (1 : Int32)) fun x47 =>
      ck (ix v4 16) <|
      ck (ix v4 16) <|
      ck (ix v4 16) <|
      bd (c_X12_becomes n v1 ((gJ σ 142 v4.toNatClampNeg) + (x47 * (gJ σ 143 v4.toNatClampNeg))) (gJ σ 143 v4.toNatClampNeg) σ) fun x56 σ55 =>
      nm (v5 + (1 : Int32)) fun x57 =>
      d_X12_days_14 n v1 v2 v3 v4 x57 σ55)
    else (
      some σ))
theorem k_b_X12_days_14 {lo hi : Nat} {σ0 : Sg} : ∀ {n : Nat} {v1 : Int32} {v2 : Int32} {v3 : Int32} {v4 : Int32} {v5 : Int32} {σ : Sg}, To lo hi σ0 σ → lo ≤ 130 ∧ 168 ≤ hi → FR (fun q => To lo hi σ0 q) (b_X12_days_14 n 130 v1 v2 v3 v4 v5 σ) (d_X12_days_14 n v1 v2 v3 v4 v5 σ) := by
  intro n
  induction n with
  | zero => intro v1 v2 v3 v4 v5 σ t w_v0; exact FR_none
  | succ n ih =>
    intro v1 v2 v3 v4 v5 σ t w_v0
    unfold b_X12_days_14 d_X12_days_14
    refine FR_it (fun _ => ?_) (fun _ => ?_)
    · exact FR_some t
    · refine FR_ck (lo11 t.1) ?_
      refine FR_it (fun _ => ?_) (fun _ => ?_)
      · refine FR_ck (ln11_19 t.1) ?_
        refine FR_nmR (w := 142) (lr11_19 t.1) ?_
        refine FR_ckI (okA_iff t.1 (by decide : Ar 14 16 142)) (fun q1389 => ?_)
        refine FR_ck (ln11_1 t.1) ?_
        refine FR_nmR (w := 131) (lr11_1 t.1) ?_
        refine FR_ckI (okA_iff t.1 (by decide : Ar 13 8 131)) (fun q1391 => ?_)
        refine FR_ck (ln11_20 t.1) ?_
        refine FR_nmR (w := 143) (lr11_20 t.1) ?_
        refine FR_ckI (okA_iff t.1 (by decide : Ar 14 16 143)) (fun q1393 => ?_)
        refine FR_ck (ln11_2 t.1) ?_
        refine FR_nmR (w := 132) (lr11_2 t.1) ?_
        refine FR_ckI (okA_iff t.1 (by decide : Ar 13 8 132)) (fun q1395 => ?_)
        refine FR_nmP (fun x47 => ?_)
        refine FR_nmR (w := 142) (lr11_19 t.1) ?_
        refine FR_ckI (okA_iff t.1 (by decide : Ar 14 16 142)) (fun q1396 => ?_)
        refine FR_nmR (w := 143) (lr11_20 t.1) ?_
        refine FR_ckI (okA_iff t.1 (by decide : Ar 14 16 143)) (fun q1397 => ?_)
        refine FR_nmR (w := 143) (lr11_20 t.1) ?_
        refine FR_ckI (okA_iff t.1 (by decide : Ar 14 16 143)) (fun q1398 => ?_)
        refine FR_bd (k_f_X12_becomes t (by omega)) (fun x56 σ55 t => ?_)
        refine FR_nm (fun x57 => ?_)
        exact ih t (by omega)
      · exact FR_some t
def c_X12_days (n : Nat) (v1 : Int32) (v2 : Int32) (v3 : Int32) (σ : Sg) : Option Sg :=
  nm (((8 : Int32) * (gI σ 130 16)) + v1) fun x30 =>
  d_X12_days_14 n v1 v2 v3 x30 (0 : Int32) σ
theorem k_f_X12_days {lo hi : Nat} {σ0 : Sg} {n : Nat} {v1 : Int32} {v2 : Int32} {v3 : Int32} {σ : Sg} (t : To lo hi σ0 σ) (w_v0 : lo ≤ 130 ∧ 168 ≤ hi) : FR (fun q => To lo hi σ0 q) (f_X12_days n 130 v1 v2 v3 σ) (c_X12_days n v1 v2 v3 σ) := by
  unfold f_X12_days c_X12_days
  refine FR_ck (lo11 t.1) ?_
  refine FR_nm (fun x30 => ?_)
  exact k_b_X12_days_14 t (by omega)
def d_X12_does_138 (n : Nat) (v3 : Int32) (v7 : Int64) (σ : Sg) : Option Sg :=
  bp (c_X12_plain n v3 v7 σ) fun σ144 =>
  some σ144
theorem k_b_X12_does_138 {lo hi : Nat} {σ0 : Sg} {n : Nat} {v3 : Int32} {v7 : Int64} {σ : Sg} (t : To lo hi σ0 σ) (w_v0 : lo ≤ 130 ∧ 168 ≤ hi) : FR (fun q => To lo hi σ0 q) (b_X12_does_138 n 130 v3 v7 σ) (d_X12_does_138 n v3 v7 σ) := by
  unfold b_X12_does_138 d_X12_does_138
  refine FR_ck (lo11 t.1) ?_
  refine FR_bp (k_f_X12_plain t (by omega)) (fun σ144 t => ?_)
  exact FR_some t
def d_X12_does_110 : Nat → Int32 → Int64 → Int32 → Sg → Option Sg
  | 0, _, _, _, _ => none
  | n + 1, v3, v7, v9, σ =>
  if (gI σ 130 17) ≤ v9 then (
    d_X12_does_138 n v3 v7 σ)
  else (
    ck (ix v9 12) <|
    nm (v7 + ((gI σ 141 v9.toNatClampNeg).toInt64)) fun x148 =>
    nm (v9 + (1 : Int32)) fun x149 =>
    d_X12_does_110 n v3 x148 x149 σ)
theorem k_b_X12_does_110 {lo hi : Nat} {σ0 : Sg} : ∀ {n : Nat} {v3 : Int32} {v7 : Int64} {v9 : Int32} {σ : Sg}, To lo hi σ0 σ → lo ≤ 130 ∧ 168 ≤ hi → FR (fun q => To lo hi σ0 q) (b_X12_does_110 n 130 v3 v7 v9 σ) (d_X12_does_110 n v3 v7 v9 σ) := by
  intro n
  induction n with
  | zero => intro v3 v7 v9 σ t w_v0; exact FR_none
  | succ n ih =>
    intro v3 v7 v9 σ t w_v0
    unfold b_X12_does_110 d_X12_does_110
    refine FR_ck (lo11 t.1) ?_
    refine FR_it (fun _ => ?_) (fun _ => ?_)
    · exact k_b_X12_does_138 t (by omega)
    · refine FR_ck (ln11_18 t.1) ?_
      refine FR_nmR (w := 141) (lr11_18 t.1) ?_
      refine FR_ckI (okA_iff t.1 (by decide : Ar 13 12 141)) (fun q1403 => ?_)
      refine FR_nm (fun x148 => ?_)
      refine FR_nm (fun x149 => ?_)
      exact ih t (by omega)
def d_X12_does_169 (n : Nat) (s0 : Int32) (s1 : Int32) (s2 : Int32) (s3 : Int32) (σ : Sg) : Option Sg :=
  bp (c_X12_taxes n s3 s2 s1 s0 σ) fun σ156 =>
  some σ156
theorem k_b_X12_does_169 {lo hi : Nat} {σ0 : Sg} {n : Nat} {s0 : Int32} {s1 : Int32} {s2 : Int32} {s3 : Int32} {σ : Sg} (t : To lo hi σ0 σ) (w_s4 : lo ≤ 130 ∧ 168 ≤ hi) : FR (fun q => To lo hi σ0 q) (b_X12_does_169 n s0 s1 s2 s3 130 σ) (d_X12_does_169 n s0 s1 s2 s3 σ) := by
  unfold b_X12_does_169 d_X12_does_169
  refine FR_ck (lo11 t.1) ?_
  refine FR_bp (k_f_X12_taxes t (by omega)) (fun σ156 t => ?_)
  exact FR_some t
def c_X12_does (n : Nat) (v1 : Int32) (v2 : Int32) (σ : Sg) : Option Sg :=
  ck (ix v2 80) <|
  nm (gI σ 138 v2.toNatClampNeg) fun x126 =>
  ck (ix v2 80) <|
  nm (gI σ 139 v2.toNatClampNeg) fun x130 =>
  ck (ix v2 80) <|
  nm (gI σ 140 v2.toNatClampNeg) fun x134 =>
  nm (((8 : Int32) * (gI σ 130 16)) + x126) fun x135 =>
  ck (ix v2 80) <|
  if (gI σ 137 v2.toNatClampNeg) = 0 then (
    d_X12_does_110 n x126 (0 : Int64) (0 : Int32) σ)
  else (
    if (gI σ 137 v2.toNatClampNeg) = 1 then (
      ck (ix v2 80) <|
      if (gI σ 137 v2.toNatClampNeg) = (2 : Int32) then (
        d_X12_does_169 n (1 : Int32) x134 x130 x126 σ)
      else (
        d_X12_does_169 n (0 : Int32) x134 x130 x126 σ))
    else (
      if (gI σ 137 v2.toNatClampNeg) = 2 then (
        ck (ix v2 80) <|
        if (gI σ 137 v2.toNatClampNeg) = (2 : Int32) then (
          d_X12_does_169 n (1 : Int32) x134 x130 x126 σ)
        else (
          d_X12_does_169 n (0 : Int32) x134 x130 x126 σ))
      else (
        if (gI σ 137 v2.toNatClampNeg) = 3 then (
          bp (c_X12_rates n x126 x130 x134 σ) fun σ163 =>
          some σ163)
        else (
          if (gI σ 137 v2.toNatClampNeg) = 4 then (
            ck (ix x135 16) <|
            ck (ix x135 16) <|
            bp (f_X12_times (gJ σ 142 x135.toNatClampNeg) ((gJ σ 143 x135.toNatClampNeg) * (x134.toInt64)) x130) fun x172 =>
            bd (c_X12_becomesWhole n x126 ((x134.toInt64) * x172) σ) fun x175 σ174 =>
            some σ174)
          else (
            if (gI σ 137 v2.toNatClampNeg) = 5 then (
              bp (c_X12_adds n x126 x130 x134 σ) fun σ178 =>
              some σ178)
            else (
              if (gI σ 137 v2.toNatClampNeg) = 6 then (
                ck (ix x135 16) <|
                if (gJ σ 143 x135.toNatClampNeg) = (1 : Int64) then (
                  ck (ix x135 16) <|
                  bp (c_X12_splits n (gJ σ 142 x135.toNatClampNeg) x130 x134 σ) fun σ188 =>
                  nm (pI σ188 130 27 (1 : Int32)) fun σ190 =>
                  ck (ix x135 16) <|
                  ck ((gI σ190 149 x135.toNatClampNeg) = 0 ∨ (gI σ190 149 x135.toNatClampNeg) = 1) <|
                  nm (pI σ190 130 28 (gI σ190 149 x135.toNatClampNeg)) fun σ196 =>
                  ck (ix x135 16) <|
                  nm (pJ σ196 130 29 (gJ σ196 142 x135.toNatClampNeg)) fun σ201 =>
                  nm (pI σ201 130 30 x134) fun σ203 =>
                  some σ203)
                else (
                  nm (pI σ 130 32 (-5 : Int32)) fun σ204 =>
                  some σ204))
              else (
                if (gI σ 137 v2.toNatClampNeg) = 7 then (
                  ck (ix (((8 : Int32) * (gI σ 130 16)) + x130) 16) <|
                  bd (c_X12_becomesWhole n x126 (gJ σ 144 (((8 : Int32) * (gI σ 130 16)) + x130).toNatClampNeg) σ) fun x211 σ210 =>
                  if x211 = 0 then (
                    some σ210)
                  else (
                    ck ((gI σ210 130 28) = 0 ∨ (gI σ210 130 28) = 1) <|
                    ck (ix x135 16) <|
                    nm (pI σ210 149 x135.toNatClampNeg (gI σ210 130 28)) fun σ218 =>
                    some σ218))
                else (
                  if (gI σ 137 v2.toNatClampNeg) = 8 then (
                    bp (c_X12_carries n x126 v1 σ) fun σ221 =>
                    some σ221)
                  else (
                    if (gI σ 137 v2.toNatClampNeg) = 9 then (
                      bp (c_X12_caps x126 x130 (x134.toInt64) σ) fun σ224 =>
                      some σ224)
                    else (
                      if (gI σ 137 v2.toNatClampNeg) = 10 then (
                        bp (c_X12_books x126 x130 x134 σ) fun σ227 =>
                        some σ227)
                      else (
                        if (gI σ 137 v2.toNatClampNeg) = 11 then (
                          ck (ix (((8 : Int32) * (gI σ 130 16)) + x130) 16) <|
                          ck (ix (((8 : Int32) * (gI σ 130 16)) + x130) 16) <|
                          bp (f_X12_times (gJ σ 142 (((8 : Int32) * (gI σ 130 16)) + x130).toNatClampNeg) (gJ σ 143 (((8 : Int32) * (gI σ 130 16)) + x130).toNatClampNeg) x134) fun x236 =>
                          bd (c_X12_becomesWhole n x126 x236 σ) fun x239 σ238 =>
                          if x239 = 0 then (
                            some σ238)
                          else (
                            ck (ix x135 16) <|
                            nm (pI σ238 149 x135.toNatClampNeg (1 : Int32)) fun σ245 =>
                            some σ245))
                        else (
                          bp (c_X12_days n x126 x130 x134 σ) fun σ247 =>
                          some σ247))))))))))))
theorem k_f_X12_does {lo hi : Nat} {σ0 : Sg} {n : Nat} {v1 : Int32} {v2 : Int32} {σ : Sg} (t : To lo hi σ0 σ) (w_v0 : lo ≤ 130 ∧ 168 ≤ hi) : FR (fun q => To lo hi σ0 q) (f_X12_does n 130 v1 v2 σ) (c_X12_does n v1 v2 σ) := by
  unfold f_X12_does c_X12_does
  refine FR_ck (lo11 t.1) ?_
  refine FR_ck (ln11_10 t.1) ?_
  refine FR_nmR (w := 138) (lr11_10 t.1) ?_
  refine FR_ckI (okA_iff t.1 (by decide : Ar 13 80 138)) (fun q1407 => ?_)
  refine FR_nm (fun x126 => ?_)
  refine FR_ck (ln11_11 t.1) ?_
  refine FR_nmR (w := 139) (lr11_11 t.1) ?_
  refine FR_ckI (okA_iff t.1 (by decide : Ar 13 80 139)) (fun q1409 => ?_)
  refine FR_nm (fun x130 => ?_)
  refine FR_ck (ln11_12 t.1) ?_
  refine FR_nmR (w := 140) (lr11_12 t.1) ?_
  refine FR_ckI (okA_iff t.1 (by decide : Ar 13 80 140)) (fun q1411 => ?_)
  refine FR_nm (fun x134 => ?_)
  refine FR_nm (fun x135 => ?_)
  refine FR_ck (ln11_9 t.1) ?_
  refine FR_nmR (w := 137) (lr11_9 t.1) ?_
  refine FR_ckI (okA_iff t.1 (by decide : Ar 13 80 137)) (fun q1413 => ?_)
  refine FR_it (fun _ => ?_) (fun _ => ?_)
  · exact k_b_X12_does_110 t (by omega)
  · refine FR_it (fun _ => ?_) (fun _ => ?_)
    · refine FR_nmR (w := 137) (lr11_9 t.1) ?_
      refine FR_ckI (okA_iff t.1 (by decide : Ar 13 80 137)) (fun q1414 => ?_)
      refine FR_it (fun _ => ?_) (fun _ => ?_)
      · exact k_b_X12_does_169 t (by omega)
      · exact k_b_X12_does_169 t (by omega)
    · refine FR_it (fun _ => ?_) (fun _ => ?_)
      · refine FR_nmR (w := 137) (lr11_9 t.1) ?_
        refine FR_ckI (okA_iff t.1 (by decide : Ar 13 80 137)) (fun q1415 => ?_)
        refine FR_it (fun _ => ?_) (fun _ => ?_)
        · exact k_b_X12_does_169 t (by omega)
        · exact k_b_X12_does_169 t (by omega)
      · refine FR_it (fun _ => ?_) (fun _ => ?_)
        · refine FR_bp (k_f_X12_rates t (by omega)) (fun σ163 t => ?_)
          exact FR_some t
        · refine FR_it (fun _ => ?_) (fun _ => ?_)
          · refine FR_ck (ln11_19 t.1) ?_
            refine FR_nmR (w := 142) (lr11_19 t.1) ?_
            refine FR_ckI (okA_iff t.1 (by decide : Ar 14 16 142)) (fun q1417 => ?_)
            refine FR_ck (ln11_20 t.1) ?_
            refine FR_nmR (w := 143) (lr11_20 t.1) ?_
            refine FR_ckI (okA_iff t.1 (by decide : Ar 14 16 143)) (fun q1419 => ?_)
            refine FR_nmP (fun x172 => ?_)
            refine FR_bd (k_f_X12_becomesWhole t (by omega)) (fun x175 σ174 t => ?_)
            exact FR_some t
          · refine FR_it (fun _ => ?_) (fun _ => ?_)
            · refine FR_bp (k_f_X12_adds t (by omega)) (fun σ178 t => ?_)
              exact FR_some t
            · refine FR_it (fun _ => ?_) (fun _ => ?_)
              · refine FR_ck (ln11_20 t.1) ?_
                refine FR_nmR (w := 143) (lr11_20 t.1) ?_
                refine FR_ckI (okA_iff t.1 (by decide : Ar 14 16 143)) (fun q1421 => ?_)
                refine FR_it (fun _ => ?_) (fun _ => ?_)
                · refine FR_ck (ln11_19 t.1) ?_
                  refine FR_nmR (w := 142) (lr11_19 t.1) ?_
                  refine FR_ckI (okA_iff t.1 (by decide : Ar 14 16 142)) (fun q1423 => ?_)
                  refine FR_bp (k_f_X12_splits t (by omega)) (fun σ188 t => ?_)
                  refine FR_ck (lo11 t.1) ?_
                  refine FR_nmS (To_pI t (by omega)) (fun σ190 t => ?_)
                  refine FR_ck (lo11 t.1) ?_
                  refine FR_ck (ln11_26 t.1) ?_
                  refine FR_nmR (w := 149) (lr11_26 t.1) ?_
                  refine FR_ckI (okA_iff t.1 (by decide : Ar 15 16 149)) (fun q1427 => ?_)
                  refine FR_ckI Iff.rfl (fun q1428 => ?_)
                  refine FR_nmS (To_pI t (by omega)) (fun σ196 t => ?_)
                  refine FR_ck (lo11 t.1) ?_
                  refine FR_ck (ln11_19 t.1) ?_
                  refine FR_nmR (w := 142) (lr11_19 t.1) ?_
                  refine FR_ckI (okA_iff t.1 (by decide : Ar 14 16 142)) (fun q1431 => ?_)
                  refine FR_nmS (To_pJ t (by omega)) (fun σ201 t => ?_)
                  refine FR_ck (lo11 t.1) ?_
                  refine FR_nmS (To_pI t (by omega)) (fun σ203 t => ?_)
                  exact FR_some t
                · refine FR_nmS (To_pI t (by omega)) (fun σ204 t => ?_)
                  exact FR_some t
              · refine FR_it (fun _ => ?_) (fun _ => ?_)
                · refine FR_ck (ln11_21 t.1) ?_
                  refine FR_nmR (w := 144) (lr11_21 t.1) ?_
                  refine FR_ckI (okA_iff t.1 (by decide : Ar 14 16 144)) (fun q1434 => ?_)
                  refine FR_bd (k_f_X12_becomesWhole t (by omega)) (fun x211 σ210 t => ?_)
                  refine FR_it (fun _ => ?_) (fun _ => ?_)
                  · exact FR_some t
                  · refine FR_ck (lo11 t.1) ?_
                    refine FR_ck (ln11_26 t.1) ?_
                    refine FR_nmR (w := 149) (lr11_26 t.1) ?_
                    refine FR_ckI Iff.rfl (fun q1437 => ?_)
                    refine FR_ckI (okW_iff t.1 (by decide : Ar 15 16 149)) (fun q1438 => ?_)
                    refine FR_nmS (To_pI t (by omega)) (fun σ218 t => ?_)
                    exact FR_some t
                · refine FR_it (fun _ => ?_) (fun _ => ?_)
                  · refine FR_bp (k_f_X12_carries t (by omega)) (fun σ221 t => ?_)
                    exact FR_some t
                  · refine FR_it (fun _ => ?_) (fun _ => ?_)
                    · refine FR_bp (k_f_X12_caps t (by omega)) (fun σ224 t => ?_)
                      exact FR_some t
                    · refine FR_it (fun _ => ?_) (fun _ => ?_)
                      · refine FR_bp (k_f_X12_books t (by omega)) (fun σ227 t => ?_)
                        exact FR_some t
                      · refine FR_it (fun _ => ?_) (fun _ => ?_)
                        · refine FR_ck (ln11_19 t.1) ?_
                          refine FR_nmR (w := 142) (lr11_19 t.1) ?_
                          refine FR_ckI (okA_iff t.1 (by decide : Ar 14 16 142)) (fun q1440 => ?_)
                          refine FR_ck (ln11_20 t.1) ?_
                          refine FR_nmR (w := 143) (lr11_20 t.1) ?_
                          refine FR_ckI (okA_iff t.1 (by decide : Ar 14 16 143)) (fun q1442 => ?_)
                          refine FR_nmP (fun x236 => ?_)
                          refine FR_bd (k_f_X12_becomesWhole t (by omega)) (fun x239 σ238 t => ?_)
                          refine FR_it (fun _ => ?_) (fun _ => ?_)
                          · exact FR_some t
                          · refine FR_ck (lo11 t.1) ?_
                            refine FR_ck (ln11_26 t.1) ?_
                            refine FR_nmR (w := 149) (lr11_26 t.1) ?_
                            refine FR_ckI (okW_iff t.1 (by decide : Ar 15 16 149)) (fun q1445 => ?_)
                            refine FR_nmS (To_pI t (by omega)) (fun σ245 t => ?_)
                            exact FR_some t
                        · refine FR_bp (k_f_X12_days t (by omega)) (fun σ247 t => ?_)
                          exact FR_some t
