def c_X12_floats (n : Nat) (v1 : Int32) (v2 : Int32) (σ : Sg) : Option Sg :=
  nm (pD σ 130 45 (FP.dconst0)) fun σ28 =>
  d_X12_floats_7 n v1 v2 (0 : Int32) σ28
theorem k_f_X12_floats {lo hi : Nat} {σ0 : Sg} {n : Nat} {v1 : Int32} {v2 : Int32} {σ : Sg} (t : To lo hi σ0 σ) (w_v0 : lo ≤ 130 ∧ 168 ≤ hi) : FR (fun q => To lo hi σ0 q) (f_X12_floats n 130 v1 v2 σ) (c_X12_floats n v1 v2 σ) := by
  unfold f_X12_floats c_X12_floats
  refine FR_ck (lo11 t.1) ?_
  refine FR_nmS (To_pD t (by omega)) (fun σ28 t => ?_)
  exact k_b_X12_floats_7 t (by omega)
def d_X12_breaks_98 (n : Nat) (σ : Sg) : Option (Int32 × Sg) :=
  some ((0 : Int32), σ)
theorem k_b_X12_breaks_98 {lo hi : Nat} {σ0 : Sg} {n : Nat} {σ : Sg} (t : To lo hi σ0 σ) : FR (fun q => To lo hi σ0 q.2) (b_X12_breaks_98 n σ) (d_X12_breaks_98 n σ) := by
  unfold b_X12_breaks_98 d_X12_breaks_98
  exact FR_some t
def d_X12_breaks_82 (n : Nat) (v5 : Int32) (v6 : Int64) (σ : Sg) : Option (Int32 × Sg) :=
  if v5 = 0 then (
    if v6 = (0 : Int64) then (
      d_X12_breaks_98 n σ)
    else (
      some ((1 : Int32), σ)))
  else (
    d_X12_breaks_98 n σ)
theorem k_b_X12_breaks_82 {lo hi : Nat} {σ0 : Sg} {n : Nat} {v5 : Int32} {v6 : Int64} {σ : Sg} (t : To lo hi σ0 σ) : FR (fun q => To lo hi σ0 q.2) (b_X12_breaks_82 n v5 v6 σ) (d_X12_breaks_82 n v5 v6 σ) := by
  unfold b_X12_breaks_82 d_X12_breaks_82
  refine FR_it (fun _ => ?_) (fun _ => ?_)
  · refine FR_it (fun _ => ?_) (fun _ => ?_)
    · exact k_b_X12_breaks_98 t
    · exact FR_some t
  · exact k_b_X12_breaks_98 t
def d_X12_breaks_54 : Nat → Int32 → Int64 → Int32 → Sg → Option (Int32 × Sg)
  | 0, _, _, _, _ => none
  | n + 1, v5, v6, v8, σ =>
  if (8 : Int32) ≤ v8 then (
    d_X12_breaks_82 n v5 v6 σ)
  else (
    ck (ix ((8 : Int32) + v8) 16) <|
    nm (v6 + (gJ σ 146 ((8 : Int32) + v8).toNatClampNeg)) fun x56 =>
    nm (v8 + (1 : Int32)) fun x57 =>
    d_X12_breaks_54 n v5 x56 x57 σ)
theorem k_b_X12_breaks_54 {lo hi : Nat} {σ0 : Sg} : ∀ {n : Nat} {v5 : Int32} {v6 : Int64} {v8 : Int32} {σ : Sg}, To lo hi σ0 σ → FR (fun q => To lo hi σ0 q.2) (b_X12_breaks_54 n 130 v5 v6 v8 σ) (d_X12_breaks_54 n v5 v6 v8 σ) := by
  intro n
  induction n with
  | zero => intro v5 v6 v8 σ t; exact FR_none
  | succ n ih =>
    intro v5 v6 v8 σ t
    unfold b_X12_breaks_54 d_X12_breaks_54
    refine FR_it (fun _ => ?_) (fun _ => ?_)
    · exact k_b_X12_breaks_82 t
    · refine FR_ck (lo11 t.1) ?_
      refine FR_ck (ln11_23 t.1) ?_
      refine FR_nmR (w := 146) (lr11_23 t.1) ?_
      refine FR_ckI (okA_iff t.1 (by decide : Ar 14 16 146)) (fun q1677 => ?_)
      refine FR_nm (fun x56 => ?_)
      refine FR_nm (fun x57 => ?_)
      exact ih t
def d_X12_breaks_136 (n : Nat) (σ : Sg) : Option (Int32 × Sg) :=
  some ((0 : Int32), σ)
theorem k_b_X12_breaks_136 {lo hi : Nat} {σ0 : Sg} {n : Nat} {σ : Sg} (t : To lo hi σ0 σ) : FR (fun q => To lo hi σ0 q.2) (b_X12_breaks_136 n σ) (d_X12_breaks_136 n σ) := by
  unfold b_X12_breaks_136 d_X12_breaks_136
  exact FR_some t
def d_X12_breaks_171 (n : Nat) (σ : Sg) : Option (Int32 × Sg) :=
  some ((0 : Int32), σ)
theorem k_b_X12_breaks_171 {lo hi : Nat} {σ0 : Sg} {n : Nat} {σ : Sg} (t : To lo hi σ0 σ) : FR (fun q => To lo hi σ0 q.2) (b_X12_breaks_171 n σ) (d_X12_breaks_171 n σ) := by
  unfold b_X12_breaks_171 d_X12_breaks_171
  exact FR_some t
def d_X12_breaks_189 (n : Nat) (σ : Sg) : Option (Int32 × Sg) :=
  some ((0 : Int32), σ)
theorem k_b_X12_breaks_189 {lo hi : Nat} {σ0 : Sg} {n : Nat} {σ : Sg} (t : To lo hi σ0 σ) : FR (fun q => To lo hi σ0 q.2) (b_X12_breaks_189 n σ) (d_X12_breaks_189 n σ) := by
  unfold b_X12_breaks_189 d_X12_breaks_189
  exact FR_some t
def d_X12_breaks_210 (n : Nat) (σ : Sg) : Option (Int32 × Sg) :=
  some ((0 : Int32), σ)
theorem k_b_X12_breaks_210 {lo hi : Nat} {σ0 : Sg} {n : Nat} {σ : Sg} (t : To lo hi σ0 σ) : FR (fun q => To lo hi σ0 q.2) (b_X12_breaks_210 n σ) (d_X12_breaks_210 n σ) := by
  unfold b_X12_breaks_210 d_X12_breaks_210
  exact FR_some t
def c_X12_breaks (n : Nat) (v1 : Int32) (v2 : Int32) (v3 : Int32) (v4 : Int32) (σ : Sg) : Option (Int32 × Sg) :=
  bd (c_X12_triesAmount n v1 v4 σ) fun x47 σ46 =>
  if v2 = 0 then (
    d_X12_breaks_54 n x47 (0 : Int64) (0 : Int32) σ46)
  else (
    if v2 = 1 then (
      bp (c_X12_notes n σ46) fun σ61 =>
      bd (c_X12_triesAmount n v1 (-v4) σ61) fun x65 σ64 =>
      if x65 = x47 then (
        if x47 = 0 then (
          bp (c_X12_differs n (-1 : Int64) σ64) fun x70 =>
          if x70 = 0 then (
            d_X12_breaks_136 n σ64)
          else (
            some ((1 : Int32), σ64)))
        else (
          d_X12_breaks_136 n σ64))
      else (
        some ((1 : Int32), σ64)))
    else (
      if v2 = 2 then (
        bp (c_X12_notes n σ46) fun σ75 =>
        bd (c_X12_triesAmount n v3 v4 σ75) fun x79 σ78 =>
        if x79 = x47 then (
          if x47 = 0 then (
            bp (c_X12_differs n (1 : Int64) σ78) fun x84 =>
            if x84 = 0 then (
              d_X12_breaks_171 n σ78)
            else (
              some ((1 : Int32), σ78)))
          else (
            d_X12_breaks_171 n σ78))
        else (
          some ((1 : Int32), σ78)))
      else (
        if v2 = 3 then (
          if x47 = 0 then (
            bp (c_X12_isUnfair n σ46) fun x90 =>
            if x90 = 0 then (
              d_X12_breaks_189 n σ46)
            else (
              some ((1 : Int32), σ46)))
          else (
            d_X12_breaks_189 n σ46))
        else (
          if v2 = 4 then (
            ck (x47 = 0 ∨ x47 = 1) <|
            some (x47, σ46))
          else (
            if v2 = 5 then (
              if x47 = 0 then (
                if (gI σ46 130 31) ≤ 0 then (
                  d_X12_breaks_210 n σ46)
                else (
                  some ((1 : Int32), σ46)))
              else (
                d_X12_breaks_210 n σ46))
            else (
              if x47 = 0 then (
                bp (c_X12_notes n σ46) fun σ101 =>
                bp (c_X12_floats n v1 v4 σ101) fun σ104 =>
                bp (c_X12_differs n (1 : Int64) σ104) fun x107 =>
                ck (x107 = 0 ∨ x107 = 1) <|
                some (x107, σ104))
              else (
                some ((0 : Int32), σ46))))))))
theorem k_f_X12_breaks {lo hi : Nat} {σ0 : Sg} {n : Nat} {v1 : Int32} {v2 : Int32} {v3 : Int32} {v4 : Int32} {σ : Sg} (t : To lo hi σ0 σ) (w_v0 : lo ≤ 130 ∧ 168 ≤ hi) : FR (fun q => To lo hi σ0 q.2) (f_X12_breaks n 130 v1 v2 v3 v4 σ) (c_X12_breaks n v1 v2 v3 v4 σ) := by
  unfold f_X12_breaks c_X12_breaks
  refine FR_ck (lo11 t.1) ?_
  refine FR_bd (k_f_X12_triesAmount t (by omega)) (fun x47 σ46 t => ?_)
  refine FR_it (fun _ => ?_) (fun _ => ?_)
  · exact k_b_X12_breaks_54 t
  · refine FR_it (fun _ => ?_) (fun _ => ?_)
    · refine FR_ck (lo11 t.1) ?_
      refine FR_bp (k_f_X12_notes t (by omega)) (fun σ61 t => ?_)
      refine FR_ck (lo11 t.1) ?_
      refine FR_bd (k_f_X12_triesAmount t (by omega)) (fun x65 σ64 t => ?_)
      refine FR_it (fun _ => ?_) (fun _ => ?_)
      · refine FR_it (fun _ => ?_) (fun _ => ?_)
        · refine FR_ck (lo11 t.1) ?_
          refine FR_bpP (k_f_X12_differs t).1 (fun x70 => ?_)
          refine FR_it (fun _ => ?_) (fun _ => ?_)
          · exact k_b_X12_breaks_136 t
          · exact FR_some t
        · exact k_b_X12_breaks_136 t
      · exact FR_some t
    · refine FR_it (fun _ => ?_) (fun _ => ?_)
      · refine FR_ck (lo11 t.1) ?_
        refine FR_bp (k_f_X12_notes t (by omega)) (fun σ75 t => ?_)
        refine FR_ck (lo11 t.1) ?_
        refine FR_bd (k_f_X12_triesAmount t (by omega)) (fun x79 σ78 t => ?_)
        refine FR_it (fun _ => ?_) (fun _ => ?_)
        · refine FR_it (fun _ => ?_) (fun _ => ?_)
          · refine FR_ck (lo11 t.1) ?_
            refine FR_bpP (k_f_X12_differs t).1 (fun x84 => ?_)
            refine FR_it (fun _ => ?_) (fun _ => ?_)
            · exact k_b_X12_breaks_171 t
            · exact FR_some t
          · exact k_b_X12_breaks_171 t
        · exact FR_some t
      · refine FR_it (fun _ => ?_) (fun _ => ?_)
        · refine FR_it (fun _ => ?_) (fun _ => ?_)
          · refine FR_ck (lo11 t.1) ?_
            refine FR_bpP (k_f_X12_isUnfair t).1 (fun x90 => ?_)
            refine FR_it (fun _ => ?_) (fun _ => ?_)
            · exact k_b_X12_breaks_189 t
            · exact FR_some t
          · exact k_b_X12_breaks_189 t
        · refine FR_it (fun _ => ?_) (fun _ => ?_)
          · refine FR_ckI Iff.rfl (fun q1686 => ?_)
            exact FR_some t
          · refine FR_it (fun _ => ?_) (fun _ => ?_)
            · refine FR_it (fun _ => ?_) (fun _ => ?_)
              · refine FR_ck (lo11 t.1) ?_
                refine FR_it (fun _ => ?_) (fun _ => ?_)
                · exact k_b_X12_breaks_210 t
                · exact FR_some t
              · exact k_b_X12_breaks_210 t
            · refine FR_it (fun _ => ?_) (fun _ => ?_)
              · refine FR_ck (lo11 t.1) ?_
                refine FR_bp (k_f_X12_notes t (by omega)) (fun σ101 t => ?_)
                refine FR_ck (lo11 t.1) ?_
                refine FR_bp (k_f_X12_floats t (by omega)) (fun σ104 t => ?_)
                refine FR_ck (lo11 t.1) ?_
                refine FR_bpP (k_f_X12_differs t).1 (fun x107 => ?_)
                refine FR_ckI Iff.rfl (fun q1691 => ?_)
                exact FR_some t
              · exact FR_some t
def d_X12_leastOf_4 : Nat → Int32 → Int32 → Int32 → Int32 → Int32 → Sg → Option (Int32 × Sg)
  | 0, _, _, _, _, _, _ => none
  | n + 1, v1, v2, v3, v5, v6, σ =>
  if v5 < v6 then (
    some ((9999999 : Int32), σ))
  else (
    bd (c_X12_breaks n v1 v2 v3 v6 σ) fun x10 σ9 =>
    if x10 = 0 then (
      nm (v6 + (1 : Int32)) fun x12 =>
      d_X12_leastOf_4 n v1 v2 v3 v5 x12 σ9)
    else (
      some (v6, σ9)))
theorem k_b_X12_leastOf_4 {lo hi : Nat} {σ0 : Sg} : ∀ {n : Nat} {v1 : Int32} {v2 : Int32} {v3 : Int32} {v5 : Int32} {v6 : Int32} {σ : Sg}, To lo hi σ0 σ → lo ≤ 130 ∧ 168 ≤ hi → FR (fun q => To lo hi σ0 q.2) (b_X12_leastOf_4 n 130 v1 v2 v3 v5 v6 σ) (d_X12_leastOf_4 n v1 v2 v3 v5 v6 σ) := by
  intro n
  induction n with
  | zero => intro v1 v2 v3 v5 v6 σ t w_v0; exact FR_none
  | succ n ih =>
    intro v1 v2 v3 v5 v6 σ t w_v0
    unfold b_X12_leastOf_4 d_X12_leastOf_4
    refine FR_it (fun _ => ?_) (fun _ => ?_)
    · exact FR_some t
    · refine FR_ck (lo11 t.1) ?_
      refine FR_bd (k_f_X12_breaks t (by omega)) (fun x10 σ9 t => ?_)
      refine FR_it (fun _ => ?_) (fun _ => ?_)
      · refine FR_nm (fun x12 => ?_)
        exact ih t (by omega)
      · exact FR_some t
def c_X12_leastOf (n : Nat) (v1 : Int32) (v2 : Int32) (v3 : Int32) (v4 : Int32) (v5 : Int32) (σ : Sg) : Option (Int32 × Sg) :=
  d_X12_leastOf_4 n v1 v2 v3 v5 v4 σ
theorem k_f_X12_leastOf {lo hi : Nat} {σ0 : Sg} {n : Nat} {v1 : Int32} {v2 : Int32} {v3 : Int32} {v4 : Int32} {v5 : Int32} {σ : Sg} (t : To lo hi σ0 σ) (w_v0 : lo ≤ 130 ∧ 168 ≤ hi) : FR (fun q => To lo hi σ0 q.2) (f_X12_leastOf n 130 v1 v2 v3 v4 v5 σ) (c_X12_leastOf n v1 v2 v3 v4 v5 σ) := by
  unfold f_X12_leastOf c_X12_leastOf
  exact k_b_X12_leastOf_4 t (by omega)
def d_X12_least_39 (n : Nat) (v1 : Int32) (v2 : Int32) (v3 : Int32) (v4 : Int32) (v5 : Int32) (σ : Sg) : Option (Int32 × Sg) :=
  bp (f_X12_isSpan v4 v5 (2000 : Int32)) fun x25 =>
  if x25 = 0 then (
    some ((-1 : Int32), σ))
  else (
    bd (c_X12_leastOf n v1 v2 v3 v4 v5 σ) fun x30 σ29 =>
    some (x30, σ29))
theorem k_b_X12_least_39 {lo hi : Nat} {σ0 : Sg} {n : Nat} {v1 : Int32} {v2 : Int32} {v3 : Int32} {v4 : Int32} {v5 : Int32} {σ : Sg} (t : To lo hi σ0 σ) (w_v0 : lo ≤ 130 ∧ 168 ≤ hi) : FR (fun q => To lo hi σ0 q.2) (b_X12_least_39 n 130 v1 v2 v3 v4 v5 σ) (d_X12_least_39 n v1 v2 v3 v4 v5 σ) := by
  unfold b_X12_least_39 d_X12_least_39
  refine FR_nmP (fun x25 => ?_)
  refine FR_it (fun _ => ?_) (fun _ => ?_)
  · exact FR_some t
  · refine FR_ck (lo11 t.1) ?_
    refine FR_bd (k_f_X12_leastOf t (by omega)) (fun x30 σ29 t => ?_)
    exact FR_some t
def c_X12_least (n : Nat) (v1 : Int32) (v2 : Int32) (v3 : Int32) (v4 : Int32) (v5 : Int32) (σ : Sg) : Option (Int32 × Sg) :=
  bp (c_X12_isProgram v1 σ) fun x17 =>
  if x17 = 0 then (
    some ((-1 : Int32), σ))
  else (
    bp (f_X12_in v2 (0 : Int32) (6 : Int32)) fun x20 =>
    if x20 = 0 then (
      some ((-1 : Int32), σ))
    else (
      if v2 = (2 : Int32) then (
        bp (c_X12_isProgram v3 σ) fun x32 =>
        if x32 = 0 then (
          some ((-1 : Int32), σ))
        else (
          d_X12_least_39 n v1 v2 v3 v4 v5 σ))
      else (
        if v3 = (-1 : Int32) then (
          d_X12_least_39 n v1 v2 v3 v4 v5 σ)
        else (
          some ((-1 : Int32), σ)))))
theorem k_f_X12_least {lo hi : Nat} {σ0 : Sg} {n : Nat} {v1 : Int32} {v2 : Int32} {v3 : Int32} {v4 : Int32} {v5 : Int32} {σ : Sg} (t : To lo hi σ0 σ) (w_v0 : lo ≤ 130 ∧ 168 ≤ hi) : FR (fun q => To lo hi σ0 q.2) (f_X12_least n 130 v1 v2 v3 v4 v5 σ) (c_X12_least n v1 v2 v3 v4 v5 σ) := by
  unfold f_X12_least c_X12_least
  refine FR_ck (lo11 t.1) ?_
  refine FR_bpP (k_f_X12_isProgram t).1 (fun x17 => ?_)
  refine FR_it (fun _ => ?_) (fun _ => ?_)
  · exact FR_some t
  · refine FR_nmP (fun x20 => ?_)
    refine FR_it (fun _ => ?_) (fun _ => ?_)
    · exact FR_some t
    · refine FR_it (fun _ => ?_) (fun _ => ?_)
      · refine FR_bpP (k_f_X12_isProgram t).1 (fun x32 => ?_)
        refine FR_it (fun _ => ?_) (fun _ => ?_)
        · exact FR_some t
        · exact k_b_X12_least_39 t (by omega)
      · refine FR_it (fun _ => ?_) (fun _ => ?_)
        · exact k_b_X12_least_39 t (by omega)
        · exact FR_some t
def d_X12_steps_107 : Nat → Int32 → Int32 → Sg → Option (Int32 × Sg)
  | 0, _, _, _ => none
  | n + 1, v4, v5, σ =>
  if v5 ≤ v4 then (
    some ((1 : Int32), σ))
  else (
    ck (ix v4 6) <|
    nm (gI σ 162 v4.toNatClampNeg) fun x90 =>
    ck (ix v5 6) <|
    ck (ix v4 6) <|
    nm (pI σ 162 v4.toNatClampNeg (gI σ 162 v5.toNatClampNeg)) fun σ95 =>
    ck (ix v5 6) <|
    nm (pI σ95 162 v5.toNatClampNeg x90) fun σ100 =>
    nm (v4 + (1 : Int32)) fun x101 =>
    nm (v5 + ((-1) : Int32)) fun x102 =>
    d_X12_steps_107 n x101 x102 σ100)
theorem k_b_X12_steps_107 {lo hi : Nat} {σ0 : Sg} : ∀ {n : Nat} {v4 : Int32} {v5 : Int32} {σ : Sg}, To lo hi σ0 σ → lo ≤ 130 ∧ 168 ≤ hi → FR (fun q => To lo hi σ0 q.2) (b_X12_steps_107 n 130 v4 v5 σ) (d_X12_steps_107 n v4 v5 σ) := by
  intro n
  induction n with
  | zero => intro v4 v5 σ t w_v0; exact FR_none
  | succ n ih =>
    intro v4 v5 σ t w_v0
    unfold b_X12_steps_107 d_X12_steps_107
    refine FR_it (fun _ => ?_) (fun _ => ?_)
    · exact FR_some t
    · refine FR_ck (lo11 t.1) ?_
      refine FR_ck (ln11_46 t.1) ?_
      refine FR_nmR (w := 162) (lr11_46 t.1) ?_
      refine FR_ckI (okA_iff t.1 (by decide : Ar 13 6 162)) (fun q1697 => ?_)
      refine FR_nm (fun x90 => ?_)
      refine FR_nmR (w := 162) (lr11_46 t.1) ?_
      refine FR_nmR (w := 162) (lr11_46 t.1) ?_
      refine FR_ckI (okA_iff t.1 (by decide : Ar 13 6 162)) (fun q1698 => ?_)
      refine FR_ckI (okW_iff t.1 (by decide : Ar 13 6 162)) (fun q1699 => ?_)
      refine FR_nmS (To_pI t (by omega)) (fun σ95 t => ?_)
      refine FR_ck (lo11 t.1) ?_
      refine FR_ck (ln11_46 t.1) ?_
      refine FR_nmR (w := 162) (lr11_46 t.1) ?_
      refine FR_ckI (okW_iff t.1 (by decide : Ar 13 6 162)) (fun q1702 => ?_)
      refine FR_nmS (To_pI t (by omega)) (fun σ100 t => ?_)
      refine FR_nm (fun x101 => ?_)
      refine FR_nm (fun x102 => ?_)
      exact ih t (by omega)
def d_X12_steps_68 (n : Nat) (v1 : Int32) (v2 : Int32) (σ : Sg) : Option (Int32 × Sg) :=
  ck (ix v1 6) <|
  nm (gI σ 162 v1.toNatClampNeg) fun x71 =>
  ck (ix v2 6) <|
  ck (ix v1 6) <|
  nm (pI σ 162 v1.toNatClampNeg (gI σ 162 v2.toNatClampNeg)) fun σ76 =>
  ck (ix v2 6) <|
  nm (pI σ76 162 v2.toNatClampNeg x71) fun σ81 =>
  nm (v1 + (1 : Int32)) fun x82 =>
  nm ((gI σ81 130 3) - (1 : Int32)) fun x84 =>
  d_X12_steps_107 n x82 x84 σ81
theorem k_b_X12_steps_68 {lo hi : Nat} {σ0 : Sg} {n : Nat} {v1 : Int32} {v2 : Int32} {σ : Sg} (t : To lo hi σ0 σ) (w_v0 : lo ≤ 130 ∧ 168 ≤ hi) : FR (fun q => To lo hi σ0 q.2) (b_X12_steps_68 n 130 v1 v2 σ) (d_X12_steps_68 n v1 v2 σ) := by
  unfold b_X12_steps_68 d_X12_steps_68
  refine FR_ck (lo11 t.1) ?_
  refine FR_ck (ln11_46 t.1) ?_
  refine FR_nmR (w := 162) (lr11_46 t.1) ?_
  refine FR_ckI (okA_iff t.1 (by decide : Ar 13 6 162)) (fun q1705 => ?_)
  refine FR_nm (fun x71 => ?_)
  refine FR_nmR (w := 162) (lr11_46 t.1) ?_
  refine FR_nmR (w := 162) (lr11_46 t.1) ?_
  refine FR_ckI (okA_iff t.1 (by decide : Ar 13 6 162)) (fun q1706 => ?_)
  refine FR_ckI (okW_iff t.1 (by decide : Ar 13 6 162)) (fun q1707 => ?_)
  refine FR_nmS (To_pI t (by omega)) (fun σ76 t => ?_)
  refine FR_ck (lo11 t.1) ?_
  refine FR_ck (ln11_46 t.1) ?_
  refine FR_nmR (w := 162) (lr11_46 t.1) ?_
  refine FR_ckI (okW_iff t.1 (by decide : Ar 13 6 162)) (fun q1710 => ?_)
  refine FR_nmS (To_pI t (by omega)) (fun σ81 t => ?_)
  refine FR_nm (fun x82 => ?_)
  refine FR_ck (lo11 t.1) ?_
  refine FR_nm (fun x84 => ?_)
  exact k_b_X12_steps_107 t (by omega)
def d_X12_steps_47 : Nat → Int32 → Int32 → Sg → Option (Int32 × Sg)
  | 0, _, _, _ => none
  | n + 1, v1, v2, σ =>
  ck (ix v2 6) <|
  ck (ix v1 6) <|
  if (gI σ 162 v1.toNatClampNeg) ≤ (gI σ 162 v2.toNatClampNeg) then (
    d_X12_steps_68 n v1 v2 σ)
  else (
    nm (v2 + ((-1) : Int32)) fun x103 =>
    d_X12_steps_47 n v1 x103 σ)
theorem k_b_X12_steps_47 {lo hi : Nat} {σ0 : Sg} : ∀ {n : Nat} {v1 : Int32} {v2 : Int32} {σ : Sg}, To lo hi σ0 σ → lo ≤ 130 ∧ 168 ≤ hi → FR (fun q => To lo hi σ0 q.2) (b_X12_steps_47 n 130 v1 v2 σ) (d_X12_steps_47 n v1 v2 σ) := by
  intro n
  induction n with
  | zero => intro v1 v2 σ t w_v0; exact FR_none
  | succ n ih =>
    intro v1 v2 σ t w_v0
    unfold b_X12_steps_47 d_X12_steps_47
    refine FR_ck (lo11 t.1) ?_
    refine FR_ck (ln11_46 t.1) ?_
    refine FR_nmR (w := 162) (lr11_46 t.1) ?_
    refine FR_ckI (okA_iff t.1 (by decide : Ar 13 6 162)) (fun q1714 => ?_)
    refine FR_nmR (w := 162) (lr11_46 t.1) ?_
    refine FR_ckI (okA_iff t.1 (by decide : Ar 13 6 162)) (fun q1715 => ?_)
    refine FR_it (fun _ => ?_) (fun _ => ?_)
    · exact k_b_X12_steps_68 t (by omega)
    · refine FR_nm (fun x103 => ?_)
      exact ih t (by omega)
def d_X12_steps_34 (n : Nat) (v1 : Int32) (σ : Sg) : Option (Int32 × Sg) :=
  if 0 ≤ v1 then (
    nm ((gI σ 130 3) - (1 : Int32)) fun x59 =>
    d_X12_steps_47 n v1 x59 σ)
  else (
    some ((0 : Int32), σ))
theorem k_b_X12_steps_34 {lo hi : Nat} {σ0 : Sg} {n : Nat} {v1 : Int32} {σ : Sg} (t : To lo hi σ0 σ) (w_v0 : lo ≤ 130 ∧ 168 ≤ hi) : FR (fun q => To lo hi σ0 q.2) (b_X12_steps_34 n 130 v1 σ) (d_X12_steps_34 n v1 σ) := by
  unfold b_X12_steps_34 d_X12_steps_34
  refine FR_it (fun _ => ?_) (fun _ => ?_)
  · refine FR_ck (lo11 t.1) ?_
    refine FR_nm (fun x59 => ?_)
    exact k_b_X12_steps_47 t (by omega)
  · exact FR_some t
def d_X12_steps_7 : Nat → Int32 → Sg → Option (Int32 × Sg)
  | 0, _, _ => none
  | n + 1, v1, σ =>
  if v1 < 0 then (
    d_X12_steps_34 n v1 σ)
  else (
    ck (ix v1 6) <|
    ck (ix (v1 + (1 : Int32)) 6) <|
    if (gI σ 162 v1.toNatClampNeg) ≤ (gI σ 162 (v1 + (1 : Int32)).toNatClampNeg) then (
      d_X12_steps_34 n v1 σ)
    else (
      nm (v1 + ((-1) : Int32)) fun x111 =>
      d_X12_steps_7 n x111 σ))
theorem k_b_X12_steps_7 {lo hi : Nat} {σ0 : Sg} : ∀ {n : Nat} {v1 : Int32} {σ : Sg}, To lo hi σ0 σ → lo ≤ 130 ∧ 168 ≤ hi → FR (fun q => To lo hi σ0 q.2) (b_X12_steps_7 n 130 v1 σ) (d_X12_steps_7 n v1 σ) := by
  intro n
  induction n with
  | zero => intro v1 σ t w_v0; exact FR_none
  | succ n ih =>
    intro v1 σ t w_v0
    unfold b_X12_steps_7 d_X12_steps_7
    refine FR_it (fun _ => ?_) (fun _ => ?_)
    · exact k_b_X12_steps_34 t (by omega)
    · refine FR_ck (lo11 t.1) ?_
      refine FR_ck (ln11_46 t.1) ?_
      refine FR_nmR (w := 162) (lr11_46 t.1) ?_
      refine FR_ckI (okA_iff t.1 (by decide : Ar 13 6 162)) (fun q1719 => ?_)
      refine FR_nmR (w := 162) (lr11_46 t.1) ?_
      refine FR_ckI (okA_iff t.1 (by decide : Ar 13 6 162)) (fun q1720 => ?_)
      refine FR_it (fun _ => ?_) (fun _ => ?_)
      · exact k_b_X12_steps_34 t (by omega)
      · refine FR_nm (fun x111 => ?_)
        exact ih t (by omega)
def c_X12_steps (n : Nat) (σ : Sg) : Option (Int32 × Sg) :=
  nm ((gI σ 130 3) - (2 : Int32)) fun x55 =>
  d_X12_steps_7 n x55 σ
theorem k_f_X12_steps {lo hi : Nat} {σ0 : Sg} {n : Nat} {σ : Sg} (t : To lo hi σ0 σ) (w_v0 : lo ≤ 130 ∧ 168 ≤ hi) : FR (fun q => To lo hi σ0 q.2) (f_X12_steps n 130 σ) (c_X12_steps n σ) := by
  unfold f_X12_steps c_X12_steps
  refine FR_ck (lo11 t.1) ?_
  refine FR_nm (fun x55 => ?_)
  exact k_b_X12_steps_7 t (by omega)
def d_X12_triesOrder_41 (n : Nat) (v1 : Int32) (σ : Sg) : Option (Int32 × Sg) :=
  bd (c_X12_tries n v1 σ) fun x27 σ26 =>
  ck (x27 = 0 ∨ x27 = 1) <|
  some (x27, σ26)
theorem k_b_X12_triesOrder_41 {lo hi : Nat} {σ0 : Sg} {n : Nat} {v1 : Int32} {σ : Sg} (t : To lo hi σ0 σ) (w_v0 : lo ≤ 130 ∧ 168 ≤ hi) : FR (fun q => To lo hi σ0 q.2) (b_X12_triesOrder_41 n 130 v1 σ) (d_X12_triesOrder_41 n v1 σ) := by
  unfold b_X12_triesOrder_41 d_X12_triesOrder_41
  refine FR_ck (lo11 t.1) ?_
  refine FR_bd (k_f_X12_tries t (by omega)) (fun x27 σ26 t => ?_)
  refine FR_ckI Iff.rfl (fun q1723 => ?_)
  exact FR_some t
def d_X12_triesOrder_10 : Nat → Int32 → Int32 → Sg → Option (Int32 × Sg)
  | 0, _, _, _ => none
  | n + 1, v1, v2, σ =>
  if (gI σ 130 3) ≤ v2 then (
    d_X12_triesOrder_41 n v1 σ)
  else (
    ck (ix v2 6) <|
    ck (ix (gI σ 162 v2.toNatClampNeg) 12) <|
    ck (ix v2 12) <|
    nm (pI σ 141 v2.toNatClampNeg (gI σ 133 (gI σ 162 v2.toNatClampNeg).toNatClampNeg)) fun σ38 =>
    nm (v2 + (1 : Int32)) fun x39 =>
    d_X12_triesOrder_10 n v1 x39 σ38)
theorem k_b_X12_triesOrder_10 {lo hi : Nat} {σ0 : Sg} : ∀ {n : Nat} {v1 : Int32} {v2 : Int32} {σ : Sg}, To lo hi σ0 σ → lo ≤ 130 ∧ 168 ≤ hi → FR (fun q => To lo hi σ0 q.2) (b_X12_triesOrder_10 n 130 v1 v2 σ) (d_X12_triesOrder_10 n v1 v2 σ) := by
  intro n
  induction n with
  | zero => intro v1 v2 σ t w_v0; exact FR_none
  | succ n ih =>
    intro v1 v2 σ t w_v0
    unfold b_X12_triesOrder_10 d_X12_triesOrder_10
    refine FR_ck (lo11 t.1) ?_
    refine FR_it (fun _ => ?_) (fun _ => ?_)
    · exact k_b_X12_triesOrder_41 t (by omega)
    · refine FR_ck (ln11_18 t.1) ?_
      refine FR_nmR (w := 141) (lr11_18 t.1) ?_
      refine FR_ck (ln11_4 t.1) ?_
      refine FR_nmR (w := 133) (lr11_4 t.1) ?_
      refine FR_ck (ln11_46 t.1) ?_
      refine FR_nmR (w := 162) (lr11_46 t.1) ?_
      refine FR_ckI (okA_iff t.1 (by decide : Ar 13 6 162)) (fun q1728 => ?_)
      refine FR_ckI (okA_iff t.1 (by decide : Ar 13 12 133)) (fun q1729 => ?_)
      refine FR_ckI (okW_iff t.1 (by decide : Ar 13 12 141)) (fun q1730 => ?_)
      refine FR_nmS (To_pI t (by omega)) (fun σ38 t => ?_)
      refine FR_nm (fun x39 => ?_)
      exact ih t (by omega)
def c_X12_triesOrder (n : Nat) (v1 : Int32) (σ : Sg) : Option (Int32 × Sg) :=
  nm (pI σ 130 17 (gI σ 130 3)) fun σ21 =>
  d_X12_triesOrder_10 n v1 (0 : Int32) σ21
theorem k_f_X12_triesOrder {lo hi : Nat} {σ0 : Sg} {n : Nat} {v1 : Int32} {σ : Sg} (t : To lo hi σ0 σ) (w_v0 : lo ≤ 130 ∧ 168 ≤ hi) : FR (fun q => To lo hi σ0 q.2) (f_X12_triesOrder n 130 v1 σ) (c_X12_triesOrder n v1 σ) := by
  unfold f_X12_triesOrder c_X12_triesOrder
  refine FR_ck (lo11 t.1) ?_
  refine FR_nmS (To_pI t (by omega)) (fun σ21 t => ?_)
  exact k_b_X12_triesOrder_10 t (by omega)
def d_X12_order_178 (k88 : Int32 → Sg → Option (Int32 × Sg)) (n : Nat) (v1 : Int32) (v2 : Int32) (v3 : Int32) (v4 : Int32) (σ : Sg) : Option (Int32 × Sg) :=
  if v4 = 0 then (
    k88 v3 σ)
  else (
    some (v3, σ))
theorem k_b_X12_order_178 {lo hi : Nat} {σ0 : Sg} {k88 k88c : Int32 → Sg → Option (Int32 × Sg)} {n : Nat} {v1 : Int32} {v2 : Int32} {v3 : Int32} {v4 : Int32} {σ : Sg} (h_k88 : ∀ (c0 : Int32) (τ : Sg), To lo hi σ0 τ → FR (fun q => To lo hi σ0 q.2) (k88 c0 τ) (k88c c0 τ)) (t : To lo hi σ0 σ) : FR (fun q => To lo hi σ0 q.2) (b_X12_order_178 k88 n 130 v1 v2 v3 v4 σ) (d_X12_order_178 k88c n v1 v2 v3 v4 σ) := by
  unfold b_X12_order_178 d_X12_order_178
  refine FR_it (fun _ => ?_) (fun _ => ?_)
  · exact h_k88 _ _ t
  · exact FR_some t
def d_X12_order_170 (k88 : Int32 → Sg → Option (Int32 × Sg)) (k125 : Int32 → Int32 → Option (Int32 × Sg)) (n : Nat) (v1 : Int32) (v2 : Int32) (v3 : Int32) (v5 : Int32) (s0 : Int32) (σ : Sg) : Option (Int32 × Sg) :=
  nm (v5 + (1 : Int32)) fun x84 =>
  k125 s0 x84
theorem k_b_X12_order_170 {lo hi : Nat} {σ0 : Sg} {k88 k88c : Int32 → Sg → Option (Int32 × Sg)} {k125 k125c : Int32 → Int32 → Option (Int32 × Sg)} {n : Nat} {v1 : Int32} {v2 : Int32} {v3 : Int32} {v5 : Int32} {s0 : Int32} {σ : Sg} (h_k88 : ∀ (c0 : Int32) (τ : Sg), To lo hi σ0 τ → FR (fun q => To lo hi σ0 q.2) (k88 c0 τ) (k88c c0 τ)) (h_k125 : ∀ (c0 : Int32) (c1 : Int32), FR (fun q => To lo hi σ0 q.2) (k125 c0 c1) (k125c c0 c1)) (t : To lo hi σ0 σ) : FR (fun q => To lo hi σ0 q.2) (b_X12_order_170 k88 k125 n 130 v1 v2 v3 v5 s0 σ) (d_X12_order_170 k88c k125c n v1 v2 v3 v5 s0 σ) := by
  unfold b_X12_order_170 d_X12_order_170
  refine FR_nm (fun x84 => ?_)
  exact h_k125 _ _
def d_X12_order_165 (k88 : Int32 → Sg → Option (Int32 × Sg)) (k125 : Int32 → Int32 → Option (Int32 × Sg)) (n : Nat) (v1 : Int32) (v2 : Int32) (v3 : Int32) (v5 : Int32) (σ : Sg) : Option (Int32 × Sg) :=
  d_X12_order_170 k88 k125 n v1 v2 v3 v5 (1 : Int32) σ
theorem k_b_X12_order_165 {lo hi : Nat} {σ0 : Sg} {k88 k88c : Int32 → Sg → Option (Int32 × Sg)} {k125 k125c : Int32 → Int32 → Option (Int32 × Sg)} {n : Nat} {v1 : Int32} {v2 : Int32} {v3 : Int32} {v5 : Int32} {σ : Sg} (h_k88 : ∀ (c0 : Int32) (τ : Sg), To lo hi σ0 τ → FR (fun q => To lo hi σ0 q.2) (k88 c0 τ) (k88c c0 τ)) (h_k125 : ∀ (c0 : Int32) (c1 : Int32), FR (fun q => To lo hi σ0 q.2) (k125 c0 c1) (k125c c0 c1)) (t : To lo hi σ0 σ) : FR (fun q => To lo hi σ0 q.2) (b_X12_order_165 k88 k125 n 130 v1 v2 v3 v5 σ) (d_X12_order_165 k88c k125c n v1 v2 v3 v5 σ) := by
  unfold b_X12_order_165 d_X12_order_165
  exact k_b_X12_order_170 h_k88 h_k125 t
def d_X12_order_125 (k88 : Int32 → Sg → Option (Int32 × Sg)) : Nat → Int32 → Int32 → Int32 → Int32 → Int32 → Sg → Option (Int32 × Sg)
  | 0, _, _, _, _, _, _ => none
  | n + 1, v1, v2, v3, v4, v5, σ =>
  if (gI σ 130 3) ≤ v5 then (
    d_X12_order_178 k88 n v1 v2 v3 v4 σ)
  else (
    if v4 = 0 then (
      ck (ix ((12 : Int32) + v5) 24) <|
      ck (ix v5 6) <|
      ck (ix (gI σ 162 v5.toNatClampNeg) 12) <|
      if (gJ σ 145 ((12 : Int32) + v5).toNatClampNeg) = (gJ σ 163 (gI σ 162 v5.toNatClampNeg).toNatClampNeg) then (
        d_X12_order_170 k88 (fun c4 c5 => d_X12_order_125 k88 n v1 v2 v3 c4 c5 σ) n v1 v2 v3 v5 (0 : Int32) σ)
      else (
        d_X12_order_165 k88 (fun c4 c5 => d_X12_order_125 k88 n v1 v2 v3 c4 c5 σ) n v1 v2 v3 v5 σ))
    else (
      d_X12_order_165 k88 (fun c4 c5 => d_X12_order_125 k88 n v1 v2 v3 c4 c5 σ) n v1 v2 v3 v5 σ))
theorem k_b_X12_order_125 {lo hi : Nat} {σ0 : Sg} {k88 k88c : Int32 → Sg → Option (Int32 × Sg)} (h_k88 : ∀ (c0 : Int32) (τ : Sg), To lo hi σ0 τ → FR (fun q => To lo hi σ0 q.2) (k88 c0 τ) (k88c c0 τ)) : ∀ {n : Nat} {v1 : Int32} {v2 : Int32} {v3 : Int32} {v4 : Int32} {v5 : Int32} {σ : Sg}, To lo hi σ0 σ → FR (fun q => To lo hi σ0 q.2) (b_X12_order_125 k88 n 130 v1 v2 v3 v4 v5 σ) (d_X12_order_125 k88c n v1 v2 v3 v4 v5 σ) := by
  intro n
  induction n with
  | zero => intro v1 v2 v3 v4 v5 σ t; exact FR_none
  | succ n ih =>
    intro v1 v2 v3 v4 v5 σ t
    unfold b_X12_order_125 d_X12_order_125
    refine FR_ck (lo11 t.1) ?_
    refine FR_it (fun _ => ?_) (fun _ => ?_)
    · exact k_b_X12_order_178 h_k88 t
    · refine FR_it (fun _ => ?_) (fun _ => ?_)
      · refine FR_ck (ln11_22 t.1) ?_
        refine FR_nmR (w := 145) (lr11_22 t.1) ?_
        refine FR_ckI (okA_iff t.1 (by decide : Ar 14 24 145)) (fun q1734 => ?_)
        refine FR_ck (ln11_47 t.1) ?_
        refine FR_nmR (w := 163) (lr11_47 t.1) ?_
        refine FR_ck (ln11_46 t.1) ?_
        refine FR_nmR (w := 162) (lr11_46 t.1) ?_
        refine FR_ckI (okA_iff t.1 (by decide : Ar 13 6 162)) (fun q1737 => ?_)
        refine FR_ckI (okA_iff t.1 (by decide : Ar 14 12 163)) (fun q1738 => ?_)
        refine FR_it (fun _ => ?_) (fun _ => ?_)
        · exact k_b_X12_order_170 h_k88 (fun c4 c5 => ih t) t
        · exact k_b_X12_order_165 h_k88 (fun c4 c5 => ih t) t
      · exact k_b_X12_order_165 h_k88 (fun c4 c5 => ih t) t
def d_X12_order_120 (k88 : Int32 → Sg → Option (Int32 × Sg)) (n : Nat) (v1 : Int32) (v2 : Int32) (v3 : Int32) (s0 : Int32) (σ : Sg) : Option (Int32 × Sg) :=
  d_X12_order_125 k88 n v1 v2 v3 s0 (0 : Int32) σ
theorem k_b_X12_order_120 {lo hi : Nat} {σ0 : Sg} {k88 k88c : Int32 → Sg → Option (Int32 × Sg)} {n : Nat} {v1 : Int32} {v2 : Int32} {v3 : Int32} {s0 : Int32} {σ : Sg} (h_k88 : ∀ (c0 : Int32) (τ : Sg), To lo hi σ0 τ → FR (fun q => To lo hi σ0 q.2) (k88 c0 τ) (k88c c0 τ)) (t : To lo hi σ0 σ) : FR (fun q => To lo hi σ0 q.2) (b_X12_order_120 k88 n 130 v1 v2 v3 s0 σ) (d_X12_order_120 k88c n v1 v2 v3 s0 σ) := by
  unfold b_X12_order_120 d_X12_order_120
  exact k_b_X12_order_125 h_k88 t
def d_X12_order_115 (k88 : Int32 → Sg → Option (Int32 × Sg)) (n : Nat) (v1 : Int32) (v2 : Int32) (v3 : Int32) (σ : Sg) : Option (Int32 × Sg) :=
  d_X12_order_120 k88 n v1 v2 v3 (1 : Int32) σ
theorem k_b_X12_order_115 {lo hi : Nat} {σ0 : Sg} {k88 k88c : Int32 → Sg → Option (Int32 × Sg)} {n : Nat} {v1 : Int32} {v2 : Int32} {v3 : Int32} {σ : Sg} (h_k88 : ∀ (c0 : Int32) (τ : Sg), To lo hi σ0 τ → FR (fun q => To lo hi σ0 q.2) (k88 c0 τ) (k88c c0 τ)) (t : To lo hi σ0 σ) : FR (fun q => To lo hi σ0 q.2) (b_X12_order_115 k88 n 130 v1 v2 v3 σ) (d_X12_order_115 k88c n v1 v2 v3 σ) := by
  unfold b_X12_order_115 d_X12_order_115
  exact k_b_X12_order_120 h_k88 t
def d_X12_order_88 : Nat → Int32 → Int32 → Int32 → Sg → Option (Int32 × Sg)
  | 0, _, _, _, _ => none
  | n + 1, v1, v2, v3, σ =>
  bd (c_X12_steps n σ) fun x72 σ71 =>
  if x72 = 0 then (
    some ((9999999 : Int32), σ71))
  else (
    nm (v3 + (1 : Int32)) fun x74 =>
    bd (c_X12_triesOrder n v1 σ71) fun x78 σ77 =>
    if x78 = v2 then (
      bp (c_X12_differs n (1 : Int64) σ77) fun x97 =>
      if x97 = 0 then (
        d_X12_order_120 (fun c3 τ => d_X12_order_88 n v1 v2 c3 τ) n v1 v2 x74 (0 : Int32) σ77)
      else (
        d_X12_order_115 (fun c3 τ => d_X12_order_88 n v1 v2 c3 τ) n v1 v2 x74 σ77))
    else (
      d_X12_order_115 (fun c3 τ => d_X12_order_88 n v1 v2 c3 τ) n v1 v2 x74 σ77))
theorem k_b_X12_order_88 {lo hi : Nat} {σ0 : Sg} : ∀ {n : Nat} {v1 : Int32} {v2 : Int32} {v3 : Int32} {σ : Sg}, To lo hi σ0 σ → lo ≤ 130 ∧ 168 ≤ hi → FR (fun q => To lo hi σ0 q.2) (b_X12_order_88 n 130 v1 v2 v3 σ) (d_X12_order_88 n v1 v2 v3 σ) := by
  intro n
  induction n with
  | zero => intro v1 v2 v3 σ t w_v0; exact FR_none
  | succ n ih =>
    intro v1 v2 v3 σ t w_v0
    unfold b_X12_order_88 d_X12_order_88
    refine FR_ck (lo11 t.1) ?_
    refine FR_bd (k_f_X12_steps t (by omega)) (fun x72 σ71 t => ?_)
    refine FR_it (fun _ => ?_) (fun _ => ?_)
    · exact FR_some t
    · refine FR_nm (fun x74 => ?_)
      refine FR_ck (lo11 t.1) ?_
      refine FR_bd (k_f_X12_triesOrder t (by omega)) (fun x78 σ77 t => ?_)
      refine FR_it (fun _ => ?_) (fun _ => ?_)
      · refine FR_ck (lo11 t.1) ?_
        refine FR_bpP (k_f_X12_differs t).1 (fun x97 => ?_)
        refine FR_it (fun _ => ?_) (fun _ => ?_)
        · exact k_b_X12_order_120 (fun c3 τ t => ih t (by omega)) t
        · exact k_b_X12_order_115 (fun c3 τ t => ih t (by omega)) t
      · exact k_b_X12_order_115 (fun c3 τ t => ih t (by omega)) t
def d_X12_order_86 (n : Nat) (v1 : Int32) (v2 : Int32) (σ : Sg) : Option (Int32 × Sg) :=
  d_X12_order_88 n v1 v2 (0 : Int32) σ
theorem k_b_X12_order_86 {lo hi : Nat} {σ0 : Sg} {n : Nat} {v1 : Int32} {v2 : Int32} {σ : Sg} (t : To lo hi σ0 σ) (w_v0 : lo ≤ 130 ∧ 168 ≤ hi) : FR (fun q => To lo hi σ0 q.2) (b_X12_order_86 n 130 v1 v2 σ) (d_X12_order_86 n v1 v2 σ) := by
  unfold b_X12_order_86 d_X12_order_86
  exact k_b_X12_order_88 t (by omega)
def d_X12_order_57 : Nat → Int32 → Int32 → Int32 → Sg → Option (Int32 × Sg)
  | 0, _, _, _, _ => none
  | n + 1, v1, v2, v3, σ =>
  if (gI σ 130 3) ≤ v3 then (
    d_X12_order_86 n v1 v2 σ)
  else (
    ck (ix ((12 : Int32) + v3) 24) <|
    ck (ix v3 12) <|
    nm (pJ σ 163 v3.toNatClampNeg (gJ σ 145 ((12 : Int32) + v3).toNatClampNeg)) fun σ105 =>
    nm (v3 + (1 : Int32)) fun x106 =>
    d_X12_order_57 n v1 v2 x106 σ105)
theorem k_b_X12_order_57 {lo hi : Nat} {σ0 : Sg} : ∀ {n : Nat} {v1 : Int32} {v2 : Int32} {v3 : Int32} {σ : Sg}, To lo hi σ0 σ → lo ≤ 130 ∧ 168 ≤ hi → FR (fun q => To lo hi σ0 q.2) (b_X12_order_57 n 130 v1 v2 v3 σ) (d_X12_order_57 n v1 v2 v3 σ) := by
  intro n
  induction n with
  | zero => intro v1 v2 v3 σ t w_v0; exact FR_none
  | succ n ih =>
    intro v1 v2 v3 σ t w_v0
    unfold b_X12_order_57 d_X12_order_57
    refine FR_ck (lo11 t.1) ?_
    refine FR_it (fun _ => ?_) (fun _ => ?_)
    · exact k_b_X12_order_86 t (by omega)
    · refine FR_ck (ln11_47 t.1) ?_
      refine FR_nmR (w := 163) (lr11_47 t.1) ?_
      refine FR_ck (ln11_22 t.1) ?_
      refine FR_nmR (w := 145) (lr11_22 t.1) ?_
      refine FR_ckI (okA_iff t.1 (by decide : Ar 14 24 145)) (fun q1745 => ?_)
      refine FR_ckI (okW_iff t.1 (by decide : Ar 14 12 163)) (fun q1746 => ?_)
      refine FR_nmS (To_pJ t (by omega)) (fun σ105 t => ?_)
      refine FR_nm (fun x106 => ?_)
      exact ih t (by omega)
def d_X12_order_45 (n : Nat) (v1 : Int32) (σ : Sg) : Option (Int32 × Sg) :=
  bd (c_X12_triesOrder n v1 σ) fun x63 σ62 =>
  bp (c_X12_notes n σ62) fun σ66 =>
  d_X12_order_57 n v1 x63 (0 : Int32) σ66
theorem k_b_X12_order_45 {lo hi : Nat} {σ0 : Sg} {n : Nat} {v1 : Int32} {σ : Sg} (t : To lo hi σ0 σ) (w_v0 : lo ≤ 130 ∧ 168 ≤ hi) : FR (fun q => To lo hi σ0 q.2) (b_X12_order_45 n 130 v1 σ) (d_X12_order_45 n v1 σ) := by
  unfold b_X12_order_45 d_X12_order_45
  refine FR_ck (lo11 t.1) ?_
  refine FR_bd (k_f_X12_triesOrder t (by omega)) (fun x63 σ62 t => ?_)
  refine FR_ck (lo11 t.1) ?_
  refine FR_bp (k_f_X12_notes t (by omega)) (fun σ66 t => ?_)
  exact k_b_X12_order_57 t (by omega)
def d_X12_order_24 : Nat → Int32 → Int32 → Sg → Option (Int32 × Sg)
  | 0, _, _, _ => none
  | n + 1, v1, v2, σ =>
  if (gI σ 130 3) ≤ v2 then (
    d_X12_order_45 n v1 σ)
  else (
    ck (ix v2 6) <|
    nm (pI σ 162 v2.toNatClampNeg v2) fun σ110 =>
    nm (v2 + (1 : Int32)) fun x111 =>
    d_X12_order_24 n v1 x111 σ110)
theorem k_b_X12_order_24 {lo hi : Nat} {σ0 : Sg} : ∀ {n : Nat} {v1 : Int32} {v2 : Int32} {σ : Sg}, To lo hi σ0 σ → lo ≤ 130 ∧ 168 ≤ hi → FR (fun q => To lo hi σ0 q.2) (b_X12_order_24 n 130 v1 v2 σ) (d_X12_order_24 n v1 v2 σ) := by
  intro n
  induction n with
  | zero => intro v1 v2 σ t w_v0; exact FR_none
  | succ n ih =>
    intro v1 v2 σ t w_v0
    unfold b_X12_order_24 d_X12_order_24
    refine FR_ck (lo11 t.1) ?_
    refine FR_it (fun _ => ?_) (fun _ => ?_)
    · exact k_b_X12_order_45 t (by omega)
    · refine FR_ck (ln11_46 t.1) ?_
      refine FR_nmR (w := 162) (lr11_46 t.1) ?_
      refine FR_ckI (okW_iff t.1 (by decide : Ar 13 6 162)) (fun q1751 => ?_)
      refine FR_nmS (To_pI t (by omega)) (fun σ110 t => ?_)
      refine FR_nm (fun x111 => ?_)
      exact ih t (by omega)
def c_X12_order (n : Nat) (v1 : Int32) (σ : Sg) : Option (Int32 × Sg) :=
  bp (c_X12_isProgram v1 σ) fun x55 =>
  if x55 = 0 then (
    some ((-1 : Int32), σ))
  else (
    if (gI σ 130 3) ≤ (6 : Int32) then (
      d_X12_order_24 n v1 (0 : Int32) σ)
    else (
      some ((-2 : Int32), σ)))
theorem k_f_X12_order {lo hi : Nat} {σ0 : Sg} {n : Nat} {v1 : Int32} {σ : Sg} (t : To lo hi σ0 σ) (w_v0 : lo ≤ 130 ∧ 168 ≤ hi) : FR (fun q => To lo hi σ0 q.2) (f_X12_order n 130 v1 σ) (c_X12_order n v1 σ) := by
  unfold f_X12_order c_X12_order
  refine FR_ck (lo11 t.1) ?_
  refine FR_bpP (k_f_X12_isProgram t).1 (fun x55 => ?_)
  refine FR_it (fun _ => ?_) (fun _ => ?_)
  · exact FR_some t
  · refine FR_it (fun _ => ?_) (fun _ => ?_)
    · exact k_b_X12_order_24 t (by omega)
    · exact FR_some t
def d_X12_drift_476 (n : Nat) (v8 : Int32) (v10 : Int64) (v12 : Int64) (σ : Sg) : Option (Int32 × Sg) :=
  ck (¬ (v8.toInt64) = 0) <|
  some (((v10 * v12) / (v8.toInt64)).toInt32, σ)
theorem k_b_X12_drift_476 {lo hi : Nat} {σ0 : Sg} {n : Nat} {v8 : Int32} {v10 : Int64} {v12 : Int64} {σ : Sg} (t : To lo hi σ0 σ) : FR (fun q => To lo hi σ0 q.2) (b_X12_drift_476 n v8 v10 v12 σ) (d_X12_drift_476 n v8 v10 v12 σ) := by
  unfold b_X12_drift_476 d_X12_drift_476
  refine FR_ckI Iff.rfl (fun q1753 => ?_)
  exact FR_some t
def d_X12_drift_468 (k401 : Int64 → Int32 → Option (Int32 × Sg)) (n : Nat) (v2 : Int32) (v8 : Int32) (v9 : Int32) (v10 : Int64) (v14 : Int32) (s0 : Int64) (σ : Sg) : Option (Int32 × Sg) :=
  nm (v14 + (1 : Int32)) fun x138 =>
  k401 s0 x138
theorem k_b_X12_drift_468 {lo hi : Nat} {σ0 : Sg} {k401 k401c : Int64 → Int32 → Option (Int32 × Sg)} {n : Nat} {v2 : Int32} {v8 : Int32} {v9 : Int32} {v10 : Int64} {v14 : Int32} {s0 : Int64} {σ : Sg} (h_k401 : ∀ (c0 : Int64) (c1 : Int32), FR (fun q => To lo hi σ0 q.2) (k401 c0 c1) (k401c c0 c1)) (t : To lo hi σ0 σ) : FR (fun q => To lo hi σ0 q.2) (b_X12_drift_468 k401 n 130 v2 v8 v9 v10 v14 s0 σ) (d_X12_drift_468 k401c n v2 v8 v9 v10 v14 s0 σ) := by
  unfold b_X12_drift_468 d_X12_drift_468
  refine FR_nm (fun x138 => ?_)
  exact h_k401 _ _
def d_X12_drift_466 (k401 : Int64 → Int32 → Option (Int32 × Sg)) (n : Nat) (v2 : Int32) (v8 : Int32) (v9 : Int32) (v10 : Int64) (v12 : Int64) (v14 : Int32) (σ : Sg) : Option (Int32 × Sg) :=
  d_X12_drift_468 k401 n v2 v8 v9 v10 v14 v12 σ
theorem k_b_X12_drift_466 {lo hi : Nat} {σ0 : Sg} {k401 k401c : Int64 → Int32 → Option (Int32 × Sg)} {n : Nat} {v2 : Int32} {v8 : Int32} {v9 : Int32} {v10 : Int64} {v12 : Int64} {v14 : Int32} {σ : Sg} (h_k401 : ∀ (c0 : Int64) (c1 : Int32), FR (fun q => To lo hi σ0 q.2) (k401 c0 c1) (k401c c0 c1)) (t : To lo hi σ0 σ) : FR (fun q => To lo hi σ0 q.2) (b_X12_drift_466 k401 n 130 v2 v8 v9 v10 v12 v14 σ) (d_X12_drift_466 k401c n v2 v8 v9 v10 v12 v14 σ) := by
  unfold b_X12_drift_466 d_X12_drift_466
  exact k_b_X12_drift_468 h_k401 t
def d_X12_drift_401 : Nat → Int32 → Int32 → Int32 → Int64 → Int64 → Int32 → Sg → Option (Int32 × Sg)
  | 0, _, _, _, _, _, _, _ => none
  | n + 1, v2, v8, v9, v10, v12, v14, σ =>
  if v9 ≤ v14 then (
    d_X12_drift_476 n v8 v10 v12 σ)
  else (
    ck (ix v14 200) <|
    bp (f_X12_times (v14.toInt64) (v8.toInt64) v2) fun x133 =>
    nm ((gJ σ 164 v14.toNatClampNeg) - (v10 * (((v8.toInt64) * x133) - (v14.toInt64)))) fun x134 =>
    ck (ix v14 200) <|
    if (gJ σ 164 v14.toNatClampNeg) ≤ (-1099511627776 : Int64) then (
      d_X12_drift_466 (fun c12 c14 => d_X12_drift_401 n v2 v8 v9 v10 c12 c14 σ) n v2 v8 v9 v10 v12 v14 σ)
    else (
      if x134 ≤ v12 then (
        d_X12_drift_466 (fun c12 c14 => d_X12_drift_401 n v2 v8 v9 v10 c12 c14 σ) n v2 v8 v9 v10 v12 v14 σ)
      else (
        d_X12_drift_468 (fun c12 c14 => d_X12_drift_401 n v2 v8 v9 v10 c12 c14 σ) n v2 v8 v9 v10 v14 x134 σ)))
theorem k_b_X12_drift_401 {lo hi : Nat} {σ0 : Sg} : ∀ {n : Nat} {v2 : Int32} {v8 : Int32} {v9 : Int32} {v10 : Int64} {v12 : Int64} {v14 : Int32} {σ : Sg}, To lo hi σ0 σ → FR (fun q => To lo hi σ0 q.2) (b_X12_drift_401 n 130 v2 v8 v9 v10 v12 v14 σ) (d_X12_drift_401 n v2 v8 v9 v10 v12 v14 σ) := by
  intro n
  induction n with
  | zero => intro v2 v8 v9 v10 v12 v14 σ t; exact FR_none
  | succ n ih =>
    intro v2 v8 v9 v10 v12 v14 σ t
    unfold b_X12_drift_401 d_X12_drift_401
    refine FR_it (fun _ => ?_) (fun _ => ?_)
    · exact k_b_X12_drift_476 t
    · refine FR_ck (lo11 t.1) ?_
      refine FR_ck (ln11_48 t.1) ?_
      refine FR_nmR (w := 164) (lr11_48 t.1) ?_
      refine FR_ckI (okA_iff t.1 (by decide : Ar 14 200 164)) (fun q1756 => ?_)
      refine FR_nmP (fun x133 => ?_)
      refine FR_nm (fun x134 => ?_)
      refine FR_nmR (w := 164) (lr11_48 t.1) ?_
      refine FR_ckI (okA_iff t.1 (by decide : Ar 14 200 164)) (fun q1757 => ?_)
      refine FR_it (fun _ => ?_) (fun _ => ?_)
      · exact k_b_X12_drift_466 (fun c12 c14 => ih t) t
      · refine FR_it (fun _ => ?_) (fun _ => ?_)
        · exact k_b_X12_drift_466 (fun c12 c14 => ih t) t
        · exact k_b_X12_drift_468 (fun c12 c14 => ih t) t
def d_X12_drift_393 (n : Nat) (v2 : Int32) (v8 : Int32) (v9 : Int32) (v10 : Int64) (σ : Sg) : Option (Int32 × Sg) :=
  d_X12_drift_401 n v2 v8 v9 v10 (-1099511627776 : Int64) (0 : Int32) σ
theorem k_b_X12_drift_393 {lo hi : Nat} {σ0 : Sg} {n : Nat} {v2 : Int32} {v8 : Int32} {v9 : Int32} {v10 : Int64} {σ : Sg} (t : To lo hi σ0 σ) : FR (fun q => To lo hi σ0 q.2) (b_X12_drift_393 n 130 v2 v8 v9 v10 σ) (d_X12_drift_393 n v2 v8 v9 v10 σ) := by
  unfold b_X12_drift_393 d_X12_drift_393
  exact k_b_X12_drift_401 t
def d_X12_drift_387 (k196 : Int32 → Sg → Option (Int32 × Sg)) (n : Nat) (v2 : Int32) (v3 : Int32) (v8 : Int32) (v9 : Int32) (v10 : Int64) (v12 : Int32) (σ : Sg) : Option (Int32 × Sg) :=
  nm (v12 + (1 : Int32)) fun x143 =>
  k196 x143 σ
theorem k_b_X12_drift_387 {lo hi : Nat} {σ0 : Sg} {k196 k196c : Int32 → Sg → Option (Int32 × Sg)} {n : Nat} {v2 : Int32} {v3 : Int32} {v8 : Int32} {v9 : Int32} {v10 : Int64} {v12 : Int32} {σ : Sg} (h_k196 : ∀ (c0 : Int32) (τ : Sg), To lo hi σ0 τ → FR (fun q => To lo hi σ0 q.2) (k196 c0 τ) (k196c c0 τ)) (t : To lo hi σ0 σ) : FR (fun q => To lo hi σ0 q.2) (b_X12_drift_387 k196 n 130 v2 v3 v8 v9 v10 v12 σ) (d_X12_drift_387 k196c n v2 v3 v8 v9 v10 v12 σ) := by
  unfold b_X12_drift_387 d_X12_drift_387
  refine FR_nm (fun x143 => ?_)
  exact h_k196 _ _ t
def d_X12_drift_360 (k196 : Int32 → Sg → Option (Int32 × Sg)) : Nat → Int32 → Int32 → Int32 → Int32 → Int64 → Int32 → Int32 → Sg → Option (Int32 × Sg)
  | 0, _, _, _, _, _, _, _, _ => none
  | n + 1, v2, v3, v8, v9, v10, v12, v13, σ =>
  if v9 ≤ v13 then (
    d_X12_drift_387 k196 n v2 v3 v8 v9 v10 v12 σ)
  else (
    ck (ix v13 200) <|
    ck (ix v13 200) <|
    nm (pJ σ 164 v13.toNatClampNeg (gJ σ 165 v13.toNatClampNeg)) fun σ151 =>
    nm (v13 + (1 : Int32)) fun x152 =>
    d_X12_drift_360 k196 n v2 v3 v8 v9 v10 v12 x152 σ151)
theorem k_b_X12_drift_360 {lo hi : Nat} {σ0 : Sg} {k196 k196c : Int32 → Sg → Option (Int32 × Sg)} (h_k196 : ∀ (c0 : Int32) (τ : Sg), To lo hi σ0 τ → FR (fun q => To lo hi σ0 q.2) (k196 c0 τ) (k196c c0 τ)) : ∀ {n : Nat} {v2 : Int32} {v3 : Int32} {v8 : Int32} {v9 : Int32} {v10 : Int64} {v12 : Int32} {v13 : Int32} {σ : Sg}, To lo hi σ0 σ → lo ≤ 130 ∧ 168 ≤ hi → FR (fun q => To lo hi σ0 q.2) (b_X12_drift_360 k196 n 130 v2 v3 v8 v9 v10 v12 v13 σ) (d_X12_drift_360 k196c n v2 v3 v8 v9 v10 v12 v13 σ) := by
  intro n
  induction n with
  | zero => intro v2 v3 v8 v9 v10 v12 v13 σ t w_v0; exact FR_none
  | succ n ih =>
    intro v2 v3 v8 v9 v10 v12 v13 σ t w_v0
    unfold b_X12_drift_360 d_X12_drift_360
    refine FR_it (fun _ => ?_) (fun _ => ?_)
    · exact k_b_X12_drift_387 h_k196 t
    · refine FR_ck (lo11 t.1) ?_
      refine FR_ck (ln11_48 t.1) ?_
      refine FR_nmR (w := 164) (lr11_48 t.1) ?_
      refine FR_ck (ln11_49 t.1) ?_
      refine FR_nmR (w := 165) (lr11_49 t.1) ?_
      refine FR_ckI (okA_iff t.1 (by decide : Ar 14 200 165)) (fun q1761 => ?_)
      refine FR_ckI (okW_iff t.1 (by decide : Ar 14 200 164)) (fun q1762 => ?_)
      refine FR_nmS (To_pJ t (by omega)) (fun σ151 t => ?_)
      refine FR_nm (fun x152 => ?_)
      exact ih t (by omega)
def d_X12_drift_357 (k196 : Int32 → Sg → Option (Int32 × Sg)) (n : Nat) (v2 : Int32) (v3 : Int32) (v8 : Int32) (v9 : Int32) (v10 : Int64) (v12 : Int32) (σ : Sg) : Option (Int32 × Sg) :=
  d_X12_drift_360 k196 n v2 v3 v8 v9 v10 v12 (0 : Int32) σ
theorem k_b_X12_drift_357 {lo hi : Nat} {σ0 : Sg} {k196 k196c : Int32 → Sg → Option (Int32 × Sg)} {n : Nat} {v2 : Int32} {v3 : Int32} {v8 : Int32} {v9 : Int32} {v10 : Int64} {v12 : Int32} {σ : Sg} (h_k196 : ∀ (c0 : Int32) (τ : Sg), To lo hi σ0 τ → FR (fun q => To lo hi σ0 q.2) (k196 c0 τ) (k196c c0 τ)) (t : To lo hi σ0 σ) (w_v0 : lo ≤ 130 ∧ 168 ≤ hi) : FR (fun q => To lo hi σ0 q.2) (b_X12_drift_357 k196 n 130 v2 v3 v8 v9 v10 v12 σ) (d_X12_drift_357 k196c n v2 v3 v8 v9 v10 v12 σ) := by
  unfold b_X12_drift_357 d_X12_drift_357
  exact k_b_X12_drift_360 h_k196 t (by omega)
def d_X12_drift_351 (k196 : Int32 → Sg → Option (Int32 × Sg)) (k231 : Int32 → Sg → Option (Int32 × Sg)) (n : Nat) (v2 : Int32) (v3 : Int32) (v8 : Int32) (v9 : Int32) (v10 : Int64) (v12 : Int32) (v13 : Int32) (σ : Sg) : Option (Int32 × Sg) :=
  nm (v13 + (1 : Int32)) fun x154 =>
  k231 x154 σ
theorem k_b_X12_drift_351 {lo hi : Nat} {σ0 : Sg} {k196 k196c : Int32 → Sg → Option (Int32 × Sg)} {k231 k231c : Int32 → Sg → Option (Int32 × Sg)} {n : Nat} {v2 : Int32} {v3 : Int32} {v8 : Int32} {v9 : Int32} {v10 : Int64} {v12 : Int32} {v13 : Int32} {σ : Sg} (h_k196 : ∀ (c0 : Int32) (τ : Sg), To lo hi σ0 τ → FR (fun q => To lo hi σ0 q.2) (k196 c0 τ) (k196c c0 τ)) (h_k231 : ∀ (c0 : Int32) (τ : Sg), To lo hi σ0 τ → FR (fun q => To lo hi σ0 q.2) (k231 c0 τ) (k231c c0 τ)) (t : To lo hi σ0 σ) : FR (fun q => To lo hi σ0 q.2) (b_X12_drift_351 k196 k231 n 130 v2 v3 v8 v9 v10 v12 v13 σ) (d_X12_drift_351 k196c k231c n v2 v3 v8 v9 v10 v12 v13 σ) := by
  unfold b_X12_drift_351 d_X12_drift_351
  refine FR_nm (fun x154 => ?_)
  exact h_k231 _ _ t
def d_X12_drift_344 (k196 : Int32 → Sg → Option (Int32 × Sg)) (k231 : Int32 → Sg → Option (Int32 × Sg)) (k241 : Int32 → Sg → Option (Int32 × Sg)) (n : Nat) (v2 : Int32) (v3 : Int32) (v8 : Int32) (v9 : Int32) (v10 : Int64) (v12 : Int32) (v13 : Int32) (v14 : Int32) (s0 : Int64) (s1 : Int32) (s2 : Nat) (σ : Sg) : Option (Int32 × Sg) :=
  ck (ix s1 200) <|
  nm (pJ σ s2 s1.toNatClampNeg s0) fun σ178 =>
  nm (v14 + (1 : Int32)) fun x179 =>
  k241 x179 σ178
theorem k_b_X12_drift_344 {lo hi : Nat} {σ0 : Sg} {k196 k196c : Int32 → Sg → Option (Int32 × Sg)} {k231 k231c : Int32 → Sg → Option (Int32 × Sg)} {k241 k241c : Int32 → Sg → Option (Int32 × Sg)} {n : Nat} {v2 : Int32} {v3 : Int32} {v8 : Int32} {v9 : Int32} {v10 : Int64} {v12 : Int32} {v13 : Int32} {v14 : Int32} {s0 : Int64} {s1 : Int32} {s2 : Nat} {σ : Sg} (h_k196 : ∀ (c0 : Int32) (τ : Sg), To lo hi σ0 τ → FR (fun q => To lo hi σ0 q.2) (k196 c0 τ) (k196c c0 τ)) (h_k231 : ∀ (c0 : Int32) (τ : Sg), To lo hi σ0 τ → FR (fun q => To lo hi σ0 q.2) (k231 c0 τ) (k231c c0 τ)) (h_k241 : ∀ (c0 : Int32) (τ : Sg), To lo hi σ0 τ → FR (fun q => To lo hi σ0 q.2) (k241 c0 τ) (k241c c0 τ)) (t : To lo hi σ0 σ) (h_s2 : Ar 14 200 s2) (w_s2 : lo ≤ s2 ∧ s2 < hi) : FR (fun q => To lo hi σ0 q.2) (b_X12_drift_344 k196 k231 k241 n 130 v2 v3 v8 v9 v10 v12 v13 v14 s0 s1 s2 σ) (d_X12_drift_344 k196c k231c k241c n v2 v3 v8 v9 v10 v12 v13 v14 s0 s1 s2 σ) := by
  unfold b_X12_drift_344 d_X12_drift_344
  refine FR_ckI (okW_iff t.1 h_s2) (fun q1763 => ?_)
  refine FR_nmS (To_pJ t (by omega)) (fun σ178 t => ?_)
  refine FR_nm (fun x179 => ?_)
  exact h_k241 _ _ t
def d_X12_drift_337 (k196 : Int32 → Sg → Option (Int32 × Sg)) (k231 : Int32 → Sg → Option (Int32 × Sg)) (k241 : Int32 → Sg → Option (Int32 × Sg)) (n : Nat) (v2 : Int32) (v3 : Int32) (v8 : Int32) (v9 : Int32) (v10 : Int64) (v12 : Int32) (v13 : Int32) (v14 : Int32) (v17 : Int32) (s0 : Int32) (s1 : Nat) (σ : Sg) : Option (Int32 × Sg) :=
  ck (ix v17 200) <|
  d_X12_drift_344 k196 k231 k241 n v2 v3 v8 v9 v10 v12 v13 v14 (gJ σ 165 v17.toNatClampNeg) s0 s1 σ
theorem k_b_X12_drift_337 {lo hi : Nat} {σ0 : Sg} {k196 k196c : Int32 → Sg → Option (Int32 × Sg)} {k231 k231c : Int32 → Sg → Option (Int32 × Sg)} {k241 k241c : Int32 → Sg → Option (Int32 × Sg)} {n : Nat} {v2 : Int32} {v3 : Int32} {v8 : Int32} {v9 : Int32} {v10 : Int64} {v12 : Int32} {v13 : Int32} {v14 : Int32} {v17 : Int32} {s0 : Int32} {s1 : Nat} {σ : Sg} (h_k196 : ∀ (c0 : Int32) (τ : Sg), To lo hi σ0 τ → FR (fun q => To lo hi σ0 q.2) (k196 c0 τ) (k196c c0 τ)) (h_k231 : ∀ (c0 : Int32) (τ : Sg), To lo hi σ0 τ → FR (fun q => To lo hi σ0 q.2) (k231 c0 τ) (k231c c0 τ)) (h_k241 : ∀ (c0 : Int32) (τ : Sg), To lo hi σ0 τ → FR (fun q => To lo hi σ0 q.2) (k241 c0 τ) (k241c c0 τ)) (t : To lo hi σ0 σ) (h_s1 : Ar 14 200 s1) (w_s1 : lo ≤ s1 ∧ s1 < hi) : FR (fun q => To lo hi σ0 q.2) (b_X12_drift_337 k196 k231 k241 n 130 v2 v3 v8 v9 v10 v12 v13 v14 v17 s0 s1 σ) (d_X12_drift_337 k196c k231c k241c n v2 v3 v8 v9 v10 v12 v13 v14 v17 s0 s1 σ) := by
  unfold b_X12_drift_337 d_X12_drift_337
  refine FR_ck (lo11 t.1) ?_
  refine FR_ck (ln11_49 t.1) ?_
  refine FR_nmR (w := 165) (lr11_49 t.1) ?_
  refine FR_ckI (okA_iff t.1 (by decide : Ar 14 200 165)) (fun q1766 => ?_)
  exact k_b_X12_drift_344 h_k196 h_k231 h_k241 t h_s1 (by omega)
def d_X12_drift_241 (k196 : Int32 → Sg → Option (Int32 × Sg)) (k231 : Int32 → Sg → Option (Int32 × Sg)) : Nat → Int32 → Int32 → Int32 → Int32 → Int64 → Int32 → Int32 → Int32 → Sg → Option (Int32 × Sg)
  | 0, _, _, _, _, _, _, _, _, _ => none
  | n + 1, v2, v3, v8, v9, v10, v12, v13, v14, σ =>
  if v9 ≤ v14 then (
    d_X12_drift_351 k196 k231 n v2 v3 v8 v9 v10 v12 v13 σ)
  else (
    ck (ix v13 200) <|
    if (gJ σ 164 v13.toNatClampNeg) ≤ (-1099511627776 : Int64) then (
      d_X12_drift_351 k196 k231 n v2 v3 v8 v9 v10 v12 v13 σ)
    else (
      ck (ix v13 200) <|
      bp (f_X12_times (v14.toInt64) (v8.toInt64) v2) fun x163 =>
      nm ((gJ σ 164 v13.toNatClampNeg) + (v10 * (((v8.toInt64) * x163) - (v14.toInt64)))) fun x164 =>
      ck (¬ v9 = 0) <|
      nm ((v13 + v14) - (v13 + v14) / v9 * v9) fun x166 =>
      ck (ix v14 200) <|
      if (gI σ 166 v14.toNatClampNeg) = 0 then (
        d_X12_drift_337 k196 k231 (fun c14 τ => d_X12_drift_241 k196 k231 n v2 v3 v8 v9 v10 v12 v13 c14 τ) n v2 v3 v8 v9 v10 v12 v13 v14 x166 x166 165 σ)
      else (
        ck (ix x166 200) <|
        if x164 ≤ (gJ σ 165 x166.toNatClampNeg) then (
          d_X12_drift_337 k196 k231 (fun c14 τ => d_X12_drift_241 k196 k231 n v2 v3 v8 v9 v10 v12 v13 c14 τ) n v2 v3 v8 v9 v10 v12 v13 v14 x166 x166 165 σ)
        else (
          d_X12_drift_344 k196 k231 (fun c14 τ => d_X12_drift_241 k196 k231 n v2 v3 v8 v9 v10 v12 v13 c14 τ) n v2 v3 v8 v9 v10 v12 v13 v14 x164 x166 165 σ))))
theorem k_b_X12_drift_241 {lo hi : Nat} {σ0 : Sg} {k196 k196c : Int32 → Sg → Option (Int32 × Sg)} {k231 k231c : Int32 → Sg → Option (Int32 × Sg)} (h_k196 : ∀ (c0 : Int32) (τ : Sg), To lo hi σ0 τ → FR (fun q => To lo hi σ0 q.2) (k196 c0 τ) (k196c c0 τ)) (h_k231 : ∀ (c0 : Int32) (τ : Sg), To lo hi σ0 τ → FR (fun q => To lo hi σ0 q.2) (k231 c0 τ) (k231c c0 τ)) : ∀ {n : Nat} {v2 : Int32} {v3 : Int32} {v8 : Int32} {v9 : Int32} {v10 : Int64} {v12 : Int32} {v13 : Int32} {v14 : Int32} {σ : Sg}, To lo hi σ0 σ → lo ≤ 130 ∧ 168 ≤ hi → FR (fun q => To lo hi σ0 q.2) (b_X12_drift_241 k196 k231 n 130 v2 v3 v8 v9 v10 v12 v13 v14 σ) (d_X12_drift_241 k196c k231c n v2 v3 v8 v9 v10 v12 v13 v14 σ) := by
  intro n
  induction n with
  | zero => intro v2 v3 v8 v9 v10 v12 v13 v14 σ t w_v0; exact FR_none
  | succ n ih =>
    intro v2 v3 v8 v9 v10 v12 v13 v14 σ t w_v0
    unfold b_X12_drift_241 d_X12_drift_241
    refine FR_it (fun _ => ?_) (fun _ => ?_)
    · exact k_b_X12_drift_351 h_k196 h_k231 t
    · refine FR_ck (lo11 t.1) ?_
      refine FR_ck (ln11_48 t.1) ?_
      refine FR_nmR (w := 164) (lr11_48 t.1) ?_
      refine FR_ckI (okA_iff t.1 (by decide : Ar 14 200 164)) (fun q1769 => ?_)
      refine FR_it (fun _ => ?_) (fun _ => ?_)
      · exact k_b_X12_drift_351 h_k196 h_k231 t
      · refine FR_nmR (w := 164) (lr11_48 t.1) ?_
        refine FR_ckI (okA_iff t.1 (by decide : Ar 14 200 164)) (fun q1770 => ?_)
        refine FR_nmP (fun x163 => ?_)
        refine FR_nm (fun x164 => ?_)
        refine FR_ckI Iff.rfl (fun q1771 => ?_)
        refine FR_nm (fun x166 => ?_)
        refine FR_ck (ln11_49 t.1) ?_
        refine FR_nmR (w := 165) (lr11_49 t.1) ?_
        refine FR_ck (ln11_50 t.1) ?_
        refine FR_nmR (w := 166) (lr11_50 t.1) ?_
        refine FR_ckI (okA_iff t.1 (by decide : Ar 15 200 166)) (fun q1774 => ?_)
        refine FR_it (fun _ => ?_) (fun _ => ?_)
        · exact k_b_X12_drift_337 h_k196 h_k231 (fun c14 τ t => ih t (by omega)) t (by decide) (by omega)
        · refine FR_nmR (w := 165) (lr11_49 t.1) ?_
          refine FR_ckI (okA_iff t.1 (by decide : Ar 14 200 165)) (fun q1775 => ?_)
          refine FR_it (fun _ => ?_) (fun _ => ?_)
          · exact k_b_X12_drift_337 h_k196 h_k231 (fun c14 τ t => ih t (by omega)) t (by decide) (by omega)
          · exact k_b_X12_drift_344 h_k196 h_k231 (fun c14 τ t => ih t (by omega)) t (by decide) (by omega)
def d_X12_drift_231 (k196 : Int32 → Sg → Option (Int32 × Sg)) : Nat → Int32 → Int32 → Int32 → Int32 → Int64 → Int32 → Int32 → Sg → Option (Int32 × Sg)
  | 0, _, _, _, _, _, _, _, _ => none
  | n + 1, v2, v3, v8, v9, v10, v12, v13, σ =>
  if v9 ≤ v13 then (
    d_X12_drift_357 k196 n v2 v3 v8 v9 v10 v12 σ)
  else (
    d_X12_drift_241 k196 (fun c13 τ => d_X12_drift_231 k196 n v2 v3 v8 v9 v10 v12 c13 τ) n v2 v3 v8 v9 v10 v12 v13 (0 : Int32) σ)
theorem k_b_X12_drift_231 {lo hi : Nat} {σ0 : Sg} {k196 k196c : Int32 → Sg → Option (Int32 × Sg)} (h_k196 : ∀ (c0 : Int32) (τ : Sg), To lo hi σ0 τ → FR (fun q => To lo hi σ0 q.2) (k196 c0 τ) (k196c c0 τ)) : ∀ {n : Nat} {v2 : Int32} {v3 : Int32} {v8 : Int32} {v9 : Int32} {v10 : Int64} {v12 : Int32} {v13 : Int32} {σ : Sg}, To lo hi σ0 σ → lo ≤ 130 ∧ 168 ≤ hi → FR (fun q => To lo hi σ0 q.2) (b_X12_drift_231 k196 n 130 v2 v3 v8 v9 v10 v12 v13 σ) (d_X12_drift_231 k196c n v2 v3 v8 v9 v10 v12 v13 σ) := by
  intro n
  induction n with
  | zero => intro v2 v3 v8 v9 v10 v12 v13 σ t w_v0; exact FR_none
  | succ n ih =>
    intro v2 v3 v8 v9 v10 v12 v13 σ t w_v0
    unfold b_X12_drift_231 d_X12_drift_231
    refine FR_it (fun _ => ?_) (fun _ => ?_)
    · exact k_b_X12_drift_357 h_k196 t (by omega)
    · exact k_b_X12_drift_241 h_k196 (fun c13 τ t => ih t (by omega)) t (by omega)
def d_X12_drift_228 (k196 : Int32 → Sg → Option (Int32 × Sg)) (n : Nat) (v2 : Int32) (v3 : Int32) (v8 : Int32) (v9 : Int32) (v10 : Int64) (v12 : Int32) (σ : Sg) : Option (Int32 × Sg) :=
  d_X12_drift_231 k196 n v2 v3 v8 v9 v10 v12 (0 : Int32) σ
theorem k_b_X12_drift_228 {lo hi : Nat} {σ0 : Sg} {k196 k196c : Int32 → Sg → Option (Int32 × Sg)} {n : Nat} {v2 : Int32} {v3 : Int32} {v8 : Int32} {v9 : Int32} {v10 : Int64} {v12 : Int32} {σ : Sg} (h_k196 : ∀ (c0 : Int32) (τ : Sg), To lo hi σ0 τ → FR (fun q => To lo hi σ0 q.2) (k196 c0 τ) (k196c c0 τ)) (t : To lo hi σ0 σ) (w_v0 : lo ≤ 130 ∧ 168 ≤ hi) : FR (fun q => To lo hi σ0 q.2) (b_X12_drift_228 k196 n 130 v2 v3 v8 v9 v10 v12 σ) (d_X12_drift_228 k196c n v2 v3 v8 v9 v10 v12 σ) := by
  unfold b_X12_drift_228 d_X12_drift_228
  exact k_b_X12_drift_231 h_k196 t (by omega)
def d_X12_drift_205 (k196 : Int32 → Sg → Option (Int32 × Sg)) : Nat → Int32 → Int32 → Int32 → Int32 → Int64 → Int32 → Int32 → Sg → Option (Int32 × Sg)
  | 0, _, _, _, _, _, _, _, _ => none
  | n + 1, v2, v3, v8, v9, v10, v12, v13, σ =>
  if v9 ≤ v13 then (
    d_X12_drift_228 k196 n v2 v3 v8 v9 v10 v12 σ)
  else (
    ck (ix v13 200) <|
    nm (pJ σ 165 v13.toNatClampNeg (-1099511627776 : Int64)) fun σ187 =>
    nm (v13 + (1 : Int32)) fun x188 =>
    d_X12_drift_205 k196 n v2 v3 v8 v9 v10 v12 x188 σ187)
theorem k_b_X12_drift_205 {lo hi : Nat} {σ0 : Sg} {k196 k196c : Int32 → Sg → Option (Int32 × Sg)} (h_k196 : ∀ (c0 : Int32) (τ : Sg), To lo hi σ0 τ → FR (fun q => To lo hi σ0 q.2) (k196 c0 τ) (k196c c0 τ)) : ∀ {n : Nat} {v2 : Int32} {v3 : Int32} {v8 : Int32} {v9 : Int32} {v10 : Int64} {v12 : Int32} {v13 : Int32} {σ : Sg}, To lo hi σ0 σ → lo ≤ 130 ∧ 168 ≤ hi → FR (fun q => To lo hi σ0 q.2) (b_X12_drift_205 k196 n 130 v2 v3 v8 v9 v10 v12 v13 σ) (d_X12_drift_205 k196c n v2 v3 v8 v9 v10 v12 v13 σ) := by
  intro n
  induction n with
  | zero => intro v2 v3 v8 v9 v10 v12 v13 σ t w_v0; exact FR_none
  | succ n ih =>
    intro v2 v3 v8 v9 v10 v12 v13 σ t w_v0
    unfold b_X12_drift_205 d_X12_drift_205
    refine FR_it (fun _ => ?_) (fun _ => ?_)
    · exact k_b_X12_drift_228 h_k196 t (by omega)
    · refine FR_ck (lo11 t.1) ?_
      refine FR_ck (ln11_49 t.1) ?_
      refine FR_nmR (w := 165) (lr11_49 t.1) ?_
      refine FR_ckI (okW_iff t.1 (by decide : Ar 14 200 165)) (fun q1778 => ?_)
      refine FR_nmS (To_pJ t (by omega)) (fun σ187 t => ?_)
      refine FR_nm (fun x188 => ?_)
      exact ih t (by omega)
def d_X12_drift_196 : Nat → Int32 → Int32 → Int32 → Int32 → Int64 → Int32 → Sg → Option (Int32 × Sg)
  | 0, _, _, _, _, _, _, _ => none
  | n + 1, v2, v3, v8, v9, v10, v12, σ =>
  if v3 ≤ v12 then (
    d_X12_drift_393 n v2 v8 v9 v10 σ)
  else (
    d_X12_drift_205 (fun c12 τ => d_X12_drift_196 n v2 v3 v8 v9 v10 c12 τ) n v2 v3 v8 v9 v10 v12 (0 : Int32) σ)
theorem k_b_X12_drift_196 {lo hi : Nat} {σ0 : Sg} : ∀ {n : Nat} {v2 : Int32} {v3 : Int32} {v8 : Int32} {v9 : Int32} {v10 : Int64} {v12 : Int32} {σ : Sg}, To lo hi σ0 σ → lo ≤ 130 ∧ 168 ≤ hi → FR (fun q => To lo hi σ0 q.2) (b_X12_drift_196 n 130 v2 v3 v8 v9 v10 v12 σ) (d_X12_drift_196 n v2 v3 v8 v9 v10 v12 σ) := by
  intro n
  induction n with
  | zero => intro v2 v3 v8 v9 v10 v12 σ t w_v0; exact FR_none
  | succ n ih =>
    intro v2 v3 v8 v9 v10 v12 σ t w_v0
    unfold b_X12_drift_196 d_X12_drift_196
    refine FR_it (fun _ => ?_) (fun _ => ?_)
    · exact k_b_X12_drift_393 t
    · exact k_b_X12_drift_205 (fun c12 τ t => ih t (by omega)) t (by omega)
def d_X12_drift_193 (n : Nat) (v2 : Int32) (v3 : Int32) (v8 : Int32) (v9 : Int32) (v10 : Int64) (σ : Sg) : Option (Int32 × Sg) :=
  d_X12_drift_196 n v2 v3 v8 v9 v10 (0 : Int32) σ
theorem k_b_X12_drift_193 {lo hi : Nat} {σ0 : Sg} {n : Nat} {v2 : Int32} {v3 : Int32} {v8 : Int32} {v9 : Int32} {v10 : Int64} {σ : Sg} (t : To lo hi σ0 σ) (w_v0 : lo ≤ 130 ∧ 168 ≤ hi) : FR (fun q => To lo hi σ0 q.2) (b_X12_drift_193 n 130 v2 v3 v8 v9 v10 σ) (d_X12_drift_193 n v2 v3 v8 v9 v10 σ) := by
  unfold b_X12_drift_193 d_X12_drift_193
  exact k_b_X12_drift_196 t (by omega)
def d_X12_drift_162 : Nat → Int32 → Int32 → Int32 → Int32 → Int32 → Int32 → Int64 → Int32 → Sg → Option (Int32 × Sg)
  | 0, _, _, _, _, _, _, _, _, _ => none
  | n + 1, v2, v3, v4, v7, v8, v9, v10, v12, σ =>
  if v4 < v12 then (
    d_X12_drift_193 n v2 v3 v8 v9 v10 σ)
  else (
    ck (¬ (v9.toInt64) = 0) <|
    ck (ix ((((v12.toInt64) * (v7.toInt64)) - ((v12.toInt64) * (v7.toInt64)) / (v9.toInt64) * (v9.toInt64)).toInt32) 200) <|
    nm (pI σ 166 ((((v12.toInt64) * (v7.toInt64)) - ((v12.toInt64) * (v7.toInt64)) / (v9.toInt64) * (v9.toInt64)).toInt32).toNatClampNeg (1 : Int32)) fun σ194 =>
    nm (v12 + (1 : Int32)) fun x195 =>
    d_X12_drift_162 n v2 v3 v4 v7 v8 v9 v10 x195 σ194)
theorem k_b_X12_drift_162 {lo hi : Nat} {σ0 : Sg} : ∀ {n : Nat} {v2 : Int32} {v3 : Int32} {v4 : Int32} {v7 : Int32} {v8 : Int32} {v9 : Int32} {v10 : Int64} {v12 : Int32} {σ : Sg}, To lo hi σ0 σ → lo ≤ 130 ∧ 168 ≤ hi → FR (fun q => To lo hi σ0 q.2) (b_X12_drift_162 n 130 v2 v3 v4 v7 v8 v9 v10 v12 σ) (d_X12_drift_162 n v2 v3 v4 v7 v8 v9 v10 v12 σ) := by
  intro n
  induction n with
  | zero => intro v2 v3 v4 v7 v8 v9 v10 v12 σ t w_v0; exact FR_none
  | succ n ih =>
    intro v2 v3 v4 v7 v8 v9 v10 v12 σ t w_v0
    unfold b_X12_drift_162 d_X12_drift_162
    refine FR_it (fun _ => ?_) (fun _ => ?_)
    · exact k_b_X12_drift_193 t (by omega)
    · refine FR_ck (lo11 t.1) ?_
      refine FR_ck (ln11_50 t.1) ?_
      refine FR_nmR (w := 166) (lr11_50 t.1) ?_
      refine FR_ckI Iff.rfl (fun q1781 => ?_)
      refine FR_ckI (okW_iff t.1 (by decide : Ar 15 200 166)) (fun q1782 => ?_)
      refine FR_nmS (To_pI t (by omega)) (fun σ194 t => ?_)
      refine FR_nm (fun x195 => ?_)
      exact ih t (by omega)
def d_X12_drift_159 (n : Nat) (v2 : Int32) (v3 : Int32) (v4 : Int32) (v7 : Int32) (v8 : Int32) (v9 : Int32) (v10 : Int64) (σ : Sg) : Option (Int32 × Sg) :=
  d_X12_drift_162 n v2 v3 v4 v7 v8 v9 v10 (0 : Int32) σ
theorem k_b_X12_drift_159 {lo hi : Nat} {σ0 : Sg} {n : Nat} {v2 : Int32} {v3 : Int32} {v4 : Int32} {v7 : Int32} {v8 : Int32} {v9 : Int32} {v10 : Int64} {σ : Sg} (t : To lo hi σ0 σ) (w_v0 : lo ≤ 130 ∧ 168 ≤ hi) : FR (fun q => To lo hi σ0 q.2) (b_X12_drift_159 n 130 v2 v3 v4 v7 v8 v9 v10 σ) (d_X12_drift_159 n v2 v3 v4 v7 v8 v9 v10 σ) := by
  unfold b_X12_drift_159 d_X12_drift_159
  exact k_b_X12_drift_162 t (by omega)
def d_X12_drift_152 (k119 : Int32 → Sg → Option (Int32 × Sg)) (n : Nat) (v2 : Int32) (v3 : Int32) (v4 : Int32) (v7 : Int32) (v8 : Int32) (v9 : Int32) (v10 : Int64) (v12 : Int32) (s0 : Int64) (s1 : Int32) (s2 : Nat) (σ : Sg) : Option (Int32 × Sg) :=
  ck (ix s1 200) <|
  nm (pJ σ s2 s1.toNatClampNeg s0) fun σ206 =>
  nm (v12 + (1 : Int32)) fun x207 =>
  k119 x207 σ206
theorem k_b_X12_drift_152 {lo hi : Nat} {σ0 : Sg} {k119 k119c : Int32 → Sg → Option (Int32 × Sg)} {n : Nat} {v2 : Int32} {v3 : Int32} {v4 : Int32} {v7 : Int32} {v8 : Int32} {v9 : Int32} {v10 : Int64} {v12 : Int32} {s0 : Int64} {s1 : Int32} {s2 : Nat} {σ : Sg} (h_k119 : ∀ (c0 : Int32) (τ : Sg), To lo hi σ0 τ → FR (fun q => To lo hi σ0 q.2) (k119 c0 τ) (k119c c0 τ)) (t : To lo hi σ0 σ) (h_s2 : Ar 14 200 s2) (w_s2 : lo ≤ s2 ∧ s2 < hi) : FR (fun q => To lo hi σ0 q.2) (b_X12_drift_152 k119 n 130 v2 v3 v4 v7 v8 v9 v10 v12 s0 s1 s2 σ) (d_X12_drift_152 k119c n v2 v3 v4 v7 v8 v9 v10 v12 s0 s1 s2 σ) := by
  unfold b_X12_drift_152 d_X12_drift_152
  refine FR_ckI (okW_iff t.1 h_s2) (fun q1783 => ?_)
  refine FR_nmS (To_pJ t (by omega)) (fun σ206 t => ?_)
  refine FR_nm (fun x207 => ?_)
  exact h_k119 _ _ t
def d_X12_drift_119 : Nat → Int32 → Int32 → Int32 → Int32 → Int32 → Int32 → Int64 → Int32 → Sg → Option (Int32 × Sg)
  | 0, _, _, _, _, _, _, _, _, _ => none
  | n + 1, v2, v3, v4, v7, v8, v9, v10, v12, σ =>
  if v9 ≤ v12 then (
    d_X12_drift_159 n v2 v3 v4 v7 v8 v9 v10 σ)
  else (
    ck (ix v12 200) <|
    nm (pI σ 166 v12.toNatClampNeg (0 : Int32)) fun σ200 =>
    if v12 = 0 then (
      d_X12_drift_152 (fun c12 τ => d_X12_drift_119 n v2 v3 v4 v7 v8 v9 v10 c12 τ) n v2 v3 v4 v7 v8 v9 v10 v12 (0 : Int64) v12 164 σ200)
    else (
      d_X12_drift_152 (fun c12 τ => d_X12_drift_119 n v2 v3 v4 v7 v8 v9 v10 c12 τ) n v2 v3 v4 v7 v8 v9 v10 v12 (-1099511627776 : Int64) v12 164 σ200))
theorem k_b_X12_drift_119 {lo hi : Nat} {σ0 : Sg} : ∀ {n : Nat} {v2 : Int32} {v3 : Int32} {v4 : Int32} {v7 : Int32} {v8 : Int32} {v9 : Int32} {v10 : Int64} {v12 : Int32} {σ : Sg}, To lo hi σ0 σ → lo ≤ 130 ∧ 168 ≤ hi → FR (fun q => To lo hi σ0 q.2) (b_X12_drift_119 n 130 v2 v3 v4 v7 v8 v9 v10 v12 σ) (d_X12_drift_119 n v2 v3 v4 v7 v8 v9 v10 v12 σ) := by
  intro n
  induction n with
  | zero => intro v2 v3 v4 v7 v8 v9 v10 v12 σ t w_v0; exact FR_none
  | succ n ih =>
    intro v2 v3 v4 v7 v8 v9 v10 v12 σ t w_v0
    unfold b_X12_drift_119 d_X12_drift_119
    refine FR_it (fun _ => ?_) (fun _ => ?_)
    · exact k_b_X12_drift_159 t (by omega)
    · refine FR_ck (lo11 t.1) ?_
      refine FR_ck (ln11_50 t.1) ?_
      refine FR_nmR (w := 166) (lr11_50 t.1) ?_
      refine FR_ckI (okW_iff t.1 (by decide : Ar 15 200 166)) (fun q1786 => ?_)
      refine FR_nmS (To_pI t (by omega)) (fun σ200 t => ?_)
      refine FR_ck (lo11 t.1) ?_
      refine FR_ck (ln11_48 t.1) ?_
      refine FR_nmR (w := 164) (lr11_48 t.1) ?_
      refine FR_it (fun _ => ?_) (fun _ => ?_)
      · exact k_b_X12_drift_152 (fun c12 τ t => ih t (by omega)) t (by decide) (by omega)
      · exact k_b_X12_drift_152 (fun c12 τ t => ih t (by omega)) t (by decide) (by omega)
def d_X12_drift_114 (n : Nat) (v2 : Int32) (v3 : Int32) (v4 : Int32) (v7 : Int32) (v8 : Int32) (v9 : Int32) (s0 : Int64) (σ : Sg) : Option (Int32 × Sg) :=
  d_X12_drift_119 n v2 v3 v4 v7 v8 v9 s0 (0 : Int32) σ
theorem k_b_X12_drift_114 {lo hi : Nat} {σ0 : Sg} {n : Nat} {v2 : Int32} {v3 : Int32} {v4 : Int32} {v7 : Int32} {v8 : Int32} {v9 : Int32} {s0 : Int64} {σ : Sg} (t : To lo hi σ0 σ) (w_v0 : lo ≤ 130 ∧ 168 ≤ hi) : FR (fun q => To lo hi σ0 q.2) (b_X12_drift_114 n 130 v2 v3 v4 v7 v8 v9 s0 σ) (d_X12_drift_114 n v2 v3 v4 v7 v8 v9 s0 σ) := by
  unfold b_X12_drift_114 d_X12_drift_114
  exact k_b_X12_drift_119 t (by omega)
def d_X12_drift_67 (n : Nat) (v1 : Int32) (v2 : Int32) (v3 : Int32) (v4 : Int32) (v5 : Int32) (s0 : Int32) (σ : Sg) : Option (Int32 × Sg) :=
  bd (c_X12_isRefused s0 σ) fun x110 σ109 =>
  if x110 = 0 then (
    ck (ix v1 8) <|
    nm (gI σ109 131 v1.toNatClampNeg) fun x116 =>
    ck (ix v1 8) <|
    nm (gI σ109 132 v1.toNatClampNeg) fun x120 =>
    nm ((2 : Int32) * x120) fun x121 =>
    if v5 = 0 then (
      d_X12_drift_114 n v2 v3 v4 x116 x120 x121 (1 : Int64) σ109)
    else (
      d_X12_drift_114 n v2 v3 v4 x116 x120 x121 (-1 : Int64) σ109))
  else (
    some ((0 : Int32), σ109))
theorem k_b_X12_drift_67 {lo hi : Nat} {σ0 : Sg} {n : Nat} {v1 : Int32} {v2 : Int32} {v3 : Int32} {v4 : Int32} {v5 : Int32} {s0 : Int32} {σ : Sg} (t : To lo hi σ0 σ) (w_v0 : lo ≤ 130 ∧ 168 ≤ hi) : FR (fun q => To lo hi σ0 q.2) (b_X12_drift_67 n 130 v1 v2 v3 v4 v5 s0 σ) (d_X12_drift_67 n v1 v2 v3 v4 v5 s0 σ) := by
  unfold b_X12_drift_67 d_X12_drift_67
  refine FR_ck (lo11 t.1) ?_
  refine FR_bd (k_f_X12_isRefused t (by omega)) (fun x110 σ109 t => ?_)
  refine FR_it (fun _ => ?_) (fun _ => ?_)
  · refine FR_ck (lo11 t.1) ?_
    refine FR_ck (ln11_1 t.1) ?_
    refine FR_nmR (w := 131) (lr11_1 t.1) ?_
    refine FR_ckI (okA_iff t.1 (by decide : Ar 13 8 131)) (fun q1792 => ?_)
    refine FR_nm (fun x116 => ?_)
    refine FR_ck (ln11_2 t.1) ?_
    refine FR_nmR (w := 132) (lr11_2 t.1) ?_
    refine FR_ckI (okA_iff t.1 (by decide : Ar 13 8 132)) (fun q1794 => ?_)
    refine FR_nm (fun x120 => ?_)
    refine FR_nm (fun x121 => ?_)
    refine FR_it (fun _ => ?_) (fun _ => ?_)
    · exact k_b_X12_drift_114 t (by omega)
    · exact k_b_X12_drift_114 t (by omega)
  · exact FR_some t
def d_X12_drift_66 (n : Nat) (v1 : Int32) (v2 : Int32) (v3 : Int32) (v4 : Int32) (v5 : Int32) (σ : Sg) : Option (Int32 × Sg) :=
  d_X12_drift_67 n v1 v2 v3 v4 v5 (0 : Int32) σ
theorem k_b_X12_drift_66 {lo hi : Nat} {σ0 : Sg} {n : Nat} {v1 : Int32} {v2 : Int32} {v3 : Int32} {v4 : Int32} {v5 : Int32} {σ : Sg} (t : To lo hi σ0 σ) (w_v0 : lo ≤ 130 ∧ 168 ≤ hi) : FR (fun q => To lo hi σ0 q.2) (b_X12_drift_66 n 130 v1 v2 v3 v4 v5 σ) (d_X12_drift_66 n v1 v2 v3 v4 v5 σ) := by
  unfold b_X12_drift_66 d_X12_drift_66
  exact k_b_X12_drift_67 t (by omega)
def c_X12_drift (n : Nat) (v1 : Int32) (v2 : Int32) (v3 : Int32) (v4 : Int32) (v5 : Int32) (σ : Sg) : Option (Int32 × Sg) :=
  bp (f_X12_in v1 (0 : Int32) (7 : Int32)) fun x105 =>
  if x105 = 0 then (
    d_X12_drift_66 n v1 v2 v3 v4 v5 σ)
  else (
    ck (ix v1 8) <|
    if (100 : Int32) < (gI σ 132 v1.toNatClampNeg) then (
      d_X12_drift_66 n v1 v2 v3 v4 v5 σ)
    else (
      bp (f_X12_in v2 (0 : Int32) (5 : Int32)) fun x214 =>
      if x214 = 0 then (
        d_X12_drift_66 n v1 v2 v3 v4 v5 σ)
      else (
        bp (f_X12_in v3 (1 : Int32) (12 : Int32)) fun x217 =>
        if x217 = 0 then (
          d_X12_drift_66 n v1 v2 v3 v4 v5 σ)
        else (
          bp (f_X12_in v4 (0 : Int32) (1000 : Int32)) fun x220 =>
          if x220 = 0 then (
            d_X12_drift_66 n v1 v2 v3 v4 v5 σ)
          else (
            bp (f_X12_in v5 (0 : Int32) (1 : Int32)) fun x223 =>
            if x223 = 0 then (
              d_X12_drift_66 n v1 v2 v3 v4 v5 σ)
            else (
              d_X12_drift_67 n v1 v2 v3 v4 v5 (1 : Int32) σ))))))
theorem k_f_X12_drift {lo hi : Nat} {σ0 : Sg} {n : Nat} {v1 : Int32} {v2 : Int32} {v3 : Int32} {v4 : Int32} {v5 : Int32} {σ : Sg} (t : To lo hi σ0 σ) (w_v0 : lo ≤ 130 ∧ 168 ≤ hi) : FR (fun q => To lo hi σ0 q.2) (f_X12_drift n 130 v1 v2 v3 v4 v5 σ) (c_X12_drift n v1 v2 v3 v4 v5 σ) := by
  unfold f_X12_drift c_X12_drift
  refine FR_nmP (fun x105 => ?_)
  refine FR_it (fun _ => ?_) (fun _ => ?_)
  · exact k_b_X12_drift_66 t (by omega)
  · refine FR_ck (lo11 t.1) ?_
    refine FR_ck (ln11_2 t.1) ?_
    refine FR_nmR (w := 132) (lr11_2 t.1) ?_
    refine FR_ckI (okA_iff t.1 (by decide : Ar 13 8 132)) (fun q1797 => ?_)
    refine FR_it (fun _ => ?_) (fun _ => ?_)
    · exact k_b_X12_drift_66 t (by omega)
    · refine FR_nmP (fun x214 => ?_)
      refine FR_it (fun _ => ?_) (fun _ => ?_)
      · exact k_b_X12_drift_66 t (by omega)
      · refine FR_nmP (fun x217 => ?_)
        refine FR_it (fun _ => ?_) (fun _ => ?_)
        · exact k_b_X12_drift_66 t (by omega)
        · refine FR_nmP (fun x220 => ?_)
          refine FR_it (fun _ => ?_) (fun _ => ?_)
          · exact k_b_X12_drift_66 t (by omega)
          · refine FR_nmP (fun x223 => ?_)
            refine FR_it (fun _ => ?_) (fun _ => ?_)
            · exact k_b_X12_drift_66 t (by omega)
            · exact k_b_X12_drift_67 t (by omega)
def d_X12_chooses_21 (v1 : Int32) (v2 : Int32) (σ : Sg) : Option Sg :=
  ck (ix v1 80) <|
  nm (pI σ 139 v1.toNatClampNeg v2) fun σ28 =>
  some σ28
theorem k_b_X12_chooses_21 {lo hi : Nat} {σ0 : Sg} {v1 : Int32} {v2 : Int32} {σ : Sg} (t : To lo hi σ0 σ) (w_v0 : lo ≤ 130 ∧ 168 ≤ hi) : FR (fun q => To lo hi σ0 q) (b_X12_chooses_21 130 v1 v2 σ) (d_X12_chooses_21 v1 v2 σ) := by
  unfold b_X12_chooses_21 d_X12_chooses_21
  refine FR_ck (lo11 t.1) ?_
  refine FR_ck (ln11_11 t.1) ?_
  refine FR_nmR (w := 139) (lr11_11 t.1) ?_
  refine FR_ckI (okW_iff t.1 (by decide : Ar 13 80 139)) (fun q1800 => ?_)
  refine FR_nmS (To_pI t (by omega)) (fun σ28 t => ?_)
  exact FR_some t
def c_X12_chooses (v1 : Int32) (v2 : Int32) (σ : Sg) : Option Sg :=
  ck (ix v1 80) <|
  if (gI σ 137 v1.toNatClampNeg) = (4 : Int32) then (
    d_X12_chooses_21 v1 v2 σ)
  else (
    ck (ix v1 80) <|
    if (gI σ 137 v1.toNatClampNeg) = (6 : Int32) then (
      d_X12_chooses_21 v1 v2 σ)
    else (
      ck (ix v1 80) <|
      nm (pI σ 140 v1.toNatClampNeg v2) fun σ35 =>
      some σ35))
theorem k_f_X12_chooses {lo hi : Nat} {σ0 : Sg} {v1 : Int32} {v2 : Int32} {σ : Sg} (t : To lo hi σ0 σ) (w_v0 : lo ≤ 130 ∧ 168 ≤ hi) : FR (fun q => To lo hi σ0 q) (f_X12_chooses 130 v1 v2 σ) (c_X12_chooses v1 v2 σ) := by
  unfold f_X12_chooses c_X12_chooses
  refine FR_ck (lo11 t.1) ?_
  refine FR_ck (ln11_9 t.1) ?_
  refine FR_nmR (w := 137) (lr11_9 t.1) ?_
  refine FR_ckI (okA_iff t.1 (by decide : Ar 13 80 137)) (fun q1803 => ?_)
  refine FR_it (fun _ => ?_) (fun _ => ?_)
  · exact k_b_X12_chooses_21 t (by omega)
  · refine FR_nmR (w := 137) (lr11_9 t.1) ?_
    refine FR_ckI (okA_iff t.1 (by decide : Ar 13 80 137)) (fun q1804 => ?_)
    refine FR_it (fun _ => ?_) (fun _ => ?_)
    · exact k_b_X12_chooses_21 t (by omega)
    · refine FR_ck (ln11_12 t.1) ?_
      refine FR_nmR (w := 140) (lr11_12 t.1) ?_
      refine FR_ckI (okW_iff t.1 (by decide : Ar 13 80 140)) (fun q1806 => ?_)
      refine FR_nmS (To_pI t (by omega)) (fun σ35 t => ?_)
      exact FR_some t
