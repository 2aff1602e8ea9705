def d_X12_mend_228 (k60 : Int32 → Sg → Option (Int32 × Sg)) (n : Nat) (v1 : Int32) (v2 : Int32) (v3 : Int32) (v4 : Int32) (v5 : Int32) (σ : Sg) : Option (Int32 × Sg) :=
  nm (v5 + (1 : Int32)) fun x91 =>
  k60 x91 σ
theorem k_b_X12_mend_228 {lo hi : Nat} {σ0 : Sg} {k60 k60c : Int32 → Sg → Option (Int32 × Sg)} {n : Nat} {v1 : Int32} {v2 : Int32} {v3 : Int32} {v4 : Int32} {v5 : Int32} {σ : Sg} (h_k60 : ∀ (c0 : Int32) (τ : Sg), To lo hi σ0 τ → FR (fun q => To lo hi σ0 q.2) (k60 c0 τ) (k60c c0 τ)) (t : To lo hi σ0 σ) : FR (fun q => To lo hi σ0 q.2) (b_X12_mend_228 k60 n 130 v1 v2 v3 v4 v5 σ) (d_X12_mend_228 k60c n v1 v2 v3 v4 v5 σ) := by
  unfold b_X12_mend_228 d_X12_mend_228
  refine FR_nm (fun x91 => ?_)
  exact h_k60 _ _ t
def d_X12_mend_198 (k60 : Int32 → Sg → Option (Int32 × Sg)) (k125 : Int32 → Sg → Option (Int32 × Sg)) (n : Nat) (v1 : Int32) (v2 : Int32) (v3 : Int32) (v4 : Int32) (v5 : Int32) (v6 : Int32) (v7 : Int32) (v8 : Int32) (s0 : Int32) (σ : Sg) : Option (Int32 × Sg) :=
  bp (c_X12_chooses v6 v7 σ) fun σ104 =>
  if s0 = 0 then (
    nm (v8 + (1 : Int32)) fun x106 =>
    k125 x106 σ104)
  else (
    some (((10 : Int32) * v5) + v8, σ104))
theorem k_b_X12_mend_198 {lo hi : Nat} {σ0 : Sg} {k60 k60c : Int32 → Sg → Option (Int32 × Sg)} {k125 k125c : Int32 → Sg → Option (Int32 × Sg)} {n : Nat} {v1 : Int32} {v2 : Int32} {v3 : Int32} {v4 : Int32} {v5 : Int32} {v6 : Int32} {v7 : Int32} {v8 : Int32} {s0 : Int32} {σ : Sg} (h_k60 : ∀ (c0 : Int32) (τ : Sg), To lo hi σ0 τ → FR (fun q => To lo hi σ0 q.2) (k60 c0 τ) (k60c c0 τ)) (h_k125 : ∀ (c0 : Int32) (τ : Sg), To lo hi σ0 τ → FR (fun q => To lo hi σ0 q.2) (k125 c0 τ) (k125c c0 τ)) (t : To lo hi σ0 σ) (w_v0 : lo ≤ 130 ∧ 168 ≤ hi) : FR (fun q => To lo hi σ0 q.2) (b_X12_mend_198 k60 k125 n 130 v1 v2 v3 v4 v5 v6 v7 v8 s0 σ) (d_X12_mend_198 k60c k125c n v1 v2 v3 v4 v5 v6 v7 v8 s0 σ) := by
  unfold b_X12_mend_198 d_X12_mend_198
  refine FR_ck (lo11 t.1) ?_
  refine FR_bp (k_f_X12_chooses t (by omega)) (fun σ104 t => ?_)
  refine FR_it (fun _ => ?_) (fun _ => ?_)
  · refine FR_nm (fun x106 => ?_)
    exact h_k125 _ _ t
  · exact FR_some t
def d_X12_mend_197 (k60 : Int32 → Sg → Option (Int32 × Sg)) (k125 : Int32 → Sg → Option (Int32 × Sg)) (n : Nat) (v1 : Int32) (v2 : Int32) (v3 : Int32) (v4 : Int32) (v5 : Int32) (v6 : Int32) (v7 : Int32) (v8 : Int32) (σ : Sg) : Option (Int32 × Sg) :=
  d_X12_mend_198 k60 k125 n v1 v2 v3 v4 v5 v6 v7 v8 (0 : Int32) σ
theorem k_b_X12_mend_197 {lo hi : Nat} {σ0 : Sg} {k60 k60c : Int32 → Sg → Option (Int32 × Sg)} {k125 k125c : Int32 → Sg → Option (Int32 × Sg)} {n : Nat} {v1 : Int32} {v2 : Int32} {v3 : Int32} {v4 : Int32} {v5 : Int32} {v6 : Int32} {v7 : Int32} {v8 : Int32} {σ : Sg} (h_k60 : ∀ (c0 : Int32) (τ : Sg), To lo hi σ0 τ → FR (fun q => To lo hi σ0 q.2) (k60 c0 τ) (k60c c0 τ)) (h_k125 : ∀ (c0 : Int32) (τ : Sg), To lo hi σ0 τ → FR (fun q => To lo hi σ0 q.2) (k125 c0 τ) (k125c c0 τ)) (t : To lo hi σ0 σ) (w_v0 : lo ≤ 130 ∧ 168 ≤ hi) : FR (fun q => To lo hi σ0 q.2) (b_X12_mend_197 k60 k125 n 130 v1 v2 v3 v4 v5 v6 v7 v8 σ) (d_X12_mend_197 k60c k125c n v1 v2 v3 v4 v5 v6 v7 v8 σ) := by
  unfold b_X12_mend_197 d_X12_mend_197
  exact k_b_X12_mend_198 h_k60 h_k125 t (by omega)
def d_X12_mend_145 (k60 : Int32 → Sg → Option (Int32 × Sg)) (k125 : Int32 → Sg → Option (Int32 × Sg)) (n : Nat) (v1 : Int32) (v2 : Int32) (v3 : Int32) (v4 : Int32) (v5 : Int32) (v6 : Int32) (v7 : Int32) (v8 : Int32) (s0 : Int32) (s1 : Int32) (σ : Sg) : Option (Int32 × Sg) :=
  if s0 ≤ s1 then (
    d_X12_mend_228 k60 n v1 v2 v3 v4 v5 σ)
  else (
    ck (ix v6 80) <|
    bp (f_X12_hasChoice 130 (gI σ 137 v6.toNatClampNeg)) fun x97 =>
    if x97 = 0 then (
      d_X12_mend_228 k60 n v1 v2 v3 v4 v5 σ)
    else (
      bp (c_X12_chooses v6 v8 σ) fun σ100 =>
      if v8 = v7 then (
        d_X12_mend_197 k60 k125 n v1 v2 v3 v4 v5 v6 v7 v8 σ100)
      else (
        bd (c_X12_leastOf n v1 v2 (-1 : Int32) v3 v4 σ100) fun x110 σ109 =>
        if x110 = (9999999 : Int32) then (
          d_X12_mend_198 k60 k125 n v1 v2 v3 v4 v5 v6 v7 v8 (1 : Int32) σ109)
        else (
          d_X12_mend_197 k60 k125 n v1 v2 v3 v4 v5 v6 v7 v8 σ109))))
theorem k_b_X12_mend_145 {lo hi : Nat} {σ0 : Sg} {k60 k60c : Int32 → Sg → Option (Int32 × Sg)} {k125 k125c : Int32 → Sg → Option (Int32 × Sg)} {n : Nat} {v1 : Int32} {v2 : Int32} {v3 : Int32} {v4 : Int32} {v5 : Int32} {v6 : Int32} {v7 : Int32} {v8 : Int32} {s0 : Int32} {s1 : Int32} {σ : Sg} (h_k60 : ∀ (c0 : Int32) (τ : Sg), To lo hi σ0 τ → FR (fun q => To lo hi σ0 q.2) (k60 c0 τ) (k60c c0 τ)) (h_k125 : ∀ (c0 : Int32) (τ : Sg), To lo hi σ0 τ → FR (fun q => To lo hi σ0 q.2) (k125 c0 τ) (k125c c0 τ)) (t : To lo hi σ0 σ) (w_v0 : lo ≤ 130 ∧ 168 ≤ hi) : FR (fun q => To lo hi σ0 q.2) (b_X12_mend_145 k60 k125 n 130 v1 v2 v3 v4 v5 v6 v7 v8 s0 s1 σ) (d_X12_mend_145 k60c k125c n v1 v2 v3 v4 v5 v6 v7 v8 s0 s1 σ) := by
  unfold b_X12_mend_145 d_X12_mend_145
  refine FR_it (fun _ => ?_) (fun _ => ?_)
  · exact k_b_X12_mend_228 h_k60 t
  · refine FR_ck (lo11 t.1) ?_
    refine FR_ck (ln11_9 t.1) ?_
    refine FR_nmR (w := 137) (lr11_9 t.1) ?_
    refine FR_ckI (okA_iff t.1 (by decide : Ar 13 80 137)) (fun q1810 => ?_)
    refine FR_nmP (fun x97 => ?_)
    refine FR_it (fun _ => ?_) (fun _ => ?_)
    · exact k_b_X12_mend_228 h_k60 t
    · refine FR_bp (k_f_X12_chooses t (by omega)) (fun σ100 t => ?_)
      refine FR_it (fun _ => ?_) (fun _ => ?_)
      · exact k_b_X12_mend_197 h_k60 h_k125 t (by omega)
      · refine FR_ck (lo11 t.1) ?_
        refine FR_bd (k_f_X12_leastOf t (by omega)) (fun x110 σ109 t => ?_)
        refine FR_it (fun _ => ?_) (fun _ => ?_)
        · exact k_b_X12_mend_198 h_k60 h_k125 t (by omega)
        · exact k_b_X12_mend_197 h_k60 h_k125 t (by omega)
def d_X12_mend_125 (k60 : Int32 → Sg → Option (Int32 × Sg)) : Nat → Int32 → Int32 → Int32 → Int32 → Int32 → Int32 → Int32 → Int32 → Sg → Option (Int32 × Sg)
  | 0, _, _, _, _, _, _, _, _, _ => none
  | n + 1, v1, v2, v3, v4, v5, v6, v7, v8, σ =>
  ck (ix v6 80) <|
  if (gI σ 137 v6.toNatClampNeg) = (6 : Int32) then (
    d_X12_mend_145 k60 (fun c8 τ => d_X12_mend_125 k60 n v1 v2 v3 v4 v5 v6 v7 c8 τ) n v1 v2 v3 v4 v5 v6 v7 v8 (4 : Int32) v8 σ)
  else (
    d_X12_mend_145 k60 (fun c8 τ => d_X12_mend_125 k60 n v1 v2 v3 v4 v5 v6 v7 c8 τ) n v1 v2 v3 v4 v5 v6 v7 v8 (6 : Int32) v8 σ)
theorem k_b_X12_mend_125 {lo hi : Nat} {σ0 : Sg} {k60 k60c : Int32 → Sg → Option (Int32 × Sg)} (h_k60 : ∀ (c0 : Int32) (τ : Sg), To lo hi σ0 τ → FR (fun q => To lo hi σ0 q.2) (k60 c0 τ) (k60c c0 τ)) : ∀ {n : Nat} {v1 : Int32} {v2 : Int32} {v3 : Int32} {v4 : Int32} {v5 : Int32} {v6 : Int32} {v7 : Int32} {v8 : Int32} {σ : Sg}, To lo hi σ0 σ → lo ≤ 130 ∧ 168 ≤ hi → FR (fun q => To lo hi σ0 q.2) (b_X12_mend_125 k60 n 130 v1 v2 v3 v4 v5 v6 v7 v8 σ) (d_X12_mend_125 k60c n v1 v2 v3 v4 v5 v6 v7 v8 σ) := by
  intro n
  induction n with
  | zero => intro v1 v2 v3 v4 v5 v6 v7 v8 σ t w_v0; exact FR_none
  | succ n ih =>
    intro v1 v2 v3 v4 v5 v6 v7 v8 σ t w_v0
    unfold b_X12_mend_125 d_X12_mend_125
    refine FR_ck (lo11 t.1) ?_
    refine FR_ck (ln11_9 t.1) ?_
    refine FR_nmR (w := 137) (lr11_9 t.1) ?_
    refine FR_ckI (okA_iff t.1 (by decide : Ar 13 80 137)) (fun q1814 => ?_)
    refine FR_it (fun _ => ?_) (fun _ => ?_)
    · exact k_b_X12_mend_145 h_k60 (fun c8 τ t => ih t (by omega)) t (by omega)
    · exact k_b_X12_mend_145 h_k60 (fun c8 τ t => ih t (by omega)) t (by omega)
def d_X12_mend_120 (k60 : Int32 → Sg → Option (Int32 × Sg)) (n : Nat) (v1 : Int32) (v2 : Int32) (v3 : Int32) (v4 : Int32) (v5 : Int32) (v6 : Int32) (s0 : Int32) (σ : Sg) : Option (Int32 × Sg) :=
  d_X12_mend_125 k60 n v1 v2 v3 v4 v5 v6 s0 (0 : Int32) σ
theorem k_b_X12_mend_120 {lo hi : Nat} {σ0 : Sg} {k60 k60c : Int32 → Sg → Option (Int32 × Sg)} {n : Nat} {v1 : Int32} {v2 : Int32} {v3 : Int32} {v4 : Int32} {v5 : Int32} {v6 : Int32} {s0 : Int32} {σ : Sg} (h_k60 : ∀ (c0 : Int32) (τ : Sg), To lo hi σ0 τ → FR (fun q => To lo hi σ0 q.2) (k60 c0 τ) (k60c c0 τ)) (t : To lo hi σ0 σ) (w_v0 : lo ≤ 130 ∧ 168 ≤ hi) : FR (fun q => To lo hi σ0 q.2) (b_X12_mend_120 k60 n 130 v1 v2 v3 v4 v5 v6 s0 σ) (d_X12_mend_120 k60c n v1 v2 v3 v4 v5 v6 s0 σ) := by
  unfold b_X12_mend_120 d_X12_mend_120
  exact k_b_X12_mend_125 h_k60 t (by omega)
def d_X12_mend_103 (k60 : Int32 → Sg → Option (Int32 × Sg)) (n : Nat) (v1 : Int32) (v2 : Int32) (v3 : Int32) (v4 : Int32) (v5 : Int32) (v6 : Int32) (σ : Sg) : Option (Int32 × Sg) :=
  ck (ix v6 80) <|
  d_X12_mend_120 k60 n v1 v2 v3 v4 v5 v6 (gI σ 139 v6.toNatClampNeg) σ
theorem k_b_X12_mend_103 {lo hi : Nat} {σ0 : Sg} {k60 k60c : Int32 → Sg → Option (Int32 × Sg)} {n : Nat} {v1 : Int32} {v2 : Int32} {v3 : Int32} {v4 : Int32} {v5 : Int32} {v6 : Int32} {σ : Sg} (h_k60 : ∀ (c0 : Int32) (τ : Sg), To lo hi σ0 τ → FR (fun q => To lo hi σ0 q.2) (k60 c0 τ) (k60c c0 τ)) (t : To lo hi σ0 σ) (w_v0 : lo ≤ 130 ∧ 168 ≤ hi) : FR (fun q => To lo hi σ0 q.2) (b_X12_mend_103 k60 n 130 v1 v2 v3 v4 v5 v6 σ) (d_X12_mend_103 k60c n v1 v2 v3 v4 v5 v6 σ) := by
  unfold b_X12_mend_103 d_X12_mend_103
  refine FR_ck (lo11 t.1) ?_
  refine FR_ck (ln11_11 t.1) ?_
  refine FR_nmR (w := 139) (lr11_11 t.1) ?_
  refine FR_ckI (okA_iff t.1 (by decide : Ar 13 80 139)) (fun q1817 => ?_)
  exact k_b_X12_mend_120 h_k60 t (by omega)
def d_X12_mend_60 : Nat → Int32 → Int32 → Int32 → Int32 → Int32 → Sg → Option (Int32 × Sg)
  | 0, _, _, _, _, _, _ => none
  | n + 1, v1, v2, v3, v4, v5, σ =>
  ck (ix v1 4) <|
  if (gI σ 136 v1.toNatClampNeg) ≤ v5 then (
    some ((-3 : Int32), σ))
  else (
    nm (((20 : Int32) * v1) + v5) fun x76 =>
    ck (ix x76 80) <|
    if (gI σ 137 x76.toNatClampNeg) = (4 : Int32) then (
      d_X12_mend_103 (fun c5 τ => d_X12_mend_60 n v1 v2 v3 v4 c5 τ) n v1 v2 v3 v4 v5 x76 σ)
    else (
      ck (ix x76 80) <|
      if (gI σ 137 x76.toNatClampNeg) = (6 : Int32) then (
        d_X12_mend_103 (fun c5 τ => d_X12_mend_60 n v1 v2 v3 v4 c5 τ) n v1 v2 v3 v4 v5 x76 σ)
      else (
        ck (ix x76 80) <|
        d_X12_mend_120 (fun c5 τ => d_X12_mend_60 n v1 v2 v3 v4 c5 τ) n v1 v2 v3 v4 v5 x76 (gI σ 140 x76.toNatClampNeg) σ)))
theorem k_b_X12_mend_60 {lo hi : Nat} {σ0 : Sg} : ∀ {n : Nat} {v1 : Int32} {v2 : Int32} {v3 : Int32} {v4 : Int32} {v5 : Int32} {σ : Sg}, To lo hi σ0 σ → lo ≤ 130 ∧ 168 ≤ hi → FR (fun q => To lo hi σ0 q.2) (b_X12_mend_60 n 130 v1 v2 v3 v4 v5 σ) (d_X12_mend_60 n v1 v2 v3 v4 v5 σ) := by
  intro n
  induction n with
  | zero => intro v1 v2 v3 v4 v5 σ t w_v0; exact FR_none
  | succ n ih =>
    intro v1 v2 v3 v4 v5 σ t w_v0
    unfold b_X12_mend_60 d_X12_mend_60
    refine FR_ck (lo11 t.1) ?_
    refine FR_ck (ln11_8 t.1) ?_
    refine FR_nmR (w := 136) (lr11_8 t.1) ?_
    refine FR_ckI (okA_iff t.1 (by decide : Ar 13 4 136)) (fun q1820 => ?_)
    refine FR_it (fun _ => ?_) (fun _ => ?_)
    · exact FR_some t
    · refine FR_nm (fun x76 => ?_)
      refine FR_ck (ln11_9 t.1) ?_
      refine FR_nmR (w := 137) (lr11_9 t.1) ?_
      refine FR_ckI (okA_iff t.1 (by decide : Ar 13 80 137)) (fun q1822 => ?_)
      refine FR_it (fun _ => ?_) (fun _ => ?_)
      · exact k_b_X12_mend_103 (fun c5 τ t => ih t (by omega)) t (by omega)
      · refine FR_nmR (w := 137) (lr11_9 t.1) ?_
        refine FR_ckI (okA_iff t.1 (by decide : Ar 13 80 137)) (fun q1823 => ?_)
        refine FR_it (fun _ => ?_) (fun _ => ?_)
        · exact k_b_X12_mend_103 (fun c5 τ t => ih t (by omega)) t (by omega)
        · refine FR_ck (ln11_12 t.1) ?_
          refine FR_nmR (w := 140) (lr11_12 t.1) ?_
          refine FR_ckI (okA_iff t.1 (by decide : Ar 13 80 140)) (fun q1825 => ?_)
          exact k_b_X12_mend_120 (fun c5 τ t => ih t (by omega)) t (by omega)
def c_X12_mend (n : Nat) (v1 : Int32) (v2 : Int32) (v3 : Int32) (v4 : Int32) (σ : Sg) : Option (Int32 × Sg) :=
  bp (c_X12_isProgram v1 σ) fun x58 =>
  if x58 = 0 then (
    some ((-1 : Int32), σ))
  else (
    bp (f_X12_in v2 (0 : Int32) (6 : Int32)) fun x61 =>
    if x61 = 0 then (
      some ((-1 : Int32), σ))
    else (
      if v2 = (2 : Int32) then (
        some ((-1 : Int32), σ))
      else (
        bp (f_X12_isSpan v3 v4 (300 : Int32)) fun x65 =>
        if x65 = 0 then (
          some ((-1 : Int32), σ))
        else (
          bd (c_X12_leastOf n v1 v2 (-1 : Int32) v3 v4 σ) fun x69 σ68 =>
          if x69 = (9999999 : Int32) then (
            some ((9999999 : Int32), σ68))
          else (
            d_X12_mend_60 n v1 v2 v3 v4 (0 : Int32) σ68)))))
theorem k_f_X12_mend {lo hi : Nat} {σ0 : Sg} {n : Nat} {v1 : Int32} {v2 : Int32} {v3 : Int32} {v4 : Int32} {σ : Sg} (t : To lo hi σ0 σ) (w_v0 : lo ≤ 130 ∧ 168 ≤ hi) : FR (fun q => To lo hi σ0 q.2) (f_X12_mend n 130 v1 v2 v3 v4 σ) (c_X12_mend n v1 v2 v3 v4 σ) := by
  unfold f_X12_mend c_X12_mend
  refine FR_ck (lo11 t.1) ?_
  refine FR_bpP (k_f_X12_isProgram t).1 (fun x58 => ?_)
  refine FR_it (fun _ => ?_) (fun _ => ?_)
  · exact FR_some t
  · refine FR_nmP (fun x61 => ?_)
    refine FR_it (fun _ => ?_) (fun _ => ?_)
    · exact FR_some t
    · refine FR_it (fun _ => ?_) (fun _ => ?_)
      · exact FR_some t
      · refine FR_nmP (fun x65 => ?_)
        refine FR_it (fun _ => ?_) (fun _ => ?_)
        · exact FR_some t
        · refine FR_bd (k_f_X12_leastOf t (by omega)) (fun x69 σ68 t => ?_)
          refine FR_it (fun _ => ?_) (fun _ => ?_)
          · exact FR_some t
          · exact k_b_X12_mend_60 t (by omega)
def d_X12_same_155 (n : Nat) (v3 : Int32) (σ : Sg) : Option Int32 :=
  if v3 = 0 then (
    some (0 : Int32))
  else (
    some (1 : Int32))
theorem k_b_X12_same_155 {lo hi : Nat} {σ0 : Sg} {n : Nat} {v3 : Int32} {σ : Sg} (t : To lo hi σ0 σ) : FR (fun _ => True) (b_X12_same_155 n v3 σ) (d_X12_same_155 n v3 σ) := by
  unfold b_X12_same_155 d_X12_same_155
  refine FR_it (fun _ => ?_) (fun _ => ?_)
  · exact FR_some trivial
  · exact FR_some trivial
def d_X12_same_148 (k42 : Int32 → Int32 → Option Int32) (n : Nat) (v1 : Int32) (v2 : Int32) (v4 : Int32) (s0 : Int32) (σ : Sg) : Option Int32 :=
  nm (v4 + (1 : Int32)) fun x72 =>
  k42 s0 x72
theorem k_b_X12_same_148 {lo hi : Nat} {σ0 : Sg} {k42 k42c : Int32 → Int32 → Option Int32} {n : Nat} {v1 : Int32} {v2 : Int32} {v4 : Int32} {s0 : Int32} {σ : Sg} (h_k42 : ∀ (c0 : Int32) (c1 : Int32), FR (fun _ => True) (k42 c0 c1) (k42c c0 c1)) (t : To lo hi σ0 σ) : FR (fun _ => True) (b_X12_same_148 k42 n 130 v1 v2 v4 s0 σ) (d_X12_same_148 k42c n v1 v2 v4 s0 σ) := by
  unfold b_X12_same_148 d_X12_same_148
  refine FR_nm (fun x72 => ?_)
  exact h_k42 _ _
def d_X12_same_147 (k42 : Int32 → Int32 → Option Int32) (n : Nat) (v1 : Int32) (v2 : Int32) (v4 : Int32) (σ : Sg) : Option Int32 :=
  d_X12_same_148 k42 n v1 v2 v4 (0 : Int32) σ
theorem k_b_X12_same_147 {lo hi : Nat} {σ0 : Sg} {k42 k42c : Int32 → Int32 → Option Int32} {n : Nat} {v1 : Int32} {v2 : Int32} {v4 : Int32} {σ : Sg} (h_k42 : ∀ (c0 : Int32) (c1 : Int32), FR (fun _ => True) (k42 c0 c1) (k42c c0 c1)) (t : To lo hi σ0 σ) : FR (fun _ => True) (b_X12_same_147 k42 n 130 v1 v2 v4 σ) (d_X12_same_147 k42c n v1 v2 v4 σ) := by
  unfold b_X12_same_147 d_X12_same_147
  exact k_b_X12_same_148 h_k42 t
def d_X12_same_42 : Nat → Int32 → Int32 → Int32 → Int32 → Sg → Option Int32
  | 0, _, _, _, _, _ => none
  | n + 1, v1, v2, v3, v4, σ =>
  ck (ix v1 4) <|
  if (gI σ 136 v1.toNatClampNeg) ≤ v4 then (
    d_X12_same_155 n v3 σ)
  else (
    if v3 = 0 then (
      d_X12_same_155 n v3 σ)
    else (
      nm (((20 : Int32) * v1) + v4) fun x64 =>
      nm (((20 : Int32) * v2) + v4) fun x65 =>
      ck (ix x64 80) <|
      ck (ix x65 80) <|
      if (gI σ 137 x64.toNatClampNeg) = (gI σ 137 x65.toNatClampNeg) then (
        ck (ix x64 80) <|
        ck (ix x65 80) <|
        if (gI σ 138 x64.toNatClampNeg) = (gI σ 138 x65.toNatClampNeg) then (
          ck (ix x64 80) <|
          ck (ix x65 80) <|
          if (gI σ 139 x64.toNatClampNeg) = (gI σ 139 x65.toNatClampNeg) then (
            ck (ix x64 80) <|
            ck (ix x65 80) <|
            if (gI σ 140 x64.toNatClampNeg) = (gI σ 140 x65.toNatClampNeg) then (
              d_X12_same_148 (fun c3 c4 => d_X12_same_42 n v1 v2 c3 c4 σ) n v1 v2 v4 (1 : Int32) σ)
            else (
              d_X12_same_147 (fun c3 c4 => d_X12_same_42 n v1 v2 c3 c4 σ) n v1 v2 v4 σ))
          else (
            d_X12_same_147 (fun c3 c4 => d_X12_same_42 n v1 v2 c3 c4 σ) n v1 v2 v4 σ))
        else (
          d_X12_same_147 (fun c3 c4 => d_X12_same_42 n v1 v2 c3 c4 σ) n v1 v2 v4 σ))
      else (
        d_X12_same_147 (fun c3 c4 => d_X12_same_42 n v1 v2 c3 c4 σ) n v1 v2 v4 σ)))
theorem k_b_X12_same_42 {lo hi : Nat} {σ0 : Sg} : ∀ {n : Nat} {v1 : Int32} {v2 : Int32} {v3 : Int32} {v4 : Int32} {σ : Sg}, To lo hi σ0 σ → FR (fun _ => True) (b_X12_same_42 n 130 v1 v2 v3 v4 σ) (d_X12_same_42 n v1 v2 v3 v4 σ) := by
  intro n
  induction n with
  | zero => intro v1 v2 v3 v4 σ t; exact FR_none
  | succ n ih =>
    intro v1 v2 v3 v4 σ t
    unfold b_X12_same_42 d_X12_same_42
    refine FR_ck (lo11 t.1) ?_
    refine FR_ck (ln11_8 t.1) ?_
    refine FR_nmR (w := 136) (lr11_8 t.1) ?_
    refine FR_ckI (okA_iff t.1 (by decide : Ar 13 4 136)) (fun q1829 => ?_)
    refine FR_it (fun _ => ?_) (fun _ => ?_)
    · exact k_b_X12_same_155 t
    · refine FR_it (fun _ => ?_) (fun _ => ?_)
      · exact k_b_X12_same_155 t
      · refine FR_nm (fun x64 => ?_)
        refine FR_nm (fun x65 => ?_)
        refine FR_ck (ln11_9 t.1) ?_
        refine FR_nmR (w := 137) (lr11_9 t.1) ?_
        refine FR_ckI (okA_iff t.1 (by decide : Ar 13 80 137)) (fun q1831 => ?_)
        refine FR_nmR (w := 137) (lr11_9 t.1) ?_
        refine FR_ckI (okA_iff t.1 (by decide : Ar 13 80 137)) (fun q1832 => ?_)
        refine FR_it (fun _ => ?_) (fun _ => ?_)
        · refine FR_ck (ln11_10 t.1) ?_
          refine FR_nmR (w := 138) (lr11_10 t.1) ?_
          refine FR_ckI (okA_iff t.1 (by decide : Ar 13 80 138)) (fun q1834 => ?_)
          refine FR_nmR (w := 138) (lr11_10 t.1) ?_
          refine FR_ckI (okA_iff t.1 (by decide : Ar 13 80 138)) (fun q1835 => ?_)
          refine FR_it (fun _ => ?_) (fun _ => ?_)
          · refine FR_ck (ln11_11 t.1) ?_
            refine FR_nmR (w := 139) (lr11_11 t.1) ?_
            refine FR_ckI (okA_iff t.1 (by decide : Ar 13 80 139)) (fun q1837 => ?_)
            refine FR_nmR (w := 139) (lr11_11 t.1) ?_
            refine FR_ckI (okA_iff t.1 (by decide : Ar 13 80 139)) (fun q1838 => ?_)
            refine FR_it (fun _ => ?_) (fun _ => ?_)
            · refine FR_ck (ln11_12 t.1) ?_
              refine FR_nmR (w := 140) (lr11_12 t.1) ?_
              refine FR_ckI (okA_iff t.1 (by decide : Ar 13 80 140)) (fun q1840 => ?_)
              refine FR_nmR (w := 140) (lr11_12 t.1) ?_
              refine FR_ckI (okA_iff t.1 (by decide : Ar 13 80 140)) (fun q1841 => ?_)
              refine FR_it (fun _ => ?_) (fun _ => ?_)
              · exact k_b_X12_same_148 (fun c3 c4 => ih t) t
              · exact k_b_X12_same_147 (fun c3 c4 => ih t) t
            · exact k_b_X12_same_147 (fun c3 c4 => ih t) t
          · exact k_b_X12_same_147 (fun c3 c4 => ih t) t
        · exact k_b_X12_same_147 (fun c3 c4 => ih t) t
def d_X12_same_38 (n : Nat) (v1 : Int32) (v2 : Int32) (s0 : Int32) (σ : Sg) : Option Int32 :=
  d_X12_same_42 n v1 v2 s0 (0 : Int32) σ
theorem k_b_X12_same_38 {lo hi : Nat} {σ0 : Sg} {n : Nat} {v1 : Int32} {v2 : Int32} {s0 : Int32} {σ : Sg} (t : To lo hi σ0 σ) : FR (fun _ => True) (b_X12_same_38 n 130 v1 v2 s0 σ) (d_X12_same_38 n v1 v2 s0 σ) := by
  unfold b_X12_same_38 d_X12_same_38
  exact k_b_X12_same_42 t
def c_X12_same (n : Nat) (v1 : Int32) (v2 : Int32) (σ : Sg) : Option Int32 :=
  bp (c_X12_isProgram v1 σ) fun x46 =>
  if x46 = 0 then (
    some (-1 : Int32))
  else (
    bp (c_X12_isProgram v2 σ) fun x49 =>
    if x49 = 0 then (
      some (-1 : Int32))
    else (
      ck (ix v1 4) <|
      ck (ix v2 4) <|
      if (gI σ 136 v1.toNatClampNeg) = (gI σ 136 v2.toNatClampNeg) then (
        d_X12_same_38 n v1 v2 (1 : Int32) σ)
      else (
        d_X12_same_38 n v1 v2 (0 : Int32) σ)))
theorem k_f_X12_same {lo hi : Nat} {σ0 : Sg} {n : Nat} {v1 : Int32} {v2 : Int32} {σ : Sg} (t : To lo hi σ0 σ) : FR (fun _ => True) (f_X12_same n 130 v1 v2 σ) (c_X12_same n v1 v2 σ) := by
  unfold f_X12_same c_X12_same
  refine FR_ck (lo11 t.1) ?_
  refine FR_bpP (k_f_X12_isProgram t).1 (fun x46 => ?_)
  refine FR_it (fun _ => ?_) (fun _ => ?_)
  · exact FR_some trivial
  · refine FR_bpP (k_f_X12_isProgram t).1 (fun x49 => ?_)
    refine FR_it (fun _ => ?_) (fun _ => ?_)
    · exact FR_some trivial
    · refine FR_ck (ln11_8 t.1) ?_
      refine FR_nmR (w := 136) (lr11_8 t.1) ?_
      refine FR_ckI (okA_iff t.1 (by decide : Ar 13 4 136)) (fun q1844 => ?_)
      refine FR_nmR (w := 136) (lr11_8 t.1) ?_
      refine FR_ckI (okA_iff t.1 (by decide : Ar 13 4 136)) (fun q1845 => ?_)
      refine FR_it (fun _ => ?_) (fun _ => ?_)
      · exact k_b_X12_same_38 t
      · exact k_b_X12_same_38 t
def d_X12_rounded_52 (v1 : Int64) (v3 : Int32) (v4 : Int32) (v5 : Int32) (s0 : Int32) (σ : Sg) : Option (Int64 × Sg) :=
  bd (c_X12_isRefused s0 σ) fun x19 σ18 =>
  if x19 = 0 then (
    bp (f_X12_times v1 ((v3.toInt64) * (v4.toInt64)) v5) fun x22 =>
    some ((v4.toInt64) * x22, σ18))
  else (
    some ((0 : Int64), σ18))
theorem k_b_X12_rounded_52 {lo hi : Nat} {σ0 : Sg} {v1 : Int64} {v3 : Int32} {v4 : Int32} {v5 : Int32} {s0 : Int32} {σ : Sg} (t : To lo hi σ0 σ) (w_v0 : lo ≤ 130 ∧ 168 ≤ hi) : FR (fun q => To lo hi σ0 q.2) (b_X12_rounded_52 130 v1 v3 v4 v5 s0 σ) (d_X12_rounded_52 v1 v3 v4 v5 s0 σ) := by
  unfold b_X12_rounded_52 d_X12_rounded_52
  refine FR_ck (lo11 t.1) ?_
  refine FR_bd (k_f_X12_isRefused t (by omega)) (fun x19 σ18 t => ?_)
  refine FR_it (fun _ => ?_) (fun _ => ?_)
  · refine FR_nmP (fun x22 => ?_)
    exact FR_some t
  · exact FR_some t
def d_X12_rounded_51 (v1 : Int64) (v3 : Int32) (v4 : Int32) (v5 : Int32) (σ : Sg) : Option (Int64 × Sg) :=
  d_X12_rounded_52 v1 v3 v4 v5 (0 : Int32) σ
theorem k_b_X12_rounded_51 {lo hi : Nat} {σ0 : Sg} {v1 : Int64} {v3 : Int32} {v4 : Int32} {v5 : Int32} {σ : Sg} (t : To lo hi σ0 σ) (w_v0 : lo ≤ 130 ∧ 168 ≤ hi) : FR (fun q => To lo hi σ0 q.2) (b_X12_rounded_51 130 v1 v3 v4 v5 σ) (d_X12_rounded_51 v1 v3 v4 v5 σ) := by
  unfold b_X12_rounded_51 d_X12_rounded_51
  exact k_b_X12_rounded_52 t (by omega)
def c_X12_rounded (v1 : Int64) (v3 : Int32) (v4 : Int32) (v5 : Int32) (σ : Sg) : Option (Int64 × Sg) :=
  bp (f_X12_in v3 (1 : Int32) (1000000 : Int32)) fun x14 =>
  if x14 = 0 then (
    d_X12_rounded_51 v1 v3 v4 v5 σ)
  else (
    bp (f_X12_in v4 (1 : Int32) (1000000 : Int32)) fun x24 =>
    if x24 = 0 then (
      d_X12_rounded_51 v1 v3 v4 v5 σ)
    else (
      if v1 < (-1000000000000 : Int64) then (
        d_X12_rounded_51 v1 v3 v4 v5 σ)
      else (
        if (1000000000000 : Int64) < v1 then (
          d_X12_rounded_51 v1 v3 v4 v5 σ)
        else (
          bp (f_X12_in v5 (0 : Int32) (5 : Int32)) fun x29 =>
          if x29 = 0 then (
            d_X12_rounded_51 v1 v3 v4 v5 σ)
          else (
            d_X12_rounded_52 v1 v3 v4 v5 (1 : Int32) σ)))))
theorem k_f_X12_rounded {lo hi : Nat} {σ0 : Sg} {v1 : Int64} {v3 : Int32} {v4 : Int32} {v5 : Int32} {σ : Sg} (t : To lo hi σ0 σ) (w_v0 : lo ≤ 130 ∧ 168 ≤ hi) : FR (fun q => To lo hi σ0 q.2) (f_X12_rounded 130 v1 v3 v4 v5 σ) (c_X12_rounded v1 v3 v4 v5 σ) := by
  unfold f_X12_rounded c_X12_rounded
  refine FR_nmP (fun x14 => ?_)
  refine FR_it (fun _ => ?_) (fun _ => ?_)
  · exact k_b_X12_rounded_51 t (by omega)
  · refine FR_nmP (fun x24 => ?_)
    refine FR_it (fun _ => ?_) (fun _ => ?_)
    · exact k_b_X12_rounded_51 t (by omega)
    · refine FR_it (fun _ => ?_) (fun _ => ?_)
      · exact k_b_X12_rounded_51 t (by omega)
      · refine FR_it (fun _ => ?_) (fun _ => ?_)
        · exact k_b_X12_rounded_51 t (by omega)
        · refine FR_nmP (fun x29 => ?_)
          refine FR_it (fun _ => ?_) (fun _ => ?_)
          · exact k_b_X12_rounded_51 t (by omega)
          · exact k_b_X12_rounded_52 t (by omega)
def d_X12_tape_52 : Nat → Int32 → Int32 → Int32 → Sg → Option (Int32 × Sg)
  | 0, _, _, _, _ => none
  | n + 1, v1, v3, v4, σ =>
  if (64 : Int32) ≤ v4 then (
    some (v3, σ))
  else (
    ck (ix (((64 : Int32) * v1) + v4) 384) <|
    nm (pJ σ 152 (((64 : Int32) * v1) + v4).toNatClampNeg (0 : Int64)) fun σ48 =>
    nm (v4 + (1 : Int32)) fun x49 =>
    d_X12_tape_52 n v1 v3 x49 σ48)
theorem k_b_X12_tape_52 {lo hi : Nat} {σ0 : Sg} : ∀ {n : Nat} {v1 : Int32} {v3 : Int32} {v4 : Int32} {σ : Sg}, To lo hi σ0 σ → lo ≤ 130 ∧ 168 ≤ hi → FR (fun q => To lo hi σ0 q.2) (b_X12_tape_52 n 130 v1 v3 v4 σ) (d_X12_tape_52 n v1 v3 v4 σ) := by
  intro n
  induction n with
  | zero => intro v1 v3 v4 σ t w_v0; exact FR_none
  | succ n ih =>
    intro v1 v3 v4 σ t w_v0
    unfold b_X12_tape_52 d_X12_tape_52
    refine FR_it (fun _ => ?_) (fun _ => ?_)
    · exact FR_some t
    · refine FR_ck (lo11 t.1) ?_
      refine FR_ck (ln11_35 t.1) ?_
      refine FR_nmR (w := 152) (lr11_35 t.1) ?_
      refine FR_ckI (okW_iff t.1 (by decide : Ar 14 384 152)) (fun q1849 => ?_)
      refine FR_nmS (To_pJ t (by omega)) (fun σ48 t => ?_)
      refine FR_nm (fun x49 => ?_)
      exact ih t (by omega)
def c_X12_tape (n : Nat) (v1 : Int32) (v2 : Int32) (v3 : Int32) (σ : Sg) : Option (Int32 × Sg) :=
  bp (f_X12_isTape v1) fun x26 =>
  if x26 = 0 then (
    some ((-1 : Int32), σ))
  else (
    bp (f_X12_in v2 (1 : Int32) (4 : Int32)) fun x29 =>
    if x29 = 0 then (
      some ((-1 : Int32), σ))
    else (
      if v3 ≤ (64 : Int32) then (
        if 0 ≤ v3 then (
          ck (ix v1 6) <|
          nm (pI σ 150 v1.toNatClampNeg v2) fun σ37 =>
          ck (ix v1 6) <|
          nm (pI σ37 151 v1.toNatClampNeg v3) fun σ42 =>
          d_X12_tape_52 n v1 v3 (0 : Int32) σ42)
        else (
          bd (c_X12_refuse (-14 : Int32) σ) fun x53 σ52 =>
          some (x53, σ52)))
      else (
        some ((-1 : Int32), σ))))
theorem k_f_X12_tape {lo hi : Nat} {σ0 : Sg} {n : Nat} {v1 : Int32} {v2 : Int32} {v3 : Int32} {σ : Sg} (t : To lo hi σ0 σ) (w_v0 : lo ≤ 130 ∧ 168 ≤ hi) : FR (fun q => To lo hi σ0 q.2) (f_X12_tape n 130 v1 v2 v3 σ) (c_X12_tape n v1 v2 v3 σ) := by
  unfold f_X12_tape c_X12_tape
  refine FR_nmP (fun x26 => ?_)
  refine FR_it (fun _ => ?_) (fun _ => ?_)
  · exact FR_some t
  · refine FR_nmP (fun x29 => ?_)
    refine FR_it (fun _ => ?_) (fun _ => ?_)
    · exact FR_some t
    · refine FR_it (fun _ => ?_) (fun _ => ?_)
      · refine FR_it (fun _ => ?_) (fun _ => ?_)
        · refine FR_ck (lo11 t.1) ?_
          refine FR_ck (ln11_33 t.1) ?_
          refine FR_nmR (w := 150) (lr11_33 t.1) ?_
          refine FR_ckI (okW_iff t.1 (by decide : Ar 13 6 150)) (fun q1852 => ?_)
          refine FR_nmS (To_pI t (by omega)) (fun σ37 t => ?_)
          refine FR_ck (lo11 t.1) ?_
          refine FR_ck (ln11_34 t.1) ?_
          refine FR_nmR (w := 151) (lr11_34 t.1) ?_
          refine FR_ckI (okW_iff t.1 (by decide : Ar 13 6 151)) (fun q1855 => ?_)
          refine FR_nmS (To_pI t (by omega)) (fun σ42 t => ?_)
          exact k_b_X12_tape_52 t (by omega)
        · refine FR_ck (lo11 t.1) ?_
          refine FR_bd (k_f_X12_refuse t (by omega)) (fun x53 σ52 t => ?_)
          exact FR_some t
      · exact FR_some t
def d_X12_image_69 : Nat → Int32 → Int32 → Sg → Option (Int32 × Sg)
  | 0, _, _, _ => none
  | n + 1, v1, v2, σ =>
  if (gI σ 130 7) ≤ v2 then (
    some (gI σ 130 7, σ))
  else (
    ck (ix v2 8) <|
    ck (ix (((4 : Int32) * v1) + v2) 24) <|
    nm (pJ σ 156 (((4 : Int32) * v1) + v2).toNatClampNeg (gJ σ 147 v2.toNatClampNeg)) fun σ73 =>
    ck (ix v2 8) <|
    ck (ix (((4 : Int32) * v1) + v2) 24) <|
    nm (pJ σ73 157 (((4 : Int32) * v1) + v2).toNatClampNeg (gJ σ73 148 v2.toNatClampNeg)) fun σ81 =>
    nm (v2 + (1 : Int32)) fun x82 =>
    d_X12_image_69 n v1 x82 σ81)
theorem k_b_X12_image_69 {lo hi : Nat} {σ0 : Sg} : ∀ {n : Nat} {v1 : Int32} {v2 : Int32} {σ : Sg}, To lo hi σ0 σ → lo ≤ 130 ∧ 168 ≤ hi → FR (fun q => To lo hi σ0 q.2) (b_X12_image_69 n 130 v1 v2 σ) (d_X12_image_69 n v1 v2 σ) := by
  intro n
  induction n with
  | zero => intro v1 v2 σ t w_v0; exact FR_none
  | succ n ih =>
    intro v1 v2 σ t w_v0
    unfold b_X12_image_69 d_X12_image_69
    refine FR_ck (lo11 t.1) ?_
    refine FR_it (fun _ => ?_) (fun _ => ?_)
    · exact FR_some t
    · refine FR_ck (ln11_39 t.1) ?_
      refine FR_nmR (w := 156) (lr11_39 t.1) ?_
      refine FR_ck (ln11_24 t.1) ?_
      refine FR_nmR (w := 147) (lr11_24 t.1) ?_
      refine FR_ckI (okA_iff t.1 (by decide : Ar 14 8 147)) (fun q1860 => ?_)
      refine FR_ckI (okW_iff t.1 (by decide : Ar 14 24 156)) (fun q1861 => ?_)
      refine FR_nmS (To_pJ t (by omega)) (fun σ73 t => ?_)
      refine FR_ck (lo11 t.1) ?_
      refine FR_ck (ln11_40 t.1) ?_
      refine FR_nmR (w := 157) (lr11_40 t.1) ?_
      refine FR_ck (ln11_25 t.1) ?_
      refine FR_nmR (w := 148) (lr11_25 t.1) ?_
      refine FR_ckI (okA_iff t.1 (by decide : Ar 14 8 148)) (fun q1865 => ?_)
      refine FR_ckI (okW_iff t.1 (by decide : Ar 14 24 157)) (fun q1866 => ?_)
      refine FR_nmS (To_pJ t (by omega)) (fun σ81 t => ?_)
      refine FR_nm (fun x82 => ?_)
      exact ih t (by omega)
def d_X12_image_67 (n : Nat) (v1 : Int32) (σ : Sg) : Option (Int32 × Sg) :=
  d_X12_image_69 n v1 (0 : Int32) σ
theorem k_b_X12_image_67 {lo hi : Nat} {σ0 : Sg} {n : Nat} {v1 : Int32} {σ : Sg} (t : To lo hi σ0 σ) (w_v0 : lo ≤ 130 ∧ 168 ≤ hi) : FR (fun q => To lo hi σ0 q.2) (b_X12_image_67 n 130 v1 σ) (d_X12_image_67 n v1 σ) := by
  unfold b_X12_image_67 d_X12_image_67
  exact k_b_X12_image_69 t (by omega)
def d_X12_image_38 : Nat → Int32 → Int32 → Sg → Option (Int32 × Sg)
  | 0, _, _, _ => none
  | n + 1, v1, v2, σ =>
  if (8 : Int32) ≤ v2 then (
    d_X12_image_67 n v1 σ)
  else (
    ck (ix v2 16) <|
    ck (ix (((8 : Int32) * v1) + v2) 48) <|
    nm (pJ σ 155 (((8 : Int32) * v1) + v2).toNatClampNeg (gJ σ 146 v2.toNatClampNeg)) fun σ90 =>
    nm (v2 + (1 : Int32)) fun x91 =>
    d_X12_image_38 n v1 x91 σ90)
theorem k_b_X12_image_38 {lo hi : Nat} {σ0 : Sg} : ∀ {n : Nat} {v1 : Int32} {v2 : Int32} {σ : Sg}, To lo hi σ0 σ → lo ≤ 130 ∧ 168 ≤ hi → FR (fun q => To lo hi σ0 q.2) (b_X12_image_38 n 130 v1 v2 σ) (d_X12_image_38 n v1 v2 σ) := by
  intro n
  induction n with
  | zero => intro v1 v2 σ t w_v0; exact FR_none
  | succ n ih =>
    intro v1 v2 σ t w_v0
    unfold b_X12_image_38 d_X12_image_38
    refine FR_it (fun _ => ?_) (fun _ => ?_)
    · exact k_b_X12_image_67 t (by omega)
    · refine FR_ck (lo11 t.1) ?_
      refine FR_ck (ln11_38 t.1) ?_
      refine FR_nmR (w := 155) (lr11_38 t.1) ?_
      refine FR_ck (ln11_23 t.1) ?_
      refine FR_nmR (w := 146) (lr11_23 t.1) ?_
      refine FR_ckI (okA_iff t.1 (by decide : Ar 14 16 146)) (fun q1870 => ?_)
      refine FR_ckI (okW_iff t.1 (by decide : Ar 14 48 155)) (fun q1871 => ?_)
      refine FR_nmS (To_pJ t (by omega)) (fun σ90 t => ?_)
      refine FR_nm (fun x91 => ?_)
      exact ih t (by omega)
def c_X12_image (n : Nat) (v1 : Int32) (σ : Sg) : Option (Int32 × Sg) :=
  bp (f_X12_isTape v1) fun x47 =>
  if x47 = 0 then (
    some ((-1 : Int32), σ))
  else (
    ck (ix v1 6) <|
    nm (pI σ 150 v1.toNatClampNeg (5 : Int32)) fun σ53 =>
    ck (ix v1 6) <|
    nm (pI σ53 153 v1.toNatClampNeg (gI σ53 130 7)) fun σ58 =>
    ck (ix v1 6) <|
    nm (pI σ58 154 v1.toNatClampNeg (gI σ58 130 13)) fun σ63 =>
    d_X12_image_38 n v1 (0 : Int32) σ63)
theorem k_f_X12_image {lo hi : Nat} {σ0 : Sg} {n : Nat} {v1 : Int32} {σ : Sg} (t : To lo hi σ0 σ) (w_v0 : lo ≤ 130 ∧ 168 ≤ hi) : FR (fun q => To lo hi σ0 q.2) (f_X12_image n 130 v1 σ) (c_X12_image n v1 σ) := by
  unfold f_X12_image c_X12_image
  refine FR_nmP (fun x47 => ?_)
  refine FR_it (fun _ => ?_) (fun _ => ?_)
  · exact FR_some t
  · refine FR_ck (lo11 t.1) ?_
    refine FR_ck (ln11_33 t.1) ?_
    refine FR_nmR (w := 150) (lr11_33 t.1) ?_
    refine FR_ckI (okW_iff t.1 (by decide : Ar 13 6 150)) (fun q1874 => ?_)
    refine FR_nmS (To_pI t (by omega)) (fun σ53 t => ?_)
    refine FR_ck (lo11 t.1) ?_
    refine FR_ck (ln11_36 t.1) ?_
    refine FR_nmR (w := 153) (lr11_36 t.1) ?_
    refine FR_ckI (okW_iff t.1 (by decide : Ar 13 6 153)) (fun q1877 => ?_)
    refine FR_nmS (To_pI t (by omega)) (fun σ58 t => ?_)
    refine FR_ck (lo11 t.1) ?_
    refine FR_ck (ln11_37 t.1) ?_
    refine FR_nmR (w := 154) (lr11_37 t.1) ?_
    refine FR_ckI (okW_iff t.1 (by decide : Ar 13 6 154)) (fun q1880 => ?_)
    refine FR_nmS (To_pI t (by omega)) (fun σ63 t => ?_)
    exact k_b_X12_image_38 t (by omega)
def c_X12_lacks (v1 : Int32) (σ : Sg) : Option (Int32 × Sg) :=
  bp (f_X12_isTape v1) fun x20 =>
  if x20 = 0 then (
    some ((-1 : Int32), σ))
  else (
    ck (ix v1 6) <|
    if (gI σ 150 v1.toNatClampNeg) = 0 then (
      bd (c_X12_refuse (-11 : Int32) σ) fun x35 σ34 =>
      some (x35, σ34))
    else (
      ck (ix v1 6) <|
      if (gI σ 150 v1.toNatClampNeg) = (5 : Int32) then (
        some ((0 : Int32), σ))
      else (
        bd (c_X12_refuse (-12 : Int32) σ) fun x32 σ31 =>
        some (x32, σ31))))
theorem k_f_X12_lacks {lo hi : Nat} {σ0 : Sg} {v1 : Int32} {σ : Sg} (t : To lo hi σ0 σ) (w_v0 : lo ≤ 130 ∧ 168 ≤ hi) : FR (fun q => To lo hi σ0 q.2) (f_X12_lacks 130 v1 σ) (c_X12_lacks v1 σ) := by
  unfold f_X12_lacks c_X12_lacks
  refine FR_nmP (fun x20 => ?_)
  refine FR_it (fun _ => ?_) (fun _ => ?_)
  · exact FR_some t
  · refine FR_ck (lo11 t.1) ?_
    refine FR_ck (ln11_33 t.1) ?_
    refine FR_nmR (w := 150) (lr11_33 t.1) ?_
    refine FR_ckI (okA_iff t.1 (by decide : Ar 13 6 150)) (fun q1883 => ?_)
    refine FR_it (fun _ => ?_) (fun _ => ?_)
    · refine FR_bd (k_f_X12_refuse t (by omega)) (fun x35 σ34 t => ?_)
      exact FR_some t
    · refine FR_nmR (w := 150) (lr11_33 t.1) ?_
      refine FR_ckI (okA_iff t.1 (by decide : Ar 13 6 150)) (fun q1884 => ?_)
      refine FR_it (fun _ => ?_) (fun _ => ?_)
      · exact FR_some t
      · refine FR_bd (k_f_X12_refuse t (by omega)) (fun x32 σ31 t => ?_)
        exact FR_some t
def d_X12_back_138 (k71 : Int32 → Sg → Option (Int32 × Sg)) (n : Nat) (v1 : Int32) (v3 : Int32) (s0 : Int64) (s1 : Int32) (s2 : Nat) (σ : Sg) : Option (Int32 × Sg) :=
  ck (ix s1 8) <|
  nm (pJ σ s2 s1.toNatClampNeg s0) fun σ83 =>
  nm (v3 + (1 : Int32)) fun x84 =>
  k71 x84 σ83
theorem k_b_X12_back_138 {lo hi : Nat} {σ0 : Sg} {k71 k71c : Int32 → Sg → Option (Int32 × Sg)} {n : Nat} {v1 : Int32} {v3 : Int32} {s0 : Int64} {s1 : Int32} {s2 : Nat} {σ : Sg} (h_k71 : ∀ (c0 : Int32) (τ : Sg), To lo hi σ0 τ → FR (fun q => To lo hi σ0 q.2) (k71 c0 τ) (k71c c0 τ)) (t : To lo hi σ0 σ) (h_s2 : Ar 14 8 s2) (w_s2 : lo ≤ s2 ∧ s2 < hi) : FR (fun q => To lo hi σ0 q.2) (b_X12_back_138 k71 n 130 v1 v3 s0 s1 s2 σ) (d_X12_back_138 k71c n v1 v3 s0 s1 s2 σ) := by
  unfold b_X12_back_138 d_X12_back_138
  refine FR_ckI (okW_iff t.1 h_s2) (fun q1885 => ?_)
  refine FR_nmS (To_pJ t (by omega)) (fun σ83 t => ?_)
  refine FR_nm (fun x84 => ?_)
  exact h_k71 _ _ t
def d_X12_back_108 (k71 : Int32 → Sg → Option (Int32 × Sg)) (n : Nat) (v1 : Int32) (v3 : Int32) (s0 : Int64) (s1 : Int32) (s2 : Nat) (σ : Sg) : Option (Int32 × Sg) :=
  ck (ix s1 8) <|
  nm (pJ σ s2 s1.toNatClampNeg s0) fun σ74 =>
  ck (ix v1 6) <|
  if (gI σ74 153 v1.toNatClampNeg) ≤ v3 then (
    d_X12_back_138 k71 n v1 v3 (1 : Int64) v3 148 σ74)
  else (
    ck (ix (((4 : Int32) * v1) + v3) 24) <|
    d_X12_back_138 k71 n v1 v3 (gJ σ74 157 (((4 : Int32) * v1) + v3).toNatClampNeg) v3 148 σ74)
theorem k_b_X12_back_108 {lo hi : Nat} {σ0 : Sg} {k71 k71c : Int32 → Sg → Option (Int32 × Sg)} {n : Nat} {v1 : Int32} {v3 : Int32} {s0 : Int64} {s1 : Int32} {s2 : Nat} {σ : Sg} (h_k71 : ∀ (c0 : Int32) (τ : Sg), To lo hi σ0 τ → FR (fun q => To lo hi σ0 q.2) (k71 c0 τ) (k71c c0 τ)) (t : To lo hi σ0 σ) (w_v0 : lo ≤ 130 ∧ 168 ≤ hi) (h_s2 : Ar 14 8 s2) (w_s2 : lo ≤ s2 ∧ s2 < hi) : FR (fun q => To lo hi σ0 q.2) (b_X12_back_108 k71 n 130 v1 v3 s0 s1 s2 σ) (d_X12_back_108 k71c n v1 v3 s0 s1 s2 σ) := by
  unfold b_X12_back_108 d_X12_back_108
  refine FR_ckI (okW_iff t.1 h_s2) (fun q1886 => ?_)
  refine FR_nmS (To_pJ t (by omega)) (fun σ74 t => ?_)
  refine FR_ck (lo11 t.1) ?_
  refine FR_ck (ln11_25 t.1) ?_
  refine FR_nmR (w := 148) (lr11_25 t.1) ?_
  refine FR_ck (ln11_36 t.1) ?_
  refine FR_nmR (w := 153) (lr11_36 t.1) ?_
  refine FR_ckI (okA_iff t.1 (by decide : Ar 13 6 153)) (fun q1890 => ?_)
  refine FR_it (fun _ => ?_) (fun _ => ?_)
  · exact k_b_X12_back_138 h_k71 t (by decide) (by omega)
  · refine FR_ck (ln11_40 t.1) ?_
    refine FR_nmR (w := 157) (lr11_40 t.1) ?_
    refine FR_ckI (okA_iff t.1 (by decide : Ar 14 24 157)) (fun q1892 => ?_)
    exact k_b_X12_back_138 h_k71 t (by decide) (by omega)
def d_X12_back_71 : Nat → Int32 → Int32 → Sg → Option (Int32 × Sg)
  | 0, _, _, _ => none
  | n + 1, v1, v3, σ =>
  if (gI σ 130 7) ≤ v3 then (
    some (gI σ 130 13, σ))
  else (
    ck (ix v1 6) <|
    if (gI σ 153 v1.toNatClampNeg) ≤ v3 then (
      d_X12_back_108 (fun c3 τ => d_X12_back_71 n v1 c3 τ) n v1 v3 (0 : Int64) v3 147 σ)
    else (
      ck (ix (((4 : Int32) * v1) + v3) 24) <|
      d_X12_back_108 (fun c3 τ => d_X12_back_71 n v1 c3 τ) n v1 v3 (gJ σ 156 (((4 : Int32) * v1) + v3).toNatClampNeg) v3 147 σ))
theorem k_b_X12_back_71 {lo hi : Nat} {σ0 : Sg} : ∀ {n : Nat} {v1 : Int32} {v3 : Int32} {σ : Sg}, To lo hi σ0 σ → lo ≤ 130 ∧ 168 ≤ hi → FR (fun q => To lo hi σ0 q.2) (b_X12_back_71 n 130 v1 v3 σ) (d_X12_back_71 n v1 v3 σ) := by
  intro n
  induction n with
  | zero => intro v1 v3 σ t w_v0; exact FR_none
  | succ n ih =>
    intro v1 v3 σ t w_v0
    unfold b_X12_back_71 d_X12_back_71
    refine FR_ck (lo11 t.1) ?_
    refine FR_it (fun _ => ?_) (fun _ => ?_)
    · exact FR_some t
    · refine FR_ck (ln11_24 t.1) ?_
      refine FR_nmR (w := 147) (lr11_24 t.1) ?_
      refine FR_ck (ln11_36 t.1) ?_
      refine FR_nmR (w := 153) (lr11_36 t.1) ?_
      refine FR_ckI (okA_iff t.1 (by decide : Ar 13 6 153)) (fun q1896 => ?_)
      refine FR_it (fun _ => ?_) (fun _ => ?_)
      · exact k_b_X12_back_108 (fun c3 τ t => ih t (by omega)) t (by omega) (by decide) (by omega)
      · refine FR_ck (ln11_39 t.1) ?_
        refine FR_nmR (w := 156) (lr11_39 t.1) ?_
        refine FR_ckI (okA_iff t.1 (by decide : Ar 14 24 156)) (fun q1898 => ?_)
        exact k_b_X12_back_108 (fun c3 τ t => ih t (by omega)) t (by omega) (by decide) (by omega)
def d_X12_back_69 (n : Nat) (v1 : Int32) (σ : Sg) : Option (Int32 × Sg) :=
  d_X12_back_71 n v1 (0 : Int32) σ
theorem k_b_X12_back_69 {lo hi : Nat} {σ0 : Sg} {n : Nat} {v1 : Int32} {σ : Sg} (t : To lo hi σ0 σ) (w_v0 : lo ≤ 130 ∧ 168 ≤ hi) : FR (fun q => To lo hi σ0 q.2) (b_X12_back_69 n 130 v1 σ) (d_X12_back_69 n v1 σ) := by
  unfold b_X12_back_69 d_X12_back_69
  exact k_b_X12_back_71 t (by omega)
def d_X12_back_40 : Nat → Int32 → Int32 → Sg → Option (Int32 × Sg)
  | 0, _, _, _ => none
  | n + 1, v1, v3, σ =>
  if (8 : Int32) ≤ v3 then (
    d_X12_back_69 n v1 σ)
  else (
    ck (ix (((8 : Int32) * v1) + v3) 48) <|
    ck (ix v3 16) <|
    nm (pJ σ 146 v3.toNatClampNeg (gJ σ 155 (((8 : Int32) * v1) + v3).toNatClampNeg)) fun σ98 =>
    nm (v3 + (1 : Int32)) fun x99 =>
    d_X12_back_40 n v1 x99 σ98)
theorem k_b_X12_back_40 {lo hi : Nat} {σ0 : Sg} : ∀ {n : Nat} {v1 : Int32} {v3 : Int32} {σ : Sg}, To lo hi σ0 σ → lo ≤ 130 ∧ 168 ≤ hi → FR (fun q => To lo hi σ0 q.2) (b_X12_back_40 n 130 v1 v3 σ) (d_X12_back_40 n v1 v3 σ) := by
  intro n
  induction n with
  | zero => intro v1 v3 σ t w_v0; exact FR_none
  | succ n ih =>
    intro v1 v3 σ t w_v0
    unfold b_X12_back_40 d_X12_back_40
    refine FR_it (fun _ => ?_) (fun _ => ?_)
    · exact k_b_X12_back_69 t (by omega)
    · refine FR_ck (lo11 t.1) ?_
      refine FR_ck (ln11_23 t.1) ?_
      refine FR_nmR (w := 146) (lr11_23 t.1) ?_
      refine FR_ck (ln11_38 t.1) ?_
      refine FR_nmR (w := 155) (lr11_38 t.1) ?_
      refine FR_ckI (okA_iff t.1 (by decide : Ar 14 48 155)) (fun q1902 => ?_)
      refine FR_ckI (okW_iff t.1 (by decide : Ar 14 16 146)) (fun q1903 => ?_)
      refine FR_nmS (To_pJ t (by omega)) (fun σ98 t => ?_)
      refine FR_nm (fun x99 => ?_)
      exact ih t (by omega)
def c_X12_back (n : Nat) (v1 : Int32) (σ : Sg) : Option (Int32 × Sg) :=
  bd (c_X12_lacks v1 σ) fun x53 σ52 =>
  if x53 = 0 then (
    ck (ix v1 6) <|
    if (gI σ52 153 v1.toNatClampNeg) ≤ (gI σ52 130 7) then (
      ck (ix v1 6) <|
      nm (pI σ52 130 13 (gI σ52 154 v1.toNatClampNeg)) fun σ63 =>
      d_X12_back_40 n v1 (0 : Int32) σ63)
    else (
      some ((-3 : Int32), σ52)))
  else (
    some (x53, σ52))
theorem k_f_X12_back {lo hi : Nat} {σ0 : Sg} {n : Nat} {v1 : Int32} {σ : Sg} (t : To lo hi σ0 σ) (w_v0 : lo ≤ 130 ∧ 168 ≤ hi) : FR (fun q => To lo hi σ0 q.2) (f_X12_back n 130 v1 σ) (c_X12_back n v1 σ) := by
  unfold f_X12_back c_X12_back
  refine FR_ck (lo11 t.1) ?_
  refine FR_bd (k_f_X12_lacks t (by omega)) (fun x53 σ52 t => ?_)
  refine FR_it (fun _ => ?_) (fun _ => ?_)
  · refine FR_ck (lo11 t.1) ?_
    refine FR_ck (ln11_36 t.1) ?_
    refine FR_nmR (w := 153) (lr11_36 t.1) ?_
    refine FR_ckI (okA_iff t.1 (by decide : Ar 13 6 153)) (fun q1907 => ?_)
    refine FR_it (fun _ => ?_) (fun _ => ?_)
    · refine FR_ck (ln11_37 t.1) ?_
      refine FR_nmR (w := 154) (lr11_37 t.1) ?_
      refine FR_ckI (okA_iff t.1 (by decide : Ar 13 6 154)) (fun q1909 => ?_)
      refine FR_nmS (To_pI t (by omega)) (fun σ63 t => ?_)
      exact k_b_X12_back_40 t (by omega)
    · exact FR_some t
  · exact FR_some t
def c_X12_toss (v1 : Int32) (σ : Sg) : Option (Int32 × Sg) :=
  bd (c_X12_lacks v1 σ) fun x20 σ19 =>
  if x20 = 0 then (
    ck (ix v1 6) <|
    if (gI σ19 154 v1.toNatClampNeg) = 0 then (
      bd (c_X12_refuse (-15 : Int32) σ19) fun x31 σ30 =>
      some (x31, σ30))
    else (
      ck (ix v1 6) <|
      some (gI σ19 154 v1.toNatClampNeg, σ19)))
  else (
    some (x20, σ19))
theorem k_f_X12_toss {lo hi : Nat} {σ0 : Sg} {v1 : Int32} {σ : Sg} (t : To lo hi σ0 σ) (w_v0 : lo ≤ 130 ∧ 168 ≤ hi) : FR (fun q => To lo hi σ0 q.2) (f_X12_toss 130 v1 σ) (c_X12_toss v1 σ) := by
  unfold f_X12_toss c_X12_toss
  refine FR_ck (lo11 t.1) ?_
  refine FR_bd (k_f_X12_lacks t (by omega)) (fun x20 σ19 t => ?_)
  refine FR_it (fun _ => ?_) (fun _ => ?_)
  · refine FR_ck (lo11 t.1) ?_
    refine FR_ck (ln11_37 t.1) ?_
    refine FR_nmR (w := 154) (lr11_37 t.1) ?_
    refine FR_ckI (okA_iff t.1 (by decide : Ar 13 6 154)) (fun q1913 => ?_)
    refine FR_it (fun _ => ?_) (fun _ => ?_)
    · refine FR_bd (k_f_X12_refuse t (by omega)) (fun x31 σ30 t => ?_)
      exact FR_some t
    · refine FR_nmR (w := 154) (lr11_37 t.1) ?_
      refine FR_ckI (okA_iff t.1 (by decide : Ar 13 6 154)) (fun q1914 => ?_)
      exact FR_some t
  · exact FR_some t
def d_X12_load_55 (n : Nat) (σ : Sg) : Option (Int32 × Sg) :=
  bd (c_X12_refuse (-12 : Int32) σ) fun x68 σ67 =>
  some (x68, σ67)
theorem k_b_X12_load_55 {lo hi : Nat} {σ0 : Sg} {n : Nat} {σ : Sg} (t : To lo hi σ0 σ) (w_v0 : lo ≤ 130 ∧ 168 ≤ hi) : FR (fun q => To lo hi σ0 q.2) (b_X12_load_55 n 130 σ) (d_X12_load_55 n σ) := by
  unfold b_X12_load_55 d_X12_load_55
  refine FR_ck (lo11 t.1) ?_
  refine FR_bd (k_f_X12_refuse t (by omega)) (fun x68 σ67 t => ?_)
  exact FR_some t
def d_X12_load_78 (n : Nat) (σ : Sg) : Option (Int32 × Sg) :=
  bd (c_X12_refuse (-13 : Int32) σ) fun x76 σ75 =>
  some (x76, σ75)
theorem k_b_X12_load_78 {lo hi : Nat} {σ0 : Sg} {n : Nat} {σ : Sg} (t : To lo hi σ0 σ) (w_v0 : lo ≤ 130 ∧ 168 ≤ hi) : FR (fun q => To lo hi σ0 q.2) (b_X12_load_78 n 130 σ) (d_X12_load_78 n σ) := by
  unfold b_X12_load_78 d_X12_load_78
  refine FR_ck (lo11 t.1) ?_
  refine FR_bd (k_f_X12_refuse t (by omega)) (fun x76 σ75 t => ?_)
  exact FR_some t
def d_X12_load_160 (n : Nat) (v3 : Int32) (σ : Sg) : Option (Int32 × Sg) :=
  nm (pI σ 130 3 v3) fun σ84 =>
  some (v3, σ84)
theorem k_b_X12_load_160 {lo hi : Nat} {σ0 : Sg} {n : Nat} {v3 : Int32} {σ : Sg} (t : To lo hi σ0 σ) (w_v0 : lo ≤ 130 ∧ 168 ≤ hi) : FR (fun q => To lo hi σ0 q.2) (b_X12_load_160 n 130 v3 σ) (d_X12_load_160 n v3 σ) := by
  unfold b_X12_load_160 d_X12_load_160
  refine FR_ck (lo11 t.1) ?_
  refine FR_nmS (To_pI t (by omega)) (fun σ84 t => ?_)
  exact FR_some t
def d_X12_load_126 : Nat → Int32 → Int32 → Int32 → Int32 → Sg → Option (Int32 × Sg)
  | 0, _, _, _, _, _ => none
  | n + 1, v1, v2, v3, v4, σ =>
  if v3 ≤ v4 then (
    d_X12_load_160 n v3 σ)
  else (
    ck (ix ((((64 : Int32) * v1) + v2) + v4) 384) <|
    ck (ix v4 12) <|
    nm (pI σ 133 v4.toNatClampNeg ((gJ σ 152 ((((64 : Int32) * v1) + v2) + v4).toNatClampNeg).toInt32)) fun σ92 =>
    nm (v4 + (1 : Int32)) fun x93 =>
    d_X12_load_126 n v1 v2 v3 x93 σ92)
theorem k_b_X12_load_126 {lo hi : Nat} {σ0 : Sg} : ∀ {n : Nat} {v1 : Int32} {v2 : Int32} {v3 : Int32} {v4 : Int32} {σ : Sg}, To lo hi σ0 σ → lo ≤ 130 ∧ 168 ≤ hi → FR (fun q => To lo hi σ0 q.2) (b_X12_load_126 n 130 v1 v2 v3 v4 σ) (d_X12_load_126 n v1 v2 v3 v4 σ) := by
  intro n
  induction n with
  | zero => intro v1 v2 v3 v4 σ t w_v0; exact FR_none
  | succ n ih =>
    intro v1 v2 v3 v4 σ t w_v0
    unfold b_X12_load_126 d_X12_load_126
    refine FR_it (fun _ => ?_) (fun _ => ?_)
    · exact k_b_X12_load_160 t (by omega)
    · refine FR_ck (lo11 t.1) ?_
      refine FR_ck (ln11_4 t.1) ?_
      refine FR_nmR (w := 133) (lr11_4 t.1) ?_
      refine FR_ck (ln11_35 t.1) ?_
      refine FR_nmR (w := 152) (lr11_35 t.1) ?_
      refine FR_ckI (okA_iff t.1 (by decide : Ar 14 384 152)) (fun q1921 => ?_)
      refine FR_ckI (okW_iff t.1 (by decide : Ar 13 12 133)) (fun q1922 => ?_)
      refine FR_nmS (To_pI t (by omega)) (fun σ92 t => ?_)
      refine FR_nm (fun x93 => ?_)
      exact ih t (by omega)
def d_X12_load_123 (n : Nat) (v1 : Int32) (v2 : Int32) (v3 : Int32) (σ : Sg) : Option (Int32 × Sg) :=
  d_X12_load_126 n v1 v2 v3 (0 : Int32) σ
theorem k_b_X12_load_123 {lo hi : Nat} {σ0 : Sg} {n : Nat} {v1 : Int32} {v2 : Int32} {v3 : Int32} {σ : Sg} (t : To lo hi σ0 σ) (w_v0 : lo ≤ 130 ∧ 168 ≤ hi) : FR (fun q => To lo hi σ0 q.2) (b_X12_load_123 n 130 v1 v2 v3 σ) (d_X12_load_123 n v1 v2 v3 σ) := by
  unfold b_X12_load_123 d_X12_load_123
  exact k_b_X12_load_126 t (by omega)
def d_X12_load_88 : Nat → Int32 → Int32 → Int32 → Int32 → Sg → Option (Int32 × Sg)
  | 0, _, _, _, _, _ => none
  | n + 1, v1, v2, v3, v4, σ =>
  if v3 ≤ v4 then (
    d_X12_load_123 n v1 v2 v3 σ)
  else (
    ck (ix ((((64 : Int32) * v1) + v2) + v4) 384) <|
    bp (f_X12_isLine (gJ σ 152 ((((64 : Int32) * v1) + v2) + v4).toNatClampNeg)) fun x99 =>
    if x99 = 0 then (
      some ((-3 : Int32), σ))
    else (
      nm (v4 + (1 : Int32)) fun x101 =>
      d_X12_load_88 n v1 v2 v3 x101 σ))
theorem k_b_X12_load_88 {lo hi : Nat} {σ0 : Sg} : ∀ {n : Nat} {v1 : Int32} {v2 : Int32} {v3 : Int32} {v4 : Int32} {σ : Sg}, To lo hi σ0 σ → lo ≤ 130 ∧ 168 ≤ hi → FR (fun q => To lo hi σ0 q.2) (b_X12_load_88 n 130 v1 v2 v3 v4 σ) (d_X12_load_88 n v1 v2 v3 v4 σ) := by
  intro n
  induction n with
  | zero => intro v1 v2 v3 v4 σ t w_v0; exact FR_none
  | succ n ih =>
    intro v1 v2 v3 v4 σ t w_v0
    unfold b_X12_load_88 d_X12_load_88
    refine FR_it (fun _ => ?_) (fun _ => ?_)
    · exact k_b_X12_load_123 t (by omega)
    · refine FR_ck (lo11 t.1) ?_
      refine FR_ck (ln11_35 t.1) ?_
      refine FR_nmR (w := 152) (lr11_35 t.1) ?_
      refine FR_ckI (okA_iff t.1 (by decide : Ar 14 384 152)) (fun q1925 => ?_)
      refine FR_nmP (fun x99 => ?_)
      refine FR_it (fun _ => ?_) (fun _ => ?_)
      · exact FR_some t
      · refine FR_nm (fun x101 => ?_)
        exact ih t (by omega)
def c_X12_load (n : Nat) (v1 : Int32) (v2 : Int32) (v3 : Int32) (σ : Sg) : Option (Int32 × Sg) :=
  bp (f_X12_isTape v1) fun x52 =>
  if x52 = 0 then (
    some ((-1 : Int32), σ))
  else (
    bp (f_X12_in v3 (0 : Int32) (12 : Int32)) fun x55 =>
    if x55 = 0 then (
      some ((-1 : Int32), σ))
    else (
      ck (ix v1 6) <|
      if (gI σ 150 v1.toNatClampNeg) = 0 then (
        bd (c_X12_refuse (-11 : Int32) σ) fun x104 σ103 =>
        some (x104, σ103))
      else (
        ck (ix v1 6) <|
        if (gI σ 150 v1.toNatClampNeg) = (1 : Int32) then (
          d_X12_load_55 n σ)
        else (
          ck (ix v1 6) <|
          if (gI σ 150 v1.toNatClampNeg) = (5 : Int32) then (
            d_X12_load_55 n σ)
          else (
            if v2 < 0 then (
              d_X12_load_78 n σ)
            else (
              ck (ix v1 6) <|
              if v3 ≤ ((gI σ 151 v1.toNatClampNeg) - v2) then (
                d_X12_load_88 n v1 v2 v3 (0 : Int32) σ)
              else (
                d_X12_load_78 n σ)))))))
theorem k_f_X12_load {lo hi : Nat} {σ0 : Sg} {n : Nat} {v1 : Int32} {v2 : Int32} {v3 : Int32} {σ : Sg} (t : To lo hi σ0 σ) (w_v0 : lo ≤ 130 ∧ 168 ≤ hi) : FR (fun q => To lo hi σ0 q.2) (f_X12_load n 130 v1 v2 v3 σ) (c_X12_load n v1 v2 v3 σ) := by
  unfold f_X12_load c_X12_load
  refine FR_nmP (fun x52 => ?_)
  refine FR_it (fun _ => ?_) (fun _ => ?_)
  · exact FR_some t
  · refine FR_nmP (fun x55 => ?_)
    refine FR_it (fun _ => ?_) (fun _ => ?_)
    · exact FR_some t
    · refine FR_ck (lo11 t.1) ?_
      refine FR_ck (ln11_33 t.1) ?_
      refine FR_nmR (w := 150) (lr11_33 t.1) ?_
      refine FR_ckI (okA_iff t.1 (by decide : Ar 13 6 150)) (fun q1928 => ?_)
      refine FR_it (fun _ => ?_) (fun _ => ?_)
      · refine FR_bd (k_f_X12_refuse t (by omega)) (fun x104 σ103 t => ?_)
        exact FR_some t
      · refine FR_nmR (w := 150) (lr11_33 t.1) ?_
        refine FR_ckI (okA_iff t.1 (by decide : Ar 13 6 150)) (fun q1929 => ?_)
        refine FR_it (fun _ => ?_) (fun _ => ?_)
        · exact k_b_X12_load_55 t (by omega)
        · refine FR_nmR (w := 150) (lr11_33 t.1) ?_
          refine FR_ckI (okA_iff t.1 (by decide : Ar 13 6 150)) (fun q1930 => ?_)
          refine FR_it (fun _ => ?_) (fun _ => ?_)
          · exact k_b_X12_load_55 t (by omega)
          · refine FR_it (fun _ => ?_) (fun _ => ?_)
            · exact k_b_X12_load_78 t (by omega)
            · refine FR_ck (ln11_34 t.1) ?_
              refine FR_nmR (w := 151) (lr11_34 t.1) ?_
              refine FR_ckI (okA_iff t.1 (by decide : Ar 13 6 151)) (fun q1932 => ?_)
              refine FR_it (fun _ => ?_) (fun _ => ?_)
              · exact k_b_X12_load_88 t (by omega)
              · exact k_b_X12_load_78 t (by omega)
def c_X12_clear (v1 : Int32) (σ : Sg) : Option (Int32 × Sg) :=
  bp (f_X12_isTape v1) fun x12 =>
  if x12 = 0 then (
    some ((-1 : Int32), σ))
  else (
    ck (ix v1 6) <|
    nm (gI σ 150 v1.toNatClampNeg) fun x18 =>
    ck (ix v1 6) <|
    nm (pI σ 150 v1.toNatClampNeg (0 : Int32)) fun σ21 =>
    some (x18, σ21))
theorem k_f_X12_clear {lo hi : Nat} {σ0 : Sg} {v1 : Int32} {σ : Sg} (t : To lo hi σ0 σ) (w_v0 : lo ≤ 130 ∧ 168 ≤ hi) : FR (fun q => To lo hi σ0 q.2) (f_X12_clear 130 v1 σ) (c_X12_clear v1 σ) := by
  unfold f_X12_clear c_X12_clear
  refine FR_nmP (fun x12 => ?_)
  refine FR_it (fun _ => ?_) (fun _ => ?_)
  · exact FR_some t
  · refine FR_ck (lo11 t.1) ?_
    refine FR_ck (ln11_33 t.1) ?_
    refine FR_nmR (w := 150) (lr11_33 t.1) ?_
    refine FR_ckI (okA_iff t.1 (by decide : Ar 13 6 150)) (fun q1935 => ?_)
    refine FR_nm (fun x18 => ?_)
    refine FR_nmR (w := 150) (lr11_33 t.1) ?_
    refine FR_ckI (okW_iff t.1 (by decide : Ar 13 6 150)) (fun q1936 => ?_)
    refine FR_nmS (To_pI t (by omega)) (fun σ21 t => ?_)
    exact FR_some t
def c_X12_put (v1 : Int32) (v2 : Int32) (v3 : Int64) (σ : Sg) : Option (Int32 × Sg) :=
  bp (f_X12_isTape v1) fun x40 =>
  if x40 = 0 then (
    some ((-1 : Int32), σ))
  else (
    ck (ix v1 6) <|
    if (gI σ 150 v1.toNatClampNeg) = 0 then (
      bd (c_X12_refuse (-11 : Int32) σ) fun x72 σ71 =>
      some (x72, σ71))
    else (
      ck (ix v1 6) <|
      if (gI σ 150 v1.toNatClampNeg) = (5 : Int32) then (
        bd (c_X12_refuse (-12 : Int32) σ) fun x69 σ68 =>
        some (x69, σ68))
      else (
        ck (ix v1 6) <|
        bp (f_X12_in v2 (0 : Int32) ((gI σ 151 v1.toNatClampNeg) - (1 : Int32))) fun x54 =>
        if x54 = 0 then (
          bd (c_X12_refuse (-13 : Int32) σ) fun x66 σ65 =>
          some (x66, σ65))
        else (
          ck (ix v1 6) <|
          bp (f_X12_narrowed (gI σ 150 v1.toNatClampNeg) v3) fun x61 =>
          ck (ix (((64 : Int32) * v1) + v2) 384) <|
          nm (pJ σ 152 (((64 : Int32) * v1) + v2).toNatClampNeg x61) fun σ63 =>
          some ((1 : Int32), σ63)))))
theorem k_f_X12_put {lo hi : Nat} {σ0 : Sg} {v1 : Int32} {v2 : Int32} {v3 : Int64} {σ : Sg} (t : To lo hi σ0 σ) (w_v0 : lo ≤ 130 ∧ 168 ≤ hi) : FR (fun q => To lo hi σ0 q.2) (f_X12_put 130 v1 v2 v3 σ) (c_X12_put v1 v2 v3 σ) := by
  unfold f_X12_put c_X12_put
  refine FR_nmP (fun x40 => ?_)
  refine FR_it (fun _ => ?_) (fun _ => ?_)
  · exact FR_some t
  · refine FR_ck (lo11 t.1) ?_
    refine FR_ck (ln11_33 t.1) ?_
    refine FR_nmR (w := 150) (lr11_33 t.1) ?_
    refine FR_ckI (okA_iff t.1 (by decide : Ar 13 6 150)) (fun q1939 => ?_)
    refine FR_it (fun _ => ?_) (fun _ => ?_)
    · refine FR_bd (k_f_X12_refuse t (by omega)) (fun x72 σ71 t => ?_)
      exact FR_some t
    · refine FR_nmR (w := 150) (lr11_33 t.1) ?_
      refine FR_ckI (okA_iff t.1 (by decide : Ar 13 6 150)) (fun q1940 => ?_)
      refine FR_it (fun _ => ?_) (fun _ => ?_)
      · refine FR_bd (k_f_X12_refuse t (by omega)) (fun x69 σ68 t => ?_)
        exact FR_some t
      · refine FR_ck (ln11_34 t.1) ?_
        refine FR_nmR (w := 151) (lr11_34 t.1) ?_
        refine FR_ckI (okA_iff t.1 (by decide : Ar 13 6 151)) (fun q1942 => ?_)
        refine FR_nmP (fun x54 => ?_)
        refine FR_it (fun _ => ?_) (fun _ => ?_)
        · refine FR_bd (k_f_X12_refuse t (by omega)) (fun x66 σ65 t => ?_)
          exact FR_some t
        · refine FR_ck (ln11_35 t.1) ?_
          refine FR_nmR (w := 152) (lr11_35 t.1) ?_
          refine FR_nmR (w := 150) (lr11_33 t.1) ?_
          refine FR_ckI (okA_iff t.1 (by decide : Ar 13 6 150)) (fun q1944 => ?_)
          refine FR_nmP (fun x61 => ?_)
          refine FR_ckI (okW_iff t.1 (by decide : Ar 14 384 152)) (fun q1945 => ?_)
          refine FR_nmS (To_pJ t (by omega)) (fun σ63 t => ?_)
          exact FR_some t
def d_X12_at_52 (v1 : Int32) (v2 : Int32) (s0 : Int32) (σ : Sg) : Option (Int64 × Sg) :=
  nm (pI σ 130 0 s0) fun σ33 =>
  if (gI σ33 130 0) = 0 then (
    ck (ix (((64 : Int32) * v1) + v2) 384) <|
    some (gJ σ33 152 (((64 : Int32) * v1) + v2).toNatClampNeg, σ33))
  else (
    some ((0 : Int64), σ33))
theorem k_b_X12_at_52 {lo hi : Nat} {σ0 : Sg} {v1 : Int32} {v2 : Int32} {s0 : Int32} {σ : Sg} (t : To lo hi σ0 σ) (w_s1 : lo ≤ 130 ∧ 168 ≤ hi) : FR (fun q => To lo hi σ0 q.2) (b_X12_at_52 130 v1 v2 s0 130 σ) (d_X12_at_52 v1 v2 s0 σ) := by
  unfold b_X12_at_52 d_X12_at_52
  refine FR_ck (lo11 t.1) ?_
  refine FR_nmS (To_pI t (by omega)) (fun σ33 t => ?_)
  refine FR_ck (lo11 t.1) ?_
  refine FR_it (fun _ => ?_) (fun _ => ?_)
  · refine FR_ck (ln11_35 t.1) ?_
    refine FR_nmR (w := 152) (lr11_35 t.1) ?_
    refine FR_ckI (okA_iff t.1 (by decide : Ar 14 384 152)) (fun q1949 => ?_)
    exact FR_some t
  · exact FR_some t
def d_X12_at_47 (v1 : Int32) (v2 : Int32) (σ : Sg) : Option (Int64 × Sg) :=
  d_X12_at_52 v1 v2 (2 : Int32) σ
theorem k_b_X12_at_47 {lo hi : Nat} {σ0 : Sg} {v1 : Int32} {v2 : Int32} {σ : Sg} (t : To lo hi σ0 σ) (w_s0 : lo ≤ 130 ∧ 168 ≤ hi) : FR (fun q => To lo hi σ0 q.2) (b_X12_at_47 130 v1 v2 130 σ) (d_X12_at_47 v1 v2 σ) := by
  unfold b_X12_at_47 d_X12_at_47
  exact k_b_X12_at_52 t (by omega)
def c_X12_at (v1 : Int32) (v2 : Int32) (σ : Sg) : Option (Int64 × Sg) :=
  bp (f_X12_isTape v1) fun x25 =>
  if x25 = 0 then (
    d_X12_at_52 v1 v2 (1 : Int32) σ)
  else (
    ck (ix v1 6) <|
    if (gI σ 150 v1.toNatClampNeg) = 0 then (
      d_X12_at_47 v1 v2 σ)
    else (
      ck (ix v1 6) <|
      if (gI σ 150 v1.toNatClampNeg) = (5 : Int32) then (
        d_X12_at_47 v1 v2 σ)
      else (
        ck (ix v1 6) <|
        bp (f_X12_in v2 (0 : Int32) ((gI σ 151 v1.toNatClampNeg) - (1 : Int32))) fun x46 =>
        if x46 = 0 then (
          d_X12_at_47 v1 v2 σ)
        else (
          d_X12_at_52 v1 v2 (0 : Int32) σ))))
theorem k_f_X12_at {lo hi : Nat} {σ0 : Sg} {v1 : Int32} {v2 : Int32} {σ : Sg} (t : To lo hi σ0 σ) (w_v0 : lo ≤ 130 ∧ 168 ≤ hi) : FR (fun q => To lo hi σ0 q.2) (f_X12_at 130 v1 v2 σ) (c_X12_at v1 v2 σ) := by
  unfold f_X12_at c_X12_at
  refine FR_nmP (fun x25 => ?_)
  refine FR_it (fun _ => ?_) (fun _ => ?_)
  · exact k_b_X12_at_52 t (by omega)
  · refine FR_ck (lo11 t.1) ?_
    refine FR_ck (ln11_33 t.1) ?_
    refine FR_nmR (w := 150) (lr11_33 t.1) ?_
    refine FR_ckI (okA_iff t.1 (by decide : Ar 13 6 150)) (fun q1952 => ?_)
    refine FR_it (fun _ => ?_) (fun _ => ?_)
    · exact k_b_X12_at_47 t (by omega)
    · refine FR_nmR (w := 150) (lr11_33 t.1) ?_
      refine FR_ckI (okA_iff t.1 (by decide : Ar 13 6 150)) (fun q1953 => ?_)
      refine FR_it (fun _ => ?_) (fun _ => ?_)
      · exact k_b_X12_at_47 t (by omega)
      · refine FR_ck (ln11_34 t.1) ?_
        refine FR_nmR (w := 151) (lr11_34 t.1) ?_
        refine FR_ckI (okA_iff t.1 (by decide : Ar 13 6 151)) (fun q1955 => ?_)
        refine FR_nmP (fun x46 => ?_)
        refine FR_it (fun _ => ?_) (fun _ => ?_)
        · exact k_b_X12_at_47 t (by omega)
        · exact k_b_X12_at_52 t (by omega)
def d_X12_copy_34 (n : Nat) (σ : Sg) : Option (Int32 × Sg) :=
  bd (c_X12_refuse (-11 : Int32) σ) fun x75 σ74 =>
  some (x75, σ74)
theorem k_b_X12_copy_34 {lo hi : Nat} {σ0 : Sg} {n : Nat} {σ : Sg} (t : To lo hi σ0 σ) (w_v0 : lo ≤ 130 ∧ 168 ≤ hi) : FR (fun q => To lo hi σ0 q.2) (b_X12_copy_34 n 130 σ) (d_X12_copy_34 n σ) := by
  unfold b_X12_copy_34 d_X12_copy_34
  refine FR_ck (lo11 t.1) ?_
  refine FR_bd (k_f_X12_refuse t (by omega)) (fun x75 σ74 t => ?_)
  exact FR_some t
def d_X12_copy_66 (n : Nat) (σ : Sg) : Option (Int32 × Sg) :=
  bd (c_X12_refuse (-12 : Int32) σ) fun x85 σ84 =>
  some (x85, σ84)
theorem k_b_X12_copy_66 {lo hi : Nat} {σ0 : Sg} {n : Nat} {σ : Sg} (t : To lo hi σ0 σ) (w_v0 : lo ≤ 130 ∧ 168 ≤ hi) : FR (fun q => To lo hi σ0 q.2) (b_X12_copy_66 n 130 σ) (d_X12_copy_66 n σ) := by
  unfold b_X12_copy_66 d_X12_copy_66
  refine FR_ck (lo11 t.1) ?_
  refine FR_bd (k_f_X12_refuse t (by omega)) (fun x85 σ84 t => ?_)
  exact FR_some t
def d_X12_copy_114 (n : Nat) (σ : Sg) : Option (Int32 × Sg) :=
  bd (c_X12_refuse (-13 : Int32) σ) fun x95 σ94 =>
  some (x95, σ94)
theorem k_b_X12_copy_114 {lo hi : Nat} {σ0 : Sg} {n : Nat} {σ : Sg} (t : To lo hi σ0 σ) (w_v0 : lo ≤ 130 ∧ 168 ≤ hi) : FR (fun q => To lo hi σ0 q.2) (b_X12_copy_114 n 130 σ) (d_X12_copy_114 n σ) := by
  unfold b_X12_copy_114 d_X12_copy_114
  refine FR_ck (lo11 t.1) ?_
  refine FR_bd (k_f_X12_refuse t (by omega)) (fun x95 σ94 t => ?_)
  exact FR_some t
def d_X12_copy_161 : Nat → Int32 → Int32 → Int32 → Int32 → Sg → Option (Int32 × Sg)
  | 0, _, _, _, _, _ => none
  | n + 1, v3, v4, v5, v6, σ =>
  if v5 ≤ v6 then (
    some (v5, σ))
  else (
    ck (ix v6 64) <|
    ck (ix ((((64 : Int32) * v3) + v4) + v6) 384) <|
    nm (pJ σ 152 ((((64 : Int32) * v3) + v4) + v6).toNatClampNeg (gJ σ 167 v6.toNatClampNeg)) fun σ114 =>
    nm (v6 + (1 : Int32)) fun x115 =>
    d_X12_copy_161 n v3 v4 v5 x115 σ114)
theorem k_b_X12_copy_161 {lo hi : Nat} {σ0 : Sg} : ∀ {n : Nat} {v3 : Int32} {v4 : Int32} {v5 : Int32} {v6 : Int32} {σ : Sg}, To lo hi σ0 σ → lo ≤ 130 ∧ 168 ≤ hi → FR (fun q => To lo hi σ0 q.2) (b_X12_copy_161 n 130 v3 v4 v5 v6 σ) (d_X12_copy_161 n v3 v4 v5 v6 σ) := by
  intro n
  induction n with
  | zero => intro v3 v4 v5 v6 σ t w_v0; exact FR_none
  | succ n ih =>
    intro v3 v4 v5 v6 σ t w_v0
    unfold b_X12_copy_161 d_X12_copy_161
    refine FR_it (fun _ => ?_) (fun _ => ?_)
    · exact FR_some t
    · refine FR_ck (lo11 t.1) ?_
      refine FR_ck (ln11_35 t.1) ?_
      refine FR_nmR (w := 152) (lr11_35 t.1) ?_
      refine FR_ck (ln11_51 t.1) ?_
      refine FR_nmR (w := 167) (lr11_51 t.1) ?_
      refine FR_ckI (okA_iff t.1 (by decide : Ar 14 64 167)) (fun q1962 => ?_)
      refine FR_ckI (okW_iff t.1 (by decide : Ar 14 384 152)) (fun q1963 => ?_)
      refine FR_nmS (To_pJ t (by omega)) (fun σ114 t => ?_)
      refine FR_nm (fun x115 => ?_)
      exact ih t (by omega)
def d_X12_copy_158 (n : Nat) (v3 : Int32) (v4 : Int32) (v5 : Int32) (σ : Sg) : Option (Int32 × Sg) :=
  d_X12_copy_161 n v3 v4 v5 (0 : Int32) σ
theorem k_b_X12_copy_158 {lo hi : Nat} {σ0 : Sg} {n : Nat} {v3 : Int32} {v4 : Int32} {v5 : Int32} {σ : Sg} (t : To lo hi σ0 σ) (w_v0 : lo ≤ 130 ∧ 168 ≤ hi) : FR (fun q => To lo hi σ0 q.2) (b_X12_copy_158 n 130 v3 v4 v5 σ) (d_X12_copy_158 n v3 v4 v5 σ) := by
  unfold b_X12_copy_158 d_X12_copy_158
  exact k_b_X12_copy_161 t (by omega)
def d_X12_copy_124 : Nat → Int32 → Int32 → Int32 → Int32 → Int32 → Int32 → Sg → Option (Int32 × Sg)
  | 0, _, _, _, _, _, _, _ => none
  | n + 1, v1, v2, v3, v4, v5, v6, σ =>
  if v5 ≤ v6 then (
    d_X12_copy_158 n v3 v4 v5 σ)
  else (
    ck (ix ((((64 : Int32) * v1) + v2) + v6) 384) <|
    ck (ix v6 64) <|
    nm (pJ σ 167 v6.toNatClampNeg (gJ σ 152 ((((64 : Int32) * v1) + v2) + v6).toNatClampNeg)) fun σ123 =>
    nm (v6 + (1 : Int32)) fun x124 =>
    d_X12_copy_124 n v1 v2 v3 v4 v5 x124 σ123)
theorem k_b_X12_copy_124 {lo hi : Nat} {σ0 : Sg} : ∀ {n : Nat} {v1 : Int32} {v2 : Int32} {v3 : Int32} {v4 : Int32} {v5 : Int32} {v6 : Int32} {σ : Sg}, To lo hi σ0 σ → lo ≤ 130 ∧ 168 ≤ hi → FR (fun q => To lo hi σ0 q.2) (b_X12_copy_124 n 130 v1 v2 v3 v4 v5 v6 σ) (d_X12_copy_124 n v1 v2 v3 v4 v5 v6 σ) := by
  intro n
  induction n with
  | zero => intro v1 v2 v3 v4 v5 v6 σ t w_v0; exact FR_none
  | succ n ih =>
    intro v1 v2 v3 v4 v5 v6 σ t w_v0
    unfold b_X12_copy_124 d_X12_copy_124
    refine FR_it (fun _ => ?_) (fun _ => ?_)
    · exact k_b_X12_copy_158 t (by omega)
    · refine FR_ck (lo11 t.1) ?_
      refine FR_ck (ln11_51 t.1) ?_
      refine FR_nmR (w := 167) (lr11_51 t.1) ?_
      refine FR_ck (ln11_35 t.1) ?_
      refine FR_nmR (w := 152) (lr11_35 t.1) ?_
      refine FR_ckI (okA_iff t.1 (by decide : Ar 14 384 152)) (fun q1967 => ?_)
      refine FR_ckI (okW_iff t.1 (by decide : Ar 14 64 167)) (fun q1968 => ?_)
      refine FR_nmS (To_pJ t (by omega)) (fun σ123 t => ?_)
      refine FR_nm (fun x124 => ?_)
      exact ih t (by omega)
def c_X12_copy (n : Nat) (v1 : Int32) (v2 : Int32) (v3 : Int32) (v4 : Int32) (v5 : Int32) (σ : Sg) : Option (Int32 × Sg) :=
  bp (f_X12_isTape v1) fun x62 =>
  if x62 = 0 then (
    some ((-1 : Int32), σ))
  else (
    bp (f_X12_isTape v3) fun x65 =>
    if x65 = 0 then (
      some ((-1 : Int32), σ))
    else (
      ck (ix v1 6) <|
      if (gI σ 150 v1.toNatClampNeg) = 0 then (
        d_X12_copy_34 n σ)
      else (
        ck (ix v3 6) <|
        if (gI σ 150 v3.toNatClampNeg) = 0 then (
          d_X12_copy_34 n σ)
        else (
          ck (ix v1 6) <|
          if (gI σ 150 v1.toNatClampNeg) = (5 : Int32) then (
            d_X12_copy_66 n σ)
          else (
            ck (ix v1 6) <|
            ck (ix v3 6) <|
            if (gI σ 150 v1.toNatClampNeg) = (gI σ 150 v3.toNatClampNeg) then (
              if v5 < 0 then (
                d_X12_copy_114 n σ)
              else (
                if v2 < 0 then (
                  d_X12_copy_114 n σ)
                else (
                  if v4 < 0 then (
                    d_X12_copy_114 n σ)
                  else (
                    ck (ix v1 6) <|
                    if ((gI σ 151 v1.toNatClampNeg) - v2) < v5 then (
                      d_X12_copy_114 n σ)
                    else (
                      ck (ix v3 6) <|
                      if v5 ≤ ((gI σ 151 v3.toNatClampNeg) - v4) then (
                        d_X12_copy_124 n v1 v2 v3 v4 v5 (0 : Int32) σ)
                      else (
                        d_X12_copy_114 n σ))))))
            else (
              d_X12_copy_66 n σ))))))
theorem k_f_X12_copy {lo hi : Nat} {σ0 : Sg} {n : Nat} {v1 : Int32} {v2 : Int32} {v3 : Int32} {v4 : Int32} {v5 : Int32} {σ : Sg} (t : To lo hi σ0 σ) (w_v0 : lo ≤ 130 ∧ 168 ≤ hi) : FR (fun q => To lo hi σ0 q.2) (f_X12_copy n 130 v1 v2 v3 v4 v5 σ) (c_X12_copy n v1 v2 v3 v4 v5 σ) := by
  unfold f_X12_copy c_X12_copy
  refine FR_nmP (fun x62 => ?_)
  refine FR_it (fun _ => ?_) (fun _ => ?_)
  · exact FR_some t
  · refine FR_nmP (fun x65 => ?_)
    refine FR_it (fun _ => ?_) (fun _ => ?_)
    · exact FR_some t
    · refine FR_ck (lo11 t.1) ?_
      refine FR_ck (ln11_33 t.1) ?_
      refine FR_nmR (w := 150) (lr11_33 t.1) ?_
      refine FR_ckI (okA_iff t.1 (by decide : Ar 13 6 150)) (fun q1971 => ?_)
      refine FR_it (fun _ => ?_) (fun _ => ?_)
      · exact k_b_X12_copy_34 t (by omega)
      · refine FR_nmR (w := 150) (lr11_33 t.1) ?_
        refine FR_ckI (okA_iff t.1 (by decide : Ar 13 6 150)) (fun q1972 => ?_)
        refine FR_it (fun _ => ?_) (fun _ => ?_)
        · exact k_b_X12_copy_34 t (by omega)
        · refine FR_nmR (w := 150) (lr11_33 t.1) ?_
          refine FR_ckI (okA_iff t.1 (by decide : Ar 13 6 150)) (fun q1973 => ?_)
          refine FR_it (fun _ => ?_) (fun _ => ?_)
          · exact k_b_X12_copy_66 t (by omega)
          · refine FR_nmR (w := 150) (lr11_33 t.1) ?_
            refine FR_ckI (okA_iff t.1 (by decide : Ar 13 6 150)) (fun q1974 => ?_)
            refine FR_nmR (w := 150) (lr11_33 t.1) ?_
            refine FR_ckI (okA_iff t.1 (by decide : Ar 13 6 150)) (fun q1975 => ?_)
            refine FR_it (fun _ => ?_) (fun _ => ?_)
            · refine FR_it (fun _ => ?_) (fun _ => ?_)
              · exact k_b_X12_copy_114 t (by omega)
              · refine FR_it (fun _ => ?_) (fun _ => ?_)
                · exact k_b_X12_copy_114 t (by omega)
                · refine FR_it (fun _ => ?_) (fun _ => ?_)
                  · exact k_b_X12_copy_114 t (by omega)
                  · refine FR_ck (ln11_34 t.1) ?_
                    refine FR_nmR (w := 151) (lr11_34 t.1) ?_
                    refine FR_ckI (okA_iff t.1 (by decide : Ar 13 6 151)) (fun q1977 => ?_)
                    refine FR_it (fun _ => ?_) (fun _ => ?_)
                    · exact k_b_X12_copy_114 t (by omega)
                    · refine FR_nmR (w := 151) (lr11_34 t.1) ?_
                      refine FR_ckI (okA_iff t.1 (by decide : Ar 13 6 151)) (fun q1978 => ?_)
                      refine FR_it (fun _ => ?_) (fun _ => ?_)
                      · exact k_b_X12_copy_124 t (by omega)
                      · exact k_b_X12_copy_114 t (by omega)
            · exact k_b_X12_copy_66 t (by omega)
def c_X12_count (v1 : Int32) (σ : Sg) : Option Int32 :=
  if v1 = 0 then (
    some (gI σ 130 3))
  else (
    if v1 = 1 then (
      some (gI σ 130 7))
    else (
      if v1 = 2 then (
        some (gI σ 130 13))
      else (
        if v1 = 3 then (
          some (gI σ 130 15))
        else (
          bp (c_X12_isProgram (v1 - (10 : Int32)) σ) fun x28 =>
          if x28 = 0 then (
            bp (f_X12_in v1 (20 : Int32) (23 : Int32)) fun x31 =>
            if x31 = 0 then (
              some (-1 : Int32))
            else (
              ck (ix (v1 - (20 : Int32)) 4) <|
              some (gI σ 134 (v1 - (20 : Int32)).toNatClampNeg)))
          else (
            ck (ix (v1 - (10 : Int32)) 4) <|
            some (gI σ 136 (v1 - (10 : Int32)).toNatClampNeg))))))
theorem k_f_X12_count {lo hi : Nat} {σ0 : Sg} {v1 : Int32} {σ : Sg} (t : To lo hi σ0 σ) : FR (fun _ => True) (f_X12_count 130 v1 σ) (c_X12_count v1 σ) := by
  unfold f_X12_count c_X12_count
  refine FR_it (fun _ => ?_) (fun _ => ?_)
  · refine FR_ck (lo11 t.1) ?_
    exact FR_some trivial
  · refine FR_it (fun _ => ?_) (fun _ => ?_)
    · refine FR_ck (lo11 t.1) ?_
      exact FR_some trivial
    · refine FR_it (fun _ => ?_) (fun _ => ?_)
      · refine FR_ck (lo11 t.1) ?_
        exact FR_some trivial
      · refine FR_it (fun _ => ?_) (fun _ => ?_)
        · refine FR_ck (lo11 t.1) ?_
          exact FR_some trivial
        · refine FR_ck (lo11 t.1) ?_
          refine FR_bpP (k_f_X12_isProgram t).1 (fun x28 => ?_)
          refine FR_it (fun _ => ?_) (fun _ => ?_)
          · refine FR_nmP (fun x31 => ?_)
            refine FR_it (fun _ => ?_) (fun _ => ?_)
            · exact FR_some trivial
            · refine FR_ck (ln11_5 t.1) ?_
              refine FR_nmR (w := 134) (lr11_5 t.1) ?_
              refine FR_ckI (okA_iff t.1 (by decide : Ar 13 4 134)) (fun q1985 => ?_)
              exact FR_some trivial
          · refine FR_ck (ln11_8 t.1) ?_
            refine FR_nmR (w := 136) (lr11_8 t.1) ?_
            refine FR_ckI (okA_iff t.1 (by decide : Ar 13 4 136)) (fun q1987 => ?_)
            exact FR_some trivial
