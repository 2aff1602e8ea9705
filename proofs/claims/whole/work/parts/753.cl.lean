def d_X11_mend_76 : Nat → Int32 → Int32 → Int32 → Nat → Int32 → Int32 → Sg → Option (Int32 × Sg)
  | 0, _, _, _, _, _, _, _ => none
  | n + 1, v2, v3, v4, v5, v6, v7, σ =>
  if (gI σ v5 4) ≤ v7 then (
    some ((-3 : Int32), σ))
  else (
    bp (c_X6_choice v5 v7 σ) fun x82 =>
    bp (c_X6_choices v5 v7 σ) fun x84 =>
    d_X11_mend_107 (fun c6 c7 τ => d_X11_mend_76 n v2 v3 v4 v5 c6 c7 τ) n v2 v3 v4 v5 v6 v7 x82 x84 (0 : Int32) σ)
theorem k_b_X11_mend_76 {lo hi : Nat} {σ0 : Sg} : ∀ {n : Nat} {v2 : Int32} {v3 : Int32} {v4 : Int32} {v5 : Nat} {v6 : Int32} {v7 : Int32} {σ : Sg}, To lo hi σ0 σ → lo ≤ 4 ∧ 130 ≤ hi → O5 v5 → lo ≤ v5 ∧ v5 + 5 ≤ hi → FR (fun q => To lo hi σ0 q.2) (b_X11_mend_76 n 4 v2 v3 v4 v5 v6 v7 σ) (d_X11_mend_76 n v2 v3 v4 v5 v6 v7 σ) := by
  intro n
  induction n with
  | zero => intro v2 v3 v4 v5 v6 v7 σ t w_v0 h_v5 w_v5; exact FR_none
  | succ n ih =>
    intro v2 v3 v4 v5 v6 v7 σ t w_v0 h_v5 w_v5
    unfold b_X11_mend_76 d_X11_mend_76
    refine FR_ck (lo5 t.1 h_v5) ?_
    refine FR_it (fun _ => ?_) (fun _ => ?_)
    · exact FR_some t
    · refine FR_bpP (k_f_X6_choice t h_v5).1 (fun x82 => ?_)
      refine FR_bpP (k_f_X6_choices t h_v5).1 (fun x84 => ?_)
      exact k_b_X11_mend_107 (fun c6 c7 τ t => ih t (by omega) h_v5 (by omega)) t (by omega) h_v5 (by omega)
def c_X11_mend (n : Nat) (v1 : Int32) (v2 : Int32) (v3 : Int32) (v4 : Int32) (σ : Sg) : Option (Int32 × Sg) :=
  bp (c_X11_isProgram v1 σ) fun x56 =>
  if x56 = 0 then (
    some ((-1 : Int32), σ))
  else (
    bp (f_X11_isLaw v2) fun x59 =>
    if x59 = 0 then (
      some ((-1 : Int32), σ))
    else (
      if v2 = (2 : Int32) then (
        some ((-1 : Int32), σ))
      else (
        bp (f_X11_isSpan v3 v4 (300 : Int32)) fun x63 =>
        if x63 = 0 then (
          some ((-1 : Int32), σ))
        else (
          ck (ix v1 4) <|
          bd (c_X10_firstBreak n (5 * v1.toNatClampNeg + 74) (5 * v1.toNatClampNeg + 74) v2 v3 v4 σ) fun x77 σ76 =>
          if x77 = (9999999 : Int32) then (
            some ((9999999 : Int32), σ76))
          else (
            d_X11_mend_76 n v2 v3 v4 (5 * v1.toNatClampNeg + 74) x77 (0 : Int32) σ76)))))
theorem k_f_X11_mend {lo hi : Nat} {σ0 : Sg} {n : Nat} {v1 : Int32} {v2 : Int32} {v3 : Int32} {v4 : Int32} {σ : Sg} (t : To lo hi σ0 σ) (w_v0 : lo ≤ 4 ∧ 130 ≤ hi) : FR (fun q => To lo hi σ0 q.2) (f_X11_mend n 4 v1 v2 v3 v4 σ) (c_X11_mend n v1 v2 v3 v4 σ) := by
  unfold f_X11_mend c_X11_mend
  refine FR_ck (lo10 t.1) ?_
  refine FR_bpP (k_f_X11_isProgram t).1 (fun x56 => ?_)
  refine FR_it (fun _ => ?_) (fun _ => ?_)
  · exact FR_some t
  · refine FR_nmP (fun x59 => ?_)
    refine FR_it (fun _ => ?_) (fun _ => ?_)
    · exact FR_some t
    · refine FR_it (fun _ => ?_) (fun _ => ?_)
      · exact FR_some t
      · refine FR_nmP (fun x63 => ?_)
        refine FR_it (fun _ => ?_) (fun _ => ?_)
        · exact FR_some t
        · refine FR_ck (ln10_3 t.1) ?_
          refine FR_nmR (w := 18) (lr10_3 t.1) ?_
          refine FR_ckI (okA_iff t.1 (by decide : Ar 16 4 18)) (fun q919 => ?_)
          refine FR_ck (lne16 t.1 (ixl q919)) ?_
          have q921 := ixl q919
          refine FR_nmR (w := (5 * v1.toNatClampNeg + 74)) (lre16 t.1 q921) ?_
          refine FR_ck (ln10_6 t.1) ?_
          refine FR_nmR (w := 33) (lr10_6 t.1) ?_
          refine FR_ck (ln10_0 t.1) ?_
          refine FR_nmR (w := 5) (lr10_0 t.1) ?_
          refine FR_ck (lo9 t.1) ?_
          refine FR_bd (k_f_X10_firstBreak t (by omega) (e5 q921) (e5 q921)) (fun x77 σ76 t => ?_)
          refine FR_it (fun _ => ?_) (fun _ => ?_)
          · exact FR_some t
          · exact k_b_X11_mend_76 t (by omega) (e5 q921) (by omega)
def c_X11_same (n : Nat) (v1 : Int32) (v2 : Int32) (σ : Sg) : Option Int32 :=
  bp (c_X11_isProgram v1 σ) fun x22 =>
  if x22 = 0 then (
    some (-1 : Int32))
  else (
    bp (c_X11_isProgram v2 σ) fun x25 =>
    if x25 = 0 then (
      some (-1 : Int32))
    else (
      ck (ix v1 4) <|
      ck (ix v2 4) <|
      bp (c_X6_hasActsOf n (5 * v1.toNatClampNeg + 74) (5 * v2.toNatClampNeg + 74) σ) fun x38 =>
      if x38 = 0 then (
        some (0 : Int32))
      else (
        some (1 : Int32))))
theorem k_f_X11_same {lo hi : Nat} {σ0 : Sg} {n : Nat} {v1 : Int32} {v2 : Int32} {σ : Sg} (t : To lo hi σ0 σ) : FR (fun _ => True) (f_X11_same n 4 v1 v2 σ) (c_X11_same n v1 v2 σ) := by
  unfold f_X11_same c_X11_same
  refine FR_ck (lo10 t.1) ?_
  refine FR_bpP (k_f_X11_isProgram t).1 (fun x22 => ?_)
  refine FR_it (fun _ => ?_) (fun _ => ?_)
  · exact FR_some trivial
  · refine FR_bpP (k_f_X11_isProgram t).1 (fun x25 => ?_)
    refine FR_it (fun _ => ?_) (fun _ => ?_)
    · exact FR_some trivial
    · refine FR_ck (ln10_3 t.1) ?_
      refine FR_nmR (w := 18) (lr10_3 t.1) ?_
      refine FR_ckI (okA_iff t.1 (by decide : Ar 16 4 18)) (fun q927 => ?_)
      refine FR_ck (lne16 t.1 (ixl q927)) ?_
      have q929 := ixl q927
      refine FR_nmR (w := (5 * v1.toNatClampNeg + 74)) (lre16 t.1 q929) ?_
      refine FR_nmR (w := 18) (lr10_3 t.1) ?_
      refine FR_ckI (okA_iff t.1 (by decide : Ar 16 4 18)) (fun q930 => ?_)
      refine FR_ck (lne16 t.1 (ixl q930)) ?_
      have q932 := ixl q930
      refine FR_nmR (w := (5 * v2.toNatClampNeg + 74)) (lre16 t.1 q932) ?_
      refine FR_ck (lo5 t.1 (e5 q929)) ?_
      refine FR_bpP (k_f_X6_hasActsOf t (e5 q929) (e5 q932)).1 (fun x38 => ?_)
      refine FR_it (fun _ => ?_) (fun _ => ?_)
      · exact FR_some trivial
      · exact FR_some trivial
def c_X11_refuse (v1 : Int32) (σ : Sg) : Option (Int32 × Sg) :=
  nm (pI σ 4 9 ((gI σ 4 9) + (1 : Int32))) fun σ4 =>
  some (v1, σ4)
theorem k_f_X11_refuse {lo hi : Nat} {σ0 : Sg} {v1 : Int32} {σ : Sg} (t : To lo hi σ0 σ) (w_v0 : lo ≤ 4 ∧ 130 ≤ hi) : FR (fun q => To lo hi σ0 q.2) (f_X11_refuse 4 v1 σ) (c_X11_refuse v1 σ) := by
  unfold f_X11_refuse c_X11_refuse
  refine FR_ck (lo10 t.1) ?_
  refine FR_nmS (To_pI t (by omega)) (fun σ4 t => ?_)
  exact FR_some t
def c_X11_tape (n : Nat) (v1 : Int32) (v2 : Int32) (v3 : Int32) (σ : Sg) : Option (Int32 × Sg) :=
  bp (f_X11_isTape v1) fun x17 =>
  if x17 = 0 then (
    some ((-1 : Int32), σ))
  else (
    if v2 < (1 : Int32) then (
      some ((-1 : Int32), σ))
    else (
      if (4 : Int32) < v2 then (
        some ((-1 : Int32), σ))
      else (
        if v3 ≤ (64 : Int32) then (
          if 0 ≤ v3 then (
            ck (ix v1 6) <|
            bp (c_X9_holdRow n (6 * v1.toNatClampNeg + 94) v2 v3 σ) fun σ31 =>
            some (v3, σ31))
          else (
            bd (c_X11_refuse (-14 : Int32) σ) fun x35 σ34 =>
            some (x35, σ34)))
        else (
          some ((-1 : Int32), σ)))))
theorem k_f_X11_tape {lo hi : Nat} {σ0 : Sg} {n : Nat} {v1 : Int32} {v2 : Int32} {v3 : Int32} {σ : Sg} (t : To lo hi σ0 σ) (w_v0 : lo ≤ 4 ∧ 130 ≤ hi) : FR (fun q => To lo hi σ0 q.2) (f_X11_tape n 4 v1 v2 v3 σ) (c_X11_tape n v1 v2 v3 σ) := by
  unfold f_X11_tape c_X11_tape
  refine FR_nmP (fun x17 => ?_)
  refine FR_it (fun _ => ?_) (fun _ => ?_)
  · exact FR_some t
  · refine FR_it (fun _ => ?_) (fun _ => ?_)
    · exact FR_some t
    · refine FR_it (fun _ => ?_) (fun _ => ?_)
      · exact FR_some t
      · refine FR_it (fun _ => ?_) (fun _ => ?_)
        · refine FR_it (fun _ => ?_) (fun _ => ?_)
          · refine FR_ck (lo10 t.1) ?_
            refine FR_ck (ln10_4 t.1) ?_
            refine FR_nmR (w := 19) (lr10_4 t.1) ?_
            refine FR_ckI (okA_iff t.1 (by decide : Ar 17 6 19)) (fun q937 => ?_)
            refine FR_ck (lne17 t.1 (ixl q937)) ?_
            have q939 := ixl q937
            refine FR_nmR (w := (6 * v1.toNatClampNeg + 94)) (lre17 t.1 q939) ?_
            refine FR_ck (lo8 t.1 (e8 q939)) ?_
            refine FR_bp (k_f_X9_holdRow t (e8 q939) (by omega)) (fun σ31 t => ?_)
            exact FR_some t
          · refine FR_ck (lo10 t.1) ?_
            refine FR_bd (k_f_X11_refuse t (by omega)) (fun x35 σ34 t => ?_)
            exact FR_some t
        · exact FR_some t
def d_X11_image_42 : Nat → Nat → Int32 → Sg → Option (Int32 × Sg)
  | 0, _, _, _ => none
  | n + 1, v2, v3, σ =>
  if (gI σ 4 8) ≤ v3 then (
    some (gI σ 4 8, σ))
  else (
    ck (ix v3 4) <|
    ck (ix v3 4) <|
    nm (pJ σ (v2 + 4) v3.toNatClampNeg (gJ σ (5 * v3.toNatClampNeg + 74) 5)) fun σ85 =>
    ck (ix v3 4) <|
    ck (ix v3 4) <|
    nm (pJ σ85 (v2 + 5) v3.toNatClampNeg (gJ σ85 (5 * v3.toNatClampNeg + 74) 6)) fun σ97 =>
    nm (v3 + (1 : Int32)) fun x98 =>
    d_X11_image_42 n v2 x98 σ97)
theorem k_b_X11_image_42 {lo hi : Nat} {σ0 : Sg} : ∀ {n : Nat} {v2 : Nat} {v3 : Int32} {σ : Sg}, To lo hi σ0 σ → O8 v2 → lo ≤ v2 ∧ v2 + 6 ≤ hi → FR (fun q => To lo hi σ0 q.2) (b_X11_image_42 n 4 v2 v3 σ) (d_X11_image_42 n v2 v3 σ) := by
  intro n
  induction n with
  | zero => intro v2 v3 σ t h_v2 w_v2; exact FR_none
  | succ n ih =>
    intro v2 v3 σ t h_v2 w_v2
    unfold b_X11_image_42 d_X11_image_42
    refine FR_ck (lo10 t.1) ?_
    refine FR_it (fun _ => ?_) (fun _ => ?_)
    · exact FR_some t
    · refine FR_ck (lo8 t.1 h_v2) ?_
      refine FR_ck (ln8_3 t.1 h_v2) ?_
      refine FR_nmR (w := (v2 + 4)) (lr8_3 t.1 h_v2) ?_
      refine FR_ck (ln10_3 t.1) ?_
      refine FR_nmR (w := 18) (lr10_3 t.1) ?_
      refine FR_ckI (okA_iff t.1 (by decide : Ar 16 4 18)) (fun q946 => ?_)
      refine FR_ck (lne16 t.1 (ixl q946)) ?_
      have q948 := ixl q946
      refine FR_nmR (w := (5 * v3.toNatClampNeg + 74)) (lre16 t.1 q948) ?_
      refine FR_ck (lo5 t.1 (e5 q948)) ?_
      refine FR_ckI (okW_iff t.1 (ar8_3 h_v2)) (fun q950 => ?_)
      refine FR_nmS (To_pJ t (by omega)) (fun σ85 t => ?_)
      refine FR_ck (lo8 t.1 h_v2) ?_
      refine FR_ck (ln8_4 t.1 h_v2) ?_
      refine FR_nmR (w := (v2 + 5)) (lr8_4 t.1 h_v2) ?_
      refine FR_ck (lo10 t.1) ?_
      refine FR_ck (ln10_3 t.1) ?_
      refine FR_nmR (w := 18) (lr10_3 t.1) ?_
      refine FR_ckI (okA_iff t.1 (by decide : Ar 16 4 18)) (fun q955 => ?_)
      refine FR_ck (lne16 t.1 (ixl q955)) ?_
      have q957 := ixl q955
      refine FR_nmR (w := (5 * v3.toNatClampNeg + 74)) (lre16 t.1 q957) ?_
      refine FR_ck (lo5 t.1 (e5 q957)) ?_
      refine FR_ckI (okW_iff t.1 (ar8_4 h_v2)) (fun q959 => ?_)
      refine FR_nmS (To_pJ t (by omega)) (fun σ97 t => ?_)
      refine FR_nm (fun x98 => ?_)
      exact ih t h_v2 (by omega)
def c_X11_image (n : Nat) (v1 : Int32) (σ : Sg) : Option (Int32 × Sg) :=
  bp (f_X11_isTape v1) fun x51 =>
  if x51 = 0 then (
    some ((-1 : Int32), σ))
  else (
    ck (ix v1 6) <|
    nm (pI σ (6 * v1.toNatClampNeg + 94) 0 (5 : Int32)) fun σ60 =>
    nm (pI σ60 (6 * v1.toNatClampNeg + 94) 5 (gI σ60 4 8)) fun σ63 =>
    bp (c_X4_become n (6 * v1.toNatClampNeg + 96) 16 σ63) fun σ72 =>
    d_X11_image_42 n (6 * v1.toNatClampNeg + 94) (0 : Int32) σ72)
theorem k_f_X11_image {lo hi : Nat} {σ0 : Sg} {n : Nat} {v1 : Int32} {σ : Sg} (t : To lo hi σ0 σ) (w_v0 : lo ≤ 4 ∧ 130 ≤ hi) : FR (fun q => To lo hi σ0 q.2) (f_X11_image n 4 v1 σ) (c_X11_image n v1 σ) := by
  unfold f_X11_image c_X11_image
  refine FR_nmP (fun x51 => ?_)
  refine FR_it (fun _ => ?_) (fun _ => ?_)
  · exact FR_some t
  · refine FR_ck (lo10 t.1) ?_
    refine FR_ck (ln10_4 t.1) ?_
    refine FR_nmR (w := 19) (lr10_4 t.1) ?_
    refine FR_ckI (okA_iff t.1 (by decide : Ar 17 6 19)) (fun q962 => ?_)
    refine FR_ck (lne17 t.1 (ixl q962)) ?_
    have q964 := ixl q962
    refine FR_nmR (w := (6 * v1.toNatClampNeg + 94)) (lre17 t.1 q964) ?_
    refine FR_ck (lo8 t.1 (e8 q964)) ?_
    refine FR_nmS (To_pI t (by omega)) (fun σ60 t => ?_)
    refine FR_ck (lo10 t.1) ?_
    refine FR_ck (lo8 t.1 (e8 q964)) ?_
    refine FR_nmS (To_pI t (by omega)) (fun σ63 t => ?_)
    refine FR_ck (lo8 t.1 (e8 q964)) ?_
    refine FR_ck (ln8_2 t.1 (e8 q964)) ?_
    refine FR_nmR (w := (6 * v1.toNatClampNeg + 96)) (lr8_2 t.1 (e8 q964)) ?_
    refine FR_ck (lo10 t.1) ?_
    refine FR_ck (ln10_2 t.1) ?_
    refine FR_nmR (w := 16) (lr10_2 t.1) ?_
    refine FR_ck (lo3 t.1 (o8_2 (e8 q964))) ?_
    refine FR_bp (k_f_X4_become t (o8_2 (e8 q964)) (by omega) (by decide)) (fun σ72 t => ?_)
    exact k_b_X11_image_42 t (e8 q964) (by omega)
def d_X11_back_140 (k72 : Int32 → Sg → Option (Int32 × Sg)) (n : Nat) (v2 : Nat) (v3 : Int32) (s0 : Int64) (s1 : Nat) (σ : Sg) : Option (Int32 × Sg) :=
  nm (pJ σ s1 6 s0) fun σ105 =>
  nm (v3 + (1 : Int32)) fun x106 =>
  k72 x106 σ105
theorem k_b_X11_back_140 {lo hi : Nat} {σ0 : Sg} {k72 k72c : Int32 → Sg → Option (Int32 × Sg)} {n : Nat} {v2 : Nat} {v3 : Int32} {s0 : Int64} {s1 : Nat} {σ : Sg} (h_k72 : ∀ (c0 : Int32) (τ : Sg), To lo hi σ0 τ → FR (fun q => To lo hi σ0 q.2) (k72 c0 τ) (k72c c0 τ)) (t : To lo hi σ0 σ) (h_v2 : O8 v2) (h_s1 : O5 s1) (w_s1 : lo ≤ s1 ∧ s1 + 5 ≤ hi) : FR (fun q => To lo hi σ0 q.2) (b_X11_back_140 k72 n 4 v2 v3 s0 s1 σ) (d_X11_back_140 k72c n v2 v3 s0 s1 σ) := by
  unfold b_X11_back_140 d_X11_back_140
  refine FR_ck (lo5 t.1 h_s1) ?_
  refine FR_nmS (To_pJ t (by omega)) (fun σ105 t => ?_)
  refine FR_nm (fun x106 => ?_)
  exact h_k72 _ _ t
def d_X11_back_116 (k72 : Int32 → Sg → Option (Int32 × Sg)) (n : Nat) (v2 : Nat) (v3 : Int32) (v4 : Int32) (s0 : Int64) (s1 : Nat) (σ : Sg) : Option (Int32 × Sg) :=
  nm (pJ σ s1 5 s0) fun σ96 =>
  ck (ix v3 4) <|
  if v4 = 0 then (
    d_X11_back_140 k72 n v2 v3 (1 : Int64) (5 * v3.toNatClampNeg + 74) σ96)
  else (
    ck (ix v3 4) <|
    d_X11_back_140 k72 n v2 v3 (gJ σ96 (v2 + 5) v3.toNatClampNeg) (5 * v3.toNatClampNeg + 74) σ96)
theorem k_b_X11_back_116 {lo hi : Nat} {σ0 : Sg} {k72 k72c : Int32 → Sg → Option (Int32 × Sg)} {n : Nat} {v2 : Nat} {v3 : Int32} {v4 : Int32} {s0 : Int64} {s1 : Nat} {σ : Sg} (h_k72 : ∀ (c0 : Int32) (τ : Sg), To lo hi σ0 τ → FR (fun q => To lo hi σ0 q.2) (k72 c0 τ) (k72c c0 τ)) (t : To lo hi σ0 σ) (w_v0 : lo ≤ 4 ∧ 130 ≤ hi) (h_v2 : O8 v2) (h_s1 : O5 s1) (w_s1 : lo ≤ s1 ∧ s1 + 5 ≤ hi) : FR (fun q => To lo hi σ0 q.2) (b_X11_back_116 k72 n 4 v2 v3 v4 s0 s1 σ) (d_X11_back_116 k72c n v2 v3 v4 s0 s1 σ) := by
  unfold b_X11_back_116 d_X11_back_116
  refine FR_ck (lo5 t.1 h_s1) ?_
  refine FR_nmS (To_pJ t (by omega)) (fun σ96 t => ?_)
  refine FR_ck (lo10 t.1) ?_
  refine FR_ck (ln10_3 t.1) ?_
  refine FR_nmR (w := 18) (lr10_3 t.1) ?_
  refine FR_ckI (okA_iff t.1 (by decide : Ar 16 4 18)) (fun q977 => ?_)
  refine FR_ck (lne16 t.1 (ixl q977)) ?_
  have q979 := ixl q977
  refine FR_nmR (w := (5 * v3.toNatClampNeg + 74)) (lre16 t.1 q979) ?_
  refine FR_it (fun _ => ?_) (fun _ => ?_)
  · exact k_b_X11_back_140 h_k72 t h_v2 (e5 q979) (by omega)
  · refine FR_ck (lo8 t.1 h_v2) ?_
    refine FR_ck (ln8_4 t.1 h_v2) ?_
    refine FR_nmR (w := (v2 + 5)) (lr8_4 t.1 h_v2) ?_
    refine FR_ckI (okA_iff t.1 (ar8_4 h_v2)) (fun q982 => ?_)
    exact k_b_X11_back_140 h_k72 t h_v2 (e5 q979) (by omega)
def d_X11_back_93 (k72 : Int32 → Sg → Option (Int32 × Sg)) (n : Nat) (v2 : Nat) (v3 : Int32) (s0 : Int32) (σ : Sg) : Option (Int32 × Sg) :=
  ck (ix v3 4) <|
  if s0 = 0 then (
    d_X11_back_116 k72 n v2 v3 s0 (0 : Int64) (5 * v3.toNatClampNeg + 74) σ)
  else (
    ck (ix v3 4) <|
    d_X11_back_116 k72 n v2 v3 s0 (gJ σ (v2 + 4) v3.toNatClampNeg) (5 * v3.toNatClampNeg + 74) σ)
theorem k_b_X11_back_93 {lo hi : Nat} {σ0 : Sg} {k72 k72c : Int32 → Sg → Option (Int32 × Sg)} {n : Nat} {v2 : Nat} {v3 : Int32} {s0 : Int32} {σ : Sg} (h_k72 : ∀ (c0 : Int32) (τ : Sg), To lo hi σ0 τ → FR (fun q => To lo hi σ0 q.2) (k72 c0 τ) (k72c c0 τ)) (t : To lo hi σ0 σ) (w_v0 : lo ≤ 4 ∧ 130 ≤ hi) (h_v2 : O8 v2) : FR (fun q => To lo hi σ0 q.2) (b_X11_back_93 k72 n 4 v2 v3 s0 σ) (d_X11_back_93 k72c n v2 v3 s0 σ) := by
  unfold b_X11_back_93 d_X11_back_93
  refine FR_ck (lo10 t.1) ?_
  refine FR_ck (ln10_3 t.1) ?_
  refine FR_nmR (w := 18) (lr10_3 t.1) ?_
  refine FR_ckI (okA_iff t.1 (by decide : Ar 16 4 18)) (fun q985 => ?_)
  refine FR_ck (lne16 t.1 (ixl q985)) ?_
  have q987 := ixl q985
  refine FR_nmR (w := (5 * v3.toNatClampNeg + 74)) (lre16 t.1 q987) ?_
  refine FR_it (fun _ => ?_) (fun _ => ?_)
  · exact k_b_X11_back_116 h_k72 t (by omega) h_v2 (e5 q987) (by omega)
  · refine FR_ck (lo8 t.1 h_v2) ?_
    refine FR_ck (ln8_3 t.1 h_v2) ?_
    refine FR_nmR (w := (v2 + 4)) (lr8_3 t.1 h_v2) ?_
    refine FR_ckI (okA_iff t.1 (ar8_3 h_v2)) (fun q990 => ?_)
    exact k_b_X11_back_116 h_k72 t (by omega) h_v2 (e5 q987) (by omega)
def d_X11_back_72 : Nat → Nat → Int32 → Sg → Option (Int32 × Sg)
  | 0, _, _, _ => none
  | n + 1, v2, v3, σ =>
  if (gI σ 4 8) ≤ v3 then (
    some (gI σ 16 1, σ))
  else (
    if (gI σ v2 5) ≤ v3 then (
      d_X11_back_93 (fun c3 τ => d_X11_back_72 n v2 c3 τ) n v2 v3 (0 : Int32) σ)
    else (
      d_X11_back_93 (fun c3 τ => d_X11_back_72 n v2 c3 τ) n v2 v3 (1 : Int32) σ))
theorem k_b_X11_back_72 {lo hi : Nat} {σ0 : Sg} : ∀ {n : Nat} {v2 : Nat} {v3 : Int32} {σ : Sg}, To lo hi σ0 σ → lo ≤ 4 ∧ 130 ≤ hi → O8 v2 → FR (fun q => To lo hi σ0 q.2) (b_X11_back_72 n 4 v2 v3 σ) (d_X11_back_72 n v2 v3 σ) := by
  intro n
  induction n with
  | zero => intro v2 v3 σ t w_v0 h_v2; exact FR_none
  | succ n ih =>
    intro v2 v3 σ t w_v0 h_v2
    unfold b_X11_back_72 d_X11_back_72
    refine FR_ck (lo10 t.1) ?_
    refine FR_it (fun _ => ?_) (fun _ => ?_)
    · refine FR_ck (ln10_2 t.1) ?_
      refine FR_nmR (w := 16) (lr10_2 t.1) ?_
      refine FR_ck (lo3 t.1 (by decide)) ?_
      exact FR_some t
    · refine FR_ck (lo8 t.1 h_v2) ?_
      refine FR_it (fun _ => ?_) (fun _ => ?_)
      · exact k_b_X11_back_93 (fun c3 τ t => ih t (by omega) h_v2) t (by omega) h_v2
      · exact k_b_X11_back_93 (fun c3 τ t => ih t (by omega) h_v2) t (by omega) h_v2
def c_X11_back (n : Nat) (v1 : Int32) (σ : Sg) : Option (Int32 × Sg) :=
  bp (f_X11_isTape v1) fun x62 =>
  if x62 = 0 then (
    some ((-1 : Int32), σ))
  else (
    ck (ix v1 6) <|
    if (gI σ (6 * v1.toNatClampNeg + 94) 0) = 0 then (
      bd (c_X11_refuse (-11 : Int32) σ) fun x120 σ119 =>
      some (x120, σ119))
    else (
      if (gI σ (6 * v1.toNatClampNeg + 94) 0) = (5 : Int32) then (
        if (gI σ (6 * v1.toNatClampNeg + 94) 5) ≤ (gI σ 4 8) then (
          bp (c_X4_become n 16 (6 * v1.toNatClampNeg + 96) σ) fun σ80 =>
          d_X11_back_72 n (6 * v1.toNatClampNeg + 94) (0 : Int32) σ80)
        else (
          some ((-3 : Int32), σ)))
      else (
        bd (c_X11_refuse (-12 : Int32) σ) fun x117 σ116 =>
        some (x117, σ116))))
theorem k_f_X11_back {lo hi : Nat} {σ0 : Sg} {n : Nat} {v1 : Int32} {σ : Sg} (t : To lo hi σ0 σ) (w_v0 : lo ≤ 4 ∧ 130 ≤ hi) : FR (fun q => To lo hi σ0 q.2) (f_X11_back n 4 v1 σ) (c_X11_back n v1 σ) := by
  unfold f_X11_back c_X11_back
  refine FR_nmP (fun x62 => ?_)
  refine FR_it (fun _ => ?_) (fun _ => ?_)
  · exact FR_some t
  · refine FR_ck (lo10 t.1) ?_
    refine FR_ck (ln10_4 t.1) ?_
    refine FR_nmR (w := 19) (lr10_4 t.1) ?_
    refine FR_ckI (okA_iff t.1 (by decide : Ar 17 6 19)) (fun q997 => ?_)
    refine FR_ck (lne17 t.1 (ixl q997)) ?_
    have q999 := ixl q997
    refine FR_nmR (w := (6 * v1.toNatClampNeg + 94)) (lre17 t.1 q999) ?_
    refine FR_ck (lo8 t.1 (e8 q999)) ?_
    refine FR_it (fun _ => ?_) (fun _ => ?_)
    · refine FR_bd (k_f_X11_refuse t (by omega)) (fun x120 σ119 t => ?_)
      exact FR_some t
    · refine FR_it (fun _ => ?_) (fun _ => ?_)
      · refine FR_it (fun _ => ?_) (fun _ => ?_)
        · refine FR_ck (ln10_2 t.1) ?_
          refine FR_nmR (w := 16) (lr10_2 t.1) ?_
          refine FR_ck (ln8_2 t.1 (e8 q999)) ?_
          refine FR_nmR (w := (6 * v1.toNatClampNeg + 96)) (lr8_2 t.1 (e8 q999)) ?_
          refine FR_ck (lo3 t.1 (by decide)) ?_
          refine FR_bp (k_f_X4_become t (by decide) (by omega) (o8_2 (e8 q999))) (fun σ80 t => ?_)
          exact k_b_X11_back_72 t (by omega) (e8 q999)
        · exact FR_some t
      · refine FR_bd (k_f_X11_refuse t (by omega)) (fun x117 σ116 t => ?_)
        exact FR_some t
def c_X11_toss (v1 : Int32) (σ : Sg) : Option (Int32 × Sg) :=
  bp (f_X11_isTape v1) fun x50 =>
  if x50 = 0 then (
    some ((-1 : Int32), σ))
  else (
    ck (ix v1 6) <|
    if (gI σ (6 * v1.toNatClampNeg + 94) 0) = 0 then (
      bd (c_X11_refuse (-11 : Int32) σ) fun x91 σ90 =>
      some (x91, σ90))
    else (
      ck (ix v1 6) <|
      if (gI σ (6 * v1.toNatClampNeg + 94) 0) = (5 : Int32) then (
        ck (ix v1 6) <|
        if (gI σ (6 * v1.toNatClampNeg + 96) 1) ≤ 0 then (
          bd (c_X11_refuse (-15 : Int32) σ) fun x77 σ76 =>
          some (x77, σ76))
        else (
          ck (ix v1 6) <|
          some (gI σ (6 * v1.toNatClampNeg + 96) 1, σ)))
      else (
        bd (c_X11_refuse (-12 : Int32) σ) fun x88 σ87 =>
        some (x88, σ87))))
theorem k_f_X11_toss {lo hi : Nat} {σ0 : Sg} {v1 : Int32} {σ : Sg} (t : To lo hi σ0 σ) (w_v0 : lo ≤ 4 ∧ 130 ≤ hi) : FR (fun q => To lo hi σ0 q.2) (f_X11_toss 4 v1 σ) (c_X11_toss v1 σ) := by
  unfold f_X11_toss c_X11_toss
  refine FR_nmP (fun x50 => ?_)
  refine FR_it (fun _ => ?_) (fun _ => ?_)
  · exact FR_some t
  · refine FR_ck (lo10 t.1) ?_
    refine FR_ck (ln10_4 t.1) ?_
    refine FR_nmR (w := 19) (lr10_4 t.1) ?_
    refine FR_ckI (okA_iff t.1 (by decide : Ar 17 6 19)) (fun q1006 => ?_)
    refine FR_ck (lne17 t.1 (ixl q1006)) ?_
    have q1008 := ixl q1006
    refine FR_nmR (w := (6 * v1.toNatClampNeg + 94)) (lre17 t.1 q1008) ?_
    refine FR_ck (lo8 t.1 (e8 q1008)) ?_
    refine FR_it (fun _ => ?_) (fun _ => ?_)
    · refine FR_bd (k_f_X11_refuse t (by omega)) (fun x91 σ90 t => ?_)
      exact FR_some t
    · refine FR_nmR (w := 19) (lr10_4 t.1) ?_
      refine FR_ckI (okA_iff t.1 (by decide : Ar 17 6 19)) (fun q1010 => ?_)
      refine FR_ck (lne17 t.1 (ixl q1010)) ?_
      have q1012 := ixl q1010
      refine FR_nmR (w := (6 * v1.toNatClampNeg + 94)) (lre17 t.1 q1012) ?_
      refine FR_ck (lo8 t.1 (e8 q1012)) ?_
      refine FR_it (fun _ => ?_) (fun _ => ?_)
      · refine FR_nmR (w := 19) (lr10_4 t.1) ?_
        refine FR_ckI (okA_iff t.1 (by decide : Ar 17 6 19)) (fun q1014 => ?_)
        refine FR_ck (lne17 t.1 (ixl q1014)) ?_
        have q1016 := ixl q1014
        refine FR_nmR (w := (6 * v1.toNatClampNeg + 94)) (lre17 t.1 q1016) ?_
        refine FR_ck (lo8 t.1 (e8 q1016)) ?_
        refine FR_ck (ln8_2 t.1 (e8 q1016)) ?_
        refine FR_nmR (w := (6 * v1.toNatClampNeg + 96)) (lr8_2 t.1 (e8 q1016)) ?_
        refine FR_ck (lo3 t.1 (o8_2 (e8 q1016))) ?_
        refine FR_it (fun _ => ?_) (fun _ => ?_)
        · refine FR_bd (k_f_X11_refuse t (by omega)) (fun x77 σ76 t => ?_)
          exact FR_some t
        · refine FR_nmR (w := 19) (lr10_4 t.1) ?_
          refine FR_ckI (okA_iff t.1 (by decide : Ar 17 6 19)) (fun q1020 => ?_)
          refine FR_ck (lne17 t.1 (ixl q1020)) ?_
          have q1022 := ixl q1020
          refine FR_nmR (w := (6 * v1.toNatClampNeg + 94)) (lre17 t.1 q1022) ?_
          refine FR_ck (lo8 t.1 (e8 q1022)) ?_
          refine FR_ck (ln8_2 t.1 (e8 q1022)) ?_
          refine FR_nmR (w := (6 * v1.toNatClampNeg + 96)) (lr8_2 t.1 (e8 q1022)) ?_
          refine FR_ck (lo3 t.1 (o8_2 (e8 q1022))) ?_
          exact FR_some t
      · refine FR_bd (k_f_X11_refuse t (by omega)) (fun x88 σ87 t => ?_)
        exact FR_some t
def d_X11_load_60 (n : Nat) (σ : Sg) : Option (Int32 × Sg) :=
  bd (c_X11_refuse (-12 : Int32) σ) fun x69 σ68 =>
  some (x69, σ68)
theorem k_b_X11_load_60 {lo hi : Nat} {σ0 : Sg} {n : Nat} {σ : Sg} (t : To lo hi σ0 σ) (w_v0 : lo ≤ 4 ∧ 130 ≤ hi) : FR (fun q => To lo hi σ0 q.2) (b_X11_load_60 n 4 σ) (d_X11_load_60 n σ) := by
  unfold b_X11_load_60 d_X11_load_60
  refine FR_ck (lo10 t.1) ?_
  refine FR_bd (k_f_X11_refuse t (by omega)) (fun x69 σ68 t => ?_)
  exact FR_some t
def d_X11_load_154 (n : Nat) (v3 : Int32) (σ : Sg) : Option (Int32 × Sg) :=
  nm (pI σ 14 1 v3) fun σ80 =>
  some (v3, σ80)
theorem k_b_X11_load_154 {lo hi : Nat} {σ0 : Sg} {n : Nat} {v3 : Int32} {σ : Sg} (t : To lo hi σ0 σ) (w_v0 : lo ≤ 4 ∧ 130 ≤ hi) : FR (fun q => To lo hi σ0 q.2) (b_X11_load_154 n 4 v3 σ) (d_X11_load_154 n v3 σ) := by
  unfold b_X11_load_154 d_X11_load_154
  refine FR_ck (lo10 t.1) ?_
  refine FR_ck (ln10_1 t.1) ?_
  refine FR_nmR (w := 14) (lr10_1 t.1) ?_
  refine FR_ck (lo0 t.1 (by decide)) ?_
  refine FR_nmS (To_pI t (by omega)) (fun σ80 t => ?_)
  exact FR_some t
def d_X11_load_121 : Nat → Int32 → Int32 → Nat → Int32 → Sg → Option (Int32 × Sg)
  | 0, _, _, _, _, _ => none
  | n + 1, v2, v3, v4, v5, σ =>
  if v3 ≤ v5 then (
    d_X11_load_154 n v3 σ)
  else (
    ck (ix (v2 + v5) 64) <|
    ck (ix v5 12) <|
    nm (pI σ 15 v5.toNatClampNeg ((gJ σ (v4 + 1) (v2 + v5).toNatClampNeg).toInt32)) fun σ92 =>
    nm (v5 + (1 : Int32)) fun x93 =>
    d_X11_load_121 n v2 v3 v4 x93 σ92)
theorem k_b_X11_load_121 {lo hi : Nat} {σ0 : Sg} : ∀ {n : Nat} {v2 : Int32} {v3 : Int32} {v4 : Nat} {v5 : Int32} {σ : Sg}, To lo hi σ0 σ → lo ≤ 4 ∧ 130 ≤ hi → O8 v4 → FR (fun q => To lo hi σ0 q.2) (b_X11_load_121 n 4 v2 v3 v4 v5 σ) (d_X11_load_121 n v2 v3 v4 v5 σ) := by
  intro n
  induction n with
  | zero => intro v2 v3 v4 v5 σ t w_v0 h_v4; exact FR_none
  | succ n ih =>
    intro v2 v3 v4 v5 σ t w_v0 h_v4
    unfold b_X11_load_121 d_X11_load_121
    refine FR_it (fun _ => ?_) (fun _ => ?_)
    · exact k_b_X11_load_154 t (by omega)
    · refine FR_ck (lo10 t.1) ?_
      refine FR_ck (ln10_1 t.1) ?_
      refine FR_nmR (w := 14) (lr10_1 t.1) ?_
      refine FR_ck (lo0 t.1 (by decide)) ?_
      refine FR_ck (ln0_0 t.1 (by decide)) ?_
      refine FR_nmR (w := 15) (lr0_0 t.1 (by decide)) ?_
      refine FR_ck (lo8 t.1 h_v4) ?_
      refine FR_ck (ln8_1 t.1 h_v4) ?_
      refine FR_nmR (w := (v4 + 1)) (lr8_1 t.1 h_v4) ?_
      refine FR_ckI (okA_iff t.1 (ar8_1 h_v4)) (fun q1036 => ?_)
      refine FR_ckI (okW_iff t.1 (by decide : Ar 13 12 15)) (fun q1037 => ?_)
      refine FR_nmS (To_pI t (by omega)) (fun σ92 t => ?_)
      refine FR_nm (fun x93 => ?_)
      exact ih t (by omega) h_v4
def d_X11_load_118 (n : Nat) (v2 : Int32) (v3 : Int32) (v4 : Nat) (σ : Sg) : Option (Int32 × Sg) :=
  d_X11_load_121 n v2 v3 v4 (0 : Int32) σ
theorem k_b_X11_load_118 {lo hi : Nat} {σ0 : Sg} {n : Nat} {v2 : Int32} {v3 : Int32} {v4 : Nat} {σ : Sg} (t : To lo hi σ0 σ) (w_v0 : lo ≤ 4 ∧ 130 ≤ hi) (h_v4 : O8 v4) : FR (fun q => To lo hi σ0 q.2) (b_X11_load_118 n 4 v2 v3 v4 σ) (d_X11_load_118 n v2 v3 v4 σ) := by
  unfold b_X11_load_118 d_X11_load_118
  exact k_b_X11_load_121 t (by omega) h_v4
def d_X11_load_87 : Nat → Int32 → Int32 → Nat → Int32 → Sg → Option (Int32 × Sg)
  | 0, _, _, _, _, _ => none
  | n + 1, v2, v3, v4, v5, σ =>
  if v3 ≤ v5 then (
    d_X11_load_118 n v2 v3 v4 σ)
  else (
    ck (ix (v2 + v5) 64) <|
    bp (f_X11_isLine (gJ σ (v4 + 1) (v2 + v5).toNatClampNeg)) fun x99 =>
    if x99 = 0 then (
      some ((-3 : Int32), σ))
    else (
      nm (v5 + (1 : Int32)) fun x101 =>
      d_X11_load_87 n v2 v3 v4 x101 σ))
theorem k_b_X11_load_87 {lo hi : Nat} {σ0 : Sg} : ∀ {n : Nat} {v2 : Int32} {v3 : Int32} {v4 : Nat} {v5 : Int32} {σ : Sg}, To lo hi σ0 σ → lo ≤ 4 ∧ 130 ≤ hi → O8 v4 → FR (fun q => To lo hi σ0 q.2) (b_X11_load_87 n 4 v2 v3 v4 v5 σ) (d_X11_load_87 n v2 v3 v4 v5 σ) := by
  intro n
  induction n with
  | zero => intro v2 v3 v4 v5 σ t w_v0 h_v4; exact FR_none
  | succ n ih =>
    intro v2 v3 v4 v5 σ t w_v0 h_v4
    unfold b_X11_load_87 d_X11_load_87
    refine FR_it (fun _ => ?_) (fun _ => ?_)
    · exact k_b_X11_load_118 t (by omega) h_v4
    · refine FR_ck (lo8 t.1 h_v4) ?_
      refine FR_ck (ln8_1 t.1 h_v4) ?_
      refine FR_nmR (w := (v4 + 1)) (lr8_1 t.1 h_v4) ?_
      refine FR_ckI (okA_iff t.1 (ar8_1 h_v4)) (fun q1040 => ?_)
      refine FR_nmP (fun x99 => ?_)
      refine FR_it (fun _ => ?_) (fun _ => ?_)
      · exact FR_some t
      · refine FR_nm (fun x101 => ?_)
        exact ih t (by omega) h_v4
def c_X11_load (n : Nat) (v1 : Int32) (v2 : Int32) (v3 : Int32) (σ : Sg) : Option (Int32 × Sg) :=
  bp (f_X11_isTape v1) fun x53 =>
  if x53 = 0 then (
    some ((-1 : Int32), σ))
  else (
    if v3 < 0 then (
      some ((-1 : Int32), σ))
    else (
      if v3 ≤ (12 : Int32) then (
        ck (ix v1 6) <|
        if (gI σ (6 * v1.toNatClampNeg + 94) 0) = 0 then (
          bd (c_X11_refuse (-11 : Int32) σ) fun x107 σ106 =>
          some (x107, σ106))
        else (
          if (gI σ (6 * v1.toNatClampNeg + 94) 0) = (1 : Int32) then (
            d_X11_load_60 n σ)
          else (
            if (gI σ (6 * v1.toNatClampNeg + 94) 0) = (5 : Int32) then (
              d_X11_load_60 n σ)
            else (
              bp (c_X9_hasPlaces (6 * v1.toNatClampNeg + 94) v2 v3 σ) fun x72 =>
              if x72 = 0 then (
                bd (c_X11_refuse (-13 : Int32) σ) fun x104 σ103 =>
                some (x104, σ103))
              else (
                d_X11_load_87 n v2 v3 (6 * v1.toNatClampNeg + 94) (0 : Int32) σ)))))
      else (
        some ((-1 : Int32), σ))))
theorem k_f_X11_load {lo hi : Nat} {σ0 : Sg} {n : Nat} {v1 : Int32} {v2 : Int32} {v3 : Int32} {σ : Sg} (t : To lo hi σ0 σ) (w_v0 : lo ≤ 4 ∧ 130 ≤ hi) : FR (fun q => To lo hi σ0 q.2) (f_X11_load n 4 v1 v2 v3 σ) (c_X11_load n v1 v2 v3 σ) := by
  unfold f_X11_load c_X11_load
  refine FR_nmP (fun x53 => ?_)
  refine FR_it (fun _ => ?_) (fun _ => ?_)
  · exact FR_some t
  · refine FR_it (fun _ => ?_) (fun _ => ?_)
    · exact FR_some t
    · refine FR_it (fun _ => ?_) (fun _ => ?_)
      · refine FR_ck (lo10 t.1) ?_
        refine FR_ck (ln10_4 t.1) ?_
        refine FR_nmR (w := 19) (lr10_4 t.1) ?_
        refine FR_ckI (okA_iff t.1 (by decide : Ar 17 6 19)) (fun q1043 => ?_)
        refine FR_ck (lne17 t.1 (ixl q1043)) ?_
        have q1045 := ixl q1043
        refine FR_nmR (w := (6 * v1.toNatClampNeg + 94)) (lre17 t.1 q1045) ?_
        refine FR_ck (lo8 t.1 (e8 q1045)) ?_
        refine FR_it (fun _ => ?_) (fun _ => ?_)
        · refine FR_bd (k_f_X11_refuse t (by omega)) (fun x107 σ106 t => ?_)
          exact FR_some t
        · refine FR_it (fun _ => ?_) (fun _ => ?_)
          · exact k_b_X11_load_60 t (by omega)
          · refine FR_it (fun _ => ?_) (fun _ => ?_)
            · exact k_b_X11_load_60 t (by omega)
            · refine FR_bpP (k_f_X9_hasPlaces t (e8 q1045)).1 (fun x72 => ?_)
              refine FR_it (fun _ => ?_) (fun _ => ?_)
              · refine FR_bd (k_f_X11_refuse t (by omega)) (fun x104 σ103 t => ?_)
                exact FR_some t
              · exact k_b_X11_load_87 t (by omega) (e8 q1045)
      · exact FR_some t
def c_X11_clear (v1 : Int32) (σ : Sg) : Option (Int32 × Sg) :=
  bp (f_X11_isTape v1) fun x18 =>
  if x18 = 0 then (
    some ((-1 : Int32), σ))
  else (
    ck (ix v1 6) <|
    nm (gI σ (6 * v1.toNatClampNeg + 94) 0) fun x27 =>
    ck (ix v1 6) <|
    nm (pI σ (6 * v1.toNatClampNeg + 94) 0 (0 : Int32)) fun σ33 =>
    some (x27, σ33))
theorem k_f_X11_clear {lo hi : Nat} {σ0 : Sg} {v1 : Int32} {σ : Sg} (t : To lo hi σ0 σ) (w_v0 : lo ≤ 4 ∧ 130 ≤ hi) : FR (fun q => To lo hi σ0 q.2) (f_X11_clear 4 v1 σ) (c_X11_clear v1 σ) := by
  unfold f_X11_clear c_X11_clear
  refine FR_nmP (fun x18 => ?_)
  refine FR_it (fun _ => ?_) (fun _ => ?_)
  · exact FR_some t
  · refine FR_ck (lo10 t.1) ?_
    refine FR_ck (ln10_4 t.1) ?_
    refine FR_nmR (w := 19) (lr10_4 t.1) ?_
    refine FR_ckI (okA_iff t.1 (by decide : Ar 17 6 19)) (fun q1049 => ?_)
    refine FR_ck (lne17 t.1 (ixl q1049)) ?_
    have q1051 := ixl q1049
    refine FR_nmR (w := (6 * v1.toNatClampNeg + 94)) (lre17 t.1 q1051) ?_
    refine FR_ck (lo8 t.1 (e8 q1051)) ?_
    refine FR_nm (fun x27 => ?_)
    refine FR_nmR (w := 19) (lr10_4 t.1) ?_
    refine FR_ckI (okA_iff t.1 (by decide : Ar 17 6 19)) (fun q1053 => ?_)
    refine FR_ck (lne17 t.1 (ixl q1053)) ?_
    have q1055 := ixl q1053
    refine FR_nmR (w := (6 * v1.toNatClampNeg + 94)) (lre17 t.1 q1055) ?_
    refine FR_ck (lo8 t.1 (e8 q1055)) ?_
    refine FR_nmS (To_pI t (by omega)) (fun σ33 t => ?_)
    exact FR_some t
def c_X11_put (v1 : Int32) (v2 : Int32) (v3 : Int64) (σ : Sg) : Option (Int32 × Sg) :=
  bp (f_X11_isTape v1) fun x34 =>
  if x34 = 0 then (
    some ((-1 : Int32), σ))
  else (
    ck (ix v1 6) <|
    if (gI σ (6 * v1.toNatClampNeg + 94) 0) = 0 then (
      bd (c_X11_refuse (-11 : Int32) σ) fun x62 σ61 =>
      some (x62, σ61))
    else (
      if (gI σ (6 * v1.toNatClampNeg + 94) 0) = (5 : Int32) then (
        bd (c_X11_refuse (-12 : Int32) σ) fun x59 σ58 =>
        some (x59, σ58))
      else (
        bp (c_X9_hasPlaces (6 * v1.toNatClampNeg + 94) v2 (1 : Int32) σ) fun x46 =>
        if x46 = 0 then (
          bd (c_X11_refuse (-13 : Int32) σ) fun x56 σ55 =>
          some (x56, σ55))
        else (
          bp (c_X9_narrowed (6 * v1.toNatClampNeg + 94) v3 σ) fun x51 =>
          ck (ix v2 64) <|
          nm (pJ σ (6 * v1.toNatClampNeg + 95) v2.toNatClampNeg x51) fun σ53 =>
          some ((1 : Int32), σ53)))))
theorem k_f_X11_put {lo hi : Nat} {σ0 : Sg} {v1 : Int32} {v2 : Int32} {v3 : Int64} {σ : Sg} (t : To lo hi σ0 σ) (w_v0 : lo ≤ 4 ∧ 130 ≤ hi) : FR (fun q => To lo hi σ0 q.2) (f_X11_put 4 v1 v2 v3 σ) (c_X11_put v1 v2 v3 σ) := by
  unfold f_X11_put c_X11_put
  refine FR_nmP (fun x34 => ?_)
  refine FR_it (fun _ => ?_) (fun _ => ?_)
  · exact FR_some t
  · refine FR_ck (lo10 t.1) ?_
    refine FR_ck (ln10_4 t.1) ?_
    refine FR_nmR (w := 19) (lr10_4 t.1) ?_
    refine FR_ckI (okA_iff t.1 (by decide : Ar 17 6 19)) (fun q1059 => ?_)
    refine FR_ck (lne17 t.1 (ixl q1059)) ?_
    have q1061 := ixl q1059
    refine FR_nmR (w := (6 * v1.toNatClampNeg + 94)) (lre17 t.1 q1061) ?_
    refine FR_ck (lo8 t.1 (e8 q1061)) ?_
    refine FR_it (fun _ => ?_) (fun _ => ?_)
    · refine FR_bd (k_f_X11_refuse t (by omega)) (fun x62 σ61 t => ?_)
      exact FR_some t
    · refine FR_it (fun _ => ?_) (fun _ => ?_)
      · refine FR_bd (k_f_X11_refuse t (by omega)) (fun x59 σ58 t => ?_)
        exact FR_some t
      · refine FR_bpP (k_f_X9_hasPlaces t (e8 q1061)).1 (fun x46 => ?_)
        refine FR_it (fun _ => ?_) (fun _ => ?_)
        · refine FR_bd (k_f_X11_refuse t (by omega)) (fun x56 σ55 t => ?_)
          exact FR_some t
        · refine FR_ck (ln8_1 t.1 (e8 q1061)) ?_
          refine FR_nmR (w := (6 * v1.toNatClampNeg + 95)) (lr8_1 t.1 (e8 q1061)) ?_
          refine FR_bpP (k_f_X9_narrowed t (e8 q1061)).1 (fun x51 => ?_)
          refine FR_ckI (okW_iff t.1 (ar8_1 (e8 q1061))) (fun q1064 => ?_)
          refine FR_nmS (To_pJ t (by omega)) (fun σ53 t => ?_)
          exact FR_some t
def d_X11_copy_48 (σ : Sg) : Option (Int32 × Sg) :=
  bd (c_X11_refuse (-11 : Int32) σ) fun x67 σ66 =>
  some (x67, σ66)
theorem k_b_X11_copy_48 {lo hi : Nat} {σ0 : Sg} {σ : Sg} (t : To lo hi σ0 σ) (w_v0 : lo ≤ 4 ∧ 130 ≤ hi) : FR (fun q => To lo hi σ0 q.2) (b_X11_copy_48 4 σ) (d_X11_copy_48 σ) := by
  unfold b_X11_copy_48 d_X11_copy_48
  refine FR_ck (lo10 t.1) ?_
  refine FR_bd (k_f_X11_refuse t (by omega)) (fun x67 σ66 t => ?_)
  exact FR_some t
def d_X11_copy_77 (σ : Sg) : Option (Int32 × Sg) :=
  bd (c_X11_refuse (-12 : Int32) σ) fun x74 σ73 =>
  some (x74, σ73)
theorem k_b_X11_copy_77 {lo hi : Nat} {σ0 : Sg} {σ : Sg} (t : To lo hi σ0 σ) (w_v0 : lo ≤ 4 ∧ 130 ≤ hi) : FR (fun q => To lo hi σ0 q.2) (b_X11_copy_77 4 σ) (d_X11_copy_77 σ) := by
  unfold b_X11_copy_77 d_X11_copy_77
  refine FR_ck (lo10 t.1) ?_
  refine FR_bd (k_f_X11_refuse t (by omega)) (fun x74 σ73 t => ?_)
  exact FR_some t
def d_X11_copy_107 (σ : Sg) : Option (Int32 × Sg) :=
  bd (c_X11_refuse (-13 : Int32) σ) fun x82 σ81 =>
  some (x82, σ81)
theorem k_b_X11_copy_107 {lo hi : Nat} {σ0 : Sg} {σ : Sg} (t : To lo hi σ0 σ) (w_v0 : lo ≤ 4 ∧ 130 ≤ hi) : FR (fun q => To lo hi σ0 q.2) (b_X11_copy_107 4 σ) (d_X11_copy_107 σ) := by
  unfold b_X11_copy_107 d_X11_copy_107
  refine FR_ck (lo10 t.1) ?_
  refine FR_bd (k_f_X11_refuse t (by omega)) (fun x82 σ81 t => ?_)
  exact FR_some t
def c_X11_copy (v1 : Int32) (v2 : Int32) (v3 : Int32) (v4 : Int32) (v5 : Int32) (σ : Sg) : Option (Int32 × Sg) :=
  bp (f_X11_isTape v1) fun x47 =>
  if x47 = 0 then (
    some ((-1 : Int32), σ))
  else (
    bp (f_X11_isTape v3) fun x50 =>
    if x50 = 0 then (
      some ((-1 : Int32), σ))
    else (
      ck (ix v1 6) <|
      ck (ix v3 6) <|
      if (gI σ (6 * v1.toNatClampNeg + 94) 0) = 0 then (
        d_X11_copy_48 σ)
      else (
        if (gI σ (6 * v3.toNatClampNeg + 94) 0) = 0 then (
          d_X11_copy_48 σ)
        else (
          if (gI σ (6 * v1.toNatClampNeg + 94) 0) = (5 : Int32) then (
            d_X11_copy_77 σ)
          else (
            if (gI σ (6 * v1.toNatClampNeg + 94) 0) = (gI σ (6 * v3.toNatClampNeg + 94) 0) then (
              bp (c_X9_hasPlaces (6 * v1.toNatClampNeg + 94) v2 v5 σ) fun x77 =>
              if x77 = 0 then (
                d_X11_copy_107 σ)
              else (
                bp (c_X9_hasPlaces (6 * v3.toNatClampNeg + 94) v4 v5 σ) fun x84 =>
                if x84 = 0 then (
                  d_X11_copy_107 σ)
                else (
                  ck (cx 64 v2 64 v4 v5) <|
                  nm (cpJ σ (6 * v1.toNatClampNeg + 95) v2.toNatClampNeg (6 * v3.toNatClampNeg + 95) v4.toNatClampNeg v5.toNatClampNeg) fun σ91 =>
                  some (v5, σ91))))
            else (
              d_X11_copy_77 σ))))))
theorem k_f_X11_copy {lo hi : Nat} {σ0 : Sg} {v1 : Int32} {v2 : Int32} {v3 : Int32} {v4 : Int32} {v5 : Int32} {σ : Sg} (t : To lo hi σ0 σ) (w_v0 : lo ≤ 4 ∧ 130 ≤ hi) : FR (fun q => To lo hi σ0 q.2) (f_X11_copy 4 v1 v2 v3 v4 v5 σ) (c_X11_copy v1 v2 v3 v4 v5 σ) := by
  unfold f_X11_copy c_X11_copy
  refine FR_nmP (fun x47 => ?_)
  refine FR_it (fun _ => ?_) (fun _ => ?_)
  · exact FR_some t
  · refine FR_nmP (fun x50 => ?_)
    refine FR_it (fun _ => ?_) (fun _ => ?_)
    · exact FR_some t
    · refine FR_ck (lo10 t.1) ?_
      refine FR_ck (ln10_4 t.1) ?_
      refine FR_nmR (w := 19) (lr10_4 t.1) ?_
      refine FR_ckI (okA_iff t.1 (by decide : Ar 17 6 19)) (fun q1070 => ?_)
      refine FR_ck (lne17 t.1 (ixl q1070)) ?_
      have q1072 := ixl q1070
      refine FR_nmR (w := (6 * v1.toNatClampNeg + 94)) (lre17 t.1 q1072) ?_
      refine FR_nmR (w := 19) (lr10_4 t.1) ?_
      refine FR_ckI (okA_iff t.1 (by decide : Ar 17 6 19)) (fun q1073 => ?_)
      refine FR_ck (lne17 t.1 (ixl q1073)) ?_
      have q1075 := ixl q1073
      refine FR_nmR (w := (6 * v3.toNatClampNeg + 94)) (lre17 t.1 q1075) ?_
      refine FR_ck (lo8 t.1 (e8 q1072)) ?_
      refine FR_it (fun _ => ?_) (fun _ => ?_)
      · exact k_b_X11_copy_48 t (by omega)
      · refine FR_ck (lo8 t.1 (e8 q1075)) ?_
        refine FR_it (fun _ => ?_) (fun _ => ?_)
        · exact k_b_X11_copy_48 t (by omega)
        · refine FR_it (fun _ => ?_) (fun _ => ?_)
          · exact k_b_X11_copy_77 t (by omega)
          · refine FR_it (fun _ => ?_) (fun _ => ?_)
            · refine FR_bpP (k_f_X9_hasPlaces t (e8 q1072)).1 (fun x77 => ?_)
              refine FR_it (fun _ => ?_) (fun _ => ?_)
              · exact k_b_X11_copy_107 t (by omega)
              · refine FR_bpP (k_f_X9_hasPlaces t (e8 q1075)).1 (fun x84 => ?_)
                refine FR_it (fun _ => ?_) (fun _ => ?_)
                · exact k_b_X11_copy_107 t (by omega)
                · refine FR_ck (ln8_1 t.1 (e8 q1072)) ?_
                  refine FR_nmR (w := (6 * v1.toNatClampNeg + 95)) (lr8_1 t.1 (e8 q1072)) ?_
                  refine FR_ck (ln8_1 t.1 (e8 q1075)) ?_
                  refine FR_nmR (w := (6 * v3.toNatClampNeg + 95)) (lr8_1 t.1 (e8 q1075)) ?_
                  refine FR_ckI (okC_iff t.1 (ar8_1 (e8 q1072)) (ar8_1 (e8 q1075))) (fun q1080 => ?_)
                  refine FR_nmS (To_cpJ t (by omega)) (fun σ91 t => ?_)
                  exact FR_some t
            · exact k_b_X11_copy_77 t (by omega)
def d_X11_count_55 (v1 : Int32) (σ : Sg) : Option Int32 :=
  if v1 = 0 then (
    some (gI σ 14 1))
  else (
    if v1 = 1 then (
      some (gI σ 4 8))
    else (
      if v1 = 2 then (
        some (gI σ 16 1))
      else (
        if v1 = 3 then (
          some (gI σ 4 9))
        else (
          some (-1 : Int32)))))
theorem k_b_X11_count_55 {lo hi : Nat} {σ0 : Sg} {v1 : Int32} {σ : Sg} (t : To lo hi σ0 σ) : FR (fun _ => True) (b_X11_count_55 4 v1 σ) (d_X11_count_55 v1 σ) := by
  unfold b_X11_count_55 d_X11_count_55
  refine FR_it (fun _ => ?_) (fun _ => ?_)
  · refine FR_ck (lo10 t.1) ?_
    refine FR_ck (ln10_1 t.1) ?_
    refine FR_nmR (w := 14) (lr10_1 t.1) ?_
    refine FR_ck (lo0 t.1 (by decide)) ?_
    exact FR_some trivial
  · refine FR_it (fun _ => ?_) (fun _ => ?_)
    · refine FR_ck (lo10 t.1) ?_
      exact FR_some trivial
    · refine FR_it (fun _ => ?_) (fun _ => ?_)
      · refine FR_ck (lo10 t.1) ?_
        refine FR_ck (ln10_2 t.1) ?_
        refine FR_nmR (w := 16) (lr10_2 t.1) ?_
        refine FR_ck (lo3 t.1 (by decide)) ?_
        exact FR_some trivial
      · refine FR_it (fun _ => ?_) (fun _ => ?_)
        · refine FR_ck (lo10 t.1) ?_
          exact FR_some trivial
        · exact FR_some trivial
def d_X11_count_30 (v1 : Int32) (σ : Sg) : Option Int32 :=
  if v1 < (20 : Int32) then (
    d_X11_count_55 v1 σ)
  else (
    if (24 : Int32) ≤ v1 then (
      d_X11_count_55 v1 σ)
    else (
      ck (ix (v1 - (20 : Int32)) 4) <|
      some (gI σ 13 (v1 - (20 : Int32)).toNatClampNeg)))
theorem k_b_X11_count_30 {lo hi : Nat} {σ0 : Sg} {v1 : Int32} {σ : Sg} (t : To lo hi σ0 σ) : FR (fun _ => True) (b_X11_count_30 4 v1 σ) (d_X11_count_30 v1 σ) := by
  unfold b_X11_count_30 d_X11_count_30
  refine FR_it (fun _ => ?_) (fun _ => ?_)
  · exact k_b_X11_count_55 t
  · refine FR_it (fun _ => ?_) (fun _ => ?_)
    · exact k_b_X11_count_55 t
    · refine FR_ck (lo10 t.1) ?_
      refine FR_ck (ln10_0 t.1) ?_
      refine FR_nmR (w := 5) (lr10_0 t.1) ?_
      refine FR_ck (lo7 t.1) ?_
      refine FR_ck (ln7_3 t.1) ?_
      refine FR_nmR (w := 13) (lr7_3 t.1) ?_
      refine FR_ckI (okA_iff t.1 (by decide : Ar 13 4 13)) (fun q1093 => ?_)
      exact FR_some trivial
def c_X11_count (v1 : Int32) (σ : Sg) : Option Int32 :=
  if v1 < (10 : Int32) then (
    d_X11_count_30 v1 σ)
  else (
    if ((10 : Int32) + (gI σ 4 8)) ≤ v1 then (
      d_X11_count_30 v1 σ)
    else (
      ck (ix (v1 - (10 : Int32)) 4) <|
      some (gI σ (5 * (v1 - (10 : Int32)).toNatClampNeg + 74) 4)))
theorem k_f_X11_count {lo hi : Nat} {σ0 : Sg} {v1 : Int32} {σ : Sg} (t : To lo hi σ0 σ) : FR (fun _ => True) (f_X11_count 4 v1 σ) (c_X11_count v1 σ) := by
  unfold f_X11_count c_X11_count
  refine FR_it (fun _ => ?_) (fun _ => ?_)
  · exact k_b_X11_count_30 t
  · refine FR_ck (lo10 t.1) ?_
    refine FR_it (fun _ => ?_) (fun _ => ?_)
    · exact k_b_X11_count_30 t
    · refine FR_ck (ln10_3 t.1) ?_
      refine FR_nmR (w := 18) (lr10_3 t.1) ?_
      refine FR_ckI (okA_iff t.1 (by decide : Ar 16 4 18)) (fun q1096 => ?_)
      refine FR_ck (lne16 t.1 (ixl q1096)) ?_
      have q1098 := ixl q1096
      refine FR_nmR (w := (5 * (v1 - (10 : Int32)).toNatClampNeg + 74)) (lre16 t.1 q1098) ?_
      refine FR_ck (lo5 t.1 (e5 q1098)) ?_
      exact FR_some trivial
def d_X12_clears_74 (n : Nat) (σ : Sg) : Option Sg :=
  nm (pI σ 130 27 (0 : Int32)) fun σ28 =>
  nm (pI σ28 130 28 (0 : Int32)) fun σ30 =>
  some σ30
theorem k_b_X12_clears_74 {lo hi : Nat} {σ0 : Sg} {n : Nat} {σ : Sg} (t : To lo hi σ0 σ) (w_v0 : lo ≤ 130 ∧ 168 ≤ hi) : FR (fun q => To lo hi σ0 q) (b_X12_clears_74 n 130 σ) (d_X12_clears_74 n σ) := by
  unfold b_X12_clears_74 d_X12_clears_74
  refine FR_ck (lo11 t.1) ?_
  refine FR_nmS (To_pI t (by omega)) (fun σ28 t => ?_)
  refine FR_ck (lo11 t.1) ?_
  refine FR_nmS (To_pI t (by omega)) (fun σ30 t => ?_)
  exact FR_some t
def d_X12_clears_2 : Nat → Int32 → Sg → Option Sg
  | 0, _, _ => none
  | n + 1, v1, σ =>
  if (8 : Int32) ≤ v1 then (
    d_X12_clears_74 n σ)
  else (
    ck (ix (((8 : Int32) * (gI σ 130 16)) + v1) 16) <|
    nm (pJ σ 142 (((8 : Int32) * (gI σ 130 16)) + v1).toNatClampNeg (0 : Int64)) fun σ35 =>
    ck (ix (((8 : Int32) * (gI σ35 130 16)) + v1) 16) <|
    nm (pJ σ35 143 (((8 : Int32) * (gI σ35 130 16)) + v1).toNatClampNeg (1 : Int64)) fun σ40 =>
    ck (ix (((8 : Int32) * (gI σ40 130 16)) + v1) 16) <|
    nm (pI σ40 149 (((8 : Int32) * (gI σ40 130 16)) + v1).toNatClampNeg (0 : Int32)) fun σ45 =>
    ck (ix (((8 : Int32) * (gI σ45 130 16)) + v1) 16) <|
    nm (pJ σ45 144 (((8 : Int32) * (gI σ45 130 16)) + v1).toNatClampNeg (0 : Int64)) fun σ50 =>
    nm (v1 + (1 : Int32)) fun x51 =>
    d_X12_clears_2 n x51 σ50)
theorem k_b_X12_clears_2 {lo hi : Nat} {σ0 : Sg} : ∀ {n : Nat} {v1 : Int32} {σ : Sg}, To lo hi σ0 σ → lo ≤ 130 ∧ 168 ≤ hi → FR (fun q => To lo hi σ0 q) (b_X12_clears_2 n 130 v1 σ) (d_X12_clears_2 n v1 σ) := by
  intro n
  induction n with
  | zero => intro v1 σ t w_v0; exact FR_none
  | succ n ih =>
    intro v1 σ t w_v0
    unfold b_X12_clears_2 d_X12_clears_2
    refine FR_it (fun _ => ?_) (fun _ => ?_)
    · exact k_b_X12_clears_74 t (by omega)
    · refine FR_ck (lo11 t.1) ?_
      refine FR_ck (ln11_19 t.1) ?_
      refine FR_nmR (w := 142) (lr11_19 t.1) ?_
      refine FR_ckI (okW_iff t.1 (by decide : Ar 14 16 142)) (fun q1104 => ?_)
      refine FR_nmS (To_pJ t (by omega)) (fun σ35 t => ?_)
      refine FR_ck (lo11 t.1) ?_
      refine FR_ck (ln11_20 t.1) ?_
      refine FR_nmR (w := 143) (lr11_20 t.1) ?_
      refine FR_ckI (okW_iff t.1 (by decide : Ar 14 16 143)) (fun q1107 => ?_)
      refine FR_nmS (To_pJ t (by omega)) (fun σ40 t => ?_)
      refine FR_ck (lo11 t.1) ?_
      refine FR_ck (ln11_26 t.1) ?_
      refine FR_nmR (w := 149) (lr11_26 t.1) ?_
      refine FR_ckI (okW_iff t.1 (by decide : Ar 15 16 149)) (fun q1110 => ?_)
      refine FR_nmS (To_pI t (by omega)) (fun σ45 t => ?_)
      refine FR_ck (lo11 t.1) ?_
      refine FR_ck (ln11_21 t.1) ?_
      refine FR_nmR (w := 144) (lr11_21 t.1) ?_
      refine FR_ckI (okW_iff t.1 (by decide : Ar 14 16 144)) (fun q1113 => ?_)
      refine FR_nmS (To_pJ t (by omega)) (fun σ50 t => ?_)
      refine FR_nm (fun x51 => ?_)
      exact ih t (by omega)
def c_X12_clears (n : Nat) (σ : Sg) : Option Sg :=
  d_X12_clears_2 n (0 : Int32) σ
theorem k_f_X12_clears {lo hi : Nat} {σ0 : Sg} {n : Nat} {σ : Sg} (t : To lo hi σ0 σ) (w_v0 : lo ≤ 130 ∧ 168 ≤ hi) : FR (fun q => To lo hi σ0 q) (f_X12_clears n 130 σ) (c_X12_clears n σ) := by
  unfold f_X12_clears c_X12_clears
  exact k_b_X12_clears_2 t (by omega)
def d_X12_resets_128 : Nat → Int32 → Sg → Option Sg
  | 0, _, _ => none
  | n + 1, v1, σ =>
  if (12 : Int32) ≤ v1 then (
    some σ)
  else (
    ck (ix v1 24) <|
    nm (pJ σ 145 v1.toNatClampNeg (0 : Int64)) fun σ78 =>
    nm (v1 + (1 : Int32)) fun x79 =>
    d_X12_resets_128 n x79 σ78)
theorem k_b_X12_resets_128 {lo hi : Nat} {σ0 : Sg} : ∀ {n : Nat} {v1 : Int32} {σ : Sg}, To lo hi σ0 σ → lo ≤ 130 ∧ 168 ≤ hi → FR (fun q => To lo hi σ0 q) (b_X12_resets_128 n 130 v1 σ) (d_X12_resets_128 n v1 σ) := by
  intro n
  induction n with
  | zero => intro v1 σ t w_v0; exact FR_none
  | succ n ih =>
    intro v1 σ t w_v0
    unfold b_X12_resets_128 d_X12_resets_128
    refine FR_it (fun _ => ?_) (fun _ => ?_)
    · exact FR_some t
    · refine FR_ck (lo11 t.1) ?_
      refine FR_ck (ln11_22 t.1) ?_
      refine FR_nmR (w := 145) (lr11_22 t.1) ?_
      refine FR_ckI (okW_iff t.1 (by decide : Ar 14 24 145)) (fun q1116 => ?_)
      refine FR_nmS (To_pJ t (by omega)) (fun σ78 t => ?_)
      refine FR_nm (fun x79 => ?_)
      exact ih t (by omega)
def d_X12_resets_91 (n : Nat) (σ : Sg) : Option Sg :=
  nm (pI σ 130 3 (0 : Int32)) fun σ59 =>
  nm (pI σ59 130 7 (0 : Int32)) fun σ61 =>
  nm (pI σ61 130 13 (0 : Int32)) fun σ63 =>
  nm (pI σ63 130 14 (-2 : Int32)) fun σ65 =>
  nm (pI σ65 130 15 (0 : Int32)) fun σ67 =>
  nm (pI σ67 130 16 (0 : Int32)) fun σ69 =>
  bp (c_X12_clears n σ69) fun σ72 =>
  d_X12_resets_128 n (0 : Int32) σ72
theorem k_b_X12_resets_91 {lo hi : Nat} {σ0 : Sg} {n : Nat} {σ : Sg} (t : To lo hi σ0 σ) (w_v0 : lo ≤ 130 ∧ 168 ≤ hi) : FR (fun q => To lo hi σ0 q) (b_X12_resets_91 n 130 σ) (d_X12_resets_91 n σ) := by
  unfold b_X12_resets_91 d_X12_resets_91
  refine FR_ck (lo11 t.1) ?_
  refine FR_nmS (To_pI t (by omega)) (fun σ59 t => ?_)
  refine FR_ck (lo11 t.1) ?_
  refine FR_nmS (To_pI t (by omega)) (fun σ61 t => ?_)
  refine FR_ck (lo11 t.1) ?_
  refine FR_nmS (To_pI t (by omega)) (fun σ63 t => ?_)
  refine FR_ck (lo11 t.1) ?_
  refine FR_nmS (To_pI t (by omega)) (fun σ65 t => ?_)
  refine FR_ck (lo11 t.1) ?_
  refine FR_nmS (To_pI t (by omega)) (fun σ67 t => ?_)
  refine FR_ck (lo11 t.1) ?_
  refine FR_nmS (To_pI t (by omega)) (fun σ69 t => ?_)
  refine FR_ck (lo11 t.1) ?_
  refine FR_bp (k_f_X12_clears t (by omega)) (fun σ72 t => ?_)
  exact k_b_X12_resets_128 t (by omega)
def d_X12_resets_72 : Nat → Int32 → Sg → Option Sg
  | 0, _, _ => none
  | n + 1, v1, σ =>
  if (8 : Int32) ≤ v1 then (
    d_X12_resets_91 n σ)
  else (
    ck (ix v1 16) <|
    nm (pJ σ 146 v1.toNatClampNeg (0 : Int64)) fun σ84 =>
    nm (v1 + (1 : Int32)) fun x85 =>
    d_X12_resets_72 n x85 σ84)
theorem k_b_X12_resets_72 {lo hi : Nat} {σ0 : Sg} : ∀ {n : Nat} {v1 : Int32} {σ : Sg}, To lo hi σ0 σ → lo ≤ 130 ∧ 168 ≤ hi → FR (fun q => To lo hi σ0 q) (b_X12_resets_72 n 130 v1 σ) (d_X12_resets_72 n v1 σ) := by
  intro n
  induction n with
  | zero => intro v1 σ t w_v0; exact FR_none
  | succ n ih =>
    intro v1 σ t w_v0
    unfold b_X12_resets_72 d_X12_resets_72
    refine FR_it (fun _ => ?_) (fun _ => ?_)
    · exact k_b_X12_resets_91 t (by omega)
    · refine FR_ck (lo11 t.1) ?_
      refine FR_ck (ln11_23 t.1) ?_
      refine FR_nmR (w := 146) (lr11_23 t.1) ?_
      refine FR_ckI (okW_iff t.1 (by decide : Ar 14 16 146)) (fun q1126 => ?_)
      refine FR_nmS (To_pJ t (by omega)) (fun σ84 t => ?_)
      refine FR_nm (fun x85 => ?_)
      exact ih t (by omega)
def d_X12_resets_70 (n : Nat) (σ : Sg) : Option Sg :=
  d_X12_resets_72 n (0 : Int32) σ
theorem k_b_X12_resets_70 {lo hi : Nat} {σ0 : Sg} {n : Nat} {σ : Sg} (t : To lo hi σ0 σ) (w_v0 : lo ≤ 130 ∧ 168 ≤ hi) : FR (fun q => To lo hi σ0 q) (b_X12_resets_70 n 130 σ) (d_X12_resets_70 n σ) := by
  unfold b_X12_resets_70 d_X12_resets_70
  exact k_b_X12_resets_72 t (by omega)
def d_X12_resets_30 : Nat → Int32 → Sg → Option Sg
  | 0, _, _ => none
  | n + 1, v1, σ =>
  if (4 : Int32) ≤ v1 then (
    d_X12_resets_70 n σ)
  else (
    ck (ix v1 4) <|
    nm (pI σ 134 v1.toNatClampNeg (2 : Int32)) fun σ90 =>
    ck (ix ((8 : Int32) * v1) 32) <|
    nm (pI σ90 135 ((8 : Int32) * v1).toNatClampNeg (1 : Int32)) fun σ95 =>
    ck (ix (((8 : Int32) * v1) + (1 : Int32)) 32) <|
    nm (pI σ95 135 (((8 : Int32) * v1) + (1 : Int32)).toNatClampNeg (1 : Int32)) fun σ100 =>
    nm (v1 + (1 : Int32)) fun x101 =>
    d_X12_resets_30 n x101 σ100)
theorem k_b_X12_resets_30 {lo hi : Nat} {σ0 : Sg} : ∀ {n : Nat} {v1 : Int32} {σ : Sg}, To lo hi σ0 σ → lo ≤ 130 ∧ 168 ≤ hi → FR (fun q => To lo hi σ0 q) (b_X12_resets_30 n 130 v1 σ) (d_X12_resets_30 n v1 σ) := by
  intro n
  induction n with
  | zero => intro v1 σ t w_v0; exact FR_none
  | succ n ih =>
    intro v1 σ t w_v0
    unfold b_X12_resets_30 d_X12_resets_30
    refine FR_it (fun _ => ?_) (fun _ => ?_)
    · exact k_b_X12_resets_70 t (by omega)
    · refine FR_ck (lo11 t.1) ?_
      refine FR_ck (ln11_5 t.1) ?_
      refine FR_nmR (w := 134) (lr11_5 t.1) ?_
      refine FR_ckI (okW_iff t.1 (by decide : Ar 13 4 134)) (fun q1129 => ?_)
      refine FR_nmS (To_pI t (by omega)) (fun σ90 t => ?_)
      refine FR_ck (lo11 t.1) ?_
      refine FR_ck (ln11_6 t.1) ?_
      refine FR_nmR (w := 135) (lr11_6 t.1) ?_
      refine FR_ckI (okW_iff t.1 (by decide : Ar 13 32 135)) (fun q1132 => ?_)
      refine FR_nmS (To_pI t (by omega)) (fun σ95 t => ?_)
      refine FR_ck (lo11 t.1) ?_
      refine FR_ck (ln11_6 t.1) ?_
      refine FR_nmR (w := 135) (lr11_6 t.1) ?_
      refine FR_ckI (okW_iff t.1 (by decide : Ar 13 32 135)) (fun q1135 => ?_)
      refine FR_nmS (To_pI t (by omega)) (fun σ100 t => ?_)
      refine FR_nm (fun x101 => ?_)
      exact ih t (by omega)
def d_X12_resets_28 (n : Nat) (σ : Sg) : Option Sg :=
  d_X12_resets_30 n (0 : Int32) σ
theorem k_b_X12_resets_28 {lo hi : Nat} {σ0 : Sg} {n : Nat} {σ : Sg} (t : To lo hi σ0 σ) (w_v0 : lo ≤ 130 ∧ 168 ≤ hi) : FR (fun q => To lo hi σ0 q) (b_X12_resets_28 n 130 σ) (d_X12_resets_28 n σ) := by
  unfold b_X12_resets_28 d_X12_resets_28
  exact k_b_X12_resets_30 t (by omega)
def d_X12_resets_2 : Nat → Int32 → Sg → Option Sg
  | 0, _, _ => none
  | n + 1, v1, σ =>
  if (8 : Int32) ≤ v1 then (
    d_X12_resets_28 n σ)
  else (
    ck (ix v1 8) <|
    nm (pI σ 131 v1.toNatClampNeg (0 : Int32)) fun σ106 =>
    ck (ix v1 8) <|
    nm (pI σ106 132 v1.toNatClampNeg (1 : Int32)) fun σ111 =>
    nm (v1 + (1 : Int32)) fun x112 =>
    d_X12_resets_2 n x112 σ111)
theorem k_b_X12_resets_2 {lo hi : Nat} {σ0 : Sg} : ∀ {n : Nat} {v1 : Int32} {σ : Sg}, To lo hi σ0 σ → lo ≤ 130 ∧ 168 ≤ hi → FR (fun q => To lo hi σ0 q) (b_X12_resets_2 n 130 v1 σ) (d_X12_resets_2 n v1 σ) := by
  intro n
  induction n with
  | zero => intro v1 σ t w_v0; exact FR_none
  | succ n ih =>
    intro v1 σ t w_v0
    unfold b_X12_resets_2 d_X12_resets_2
    refine FR_it (fun _ => ?_) (fun _ => ?_)
    · exact k_b_X12_resets_28 t (by omega)
    · refine FR_ck (lo11 t.1) ?_
      refine FR_ck (ln11_1 t.1) ?_
      refine FR_nmR (w := 131) (lr11_1 t.1) ?_
      refine FR_ckI (okW_iff t.1 (by decide : Ar 13 8 131)) (fun q1138 => ?_)
      refine FR_nmS (To_pI t (by omega)) (fun σ106 t => ?_)
      refine FR_ck (lo11 t.1) ?_
      refine FR_ck (ln11_2 t.1) ?_
      refine FR_nmR (w := 132) (lr11_2 t.1) ?_
      refine FR_ckI (okW_iff t.1 (by decide : Ar 13 8 132)) (fun q1141 => ?_)
      refine FR_nmS (To_pI t (by omega)) (fun σ111 t => ?_)
      refine FR_nm (fun x112 => ?_)
      exact ih t (by omega)
def c_X12_resets (n : Nat) (σ : Sg) : Option Sg :=
  d_X12_resets_2 n (0 : Int32) σ
theorem k_f_X12_resets {lo hi : Nat} {σ0 : Sg} {n : Nat} {σ : Sg} (t : To lo hi σ0 σ) (w_v0 : lo ≤ 130 ∧ 168 ≤ hi) : FR (fun q => To lo hi σ0 q) (f_X12_resets n 130 σ) (c_X12_resets n σ) := by
  unfold f_X12_resets c_X12_resets
  exact k_b_X12_resets_2 t (by omega)
def c_X12_thrown (σ : Sg) : Option Int32 :=
  some (gI σ 130 0)
theorem k_f_X12_thrown {lo hi : Nat} {σ0 : Sg} {σ : Sg} (t : To lo hi σ0 σ) : FR (fun _ => True) (f_X12_thrown 130 σ) (c_X12_thrown σ) := by
  unfold f_X12_thrown c_X12_thrown
  refine FR_ck (lo11 t.1) ?_
  exact FR_some trivial
def c_X12_refuse (v1 : Int32) (σ : Sg) : Option (Int32 × Sg) :=
  nm (pI σ 130 15 ((gI σ 130 15) + (1 : Int32))) fun σ4 =>
  some (v1, σ4)
theorem k_f_X12_refuse {lo hi : Nat} {σ0 : Sg} {v1 : Int32} {σ : Sg} (t : To lo hi σ0 σ) (w_v0 : lo ≤ 130 ∧ 168 ≤ hi) : FR (fun q => To lo hi σ0 q.2) (f_X12_refuse 130 v1 σ) (c_X12_refuse v1 σ) := by
  unfold f_X12_refuse c_X12_refuse
  refine FR_ck (lo11 t.1) ?_
  refine FR_nmS (To_pI t (by omega)) (fun σ4 t => ?_)
  exact FR_some t
def c_X12_begin (n : Nat) (σ : Sg) : Option (Int32 × Sg) :=
  bp (c_X12_resets n σ) fun σ6 =>
  some ((0 : Int32), σ6)
theorem k_f_X12_begin {lo hi : Nat} {σ0 : Sg} {n : Nat} {σ : Sg} (t : To lo hi σ0 σ) (w_v0 : lo ≤ 130 ∧ 168 ≤ hi) : FR (fun q => To lo hi σ0 q.2) (f_X12_begin n 130 σ) (c_X12_begin n σ) := by
  unfold f_X12_begin c_X12_begin
  refine FR_ck (lo11 t.1) ?_
  refine FR_bp (k_f_X12_resets t (by omega)) (fun σ6 t => ?_)
  exact FR_some t
def c_X12_rate (v1 : Int32) (v2 : Int32) (v3 : Int32) (σ : Sg) : Option (Int32 × Sg) :=
  bp (f_X12_in v1 (0 : Int32) (7 : Int32)) fun x18 =>
  if x18 = 0 then (
    some ((-1 : Int32), σ))
  else (
    bp (f_X12_in v2 (0 : Int32) (10000 : Int32)) fun x21 =>
    if x21 = 0 then (
      some ((-1 : Int32), σ))
    else (
      bp (f_X12_in v3 (1 : Int32) (1000 : Int32)) fun x24 =>
      if x24 = 0 then (
        some ((-1 : Int32), σ))
      else (
        ck (ix v1 8) <|
        nm (pI σ 131 v1.toNatClampNeg v2) fun σ30 =>
        ck (ix v1 8) <|
        nm (pI σ30 132 v1.toNatClampNeg v3) fun σ35 =>
        some ((0 : Int32), σ35))))
theorem k_f_X12_rate {lo hi : Nat} {σ0 : Sg} {v1 : Int32} {v2 : Int32} {v3 : Int32} {σ : Sg} (t : To lo hi σ0 σ) (w_v0 : lo ≤ 130 ∧ 168 ≤ hi) : FR (fun q => To lo hi σ0 q.2) (f_X12_rate 130 v1 v2 v3 σ) (c_X12_rate v1 v2 v3 σ) := by
  unfold f_X12_rate c_X12_rate
  refine FR_nmP (fun x18 => ?_)
  refine FR_it (fun _ => ?_) (fun _ => ?_)
  · exact FR_some t
  · refine FR_nmP (fun x21 => ?_)
    refine FR_it (fun _ => ?_) (fun _ => ?_)
    · exact FR_some t
    · refine FR_nmP (fun x24 => ?_)
      refine FR_it (fun _ => ?_) (fun _ => ?_)
      · exact FR_some t
      · refine FR_ck (lo11 t.1) ?_
        refine FR_ck (ln11_1 t.1) ?_
        refine FR_nmR (w := 131) (lr11_1 t.1) ?_
        refine FR_ckI (okW_iff t.1 (by decide : Ar 13 8 131)) (fun q1147 => ?_)
        refine FR_nmS (To_pI t (by omega)) (fun σ30 t => ?_)
        refine FR_ck (lo11 t.1) ?_
        refine FR_ck (ln11_2 t.1) ?_
        refine FR_nmR (w := 132) (lr11_2 t.1) ?_
        refine FR_ckI (okW_iff t.1 (by decide : Ar 13 8 132)) (fun q1150 => ?_)
        refine FR_nmS (To_pI t (by omega)) (fun σ35 t => ?_)
        exact FR_some t
def c_X12_line (v1 : Int32) (σ : Sg) : Option (Int32 × Sg) :=
  bp (f_X12_isLine (v1.toInt64)) fun x13 =>
  if x13 = 0 then (
    some ((-1 : Int32), σ))
  else (
    if (gI σ 130 3) = (12 : Int32) then (
      some ((-2 : Int32), σ))
    else (
      ck (ix (gI σ 130 3) 12) <|
      nm (pI σ 133 (gI σ 130 3).toNatClampNeg v1) fun σ20 =>
      nm (pI σ20 130 3 ((gI σ20 130 3) + (1 : Int32))) fun σ22 =>
      some (gI σ22 130 3, σ22)))
theorem k_f_X12_line {lo hi : Nat} {σ0 : Sg} {v1 : Int32} {σ : Sg} (t : To lo hi σ0 σ) (w_v0 : lo ≤ 130 ∧ 168 ≤ hi) : FR (fun q => To lo hi σ0 q.2) (f_X12_line 130 v1 σ) (c_X12_line v1 σ) := by
  unfold f_X12_line c_X12_line
  refine FR_nmP (fun x13 => ?_)
  refine FR_it (fun _ => ?_) (fun _ => ?_)
  · exact FR_some t
  · refine FR_ck (lo11 t.1) ?_
    refine FR_it (fun _ => ?_) (fun _ => ?_)
    · exact FR_some t
    · refine FR_ck (ln11_4 t.1) ?_
      refine FR_nmR (w := 133) (lr11_4 t.1) ?_
      refine FR_ckI (okW_iff t.1 (by decide : Ar 13 12 133)) (fun q1153 => ?_)
      refine FR_nmS (To_pI t (by omega)) (fun σ20 t => ?_)
      refine FR_ck (lo11 t.1) ?_
      refine FR_nmS (To_pI t (by omega)) (fun σ22 t => ?_)
      refine FR_ck (lo11 t.1) ?_
      exact FR_some t
def c_X12_bare (σ : Sg) : Option (Int32 × Sg) :=
  nm (gI σ 130 3) fun x5 =>
  nm (pI σ 130 3 (0 : Int32)) fun σ6 =>
  some (x5, σ6)
theorem k_f_X12_bare {lo hi : Nat} {σ0 : Sg} {σ : Sg} (t : To lo hi σ0 σ) (w_v0 : lo ≤ 130 ∧ 168 ≤ hi) : FR (fun q => To lo hi σ0 q.2) (f_X12_bare 130 σ) (c_X12_bare σ) := by
  unfold f_X12_bare c_X12_bare
  refine FR_ck (lo11 t.1) ?_
  refine FR_nm (fun x5 => ?_)
  refine FR_nmS (To_pI t (by omega)) (fun σ6 t => ?_)
  exact FR_some t
def c_X12_weight (v1 : Int32) (v2 : Int32) (σ : Sg) : Option (Int32 × Sg) :=
  bp (f_X12_in v1 (0 : Int32) (3 : Int32)) fun x33 =>
  if x33 = 0 then (
    some ((-1 : Int32), σ))
  else (
    bp (f_X12_in v2 (-1 : Int32) (1000 : Int32)) fun x36 =>
    if x36 = 0 then (
      some ((-1 : Int32), σ))
    else (
      if v2 = (-1 : Int32) then (
        ck (ix v1 4) <|
        nm (pI σ 134 v1.toNatClampNeg (0 : Int32)) fun σ64 =>
        some ((0 : Int32), σ64))
      else (
        ck (ix v1 4) <|
        if (gI σ 134 v1.toNatClampNeg) = (8 : Int32) then (
          some ((-2 : Int32), σ))
        else (
          ck (ix v1 4) <|
          ck (ix (((8 : Int32) * v1) + (gI σ 134 v1.toNatClampNeg)) 32) <|
          nm (pI σ 135 (((8 : Int32) * v1) + (gI σ 134 v1.toNatClampNeg)).toNatClampNeg v2) fun σ49 =>
          ck (ix v1 4) <|
          ck (ix v1 4) <|
          nm (pI σ49 134 v1.toNatClampNeg ((gI σ49 134 v1.toNatClampNeg) + (1 : Int32))) fun σ55 =>
          ck (ix v1 4) <|
          some (gI σ55 134 v1.toNatClampNeg, σ55)))))
theorem k_f_X12_weight {lo hi : Nat} {σ0 : Sg} {v1 : Int32} {v2 : Int32} {σ : Sg} (t : To lo hi σ0 σ) (w_v0 : lo ≤ 130 ∧ 168 ≤ hi) : FR (fun q => To lo hi σ0 q.2) (f_X12_weight 130 v1 v2 σ) (c_X12_weight v1 v2 σ) := by
  unfold f_X12_weight c_X12_weight
  refine FR_nmP (fun x33 => ?_)
  refine FR_it (fun _ => ?_) (fun _ => ?_)
  · exact FR_some t
  · refine FR_nmP (fun x36 => ?_)
    refine FR_it (fun _ => ?_) (fun _ => ?_)
    · exact FR_some t
    · refine FR_it (fun _ => ?_) (fun _ => ?_)
      · refine FR_ck (lo11 t.1) ?_
        refine FR_ck (ln11_5 t.1) ?_
        refine FR_nmR (w := 134) (lr11_5 t.1) ?_
        refine FR_ckI (okW_iff t.1 (by decide : Ar 13 4 134)) (fun q1159 => ?_)
        refine FR_nmS (To_pI t (by omega)) (fun σ64 t => ?_)
        exact FR_some t
      · refine FR_ck (lo11 t.1) ?_
        refine FR_ck (ln11_5 t.1) ?_
        refine FR_nmR (w := 134) (lr11_5 t.1) ?_
        refine FR_ckI (okA_iff t.1 (by decide : Ar 13 4 134)) (fun q1162 => ?_)
        refine FR_it (fun _ => ?_) (fun _ => ?_)
        · exact FR_some t
        · refine FR_ck (ln11_6 t.1) ?_
          refine FR_nmR (w := 135) (lr11_6 t.1) ?_
          refine FR_nmR (w := 134) (lr11_5 t.1) ?_
          refine FR_ckI (okA_iff t.1 (by decide : Ar 13 4 134)) (fun q1164 => ?_)
          refine FR_ckI (okW_iff t.1 (by decide : Ar 13 32 135)) (fun q1165 => ?_)
          refine FR_nmS (To_pI t (by omega)) (fun σ49 t => ?_)
          refine FR_ck (lo11 t.1) ?_
          refine FR_ck (ln11_5 t.1) ?_
          refine FR_nmR (w := 134) (lr11_5 t.1) ?_
          refine FR_ckI (okA_iff t.1 (by decide : Ar 13 4 134)) (fun q1168 => ?_)
          refine FR_ckI (okW_iff t.1 (by decide : Ar 13 4 134)) (fun q1169 => ?_)
          refine FR_nmS (To_pI t (by omega)) (fun σ55 t => ?_)
          refine FR_ck (lo11 t.1) ?_
          refine FR_ck (ln11_5 t.1) ?_
          refine FR_nmR (w := 134) (lr11_5 t.1) ?_
          refine FR_ckI (okA_iff t.1 (by decide : Ar 13 4 134)) (fun q1172 => ?_)
          exact FR_some t
def c_X12_program (σ : Sg) : Option (Int32 × Sg) :=
  if (gI σ 130 7) = (4 : Int32) then (
    some ((-2 : Int32), σ))
  else (
    ck (ix (gI σ 130 7) 4) <|
    nm (pI σ 136 (gI σ 130 7).toNatClampNeg (0 : Int32)) fun σ25 =>
    ck (ix (gI σ25 130 7) 8) <|
    nm (pJ σ25 147 (gI σ25 130 7).toNatClampNeg (0 : Int64)) fun σ30 =>
    ck (ix (gI σ30 130 7) 8) <|
    nm (pJ σ30 148 (gI σ30 130 7).toNatClampNeg (1 : Int64)) fun σ35 =>
    nm (pI σ35 130 7 ((gI σ35 130 7) + (1 : Int32))) fun σ37 =>
    some ((gI σ37 130 7) - (1 : Int32), σ37))
theorem k_f_X12_program {lo hi : Nat} {σ0 : Sg} {σ : Sg} (t : To lo hi σ0 σ) (w_v0 : lo ≤ 130 ∧ 168 ≤ hi) : FR (fun q => To lo hi σ0 q.2) (f_X12_program 130 σ) (c_X12_program σ) := by
  unfold f_X12_program c_X12_program
  refine FR_ck (lo11 t.1) ?_
  refine FR_it (fun _ => ?_) (fun _ => ?_)
  · exact FR_some t
  · refine FR_ck (ln11_8 t.1) ?_
    refine FR_nmR (w := 136) (lr11_8 t.1) ?_
    refine FR_ckI (okW_iff t.1 (by decide : Ar 13 4 136)) (fun q1175 => ?_)
    refine FR_nmS (To_pI t (by omega)) (fun σ25 t => ?_)
    refine FR_ck (lo11 t.1) ?_
    refine FR_ck (ln11_24 t.1) ?_
    refine FR_nmR (w := 147) (lr11_24 t.1) ?_
    refine FR_ckI (okW_iff t.1 (by decide : Ar 14 8 147)) (fun q1178 => ?_)
    refine FR_nmS (To_pJ t (by omega)) (fun σ30 t => ?_)
    refine FR_ck (lo11 t.1) ?_
    refine FR_ck (ln11_25 t.1) ?_
    refine FR_nmR (w := 148) (lr11_25 t.1) ?_
    refine FR_ckI (okW_iff t.1 (by decide : Ar 14 8 148)) (fun q1181 => ?_)
    refine FR_nmS (To_pJ t (by omega)) (fun σ35 t => ?_)
    refine FR_ck (lo11 t.1) ?_
    refine FR_nmS (To_pI t (by omega)) (fun σ37 t => ?_)
    refine FR_ck (lo11 t.1) ?_
    exact FR_some t
def c_X12_isProgram (v1 : Int32) (σ : Sg) : Option Int32 :=
  bp (f_X12_in v1 (0 : Int32) ((gI σ 130 7) - (1 : Int32))) fun x6 =>
  ck (x6 = 0 ∨ x6 = 1) <|
  some x6
theorem k_f_X12_isProgram {lo hi : Nat} {σ0 : Sg} {v1 : Int32} {σ : Sg} (t : To lo hi σ0 σ) : FR (fun _ => True) (f_X12_isProgram 130 v1 σ) (c_X12_isProgram v1 σ) := by
  unfold f_X12_isProgram c_X12_isProgram
  refine FR_ck (lo11 t.1) ?_
  refine FR_nmP (fun x6 => ?_)
  refine FR_ckI Iff.rfl (fun q1185 => ?_)
  exact FR_some trivial
def c_X12_act (v1 : Int32) (v2 : Int32) (v3 : Int32) (v4 : Int32) (v5 : Int32) (σ : Sg) : Option (Int32 × Sg) :=
  bp (c_X12_isProgram v1 σ) fun x50 =>
  if x50 = 0 then (
    some ((-1 : Int32), σ))
  else (
    bp (f_X12_in v2 (0 : Int32) (12 : Int32)) fun x53 =>
    if x53 = 0 then (
      some ((-1 : Int32), σ))
    else (
      bp (f_X12_in v3 (0 : Int32) (7 : Int32)) fun x56 =>
      if x56 = 0 then (
        some ((-1 : Int32), σ))
      else (
        bp (f_X12_fits v2 v4 v5) fun x59 =>
        if x59 = 0 then (
          some ((-1 : Int32), σ))
        else (
          ck (ix v1 4) <|
          if (gI σ 136 v1.toNatClampNeg) = (20 : Int32) then (
            some ((-2 : Int32), σ))
          else (
            ck (ix v1 4) <|
            nm (((20 : Int32) * v1) + (gI σ 136 v1.toNatClampNeg)) fun x67 =>
            ck (ix x67 80) <|
            nm (pI σ 137 x67.toNatClampNeg v2) fun σ71 =>
            ck (ix x67 80) <|
            nm (pI σ71 138 x67.toNatClampNeg v3) fun σ76 =>
            ck (ix x67 80) <|
            nm (pI σ76 139 x67.toNatClampNeg v4) fun σ81 =>
            ck (ix x67 80) <|
            nm (pI σ81 140 x67.toNatClampNeg v5) fun σ86 =>
            ck (ix v1 4) <|
            ck (ix v1 4) <|
            nm (pI σ86 136 v1.toNatClampNeg ((gI σ86 136 v1.toNatClampNeg) + (1 : Int32))) fun σ92 =>
            ck (ix v1 4) <|
            some (gI σ92 136 v1.toNatClampNeg, σ92))))))
theorem k_f_X12_act {lo hi : Nat} {σ0 : Sg} {v1 : Int32} {v2 : Int32} {v3 : Int32} {v4 : Int32} {v5 : Int32} {σ : Sg} (t : To lo hi σ0 σ) (w_v0 : lo ≤ 130 ∧ 168 ≤ hi) : FR (fun q => To lo hi σ0 q.2) (f_X12_act 130 v1 v2 v3 v4 v5 σ) (c_X12_act v1 v2 v3 v4 v5 σ) := by
  unfold f_X12_act c_X12_act
  refine FR_ck (lo11 t.1) ?_
  refine FR_bpP (k_f_X12_isProgram t).1 (fun x50 => ?_)
  refine FR_it (fun _ => ?_) (fun _ => ?_)
  · exact FR_some t
  · refine FR_nmP (fun x53 => ?_)
    refine FR_it (fun _ => ?_) (fun _ => ?_)
    · exact FR_some t
    · refine FR_nmP (fun x56 => ?_)
      refine FR_it (fun _ => ?_) (fun _ => ?_)
      · exact FR_some t
      · refine FR_nmP (fun x59 => ?_)
        refine FR_it (fun _ => ?_) (fun _ => ?_)
        · exact FR_some t
        · refine FR_ck (ln11_8 t.1) ?_
          refine FR_nmR (w := 136) (lr11_8 t.1) ?_
          refine FR_ckI (okA_iff t.1 (by decide : Ar 13 4 136)) (fun q1188 => ?_)
          refine FR_it (fun _ => ?_) (fun _ => ?_)
          · exact FR_some t
          · refine FR_nmR (w := 136) (lr11_8 t.1) ?_
            refine FR_ckI (okA_iff t.1 (by decide : Ar 13 4 136)) (fun q1189 => ?_)
            refine FR_nm (fun x67 => ?_)
            refine FR_ck (ln11_9 t.1) ?_
            refine FR_nmR (w := 137) (lr11_9 t.1) ?_
            refine FR_ckI (okW_iff t.1 (by decide : Ar 13 80 137)) (fun q1191 => ?_)
            refine FR_nmS (To_pI t (by omega)) (fun σ71 t => ?_)
            refine FR_ck (lo11 t.1) ?_
            refine FR_ck (ln11_10 t.1) ?_
            refine FR_nmR (w := 138) (lr11_10 t.1) ?_
            refine FR_ckI (okW_iff t.1 (by decide : Ar 13 80 138)) (fun q1194 => ?_)
            refine FR_nmS (To_pI t (by omega)) (fun σ76 t => ?_)
            refine FR_ck (lo11 t.1) ?_
            refine FR_ck (ln11_11 t.1) ?_
            refine FR_nmR (w := 139) (lr11_11 t.1) ?_
            refine FR_ckI (okW_iff t.1 (by decide : Ar 13 80 139)) (fun q1197 => ?_)
            refine FR_nmS (To_pI t (by omega)) (fun σ81 t => ?_)
            refine FR_ck (lo11 t.1) ?_
            refine FR_ck (ln11_12 t.1) ?_
            refine FR_nmR (w := 140) (lr11_12 t.1) ?_
            refine FR_ckI (okW_iff t.1 (by decide : Ar 13 80 140)) (fun q1200 => ?_)
            refine FR_nmS (To_pI t (by omega)) (fun σ86 t => ?_)
            refine FR_ck (lo11 t.1) ?_
            refine FR_ck (ln11_8 t.1) ?_
            refine FR_nmR (w := 136) (lr11_8 t.1) ?_
            refine FR_ckI (okA_iff t.1 (by decide : Ar 13 4 136)) (fun q1203 => ?_)
            refine FR_ckI (okW_iff t.1 (by decide : Ar 13 4 136)) (fun q1204 => ?_)
            refine FR_nmS (To_pI t (by omega)) (fun σ92 t => ?_)
            refine FR_ck (lo11 t.1) ?_
            refine FR_ck (ln11_8 t.1) ?_
            refine FR_nmR (w := 136) (lr11_8 t.1) ?_
            refine FR_ckI (okA_iff t.1 (by decide : Ar 13 4 136)) (fun q1207 => ?_)
            exact FR_some t
def d_X12_isAct_28 (σ : Sg) : Option Int32 :=
  some (0 : Int32)
theorem k_b_X12_isAct_28 {lo hi : Nat} {σ0 : Sg} {σ : Sg} (t : To lo hi σ0 σ) : FR (fun _ => True) (b_X12_isAct_28 σ) (d_X12_isAct_28 σ) := by
  unfold b_X12_isAct_28 d_X12_isAct_28
  exact FR_some trivial
def c_X12_isAct (v1 : Int32) (v2 : Int32) (σ : Sg) : Option Int32 :=
  bp (c_X12_isProgram v1 σ) fun x12 =>
  if x12 = 0 then (
    d_X12_isAct_28 σ)
  else (
    ck (ix v1 4) <|
    bp (f_X12_in v2 (0 : Int32) ((gI σ 136 v1.toNatClampNeg) - (1 : Int32))) fun x18 =>
    if x18 = 0 then (
      d_X12_isAct_28 σ)
    else (
      some (1 : Int32)))
theorem k_f_X12_isAct {lo hi : Nat} {σ0 : Sg} {v1 : Int32} {v2 : Int32} {σ : Sg} (t : To lo hi σ0 σ) : FR (fun _ => True) (f_X12_isAct 130 v1 v2 σ) (c_X12_isAct v1 v2 σ) := by
  unfold f_X12_isAct c_X12_isAct
  refine FR_ck (lo11 t.1) ?_
  refine FR_bpP (k_f_X12_isProgram t).1 (fun x12 => ?_)
  refine FR_it (fun _ => ?_) (fun _ => ?_)
  · exact k_b_X12_isAct_28 t
  · refine FR_ck (ln11_8 t.1) ?_
    refine FR_nmR (w := 136) (lr11_8 t.1) ?_
    refine FR_ckI (okA_iff t.1 (by decide : Ar 13 4 136)) (fun q1210 => ?_)
    refine FR_nmP (fun x18 => ?_)
    refine FR_it (fun _ => ?_) (fun _ => ?_)
    · exact k_b_X12_isAct_28 t
    · exact FR_some trivial
def c_X12_set (v1 : Int32) (v2 : Int32) (v3 : Int32) (v4 : Int32) (σ : Sg) : Option (Int32 × Sg) :=
  bp (c_X12_isAct v1 v2 σ) fun x22 =>
  if x22 = 0 then (
    some ((-1 : Int32), σ))
  else (
    ck (ix (((20 : Int32) * v1) + v2) 80) <|
    bp (f_X12_fits (gI σ 137 (((20 : Int32) * v1) + v2).toNatClampNeg) v3 v4) fun x28 =>
    if x28 = 0 then (
      some ((-1 : Int32), σ))
    else (
      ck (ix (((20 : Int32) * v1) + v2) 80) <|
      nm (pI σ 139 (((20 : Int32) * v1) + v2).toNatClampNeg v3) fun σ33 =>
      ck (ix (((20 : Int32) * v1) + v2) 80) <|
      nm (pI σ33 140 (((20 : Int32) * v1) + v2).toNatClampNeg v4) fun σ38 =>
      some ((0 : Int32), σ38)))
theorem k_f_X12_set {lo hi : Nat} {σ0 : Sg} {v1 : Int32} {v2 : Int32} {v3 : Int32} {v4 : Int32} {σ : Sg} (t : To lo hi σ0 σ) (w_v0 : lo ≤ 130 ∧ 168 ≤ hi) : FR (fun q => To lo hi σ0 q.2) (f_X12_set 130 v1 v2 v3 v4 σ) (c_X12_set v1 v2 v3 v4 σ) := by
  unfold f_X12_set c_X12_set
  refine FR_ck (lo11 t.1) ?_
  refine FR_bpP (k_f_X12_isAct t).1 (fun x22 => ?_)
  refine FR_it (fun _ => ?_) (fun _ => ?_)
  · exact FR_some t
  · refine FR_ck (ln11_9 t.1) ?_
    refine FR_nmR (w := 137) (lr11_9 t.1) ?_
    refine FR_ckI (okA_iff t.1 (by decide : Ar 13 80 137)) (fun q1213 => ?_)
    refine FR_nmP (fun x28 => ?_)
    refine FR_it (fun _ => ?_) (fun _ => ?_)
    · exact FR_some t
    · refine FR_ck (ln11_11 t.1) ?_
      refine FR_nmR (w := 139) (lr11_11 t.1) ?_
      refine FR_ckI (okW_iff t.1 (by decide : Ar 13 80 139)) (fun q1215 => ?_)
      refine FR_nmS (To_pI t (by omega)) (fun σ33 t => ?_)
      refine FR_ck (lo11 t.1) ?_
      refine FR_ck (ln11_12 t.1) ?_
      refine FR_nmR (w := 140) (lr11_12 t.1) ?_
      refine FR_ckI (okW_iff t.1 (by decide : Ar 13 80 140)) (fun q1218 => ?_)
      refine FR_nmS (To_pI t (by omega)) (fun σ38 t => ?_)
      exact FR_some t
