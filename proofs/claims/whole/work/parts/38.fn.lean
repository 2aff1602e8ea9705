def b_X12_least_39 (n : Nat) (v0 : Nat) (v1 : Int32) (v2 : Int32) (v3 : Int32) (v4 : Int32) (v5 : Int32) (σ : Sg) : Option (Int32 × Sg) :=
  bp (f_X12_isSpan v4 v5 (2000 : Int32)) fun x25 =>
  if x25 = 0 then (
    some ((-1 : Int32), σ))
  else (
    ck (okO σ v0 11) <|
    bd (f_X12_leastOf n v0 v1 v2 v3 v4 v5 σ) fun x30 σ29 =>
    some (x30, σ29))
set_option maxRecDepth 20000 in
theorem tb_X12_least_39 {G : Gl} {xr : Int32} {σr : Sg} (n : Nat) (v0 : Nat) (v1 : Int32) (v2 : Int32) (v3 : Int32) (v4 : Int32) (v5 : Int32) (σ : Sg) (h : b_X12_least_39 n v0 v1 v2 v3 v4 v5 σ = some (xr, σr)) : RN G M_X12_least 39 [some (.ref v0), some (.int v1), some (.int v2), some (.int v3), some (.int v4), some (.int v5)] [] σ (.inl (some (.int xr))) σr := by
  unfold b_X12_least_39 at h
  refine RN_iload (pc := 39) (i := 4) (by decide +kernel) rfl ?_
  refine RN_iload (pc := 41) (i := 5) (by decide +kernel) rfl ?_
  refine RN_sipush (pc := 43) (n := 2000) (v := 2000) (by decide +kernel) (by decide) ?_
  obtain ⟨x25, f24, h⟩ := bp_el h
  refine RN_callS (M := M_X12_least) (pc := 46) (idx := 354) (as := [.int v4, .int v5, .int (2000 : Int32)]) (st := []) (t_X12_isSpan f24) (by decide +kernel) lk_RX12_354 rfl (Nat.le_of_ble_eq_true rfl) ⟨Nat.le_of_ble_eq_true rfl, Nat.le_of_ble_eq_true rfl⟩ rfl ?_
  show RN G M_X12_least 49 [some (.ref v0), some (.int v1), some (.int v2), some (.int v3), some (.int v4), some (.int v5)] [.int x25] σ _ _
  refine RN_if_ne (pc := 49) (off := 5) (tgt := 54) (by decide +kernel) (by decide) (fun c26 => ?_) (fun c26 => ?_)
  · replace h := it_f c26 h
    refine RN_aload_n (pc := 54) (k := 0) (by decide +kernel) rfl rfl ?_
    refine RN_iload_n (pc := 55) (k := 1) (by decide +kernel) rfl rfl ?_
    refine RN_iload_n (pc := 56) (k := 2) (by decide +kernel) rfl rfl ?_
    refine RN_iload_n (pc := 57) (k := 3) (by decide +kernel) rfl rfl ?_
    refine RN_iload (pc := 58) (i := 4) (by decide +kernel) rfl ?_
    refine RN_iload (pc := 60) (i := 5) (by decide +kernel) rfl ?_
    obtain ⟨c27, h⟩ := ck_el h
    obtain ⟨x30, σ29, f28, h⟩ := bd_el h
    refine RN_callV (M := M_X12_least) (pc := 62) (idx := 357) (as := [.int v1, .int v2, .int v3, .int v4, .int v5]) (st := []) (t_X12_leastOf f28) (by decide +kernel) lk_RX12_357 rfl ⟨by decide, fun q hq => by cases hq; rfl⟩ c27 (Nat.le_of_ble_eq_true rfl) ⟨Nat.le_of_ble_eq_true rfl, Nat.le_of_ble_eq_true rfl⟩ rfl ?_
    show RN G M_X12_least 65 [some (.ref v0), some (.int v1), some (.int v2), some (.int v3), some (.int v4), some (.int v5)] [.int x30] σ29 _ _
    obtain ⟨rfl, rfl⟩ := some_el2 h
    exact RN_ireturn (by decide +kernel) rfl
  · replace h := it_t c26 h
    refine RN_iconst (pc := 52) (n := -1) (v := -1) (by decide +kernel) (by decide) ?_
    obtain ⟨rfl, rfl⟩ := some_el2 h
    exact RN_ireturn (by decide +kernel) rfl
def f_X12_least (n : Nat) (v0 : Nat) (v1 : Int32) (v2 : Int32) (v3 : Int32) (v4 : Int32) (v5 : Int32) (σ : Sg) : Option (Int32 × Sg) :=
  ck (okO σ v0 11) <|
  bp (f_X12_isProgram v0 v1 σ) fun x17 =>
  if x17 = 0 then (
    some ((-1 : Int32), σ))
  else (
    bp (f_X12_in v2 (0 : Int32) (6 : Int32)) fun x20 =>
    if x20 = 0 then (
      some ((-1 : Int32), σ))
    else (
      if v2 = (2 : Int32) then (
        bp (f_X12_isProgram v0 v3 σ) fun x32 =>
        if x32 = 0 then (
          some ((-1 : Int32), σ))
        else (
          b_X12_least_39 n v0 v1 v2 v3 v4 v5 σ))
      else (
        if v3 = (-1 : Int32) then (
          b_X12_least_39 n v0 v1 v2 v3 v4 v5 σ)
        else (
          some ((-1 : Int32), σ)))))
set_option maxRecDepth 20000 in
theorem t_X12_least {G : Gl} {xr : Int32} {σr : Sg} {n : Nat} {v0 : Nat} {v1 : Int32} {v2 : Int32} {v3 : Int32} {v4 : Int32} {v5 : Int32} {σ : Sg} (h : f_X12_least n v0 v1 v2 v3 v4 v5 σ = some (xr, σr)) : MT G M_X12_least [.ref v0, .int v1, .int v2, .int v3, .int v4, .int v5] σ (some (.int xr)) σr := by
  refine MT_of rfl rfl (Nat.le_of_ble_eq_true rfl) ?_
  show RN G M_X12_least 0 [some (.ref v0), some (.int v1), some (.int v2), some (.int v3), some (.int v4), some (.int v5)] [] σ (.inl (some (.int xr))) σr
  unfold f_X12_least at h
  refine RN_aload_n (pc := 0) (k := 0) (by decide +kernel) rfl rfl ?_
  refine RN_iload_n (pc := 1) (k := 1) (by decide +kernel) rfl rfl ?_
  obtain ⟨c15, h⟩ := ck_el h
  obtain ⟨x17, f16, h⟩ := bp_el h
  refine RN_callV (M := M_X12_least) (pc := 2) (idx := 172) (as := [.int v1]) (st := []) (t_X12_isProgram f16) (by decide +kernel) lk_RX12_172 rfl ⟨by decide, fun q hq => by cases hq; rfl⟩ c15 (Nat.le_of_ble_eq_true rfl) ⟨Nat.le_of_ble_eq_true rfl, Nat.le_of_ble_eq_true rfl⟩ rfl ?_
  show RN G M_X12_least 5 [some (.ref v0), some (.int v1), some (.int v2), some (.int v3), some (.int v4), some (.int v5)] [.int x17] σ _ _
  refine RN_if_eq (pc := 5) (off := 47) (tgt := 52) (by decide +kernel) (by decide) (fun c18 => ?_) (fun c18 => ?_)
  · replace h := it_t c18 h
    refine RN_iconst (pc := 52) (n := -1) (v := -1) (by decide +kernel) (by decide) ?_
    obtain ⟨rfl, rfl⟩ := some_el2 h
    exact RN_ireturn (by decide +kernel) rfl
  · replace h := it_f c18 h
    refine RN_iload_n (pc := 8) (k := 2) (by decide +kernel) rfl rfl ?_
    refine RN_iconst (pc := 9) (n := 0) (v := 0) (by decide +kernel) (by decide) ?_
    refine RN_bipush (pc := 10) (n := 6) (v := 6) (by decide +kernel) (by decide) ?_
    obtain ⟨x20, f19, h⟩ := bp_el h
    refine RN_callS (M := M_X12_least) (pc := 12) (idx := 159) (as := [.int v2, .int (0 : Int32), .int (6 : Int32)]) (st := []) (t_X12_in f19) (by decide +kernel) lk_RX12_159 rfl (Nat.le_of_ble_eq_true rfl) ⟨Nat.le_of_ble_eq_true rfl, Nat.le_of_ble_eq_true rfl⟩ rfl ?_
    show RN G M_X12_least 15 [some (.ref v0), some (.int v1), some (.int v2), some (.int v3), some (.int v4), some (.int v5)] [.int x20] σ _ _
    refine RN_if_eq (pc := 15) (off := 37) (tgt := 52) (by decide +kernel) (by decide) (fun c21 => ?_) (fun c21 => ?_)
    · replace h := it_t c21 h
      refine RN_iconst (pc := 52) (n := -1) (v := -1) (by decide +kernel) (by decide) ?_
      obtain ⟨rfl, rfl⟩ := some_el2 h
      exact RN_ireturn (by decide +kernel) rfl
    · replace h := it_f c21 h
      refine RN_iload_n (pc := 18) (k := 2) (by decide +kernel) rfl rfl ?_
      refine RN_iconst (pc := 19) (n := 2) (v := 2) (by decide +kernel) (by decide) ?_
      refine RN_icmp_ne (pc := 20) (off := 14) (tgt := 34) (by decide +kernel) (by decide) (fun c22 => ?_) (fun c22 => ?_)
      · replace h := it_f c22 h
        refine RN_iload_n (pc := 34) (k := 3) (by decide +kernel) rfl rfl ?_
        refine RN_iconst (pc := 35) (n := -1) (v := -1) (by decide +kernel) (by decide) ?_
        refine RN_icmp_ne (pc := 36) (off := 16) (tgt := 52) (by decide +kernel) (by decide) (fun c23 => ?_) (fun c23 => ?_)
        · replace h := it_f c23 h
          refine RN_iconst (pc := 52) (n := -1) (v := -1) (by decide +kernel) (by decide) ?_
          obtain ⟨rfl, rfl⟩ := some_el2 h
          exact RN_ireturn (by decide +kernel) rfl
        · replace h := it_t c23 h
          exact RN_weak (l := [some (.ref v0), some (.int v1), some (.int v2), some (.int v3), some (.int v4), some (.int v5)]) (And.intro rfl (And.intro rfl (And.intro rfl (And.intro rfl (And.intro rfl (And.intro rfl trivial)))))) (tb_X12_least_39 n v0 v1 v2 v3 v4 v5 σ h)
      · replace h := it_t c22 h
        refine RN_aload_n (pc := 23) (k := 0) (by decide +kernel) rfl rfl ?_
        refine RN_iload_n (pc := 24) (k := 3) (by decide +kernel) rfl rfl ?_
        obtain ⟨x32, f31, h⟩ := bp_el h
        refine RN_callV (M := M_X12_least) (pc := 25) (idx := 172) (as := [.int v3]) (st := []) (t_X12_isProgram f31) (by decide +kernel) lk_RX12_172 rfl ⟨by decide, fun q hq => by cases hq; rfl⟩ c15 (Nat.le_of_ble_eq_true rfl) ⟨Nat.le_of_ble_eq_true rfl, Nat.le_of_ble_eq_true rfl⟩ rfl ?_
        show RN G M_X12_least 28 [some (.ref v0), some (.int v1), some (.int v2), some (.int v3), some (.int v4), some (.int v5)] [.int x32] σ _ _
        refine RN_if_ne (pc := 28) (off := 11) (tgt := 39) (by decide +kernel) (by decide) (fun c33 => ?_) (fun c33 => ?_)
        · replace h := it_f c33 h
          exact RN_weak (l := [some (.ref v0), some (.int v1), some (.int v2), some (.int v3), some (.int v4), some (.int v5)]) (And.intro rfl (And.intro rfl (And.intro rfl (And.intro rfl (And.intro rfl (And.intro rfl trivial)))))) (tb_X12_least_39 n v0 v1 v2 v3 v4 v5 σ h)
        · replace h := it_t c33 h
          refine RN_goto (pc := 31) (off := 21) (tgt := 52) (by decide +kernel) (by decide) ?_
          refine RN_iconst (pc := 52) (n := -1) (v := -1) (by decide +kernel) (by decide) ?_
          obtain ⟨rfl, rfl⟩ := some_el2 h
          exact RN_ireturn (by decide +kernel) rfl
def b_X12_steps_107 : Nat → Nat → Int32 → Int32 → Sg → Option (Int32 × Sg)
  | 0, _, _, _, _ => none
  | n + 1, v0, v4, v5, σ =>
  if v5 ≤ v4 then (
    some ((1 : Int32), σ))
  else (
    ck (okO σ v0 11) <|
    ck (¬ gR σ v0 46 = 0) <|
    nm (gR σ v0 46) fun r88 =>
    ck (okA σ r88 13 v4) <|
    nm (gI σ r88 v4.toNatClampNeg) fun x90 =>
    nm (gR σ v0 46) fun r91 =>
    nm (gR σ v0 46) fun r92 =>
    ck (okA σ r92 13 v5) <|
    ck (okW σ r91 13 v4) <|
    nm (pI σ r91 v4.toNatClampNeg (gI σ r92 v5.toNatClampNeg)) fun σ95 =>
    ck (okO σ95 v0 11) <|
    ck (¬ gR σ95 v0 46 = 0) <|
    nm (gR σ95 v0 46) fun r98 =>
    ck (okW σ95 r98 13 v5) <|
    nm (pI σ95 r98 v5.toNatClampNeg x90) fun σ100 =>
    nm (v4 + (1 : Int32)) fun x101 =>
    nm (v5 + ((-1) : Int32)) fun x102 =>
    b_X12_steps_107 n v0 x101 x102 σ100)
set_option maxRecDepth 20000 in
theorem tb_X12_steps_107 {G : Gl} {xr : Int32} {σr : Sg} (v0 : Nat) : ∀ (n : Nat) (v4 : Int32) (v5 : Int32) (σ : Sg), b_X12_steps_107 n v0 v4 v5 σ = some (xr, σr) → RN G M_X12_steps 107 [some (.ref v0), none, none, none, some (.int v4), some (.int v5)] [] σ (.inl (some (.int xr))) σr := by
  intro n
  induction n with
  | zero =>
    intro v4 v5 σ h
    exact none_el h
  | succ n ih =>
    intro v4 v5 σ h
    rw [b_X12_steps_107] at h
    refine RN_iload (pc := 107) (i := 4) (by decide +kernel) rfl ?_
    refine RN_iload (pc := 109) (i := 5) (by decide +kernel) rfl ?_
    refine RN_icmp_ge (pc := 111) (off := 42) (tgt := 153) (by decide +kernel) (by decide) (fun c85 => ?_) (fun c85 => ?_)
    · replace h := it_t c85 h
      refine RN_iconst (pc := 153) (n := 1) (v := 1) (by decide +kernel) (by decide) ?_
      obtain ⟨rfl, rfl⟩ := some_el2 h
      exact RN_zreturn (by decide +kernel) rfl (Or.inr rfl)
    · replace h := it_f c85 h
      refine RN_aload_n (pc := 114) (k := 0) (by decide +kernel) rfl rfl ?_
      obtain ⟨c86, h⟩ := ck_el h
      obtain ⟨c87, h⟩ := ck_el h
      refine RN_getR (pc := 115) (idx := 110) (ci := 11) (k := 46) (by decide +kernel) lf_RX12_110 rfl c86 c87 ?_
      obtain ⟨r88, er88, h⟩ := nm_el h
      refine RN_nmR er88 ?_
      refine RN_iload (pc := 118) (i := 4) (by decide +kernel) rfl ?_
      obtain ⟨c89, h⟩ := ck_el h
      refine RN_iald (pc := 120) (by decide +kernel) c89 ?_
      obtain ⟨x90, ex90, h⟩ := nm_el h
      refine RN_nmI ex90 ?_
      refine RN_istore_n (pc := 121) (k := 3) (ls2 := [some (.ref v0), none, none, some (.int x90), some (.int v4), some (.int v5)]) (by decide +kernel) rfl (by decide) rfl ?_
      refine RN_aload_n (pc := 122) (k := 0) (by decide +kernel) rfl rfl ?_
      refine RN_getR (pc := 123) (idx := 110) (ci := 11) (k := 46) (by decide +kernel) lf_RX12_110 rfl c86 c87 ?_
      obtain ⟨r91, er91, h⟩ := nm_el h
      refine RN_nmR er91 ?_
      refine RN_iload (pc := 126) (i := 4) (by decide +kernel) rfl ?_
      refine RN_aload_n (pc := 128) (k := 0) (by decide +kernel) rfl rfl ?_
      refine RN_getR (pc := 129) (idx := 110) (ci := 11) (k := 46) (by decide +kernel) lf_RX12_110 rfl c86 c87 ?_
      obtain ⟨r92, er92, h⟩ := nm_el h
      refine RN_nmR er92 ?_
      refine RN_iload (pc := 132) (i := 5) (by decide +kernel) rfl ?_
      obtain ⟨c93, h⟩ := ck_el h
      refine RN_iald (pc := 134) (by decide +kernel) c93 ?_
      obtain ⟨c94, h⟩ := ck_el h
      refine RN_iast (pc := 135) (by decide +kernel) c94 ?_
      obtain ⟨σ95, eσ95, h⟩ := nm_el h
      refine RN_nmS eσ95 ?_
      refine RN_aload_n (pc := 136) (k := 0) (by decide +kernel) rfl rfl ?_
      obtain ⟨c96, h⟩ := ck_el h
      obtain ⟨c97, h⟩ := ck_el h
      refine RN_getR (pc := 137) (idx := 110) (ci := 11) (k := 46) (by decide +kernel) lf_RX12_110 rfl c96 c97 ?_
      obtain ⟨r98, er98, h⟩ := nm_el h
      refine RN_nmR er98 ?_
      refine RN_iload (pc := 140) (i := 5) (by decide +kernel) rfl ?_
      refine RN_iload_n (pc := 142) (k := 3) (by decide +kernel) rfl rfl ?_
      obtain ⟨c99, h⟩ := ck_el h
      refine RN_iast (pc := 143) (by decide +kernel) c99 ?_
      obtain ⟨σ100, eσ100, h⟩ := nm_el h
      refine RN_nmS eσ100 ?_
      obtain ⟨x101, ex101, h⟩ := nm_el h
      refine RN_iinc (pc := 144) (i := 4) (n := 1) (v := x101) (ls2 := [some (.ref v0), none, none, some (.int x90), some (.int x101), some (.int v5)]) (by decide +kernel) rfl (by rw [ex101]; rfl) (by decide) rfl ?_
      obtain ⟨x102, ex102, h⟩ := nm_el h
      refine RN_iinc (pc := 147) (i := 5) (n := -1) (v := x102) (ls2 := [some (.ref v0), none, none, some (.int x90), some (.int x101), some (.int x102)]) (by decide +kernel) rfl (by rw [ex102]; rfl) (by decide) rfl ?_
      refine RN_goto (pc := 150) (off := -43) (tgt := 107) (by decide +kernel) (by decide) ?_
      exact RN_weak (l := [some (.ref v0), none, none, none, some (.int x101), some (.int x102)]) (And.intro rfl (And.intro rfl (And.intro rfl trivial))) (ih x101 x102 σ100 h)
def b_X12_steps_68 (n : Nat) (v0 : Nat) (v1 : Int32) (v2 : Int32) (σ : Sg) : Option (Int32 × Sg) :=
  ck (okO σ v0 11) <|
  ck (¬ gR σ v0 46 = 0) <|
  nm (gR σ v0 46) fun r69 =>
  ck (okA σ r69 13 v1) <|
  nm (gI σ r69 v1.toNatClampNeg) fun x71 =>
  nm (gR σ v0 46) fun r72 =>
  nm (gR σ v0 46) fun r73 =>
  ck (okA σ r73 13 v2) <|
  ck (okW σ r72 13 v1) <|
  nm (pI σ r72 v1.toNatClampNeg (gI σ r73 v2.toNatClampNeg)) fun σ76 =>
  ck (okO σ76 v0 11) <|
  ck (¬ gR σ76 v0 46 = 0) <|
  nm (gR σ76 v0 46) fun r79 =>
  ck (okW σ76 r79 13 v2) <|
  nm (pI σ76 r79 v2.toNatClampNeg x71) fun σ81 =>
  nm (v1 + (1 : Int32)) fun x82 =>
  ck (okO σ81 v0 11) <|
  nm ((gI σ81 v0 3) - (1 : Int32)) fun x84 =>
  b_X12_steps_107 n v0 x82 x84 σ81
set_option maxRecDepth 20000 in
theorem tb_X12_steps_68 {G : Gl} {xr : Int32} {σr : Sg} (n : Nat) (v0 : Nat) (v1 : Int32) (v2 : Int32) (σ : Sg) (h : b_X12_steps_68 n v0 v1 v2 σ = some (xr, σr)) : RN G M_X12_steps 68 [some (.ref v0), some (.int v1), some (.int v2)] [] σ (.inl (some (.int xr))) σr := by
  unfold b_X12_steps_68 at h
  refine RN_aload_n (pc := 68) (k := 0) (by decide +kernel) rfl rfl ?_
  obtain ⟨c67, h⟩ := ck_el h
  obtain ⟨c68, h⟩ := ck_el h
  refine RN_getR (pc := 69) (idx := 110) (ci := 11) (k := 46) (by decide +kernel) lf_RX12_110 rfl c67 c68 ?_
  obtain ⟨r69, er69, h⟩ := nm_el h
  refine RN_nmR er69 ?_
  refine RN_iload_n (pc := 72) (k := 1) (by decide +kernel) rfl rfl ?_
  obtain ⟨c70, h⟩ := ck_el h
  refine RN_iald (pc := 73) (by decide +kernel) c70 ?_
  obtain ⟨x71, ex71, h⟩ := nm_el h
  refine RN_nmI ex71 ?_
  refine RN_istore_n (pc := 74) (k := 3) (ls2 := [some (.ref v0), some (.int v1), some (.int v2), some (.int x71)]) (by decide +kernel) rfl (by decide) rfl ?_
  refine RN_aload_n (pc := 75) (k := 0) (by decide +kernel) rfl rfl ?_
  refine RN_getR (pc := 76) (idx := 110) (ci := 11) (k := 46) (by decide +kernel) lf_RX12_110 rfl c67 c68 ?_
  obtain ⟨r72, er72, h⟩ := nm_el h
  refine RN_nmR er72 ?_
  refine RN_iload_n (pc := 79) (k := 1) (by decide +kernel) rfl rfl ?_
  refine RN_aload_n (pc := 80) (k := 0) (by decide +kernel) rfl rfl ?_
  refine RN_getR (pc := 81) (idx := 110) (ci := 11) (k := 46) (by decide +kernel) lf_RX12_110 rfl c67 c68 ?_
  obtain ⟨r73, er73, h⟩ := nm_el h
  refine RN_nmR er73 ?_
  refine RN_iload_n (pc := 84) (k := 2) (by decide +kernel) rfl rfl ?_
  obtain ⟨c74, h⟩ := ck_el h
  refine RN_iald (pc := 85) (by decide +kernel) c74 ?_
  obtain ⟨c75, h⟩ := ck_el h
  refine RN_iast (pc := 86) (by decide +kernel) c75 ?_
  obtain ⟨σ76, eσ76, h⟩ := nm_el h
  refine RN_nmS eσ76 ?_
  refine RN_aload_n (pc := 87) (k := 0) (by decide +kernel) rfl rfl ?_
  obtain ⟨c77, h⟩ := ck_el h
  obtain ⟨c78, h⟩ := ck_el h
  refine RN_getR (pc := 88) (idx := 110) (ci := 11) (k := 46) (by decide +kernel) lf_RX12_110 rfl c77 c78 ?_
  obtain ⟨r79, er79, h⟩ := nm_el h
  refine RN_nmR er79 ?_
  refine RN_iload_n (pc := 91) (k := 2) (by decide +kernel) rfl rfl ?_
  refine RN_iload_n (pc := 92) (k := 3) (by decide +kernel) rfl rfl ?_
  obtain ⟨c80, h⟩ := ck_el h
  refine RN_iast (pc := 93) (by decide +kernel) c80 ?_
  obtain ⟨σ81, eσ81, h⟩ := nm_el h
  refine RN_nmS eσ81 ?_
  refine RN_iload_n (pc := 94) (k := 1) (by decide +kernel) rfl rfl ?_
  refine RN_iconst (pc := 95) (n := 1) (v := 1) (by decide +kernel) (by decide) ?_
  refine RN_iadd (pc := 96) (by decide +kernel) ?_
  obtain ⟨x82, ex82, h⟩ := nm_el h
  refine RN_nmI ex82 ?_
  refine RN_istore (pc := 97) (i := 4) (ls2 := [some (.ref v0), some (.int v1), some (.int v2), some (.int x71), some (.int x82)]) (by decide +kernel) (by decide) rfl ?_
  refine RN_aload_n (pc := 99) (k := 0) (by decide +kernel) rfl rfl ?_
  obtain ⟨c83, h⟩ := ck_el h
  refine RN_getI (pc := 100) (idx := 137) (ci := 11) (k := 3) (by decide +kernel) lf_RX12_137 (Or.inl rfl) c83 ?_
  refine RN_iconst (pc := 103) (n := 1) (v := 1) (by decide +kernel) (by decide) ?_
  refine RN_isub (pc := 104) (by decide +kernel) ?_
  obtain ⟨x84, ex84, h⟩ := nm_el h
  refine RN_nmI ex84 ?_
  refine RN_istore (pc := 105) (i := 5) (ls2 := [some (.ref v0), some (.int v1), some (.int v2), some (.int x71), some (.int x82), some (.int x84)]) (by decide +kernel) (by decide) rfl ?_
  exact RN_weak (l := [some (.ref v0), none, none, none, some (.int x82), some (.int x84)]) (And.intro rfl (And.intro rfl (And.intro rfl trivial))) (tb_X12_steps_107 v0 n x82 x84 σ81 h)
def b_X12_steps_47 : Nat → Nat → Int32 → Int32 → Sg → Option (Int32 × Sg)
  | 0, _, _, _, _ => none
  | n + 1, v0, v1, v2, σ =>
  ck (okO σ v0 11) <|
  ck (¬ gR σ v0 46 = 0) <|
  nm (gR σ v0 46) fun r62 =>
  ck (okA σ r62 13 v2) <|
  nm (gR σ v0 46) fun r64 =>
  ck (okA σ r64 13 v1) <|
  if (gI σ r64 v1.toNatClampNeg) ≤ (gI σ r62 v2.toNatClampNeg) then (
    b_X12_steps_68 n v0 v1 v2 σ)
  else (
    nm (v2 + ((-1) : Int32)) fun x103 =>
    b_X12_steps_47 n v0 v1 x103 σ)
set_option maxRecDepth 20000 in
theorem tb_X12_steps_47 {G : Gl} {xr : Int32} {σr : Sg} (v0 : Nat) (v1 : Int32) (σ : Sg) : ∀ (n : Nat) (v2 : Int32), b_X12_steps_47 n v0 v1 v2 σ = some (xr, σr) → RN G M_X12_steps 47 [some (.ref v0), some (.int v1), some (.int v2)] [] σ (.inl (some (.int xr))) σr := by
  intro n
  induction n with
  | zero =>
    intro v2 h
    exact none_el h
  | succ n ih =>
    intro v2 h
    rw [b_X12_steps_47] at h
    refine RN_aload_n (pc := 47) (k := 0) (by decide +kernel) rfl rfl ?_
    obtain ⟨c60, h⟩ := ck_el h
    obtain ⟨c61, h⟩ := ck_el h
    refine RN_getR (pc := 48) (idx := 110) (ci := 11) (k := 46) (by decide +kernel) lf_RX12_110 rfl c60 c61 ?_
    obtain ⟨r62, er62, h⟩ := nm_el h
    refine RN_nmR er62 ?_
    refine RN_iload_n (pc := 51) (k := 2) (by decide +kernel) rfl rfl ?_
    obtain ⟨c63, h⟩ := ck_el h
    refine RN_iald (pc := 52) (by decide +kernel) c63 ?_
    refine RN_aload_n (pc := 53) (k := 0) (by decide +kernel) rfl rfl ?_
    refine RN_getR (pc := 54) (idx := 110) (ci := 11) (k := 46) (by decide +kernel) lf_RX12_110 rfl c60 c61 ?_
    obtain ⟨r64, er64, h⟩ := nm_el h
    refine RN_nmR er64 ?_
    refine RN_iload_n (pc := 57) (k := 1) (by decide +kernel) rfl rfl ?_
    obtain ⟨c65, h⟩ := ck_el h
    refine RN_iald (pc := 58) (by decide +kernel) c65 ?_
    refine RN_icmp_ge (pc := 59) (off := 9) (tgt := 68) (by decide +kernel) (by decide) (fun c66 => ?_) (fun c66 => ?_)
    · replace h := it_t c66 h
      exact RN_weak (l := [some (.ref v0), some (.int v1), some (.int v2)]) (And.intro rfl (And.intro rfl (And.intro rfl trivial))) (tb_X12_steps_68 n v0 v1 v2 σ h)
    · replace h := it_f c66 h
      obtain ⟨x103, ex103, h⟩ := nm_el h
      refine RN_iinc (pc := 62) (i := 2) (n := -1) (v := x103) (ls2 := [some (.ref v0), some (.int v1), some (.int x103)]) (by decide +kernel) rfl (by rw [ex103]; rfl) (by decide) rfl ?_
      refine RN_goto (pc := 65) (off := -18) (tgt := 47) (by decide +kernel) (by decide) ?_
      exact RN_weak (l := [some (.ref v0), some (.int v1), some (.int x103)]) (And.intro rfl (And.intro rfl (And.intro rfl trivial))) (ih x103 h)
def b_X12_steps_34 (n : Nat) (v0 : Nat) (v1 : Int32) (σ : Sg) : Option (Int32 × Sg) :=
  if 0 ≤ v1 then (
    ck (okO σ v0 11) <|
    nm ((gI σ v0 3) - (1 : Int32)) fun x59 =>
    b_X12_steps_47 n v0 v1 x59 σ)
  else (
    some ((0 : Int32), σ))
set_option maxRecDepth 20000 in
theorem tb_X12_steps_34 {G : Gl} {xr : Int32} {σr : Sg} (n : Nat) (v0 : Nat) (v1 : Int32) (σ : Sg) (h : b_X12_steps_34 n v0 v1 σ = some (xr, σr)) : RN G M_X12_steps 34 [some (.ref v0), some (.int v1)] [] σ (.inl (some (.int xr))) σr := by
  unfold b_X12_steps_34 at h
  refine RN_iload_n (pc := 34) (k := 1) (by decide +kernel) rfl rfl ?_
  refine RN_if_ge (pc := 35) (off := 5) (tgt := 40) (by decide +kernel) (by decide) (fun c57 => ?_) (fun c57 => ?_)
  · replace h := it_t c57 h
    refine RN_aload_n (pc := 40) (k := 0) (by decide +kernel) rfl rfl ?_
    obtain ⟨c58, h⟩ := ck_el h
    refine RN_getI (pc := 41) (idx := 137) (ci := 11) (k := 3) (by decide +kernel) lf_RX12_137 (Or.inl rfl) c58 ?_
    refine RN_iconst (pc := 44) (n := 1) (v := 1) (by decide +kernel) (by decide) ?_
    refine RN_isub (pc := 45) (by decide +kernel) ?_
    obtain ⟨x59, ex59, h⟩ := nm_el h
    refine RN_nmI ex59 ?_
    refine RN_istore_n (pc := 46) (k := 2) (ls2 := [some (.ref v0), some (.int v1), some (.int x59)]) (by decide +kernel) rfl (by decide) rfl ?_
    exact RN_weak (l := [some (.ref v0), some (.int v1), some (.int x59)]) (And.intro rfl (And.intro rfl (And.intro rfl trivial))) (tb_X12_steps_47 v0 v1 σ n x59 h)
  · replace h := it_f c57 h
    refine RN_iconst (pc := 38) (n := 0) (v := 0) (by decide +kernel) (by decide) ?_
    obtain ⟨rfl, rfl⟩ := some_el2 h
    exact RN_zreturn (by decide +kernel) rfl (Or.inl rfl)
def b_X12_steps_7 : Nat → Nat → Int32 → Sg → Option (Int32 × Sg)
  | 0, _, _, _ => none
  | n + 1, v0, v1, σ =>
  if v1 < 0 then (
    b_X12_steps_34 n v0 v1 σ)
  else (
    ck (okO σ v0 11) <|
    ck (¬ gR σ v0 46 = 0) <|
    nm (gR σ v0 46) fun r106 =>
    ck (okA σ r106 13 v1) <|
    nm (gR σ v0 46) fun r108 =>
    ck (okA σ r108 13 (v1 + (1 : Int32))) <|
    if (gI σ r106 v1.toNatClampNeg) ≤ (gI σ r108 (v1 + (1 : Int32)).toNatClampNeg) then (
      b_X12_steps_34 n v0 v1 σ)
    else (
      nm (v1 + ((-1) : Int32)) fun x111 =>
      b_X12_steps_7 n v0 x111 σ))
set_option maxRecDepth 20000 in
theorem tb_X12_steps_7 {G : Gl} {xr : Int32} {σr : Sg} (v0 : Nat) (σ : Sg) : ∀ (n : Nat) (v1 : Int32), b_X12_steps_7 n v0 v1 σ = some (xr, σr) → RN G M_X12_steps 7 [some (.ref v0), some (.int v1)] [] σ (.inl (some (.int xr))) σr := by
  intro n
  induction n with
  | zero =>
    intro v1 h
    exact none_el h
  | succ n ih =>
    intro v1 h
    rw [b_X12_steps_7] at h
    refine RN_iload_n (pc := 7) (k := 1) (by decide +kernel) rfl rfl ?_
    refine RN_if_lt (pc := 8) (off := 26) (tgt := 34) (by decide +kernel) (by decide) (fun c56 => ?_) (fun c56 => ?_)
    · replace h := it_t c56 h
      exact RN_weak (l := [some (.ref v0), some (.int v1)]) (And.intro rfl (And.intro rfl trivial)) (tb_X12_steps_34 n v0 v1 σ h)
    · replace h := it_f c56 h
      refine RN_aload_n (pc := 11) (k := 0) (by decide +kernel) rfl rfl ?_
      obtain ⟨c104, h⟩ := ck_el h
      obtain ⟨c105, h⟩ := ck_el h
      refine RN_getR (pc := 12) (idx := 110) (ci := 11) (k := 46) (by decide +kernel) lf_RX12_110 rfl c104 c105 ?_
      obtain ⟨r106, er106, h⟩ := nm_el h
      refine RN_nmR er106 ?_
      refine RN_iload_n (pc := 15) (k := 1) (by decide +kernel) rfl rfl ?_
      obtain ⟨c107, h⟩ := ck_el h
      refine RN_iald (pc := 16) (by decide +kernel) c107 ?_
      refine RN_aload_n (pc := 17) (k := 0) (by decide +kernel) rfl rfl ?_
      refine RN_getR (pc := 18) (idx := 110) (ci := 11) (k := 46) (by decide +kernel) lf_RX12_110 rfl c104 c105 ?_
      obtain ⟨r108, er108, h⟩ := nm_el h
      refine RN_nmR er108 ?_
      refine RN_iload_n (pc := 21) (k := 1) (by decide +kernel) rfl rfl ?_
      refine RN_iconst (pc := 22) (n := 1) (v := 1) (by decide +kernel) (by decide) ?_
      refine RN_iadd (pc := 23) (by decide +kernel) ?_
      obtain ⟨c109, h⟩ := ck_el h
      refine RN_iald (pc := 24) (by decide +kernel) c109 ?_
      refine RN_icmp_le (pc := 25) (off := 9) (tgt := 34) (by decide +kernel) (by decide) (fun c110 => ?_) (fun c110 => ?_)
      · replace h := it_t c110 h
        exact RN_weak (l := [some (.ref v0), some (.int v1)]) (And.intro rfl (And.intro rfl trivial)) (tb_X12_steps_34 n v0 v1 σ h)
      · replace h := it_f c110 h
        obtain ⟨x111, ex111, h⟩ := nm_el h
        refine RN_iinc (pc := 28) (i := 1) (n := -1) (v := x111) (ls2 := [some (.ref v0), some (.int x111)]) (by decide +kernel) rfl (by rw [ex111]; rfl) (by decide) rfl ?_
        refine RN_goto (pc := 31) (off := -24) (tgt := 7) (by decide +kernel) (by decide) ?_
        exact RN_weak (l := [some (.ref v0), some (.int x111)]) (And.intro rfl (And.intro rfl trivial)) (ih x111 h)
def f_X12_steps (n : Nat) (v0 : Nat) (σ : Sg) : Option (Int32 × Sg) :=
  ck (okO σ v0 11) <|
  nm ((gI σ v0 3) - (2 : Int32)) fun x55 =>
  b_X12_steps_7 n v0 x55 σ
set_option maxRecDepth 20000 in
theorem t_X12_steps {G : Gl} {xr : Int32} {σr : Sg} {n : Nat} {v0 : Nat} {σ : Sg} (h : f_X12_steps n v0 σ = some (xr, σr)) : MT G M_X12_steps [.ref v0] σ (some (.int xr)) σr := by
  refine MT_of rfl rfl (Nat.le_of_ble_eq_true rfl) ?_
  show RN G M_X12_steps 0 [some (.ref v0)] [] σ (.inl (some (.int xr))) σr
  unfold f_X12_steps at h
  refine RN_aload_n (pc := 0) (k := 0) (by decide +kernel) rfl rfl ?_
  obtain ⟨c54, h⟩ := ck_el h
  refine RN_getI (pc := 1) (idx := 137) (ci := 11) (k := 3) (by decide +kernel) lf_RX12_137 (Or.inl rfl) c54 ?_
  refine RN_iconst (pc := 4) (n := 2) (v := 2) (by decide +kernel) (by decide) ?_
  refine RN_isub (pc := 5) (by decide +kernel) ?_
  obtain ⟨x55, ex55, h⟩ := nm_el h
  refine RN_nmI ex55 ?_
  refine RN_istore_n (pc := 6) (k := 1) (ls2 := [some (.ref v0), some (.int x55)]) (by decide +kernel) rfl (by decide) rfl ?_
  exact RN_weak (l := [some (.ref v0), some (.int x55)]) (And.intro rfl (And.intro rfl trivial)) (tb_X12_steps_7 v0 σ n x55 h)
def b_X12_triesOrder_41 (n : Nat) (v0 : Nat) (v1 : Int32) (σ : Sg) : Option (Int32 × Sg) :=
  ck (okO σ v0 11) <|
  bd (f_X12_tries n v0 v1 σ) fun x27 σ26 =>
  ck (x27 = 0 ∨ x27 = 1) <|
  some (x27, σ26)
set_option maxRecDepth 20000 in
theorem tb_X12_triesOrder_41 {G : Gl} {xr : Int32} {σr : Sg} (n : Nat) (v0 : Nat) (v1 : Int32) (σ : Sg) (h : b_X12_triesOrder_41 n v0 v1 σ = some (xr, σr)) : RN G M_X12_triesOrder 41 [some (.ref v0), some (.int v1)] [] σ (.inl (some (.int xr))) σr := by
  unfold b_X12_triesOrder_41 at h
  refine RN_aload_n (pc := 41) (k := 0) (by decide +kernel) rfl rfl ?_
  refine RN_iload_n (pc := 42) (k := 1) (by decide +kernel) rfl rfl ?_
  obtain ⟨c24, h⟩ := ck_el h
  obtain ⟨x27, σ26, f25, h⟩ := bd_el h
  refine RN_callV (M := M_X12_triesOrder) (pc := 43) (idx := 287) (as := [.int v1]) (st := []) (t_X12_tries f25) (by decide +kernel) lk_RX12_287 rfl ⟨by decide, fun q hq => by cases hq; rfl⟩ c24 (Nat.le_of_ble_eq_true rfl) ⟨Nat.le_of_ble_eq_true rfl, Nat.le_of_ble_eq_true rfl⟩ rfl ?_
  show RN G M_X12_triesOrder 46 [some (.ref v0), some (.int v1)] [.int x27] σ26 _ _
  obtain ⟨c28, h⟩ := ck_el h
  obtain ⟨rfl, rfl⟩ := some_el2 h
  exact RN_zreturn (by decide +kernel) rfl c28
def b_X12_triesOrder_10 : Nat → Nat → Int32 → Int32 → Sg → Option (Int32 × Sg)
  | 0, _, _, _, _ => none
  | n + 1, v0, v1, v2, σ =>
  ck (okO σ v0 11) <|
  if (gI σ v0 3) ≤ v2 then (
    b_X12_triesOrder_41 n v0 v1 σ)
  else (
    ck (¬ gR σ v0 18 = 0) <|
    nm (gR σ v0 18) fun r30 =>
    ck (¬ gR σ v0 4 = 0) <|
    nm (gR σ v0 4) fun r32 =>
    ck (¬ gR σ v0 46 = 0) <|
    nm (gR σ v0 46) fun r34 =>
    ck (okA σ r34 13 v2) <|
    ck (okA σ r32 13 (gI σ r34 v2.toNatClampNeg)) <|
    ck (okW σ r30 13 v2) <|
    nm (pI σ r30 v2.toNatClampNeg (gI σ r32 (gI σ r34 v2.toNatClampNeg).toNatClampNeg)) fun σ38 =>
    nm (v2 + (1 : Int32)) fun x39 =>
    b_X12_triesOrder_10 n v0 v1 x39 σ38)
set_option maxRecDepth 20000 in
theorem tb_X12_triesOrder_10 {G : Gl} {xr : Int32} {σr : Sg} (v0 : Nat) (v1 : Int32) : ∀ (n : Nat) (v2 : Int32) (σ : Sg), b_X12_triesOrder_10 n v0 v1 v2 σ = some (xr, σr) → RN G M_X12_triesOrder 10 [some (.ref v0), some (.int v1), some (.int v2)] [] σ (.inl (some (.int xr))) σr := by
  intro n
  induction n with
  | zero =>
    intro v2 σ h
    exact none_el h
  | succ n ih =>
    intro v2 σ h
    rw [b_X12_triesOrder_10] at h
    refine RN_iload_n (pc := 10) (k := 2) (by decide +kernel) rfl rfl ?_
    refine RN_aload_n (pc := 11) (k := 0) (by decide +kernel) rfl rfl ?_
    obtain ⟨c22, h⟩ := ck_el h
    refine RN_getI (pc := 12) (idx := 137) (ci := 11) (k := 3) (by decide +kernel) lf_RX12_137 (Or.inl rfl) c22 ?_
    refine RN_icmp_ge (pc := 15) (off := 26) (tgt := 41) (by decide +kernel) (by decide) (fun c23 => ?_) (fun c23 => ?_)
    · replace h := it_t c23 h
      exact RN_weak (l := [some (.ref v0), some (.int v1)]) (And.intro rfl (And.intro rfl trivial)) (tb_X12_triesOrder_41 n v0 v1 σ h)
    · replace h := it_f c23 h
      refine RN_aload_n (pc := 18) (k := 0) (by decide +kernel) rfl rfl ?_
      obtain ⟨c29, h⟩ := ck_el h
      refine RN_getR (pc := 19) (idx := 44) (ci := 11) (k := 18) (by decide +kernel) lf_RX12_44 rfl c22 c29 ?_
      obtain ⟨r30, er30, h⟩ := nm_el h
      refine RN_nmR er30 ?_
      refine RN_iload_n (pc := 22) (k := 2) (by decide +kernel) rfl rfl ?_
      refine RN_aload_n (pc := 23) (k := 0) (by decide +kernel) rfl rfl ?_
      obtain ⟨c31, h⟩ := ck_el h
      refine RN_getR (pc := 24) (idx := 16) (ci := 11) (k := 4) (by decide +kernel) lf_RX12_16 rfl c22 c31 ?_
      obtain ⟨r32, er32, h⟩ := nm_el h
      refine RN_nmR er32 ?_
      refine RN_aload_n (pc := 27) (k := 0) (by decide +kernel) rfl rfl ?_
      obtain ⟨c33, h⟩ := ck_el h
      refine RN_getR (pc := 28) (idx := 110) (ci := 11) (k := 46) (by decide +kernel) lf_RX12_110 rfl c22 c33 ?_
      obtain ⟨r34, er34, h⟩ := nm_el h
      refine RN_nmR er34 ?_
      refine RN_iload_n (pc := 31) (k := 2) (by decide +kernel) rfl rfl ?_
      obtain ⟨c35, h⟩ := ck_el h
      refine RN_iald (pc := 32) (by decide +kernel) c35 ?_
      obtain ⟨c36, h⟩ := ck_el h
      refine RN_iald (pc := 33) (by decide +kernel) c36 ?_
      obtain ⟨c37, h⟩ := ck_el h
      refine RN_iast (pc := 34) (by decide +kernel) c37 ?_
      obtain ⟨σ38, eσ38, h⟩ := nm_el h
      refine RN_nmS eσ38 ?_
      obtain ⟨x39, ex39, h⟩ := nm_el h
      refine RN_iinc (pc := 35) (i := 2) (n := 1) (v := x39) (ls2 := [some (.ref v0), some (.int v1), some (.int x39)]) (by decide +kernel) rfl (by rw [ex39]; rfl) (by decide) rfl ?_
      refine RN_goto (pc := 38) (off := -28) (tgt := 10) (by decide +kernel) (by decide) ?_
      exact RN_weak (l := [some (.ref v0), some (.int v1), some (.int x39)]) (And.intro rfl (And.intro rfl (And.intro rfl trivial))) (ih x39 σ38 h)
def f_X12_triesOrder (n : Nat) (v0 : Nat) (v1 : Int32) (σ : Sg) : Option (Int32 × Sg) :=
  ck (okO σ v0 11) <|
  nm (pI σ v0 17 (gI σ v0 3)) fun σ21 =>
  b_X12_triesOrder_10 n v0 v1 (0 : Int32) σ21
set_option maxRecDepth 20000 in
theorem t_X12_triesOrder {G : Gl} {xr : Int32} {σr : Sg} {n : Nat} {v0 : Nat} {v1 : Int32} {σ : Sg} (h : f_X12_triesOrder n v0 v1 σ = some (xr, σr)) : MT G M_X12_triesOrder [.ref v0, .int v1] σ (some (.int xr)) σr := by
  refine MT_of rfl rfl (Nat.le_of_ble_eq_true rfl) ?_
  show RN G M_X12_triesOrder 0 [some (.ref v0), some (.int v1)] [] σ (.inl (some (.int xr))) σr
  unfold f_X12_triesOrder at h
  refine RN_aload_n (pc := 0) (k := 0) (by decide +kernel) rfl rfl ?_
  refine RN_aload_n (pc := 1) (k := 0) (by decide +kernel) rfl rfl ?_
  obtain ⟨c20, h⟩ := ck_el h
  refine RN_getI (pc := 2) (idx := 137) (ci := 11) (k := 3) (by decide +kernel) lf_RX12_137 (Or.inl rfl) c20 ?_
  refine RN_putI (pc := 5) (idx := 209) (ci := 11) (k := 17) (by decide +kernel) lf_RX12_209 rfl (fun q hq => by cases hq; exact Or.inl rfl) c20 ?_
  obtain ⟨σ21, eσ21, h⟩ := nm_el h
  refine RN_nmS eσ21 ?_
  refine RN_iconst (pc := 8) (n := 0) (v := 0) (by decide +kernel) (by decide) ?_
  refine RN_istore_n (pc := 9) (k := 2) (ls2 := [some (.ref v0), some (.int v1), some (.int (0 : Int32))]) (by decide +kernel) rfl (by decide) rfl ?_
  exact RN_weak (l := [some (.ref v0), some (.int v1), some (.int (0 : Int32))]) (And.intro rfl (And.intro rfl (And.intro rfl trivial))) (tb_X12_triesOrder_10 v0 v1 n (0 : Int32) σ21 h)
def b_X12_order_178 (k88 : Int32 → Sg → Option (Int32 × Sg)) (n : Nat) (v0 : Nat) (v1 : Int32) (v2 : Int32) (v3 : Int32) (v4 : Int32) (σ : Sg) : Option (Int32 × Sg) :=
  if v4 = 0 then (
    k88 v3 σ)
  else (
    some (v3, σ))
set_option maxRecDepth 20000 in
theorem tb_X12_order_178 {G : Gl} {xr : Int32} {σr : Sg} (n : Nat) (v0 : Nat) (v1 : Int32) (v2 : Int32) (v3 : Int32) (v4 : Int32) (σ : Sg) (k88 : Int32 → Sg → Option (Int32 × Sg)) (hk88 : ∀ (c3 : Int32) (τ : Sg), k88 c3 τ = some (xr, σr) → RN G M_X12_order 88 [some (.ref v0), some (.int v1), some (.int v2), some (.int c3)] [] τ (.inl (some (.int xr))) σr) (h : b_X12_order_178 k88 n v0 v1 v2 v3 v4 σ = some (xr, σr)) : RN G M_X12_order 178 [some (.ref v0), some (.int v1), some (.int v2), some (.int v3), some (.int v4)] [] σ (.inl (some (.int xr))) σr := by
  unfold b_X12_order_178 at h
  refine RN_iload (pc := 178) (i := 4) (by decide +kernel) rfl ?_
  refine RN_if_eq (pc := 180) (off := 5) (tgt := 185) (by decide +kernel) (by decide) (fun c82 => ?_) (fun c82 => ?_)
  · replace h := it_t c82 h
    refine RN_goto (pc := 185) (off := -97) (tgt := 88) (by decide +kernel) (by decide) ?_
    exact RN_weak (l := [some (.ref v0), some (.int v1), some (.int v2), some (.int v3)]) (And.intro rfl (And.intro rfl (And.intro rfl (And.intro rfl trivial)))) (hk88 v3 σ h)
  · replace h := it_f c82 h
    refine RN_iload_n (pc := 183) (k := 3) (by decide +kernel) rfl rfl ?_
    obtain ⟨rfl, rfl⟩ := some_el2 h
    exact RN_ireturn (by decide +kernel) rfl
def b_X12_order_170 (k88 : Int32 → Sg → Option (Int32 × Sg)) (k125 : Int32 → Int32 → Option (Int32 × Sg)) (n : Nat) (v0 : Nat) (v1 : Int32) (v2 : Int32) (v3 : Int32) (v5 : Int32) (s0 : Int32) (σ : Sg) : Option (Int32 × Sg) :=
  nm (v5 + (1 : Int32)) fun x84 =>
  k125 s0 x84
set_option maxRecDepth 20000 in
theorem tb_X12_order_170 {G : Gl} {xr : Int32} {σr : Sg} (n : Nat) (v0 : Nat) (v1 : Int32) (v2 : Int32) (v3 : Int32) (v5 : Int32) (s0 : Int32) (σ : Sg) (k88 : Int32 → Sg → Option (Int32 × Sg)) (hk88 : ∀ (c3 : Int32) (τ : Sg), k88 c3 τ = some (xr, σr) → RN G M_X12_order 88 [some (.ref v0), some (.int v1), some (.int v2), some (.int c3)] [] τ (.inl (some (.int xr))) σr) (k125 : Int32 → Int32 → Option (Int32 × Sg)) (hk125 : ∀ (c4 : Int32) (c5 : Int32), k125 c4 c5 = some (xr, σr) → RN G M_X12_order 125 [some (.ref v0), some (.int v1), some (.int v2), some (.int v3), some (.int c4), some (.int c5)] [] σ (.inl (some (.int xr))) σr) (h : b_X12_order_170 k88 k125 n v0 v1 v2 v3 v5 s0 σ = some (xr, σr)) : RN G M_X12_order 170 [some (.ref v0), some (.int v1), some (.int v2), some (.int v3), none, some (.int v5)] [.int s0] σ (.inl (some (.int xr))) σr := by
  unfold b_X12_order_170 at h
  refine RN_istore (pc := 170) (i := 4) (ls2 := [some (.ref v0), some (.int v1), some (.int v2), some (.int v3), some (.int s0), some (.int v5)]) (by decide +kernel) (by decide) rfl ?_
  obtain ⟨x84, ex84, h⟩ := nm_el h
  refine RN_iinc (pc := 172) (i := 5) (n := 1) (v := x84) (ls2 := [some (.ref v0), some (.int v1), some (.int v2), some (.int v3), some (.int s0), some (.int x84)]) (by decide +kernel) rfl (by rw [ex84]; rfl) (by decide) rfl ?_
  refine RN_goto (pc := 175) (off := -50) (tgt := 125) (by decide +kernel) (by decide) ?_
  exact RN_weak (l := [some (.ref v0), some (.int v1), some (.int v2), some (.int v3), some (.int s0), some (.int x84)]) (And.intro rfl (And.intro rfl (And.intro rfl (And.intro rfl (And.intro rfl (And.intro rfl trivial)))))) (hk125 s0 x84 h)
def b_X12_order_165 (k88 : Int32 → Sg → Option (Int32 × Sg)) (k125 : Int32 → Int32 → Option (Int32 × Sg)) (n : Nat) (v0 : Nat) (v1 : Int32) (v2 : Int32) (v3 : Int32) (v5 : Int32) (σ : Sg) : Option (Int32 × Sg) :=
  b_X12_order_170 k88 k125 n v0 v1 v2 v3 v5 (1 : Int32) σ
set_option maxRecDepth 20000 in
theorem tb_X12_order_165 {G : Gl} {xr : Int32} {σr : Sg} (n : Nat) (v0 : Nat) (v1 : Int32) (v2 : Int32) (v3 : Int32) (v5 : Int32) (σ : Sg) (k88 : Int32 → Sg → Option (Int32 × Sg)) (hk88 : ∀ (c3 : Int32) (τ : Sg), k88 c3 τ = some (xr, σr) → RN G M_X12_order 88 [some (.ref v0), some (.int v1), some (.int v2), some (.int c3)] [] τ (.inl (some (.int xr))) σr) (k125 : Int32 → Int32 → Option (Int32 × Sg)) (hk125 : ∀ (c4 : Int32) (c5 : Int32), k125 c4 c5 = some (xr, σr) → RN G M_X12_order 125 [some (.ref v0), some (.int v1), some (.int v2), some (.int v3), some (.int c4), some (.int c5)] [] σ (.inl (some (.int xr))) σr) (h : b_X12_order_165 k88 k125 n v0 v1 v2 v3 v5 σ = some (xr, σr)) : RN G M_X12_order 165 [some (.ref v0), some (.int v1), some (.int v2), some (.int v3), none, some (.int v5)] [] σ (.inl (some (.int xr))) σr := by
  unfold b_X12_order_165 at h
  refine RN_iconst (pc := 165) (n := 1) (v := 1) (by decide +kernel) (by decide) ?_
  refine RN_goto (pc := 166) (off := 4) (tgt := 170) (by decide +kernel) (by decide) ?_
  exact RN_weak (l := [some (.ref v0), some (.int v1), some (.int v2), some (.int v3), none, some (.int v5)]) (And.intro rfl (And.intro rfl (And.intro rfl (And.intro rfl (And.intro rfl trivial))))) (tb_X12_order_170 n v0 v1 v2 v3 v5 (1 : Int32) σ k88 hk88 k125 hk125 h)
def b_X12_order_125 (k88 : Int32 → Sg → Option (Int32 × Sg)) : Nat → Nat → Int32 → Int32 → Int32 → Int32 → Int32 → Sg → Option (Int32 × Sg)
  | 0, _, _, _, _, _, _, _ => none
  | n + 1, v0, v1, v2, v3, v4, v5, σ =>
  ck (okO σ v0 11) <|
  if (gI σ v0 3) ≤ v5 then (
    b_X12_order_178 k88 n v0 v1 v2 v3 v4 σ)
  else (
    if v4 = 0 then (
      ck (¬ gR σ v0 22 = 0) <|
      nm (gR σ v0 22) fun r86 =>
      ck (okA σ r86 14 ((12 : Int32) + v5)) <|
      ck (¬ gR σ v0 47 = 0) <|
      nm (gR σ v0 47) fun r89 =>
      ck (¬ gR σ v0 46 = 0) <|
      nm (gR σ v0 46) fun r91 =>
      ck (okA σ r91 13 v5) <|
      ck (okA σ r89 14 (gI σ r91 v5.toNatClampNeg)) <|
      if (gJ σ r86 ((12 : Int32) + v5).toNatClampNeg) = (gJ σ r89 (gI σ r91 v5.toNatClampNeg).toNatClampNeg) then (
        b_X12_order_170 k88 (fun c4 c5 => b_X12_order_125 k88 n v0 v1 v2 v3 c4 c5 σ) n v0 v1 v2 v3 v5 (0 : Int32) σ)
      else (
        b_X12_order_165 k88 (fun c4 c5 => b_X12_order_125 k88 n v0 v1 v2 v3 c4 c5 σ) n v0 v1 v2 v3 v5 σ))
    else (
      b_X12_order_165 k88 (fun c4 c5 => b_X12_order_125 k88 n v0 v1 v2 v3 c4 c5 σ) n v0 v1 v2 v3 v5 σ))
set_option maxRecDepth 20000 in
theorem tb_X12_order_125 {G : Gl} {xr : Int32} {σr : Sg} (v0 : Nat) (v1 : Int32) (v2 : Int32) (v3 : Int32) (σ : Sg) (k88 : Int32 → Sg → Option (Int32 × Sg)) (hk88 : ∀ (c3 : Int32) (τ : Sg), k88 c3 τ = some (xr, σr) → RN G M_X12_order 88 [some (.ref v0), some (.int v1), some (.int v2), some (.int c3)] [] τ (.inl (some (.int xr))) σr) : ∀ (n : Nat) (v4 : Int32) (v5 : Int32), b_X12_order_125 k88 n v0 v1 v2 v3 v4 v5 σ = some (xr, σr) → RN G M_X12_order 125 [some (.ref v0), some (.int v1), some (.int v2), some (.int v3), some (.int v4), some (.int v5)] [] σ (.inl (some (.int xr))) σr := by
  intro n
  induction n with
  | zero =>
    intro v4 v5 h
    exact none_el h
  | succ n ih =>
    intro v4 v5 h
    rw [b_X12_order_125] at h
    refine RN_iload (pc := 125) (i := 5) (by decide +kernel) rfl ?_
    refine RN_aload_n (pc := 127) (k := 0) (by decide +kernel) rfl rfl ?_
    obtain ⟨c80, h⟩ := ck_el h
    refine RN_getI (pc := 128) (idx := 137) (ci := 11) (k := 3) (by decide +kernel) lf_RX12_137 (Or.inl rfl) c80 ?_
    refine RN_icmp_ge (pc := 131) (off := 47) (tgt := 178) (by decide +kernel) (by decide) (fun c81 => ?_) (fun c81 => ?_)
    · replace h := it_t c81 h
      exact RN_weak (l := [some (.ref v0), some (.int v1), some (.int v2), some (.int v3), some (.int v4)]) (And.intro rfl (And.intro rfl (And.intro rfl (And.intro rfl (And.intro rfl trivial))))) (tb_X12_order_178 n v0 v1 v2 v3 v4 σ k88 hk88 h)
    · replace h := it_f c81 h
      refine RN_iload (pc := 134) (i := 4) (by decide +kernel) rfl ?_
      refine RN_if_ne (pc := 136) (off := 29) (tgt := 165) (by decide +kernel) (by decide) (fun c83 => ?_) (fun c83 => ?_)
      · replace h := it_f c83 h
        exact RN_weak (l := [some (.ref v0), some (.int v1), some (.int v2), some (.int v3), none, some (.int v5)]) (And.intro rfl (And.intro rfl (And.intro rfl (And.intro rfl (And.intro rfl trivial))))) (tb_X12_order_165 n v0 v1 v2 v3 v5 σ k88 hk88 _ (fun c4 c5 h => ih c4 c5 h) h)
      · replace h := it_t c83 h
        refine RN_aload_n (pc := 139) (k := 0) (by decide +kernel) rfl rfl ?_
        obtain ⟨c85, h⟩ := ck_el h
        refine RN_getR (pc := 140) (idx := 57) (ci := 11) (k := 22) (by decide +kernel) lf_RX12_57 rfl c80 c85 ?_
        obtain ⟨r86, er86, h⟩ := nm_el h
        refine RN_nmR er86 ?_
        refine RN_bipush (pc := 143) (n := 12) (v := 12) (by decide +kernel) (by decide) ?_
        refine RN_iload (pc := 145) (i := 5) (by decide +kernel) rfl ?_
        refine RN_iadd (pc := 147) (by decide +kernel) ?_
        obtain ⟨c87, h⟩ := ck_el h
        refine RN_lald (pc := 148) (by decide +kernel) c87 ?_
        refine RN_aload_n (pc := 149) (k := 0) (by decide +kernel) rfl rfl ?_
        obtain ⟨c88, h⟩ := ck_el h
        refine RN_getR (pc := 150) (idx := 113) (ci := 11) (k := 47) (by decide +kernel) lf_RX12_113 rfl c80 c88 ?_
        obtain ⟨r89, er89, h⟩ := nm_el h
        refine RN_nmR er89 ?_
        refine RN_aload_n (pc := 153) (k := 0) (by decide +kernel) rfl rfl ?_
        obtain ⟨c90, h⟩ := ck_el h
        refine RN_getR (pc := 154) (idx := 110) (ci := 11) (k := 46) (by decide +kernel) lf_RX12_110 rfl c80 c90 ?_
        obtain ⟨r91, er91, h⟩ := nm_el h
        refine RN_nmR er91 ?_
        refine RN_iload (pc := 157) (i := 5) (by decide +kernel) rfl ?_
        obtain ⟨c92, h⟩ := ck_el h
        refine RN_iald (pc := 159) (by decide +kernel) c92 ?_
        obtain ⟨c93, h⟩ := ck_el h
        refine RN_lald (pc := 160) (by decide +kernel) c93 ?_
        refine RN_lc_eq (pc := 161) (off := 7) (tgt := 169) (by decide +kernel) (by decide +kernel) (by decide) (fun c94 => ?_) (fun c94 => ?_)
        · replace h := it_t c94 h
          refine RN_iconst (pc := 169) (n := 0) (v := 0) (by decide +kernel) (by decide) ?_
          exact RN_weak (l := [some (.ref v0), some (.int v1), some (.int v2), some (.int v3), none, some (.int v5)]) (And.intro rfl (And.intro rfl (And.intro rfl (And.intro rfl (And.intro rfl trivial))))) (tb_X12_order_170 n v0 v1 v2 v3 v5 (0 : Int32) σ k88 hk88 _ (fun c4 c5 h => ih c4 c5 h) h)
        · replace h := it_f c94 h
          exact RN_weak (l := [some (.ref v0), some (.int v1), some (.int v2), some (.int v3), none, some (.int v5)]) (And.intro rfl (And.intro rfl (And.intro rfl (And.intro rfl (And.intro rfl trivial))))) (tb_X12_order_165 n v0 v1 v2 v3 v5 σ k88 hk88 _ (fun c4 c5 h => ih c4 c5 h) h)
def b_X12_order_120 (k88 : Int32 → Sg → Option (Int32 × Sg)) (n : Nat) (v0 : Nat) (v1 : Int32) (v2 : Int32) (v3 : Int32) (s0 : Int32) (σ : Sg) : Option (Int32 × Sg) :=
  b_X12_order_125 k88 n v0 v1 v2 v3 s0 (0 : Int32) σ
set_option maxRecDepth 20000 in
theorem tb_X12_order_120 {G : Gl} {xr : Int32} {σr : Sg} (n : Nat) (v0 : Nat) (v1 : Int32) (v2 : Int32) (v3 : Int32) (s0 : Int32) (σ : Sg) (k88 : Int32 → Sg → Option (Int32 × Sg)) (hk88 : ∀ (c3 : Int32) (τ : Sg), k88 c3 τ = some (xr, σr) → RN G M_X12_order 88 [some (.ref v0), some (.int v1), some (.int v2), some (.int c3)] [] τ (.inl (some (.int xr))) σr) (h : b_X12_order_120 k88 n v0 v1 v2 v3 s0 σ = some (xr, σr)) : RN G M_X12_order 120 [some (.ref v0), some (.int v1), some (.int v2), some (.int v3)] [.int s0] σ (.inl (some (.int xr))) σr := by
  unfold b_X12_order_120 at h
  refine RN_istore (pc := 120) (i := 4) (ls2 := [some (.ref v0), some (.int v1), some (.int v2), some (.int v3), some (.int s0)]) (by decide +kernel) (by decide) rfl ?_
  refine RN_iconst (pc := 122) (n := 0) (v := 0) (by decide +kernel) (by decide) ?_
  refine RN_istore (pc := 123) (i := 5) (ls2 := [some (.ref v0), some (.int v1), some (.int v2), some (.int v3), some (.int s0), some (.int (0 : Int32))]) (by decide +kernel) (by decide) rfl ?_
  exact RN_weak (l := [some (.ref v0), some (.int v1), some (.int v2), some (.int v3), some (.int s0), some (.int (0 : Int32))]) (And.intro rfl (And.intro rfl (And.intro rfl (And.intro rfl (And.intro rfl (And.intro rfl trivial)))))) (tb_X12_order_125 v0 v1 v2 v3 σ k88 hk88 n s0 (0 : Int32) h)
def b_X12_order_115 (k88 : Int32 → Sg → Option (Int32 × Sg)) (n : Nat) (v0 : Nat) (v1 : Int32) (v2 : Int32) (v3 : Int32) (σ : Sg) : Option (Int32 × Sg) :=
  b_X12_order_120 k88 n v0 v1 v2 v3 (1 : Int32) σ
set_option maxRecDepth 20000 in
theorem tb_X12_order_115 {G : Gl} {xr : Int32} {σr : Sg} (n : Nat) (v0 : Nat) (v1 : Int32) (v2 : Int32) (v3 : Int32) (σ : Sg) (k88 : Int32 → Sg → Option (Int32 × Sg)) (hk88 : ∀ (c3 : Int32) (τ : Sg), k88 c3 τ = some (xr, σr) → RN G M_X12_order 88 [some (.ref v0), some (.int v1), some (.int v2), some (.int c3)] [] τ (.inl (some (.int xr))) σr) (h : b_X12_order_115 k88 n v0 v1 v2 v3 σ = some (xr, σr)) : RN G M_X12_order 115 [some (.ref v0), some (.int v1), some (.int v2), some (.int v3)] [] σ (.inl (some (.int xr))) σr := by
  unfold b_X12_order_115 at h
  refine RN_iconst (pc := 115) (n := 1) (v := 1) (by decide +kernel) (by decide) ?_
  refine RN_goto (pc := 116) (off := 4) (tgt := 120) (by decide +kernel) (by decide) ?_
  exact RN_weak (l := [some (.ref v0), some (.int v1), some (.int v2), some (.int v3)]) (And.intro rfl (And.intro rfl (And.intro rfl (And.intro rfl trivial)))) (tb_X12_order_120 n v0 v1 v2 v3 (1 : Int32) σ k88 hk88 h)
def b_X12_order_88 : Nat → Nat → Int32 → Int32 → Int32 → Sg → Option (Int32 × Sg)
  | 0, _, _, _, _, _ => none
  | n + 1, v0, v1, v2, v3, σ =>
  ck (okO σ v0 11) <|
  bd (f_X12_steps n v0 σ) fun x72 σ71 =>
  if x72 = 0 then (
    some ((9999999 : Int32), σ71))
  else (
    nm (v3 + (1 : Int32)) fun x74 =>
    ck (okO σ71 v0 11) <|
    bd (f_X12_triesOrder n v0 v1 σ71) fun x78 σ77 =>
    if x78 = v2 then (
      ck (okO σ77 v0 11) <|
      bp (f_X12_differs n v0 (1 : Int64) σ77) fun x97 =>
      if x97 = 0 then (
        b_X12_order_120 (fun c3 τ => b_X12_order_88 n v0 v1 v2 c3 τ) n v0 v1 v2 x74 (0 : Int32) σ77)
      else (
        b_X12_order_115 (fun c3 τ => b_X12_order_88 n v0 v1 v2 c3 τ) n v0 v1 v2 x74 σ77))
    else (
      b_X12_order_115 (fun c3 τ => b_X12_order_88 n v0 v1 v2 c3 τ) n v0 v1 v2 x74 σ77))
set_option maxRecDepth 20000 in
theorem tb_X12_order_88 {G : Gl} {xr : Int32} {σr : Sg} (v0 : Nat) (v1 : Int32) (v2 : Int32) : ∀ (n : Nat) (v3 : Int32) (σ : Sg), b_X12_order_88 n v0 v1 v2 v3 σ = some (xr, σr) → RN G M_X12_order 88 [some (.ref v0), some (.int v1), some (.int v2), some (.int v3)] [] σ (.inl (some (.int xr))) σr := by
  intro n
  induction n with
  | zero =>
    intro v3 σ h
    exact none_el h
  | succ n ih =>
    intro v3 σ h
    rw [b_X12_order_88] at h
    refine RN_aload_n (pc := 88) (k := 0) (by decide +kernel) rfl rfl ?_
    obtain ⟨c69, h⟩ := ck_el h
    obtain ⟨x72, σ71, f70, h⟩ := bd_el h
    refine RN_callV (M := M_X12_order) (pc := 89) (idx := 364) (as := []) (st := []) (t_X12_steps f70) (by decide +kernel) lk_RX12_364 rfl ⟨by decide, fun q hq => by cases hq; rfl⟩ c69 (Nat.le_of_ble_eq_true rfl) ⟨Nat.le_of_ble_eq_true rfl, Nat.le_of_ble_eq_true rfl⟩ rfl ?_
    show RN G M_X12_order 92 [some (.ref v0), some (.int v1), some (.int v2), some (.int v3)] [.int x72] σ71 _ _
    refine RN_if_eq (pc := 92) (off := 96) (tgt := 188) (by decide +kernel) (by decide) (fun c73 => ?_) (fun c73 => ?_)
    · replace h := it_t c73 h
      refine RN_ldcw (pc := 188) (idx := 353) (v := 9999999) (by decide +kernel) kc_RX12_353 ?_
      obtain ⟨rfl, rfl⟩ := some_el2 h
      exact RN_ireturn (by decide +kernel) rfl
    · replace h := it_f c73 h
      obtain ⟨x74, ex74, h⟩ := nm_el h
      refine RN_iinc (pc := 95) (i := 3) (n := 1) (v := x74) (ls2 := [some (.ref v0), some (.int v1), some (.int v2), some (.int x74)]) (by decide +kernel) rfl (by rw [ex74]; rfl) (by decide) rfl ?_
      refine RN_aload_n (pc := 98) (k := 0) (by decide +kernel) rfl rfl ?_
      refine RN_iload_n (pc := 99) (k := 1) (by decide +kernel) rfl rfl ?_
      obtain ⟨c75, h⟩ := ck_el h
      obtain ⟨x78, σ77, f76, h⟩ := bd_el h
      refine RN_callV (M := M_X12_order) (pc := 100) (idx := 361) (as := [.int v1]) (st := []) (t_X12_triesOrder f76) (by decide +kernel) lk_RX12_361 rfl ⟨by decide, fun q hq => by cases hq; rfl⟩ c75 (Nat.le_of_ble_eq_true rfl) ⟨Nat.le_of_ble_eq_true rfl, Nat.le_of_ble_eq_true rfl⟩ rfl ?_
      show RN G M_X12_order 103 [some (.ref v0), some (.int v1), some (.int v2), some (.int x74)] [.int x78] σ77 _ _
      refine RN_iload_n (pc := 103) (k := 2) (by decide +kernel) rfl rfl ?_
      refine RN_icmp_ne (pc := 104) (off := 11) (tgt := 115) (by decide +kernel) (by decide) (fun c79 => ?_) (fun c79 => ?_)
      · replace h := it_f c79 h
        exact RN_weak (l := [some (.ref v0), some (.int v1), some (.int v2), some (.int x74)]) (And.intro rfl (And.intro rfl (And.intro rfl (And.intro rfl trivial)))) (tb_X12_order_115 n v0 v1 v2 x74 σ77 _ (fun c3 τ h => ih c3 τ h) h)
      · replace h := it_t c79 h
        refine RN_aload_n (pc := 107) (k := 0) (by decide +kernel) rfl rfl ?_
        refine RN_lconst (pc := 108) (n := 1) (v := 1) (by decide +kernel) (by decide) ?_
        obtain ⟨c95, h⟩ := ck_el h
        obtain ⟨x97, f96, h⟩ := bp_el h
        refine RN_callV (M := M_X12_order) (pc := 109) (idx := 298) (as := [.long (1 : Int64)]) (st := []) (t_X12_differs f96) (by decide +kernel) lk_RX12_298 rfl ⟨by decide, fun q hq => by cases hq; rfl⟩ c95 (Nat.le_of_ble_eq_true rfl) ⟨Nat.le_of_ble_eq_true rfl, Nat.le_of_ble_eq_true rfl⟩ rfl ?_
        show RN G M_X12_order 112 [some (.ref v0), some (.int v1), some (.int v2), some (.int x74)] [.int x97] σ77 _ _
        refine RN_if_eq (pc := 112) (off := 7) (tgt := 119) (by decide +kernel) (by decide) (fun c98 => ?_) (fun c98 => ?_)
        · replace h := it_t c98 h
          refine RN_iconst (pc := 119) (n := 0) (v := 0) (by decide +kernel) (by decide) ?_
          exact RN_weak (l := [some (.ref v0), some (.int v1), some (.int v2), some (.int x74)]) (And.intro rfl (And.intro rfl (And.intro rfl (And.intro rfl trivial)))) (tb_X12_order_120 n v0 v1 v2 x74 (0 : Int32) σ77 _ (fun c3 τ h => ih c3 τ h) h)
        · replace h := it_f c98 h
          exact RN_weak (l := [some (.ref v0), some (.int v1), some (.int v2), some (.int x74)]) (And.intro rfl (And.intro rfl (And.intro rfl (And.intro rfl trivial)))) (tb_X12_order_115 n v0 v1 v2 x74 σ77 _ (fun c3 τ h => ih c3 τ h) h)
def b_X12_order_86 (n : Nat) (v0 : Nat) (v1 : Int32) (v2 : Int32) (σ : Sg) : Option (Int32 × Sg) :=
  b_X12_order_88 n v0 v1 v2 (0 : Int32) σ
set_option maxRecDepth 20000 in
theorem tb_X12_order_86 {G : Gl} {xr : Int32} {σr : Sg} (n : Nat) (v0 : Nat) (v1 : Int32) (v2 : Int32) (σ : Sg) (h : b_X12_order_86 n v0 v1 v2 σ = some (xr, σr)) : RN G M_X12_order 86 [some (.ref v0), some (.int v1), some (.int v2)] [] σ (.inl (some (.int xr))) σr := by
  unfold b_X12_order_86 at h
  refine RN_iconst (pc := 86) (n := 0) (v := 0) (by decide +kernel) (by decide) ?_
  refine RN_istore_n (pc := 87) (k := 3) (ls2 := [some (.ref v0), some (.int v1), some (.int v2), some (.int (0 : Int32))]) (by decide +kernel) rfl (by decide) rfl ?_
  exact RN_weak (l := [some (.ref v0), some (.int v1), some (.int v2), some (.int (0 : Int32))]) (And.intro rfl (And.intro rfl (And.intro rfl (And.intro rfl trivial)))) (tb_X12_order_88 v0 v1 v2 n (0 : Int32) σ h)
def b_X12_order_57 : Nat → Nat → Int32 → Int32 → Int32 → Sg → Option (Int32 × Sg)
  | 0, _, _, _, _, _ => none
  | n + 1, v0, v1, v2, v3, σ =>
  ck (okO σ v0 11) <|
  if (gI σ v0 3) ≤ v3 then (
    b_X12_order_86 n v0 v1 v2 σ)
  else (
    ck (¬ gR σ v0 47 = 0) <|
    nm (gR σ v0 47) fun r100 =>
    ck (¬ gR σ v0 22 = 0) <|
    nm (gR σ v0 22) fun r102 =>
    ck (okA σ r102 14 ((12 : Int32) + v3)) <|
    ck (okW σ r100 14 v3) <|
    nm (pJ σ r100 v3.toNatClampNeg (gJ σ r102 ((12 : Int32) + v3).toNatClampNeg)) fun σ105 =>
    nm (v3 + (1 : Int32)) fun x106 =>
    b_X12_order_57 n v0 v1 v2 x106 σ105)
set_option maxRecDepth 20000 in
theorem tb_X12_order_57 {G : Gl} {xr : Int32} {σr : Sg} (v0 : Nat) (v1 : Int32) (v2 : Int32) : ∀ (n : Nat) (v3 : Int32) (σ : Sg), b_X12_order_57 n v0 v1 v2 v3 σ = some (xr, σr) → RN G M_X12_order 57 [some (.ref v0), some (.int v1), some (.int v2), some (.int v3)] [] σ (.inl (some (.int xr))) σr := by
  intro n
  induction n with
  | zero =>
    intro v3 σ h
    exact none_el h
  | succ n ih =>
    intro v3 σ h
    rw [b_X12_order_57] at h
    refine RN_iload_n (pc := 57) (k := 3) (by decide +kernel) rfl rfl ?_
    refine RN_aload_n (pc := 58) (k := 0) (by decide +kernel) rfl rfl ?_
    obtain ⟨c67, h⟩ := ck_el h
    refine RN_getI (pc := 59) (idx := 137) (ci := 11) (k := 3) (by decide +kernel) lf_RX12_137 (Or.inl rfl) c67 ?_
    refine RN_icmp_ge (pc := 62) (off := 24) (tgt := 86) (by decide +kernel) (by decide) (fun c68 => ?_) (fun c68 => ?_)
    · replace h := it_t c68 h
      exact RN_weak (l := [some (.ref v0), some (.int v1), some (.int v2)]) (And.intro rfl (And.intro rfl (And.intro rfl trivial))) (tb_X12_order_86 n v0 v1 v2 σ h)
    · replace h := it_f c68 h
      refine RN_aload_n (pc := 65) (k := 0) (by decide +kernel) rfl rfl ?_
      obtain ⟨c99, h⟩ := ck_el h
      refine RN_getR (pc := 66) (idx := 113) (ci := 11) (k := 47) (by decide +kernel) lf_RX12_113 rfl c67 c99 ?_
      obtain ⟨r100, er100, h⟩ := nm_el h
      refine RN_nmR er100 ?_
      refine RN_iload_n (pc := 69) (k := 3) (by decide +kernel) rfl rfl ?_
      refine RN_aload_n (pc := 70) (k := 0) (by decide +kernel) rfl rfl ?_
      obtain ⟨c101, h⟩ := ck_el h
      refine RN_getR (pc := 71) (idx := 57) (ci := 11) (k := 22) (by decide +kernel) lf_RX12_57 rfl c67 c101 ?_
      obtain ⟨r102, er102, h⟩ := nm_el h
      refine RN_nmR er102 ?_
      refine RN_bipush (pc := 74) (n := 12) (v := 12) (by decide +kernel) (by decide) ?_
      refine RN_iload_n (pc := 76) (k := 3) (by decide +kernel) rfl rfl ?_
      refine RN_iadd (pc := 77) (by decide +kernel) ?_
      obtain ⟨c103, h⟩ := ck_el h
      refine RN_lald (pc := 78) (by decide +kernel) c103 ?_
      obtain ⟨c104, h⟩ := ck_el h
      refine RN_last (pc := 79) (by decide +kernel) c104 ?_
      obtain ⟨σ105, eσ105, h⟩ := nm_el h
      refine RN_nmS eσ105 ?_
      obtain ⟨x106, ex106, h⟩ := nm_el h
      refine RN_iinc (pc := 80) (i := 3) (n := 1) (v := x106) (ls2 := [some (.ref v0), some (.int v1), some (.int v2), some (.int x106)]) (by decide +kernel) rfl (by rw [ex106]; rfl) (by decide) rfl ?_
      refine RN_goto (pc := 83) (off := -26) (tgt := 57) (by decide +kernel) (by decide) ?_
      exact RN_weak (l := [some (.ref v0), some (.int v1), some (.int v2), some (.int x106)]) (And.intro rfl (And.intro rfl (And.intro rfl (And.intro rfl trivial)))) (ih x106 σ105 h)
def b_X12_order_45 (n : Nat) (v0 : Nat) (v1 : Int32) (σ : Sg) : Option (Int32 × Sg) :=
  ck (okO σ v0 11) <|
  bd (f_X12_triesOrder n v0 v1 σ) fun x63 σ62 =>
  ck (okO σ62 v0 11) <|
  bp (f_X12_notes n v0 σ62) fun σ66 =>
  b_X12_order_57 n v0 v1 x63 (0 : Int32) σ66
set_option maxRecDepth 20000 in
theorem tb_X12_order_45 {G : Gl} {xr : Int32} {σr : Sg} (n : Nat) (v0 : Nat) (v1 : Int32) (σ : Sg) (h : b_X12_order_45 n v0 v1 σ = some (xr, σr)) : RN G M_X12_order 45 [some (.ref v0), some (.int v1)] [] σ (.inl (some (.int xr))) σr := by
  unfold b_X12_order_45 at h
  refine RN_aload_n (pc := 45) (k := 0) (by decide +kernel) rfl rfl ?_
  refine RN_iload_n (pc := 46) (k := 1) (by decide +kernel) rfl rfl ?_
  obtain ⟨c60, h⟩ := ck_el h
  obtain ⟨x63, σ62, f61, h⟩ := bd_el h
  refine RN_callV (M := M_X12_order) (pc := 47) (idx := 361) (as := [.int v1]) (st := []) (t_X12_triesOrder f61) (by decide +kernel) lk_RX12_361 rfl ⟨by decide, fun q hq => by cases hq; rfl⟩ c60 (Nat.le_of_ble_eq_true rfl) ⟨Nat.le_of_ble_eq_true rfl, Nat.le_of_ble_eq_true rfl⟩ rfl ?_
  show RN G M_X12_order 50 [some (.ref v0), some (.int v1)] [.int x63] σ62 _ _
  refine RN_istore_n (pc := 50) (k := 2) (ls2 := [some (.ref v0), some (.int v1), some (.int x63)]) (by decide +kernel) rfl (by decide) rfl ?_
  refine RN_aload_n (pc := 51) (k := 0) (by decide +kernel) rfl rfl ?_
  obtain ⟨c64, h⟩ := ck_el h
  obtain ⟨σ66, f65, h⟩ := bp_el h
  refine RN_callV (M := M_X12_order) (pc := 52) (idx := 293) (as := []) (st := []) (t_X12_notes f65) (by decide +kernel) lk_RX12_293 rfl ⟨by decide, fun q hq => by cases hq; rfl⟩ c64 (Nat.le_of_ble_eq_true rfl) ⟨Nat.le_of_ble_eq_true rfl, Nat.le_of_ble_eq_true rfl⟩ rfl ?_
  show RN G M_X12_order 55 [some (.ref v0), some (.int v1), some (.int x63)] [] σ66 _ _
  refine RN_iconst (pc := 55) (n := 0) (v := 0) (by decide +kernel) (by decide) ?_
  refine RN_istore_n (pc := 56) (k := 3) (ls2 := [some (.ref v0), some (.int v1), some (.int x63), some (.int (0 : Int32))]) (by decide +kernel) rfl (by decide) rfl ?_
  exact RN_weak (l := [some (.ref v0), some (.int v1), some (.int x63), some (.int (0 : Int32))]) (And.intro rfl (And.intro rfl (And.intro rfl (And.intro rfl trivial)))) (tb_X12_order_57 v0 v1 x63 n (0 : Int32) σ66 h)
def b_X12_order_24 : Nat → Nat → Int32 → Int32 → Sg → Option (Int32 × Sg)
  | 0, _, _, _, _ => none
  | n + 1, v0, v1, v2, σ =>
  ck (okO σ v0 11) <|
  if (gI σ v0 3) ≤ v2 then (
    b_X12_order_45 n v0 v1 σ)
  else (
    ck (¬ gR σ v0 46 = 0) <|
    nm (gR σ v0 46) fun r108 =>
    ck (okW σ r108 13 v2) <|
    nm (pI σ r108 v2.toNatClampNeg v2) fun σ110 =>
    nm (v2 + (1 : Int32)) fun x111 =>
    b_X12_order_24 n v0 v1 x111 σ110)
set_option maxRecDepth 20000 in
theorem tb_X12_order_24 {G : Gl} {xr : Int32} {σr : Sg} (v0 : Nat) (v1 : Int32) : ∀ (n : Nat) (v2 : Int32) (σ : Sg), b_X12_order_24 n v0 v1 v2 σ = some (xr, σr) → RN G M_X12_order 24 [some (.ref v0), some (.int v1), some (.int v2)] [] σ (.inl (some (.int xr))) σr := by
  intro n
  induction n with
  | zero =>
    intro v2 σ h
    exact none_el h
  | succ n ih =>
    intro v2 σ h
    rw [b_X12_order_24] at h
    refine RN_iload_n (pc := 24) (k := 2) (by decide +kernel) rfl rfl ?_
    refine RN_aload_n (pc := 25) (k := 0) (by decide +kernel) rfl rfl ?_
    obtain ⟨c58, h⟩ := ck_el h
    refine RN_getI (pc := 26) (idx := 137) (ci := 11) (k := 3) (by decide +kernel) lf_RX12_137 (Or.inl rfl) c58 ?_
    refine RN_icmp_ge (pc := 29) (off := 16) (tgt := 45) (by decide +kernel) (by decide) (fun c59 => ?_) (fun c59 => ?_)
    · replace h := it_t c59 h
      exact RN_weak (l := [some (.ref v0), some (.int v1)]) (And.intro rfl (And.intro rfl trivial)) (tb_X12_order_45 n v0 v1 σ h)
    · replace h := it_f c59 h
      refine RN_aload_n (pc := 32) (k := 0) (by decide +kernel) rfl rfl ?_
      obtain ⟨c107, h⟩ := ck_el h
      refine RN_getR (pc := 33) (idx := 110) (ci := 11) (k := 46) (by decide +kernel) lf_RX12_110 rfl c58 c107 ?_
      obtain ⟨r108, er108, h⟩ := nm_el h
      refine RN_nmR er108 ?_
      refine RN_iload_n (pc := 36) (k := 2) (by decide +kernel) rfl rfl ?_
      refine RN_iload_n (pc := 37) (k := 2) (by decide +kernel) rfl rfl ?_
      obtain ⟨c109, h⟩ := ck_el h
      refine RN_iast (pc := 38) (by decide +kernel) c109 ?_
      obtain ⟨σ110, eσ110, h⟩ := nm_el h
      refine RN_nmS eσ110 ?_
      obtain ⟨x111, ex111, h⟩ := nm_el h
      refine RN_iinc (pc := 39) (i := 2) (n := 1) (v := x111) (ls2 := [some (.ref v0), some (.int v1), some (.int x111)]) (by decide +kernel) rfl (by rw [ex111]; rfl) (by decide) rfl ?_
      refine RN_goto (pc := 42) (off := -18) (tgt := 24) (by decide +kernel) (by decide) ?_
      exact RN_weak (l := [some (.ref v0), some (.int v1), some (.int x111)]) (And.intro rfl (And.intro rfl (And.intro rfl trivial))) (ih x111 σ110 h)
def f_X12_order (n : Nat) (v0 : Nat) (v1 : Int32) (σ : Sg) : Option (Int32 × Sg) :=
  ck (okO σ v0 11) <|
  bp (f_X12_isProgram v0 v1 σ) fun x55 =>
  if x55 = 0 then (
    some ((-1 : Int32), σ))
  else (
    if (gI σ v0 3) ≤ (6 : Int32) then (
      b_X12_order_24 n v0 v1 (0 : Int32) σ)
    else (
      some ((-2 : Int32), σ)))
set_option maxRecDepth 20000 in
theorem t_X12_order {G : Gl} {xr : Int32} {σr : Sg} {n : Nat} {v0 : Nat} {v1 : Int32} {σ : Sg} (h : f_X12_order n v0 v1 σ = some (xr, σr)) : MT G M_X12_order [.ref v0, .int v1] σ (some (.int xr)) σr := by
  refine MT_of rfl rfl (Nat.le_of_ble_eq_true rfl) ?_
  show RN G M_X12_order 0 [some (.ref v0), some (.int v1)] [] σ (.inl (some (.int xr))) σr
  unfold f_X12_order at h
  refine RN_aload_n (pc := 0) (k := 0) (by decide +kernel) rfl rfl ?_
  refine RN_iload_n (pc := 1) (k := 1) (by decide +kernel) rfl rfl ?_
  obtain ⟨c53, h⟩ := ck_el h
  obtain ⟨x55, f54, h⟩ := bp_el h
  refine RN_callV (M := M_X12_order) (pc := 2) (idx := 172) (as := [.int v1]) (st := []) (t_X12_isProgram f54) (by decide +kernel) lk_RX12_172 rfl ⟨by decide, fun q hq => by cases hq; rfl⟩ c53 (Nat.le_of_ble_eq_true rfl) ⟨Nat.le_of_ble_eq_true rfl, Nat.le_of_ble_eq_true rfl⟩ rfl ?_
  show RN G M_X12_order 5 [some (.ref v0), some (.int v1)] [.int x55] σ _ _
  refine RN_if_ne (pc := 5) (off := 5) (tgt := 10) (by decide +kernel) (by decide) (fun c56 => ?_) (fun c56 => ?_)
  · replace h := it_f c56 h
    refine RN_aload_n (pc := 10) (k := 0) (by decide +kernel) rfl rfl ?_
    refine RN_getI (pc := 11) (idx := 137) (ci := 11) (k := 3) (by decide +kernel) lf_RX12_137 (Or.inl rfl) c53 ?_
    refine RN_bipush (pc := 14) (n := 6) (v := 6) (by decide +kernel) (by decide) ?_
    refine RN_icmp_le (pc := 16) (off := 6) (tgt := 22) (by decide +kernel) (by decide) (fun c57 => ?_) (fun c57 => ?_)
    · replace h := it_t c57 h
      refine RN_iconst (pc := 22) (n := 0) (v := 0) (by decide +kernel) (by decide) ?_
      refine RN_istore_n (pc := 23) (k := 2) (ls2 := [some (.ref v0), some (.int v1), some (.int (0 : Int32))]) (by decide +kernel) rfl (by decide) rfl ?_
      exact RN_weak (l := [some (.ref v0), some (.int v1), some (.int (0 : Int32))]) (And.intro rfl (And.intro rfl (And.intro rfl trivial))) (tb_X12_order_24 v0 v1 n (0 : Int32) σ h)
    · replace h := it_f c57 h
      refine RN_bipush (pc := 19) (n := -2) (v := -2) (by decide +kernel) (by decide) ?_
      obtain ⟨rfl, rfl⟩ := some_el2 h
      exact RN_ireturn (by decide +kernel) rfl
  · replace h := it_t c56 h
    refine RN_iconst (pc := 8) (n := -1) (v := -1) (by decide +kernel) (by decide) ?_
    obtain ⟨rfl, rfl⟩ := some_el2 h
    exact RN_ireturn (by decide +kernel) rfl
