def b_X7_divide_150 (n : Nat) (v7 : Int64) (s0 : Int32) (s1 : Nat) (σ : Sg) : Option Sg :=
  ck (okA σ s1 14 s0) <|
  ck (okW σ s1 14 s0) <|
  nm (pJ σ s1 s0.toNatClampNeg ((gJ σ s1 s0.toNatClampNeg) + v7)) fun σ66 =>
  some σ66
set_option maxRecDepth 20000 in
theorem tb_X7_divide_150 {G : Gl} {σr : Sg} (n : Nat) (v7 : Int64) (s0 : Int32) (s1 : Nat) (σ : Sg) (h : b_X7_divide_150 n v7 s0 s1 σ = some σr) : RN G M_X7_divide 150 [none, none, none, none, none, none, none, some (.long v7)] [.int s0, .ref s1] σ (.inl none) σr := by
  unfold b_X7_divide_150 at h
  refine RN_dup2_11 (pc := 150) (by decide +kernel) rfl rfl ?_
  obtain ⟨c64, h⟩ := ck_el h
  refine RN_lald (pc := 151) (by decide +kernel) c64 ?_
  refine RN_lload (pc := 152) (i := 7) (by decide +kernel) rfl ?_
  refine RN_ladd (pc := 154) (by decide +kernel) ?_
  obtain ⟨c65, h⟩ := ck_el h
  refine RN_last (pc := 155) (by decide +kernel) c65 ?_
  obtain ⟨σ66, eσ66, h⟩ := nm_el h
  refine RN_nmS eσ66 ?_
  obtain rfl := some_el h
  exact RN_return (by decide +kernel) rfl
def b_X7_divide_104 (n : Nat) (v0 : Nat) (v3 : Int32) (v7 : Int64) (σ : Sg) : Option Sg :=
  if v3 = 0 then (
    ck (okO σ v0 6) <|
    bp (f_X7_giveByRests n v0 v7 σ) fun σ72 =>
    some σ72)
  else (
    if v3 = (1 : Int32) then (
      ck (okO σ v0 6) <|
      bp (f_X7_giveInOrder n v0 v7 σ) fun σ69 =>
      some σ69)
    else (
      ck (okO σ v0 6) <|
      ck (¬ gR σ v0 0 = 0) <|
      nm (gR σ v0 0) fun r62 =>
      if v3 = (2 : Int32) then (
        b_X7_divide_150 n v7 ((gI σ v0 4) - (1 : Int32)) r62 σ)
      else (
        b_X7_divide_150 n v7 (0 : Int32) r62 σ)))
set_option maxRecDepth 20000 in
theorem tb_X7_divide_104 {G : Gl} {σr : Sg} (n : Nat) (v0 : Nat) (v3 : Int32) (v7 : Int64) (σ : Sg) (h : b_X7_divide_104 n v0 v3 v7 σ = some σr) : RN G M_X7_divide 104 [some (.ref v0), none, none, some (.int v3), none, none, none, some (.long v7)] [] σ (.inl none) σr := by
  unfold b_X7_divide_104 at h
  refine RN_iload_n (pc := 104) (k := 3) (by decide +kernel) rfl rfl ?_
  refine RN_if_ne (pc := 105) (off := 12) (tgt := 117) (by decide +kernel) (by decide) (fun c58 => ?_) (fun c58 => ?_)
  · replace h := it_f c58 h
    refine RN_iload_n (pc := 117) (k := 3) (by decide +kernel) rfl rfl ?_
    refine RN_iconst (pc := 118) (n := 1) (v := 1) (by decide +kernel) (by decide) ?_
    refine RN_icmp_ne (pc := 119) (off := 12) (tgt := 131) (by decide +kernel) (by decide) (fun c59 => ?_) (fun c59 => ?_)
    · replace h := it_f c59 h
      refine RN_aload_n (pc := 131) (k := 0) (by decide +kernel) rfl rfl ?_
      obtain ⟨c60, h⟩ := ck_el h
      obtain ⟨c61, h⟩ := ck_el h
      refine RN_getR (pc := 132) (idx := 9) (ci := 6) (k := 0) (by decide +kernel) lf_RX7_9 rfl c60 c61 ?_
      obtain ⟨r62, er62, h⟩ := nm_el h
      refine RN_nmR er62 ?_
      refine RN_iload_n (pc := 135) (k := 3) (by decide +kernel) rfl rfl ?_
      refine RN_iconst (pc := 136) (n := 2) (v := 2) (by decide +kernel) (by decide) ?_
      refine RN_icmp_ne (pc := 137) (off := 12) (tgt := 149) (by decide +kernel) (by decide) (fun c63 => ?_) (fun c63 => ?_)
      · replace h := it_f c63 h
        refine RN_iconst (pc := 149) (n := 0) (v := 0) (by decide +kernel) (by decide) ?_
        exact RN_weak (l := [none, none, none, none, none, none, none, some (.long v7)]) (And.intro rfl trivial) (tb_X7_divide_150 n v7 (0 : Int32) r62 σ h)
      · replace h := it_t c63 h
        refine RN_aload_n (pc := 140) (k := 0) (by decide +kernel) rfl rfl ?_
        refine RN_getI (pc := 141) (idx := 37) (ci := 6) (k := 4) (by decide +kernel) lf_RX7_37 (Or.inl rfl) c60 ?_
        refine RN_iconst (pc := 144) (n := 1) (v := 1) (by decide +kernel) (by decide) ?_
        refine RN_isub (pc := 145) (by decide +kernel) ?_
        refine RN_goto (pc := 146) (off := 4) (tgt := 150) (by decide +kernel) (by decide) ?_
        exact RN_weak (l := [none, none, none, none, none, none, none, some (.long v7)]) (And.intro rfl trivial) (tb_X7_divide_150 n v7 ((gI σ v0 4) - (1 : Int32)) r62 σ h)
    · replace h := it_t c59 h
      refine RN_aload_n (pc := 122) (k := 0) (by decide +kernel) rfl rfl ?_
      refine RN_lload (pc := 123) (i := 7) (by decide +kernel) rfl ?_
      obtain ⟨c67, h⟩ := ck_el h
      obtain ⟨σ69, f68, h⟩ := bp_el h
      refine RN_callV (M := M_X7_divide) (pc := 125) (idx := 54) (as := [.long v7]) (st := []) (t_X7_giveInOrder f68) (by decide +kernel) lk_RX7_54 rfl ⟨by decide, fun q hq => by cases hq; rfl⟩ c67 (Nat.le_of_ble_eq_true rfl) ⟨Nat.le_of_ble_eq_true rfl, Nat.le_of_ble_eq_true rfl⟩ rfl ?_
      show RN G M_X7_divide 128 [some (.ref v0), none, none, some (.int v3), none, none, none, some (.long v7)] [] σ69 _ _
      refine RN_goto (pc := 128) (off := 28) (tgt := 156) (by decide +kernel) (by decide) ?_
      obtain rfl := some_el h
      exact RN_return (by decide +kernel) rfl
  · replace h := it_t c58 h
    refine RN_aload_n (pc := 108) (k := 0) (by decide +kernel) rfl rfl ?_
    refine RN_lload (pc := 109) (i := 7) (by decide +kernel) rfl ?_
    obtain ⟨c70, h⟩ := ck_el h
    obtain ⟨σ72, f71, h⟩ := bp_el h
    refine RN_callV (M := M_X7_divide) (pc := 111) (idx := 50) (as := [.long v7]) (st := []) (t_X7_giveByRests f71) (by decide +kernel) lk_RX7_50 rfl ⟨by decide, fun q hq => by cases hq; rfl⟩ c70 (Nat.le_of_ble_eq_true rfl) ⟨Nat.le_of_ble_eq_true rfl, Nat.le_of_ble_eq_true rfl⟩ rfl ?_
    show RN G M_X7_divide 114 [some (.ref v0), none, none, some (.int v3), none, none, none, some (.long v7)] [] σ72 _ _
    refine RN_goto (pc := 114) (off := 42) (tgt := 156) (by decide +kernel) (by decide) ?_
    obtain rfl := some_el h
    exact RN_return (by decide +kernel) rfl
def b_X7_divide_47 : Nat → Nat → Int32 → Int32 → Int64 → Int32 → Sg → Option Sg
  | 0, _, _, _, _, _, _ => none
  | n + 1, v0, v3, v6, v7, v9, σ =>
  ck (okO σ v0 6) <|
  if (gI σ v0 4) ≤ v9 then (
    b_X7_divide_104 n v0 v3 v7 σ)
  else (
    ck (¬ gR σ v0 0 = 0) <|
    nm (gR σ v0 0) fun r74 =>
    ck (¬ gR σ v0 2 = 0) <|
    nm (gR σ v0 2) fun r76 =>
    ck (okA σ r76 13 v9) <|
    bp (f_X3_rounding ((gJ σ v0 6) * ((gI σ r76 v9.toNatClampNeg).toInt64)) (gJ σ v0 5) (1 : Int64) v6) fun x79 =>
    ck (okW σ r74 14 v9) <|
    nm (pJ σ r74 v9.toNatClampNeg x79) fun σ81 =>
    ck (okO σ81 v0 6) <|
    ck (¬ gR σ81 v0 0 = 0) <|
    nm (gR σ81 v0 0) fun r84 =>
    ck (okA σ81 r84 14 v9) <|
    nm (v7 - (gJ σ81 r84 v9.toNatClampNeg)) fun x86 =>
    nm (v9 + (1 : Int32)) fun x87 =>
    b_X7_divide_47 n v0 v3 v6 x86 x87 σ81)
set_option maxRecDepth 20000 in
theorem tb_X7_divide_47 {G : Gl} {σr : Sg} (v0 : Nat) (v3 : Int32) (v6 : Int32) : ∀ (n : Nat) (v7 : Int64) (v9 : Int32) (σ : Sg), b_X7_divide_47 n v0 v3 v6 v7 v9 σ = some σr → RN G M_X7_divide 47 [some (.ref v0), none, none, some (.int v3), none, none, some (.int v6), some (.long v7), none, some (.int v9)] [] σ (.inl none) σr := by
  intro n
  induction n with
  | zero =>
    intro v7 v9 σ h
    exact none_el h
  | succ n ih =>
    intro v7 v9 σ h
    rw [b_X7_divide_47] at h
    refine RN_iload (pc := 47) (i := 9) (by decide +kernel) rfl ?_
    refine RN_aload_n (pc := 49) (k := 0) (by decide +kernel) rfl rfl ?_
    obtain ⟨c56, h⟩ := ck_el h
    refine RN_getI (pc := 50) (idx := 37) (ci := 6) (k := 4) (by decide +kernel) lf_RX7_37 (Or.inl rfl) c56 ?_
    refine RN_icmp_ge (pc := 53) (off := 51) (tgt := 104) (by decide +kernel) (by decide) (fun c57 => ?_) (fun c57 => ?_)
    · replace h := it_t c57 h
      exact RN_weak (l := [some (.ref v0), none, none, some (.int v3), none, none, none, some (.long v7)]) (And.intro rfl (And.intro rfl (And.intro rfl trivial))) (tb_X7_divide_104 n v0 v3 v7 σ h)
    · replace h := it_f c57 h
      refine RN_aload_n (pc := 56) (k := 0) (by decide +kernel) rfl rfl ?_
      obtain ⟨c73, h⟩ := ck_el h
      refine RN_getR (pc := 57) (idx := 9) (ci := 6) (k := 0) (by decide +kernel) lf_RX7_9 rfl c56 c73 ?_
      obtain ⟨r74, er74, h⟩ := nm_el h
      refine RN_nmR er74 ?_
      refine RN_iload (pc := 60) (i := 9) (by decide +kernel) rfl ?_
      refine RN_aload_n (pc := 62) (k := 0) (by decide +kernel) rfl rfl ?_
      refine RN_getJ (pc := 63) (idx := 29) (ci := 6) (k := 6) (by decide +kernel) lf_RX7_29 rfl c56 ?_
      refine RN_aload_n (pc := 66) (k := 0) (by decide +kernel) rfl rfl ?_
      obtain ⟨c75, h⟩ := ck_el h
      refine RN_getR (pc := 67) (idx := 15) (ci := 6) (k := 2) (by decide +kernel) lf_RX7_15 rfl c56 c75 ?_
      obtain ⟨r76, er76, h⟩ := nm_el h
      refine RN_nmR er76 ?_
      refine RN_iload (pc := 70) (i := 9) (by decide +kernel) rfl ?_
      obtain ⟨c77, h⟩ := ck_el h
      refine RN_iald (pc := 72) (by decide +kernel) c77 ?_
      refine RN_i2l (pc := 73) (by decide +kernel) ?_
      refine RN_lmul (pc := 74) (by decide +kernel) ?_
      refine RN_aload_n (pc := 75) (k := 0) (by decide +kernel) rfl rfl ?_
      refine RN_getJ (pc := 76) (idx := 41) (ci := 6) (k := 5) (by decide +kernel) lf_RX7_41 rfl c56 ?_
      refine RN_lconst (pc := 79) (n := 1) (v := 1) (by decide +kernel) (by decide) ?_
      refine RN_iload (pc := 80) (i := 6) (by decide +kernel) rfl ?_
      obtain ⟨x79, f78, h⟩ := bp_el h
      refine RN_callS (M := M_X7_divide) (pc := 82) (idx := 44) (as := [.long ((gJ σ v0 6) * ((gI σ r76 v9.toNatClampNeg).toInt64)), .long (gJ σ v0 5), .long (1 : Int64), .int v6]) (st := [.int v9, .ref r74]) (t_X3_rounding f78) (by decide +kernel) lk_RX7_44 rfl (Nat.le_of_ble_eq_true rfl) ⟨Nat.le_of_ble_eq_true rfl, Nat.le_of_ble_eq_true rfl⟩ rfl ?_
      show RN G M_X7_divide 85 [some (.ref v0), none, none, some (.int v3), none, none, some (.int v6), some (.long v7), none, some (.int v9)] [.long x79, .int v9, .ref r74] σ _ _
      obtain ⟨c80, h⟩ := ck_el h
      refine RN_last (pc := 85) (by decide +kernel) c80 ?_
      obtain ⟨σ81, eσ81, h⟩ := nm_el h
      refine RN_nmS eσ81 ?_
      refine RN_lload (pc := 86) (i := 7) (by decide +kernel) rfl ?_
      refine RN_aload_n (pc := 88) (k := 0) (by decide +kernel) rfl rfl ?_
      obtain ⟨c82, h⟩ := ck_el h
      obtain ⟨c83, h⟩ := ck_el h
      refine RN_getR (pc := 89) (idx := 9) (ci := 6) (k := 0) (by decide +kernel) lf_RX7_9 rfl c82 c83 ?_
      obtain ⟨r84, er84, h⟩ := nm_el h
      refine RN_nmR er84 ?_
      refine RN_iload (pc := 92) (i := 9) (by decide +kernel) rfl ?_
      obtain ⟨c85, h⟩ := ck_el h
      refine RN_lald (pc := 94) (by decide +kernel) c85 ?_
      refine RN_lsub (pc := 95) (by decide +kernel) ?_
      obtain ⟨x86, ex86, h⟩ := nm_el h
      refine RN_nmJ ex86 ?_
      refine RN_lstore (pc := 96) (i := 7) (ls2 := [some (.ref v0), none, none, some (.int v3), none, none, some (.int v6), some (.long x86), none, some (.int v9)]) (by decide +kernel) (by decide) rfl ?_
      obtain ⟨x87, ex87, h⟩ := nm_el h
      refine RN_iinc (pc := 98) (i := 9) (n := 1) (v := x87) (ls2 := [some (.ref v0), none, none, some (.int v3), none, none, some (.int v6), some (.long x86), none, some (.int x87)]) (by decide +kernel) rfl (by rw [ex87]; rfl) (by decide) rfl ?_
      refine RN_goto (pc := 101) (off := -54) (tgt := 47) (by decide +kernel) (by decide) ?_
      exact RN_weak (l := [some (.ref v0), none, none, some (.int v3), none, none, some (.int v6), some (.long x86), none, some (.int x87)]) (And.intro rfl (And.intro rfl (And.intro rfl (And.intro rfl (And.intro rfl trivial))))) (ih x86 x87 σ81 h)
def b_X7_divide_36 (n : Nat) (v0 : Nat) (v3 : Int32) (s0 : Int32) (σ : Sg) : Option Sg :=
  ck (okO σ v0 6) <|
  nm (gJ σ v0 6) fun x55 =>
  b_X7_divide_47 n v0 v3 s0 x55 (0 : Int32) σ
set_option maxRecDepth 20000 in
theorem tb_X7_divide_36 {G : Gl} {σr : Sg} (n : Nat) (v0 : Nat) (v3 : Int32) (s0 : Int32) (σ : Sg) (h : b_X7_divide_36 n v0 v3 s0 σ = some σr) : RN G M_X7_divide 36 [some (.ref v0), none, none, some (.int v3)] [.int s0] σ (.inl none) σr := by
  unfold b_X7_divide_36 at h
  refine RN_istore (pc := 36) (i := 6) (ls2 := [some (.ref v0), none, none, some (.int v3), none, none, some (.int s0)]) (by decide +kernel) (by decide) rfl ?_
  refine RN_aload_n (pc := 38) (k := 0) (by decide +kernel) rfl rfl ?_
  obtain ⟨c54, h⟩ := ck_el h
  refine RN_getJ (pc := 39) (idx := 29) (ci := 6) (k := 6) (by decide +kernel) lf_RX7_29 rfl c54 ?_
  obtain ⟨x55, ex55, h⟩ := nm_el h
  refine RN_nmJ ex55 ?_
  refine RN_lstore (pc := 42) (i := 7) (ls2 := [some (.ref v0), none, none, some (.int v3), none, none, some (.int s0), some (.long x55), none]) (by decide +kernel) (by decide) rfl ?_
  refine RN_iconst (pc := 44) (n := 0) (v := 0) (by decide +kernel) (by decide) ?_
  refine RN_istore (pc := 45) (i := 9) (ls2 := [some (.ref v0), none, none, some (.int v3), none, none, some (.int s0), some (.long x55), none, some (.int (0 : Int32))]) (by decide +kernel) (by decide) rfl ?_
  exact RN_weak (l := [some (.ref v0), none, none, some (.int v3), none, none, some (.int s0), some (.long x55), none, some (.int (0 : Int32))]) (And.intro rfl (And.intro rfl (And.intro rfl (And.intro rfl (And.intro rfl trivial))))) (tb_X7_divide_47 v0 v3 s0 n x55 (0 : Int32) σ h)
def b_X7_divide_31 (n : Nat) (v0 : Nat) (v3 : Int32) (σ : Sg) : Option Sg :=
  b_X7_divide_36 n v0 v3 (4 : Int32) σ
set_option maxRecDepth 20000 in
theorem tb_X7_divide_31 {G : Gl} {σr : Sg} (n : Nat) (v0 : Nat) (v3 : Int32) (σ : Sg) (h : b_X7_divide_31 n v0 v3 σ = some σr) : RN G M_X7_divide 31 [some (.ref v0), none, none, some (.int v3)] [] σ (.inl none) σr := by
  unfold b_X7_divide_31 at h
  refine RN_iconst (pc := 31) (n := 4) (v := 4) (by decide +kernel) (by decide) ?_
  refine RN_goto (pc := 32) (off := 4) (tgt := 36) (by decide +kernel) (by decide) ?_
  exact RN_weak (l := [some (.ref v0), none, none, some (.int v3)]) (And.intro rfl (And.intro rfl trivial)) (tb_X7_divide_36 n v0 v3 (4 : Int32) σ h)
def f_X7_divide (n : Nat) (v0 : Nat) (v1 : Int64) (v3 : Int32) (v4 : Nat) (v5 : Int32) (σ : Sg) : Option Sg :=
  ck (okO σ v0 6) <|
  bp (f_X7_wipe n v0 σ) fun σ45 =>
  ck (okO σ45 v0 6) <|
  nm (pI σ45 v0 1 (1 : Int32)) fun σ47 =>
  ck (okO σ47 v0 6) <|
  nm (pJ σ47 v0 6 v1) fun σ49 =>
  ck (okO σ49 v0 6) <|
  bp (f_X7_weigh n v0 v4 v5 σ49) fun σ52 =>
  if v3 = 0 then (
    b_X7_divide_31 n v0 v3 σ52)
  else (
    if v3 = (1 : Int32) then (
      b_X7_divide_31 n v0 v3 σ52)
    else (
      b_X7_divide_36 n v0 v3 (0 : Int32) σ52))
set_option maxRecDepth 20000 in
theorem t_X7_divide {G : Gl} {σr : Sg} {n : Nat} {v0 : Nat} {v1 : Int64} {v3 : Int32} {v4 : Nat} {v5 : Int32} {σ : Sg} (h : f_X7_divide n v0 v1 v3 v4 v5 σ = some σr) : MT G M_X7_divide [.ref v0, .long v1, .int v3, .ref v4, .int v5] σ none σr := by
  refine MT_of rfl rfl (Nat.le_of_ble_eq_true rfl) ?_
  show RN G M_X7_divide 0 [some (.ref v0), some (.long v1), none, some (.int v3), some (.ref v4), some (.int v5)] [] σ (.inl none) σr
  unfold f_X7_divide at h
  refine RN_aload_n (pc := 0) (k := 0) (by decide +kernel) rfl rfl ?_
  obtain ⟨c43, h⟩ := ck_el h
  obtain ⟨σ45, f44, h⟩ := bp_el h
  refine RN_callV (M := M_X7_divide) (pc := 1) (idx := 26) (as := []) (st := []) (t_X7_wipe f44) (by decide +kernel) lk_RX7_26 rfl ⟨by decide, fun q hq => by cases hq; rfl⟩ c43 (Nat.le_of_ble_eq_true rfl) ⟨Nat.le_of_ble_eq_true rfl, Nat.le_of_ble_eq_true rfl⟩ rfl ?_
  show RN G M_X7_divide 4 [some (.ref v0), some (.long v1), none, some (.int v3), some (.ref v4), some (.int v5)] [] σ45 _ _
  refine RN_aload_n (pc := 4) (k := 0) (by decide +kernel) rfl rfl ?_
  refine RN_iconst (pc := 5) (n := 1) (v := 1) (by decide +kernel) (by decide) ?_
  obtain ⟨c46, h⟩ := ck_el h
  refine RN_putZ (pc := 6) (idx := 22) (ci := 6) (k := 1) (by decide +kernel) lf_RX7_22 rfl (fun q hq => by cases hq; exact Or.inl rfl) (Or.inr rfl) c46 ?_
  obtain ⟨σ47, eσ47, h⟩ := nm_el h
  refine RN_nmS eσ47 ?_
  refine RN_aload_n (pc := 9) (k := 0) (by decide +kernel) rfl rfl ?_
  refine RN_lload_n (pc := 10) (k := 1) (by decide +kernel) rfl rfl ?_
  obtain ⟨c48, h⟩ := ck_el h
  refine RN_putJ (pc := 11) (idx := 29) (ci := 6) (k := 6) (by decide +kernel) lf_RX7_29 rfl (fun q hq => by cases hq; exact Or.inl rfl) c48 ?_
  obtain ⟨σ49, eσ49, h⟩ := nm_el h
  refine RN_nmS eσ49 ?_
  refine RN_aload_n (pc := 14) (k := 0) (by decide +kernel) rfl rfl ?_
  refine RN_aload (pc := 15) (i := 4) (by decide +kernel) rfl ?_
  refine RN_iload (pc := 17) (i := 5) (by decide +kernel) rfl ?_
  obtain ⟨c50, h⟩ := ck_el h
  obtain ⟨σ52, f51, h⟩ := bp_el h
  refine RN_callV (M := M_X7_divide) (pc := 19) (idx := 33) (as := [.ref v4, .int v5]) (st := []) (t_X7_weigh f51) (by decide +kernel) lk_RX7_33 rfl ⟨by decide, fun q hq => by cases hq; rfl⟩ c50 (Nat.le_of_ble_eq_true rfl) ⟨Nat.le_of_ble_eq_true rfl, Nat.le_of_ble_eq_true rfl⟩ rfl ?_
  show RN G M_X7_divide 22 [some (.ref v0), some (.long v1), none, some (.int v3), some (.ref v4), some (.int v5)] [] σ52 _ _
  refine RN_iload_n (pc := 22) (k := 3) (by decide +kernel) rfl rfl ?_
  refine RN_if_eq (pc := 23) (off := 8) (tgt := 31) (by decide +kernel) (by decide) (fun c53 => ?_) (fun c53 => ?_)
  · replace h := it_t c53 h
    exact RN_weak (l := [some (.ref v0), none, none, some (.int v3)]) (And.intro rfl (And.intro rfl trivial)) (tb_X7_divide_31 n v0 v3 σ52 h)
  · replace h := it_f c53 h
    refine RN_iload_n (pc := 26) (k := 3) (by decide +kernel) rfl rfl ?_
    refine RN_iconst (pc := 27) (n := 1) (v := 1) (by decide +kernel) (by decide) ?_
    refine RN_icmp_ne (pc := 28) (off := 7) (tgt := 35) (by decide +kernel) (by decide) (fun c88 => ?_) (fun c88 => ?_)
    · replace h := it_f c88 h
      refine RN_iconst (pc := 35) (n := 0) (v := 0) (by decide +kernel) (by decide) ?_
      exact RN_weak (l := [some (.ref v0), none, none, some (.int v3)]) (And.intro rfl (And.intro rfl trivial)) (tb_X7_divide_36 n v0 v3 (0 : Int32) σ52 h)
    · replace h := it_t c88 h
      exact RN_weak (l := [some (.ref v0), none, none, some (.int v3)]) (And.intro rfl (And.intro rfl trivial)) (tb_X7_divide_31 n v0 v3 σ52 h)
def f_X2_carry (v0 : Nat) (v1 : Int32) (σ : Sg) : Option Sg :=
  ck (okO σ v0 2) <|
  ck (¬ gR σ v0 2 = 0) <|
  nm (gR σ v0 2) fun r20 =>
  ck (okA σ r20 12 v1) <|
  ck (n64 (FP.dadd (gD σ v0 3) (gD σ r20 v1.toNatClampNeg))) <|
  nm (FP.dadd (gD σ v0 3) (gD σ r20 v1.toNatClampNeg)) fun x23 =>
  nm (gR σ v0 2) fun r24 =>
  bp (f_X2_floor x23) fun x26 =>
  ck (okW σ r24 12 v1) <|
  nm (pD σ r24 v1.toNatClampNeg x26) fun σ28 =>
  ck (okO σ28 v0 2) <|
  ck (¬ gR σ28 v0 2 = 0) <|
  nm (gR σ28 v0 2) fun r31 =>
  ck (okA σ28 r31 12 v1) <|
  ck (n64 (FP.dsub x23 (gD σ28 r31 v1.toNatClampNeg))) <|
  nm (pD σ28 v0 3 (FP.dsub x23 (gD σ28 r31 v1.toNatClampNeg))) fun σ34 =>
  some σ34
set_option maxRecDepth 20000 in
theorem t_X2_carry {G : Gl} {σr : Sg} {v0 : Nat} {v1 : Int32} {σ : Sg} (h : f_X2_carry v0 v1 σ = some σr) : MT G M_X2_carry [.ref v0, .int v1] σ none σr := by
  refine MT_of rfl rfl (Nat.le_of_ble_eq_true rfl) ?_
  show RN G M_X2_carry 0 [some (.ref v0), some (.int v1)] [] σ (.inl none) σr
  unfold f_X2_carry at h
  refine RN_aload_n (pc := 0) (k := 0) (by decide +kernel) rfl rfl ?_
  obtain ⟨c18, h⟩ := ck_el h
  refine RN_getD (pc := 1) (idx := 35) (ci := 2) (k := 3) (by decide +kernel) lf_RX2_35 rfl c18 ?_
  refine RN_aload_n (pc := 4) (k := 0) (by decide +kernel) rfl rfl ?_
  obtain ⟨c19, h⟩ := ck_el h
  refine RN_getR (pc := 5) (idx := 25) (ci := 2) (k := 2) (by decide +kernel) lf_RX2_25 rfl c18 c19 ?_
  obtain ⟨r20, er20, h⟩ := nm_el h
  refine RN_nmR er20 ?_
  refine RN_iload_n (pc := 8) (k := 1) (by decide +kernel) rfl rfl ?_
  obtain ⟨c21, h⟩ := ck_el h
  refine RN_dald (pc := 9) (by decide +kernel) c21 ?_
  obtain ⟨c22, h⟩ := ck_el h
  refine RN_dadd (pc := 10) (by decide +kernel) c22 ?_
  obtain ⟨x23, ex23, h⟩ := nm_el h
  refine RN_nmD ex23 ?_
  refine RN_dstore_n (pc := 11) (k := 2) (ls2 := [some (.ref v0), some (.int v1), some (.double x23), none]) (by decide +kernel) rfl (by decide) rfl ?_
  refine RN_aload_n (pc := 12) (k := 0) (by decide +kernel) rfl rfl ?_
  refine RN_getR (pc := 13) (idx := 25) (ci := 2) (k := 2) (by decide +kernel) lf_RX2_25 rfl c18 c19 ?_
  obtain ⟨r24, er24, h⟩ := nm_el h
  refine RN_nmR er24 ?_
  refine RN_iload_n (pc := 16) (k := 1) (by decide +kernel) rfl rfl ?_
  refine RN_dload_n (pc := 17) (k := 2) (by decide +kernel) rfl rfl ?_
  obtain ⟨x26, f25, h⟩ := bp_el h
  refine RN_callS (M := M_X2_carry) (pc := 18) (idx := 116) (as := [.double x23]) (st := [.int v1, .ref r24]) (t_X2_floor f25) (by decide +kernel) lk_RX2_116 rfl (Nat.le_of_ble_eq_true rfl) ⟨Nat.le_of_ble_eq_true rfl, Nat.le_of_ble_eq_true rfl⟩ rfl ?_
  show RN G M_X2_carry 21 [some (.ref v0), some (.int v1), some (.double x23), none] [.double x26, .int v1, .ref r24] σ _ _
  obtain ⟨c27, h⟩ := ck_el h
  refine RN_dast (pc := 21) (by decide +kernel) c27 ?_
  obtain ⟨σ28, eσ28, h⟩ := nm_el h
  refine RN_nmS eσ28 ?_
  refine RN_aload_n (pc := 22) (k := 0) (by decide +kernel) rfl rfl ?_
  refine RN_dload_n (pc := 23) (k := 2) (by decide +kernel) rfl rfl ?_
  refine RN_aload_n (pc := 24) (k := 0) (by decide +kernel) rfl rfl ?_
  obtain ⟨c29, h⟩ := ck_el h
  obtain ⟨c30, h⟩ := ck_el h
  refine RN_getR (pc := 25) (idx := 25) (ci := 2) (k := 2) (by decide +kernel) lf_RX2_25 rfl c29 c30 ?_
  obtain ⟨r31, er31, h⟩ := nm_el h
  refine RN_nmR er31 ?_
  refine RN_iload_n (pc := 28) (k := 1) (by decide +kernel) rfl rfl ?_
  obtain ⟨c32, h⟩ := ck_el h
  refine RN_dald (pc := 29) (by decide +kernel) c32 ?_
  obtain ⟨c33, h⟩ := ck_el h
  refine RN_dsub (pc := 30) (by decide +kernel) c33 ?_
  refine RN_putD (pc := 31) (idx := 35) (ci := 2) (k := 3) (by decide +kernel) lf_RX2_35 rfl (fun q hq => by cases hq; exact Or.inl rfl) c29 ?_
  obtain ⟨σ34, eσ34, h⟩ := nm_el h
  refine RN_nmS eσ34 ?_
  obtain rfl := some_el h
  exact RN_return (by decide +kernel) rfl
def f_X2_within (v0 : UInt64) : Option UInt64 :=
  if (Op.cmpValue (FP.dcmp v0 (4832362400168542208 : UInt64)) .l) ≤ 0 then (
    if 0 ≤ (Op.cmpValue (FP.dcmp v0 (14055734437023318016 : UInt64)) .g) then (
      some v0)
    else (
      some (14055734437023318016 : UInt64)))
  else (
    some (4832362400168542208 : UInt64))
set_option maxRecDepth 20000 in
theorem t_X2_within {G : Gl} {xr : UInt64} {v0 : UInt64} {σ : Sg} (h : f_X2_within v0 = some xr) : MT G M_X2_within [.double v0] σ (some (.double xr)) σ := by
  refine MT_of rfl rfl (Nat.le_of_ble_eq_true rfl) ?_
  show RN G M_X2_within 0 [some (.double v0), none] [] σ (.inl (some (.double xr))) σ
  unfold f_X2_within at h
  refine RN_dload_n (pc := 0) (k := 0) (by decide +kernel) rfl rfl ?_
  refine RN_ldc2d (pc := 1) (idx := 122) (v := 4832362400168542208) (by decide +kernel) kc_RX2_122 ?_
  refine RN_dcmp (pc := 4) (op := .l) (by decide +kernel) ?_
  refine RN_if_le (pc := 5) (off := 7) (tgt := 12) (by decide +kernel) (by decide) (fun c1 => ?_) (fun c1 => ?_)
  · replace h := it_t c1 h
    refine RN_dload_n (pc := 12) (k := 0) (by decide +kernel) rfl rfl ?_
    refine RN_ldc2d (pc := 13) (idx := 124) (v := 14055734437023318016) (by decide +kernel) kc_RX2_124 ?_
    refine RN_dcmp (pc := 16) (op := .g) (by decide +kernel) ?_
    refine RN_if_ge (pc := 17) (off := 9) (tgt := 26) (by decide +kernel) (by decide) (fun c2 => ?_) (fun c2 => ?_)
    · replace h := it_t c2 h
      refine RN_dload_n (pc := 26) (k := 0) (by decide +kernel) rfl rfl ?_
      obtain rfl := some_el h
      exact RN_dreturn (by decide +kernel) rfl
    · replace h := it_f c2 h
      refine RN_ldc2d (pc := 20) (idx := 124) (v := 14055734437023318016) (by decide +kernel) kc_RX2_124 ?_
      refine RN_goto (pc := 23) (off := 4) (tgt := 27) (by decide +kernel) (by decide) ?_
      obtain rfl := some_el h
      exact RN_dreturn (by decide +kernel) rfl
  · replace h := it_f c1 h
    refine RN_ldc2d (pc := 8) (idx := 122) (v := 4832362400168542208) (by decide +kernel) kc_RX2_122 ?_
    obtain rfl := some_el h
    exact RN_dreturn (by decide +kernel) rfl
def b_X2_passDays_3 : Nat → Nat → Int32 → UInt64 → Int32 → Int32 → Sg → Option Sg
  | 0, _, _, _, _, _, _ => none
  | n + 1, v0, v1, v2, v4, v5, σ =>
  if v4 ≤ v5 then (
    some σ)
  else (
    ck (okO σ v0 2) <|
    ck (¬ gR σ v0 2 = 0) <|
    nm (gR σ v0 2) fun r20 =>
    nm (gR σ v0 2) fun r21 =>
    ck (okA σ r21 12 v1) <|
    nm (gR σ v0 2) fun r23 =>
    ck (okA σ r23 12 v1) <|
    ck (n64 (FP.dmul (gD σ r23 v1.toNatClampNeg) v2)) <|
    bp (f_X2_even (FP.dmul (gD σ r23 v1.toNatClampNeg) v2)) fun x27 =>
    ck (n64 (FP.dadd (gD σ r21 v1.toNatClampNeg) x27)) <|
    bp (f_X2_within (FP.dadd (gD σ r21 v1.toNatClampNeg) x27)) fun x30 =>
    ck (okW σ r20 12 v1) <|
    nm (pD σ r20 v1.toNatClampNeg x30) fun σ32 =>
    nm (v5 + (1 : Int32)) fun x33 =>
    b_X2_passDays_3 n v0 v1 v2 v4 x33 σ32)
set_option maxRecDepth 20000 in
theorem tb_X2_passDays_3 {G : Gl} {σr : Sg} (v0 : Nat) (v1 : Int32) (v2 : UInt64) (v4 : Int32) : ∀ (n : Nat) (v5 : Int32) (σ : Sg), b_X2_passDays_3 n v0 v1 v2 v4 v5 σ = some σr → RN G M_X2_passDays 3 [some (.ref v0), some (.int v1), some (.double v2), none, some (.int v4), some (.int v5)] [] σ (.inl none) σr := by
  intro n
  induction n with
  | zero =>
    intro v5 σ h
    exact none_el h
  | succ n ih =>
    intro v5 σ h
    rw [b_X2_passDays_3] at h
    refine RN_iload (pc := 3) (i := 5) (by decide +kernel) rfl ?_
    refine RN_iload (pc := 5) (i := 4) (by decide +kernel) rfl ?_
    refine RN_icmp_ge (pc := 7) (off := 36) (tgt := 43) (by decide +kernel) (by decide) (fun c17 => ?_) (fun c17 => ?_)
    · replace h := it_t c17 h
      obtain rfl := some_el h
      exact RN_return (by decide +kernel) rfl
    · replace h := it_f c17 h
      refine RN_aload_n (pc := 10) (k := 0) (by decide +kernel) rfl rfl ?_
      obtain ⟨c18, h⟩ := ck_el h
      obtain ⟨c19, h⟩ := ck_el h
      refine RN_getR (pc := 11) (idx := 25) (ci := 2) (k := 2) (by decide +kernel) lf_RX2_25 rfl c18 c19 ?_
      obtain ⟨r20, er20, h⟩ := nm_el h
      refine RN_nmR er20 ?_
      refine RN_iload_n (pc := 14) (k := 1) (by decide +kernel) rfl rfl ?_
      refine RN_aload_n (pc := 15) (k := 0) (by decide +kernel) rfl rfl ?_
      refine RN_getR (pc := 16) (idx := 25) (ci := 2) (k := 2) (by decide +kernel) lf_RX2_25 rfl c18 c19 ?_
      obtain ⟨r21, er21, h⟩ := nm_el h
      refine RN_nmR er21 ?_
      refine RN_iload_n (pc := 19) (k := 1) (by decide +kernel) rfl rfl ?_
      obtain ⟨c22, h⟩ := ck_el h
      refine RN_dald (pc := 20) (by decide +kernel) c22 ?_
      refine RN_aload_n (pc := 21) (k := 0) (by decide +kernel) rfl rfl ?_
      refine RN_getR (pc := 22) (idx := 25) (ci := 2) (k := 2) (by decide +kernel) lf_RX2_25 rfl c18 c19 ?_
      obtain ⟨r23, er23, h⟩ := nm_el h
      refine RN_nmR er23 ?_
      refine RN_iload_n (pc := 25) (k := 1) (by decide +kernel) rfl rfl ?_
      obtain ⟨c24, h⟩ := ck_el h
      refine RN_dald (pc := 26) (by decide +kernel) c24 ?_
      refine RN_dload_n (pc := 27) (k := 2) (by decide +kernel) rfl rfl ?_
      obtain ⟨c25, h⟩ := ck_el h
      refine RN_dmul (pc := 28) (by decide +kernel) c25 ?_
      obtain ⟨x27, f26, h⟩ := bp_el h
      refine RN_callS (M := M_X2_passDays) (pc := 29) (idx := 119) (as := [.double (FP.dmul (gD σ r23 v1.toNatClampNeg) v2)]) (st := [.double (gD σ r21 v1.toNatClampNeg), .int v1, .ref r20]) (t_X2_even f26) (by decide +kernel) lk_RX2_119 rfl (Nat.le_of_ble_eq_true rfl) ⟨Nat.le_of_ble_eq_true rfl, Nat.le_of_ble_eq_true rfl⟩ rfl ?_
      show RN G M_X2_passDays 32 [some (.ref v0), some (.int v1), some (.double v2), none, some (.int v4), some (.int v5)] [.double x27, .double (gD σ r21 v1.toNatClampNeg), .int v1, .ref r20] σ _ _
      obtain ⟨c28, h⟩ := ck_el h
      refine RN_dadd (pc := 32) (by decide +kernel) c28 ?_
      obtain ⟨x30, f29, h⟩ := bp_el h
      refine RN_callS (M := M_X2_passDays) (pc := 33) (idx := 53) (as := [.double (FP.dadd (gD σ r21 v1.toNatClampNeg) x27)]) (st := [.int v1, .ref r20]) (t_X2_within f29) (by decide +kernel) lk_RX2_53 rfl (Nat.le_of_ble_eq_true rfl) ⟨Nat.le_of_ble_eq_true rfl, Nat.le_of_ble_eq_true rfl⟩ rfl ?_
      show RN G M_X2_passDays 36 [some (.ref v0), some (.int v1), some (.double v2), none, some (.int v4), some (.int v5)] [.double x30, .int v1, .ref r20] σ _ _
      obtain ⟨c31, h⟩ := ck_el h
      refine RN_dast (pc := 36) (by decide +kernel) c31 ?_
      obtain ⟨σ32, eσ32, h⟩ := nm_el h
      refine RN_nmS eσ32 ?_
      obtain ⟨x33, ex33, h⟩ := nm_el h
      refine RN_iinc (pc := 37) (i := 5) (n := 1) (v := x33) (ls2 := [some (.ref v0), some (.int v1), some (.double v2), none, some (.int v4), some (.int x33)]) (by decide +kernel) rfl (by rw [ex33]; rfl) (by decide) rfl ?_
      refine RN_goto (pc := 40) (off := -37) (tgt := 3) (by decide +kernel) (by decide) ?_
      exact RN_weak (l := [some (.ref v0), some (.int v1), some (.double v2), none, some (.int v4), some (.int x33)]) (And.intro rfl (And.intro rfl (And.intro rfl (And.intro rfl (And.intro rfl trivial))))) (ih x33 σ32 h)
def f_X2_passDays (n : Nat) (v0 : Nat) (v1 : Int32) (v2 : UInt64) (v4 : Int32) (σ : Sg) : Option Sg :=
  b_X2_passDays_3 n v0 v1 v2 v4 (0 : Int32) σ
set_option maxRecDepth 20000 in
theorem t_X2_passDays {G : Gl} {σr : Sg} {n : Nat} {v0 : Nat} {v1 : Int32} {v2 : UInt64} {v4 : Int32} {σ : Sg} (h : f_X2_passDays n v0 v1 v2 v4 σ = some σr) : MT G M_X2_passDays [.ref v0, .int v1, .double v2, .int v4] σ none σr := by
  refine MT_of rfl rfl (Nat.le_of_ble_eq_true rfl) ?_
  show RN G M_X2_passDays 0 [some (.ref v0), some (.int v1), some (.double v2), none, some (.int v4)] [] σ (.inl none) σr
  unfold f_X2_passDays at h
  refine RN_iconst (pc := 0) (n := 0) (v := 0) (by decide +kernel) (by decide) ?_
  refine RN_istore (pc := 1) (i := 5) (ls2 := [some (.ref v0), some (.int v1), some (.double v2), none, some (.int v4), some (.int (0 : Int32))]) (by decide +kernel) (by decide) rfl ?_
  exact RN_weak (l := [some (.ref v0), some (.int v1), some (.double v2), none, some (.int v4), some (.int (0 : Int32))]) (And.intro rfl (And.intro rfl (And.intro rfl (And.intro rfl (And.intro rfl trivial))))) (tb_X2_passDays_3 v0 v1 v2 v4 n (0 : Int32) σ h)
def b_X2_step_224 (n : Nat) (s0 : UInt64) (s1 : Int32) (s2 : Nat) (σ : Sg) : Option Sg :=
  ck (okW σ s2 12 s1) <|
  nm (pD σ s2 s1.toNatClampNeg s0) fun σ224 =>
  some σ224
set_option maxRecDepth 20000 in
theorem tb_X2_step_224 {G : Gl} {σr : Sg} (n : Nat) (s0 : UInt64) (s1 : Int32) (s2 : Nat) (σ : Sg) (h : b_X2_step_224 n s0 s1 s2 σ = some σr) : RN G M_X2_step 224 [] [.double s0, .int s1, .ref s2] σ (.inl none) σr := by
  unfold b_X2_step_224 at h
  obtain ⟨c223, h⟩ := ck_el h
  refine RN_dast (pc := 224) (by decide +kernel) c223 ?_
  obtain ⟨σ224, eσ224, h⟩ := nm_el h
  refine RN_nmS eσ224 ?_
  refine RN_goto (pc := 225) (off := 196) (tgt := 421) (by decide +kernel) (by decide) ?_
  obtain rfl := some_el h
  exact RN_return (by decide +kernel) rfl
def b_X2_step_330 (n : Nat) (v0 : Nat) (v5 : Int32) (v7 : Int32) (σ : Sg) : Option Sg :=
  ck (okO σ v0 2) <|
  ck (¬ gR σ v0 2 = 0) <|
  nm (gR σ v0 2) fun r276 =>
  ck (okW σ r276 12 v5) <|
  nm (pD σ r276 v5.toNatClampNeg (FP.i2d v7)) fun σ278 =>
  some σ278
set_option maxRecDepth 20000 in
theorem tb_X2_step_330 {G : Gl} {σr : Sg} (n : Nat) (v0 : Nat) (v5 : Int32) (v7 : Int32) (σ : Sg) (h : b_X2_step_330 n v0 v5 v7 σ = some σr) : RN G M_X2_step 330 [some (.ref v0), none, none, none, none, some (.int v5), none, some (.int v7)] [] σ (.inl none) σr := by
  unfold b_X2_step_330 at h
  refine RN_aload_n (pc := 330) (k := 0) (by decide +kernel) rfl rfl ?_
  obtain ⟨c274, h⟩ := ck_el h
  obtain ⟨c275, h⟩ := ck_el h
  refine RN_getR (pc := 331) (idx := 25) (ci := 2) (k := 2) (by decide +kernel) lf_RX2_25 rfl c274 c275 ?_
  obtain ⟨r276, er276, h⟩ := nm_el h
  refine RN_nmR er276 ?_
  refine RN_iload (pc := 334) (i := 5) (by decide +kernel) rfl ?_
  refine RN_iload (pc := 336) (i := 7) (by decide +kernel) rfl ?_
  refine RN_i2d (pc := 338) (by decide +kernel) ?_
  obtain ⟨c277, h⟩ := ck_el h
  refine RN_dast (pc := 339) (by decide +kernel) c277 ?_
  obtain ⟨σ278, eσ278, h⟩ := nm_el h
  refine RN_nmS eσ278 ?_
  refine RN_goto (pc := 340) (off := 81) (tgt := 421) (by decide +kernel) (by decide) ?_
  obtain rfl := some_el h
  exact RN_return (by decide +kernel) rfl
def b_X2_step_379 (n : Nat) (s0 : Int64) (s1 : Int64) (s2 : Int32) (s3 : Nat) (σ : Sg) : Option Sg :=
  ck (okW σ s3 14 s2) <|
  nm (pJ σ s3 s2.toNatClampNeg (s1 + s0)) fun σ297 =>
  some σ297
set_option maxRecDepth 20000 in
theorem tb_X2_step_379 {G : Gl} {σr : Sg} (n : Nat) (s0 : Int64) (s1 : Int64) (s2 : Int32) (s3 : Nat) (σ : Sg) (h : b_X2_step_379 n s0 s1 s2 s3 σ = some σr) : RN G M_X2_step 379 [] [.long s0, .long s1, .int s2, .ref s3] σ (.inl none) σr := by
  unfold b_X2_step_379 at h
  refine RN_ladd (pc := 379) (by decide +kernel) ?_
  obtain ⟨c296, h⟩ := ck_el h
  refine RN_last (pc := 380) (by decide +kernel) c296 ?_
  obtain ⟨σ297, eσ297, h⟩ := nm_el h
  refine RN_nmS eσ297 ?_
  refine RN_goto (pc := 381) (off := 40) (tgt := 421) (by decide +kernel) (by decide) ?_
  obtain rfl := some_el h
  exact RN_return (by decide +kernel) rfl
def f_X2_step (n : Nat) (v0 : Nat) (v1 : Nat) (v2 : Int32) (v3 : Nat) (v4 : Int32) (σ : Sg) : Option Sg :=
  ck (okO σ v1 5) <|
  ck (¬ gR σ v1 1 = 0) <|
  nm (gR σ v1 1) fun r150 =>
  ck (okA σ r150 13 v2) <|
  nm (gI σ r150 v2.toNatClampNeg) fun x152 =>
  ck (¬ gR σ v1 2 = 0) <|
  nm (gR σ v1 2) fun r154 =>
  ck (okA σ r154 13 v2) <|
  nm (gI σ r154 v2.toNatClampNeg) fun x156 =>
  ck (¬ gR σ v1 3 = 0) <|
  nm (gR σ v1 3) fun r158 =>
  ck (okA σ r158 13 v2) <|
  nm (gI σ r158 v2.toNatClampNeg) fun x160 =>
  ck (¬ gR σ v1 0 = 0) <|
  nm (gR σ v1 0) fun r162 =>
  ck (okA σ r162 13 v2) <|
  if (gI σ r162 v2.toNatClampNeg) = 0 then (
    ck (okO σ v0 2) <|
    ck (¬ gR σ v0 2 = 0) <|
    nm (gR σ v0 2) fun r167 =>
    ck (okW σ r167 12 x152) <|
    nm (pD σ r167 x152.toNatClampNeg (FP.i2d v4)) fun σ169 =>
    some σ169)
  else (
  if (gI σ r162 v2.toNatClampNeg) = 1 then (
    ck (okO σ v0 2) <|
    ck (¬ gR σ v0 2 = 0) <|
    nm (gR σ v0 2) fun r173 =>
    bp (f_X2_rateOf v3 x156 σ) fun x175 =>
    ck (n64 (FP.dmul (FP.i2d v4) x175)) <|
    bp (f_X2_rounding (FP.dmul (FP.i2d v4) x175) (FP.dconst1) x160) fun x178 =>
    ck (okW σ r173 12 x152) <|
    nm (pD σ r173 x152.toNatClampNeg x178) fun σ180 =>
    some σ180)
  else (
  if (gI σ r162 v2.toNatClampNeg) = 2 then (
    ck (okO σ v0 2) <|
    ck (¬ gR σ v0 2 = 0) <|
    nm (gR σ v0 2) fun r184 =>
    bp (f_X2_rateOf v3 x156 σ) fun x186 =>
    ck (n64 (FP.dmul (FP.i2d v4) x186)) <|
    bp (f_X2_rounding (FP.dmul (FP.i2d v4) x186) (FP.dconst1) x160) fun x189 =>
    ck (okW σ r184 12 x152) <|
    nm (pD σ r184 x152.toNatClampNeg x189) fun σ191 =>
    some σ191)
  else (
  if (gI σ r162 v2.toNatClampNeg) = 3 then (
    ck (okO σ v0 2) <|
    ck (¬ gR σ v0 2 = 0) <|
    nm (gR σ v0 2) fun r195 =>
    nm (gR σ v0 2) fun r196 =>
    ck (okA σ r196 12 x156) <|
    bp (f_X2_rateOf v3 x160 σ) fun x199 =>
    ck (n64 (FP.dmul (gD σ r196 x156.toNatClampNeg) x199)) <|
    ck (okW σ r195 12 x152) <|
    nm (pD σ r195 x152.toNatClampNeg (FP.dmul (gD σ r196 x156.toNatClampNeg) x199)) fun σ202 =>
    some σ202)
  else (
  if (gI σ r162 v2.toNatClampNeg) = 4 then (
    ck (okO σ v0 2) <|
    ck (¬ gR σ v0 2 = 0) <|
    nm (gR σ v0 2) fun r206 =>
    nm (gR σ v0 2) fun r207 =>
    ck (okA σ r207 12 x152) <|
    bp (f_X2_rounding (gD σ r207 x152.toNatClampNeg) (FP.i2d x160) x156) fun x210 =>
    ck (okW σ r206 12 x152) <|
    nm (pD σ r206 x152.toNatClampNeg x210) fun σ212 =>
    some σ212)
  else (
  if (gI σ r162 v2.toNatClampNeg) = 5 then (
    ck (okO σ v0 2) <|
    ck (¬ gR σ v0 2 = 0) <|
    nm (gR σ v0 2) fun r216 =>
    if x160 = 0 then (
      nm (gR σ v0 2) fun r225 =>
      ck (okA σ r225 12 x152) <|
      nm (gR σ v0 2) fun r227 =>
      ck (okA σ r227 12 x156) <|
      ck (n64 (FP.dadd (gD σ r225 x152.toNatClampNeg) (gD σ r227 x156.toNatClampNeg))) <|
      b_X2_step_224 n (FP.dadd (gD σ r225 x152.toNatClampNeg) (gD σ r227 x156.toNatClampNeg)) x152 r216 σ)
    else (
      nm (gR σ v0 2) fun r218 =>
      ck (okA σ r218 12 x152) <|
      nm (gR σ v0 2) fun r220 =>
      ck (okA σ r220 12 x156) <|
      ck (n64 (FP.dsub (gD σ r218 x152.toNatClampNeg) (gD σ r220 x156.toNatClampNeg))) <|
      b_X2_step_224 n (FP.dsub (gD σ r218 x152.toNatClampNeg) (gD σ r220 x156.toNatClampNeg)) x152 r216 σ))
  else (
  if (gI σ r162 v2.toNatClampNeg) = 6 then (
    ck (okO σ v0 2) <|
    ck (¬ gR σ v0 1 = 0) <|
    nm (gR σ v0 1) fun r233 =>
    ck (¬ gR σ v0 2 = 0) <|
    nm (gR σ v0 2) fun r235 =>
    ck (okA σ r235 12 x152) <|
    bp (f_X2_dividable (gD σ r235 x152.toNatClampNeg)) fun x238 =>
    ck (okO σ v3 7) <|
    ck (¬ gR σ v3 2 = 0) <|
    nm (gR σ v3 2) fun r241 =>
    ck (okA σ r241 18 x160) <|
    ck (¬ gR σ r241 x160.toNatClampNeg = 0) <|
    nm (gR σ r241 x160.toNatClampNeg) fun r244 =>
    ck (¬ gR σ v3 3 = 0) <|
    nm (gR σ v3 3) fun r246 =>
    ck (okA σ r246 13 x160) <|
    ck (okO σ r233 6) <|
    bp (f_X7_divide n r233 x238 x156 r244 (gI σ r246 x160.toNatClampNeg) σ) fun σ250 =>
    some σ250)
  else (
  if (gI σ r162 v2.toNatClampNeg) = 7 then (
    ck (okO σ v0 2) <|
    ck (¬ gR σ v0 2 = 0) <|
    nm (gR σ v0 2) fun r254 =>
    ck (¬ gR σ v0 1 = 0) <|
    nm (gR σ v0 1) fun r256 =>
    ck (okO σ r256 6) <|
    ck (¬ gR σ r256 0 = 0) <|
    nm (gR σ r256 0) fun r259 =>
    ck (okA σ r259 14 x156) <|
    ck (okW σ r254 12 x152) <|
    nm (pD σ r254 x152.toNatClampNeg (FP.l2d (gJ σ r259 x156.toNatClampNeg))) fun σ262 =>
    some σ262)
  else (
  if (gI σ r162 v2.toNatClampNeg) = 8 then (
    ck (okO σ v0 2) <|
    bp (f_X2_carry v0 x152 σ) fun σ266 =>
    some σ266)
  else (
  if (gI σ r162 v2.toNatClampNeg) = 9 then (
    if x156 = 0 then (
      ck (okO σ v0 2) <|
      ck (¬ gR σ v0 2 = 0) <|
      nm (gR σ v0 2) fun r281 =>
      ck (okA σ r281 12 x152) <|
      if (Op.cmpValue (FP.dcmp (gD σ r281 x152.toNatClampNeg) (FP.i2d x160)) .l) ≤ 0 then (
        some σ)
      else (
        b_X2_step_330 n v0 x152 x160 σ))
    else (
      ck (okO σ v0 2) <|
      ck (¬ gR σ v0 2 = 0) <|
      nm (gR σ v0 2) fun r271 =>
      ck (okA σ r271 12 x152) <|
      if 0 ≤ (Op.cmpValue (FP.dcmp (gD σ r271 x152.toNatClampNeg) (FP.i2d x160)) .g) then (
        some σ)
      else (
        b_X2_step_330 n v0 x152 x160 σ)))
  else (
  if (gI σ r162 v2.toNatClampNeg) = 10 then (
    ck (okO σ v0 2) <|
    ck (¬ gR σ v0 0 = 0) <|
    nm (gR σ v0 0) fun r287 =>
    ck (okO σ r287 3) <|
    ck (¬ gR σ r287 0 = 0) <|
    nm (gR σ r287 0) fun r290 =>
    ck (okA σ r290 14 x156) <|
    if x160 = 0 then (
      ck (¬ gR σ v0 2 = 0) <|
      nm (gR σ v0 2) fun r299 =>
      ck (okA σ r299 12 x152) <|
      b_X2_step_379 n (FP.d2l (gD σ r299 x152.toNatClampNeg)) (gJ σ r290 x156.toNatClampNeg) x156 r290 σ)
    else (
      ck (¬ gR σ v0 2 = 0) <|
      nm (gR σ v0 2) fun r294 =>
      ck (okA σ r294 12 x152) <|
      b_X2_step_379 n (-(FP.d2l (gD σ r294 x152.toNatClampNeg))) (gJ σ r290 x156.toNatClampNeg) x156 r290 σ))
  else (
  if (gI σ r162 v2.toNatClampNeg) = 11 then (
    ck (okO σ v0 2) <|
    ck (¬ gR σ v0 2 = 0) <|
    nm (gR σ v0 2) fun r304 =>
    nm (gR σ v0 2) fun r305 =>
    ck (okA σ r305 12 x156) <|
    bp (f_X2_rounding (gD σ r305 x156.toNatClampNeg) (FP.dconst1) x160) fun x308 =>
    ck (okW σ r304 12 x152) <|
    nm (pD σ r304 x152.toNatClampNeg x308) fun σ310 =>
    some σ310)
  else (
    bp (f_X2_rateOf v3 x156 σ) fun x312 =>
    ck (okO σ v0 2) <|
    bp (f_X2_passDays n v0 x152 x312 x160 σ) fun σ315 =>
    some σ315))))))))))))
set_option maxRecDepth 20000 in
theorem t_X2_step {G : Gl} {σr : Sg} {n : Nat} {v0 : Nat} {v1 : Nat} {v2 : Int32} {v3 : Nat} {v4 : Int32} {σ : Sg} (h : f_X2_step n v0 v1 v2 v3 v4 σ = some σr) : MT G M_X2_step [.ref v0, .ref v1, .int v2, .ref v3, .int v4] σ none σr := by
  refine MT_of rfl rfl (Nat.le_of_ble_eq_true rfl) ?_
  show RN G M_X2_step 0 [some (.ref v0), some (.ref v1), some (.int v2), some (.ref v3), some (.int v4)] [] σ (.inl none) σr
  unfold f_X2_step at h
  refine RN_aload_n (pc := 0) (k := 1) (by decide +kernel) rfl rfl ?_
  obtain ⟨c148, h⟩ := ck_el h
  obtain ⟨c149, h⟩ := ck_el h
  refine RN_getR (pc := 1) (idx := 49) (ci := 5) (k := 1) (by decide +kernel) lf_RX2_49 rfl c148 c149 ?_
  obtain ⟨r150, er150, h⟩ := nm_el h
  refine RN_nmR er150 ?_
  refine RN_iload_n (pc := 4) (k := 2) (by decide +kernel) rfl rfl ?_
  obtain ⟨c151, h⟩ := ck_el h
  refine RN_iald (pc := 5) (by decide +kernel) c151 ?_
  obtain ⟨x152, ex152, h⟩ := nm_el h
  refine RN_nmI ex152 ?_
  refine RN_istore (pc := 6) (i := 5) (ls2 := [some (.ref v0), some (.ref v1), some (.int v2), some (.ref v3), some (.int v4), some (.int x152)]) (by decide +kernel) (by decide) rfl ?_
  refine RN_aload_n (pc := 8) (k := 1) (by decide +kernel) rfl rfl ?_
  obtain ⟨c153, h⟩ := ck_el h
  refine RN_getR (pc := 9) (idx := 57) (ci := 5) (k := 2) (by decide +kernel) lf_RX2_57 rfl c148 c153 ?_
  obtain ⟨r154, er154, h⟩ := nm_el h
  refine RN_nmR er154 ?_
  refine RN_iload_n (pc := 12) (k := 2) (by decide +kernel) rfl rfl ?_
  obtain ⟨c155, h⟩ := ck_el h
  refine RN_iald (pc := 13) (by decide +kernel) c155 ?_
  obtain ⟨x156, ex156, h⟩ := nm_el h
  refine RN_nmI ex156 ?_
  refine RN_istore (pc := 14) (i := 6) (ls2 := [some (.ref v0), some (.ref v1), some (.int v2), some (.ref v3), some (.int v4), some (.int x152), some (.int x156)]) (by decide +kernel) (by decide) rfl ?_
  refine RN_aload_n (pc := 16) (k := 1) (by decide +kernel) rfl rfl ?_
  obtain ⟨c157, h⟩ := ck_el h
  refine RN_getR (pc := 17) (idx := 60) (ci := 5) (k := 3) (by decide +kernel) lf_RX2_60 rfl c148 c157 ?_
  obtain ⟨r158, er158, h⟩ := nm_el h
  refine RN_nmR er158 ?_
  refine RN_iload_n (pc := 20) (k := 2) (by decide +kernel) rfl rfl ?_
  obtain ⟨c159, h⟩ := ck_el h
  refine RN_iald (pc := 21) (by decide +kernel) c159 ?_
  obtain ⟨x160, ex160, h⟩ := nm_el h
  refine RN_nmI ex160 ?_
  refine RN_istore (pc := 22) (i := 7) (ls2 := [some (.ref v0), some (.ref v1), some (.int v2), some (.ref v3), some (.int v4), some (.int x152), some (.int x156), some (.int x160)]) (by decide +kernel) (by decide) rfl ?_
  refine RN_aload_n (pc := 24) (k := 1) (by decide +kernel) rfl rfl ?_
  obtain ⟨c161, h⟩ := ck_el h
  refine RN_getR (pc := 25) (idx := 63) (ci := 5) (k := 0) (by decide +kernel) lf_RX2_63 rfl c148 c161 ?_
  obtain ⟨r162, er162, h⟩ := nm_el h
  refine RN_nmR er162 ?_
  refine RN_iload_n (pc := 28) (k := 2) (by decide +kernel) rfl rfl ?_
  obtain ⟨c163, h⟩ := ck_el h
  refine RN_iald (pc := 29) (by decide +kernel) c163 ?_
  by_cases c164 : (gI σ r162 v2.toNatClampNeg) = 0
  · replace h := it_t c164 h
    refine RN_tsw (pc := 30) (dflt := 377) (lo := 0) (hi := 11) (offs := #[62, 75, 75, 101, 125, 150, 198, 234, 255, 264, 313, 354]) (len := 62) (v := 0) (off := 62) (tgt := 92) c164 (by decide +kernel) (by decide) (by decide) (by decide +kernel) (by decide) ?_
    refine RN_aload_n (pc := 92) (k := 0) (by decide +kernel) rfl rfl ?_
    obtain ⟨c165, h⟩ := ck_el h
    obtain ⟨c166, h⟩ := ck_el h
    refine RN_getR (pc := 93) (idx := 25) (ci := 2) (k := 2) (by decide +kernel) lf_RX2_25 rfl c165 c166 ?_
    obtain ⟨r167, er167, h⟩ := nm_el h
    refine RN_nmR er167 ?_
    refine RN_iload (pc := 96) (i := 5) (by decide +kernel) rfl ?_
    refine RN_iload (pc := 98) (i := 4) (by decide +kernel) rfl ?_
    refine RN_i2d (pc := 100) (by decide +kernel) ?_
    obtain ⟨c168, h⟩ := ck_el h
    refine RN_dast (pc := 101) (by decide +kernel) c168 ?_
    obtain ⟨σ169, eσ169, h⟩ := nm_el h
    refine RN_nmS eσ169 ?_
    refine RN_goto (pc := 102) (off := 319) (tgt := 421) (by decide +kernel) (by decide) ?_
    obtain rfl := some_el h
    exact RN_return (by decide +kernel) rfl
  · replace h := it_f c164 h
    by_cases c170 : (gI σ r162 v2.toNatClampNeg) = 1
    · replace h := it_t c170 h
      refine RN_tsw (pc := 30) (dflt := 377) (lo := 0) (hi := 11) (offs := #[62, 75, 75, 101, 125, 150, 198, 234, 255, 264, 313, 354]) (len := 62) (v := 1) (off := 75) (tgt := 105) c170 (by decide +kernel) (by decide) (by decide) (by decide +kernel) (by decide) ?_
      refine RN_aload_n (pc := 105) (k := 0) (by decide +kernel) rfl rfl ?_
      obtain ⟨c171, h⟩ := ck_el h
      obtain ⟨c172, h⟩ := ck_el h
      refine RN_getR (pc := 106) (idx := 25) (ci := 2) (k := 2) (by decide +kernel) lf_RX2_25 rfl c171 c172 ?_
      obtain ⟨r173, er173, h⟩ := nm_el h
      refine RN_nmR er173 ?_
      refine RN_iload (pc := 109) (i := 5) (by decide +kernel) rfl ?_
      refine RN_iload (pc := 111) (i := 4) (by decide +kernel) rfl ?_
      refine RN_i2d (pc := 113) (by decide +kernel) ?_
      refine RN_aload_n (pc := 114) (k := 3) (by decide +kernel) rfl rfl ?_
      refine RN_iload (pc := 115) (i := 6) (by decide +kernel) rfl ?_
      obtain ⟨x175, f174, h⟩ := bp_el h
      refine RN_callS (M := M_X2_step) (pc := 117) (idx := 66) (as := [.ref v3, .int x156]) (st := [.double (FP.i2d v4), .int x152, .ref r173]) (t_X2_rateOf f174) (by decide +kernel) lk_RX2_66 rfl (Nat.le_of_ble_eq_true rfl) ⟨Nat.le_of_ble_eq_true rfl, Nat.le_of_ble_eq_true rfl⟩ rfl ?_
      show RN G M_X2_step 120 [some (.ref v0), some (.ref v1), some (.int v2), some (.ref v3), some (.int v4), some (.int x152), some (.int x156), some (.int x160)] [.double x175, .double (FP.i2d v4), .int x152, .ref r173] σ _ _
      obtain ⟨c176, h⟩ := ck_el h
      refine RN_dmul (pc := 120) (by decide +kernel) c176 ?_
      refine RN_dconst1 (pc := 121) (by decide +kernel) ?_
      refine RN_iload (pc := 122) (i := 7) (by decide +kernel) rfl ?_
      obtain ⟨x178, f177, h⟩ := bp_el h
      refine RN_callS (M := M_X2_step) (pc := 124) (idx := 70) (as := [.double (FP.dmul (FP.i2d v4) x175), .double (FP.dconst1), .int x160]) (st := [.int x152, .ref r173]) (t_X2_rounding f177) (by decide +kernel) lk_RX2_70 rfl (Nat.le_of_ble_eq_true rfl) ⟨Nat.le_of_ble_eq_true rfl, Nat.le_of_ble_eq_true rfl⟩ rfl ?_
      show RN G M_X2_step 127 [some (.ref v0), some (.ref v1), some (.int v2), some (.ref v3), some (.int v4), some (.int x152), some (.int x156), some (.int x160)] [.double x178, .int x152, .ref r173] σ _ _
      obtain ⟨c179, h⟩ := ck_el h
      refine RN_dast (pc := 127) (by decide +kernel) c179 ?_
      obtain ⟨σ180, eσ180, h⟩ := nm_el h
      refine RN_nmS eσ180 ?_
      refine RN_goto (pc := 128) (off := 293) (tgt := 421) (by decide +kernel) (by decide) ?_
      obtain rfl := some_el h
      exact RN_return (by decide +kernel) rfl
    · replace h := it_f c170 h
      by_cases c181 : (gI σ r162 v2.toNatClampNeg) = 2
      · replace h := it_t c181 h
        refine RN_tsw (pc := 30) (dflt := 377) (lo := 0) (hi := 11) (offs := #[62, 75, 75, 101, 125, 150, 198, 234, 255, 264, 313, 354]) (len := 62) (v := 2) (off := 75) (tgt := 105) c181 (by decide +kernel) (by decide) (by decide) (by decide +kernel) (by decide) ?_
        refine RN_aload_n (pc := 105) (k := 0) (by decide +kernel) rfl rfl ?_
        obtain ⟨c182, h⟩ := ck_el h
        obtain ⟨c183, h⟩ := ck_el h
        refine RN_getR (pc := 106) (idx := 25) (ci := 2) (k := 2) (by decide +kernel) lf_RX2_25 rfl c182 c183 ?_
        obtain ⟨r184, er184, h⟩ := nm_el h
        refine RN_nmR er184 ?_
        refine RN_iload (pc := 109) (i := 5) (by decide +kernel) rfl ?_
        refine RN_iload (pc := 111) (i := 4) (by decide +kernel) rfl ?_
        refine RN_i2d (pc := 113) (by decide +kernel) ?_
        refine RN_aload_n (pc := 114) (k := 3) (by decide +kernel) rfl rfl ?_
        refine RN_iload (pc := 115) (i := 6) (by decide +kernel) rfl ?_
        obtain ⟨x186, f185, h⟩ := bp_el h
        refine RN_callS (M := M_X2_step) (pc := 117) (idx := 66) (as := [.ref v3, .int x156]) (st := [.double (FP.i2d v4), .int x152, .ref r184]) (t_X2_rateOf f185) (by decide +kernel) lk_RX2_66 rfl (Nat.le_of_ble_eq_true rfl) ⟨Nat.le_of_ble_eq_true rfl, Nat.le_of_ble_eq_true rfl⟩ rfl ?_
        show RN G M_X2_step 120 [some (.ref v0), some (.ref v1), some (.int v2), some (.ref v3), some (.int v4), some (.int x152), some (.int x156), some (.int x160)] [.double x186, .double (FP.i2d v4), .int x152, .ref r184] σ _ _
        obtain ⟨c187, h⟩ := ck_el h
        refine RN_dmul (pc := 120) (by decide +kernel) c187 ?_
        refine RN_dconst1 (pc := 121) (by decide +kernel) ?_
        refine RN_iload (pc := 122) (i := 7) (by decide +kernel) rfl ?_
        obtain ⟨x189, f188, h⟩ := bp_el h
        refine RN_callS (M := M_X2_step) (pc := 124) (idx := 70) (as := [.double (FP.dmul (FP.i2d v4) x186), .double (FP.dconst1), .int x160]) (st := [.int x152, .ref r184]) (t_X2_rounding f188) (by decide +kernel) lk_RX2_70 rfl (Nat.le_of_ble_eq_true rfl) ⟨Nat.le_of_ble_eq_true rfl, Nat.le_of_ble_eq_true rfl⟩ rfl ?_
        show RN G M_X2_step 127 [some (.ref v0), some (.ref v1), some (.int v2), some (.ref v3), some (.int v4), some (.int x152), some (.int x156), some (.int x160)] [.double x189, .int x152, .ref r184] σ _ _
        obtain ⟨c190, h⟩ := ck_el h
        refine RN_dast (pc := 127) (by decide +kernel) c190 ?_
        obtain ⟨σ191, eσ191, h⟩ := nm_el h
        refine RN_nmS eσ191 ?_
        refine RN_goto (pc := 128) (off := 293) (tgt := 421) (by decide +kernel) (by decide) ?_
        obtain rfl := some_el h
        exact RN_return (by decide +kernel) rfl
      · replace h := it_f c181 h
        by_cases c192 : (gI σ r162 v2.toNatClampNeg) = 3
        · replace h := it_t c192 h
          refine RN_tsw (pc := 30) (dflt := 377) (lo := 0) (hi := 11) (offs := #[62, 75, 75, 101, 125, 150, 198, 234, 255, 264, 313, 354]) (len := 62) (v := 3) (off := 101) (tgt := 131) c192 (by decide +kernel) (by decide) (by decide) (by decide +kernel) (by decide) ?_
          refine RN_aload_n (pc := 131) (k := 0) (by decide +kernel) rfl rfl ?_
          obtain ⟨c193, h⟩ := ck_el h
          obtain ⟨c194, h⟩ := ck_el h
          refine RN_getR (pc := 132) (idx := 25) (ci := 2) (k := 2) (by decide +kernel) lf_RX2_25 rfl c193 c194 ?_
          obtain ⟨r195, er195, h⟩ := nm_el h
          refine RN_nmR er195 ?_
          refine RN_iload (pc := 135) (i := 5) (by decide +kernel) rfl ?_
          refine RN_aload_n (pc := 137) (k := 0) (by decide +kernel) rfl rfl ?_
          refine RN_getR (pc := 138) (idx := 25) (ci := 2) (k := 2) (by decide +kernel) lf_RX2_25 rfl c193 c194 ?_
          obtain ⟨r196, er196, h⟩ := nm_el h
          refine RN_nmR er196 ?_
          refine RN_iload (pc := 141) (i := 6) (by decide +kernel) rfl ?_
          obtain ⟨c197, h⟩ := ck_el h
          refine RN_dald (pc := 143) (by decide +kernel) c197 ?_
          refine RN_aload_n (pc := 144) (k := 3) (by decide +kernel) rfl rfl ?_
          refine RN_iload (pc := 145) (i := 7) (by decide +kernel) rfl ?_
          obtain ⟨x199, f198, h⟩ := bp_el h
          refine RN_callS (M := M_X2_step) (pc := 147) (idx := 66) (as := [.ref v3, .int x160]) (st := [.double (gD σ r196 x156.toNatClampNeg), .int x152, .ref r195]) (t_X2_rateOf f198) (by decide +kernel) lk_RX2_66 rfl (Nat.le_of_ble_eq_true rfl) ⟨Nat.le_of_ble_eq_true rfl, Nat.le_of_ble_eq_true rfl⟩ rfl ?_
          show RN G M_X2_step 150 [some (.ref v0), some (.ref v1), some (.int v2), some (.ref v3), some (.int v4), some (.int x152), some (.int x156), some (.int x160)] [.double x199, .double (gD σ r196 x156.toNatClampNeg), .int x152, .ref r195] σ _ _
          obtain ⟨c200, h⟩ := ck_el h
          refine RN_dmul (pc := 150) (by decide +kernel) c200 ?_
          obtain ⟨c201, h⟩ := ck_el h
          refine RN_dast (pc := 151) (by decide +kernel) c201 ?_
          obtain ⟨σ202, eσ202, h⟩ := nm_el h
          refine RN_nmS eσ202 ?_
          refine RN_goto (pc := 152) (off := 269) (tgt := 421) (by decide +kernel) (by decide) ?_
          obtain rfl := some_el h
          exact RN_return (by decide +kernel) rfl
        · replace h := it_f c192 h
          by_cases c203 : (gI σ r162 v2.toNatClampNeg) = 4
          · replace h := it_t c203 h
            refine RN_tsw (pc := 30) (dflt := 377) (lo := 0) (hi := 11) (offs := #[62, 75, 75, 101, 125, 150, 198, 234, 255, 264, 313, 354]) (len := 62) (v := 4) (off := 125) (tgt := 155) c203 (by decide +kernel) (by decide) (by decide) (by decide +kernel) (by decide) ?_
            refine RN_aload_n (pc := 155) (k := 0) (by decide +kernel) rfl rfl ?_
            obtain ⟨c204, h⟩ := ck_el h
            obtain ⟨c205, h⟩ := ck_el h
            refine RN_getR (pc := 156) (idx := 25) (ci := 2) (k := 2) (by decide +kernel) lf_RX2_25 rfl c204 c205 ?_
            obtain ⟨r206, er206, h⟩ := nm_el h
            refine RN_nmR er206 ?_
            refine RN_iload (pc := 159) (i := 5) (by decide +kernel) rfl ?_
            refine RN_aload_n (pc := 161) (k := 0) (by decide +kernel) rfl rfl ?_
            refine RN_getR (pc := 162) (idx := 25) (ci := 2) (k := 2) (by decide +kernel) lf_RX2_25 rfl c204 c205 ?_
            obtain ⟨r207, er207, h⟩ := nm_el h
            refine RN_nmR er207 ?_
            refine RN_iload (pc := 165) (i := 5) (by decide +kernel) rfl ?_
            obtain ⟨c208, h⟩ := ck_el h
            refine RN_dald (pc := 167) (by decide +kernel) c208 ?_
            refine RN_iload (pc := 168) (i := 7) (by decide +kernel) rfl ?_
            refine RN_i2d (pc := 170) (by decide +kernel) ?_
            refine RN_iload (pc := 171) (i := 6) (by decide +kernel) rfl ?_
            obtain ⟨x210, f209, h⟩ := bp_el h
            refine RN_callS (M := M_X2_step) (pc := 173) (idx := 70) (as := [.double (gD σ r207 x152.toNatClampNeg), .double (FP.i2d x160), .int x156]) (st := [.int x152, .ref r206]) (t_X2_rounding f209) (by decide +kernel) lk_RX2_70 rfl (Nat.le_of_ble_eq_true rfl) ⟨Nat.le_of_ble_eq_true rfl, Nat.le_of_ble_eq_true rfl⟩ rfl ?_
            show RN G M_X2_step 176 [some (.ref v0), some (.ref v1), some (.int v2), some (.ref v3), some (.int v4), some (.int x152), some (.int x156), some (.int x160)] [.double x210, .int x152, .ref r206] σ _ _
            obtain ⟨c211, h⟩ := ck_el h
            refine RN_dast (pc := 176) (by decide +kernel) c211 ?_
            obtain ⟨σ212, eσ212, h⟩ := nm_el h
            refine RN_nmS eσ212 ?_
            refine RN_goto (pc := 177) (off := 244) (tgt := 421) (by decide +kernel) (by decide) ?_
            obtain rfl := some_el h
            exact RN_return (by decide +kernel) rfl
          · replace h := it_f c203 h
            by_cases c213 : (gI σ r162 v2.toNatClampNeg) = 5
            · replace h := it_t c213 h
              refine RN_tsw (pc := 30) (dflt := 377) (lo := 0) (hi := 11) (offs := #[62, 75, 75, 101, 125, 150, 198, 234, 255, 264, 313, 354]) (len := 62) (v := 5) (off := 150) (tgt := 180) c213 (by decide +kernel) (by decide) (by decide) (by decide +kernel) (by decide) ?_
              refine RN_aload_n (pc := 180) (k := 0) (by decide +kernel) rfl rfl ?_
              obtain ⟨c214, h⟩ := ck_el h
              obtain ⟨c215, h⟩ := ck_el h
              refine RN_getR (pc := 181) (idx := 25) (ci := 2) (k := 2) (by decide +kernel) lf_RX2_25 rfl c214 c215 ?_
              obtain ⟨r216, er216, h⟩ := nm_el h
              refine RN_nmR er216 ?_
              refine RN_iload (pc := 184) (i := 5) (by decide +kernel) rfl ?_
              refine RN_iload (pc := 186) (i := 7) (by decide +kernel) rfl ?_
              refine RN_if_ne (pc := 188) (off := 21) (tgt := 209) (by decide +kernel) (by decide) (fun c217 => ?_) (fun c217 => ?_)
              · replace h := it_f c217 h
                refine RN_aload_n (pc := 209) (k := 0) (by decide +kernel) rfl rfl ?_
                refine RN_getR (pc := 210) (idx := 25) (ci := 2) (k := 2) (by decide +kernel) lf_RX2_25 rfl c214 c215 ?_
                obtain ⟨r218, er218, h⟩ := nm_el h
                refine RN_nmR er218 ?_
                refine RN_iload (pc := 213) (i := 5) (by decide +kernel) rfl ?_
                obtain ⟨c219, h⟩ := ck_el h
                refine RN_dald (pc := 215) (by decide +kernel) c219 ?_
                refine RN_aload_n (pc := 216) (k := 0) (by decide +kernel) rfl rfl ?_
                refine RN_getR (pc := 217) (idx := 25) (ci := 2) (k := 2) (by decide +kernel) lf_RX2_25 rfl c214 c215 ?_
                obtain ⟨r220, er220, h⟩ := nm_el h
                refine RN_nmR er220 ?_
                refine RN_iload (pc := 220) (i := 6) (by decide +kernel) rfl ?_
                obtain ⟨c221, h⟩ := ck_el h
                refine RN_dald (pc := 222) (by decide +kernel) c221 ?_
                obtain ⟨c222, h⟩ := ck_el h
                refine RN_dsub (pc := 223) (by decide +kernel) c222 ?_
                exact RN_weak (l := []) trivial (tb_X2_step_224 n (FP.dsub (gD σ r218 x152.toNatClampNeg) (gD σ r220 x156.toNatClampNeg)) x152 r216 σ h)
              · replace h := it_t c217 h
                refine RN_aload_n (pc := 191) (k := 0) (by decide +kernel) rfl rfl ?_
                refine RN_getR (pc := 192) (idx := 25) (ci := 2) (k := 2) (by decide +kernel) lf_RX2_25 rfl c214 c215 ?_
                obtain ⟨r225, er225, h⟩ := nm_el h
                refine RN_nmR er225 ?_
                refine RN_iload (pc := 195) (i := 5) (by decide +kernel) rfl ?_
                obtain ⟨c226, h⟩ := ck_el h
                refine RN_dald (pc := 197) (by decide +kernel) c226 ?_
                refine RN_aload_n (pc := 198) (k := 0) (by decide +kernel) rfl rfl ?_
                refine RN_getR (pc := 199) (idx := 25) (ci := 2) (k := 2) (by decide +kernel) lf_RX2_25 rfl c214 c215 ?_
                obtain ⟨r227, er227, h⟩ := nm_el h
                refine RN_nmR er227 ?_
                refine RN_iload (pc := 202) (i := 6) (by decide +kernel) rfl ?_
                obtain ⟨c228, h⟩ := ck_el h
                refine RN_dald (pc := 204) (by decide +kernel) c228 ?_
                obtain ⟨c229, h⟩ := ck_el h
                refine RN_dadd (pc := 205) (by decide +kernel) c229 ?_
                refine RN_goto (pc := 206) (off := 18) (tgt := 224) (by decide +kernel) (by decide) ?_
                exact RN_weak (l := []) trivial (tb_X2_step_224 n (FP.dadd (gD σ r225 x152.toNatClampNeg) (gD σ r227 x156.toNatClampNeg)) x152 r216 σ h)
            · replace h := it_f c213 h
              by_cases c230 : (gI σ r162 v2.toNatClampNeg) = 6
              · replace h := it_t c230 h
                refine RN_tsw (pc := 30) (dflt := 377) (lo := 0) (hi := 11) (offs := #[62, 75, 75, 101, 125, 150, 198, 234, 255, 264, 313, 354]) (len := 62) (v := 6) (off := 198) (tgt := 228) c230 (by decide +kernel) (by decide) (by decide) (by decide +kernel) (by decide) ?_
                refine RN_aload_n (pc := 228) (k := 0) (by decide +kernel) rfl rfl ?_
                obtain ⟨c231, h⟩ := ck_el h
                obtain ⟨c232, h⟩ := ck_el h
                refine RN_getR (pc := 229) (idx := 21) (ci := 2) (k := 1) (by decide +kernel) lf_RX2_21 rfl c231 c232 ?_
                obtain ⟨r233, er233, h⟩ := nm_el h
                refine RN_nmR er233 ?_
                refine RN_aload_n (pc := 232) (k := 0) (by decide +kernel) rfl rfl ?_
                obtain ⟨c234, h⟩ := ck_el h
                refine RN_getR (pc := 233) (idx := 25) (ci := 2) (k := 2) (by decide +kernel) lf_RX2_25 rfl c231 c234 ?_
                obtain ⟨r235, er235, h⟩ := nm_el h
                refine RN_nmR er235 ?_
                refine RN_iload (pc := 236) (i := 5) (by decide +kernel) rfl ?_
                obtain ⟨c236, h⟩ := ck_el h
                refine RN_dald (pc := 238) (by decide +kernel) c236 ?_
                obtain ⟨x238, f237, h⟩ := bp_el h
                refine RN_callS (M := M_X2_step) (pc := 239) (idx := 74) (as := [.double (gD σ r235 x152.toNatClampNeg)]) (st := [.ref r233]) (t_X2_dividable f237) (by decide +kernel) lk_RX2_74 rfl (Nat.le_of_ble_eq_true rfl) ⟨Nat.le_of_ble_eq_true rfl, Nat.le_of_ble_eq_true rfl⟩ rfl ?_
                show RN G M_X2_step 242 [some (.ref v0), some (.ref v1), some (.int v2), some (.ref v3), some (.int v4), some (.int x152), some (.int x156), some (.int x160)] [.long x238, .ref r233] σ _ _
                refine RN_iload (pc := 242) (i := 6) (by decide +kernel) rfl ?_
                refine RN_aload_n (pc := 244) (k := 3) (by decide +kernel) rfl rfl ?_
                obtain ⟨c239, h⟩ := ck_el h
                obtain ⟨c240, h⟩ := ck_el h
                refine RN_getR (pc := 245) (idx := 78) (ci := 7) (k := 2) (by decide +kernel) lf_RX2_78 rfl c239 c240 ?_
                obtain ⟨r241, er241, h⟩ := nm_el h
                refine RN_nmR er241 ?_
                refine RN_iload (pc := 248) (i := 7) (by decide +kernel) rfl ?_
                obtain ⟨c242, h⟩ := ck_el h
                obtain ⟨c243, h⟩ := ck_el h
                refine RN_aald18 (pc := 250) (by decide +kernel) c242 c243 ?_
                obtain ⟨r244, er244, h⟩ := nm_el h
                refine RN_nmR er244 ?_
                refine RN_aload_n (pc := 251) (k := 3) (by decide +kernel) rfl rfl ?_
                obtain ⟨c245, h⟩ := ck_el h
                refine RN_getR (pc := 252) (idx := 84) (ci := 7) (k := 3) (by decide +kernel) lf_RX2_84 rfl c239 c245 ?_
                obtain ⟨r246, er246, h⟩ := nm_el h
                refine RN_nmR er246 ?_
                refine RN_iload (pc := 255) (i := 7) (by decide +kernel) rfl ?_
                obtain ⟨c247, h⟩ := ck_el h
                refine RN_iald (pc := 257) (by decide +kernel) c247 ?_
                obtain ⟨c248, h⟩ := ck_el h
                obtain ⟨σ250, f249, h⟩ := bp_el h
                refine RN_callV (M := M_X2_step) (pc := 258) (idx := 87) (as := [.long x238, .int x156, .ref r244, .int (gI σ r246 x160.toNatClampNeg)]) (st := []) (t_X7_divide f249) (by decide +kernel) lk_RX2_87 rfl ⟨by decide, fun q hq => by cases hq; rfl⟩ c248 (Nat.le_of_ble_eq_true rfl) ⟨Nat.le_of_ble_eq_true rfl, Nat.le_of_ble_eq_true rfl⟩ rfl ?_
                show RN G M_X2_step 261 [some (.ref v0), some (.ref v1), some (.int v2), some (.ref v3), some (.int v4), some (.int x152), some (.int x156), some (.int x160)] [] σ250 _ _
                refine RN_goto (pc := 261) (off := 160) (tgt := 421) (by decide +kernel) (by decide) ?_
                obtain rfl := some_el h
                exact RN_return (by decide +kernel) rfl
              · replace h := it_f c230 h
                by_cases c251 : (gI σ r162 v2.toNatClampNeg) = 7
                · replace h := it_t c251 h
                  refine RN_tsw (pc := 30) (dflt := 377) (lo := 0) (hi := 11) (offs := #[62, 75, 75, 101, 125, 150, 198, 234, 255, 264, 313, 354]) (len := 62) (v := 7) (off := 234) (tgt := 264) c251 (by decide +kernel) (by decide) (by decide) (by decide +kernel) (by decide) ?_
                  refine RN_aload_n (pc := 264) (k := 0) (by decide +kernel) rfl rfl ?_
                  obtain ⟨c252, h⟩ := ck_el h
                  obtain ⟨c253, h⟩ := ck_el h
                  refine RN_getR (pc := 265) (idx := 25) (ci := 2) (k := 2) (by decide +kernel) lf_RX2_25 rfl c252 c253 ?_
                  obtain ⟨r254, er254, h⟩ := nm_el h
                  refine RN_nmR er254 ?_
                  refine RN_iload (pc := 268) (i := 5) (by decide +kernel) rfl ?_
                  refine RN_aload_n (pc := 270) (k := 0) (by decide +kernel) rfl rfl ?_
                  obtain ⟨c255, h⟩ := ck_el h
                  refine RN_getR (pc := 271) (idx := 21) (ci := 2) (k := 1) (by decide +kernel) lf_RX2_21 rfl c252 c255 ?_
                  obtain ⟨r256, er256, h⟩ := nm_el h
                  refine RN_nmR er256 ?_
                  obtain ⟨c257, h⟩ := ck_el h
                  obtain ⟨c258, h⟩ := ck_el h
                  refine RN_getR (pc := 274) (idx := 91) (ci := 6) (k := 0) (by decide +kernel) lf_RX2_91 rfl c257 c258 ?_
                  obtain ⟨r259, er259, h⟩ := nm_el h
                  refine RN_nmR er259 ?_
                  refine RN_iload (pc := 277) (i := 6) (by decide +kernel) rfl ?_
                  obtain ⟨c260, h⟩ := ck_el h
                  refine RN_lald (pc := 279) (by decide +kernel) c260 ?_
                  refine RN_l2d (pc := 280) (by decide +kernel) ?_
                  obtain ⟨c261, h⟩ := ck_el h
                  refine RN_dast (pc := 281) (by decide +kernel) c261 ?_
                  obtain ⟨σ262, eσ262, h⟩ := nm_el h
                  refine RN_nmS eσ262 ?_
                  refine RN_goto (pc := 282) (off := 139) (tgt := 421) (by decide +kernel) (by decide) ?_
                  obtain rfl := some_el h
                  exact RN_return (by decide +kernel) rfl
                · replace h := it_f c251 h
                  by_cases c263 : (gI σ r162 v2.toNatClampNeg) = 8
                  · replace h := it_t c263 h
                    refine RN_tsw (pc := 30) (dflt := 377) (lo := 0) (hi := 11) (offs := #[62, 75, 75, 101, 125, 150, 198, 234, 255, 264, 313, 354]) (len := 62) (v := 8) (off := 255) (tgt := 285) c263 (by decide +kernel) (by decide) (by decide) (by decide +kernel) (by decide) ?_
                    refine RN_aload_n (pc := 285) (k := 0) (by decide +kernel) rfl rfl ?_
                    refine RN_iload (pc := 286) (i := 5) (by decide +kernel) rfl ?_
                    obtain ⟨c264, h⟩ := ck_el h
                    obtain ⟨σ266, f265, h⟩ := bp_el h
                    refine RN_callV (M := M_X2_step) (pc := 288) (idx := 95) (as := [.int x152]) (st := []) (t_X2_carry f265) (by decide +kernel) lk_RX2_95 rfl ⟨by decide, fun q hq => by cases hq; rfl⟩ c264 (Nat.le_of_ble_eq_true rfl) ⟨Nat.le_of_ble_eq_true rfl, Nat.le_of_ble_eq_true rfl⟩ rfl ?_
                    show RN G M_X2_step 291 [some (.ref v0), some (.ref v1), some (.int v2), some (.ref v3), some (.int v4), some (.int x152), some (.int x156), some (.int x160)] [] σ266 _ _
                    refine RN_goto (pc := 291) (off := 130) (tgt := 421) (by decide +kernel) (by decide) ?_
                    obtain rfl := some_el h
                    exact RN_return (by decide +kernel) rfl
                  · replace h := it_f c263 h
                    by_cases c267 : (gI σ r162 v2.toNatClampNeg) = 9
                    · replace h := it_t c267 h
                      refine RN_tsw (pc := 30) (dflt := 377) (lo := 0) (hi := 11) (offs := #[62, 75, 75, 101, 125, 150, 198, 234, 255, 264, 313, 354]) (len := 62) (v := 9) (off := 264) (tgt := 294) c267 (by decide +kernel) (by decide) (by decide) (by decide +kernel) (by decide) ?_
                      refine RN_iload (pc := 294) (i := 6) (by decide +kernel) rfl ?_
                      refine RN_if_ne (pc := 296) (off := 20) (tgt := 316) (by decide +kernel) (by decide) (fun c268 => ?_) (fun c268 => ?_)
                      · replace h := it_f c268 h
                        refine RN_aload_n (pc := 316) (k := 0) (by decide +kernel) rfl rfl ?_
                        obtain ⟨c269, h⟩ := ck_el h
                        obtain ⟨c270, h⟩ := ck_el h
                        refine RN_getR (pc := 317) (idx := 25) (ci := 2) (k := 2) (by decide +kernel) lf_RX2_25 rfl c269 c270 ?_
                        obtain ⟨r271, er271, h⟩ := nm_el h
                        refine RN_nmR er271 ?_
                        refine RN_iload (pc := 320) (i := 5) (by decide +kernel) rfl ?_
                        obtain ⟨c272, h⟩ := ck_el h
                        refine RN_dald (pc := 322) (by decide +kernel) c272 ?_
                        refine RN_iload (pc := 323) (i := 7) (by decide +kernel) rfl ?_
                        refine RN_i2d (pc := 325) (by decide +kernel) ?_
                        refine RN_dcmp (pc := 326) (op := .g) (by decide +kernel) ?_
                        refine RN_if_ge (pc := 327) (off := 94) (tgt := 421) (by decide +kernel) (by decide) (fun c273 => ?_) (fun c273 => ?_)
                        · replace h := it_t c273 h
                          obtain rfl := some_el h
                          exact RN_return (by decide +kernel) rfl
                        · replace h := it_f c273 h
                          exact RN_weak (l := [some (.ref v0), none, none, none, none, some (.int x152), none, some (.int x160)]) (And.intro rfl (And.intro rfl (And.intro rfl trivial))) (tb_X2_step_330 n v0 x152 x160 σ h)
                      · replace h := it_t c268 h
                        refine RN_aload_n (pc := 299) (k := 0) (by decide +kernel) rfl rfl ?_
                        obtain ⟨c279, h⟩ := ck_el h
                        obtain ⟨c280, h⟩ := ck_el h
                        refine RN_getR (pc := 300) (idx := 25) (ci := 2) (k := 2) (by decide +kernel) lf_RX2_25 rfl c279 c280 ?_
                        obtain ⟨r281, er281, h⟩ := nm_el h
                        refine RN_nmR er281 ?_
                        refine RN_iload (pc := 303) (i := 5) (by decide +kernel) rfl ?_
                        obtain ⟨c282, h⟩ := ck_el h
                        refine RN_dald (pc := 305) (by decide +kernel) c282 ?_
                        refine RN_iload (pc := 306) (i := 7) (by decide +kernel) rfl ?_
                        refine RN_i2d (pc := 308) (by decide +kernel) ?_
                        refine RN_dcmp (pc := 309) (op := .l) (by decide +kernel) ?_
                        refine RN_if_le (pc := 310) (off := 111) (tgt := 421) (by decide +kernel) (by decide) (fun c283 => ?_) (fun c283 => ?_)
                        · replace h := it_t c283 h
                          obtain rfl := some_el h
                          exact RN_return (by decide +kernel) rfl
                        · replace h := it_f c283 h
                          refine RN_goto (pc := 313) (off := 17) (tgt := 330) (by decide +kernel) (by decide) ?_
                          exact RN_weak (l := [some (.ref v0), none, none, none, none, some (.int x152), none, some (.int x160)]) (And.intro rfl (And.intro rfl (And.intro rfl trivial))) (tb_X2_step_330 n v0 x152 x160 σ h)
                    · replace h := it_f c267 h
                      by_cases c284 : (gI σ r162 v2.toNatClampNeg) = 10
                      · replace h := it_t c284 h
                        refine RN_tsw (pc := 30) (dflt := 377) (lo := 0) (hi := 11) (offs := #[62, 75, 75, 101, 125, 150, 198, 234, 255, 264, 313, 354]) (len := 62) (v := 10) (off := 313) (tgt := 343) c284 (by decide +kernel) (by decide) (by decide) (by decide +kernel) (by decide) ?_
                        refine RN_aload_n (pc := 343) (k := 0) (by decide +kernel) rfl rfl ?_
                        obtain ⟨c285, h⟩ := ck_el h
                        obtain ⟨c286, h⟩ := ck_el h
                        refine RN_getR (pc := 344) (idx := 12) (ci := 2) (k := 0) (by decide +kernel) lf_RX2_12 rfl c285 c286 ?_
                        obtain ⟨r287, er287, h⟩ := nm_el h
                        refine RN_nmR er287 ?_
                        obtain ⟨c288, h⟩ := ck_el h
                        obtain ⟨c289, h⟩ := ck_el h
                        refine RN_getR (pc := 347) (idx := 99) (ci := 3) (k := 0) (by decide +kernel) lf_RX2_99 rfl c288 c289 ?_
                        obtain ⟨r290, er290, h⟩ := nm_el h
                        refine RN_nmR er290 ?_
                        refine RN_iload (pc := 350) (i := 6) (by decide +kernel) rfl ?_
                        refine RN_dup2_11 (pc := 352) (by decide +kernel) rfl rfl ?_
                        obtain ⟨c291, h⟩ := ck_el h
                        refine RN_lald (pc := 353) (by decide +kernel) c291 ?_
                        refine RN_iload (pc := 354) (i := 7) (by decide +kernel) rfl ?_
                        refine RN_if_ne (pc := 356) (off := 14) (tgt := 370) (by decide +kernel) (by decide) (fun c292 => ?_) (fun c292 => ?_)
                        · replace h := it_f c292 h
                          refine RN_aload_n (pc := 370) (k := 0) (by decide +kernel) rfl rfl ?_
                          obtain ⟨c293, h⟩ := ck_el h
                          refine RN_getR (pc := 371) (idx := 25) (ci := 2) (k := 2) (by decide +kernel) lf_RX2_25 rfl c285 c293 ?_
                          obtain ⟨r294, er294, h⟩ := nm_el h
                          refine RN_nmR er294 ?_
                          refine RN_iload (pc := 374) (i := 5) (by decide +kernel) rfl ?_
                          obtain ⟨c295, h⟩ := ck_el h
                          refine RN_dald (pc := 376) (by decide +kernel) c295 ?_
                          refine RN_d2l (pc := 377) (by decide +kernel) ?_
                          refine RN_lneg (pc := 378) (by decide +kernel) ?_
                          exact RN_weak (l := []) trivial (tb_X2_step_379 n (-(FP.d2l (gD σ r294 x152.toNatClampNeg))) (gJ σ r290 x156.toNatClampNeg) x156 r290 σ h)
                        · replace h := it_t c292 h
                          refine RN_aload_n (pc := 359) (k := 0) (by decide +kernel) rfl rfl ?_
                          obtain ⟨c298, h⟩ := ck_el h
                          refine RN_getR (pc := 360) (idx := 25) (ci := 2) (k := 2) (by decide +kernel) lf_RX2_25 rfl c285 c298 ?_
                          obtain ⟨r299, er299, h⟩ := nm_el h
                          refine RN_nmR er299 ?_
                          refine RN_iload (pc := 363) (i := 5) (by decide +kernel) rfl ?_
                          obtain ⟨c300, h⟩ := ck_el h
                          refine RN_dald (pc := 365) (by decide +kernel) c300 ?_
                          refine RN_d2l (pc := 366) (by decide +kernel) ?_
                          refine RN_goto (pc := 367) (off := 12) (tgt := 379) (by decide +kernel) (by decide) ?_
                          exact RN_weak (l := []) trivial (tb_X2_step_379 n (FP.d2l (gD σ r299 x152.toNatClampNeg)) (gJ σ r290 x156.toNatClampNeg) x156 r290 σ h)
                      · replace h := it_f c284 h
                        by_cases c301 : (gI σ r162 v2.toNatClampNeg) = 11
                        · replace h := it_t c301 h
                          refine RN_tsw (pc := 30) (dflt := 377) (lo := 0) (hi := 11) (offs := #[62, 75, 75, 101, 125, 150, 198, 234, 255, 264, 313, 354]) (len := 62) (v := 11) (off := 354) (tgt := 384) c301 (by decide +kernel) (by decide) (by decide) (by decide +kernel) (by decide) ?_
                          refine RN_aload_n (pc := 384) (k := 0) (by decide +kernel) rfl rfl ?_
                          obtain ⟨c302, h⟩ := ck_el h
                          obtain ⟨c303, h⟩ := ck_el h
                          refine RN_getR (pc := 385) (idx := 25) (ci := 2) (k := 2) (by decide +kernel) lf_RX2_25 rfl c302 c303 ?_
                          obtain ⟨r304, er304, h⟩ := nm_el h
                          refine RN_nmR er304 ?_
                          refine RN_iload (pc := 388) (i := 5) (by decide +kernel) rfl ?_
                          refine RN_aload_n (pc := 390) (k := 0) (by decide +kernel) rfl rfl ?_
                          refine RN_getR (pc := 391) (idx := 25) (ci := 2) (k := 2) (by decide +kernel) lf_RX2_25 rfl c302 c303 ?_
                          obtain ⟨r305, er305, h⟩ := nm_el h
                          refine RN_nmR er305 ?_
                          refine RN_iload (pc := 394) (i := 6) (by decide +kernel) rfl ?_
                          obtain ⟨c306, h⟩ := ck_el h
                          refine RN_dald (pc := 396) (by decide +kernel) c306 ?_
                          refine RN_dconst1 (pc := 397) (by decide +kernel) ?_
                          refine RN_iload (pc := 398) (i := 7) (by decide +kernel) rfl ?_
                          obtain ⟨x308, f307, h⟩ := bp_el h
                          refine RN_callS (M := M_X2_step) (pc := 400) (idx := 70) (as := [.double (gD σ r305 x156.toNatClampNeg), .double (FP.dconst1), .int x160]) (st := [.int x152, .ref r304]) (t_X2_rounding f307) (by decide +kernel) lk_RX2_70 rfl (Nat.le_of_ble_eq_true rfl) ⟨Nat.le_of_ble_eq_true rfl, Nat.le_of_ble_eq_true rfl⟩ rfl ?_
                          show RN G M_X2_step 403 [some (.ref v0), some (.ref v1), some (.int v2), some (.ref v3), some (.int v4), some (.int x152), some (.int x156), some (.int x160)] [.double x308, .int x152, .ref r304] σ _ _
                          obtain ⟨c309, h⟩ := ck_el h
                          refine RN_dast (pc := 403) (by decide +kernel) c309 ?_
                          obtain ⟨σ310, eσ310, h⟩ := nm_el h
                          refine RN_nmS eσ310 ?_
                          refine RN_goto (pc := 404) (off := 17) (tgt := 421) (by decide +kernel) (by decide) ?_
                          obtain rfl := some_el h
                          exact RN_return (by decide +kernel) rfl
                        · replace h := it_f c301 h
                          refine RN_tableOut (pc := 30) (dflt := 377) (lo := 0) (hi := 11) (offs := #[62, 75, 75, 101, 125, 150, 198, 234, 255, 264, 313, 354]) (len := 62) (tgt := 407) (by decide +kernel) (tsw_s (hi := 10) (hi' := 11) (tsw_s (hi := 9) (hi' := 10) (tsw_s (hi := 8) (hi' := 9) (tsw_s (hi := 7) (hi' := 8) (tsw_s (hi := 6) (hi' := 7) (tsw_s (hi := 5) (hi' := 6) (tsw_s (hi := 4) (hi' := 5) (tsw_s (hi := 3) (hi' := 4) (tsw_s (hi := 2) (hi' := 3) (tsw_s (hi := 1) (hi' := 2) (tsw_s (hi := 0) (hi' := 1) (tsw_s (hi := -1) (hi' := 0) (tsw_0 (0)) (by decide) (by decide) c164) (by decide) (by decide) c170) (by decide) (by decide) c181) (by decide) (by decide) c192) (by decide) (by decide) c203) (by decide) (by decide) c213) (by decide) (by decide) c230) (by decide) (by decide) c251) (by decide) (by decide) c263) (by decide) (by decide) c267) (by decide) (by decide) c284) (by decide) (by decide) c301) (by decide) ?_
                          refine RN_aload_n (pc := 407) (k := 0) (by decide +kernel) rfl rfl ?_
                          refine RN_iload (pc := 408) (i := 5) (by decide +kernel) rfl ?_
                          refine RN_aload_n (pc := 410) (k := 3) (by decide +kernel) rfl rfl ?_
                          refine RN_iload (pc := 411) (i := 6) (by decide +kernel) rfl ?_
                          obtain ⟨x312, f311, h⟩ := bp_el h
                          refine RN_callS (M := M_X2_step) (pc := 413) (idx := 66) (as := [.ref v3, .int x156]) (st := [.int x152, .ref v0]) (t_X2_rateOf f311) (by decide +kernel) lk_RX2_66 rfl (Nat.le_of_ble_eq_true rfl) ⟨Nat.le_of_ble_eq_true rfl, Nat.le_of_ble_eq_true rfl⟩ rfl ?_
                          show RN G M_X2_step 416 [some (.ref v0), some (.ref v1), some (.int v2), some (.ref v3), some (.int v4), some (.int x152), some (.int x156), some (.int x160)] [.double x312, .int x152, .ref v0] σ _ _
                          refine RN_iload (pc := 416) (i := 7) (by decide +kernel) rfl ?_
                          obtain ⟨c313, h⟩ := ck_el h
                          obtain ⟨σ315, f314, h⟩ := bp_el h
                          refine RN_callV (M := M_X2_step) (pc := 418) (idx := 102) (as := [.int x152, .double x312, .int x160]) (st := []) (t_X2_passDays f314) (by decide +kernel) lk_RX2_102 rfl ⟨by decide, fun q hq => by cases hq; rfl⟩ c313 (Nat.le_of_ble_eq_true rfl) ⟨Nat.le_of_ble_eq_true rfl, Nat.le_of_ble_eq_true rfl⟩ rfl ?_
                          show RN G M_X2_step 421 [some (.ref v0), some (.ref v1), some (.int v2), some (.ref v3), some (.int v4), some (.int x152), some (.int x156), some (.int x160)] [] σ315 _ _
                          obtain rfl := some_el h
                          exact RN_return (by decide +kernel) rfl
def b_X2_perform_46 : Nat → Nat → Nat → Nat → Int32 → Int32 → Sg → Option Sg
  | 0, _, _, _, _, _, _ => none
  | n + 1, v0, v1, v2, v3, v4, σ =>
  ck (okO σ v1 5) <|
  if (gI σ v1 4) ≤ v4 then (
    some σ)
  else (
    ck (okO σ v0 2) <|
    bp (f_X2_step n v0 v1 v4 v2 v3 σ) fun σ60 =>
    ck (okO σ60 v0 2) <|
    ck (¬ gR σ60 v0 2 = 0) <|
    nm (gR σ60 v0 2) fun r63 =>
    ck (okO σ60 v1 5) <|
    ck (¬ gR σ60 v1 1 = 0) <|
    nm (gR σ60 v1 1) fun r66 =>
    ck (okA σ60 r66 13 v4) <|
    nm (gR σ60 v0 2) fun r68 =>
    nm (gR σ60 v1 1) fun r69 =>
    ck (okA σ60 r69 13 v4) <|
    ck (okA σ60 r68 12 (gI σ60 r69 v4.toNatClampNeg)) <|
    bp (f_X2_within (gD σ60 r68 (gI σ60 r69 v4.toNatClampNeg).toNatClampNeg)) fun x73 =>
    ck (okW σ60 r63 12 (gI σ60 r66 v4.toNatClampNeg)) <|
    nm (pD σ60 r63 (gI σ60 r66 v4.toNatClampNeg).toNatClampNeg x73) fun σ75 =>
    nm (v4 + (1 : Int32)) fun x76 =>
    b_X2_perform_46 n v0 v1 v2 v3 x76 σ75)
set_option maxRecDepth 20000 in
theorem tb_X2_perform_46 {G : Gl} {σr : Sg} (v0 : Nat) (v1 : Nat) (v2 : Nat) (v3 : Int32) : ∀ (n : Nat) (v4 : Int32) (σ : Sg), b_X2_perform_46 n v0 v1 v2 v3 v4 σ = some σr → RN G M_X2_perform 46 [some (.ref v0), some (.ref v1), some (.ref v2), some (.int v3), some (.int v4)] [] σ (.inl none) σr := by
  intro n
  induction n with
  | zero =>
    intro v4 σ h
    exact none_el h
  | succ n ih =>
    intro v4 σ h
    rw [b_X2_perform_46] at h
    refine RN_iload (pc := 46) (i := 4) (by decide +kernel) rfl ?_
    refine RN_aload_n (pc := 48) (k := 1) (by decide +kernel) rfl rfl ?_
    obtain ⟨c56, h⟩ := ck_el h
    refine RN_getI (pc := 49) (idx := 39) (ci := 5) (k := 4) (by decide +kernel) lf_RX2_39 (Or.inl rfl) c56 ?_
    refine RN_icmp_ge (pc := 52) (off := 45) (tgt := 97) (by decide +kernel) (by decide) (fun c57 => ?_) (fun c57 => ?_)
    · replace h := it_t c57 h
      obtain rfl := some_el h
      exact RN_return (by decide +kernel) rfl
    · replace h := it_f c57 h
      refine RN_aload_n (pc := 55) (k := 0) (by decide +kernel) rfl rfl ?_
      refine RN_aload_n (pc := 56) (k := 1) (by decide +kernel) rfl rfl ?_
      refine RN_iload (pc := 57) (i := 4) (by decide +kernel) rfl ?_
      refine RN_aload_n (pc := 59) (k := 2) (by decide +kernel) rfl rfl ?_
      refine RN_iload_n (pc := 60) (k := 3) (by decide +kernel) rfl rfl ?_
      obtain ⟨c58, h⟩ := ck_el h
      obtain ⟨σ60, f59, h⟩ := bp_el h
      refine RN_callV (M := M_X2_perform) (pc := 61) (idx := 45) (as := [.ref v1, .int v4, .ref v2, .int v3]) (st := []) (t_X2_step f59) (by decide +kernel) lk_RX2_45 rfl ⟨by decide, fun q hq => by cases hq; rfl⟩ c58 (Nat.le_of_ble_eq_true rfl) ⟨Nat.le_of_ble_eq_true rfl, Nat.le_of_ble_eq_true rfl⟩ rfl ?_
      show RN G M_X2_perform 64 [some (.ref v0), some (.ref v1), some (.ref v2), some (.int v3), some (.int v4)] [] σ60 _ _
      refine RN_aload_n (pc := 64) (k := 0) (by decide +kernel) rfl rfl ?_
      obtain ⟨c61, h⟩ := ck_el h
      obtain ⟨c62, h⟩ := ck_el h
      refine RN_getR (pc := 65) (idx := 25) (ci := 2) (k := 2) (by decide +kernel) lf_RX2_25 rfl c61 c62 ?_
      obtain ⟨r63, er63, h⟩ := nm_el h
      refine RN_nmR er63 ?_
      refine RN_aload_n (pc := 68) (k := 1) (by decide +kernel) rfl rfl ?_
      obtain ⟨c64, h⟩ := ck_el h
      obtain ⟨c65, h⟩ := ck_el h
      refine RN_getR (pc := 69) (idx := 49) (ci := 5) (k := 1) (by decide +kernel) lf_RX2_49 rfl c64 c65 ?_
      obtain ⟨r66, er66, h⟩ := nm_el h
      refine RN_nmR er66 ?_
      refine RN_iload (pc := 72) (i := 4) (by decide +kernel) rfl ?_
      obtain ⟨c67, h⟩ := ck_el h
      refine RN_iald (pc := 74) (by decide +kernel) c67 ?_
      refine RN_aload_n (pc := 75) (k := 0) (by decide +kernel) rfl rfl ?_
      refine RN_getR (pc := 76) (idx := 25) (ci := 2) (k := 2) (by decide +kernel) lf_RX2_25 rfl c61 c62 ?_
      obtain ⟨r68, er68, h⟩ := nm_el h
      refine RN_nmR er68 ?_
      refine RN_aload_n (pc := 79) (k := 1) (by decide +kernel) rfl rfl ?_
      refine RN_getR (pc := 80) (idx := 49) (ci := 5) (k := 1) (by decide +kernel) lf_RX2_49 rfl c64 c65 ?_
      obtain ⟨r69, er69, h⟩ := nm_el h
      refine RN_nmR er69 ?_
      refine RN_iload (pc := 83) (i := 4) (by decide +kernel) rfl ?_
      obtain ⟨c70, h⟩ := ck_el h
      refine RN_iald (pc := 85) (by decide +kernel) c70 ?_
      obtain ⟨c71, h⟩ := ck_el h
      refine RN_dald (pc := 86) (by decide +kernel) c71 ?_
      obtain ⟨x73, f72, h⟩ := bp_el h
      refine RN_callS (M := M_X2_perform) (pc := 87) (idx := 53) (as := [.double (gD σ60 r68 (gI σ60 r69 v4.toNatClampNeg).toNatClampNeg)]) (st := [.int (gI σ60 r66 v4.toNatClampNeg), .ref r63]) (t_X2_within f72) (by decide +kernel) lk_RX2_53 rfl (Nat.le_of_ble_eq_true rfl) ⟨Nat.le_of_ble_eq_true rfl, Nat.le_of_ble_eq_true rfl⟩ rfl ?_
      show RN G M_X2_perform 90 [some (.ref v0), some (.ref v1), some (.ref v2), some (.int v3), some (.int v4)] [.double x73, .int (gI σ60 r66 v4.toNatClampNeg), .ref r63] σ60 _ _
      obtain ⟨c74, h⟩ := ck_el h
      refine RN_dast (pc := 90) (by decide +kernel) c74 ?_
      obtain ⟨σ75, eσ75, h⟩ := nm_el h
      refine RN_nmS eσ75 ?_
      obtain ⟨x76, ex76, h⟩ := nm_el h
      refine RN_iinc (pc := 91) (i := 4) (n := 1) (v := x76) (ls2 := [some (.ref v0), some (.ref v1), some (.ref v2), some (.int v3), some (.int x76)]) (by decide +kernel) rfl (by rw [ex76]; rfl) (by decide) rfl ?_
      refine RN_goto (pc := 94) (off := -48) (tgt := 46) (by decide +kernel) (by decide) ?_
      exact RN_weak (l := [some (.ref v0), some (.ref v1), some (.ref v2), some (.int v3), some (.int x76)]) (And.intro rfl (And.intro rfl (And.intro rfl (And.intro rfl (And.intro rfl trivial))))) (ih x76 σ75 h)
def b_X2_perform_43 (n : Nat) (v0 : Nat) (v1 : Nat) (v2 : Nat) (v3 : Int32) (σ : Sg) : Option Sg :=
  b_X2_perform_46 n v0 v1 v2 v3 (0 : Int32) σ
set_option maxRecDepth 20000 in
theorem tb_X2_perform_43 {G : Gl} {σr : Sg} (n : Nat) (v0 : Nat) (v1 : Nat) (v2 : Nat) (v3 : Int32) (σ : Sg) (h : b_X2_perform_43 n v0 v1 v2 v3 σ = some σr) : RN G M_X2_perform 43 [some (.ref v0), some (.ref v1), some (.ref v2), some (.int v3)] [] σ (.inl none) σr := by
  unfold b_X2_perform_43 at h
  refine RN_iconst (pc := 43) (n := 0) (v := 0) (by decide +kernel) (by decide) ?_
  refine RN_istore (pc := 44) (i := 4) (ls2 := [some (.ref v0), some (.ref v1), some (.ref v2), some (.int v3), some (.int (0 : Int32))]) (by decide +kernel) (by decide) rfl ?_
  exact RN_weak (l := [some (.ref v0), some (.ref v1), some (.ref v2), some (.int v3), some (.int (0 : Int32))]) (And.intro rfl (And.intro rfl (And.intro rfl (And.intro rfl (And.intro rfl trivial))))) (tb_X2_perform_46 v0 v1 v2 v3 n (0 : Int32) σ h)
def b_X2_perform_22 : Nat → Nat → Nat → Nat → Int32 → Int32 → Sg → Option Sg
  | 0, _, _, _, _, _, _ => none
  | n + 1, v0, v1, v2, v3, v4, σ =>
  if (8 : Int32) ≤ v4 then (
    b_X2_perform_43 n v0 v1 v2 v3 σ)
  else (
    ck (okO σ v0 2) <|
    ck (¬ gR σ v0 2 = 0) <|
    nm (gR σ v0 2) fun r79 =>
    ck (okW σ r79 12 v4) <|
    nm (pD σ r79 v4.toNatClampNeg (FP.dconst0)) fun σ81 =>
    nm (v4 + (1 : Int32)) fun x82 =>
    b_X2_perform_22 n v0 v1 v2 v3 x82 σ81)
set_option maxRecDepth 20000 in
theorem tb_X2_perform_22 {G : Gl} {σr : Sg} (v0 : Nat) (v1 : Nat) (v2 : Nat) (v3 : Int32) : ∀ (n : Nat) (v4 : Int32) (σ : Sg), b_X2_perform_22 n v0 v1 v2 v3 v4 σ = some σr → RN G M_X2_perform 22 [some (.ref v0), some (.ref v1), some (.ref v2), some (.int v3), some (.int v4)] [] σ (.inl none) σr := by
  intro n
  induction n with
  | zero =>
    intro v4 σ h
    exact none_el h
  | succ n ih =>
    intro v4 σ h
    rw [b_X2_perform_22] at h
    refine RN_iload (pc := 22) (i := 4) (by decide +kernel) rfl ?_
    refine RN_bipush (pc := 24) (n := 8) (v := 8) (by decide +kernel) (by decide) ?_
    refine RN_icmp_ge (pc := 26) (off := 17) (tgt := 43) (by decide +kernel) (by decide) (fun c55 => ?_) (fun c55 => ?_)
    · replace h := it_t c55 h
      exact RN_weak (l := [some (.ref v0), some (.ref v1), some (.ref v2), some (.int v3)]) (And.intro rfl (And.intro rfl (And.intro rfl (And.intro rfl trivial)))) (tb_X2_perform_43 n v0 v1 v2 v3 σ h)
    · replace h := it_f c55 h
      refine RN_aload_n (pc := 29) (k := 0) (by decide +kernel) rfl rfl ?_
      obtain ⟨c77, h⟩ := ck_el h
      obtain ⟨c78, h⟩ := ck_el h
      refine RN_getR (pc := 30) (idx := 25) (ci := 2) (k := 2) (by decide +kernel) lf_RX2_25 rfl c77 c78 ?_
      obtain ⟨r79, er79, h⟩ := nm_el h
      refine RN_nmR er79 ?_
      refine RN_iload (pc := 33) (i := 4) (by decide +kernel) rfl ?_
      refine RN_dconst0 (pc := 35) (by decide +kernel) ?_
      obtain ⟨c80, h⟩ := ck_el h
      refine RN_dast (pc := 36) (by decide +kernel) c80 ?_
      obtain ⟨σ81, eσ81, h⟩ := nm_el h
      refine RN_nmS eσ81 ?_
      obtain ⟨x82, ex82, h⟩ := nm_el h
      refine RN_iinc (pc := 37) (i := 4) (n := 1) (v := x82) (ls2 := [some (.ref v0), some (.ref v1), some (.ref v2), some (.int v3), some (.int x82)]) (by decide +kernel) rfl (by rw [ex82]; rfl) (by decide) rfl ?_
      refine RN_goto (pc := 40) (off := -18) (tgt := 22) (by decide +kernel) (by decide) ?_
      exact RN_weak (l := [some (.ref v0), some (.ref v1), some (.ref v2), some (.int v3), some (.int x82)]) (And.intro rfl (And.intro rfl (And.intro rfl (And.intro rfl (And.intro rfl trivial))))) (ih x82 σ81 h)
def f_X2_perform (n : Nat) (v0 : Nat) (v1 : Nat) (v2 : Nat) (v3 : Int32) (σ : Sg) : Option Sg :=
  ck (okO σ v0 2) <|
  ck (¬ gR σ v0 0 = 0) <|
  nm (gR σ v0 0) fun r43 =>
  ck (okO σ r43 3) <|
  bp (f_X4_reset n r43 σ) fun σ46 =>
  ck (okO σ46 v0 2) <|
  ck (¬ gR σ46 v0 1 = 0) <|
  nm (gR σ46 v0 1) fun r49 =>
  ck (okO σ46 r49 6) <|
  bp (f_X7_wipe n r49 σ46) fun σ52 =>
  ck (okO σ52 v0 2) <|
  nm (pD σ52 v0 3 (FP.dconst0)) fun σ54 =>
  b_X2_perform_22 n v0 v1 v2 v3 (0 : Int32) σ54
set_option maxRecDepth 20000 in
theorem t_X2_perform {G : Gl} {σr : Sg} {n : Nat} {v0 : Nat} {v1 : Nat} {v2 : Nat} {v3 : Int32} {σ : Sg} (h : f_X2_perform n v0 v1 v2 v3 σ = some σr) : MT G M_X2_perform [.ref v0, .ref v1, .ref v2, .int v3] σ none σr := by
  refine MT_of rfl rfl (Nat.le_of_ble_eq_true rfl) ?_
  show RN G M_X2_perform 0 [some (.ref v0), some (.ref v1), some (.ref v2), some (.int v3)] [] σ (.inl none) σr
  unfold f_X2_perform at h
  refine RN_aload_n (pc := 0) (k := 0) (by decide +kernel) rfl rfl ?_
  obtain ⟨c41, h⟩ := ck_el h
  obtain ⟨c42, h⟩ := ck_el h
  refine RN_getR (pc := 1) (idx := 12) (ci := 2) (k := 0) (by decide +kernel) lf_RX2_12 rfl c41 c42 ?_
  obtain ⟨r43, er43, h⟩ := nm_el h
  refine RN_nmR er43 ?_
  obtain ⟨c44, h⟩ := ck_el h
  obtain ⟨σ46, f45, h⟩ := bp_el h
  refine RN_callV (M := M_X2_perform) (pc := 4) (idx := 29) (as := []) (st := []) (t_X4_reset f45) (by decide +kernel) lk_RX2_29 rfl ⟨by decide, fun q hq => by cases hq; rfl⟩ c44 (Nat.le_of_ble_eq_true rfl) ⟨Nat.le_of_ble_eq_true rfl, Nat.le_of_ble_eq_true rfl⟩ rfl ?_
  show RN G M_X2_perform 7 [some (.ref v0), some (.ref v1), some (.ref v2), some (.int v3)] [] σ46 _ _
  refine RN_aload_n (pc := 7) (k := 0) (by decide +kernel) rfl rfl ?_
  obtain ⟨c47, h⟩ := ck_el h
  obtain ⟨c48, h⟩ := ck_el h
  refine RN_getR (pc := 8) (idx := 21) (ci := 2) (k := 1) (by decide +kernel) lf_RX2_21 rfl c47 c48 ?_
  obtain ⟨r49, er49, h⟩ := nm_el h
  refine RN_nmR er49 ?_
  obtain ⟨c50, h⟩ := ck_el h
  obtain ⟨σ52, f51, h⟩ := bp_el h
  refine RN_callV (M := M_X2_perform) (pc := 11) (idx := 32) (as := []) (st := []) (t_X7_wipe f51) (by decide +kernel) lk_RX2_32 rfl ⟨by decide, fun q hq => by cases hq; rfl⟩ c50 (Nat.le_of_ble_eq_true rfl) ⟨Nat.le_of_ble_eq_true rfl, Nat.le_of_ble_eq_true rfl⟩ rfl ?_
  show RN G M_X2_perform 14 [some (.ref v0), some (.ref v1), some (.ref v2), some (.int v3)] [] σ52 _ _
  refine RN_aload_n (pc := 14) (k := 0) (by decide +kernel) rfl rfl ?_
  refine RN_dconst0 (pc := 15) (by decide +kernel) ?_
  obtain ⟨c53, h⟩ := ck_el h
  refine RN_putD (pc := 16) (idx := 35) (ci := 2) (k := 3) (by decide +kernel) lf_RX2_35 rfl (fun q hq => by cases hq; exact Or.inl rfl) c53 ?_
  obtain ⟨σ54, eσ54, h⟩ := nm_el h
  refine RN_nmS eσ54 ?_
  refine RN_iconst (pc := 19) (n := 0) (v := 0) (by decide +kernel) (by decide) ?_
  refine RN_istore (pc := 20) (i := 4) (ls2 := [some (.ref v0), some (.ref v1), some (.ref v2), some (.int v3), some (.int (0 : Int32))]) (by decide +kernel) (by decide) rfl ?_
  exact RN_weak (l := [some (.ref v0), some (.ref v1), some (.ref v2), some (.int v3), some (.int (0 : Int32))]) (And.intro rfl (And.intro rfl (And.intro rfl (And.intro rfl (And.intro rfl trivial))))) (tb_X2_perform_22 v0 v1 v2 v3 n (0 : Int32) σ54 h)
def b_X3_divisor_55 (n : Nat) (v4 : Int64) : Option Int64 :=
  if v4 ≤ (0 : Int64) then (
    some (1 : Int64))
  else (
    some v4)
set_option maxRecDepth 20000 in
theorem tb_X3_divisor_55 {G : Gl} {xr : Int64} {σ : Sg} (n : Nat) (v4 : Int64) (h : b_X3_divisor_55 n v4 = some xr) : RN G M_X3_divisor 55 [none, none, none, none, some (.long v4)] [] σ (.inl (some (.long xr))) σ := by
  unfold b_X3_divisor_55 at h
  refine RN_lload (pc := 55) (i := 4) (by decide +kernel) rfl ?_
  refine RN_lconst (pc := 57) (n := 0) (v := 0) (by decide +kernel) (by decide) ?_
  refine RN_lc_le (pc := 58) (off := 8) (tgt := 67) (by decide +kernel) (by decide +kernel) (by decide) (fun c7 => ?_) (fun c7 => ?_)
  · replace h := it_t c7 h
    refine RN_lconst (pc := 67) (n := 1) (v := 1) (by decide +kernel) (by decide) ?_
    obtain rfl := some_el h
    exact RN_lreturn (by decide +kernel) rfl
  · replace h := it_f c7 h
    refine RN_lload (pc := 62) (i := 4) (by decide +kernel) rfl ?_
    refine RN_goto (pc := 64) (off := 4) (tgt := 68) (by decide +kernel) (by decide) ?_
    obtain rfl := some_el h
    exact RN_lreturn (by decide +kernel) rfl
def b_X3_divisor_20 : Nat → Int64 → Int64 → Int32 → Option Int64
  | 0, _, _, _ => none
  | n + 1, v4, v6, v8 =>
  if (100 : Int32) ≤ v8 then (
    b_X3_divisor_55 n v4)
  else (
    if v6 = (0 : Int64) then (
      b_X3_divisor_55 n v4)
    else (
      ck (¬ v6 = 0) <|
      nm (v4 - v4 / v6 * v6) fun x10 =>
      nm (v8 + (1 : Int32)) fun x11 =>
      b_X3_divisor_20 n v6 x10 x11))
set_option maxRecDepth 20000 in
theorem tb_X3_divisor_20 {G : Gl} {xr : Int64} {σ : Sg} : ∀ (n : Nat) (v4 : Int64) (v6 : Int64) (v8 : Int32), b_X3_divisor_20 n v4 v6 v8 = some xr → RN G M_X3_divisor 20 [none, none, none, none, some (.long v4), none, some (.long v6), none, some (.int v8)] [] σ (.inl (some (.long xr))) σ := by
  intro n
  induction n with
  | zero =>
    intro v4 v6 v8 h
    exact none_el h
  | succ n ih =>
    intro v4 v6 v8 h
    rw [b_X3_divisor_20] at h
    refine RN_iload (pc := 20) (i := 8) (by decide +kernel) rfl ?_
    refine RN_bipush (pc := 22) (n := 100) (v := 100) (by decide +kernel) (by decide) ?_
    refine RN_icmp_ge (pc := 24) (off := 31) (tgt := 55) (by decide +kernel) (by decide) (fun c6 => ?_) (fun c6 => ?_)
    · replace h := it_t c6 h
      exact RN_weak (l := [none, none, none, none, some (.long v4)]) (And.intro rfl trivial) (tb_X3_divisor_55 n v4 h)
    · replace h := it_f c6 h
      refine RN_lload (pc := 27) (i := 6) (by decide +kernel) rfl ?_
      refine RN_lconst (pc := 29) (n := 0) (v := 0) (by decide +kernel) (by decide) ?_
      refine RN_lc_eq (pc := 30) (off := 24) (tgt := 55) (by decide +kernel) (by decide +kernel) (by decide) (fun c8 => ?_) (fun c8 => ?_)
      · replace h := it_t c8 h
        exact RN_weak (l := [none, none, none, none, some (.long v4)]) (And.intro rfl trivial) (tb_X3_divisor_55 n v4 h)
      · replace h := it_f c8 h
        refine RN_lload (pc := 34) (i := 4) (by decide +kernel) rfl ?_
        refine RN_lload (pc := 36) (i := 6) (by decide +kernel) rfl ?_
        obtain ⟨c9, h⟩ := ck_el h
        refine RN_lrem (pc := 38) (by decide +kernel) c9 ?_
        obtain ⟨x10, ex10, h⟩ := nm_el h
        refine RN_nmJ ex10 ?_
        refine RN_lstore (pc := 39) (i := 9) (ls2 := [none, none, none, none, some (.long v4), none, some (.long v6), none, some (.int v8), some (.long x10), none]) (by decide +kernel) (by decide) rfl ?_
        refine RN_lload (pc := 41) (i := 6) (by decide +kernel) rfl ?_
        refine RN_lstore (pc := 43) (i := 4) (ls2 := [none, none, none, none, some (.long v6), none, some (.long v6), none, some (.int v8), some (.long x10), none]) (by decide +kernel) (by decide) rfl ?_
        refine RN_lload (pc := 45) (i := 9) (by decide +kernel) rfl ?_
        refine RN_lstore (pc := 47) (i := 6) (ls2 := [none, none, none, none, some (.long v6), none, some (.long x10), none, some (.int v8), some (.long x10), none]) (by decide +kernel) (by decide) rfl ?_
        obtain ⟨x11, ex11, h⟩ := nm_el h
        refine RN_iinc (pc := 49) (i := 8) (n := 1) (v := x11) (ls2 := [none, none, none, none, some (.long v6), none, some (.long x10), none, some (.int x11), some (.long x10), none]) (by decide +kernel) rfl (by rw [ex11]; rfl) (by decide) rfl ?_
        refine RN_goto (pc := 52) (off := -32) (tgt := 20) (by decide +kernel) (by decide) ?_
        exact RN_weak (l := [none, none, none, none, some (.long v6), none, some (.long x10), none, some (.int x11)]) (And.intro rfl (And.intro rfl (And.intro rfl trivial))) (ih v6 x10 x11 h)
def b_X3_divisor_12 (n : Nat) (v2 : Int64) (s0 : Int64) : Option Int64 :=
  b_X3_divisor_20 n s0 v2 (0 : Int32)
set_option maxRecDepth 20000 in
theorem tb_X3_divisor_12 {G : Gl} {xr : Int64} {σ : Sg} (n : Nat) (v2 : Int64) (s0 : Int64) (h : b_X3_divisor_12 n v2 s0 = some xr) : RN G M_X3_divisor 12 [none, none, some (.long v2)] [.long s0] σ (.inl (some (.long xr))) σ := by
  unfold b_X3_divisor_12 at h
  refine RN_lstore (pc := 12) (i := 4) (ls2 := [none, none, some (.long v2), none, some (.long s0), none]) (by decide +kernel) (by decide) rfl ?_
  refine RN_lload_n (pc := 14) (k := 2) (by decide +kernel) rfl rfl ?_
  refine RN_lstore (pc := 15) (i := 6) (ls2 := [none, none, some (.long v2), none, some (.long s0), none, some (.long v2), none]) (by decide +kernel) (by decide) rfl ?_
  refine RN_iconst (pc := 17) (n := 0) (v := 0) (by decide +kernel) (by decide) ?_
  refine RN_istore (pc := 18) (i := 8) (ls2 := [none, none, some (.long v2), none, some (.long s0), none, some (.long v2), none, some (.int (0 : Int32))]) (by decide +kernel) (by decide) rfl ?_
  exact RN_weak (l := [none, none, none, none, some (.long s0), none, some (.long v2), none, some (.int (0 : Int32))]) (And.intro rfl (And.intro rfl (And.intro rfl trivial))) (tb_X3_divisor_20  n s0 v2 (0 : Int32) h)
def f_X3_divisor (n : Nat) (v0 : Int64) (v2 : Int64) : Option Int64 :=
  if (0 : Int64) ≤ v0 then (
    b_X3_divisor_12 n v2 v0)
  else (
    b_X3_divisor_12 n v2 (-v0))
set_option maxRecDepth 20000 in
theorem t_X3_divisor {G : Gl} {xr : Int64} {n : Nat} {v0 : Int64} {v2 : Int64} {σ : Sg} (h : f_X3_divisor n v0 v2 = some xr) : MT G M_X3_divisor [.long v0, .long v2] σ (some (.long xr)) σ := by
  refine MT_of rfl rfl (Nat.le_of_ble_eq_true rfl) ?_
  show RN G M_X3_divisor 0 [some (.long v0), none, some (.long v2), none] [] σ (.inl (some (.long xr))) σ
  unfold f_X3_divisor at h
  refine RN_lload_n (pc := 0) (k := 0) (by decide +kernel) rfl rfl ?_
  refine RN_lconst (pc := 1) (n := 0) (v := 0) (by decide +kernel) (by decide) ?_
  refine RN_lc_ge (pc := 2) (off := 8) (tgt := 11) (by decide +kernel) (by decide +kernel) (by decide) (fun c5 => ?_) (fun c5 => ?_)
  · replace h := it_t c5 h
    refine RN_lload_n (pc := 11) (k := 0) (by decide +kernel) rfl rfl ?_
    exact RN_weak (l := [none, none, some (.long v2)]) (And.intro rfl trivial) (tb_X3_divisor_12 n v2 v0 h)
  · replace h := it_f c5 h
    refine RN_lload_n (pc := 6) (k := 0) (by decide +kernel) rfl rfl ?_
    refine RN_lneg (pc := 7) (by decide +kernel) ?_
    refine RN_goto (pc := 8) (off := 4) (tgt := 12) (by decide +kernel) (by decide) ?_
    exact RN_weak (l := [none, none, some (.long v2)]) (And.intro rfl trivial) (tb_X3_divisor_12 n v2 (-v0) h)
def f_X3_isSpent (v0 : Int64) (v2 : Int64) : Option Int32 :=
  if (1099511627776 : Int64) < v0 then (
    some (1 : Int32))
  else (
    if v0 < (-1099511627776 : Int64) then (
      some (1 : Int32))
    else (
      if v2 ≤ (1048576 : Int64) then (
        some (0 : Int32))
      else (
        some (1 : Int32))))
set_option maxRecDepth 20000 in
theorem t_X3_isSpent {G : Gl} {xr : Int32} {v0 : Int64} {v2 : Int64} {σ : Sg} (h : f_X3_isSpent v0 v2 = some xr) : MT G M_X3_isSpent [.long v0, .long v2] σ (some (.int xr)) σ := by
  refine MT_of rfl rfl (Nat.le_of_ble_eq_true rfl) ?_
  show RN G M_X3_isSpent 0 [some (.long v0), none, some (.long v2), none] [] σ (.inl (some (.int xr))) σ
  unfold f_X3_isSpent at h
  refine RN_lload_n (pc := 0) (k := 0) (by decide +kernel) rfl rfl ?_
  refine RN_ldc2 (pc := 1) (idx := 11) (v := 1099511627776) (by decide +kernel) kc_RX3_11 ?_
  refine RN_lc_gt (pc := 4) (off := 19) (tgt := 24) (by decide +kernel) (by decide +kernel) (by decide) (fun c1 => ?_) (fun c1 => ?_)
  · replace h := it_t c1 h
    refine RN_iconst (pc := 24) (n := 1) (v := 1) (by decide +kernel) (by decide) ?_
    refine RN_goto (pc := 25) (off := 4) (tgt := 29) (by decide +kernel) (by decide) ?_
    obtain rfl := some_el h
    exact RN_zreturn (by decide +kernel) rfl (Or.inr rfl)
  · replace h := it_f c1 h
    refine RN_lload_n (pc := 8) (k := 0) (by decide +kernel) rfl rfl ?_
    refine RN_ldc2 (pc := 9) (idx := 13) (v := -1099511627776) (by decide +kernel) kc_RX3_13 ?_
    refine RN_lc_lt (pc := 12) (off := 11) (tgt := 24) (by decide +kernel) (by decide +kernel) (by decide) (fun c2 => ?_) (fun c2 => ?_)
    · replace h := it_t c2 h
      refine RN_iconst (pc := 24) (n := 1) (v := 1) (by decide +kernel) (by decide) ?_
      refine RN_goto (pc := 25) (off := 4) (tgt := 29) (by decide +kernel) (by decide) ?_
      obtain rfl := some_el h
      exact RN_zreturn (by decide +kernel) rfl (Or.inr rfl)
    · replace h := it_f c2 h
      refine RN_lload_n (pc := 16) (k := 2) (by decide +kernel) rfl rfl ?_
      refine RN_ldc2 (pc := 17) (idx := 15) (v := 1048576) (by decide +kernel) kc_RX3_15 ?_
      refine RN_lc_le (pc := 20) (off := 7) (tgt := 28) (by decide +kernel) (by decide +kernel) (by decide) (fun c3 => ?_) (fun c3 => ?_)
      · replace h := it_t c3 h
        refine RN_iconst (pc := 28) (n := 0) (v := 0) (by decide +kernel) (by decide) ?_
        obtain rfl := some_el h
        exact RN_zreturn (by decide +kernel) rfl (Or.inl rfl)
      · replace h := it_f c3 h
        refine RN_iconst (pc := 24) (n := 1) (v := 1) (by decide +kernel) (by decide) ?_
        refine RN_goto (pc := 25) (off := 4) (tgt := 29) (by decide +kernel) (by decide) ?_
        obtain rfl := some_el h
        exact RN_zreturn (by decide +kernel) rfl (Or.inr rfl)
