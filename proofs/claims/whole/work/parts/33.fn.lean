def f_X12_plain (n : Nat) (v0 : Nat) (v1 : Int32) (v2 : Int64) (σ : Sg) : Option Sg :=
  ck (okO σ v0 11) <|
  bd (f_X12_becomesWhole n v0 v1 v2 σ) fun x13 σ12 =>
  if x13 = 0 then (
    some σ12)
  else (
    ck (okO σ12 v0 11) <|
    ck (¬ gR σ12 v0 26 = 0) <|
    nm (gR σ12 v0 26) fun r17 =>
    ck (okW σ12 r17 15 (((8 : Int32) * (gI σ12 v0 16)) + v1)) <|
    nm (pI σ12 r17 (((8 : Int32) * (gI σ12 v0 16)) + v1).toNatClampNeg (0 : Int32)) fun σ19 =>
    some σ19)
set_option maxRecDepth 20000 in
theorem t_X12_plain {G : Gl} {σr : Sg} {n : Nat} {v0 : Nat} {v1 : Int32} {v2 : Int64} {σ : Sg} (h : f_X12_plain n v0 v1 v2 σ = some σr) : MT G M_X12_plain [.ref v0, .int v1, .long v2] σ none σr := by
  refine MT_of rfl rfl (Nat.le_of_ble_eq_true rfl) ?_
  show RN G M_X12_plain 0 [some (.ref v0), some (.int v1), some (.long v2), none] [] σ (.inl none) σr
  unfold f_X12_plain at h
  refine RN_aload_n (pc := 0) (k := 0) (by decide +kernel) rfl rfl ?_
  refine RN_iload_n (pc := 1) (k := 1) (by decide +kernel) rfl rfl ?_
  refine RN_lload_n (pc := 2) (k := 2) (by decide +kernel) rfl rfl ?_
  obtain ⟨c10, h⟩ := ck_el h
  obtain ⟨x13, σ12, f11, h⟩ := bd_el h
  refine RN_callV (M := M_X12_plain) (pc := 3) (idx := 205) (as := [.int v1, .long v2]) (st := []) (t_X12_becomesWhole f11) (by decide +kernel) lk_RX12_205 rfl ⟨by decide, fun q hq => by cases hq; rfl⟩ c10 (Nat.le_of_ble_eq_true rfl) ⟨Nat.le_of_ble_eq_true rfl, Nat.le_of_ble_eq_true rfl⟩ rfl ?_
  show RN G M_X12_plain 6 [some (.ref v0), some (.int v1), some (.long v2), none] [.int x13] σ12 _ _
  refine RN_if_eq (pc := 6) (off := 18) (tgt := 24) (by decide +kernel) (by decide) (fun c14 => ?_) (fun c14 => ?_)
  · replace h := it_t c14 h
    obtain rfl := some_el h
    exact RN_return (by decide +kernel) rfl
  · replace h := it_f c14 h
    refine RN_aload_n (pc := 9) (k := 0) (by decide +kernel) rfl rfl ?_
    obtain ⟨c15, h⟩ := ck_el h
    obtain ⟨c16, h⟩ := ck_el h
    refine RN_getR (pc := 10) (idx := 69) (ci := 11) (k := 26) (by decide +kernel) lf_RX12_69 rfl c15 c16 ?_
    obtain ⟨r17, er17, h⟩ := nm_el h
    refine RN_nmR er17 ?_
    refine RN_bipush (pc := 13) (n := 8) (v := 8) (by decide +kernel) (by decide) ?_
    refine RN_aload_n (pc := 15) (k := 0) (by decide +kernel) rfl rfl ?_
    refine RN_getI (pc := 16) (idx := 146) (ci := 11) (k := 16) (by decide +kernel) lf_RX12_146 (Or.inl rfl) c15 ?_
    refine RN_imul (pc := 19) (by decide +kernel) ?_
    refine RN_iload_n (pc := 20) (k := 1) (by decide +kernel) rfl rfl ?_
    refine RN_iadd (pc := 21) (by decide +kernel) ?_
    refine RN_iconst (pc := 22) (n := 0) (v := 0) (by decide +kernel) (by decide) ?_
    obtain ⟨c18, h⟩ := ck_el h
    refine RN_zast (pc := 23) (by decide +kernel) (Or.inl rfl) c18 ?_
    obtain ⟨σ19, eσ19, h⟩ := nm_el h
    refine RN_nmS eσ19 ?_
    obtain rfl := some_el h
    exact RN_return (by decide +kernel) rfl
def b_X12_taxes_112 (n : Nat) (v0 : Nat) (v1 : Int32) (v5 : Int64) (σ : Sg) : Option Sg :=
  ck (okO σ v0 11) <|
  bp (f_X12_plain n v0 v1 v5 σ) fun σ35 =>
  some σ35
set_option maxRecDepth 20000 in
theorem tb_X12_taxes_112 {G : Gl} {σr : Sg} (n : Nat) (v0 : Nat) (v1 : Int32) (v5 : Int64) (σ : Sg) (h : b_X12_taxes_112 n v0 v1 v5 σ = some σr) : RN G M_X12_taxes 112 [some (.ref v0), some (.int v1), none, none, none, some (.long v5)] [] σ (.inl none) σr := by
  unfold b_X12_taxes_112 at h
  refine RN_aload_n (pc := 112) (k := 0) (by decide +kernel) rfl rfl ?_
  refine RN_iload_n (pc := 113) (k := 1) (by decide +kernel) rfl rfl ?_
  refine RN_lload (pc := 114) (i := 5) (by decide +kernel) rfl ?_
  obtain ⟨c33, h⟩ := ck_el h
  obtain ⟨σ35, f34, h⟩ := bp_el h
  refine RN_callV (M := M_X12_taxes) (pc := 116) (idx := 216) (as := [.int v1, .long v5]) (st := []) (t_X12_plain f34) (by decide +kernel) lk_RX12_216 rfl ⟨by decide, fun q hq => by cases hq; rfl⟩ c33 (Nat.le_of_ble_eq_true rfl) ⟨Nat.le_of_ble_eq_true rfl, Nat.le_of_ble_eq_true rfl⟩ rfl ?_
  show RN G M_X12_taxes 119 [some (.ref v0), some (.int v1), none, none, none, some (.long v5)] [] σ35 _ _
  obtain rfl := some_el h
  exact RN_return (by decide +kernel) rfl
def b_X12_taxes_79 (k9 : Int64 → Int64 → Int32 → Sg → Option Sg) (n : Nat) (v0 : Nat) (v1 : Int32) (v2 : Int32) (v3 : Int32) (v4 : Int32) (v5 : Int64) (v7 : Int64) (v9 : Int32) (s0 : Int64) (s1 : Int64) (σ : Sg) : Option Sg :=
  nm (s1 - s0) fun x50 =>
  ck (okO σ v0 11) <|
  ck (¬ gR σ v0 22 = 0) <|
  nm (gR σ v0 22) fun r53 =>
  ck (okW σ r53 14 (((12 : Int32) * (gI σ v0 16)) + v9)) <|
  nm (pJ σ r53 (((12 : Int32) * (gI σ v0 16)) + v9).toNatClampNeg x50) fun σ55 =>
  nm (v5 + x50) fun x56 =>
  nm (v9 + (1 : Int32)) fun x57 =>
  k9 x56 v7 x57 σ55
set_option maxRecDepth 20000 in
theorem tb_X12_taxes_79 {G : Gl} {σr : Sg} (n : Nat) (v0 : Nat) (v1 : Int32) (v2 : Int32) (v3 : Int32) (v4 : Int32) (v5 : Int64) (v7 : Int64) (v9 : Int32) (s0 : Int64) (s1 : Int64) (σ : Sg) (k9 : Int64 → Int64 → Int32 → Sg → Option Sg) (hk9 : ∀ (c5 : Int64) (c7 : Int64) (c9 : Int32) (τ : Sg), k9 c5 c7 c9 τ = some σr → RN G M_X12_taxes 9 [some (.ref v0), some (.int v1), some (.int v2), some (.int v3), some (.int v4), some (.long c5), none, some (.long c7), none, some (.int c9)] [] τ (.inl none) σr) (h : b_X12_taxes_79 k9 n v0 v1 v2 v3 v4 v5 v7 v9 s0 s1 σ = some σr) : RN G M_X12_taxes 79 [some (.ref v0), some (.int v1), some (.int v2), some (.int v3), some (.int v4), some (.long v5), none, some (.long v7), none, some (.int v9)] [.long s0, .long s1] σ (.inl none) σr := by
  unfold b_X12_taxes_79 at h
  refine RN_lsub (pc := 79) (by decide +kernel) ?_
  obtain ⟨x50, ex50, h⟩ := nm_el h
  refine RN_nmJ ex50 ?_
  refine RN_lstore (pc := 80) (i := 10) (ls2 := [some (.ref v0), some (.int v1), some (.int v2), some (.int v3), some (.int v4), some (.long v5), none, some (.long v7), none, some (.int v9), some (.long x50), none]) (by decide +kernel) (by decide) rfl ?_
  refine RN_aload_n (pc := 82) (k := 0) (by decide +kernel) rfl rfl ?_
  obtain ⟨c51, h⟩ := ck_el h
  obtain ⟨c52, h⟩ := ck_el h
  refine RN_getR (pc := 83) (idx := 57) (ci := 11) (k := 22) (by decide +kernel) lf_RX12_57 rfl c51 c52 ?_
  obtain ⟨r53, er53, h⟩ := nm_el h
  refine RN_nmR er53 ?_
  refine RN_bipush (pc := 86) (n := 12) (v := 12) (by decide +kernel) (by decide) ?_
  refine RN_aload_n (pc := 88) (k := 0) (by decide +kernel) rfl rfl ?_
  refine RN_getI (pc := 89) (idx := 146) (ci := 11) (k := 16) (by decide +kernel) lf_RX12_146 (Or.inl rfl) c51 ?_
  refine RN_imul (pc := 92) (by decide +kernel) ?_
  refine RN_iload (pc := 93) (i := 9) (by decide +kernel) rfl ?_
  refine RN_iadd (pc := 95) (by decide +kernel) ?_
  refine RN_lload (pc := 96) (i := 10) (by decide +kernel) rfl ?_
  obtain ⟨c54, h⟩ := ck_el h
  refine RN_last (pc := 98) (by decide +kernel) c54 ?_
  obtain ⟨σ55, eσ55, h⟩ := nm_el h
  refine RN_nmS eσ55 ?_
  refine RN_lload (pc := 99) (i := 5) (by decide +kernel) rfl ?_
  refine RN_lload (pc := 101) (i := 10) (by decide +kernel) rfl ?_
  refine RN_ladd (pc := 103) (by decide +kernel) ?_
  obtain ⟨x56, ex56, h⟩ := nm_el h
  refine RN_nmJ ex56 ?_
  refine RN_lstore (pc := 104) (i := 5) (ls2 := [some (.ref v0), some (.int v1), some (.int v2), some (.int v3), some (.int v4), some (.long x56), none, some (.long v7), none, some (.int v9), some (.long x50), none]) (by decide +kernel) (by decide) rfl ?_
  obtain ⟨x57, ex57, h⟩ := nm_el h
  refine RN_iinc (pc := 106) (i := 9) (n := 1) (v := x57) (ls2 := [some (.ref v0), some (.int v1), some (.int v2), some (.int v3), some (.int v4), some (.long x56), none, some (.long v7), none, some (.int x57), some (.long x50), none]) (by decide +kernel) rfl (by rw [ex57]; rfl) (by decide) rfl ?_
  refine RN_goto (pc := 109) (off := -100) (tgt := 9) (by decide +kernel) (by decide) ?_
  exact RN_weak (l := [some (.ref v0), some (.int v1), some (.int v2), some (.int v3), some (.int v4), some (.long x56), none, some (.long v7), none, some (.int x57)]) (And.intro rfl (And.intro rfl (And.intro rfl (And.intro rfl (And.intro rfl (And.intro rfl (And.intro rfl (And.intro rfl trivial)))))))) (hk9 x56 v7 x57 σ55 h)
def b_X12_taxes_45 (k9 : Int64 → Int64 → Int32 → Sg → Option Sg) (n : Nat) (v0 : Nat) (v1 : Int32) (v2 : Int32) (v3 : Int32) (v4 : Int32) (v5 : Int64) (v9 : Int32) (s0 : Int64) (σ : Sg) : Option Sg :=
  ck (okO σ v0 11) <|
  ck (¬ gR σ v0 1 = 0) <|
  nm (gR σ v0 1) fun r42 =>
  ck (okA σ r42 13 v2) <|
  ck (¬ gR σ v0 2 = 0) <|
  nm (gR σ v0 2) fun r45 =>
  ck (okA σ r45 13 v2) <|
  bp (f_X12_times (s0 * ((gI σ r42 v2.toNatClampNeg).toInt64)) ((gI σ r45 v2.toNatClampNeg).toInt64) v3) fun x48 =>
  if v4 = 0 then (
    b_X12_taxes_79 k9 n v0 v1 v2 v3 v4 v5 s0 v9 (0 : Int64) x48 σ)
  else (
    b_X12_taxes_79 k9 n v0 v1 v2 v3 v4 v5 s0 v9 v5 x48 σ)
set_option maxRecDepth 20000 in
theorem tb_X12_taxes_45 {G : Gl} {σr : Sg} (n : Nat) (v0 : Nat) (v1 : Int32) (v2 : Int32) (v3 : Int32) (v4 : Int32) (v5 : Int64) (v9 : Int32) (s0 : Int64) (σ : Sg) (k9 : Int64 → Int64 → Int32 → Sg → Option Sg) (hk9 : ∀ (c5 : Int64) (c7 : Int64) (c9 : Int32) (τ : Sg), k9 c5 c7 c9 τ = some σr → RN G M_X12_taxes 9 [some (.ref v0), some (.int v1), some (.int v2), some (.int v3), some (.int v4), some (.long c5), none, some (.long c7), none, some (.int c9)] [] τ (.inl none) σr) (h : b_X12_taxes_45 k9 n v0 v1 v2 v3 v4 v5 v9 s0 σ = some σr) : RN G M_X12_taxes 45 [some (.ref v0), some (.int v1), some (.int v2), some (.int v3), some (.int v4), some (.long v5), none, none, none, some (.int v9)] [.long s0] σ (.inl none) σr := by
  unfold b_X12_taxes_45 at h
  refine RN_lstore (pc := 45) (i := 7) (ls2 := [some (.ref v0), some (.int v1), some (.int v2), some (.int v3), some (.int v4), some (.long v5), none, some (.long s0), none, some (.int v9)]) (by decide +kernel) (by decide) rfl ?_
  refine RN_lload (pc := 47) (i := 7) (by decide +kernel) rfl ?_
  refine RN_aload_n (pc := 49) (k := 0) (by decide +kernel) rfl rfl ?_
  obtain ⟨c40, h⟩ := ck_el h
  obtain ⟨c41, h⟩ := ck_el h
  refine RN_getR (pc := 50) (idx := 7) (ci := 11) (k := 1) (by decide +kernel) lf_RX12_7 rfl c40 c41 ?_
  obtain ⟨r42, er42, h⟩ := nm_el h
  refine RN_nmR er42 ?_
  refine RN_iload_n (pc := 53) (k := 2) (by decide +kernel) rfl rfl ?_
  obtain ⟨c43, h⟩ := ck_el h
  refine RN_iald (pc := 54) (by decide +kernel) c43 ?_
  refine RN_i2l (pc := 55) (by decide +kernel) ?_
  refine RN_lmul (pc := 56) (by decide +kernel) ?_
  refine RN_aload_n (pc := 57) (k := 0) (by decide +kernel) rfl rfl ?_
  obtain ⟨c44, h⟩ := ck_el h
  refine RN_getR (pc := 58) (idx := 13) (ci := 11) (k := 2) (by decide +kernel) lf_RX12_13 rfl c40 c44 ?_
  obtain ⟨r45, er45, h⟩ := nm_el h
  refine RN_nmR er45 ?_
  refine RN_iload_n (pc := 61) (k := 2) (by decide +kernel) rfl rfl ?_
  obtain ⟨c46, h⟩ := ck_el h
  refine RN_iald (pc := 62) (by decide +kernel) c46 ?_
  refine RN_i2l (pc := 63) (by decide +kernel) ?_
  refine RN_iload_n (pc := 64) (k := 3) (by decide +kernel) rfl rfl ?_
  obtain ⟨x48, f47, h⟩ := bp_el h
  refine RN_callS (M := M_X12_taxes) (pc := 65) (idx := 212) (as := [.long (s0 * ((gI σ r42 v2.toNatClampNeg).toInt64)), .long ((gI σ r45 v2.toNatClampNeg).toInt64), .int v3]) (st := []) (t_X12_times f47) (by decide +kernel) lk_RX12_212 rfl (Nat.le_of_ble_eq_true rfl) ⟨Nat.le_of_ble_eq_true rfl, Nat.le_of_ble_eq_true rfl⟩ rfl ?_
  show RN G M_X12_taxes 68 [some (.ref v0), some (.int v1), some (.int v2), some (.int v3), some (.int v4), some (.long v5), none, some (.long s0), none, some (.int v9)] [.long x48] σ _ _
  refine RN_iload (pc := 68) (i := 4) (by decide +kernel) rfl ?_
  refine RN_if_eq (pc := 70) (off := 8) (tgt := 78) (by decide +kernel) (by decide) (fun c49 => ?_) (fun c49 => ?_)
  · replace h := it_t c49 h
    refine RN_lconst (pc := 78) (n := 0) (v := 0) (by decide +kernel) (by decide) ?_
    exact RN_weak (l := [some (.ref v0), some (.int v1), some (.int v2), some (.int v3), some (.int v4), some (.long v5), none, some (.long s0), none, some (.int v9)]) (And.intro rfl (And.intro rfl (And.intro rfl (And.intro rfl (And.intro rfl (And.intro rfl (And.intro rfl (And.intro rfl trivial)))))))) (tb_X12_taxes_79 n v0 v1 v2 v3 v4 v5 s0 v9 (0 : Int64) x48 σ k9 hk9 h)
  · replace h := it_f c49 h
    refine RN_lload (pc := 73) (i := 5) (by decide +kernel) rfl ?_
    refine RN_goto (pc := 75) (off := 4) (tgt := 79) (by decide +kernel) (by decide) ?_
    exact RN_weak (l := [some (.ref v0), some (.int v1), some (.int v2), some (.int v3), some (.int v4), some (.long v5), none, some (.long s0), none, some (.int v9)]) (And.intro rfl (And.intro rfl (And.intro rfl (And.intro rfl (And.intro rfl (And.intro rfl (And.intro rfl (And.intro rfl trivial)))))))) (tb_X12_taxes_79 n v0 v1 v2 v3 v4 v5 s0 v9 v5 x48 σ k9 hk9 h)
def b_X12_taxes_9 : Nat → Nat → Int32 → Int32 → Int32 → Int32 → Int64 → Int64 → Int32 → Sg → Option Sg
  | 0, _, _, _, _, _, _, _, _, _ => none
  | n + 1, v0, v1, v2, v3, v4, v5, v7, v9, σ =>
  ck (okO σ v0 11) <|
  if (gI σ v0 17) ≤ v9 then (
    b_X12_taxes_112 n v0 v1 v5 σ)
  else (
    if v4 = 0 then (
      ck (¬ gR σ v0 18 = 0) <|
      nm (gR σ v0 18) fun r38 =>
      ck (okA σ r38 13 v9) <|
      b_X12_taxes_45 (fun c5 c7 c9 τ => b_X12_taxes_9 n v0 v1 v2 v3 v4 c5 c7 c9 τ) n v0 v1 v2 v3 v4 v5 v9 ((gI σ r38 v9.toNatClampNeg).toInt64) σ)
    else (
      ck (¬ gR σ v0 18 = 0) <|
      nm (gR σ v0 18) fun r59 =>
      ck (okA σ r59 13 v9) <|
      b_X12_taxes_45 (fun c5 c7 c9 τ => b_X12_taxes_9 n v0 v1 v2 v3 v4 c5 c7 c9 τ) n v0 v1 v2 v3 v4 v5 v9 (v7 + ((gI σ r59 v9.toNatClampNeg).toInt64)) σ))
set_option maxRecDepth 20000 in
theorem tb_X12_taxes_9 {G : Gl} {σr : Sg} (v0 : Nat) (v1 : Int32) (v2 : Int32) (v3 : Int32) (v4 : Int32) : ∀ (n : Nat) (v5 : Int64) (v7 : Int64) (v9 : Int32) (σ : Sg), b_X12_taxes_9 n v0 v1 v2 v3 v4 v5 v7 v9 σ = some σr → RN G M_X12_taxes 9 [some (.ref v0), some (.int v1), some (.int v2), some (.int v3), some (.int v4), some (.long v5), none, some (.long v7), none, some (.int v9)] [] σ (.inl none) σr := by
  intro n
  induction n with
  | zero =>
    intro v5 v7 v9 σ h
    exact none_el h
  | succ n ih =>
    intro v5 v7 v9 σ h
    rw [b_X12_taxes_9] at h
    refine RN_iload (pc := 9) (i := 9) (by decide +kernel) rfl ?_
    refine RN_aload_n (pc := 11) (k := 0) (by decide +kernel) rfl rfl ?_
    obtain ⟨c31, h⟩ := ck_el h
    refine RN_getI (pc := 12) (idx := 209) (ci := 11) (k := 17) (by decide +kernel) lf_RX12_209 (Or.inl rfl) c31 ?_
    refine RN_icmp_ge (pc := 15) (off := 97) (tgt := 112) (by decide +kernel) (by decide) (fun c32 => ?_) (fun c32 => ?_)
    · replace h := it_t c32 h
      exact RN_weak (l := [some (.ref v0), some (.int v1), none, none, none, some (.long v5)]) (And.intro rfl (And.intro rfl (And.intro rfl trivial))) (tb_X12_taxes_112 n v0 v1 v5 σ h)
    · replace h := it_f c32 h
      refine RN_iload (pc := 18) (i := 4) (by decide +kernel) rfl ?_
      refine RN_if_eq (pc := 20) (off := 17) (tgt := 37) (by decide +kernel) (by decide) (fun c36 => ?_) (fun c36 => ?_)
      · replace h := it_t c36 h
        refine RN_aload_n (pc := 37) (k := 0) (by decide +kernel) rfl rfl ?_
        obtain ⟨c37, h⟩ := ck_el h
        refine RN_getR (pc := 38) (idx := 44) (ci := 11) (k := 18) (by decide +kernel) lf_RX12_44 rfl c31 c37 ?_
        obtain ⟨r38, er38, h⟩ := nm_el h
        refine RN_nmR er38 ?_
        refine RN_iload (pc := 41) (i := 9) (by decide +kernel) rfl ?_
        obtain ⟨c39, h⟩ := ck_el h
        refine RN_iald (pc := 43) (by decide +kernel) c39 ?_
        refine RN_i2l (pc := 44) (by decide +kernel) ?_
        exact RN_weak (l := [some (.ref v0), some (.int v1), some (.int v2), some (.int v3), some (.int v4), some (.long v5), none, none, none, some (.int v9)]) (And.intro rfl (And.intro rfl (And.intro rfl (And.intro rfl (And.intro rfl (And.intro rfl (And.intro rfl trivial))))))) (tb_X12_taxes_45 n v0 v1 v2 v3 v4 v5 v9 ((gI σ r38 v9.toNatClampNeg).toInt64) σ _ (fun c5 c7 c9 τ h => ih c5 c7 c9 τ h) h)
      · replace h := it_f c36 h
        refine RN_lload (pc := 23) (i := 7) (by decide +kernel) rfl ?_
        refine RN_aload_n (pc := 25) (k := 0) (by decide +kernel) rfl rfl ?_
        obtain ⟨c58, h⟩ := ck_el h
        refine RN_getR (pc := 26) (idx := 44) (ci := 11) (k := 18) (by decide +kernel) lf_RX12_44 rfl c31 c58 ?_
        obtain ⟨r59, er59, h⟩ := nm_el h
        refine RN_nmR er59 ?_
        refine RN_iload (pc := 29) (i := 9) (by decide +kernel) rfl ?_
        obtain ⟨c60, h⟩ := ck_el h
        refine RN_iald (pc := 31) (by decide +kernel) c60 ?_
        refine RN_i2l (pc := 32) (by decide +kernel) ?_
        refine RN_ladd (pc := 33) (by decide +kernel) ?_
        refine RN_goto (pc := 34) (off := 11) (tgt := 45) (by decide +kernel) (by decide) ?_
        exact RN_weak (l := [some (.ref v0), some (.int v1), some (.int v2), some (.int v3), some (.int v4), some (.long v5), none, none, none, some (.int v9)]) (And.intro rfl (And.intro rfl (And.intro rfl (And.intro rfl (And.intro rfl (And.intro rfl (And.intro rfl trivial))))))) (tb_X12_taxes_45 n v0 v1 v2 v3 v4 v5 v9 (v7 + ((gI σ r59 v9.toNatClampNeg).toInt64)) σ _ (fun c5 c7 c9 τ h => ih c5 c7 c9 τ h) h)
def f_X12_taxes (n : Nat) (v0 : Nat) (v1 : Int32) (v2 : Int32) (v3 : Int32) (v4 : Int32) (σ : Sg) : Option Sg :=
  b_X12_taxes_9 n v0 v1 v2 v3 v4 (0 : Int64) (0 : Int64) (0 : Int32) σ
set_option maxRecDepth 20000 in
theorem t_X12_taxes {G : Gl} {σr : Sg} {n : Nat} {v0 : Nat} {v1 : Int32} {v2 : Int32} {v3 : Int32} {v4 : Int32} {σ : Sg} (h : f_X12_taxes n v0 v1 v2 v3 v4 σ = some σr) : MT G M_X12_taxes [.ref v0, .int v1, .int v2, .int v3, .int v4] σ none σr := by
  refine MT_of rfl rfl (Nat.le_of_ble_eq_true rfl) ?_
  show RN G M_X12_taxes 0 [some (.ref v0), some (.int v1), some (.int v2), some (.int v3), some (.int v4)] [] σ (.inl none) σr
  unfold f_X12_taxes at h
  refine RN_lconst (pc := 0) (n := 0) (v := 0) (by decide +kernel) (by decide) ?_
  refine RN_lstore (pc := 1) (i := 5) (ls2 := [some (.ref v0), some (.int v1), some (.int v2), some (.int v3), some (.int v4), some (.long (0 : Int64)), none]) (by decide +kernel) (by decide) rfl ?_
  refine RN_lconst (pc := 3) (n := 0) (v := 0) (by decide +kernel) (by decide) ?_
  refine RN_lstore (pc := 4) (i := 7) (ls2 := [some (.ref v0), some (.int v1), some (.int v2), some (.int v3), some (.int v4), some (.long (0 : Int64)), none, some (.long (0 : Int64)), none]) (by decide +kernel) (by decide) rfl ?_
  refine RN_iconst (pc := 6) (n := 0) (v := 0) (by decide +kernel) (by decide) ?_
  refine RN_istore (pc := 7) (i := 9) (ls2 := [some (.ref v0), some (.int v1), some (.int v2), some (.int v3), some (.int v4), some (.long (0 : Int64)), none, some (.long (0 : Int64)), none, some (.int (0 : Int32))]) (by decide +kernel) (by decide) rfl ?_
  exact RN_weak (l := [some (.ref v0), some (.int v1), some (.int v2), some (.int v3), some (.int v4), some (.long (0 : Int64)), none, some (.long (0 : Int64)), none, some (.int (0 : Int32))]) (And.intro rfl (And.intro rfl (And.intro rfl (And.intro rfl (And.intro rfl (And.intro rfl (And.intro rfl (And.intro rfl trivial)))))))) (tb_X12_taxes_9 v0 v1 v2 v3 v4 n (0 : Int64) (0 : Int64) (0 : Int32) σ h)
def b_X12_isEven_34 (n : Nat) (v2 : Int32) (σ : Sg) : Option Int32 :=
  if v2 = 0 then (
    some (1 : Int32))
  else (
    some (0 : Int32))
set_option maxRecDepth 20000 in
theorem tb_X12_isEven_34 {G : Gl} {xr : Int32} (n : Nat) (v2 : Int32) (σ : Sg) (h : b_X12_isEven_34 n v2 σ = some xr) : RN G M_X12_isEven 34 [none, none, some (.int v2)] [] σ (.inl (some (.int xr))) σ := by
  unfold b_X12_isEven_34 at h
  refine RN_iload_n (pc := 34) (k := 2) (by decide +kernel) rfl rfl ?_
  refine RN_if_ne (pc := 35) (off := 7) (tgt := 42) (by decide +kernel) (by decide) (fun c16 => ?_) (fun c16 => ?_)
  · replace h := it_f c16 h
    refine RN_iconst (pc := 42) (n := 0) (v := 0) (by decide +kernel) (by decide) ?_
    obtain rfl := some_el h
    exact RN_zreturn (by decide +kernel) rfl (Or.inl rfl)
  · replace h := it_t c16 h
    refine RN_iconst (pc := 38) (n := 1) (v := 1) (by decide +kernel) (by decide) ?_
    refine RN_goto (pc := 39) (off := 4) (tgt := 43) (by decide +kernel) (by decide) ?_
    obtain rfl := some_el h
    exact RN_zreturn (by decide +kernel) rfl (Or.inr rfl)
def b_X12_isEven_4 : Nat → Nat → Int32 → Int32 → Int32 → Sg → Option Int32
  | 0, _, _, _, _, _ => none
  | n + 1, v0, v1, v2, v3, σ =>
  ck (okO σ v0 11) <|
  ck (¬ gR σ v0 5 = 0) <|
  nm (gR σ v0 5) fun r13 =>
  ck (okA σ r13 13 v1) <|
  if (gI σ r13 v1.toNatClampNeg) ≤ v3 then (
    b_X12_isEven_34 n v2 σ)
  else (
    ck (¬ gR σ v0 6 = 0) <|
    nm (gR σ v0 6) fun r18 =>
    ck (okA σ r18 13 (((8 : Int32) * v1) + v3)) <|
    nm (v2 + (gI σ r18 (((8 : Int32) * v1) + v3).toNatClampNeg)) fun x20 =>
    nm (v3 + (1 : Int32)) fun x21 =>
    b_X12_isEven_4 n v0 v1 x20 x21 σ)
set_option maxRecDepth 20000 in
theorem tb_X12_isEven_4 {G : Gl} {xr : Int32} (v0 : Nat) (v1 : Int32) (σ : Sg) : ∀ (n : Nat) (v2 : Int32) (v3 : Int32), b_X12_isEven_4 n v0 v1 v2 v3 σ = some xr → RN G M_X12_isEven 4 [some (.ref v0), some (.int v1), some (.int v2), some (.int v3)] [] σ (.inl (some (.int xr))) σ := by
  intro n
  induction n with
  | zero =>
    intro v2 v3 h
    exact none_el h
  | succ n ih =>
    intro v2 v3 h
    rw [b_X12_isEven_4] at h
    refine RN_iload_n (pc := 4) (k := 3) (by decide +kernel) rfl rfl ?_
    refine RN_aload_n (pc := 5) (k := 0) (by decide +kernel) rfl rfl ?_
    obtain ⟨c11, h⟩ := ck_el h
    obtain ⟨c12, h⟩ := ck_el h
    refine RN_getR (pc := 6) (idx := 19) (ci := 11) (k := 5) (by decide +kernel) lf_RX12_19 rfl c11 c12 ?_
    obtain ⟨r13, er13, h⟩ := nm_el h
    refine RN_nmR er13 ?_
    refine RN_iload_n (pc := 9) (k := 1) (by decide +kernel) rfl rfl ?_
    obtain ⟨c14, h⟩ := ck_el h
    refine RN_iald (pc := 10) (by decide +kernel) c14 ?_
    refine RN_icmp_ge (pc := 11) (off := 23) (tgt := 34) (by decide +kernel) (by decide) (fun c15 => ?_) (fun c15 => ?_)
    · replace h := it_t c15 h
      exact RN_weak (l := [none, none, some (.int v2)]) (And.intro rfl trivial) (tb_X12_isEven_34 n v2 σ h)
    · replace h := it_f c15 h
      refine RN_iload_n (pc := 14) (k := 2) (by decide +kernel) rfl rfl ?_
      refine RN_aload_n (pc := 15) (k := 0) (by decide +kernel) rfl rfl ?_
      obtain ⟨c17, h⟩ := ck_el h
      refine RN_getR (pc := 16) (idx := 22) (ci := 11) (k := 6) (by decide +kernel) lf_RX12_22 rfl c11 c17 ?_
      obtain ⟨r18, er18, h⟩ := nm_el h
      refine RN_nmR er18 ?_
      refine RN_bipush (pc := 19) (n := 8) (v := 8) (by decide +kernel) (by decide) ?_
      refine RN_iload_n (pc := 21) (k := 1) (by decide +kernel) rfl rfl ?_
      refine RN_imul (pc := 22) (by decide +kernel) ?_
      refine RN_iload_n (pc := 23) (k := 3) (by decide +kernel) rfl rfl ?_
      refine RN_iadd (pc := 24) (by decide +kernel) ?_
      obtain ⟨c19, h⟩ := ck_el h
      refine RN_iald (pc := 25) (by decide +kernel) c19 ?_
      refine RN_iadd (pc := 26) (by decide +kernel) ?_
      obtain ⟨x20, ex20, h⟩ := nm_el h
      refine RN_nmI ex20 ?_
      refine RN_istore_n (pc := 27) (k := 2) (ls2 := [some (.ref v0), some (.int v1), some (.int x20), some (.int v3)]) (by decide +kernel) rfl (by decide) rfl ?_
      obtain ⟨x21, ex21, h⟩ := nm_el h
      refine RN_iinc (pc := 28) (i := 3) (n := 1) (v := x21) (ls2 := [some (.ref v0), some (.int v1), some (.int x20), some (.int x21)]) (by decide +kernel) rfl (by rw [ex21]; rfl) (by decide) rfl ?_
      refine RN_goto (pc := 31) (off := -27) (tgt := 4) (by decide +kernel) (by decide) ?_
      exact RN_weak (l := [some (.ref v0), some (.int v1), some (.int x20), some (.int x21)]) (And.intro rfl (And.intro rfl (And.intro rfl (And.intro rfl trivial)))) (ih x20 x21 h)
def f_X12_isEven (n : Nat) (v0 : Nat) (v1 : Int32) (σ : Sg) : Option Int32 :=
  b_X12_isEven_4 n v0 v1 (0 : Int32) (0 : Int32) σ
set_option maxRecDepth 20000 in
theorem t_X12_isEven {G : Gl} {xr : Int32} {n : Nat} {v0 : Nat} {v1 : Int32} {σ : Sg} (h : f_X12_isEven n v0 v1 σ = some xr) : MT G M_X12_isEven [.ref v0, .int v1] σ (some (.int xr)) σ := by
  refine MT_of rfl rfl (Nat.le_of_ble_eq_true rfl) ?_
  show RN G M_X12_isEven 0 [some (.ref v0), some (.int v1)] [] σ (.inl (some (.int xr))) σ
  unfold f_X12_isEven at h
  refine RN_iconst (pc := 0) (n := 0) (v := 0) (by decide +kernel) (by decide) ?_
  refine RN_istore_n (pc := 1) (k := 2) (ls2 := [some (.ref v0), some (.int v1), some (.int (0 : Int32))]) (by decide +kernel) rfl (by decide) rfl ?_
  refine RN_iconst (pc := 2) (n := 0) (v := 0) (by decide +kernel) (by decide) ?_
  refine RN_istore_n (pc := 3) (k := 3) (ls2 := [some (.ref v0), some (.int v1), some (.int (0 : Int32)), some (.int (0 : Int32))]) (by decide +kernel) rfl (by decide) rfl ?_
  exact RN_weak (l := [some (.ref v0), some (.int v1), some (.int (0 : Int32)), some (.int (0 : Int32))]) (And.intro rfl (And.intro rfl (And.intro rfl (And.intro rfl trivial)))) (tb_X12_isEven_4 v0 v1 σ n (0 : Int32) (0 : Int32) h)
def f_X12_weighed (n : Nat) (v0 : Nat) (v1 : Int32) (v2 : Int32) (σ : Sg) : Option Int64 :=
  ck (okO σ v0 11) <|
  bp (f_X12_isEven n v0 v1 σ) fun x10 =>
  if x10 = 0 then (
    ck (¬ gR σ v0 6 = 0) <|
    nm (gR σ v0 6) fun r13 =>
    ck (okA σ r13 13 (((8 : Int32) * v1) + v2)) <|
    some ((gI σ r13 (((8 : Int32) * v1) + v2).toNatClampNeg).toInt64))
  else (
    some (1 : Int64))
set_option maxRecDepth 20000 in
theorem t_X12_weighed {G : Gl} {xr : Int64} {n : Nat} {v0 : Nat} {v1 : Int32} {v2 : Int32} {σ : Sg} (h : f_X12_weighed n v0 v1 v2 σ = some xr) : MT G M_X12_weighed [.ref v0, .int v1, .int v2] σ (some (.long xr)) σ := by
  refine MT_of rfl rfl (Nat.le_of_ble_eq_true rfl) ?_
  show RN G M_X12_weighed 0 [some (.ref v0), some (.int v1), some (.int v2)] [] σ (.inl (some (.long xr))) σ
  unfold f_X12_weighed at h
  refine RN_aload_n (pc := 0) (k := 0) (by decide +kernel) rfl rfl ?_
  refine RN_iload_n (pc := 1) (k := 1) (by decide +kernel) rfl rfl ?_
  obtain ⟨c8, h⟩ := ck_el h
  obtain ⟨x10, f9, h⟩ := bp_el h
  refine RN_callV (M := M_X12_weighed) (pc := 2) (idx := 220) (as := [.int v1]) (st := []) (t_X12_isEven f9) (by decide +kernel) lk_RX12_220 rfl ⟨by decide, fun q hq => by cases hq; rfl⟩ c8 (Nat.le_of_ble_eq_true rfl) ⟨Nat.le_of_ble_eq_true rfl, Nat.le_of_ble_eq_true rfl⟩ rfl ?_
  show RN G M_X12_weighed 5 [some (.ref v0), some (.int v1), some (.int v2)] [.int x10] σ _ _
  refine RN_if_eq (pc := 5) (off := 7) (tgt := 12) (by decide +kernel) (by decide) (fun c11 => ?_) (fun c11 => ?_)
  · replace h := it_t c11 h
    refine RN_aload_n (pc := 12) (k := 0) (by decide +kernel) rfl rfl ?_
    obtain ⟨c12, h⟩ := ck_el h
    refine RN_getR (pc := 13) (idx := 22) (ci := 11) (k := 6) (by decide +kernel) lf_RX12_22 rfl c8 c12 ?_
    obtain ⟨r13, er13, h⟩ := nm_el h
    refine RN_nmR er13 ?_
    refine RN_bipush (pc := 16) (n := 8) (v := 8) (by decide +kernel) (by decide) ?_
    refine RN_iload_n (pc := 18) (k := 1) (by decide +kernel) rfl rfl ?_
    refine RN_imul (pc := 19) (by decide +kernel) ?_
    refine RN_iload_n (pc := 20) (k := 2) (by decide +kernel) rfl rfl ?_
    refine RN_iadd (pc := 21) (by decide +kernel) ?_
    obtain ⟨c14, h⟩ := ck_el h
    refine RN_iald (pc := 22) (by decide +kernel) c14 ?_
    refine RN_i2l (pc := 23) (by decide +kernel) ?_
    obtain rfl := some_el h
    exact RN_lreturn (by decide +kernel) rfl
  · replace h := it_f c11 h
    refine RN_lconst (pc := 8) (n := 1) (v := 1) (by decide +kernel) (by decide) ?_
    refine RN_goto (pc := 9) (off := 15) (tgt := 24) (by decide +kernel) (by decide) ?_
    obtain rfl := some_el h
    exact RN_lreturn (by decide +kernel) rfl
def f_X12_partsOf (n : Nat) (v0 : Nat) (v1 : Int32) (σ : Sg) : Option Int32 :=
  ck (okO σ v0 11) <|
  bp (f_X12_isEven n v0 v1 σ) fun x10 =>
  if x10 = 0 then (
    ck (¬ gR σ v0 5 = 0) <|
    nm (gR σ v0 5) fun r13 =>
    ck (okA σ r13 13 v1) <|
    some (gI σ r13 v1.toNatClampNeg))
  else (
    some (2 : Int32))
set_option maxRecDepth 20000 in
theorem t_X12_partsOf {G : Gl} {xr : Int32} {n : Nat} {v0 : Nat} {v1 : Int32} {σ : Sg} (h : f_X12_partsOf n v0 v1 σ = some xr) : MT G M_X12_partsOf [.ref v0, .int v1] σ (some (.int xr)) σ := by
  refine MT_of rfl rfl (Nat.le_of_ble_eq_true rfl) ?_
  show RN G M_X12_partsOf 0 [some (.ref v0), some (.int v1)] [] σ (.inl (some (.int xr))) σ
  unfold f_X12_partsOf at h
  refine RN_aload_n (pc := 0) (k := 0) (by decide +kernel) rfl rfl ?_
  refine RN_iload_n (pc := 1) (k := 1) (by decide +kernel) rfl rfl ?_
  obtain ⟨c8, h⟩ := ck_el h
  obtain ⟨x10, f9, h⟩ := bp_el h
  refine RN_callV (M := M_X12_partsOf) (pc := 2) (idx := 220) (as := [.int v1]) (st := []) (t_X12_isEven f9) (by decide +kernel) lk_RX12_220 rfl ⟨by decide, fun q hq => by cases hq; rfl⟩ c8 (Nat.le_of_ble_eq_true rfl) ⟨Nat.le_of_ble_eq_true rfl, Nat.le_of_ble_eq_true rfl⟩ rfl ?_
  show RN G M_X12_partsOf 5 [some (.ref v0), some (.int v1)] [.int x10] σ _ _
  refine RN_if_eq (pc := 5) (off := 7) (tgt := 12) (by decide +kernel) (by decide) (fun c11 => ?_) (fun c11 => ?_)
  · replace h := it_t c11 h
    refine RN_aload_n (pc := 12) (k := 0) (by decide +kernel) rfl rfl ?_
    obtain ⟨c12, h⟩ := ck_el h
    refine RN_getR (pc := 13) (idx := 19) (ci := 11) (k := 5) (by decide +kernel) lf_RX12_19 rfl c8 c12 ?_
    obtain ⟨r13, er13, h⟩ := nm_el h
    refine RN_nmR er13 ?_
    refine RN_iload_n (pc := 16) (k := 1) (by decide +kernel) rfl rfl ?_
    obtain ⟨c14, h⟩ := ck_el h
    refine RN_iald (pc := 17) (by decide +kernel) c14 ?_
    obtain rfl := some_el h
    exact RN_ireturn (by decide +kernel) rfl
  · replace h := it_f c11 h
    refine RN_iconst (pc := 8) (n := 2) (v := 2) (by decide +kernel) (by decide) ?_
    refine RN_goto (pc := 9) (off := 9) (tgt := 18) (by decide +kernel) (by decide) ?_
    obtain rfl := some_el h
    exact RN_ireturn (by decide +kernel) rfl
def b_X12_allWeights_5 : Nat → Nat → Int32 → Int64 → Int32 → Sg → Option Int64
  | 0, _, _, _, _, _ => none
  | n + 1, v0, v1, v2, v4, σ =>
  ck (okO σ v0 11) <|
  bp (f_X12_partsOf n v0 v1 σ) fun x11 =>
  if x11 ≤ v4 then (
    some v2)
  else (
    bp (f_X12_weighed n v0 v1 v4 σ) fun x14 =>
    nm (v2 + x14) fun x15 =>
    nm (v4 + (1 : Int32)) fun x16 =>
    b_X12_allWeights_5 n v0 v1 x15 x16 σ)
set_option maxRecDepth 20000 in
theorem tb_X12_allWeights_5 {G : Gl} {xr : Int64} (v0 : Nat) (v1 : Int32) (σ : Sg) : ∀ (n : Nat) (v2 : Int64) (v4 : Int32), b_X12_allWeights_5 n v0 v1 v2 v4 σ = some xr → RN G M_X12_allWeights 5 [some (.ref v0), some (.int v1), some (.long v2), none, some (.int v4)] [] σ (.inl (some (.long xr))) σ := by
  intro n
  induction n with
  | zero =>
    intro v2 v4 h
    exact none_el h
  | succ n ih =>
    intro v2 v4 h
    rw [b_X12_allWeights_5] at h
    refine RN_iload (pc := 5) (i := 4) (by decide +kernel) rfl ?_
    refine RN_aload_n (pc := 7) (k := 0) (by decide +kernel) rfl rfl ?_
    refine RN_iload_n (pc := 8) (k := 1) (by decide +kernel) rfl rfl ?_
    obtain ⟨c9, h⟩ := ck_el h
    obtain ⟨x11, f10, h⟩ := bp_el h
    refine RN_callV (M := M_X12_allWeights) (pc := 9) (idx := 223) (as := [.int v1]) (st := [.int v4]) (t_X12_partsOf f10) (by decide +kernel) lk_RX12_223 rfl ⟨by decide, fun q hq => by cases hq; rfl⟩ c9 (Nat.le_of_ble_eq_true rfl) ⟨Nat.le_of_ble_eq_true rfl, Nat.le_of_ble_eq_true rfl⟩ rfl ?_
    show RN G M_X12_allWeights 12 [some (.ref v0), some (.int v1), some (.long v2), none, some (.int v4)] [.int x11, .int v4] σ _ _
    refine RN_icmp_ge (pc := 12) (off := 19) (tgt := 31) (by decide +kernel) (by decide) (fun c12 => ?_) (fun c12 => ?_)
    · replace h := it_t c12 h
      refine RN_lload_n (pc := 31) (k := 2) (by decide +kernel) rfl rfl ?_
      obtain rfl := some_el h
      exact RN_lreturn (by decide +kernel) rfl
    · replace h := it_f c12 h
      refine RN_lload_n (pc := 15) (k := 2) (by decide +kernel) rfl rfl ?_
      refine RN_aload_n (pc := 16) (k := 0) (by decide +kernel) rfl rfl ?_
      refine RN_iload_n (pc := 17) (k := 1) (by decide +kernel) rfl rfl ?_
      refine RN_iload (pc := 18) (i := 4) (by decide +kernel) rfl ?_
      obtain ⟨x14, f13, h⟩ := bp_el h
      refine RN_callV (M := M_X12_allWeights) (pc := 20) (idx := 227) (as := [.int v1, .int v4]) (st := [.long v2]) (t_X12_weighed f13) (by decide +kernel) lk_RX12_227 rfl ⟨by decide, fun q hq => by cases hq; rfl⟩ c9 (Nat.le_of_ble_eq_true rfl) ⟨Nat.le_of_ble_eq_true rfl, Nat.le_of_ble_eq_true rfl⟩ rfl ?_
      show RN G M_X12_allWeights 23 [some (.ref v0), some (.int v1), some (.long v2), none, some (.int v4)] [.long x14, .long v2] σ _ _
      refine RN_ladd (pc := 23) (by decide +kernel) ?_
      obtain ⟨x15, ex15, h⟩ := nm_el h
      refine RN_nmJ ex15 ?_
      refine RN_lstore_n (pc := 24) (k := 2) (ls2 := [some (.ref v0), some (.int v1), some (.long x15), none, some (.int v4)]) (by decide +kernel) rfl (by decide) rfl ?_
      obtain ⟨x16, ex16, h⟩ := nm_el h
      refine RN_iinc (pc := 25) (i := 4) (n := 1) (v := x16) (ls2 := [some (.ref v0), some (.int v1), some (.long x15), none, some (.int x16)]) (by decide +kernel) rfl (by rw [ex16]; rfl) (by decide) rfl ?_
      refine RN_goto (pc := 28) (off := -23) (tgt := 5) (by decide +kernel) (by decide) ?_
      exact RN_weak (l := [some (.ref v0), some (.int v1), some (.long x15), none, some (.int x16)]) (And.intro rfl (And.intro rfl (And.intro rfl (And.intro rfl trivial)))) (ih x15 x16 h)
def f_X12_allWeights (n : Nat) (v0 : Nat) (v1 : Int32) (σ : Sg) : Option Int64 :=
  b_X12_allWeights_5 n v0 v1 (0 : Int64) (0 : Int32) σ
set_option maxRecDepth 20000 in
theorem t_X12_allWeights {G : Gl} {xr : Int64} {n : Nat} {v0 : Nat} {v1 : Int32} {σ : Sg} (h : f_X12_allWeights n v0 v1 σ = some xr) : MT G M_X12_allWeights [.ref v0, .int v1] σ (some (.long xr)) σ := by
  refine MT_of rfl rfl (Nat.le_of_ble_eq_true rfl) ?_
  show RN G M_X12_allWeights 0 [some (.ref v0), some (.int v1)] [] σ (.inl (some (.long xr))) σ
  unfold f_X12_allWeights at h
  refine RN_lconst (pc := 0) (n := 0) (v := 0) (by decide +kernel) (by decide) ?_
  refine RN_lstore_n (pc := 1) (k := 2) (ls2 := [some (.ref v0), some (.int v1), some (.long (0 : Int64)), none]) (by decide +kernel) rfl (by decide) rfl ?_
  refine RN_iconst (pc := 2) (n := 0) (v := 0) (by decide +kernel) (by decide) ?_
  refine RN_istore (pc := 3) (i := 4) (ls2 := [some (.ref v0), some (.int v1), some (.long (0 : Int64)), none, some (.int (0 : Int32))]) (by decide +kernel) (by decide) rfl ?_
  exact RN_weak (l := [some (.ref v0), some (.int v1), some (.long (0 : Int64)), none, some (.int (0 : Int32))]) (And.intro rfl (And.intro rfl (And.intro rfl (And.intro rfl trivial)))) (tb_X12_allWeights_5 v0 v1 σ n (0 : Int64) (0 : Int32) h)
def b_X12_splits_304 (k223 : Int64 → Sg → Option Sg) (n : Nat) (v0 : Nat) (v1 : Int64) (v4 : Int32) (v5 : Int32) (v6 : Int64) (v8 : Int64) (v10 : Int32) (σ : Sg) : Option Sg :=
  ck (okO σ v0 11) <|
  ck (¬ gR σ v0 21 = 0) <|
  nm (gR σ v0 21) fun r65 =>
  ck (okA σ r65 14 (((8 : Int32) * (gI σ v0 16)) + v10)) <|
  ck (okW σ r65 14 (((8 : Int32) * (gI σ v0 16)) + v10)) <|
  nm (pJ σ r65 (((8 : Int32) * (gI σ v0 16)) + v10).toNatClampNeg ((gJ σ r65 (((8 : Int32) * (gI σ v0 16)) + v10).toNatClampNeg) + (1 : Int64))) fun σ68 =>
  nm (v8 - (1 : Int64)) fun x69 =>
  k223 x69 σ68
set_option maxRecDepth 20000 in
theorem tb_X12_splits_304 {G : Gl} {σr : Sg} (n : Nat) (v0 : Nat) (v1 : Int64) (v4 : Int32) (v5 : Int32) (v6 : Int64) (v8 : Int64) (v10 : Int32) (σ : Sg) (k223 : Int64 → Sg → Option Sg) (hk223 : ∀ (c8 : Int64) (τ : Sg), k223 c8 τ = some σr → RN G M_X12_splits 223 [some (.ref v0), some (.long v1), none, none, some (.int v4), some (.int v5), some (.long v6), none, some (.long c8)] [] τ (.inl none) σr) (h : b_X12_splits_304 k223 n v0 v1 v4 v5 v6 v8 v10 σ = some σr) : RN G M_X12_splits 304 [some (.ref v0), some (.long v1), none, none, some (.int v4), some (.int v5), some (.long v6), none, some (.long v8), none, some (.int v10)] [] σ (.inl none) σr := by
  unfold b_X12_splits_304 at h
  refine RN_aload_n (pc := 304) (k := 0) (by decide +kernel) rfl rfl ?_
  obtain ⟨c63, h⟩ := ck_el h
  obtain ⟨c64, h⟩ := ck_el h
  refine RN_getR (pc := 305) (idx := 54) (ci := 11) (k := 21) (by decide +kernel) lf_RX12_54 rfl c63 c64 ?_
  obtain ⟨r65, er65, h⟩ := nm_el h
  refine RN_nmR er65 ?_
  refine RN_bipush (pc := 308) (n := 8) (v := 8) (by decide +kernel) (by decide) ?_
  refine RN_aload_n (pc := 310) (k := 0) (by decide +kernel) rfl rfl ?_
  refine RN_getI (pc := 311) (idx := 146) (ci := 11) (k := 16) (by decide +kernel) lf_RX12_146 (Or.inl rfl) c63 ?_
  refine RN_imul (pc := 314) (by decide +kernel) ?_
  refine RN_iload (pc := 315) (i := 10) (by decide +kernel) rfl ?_
  refine RN_iadd (pc := 317) (by decide +kernel) ?_
  refine RN_dup2_11 (pc := 318) (by decide +kernel) rfl rfl ?_
  obtain ⟨c66, h⟩ := ck_el h
  refine RN_lald (pc := 319) (by decide +kernel) c66 ?_
  refine RN_lconst (pc := 320) (n := 1) (v := 1) (by decide +kernel) (by decide) ?_
  refine RN_ladd (pc := 321) (by decide +kernel) ?_
  obtain ⟨c67, h⟩ := ck_el h
  refine RN_last (pc := 322) (by decide +kernel) c67 ?_
  obtain ⟨σ68, eσ68, h⟩ := nm_el h
  refine RN_nmS eσ68 ?_
  refine RN_lload (pc := 323) (i := 8) (by decide +kernel) rfl ?_
  refine RN_lconst (pc := 325) (n := 1) (v := 1) (by decide +kernel) (by decide) ?_
  refine RN_lsub (pc := 326) (by decide +kernel) ?_
  obtain ⟨x69, ex69, h⟩ := nm_el h
  refine RN_nmJ ex69 ?_
  refine RN_lstore (pc := 327) (i := 8) (ls2 := [some (.ref v0), some (.long v1), none, none, some (.int v4), some (.int v5), some (.long v6), none, some (.long x69), none, some (.int v10)]) (by decide +kernel) (by decide) rfl ?_
  refine RN_goto (pc := 329) (off := -106) (tgt := 223) (by decide +kernel) (by decide) ?_
  exact RN_weak (l := [some (.ref v0), some (.long v1), none, none, some (.int v4), some (.int v5), some (.long v6), none, some (.long x69)]) (And.intro rfl (And.intro rfl (And.intro rfl (And.intro rfl (And.intro rfl (And.intro rfl trivial)))))) (hk223 x69 σ68 h)
def b_X12_splits_298 (k223 : Int64 → Sg → Option Sg) (k239 : Int32 → Int64 → Int32 → Option Sg) (n : Nat) (v0 : Nat) (v1 : Int64) (v4 : Int32) (v5 : Int32) (v6 : Int64) (v8 : Int64) (v10 : Int32) (v11 : Int64) (v13 : Int32) (σ : Sg) : Option Sg :=
  nm (v13 + (1 : Int32)) fun x78 =>
  k239 v10 v11 x78
set_option maxRecDepth 20000 in
theorem tb_X12_splits_298 {G : Gl} {σr : Sg} (n : Nat) (v0 : Nat) (v1 : Int64) (v4 : Int32) (v5 : Int32) (v6 : Int64) (v8 : Int64) (v10 : Int32) (v11 : Int64) (v13 : Int32) (σ : Sg) (k223 : Int64 → Sg → Option Sg) (hk223 : ∀ (c8 : Int64) (τ : Sg), k223 c8 τ = some σr → RN G M_X12_splits 223 [some (.ref v0), some (.long v1), none, none, some (.int v4), some (.int v5), some (.long v6), none, some (.long c8)] [] τ (.inl none) σr) (k239 : Int32 → Int64 → Int32 → Option Sg) (hk239 : ∀ (c10 : Int32) (c11 : Int64) (c13 : Int32), k239 c10 c11 c13 = some σr → RN G M_X12_splits 239 [some (.ref v0), some (.long v1), none, none, some (.int v4), some (.int v5), some (.long v6), none, some (.long v8), none, some (.int c10), some (.long c11), none, some (.int c13)] [] σ (.inl none) σr) (h : b_X12_splits_298 k223 k239 n v0 v1 v4 v5 v6 v8 v10 v11 v13 σ = some σr) : RN G M_X12_splits 298 [some (.ref v0), some (.long v1), none, none, some (.int v4), some (.int v5), some (.long v6), none, some (.long v8), none, some (.int v10), some (.long v11), none, some (.int v13)] [] σ (.inl none) σr := by
  unfold b_X12_splits_298 at h
  obtain ⟨x78, ex78, h⟩ := nm_el h
  refine RN_iinc (pc := 298) (i := 13) (n := 1) (v := x78) (ls2 := [some (.ref v0), some (.long v1), none, none, some (.int v4), some (.int v5), some (.long v6), none, some (.long v8), none, some (.int v10), some (.long v11), none, some (.int x78)]) (by decide +kernel) rfl (by rw [ex78]; rfl) (by decide) rfl ?_
  refine RN_goto (pc := 301) (off := -62) (tgt := 239) (by decide +kernel) (by decide) ?_
  exact RN_weak (l := [some (.ref v0), some (.long v1), none, none, some (.int v4), some (.int v5), some (.long v6), none, some (.long v8), none, some (.int v10), some (.long v11), none, some (.int x78)]) (And.intro rfl (And.intro rfl (And.intro rfl (And.intro rfl (And.intro rfl (And.intro rfl (And.intro rfl (And.intro rfl (And.intro rfl trivial))))))))) (hk239 v10 v11 x78 h)
def b_X12_splits_290 (k223 : Int64 → Sg → Option Sg) (k239 : Int32 → Int64 → Int32 → Option Sg) (n : Nat) (v0 : Nat) (v1 : Int64) (v4 : Int32) (v5 : Int32) (v6 : Int64) (v8 : Int64) (v13 : Int32) (v14 : Int64) (σ : Sg) : Option Sg :=
  b_X12_splits_298 k223 k239 n v0 v1 v4 v5 v6 v8 v13 v14 v13 σ
set_option maxRecDepth 20000 in
theorem tb_X12_splits_290 {G : Gl} {σr : Sg} (n : Nat) (v0 : Nat) (v1 : Int64) (v4 : Int32) (v5 : Int32) (v6 : Int64) (v8 : Int64) (v13 : Int32) (v14 : Int64) (σ : Sg) (k223 : Int64 → Sg → Option Sg) (hk223 : ∀ (c8 : Int64) (τ : Sg), k223 c8 τ = some σr → RN G M_X12_splits 223 [some (.ref v0), some (.long v1), none, none, some (.int v4), some (.int v5), some (.long v6), none, some (.long c8)] [] τ (.inl none) σr) (k239 : Int32 → Int64 → Int32 → Option Sg) (hk239 : ∀ (c10 : Int32) (c11 : Int64) (c13 : Int32), k239 c10 c11 c13 = some σr → RN G M_X12_splits 239 [some (.ref v0), some (.long v1), none, none, some (.int v4), some (.int v5), some (.long v6), none, some (.long v8), none, some (.int c10), some (.long c11), none, some (.int c13)] [] σ (.inl none) σr) (h : b_X12_splits_290 k223 k239 n v0 v1 v4 v5 v6 v8 v13 v14 σ = some σr) : RN G M_X12_splits 290 [some (.ref v0), some (.long v1), none, none, some (.int v4), some (.int v5), some (.long v6), none, some (.long v8), none, none, none, none, some (.int v13), some (.long v14)] [] σ (.inl none) σr := by
  unfold b_X12_splits_290 at h
  refine RN_lload (pc := 290) (i := 14) (by decide +kernel) rfl ?_
  refine RN_lstore (pc := 292) (i := 11) (ls2 := [some (.ref v0), some (.long v1), none, none, some (.int v4), some (.int v5), some (.long v6), none, some (.long v8), none, none, some (.long v14), none, some (.int v13), some (.long v14)]) (by decide +kernel) (by decide) rfl ?_
  refine RN_iload (pc := 294) (i := 13) (by decide +kernel) rfl ?_
  refine RN_istore (pc := 296) (i := 10) (ls2 := [some (.ref v0), some (.long v1), none, none, some (.int v4), some (.int v5), some (.long v6), none, some (.long v8), none, some (.int v13), some (.long v14), none, some (.int v13), some (.long v14)]) (by decide +kernel) (by decide) rfl ?_
  exact RN_weak (l := [some (.ref v0), some (.long v1), none, none, some (.int v4), some (.int v5), some (.long v6), none, some (.long v8), none, some (.int v13), some (.long v14), none, some (.int v13)]) (And.intro rfl (And.intro rfl (And.intro rfl (And.intro rfl (And.intro rfl (And.intro rfl (And.intro rfl (And.intro rfl (And.intro rfl trivial))))))))) (tb_X12_splits_298 n v0 v1 v4 v5 v6 v8 v13 v14 v13 σ k223 hk223 k239 hk239 h)
def b_X12_splits_239 (k223 : Int64 → Sg → Option Sg) : Nat → Nat → Int64 → Int32 → Int32 → Int64 → Int64 → Int32 → Int64 → Int32 → Sg → Option Sg
  | 0, _, _, _, _, _, _, _, _, _, _ => none
  | n + 1, v0, v1, v4, v5, v6, v8, v10, v11, v13, σ =>
  if v5 ≤ v13 then (
    b_X12_splits_304 k223 n v0 v1 v4 v5 v6 v8 v10 σ)
  else (
    ck (okO σ v0 11) <|
    bp (f_X12_weighed n v0 v4 v13 σ) fun x72 =>
    ck (¬ gR σ v0 21 = 0) <|
    nm (gR σ v0 21) fun r74 =>
    ck (okA σ r74 14 (((8 : Int32) * (gI σ v0 16)) + v13)) <|
    nm ((v1 * x72) - ((gJ σ r74 (((8 : Int32) * (gI σ v0 16)) + v13).toNatClampNeg) * v6)) fun x76 =>
    if v13 = 0 then (
      b_X12_splits_290 k223 (fun c10 c11 c13 => b_X12_splits_239 k223 n v0 v1 v4 v5 v6 v8 c10 c11 c13 σ) n v0 v1 v4 v5 v6 v8 v13 x76 σ)
    else (
      if x76 ≤ v11 then (
        b_X12_splits_298 k223 (fun c10 c11 c13 => b_X12_splits_239 k223 n v0 v1 v4 v5 v6 v8 c10 c11 c13 σ) n v0 v1 v4 v5 v6 v8 v10 v11 v13 σ)
      else (
        b_X12_splits_290 k223 (fun c10 c11 c13 => b_X12_splits_239 k223 n v0 v1 v4 v5 v6 v8 c10 c11 c13 σ) n v0 v1 v4 v5 v6 v8 v13 x76 σ)))
set_option maxRecDepth 20000 in
theorem tb_X12_splits_239 {G : Gl} {σr : Sg} (v0 : Nat) (v1 : Int64) (v4 : Int32) (v5 : Int32) (v6 : Int64) (v8 : Int64) (σ : Sg) (k223 : Int64 → Sg → Option Sg) (hk223 : ∀ (c8 : Int64) (τ : Sg), k223 c8 τ = some σr → RN G M_X12_splits 223 [some (.ref v0), some (.long v1), none, none, some (.int v4), some (.int v5), some (.long v6), none, some (.long c8)] [] τ (.inl none) σr) : ∀ (n : Nat) (v10 : Int32) (v11 : Int64) (v13 : Int32), b_X12_splits_239 k223 n v0 v1 v4 v5 v6 v8 v10 v11 v13 σ = some σr → RN G M_X12_splits 239 [some (.ref v0), some (.long v1), none, none, some (.int v4), some (.int v5), some (.long v6), none, some (.long v8), none, some (.int v10), some (.long v11), none, some (.int v13)] [] σ (.inl none) σr := by
  intro n
  induction n with
  | zero =>
    intro v10 v11 v13 h
    exact none_el h
  | succ n ih =>
    intro v10 v11 v13 h
    rw [b_X12_splits_239] at h
    refine RN_iload (pc := 239) (i := 13) (by decide +kernel) rfl ?_
    refine RN_iload (pc := 241) (i := 5) (by decide +kernel) rfl ?_
    refine RN_icmp_ge (pc := 243) (off := 61) (tgt := 304) (by decide +kernel) (by decide) (fun c62 => ?_) (fun c62 => ?_)
    · replace h := it_t c62 h
      exact RN_weak (l := [some (.ref v0), some (.long v1), none, none, some (.int v4), some (.int v5), some (.long v6), none, some (.long v8), none, some (.int v10)]) (And.intro rfl (And.intro rfl (And.intro rfl (And.intro rfl (And.intro rfl (And.intro rfl (And.intro rfl trivial))))))) (tb_X12_splits_304 n v0 v1 v4 v5 v6 v8 v10 σ k223 hk223 h)
    · replace h := it_f c62 h
      refine RN_lload_n (pc := 246) (k := 1) (by decide +kernel) rfl rfl ?_
      refine RN_aload_n (pc := 247) (k := 0) (by decide +kernel) rfl rfl ?_
      refine RN_iload (pc := 248) (i := 4) (by decide +kernel) rfl ?_
      refine RN_iload (pc := 250) (i := 13) (by decide +kernel) rfl ?_
      obtain ⟨c70, h⟩ := ck_el h
      obtain ⟨x72, f71, h⟩ := bp_el h
      refine RN_callV (M := M_X12_splits) (pc := 252) (idx := 227) (as := [.int v4, .int v13]) (st := [.long v1]) (t_X12_weighed f71) (by decide +kernel) lk_RX12_227 rfl ⟨by decide, fun q hq => by cases hq; rfl⟩ c70 (Nat.le_of_ble_eq_true rfl) ⟨Nat.le_of_ble_eq_true rfl, Nat.le_of_ble_eq_true rfl⟩ rfl ?_
      show RN G M_X12_splits 255 [some (.ref v0), some (.long v1), none, none, some (.int v4), some (.int v5), some (.long v6), none, some (.long v8), none, some (.int v10), some (.long v11), none, some (.int v13)] [.long x72, .long v1] σ _ _
      refine RN_lmul (pc := 255) (by decide +kernel) ?_
      refine RN_aload_n (pc := 256) (k := 0) (by decide +kernel) rfl rfl ?_
      obtain ⟨c73, h⟩ := ck_el h
      refine RN_getR (pc := 257) (idx := 54) (ci := 11) (k := 21) (by decide +kernel) lf_RX12_54 rfl c70 c73 ?_
      obtain ⟨r74, er74, h⟩ := nm_el h
      refine RN_nmR er74 ?_
      refine RN_bipush (pc := 260) (n := 8) (v := 8) (by decide +kernel) (by decide) ?_
      refine RN_aload_n (pc := 262) (k := 0) (by decide +kernel) rfl rfl ?_
      refine RN_getI (pc := 263) (idx := 146) (ci := 11) (k := 16) (by decide +kernel) lf_RX12_146 (Or.inl rfl) c70 ?_
      refine RN_imul (pc := 266) (by decide +kernel) ?_
      refine RN_iload (pc := 267) (i := 13) (by decide +kernel) rfl ?_
      refine RN_iadd (pc := 269) (by decide +kernel) ?_
      obtain ⟨c75, h⟩ := ck_el h
      refine RN_lald (pc := 270) (by decide +kernel) c75 ?_
      refine RN_lload (pc := 271) (i := 6) (by decide +kernel) rfl ?_
      refine RN_lmul (pc := 273) (by decide +kernel) ?_
      refine RN_lsub (pc := 274) (by decide +kernel) ?_
      obtain ⟨x76, ex76, h⟩ := nm_el h
      refine RN_nmJ ex76 ?_
      refine RN_lstore (pc := 275) (i := 14) (ls2 := [some (.ref v0), some (.long v1), none, none, some (.int v4), some (.int v5), some (.long v6), none, some (.long v8), none, some (.int v10), some (.long v11), none, some (.int v13), some (.long x76), none]) (by decide +kernel) (by decide) rfl ?_
      refine RN_iload (pc := 277) (i := 13) (by decide +kernel) rfl ?_
      refine RN_if_eq (pc := 279) (off := 11) (tgt := 290) (by decide +kernel) (by decide) (fun c77 => ?_) (fun c77 => ?_)
      · replace h := it_t c77 h
        exact RN_weak (l := [some (.ref v0), some (.long v1), none, none, some (.int v4), some (.int v5), some (.long v6), none, some (.long v8), none, none, none, none, some (.int v13), some (.long x76)]) (And.intro rfl (And.intro rfl (And.intro rfl (And.intro rfl (And.intro rfl (And.intro rfl (And.intro rfl (And.intro rfl trivial)))))))) (tb_X12_splits_290 n v0 v1 v4 v5 v6 v8 v13 x76 σ k223 hk223 _ (fun c10 c11 c13 h => ih c10 c11 c13 h) h)
      · replace h := it_f c77 h
        refine RN_lload (pc := 282) (i := 14) (by decide +kernel) rfl ?_
        refine RN_lload (pc := 284) (i := 11) (by decide +kernel) rfl ?_
        refine RN_lc_le (pc := 286) (off := 11) (tgt := 298) (by decide +kernel) (by decide +kernel) (by decide) (fun c79 => ?_) (fun c79 => ?_)
        · replace h := it_t c79 h
          exact RN_weak (l := [some (.ref v0), some (.long v1), none, none, some (.int v4), some (.int v5), some (.long v6), none, some (.long v8), none, some (.int v10), some (.long v11), none, some (.int v13)]) (And.intro rfl (And.intro rfl (And.intro rfl (And.intro rfl (And.intro rfl (And.intro rfl (And.intro rfl (And.intro rfl (And.intro rfl trivial))))))))) (tb_X12_splits_298 n v0 v1 v4 v5 v6 v8 v10 v11 v13 σ k223 hk223 _ (fun c10 c11 c13 h => ih c10 c11 c13 h) h)
        · replace h := it_f c79 h
          exact RN_weak (l := [some (.ref v0), some (.long v1), none, none, some (.int v4), some (.int v5), some (.long v6), none, some (.long v8), none, none, none, none, some (.int v13), some (.long x76)]) (And.intro rfl (And.intro rfl (And.intro rfl (And.intro rfl (And.intro rfl (And.intro rfl (And.intro rfl (And.intro rfl trivial)))))))) (tb_X12_splits_290 n v0 v1 v4 v5 v6 v8 v13 x76 σ k223 hk223 _ (fun c10 c11 c13 h => ih c10 c11 c13 h) h)
def b_X12_splits_223 : Nat → Nat → Int64 → Int32 → Int32 → Int64 → Int64 → Sg → Option Sg
  | 0, _, _, _, _, _, _, _ => none
  | n + 1, v0, v1, v4, v5, v6, v8, σ =>
  if v8 ≤ (0 : Int64) then (
    some σ)
  else (
    b_X12_splits_239 (fun c8 τ => b_X12_splits_223 n v0 v1 v4 v5 v6 c8 τ) n v0 v1 v4 v5 v6 v8 (0 : Int32) (0 : Int64) (0 : Int32) σ)
set_option maxRecDepth 20000 in
theorem tb_X12_splits_223 {G : Gl} {σr : Sg} (v0 : Nat) (v1 : Int64) (v4 : Int32) (v5 : Int32) (v6 : Int64) : ∀ (n : Nat) (v8 : Int64) (σ : Sg), b_X12_splits_223 n v0 v1 v4 v5 v6 v8 σ = some σr → RN G M_X12_splits 223 [some (.ref v0), some (.long v1), none, none, some (.int v4), some (.int v5), some (.long v6), none, some (.long v8)] [] σ (.inl none) σr := by
  intro n
  induction n with
  | zero =>
    intro v8 σ h
    exact none_el h
  | succ n ih =>
    intro v8 σ h
    rw [b_X12_splits_223] at h
    refine RN_lload (pc := 223) (i := 8) (by decide +kernel) rfl ?_
    refine RN_lconst (pc := 225) (n := 0) (v := 0) (by decide +kernel) (by decide) ?_
    refine RN_lc_le (pc := 226) (off := 105) (tgt := 332) (by decide +kernel) (by decide +kernel) (by decide) (fun c61 => ?_) (fun c61 => ?_)
    · replace h := it_t c61 h
      obtain rfl := some_el h
      exact RN_return (by decide +kernel) rfl
    · replace h := it_f c61 h
      refine RN_iconst (pc := 230) (n := 0) (v := 0) (by decide +kernel) (by decide) ?_
      refine RN_istore (pc := 231) (i := 10) (ls2 := [some (.ref v0), some (.long v1), none, none, some (.int v4), some (.int v5), some (.long v6), none, some (.long v8), none, some (.int (0 : Int32))]) (by decide +kernel) (by decide) rfl ?_
      refine RN_lconst (pc := 233) (n := 0) (v := 0) (by decide +kernel) (by decide) ?_
      refine RN_lstore (pc := 234) (i := 11) (ls2 := [some (.ref v0), some (.long v1), none, none, some (.int v4), some (.int v5), some (.long v6), none, some (.long v8), none, some (.int (0 : Int32)), some (.long (0 : Int64)), none]) (by decide +kernel) (by decide) rfl ?_
      refine RN_iconst (pc := 236) (n := 0) (v := 0) (by decide +kernel) (by decide) ?_
      refine RN_istore (pc := 237) (i := 13) (ls2 := [some (.ref v0), some (.long v1), none, none, some (.int v4), some (.int v5), some (.long v6), none, some (.long v8), none, some (.int (0 : Int32)), some (.long (0 : Int64)), none, some (.int (0 : Int32))]) (by decide +kernel) (by decide) rfl ?_
      exact RN_weak (l := [some (.ref v0), some (.long v1), none, none, some (.int v4), some (.int v5), some (.long v6), none, some (.long v8), none, some (.int (0 : Int32)), some (.long (0 : Int64)), none, some (.int (0 : Int32))]) (And.intro rfl (And.intro rfl (And.intro rfl (And.intro rfl (And.intro rfl (And.intro rfl (And.intro rfl (And.intro rfl (And.intro rfl trivial))))))))) (tb_X12_splits_239 v0 v1 v4 v5 v6 v8 σ _ (fun c8 τ h => ih c8 τ h) n (0 : Int32) (0 : Int64) (0 : Int32) h)
def b_X12_splits_188 (k158 : Int64 → Int32 → Sg → Option Sg) (n : Nat) (v0 : Nat) (v1 : Int64) (v3 : Int32) (v4 : Int32) (v5 : Int32) (v6 : Int64) (v8 : Int64) (v10 : Int32) (s0 : Int64) (σ : Sg) : Option Sg :=
  ck (okO σ v0 11) <|
  ck (¬ gR σ v0 21 = 0) <|
  nm (gR σ v0 21) fun r87 =>
  ck (okA σ r87 14 (((8 : Int32) * (gI σ v0 16)) + v10)) <|
  ck (okW σ r87 14 (((8 : Int32) * (gI σ v0 16)) + v10)) <|
  nm (pJ σ r87 (((8 : Int32) * (gI σ v0 16)) + v10).toNatClampNeg ((gJ σ r87 (((8 : Int32) * (gI σ v0 16)) + v10).toNatClampNeg) + s0)) fun σ90 =>
  nm (v8 - s0) fun x91 =>
  nm (v10 + (1 : Int32)) fun x92 =>
  k158 x91 x92 σ90
set_option maxRecDepth 20000 in
theorem tb_X12_splits_188 {G : Gl} {σr : Sg} (n : Nat) (v0 : Nat) (v1 : Int64) (v3 : Int32) (v4 : Int32) (v5 : Int32) (v6 : Int64) (v8 : Int64) (v10 : Int32) (s0 : Int64) (σ : Sg) (k158 : Int64 → Int32 → Sg → Option Sg) (hk158 : ∀ (c8 : Int64) (c10 : Int32) (τ : Sg), k158 c8 c10 τ = some σr → RN G M_X12_splits 158 [some (.ref v0), some (.long v1), none, some (.int v3), some (.int v4), some (.int v5), some (.long v6), none, some (.long c8), none, some (.int c10)] [] τ (.inl none) σr) (h : b_X12_splits_188 k158 n v0 v1 v3 v4 v5 v6 v8 v10 s0 σ = some σr) : RN G M_X12_splits 188 [some (.ref v0), some (.long v1), none, some (.int v3), some (.int v4), some (.int v5), some (.long v6), none, some (.long v8), none, some (.int v10)] [.long s0] σ (.inl none) σr := by
  unfold b_X12_splits_188 at h
  refine RN_lstore (pc := 188) (i := 11) (ls2 := [some (.ref v0), some (.long v1), none, some (.int v3), some (.int v4), some (.int v5), some (.long v6), none, some (.long v8), none, some (.int v10), some (.long s0), none]) (by decide +kernel) (by decide) rfl ?_
  refine RN_aload_n (pc := 190) (k := 0) (by decide +kernel) rfl rfl ?_
  obtain ⟨c85, h⟩ := ck_el h
  obtain ⟨c86, h⟩ := ck_el h
  refine RN_getR (pc := 191) (idx := 54) (ci := 11) (k := 21) (by decide +kernel) lf_RX12_54 rfl c85 c86 ?_
  obtain ⟨r87, er87, h⟩ := nm_el h
  refine RN_nmR er87 ?_
  refine RN_bipush (pc := 194) (n := 8) (v := 8) (by decide +kernel) (by decide) ?_
  refine RN_aload_n (pc := 196) (k := 0) (by decide +kernel) rfl rfl ?_
  refine RN_getI (pc := 197) (idx := 146) (ci := 11) (k := 16) (by decide +kernel) lf_RX12_146 (Or.inl rfl) c85 ?_
  refine RN_imul (pc := 200) (by decide +kernel) ?_
  refine RN_iload (pc := 201) (i := 10) (by decide +kernel) rfl ?_
  refine RN_iadd (pc := 203) (by decide +kernel) ?_
  refine RN_dup2_11 (pc := 204) (by decide +kernel) rfl rfl ?_
  obtain ⟨c88, h⟩ := ck_el h
  refine RN_lald (pc := 205) (by decide +kernel) c88 ?_
  refine RN_lload (pc := 206) (i := 11) (by decide +kernel) rfl ?_
  refine RN_ladd (pc := 208) (by decide +kernel) ?_
  obtain ⟨c89, h⟩ := ck_el h
  refine RN_last (pc := 209) (by decide +kernel) c89 ?_
  obtain ⟨σ90, eσ90, h⟩ := nm_el h
  refine RN_nmS eσ90 ?_
  refine RN_lload (pc := 210) (i := 8) (by decide +kernel) rfl ?_
  refine RN_lload (pc := 212) (i := 11) (by decide +kernel) rfl ?_
  refine RN_lsub (pc := 214) (by decide +kernel) ?_
  obtain ⟨x91, ex91, h⟩ := nm_el h
  refine RN_nmJ ex91 ?_
  refine RN_lstore (pc := 215) (i := 8) (ls2 := [some (.ref v0), some (.long v1), none, some (.int v3), some (.int v4), some (.int v5), some (.long v6), none, some (.long x91), none, some (.int v10), some (.long s0), none]) (by decide +kernel) (by decide) rfl ?_
  obtain ⟨x92, ex92, h⟩ := nm_el h
  refine RN_iinc (pc := 217) (i := 10) (n := 1) (v := x92) (ls2 := [some (.ref v0), some (.long v1), none, some (.int v3), some (.int v4), some (.int v5), some (.long v6), none, some (.long x91), none, some (.int x92), some (.long s0), none]) (by decide +kernel) rfl (by rw [ex92]; rfl) (by decide) rfl ?_
  refine RN_goto (pc := 220) (off := -62) (tgt := 158) (by decide +kernel) (by decide) ?_
  exact RN_weak (l := [some (.ref v0), some (.long v1), none, some (.int v3), some (.int v4), some (.int v5), some (.long v6), none, some (.long x91), none, some (.int x92)]) (And.intro rfl (And.intro rfl (And.intro rfl (And.intro rfl (And.intro rfl (And.intro rfl (And.intro rfl (And.intro rfl trivial)))))))) (hk158 x91 x92 σ90 h)
def b_X12_splits_158 : Nat → Nat → Int64 → Int32 → Int32 → Int32 → Int64 → Int64 → Int32 → Sg → Option Sg
  | 0, _, _, _, _, _, _, _, _, _ => none
  | n + 1, v0, v1, v3, v4, v5, v6, v8, v10, σ =>
  if v3 = (1 : Int32) then (
    if v8 ≤ (0 : Int64) then (
      b_X12_splits_223 n v0 v1 v4 v5 v6 v8 σ)
    else (
      ck (okO σ v0 11) <|
      bp (f_X12_weighed n v0 v4 v10 σ) fun x83 =>
      if x83 ≤ (0 : Int64) then (
        b_X12_splits_188 (fun c8 c10 τ => b_X12_splits_158 n v0 v1 v3 v4 v5 v6 c8 c10 τ) n v0 v1 v3 v4 v5 v6 v8 v10 (0 : Int64) σ)
      else (
        b_X12_splits_188 (fun c8 c10 τ => b_X12_splits_158 n v0 v1 v3 v4 v5 v6 c8 c10 τ) n v0 v1 v3 v4 v5 v6 v8 v10 (1 : Int64) σ)))
  else (
    b_X12_splits_223 n v0 v1 v4 v5 v6 v8 σ)
set_option maxRecDepth 20000 in
theorem tb_X12_splits_158 {G : Gl} {σr : Sg} (v0 : Nat) (v1 : Int64) (v3 : Int32) (v4 : Int32) (v5 : Int32) (v6 : Int64) : ∀ (n : Nat) (v8 : Int64) (v10 : Int32) (σ : Sg), b_X12_splits_158 n v0 v1 v3 v4 v5 v6 v8 v10 σ = some σr → RN G M_X12_splits 158 [some (.ref v0), some (.long v1), none, some (.int v3), some (.int v4), some (.int v5), some (.long v6), none, some (.long v8), none, some (.int v10)] [] σ (.inl none) σr := by
  intro n
  induction n with
  | zero =>
    intro v8 v10 σ h
    exact none_el h
  | succ n ih =>
    intro v8 v10 σ h
    rw [b_X12_splits_158] at h
    refine RN_iload_n (pc := 158) (k := 3) (by decide +kernel) rfl rfl ?_
    refine RN_iconst (pc := 159) (n := 1) (v := 1) (by decide +kernel) (by decide) ?_
    refine RN_icmp_ne (pc := 160) (off := 63) (tgt := 223) (by decide +kernel) (by decide) (fun c60 => ?_) (fun c60 => ?_)
    · replace h := it_f c60 h
      exact RN_weak (l := [some (.ref v0), some (.long v1), none, none, some (.int v4), some (.int v5), some (.long v6), none, some (.long v8)]) (And.intro rfl (And.intro rfl (And.intro rfl (And.intro rfl (And.intro rfl (And.intro rfl trivial)))))) (tb_X12_splits_223 v0 v1 v4 v5 v6 n v8 σ h)
    · replace h := it_t c60 h
      refine RN_lload (pc := 163) (i := 8) (by decide +kernel) rfl ?_
      refine RN_lconst (pc := 165) (n := 0) (v := 0) (by decide +kernel) (by decide) ?_
      refine RN_lc_le (pc := 166) (off := 56) (tgt := 223) (by decide +kernel) (by decide +kernel) (by decide) (fun c80 => ?_) (fun c80 => ?_)
      · replace h := it_t c80 h
        exact RN_weak (l := [some (.ref v0), some (.long v1), none, none, some (.int v4), some (.int v5), some (.long v6), none, some (.long v8)]) (And.intro rfl (And.intro rfl (And.intro rfl (And.intro rfl (And.intro rfl (And.intro rfl trivial)))))) (tb_X12_splits_223 v0 v1 v4 v5 v6 n v8 σ h)
      · replace h := it_f c80 h
        refine RN_aload_n (pc := 170) (k := 0) (by decide +kernel) rfl rfl ?_
        refine RN_iload (pc := 171) (i := 4) (by decide +kernel) rfl ?_
        refine RN_iload (pc := 173) (i := 10) (by decide +kernel) rfl ?_
        obtain ⟨c81, h⟩ := ck_el h
        obtain ⟨x83, f82, h⟩ := bp_el h
        refine RN_callV (M := M_X12_splits) (pc := 175) (idx := 227) (as := [.int v4, .int v10]) (st := []) (t_X12_weighed f82) (by decide +kernel) lk_RX12_227 rfl ⟨by decide, fun q hq => by cases hq; rfl⟩ c81 (Nat.le_of_ble_eq_true rfl) ⟨Nat.le_of_ble_eq_true rfl, Nat.le_of_ble_eq_true rfl⟩ rfl ?_
        show RN G M_X12_splits 178 [some (.ref v0), some (.long v1), none, some (.int v3), some (.int v4), some (.int v5), some (.long v6), none, some (.long v8), none, some (.int v10)] [.long x83] σ _ _
        refine RN_lconst (pc := 178) (n := 0) (v := 0) (by decide +kernel) (by decide) ?_
        refine RN_lc_le (pc := 179) (off := 7) (tgt := 187) (by decide +kernel) (by decide +kernel) (by decide) (fun c84 => ?_) (fun c84 => ?_)
        · replace h := it_t c84 h
          refine RN_lconst (pc := 187) (n := 0) (v := 0) (by decide +kernel) (by decide) ?_
          exact RN_weak (l := [some (.ref v0), some (.long v1), none, some (.int v3), some (.int v4), some (.int v5), some (.long v6), none, some (.long v8), none, some (.int v10)]) (And.intro rfl (And.intro rfl (And.intro rfl (And.intro rfl (And.intro rfl (And.intro rfl (And.intro rfl (And.intro rfl trivial)))))))) (tb_X12_splits_188 n v0 v1 v3 v4 v5 v6 v8 v10 (0 : Int64) σ _ (fun c8 c10 τ h => ih c8 c10 τ h) h)
        · replace h := it_f c84 h
          refine RN_lconst (pc := 183) (n := 1) (v := 1) (by decide +kernel) (by decide) ?_
          refine RN_goto (pc := 184) (off := 4) (tgt := 188) (by decide +kernel) (by decide) ?_
          exact RN_weak (l := [some (.ref v0), some (.long v1), none, some (.int v3), some (.int v4), some (.int v5), some (.long v6), none, some (.long v8), none, some (.int v10)]) (And.intro rfl (And.intro rfl (And.intro rfl (And.intro rfl (And.intro rfl (And.intro rfl (And.intro rfl (And.intro rfl trivial)))))))) (tb_X12_splits_188 n v0 v1 v3 v4 v5 v6 v8 v10 (1 : Int64) σ _ (fun c8 c10 τ h => ih c8 c10 τ h) h)
def b_X12_splits_147 (n : Nat) (v8 : Int64) (s0 : Int32) (s1 : Int32) (s2 : Nat) (σ : Sg) : Option Sg :=
  ck (okA σ s2 14 (s1 + s0)) <|
  ck (okW σ s2 14 (s1 + s0)) <|
  nm (pJ σ s2 (s1 + s0).toNatClampNeg ((gJ σ s2 (s1 + s0).toNatClampNeg) + v8)) fun σ99 =>
  some σ99
set_option maxRecDepth 20000 in
theorem tb_X12_splits_147 {G : Gl} {σr : Sg} (n : Nat) (v8 : Int64) (s0 : Int32) (s1 : Int32) (s2 : Nat) (σ : Sg) (h : b_X12_splits_147 n v8 s0 s1 s2 σ = some σr) : RN G M_X12_splits 147 [none, none, none, none, none, none, none, none, some (.long v8)] [.int s0, .int s1, .ref s2] σ (.inl none) σr := by
  unfold b_X12_splits_147 at h
  refine RN_iadd (pc := 147) (by decide +kernel) ?_
  refine RN_dup2_11 (pc := 148) (by decide +kernel) rfl rfl ?_
  obtain ⟨c97, h⟩ := ck_el h
  refine RN_lald (pc := 149) (by decide +kernel) c97 ?_
  refine RN_lload (pc := 150) (i := 8) (by decide +kernel) rfl ?_
  refine RN_ladd (pc := 152) (by decide +kernel) ?_
  obtain ⟨c98, h⟩ := ck_el h
  refine RN_last (pc := 153) (by decide +kernel) c98 ?_
  obtain ⟨σ99, eσ99, h⟩ := nm_el h
  refine RN_nmS eσ99 ?_
  obtain rfl := some_el h
  exact RN_return (by decide +kernel) rfl
def b_X12_splits_118 (n : Nat) (v0 : Nat) (v1 : Int64) (v3 : Int32) (v4 : Int32) (v5 : Int32) (v6 : Int64) (v8 : Int64) (σ : Sg) : Option Sg :=
  if v3 ≤ (1 : Int32) then (
    b_X12_splits_158 n v0 v1 v3 v4 v5 v6 v8 (0 : Int32) σ)
  else (
    ck (okO σ v0 11) <|
    ck (¬ gR σ v0 21 = 0) <|
    nm (gR σ v0 21) fun r95 =>
    if v3 = (2 : Int32) then (
      b_X12_splits_147 n v8 (v5 - (1 : Int32)) ((8 : Int32) * (gI σ v0 16)) r95 σ)
    else (
      b_X12_splits_147 n v8 (0 : Int32) ((8 : Int32) * (gI σ v0 16)) r95 σ))
set_option maxRecDepth 20000 in
theorem tb_X12_splits_118 {G : Gl} {σr : Sg} (n : Nat) (v0 : Nat) (v1 : Int64) (v3 : Int32) (v4 : Int32) (v5 : Int32) (v6 : Int64) (v8 : Int64) (σ : Sg) (h : b_X12_splits_118 n v0 v1 v3 v4 v5 v6 v8 σ = some σr) : RN G M_X12_splits 118 [some (.ref v0), some (.long v1), none, some (.int v3), some (.int v4), some (.int v5), some (.long v6), none, some (.long v8)] [] σ (.inl none) σr := by
  unfold b_X12_splits_118 at h
  refine RN_iload_n (pc := 118) (k := 3) (by decide +kernel) rfl rfl ?_
  refine RN_iconst (pc := 119) (n := 1) (v := 1) (by decide +kernel) (by decide) ?_
  refine RN_icmp_le (pc := 120) (off := 35) (tgt := 155) (by decide +kernel) (by decide) (fun c59 => ?_) (fun c59 => ?_)
  · replace h := it_t c59 h
    refine RN_iconst (pc := 155) (n := 0) (v := 0) (by decide +kernel) (by decide) ?_
    refine RN_istore (pc := 156) (i := 10) (ls2 := [some (.ref v0), some (.long v1), none, some (.int v3), some (.int v4), some (.int v5), some (.long v6), none, some (.long v8), none, some (.int (0 : Int32))]) (by decide +kernel) (by decide) rfl ?_
    exact RN_weak (l := [some (.ref v0), some (.long v1), none, some (.int v3), some (.int v4), some (.int v5), some (.long v6), none, some (.long v8), none, some (.int (0 : Int32))]) (And.intro rfl (And.intro rfl (And.intro rfl (And.intro rfl (And.intro rfl (And.intro rfl (And.intro rfl (And.intro rfl trivial)))))))) (tb_X12_splits_158 v0 v1 v3 v4 v5 v6 n v8 (0 : Int32) σ h)
  · replace h := it_f c59 h
    refine RN_aload_n (pc := 123) (k := 0) (by decide +kernel) rfl rfl ?_
    obtain ⟨c93, h⟩ := ck_el h
    obtain ⟨c94, h⟩ := ck_el h
    refine RN_getR (pc := 124) (idx := 54) (ci := 11) (k := 21) (by decide +kernel) lf_RX12_54 rfl c93 c94 ?_
    obtain ⟨r95, er95, h⟩ := nm_el h
    refine RN_nmR er95 ?_
    refine RN_bipush (pc := 127) (n := 8) (v := 8) (by decide +kernel) (by decide) ?_
    refine RN_aload_n (pc := 129) (k := 0) (by decide +kernel) rfl rfl ?_
    refine RN_getI (pc := 130) (idx := 146) (ci := 11) (k := 16) (by decide +kernel) lf_RX12_146 (Or.inl rfl) c93 ?_
    refine RN_imul (pc := 133) (by decide +kernel) ?_
    refine RN_iload_n (pc := 134) (k := 3) (by decide +kernel) rfl rfl ?_
    refine RN_iconst (pc := 135) (n := 2) (v := 2) (by decide +kernel) (by decide) ?_
    refine RN_icmp_ne (pc := 136) (off := 10) (tgt := 146) (by decide +kernel) (by decide) (fun c96 => ?_) (fun c96 => ?_)
    · replace h := it_f c96 h
      refine RN_iconst (pc := 146) (n := 0) (v := 0) (by decide +kernel) (by decide) ?_
      exact RN_weak (l := [none, none, none, none, none, none, none, none, some (.long v8)]) (And.intro rfl trivial) (tb_X12_splits_147 n v8 (0 : Int32) ((8 : Int32) * (gI σ v0 16)) r95 σ h)
    · replace h := it_t c96 h
      refine RN_iload (pc := 139) (i := 5) (by decide +kernel) rfl ?_
      refine RN_iconst (pc := 141) (n := 1) (v := 1) (by decide +kernel) (by decide) ?_
      refine RN_isub (pc := 142) (by decide +kernel) ?_
      refine RN_goto (pc := 143) (off := 4) (tgt := 147) (by decide +kernel) (by decide) ?_
      exact RN_weak (l := [none, none, none, none, none, none, none, none, some (.long v8)]) (And.intro rfl trivial) (tb_X12_splits_147 n v8 (v5 - (1 : Int32)) ((8 : Int32) * (gI σ v0 16)) r95 σ h)
def b_X12_splits_86 (k22 : Int64 → Int32 → Sg → Option Sg) (n : Nat) (v0 : Nat) (v1 : Int64) (v3 : Int32) (v4 : Int32) (v5 : Int32) (v6 : Int64) (v8 : Int64) (v10 : Int32) (s0 : Int64) (σ : Sg) : Option Sg :=
  ck (okO σ v0 11) <|
  ck (¬ gR σ v0 21 = 0) <|
  nm (gR σ v0 21) fun r107 =>
  ck (okW σ r107 14 (((8 : Int32) * (gI σ v0 16)) + v10)) <|
  nm (pJ σ r107 (((8 : Int32) * (gI σ v0 16)) + v10).toNatClampNeg s0) fun σ109 =>
  nm (v8 - s0) fun x110 =>
  nm (v10 + (1 : Int32)) fun x111 =>
  k22 x110 x111 σ109
set_option maxRecDepth 20000 in
theorem tb_X12_splits_86 {G : Gl} {σr : Sg} (n : Nat) (v0 : Nat) (v1 : Int64) (v3 : Int32) (v4 : Int32) (v5 : Int32) (v6 : Int64) (v8 : Int64) (v10 : Int32) (s0 : Int64) (σ : Sg) (k22 : Int64 → Int32 → Sg → Option Sg) (hk22 : ∀ (c8 : Int64) (c10 : Int32) (τ : Sg), k22 c8 c10 τ = some σr → RN G M_X12_splits 22 [some (.ref v0), some (.long v1), none, some (.int v3), some (.int v4), some (.int v5), some (.long v6), none, some (.long c8), none, some (.int c10)] [] τ (.inl none) σr) (h : b_X12_splits_86 k22 n v0 v1 v3 v4 v5 v6 v8 v10 s0 σ = some σr) : RN G M_X12_splits 86 [some (.ref v0), some (.long v1), none, some (.int v3), some (.int v4), some (.int v5), some (.long v6), none, some (.long v8), none, some (.int v10)] [.long s0] σ (.inl none) σr := by
  unfold b_X12_splits_86 at h
  refine RN_lstore (pc := 86) (i := 13) (ls2 := [some (.ref v0), some (.long v1), none, some (.int v3), some (.int v4), some (.int v5), some (.long v6), none, some (.long v8), none, some (.int v10), none, none, some (.long s0), none]) (by decide +kernel) (by decide) rfl ?_
  refine RN_aload_n (pc := 88) (k := 0) (by decide +kernel) rfl rfl ?_
  obtain ⟨c105, h⟩ := ck_el h
  obtain ⟨c106, h⟩ := ck_el h
  refine RN_getR (pc := 89) (idx := 54) (ci := 11) (k := 21) (by decide +kernel) lf_RX12_54 rfl c105 c106 ?_
  obtain ⟨r107, er107, h⟩ := nm_el h
  refine RN_nmR er107 ?_
  refine RN_bipush (pc := 92) (n := 8) (v := 8) (by decide +kernel) (by decide) ?_
  refine RN_aload_n (pc := 94) (k := 0) (by decide +kernel) rfl rfl ?_
  refine RN_getI (pc := 95) (idx := 146) (ci := 11) (k := 16) (by decide +kernel) lf_RX12_146 (Or.inl rfl) c105 ?_
  refine RN_imul (pc := 98) (by decide +kernel) ?_
  refine RN_iload (pc := 99) (i := 10) (by decide +kernel) rfl ?_
  refine RN_iadd (pc := 101) (by decide +kernel) ?_
  refine RN_lload (pc := 102) (i := 13) (by decide +kernel) rfl ?_
  obtain ⟨c108, h⟩ := ck_el h
  refine RN_last (pc := 104) (by decide +kernel) c108 ?_
  obtain ⟨σ109, eσ109, h⟩ := nm_el h
  refine RN_nmS eσ109 ?_
  refine RN_lload (pc := 105) (i := 8) (by decide +kernel) rfl ?_
  refine RN_lload (pc := 107) (i := 13) (by decide +kernel) rfl ?_
  refine RN_lsub (pc := 109) (by decide +kernel) ?_
  obtain ⟨x110, ex110, h⟩ := nm_el h
  refine RN_nmJ ex110 ?_
  refine RN_lstore (pc := 110) (i := 8) (ls2 := [some (.ref v0), some (.long v1), none, some (.int v3), some (.int v4), some (.int v5), some (.long v6), none, some (.long x110), none, some (.int v10), none, none, some (.long s0), none]) (by decide +kernel) (by decide) rfl ?_
  obtain ⟨x111, ex111, h⟩ := nm_el h
  refine RN_iinc (pc := 112) (i := 10) (n := 1) (v := x111) (ls2 := [some (.ref v0), some (.long v1), none, some (.int v3), some (.int v4), some (.int v5), some (.long v6), none, some (.long x110), none, some (.int x111), none, none, some (.long s0), none]) (by decide +kernel) rfl (by rw [ex111]; rfl) (by decide) rfl ?_
  refine RN_goto (pc := 115) (off := -93) (tgt := 22) (by decide +kernel) (by decide) ?_
  exact RN_weak (l := [some (.ref v0), some (.long v1), none, some (.int v3), some (.int v4), some (.int v5), some (.long v6), none, some (.long x110), none, some (.int x111)]) (And.intro rfl (And.intro rfl (And.intro rfl (And.intro rfl (And.intro rfl (And.intro rfl (And.intro rfl (And.intro rfl trivial)))))))) (hk22 x110 x111 σ109 h)
def b_X12_splits_50 (k22 : Int64 → Int32 → Sg → Option Sg) (n : Nat) (v0 : Nat) (v1 : Int64) (v3 : Int32) (v4 : Int32) (v5 : Int32) (v6 : Int64) (v8 : Int64) (v10 : Int32) (s0 : Int64) (σ : Sg) : Option Sg :=
  if v10 < v5 then (
    if (2 : Int32) ≤ v3 then (
      bp (f_X12_times s0 v6 (0 : Int32)) fun x104 =>
      b_X12_splits_86 k22 n v0 v1 v3 v4 v5 v6 v8 v10 x104 σ)
    else (
      bp (f_X12_floor s0 v6) fun x113 =>
      b_X12_splits_86 k22 n v0 v1 v3 v4 v5 v6 v8 v10 x113 σ))
  else (
    b_X12_splits_86 k22 n v0 v1 v3 v4 v5 v6 v8 v10 (0 : Int64) σ)
set_option maxRecDepth 20000 in
theorem tb_X12_splits_50 {G : Gl} {σr : Sg} (n : Nat) (v0 : Nat) (v1 : Int64) (v3 : Int32) (v4 : Int32) (v5 : Int32) (v6 : Int64) (v8 : Int64) (v10 : Int32) (s0 : Int64) (σ : Sg) (k22 : Int64 → Int32 → Sg → Option Sg) (hk22 : ∀ (c8 : Int64) (c10 : Int32) (τ : Sg), k22 c8 c10 τ = some σr → RN G M_X12_splits 22 [some (.ref v0), some (.long v1), none, some (.int v3), some (.int v4), some (.int v5), some (.long v6), none, some (.long c8), none, some (.int c10)] [] τ (.inl none) σr) (h : b_X12_splits_50 k22 n v0 v1 v3 v4 v5 v6 v8 v10 s0 σ = some σr) : RN G M_X12_splits 50 [some (.ref v0), some (.long v1), none, some (.int v3), some (.int v4), some (.int v5), some (.long v6), none, some (.long v8), none, some (.int v10)] [.long s0] σ (.inl none) σr := by
  unfold b_X12_splits_50 at h
  refine RN_lstore (pc := 50) (i := 11) (ls2 := [some (.ref v0), some (.long v1), none, some (.int v3), some (.int v4), some (.int v5), some (.long v6), none, some (.long v8), none, some (.int v10), some (.long s0), none]) (by decide +kernel) (by decide) rfl ?_
  refine RN_iload (pc := 52) (i := 10) (by decide +kernel) rfl ?_
  refine RN_iload (pc := 54) (i := 5) (by decide +kernel) rfl ?_
  refine RN_icmp_lt (pc := 56) (off := 7) (tgt := 63) (by decide +kernel) (by decide) (fun c101 => ?_) (fun c101 => ?_)
  · replace h := it_t c101 h
    refine RN_iload_n (pc := 63) (k := 3) (by decide +kernel) rfl rfl ?_
    refine RN_iconst (pc := 64) (n := 2) (v := 2) (by decide +kernel) (by decide) ?_
    refine RN_icmp_ge (pc := 65) (off := 13) (tgt := 78) (by decide +kernel) (by decide) (fun c102 => ?_) (fun c102 => ?_)
    · replace h := it_t c102 h
      refine RN_lload (pc := 78) (i := 11) (by decide +kernel) rfl ?_
      refine RN_lload (pc := 80) (i := 6) (by decide +kernel) rfl ?_
      refine RN_iconst (pc := 82) (n := 0) (v := 0) (by decide +kernel) (by decide) ?_
      obtain ⟨x104, f103, h⟩ := bp_el h
      refine RN_callS (M := M_X12_splits) (pc := 83) (idx := 212) (as := [.long s0, .long v6, .int (0 : Int32)]) (st := []) (t_X12_times f103) (by decide +kernel) lk_RX12_212 rfl (Nat.le_of_ble_eq_true rfl) ⟨Nat.le_of_ble_eq_true rfl, Nat.le_of_ble_eq_true rfl⟩ rfl ?_
      show RN G M_X12_splits 86 [some (.ref v0), some (.long v1), none, some (.int v3), some (.int v4), some (.int v5), some (.long v6), none, some (.long v8), none, some (.int v10), some (.long s0), none] [.long x104] σ _ _
      exact RN_weak (l := [some (.ref v0), some (.long v1), none, some (.int v3), some (.int v4), some (.int v5), some (.long v6), none, some (.long v8), none, some (.int v10)]) (And.intro rfl (And.intro rfl (And.intro rfl (And.intro rfl (And.intro rfl (And.intro rfl (And.intro rfl (And.intro rfl trivial)))))))) (tb_X12_splits_86 n v0 v1 v3 v4 v5 v6 v8 v10 x104 σ k22 hk22 h)
    · replace h := it_f c102 h
      refine RN_lload (pc := 68) (i := 11) (by decide +kernel) rfl ?_
      refine RN_lload (pc := 70) (i := 6) (by decide +kernel) rfl ?_
      obtain ⟨x113, f112, h⟩ := bp_el h
      refine RN_callS (M := M_X12_splits) (pc := 72) (idx := 183) (as := [.long s0, .long v6]) (st := []) (t_X12_floor f112) (by decide +kernel) lk_RX12_183 rfl (Nat.le_of_ble_eq_true rfl) ⟨Nat.le_of_ble_eq_true rfl, Nat.le_of_ble_eq_true rfl⟩ rfl ?_
      show RN G M_X12_splits 75 [some (.ref v0), some (.long v1), none, some (.int v3), some (.int v4), some (.int v5), some (.long v6), none, some (.long v8), none, some (.int v10), some (.long s0), none] [.long x113] σ _ _
      refine RN_goto (pc := 75) (off := 11) (tgt := 86) (by decide +kernel) (by decide) ?_
      exact RN_weak (l := [some (.ref v0), some (.long v1), none, some (.int v3), some (.int v4), some (.int v5), some (.long v6), none, some (.long v8), none, some (.int v10)]) (And.intro rfl (And.intro rfl (And.intro rfl (And.intro rfl (And.intro rfl (And.intro rfl (And.intro rfl (And.intro rfl trivial)))))))) (tb_X12_splits_86 n v0 v1 v3 v4 v5 v6 v8 v10 x113 σ k22 hk22 h)
  · replace h := it_f c101 h
    refine RN_lconst (pc := 59) (n := 0) (v := 0) (by decide +kernel) (by decide) ?_
    refine RN_goto (pc := 60) (off := 26) (tgt := 86) (by decide +kernel) (by decide) ?_
    exact RN_weak (l := [some (.ref v0), some (.long v1), none, some (.int v3), some (.int v4), some (.int v5), some (.long v6), none, some (.long v8), none, some (.int v10)]) (And.intro rfl (And.intro rfl (And.intro rfl (And.intro rfl (And.intro rfl (And.intro rfl (And.intro rfl (And.intro rfl trivial)))))))) (tb_X12_splits_86 n v0 v1 v3 v4 v5 v6 v8 v10 (0 : Int64) σ k22 hk22 h)
def b_X12_splits_22 : Nat → Nat → Int64 → Int32 → Int32 → Int32 → Int64 → Int64 → Int32 → Sg → Option Sg
  | 0, _, _, _, _, _, _, _, _, _ => none
  | n + 1, v0, v1, v3, v4, v5, v6, v8, v10, σ =>
  if (8 : Int32) ≤ v10 then (
    b_X12_splits_118 n v0 v1 v3 v4 v5 v6 v8 σ)
  else (
    if v5 ≤ v10 then (
      b_X12_splits_50 (fun c8 c10 τ => b_X12_splits_22 n v0 v1 v3 v4 v5 v6 c8 c10 τ) n v0 v1 v3 v4 v5 v6 v8 v10 (0 : Int64) σ)
    else (
      ck (okO σ v0 11) <|
      bp (f_X12_weighed n v0 v4 v10 σ) fun x116 =>
      b_X12_splits_50 (fun c8 c10 τ => b_X12_splits_22 n v0 v1 v3 v4 v5 v6 c8 c10 τ) n v0 v1 v3 v4 v5 v6 v8 v10 (v1 * x116) σ))
set_option maxRecDepth 20000 in
theorem tb_X12_splits_22 {G : Gl} {σr : Sg} (v0 : Nat) (v1 : Int64) (v3 : Int32) (v4 : Int32) (v5 : Int32) (v6 : Int64) : ∀ (n : Nat) (v8 : Int64) (v10 : Int32) (σ : Sg), b_X12_splits_22 n v0 v1 v3 v4 v5 v6 v8 v10 σ = some σr → RN G M_X12_splits 22 [some (.ref v0), some (.long v1), none, some (.int v3), some (.int v4), some (.int v5), some (.long v6), none, some (.long v8), none, some (.int v10)] [] σ (.inl none) σr := by
  intro n
  induction n with
  | zero =>
    intro v8 v10 σ h
    exact none_el h
  | succ n ih =>
    intro v8 v10 σ h
    rw [b_X12_splits_22] at h
    refine RN_iload (pc := 22) (i := 10) (by decide +kernel) rfl ?_
    refine RN_bipush (pc := 24) (n := 8) (v := 8) (by decide +kernel) (by decide) ?_
    refine RN_icmp_ge (pc := 26) (off := 92) (tgt := 118) (by decide +kernel) (by decide) (fun c58 => ?_) (fun c58 => ?_)
    · replace h := it_t c58 h
      exact RN_weak (l := [some (.ref v0), some (.long v1), none, some (.int v3), some (.int v4), some (.int v5), some (.long v6), none, some (.long v8)]) (And.intro rfl (And.intro rfl (And.intro rfl (And.intro rfl (And.intro rfl (And.intro rfl (And.intro rfl trivial))))))) (tb_X12_splits_118 n v0 v1 v3 v4 v5 v6 v8 σ h)
    · replace h := it_f c58 h
      refine RN_iload (pc := 29) (i := 10) (by decide +kernel) rfl ?_
      refine RN_iload (pc := 31) (i := 5) (by decide +kernel) rfl ?_
      refine RN_icmp_ge (pc := 33) (off := 16) (tgt := 49) (by decide +kernel) (by decide) (fun c100 => ?_) (fun c100 => ?_)
      · replace h := it_t c100 h
        refine RN_lconst (pc := 49) (n := 0) (v := 0) (by decide +kernel) (by decide) ?_
        exact RN_weak (l := [some (.ref v0), some (.long v1), none, some (.int v3), some (.int v4), some (.int v5), some (.long v6), none, some (.long v8), none, some (.int v10)]) (And.intro rfl (And.intro rfl (And.intro rfl (And.intro rfl (And.intro rfl (And.intro rfl (And.intro rfl (And.intro rfl trivial)))))))) (tb_X12_splits_50 n v0 v1 v3 v4 v5 v6 v8 v10 (0 : Int64) σ _ (fun c8 c10 τ h => ih c8 c10 τ h) h)
      · replace h := it_f c100 h
        refine RN_lload_n (pc := 36) (k := 1) (by decide +kernel) rfl rfl ?_
        refine RN_aload_n (pc := 37) (k := 0) (by decide +kernel) rfl rfl ?_
        refine RN_iload (pc := 38) (i := 4) (by decide +kernel) rfl ?_
        refine RN_iload (pc := 40) (i := 10) (by decide +kernel) rfl ?_
        obtain ⟨c114, h⟩ := ck_el h
        obtain ⟨x116, f115, h⟩ := bp_el h
        refine RN_callV (M := M_X12_splits) (pc := 42) (idx := 227) (as := [.int v4, .int v10]) (st := [.long v1]) (t_X12_weighed f115) (by decide +kernel) lk_RX12_227 rfl ⟨by decide, fun q hq => by cases hq; rfl⟩ c114 (Nat.le_of_ble_eq_true rfl) ⟨Nat.le_of_ble_eq_true rfl, Nat.le_of_ble_eq_true rfl⟩ rfl ?_
        show RN G M_X12_splits 45 [some (.ref v0), some (.long v1), none, some (.int v3), some (.int v4), some (.int v5), some (.long v6), none, some (.long v8), none, some (.int v10)] [.long x116, .long v1] σ _ _
        refine RN_lmul (pc := 45) (by decide +kernel) ?_
        refine RN_goto (pc := 46) (off := 4) (tgt := 50) (by decide +kernel) (by decide) ?_
        exact RN_weak (l := [some (.ref v0), some (.long v1), none, some (.int v3), some (.int v4), some (.int v5), some (.long v6), none, some (.long v8), none, some (.int v10)]) (And.intro rfl (And.intro rfl (And.intro rfl (And.intro rfl (And.intro rfl (And.intro rfl (And.intro rfl (And.intro rfl trivial)))))))) (tb_X12_splits_50 n v0 v1 v3 v4 v5 v6 v8 v10 (v1 * x116) σ _ (fun c8 c10 τ h => ih c8 c10 τ h) h)
def f_X12_splits (n : Nat) (v0 : Nat) (v1 : Int64) (v3 : Int32) (v4 : Int32) (σ : Sg) : Option Sg :=
  ck (okO σ v0 11) <|
  bp (f_X12_partsOf n v0 v4 σ) fun x55 =>
  bp (f_X12_allWeights n v0 v4 σ) fun x57 =>
  b_X12_splits_22 n v0 v1 v3 v4 x55 x57 v1 (0 : Int32) σ
set_option maxRecDepth 20000 in
theorem t_X12_splits {G : Gl} {σr : Sg} {n : Nat} {v0 : Nat} {v1 : Int64} {v3 : Int32} {v4 : Int32} {σ : Sg} (h : f_X12_splits n v0 v1 v3 v4 σ = some σr) : MT G M_X12_splits [.ref v0, .long v1, .int v3, .int v4] σ none σr := by
  refine MT_of rfl rfl (Nat.le_of_ble_eq_true rfl) ?_
  show RN G M_X12_splits 0 [some (.ref v0), some (.long v1), none, some (.int v3), some (.int v4)] [] σ (.inl none) σr
  unfold f_X12_splits at h
  refine RN_aload_n (pc := 0) (k := 0) (by decide +kernel) rfl rfl ?_
  refine RN_iload (pc := 1) (i := 4) (by decide +kernel) rfl ?_
  obtain ⟨c53, h⟩ := ck_el h
  obtain ⟨x55, f54, h⟩ := bp_el h
  refine RN_callV (M := M_X12_splits) (pc := 3) (idx := 223) (as := [.int v4]) (st := []) (t_X12_partsOf f54) (by decide +kernel) lk_RX12_223 rfl ⟨by decide, fun q hq => by cases hq; rfl⟩ c53 (Nat.le_of_ble_eq_true rfl) ⟨Nat.le_of_ble_eq_true rfl, Nat.le_of_ble_eq_true rfl⟩ rfl ?_
  show RN G M_X12_splits 6 [some (.ref v0), some (.long v1), none, some (.int v3), some (.int v4)] [.int x55] σ _ _
  refine RN_istore (pc := 6) (i := 5) (ls2 := [some (.ref v0), some (.long v1), none, some (.int v3), some (.int v4), some (.int x55)]) (by decide +kernel) (by decide) rfl ?_
  refine RN_aload_n (pc := 8) (k := 0) (by decide +kernel) rfl rfl ?_
  refine RN_iload (pc := 9) (i := 4) (by decide +kernel) rfl ?_
  obtain ⟨x57, f56, h⟩ := bp_el h
  refine RN_callV (M := M_X12_splits) (pc := 11) (idx := 231) (as := [.int v4]) (st := []) (t_X12_allWeights f56) (by decide +kernel) lk_RX12_231 rfl ⟨by decide, fun q hq => by cases hq; rfl⟩ c53 (Nat.le_of_ble_eq_true rfl) ⟨Nat.le_of_ble_eq_true rfl, Nat.le_of_ble_eq_true rfl⟩ rfl ?_
  show RN G M_X12_splits 14 [some (.ref v0), some (.long v1), none, some (.int v3), some (.int v4), some (.int x55)] [.long x57] σ _ _
  refine RN_lstore (pc := 14) (i := 6) (ls2 := [some (.ref v0), some (.long v1), none, some (.int v3), some (.int v4), some (.int x55), some (.long x57), none]) (by decide +kernel) (by decide) rfl ?_
  refine RN_lload_n (pc := 16) (k := 1) (by decide +kernel) rfl rfl ?_
  refine RN_lstore (pc := 17) (i := 8) (ls2 := [some (.ref v0), some (.long v1), none, some (.int v3), some (.int v4), some (.int x55), some (.long x57), none, some (.long v1), none]) (by decide +kernel) (by decide) rfl ?_
  refine RN_iconst (pc := 19) (n := 0) (v := 0) (by decide +kernel) (by decide) ?_
  refine RN_istore (pc := 20) (i := 10) (ls2 := [some (.ref v0), some (.long v1), none, some (.int v3), some (.int v4), some (.int x55), some (.long x57), none, some (.long v1), none, some (.int (0 : Int32))]) (by decide +kernel) (by decide) rfl ?_
  exact RN_weak (l := [some (.ref v0), some (.long v1), none, some (.int v3), some (.int v4), some (.int x55), some (.long x57), none, some (.long v1), none, some (.int (0 : Int32))]) (And.intro rfl (And.intro rfl (And.intro rfl (And.intro rfl (And.intro rfl (And.intro rfl (And.intro rfl (And.intro rfl trivial)))))))) (tb_X12_splits_22 v0 v1 v3 v4 x55 x57 n v1 (0 : Int32) σ h)
def f_X12_rates (n : Nat) (v0 : Nat) (v1 : Int32) (v2 : Int32) (v3 : Int32) (σ : Sg) : Option Sg :=
  ck (okO σ v0 11) <|
  nm (((8 : Int32) * (gI σ v0 16)) + v2) fun x29 =>
  ck (¬ gR σ v0 26 = 0) <|
  nm (gR σ v0 26) fun r31 =>
  ck (okA σ r31 15 x29) <|
  nm (gI σ r31 x29.toNatClampNeg) fun x33 =>
  ck (¬ gR σ v0 19 = 0) <|
  nm (gR σ v0 19) fun r35 =>
  ck (okA σ r35 14 x29) <|
  ck (¬ gR σ v0 1 = 0) <|
  nm (gR σ v0 1) fun r38 =>
  ck (okA σ r38 13 v3) <|
  ck (¬ gR σ v0 20 = 0) <|
  nm (gR σ v0 20) fun r41 =>
  ck (okA σ r41 14 x29) <|
  ck (¬ gR σ v0 2 = 0) <|
  nm (gR σ v0 2) fun r44 =>
  ck (okA σ r44 13 v3) <|
  bd (f_X12_becomes n v0 v1 ((gJ σ r35 x29.toNatClampNeg) * ((gI σ r38 v3.toNatClampNeg).toInt64)) ((gJ σ r41 x29.toNatClampNeg) * ((gI σ r44 v3.toNatClampNeg).toInt64)) σ) fun x48 σ47 =>
  if x48 = 0 then (
    some σ47)
  else (
    ck (okO σ47 v0 11) <|
    ck (¬ gR σ47 v0 26 = 0) <|
    nm (gR σ47 v0 26) fun r52 =>
    ck (x33 = 0 ∨ x33 = 1) <|
    ck (okW σ47 r52 15 (((8 : Int32) * (gI σ47 v0 16)) + v1)) <|
    nm (pI σ47 r52 (((8 : Int32) * (gI σ47 v0 16)) + v1).toNatClampNeg x33) fun σ55 =>
    some σ55)
set_option maxRecDepth 20000 in
theorem t_X12_rates {G : Gl} {σr : Sg} {n : Nat} {v0 : Nat} {v1 : Int32} {v2 : Int32} {v3 : Int32} {σ : Sg} (h : f_X12_rates n v0 v1 v2 v3 σ = some σr) : MT G M_X12_rates [.ref v0, .int v1, .int v2, .int v3] σ none σr := by
  refine MT_of rfl rfl (Nat.le_of_ble_eq_true rfl) ?_
  show RN G M_X12_rates 0 [some (.ref v0), some (.int v1), some (.int v2), some (.int v3)] [] σ (.inl none) σr
  unfold f_X12_rates at h
  refine RN_bipush (pc := 0) (n := 8) (v := 8) (by decide +kernel) (by decide) ?_
  refine RN_aload_n (pc := 2) (k := 0) (by decide +kernel) rfl rfl ?_
  obtain ⟨c28, h⟩ := ck_el h
  refine RN_getI (pc := 3) (idx := 146) (ci := 11) (k := 16) (by decide +kernel) lf_RX12_146 (Or.inl rfl) c28 ?_
  refine RN_imul (pc := 6) (by decide +kernel) ?_
  refine RN_iload_n (pc := 7) (k := 2) (by decide +kernel) rfl rfl ?_
  refine RN_iadd (pc := 8) (by decide +kernel) ?_
  obtain ⟨x29, ex29, h⟩ := nm_el h
  refine RN_nmI ex29 ?_
  refine RN_istore (pc := 9) (i := 4) (ls2 := [some (.ref v0), some (.int v1), some (.int v2), some (.int v3), some (.int x29)]) (by decide +kernel) (by decide) rfl ?_
  refine RN_aload_n (pc := 11) (k := 0) (by decide +kernel) rfl rfl ?_
  obtain ⟨c30, h⟩ := ck_el h
  refine RN_getR (pc := 12) (idx := 69) (ci := 11) (k := 26) (by decide +kernel) lf_RX12_69 rfl c28 c30 ?_
  obtain ⟨r31, er31, h⟩ := nm_el h
  refine RN_nmR er31 ?_
  refine RN_iload (pc := 15) (i := 4) (by decide +kernel) rfl ?_
  obtain ⟨c32, h⟩ := ck_el h
  refine RN_zald (pc := 17) (by decide +kernel) c32 ?_
  obtain ⟨x33, ex33, h⟩ := nm_el h
  refine RN_nmI ex33 ?_
  refine RN_istore (pc := 18) (i := 5) (ls2 := [some (.ref v0), some (.int v1), some (.int v2), some (.int v3), some (.int x29), some (.int x33)]) (by decide +kernel) (by decide) rfl ?_
  refine RN_aload_n (pc := 20) (k := 0) (by decide +kernel) rfl rfl ?_
  refine RN_iload_n (pc := 21) (k := 1) (by decide +kernel) rfl rfl ?_
  refine RN_aload_n (pc := 22) (k := 0) (by decide +kernel) rfl rfl ?_
  obtain ⟨c34, h⟩ := ck_el h
  refine RN_getR (pc := 23) (idx := 47) (ci := 11) (k := 19) (by decide +kernel) lf_RX12_47 rfl c28 c34 ?_
  obtain ⟨r35, er35, h⟩ := nm_el h
  refine RN_nmR er35 ?_
  refine RN_iload (pc := 26) (i := 4) (by decide +kernel) rfl ?_
  obtain ⟨c36, h⟩ := ck_el h
  refine RN_lald (pc := 28) (by decide +kernel) c36 ?_
  refine RN_aload_n (pc := 29) (k := 0) (by decide +kernel) rfl rfl ?_
  obtain ⟨c37, h⟩ := ck_el h
  refine RN_getR (pc := 30) (idx := 7) (ci := 11) (k := 1) (by decide +kernel) lf_RX12_7 rfl c28 c37 ?_
  obtain ⟨r38, er38, h⟩ := nm_el h
  refine RN_nmR er38 ?_
  refine RN_iload_n (pc := 33) (k := 3) (by decide +kernel) rfl rfl ?_
  obtain ⟨c39, h⟩ := ck_el h
  refine RN_iald (pc := 34) (by decide +kernel) c39 ?_
  refine RN_i2l (pc := 35) (by decide +kernel) ?_
  refine RN_lmul (pc := 36) (by decide +kernel) ?_
  refine RN_aload_n (pc := 37) (k := 0) (by decide +kernel) rfl rfl ?_
  obtain ⟨c40, h⟩ := ck_el h
  refine RN_getR (pc := 38) (idx := 51) (ci := 11) (k := 20) (by decide +kernel) lf_RX12_51 rfl c28 c40 ?_
  obtain ⟨r41, er41, h⟩ := nm_el h
  refine RN_nmR er41 ?_
  refine RN_iload (pc := 41) (i := 4) (by decide +kernel) rfl ?_
  obtain ⟨c42, h⟩ := ck_el h
  refine RN_lald (pc := 43) (by decide +kernel) c42 ?_
  refine RN_aload_n (pc := 44) (k := 0) (by decide +kernel) rfl rfl ?_
  obtain ⟨c43, h⟩ := ck_el h
  refine RN_getR (pc := 45) (idx := 13) (ci := 11) (k := 2) (by decide +kernel) lf_RX12_13 rfl c28 c43 ?_
  obtain ⟨r44, er44, h⟩ := nm_el h
  refine RN_nmR er44 ?_
  refine RN_iload_n (pc := 48) (k := 3) (by decide +kernel) rfl rfl ?_
  obtain ⟨c45, h⟩ := ck_el h
  refine RN_iald (pc := 49) (by decide +kernel) c45 ?_
  refine RN_i2l (pc := 50) (by decide +kernel) ?_
  refine RN_lmul (pc := 51) (by decide +kernel) ?_
  obtain ⟨x48, σ47, f46, h⟩ := bd_el h
  refine RN_callV (M := M_X12_rates) (pc := 52) (idx := 201) (as := [.int v1, .long ((gJ σ r35 x29.toNatClampNeg) * ((gI σ r38 v3.toNatClampNeg).toInt64)), .long ((gJ σ r41 x29.toNatClampNeg) * ((gI σ r44 v3.toNatClampNeg).toInt64))]) (st := []) (t_X12_becomes f46) (by decide +kernel) lk_RX12_201 rfl ⟨by decide, fun q hq => by cases hq; rfl⟩ c28 (Nat.le_of_ble_eq_true rfl) ⟨Nat.le_of_ble_eq_true rfl, Nat.le_of_ble_eq_true rfl⟩ rfl ?_
  show RN G M_X12_rates 55 [some (.ref v0), some (.int v1), some (.int v2), some (.int v3), some (.int x29), some (.int x33)] [.int x48] σ47 _ _
  refine RN_if_eq (pc := 55) (off := 19) (tgt := 74) (by decide +kernel) (by decide) (fun c49 => ?_) (fun c49 => ?_)
  · replace h := it_t c49 h
    obtain rfl := some_el h
    exact RN_return (by decide +kernel) rfl
  · replace h := it_f c49 h
    refine RN_aload_n (pc := 58) (k := 0) (by decide +kernel) rfl rfl ?_
    obtain ⟨c50, h⟩ := ck_el h
    obtain ⟨c51, h⟩ := ck_el h
    refine RN_getR (pc := 59) (idx := 69) (ci := 11) (k := 26) (by decide +kernel) lf_RX12_69 rfl c50 c51 ?_
    obtain ⟨r52, er52, h⟩ := nm_el h
    refine RN_nmR er52 ?_
    refine RN_bipush (pc := 62) (n := 8) (v := 8) (by decide +kernel) (by decide) ?_
    refine RN_aload_n (pc := 64) (k := 0) (by decide +kernel) rfl rfl ?_
    refine RN_getI (pc := 65) (idx := 146) (ci := 11) (k := 16) (by decide +kernel) lf_RX12_146 (Or.inl rfl) c50 ?_
    refine RN_imul (pc := 68) (by decide +kernel) ?_
    refine RN_iload_n (pc := 69) (k := 1) (by decide +kernel) rfl rfl ?_
    refine RN_iadd (pc := 70) (by decide +kernel) ?_
    refine RN_iload (pc := 71) (i := 5) (by decide +kernel) rfl ?_
    obtain ⟨c53, h⟩ := ck_el h
    obtain ⟨c54, h⟩ := ck_el h
    refine RN_zast (pc := 73) (by decide +kernel) c53 c54 ?_
    obtain ⟨σ55, eσ55, h⟩ := nm_el h
    refine RN_nmS eσ55 ?_
    obtain rfl := some_el h
    exact RN_return (by decide +kernel) rfl
def b_X12_adds_95 (n : Nat) (v0 : Nat) (v4 : Int32) (v5 : Int32) (v6 : Int32) (s0 : Int64) (s1 : Int64) (s2 : Int32) (s3 : Nat) (σ : Sg) : Option Sg :=
  ck (okO σ v0 11) <|
  ck (¬ gR σ v0 20 = 0) <|
  nm (gR σ v0 20) fun r59 =>
  ck (okA σ r59 14 v4) <|
  nm (gR σ v0 20) fun r61 =>
  ck (okA σ r61 14 v5) <|
  ck (okO σ s3 11) <|
  bd (f_X12_becomes n s3 s2 (s1 + s0) ((gJ σ r59 v4.toNatClampNeg) * (gJ σ r61 v5.toNatClampNeg)) σ) fun x66 σ65 =>
  if x66 = 0 then (
    some σ65)
  else (
    ck (okO σ65 v0 11) <|
    ck (¬ gR σ65 v0 26 = 0) <|
    nm (gR σ65 v0 26) fun r70 =>
    ck (v6 = 0 ∨ v6 = 1) <|
    ck (okW σ65 r70 15 v4) <|
    nm (pI σ65 r70 v4.toNatClampNeg v6) fun σ73 =>
    some σ73)
set_option maxRecDepth 20000 in
theorem tb_X12_adds_95 {G : Gl} {σr : Sg} (n : Nat) (v0 : Nat) (v4 : Int32) (v5 : Int32) (v6 : Int32) (s0 : Int64) (s1 : Int64) (s2 : Int32) (s3 : Nat) (σ : Sg) (h : b_X12_adds_95 n v0 v4 v5 v6 s0 s1 s2 s3 σ = some σr) : RN G M_X12_adds 95 [some (.ref v0), none, none, none, some (.int v4), some (.int v5), some (.int v6)] [.long s0, .long s1, .int s2, .ref s3] σ (.inl none) σr := by
  unfold b_X12_adds_95 at h
  refine RN_ladd (pc := 95) (by decide +kernel) ?_
  refine RN_aload_n (pc := 96) (k := 0) (by decide +kernel) rfl rfl ?_
  obtain ⟨c57, h⟩ := ck_el h
  obtain ⟨c58, h⟩ := ck_el h
  refine RN_getR (pc := 97) (idx := 51) (ci := 11) (k := 20) (by decide +kernel) lf_RX12_51 rfl c57 c58 ?_
  obtain ⟨r59, er59, h⟩ := nm_el h
  refine RN_nmR er59 ?_
  refine RN_iload (pc := 100) (i := 4) (by decide +kernel) rfl ?_
  obtain ⟨c60, h⟩ := ck_el h
  refine RN_lald (pc := 102) (by decide +kernel) c60 ?_
  refine RN_aload_n (pc := 103) (k := 0) (by decide +kernel) rfl rfl ?_
  refine RN_getR (pc := 104) (idx := 51) (ci := 11) (k := 20) (by decide +kernel) lf_RX12_51 rfl c57 c58 ?_
  obtain ⟨r61, er61, h⟩ := nm_el h
  refine RN_nmR er61 ?_
  refine RN_iload (pc := 107) (i := 5) (by decide +kernel) rfl ?_
  obtain ⟨c62, h⟩ := ck_el h
  refine RN_lald (pc := 109) (by decide +kernel) c62 ?_
  refine RN_lmul (pc := 110) (by decide +kernel) ?_
  obtain ⟨c63, h⟩ := ck_el h
  obtain ⟨x66, σ65, f64, h⟩ := bd_el h
  refine RN_callV (M := M_X12_adds) (pc := 111) (idx := 201) (as := [.int s2, .long (s1 + s0), .long ((gJ σ r59 v4.toNatClampNeg) * (gJ σ r61 v5.toNatClampNeg))]) (st := []) (t_X12_becomes f64) (by decide +kernel) lk_RX12_201 rfl ⟨by decide, fun q hq => by cases hq; rfl⟩ c63 (Nat.le_of_ble_eq_true rfl) ⟨Nat.le_of_ble_eq_true rfl, Nat.le_of_ble_eq_true rfl⟩ rfl ?_
  show RN G M_X12_adds 114 [some (.ref v0), none, none, none, some (.int v4), some (.int v5), some (.int v6)] [.int x66] σ65 _ _
  refine RN_if_eq (pc := 114) (off := 12) (tgt := 126) (by decide +kernel) (by decide) (fun c67 => ?_) (fun c67 => ?_)
  · replace h := it_t c67 h
    obtain rfl := some_el h
    exact RN_return (by decide +kernel) rfl
  · replace h := it_f c67 h
    refine RN_aload_n (pc := 117) (k := 0) (by decide +kernel) rfl rfl ?_
    obtain ⟨c68, h⟩ := ck_el h
    obtain ⟨c69, h⟩ := ck_el h
    refine RN_getR (pc := 118) (idx := 69) (ci := 11) (k := 26) (by decide +kernel) lf_RX12_69 rfl c68 c69 ?_
    obtain ⟨r70, er70, h⟩ := nm_el h
    refine RN_nmR er70 ?_
    refine RN_iload (pc := 121) (i := 4) (by decide +kernel) rfl ?_
    refine RN_iload (pc := 123) (i := 6) (by decide +kernel) rfl ?_
    obtain ⟨c71, h⟩ := ck_el h
    obtain ⟨c72, h⟩ := ck_el h
    refine RN_zast (pc := 125) (by decide +kernel) c71 c72 ?_
    obtain ⟨σ73, eσ73, h⟩ := nm_el h
    refine RN_nmS eσ73 ?_
    obtain rfl := some_el h
    exact RN_return (by decide +kernel) rfl
def b_X12_adds_47 (n : Nat) (v0 : Nat) (v1 : Int32) (v3 : Int32) (v4 : Int32) (v5 : Int32) (s0 : Int32) (σ : Sg) : Option Sg :=
  ck (okO σ v0 11) <|
  ck (¬ gR σ v0 19 = 0) <|
  nm (gR σ v0 19) fun r46 =>
  ck (okA σ r46 14 v5) <|
  ck (¬ gR σ v0 20 = 0) <|
  nm (gR σ v0 20) fun r49 =>
  ck (okA σ r49 14 v4) <|
  nm ((gJ σ r46 v5.toNatClampNeg) * (gJ σ r49 v4.toNatClampNeg)) fun x51 =>
  nm (gR σ v0 19) fun r52 =>
  ck (okA σ r52 14 v4) <|
  nm (gR σ v0 20) fun r54 =>
  ck (okA σ r54 14 v5) <|
  if v3 = 0 then (
    b_X12_adds_95 n v0 v4 v5 s0 x51 ((gJ σ r52 v4.toNatClampNeg) * (gJ σ r54 v5.toNatClampNeg)) v1 v0 σ)
  else (
    b_X12_adds_95 n v0 v4 v5 s0 (-x51) ((gJ σ r52 v4.toNatClampNeg) * (gJ σ r54 v5.toNatClampNeg)) v1 v0 σ)
set_option maxRecDepth 20000 in
theorem tb_X12_adds_47 {G : Gl} {σr : Sg} (n : Nat) (v0 : Nat) (v1 : Int32) (v3 : Int32) (v4 : Int32) (v5 : Int32) (s0 : Int32) (σ : Sg) (h : b_X12_adds_47 n v0 v1 v3 v4 v5 s0 σ = some σr) : RN G M_X12_adds 47 [some (.ref v0), some (.int v1), none, some (.int v3), some (.int v4), some (.int v5)] [.int s0] σ (.inl none) σr := by
  unfold b_X12_adds_47 at h
  refine RN_istore (pc := 47) (i := 6) (ls2 := [some (.ref v0), some (.int v1), none, some (.int v3), some (.int v4), some (.int v5), some (.int s0)]) (by decide +kernel) (by decide) rfl ?_
  refine RN_aload_n (pc := 49) (k := 0) (by decide +kernel) rfl rfl ?_
  obtain ⟨c44, h⟩ := ck_el h
  obtain ⟨c45, h⟩ := ck_el h
  refine RN_getR (pc := 50) (idx := 47) (ci := 11) (k := 19) (by decide +kernel) lf_RX12_47 rfl c44 c45 ?_
  obtain ⟨r46, er46, h⟩ := nm_el h
  refine RN_nmR er46 ?_
  refine RN_iload (pc := 53) (i := 5) (by decide +kernel) rfl ?_
  obtain ⟨c47, h⟩ := ck_el h
  refine RN_lald (pc := 55) (by decide +kernel) c47 ?_
  refine RN_aload_n (pc := 56) (k := 0) (by decide +kernel) rfl rfl ?_
  obtain ⟨c48, h⟩ := ck_el h
  refine RN_getR (pc := 57) (idx := 51) (ci := 11) (k := 20) (by decide +kernel) lf_RX12_51 rfl c44 c48 ?_
  obtain ⟨r49, er49, h⟩ := nm_el h
  refine RN_nmR er49 ?_
  refine RN_iload (pc := 60) (i := 4) (by decide +kernel) rfl ?_
  obtain ⟨c50, h⟩ := ck_el h
  refine RN_lald (pc := 62) (by decide +kernel) c50 ?_
  refine RN_lmul (pc := 63) (by decide +kernel) ?_
  obtain ⟨x51, ex51, h⟩ := nm_el h
  refine RN_nmJ ex51 ?_
  refine RN_lstore (pc := 64) (i := 7) (ls2 := [some (.ref v0), some (.int v1), none, some (.int v3), some (.int v4), some (.int v5), some (.int s0), some (.long x51), none]) (by decide +kernel) (by decide) rfl ?_
  refine RN_aload_n (pc := 66) (k := 0) (by decide +kernel) rfl rfl ?_
  refine RN_iload_n (pc := 67) (k := 1) (by decide +kernel) rfl rfl ?_
  refine RN_aload_n (pc := 68) (k := 0) (by decide +kernel) rfl rfl ?_
  refine RN_getR (pc := 69) (idx := 47) (ci := 11) (k := 19) (by decide +kernel) lf_RX12_47 rfl c44 c45 ?_
  obtain ⟨r52, er52, h⟩ := nm_el h
  refine RN_nmR er52 ?_
  refine RN_iload (pc := 72) (i := 4) (by decide +kernel) rfl ?_
  obtain ⟨c53, h⟩ := ck_el h
  refine RN_lald (pc := 74) (by decide +kernel) c53 ?_
  refine RN_aload_n (pc := 75) (k := 0) (by decide +kernel) rfl rfl ?_
  refine RN_getR (pc := 76) (idx := 51) (ci := 11) (k := 20) (by decide +kernel) lf_RX12_51 rfl c44 c48 ?_
  obtain ⟨r54, er54, h⟩ := nm_el h
  refine RN_nmR er54 ?_
  refine RN_iload (pc := 79) (i := 5) (by decide +kernel) rfl ?_
  obtain ⟨c55, h⟩ := ck_el h
  refine RN_lald (pc := 81) (by decide +kernel) c55 ?_
  refine RN_lmul (pc := 82) (by decide +kernel) ?_
  refine RN_iload_n (pc := 83) (k := 3) (by decide +kernel) rfl rfl ?_
  refine RN_if_ne (pc := 84) (off := 8) (tgt := 92) (by decide +kernel) (by decide) (fun c56 => ?_) (fun c56 => ?_)
  · replace h := it_f c56 h
    refine RN_lload (pc := 92) (i := 7) (by decide +kernel) rfl ?_
    refine RN_lneg (pc := 94) (by decide +kernel) ?_
    exact RN_weak (l := [some (.ref v0), none, none, none, some (.int v4), some (.int v5), some (.int s0)]) (And.intro rfl (And.intro rfl (And.intro rfl (And.intro rfl trivial)))) (tb_X12_adds_95 n v0 v4 v5 s0 (-x51) ((gJ σ r52 v4.toNatClampNeg) * (gJ σ r54 v5.toNatClampNeg)) v1 v0 σ h)
  · replace h := it_t c56 h
    refine RN_lload (pc := 87) (i := 7) (by decide +kernel) rfl ?_
    refine RN_goto (pc := 89) (off := 6) (tgt := 95) (by decide +kernel) (by decide) ?_
    exact RN_weak (l := [some (.ref v0), none, none, none, some (.int v4), some (.int v5), some (.int s0)]) (And.intro rfl (And.intro rfl (And.intro rfl (And.intro rfl trivial)))) (tb_X12_adds_95 n v0 v4 v5 s0 x51 ((gJ σ r52 v4.toNatClampNeg) * (gJ σ r54 v5.toNatClampNeg)) v1 v0 σ h)
def b_X12_adds_42 (n : Nat) (v0 : Nat) (v1 : Int32) (v3 : Int32) (v4 : Int32) (v5 : Int32) (σ : Sg) : Option Sg :=
  b_X12_adds_47 n v0 v1 v3 v4 v5 (1 : Int32) σ
set_option maxRecDepth 20000 in
theorem tb_X12_adds_42 {G : Gl} {σr : Sg} (n : Nat) (v0 : Nat) (v1 : Int32) (v3 : Int32) (v4 : Int32) (v5 : Int32) (σ : Sg) (h : b_X12_adds_42 n v0 v1 v3 v4 v5 σ = some σr) : RN G M_X12_adds 42 [some (.ref v0), some (.int v1), none, some (.int v3), some (.int v4), some (.int v5)] [] σ (.inl none) σr := by
  unfold b_X12_adds_42 at h
  refine RN_iconst (pc := 42) (n := 1) (v := 1) (by decide +kernel) (by decide) ?_
  refine RN_goto (pc := 43) (off := 4) (tgt := 47) (by decide +kernel) (by decide) ?_
  exact RN_weak (l := [some (.ref v0), some (.int v1), none, some (.int v3), some (.int v4), some (.int v5)]) (And.intro rfl (And.intro rfl (And.intro rfl (And.intro rfl (And.intro rfl trivial))))) (tb_X12_adds_47 n v0 v1 v3 v4 v5 (1 : Int32) σ h)
def f_X12_adds (n : Nat) (v0 : Nat) (v1 : Int32) (v2 : Int32) (v3 : Int32) (σ : Sg) : Option Sg :=
  ck (okO σ v0 11) <|
  nm (((8 : Int32) * (gI σ v0 16)) + v1) fun x38 =>
  nm (((8 : Int32) * (gI σ v0 16)) + v2) fun x39 =>
  ck (¬ gR σ v0 26 = 0) <|
  nm (gR σ v0 26) fun r41 =>
  ck (okA σ r41 15 x38) <|
  if (gI σ r41 x38.toNatClampNeg) = 0 then (
    nm (gR σ v0 26) fun r74 =>
    ck (okA σ r74 15 x39) <|
    if (gI σ r74 x39.toNatClampNeg) = 0 then (
      b_X12_adds_47 n v0 v1 v3 x38 x39 (0 : Int32) σ)
    else (
      b_X12_adds_42 n v0 v1 v3 x38 x39 σ))
  else (
    b_X12_adds_42 n v0 v1 v3 x38 x39 σ)
set_option maxRecDepth 20000 in
theorem t_X12_adds {G : Gl} {σr : Sg} {n : Nat} {v0 : Nat} {v1 : Int32} {v2 : Int32} {v3 : Int32} {σ : Sg} (h : f_X12_adds n v0 v1 v2 v3 σ = some σr) : MT G M_X12_adds [.ref v0, .int v1, .int v2, .int v3] σ none σr := by
  refine MT_of rfl rfl (Nat.le_of_ble_eq_true rfl) ?_
  show RN G M_X12_adds 0 [some (.ref v0), some (.int v1), some (.int v2), some (.int v3)] [] σ (.inl none) σr
  unfold f_X12_adds at h
  refine RN_bipush (pc := 0) (n := 8) (v := 8) (by decide +kernel) (by decide) ?_
  refine RN_aload_n (pc := 2) (k := 0) (by decide +kernel) rfl rfl ?_
  obtain ⟨c37, h⟩ := ck_el h
  refine RN_getI (pc := 3) (idx := 146) (ci := 11) (k := 16) (by decide +kernel) lf_RX12_146 (Or.inl rfl) c37 ?_
  refine RN_imul (pc := 6) (by decide +kernel) ?_
  refine RN_iload_n (pc := 7) (k := 1) (by decide +kernel) rfl rfl ?_
  refine RN_iadd (pc := 8) (by decide +kernel) ?_
  obtain ⟨x38, ex38, h⟩ := nm_el h
  refine RN_nmI ex38 ?_
  refine RN_istore (pc := 9) (i := 4) (ls2 := [some (.ref v0), some (.int v1), some (.int v2), some (.int v3), some (.int x38)]) (by decide +kernel) (by decide) rfl ?_
  refine RN_bipush (pc := 11) (n := 8) (v := 8) (by decide +kernel) (by decide) ?_
  refine RN_aload_n (pc := 13) (k := 0) (by decide +kernel) rfl rfl ?_
  refine RN_getI (pc := 14) (idx := 146) (ci := 11) (k := 16) (by decide +kernel) lf_RX12_146 (Or.inl rfl) c37 ?_
  refine RN_imul (pc := 17) (by decide +kernel) ?_
  refine RN_iload_n (pc := 18) (k := 2) (by decide +kernel) rfl rfl ?_
  refine RN_iadd (pc := 19) (by decide +kernel) ?_
  obtain ⟨x39, ex39, h⟩ := nm_el h
  refine RN_nmI ex39 ?_
  refine RN_istore (pc := 20) (i := 5) (ls2 := [some (.ref v0), some (.int v1), some (.int v2), some (.int v3), some (.int x38), some (.int x39)]) (by decide +kernel) (by decide) rfl ?_
  refine RN_aload_n (pc := 22) (k := 0) (by decide +kernel) rfl rfl ?_
  obtain ⟨c40, h⟩ := ck_el h
  refine RN_getR (pc := 23) (idx := 69) (ci := 11) (k := 26) (by decide +kernel) lf_RX12_69 rfl c37 c40 ?_
  obtain ⟨r41, er41, h⟩ := nm_el h
  refine RN_nmR er41 ?_
  refine RN_iload (pc := 26) (i := 4) (by decide +kernel) rfl ?_
  obtain ⟨c42, h⟩ := ck_el h
  refine RN_zald (pc := 28) (by decide +kernel) c42 ?_
  refine RN_if_ne (pc := 29) (off := 13) (tgt := 42) (by decide +kernel) (by decide) (fun c43 => ?_) (fun c43 => ?_)
  · replace h := it_f c43 h
    exact RN_weak (l := [some (.ref v0), some (.int v1), none, some (.int v3), some (.int x38), some (.int x39)]) (And.intro rfl (And.intro rfl (And.intro rfl (And.intro rfl (And.intro rfl trivial))))) (tb_X12_adds_42 n v0 v1 v3 x38 x39 σ h)
  · replace h := it_t c43 h
    refine RN_aload_n (pc := 32) (k := 0) (by decide +kernel) rfl rfl ?_
    refine RN_getR (pc := 33) (idx := 69) (ci := 11) (k := 26) (by decide +kernel) lf_RX12_69 rfl c37 c40 ?_
    obtain ⟨r74, er74, h⟩ := nm_el h
    refine RN_nmR er74 ?_
    refine RN_iload (pc := 36) (i := 5) (by decide +kernel) rfl ?_
    obtain ⟨c75, h⟩ := ck_el h
    refine RN_zald (pc := 38) (by decide +kernel) c75 ?_
    refine RN_if_eq (pc := 39) (off := 7) (tgt := 46) (by decide +kernel) (by decide) (fun c76 => ?_) (fun c76 => ?_)
    · replace h := it_t c76 h
      refine RN_iconst (pc := 46) (n := 0) (v := 0) (by decide +kernel) (by decide) ?_
      exact RN_weak (l := [some (.ref v0), some (.int v1), none, some (.int v3), some (.int x38), some (.int x39)]) (And.intro rfl (And.intro rfl (And.intro rfl (And.intro rfl (And.intro rfl trivial))))) (tb_X12_adds_47 n v0 v1 v3 x38 x39 (0 : Int32) σ h)
    · replace h := it_f c76 h
      exact RN_weak (l := [some (.ref v0), some (.int v1), none, some (.int v3), some (.int x38), some (.int x39)]) (And.intro rfl (And.intro rfl (And.intro rfl (And.intro rfl (And.intro rfl trivial))))) (tb_X12_adds_42 n v0 v1 v3 x38 x39 σ h)
