def b_X12_runs_179 (n : Nat) (v0 : Nat) (v2 : Int32) (v3 : Int64) (v5 : Int64) (v7 : Int32) (σ : Sg) : Option (Int32 × Sg) :=
  ck (okO σ v0 11) <|
  ck (¬ gR σ v0 24 = 0) <|
  nm (gR σ v0 24) fun r95 =>
  ck (okW σ r95 14 v2) <|
  nm (pJ σ r95 v2.toNatClampNeg v3) fun σ97 =>
  ck (okO σ97 v0 11) <|
  ck (¬ gR σ97 v0 25 = 0) <|
  nm (gR σ97 v0 25) fun r100 =>
  ck (okW σ97 r100 14 v2) <|
  nm (pJ σ97 r100 v2.toNatClampNeg v5) fun σ102 =>
  ck (okO σ102 v0 11) <|
  nm (pI σ102 v0 31 (0 : Int32)) fun σ104 =>
  some (v7, σ104)
set_option maxRecDepth 20000 in
theorem tb_X12_runs_179 {G : Gl} {xr : Int32} {σr : Sg} (n : Nat) (v0 : Nat) (v2 : Int32) (v3 : Int64) (v5 : Int64) (v7 : Int32) (σ : Sg) (h : b_X12_runs_179 n v0 v2 v3 v5 v7 σ = some (xr, σr)) : RN G M_X12_runs 179 [some (.ref v0), none, some (.int v2), some (.long v3), none, some (.long v5), none, some (.int v7)] [] σ (.inl (some (.int xr))) σr := by
  unfold b_X12_runs_179 at h
  refine RN_aload_n (pc := 179) (k := 0) (by decide +kernel) rfl rfl ?_
  obtain ⟨c93, h⟩ := ck_el h
  obtain ⟨c94, h⟩ := ck_el h
  refine RN_getR (pc := 180) (idx := 63) (ci := 11) (k := 24) (by decide +kernel) lf_RX12_63 rfl c93 c94 ?_
  obtain ⟨r95, er95, h⟩ := nm_el h
  refine RN_nmR er95 ?_
  refine RN_iload_n (pc := 183) (k := 2) (by decide +kernel) rfl rfl ?_
  refine RN_lload_n (pc := 184) (k := 3) (by decide +kernel) rfl rfl ?_
  obtain ⟨c96, h⟩ := ck_el h
  refine RN_last (pc := 185) (by decide +kernel) c96 ?_
  obtain ⟨σ97, eσ97, h⟩ := nm_el h
  refine RN_nmS eσ97 ?_
  refine RN_aload_n (pc := 186) (k := 0) (by decide +kernel) rfl rfl ?_
  obtain ⟨c98, h⟩ := ck_el h
  obtain ⟨c99, h⟩ := ck_el h
  refine RN_getR (pc := 187) (idx := 66) (ci := 11) (k := 25) (by decide +kernel) lf_RX12_66 rfl c98 c99 ?_
  obtain ⟨r100, er100, h⟩ := nm_el h
  refine RN_nmR er100 ?_
  refine RN_iload_n (pc := 190) (k := 2) (by decide +kernel) rfl rfl ?_
  refine RN_lload (pc := 191) (i := 5) (by decide +kernel) rfl ?_
  obtain ⟨c101, h⟩ := ck_el h
  refine RN_last (pc := 193) (by decide +kernel) c101 ?_
  obtain ⟨σ102, eσ102, h⟩ := nm_el h
  refine RN_nmS eσ102 ?_
  refine RN_aload_n (pc := 194) (k := 0) (by decide +kernel) rfl rfl ?_
  refine RN_iconst (pc := 195) (n := 0) (v := 0) (by decide +kernel) (by decide) ?_
  obtain ⟨c103, h⟩ := ck_el h
  refine RN_putI (pc := 196) (idx := 235) (ci := 11) (k := 31) (by decide +kernel) lf_RX12_235 rfl (fun q hq => by cases hq; exact Or.inl rfl) c103 ?_
  obtain ⟨σ104, eσ104, h⟩ := nm_el h
  refine RN_nmS eσ104 ?_
  refine RN_iload (pc := 199) (i := 7) (by decide +kernel) rfl ?_
  obtain ⟨rfl, rfl⟩ := some_el2 h
  exact RN_ireturn (by decide +kernel) rfl
def b_X12_runs_144 : Nat → Nat → Int32 → Int64 → Int64 → Int32 → Int32 → Sg → Option (Int32 × Sg)
  | 0, _, _, _, _, _, _, _ => none
  | n + 1, v0, v2, v3, v5, v7, v8, σ =>
  if (8 : Int32) ≤ v8 then (
    b_X12_runs_179 n v0 v2 v3 v5 v7 σ)
  else (
    ck (okO σ v0 11) <|
    ck (¬ gR σ v0 23 = 0) <|
    nm (gR σ v0 23) fun r107 =>
    ck (¬ gR σ v0 41 = 0) <|
    nm (gR σ v0 41) fun r109 =>
    ck (okA σ r109 14 v8) <|
    ck (okW σ r107 14 (((8 : Int32) * (gI σ v0 16)) + v8)) <|
    nm (pJ σ r107 (((8 : Int32) * (gI σ v0 16)) + v8).toNatClampNeg (gJ σ r109 v8.toNatClampNeg)) fun σ112 =>
    nm (v8 + (1 : Int32)) fun x113 =>
    b_X12_runs_144 n v0 v2 v3 v5 v7 x113 σ112)
set_option maxRecDepth 20000 in
theorem tb_X12_runs_144 {G : Gl} {xr : Int32} {σr : Sg} (v0 : Nat) (v2 : Int32) (v3 : Int64) (v5 : Int64) (v7 : Int32) : ∀ (n : Nat) (v8 : Int32) (σ : Sg), b_X12_runs_144 n v0 v2 v3 v5 v7 v8 σ = some (xr, σr) → RN G M_X12_runs 144 [some (.ref v0), none, some (.int v2), some (.long v3), none, some (.long v5), none, some (.int v7), some (.int v8)] [] σ (.inl (some (.int xr))) σr := by
  intro n
  induction n with
  | zero =>
    intro v8 σ h
    exact none_el h
  | succ n ih =>
    intro v8 σ h
    rw [b_X12_runs_144] at h
    refine RN_iload (pc := 144) (i := 8) (by decide +kernel) rfl ?_
    refine RN_bipush (pc := 146) (n := 8) (v := 8) (by decide +kernel) (by decide) ?_
    refine RN_icmp_ge (pc := 148) (off := 31) (tgt := 179) (by decide +kernel) (by decide) (fun c92 => ?_) (fun c92 => ?_)
    · replace h := it_t c92 h
      exact RN_weak (l := [some (.ref v0), none, some (.int v2), some (.long v3), none, some (.long v5), none, some (.int v7)]) (And.intro rfl (And.intro rfl (And.intro rfl (And.intro rfl (And.intro rfl trivial))))) (tb_X12_runs_179 n v0 v2 v3 v5 v7 σ h)
    · replace h := it_f c92 h
      refine RN_aload_n (pc := 151) (k := 0) (by decide +kernel) rfl rfl ?_
      obtain ⟨c105, h⟩ := ck_el h
      obtain ⟨c106, h⟩ := ck_el h
      refine RN_getR (pc := 152) (idx := 60) (ci := 11) (k := 23) (by decide +kernel) lf_RX12_60 rfl c105 c106 ?_
      obtain ⟨r107, er107, h⟩ := nm_el h
      refine RN_nmR er107 ?_
      refine RN_bipush (pc := 155) (n := 8) (v := 8) (by decide +kernel) (by decide) ?_
      refine RN_aload_n (pc := 157) (k := 0) (by decide +kernel) rfl rfl ?_
      refine RN_getI (pc := 158) (idx := 146) (ci := 11) (k := 16) (by decide +kernel) lf_RX12_146 (Or.inl rfl) c105 ?_
      refine RN_imul (pc := 161) (by decide +kernel) ?_
      refine RN_iload (pc := 162) (i := 8) (by decide +kernel) rfl ?_
      refine RN_iadd (pc := 164) (by decide +kernel) ?_
      refine RN_aload_n (pc := 165) (k := 0) (by decide +kernel) rfl rfl ?_
      obtain ⟨c108, h⟩ := ck_el h
      refine RN_getR (pc := 166) (idx := 97) (ci := 11) (k := 41) (by decide +kernel) lf_RX12_97 rfl c105 c108 ?_
      obtain ⟨r109, er109, h⟩ := nm_el h
      refine RN_nmR er109 ?_
      refine RN_iload (pc := 169) (i := 8) (by decide +kernel) rfl ?_
      obtain ⟨c110, h⟩ := ck_el h
      refine RN_lald (pc := 171) (by decide +kernel) c110 ?_
      obtain ⟨c111, h⟩ := ck_el h
      refine RN_last (pc := 172) (by decide +kernel) c111 ?_
      obtain ⟨σ112, eσ112, h⟩ := nm_el h
      refine RN_nmS eσ112 ?_
      obtain ⟨x113, ex113, h⟩ := nm_el h
      refine RN_iinc (pc := 173) (i := 8) (n := 1) (v := x113) (ls2 := [some (.ref v0), none, some (.int v2), some (.long v3), none, some (.long v5), none, some (.int v7), some (.int x113)]) (by decide +kernel) rfl (by rw [ex113]; rfl) (by decide) rfl ?_
      refine RN_goto (pc := 176) (off := -32) (tgt := 144) (by decide +kernel) (by decide) ?_
      exact RN_weak (l := [some (.ref v0), none, some (.int v2), some (.long v3), none, some (.long v5), none, some (.int v7), some (.int x113)]) (And.intro rfl (And.intro rfl (And.intro rfl (And.intro rfl (And.intro rfl (And.intro rfl trivial)))))) (ih x113 σ112 h)
def b_X12_runs_141 (n : Nat) (v0 : Nat) (v2 : Int32) (v3 : Int64) (v5 : Int64) (v7 : Int32) (σ : Sg) : Option (Int32 × Sg) :=
  b_X12_runs_144 n v0 v2 v3 v5 v7 (0 : Int32) σ
set_option maxRecDepth 20000 in
theorem tb_X12_runs_141 {G : Gl} {xr : Int32} {σr : Sg} (n : Nat) (v0 : Nat) (v2 : Int32) (v3 : Int64) (v5 : Int64) (v7 : Int32) (σ : Sg) (h : b_X12_runs_141 n v0 v2 v3 v5 v7 σ = some (xr, σr)) : RN G M_X12_runs 141 [some (.ref v0), none, some (.int v2), some (.long v3), none, some (.long v5), none, some (.int v7)] [] σ (.inl (some (.int xr))) σr := by
  unfold b_X12_runs_141 at h
  refine RN_iconst (pc := 141) (n := 0) (v := 0) (by decide +kernel) (by decide) ?_
  refine RN_istore (pc := 142) (i := 8) (ls2 := [some (.ref v0), none, some (.int v2), some (.long v3), none, some (.long v5), none, some (.int v7), some (.int (0 : Int32))]) (by decide +kernel) (by decide) rfl ?_
  exact RN_weak (l := [some (.ref v0), none, some (.int v2), some (.long v3), none, some (.long v5), none, some (.int v7), some (.int (0 : Int32))]) (And.intro rfl (And.intro rfl (And.intro rfl (And.intro rfl (And.intro rfl (And.intro rfl trivial)))))) (tb_X12_runs_144 v0 v2 v3 v5 v7 n (0 : Int32) σ h)
def b_X12_runs_111 : Nat → Nat → Int32 → Int32 → Int64 → Int64 → Int32 → Sg → Option (Int32 × Sg)
  | 0, _, _, _, _, _, _, _ => none
  | n + 1, v0, v1, v2, v3, v5, v7, σ =>
  ck (okO σ v0 11) <|
  ck (¬ gR σ v0 8 = 0) <|
  nm (gR σ v0 8) fun r84 =>
  ck (okA σ r84 13 v1) <|
  if (gI σ r84 v1.toNatClampNeg) ≤ v7 then (
    some ((-2 : Int32), σ))
  else (
    bp (f_X12_does n v0 v1 (((20 : Int32) * v1) + v7) σ) fun σ88 =>
    ck (okO σ88 v0 11) <|
    if (gI σ88 v0 32) = 0 then (
      nm (v7 + (1 : Int32)) fun x91 =>
      b_X12_runs_111 n v0 v1 v2 v3 v5 x91 σ88)
    else (
      b_X12_runs_141 n v0 v2 v3 v5 v7 σ88))
set_option maxRecDepth 20000 in
theorem tb_X12_runs_111 {G : Gl} {xr : Int32} {σr : Sg} (v0 : Nat) (v1 : Int32) (v2 : Int32) (v3 : Int64) (v5 : Int64) : ∀ (n : Nat) (v7 : Int32) (σ : Sg), b_X12_runs_111 n v0 v1 v2 v3 v5 v7 σ = some (xr, σr) → RN G M_X12_runs 111 [some (.ref v0), some (.int v1), some (.int v2), some (.long v3), none, some (.long v5), none, some (.int v7)] [] σ (.inl (some (.int xr))) σr := by
  intro n
  induction n with
  | zero =>
    intro v7 σ h
    exact none_el h
  | succ n ih =>
    intro v7 σ h
    rw [b_X12_runs_111] at h
    refine RN_iload (pc := 111) (i := 7) (by decide +kernel) rfl ?_
    refine RN_aload_n (pc := 113) (k := 0) (by decide +kernel) rfl rfl ?_
    obtain ⟨c82, h⟩ := ck_el h
    obtain ⟨c83, h⟩ := ck_el h
    refine RN_getR (pc := 114) (idx := 25) (ci := 11) (k := 8) (by decide +kernel) lf_RX12_25 rfl c82 c83 ?_
    obtain ⟨r84, er84, h⟩ := nm_el h
    refine RN_nmR er84 ?_
    refine RN_iload_n (pc := 117) (k := 1) (by decide +kernel) rfl rfl ?_
    obtain ⟨c85, h⟩ := ck_el h
    refine RN_iald (pc := 118) (by decide +kernel) c85 ?_
    refine RN_icmp_ge (pc := 119) (off := 89) (tgt := 208) (by decide +kernel) (by decide) (fun c86 => ?_) (fun c86 => ?_)
    · replace h := it_t c86 h
      refine RN_bipush (pc := 208) (n := -2) (v := -2) (by decide +kernel) (by decide) ?_
      obtain ⟨rfl, rfl⟩ := some_el2 h
      exact RN_ireturn (by decide +kernel) rfl
    · replace h := it_f c86 h
      refine RN_aload_n (pc := 122) (k := 0) (by decide +kernel) rfl rfl ?_
      refine RN_iload_n (pc := 123) (k := 1) (by decide +kernel) rfl rfl ?_
      refine RN_bipush (pc := 124) (n := 20) (v := 20) (by decide +kernel) (by decide) ?_
      refine RN_iload_n (pc := 126) (k := 1) (by decide +kernel) rfl rfl ?_
      refine RN_imul (pc := 127) (by decide +kernel) ?_
      refine RN_iload (pc := 128) (i := 7) (by decide +kernel) rfl ?_
      refine RN_iadd (pc := 130) (by decide +kernel) ?_
      obtain ⟨σ88, f87, h⟩ := bp_el h
      refine RN_callV (M := M_X12_runs) (pc := 131) (idx := 274) (as := [.int v1, .int (((20 : Int32) * v1) + v7)]) (st := []) (t_X12_does f87) (by decide +kernel) lk_RX12_274 rfl ⟨by decide, fun q hq => by cases hq; rfl⟩ c82 (Nat.le_of_ble_eq_true rfl) ⟨Nat.le_of_ble_eq_true rfl, Nat.le_of_ble_eq_true rfl⟩ rfl ?_
      show RN G M_X12_runs 134 [some (.ref v0), some (.int v1), some (.int v2), some (.long v3), none, some (.long v5), none, some (.int v7)] [] σ88 _ _
      refine RN_aload_n (pc := 134) (k := 0) (by decide +kernel) rfl rfl ?_
      obtain ⟨c89, h⟩ := ck_el h
      refine RN_getI (pc := 135) (idx := 198) (ci := 11) (k := 32) (by decide +kernel) lf_RX12_198 (Or.inl rfl) c89 ?_
      refine RN_if_eq (pc := 138) (off := 64) (tgt := 202) (by decide +kernel) (by decide) (fun c90 => ?_) (fun c90 => ?_)
      · replace h := it_t c90 h
        obtain ⟨x91, ex91, h⟩ := nm_el h
        refine RN_iinc (pc := 202) (i := 7) (n := 1) (v := x91) (ls2 := [some (.ref v0), some (.int v1), some (.int v2), some (.long v3), none, some (.long v5), none, some (.int x91)]) (by decide +kernel) rfl (by rw [ex91]; rfl) (by decide) rfl ?_
        refine RN_goto (pc := 205) (off := -94) (tgt := 111) (by decide +kernel) (by decide) ?_
        exact RN_weak (l := [some (.ref v0), some (.int v1), some (.int v2), some (.long v3), none, some (.long v5), none, some (.int x91)]) (And.intro rfl (And.intro rfl (And.intro rfl (And.intro rfl (And.intro rfl (And.intro rfl trivial)))))) (ih x91 σ88 h)
      · replace h := it_f c90 h
        exact RN_weak (l := [some (.ref v0), none, some (.int v2), some (.long v3), none, some (.long v5), none, some (.int v7)]) (And.intro rfl (And.intro rfl (And.intro rfl (And.intro rfl (And.intro rfl trivial))))) (tb_X12_runs_141 n v0 v2 v3 v5 v7 σ88 h)
def b_X12_runs_98 (n : Nat) (v0 : Nat) (v1 : Int32) (v2 : Int32) (v3 : Int64) (v5 : Int64) (σ : Sg) : Option (Int32 × Sg) :=
  ck (okO σ v0 11) <|
  nm (pI σ v0 31 (0 : Int32)) fun σ79 =>
  ck (okO σ79 v0 11) <|
  nm (pI σ79 v0 32 (0 : Int32)) fun σ81 =>
  b_X12_runs_111 n v0 v1 v2 v3 v5 (0 : Int32) σ81
set_option maxRecDepth 20000 in
theorem tb_X12_runs_98 {G : Gl} {xr : Int32} {σr : Sg} (n : Nat) (v0 : Nat) (v1 : Int32) (v2 : Int32) (v3 : Int64) (v5 : Int64) (σ : Sg) (h : b_X12_runs_98 n v0 v1 v2 v3 v5 σ = some (xr, σr)) : RN G M_X12_runs 98 [some (.ref v0), some (.int v1), some (.int v2), some (.long v3), none, some (.long v5)] [] σ (.inl (some (.int xr))) σr := by
  unfold b_X12_runs_98 at h
  refine RN_aload_n (pc := 98) (k := 0) (by decide +kernel) rfl rfl ?_
  refine RN_iconst (pc := 99) (n := 0) (v := 0) (by decide +kernel) (by decide) ?_
  obtain ⟨c78, h⟩ := ck_el h
  refine RN_putI (pc := 100) (idx := 235) (ci := 11) (k := 31) (by decide +kernel) lf_RX12_235 rfl (fun q hq => by cases hq; exact Or.inl rfl) c78 ?_
  obtain ⟨σ79, eσ79, h⟩ := nm_el h
  refine RN_nmS eσ79 ?_
  refine RN_aload_n (pc := 103) (k := 0) (by decide +kernel) rfl rfl ?_
  refine RN_iconst (pc := 104) (n := 0) (v := 0) (by decide +kernel) (by decide) ?_
  obtain ⟨c80, h⟩ := ck_el h
  refine RN_putI (pc := 105) (idx := 198) (ci := 11) (k := 32) (by decide +kernel) lf_RX12_198 rfl (fun q hq => by cases hq; exact Or.inl rfl) c80 ?_
  obtain ⟨σ81, eσ81, h⟩ := nm_el h
  refine RN_nmS eσ81 ?_
  refine RN_iconst (pc := 108) (n := 0) (v := 0) (by decide +kernel) (by decide) ?_
  refine RN_istore (pc := 109) (i := 7) (ls2 := [some (.ref v0), some (.int v1), some (.int v2), some (.long v3), none, some (.long v5), none, some (.int (0 : Int32))]) (by decide +kernel) (by decide) rfl ?_
  exact RN_weak (l := [some (.ref v0), some (.int v1), some (.int v2), some (.long v3), none, some (.long v5), none, some (.int (0 : Int32))]) (And.intro rfl (And.intro rfl (And.intro rfl (And.intro rfl (And.intro rfl (And.intro rfl trivial)))))) (tb_X12_runs_111 v0 v1 v2 v3 v5 n (0 : Int32) σ81 h)
def b_X12_runs_69 : Nat → Nat → Int32 → Int32 → Int64 → Int64 → Int32 → Sg → Option (Int32 × Sg)
  | 0, _, _, _, _, _, _, _ => none
  | n + 1, v0, v1, v2, v3, v5, v7, σ =>
  if (12 : Int32) ≤ v7 then (
    b_X12_runs_98 n v0 v1 v2 v3 v5 σ)
  else (
    ck (okO σ v0 11) <|
    ck (¬ gR σ v0 22 = 0) <|
    nm (gR σ v0 22) fun r116 =>
    ck (okW σ r116 14 (((12 : Int32) * (gI σ v0 16)) + v7)) <|
    nm (pJ σ r116 (((12 : Int32) * (gI σ v0 16)) + v7).toNatClampNeg (0 : Int64)) fun σ118 =>
    nm (v7 + (1 : Int32)) fun x119 =>
    b_X12_runs_69 n v0 v1 v2 v3 v5 x119 σ118)
set_option maxRecDepth 20000 in
theorem tb_X12_runs_69 {G : Gl} {xr : Int32} {σr : Sg} (v0 : Nat) (v1 : Int32) (v2 : Int32) (v3 : Int64) (v5 : Int64) : ∀ (n : Nat) (v7 : Int32) (σ : Sg), b_X12_runs_69 n v0 v1 v2 v3 v5 v7 σ = some (xr, σr) → RN G M_X12_runs 69 [some (.ref v0), some (.int v1), some (.int v2), some (.long v3), none, some (.long v5), none, some (.int v7)] [] σ (.inl (some (.int xr))) σr := by
  intro n
  induction n with
  | zero =>
    intro v7 σ h
    exact none_el h
  | succ n ih =>
    intro v7 σ h
    rw [b_X12_runs_69] at h
    refine RN_iload (pc := 69) (i := 7) (by decide +kernel) rfl ?_
    refine RN_bipush (pc := 71) (n := 12) (v := 12) (by decide +kernel) (by decide) ?_
    refine RN_icmp_ge (pc := 73) (off := 25) (tgt := 98) (by decide +kernel) (by decide) (fun c77 => ?_) (fun c77 => ?_)
    · replace h := it_t c77 h
      exact RN_weak (l := [some (.ref v0), some (.int v1), some (.int v2), some (.long v3), none, some (.long v5)]) (And.intro rfl (And.intro rfl (And.intro rfl (And.intro rfl (And.intro rfl trivial))))) (tb_X12_runs_98 n v0 v1 v2 v3 v5 σ h)
    · replace h := it_f c77 h
      refine RN_aload_n (pc := 76) (k := 0) (by decide +kernel) rfl rfl ?_
      obtain ⟨c114, h⟩ := ck_el h
      obtain ⟨c115, h⟩ := ck_el h
      refine RN_getR (pc := 77) (idx := 57) (ci := 11) (k := 22) (by decide +kernel) lf_RX12_57 rfl c114 c115 ?_
      obtain ⟨r116, er116, h⟩ := nm_el h
      refine RN_nmR er116 ?_
      refine RN_bipush (pc := 80) (n := 12) (v := 12) (by decide +kernel) (by decide) ?_
      refine RN_aload_n (pc := 82) (k := 0) (by decide +kernel) rfl rfl ?_
      refine RN_getI (pc := 83) (idx := 146) (ci := 11) (k := 16) (by decide +kernel) lf_RX12_146 (Or.inl rfl) c114 ?_
      refine RN_imul (pc := 86) (by decide +kernel) ?_
      refine RN_iload (pc := 87) (i := 7) (by decide +kernel) rfl ?_
      refine RN_iadd (pc := 89) (by decide +kernel) ?_
      refine RN_lconst (pc := 90) (n := 0) (v := 0) (by decide +kernel) (by decide) ?_
      obtain ⟨c117, h⟩ := ck_el h
      refine RN_last (pc := 91) (by decide +kernel) c117 ?_
      obtain ⟨σ118, eσ118, h⟩ := nm_el h
      refine RN_nmS eσ118 ?_
      obtain ⟨x119, ex119, h⟩ := nm_el h
      refine RN_iinc (pc := 92) (i := 7) (n := 1) (v := x119) (ls2 := [some (.ref v0), some (.int v1), some (.int v2), some (.long v3), none, some (.long v5), none, some (.int x119)]) (by decide +kernel) rfl (by rw [ex119]; rfl) (by decide) rfl ?_
      refine RN_goto (pc := 95) (off := -26) (tgt := 69) (by decide +kernel) (by decide) ?_
      exact RN_weak (l := [some (.ref v0), some (.int v1), some (.int v2), some (.long v3), none, some (.long v5), none, some (.int x119)]) (And.intro rfl (And.intro rfl (And.intro rfl (And.intro rfl (And.intro rfl (And.intro rfl trivial)))))) (ih x119 σ118 h)
def b_X12_runs_62 (n : Nat) (v0 : Nat) (v1 : Int32) (v2 : Int32) (v3 : Int64) (v5 : Int64) (σ : Sg) : Option (Int32 × Sg) :=
  ck (okO σ v0 11) <|
  bp (f_X12_clears n v0 σ) fun σ76 =>
  b_X12_runs_69 n v0 v1 v2 v3 v5 (0 : Int32) σ76
set_option maxRecDepth 20000 in
theorem tb_X12_runs_62 {G : Gl} {xr : Int32} {σr : Sg} (n : Nat) (v0 : Nat) (v1 : Int32) (v2 : Int32) (v3 : Int64) (v5 : Int64) (σ : Sg) (h : b_X12_runs_62 n v0 v1 v2 v3 v5 σ = some (xr, σr)) : RN G M_X12_runs 62 [some (.ref v0), some (.int v1), some (.int v2), some (.long v3), none, some (.long v5)] [] σ (.inl (some (.int xr))) σr := by
  unfold b_X12_runs_62 at h
  refine RN_aload_n (pc := 62) (k := 0) (by decide +kernel) rfl rfl ?_
  obtain ⟨c74, h⟩ := ck_el h
  obtain ⟨σ76, f75, h⟩ := bp_el h
  refine RN_callV (M := M_X12_runs) (pc := 63) (idx := 149) (as := []) (st := []) (t_X12_clears f75) (by decide +kernel) lk_RX12_149 rfl ⟨by decide, fun q hq => by cases hq; rfl⟩ c74 (Nat.le_of_ble_eq_true rfl) ⟨Nat.le_of_ble_eq_true rfl, Nat.le_of_ble_eq_true rfl⟩ rfl ?_
  show RN G M_X12_runs 66 [some (.ref v0), some (.int v1), some (.int v2), some (.long v3), none, some (.long v5)] [] σ76 _ _
  refine RN_iconst (pc := 66) (n := 0) (v := 0) (by decide +kernel) (by decide) ?_
  refine RN_istore (pc := 67) (i := 7) (ls2 := [some (.ref v0), some (.int v1), some (.int v2), some (.long v3), none, some (.long v5), none, some (.int (0 : Int32))]) (by decide +kernel) (by decide) rfl ?_
  exact RN_weak (l := [some (.ref v0), some (.int v1), some (.int v2), some (.long v3), none, some (.long v5), none, some (.int (0 : Int32))]) (And.intro rfl (And.intro rfl (And.intro rfl (And.intro rfl (And.intro rfl (And.intro rfl trivial)))))) (tb_X12_runs_69 v0 v1 v2 v3 v5 n (0 : Int32) σ76 h)
def b_X12_runs_27 : Nat → Nat → Int32 → Int32 → Int64 → Int64 → Int32 → Sg → Option (Int32 × Sg)
  | 0, _, _, _, _, _, _, _ => none
  | n + 1, v0, v1, v2, v3, v5, v7, σ =>
  if (8 : Int32) ≤ v7 then (
    b_X12_runs_62 n v0 v1 v2 v3 v5 σ)
  else (
    ck (okO σ v0 11) <|
    ck (¬ gR σ v0 41 = 0) <|
    nm (gR σ v0 41) fun r122 =>
    ck (¬ gR σ v0 23 = 0) <|
    nm (gR σ v0 23) fun r124 =>
    ck (okA σ r124 14 (((8 : Int32) * (gI σ v0 16)) + v7)) <|
    ck (okW σ r122 14 v7) <|
    nm (pJ σ r122 v7.toNatClampNeg (gJ σ r124 (((8 : Int32) * (gI σ v0 16)) + v7).toNatClampNeg)) fun σ127 =>
    nm (v7 + (1 : Int32)) fun x128 =>
    b_X12_runs_27 n v0 v1 v2 v3 v5 x128 σ127)
set_option maxRecDepth 20000 in
theorem tb_X12_runs_27 {G : Gl} {xr : Int32} {σr : Sg} (v0 : Nat) (v1 : Int32) (v2 : Int32) (v3 : Int64) (v5 : Int64) : ∀ (n : Nat) (v7 : Int32) (σ : Sg), b_X12_runs_27 n v0 v1 v2 v3 v5 v7 σ = some (xr, σr) → RN G M_X12_runs 27 [some (.ref v0), some (.int v1), some (.int v2), some (.long v3), none, some (.long v5), none, some (.int v7)] [] σ (.inl (some (.int xr))) σr := by
  intro n
  induction n with
  | zero =>
    intro v7 σ h
    exact none_el h
  | succ n ih =>
    intro v7 σ h
    rw [b_X12_runs_27] at h
    refine RN_iload (pc := 27) (i := 7) (by decide +kernel) rfl ?_
    refine RN_bipush (pc := 29) (n := 8) (v := 8) (by decide +kernel) (by decide) ?_
    refine RN_icmp_ge (pc := 31) (off := 31) (tgt := 62) (by decide +kernel) (by decide) (fun c73 => ?_) (fun c73 => ?_)
    · replace h := it_t c73 h
      exact RN_weak (l := [some (.ref v0), some (.int v1), some (.int v2), some (.long v3), none, some (.long v5)]) (And.intro rfl (And.intro rfl (And.intro rfl (And.intro rfl (And.intro rfl trivial))))) (tb_X12_runs_62 n v0 v1 v2 v3 v5 σ h)
    · replace h := it_f c73 h
      refine RN_aload_n (pc := 34) (k := 0) (by decide +kernel) rfl rfl ?_
      obtain ⟨c120, h⟩ := ck_el h
      obtain ⟨c121, h⟩ := ck_el h
      refine RN_getR (pc := 35) (idx := 97) (ci := 11) (k := 41) (by decide +kernel) lf_RX12_97 rfl c120 c121 ?_
      obtain ⟨r122, er122, h⟩ := nm_el h
      refine RN_nmR er122 ?_
      refine RN_iload (pc := 38) (i := 7) (by decide +kernel) rfl ?_
      refine RN_aload_n (pc := 40) (k := 0) (by decide +kernel) rfl rfl ?_
      obtain ⟨c123, h⟩ := ck_el h
      refine RN_getR (pc := 41) (idx := 60) (ci := 11) (k := 23) (by decide +kernel) lf_RX12_60 rfl c120 c123 ?_
      obtain ⟨r124, er124, h⟩ := nm_el h
      refine RN_nmR er124 ?_
      refine RN_bipush (pc := 44) (n := 8) (v := 8) (by decide +kernel) (by decide) ?_
      refine RN_aload_n (pc := 46) (k := 0) (by decide +kernel) rfl rfl ?_
      refine RN_getI (pc := 47) (idx := 146) (ci := 11) (k := 16) (by decide +kernel) lf_RX12_146 (Or.inl rfl) c120 ?_
      refine RN_imul (pc := 50) (by decide +kernel) ?_
      refine RN_iload (pc := 51) (i := 7) (by decide +kernel) rfl ?_
      refine RN_iadd (pc := 53) (by decide +kernel) ?_
      obtain ⟨c125, h⟩ := ck_el h
      refine RN_lald (pc := 54) (by decide +kernel) c125 ?_
      obtain ⟨c126, h⟩ := ck_el h
      refine RN_last (pc := 55) (by decide +kernel) c126 ?_
      obtain ⟨σ127, eσ127, h⟩ := nm_el h
      refine RN_nmS eσ127 ?_
      obtain ⟨x128, ex128, h⟩ := nm_el h
      refine RN_iinc (pc := 56) (i := 7) (n := 1) (v := x128) (ls2 := [some (.ref v0), some (.int v1), some (.int v2), some (.long v3), none, some (.long v5), none, some (.int x128)]) (by decide +kernel) rfl (by rw [ex128]; rfl) (by decide) rfl ?_
      refine RN_goto (pc := 59) (off := -32) (tgt := 27) (by decide +kernel) (by decide) ?_
      exact RN_weak (l := [some (.ref v0), some (.int v1), some (.int v2), some (.long v3), none, some (.long v5), none, some (.int x128)]) (And.intro rfl (And.intro rfl (And.intro rfl (And.intro rfl (And.intro rfl (And.intro rfl trivial)))))) (ih x128 σ127 h)
def f_X12_runs (n : Nat) (v0 : Nat) (v1 : Int32) (σ : Sg) : Option (Int32 × Sg) :=
  ck (okO σ v0 11) <|
  nm (((4 : Int32) * (gI σ v0 16)) + v1) fun x64 =>
  ck (¬ gR σ v0 24 = 0) <|
  nm (gR σ v0 24) fun r66 =>
  ck (okA σ r66 14 x64) <|
  nm (gJ σ r66 x64.toNatClampNeg) fun x68 =>
  ck (¬ gR σ v0 25 = 0) <|
  nm (gR σ v0 25) fun r70 =>
  ck (okA σ r70 14 x64) <|
  nm (gJ σ r70 x64.toNatClampNeg) fun x72 =>
  b_X12_runs_27 n v0 v1 x64 x68 x72 (0 : Int32) σ
set_option maxRecDepth 20000 in
theorem t_X12_runs {G : Gl} {xr : Int32} {σr : Sg} {n : Nat} {v0 : Nat} {v1 : Int32} {σ : Sg} (h : f_X12_runs n v0 v1 σ = some (xr, σr)) : MT G M_X12_runs [.ref v0, .int v1] σ (some (.int xr)) σr := by
  refine MT_of rfl rfl (Nat.le_of_ble_eq_true rfl) ?_
  show RN G M_X12_runs 0 [some (.ref v0), some (.int v1)] [] σ (.inl (some (.int xr))) σr
  unfold f_X12_runs at h
  refine RN_iconst (pc := 0) (n := 4) (v := 4) (by decide +kernel) (by decide) ?_
  refine RN_aload_n (pc := 1) (k := 0) (by decide +kernel) rfl rfl ?_
  obtain ⟨c63, h⟩ := ck_el h
  refine RN_getI (pc := 2) (idx := 146) (ci := 11) (k := 16) (by decide +kernel) lf_RX12_146 (Or.inl rfl) c63 ?_
  refine RN_imul (pc := 5) (by decide +kernel) ?_
  refine RN_iload_n (pc := 6) (k := 1) (by decide +kernel) rfl rfl ?_
  refine RN_iadd (pc := 7) (by decide +kernel) ?_
  obtain ⟨x64, ex64, h⟩ := nm_el h
  refine RN_nmI ex64 ?_
  refine RN_istore_n (pc := 8) (k := 2) (ls2 := [some (.ref v0), some (.int v1), some (.int x64)]) (by decide +kernel) rfl (by decide) rfl ?_
  refine RN_aload_n (pc := 9) (k := 0) (by decide +kernel) rfl rfl ?_
  obtain ⟨c65, h⟩ := ck_el h
  refine RN_getR (pc := 10) (idx := 63) (ci := 11) (k := 24) (by decide +kernel) lf_RX12_63 rfl c63 c65 ?_
  obtain ⟨r66, er66, h⟩ := nm_el h
  refine RN_nmR er66 ?_
  refine RN_iload_n (pc := 13) (k := 2) (by decide +kernel) rfl rfl ?_
  obtain ⟨c67, h⟩ := ck_el h
  refine RN_lald (pc := 14) (by decide +kernel) c67 ?_
  obtain ⟨x68, ex68, h⟩ := nm_el h
  refine RN_nmJ ex68 ?_
  refine RN_lstore_n (pc := 15) (k := 3) (ls2 := [some (.ref v0), some (.int v1), some (.int x64), some (.long x68), none]) (by decide +kernel) rfl (by decide) rfl ?_
  refine RN_aload_n (pc := 16) (k := 0) (by decide +kernel) rfl rfl ?_
  obtain ⟨c69, h⟩ := ck_el h
  refine RN_getR (pc := 17) (idx := 66) (ci := 11) (k := 25) (by decide +kernel) lf_RX12_66 rfl c63 c69 ?_
  obtain ⟨r70, er70, h⟩ := nm_el h
  refine RN_nmR er70 ?_
  refine RN_iload_n (pc := 20) (k := 2) (by decide +kernel) rfl rfl ?_
  obtain ⟨c71, h⟩ := ck_el h
  refine RN_lald (pc := 21) (by decide +kernel) c71 ?_
  obtain ⟨x72, ex72, h⟩ := nm_el h
  refine RN_nmJ ex72 ?_
  refine RN_lstore (pc := 22) (i := 5) (ls2 := [some (.ref v0), some (.int v1), some (.int x64), some (.long x68), none, some (.long x72), none]) (by decide +kernel) (by decide) rfl ?_
  refine RN_iconst (pc := 24) (n := 0) (v := 0) (by decide +kernel) (by decide) ?_
  refine RN_istore (pc := 25) (i := 7) (ls2 := [some (.ref v0), some (.int v1), some (.int x64), some (.long x68), none, some (.long x72), none, some (.int (0 : Int32))]) (by decide +kernel) (by decide) rfl ?_
  exact RN_weak (l := [some (.ref v0), some (.int v1), some (.int x64), some (.long x68), none, some (.long x72), none, some (.int (0 : Int32))]) (And.intro rfl (And.intro rfl (And.intro rfl (And.intro rfl (And.intro rfl (And.intro rfl trivial)))))) (tb_X12_runs_27 v0 v1 x64 x68 x72 n (0 : Int32) σ h)
def b_X12_runsReal_41 (n : Nat) (v0 : Nat) (v1 : Int32) (σ : Sg) : Option (Int32 × Sg) :=
  ck (okO σ v0 11) <|
  bd (f_X12_runs n v0 v1 σ) fun x33 σ32 =>
  ck (okO σ32 v0 11) <|
  nm (pI σ32 v0 14 x33) fun σ35 =>
  ck (okO σ35 v0 11) <|
  nm (pI σ35 v0 13 ((gI σ35 v0 13) + (gI σ35 v0 31))) fun σ37 =>
  ck (okO σ37 v0 11) <|
  some (gI σ37 v0 14, σ37)
set_option maxRecDepth 20000 in
theorem tb_X12_runsReal_41 {G : Gl} {xr : Int32} {σr : Sg} (n : Nat) (v0 : Nat) (v1 : Int32) (σ : Sg) (h : b_X12_runsReal_41 n v0 v1 σ = some (xr, σr)) : RN G M_X12_runsReal 41 [some (.ref v0), some (.int v1)] [] σ (.inl (some (.int xr))) σr := by
  unfold b_X12_runsReal_41 at h
  refine RN_aload_n (pc := 41) (k := 0) (by decide +kernel) rfl rfl ?_
  refine RN_aload_n (pc := 42) (k := 0) (by decide +kernel) rfl rfl ?_
  refine RN_iload_n (pc := 43) (k := 1) (by decide +kernel) rfl rfl ?_
  obtain ⟨c30, h⟩ := ck_el h
  obtain ⟨x33, σ32, f31, h⟩ := bd_el h
  refine RN_callV (M := M_X12_runsReal) (pc := 44) (idx := 277) (as := [.int v1]) (st := [.ref v0]) (t_X12_runs f31) (by decide +kernel) lk_RX12_277 rfl ⟨by decide, fun q hq => by cases hq; rfl⟩ c30 (Nat.le_of_ble_eq_true rfl) ⟨Nat.le_of_ble_eq_true rfl, Nat.le_of_ble_eq_true rfl⟩ rfl ?_
  show RN G M_X12_runsReal 47 [some (.ref v0), some (.int v1)] [.int x33, .ref v0] σ32 _ _
  obtain ⟨c34, h⟩ := ck_el h
  refine RN_putI (pc := 47) (idx := 40) (ci := 11) (k := 14) (by decide +kernel) lf_RX12_40 rfl (fun q hq => by cases hq; exact Or.inl rfl) c34 ?_
  obtain ⟨σ35, eσ35, h⟩ := nm_el h
  refine RN_nmS eσ35 ?_
  refine RN_aload_n (pc := 50) (k := 0) (by decide +kernel) rfl rfl ?_
  refine RN_dup (pc := 51) (by decide +kernel) rfl ?_
  obtain ⟨c36, h⟩ := ck_el h
  refine RN_getI (pc := 52) (idx := 143) (ci := 11) (k := 13) (by decide +kernel) lf_RX12_143 (Or.inl rfl) c36 ?_
  refine RN_aload_n (pc := 55) (k := 0) (by decide +kernel) rfl rfl ?_
  refine RN_getI (pc := 56) (idx := 235) (ci := 11) (k := 31) (by decide +kernel) lf_RX12_235 (Or.inl rfl) c36 ?_
  refine RN_iadd (pc := 59) (by decide +kernel) ?_
  refine RN_putI (pc := 60) (idx := 143) (ci := 11) (k := 13) (by decide +kernel) lf_RX12_143 rfl (fun q hq => by cases hq; exact Or.inl rfl) c36 ?_
  obtain ⟨σ37, eσ37, h⟩ := nm_el h
  refine RN_nmS eσ37 ?_
  refine RN_aload_n (pc := 63) (k := 0) (by decide +kernel) rfl rfl ?_
  obtain ⟨c38, h⟩ := ck_el h
  refine RN_getI (pc := 64) (idx := 40) (ci := 11) (k := 14) (by decide +kernel) lf_RX12_40 (Or.inl rfl) c38 ?_
  obtain ⟨rfl, rfl⟩ := some_el2 h
  exact RN_ireturn (by decide +kernel) rfl
def b_X12_runsReal_15 : Nat → Nat → Int32 → Int32 → Sg → Option (Int32 × Sg)
  | 0, _, _, _, _ => none
  | n + 1, v0, v1, v2, σ =>
  ck (okO σ v0 11) <|
  if (gI σ v0 3) ≤ v2 then (
    b_X12_runsReal_41 n v0 v1 σ)
  else (
    ck (¬ gR σ v0 18 = 0) <|
    nm (gR σ v0 18) fun r40 =>
    ck (¬ gR σ v0 4 = 0) <|
    nm (gR σ v0 4) fun r42 =>
    ck (okA σ r42 13 v2) <|
    ck (okW σ r40 13 v2) <|
    nm (pI σ r40 v2.toNatClampNeg (gI σ r42 v2.toNatClampNeg)) fun σ45 =>
    nm (v2 + (1 : Int32)) fun x46 =>
    b_X12_runsReal_15 n v0 v1 x46 σ45)
set_option maxRecDepth 20000 in
theorem tb_X12_runsReal_15 {G : Gl} {xr : Int32} {σr : Sg} (v0 : Nat) (v1 : Int32) : ∀ (n : Nat) (v2 : Int32) (σ : Sg), b_X12_runsReal_15 n v0 v1 v2 σ = some (xr, σr) → RN G M_X12_runsReal 15 [some (.ref v0), some (.int v1), some (.int v2)] [] σ (.inl (some (.int xr))) σr := by
  intro n
  induction n with
  | zero =>
    intro v2 σ h
    exact none_el h
  | succ n ih =>
    intro v2 σ h
    rw [b_X12_runsReal_15] at h
    refine RN_iload_n (pc := 15) (k := 2) (by decide +kernel) rfl rfl ?_
    refine RN_aload_n (pc := 16) (k := 0) (by decide +kernel) rfl rfl ?_
    obtain ⟨c28, h⟩ := ck_el h
    refine RN_getI (pc := 17) (idx := 137) (ci := 11) (k := 3) (by decide +kernel) lf_RX12_137 (Or.inl rfl) c28 ?_
    refine RN_icmp_ge (pc := 20) (off := 21) (tgt := 41) (by decide +kernel) (by decide) (fun c29 => ?_) (fun c29 => ?_)
    · replace h := it_t c29 h
      exact RN_weak (l := [some (.ref v0), some (.int v1)]) (And.intro rfl (And.intro rfl trivial)) (tb_X12_runsReal_41 n v0 v1 σ h)
    · replace h := it_f c29 h
      refine RN_aload_n (pc := 23) (k := 0) (by decide +kernel) rfl rfl ?_
      obtain ⟨c39, h⟩ := ck_el h
      refine RN_getR (pc := 24) (idx := 44) (ci := 11) (k := 18) (by decide +kernel) lf_RX12_44 rfl c28 c39 ?_
      obtain ⟨r40, er40, h⟩ := nm_el h
      refine RN_nmR er40 ?_
      refine RN_iload_n (pc := 27) (k := 2) (by decide +kernel) rfl rfl ?_
      refine RN_aload_n (pc := 28) (k := 0) (by decide +kernel) rfl rfl ?_
      obtain ⟨c41, h⟩ := ck_el h
      refine RN_getR (pc := 29) (idx := 16) (ci := 11) (k := 4) (by decide +kernel) lf_RX12_16 rfl c28 c41 ?_
      obtain ⟨r42, er42, h⟩ := nm_el h
      refine RN_nmR er42 ?_
      refine RN_iload_n (pc := 32) (k := 2) (by decide +kernel) rfl rfl ?_
      obtain ⟨c43, h⟩ := ck_el h
      refine RN_iald (pc := 33) (by decide +kernel) c43 ?_
      obtain ⟨c44, h⟩ := ck_el h
      refine RN_iast (pc := 34) (by decide +kernel) c44 ?_
      obtain ⟨σ45, eσ45, h⟩ := nm_el h
      refine RN_nmS eσ45 ?_
      obtain ⟨x46, ex46, h⟩ := nm_el h
      refine RN_iinc (pc := 35) (i := 2) (n := 1) (v := x46) (ls2 := [some (.ref v0), some (.int v1), some (.int x46)]) (by decide +kernel) rfl (by rw [ex46]; rfl) (by decide) rfl ?_
      refine RN_goto (pc := 38) (off := -23) (tgt := 15) (by decide +kernel) (by decide) ?_
      exact RN_weak (l := [some (.ref v0), some (.int v1), some (.int x46)]) (And.intro rfl (And.intro rfl (And.intro rfl trivial))) (ih x46 σ45 h)
def f_X12_runsReal (n : Nat) (v0 : Nat) (v1 : Int32) (σ : Sg) : Option (Int32 × Sg) :=
  ck (okO σ v0 11) <|
  nm (pI σ v0 16 (0 : Int32)) fun σ25 =>
  ck (okO σ25 v0 11) <|
  nm (pI σ25 v0 17 (gI σ25 v0 3)) fun σ27 =>
  b_X12_runsReal_15 n v0 v1 (0 : Int32) σ27
set_option maxRecDepth 20000 in
theorem t_X12_runsReal {G : Gl} {xr : Int32} {σr : Sg} {n : Nat} {v0 : Nat} {v1 : Int32} {σ : Sg} (h : f_X12_runsReal n v0 v1 σ = some (xr, σr)) : MT G M_X12_runsReal [.ref v0, .int v1] σ (some (.int xr)) σr := by
  refine MT_of rfl rfl (Nat.le_of_ble_eq_true rfl) ?_
  show RN G M_X12_runsReal 0 [some (.ref v0), some (.int v1)] [] σ (.inl (some (.int xr))) σr
  unfold f_X12_runsReal at h
  refine RN_aload_n (pc := 0) (k := 0) (by decide +kernel) rfl rfl ?_
  refine RN_iconst (pc := 1) (n := 0) (v := 0) (by decide +kernel) (by decide) ?_
  obtain ⟨c24, h⟩ := ck_el h
  refine RN_putI (pc := 2) (idx := 146) (ci := 11) (k := 16) (by decide +kernel) lf_RX12_146 rfl (fun q hq => by cases hq; exact Or.inl rfl) c24 ?_
  obtain ⟨σ25, eσ25, h⟩ := nm_el h
  refine RN_nmS eσ25 ?_
  refine RN_aload_n (pc := 5) (k := 0) (by decide +kernel) rfl rfl ?_
  refine RN_aload_n (pc := 6) (k := 0) (by decide +kernel) rfl rfl ?_
  obtain ⟨c26, h⟩ := ck_el h
  refine RN_getI (pc := 7) (idx := 137) (ci := 11) (k := 3) (by decide +kernel) lf_RX12_137 (Or.inl rfl) c26 ?_
  refine RN_putI (pc := 10) (idx := 209) (ci := 11) (k := 17) (by decide +kernel) lf_RX12_209 rfl (fun q hq => by cases hq; exact Or.inl rfl) c26 ?_
  obtain ⟨σ27, eσ27, h⟩ := nm_el h
  refine RN_nmS eσ27 ?_
  refine RN_iconst (pc := 13) (n := 0) (v := 0) (by decide +kernel) (by decide) ?_
  refine RN_istore_n (pc := 14) (k := 2) (ls2 := [some (.ref v0), some (.int v1), some (.int (0 : Int32))]) (by decide +kernel) rfl (by decide) rfl ?_
  exact RN_weak (l := [some (.ref v0), some (.int v1), some (.int (0 : Int32))]) (And.intro rfl (And.intro rfl (And.intro rfl trivial))) (tb_X12_runsReal_15 v0 v1 n (0 : Int32) σ27 h)
def f_X12_run (n : Nat) (v0 : Nat) (v1 : Int32) (σ : Sg) : Option (Int32 × Sg) :=
  ck (okO σ v0 11) <|
  bp (f_X12_isProgram v0 v1 σ) fun x15 =>
  if x15 = 0 then (
    some ((-1 : Int32), σ))
  else (
    bd (f_X12_runsReal n v0 v1 σ) fun x19 σ18 =>
    if x19 = (-2 : Int32) then (
      ck (okO σ18 v0 11) <|
      ck (¬ gR σ18 v0 8 = 0) <|
      nm (gR σ18 v0 8) fun r24 =>
      ck (okA σ18 r24 13 v1) <|
      some (gI σ18 r24 v1.toNatClampNeg, σ18))
    else (
      ck (okO σ18 v0 11) <|
      some (gI σ18 v0 32, σ18)))
set_option maxRecDepth 20000 in
theorem t_X12_run {G : Gl} {xr : Int32} {σr : Sg} {n : Nat} {v0 : Nat} {v1 : Int32} {σ : Sg} (h : f_X12_run n v0 v1 σ = some (xr, σr)) : MT G M_X12_run [.ref v0, .int v1] σ (some (.int xr)) σr := by
  refine MT_of rfl rfl (Nat.le_of_ble_eq_true rfl) ?_
  show RN G M_X12_run 0 [some (.ref v0), some (.int v1)] [] σ (.inl (some (.int xr))) σr
  unfold f_X12_run at h
  refine RN_aload_n (pc := 0) (k := 0) (by decide +kernel) rfl rfl ?_
  refine RN_iload_n (pc := 1) (k := 1) (by decide +kernel) rfl rfl ?_
  obtain ⟨c13, h⟩ := ck_el h
  obtain ⟨x15, f14, h⟩ := bp_el h
  refine RN_callV (M := M_X12_run) (pc := 2) (idx := 172) (as := [.int v1]) (st := []) (t_X12_isProgram f14) (by decide +kernel) lk_RX12_172 rfl ⟨by decide, fun q hq => by cases hq; rfl⟩ c13 (Nat.le_of_ble_eq_true rfl) ⟨Nat.le_of_ble_eq_true rfl, Nat.le_of_ble_eq_true rfl⟩ rfl ?_
  show RN G M_X12_run 5 [some (.ref v0), some (.int v1)] [.int x15] σ _ _
  refine RN_if_ne (pc := 5) (off := 5) (tgt := 10) (by decide +kernel) (by decide) (fun c16 => ?_) (fun c16 => ?_)
  · replace h := it_f c16 h
    refine RN_aload_n (pc := 10) (k := 0) (by decide +kernel) rfl rfl ?_
    refine RN_iload_n (pc := 11) (k := 1) (by decide +kernel) rfl rfl ?_
    obtain ⟨x19, σ18, f17, h⟩ := bd_el h
    refine RN_callV (M := M_X12_run) (pc := 12) (idx := 280) (as := [.int v1]) (st := []) (t_X12_runsReal f17) (by decide +kernel) lk_RX12_280 rfl ⟨by decide, fun q hq => by cases hq; rfl⟩ c13 (Nat.le_of_ble_eq_true rfl) ⟨Nat.le_of_ble_eq_true rfl, Nat.le_of_ble_eq_true rfl⟩ rfl ?_
    show RN G M_X12_run 15 [some (.ref v0), some (.int v1)] [.int x19] σ18 _ _
    refine RN_bipush (pc := 15) (n := -2) (v := -2) (by decide +kernel) (by decide) ?_
    refine RN_icmp_ne (pc := 17) (off := 12) (tgt := 29) (by decide +kernel) (by decide) (fun c20 => ?_) (fun c20 => ?_)
    · replace h := it_f c20 h
      refine RN_aload_n (pc := 29) (k := 0) (by decide +kernel) rfl rfl ?_
      obtain ⟨c21, h⟩ := ck_el h
      refine RN_getI (pc := 30) (idx := 198) (ci := 11) (k := 32) (by decide +kernel) lf_RX12_198 (Or.inl rfl) c21 ?_
      obtain ⟨rfl, rfl⟩ := some_el2 h
      exact RN_ireturn (by decide +kernel) rfl
    · replace h := it_t c20 h
      refine RN_aload_n (pc := 20) (k := 0) (by decide +kernel) rfl rfl ?_
      obtain ⟨c22, h⟩ := ck_el h
      obtain ⟨c23, h⟩ := ck_el h
      refine RN_getR (pc := 21) (idx := 25) (ci := 11) (k := 8) (by decide +kernel) lf_RX12_25 rfl c22 c23 ?_
      obtain ⟨r24, er24, h⟩ := nm_el h
      refine RN_nmR er24 ?_
      refine RN_iload_n (pc := 24) (k := 1) (by decide +kernel) rfl rfl ?_
      obtain ⟨c25, h⟩ := ck_el h
      refine RN_iald (pc := 25) (by decide +kernel) c25 ?_
      refine RN_goto (pc := 26) (off := 7) (tgt := 33) (by decide +kernel) (by decide) ?_
      obtain ⟨rfl, rfl⟩ := some_el2 h
      exact RN_ireturn (by decide +kernel) rfl
  · replace h := it_t c16 h
    refine RN_iconst (pc := 8) (n := -1) (v := -1) (by decide +kernel) (by decide) ?_
    obtain ⟨rfl, rfl⟩ := some_el2 h
    exact RN_ireturn (by decide +kernel) rfl
def b_X12_years_22 : Nat → Nat → Int32 → Int32 → Int32 → Sg → Option (Int32 × Sg)
  | 0, _, _, _, _, _ => none
  | n + 1, v0, v1, v2, v3, σ =>
  if v2 ≤ v3 then (
    some (v3, σ))
  else (
    ck (okO σ v0 11) <|
    bd (f_X12_runsReal n v0 v1 σ) fun x22 σ21 =>
    if x22 = (-2 : Int32) then (
      nm (v3 + (1 : Int32)) fun x24 =>
      b_X12_years_22 n v0 v1 v2 x24 σ21)
    else (
      some (v3, σ21)))
set_option maxRecDepth 20000 in
theorem tb_X12_years_22 {G : Gl} {xr : Int32} {σr : Sg} (v0 : Nat) (v1 : Int32) (v2 : Int32) : ∀ (n : Nat) (v3 : Int32) (σ : Sg), b_X12_years_22 n v0 v1 v2 v3 σ = some (xr, σr) → RN G M_X12_years 22 [some (.ref v0), some (.int v1), some (.int v2), some (.int v3)] [] σ (.inl (some (.int xr))) σr := by
  intro n
  induction n with
  | zero =>
    intro v3 σ h
    exact none_el h
  | succ n ih =>
    intro v3 σ h
    rw [b_X12_years_22] at h
    refine RN_iload_n (pc := 22) (k := 3) (by decide +kernel) rfl rfl ?_
    refine RN_iload_n (pc := 23) (k := 2) (by decide +kernel) rfl rfl ?_
    refine RN_icmp_ge (pc := 24) (off := 19) (tgt := 43) (by decide +kernel) (by decide) (fun c18 => ?_) (fun c18 => ?_)
    · replace h := it_t c18 h
      refine RN_iload_n (pc := 43) (k := 3) (by decide +kernel) rfl rfl ?_
      obtain ⟨rfl, rfl⟩ := some_el2 h
      exact RN_ireturn (by decide +kernel) rfl
    · replace h := it_f c18 h
      refine RN_aload_n (pc := 27) (k := 0) (by decide +kernel) rfl rfl ?_
      refine RN_iload_n (pc := 28) (k := 1) (by decide +kernel) rfl rfl ?_
      obtain ⟨c19, h⟩ := ck_el h
      obtain ⟨x22, σ21, f20, h⟩ := bd_el h
      refine RN_callV (M := M_X12_years) (pc := 29) (idx := 280) (as := [.int v1]) (st := []) (t_X12_runsReal f20) (by decide +kernel) lk_RX12_280 rfl ⟨by decide, fun q hq => by cases hq; rfl⟩ c19 (Nat.le_of_ble_eq_true rfl) ⟨Nat.le_of_ble_eq_true rfl, Nat.le_of_ble_eq_true rfl⟩ rfl ?_
      show RN G M_X12_years 32 [some (.ref v0), some (.int v1), some (.int v2), some (.int v3)] [.int x22] σ21 _ _
      refine RN_bipush (pc := 32) (n := -2) (v := -2) (by decide +kernel) (by decide) ?_
      refine RN_icmp_ne (pc := 34) (off := 9) (tgt := 43) (by decide +kernel) (by decide) (fun c23 => ?_) (fun c23 => ?_)
      · replace h := it_f c23 h
        refine RN_iload_n (pc := 43) (k := 3) (by decide +kernel) rfl rfl ?_
        obtain ⟨rfl, rfl⟩ := some_el2 h
        exact RN_ireturn (by decide +kernel) rfl
      · replace h := it_t c23 h
        obtain ⟨x24, ex24, h⟩ := nm_el h
        refine RN_iinc (pc := 37) (i := 3) (n := 1) (v := x24) (ls2 := [some (.ref v0), some (.int v1), some (.int v2), some (.int x24)]) (by decide +kernel) rfl (by rw [ex24]; rfl) (by decide) rfl ?_
        refine RN_goto (pc := 40) (off := -18) (tgt := 22) (by decide +kernel) (by decide) ?_
        exact RN_weak (l := [some (.ref v0), some (.int v1), some (.int v2), some (.int x24)]) (And.intro rfl (And.intro rfl (And.intro rfl (And.intro rfl trivial)))) (ih x24 σ21 h)
def f_X12_years (n : Nat) (v0 : Nat) (v1 : Int32) (v2 : Int32) (σ : Sg) : Option (Int32 × Sg) :=
  ck (okO σ v0 11) <|
  bp (f_X12_isProgram v0 v1 σ) fun x13 =>
  if x13 = 0 then (
    some ((-1 : Int32), σ))
  else (
    bp (f_X12_in v2 (0 : Int32) (40 : Int32)) fun x16 =>
    if x16 = 0 then (
      some ((-1 : Int32), σ))
    else (
      b_X12_years_22 n v0 v1 v2 (0 : Int32) σ))
set_option maxRecDepth 20000 in
theorem t_X12_years {G : Gl} {xr : Int32} {σr : Sg} {n : Nat} {v0 : Nat} {v1 : Int32} {v2 : Int32} {σ : Sg} (h : f_X12_years n v0 v1 v2 σ = some (xr, σr)) : MT G M_X12_years [.ref v0, .int v1, .int v2] σ (some (.int xr)) σr := by
  refine MT_of rfl rfl (Nat.le_of_ble_eq_true rfl) ?_
  show RN G M_X12_years 0 [some (.ref v0), some (.int v1), some (.int v2)] [] σ (.inl (some (.int xr))) σr
  unfold f_X12_years at h
  refine RN_aload_n (pc := 0) (k := 0) (by decide +kernel) rfl rfl ?_
  refine RN_iload_n (pc := 1) (k := 1) (by decide +kernel) rfl rfl ?_
  obtain ⟨c11, h⟩ := ck_el h
  obtain ⟨x13, f12, h⟩ := bp_el h
  refine RN_callV (M := M_X12_years) (pc := 2) (idx := 172) (as := [.int v1]) (st := []) (t_X12_isProgram f12) (by decide +kernel) lk_RX12_172 rfl ⟨by decide, fun q hq => by cases hq; rfl⟩ c11 (Nat.le_of_ble_eq_true rfl) ⟨Nat.le_of_ble_eq_true rfl, Nat.le_of_ble_eq_true rfl⟩ rfl ?_
  show RN G M_X12_years 5 [some (.ref v0), some (.int v1), some (.int v2)] [.int x13] σ _ _
  refine RN_if_eq (pc := 5) (off := 13) (tgt := 18) (by decide +kernel) (by decide) (fun c14 => ?_) (fun c14 => ?_)
  · replace h := it_t c14 h
    refine RN_iconst (pc := 18) (n := -1) (v := -1) (by decide +kernel) (by decide) ?_
    obtain ⟨rfl, rfl⟩ := some_el2 h
    exact RN_ireturn (by decide +kernel) rfl
  · replace h := it_f c14 h
    refine RN_iload_n (pc := 8) (k := 2) (by decide +kernel) rfl rfl ?_
    refine RN_iconst (pc := 9) (n := 0) (v := 0) (by decide +kernel) (by decide) ?_
    refine RN_bipush (pc := 10) (n := 40) (v := 40) (by decide +kernel) (by decide) ?_
    obtain ⟨x16, f15, h⟩ := bp_el h
    refine RN_callS (M := M_X12_years) (pc := 12) (idx := 159) (as := [.int v2, .int (0 : Int32), .int (40 : Int32)]) (st := []) (t_X12_in f15) (by decide +kernel) lk_RX12_159 rfl (Nat.le_of_ble_eq_true rfl) ⟨Nat.le_of_ble_eq_true rfl, Nat.le_of_ble_eq_true rfl⟩ rfl ?_
    show RN G M_X12_years 15 [some (.ref v0), some (.int v1), some (.int v2)] [.int x16] σ _ _
    refine RN_if_ne (pc := 15) (off := 5) (tgt := 20) (by decide +kernel) (by decide) (fun c17 => ?_) (fun c17 => ?_)
    · replace h := it_f c17 h
      refine RN_iconst (pc := 20) (n := 0) (v := 0) (by decide +kernel) (by decide) ?_
      refine RN_istore_n (pc := 21) (k := 3) (ls2 := [some (.ref v0), some (.int v1), some (.int v2), some (.int (0 : Int32))]) (by decide +kernel) rfl (by decide) rfl ?_
      exact RN_weak (l := [some (.ref v0), some (.int v1), some (.int v2), some (.int (0 : Int32))]) (And.intro rfl (And.intro rfl (And.intro rfl (And.intro rfl trivial)))) (tb_X12_years_22 v0 v1 v2 n (0 : Int32) σ h)
    · replace h := it_t c17 h
      refine RN_iconst (pc := 18) (n := -1) (v := -1) (by decide +kernel) (by decide) ?_
      obtain ⟨rfl, rfl⟩ := some_el2 h
      exact RN_ireturn (by decide +kernel) rfl
def f_X12_failed (v0 : Nat) (σ : Sg) : Option Int32 :=
  ck (okO σ v0 11) <|
  some (gI σ v0 14)
set_option maxRecDepth 20000 in
theorem t_X12_failed {G : Gl} {xr : Int32} {v0 : Nat} {σ : Sg} (h : f_X12_failed v0 σ = some xr) : MT G M_X12_failed [.ref v0] σ (some (.int xr)) σ := by
  refine MT_of rfl rfl (Nat.le_of_ble_eq_true rfl) ?_
  show RN G M_X12_failed 0 [some (.ref v0)] [] σ (.inl (some (.int xr))) σ
  unfold f_X12_failed at h
  refine RN_aload_n (pc := 0) (k := 0) (by decide +kernel) rfl rfl ?_
  obtain ⟨c2, h⟩ := ck_el h
  refine RN_getI (pc := 1) (idx := 40) (ci := 11) (k := 14) (by decide +kernel) lf_RX12_40 (Or.inl rfl) c2 ?_
  obtain rfl := some_el h
  exact RN_ireturn (by decide +kernel) rfl
def b_X12_isRefused_10 (v1 : Int32) (s0 : Int32) (s1 : Nat) (σ : Sg) : Option (Int32 × Sg) :=
  ck (okO σ s1 11) <|
  nm (pI σ s1 0 s0) fun σ5 =>
  if v1 = 0 then (
    some ((1 : Int32), σ5))
  else (
    some ((0 : Int32), σ5))
set_option maxRecDepth 20000 in
theorem tb_X12_isRefused_10 {G : Gl} {xr : Int32} {σr : Sg} (v1 : Int32) (s0 : Int32) (s1 : Nat) (σ : Sg) (h : b_X12_isRefused_10 v1 s0 s1 σ = some (xr, σr)) : RN G M_X12_isRefused 10 [none, some (.int v1)] [.int s0, .ref s1] σ (.inl (some (.int xr))) σr := by
  unfold b_X12_isRefused_10 at h
  obtain ⟨c4, h⟩ := ck_el h
  refine RN_putI (pc := 10) (idx := 131) (ci := 11) (k := 0) (by decide +kernel) lf_RX12_131 rfl (fun q hq => by cases hq; exact Or.inl rfl) c4 ?_
  obtain ⟨σ5, eσ5, h⟩ := nm_el h
  refine RN_nmS eσ5 ?_
  refine RN_iload_n (pc := 13) (k := 1) (by decide +kernel) rfl rfl ?_
  refine RN_if_ne (pc := 14) (off := 7) (tgt := 21) (by decide +kernel) (by decide) (fun c6 => ?_) (fun c6 => ?_)
  · replace h := it_f c6 h
    refine RN_iconst (pc := 21) (n := 0) (v := 0) (by decide +kernel) (by decide) ?_
    obtain ⟨rfl, rfl⟩ := some_el2 h
    exact RN_zreturn (by decide +kernel) rfl (Or.inl rfl)
  · replace h := it_t c6 h
    refine RN_iconst (pc := 17) (n := 1) (v := 1) (by decide +kernel) (by decide) ?_
    refine RN_goto (pc := 18) (off := 4) (tgt := 22) (by decide +kernel) (by decide) ?_
    obtain ⟨rfl, rfl⟩ := some_el2 h
    exact RN_zreturn (by decide +kernel) rfl (Or.inr rfl)
def f_X12_isRefused (v0 : Nat) (v1 : Int32) (σ : Sg) : Option (Int32 × Sg) :=
  if v1 = 0 then (
    b_X12_isRefused_10 v1 (1 : Int32) v0 σ)
  else (
    b_X12_isRefused_10 v1 (0 : Int32) v0 σ)
set_option maxRecDepth 20000 in
theorem t_X12_isRefused {G : Gl} {xr : Int32} {σr : Sg} {v0 : Nat} {v1 : Int32} {σ : Sg} (h : f_X12_isRefused v0 v1 σ = some (xr, σr)) : MT G M_X12_isRefused [.ref v0, .int v1] σ (some (.int xr)) σr := by
  refine MT_of rfl rfl (Nat.le_of_ble_eq_true rfl) ?_
  show RN G M_X12_isRefused 0 [some (.ref v0), some (.int v1)] [] σ (.inl (some (.int xr))) σr
  unfold f_X12_isRefused at h
  refine RN_aload_n (pc := 0) (k := 0) (by decide +kernel) rfl rfl ?_
  refine RN_iload_n (pc := 1) (k := 1) (by decide +kernel) rfl rfl ?_
  refine RN_if_eq (pc := 2) (off := 7) (tgt := 9) (by decide +kernel) (by decide) (fun c3 => ?_) (fun c3 => ?_)
  · replace h := it_t c3 h
    refine RN_iconst (pc := 9) (n := 1) (v := 1) (by decide +kernel) (by decide) ?_
    exact RN_weak (l := [none, some (.int v1)]) (And.intro rfl trivial) (tb_X12_isRefused_10 v1 (1 : Int32) v0 σ h)
  · replace h := it_f c3 h
    refine RN_iconst (pc := 5) (n := 0) (v := 0) (by decide +kernel) (by decide) ?_
    refine RN_goto (pc := 6) (off := 4) (tgt := 10) (by decide +kernel) (by decide) ?_
    exact RN_weak (l := [none, some (.int v1)]) (And.intro rfl trivial) (tb_X12_isRefused_10 v1 (0 : Int32) v0 σ h)
def f_X12_account (v0 : Nat) (v1 : Int32) (σ : Sg) : Option (Int64 × Sg) :=
  bp (f_X12_in v1 (0 : Int32) (7 : Int32)) fun x12 =>
  ck (okO σ v0 11) <|
  bd (f_X12_isRefused v0 x12 σ) fun x16 σ15 =>
  if x16 = 0 then (
    ck (okO σ15 v0 11) <|
    ck (¬ gR σ15 v0 23 = 0) <|
    nm (gR σ15 v0 23) fun r20 =>
    ck (okA σ15 r20 14 v1) <|
    some (gJ σ15 r20 v1.toNatClampNeg, σ15))
  else (
    some ((0 : Int64), σ15))
set_option maxRecDepth 20000 in
theorem t_X12_account {G : Gl} {xr : Int64} {σr : Sg} {v0 : Nat} {v1 : Int32} {σ : Sg} (h : f_X12_account v0 v1 σ = some (xr, σr)) : MT G M_X12_account [.ref v0, .int v1] σ (some (.long xr)) σr := by
  refine MT_of rfl rfl (Nat.le_of_ble_eq_true rfl) ?_
  show RN G M_X12_account 0 [some (.ref v0), some (.int v1)] [] σ (.inl (some (.long xr))) σr
  unfold f_X12_account at h
  refine RN_aload_n (pc := 0) (k := 0) (by decide +kernel) rfl rfl ?_
  refine RN_iload_n (pc := 1) (k := 1) (by decide +kernel) rfl rfl ?_
  refine RN_iconst (pc := 2) (n := 0) (v := 0) (by decide +kernel) (by decide) ?_
  refine RN_bipush (pc := 3) (n := 7) (v := 7) (by decide +kernel) (by decide) ?_
  obtain ⟨x12, f11, h⟩ := bp_el h
  refine RN_callS (M := M_X12_account) (pc := 5) (idx := 159) (as := [.int v1, .int (0 : Int32), .int (7 : Int32)]) (st := [.ref v0]) (t_X12_in f11) (by decide +kernel) lk_RX12_159 rfl (Nat.le_of_ble_eq_true rfl) ⟨Nat.le_of_ble_eq_true rfl, Nat.le_of_ble_eq_true rfl⟩ rfl ?_
  show RN G M_X12_account 8 [some (.ref v0), some (.int v1)] [.int x12, .ref v0] σ _ _
  obtain ⟨c13, h⟩ := ck_el h
  obtain ⟨x16, σ15, f14, h⟩ := bd_el h
  refine RN_callV (M := M_X12_account) (pc := 8) (idx := 283) (as := [.int x12]) (st := []) (t_X12_isRefused f14) (by decide +kernel) lk_RX12_283 rfl ⟨by decide, fun q hq => by cases hq; rfl⟩ c13 (Nat.le_of_ble_eq_true rfl) ⟨Nat.le_of_ble_eq_true rfl, Nat.le_of_ble_eq_true rfl⟩ rfl ?_
  show RN G M_X12_account 11 [some (.ref v0), some (.int v1)] [.int x16] σ15 _ _
  refine RN_if_eq (pc := 11) (off := 7) (tgt := 18) (by decide +kernel) (by decide) (fun c17 => ?_) (fun c17 => ?_)
  · replace h := it_t c17 h
    refine RN_aload_n (pc := 18) (k := 0) (by decide +kernel) rfl rfl ?_
    obtain ⟨c18, h⟩ := ck_el h
    obtain ⟨c19, h⟩ := ck_el h
    refine RN_getR (pc := 19) (idx := 60) (ci := 11) (k := 23) (by decide +kernel) lf_RX12_60 rfl c18 c19 ?_
    obtain ⟨r20, er20, h⟩ := nm_el h
    refine RN_nmR er20 ?_
    refine RN_iload_n (pc := 22) (k := 1) (by decide +kernel) rfl rfl ?_
    obtain ⟨c21, h⟩ := ck_el h
    refine RN_lald (pc := 23) (by decide +kernel) c21 ?_
    obtain ⟨rfl, rfl⟩ := some_el2 h
    exact RN_lreturn (by decide +kernel) rfl
  · replace h := it_f c17 h
    refine RN_lconst (pc := 14) (n := 0) (v := 0) (by decide +kernel) (by decide) ?_
    refine RN_goto (pc := 15) (off := 9) (tgt := 24) (by decide +kernel) (by decide) ?_
    obtain ⟨rfl, rfl⟩ := some_el2 h
    exact RN_lreturn (by decide +kernel) rfl
def b_X12_slot_25 (v0 : Nat) (v1 : Int32) (v2 : Int32) (s0 : Int32) (s1 : Nat) (σ : Sg) : Option (Int64 × Sg) :=
  ck (okO σ s1 11) <|
  bd (f_X12_isRefused s1 s0 σ) fun x27 σ26 =>
  if x27 = 0 then (
    if v2 = 0 then (
      ck (okO σ26 v0 11) <|
      ck (¬ gR σ26 v0 19 = 0) <|
      nm (gR σ26 v0 19) fun r42 =>
      ck (okA σ26 r42 14 v1) <|
      some (gJ σ26 r42 v1.toNatClampNeg, σ26))
    else (
      if v2 = (1 : Int32) then (
        ck (okO σ26 v0 11) <|
        ck (¬ gR σ26 v0 20 = 0) <|
        nm (gR σ26 v0 20) fun r38 =>
        ck (okA σ26 r38 14 v1) <|
        some (gJ σ26 r38 v1.toNatClampNeg, σ26))
      else (
        ck (okO σ26 v0 11) <|
        ck (¬ gR σ26 v0 26 = 0) <|
        nm (gR σ26 v0 26) fun r33 =>
        ck (okA σ26 r33 15 v1) <|
        if (gI σ26 r33 v1.toNatClampNeg) = 0 then (
          some ((0 : Int64), σ26))
        else (
          some ((1 : Int64), σ26)))))
  else (
    some ((0 : Int64), σ26))
set_option maxRecDepth 20000 in
theorem tb_X12_slot_25 {G : Gl} {xr : Int64} {σr : Sg} (v0 : Nat) (v1 : Int32) (v2 : Int32) (s0 : Int32) (s1 : Nat) (σ : Sg) (h : b_X12_slot_25 v0 v1 v2 s0 s1 σ = some (xr, σr)) : RN G M_X12_slot 25 [some (.ref v0), some (.int v1), some (.int v2)] [.int s0, .ref s1] σ (.inl (some (.long xr))) σr := by
  unfold b_X12_slot_25 at h
  obtain ⟨c24, h⟩ := ck_el h
  obtain ⟨x27, σ26, f25, h⟩ := bd_el h
  refine RN_callV (M := M_X12_slot) (pc := 25) (idx := 283) (as := [.int s0]) (st := []) (t_X12_isRefused f25) (by decide +kernel) lk_RX12_283 rfl ⟨by decide, fun q hq => by cases hq; rfl⟩ c24 (Nat.le_of_ble_eq_true rfl) ⟨Nat.le_of_ble_eq_true rfl, Nat.le_of_ble_eq_true rfl⟩ rfl ?_
  show RN G M_X12_slot 28 [some (.ref v0), some (.int v1), some (.int v2)] [.int x27] σ26 _ _
  refine RN_if_eq (pc := 28) (off := 5) (tgt := 33) (by decide +kernel) (by decide) (fun c28 => ?_) (fun c28 => ?_)
  · replace h := it_t c28 h
    refine RN_iload_n (pc := 33) (k := 2) (by decide +kernel) rfl rfl ?_
    refine RN_if_ne (pc := 34) (off := 12) (tgt := 46) (by decide +kernel) (by decide) (fun c29 => ?_) (fun c29 => ?_)
    · replace h := it_f c29 h
      refine RN_iload_n (pc := 46) (k := 2) (by decide +kernel) rfl rfl ?_
      refine RN_iconst (pc := 47) (n := 1) (v := 1) (by decide +kernel) (by decide) ?_
      refine RN_icmp_ne (pc := 48) (off := 12) (tgt := 60) (by decide +kernel) (by decide) (fun c30 => ?_) (fun c30 => ?_)
      · replace h := it_f c30 h
        refine RN_aload_n (pc := 60) (k := 0) (by decide +kernel) rfl rfl ?_
        obtain ⟨c31, h⟩ := ck_el h
        obtain ⟨c32, h⟩ := ck_el h
        refine RN_getR (pc := 61) (idx := 69) (ci := 11) (k := 26) (by decide +kernel) lf_RX12_69 rfl c31 c32 ?_
        obtain ⟨r33, er33, h⟩ := nm_el h
        refine RN_nmR er33 ?_
        refine RN_iload_n (pc := 64) (k := 1) (by decide +kernel) rfl rfl ?_
        obtain ⟨c34, h⟩ := ck_el h
        refine RN_zald (pc := 65) (by decide +kernel) c34 ?_
        refine RN_if_eq (pc := 66) (off := 7) (tgt := 73) (by decide +kernel) (by decide) (fun c35 => ?_) (fun c35 => ?_)
        · replace h := it_t c35 h
          refine RN_lconst (pc := 73) (n := 0) (v := 0) (by decide +kernel) (by decide) ?_
          obtain ⟨rfl, rfl⟩ := some_el2 h
          exact RN_lreturn (by decide +kernel) rfl
        · replace h := it_f c35 h
          refine RN_lconst (pc := 69) (n := 1) (v := 1) (by decide +kernel) (by decide) ?_
          refine RN_goto (pc := 70) (off := 4) (tgt := 74) (by decide +kernel) (by decide) ?_
          obtain ⟨rfl, rfl⟩ := some_el2 h
          exact RN_lreturn (by decide +kernel) rfl
      · replace h := it_t c30 h
        refine RN_aload_n (pc := 51) (k := 0) (by decide +kernel) rfl rfl ?_
        obtain ⟨c36, h⟩ := ck_el h
        obtain ⟨c37, h⟩ := ck_el h
        refine RN_getR (pc := 52) (idx := 51) (ci := 11) (k := 20) (by decide +kernel) lf_RX12_51 rfl c36 c37 ?_
        obtain ⟨r38, er38, h⟩ := nm_el h
        refine RN_nmR er38 ?_
        refine RN_iload_n (pc := 55) (k := 1) (by decide +kernel) rfl rfl ?_
        obtain ⟨c39, h⟩ := ck_el h
        refine RN_lald (pc := 56) (by decide +kernel) c39 ?_
        refine RN_goto (pc := 57) (off := 17) (tgt := 74) (by decide +kernel) (by decide) ?_
        obtain ⟨rfl, rfl⟩ := some_el2 h
        exact RN_lreturn (by decide +kernel) rfl
    · replace h := it_t c29 h
      refine RN_aload_n (pc := 37) (k := 0) (by decide +kernel) rfl rfl ?_
      obtain ⟨c40, h⟩ := ck_el h
      obtain ⟨c41, h⟩ := ck_el h
      refine RN_getR (pc := 38) (idx := 47) (ci := 11) (k := 19) (by decide +kernel) lf_RX12_47 rfl c40 c41 ?_
      obtain ⟨r42, er42, h⟩ := nm_el h
      refine RN_nmR er42 ?_
      refine RN_iload_n (pc := 41) (k := 1) (by decide +kernel) rfl rfl ?_
      obtain ⟨c43, h⟩ := ck_el h
      refine RN_lald (pc := 42) (by decide +kernel) c43 ?_
      refine RN_goto (pc := 43) (off := 31) (tgt := 74) (by decide +kernel) (by decide) ?_
      obtain ⟨rfl, rfl⟩ := some_el2 h
      exact RN_lreturn (by decide +kernel) rfl
  · replace h := it_f c28 h
    refine RN_lconst (pc := 31) (n := 0) (v := 0) (by decide +kernel) (by decide) ?_
    obtain ⟨rfl, rfl⟩ := some_el2 h
    exact RN_lreturn (by decide +kernel) rfl
def b_X12_slot_24 (v0 : Nat) (v1 : Int32) (v2 : Int32) (s0 : Nat) (σ : Sg) : Option (Int64 × Sg) :=
  b_X12_slot_25 v0 v1 v2 (0 : Int32) s0 σ
set_option maxRecDepth 20000 in
theorem tb_X12_slot_24 {G : Gl} {xr : Int64} {σr : Sg} (v0 : Nat) (v1 : Int32) (v2 : Int32) (s0 : Nat) (σ : Sg) (h : b_X12_slot_24 v0 v1 v2 s0 σ = some (xr, σr)) : RN G M_X12_slot 24 [some (.ref v0), some (.int v1), some (.int v2)] [.ref s0] σ (.inl (some (.long xr))) σr := by
  unfold b_X12_slot_24 at h
  refine RN_iconst (pc := 24) (n := 0) (v := 0) (by decide +kernel) (by decide) ?_
  exact RN_weak (l := [some (.ref v0), some (.int v1), some (.int v2)]) (And.intro rfl (And.intro rfl (And.intro rfl trivial))) (tb_X12_slot_25 v0 v1 v2 (0 : Int32) s0 σ h)
def f_X12_slot (v0 : Nat) (v1 : Int32) (v2 : Int32) (σ : Sg) : Option (Int64 × Sg) :=
  bp (f_X12_in v1 (0 : Int32) (7 : Int32)) fun x22 =>
  if x22 = 0 then (
    b_X12_slot_24 v0 v1 v2 v0 σ)
  else (
    bp (f_X12_in v2 (0 : Int32) (2 : Int32)) fun x45 =>
    if x45 = 0 then (
      b_X12_slot_24 v0 v1 v2 v0 σ)
    else (
      b_X12_slot_25 v0 v1 v2 (1 : Int32) v0 σ))
set_option maxRecDepth 20000 in
theorem t_X12_slot {G : Gl} {xr : Int64} {σr : Sg} {v0 : Nat} {v1 : Int32} {v2 : Int32} {σ : Sg} (h : f_X12_slot v0 v1 v2 σ = some (xr, σr)) : MT G M_X12_slot [.ref v0, .int v1, .int v2] σ (some (.long xr)) σr := by
  refine MT_of rfl rfl (Nat.le_of_ble_eq_true rfl) ?_
  show RN G M_X12_slot 0 [some (.ref v0), some (.int v1), some (.int v2)] [] σ (.inl (some (.long xr))) σr
  unfold f_X12_slot at h
  refine RN_aload_n (pc := 0) (k := 0) (by decide +kernel) rfl rfl ?_
  refine RN_iload_n (pc := 1) (k := 1) (by decide +kernel) rfl rfl ?_
  refine RN_iconst (pc := 2) (n := 0) (v := 0) (by decide +kernel) (by decide) ?_
  refine RN_bipush (pc := 3) (n := 7) (v := 7) (by decide +kernel) (by decide) ?_
  obtain ⟨x22, f21, h⟩ := bp_el h
  refine RN_callS (M := M_X12_slot) (pc := 5) (idx := 159) (as := [.int v1, .int (0 : Int32), .int (7 : Int32)]) (st := [.ref v0]) (t_X12_in f21) (by decide +kernel) lk_RX12_159 rfl (Nat.le_of_ble_eq_true rfl) ⟨Nat.le_of_ble_eq_true rfl, Nat.le_of_ble_eq_true rfl⟩ rfl ?_
  show RN G M_X12_slot 8 [some (.ref v0), some (.int v1), some (.int v2)] [.int x22, .ref v0] σ _ _
  refine RN_if_eq (pc := 8) (off := 16) (tgt := 24) (by decide +kernel) (by decide) (fun c23 => ?_) (fun c23 => ?_)
  · replace h := it_t c23 h
    exact RN_weak (l := [some (.ref v0), some (.int v1), some (.int v2)]) (And.intro rfl (And.intro rfl (And.intro rfl trivial))) (tb_X12_slot_24 v0 v1 v2 v0 σ h)
  · replace h := it_f c23 h
    refine RN_iload_n (pc := 11) (k := 2) (by decide +kernel) rfl rfl ?_
    refine RN_iconst (pc := 12) (n := 0) (v := 0) (by decide +kernel) (by decide) ?_
    refine RN_iconst (pc := 13) (n := 2) (v := 2) (by decide +kernel) (by decide) ?_
    obtain ⟨x45, f44, h⟩ := bp_el h
    refine RN_callS (M := M_X12_slot) (pc := 14) (idx := 159) (as := [.int v2, .int (0 : Int32), .int (2 : Int32)]) (st := [.ref v0]) (t_X12_in f44) (by decide +kernel) lk_RX12_159 rfl (Nat.le_of_ble_eq_true rfl) ⟨Nat.le_of_ble_eq_true rfl, Nat.le_of_ble_eq_true rfl⟩ rfl ?_
    show RN G M_X12_slot 17 [some (.ref v0), some (.int v1), some (.int v2)] [.int x45, .ref v0] σ _ _
    refine RN_if_eq (pc := 17) (off := 7) (tgt := 24) (by decide +kernel) (by decide) (fun c46 => ?_) (fun c46 => ?_)
    · replace h := it_t c46 h
      exact RN_weak (l := [some (.ref v0), some (.int v1), some (.int v2)]) (And.intro rfl (And.intro rfl (And.intro rfl trivial))) (tb_X12_slot_24 v0 v1 v2 v0 σ h)
    · replace h := it_f c46 h
      refine RN_iconst (pc := 20) (n := 1) (v := 1) (by decide +kernel) (by decide) ?_
      refine RN_goto (pc := 21) (off := 4) (tgt := 25) (by decide +kernel) (by decide) ?_
      exact RN_weak (l := [some (.ref v0), some (.int v1), some (.int v2)]) (And.intro rfl (And.intro rfl (And.intro rfl trivial))) (tb_X12_slot_25 v0 v1 v2 (1 : Int32) v0 σ h)
def f_X12_part (v0 : Nat) (v1 : Int32) (σ : Sg) : Option (Int64 × Sg) :=
  bp (f_X12_in v1 (0 : Int32) (7 : Int32)) fun x12 =>
  ck (okO σ v0 11) <|
  bd (f_X12_isRefused v0 x12 σ) fun x16 σ15 =>
  if x16 = 0 then (
    ck (okO σ15 v0 11) <|
    ck (¬ gR σ15 v0 21 = 0) <|
    nm (gR σ15 v0 21) fun r20 =>
    ck (okA σ15 r20 14 v1) <|
    some (gJ σ15 r20 v1.toNatClampNeg, σ15))
  else (
    some ((0 : Int64), σ15))
set_option maxRecDepth 20000 in
theorem t_X12_part {G : Gl} {xr : Int64} {σr : Sg} {v0 : Nat} {v1 : Int32} {σ : Sg} (h : f_X12_part v0 v1 σ = some (xr, σr)) : MT G M_X12_part [.ref v0, .int v1] σ (some (.long xr)) σr := by
  refine MT_of rfl rfl (Nat.le_of_ble_eq_true rfl) ?_
  show RN G M_X12_part 0 [some (.ref v0), some (.int v1)] [] σ (.inl (some (.long xr))) σr
  unfold f_X12_part at h
  refine RN_aload_n (pc := 0) (k := 0) (by decide +kernel) rfl rfl ?_
  refine RN_iload_n (pc := 1) (k := 1) (by decide +kernel) rfl rfl ?_
  refine RN_iconst (pc := 2) (n := 0) (v := 0) (by decide +kernel) (by decide) ?_
  refine RN_bipush (pc := 3) (n := 7) (v := 7) (by decide +kernel) (by decide) ?_
  obtain ⟨x12, f11, h⟩ := bp_el h
  refine RN_callS (M := M_X12_part) (pc := 5) (idx := 159) (as := [.int v1, .int (0 : Int32), .int (7 : Int32)]) (st := [.ref v0]) (t_X12_in f11) (by decide +kernel) lk_RX12_159 rfl (Nat.le_of_ble_eq_true rfl) ⟨Nat.le_of_ble_eq_true rfl, Nat.le_of_ble_eq_true rfl⟩ rfl ?_
  show RN G M_X12_part 8 [some (.ref v0), some (.int v1)] [.int x12, .ref v0] σ _ _
  obtain ⟨c13, h⟩ := ck_el h
  obtain ⟨x16, σ15, f14, h⟩ := bd_el h
  refine RN_callV (M := M_X12_part) (pc := 8) (idx := 283) (as := [.int x12]) (st := []) (t_X12_isRefused f14) (by decide +kernel) lk_RX12_283 rfl ⟨by decide, fun q hq => by cases hq; rfl⟩ c13 (Nat.le_of_ble_eq_true rfl) ⟨Nat.le_of_ble_eq_true rfl, Nat.le_of_ble_eq_true rfl⟩ rfl ?_
  show RN G M_X12_part 11 [some (.ref v0), some (.int v1)] [.int x16] σ15 _ _
  refine RN_if_eq (pc := 11) (off := 7) (tgt := 18) (by decide +kernel) (by decide) (fun c17 => ?_) (fun c17 => ?_)
  · replace h := it_t c17 h
    refine RN_aload_n (pc := 18) (k := 0) (by decide +kernel) rfl rfl ?_
    obtain ⟨c18, h⟩ := ck_el h
    obtain ⟨c19, h⟩ := ck_el h
    refine RN_getR (pc := 19) (idx := 54) (ci := 11) (k := 21) (by decide +kernel) lf_RX12_54 rfl c18 c19 ?_
    obtain ⟨r20, er20, h⟩ := nm_el h
    refine RN_nmR er20 ?_
    refine RN_iload_n (pc := 22) (k := 1) (by decide +kernel) rfl rfl ?_
    obtain ⟨c21, h⟩ := ck_el h
    refine RN_lald (pc := 23) (by decide +kernel) c21 ?_
    obtain ⟨rfl, rfl⟩ := some_el2 h
    exact RN_lreturn (by decide +kernel) rfl
  · replace h := it_f c17 h
    refine RN_lconst (pc := 14) (n := 0) (v := 0) (by decide +kernel) (by decide) ?_
    refine RN_goto (pc := 15) (off := 9) (tgt := 24) (by decide +kernel) (by decide) ?_
    obtain ⟨rfl, rfl⟩ := some_el2 h
    exact RN_lreturn (by decide +kernel) rfl
def f_X12_got (v0 : Nat) (v1 : Int32) (σ : Sg) : Option (Int64 × Sg) :=
  bp (f_X12_in v1 (0 : Int32) (11 : Int32)) fun x12 =>
  ck (okO σ v0 11) <|
  bd (f_X12_isRefused v0 x12 σ) fun x16 σ15 =>
  if x16 = 0 then (
    ck (okO σ15 v0 11) <|
    ck (¬ gR σ15 v0 22 = 0) <|
    nm (gR σ15 v0 22) fun r20 =>
    ck (okA σ15 r20 14 v1) <|
    some (gJ σ15 r20 v1.toNatClampNeg, σ15))
  else (
    some ((0 : Int64), σ15))
set_option maxRecDepth 20000 in
theorem t_X12_got {G : Gl} {xr : Int64} {σr : Sg} {v0 : Nat} {v1 : Int32} {σ : Sg} (h : f_X12_got v0 v1 σ = some (xr, σr)) : MT G M_X12_got [.ref v0, .int v1] σ (some (.long xr)) σr := by
  refine MT_of rfl rfl (Nat.le_of_ble_eq_true rfl) ?_
  show RN G M_X12_got 0 [some (.ref v0), some (.int v1)] [] σ (.inl (some (.long xr))) σr
  unfold f_X12_got at h
  refine RN_aload_n (pc := 0) (k := 0) (by decide +kernel) rfl rfl ?_
  refine RN_iload_n (pc := 1) (k := 1) (by decide +kernel) rfl rfl ?_
  refine RN_iconst (pc := 2) (n := 0) (v := 0) (by decide +kernel) (by decide) ?_
  refine RN_bipush (pc := 3) (n := 11) (v := 11) (by decide +kernel) (by decide) ?_
  obtain ⟨x12, f11, h⟩ := bp_el h
  refine RN_callS (M := M_X12_got) (pc := 5) (idx := 159) (as := [.int v1, .int (0 : Int32), .int (11 : Int32)]) (st := [.ref v0]) (t_X12_in f11) (by decide +kernel) lk_RX12_159 rfl (Nat.le_of_ble_eq_true rfl) ⟨Nat.le_of_ble_eq_true rfl, Nat.le_of_ble_eq_true rfl⟩ rfl ?_
  show RN G M_X12_got 8 [some (.ref v0), some (.int v1)] [.int x12, .ref v0] σ _ _
  obtain ⟨c13, h⟩ := ck_el h
  obtain ⟨x16, σ15, f14, h⟩ := bd_el h
  refine RN_callV (M := M_X12_got) (pc := 8) (idx := 283) (as := [.int x12]) (st := []) (t_X12_isRefused f14) (by decide +kernel) lk_RX12_283 rfl ⟨by decide, fun q hq => by cases hq; rfl⟩ c13 (Nat.le_of_ble_eq_true rfl) ⟨Nat.le_of_ble_eq_true rfl, Nat.le_of_ble_eq_true rfl⟩ rfl ?_
  show RN G M_X12_got 11 [some (.ref v0), some (.int v1)] [.int x16] σ15 _ _
  refine RN_if_eq (pc := 11) (off := 7) (tgt := 18) (by decide +kernel) (by decide) (fun c17 => ?_) (fun c17 => ?_)
  · replace h := it_t c17 h
    refine RN_aload_n (pc := 18) (k := 0) (by decide +kernel) rfl rfl ?_
    obtain ⟨c18, h⟩ := ck_el h
    obtain ⟨c19, h⟩ := ck_el h
    refine RN_getR (pc := 19) (idx := 57) (ci := 11) (k := 22) (by decide +kernel) lf_RX12_57 rfl c18 c19 ?_
    obtain ⟨r20, er20, h⟩ := nm_el h
    refine RN_nmR er20 ?_
    refine RN_iload_n (pc := 22) (k := 1) (by decide +kernel) rfl rfl ?_
    obtain ⟨c21, h⟩ := ck_el h
    refine RN_lald (pc := 23) (by decide +kernel) c21 ?_
    obtain ⟨rfl, rfl⟩ := some_el2 h
    exact RN_lreturn (by decide +kernel) rfl
  · replace h := it_f c17 h
    refine RN_lconst (pc := 14) (n := 0) (v := 0) (by decide +kernel) (by decide) ?_
    refine RN_goto (pc := 15) (off := 9) (tgt := 24) (by decide +kernel) (by decide) ?_
    obtain ⟨rfl, rfl⟩ := some_el2 h
    exact RN_lreturn (by decide +kernel) rfl
def b_X12_carried_23 (v0 : Nat) (v1 : Int32) (v2 : Int32) (s0 : Int32) (s1 : Nat) (σ : Sg) : Option (Int64 × Sg) :=
  ck (okO σ s1 11) <|
  bd (f_X12_isRefused s1 s0 σ) fun x25 σ24 =>
  if x25 = 0 then (
    if v2 = 0 then (
      ck (okO σ24 v0 11) <|
      ck (¬ gR σ24 v0 24 = 0) <|
      nm (gR σ24 v0 24) fun r34 =>
      ck (okA σ24 r34 14 v1) <|
      some (gJ σ24 r34 v1.toNatClampNeg, σ24))
    else (
      ck (okO σ24 v0 11) <|
      ck (¬ gR σ24 v0 25 = 0) <|
      nm (gR σ24 v0 25) fun r30 =>
      ck (okA σ24 r30 14 v1) <|
      some (gJ σ24 r30 v1.toNatClampNeg, σ24)))
  else (
    some ((0 : Int64), σ24))
set_option maxRecDepth 20000 in
theorem tb_X12_carried_23 {G : Gl} {xr : Int64} {σr : Sg} (v0 : Nat) (v1 : Int32) (v2 : Int32) (s0 : Int32) (s1 : Nat) (σ : Sg) (h : b_X12_carried_23 v0 v1 v2 s0 s1 σ = some (xr, σr)) : RN G M_X12_carried 23 [some (.ref v0), some (.int v1), some (.int v2)] [.int s0, .ref s1] σ (.inl (some (.long xr))) σr := by
  unfold b_X12_carried_23 at h
  obtain ⟨c22, h⟩ := ck_el h
  obtain ⟨x25, σ24, f23, h⟩ := bd_el h
  refine RN_callV (M := M_X12_carried) (pc := 23) (idx := 283) (as := [.int s0]) (st := []) (t_X12_isRefused f23) (by decide +kernel) lk_RX12_283 rfl ⟨by decide, fun q hq => by cases hq; rfl⟩ c22 (Nat.le_of_ble_eq_true rfl) ⟨Nat.le_of_ble_eq_true rfl, Nat.le_of_ble_eq_true rfl⟩ rfl ?_
  show RN G M_X12_carried 26 [some (.ref v0), some (.int v1), some (.int v2)] [.int x25] σ24 _ _
  refine RN_if_eq (pc := 26) (off := 5) (tgt := 31) (by decide +kernel) (by decide) (fun c26 => ?_) (fun c26 => ?_)
  · replace h := it_t c26 h
    refine RN_iload_n (pc := 31) (k := 2) (by decide +kernel) rfl rfl ?_
    refine RN_if_ne (pc := 32) (off := 12) (tgt := 44) (by decide +kernel) (by decide) (fun c27 => ?_) (fun c27 => ?_)
    · replace h := it_f c27 h
      refine RN_aload_n (pc := 44) (k := 0) (by decide +kernel) rfl rfl ?_
      obtain ⟨c28, h⟩ := ck_el h
      obtain ⟨c29, h⟩ := ck_el h
      refine RN_getR (pc := 45) (idx := 66) (ci := 11) (k := 25) (by decide +kernel) lf_RX12_66 rfl c28 c29 ?_
      obtain ⟨r30, er30, h⟩ := nm_el h
      refine RN_nmR er30 ?_
      refine RN_iload_n (pc := 48) (k := 1) (by decide +kernel) rfl rfl ?_
      obtain ⟨c31, h⟩ := ck_el h
      refine RN_lald (pc := 49) (by decide +kernel) c31 ?_
      obtain ⟨rfl, rfl⟩ := some_el2 h
      exact RN_lreturn (by decide +kernel) rfl
    · replace h := it_t c27 h
      refine RN_aload_n (pc := 35) (k := 0) (by decide +kernel) rfl rfl ?_
      obtain ⟨c32, h⟩ := ck_el h
      obtain ⟨c33, h⟩ := ck_el h
      refine RN_getR (pc := 36) (idx := 63) (ci := 11) (k := 24) (by decide +kernel) lf_RX12_63 rfl c32 c33 ?_
      obtain ⟨r34, er34, h⟩ := nm_el h
      refine RN_nmR er34 ?_
      refine RN_iload_n (pc := 39) (k := 1) (by decide +kernel) rfl rfl ?_
      obtain ⟨c35, h⟩ := ck_el h
      refine RN_lald (pc := 40) (by decide +kernel) c35 ?_
      refine RN_goto (pc := 41) (off := 9) (tgt := 50) (by decide +kernel) (by decide) ?_
      obtain ⟨rfl, rfl⟩ := some_el2 h
      exact RN_lreturn (by decide +kernel) rfl
  · replace h := it_f c26 h
    refine RN_lconst (pc := 29) (n := 0) (v := 0) (by decide +kernel) (by decide) ?_
    obtain ⟨rfl, rfl⟩ := some_el2 h
    exact RN_lreturn (by decide +kernel) rfl
def b_X12_carried_22 (v0 : Nat) (v1 : Int32) (v2 : Int32) (s0 : Nat) (σ : Sg) : Option (Int64 × Sg) :=
  b_X12_carried_23 v0 v1 v2 (0 : Int32) s0 σ
set_option maxRecDepth 20000 in
theorem tb_X12_carried_22 {G : Gl} {xr : Int64} {σr : Sg} (v0 : Nat) (v1 : Int32) (v2 : Int32) (s0 : Nat) (σ : Sg) (h : b_X12_carried_22 v0 v1 v2 s0 σ = some (xr, σr)) : RN G M_X12_carried 22 [some (.ref v0), some (.int v1), some (.int v2)] [.ref s0] σ (.inl (some (.long xr))) σr := by
  unfold b_X12_carried_22 at h
  refine RN_iconst (pc := 22) (n := 0) (v := 0) (by decide +kernel) (by decide) ?_
  exact RN_weak (l := [some (.ref v0), some (.int v1), some (.int v2)]) (And.intro rfl (And.intro rfl (And.intro rfl trivial))) (tb_X12_carried_23 v0 v1 v2 (0 : Int32) s0 σ h)
def f_X12_carried (v0 : Nat) (v1 : Int32) (v2 : Int32) (σ : Sg) : Option (Int64 × Sg) :=
  ck (okO σ v0 11) <|
  bp (f_X12_isProgram v0 v1 σ) fun x20 =>
  if x20 = 0 then (
    b_X12_carried_22 v0 v1 v2 v0 σ)
  else (
    bp (f_X12_in v2 (0 : Int32) (1 : Int32)) fun x37 =>
    if x37 = 0 then (
      b_X12_carried_22 v0 v1 v2 v0 σ)
    else (
      b_X12_carried_23 v0 v1 v2 (1 : Int32) v0 σ))
set_option maxRecDepth 20000 in
theorem t_X12_carried {G : Gl} {xr : Int64} {σr : Sg} {v0 : Nat} {v1 : Int32} {v2 : Int32} {σ : Sg} (h : f_X12_carried v0 v1 v2 σ = some (xr, σr)) : MT G M_X12_carried [.ref v0, .int v1, .int v2] σ (some (.long xr)) σr := by
  refine MT_of rfl rfl (Nat.le_of_ble_eq_true rfl) ?_
  show RN G M_X12_carried 0 [some (.ref v0), some (.int v1), some (.int v2)] [] σ (.inl (some (.long xr))) σr
  unfold f_X12_carried at h
  refine RN_aload_n (pc := 0) (k := 0) (by decide +kernel) rfl rfl ?_
  refine RN_aload_n (pc := 1) (k := 0) (by decide +kernel) rfl rfl ?_
  refine RN_iload_n (pc := 2) (k := 1) (by decide +kernel) rfl rfl ?_
  obtain ⟨c18, h⟩ := ck_el h
  obtain ⟨x20, f19, h⟩ := bp_el h
  refine RN_callV (M := M_X12_carried) (pc := 3) (idx := 172) (as := [.int v1]) (st := [.ref v0]) (t_X12_isProgram f19) (by decide +kernel) lk_RX12_172 rfl ⟨by decide, fun q hq => by cases hq; rfl⟩ c18 (Nat.le_of_ble_eq_true rfl) ⟨Nat.le_of_ble_eq_true rfl, Nat.le_of_ble_eq_true rfl⟩ rfl ?_
  show RN G M_X12_carried 6 [some (.ref v0), some (.int v1), some (.int v2)] [.int x20, .ref v0] σ _ _
  refine RN_if_eq (pc := 6) (off := 16) (tgt := 22) (by decide +kernel) (by decide) (fun c21 => ?_) (fun c21 => ?_)
  · replace h := it_t c21 h
    exact RN_weak (l := [some (.ref v0), some (.int v1), some (.int v2)]) (And.intro rfl (And.intro rfl (And.intro rfl trivial))) (tb_X12_carried_22 v0 v1 v2 v0 σ h)
  · replace h := it_f c21 h
    refine RN_iload_n (pc := 9) (k := 2) (by decide +kernel) rfl rfl ?_
    refine RN_iconst (pc := 10) (n := 0) (v := 0) (by decide +kernel) (by decide) ?_
    refine RN_iconst (pc := 11) (n := 1) (v := 1) (by decide +kernel) (by decide) ?_
    obtain ⟨x37, f36, h⟩ := bp_el h
    refine RN_callS (M := M_X12_carried) (pc := 12) (idx := 159) (as := [.int v2, .int (0 : Int32), .int (1 : Int32)]) (st := [.ref v0]) (t_X12_in f36) (by decide +kernel) lk_RX12_159 rfl (Nat.le_of_ble_eq_true rfl) ⟨Nat.le_of_ble_eq_true rfl, Nat.le_of_ble_eq_true rfl⟩ rfl ?_
    show RN G M_X12_carried 15 [some (.ref v0), some (.int v1), some (.int v2)] [.int x37, .ref v0] σ _ _
    refine RN_if_eq (pc := 15) (off := 7) (tgt := 22) (by decide +kernel) (by decide) (fun c38 => ?_) (fun c38 => ?_)
    · replace h := it_t c38 h
      exact RN_weak (l := [some (.ref v0), some (.int v1), some (.int v2)]) (And.intro rfl (And.intro rfl (And.intro rfl trivial))) (tb_X12_carried_22 v0 v1 v2 v0 σ h)
    · replace h := it_f c38 h
      refine RN_iconst (pc := 18) (n := 1) (v := 1) (by decide +kernel) (by decide) ?_
      refine RN_goto (pc := 19) (off := 4) (tgt := 23) (by decide +kernel) (by decide) ?_
      exact RN_weak (l := [some (.ref v0), some (.int v1), some (.int v2)]) (And.intro rfl (And.intro rfl (And.intro rfl trivial))) (tb_X12_carried_23 v0 v1 v2 (1 : Int32) v0 σ h)
def b_X12_tries_29 (n : Nat) (v0 : Nat) (v1 : Int32) (σ : Sg) : Option (Int32 × Sg) :=
  ck (okO σ v0 11) <|
  ck (¬ gR σ v0 24 = 0) <|
  nm (gR σ v0 24) fun r30 =>
  ck (okW σ r30 14 ((4 : Int32) + v1)) <|
  nm (pJ σ r30 ((4 : Int32) + v1).toNatClampNeg (0 : Int64)) fun σ32 =>
  ck (okO σ32 v0 11) <|
  ck (¬ gR σ32 v0 25 = 0) <|
  nm (gR σ32 v0 25) fun r35 =>
  ck (okW σ32 r35 14 ((4 : Int32) + v1)) <|
  nm (pJ σ32 r35 ((4 : Int32) + v1).toNatClampNeg (1 : Int64)) fun σ37 =>
  ck (okO σ37 v0 11) <|
  bd (f_X12_runs n v0 v1 σ37) fun x41 σ40 =>
  ck (okO σ40 v0 11) <|
  nm (pI σ40 v0 16 (0 : Int32)) fun σ43 =>
  if x41 = (-2 : Int32) then (
    some ((0 : Int32), σ43))
  else (
    some ((1 : Int32), σ43))
set_option maxRecDepth 20000 in
theorem tb_X12_tries_29 {G : Gl} {xr : Int32} {σr : Sg} (n : Nat) (v0 : Nat) (v1 : Int32) (σ : Sg) (h : b_X12_tries_29 n v0 v1 σ = some (xr, σr)) : RN G M_X12_tries 29 [some (.ref v0), some (.int v1)] [] σ (.inl (some (.int xr))) σr := by
  unfold b_X12_tries_29 at h
  refine RN_aload_n (pc := 29) (k := 0) (by decide +kernel) rfl rfl ?_
  obtain ⟨c28, h⟩ := ck_el h
  obtain ⟨c29, h⟩ := ck_el h
  refine RN_getR (pc := 30) (idx := 63) (ci := 11) (k := 24) (by decide +kernel) lf_RX12_63 rfl c28 c29 ?_
  obtain ⟨r30, er30, h⟩ := nm_el h
  refine RN_nmR er30 ?_
  refine RN_iconst (pc := 33) (n := 4) (v := 4) (by decide +kernel) (by decide) ?_
  refine RN_iload_n (pc := 34) (k := 1) (by decide +kernel) rfl rfl ?_
  refine RN_iadd (pc := 35) (by decide +kernel) ?_
  refine RN_lconst (pc := 36) (n := 0) (v := 0) (by decide +kernel) (by decide) ?_
  obtain ⟨c31, h⟩ := ck_el h
  refine RN_last (pc := 37) (by decide +kernel) c31 ?_
  obtain ⟨σ32, eσ32, h⟩ := nm_el h
  refine RN_nmS eσ32 ?_
  refine RN_aload_n (pc := 38) (k := 0) (by decide +kernel) rfl rfl ?_
  obtain ⟨c33, h⟩ := ck_el h
  obtain ⟨c34, h⟩ := ck_el h
  refine RN_getR (pc := 39) (idx := 66) (ci := 11) (k := 25) (by decide +kernel) lf_RX12_66 rfl c33 c34 ?_
  obtain ⟨r35, er35, h⟩ := nm_el h
  refine RN_nmR er35 ?_
  refine RN_iconst (pc := 42) (n := 4) (v := 4) (by decide +kernel) (by decide) ?_
  refine RN_iload_n (pc := 43) (k := 1) (by decide +kernel) rfl rfl ?_
  refine RN_iadd (pc := 44) (by decide +kernel) ?_
  refine RN_lconst (pc := 45) (n := 1) (v := 1) (by decide +kernel) (by decide) ?_
  obtain ⟨c36, h⟩ := ck_el h
  refine RN_last (pc := 46) (by decide +kernel) c36 ?_
  obtain ⟨σ37, eσ37, h⟩ := nm_el h
  refine RN_nmS eσ37 ?_
  refine RN_aload_n (pc := 47) (k := 0) (by decide +kernel) rfl rfl ?_
  refine RN_iload_n (pc := 48) (k := 1) (by decide +kernel) rfl rfl ?_
  obtain ⟨c38, h⟩ := ck_el h
  obtain ⟨x41, σ40, f39, h⟩ := bd_el h
  refine RN_callV (M := M_X12_tries) (pc := 49) (idx := 277) (as := [.int v1]) (st := []) (t_X12_runs f39) (by decide +kernel) lk_RX12_277 rfl ⟨by decide, fun q hq => by cases hq; rfl⟩ c38 (Nat.le_of_ble_eq_true rfl) ⟨Nat.le_of_ble_eq_true rfl, Nat.le_of_ble_eq_true rfl⟩ rfl ?_
  show RN G M_X12_tries 52 [some (.ref v0), some (.int v1)] [.int x41] σ40 _ _
  refine RN_istore_n (pc := 52) (k := 2) (ls2 := [some (.ref v0), some (.int v1), some (.int x41)]) (by decide +kernel) rfl (by decide) rfl ?_
  refine RN_aload_n (pc := 53) (k := 0) (by decide +kernel) rfl rfl ?_
  refine RN_iconst (pc := 54) (n := 0) (v := 0) (by decide +kernel) (by decide) ?_
  obtain ⟨c42, h⟩ := ck_el h
  refine RN_putI (pc := 55) (idx := 146) (ci := 11) (k := 16) (by decide +kernel) lf_RX12_146 rfl (fun q hq => by cases hq; exact Or.inl rfl) c42 ?_
  obtain ⟨σ43, eσ43, h⟩ := nm_el h
  refine RN_nmS eσ43 ?_
  refine RN_iload_n (pc := 58) (k := 2) (by decide +kernel) rfl rfl ?_
  refine RN_bipush (pc := 59) (n := -2) (v := -2) (by decide +kernel) (by decide) ?_
  refine RN_icmp_eq (pc := 61) (off := 7) (tgt := 68) (by decide +kernel) (by decide) (fun c44 => ?_) (fun c44 => ?_)
  · replace h := it_t c44 h
    refine RN_iconst (pc := 68) (n := 0) (v := 0) (by decide +kernel) (by decide) ?_
    obtain ⟨rfl, rfl⟩ := some_el2 h
    exact RN_zreturn (by decide +kernel) rfl (Or.inl rfl)
  · replace h := it_f c44 h
    refine RN_iconst (pc := 64) (n := 1) (v := 1) (by decide +kernel) (by decide) ?_
    refine RN_goto (pc := 65) (off := 4) (tgt := 69) (by decide +kernel) (by decide) ?_
    obtain ⟨rfl, rfl⟩ := some_el2 h
    exact RN_zreturn (by decide +kernel) rfl (Or.inr rfl)
def b_X12_tries_7 : Nat → Nat → Int32 → Int32 → Sg → Option (Int32 × Sg)
  | 0, _, _, _, _ => none
  | n + 1, v0, v1, v2, σ =>
  if (8 : Int32) ≤ v2 then (
    b_X12_tries_29 n v0 v1 σ)
  else (
    ck (okO σ v0 11) <|
    ck (¬ gR σ v0 23 = 0) <|
    nm (gR σ v0 23) fun r47 =>
    ck (okW σ r47 14 ((8 : Int32) + v2)) <|
    nm (pJ σ r47 ((8 : Int32) + v2).toNatClampNeg (0 : Int64)) fun σ49 =>
    nm (v2 + (1 : Int32)) fun x50 =>
    b_X12_tries_7 n v0 v1 x50 σ49)
set_option maxRecDepth 20000 in
theorem tb_X12_tries_7 {G : Gl} {xr : Int32} {σr : Sg} (v0 : Nat) (v1 : Int32) : ∀ (n : Nat) (v2 : Int32) (σ : Sg), b_X12_tries_7 n v0 v1 v2 σ = some (xr, σr) → RN G M_X12_tries 7 [some (.ref v0), some (.int v1), some (.int v2)] [] σ (.inl (some (.int xr))) σr := by
  intro n
  induction n with
  | zero =>
    intro v2 σ h
    exact none_el h
  | succ n ih =>
    intro v2 σ h
    rw [b_X12_tries_7] at h
    refine RN_iload_n (pc := 7) (k := 2) (by decide +kernel) rfl rfl ?_
    refine RN_bipush (pc := 8) (n := 8) (v := 8) (by decide +kernel) (by decide) ?_
    refine RN_icmp_ge (pc := 10) (off := 19) (tgt := 29) (by decide +kernel) (by decide) (fun c27 => ?_) (fun c27 => ?_)
    · replace h := it_t c27 h
      exact RN_weak (l := [some (.ref v0), some (.int v1)]) (And.intro rfl (And.intro rfl trivial)) (tb_X12_tries_29 n v0 v1 σ h)
    · replace h := it_f c27 h
      refine RN_aload_n (pc := 13) (k := 0) (by decide +kernel) rfl rfl ?_
      obtain ⟨c45, h⟩ := ck_el h
      obtain ⟨c46, h⟩ := ck_el h
      refine RN_getR (pc := 14) (idx := 60) (ci := 11) (k := 23) (by decide +kernel) lf_RX12_60 rfl c45 c46 ?_
      obtain ⟨r47, er47, h⟩ := nm_el h
      refine RN_nmR er47 ?_
      refine RN_bipush (pc := 17) (n := 8) (v := 8) (by decide +kernel) (by decide) ?_
      refine RN_iload_n (pc := 19) (k := 2) (by decide +kernel) rfl rfl ?_
      refine RN_iadd (pc := 20) (by decide +kernel) ?_
      refine RN_lconst (pc := 21) (n := 0) (v := 0) (by decide +kernel) (by decide) ?_
      obtain ⟨c48, h⟩ := ck_el h
      refine RN_last (pc := 22) (by decide +kernel) c48 ?_
      obtain ⟨σ49, eσ49, h⟩ := nm_el h
      refine RN_nmS eσ49 ?_
      obtain ⟨x50, ex50, h⟩ := nm_el h
      refine RN_iinc (pc := 23) (i := 2) (n := 1) (v := x50) (ls2 := [some (.ref v0), some (.int v1), some (.int x50)]) (by decide +kernel) rfl (by rw [ex50]; rfl) (by decide) rfl ?_
      refine RN_goto (pc := 26) (off := -19) (tgt := 7) (by decide +kernel) (by decide) ?_
      exact RN_weak (l := [some (.ref v0), some (.int v1), some (.int x50)]) (And.intro rfl (And.intro rfl (And.intro rfl trivial))) (ih x50 σ49 h)
def f_X12_tries (n : Nat) (v0 : Nat) (v1 : Int32) (σ : Sg) : Option (Int32 × Sg) :=
  ck (okO σ v0 11) <|
  nm (pI σ v0 16 (1 : Int32)) fun σ26 =>
  b_X12_tries_7 n v0 v1 (0 : Int32) σ26
set_option maxRecDepth 20000 in
theorem t_X12_tries {G : Gl} {xr : Int32} {σr : Sg} {n : Nat} {v0 : Nat} {v1 : Int32} {σ : Sg} (h : f_X12_tries n v0 v1 σ = some (xr, σr)) : MT G M_X12_tries [.ref v0, .int v1] σ (some (.int xr)) σr := by
  refine MT_of rfl rfl (Nat.le_of_ble_eq_true rfl) ?_
  show RN G M_X12_tries 0 [some (.ref v0), some (.int v1)] [] σ (.inl (some (.int xr))) σr
  unfold f_X12_tries at h
  refine RN_aload_n (pc := 0) (k := 0) (by decide +kernel) rfl rfl ?_
  refine RN_iconst (pc := 1) (n := 1) (v := 1) (by decide +kernel) (by decide) ?_
  obtain ⟨c25, h⟩ := ck_el h
  refine RN_putI (pc := 2) (idx := 146) (ci := 11) (k := 16) (by decide +kernel) lf_RX12_146 rfl (fun q hq => by cases hq; exact Or.inl rfl) c25 ?_
  obtain ⟨σ26, eσ26, h⟩ := nm_el h
  refine RN_nmS eσ26 ?_
  refine RN_iconst (pc := 5) (n := 0) (v := 0) (by decide +kernel) (by decide) ?_
  refine RN_istore_n (pc := 6) (k := 2) (ls2 := [some (.ref v0), some (.int v1), some (.int (0 : Int32))]) (by decide +kernel) rfl (by decide) rfl ?_
  exact RN_weak (l := [some (.ref v0), some (.int v1), some (.int (0 : Int32))]) (And.intro rfl (And.intro rfl (And.intro rfl trivial))) (tb_X12_tries_7 v0 v1 n (0 : Int32) σ26 h)
def f_X12_triesAmount (n : Nat) (v0 : Nat) (v1 : Int32) (v2 : Int32) (σ : Sg) : Option (Int32 × Sg) :=
  ck (okO σ v0 11) <|
  nm (pI σ v0 17 (1 : Int32)) fun σ13 =>
  ck (okO σ13 v0 11) <|
  ck (¬ gR σ13 v0 18 = 0) <|
  nm (gR σ13 v0 18) fun r16 =>
  ck (okW σ13 r16 13 (0 : Int32)) <|
  nm (pI σ13 r16 (0 : Int32).toNatClampNeg v2) fun σ18 =>
  ck (okO σ18 v0 11) <|
  bd (f_X12_tries n v0 v1 σ18) fun x22 σ21 =>
  ck (x22 = 0 ∨ x22 = 1) <|
  some (x22, σ21)
set_option maxRecDepth 20000 in
theorem t_X12_triesAmount {G : Gl} {xr : Int32} {σr : Sg} {n : Nat} {v0 : Nat} {v1 : Int32} {v2 : Int32} {σ : Sg} (h : f_X12_triesAmount n v0 v1 v2 σ = some (xr, σr)) : MT G M_X12_triesAmount [.ref v0, .int v1, .int v2] σ (some (.int xr)) σr := by
  refine MT_of rfl rfl (Nat.le_of_ble_eq_true rfl) ?_
  show RN G M_X12_triesAmount 0 [some (.ref v0), some (.int v1), some (.int v2)] [] σ (.inl (some (.int xr))) σr
  unfold f_X12_triesAmount at h
  refine RN_aload_n (pc := 0) (k := 0) (by decide +kernel) rfl rfl ?_
  refine RN_iconst (pc := 1) (n := 1) (v := 1) (by decide +kernel) (by decide) ?_
  obtain ⟨c12, h⟩ := ck_el h
  refine RN_putI (pc := 2) (idx := 209) (ci := 11) (k := 17) (by decide +kernel) lf_RX12_209 rfl (fun q hq => by cases hq; exact Or.inl rfl) c12 ?_
  obtain ⟨σ13, eσ13, h⟩ := nm_el h
  refine RN_nmS eσ13 ?_
  refine RN_aload_n (pc := 5) (k := 0) (by decide +kernel) rfl rfl ?_
  obtain ⟨c14, h⟩ := ck_el h
  obtain ⟨c15, h⟩ := ck_el h
  refine RN_getR (pc := 6) (idx := 44) (ci := 11) (k := 18) (by decide +kernel) lf_RX12_44 rfl c14 c15 ?_
  obtain ⟨r16, er16, h⟩ := nm_el h
  refine RN_nmR er16 ?_
  refine RN_iconst (pc := 9) (n := 0) (v := 0) (by decide +kernel) (by decide) ?_
  refine RN_iload_n (pc := 10) (k := 2) (by decide +kernel) rfl rfl ?_
  obtain ⟨c17, h⟩ := ck_el h
  refine RN_iast (pc := 11) (by decide +kernel) c17 ?_
  obtain ⟨σ18, eσ18, h⟩ := nm_el h
  refine RN_nmS eσ18 ?_
  refine RN_aload_n (pc := 12) (k := 0) (by decide +kernel) rfl rfl ?_
  refine RN_iload_n (pc := 13) (k := 1) (by decide +kernel) rfl rfl ?_
  obtain ⟨c19, h⟩ := ck_el h
  obtain ⟨x22, σ21, f20, h⟩ := bd_el h
  refine RN_callV (M := M_X12_triesAmount) (pc := 14) (idx := 287) (as := [.int v1]) (st := []) (t_X12_tries f20) (by decide +kernel) lk_RX12_287 rfl ⟨by decide, fun q hq => by cases hq; rfl⟩ c19 (Nat.le_of_ble_eq_true rfl) ⟨Nat.le_of_ble_eq_true rfl, Nat.le_of_ble_eq_true rfl⟩ rfl ?_
  show RN G M_X12_triesAmount 17 [some (.ref v0), some (.int v1), some (.int v2)] [.int x22] σ21 _ _
  obtain ⟨c23, h⟩ := ck_el h
  obtain ⟨rfl, rfl⟩ := some_el2 h
  exact RN_zreturn (by decide +kernel) rfl c23
def b_X12_notes_2 : Nat → Nat → Int32 → Sg → Option Sg
  | 0, _, _, _ => none
  | n + 1, v0, v1, σ =>
  if (8 : Int32) ≤ v1 then (
    some σ)
  else (
    ck (okO σ v0 11) <|
    ck (¬ gR σ v0 42 = 0) <|
    nm (gR σ v0 42) fun r13 =>
    ck (¬ gR σ v0 23 = 0) <|
    nm (gR σ v0 23) fun r15 =>
    ck (okA σ r15 14 ((8 : Int32) + v1)) <|
    ck (okW σ r13 14 v1) <|
    nm (pJ σ r13 v1.toNatClampNeg (gJ σ r15 ((8 : Int32) + v1).toNatClampNeg)) fun σ18 =>
    nm (v1 + (1 : Int32)) fun x19 =>
    b_X12_notes_2 n v0 x19 σ18)
set_option maxRecDepth 20000 in
theorem tb_X12_notes_2 {G : Gl} {σr : Sg} (v0 : Nat) : ∀ (n : Nat) (v1 : Int32) (σ : Sg), b_X12_notes_2 n v0 v1 σ = some σr → RN G M_X12_notes 2 [some (.ref v0), some (.int v1)] [] σ (.inl none) σr := by
  intro n
  induction n with
  | zero =>
    intro v1 σ h
    exact none_el h
  | succ n ih =>
    intro v1 σ h
    rw [b_X12_notes_2] at h
    refine RN_iload_n (pc := 2) (k := 1) (by decide +kernel) rfl rfl ?_
    refine RN_bipush (pc := 3) (n := 8) (v := 8) (by decide +kernel) (by decide) ?_
    refine RN_icmp_ge (pc := 5) (off := 24) (tgt := 29) (by decide +kernel) (by decide) (fun c10 => ?_) (fun c10 => ?_)
    · replace h := it_t c10 h
      obtain rfl := some_el h
      exact RN_return (by decide +kernel) rfl
    · replace h := it_f c10 h
      refine RN_aload_n (pc := 8) (k := 0) (by decide +kernel) rfl rfl ?_
      obtain ⟨c11, h⟩ := ck_el h
      obtain ⟨c12, h⟩ := ck_el h
      refine RN_getR (pc := 9) (idx := 100) (ci := 11) (k := 42) (by decide +kernel) lf_RX12_100 rfl c11 c12 ?_
      obtain ⟨r13, er13, h⟩ := nm_el h
      refine RN_nmR er13 ?_
      refine RN_iload_n (pc := 12) (k := 1) (by decide +kernel) rfl rfl ?_
      refine RN_aload_n (pc := 13) (k := 0) (by decide +kernel) rfl rfl ?_
      obtain ⟨c14, h⟩ := ck_el h
      refine RN_getR (pc := 14) (idx := 60) (ci := 11) (k := 23) (by decide +kernel) lf_RX12_60 rfl c11 c14 ?_
      obtain ⟨r15, er15, h⟩ := nm_el h
      refine RN_nmR er15 ?_
      refine RN_bipush (pc := 17) (n := 8) (v := 8) (by decide +kernel) (by decide) ?_
      refine RN_iload_n (pc := 19) (k := 1) (by decide +kernel) rfl rfl ?_
      refine RN_iadd (pc := 20) (by decide +kernel) ?_
      obtain ⟨c16, h⟩ := ck_el h
      refine RN_lald (pc := 21) (by decide +kernel) c16 ?_
      obtain ⟨c17, h⟩ := ck_el h
      refine RN_last (pc := 22) (by decide +kernel) c17 ?_
      obtain ⟨σ18, eσ18, h⟩ := nm_el h
      refine RN_nmS eσ18 ?_
      obtain ⟨x19, ex19, h⟩ := nm_el h
      refine RN_iinc (pc := 23) (i := 1) (n := 1) (v := x19) (ls2 := [some (.ref v0), some (.int x19)]) (by decide +kernel) rfl (by rw [ex19]; rfl) (by decide) rfl ?_
      refine RN_goto (pc := 26) (off := -24) (tgt := 2) (by decide +kernel) (by decide) ?_
      exact RN_weak (l := [some (.ref v0), some (.int x19)]) (And.intro rfl (And.intro rfl trivial)) (ih x19 σ18 h)
def f_X12_notes (n : Nat) (v0 : Nat) (σ : Sg) : Option Sg :=
  b_X12_notes_2 n v0 (0 : Int32) σ
set_option maxRecDepth 20000 in
theorem t_X12_notes {G : Gl} {σr : Sg} {n : Nat} {v0 : Nat} {σ : Sg} (h : f_X12_notes n v0 σ = some σr) : MT G M_X12_notes [.ref v0] σ none σr := by
  refine MT_of rfl rfl (Nat.le_of_ble_eq_true rfl) ?_
  show RN G M_X12_notes 0 [some (.ref v0)] [] σ (.inl none) σr
  unfold f_X12_notes at h
  refine RN_iconst (pc := 0) (n := 0) (v := 0) (by decide +kernel) (by decide) ?_
  refine RN_istore_n (pc := 1) (k := 1) (ls2 := [some (.ref v0), some (.int (0 : Int32))]) (by decide +kernel) rfl (by decide) rfl ?_
  exact RN_weak (l := [some (.ref v0), some (.int (0 : Int32))]) (And.intro rfl (And.intro rfl trivial)) (tb_X12_notes_2 v0 n (0 : Int32) σ h)
def b_X12_differs_44 (k5 : Int32 → Int32 → Option Int32) (n : Nat) (v0 : Nat) (v1 : Int64) (v4 : Int32) (s0 : Int32) (σ : Sg) : Option Int32 :=
  nm (v4 + (1 : Int32)) fun x12 =>
  k5 s0 x12
set_option maxRecDepth 20000 in
theorem tb_X12_differs_44 {G : Gl} {xr : Int32} (n : Nat) (v0 : Nat) (v1 : Int64) (v4 : Int32) (s0 : Int32) (σ : Sg) (k5 : Int32 → Int32 → Option Int32) (hk5 : ∀ (c3 : Int32) (c4 : Int32), k5 c3 c4 = some xr → RN G M_X12_differs 5 [some (.ref v0), some (.long v1), none, some (.int c3), some (.int c4)] [] σ (.inl (some (.int xr))) σ) (h : b_X12_differs_44 k5 n v0 v1 v4 s0 σ = some xr) : RN G M_X12_differs 44 [some (.ref v0), some (.long v1), none, none, some (.int v4)] [.int s0] σ (.inl (some (.int xr))) σ := by
  unfold b_X12_differs_44 at h
  refine RN_istore_n (pc := 44) (k := 3) (ls2 := [some (.ref v0), some (.long v1), none, some (.int s0), some (.int v4)]) (by decide +kernel) rfl (by decide) rfl ?_
  obtain ⟨x12, ex12, h⟩ := nm_el h
  refine RN_iinc (pc := 45) (i := 4) (n := 1) (v := x12) (ls2 := [some (.ref v0), some (.long v1), none, some (.int s0), some (.int x12)]) (by decide +kernel) rfl (by rw [ex12]; rfl) (by decide) rfl ?_
  refine RN_goto (pc := 48) (off := -43) (tgt := 5) (by decide +kernel) (by decide) ?_
  exact RN_weak (l := [some (.ref v0), some (.long v1), none, some (.int s0), some (.int x12)]) (And.intro rfl (And.intro rfl (And.intro rfl (And.intro rfl trivial)))) (hk5 s0 x12 h)
def b_X12_differs_39 (k5 : Int32 → Int32 → Option Int32) (n : Nat) (v0 : Nat) (v1 : Int64) (v4 : Int32) (σ : Sg) : Option Int32 :=
  b_X12_differs_44 k5 n v0 v1 v4 (1 : Int32) σ
set_option maxRecDepth 20000 in
theorem tb_X12_differs_39 {G : Gl} {xr : Int32} (n : Nat) (v0 : Nat) (v1 : Int64) (v4 : Int32) (σ : Sg) (k5 : Int32 → Int32 → Option Int32) (hk5 : ∀ (c3 : Int32) (c4 : Int32), k5 c3 c4 = some xr → RN G M_X12_differs 5 [some (.ref v0), some (.long v1), none, some (.int c3), some (.int c4)] [] σ (.inl (some (.int xr))) σ) (h : b_X12_differs_39 k5 n v0 v1 v4 σ = some xr) : RN G M_X12_differs 39 [some (.ref v0), some (.long v1), none, none, some (.int v4)] [] σ (.inl (some (.int xr))) σ := by
  unfold b_X12_differs_39 at h
  refine RN_iconst (pc := 39) (n := 1) (v := 1) (by decide +kernel) (by decide) ?_
  refine RN_goto (pc := 40) (off := 4) (tgt := 44) (by decide +kernel) (by decide) ?_
  exact RN_weak (l := [some (.ref v0), some (.long v1), none, none, some (.int v4)]) (And.intro rfl (And.intro rfl (And.intro rfl trivial))) (tb_X12_differs_44 n v0 v1 v4 (1 : Int32) σ k5 hk5 h)
def b_X12_differs_5 : Nat → Nat → Int64 → Int32 → Int32 → Sg → Option Int32
  | 0, _, _, _, _, _ => none
  | n + 1, v0, v1, v3, v4, σ =>
  if (8 : Int32) ≤ v4 then (
    ck (v3 = 0 ∨ v3 = 1) <|
    some v3)
  else (
    if v3 = 0 then (
      ck (okO σ v0 11) <|
      ck (¬ gR σ v0 42 = 0) <|
      nm (gR σ v0 42) fun r15 =>
      ck (okA σ r15 14 v4) <|
      ck (¬ gR σ v0 23 = 0) <|
      nm (gR σ v0 23) fun r18 =>
      ck (okA σ r18 14 ((8 : Int32) + v4)) <|
      if (gJ σ r15 v4.toNatClampNeg) = (v1 * (gJ σ r18 ((8 : Int32) + v4).toNatClampNeg)) then (
        b_X12_differs_44 (fun c3 c4 => b_X12_differs_5 n v0 v1 c3 c4 σ) n v0 v1 v4 (0 : Int32) σ)
      else (
        b_X12_differs_39 (fun c3 c4 => b_X12_differs_5 n v0 v1 c3 c4 σ) n v0 v1 v4 σ))
    else (
      b_X12_differs_39 (fun c3 c4 => b_X12_differs_5 n v0 v1 c3 c4 σ) n v0 v1 v4 σ))
set_option maxRecDepth 20000 in
theorem tb_X12_differs_5 {G : Gl} {xr : Int32} (v0 : Nat) (v1 : Int64) (σ : Sg) : ∀ (n : Nat) (v3 : Int32) (v4 : Int32), b_X12_differs_5 n v0 v1 v3 v4 σ = some xr → RN G M_X12_differs 5 [some (.ref v0), some (.long v1), none, some (.int v3), some (.int v4)] [] σ (.inl (some (.int xr))) σ := by
  intro n
  induction n with
  | zero =>
    intro v3 v4 h
    exact none_el h
  | succ n ih =>
    intro v3 v4 h
    rw [b_X12_differs_5] at h
    refine RN_iload (pc := 5) (i := 4) (by decide +kernel) rfl ?_
    refine RN_bipush (pc := 7) (n := 8) (v := 8) (by decide +kernel) (by decide) ?_
    refine RN_icmp_ge (pc := 9) (off := 42) (tgt := 51) (by decide +kernel) (by decide) (fun c9 => ?_) (fun c9 => ?_)
    · replace h := it_t c9 h
      refine RN_iload_n (pc := 51) (k := 3) (by decide +kernel) rfl rfl ?_
      obtain ⟨c10, h⟩ := ck_el h
      obtain rfl := some_el h
      exact RN_zreturn (by decide +kernel) rfl c10
    · replace h := it_f c9 h
      refine RN_iload_n (pc := 12) (k := 3) (by decide +kernel) rfl rfl ?_
      refine RN_if_ne (pc := 13) (off := 26) (tgt := 39) (by decide +kernel) (by decide) (fun c11 => ?_) (fun c11 => ?_)
      · replace h := it_f c11 h
        exact RN_weak (l := [some (.ref v0), some (.long v1), none, none, some (.int v4)]) (And.intro rfl (And.intro rfl (And.intro rfl trivial))) (tb_X12_differs_39 n v0 v1 v4 σ _ (fun c3 c4 h => ih c3 c4 h) h)
      · replace h := it_t c11 h
        refine RN_aload_n (pc := 16) (k := 0) (by decide +kernel) rfl rfl ?_
        obtain ⟨c13, h⟩ := ck_el h
        obtain ⟨c14, h⟩ := ck_el h
        refine RN_getR (pc := 17) (idx := 100) (ci := 11) (k := 42) (by decide +kernel) lf_RX12_100 rfl c13 c14 ?_
        obtain ⟨r15, er15, h⟩ := nm_el h
        refine RN_nmR er15 ?_
        refine RN_iload (pc := 20) (i := 4) (by decide +kernel) rfl ?_
        obtain ⟨c16, h⟩ := ck_el h
        refine RN_lald (pc := 22) (by decide +kernel) c16 ?_
        refine RN_lload_n (pc := 23) (k := 1) (by decide +kernel) rfl rfl ?_
        refine RN_aload_n (pc := 24) (k := 0) (by decide +kernel) rfl rfl ?_
        obtain ⟨c17, h⟩ := ck_el h
        refine RN_getR (pc := 25) (idx := 60) (ci := 11) (k := 23) (by decide +kernel) lf_RX12_60 rfl c13 c17 ?_
        obtain ⟨r18, er18, h⟩ := nm_el h
        refine RN_nmR er18 ?_
        refine RN_bipush (pc := 28) (n := 8) (v := 8) (by decide +kernel) (by decide) ?_
        refine RN_iload (pc := 30) (i := 4) (by decide +kernel) rfl ?_
        refine RN_iadd (pc := 32) (by decide +kernel) ?_
        obtain ⟨c19, h⟩ := ck_el h
        refine RN_lald (pc := 33) (by decide +kernel) c19 ?_
        refine RN_lmul (pc := 34) (by decide +kernel) ?_
        refine RN_lc_eq (pc := 35) (off := 7) (tgt := 43) (by decide +kernel) (by decide +kernel) (by decide) (fun c20 => ?_) (fun c20 => ?_)
        · replace h := it_t c20 h
          refine RN_iconst (pc := 43) (n := 0) (v := 0) (by decide +kernel) (by decide) ?_
          exact RN_weak (l := [some (.ref v0), some (.long v1), none, none, some (.int v4)]) (And.intro rfl (And.intro rfl (And.intro rfl trivial))) (tb_X12_differs_44 n v0 v1 v4 (0 : Int32) σ _ (fun c3 c4 h => ih c3 c4 h) h)
        · replace h := it_f c20 h
          exact RN_weak (l := [some (.ref v0), some (.long v1), none, none, some (.int v4)]) (And.intro rfl (And.intro rfl (And.intro rfl trivial))) (tb_X12_differs_39 n v0 v1 v4 σ _ (fun c3 c4 h => ih c3 c4 h) h)
def f_X12_differs (n : Nat) (v0 : Nat) (v1 : Int64) (σ : Sg) : Option Int32 :=
  b_X12_differs_5 n v0 v1 (0 : Int32) (0 : Int32) σ
set_option maxRecDepth 20000 in
theorem t_X12_differs {G : Gl} {xr : Int32} {n : Nat} {v0 : Nat} {v1 : Int64} {σ : Sg} (h : f_X12_differs n v0 v1 σ = some xr) : MT G M_X12_differs [.ref v0, .long v1] σ (some (.int xr)) σ := by
  refine MT_of rfl rfl (Nat.le_of_ble_eq_true rfl) ?_
  show RN G M_X12_differs 0 [some (.ref v0), some (.long v1), none] [] σ (.inl (some (.int xr))) σ
  unfold f_X12_differs at h
  refine RN_iconst (pc := 0) (n := 0) (v := 0) (by decide +kernel) (by decide) ?_
  refine RN_istore_n (pc := 1) (k := 3) (ls2 := [some (.ref v0), some (.long v1), none, some (.int (0 : Int32))]) (by decide +kernel) rfl (by decide) rfl ?_
  refine RN_iconst (pc := 2) (n := 0) (v := 0) (by decide +kernel) (by decide) ?_
  refine RN_istore (pc := 3) (i := 4) (ls2 := [some (.ref v0), some (.long v1), none, some (.int (0 : Int32)), some (.int (0 : Int32))]) (by decide +kernel) (by decide) rfl ?_
  exact RN_weak (l := [some (.ref v0), some (.long v1), none, some (.int (0 : Int32)), some (.int (0 : Int32))]) (And.intro rfl (And.intro rfl (And.intro rfl (And.intro rfl trivial)))) (tb_X12_differs_5 v0 v1 σ n (0 : Int32) (0 : Int32) h)
