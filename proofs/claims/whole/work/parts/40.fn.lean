def b_X12_back_138 (k71 : Int32 → Sg → Option (Int32 × Sg)) (n : Nat) (v0 : Nat) (v1 : Int32) (v3 : Int32) (s0 : Int64) (s1 : Int32) (s2 : Nat) (σ : Sg) : Option (Int32 × Sg) :=
  ck (okW σ s2 14 s1) <|
  nm (pJ σ s2 s1.toNatClampNeg s0) fun σ83 =>
  nm (v3 + (1 : Int32)) fun x84 =>
  k71 x84 σ83
set_option maxRecDepth 20000 in
theorem tb_X12_back_138 {G : Gl} {xr : Int32} {σr : Sg} (n : Nat) (v0 : Nat) (v1 : Int32) (v3 : Int32) (s0 : Int64) (s1 : Int32) (s2 : Nat) (σ : Sg) (k71 : Int32 → Sg → Option (Int32 × Sg)) (hk71 : ∀ (c3 : Int32) (τ : Sg), k71 c3 τ = some (xr, σr) → RN G M_X12_back 71 [some (.ref v0), some (.int v1), none, some (.int c3)] [] τ (.inl (some (.int xr))) σr) (h : b_X12_back_138 k71 n v0 v1 v3 s0 s1 s2 σ = some (xr, σr)) : RN G M_X12_back 138 [some (.ref v0), some (.int v1), none, some (.int v3)] [.long s0, .int s1, .ref s2] σ (.inl (some (.int xr))) σr := by
  unfold b_X12_back_138 at h
  obtain ⟨c82, h⟩ := ck_el h
  refine RN_last (pc := 138) (by decide +kernel) c82 ?_
  obtain ⟨σ83, eσ83, h⟩ := nm_el h
  refine RN_nmS eσ83 ?_
  obtain ⟨x84, ex84, h⟩ := nm_el h
  refine RN_iinc (pc := 139) (i := 3) (n := 1) (v := x84) (ls2 := [some (.ref v0), some (.int v1), none, some (.int x84)]) (by decide +kernel) rfl (by rw [ex84]; rfl) (by decide) rfl ?_
  refine RN_goto (pc := 142) (off := -71) (tgt := 71) (by decide +kernel) (by decide) ?_
  exact RN_weak (l := [some (.ref v0), some (.int v1), none, some (.int x84)]) (And.intro rfl (And.intro rfl (And.intro rfl trivial))) (hk71 x84 σ83 h)
def b_X12_back_108 (k71 : Int32 → Sg → Option (Int32 × Sg)) (n : Nat) (v0 : Nat) (v1 : Int32) (v3 : Int32) (s0 : Int64) (s1 : Int32) (s2 : Nat) (σ : Sg) : Option (Int32 × Sg) :=
  ck (okW σ s2 14 s1) <|
  nm (pJ σ s2 s1.toNatClampNeg s0) fun σ74 =>
  ck (okO σ74 v0 11) <|
  ck (¬ gR σ74 v0 25 = 0) <|
  nm (gR σ74 v0 25) fun r77 =>
  ck (¬ gR σ74 v0 36 = 0) <|
  nm (gR σ74 v0 36) fun r79 =>
  ck (okA σ74 r79 13 v1) <|
  if (gI σ74 r79 v1.toNatClampNeg) ≤ v3 then (
    b_X12_back_138 k71 n v0 v1 v3 (1 : Int64) v3 r77 σ74)
  else (
    ck (¬ gR σ74 v0 40 = 0) <|
    nm (gR σ74 v0 40) fun r86 =>
    ck (okA σ74 r86 14 (((4 : Int32) * v1) + v3)) <|
    b_X12_back_138 k71 n v0 v1 v3 (gJ σ74 r86 (((4 : Int32) * v1) + v3).toNatClampNeg) v3 r77 σ74)
set_option maxRecDepth 20000 in
theorem tb_X12_back_108 {G : Gl} {xr : Int32} {σr : Sg} (n : Nat) (v0 : Nat) (v1 : Int32) (v3 : Int32) (s0 : Int64) (s1 : Int32) (s2 : Nat) (σ : Sg) (k71 : Int32 → Sg → Option (Int32 × Sg)) (hk71 : ∀ (c3 : Int32) (τ : Sg), k71 c3 τ = some (xr, σr) → RN G M_X12_back 71 [some (.ref v0), some (.int v1), none, some (.int c3)] [] τ (.inl (some (.int xr))) σr) (h : b_X12_back_108 k71 n v0 v1 v3 s0 s1 s2 σ = some (xr, σr)) : RN G M_X12_back 108 [some (.ref v0), some (.int v1), none, some (.int v3)] [.long s0, .int s1, .ref s2] σ (.inl (some (.int xr))) σr := by
  unfold b_X12_back_108 at h
  obtain ⟨c73, h⟩ := ck_el h
  refine RN_last (pc := 108) (by decide +kernel) c73 ?_
  obtain ⟨σ74, eσ74, h⟩ := nm_el h
  refine RN_nmS eσ74 ?_
  refine RN_aload_n (pc := 109) (k := 0) (by decide +kernel) rfl rfl ?_
  obtain ⟨c75, h⟩ := ck_el h
  obtain ⟨c76, h⟩ := ck_el h
  refine RN_getR (pc := 110) (idx := 66) (ci := 11) (k := 25) (by decide +kernel) lf_RX12_66 rfl c75 c76 ?_
  obtain ⟨r77, er77, h⟩ := nm_el h
  refine RN_nmR er77 ?_
  refine RN_iload_n (pc := 113) (k := 3) (by decide +kernel) rfl rfl ?_
  refine RN_iload_n (pc := 114) (k := 3) (by decide +kernel) rfl rfl ?_
  refine RN_aload_n (pc := 115) (k := 0) (by decide +kernel) rfl rfl ?_
  obtain ⟨c78, h⟩ := ck_el h
  refine RN_getR (pc := 116) (idx := 82) (ci := 11) (k := 36) (by decide +kernel) lf_RX12_82 rfl c75 c78 ?_
  obtain ⟨r79, er79, h⟩ := nm_el h
  refine RN_nmR er79 ?_
  refine RN_iload_n (pc := 119) (k := 1) (by decide +kernel) rfl rfl ?_
  obtain ⟨c80, h⟩ := ck_el h
  refine RN_iald (pc := 120) (by decide +kernel) c80 ?_
  refine RN_icmp_ge (pc := 121) (off := 16) (tgt := 137) (by decide +kernel) (by decide) (fun c81 => ?_) (fun c81 => ?_)
  · replace h := it_t c81 h
    refine RN_lconst (pc := 137) (n := 1) (v := 1) (by decide +kernel) (by decide) ?_
    exact RN_weak (l := [some (.ref v0), some (.int v1), none, some (.int v3)]) (And.intro rfl (And.intro rfl (And.intro rfl trivial))) (tb_X12_back_138 n v0 v1 v3 (1 : Int64) v3 r77 σ74 k71 hk71 h)
  · replace h := it_f c81 h
    refine RN_aload_n (pc := 124) (k := 0) (by decide +kernel) rfl rfl ?_
    obtain ⟨c85, h⟩ := ck_el h
    refine RN_getR (pc := 125) (idx := 94) (ci := 11) (k := 40) (by decide +kernel) lf_RX12_94 rfl c75 c85 ?_
    obtain ⟨r86, er86, h⟩ := nm_el h
    refine RN_nmR er86 ?_
    refine RN_iconst (pc := 128) (n := 4) (v := 4) (by decide +kernel) (by decide) ?_
    refine RN_iload_n (pc := 129) (k := 1) (by decide +kernel) rfl rfl ?_
    refine RN_imul (pc := 130) (by decide +kernel) ?_
    refine RN_iload_n (pc := 131) (k := 3) (by decide +kernel) rfl rfl ?_
    refine RN_iadd (pc := 132) (by decide +kernel) ?_
    obtain ⟨c87, h⟩ := ck_el h
    refine RN_lald (pc := 133) (by decide +kernel) c87 ?_
    refine RN_goto (pc := 134) (off := 4) (tgt := 138) (by decide +kernel) (by decide) ?_
    exact RN_weak (l := [some (.ref v0), some (.int v1), none, some (.int v3)]) (And.intro rfl (And.intro rfl (And.intro rfl trivial))) (tb_X12_back_138 n v0 v1 v3 (gJ σ74 r86 (((4 : Int32) * v1) + v3).toNatClampNeg) v3 r77 σ74 k71 hk71 h)
def b_X12_back_71 : Nat → Nat → Int32 → Int32 → Sg → Option (Int32 × Sg)
  | 0, _, _, _, _ => none
  | n + 1, v0, v1, v3, σ =>
  ck (okO σ v0 11) <|
  if (gI σ v0 7) ≤ v3 then (
    some (gI σ v0 13, σ))
  else (
    ck (¬ gR σ v0 24 = 0) <|
    nm (gR σ v0 24) fun r68 =>
    ck (¬ gR σ v0 36 = 0) <|
    nm (gR σ v0 36) fun r70 =>
    ck (okA σ r70 13 v1) <|
    if (gI σ r70 v1.toNatClampNeg) ≤ v3 then (
      b_X12_back_108 (fun c3 τ => b_X12_back_71 n v0 v1 c3 τ) n v0 v1 v3 (0 : Int64) v3 r68 σ)
    else (
      ck (¬ gR σ v0 39 = 0) <|
      nm (gR σ v0 39) fun r89 =>
      ck (okA σ r89 14 (((4 : Int32) * v1) + v3)) <|
      b_X12_back_108 (fun c3 τ => b_X12_back_71 n v0 v1 c3 τ) n v0 v1 v3 (gJ σ r89 (((4 : Int32) * v1) + v3).toNatClampNeg) v3 r68 σ))
set_option maxRecDepth 20000 in
theorem tb_X12_back_71 {G : Gl} {xr : Int32} {σr : Sg} (v0 : Nat) (v1 : Int32) : ∀ (n : Nat) (v3 : Int32) (σ : Sg), b_X12_back_71 n v0 v1 v3 σ = some (xr, σr) → RN G M_X12_back 71 [some (.ref v0), some (.int v1), none, some (.int v3)] [] σ (.inl (some (.int xr))) σr := by
  intro n
  induction n with
  | zero =>
    intro v3 σ h
    exact none_el h
  | succ n ih =>
    intro v3 σ h
    rw [b_X12_back_71] at h
    refine RN_iload_n (pc := 71) (k := 3) (by decide +kernel) rfl rfl ?_
    refine RN_aload_n (pc := 72) (k := 0) (by decide +kernel) rfl rfl ?_
    obtain ⟨c65, h⟩ := ck_el h
    refine RN_getI (pc := 73) (idx := 140) (ci := 11) (k := 7) (by decide +kernel) lf_RX12_140 (Or.inl rfl) c65 ?_
    refine RN_icmp_ge (pc := 76) (off := 69) (tgt := 145) (by decide +kernel) (by decide) (fun c66 => ?_) (fun c66 => ?_)
    · replace h := it_t c66 h
      refine RN_aload_n (pc := 145) (k := 0) (by decide +kernel) rfl rfl ?_
      refine RN_getI (pc := 146) (idx := 143) (ci := 11) (k := 13) (by decide +kernel) lf_RX12_143 (Or.inl rfl) c65 ?_
      obtain ⟨rfl, rfl⟩ := some_el2 h
      exact RN_ireturn (by decide +kernel) rfl
    · replace h := it_f c66 h
      refine RN_aload_n (pc := 79) (k := 0) (by decide +kernel) rfl rfl ?_
      obtain ⟨c67, h⟩ := ck_el h
      refine RN_getR (pc := 80) (idx := 63) (ci := 11) (k := 24) (by decide +kernel) lf_RX12_63 rfl c65 c67 ?_
      obtain ⟨r68, er68, h⟩ := nm_el h
      refine RN_nmR er68 ?_
      refine RN_iload_n (pc := 83) (k := 3) (by decide +kernel) rfl rfl ?_
      refine RN_iload_n (pc := 84) (k := 3) (by decide +kernel) rfl rfl ?_
      refine RN_aload_n (pc := 85) (k := 0) (by decide +kernel) rfl rfl ?_
      obtain ⟨c69, h⟩ := ck_el h
      refine RN_getR (pc := 86) (idx := 82) (ci := 11) (k := 36) (by decide +kernel) lf_RX12_82 rfl c65 c69 ?_
      obtain ⟨r70, er70, h⟩ := nm_el h
      refine RN_nmR er70 ?_
      refine RN_iload_n (pc := 89) (k := 1) (by decide +kernel) rfl rfl ?_
      obtain ⟨c71, h⟩ := ck_el h
      refine RN_iald (pc := 90) (by decide +kernel) c71 ?_
      refine RN_icmp_ge (pc := 91) (off := 16) (tgt := 107) (by decide +kernel) (by decide) (fun c72 => ?_) (fun c72 => ?_)
      · replace h := it_t c72 h
        refine RN_lconst (pc := 107) (n := 0) (v := 0) (by decide +kernel) (by decide) ?_
        exact RN_weak (l := [some (.ref v0), some (.int v1), none, some (.int v3)]) (And.intro rfl (And.intro rfl (And.intro rfl trivial))) (tb_X12_back_108 n v0 v1 v3 (0 : Int64) v3 r68 σ _ (fun c3 τ h => ih c3 τ h) h)
      · replace h := it_f c72 h
        refine RN_aload_n (pc := 94) (k := 0) (by decide +kernel) rfl rfl ?_
        obtain ⟨c88, h⟩ := ck_el h
        refine RN_getR (pc := 95) (idx := 91) (ci := 11) (k := 39) (by decide +kernel) lf_RX12_91 rfl c65 c88 ?_
        obtain ⟨r89, er89, h⟩ := nm_el h
        refine RN_nmR er89 ?_
        refine RN_iconst (pc := 98) (n := 4) (v := 4) (by decide +kernel) (by decide) ?_
        refine RN_iload_n (pc := 99) (k := 1) (by decide +kernel) rfl rfl ?_
        refine RN_imul (pc := 100) (by decide +kernel) ?_
        refine RN_iload_n (pc := 101) (k := 3) (by decide +kernel) rfl rfl ?_
        refine RN_iadd (pc := 102) (by decide +kernel) ?_
        obtain ⟨c90, h⟩ := ck_el h
        refine RN_lald (pc := 103) (by decide +kernel) c90 ?_
        refine RN_goto (pc := 104) (off := 4) (tgt := 108) (by decide +kernel) (by decide) ?_
        exact RN_weak (l := [some (.ref v0), some (.int v1), none, some (.int v3)]) (And.intro rfl (And.intro rfl (And.intro rfl trivial))) (tb_X12_back_108 n v0 v1 v3 (gJ σ r89 (((4 : Int32) * v1) + v3).toNatClampNeg) v3 r68 σ _ (fun c3 τ h => ih c3 τ h) h)
def b_X12_back_69 (n : Nat) (v0 : Nat) (v1 : Int32) (σ : Sg) : Option (Int32 × Sg) :=
  b_X12_back_71 n v0 v1 (0 : Int32) σ
set_option maxRecDepth 20000 in
theorem tb_X12_back_69 {G : Gl} {xr : Int32} {σr : Sg} (n : Nat) (v0 : Nat) (v1 : Int32) (σ : Sg) (h : b_X12_back_69 n v0 v1 σ = some (xr, σr)) : RN G M_X12_back 69 [some (.ref v0), some (.int v1)] [] σ (.inl (some (.int xr))) σr := by
  unfold b_X12_back_69 at h
  refine RN_iconst (pc := 69) (n := 0) (v := 0) (by decide +kernel) (by decide) ?_
  refine RN_istore_n (pc := 70) (k := 3) (ls2 := [some (.ref v0), some (.int v1), none, some (.int (0 : Int32))]) (by decide +kernel) rfl (by decide) rfl ?_
  exact RN_weak (l := [some (.ref v0), some (.int v1), none, some (.int (0 : Int32))]) (And.intro rfl (And.intro rfl (And.intro rfl trivial))) (tb_X12_back_71 v0 v1 n (0 : Int32) σ h)
def b_X12_back_40 : Nat → Nat → Int32 → Int32 → Sg → Option (Int32 × Sg)
  | 0, _, _, _, _ => none
  | n + 1, v0, v1, v3, σ =>
  if (8 : Int32) ≤ v3 then (
    b_X12_back_69 n v0 v1 σ)
  else (
    ck (okO σ v0 11) <|
    ck (¬ gR σ v0 23 = 0) <|
    nm (gR σ v0 23) fun r93 =>
    ck (¬ gR σ v0 38 = 0) <|
    nm (gR σ v0 38) fun r95 =>
    ck (okA σ r95 14 (((8 : Int32) * v1) + v3)) <|
    ck (okW σ r93 14 v3) <|
    nm (pJ σ r93 v3.toNatClampNeg (gJ σ r95 (((8 : Int32) * v1) + v3).toNatClampNeg)) fun σ98 =>
    nm (v3 + (1 : Int32)) fun x99 =>
    b_X12_back_40 n v0 v1 x99 σ98)
set_option maxRecDepth 20000 in
theorem tb_X12_back_40 {G : Gl} {xr : Int32} {σr : Sg} (v0 : Nat) (v1 : Int32) : ∀ (n : Nat) (v3 : Int32) (σ : Sg), b_X12_back_40 n v0 v1 v3 σ = some (xr, σr) → RN G M_X12_back 40 [some (.ref v0), some (.int v1), none, some (.int v3)] [] σ (.inl (some (.int xr))) σr := by
  intro n
  induction n with
  | zero =>
    intro v3 σ h
    exact none_el h
  | succ n ih =>
    intro v3 σ h
    rw [b_X12_back_40] at h
    refine RN_iload_n (pc := 40) (k := 3) (by decide +kernel) rfl rfl ?_
    refine RN_bipush (pc := 41) (n := 8) (v := 8) (by decide +kernel) (by decide) ?_
    refine RN_icmp_ge (pc := 43) (off := 26) (tgt := 69) (by decide +kernel) (by decide) (fun c64 => ?_) (fun c64 => ?_)
    · replace h := it_t c64 h
      exact RN_weak (l := [some (.ref v0), some (.int v1)]) (And.intro rfl (And.intro rfl trivial)) (tb_X12_back_69 n v0 v1 σ h)
    · replace h := it_f c64 h
      refine RN_aload_n (pc := 46) (k := 0) (by decide +kernel) rfl rfl ?_
      obtain ⟨c91, h⟩ := ck_el h
      obtain ⟨c92, h⟩ := ck_el h
      refine RN_getR (pc := 47) (idx := 60) (ci := 11) (k := 23) (by decide +kernel) lf_RX12_60 rfl c91 c92 ?_
      obtain ⟨r93, er93, h⟩ := nm_el h
      refine RN_nmR er93 ?_
      refine RN_iload_n (pc := 50) (k := 3) (by decide +kernel) rfl rfl ?_
      refine RN_aload_n (pc := 51) (k := 0) (by decide +kernel) rfl rfl ?_
      obtain ⟨c94, h⟩ := ck_el h
      refine RN_getR (pc := 52) (idx := 88) (ci := 11) (k := 38) (by decide +kernel) lf_RX12_88 rfl c91 c94 ?_
      obtain ⟨r95, er95, h⟩ := nm_el h
      refine RN_nmR er95 ?_
      refine RN_bipush (pc := 55) (n := 8) (v := 8) (by decide +kernel) (by decide) ?_
      refine RN_iload_n (pc := 57) (k := 1) (by decide +kernel) rfl rfl ?_
      refine RN_imul (pc := 58) (by decide +kernel) ?_
      refine RN_iload_n (pc := 59) (k := 3) (by decide +kernel) rfl rfl ?_
      refine RN_iadd (pc := 60) (by decide +kernel) ?_
      obtain ⟨c96, h⟩ := ck_el h
      refine RN_lald (pc := 61) (by decide +kernel) c96 ?_
      obtain ⟨c97, h⟩ := ck_el h
      refine RN_last (pc := 62) (by decide +kernel) c97 ?_
      obtain ⟨σ98, eσ98, h⟩ := nm_el h
      refine RN_nmS eσ98 ?_
      obtain ⟨x99, ex99, h⟩ := nm_el h
      refine RN_iinc (pc := 63) (i := 3) (n := 1) (v := x99) (ls2 := [some (.ref v0), some (.int v1), none, some (.int x99)]) (by decide +kernel) rfl (by rw [ex99]; rfl) (by decide) rfl ?_
      refine RN_goto (pc := 66) (off := -26) (tgt := 40) (by decide +kernel) (by decide) ?_
      exact RN_weak (l := [some (.ref v0), some (.int v1), none, some (.int x99)]) (And.intro rfl (And.intro rfl (And.intro rfl trivial))) (ih x99 σ98 h)
def f_X12_back (n : Nat) (v0 : Nat) (v1 : Int32) (σ : Sg) : Option (Int32 × Sg) :=
  ck (okO σ v0 11) <|
  bd (f_X12_lacks v0 v1 σ) fun x53 σ52 =>
  if x53 = 0 then (
    ck (okO σ52 v0 11) <|
    ck (¬ gR σ52 v0 36 = 0) <|
    nm (gR σ52 v0 36) fun r57 =>
    ck (okA σ52 r57 13 v1) <|
    if (gI σ52 r57 v1.toNatClampNeg) ≤ (gI σ52 v0 7) then (
      ck (¬ gR σ52 v0 37 = 0) <|
      nm (gR σ52 v0 37) fun r61 =>
      ck (okA σ52 r61 13 v1) <|
      nm (pI σ52 v0 13 (gI σ52 r61 v1.toNatClampNeg)) fun σ63 =>
      b_X12_back_40 n v0 v1 (0 : Int32) σ63)
    else (
      some ((-3 : Int32), σ52)))
  else (
    some (x53, σ52))
set_option maxRecDepth 20000 in
theorem t_X12_back {G : Gl} {xr : Int32} {σr : Sg} {n : Nat} {v0 : Nat} {v1 : Int32} {σ : Sg} (h : f_X12_back n v0 v1 σ = some (xr, σr)) : MT G M_X12_back [.ref v0, .int v1] σ (some (.int xr)) σr := by
  refine MT_of rfl rfl (Nat.le_of_ble_eq_true rfl) ?_
  show RN G M_X12_back 0 [some (.ref v0), some (.int v1)] [] σ (.inl (some (.int xr))) σr
  unfold f_X12_back at h
  refine RN_aload_n (pc := 0) (k := 0) (by decide +kernel) rfl rfl ?_
  refine RN_iload_n (pc := 1) (k := 1) (by decide +kernel) rfl rfl ?_
  obtain ⟨c50, h⟩ := ck_el h
  obtain ⟨x53, σ52, f51, h⟩ := bd_el h
  refine RN_callV (M := M_X12_back) (pc := 2) (idx := 383) (as := [.int v1]) (st := []) (t_X12_lacks f51) (by decide +kernel) lk_RX12_383 rfl ⟨by decide, fun q hq => by cases hq; rfl⟩ c50 (Nat.le_of_ble_eq_true rfl) ⟨Nat.le_of_ble_eq_true rfl, Nat.le_of_ble_eq_true rfl⟩ rfl ?_
  show RN G M_X12_back 5 [some (.ref v0), some (.int v1)] [.int x53] σ52 _ _
  refine RN_istore_n (pc := 5) (k := 2) (ls2 := [some (.ref v0), some (.int v1), some (.int x53)]) (by decide +kernel) rfl (by decide) rfl ?_
  refine RN_iload_n (pc := 6) (k := 2) (by decide +kernel) rfl rfl ?_
  refine RN_if_eq (pc := 7) (off := 5) (tgt := 12) (by decide +kernel) (by decide) (fun c54 => ?_) (fun c54 => ?_)
  · replace h := it_t c54 h
    refine RN_aload_n (pc := 12) (k := 0) (by decide +kernel) rfl rfl ?_
    obtain ⟨c55, h⟩ := ck_el h
    obtain ⟨c56, h⟩ := ck_el h
    refine RN_getR (pc := 13) (idx := 82) (ci := 11) (k := 36) (by decide +kernel) lf_RX12_82 rfl c55 c56 ?_
    obtain ⟨r57, er57, h⟩ := nm_el h
    refine RN_nmR er57 ?_
    refine RN_iload_n (pc := 16) (k := 1) (by decide +kernel) rfl rfl ?_
    obtain ⟨c58, h⟩ := ck_el h
    refine RN_iald (pc := 17) (by decide +kernel) c58 ?_
    refine RN_aload_n (pc := 18) (k := 0) (by decide +kernel) rfl rfl ?_
    refine RN_getI (pc := 19) (idx := 140) (ci := 11) (k := 7) (by decide +kernel) lf_RX12_140 (Or.inl rfl) c55 ?_
    refine RN_icmp_le (pc := 22) (off := 6) (tgt := 28) (by decide +kernel) (by decide) (fun c59 => ?_) (fun c59 => ?_)
    · replace h := it_t c59 h
      refine RN_aload_n (pc := 28) (k := 0) (by decide +kernel) rfl rfl ?_
      refine RN_aload_n (pc := 29) (k := 0) (by decide +kernel) rfl rfl ?_
      obtain ⟨c60, h⟩ := ck_el h
      refine RN_getR (pc := 30) (idx := 85) (ci := 11) (k := 37) (by decide +kernel) lf_RX12_85 rfl c55 c60 ?_
      obtain ⟨r61, er61, h⟩ := nm_el h
      refine RN_nmR er61 ?_
      refine RN_iload_n (pc := 33) (k := 1) (by decide +kernel) rfl rfl ?_
      obtain ⟨c62, h⟩ := ck_el h
      refine RN_iald (pc := 34) (by decide +kernel) c62 ?_
      refine RN_putI (pc := 35) (idx := 143) (ci := 11) (k := 13) (by decide +kernel) lf_RX12_143 rfl (fun q hq => by cases hq; exact Or.inl rfl) c55 ?_
      obtain ⟨σ63, eσ63, h⟩ := nm_el h
      refine RN_nmS eσ63 ?_
      refine RN_iconst (pc := 38) (n := 0) (v := 0) (by decide +kernel) (by decide) ?_
      refine RN_istore_n (pc := 39) (k := 3) (ls2 := [some (.ref v0), some (.int v1), some (.int x53), some (.int (0 : Int32))]) (by decide +kernel) rfl (by decide) rfl ?_
      exact RN_weak (l := [some (.ref v0), some (.int v1), none, some (.int (0 : Int32))]) (And.intro rfl (And.intro rfl (And.intro rfl trivial))) (tb_X12_back_40 v0 v1 n (0 : Int32) σ63 h)
    · replace h := it_f c59 h
      refine RN_bipush (pc := 25) (n := -3) (v := -3) (by decide +kernel) (by decide) ?_
      obtain ⟨rfl, rfl⟩ := some_el2 h
      exact RN_ireturn (by decide +kernel) rfl
  · replace h := it_f c54 h
    refine RN_iload_n (pc := 10) (k := 2) (by decide +kernel) rfl rfl ?_
    obtain ⟨rfl, rfl⟩ := some_el2 h
    exact RN_ireturn (by decide +kernel) rfl
def f_X12_toss (v0 : Nat) (v1 : Int32) (σ : Sg) : Option (Int32 × Sg) :=
  ck (okO σ v0 11) <|
  bd (f_X12_lacks v0 v1 σ) fun x20 σ19 =>
  if x20 = 0 then (
    ck (okO σ19 v0 11) <|
    ck (¬ gR σ19 v0 37 = 0) <|
    nm (gR σ19 v0 37) fun r24 =>
    ck (okA σ19 r24 13 v1) <|
    if (gI σ19 r24 v1.toNatClampNeg) = 0 then (
      bd (f_X12_refuse v0 (-15 : Int32) σ19) fun x31 σ30 =>
      some (x31, σ30))
    else (
      nm (gR σ19 v0 37) fun r27 =>
      ck (okA σ19 r27 13 v1) <|
      some (gI σ19 r27 v1.toNatClampNeg, σ19)))
  else (
    some (x20, σ19))
set_option maxRecDepth 20000 in
theorem t_X12_toss {G : Gl} {xr : Int32} {σr : Sg} {v0 : Nat} {v1 : Int32} {σ : Sg} (h : f_X12_toss v0 v1 σ = some (xr, σr)) : MT G M_X12_toss [.ref v0, .int v1] σ (some (.int xr)) σr := by
  refine MT_of rfl rfl (Nat.le_of_ble_eq_true rfl) ?_
  show RN G M_X12_toss 0 [some (.ref v0), some (.int v1)] [] σ (.inl (some (.int xr))) σr
  unfold f_X12_toss at h
  refine RN_aload_n (pc := 0) (k := 0) (by decide +kernel) rfl rfl ?_
  refine RN_iload_n (pc := 1) (k := 1) (by decide +kernel) rfl rfl ?_
  obtain ⟨c17, h⟩ := ck_el h
  obtain ⟨x20, σ19, f18, h⟩ := bd_el h
  refine RN_callV (M := M_X12_toss) (pc := 2) (idx := 383) (as := [.int v1]) (st := []) (t_X12_lacks f18) (by decide +kernel) lk_RX12_383 rfl ⟨by decide, fun q hq => by cases hq; rfl⟩ c17 (Nat.le_of_ble_eq_true rfl) ⟨Nat.le_of_ble_eq_true rfl, Nat.le_of_ble_eq_true rfl⟩ rfl ?_
  show RN G M_X12_toss 5 [some (.ref v0), some (.int v1)] [.int x20] σ19 _ _
  refine RN_istore_n (pc := 5) (k := 2) (ls2 := [some (.ref v0), some (.int v1), some (.int x20)]) (by decide +kernel) rfl (by decide) rfl ?_
  refine RN_iload_n (pc := 6) (k := 2) (by decide +kernel) rfl rfl ?_
  refine RN_if_eq (pc := 7) (off := 5) (tgt := 12) (by decide +kernel) (by decide) (fun c21 => ?_) (fun c21 => ?_)
  · replace h := it_t c21 h
    refine RN_aload_n (pc := 12) (k := 0) (by decide +kernel) rfl rfl ?_
    obtain ⟨c22, h⟩ := ck_el h
    obtain ⟨c23, h⟩ := ck_el h
    refine RN_getR (pc := 13) (idx := 85) (ci := 11) (k := 37) (by decide +kernel) lf_RX12_85 rfl c22 c23 ?_
    obtain ⟨r24, er24, h⟩ := nm_el h
    refine RN_nmR er24 ?_
    refine RN_iload_n (pc := 16) (k := 1) (by decide +kernel) rfl rfl ?_
    obtain ⟨c25, h⟩ := ck_el h
    refine RN_iald (pc := 17) (by decide +kernel) c25 ?_
    refine RN_if_ne (pc := 18) (off := 12) (tgt := 30) (by decide +kernel) (by decide) (fun c26 => ?_) (fun c26 => ?_)
    · replace h := it_f c26 h
      refine RN_aload_n (pc := 30) (k := 0) (by decide +kernel) rfl rfl ?_
      refine RN_getR (pc := 31) (idx := 85) (ci := 11) (k := 37) (by decide +kernel) lf_RX12_85 rfl c22 c23 ?_
      obtain ⟨r27, er27, h⟩ := nm_el h
      refine RN_nmR er27 ?_
      refine RN_iload_n (pc := 34) (k := 1) (by decide +kernel) rfl rfl ?_
      obtain ⟨c28, h⟩ := ck_el h
      refine RN_iald (pc := 35) (by decide +kernel) c28 ?_
      obtain ⟨rfl, rfl⟩ := some_el2 h
      exact RN_ireturn (by decide +kernel) rfl
    · replace h := it_t c26 h
      refine RN_aload_n (pc := 21) (k := 0) (by decide +kernel) rfl rfl ?_
      refine RN_bipush (pc := 22) (n := -15) (v := -15) (by decide +kernel) (by decide) ?_
      obtain ⟨x31, σ30, f29, h⟩ := bd_el h
      refine RN_callV (M := M_X12_toss) (pc := 24) (idx := 380) (as := [.int (-15 : Int32)]) (st := []) (t_X12_refuse f29) (by decide +kernel) lk_RX12_380 rfl ⟨by decide, fun q hq => by cases hq; rfl⟩ c22 (Nat.le_of_ble_eq_true rfl) ⟨Nat.le_of_ble_eq_true rfl, Nat.le_of_ble_eq_true rfl⟩ rfl ?_
      show RN G M_X12_toss 27 [some (.ref v0), some (.int v1), some (.int x20)] [.int x31] σ30 _ _
      refine RN_goto (pc := 27) (off := 9) (tgt := 36) (by decide +kernel) (by decide) ?_
      obtain ⟨rfl, rfl⟩ := some_el2 h
      exact RN_ireturn (by decide +kernel) rfl
  · replace h := it_f c21 h
    refine RN_iload_n (pc := 10) (k := 2) (by decide +kernel) rfl rfl ?_
    obtain ⟨rfl, rfl⟩ := some_el2 h
    exact RN_ireturn (by decide +kernel) rfl
def b_X12_load_55 (n : Nat) (v0 : Nat) (σ : Sg) : Option (Int32 × Sg) :=
  ck (okO σ v0 11) <|
  bd (f_X12_refuse v0 (-12 : Int32) σ) fun x68 σ67 =>
  some (x68, σ67)
set_option maxRecDepth 20000 in
theorem tb_X12_load_55 {G : Gl} {xr : Int32} {σr : Sg} (n : Nat) (v0 : Nat) (σ : Sg) (h : b_X12_load_55 n v0 σ = some (xr, σr)) : RN G M_X12_load 55 [some (.ref v0)] [] σ (.inl (some (.int xr))) σr := by
  unfold b_X12_load_55 at h
  refine RN_aload_n (pc := 55) (k := 0) (by decide +kernel) rfl rfl ?_
  refine RN_bipush (pc := 56) (n := -12) (v := -12) (by decide +kernel) (by decide) ?_
  obtain ⟨c65, h⟩ := ck_el h
  obtain ⟨x68, σ67, f66, h⟩ := bd_el h
  refine RN_callV (M := M_X12_load) (pc := 58) (idx := 380) (as := [.int (-12 : Int32)]) (st := []) (t_X12_refuse f66) (by decide +kernel) lk_RX12_380 rfl ⟨by decide, fun q hq => by cases hq; rfl⟩ c65 (Nat.le_of_ble_eq_true rfl) ⟨Nat.le_of_ble_eq_true rfl, Nat.le_of_ble_eq_true rfl⟩ rfl ?_
  show RN G M_X12_load 61 [some (.ref v0)] [.int x68] σ67 _ _
  obtain ⟨rfl, rfl⟩ := some_el2 h
  exact RN_ireturn (by decide +kernel) rfl
def b_X12_load_78 (n : Nat) (v0 : Nat) (σ : Sg) : Option (Int32 × Sg) :=
  ck (okO σ v0 11) <|
  bd (f_X12_refuse v0 (-13 : Int32) σ) fun x76 σ75 =>
  some (x76, σ75)
set_option maxRecDepth 20000 in
theorem tb_X12_load_78 {G : Gl} {xr : Int32} {σr : Sg} (n : Nat) (v0 : Nat) (σ : Sg) (h : b_X12_load_78 n v0 σ = some (xr, σr)) : RN G M_X12_load 78 [some (.ref v0)] [] σ (.inl (some (.int xr))) σr := by
  unfold b_X12_load_78 at h
  refine RN_aload_n (pc := 78) (k := 0) (by decide +kernel) rfl rfl ?_
  refine RN_bipush (pc := 79) (n := -13) (v := -13) (by decide +kernel) (by decide) ?_
  obtain ⟨c73, h⟩ := ck_el h
  obtain ⟨x76, σ75, f74, h⟩ := bd_el h
  refine RN_callV (M := M_X12_load) (pc := 81) (idx := 380) (as := [.int (-13 : Int32)]) (st := []) (t_X12_refuse f74) (by decide +kernel) lk_RX12_380 rfl ⟨by decide, fun q hq => by cases hq; rfl⟩ c73 (Nat.le_of_ble_eq_true rfl) ⟨Nat.le_of_ble_eq_true rfl, Nat.le_of_ble_eq_true rfl⟩ rfl ?_
  show RN G M_X12_load 84 [some (.ref v0)] [.int x76] σ75 _ _
  obtain ⟨rfl, rfl⟩ := some_el2 h
  exact RN_ireturn (by decide +kernel) rfl
def b_X12_load_160 (n : Nat) (v0 : Nat) (v3 : Int32) (σ : Sg) : Option (Int32 × Sg) :=
  ck (okO σ v0 11) <|
  nm (pI σ v0 3 v3) fun σ84 =>
  some (v3, σ84)
set_option maxRecDepth 20000 in
theorem tb_X12_load_160 {G : Gl} {xr : Int32} {σr : Sg} (n : Nat) (v0 : Nat) (v3 : Int32) (σ : Sg) (h : b_X12_load_160 n v0 v3 σ = some (xr, σr)) : RN G M_X12_load 160 [some (.ref v0), none, none, some (.int v3)] [] σ (.inl (some (.int xr))) σr := by
  unfold b_X12_load_160 at h
  refine RN_aload_n (pc := 160) (k := 0) (by decide +kernel) rfl rfl ?_
  refine RN_iload_n (pc := 161) (k := 3) (by decide +kernel) rfl rfl ?_
  obtain ⟨c83, h⟩ := ck_el h
  refine RN_putI (pc := 162) (idx := 137) (ci := 11) (k := 3) (by decide +kernel) lf_RX12_137 rfl (fun q hq => by cases hq; exact Or.inl rfl) c83 ?_
  obtain ⟨σ84, eσ84, h⟩ := nm_el h
  refine RN_nmS eσ84 ?_
  refine RN_iload_n (pc := 165) (k := 3) (by decide +kernel) rfl rfl ?_
  obtain ⟨rfl, rfl⟩ := some_el2 h
  exact RN_ireturn (by decide +kernel) rfl
def b_X12_load_126 : Nat → Nat → Int32 → Int32 → Int32 → Int32 → Sg → Option (Int32 × Sg)
  | 0, _, _, _, _, _, _ => none
  | n + 1, v0, v1, v2, v3, v4, σ =>
  if v3 ≤ v4 then (
    b_X12_load_160 n v0 v3 σ)
  else (
    ck (okO σ v0 11) <|
    ck (¬ gR σ v0 4 = 0) <|
    nm (gR σ v0 4) fun r87 =>
    ck (¬ gR σ v0 35 = 0) <|
    nm (gR σ v0 35) fun r89 =>
    ck (okA σ r89 14 ((((64 : Int32) * v1) + v2) + v4)) <|
    ck (okW σ r87 13 v4) <|
    nm (pI σ r87 v4.toNatClampNeg ((gJ σ r89 ((((64 : Int32) * v1) + v2) + v4).toNatClampNeg).toInt32)) fun σ92 =>
    nm (v4 + (1 : Int32)) fun x93 =>
    b_X12_load_126 n v0 v1 v2 v3 x93 σ92)
set_option maxRecDepth 20000 in
theorem tb_X12_load_126 {G : Gl} {xr : Int32} {σr : Sg} (v0 : Nat) (v1 : Int32) (v2 : Int32) (v3 : Int32) : ∀ (n : Nat) (v4 : Int32) (σ : Sg), b_X12_load_126 n v0 v1 v2 v3 v4 σ = some (xr, σr) → RN G M_X12_load 126 [some (.ref v0), some (.int v1), some (.int v2), some (.int v3), some (.int v4)] [] σ (.inl (some (.int xr))) σr := by
  intro n
  induction n with
  | zero =>
    intro v4 σ h
    exact none_el h
  | succ n ih =>
    intro v4 σ h
    rw [b_X12_load_126] at h
    refine RN_iload (pc := 126) (i := 4) (by decide +kernel) rfl ?_
    refine RN_iload_n (pc := 128) (k := 3) (by decide +kernel) rfl rfl ?_
    refine RN_icmp_ge (pc := 129) (off := 31) (tgt := 160) (by decide +kernel) (by decide) (fun c82 => ?_) (fun c82 => ?_)
    · replace h := it_t c82 h
      exact RN_weak (l := [some (.ref v0), none, none, some (.int v3)]) (And.intro rfl (And.intro rfl trivial)) (tb_X12_load_160 n v0 v3 σ h)
    · replace h := it_f c82 h
      refine RN_aload_n (pc := 132) (k := 0) (by decide +kernel) rfl rfl ?_
      obtain ⟨c85, h⟩ := ck_el h
      obtain ⟨c86, h⟩ := ck_el h
      refine RN_getR (pc := 133) (idx := 16) (ci := 11) (k := 4) (by decide +kernel) lf_RX12_16 rfl c85 c86 ?_
      obtain ⟨r87, er87, h⟩ := nm_el h
      refine RN_nmR er87 ?_
      refine RN_iload (pc := 136) (i := 4) (by decide +kernel) rfl ?_
      refine RN_aload_n (pc := 138) (k := 0) (by decide +kernel) rfl rfl ?_
      obtain ⟨c88, h⟩ := ck_el h
      refine RN_getR (pc := 139) (idx := 79) (ci := 11) (k := 35) (by decide +kernel) lf_RX12_79 rfl c85 c88 ?_
      obtain ⟨r89, er89, h⟩ := nm_el h
      refine RN_nmR er89 ?_
      refine RN_bipush (pc := 142) (n := 64) (v := 64) (by decide +kernel) (by decide) ?_
      refine RN_iload_n (pc := 144) (k := 1) (by decide +kernel) rfl rfl ?_
      refine RN_imul (pc := 145) (by decide +kernel) ?_
      refine RN_iload_n (pc := 146) (k := 2) (by decide +kernel) rfl rfl ?_
      refine RN_iadd (pc := 147) (by decide +kernel) ?_
      refine RN_iload (pc := 148) (i := 4) (by decide +kernel) rfl ?_
      refine RN_iadd (pc := 150) (by decide +kernel) ?_
      obtain ⟨c90, h⟩ := ck_el h
      refine RN_lald (pc := 151) (by decide +kernel) c90 ?_
      refine RN_l2i (pc := 152) (by decide +kernel) ?_
      obtain ⟨c91, h⟩ := ck_el h
      refine RN_iast (pc := 153) (by decide +kernel) c91 ?_
      obtain ⟨σ92, eσ92, h⟩ := nm_el h
      refine RN_nmS eσ92 ?_
      obtain ⟨x93, ex93, h⟩ := nm_el h
      refine RN_iinc (pc := 154) (i := 4) (n := 1) (v := x93) (ls2 := [some (.ref v0), some (.int v1), some (.int v2), some (.int v3), some (.int x93)]) (by decide +kernel) rfl (by rw [ex93]; rfl) (by decide) rfl ?_
      refine RN_goto (pc := 157) (off := -31) (tgt := 126) (by decide +kernel) (by decide) ?_
      exact RN_weak (l := [some (.ref v0), some (.int v1), some (.int v2), some (.int v3), some (.int x93)]) (And.intro rfl (And.intro rfl (And.intro rfl (And.intro rfl (And.intro rfl trivial))))) (ih x93 σ92 h)
def b_X12_load_123 (n : Nat) (v0 : Nat) (v1 : Int32) (v2 : Int32) (v3 : Int32) (σ : Sg) : Option (Int32 × Sg) :=
  b_X12_load_126 n v0 v1 v2 v3 (0 : Int32) σ
set_option maxRecDepth 20000 in
theorem tb_X12_load_123 {G : Gl} {xr : Int32} {σr : Sg} (n : Nat) (v0 : Nat) (v1 : Int32) (v2 : Int32) (v3 : Int32) (σ : Sg) (h : b_X12_load_123 n v0 v1 v2 v3 σ = some (xr, σr)) : RN G M_X12_load 123 [some (.ref v0), some (.int v1), some (.int v2), some (.int v3)] [] σ (.inl (some (.int xr))) σr := by
  unfold b_X12_load_123 at h
  refine RN_iconst (pc := 123) (n := 0) (v := 0) (by decide +kernel) (by decide) ?_
  refine RN_istore (pc := 124) (i := 4) (ls2 := [some (.ref v0), some (.int v1), some (.int v2), some (.int v3), some (.int (0 : Int32))]) (by decide +kernel) (by decide) rfl ?_
  exact RN_weak (l := [some (.ref v0), some (.int v1), some (.int v2), some (.int v3), some (.int (0 : Int32))]) (And.intro rfl (And.intro rfl (And.intro rfl (And.intro rfl (And.intro rfl trivial))))) (tb_X12_load_126 v0 v1 v2 v3 n (0 : Int32) σ h)
def b_X12_load_88 : Nat → Nat → Int32 → Int32 → Int32 → Int32 → Sg → Option (Int32 × Sg)
  | 0, _, _, _, _, _, _ => none
  | n + 1, v0, v1, v2, v3, v4, σ =>
  if v3 ≤ v4 then (
    b_X12_load_123 n v0 v1 v2 v3 σ)
  else (
    ck (okO σ v0 11) <|
    ck (¬ gR σ v0 35 = 0) <|
    nm (gR σ v0 35) fun r96 =>
    ck (okA σ r96 14 ((((64 : Int32) * v1) + v2) + v4)) <|
    bp (f_X12_isLine (gJ σ r96 ((((64 : Int32) * v1) + v2) + v4).toNatClampNeg)) fun x99 =>
    if x99 = 0 then (
      some ((-3 : Int32), σ))
    else (
      nm (v4 + (1 : Int32)) fun x101 =>
      b_X12_load_88 n v0 v1 v2 v3 x101 σ))
set_option maxRecDepth 20000 in
theorem tb_X12_load_88 {G : Gl} {xr : Int32} {σr : Sg} (v0 : Nat) (v1 : Int32) (v2 : Int32) (v3 : Int32) (σ : Sg) : ∀ (n : Nat) (v4 : Int32), b_X12_load_88 n v0 v1 v2 v3 v4 σ = some (xr, σr) → RN G M_X12_load 88 [some (.ref v0), some (.int v1), some (.int v2), some (.int v3), some (.int v4)] [] σ (.inl (some (.int xr))) σr := by
  intro n
  induction n with
  | zero =>
    intro v4 h
    exact none_el h
  | succ n ih =>
    intro v4 h
    rw [b_X12_load_88] at h
    refine RN_iload (pc := 88) (i := 4) (by decide +kernel) rfl ?_
    refine RN_iload_n (pc := 90) (k := 3) (by decide +kernel) rfl rfl ?_
    refine RN_icmp_ge (pc := 91) (off := 32) (tgt := 123) (by decide +kernel) (by decide) (fun c81 => ?_) (fun c81 => ?_)
    · replace h := it_t c81 h
      exact RN_weak (l := [some (.ref v0), some (.int v1), some (.int v2), some (.int v3)]) (And.intro rfl (And.intro rfl (And.intro rfl (And.intro rfl trivial)))) (tb_X12_load_123 n v0 v1 v2 v3 σ h)
    · replace h := it_f c81 h
      refine RN_aload_n (pc := 94) (k := 0) (by decide +kernel) rfl rfl ?_
      obtain ⟨c94, h⟩ := ck_el h
      obtain ⟨c95, h⟩ := ck_el h
      refine RN_getR (pc := 95) (idx := 79) (ci := 11) (k := 35) (by decide +kernel) lf_RX12_79 rfl c94 c95 ?_
      obtain ⟨r96, er96, h⟩ := nm_el h
      refine RN_nmR er96 ?_
      refine RN_bipush (pc := 98) (n := 64) (v := 64) (by decide +kernel) (by decide) ?_
      refine RN_iload_n (pc := 100) (k := 1) (by decide +kernel) rfl rfl ?_
      refine RN_imul (pc := 101) (by decide +kernel) ?_
      refine RN_iload_n (pc := 102) (k := 2) (by decide +kernel) rfl rfl ?_
      refine RN_iadd (pc := 103) (by decide +kernel) ?_
      refine RN_iload (pc := 104) (i := 4) (by decide +kernel) rfl ?_
      refine RN_iadd (pc := 106) (by decide +kernel) ?_
      obtain ⟨c97, h⟩ := ck_el h
      refine RN_lald (pc := 107) (by decide +kernel) c97 ?_
      obtain ⟨x99, f98, h⟩ := bp_el h
      refine RN_callS (M := M_X12_load) (pc := 108) (idx := 167) (as := [.long (gJ σ r96 ((((64 : Int32) * v1) + v2) + v4).toNatClampNeg)]) (st := []) (t_X12_isLine f98) (by decide +kernel) lk_RX12_167 rfl (Nat.le_of_ble_eq_true rfl) ⟨Nat.le_of_ble_eq_true rfl, Nat.le_of_ble_eq_true rfl⟩ rfl ?_
      show RN G M_X12_load 111 [some (.ref v0), some (.int v1), some (.int v2), some (.int v3), some (.int v4)] [.int x99] σ _ _
      refine RN_if_ne (pc := 111) (off := 6) (tgt := 117) (by decide +kernel) (by decide) (fun c100 => ?_) (fun c100 => ?_)
      · replace h := it_f c100 h
        obtain ⟨x101, ex101, h⟩ := nm_el h
        refine RN_iinc (pc := 117) (i := 4) (n := 1) (v := x101) (ls2 := [some (.ref v0), some (.int v1), some (.int v2), some (.int v3), some (.int x101)]) (by decide +kernel) rfl (by rw [ex101]; rfl) (by decide) rfl ?_
        refine RN_goto (pc := 120) (off := -32) (tgt := 88) (by decide +kernel) (by decide) ?_
        exact RN_weak (l := [some (.ref v0), some (.int v1), some (.int v2), some (.int v3), some (.int x101)]) (And.intro rfl (And.intro rfl (And.intro rfl (And.intro rfl (And.intro rfl trivial))))) (ih x101 h)
      · replace h := it_t c100 h
        refine RN_bipush (pc := 114) (n := -3) (v := -3) (by decide +kernel) (by decide) ?_
        obtain ⟨rfl, rfl⟩ := some_el2 h
        exact RN_ireturn (by decide +kernel) rfl
def f_X12_load (n : Nat) (v0 : Nat) (v1 : Int32) (v2 : Int32) (v3 : Int32) (σ : Sg) : Option (Int32 × Sg) :=
  bp (f_X12_isTape v1) fun x52 =>
  if x52 = 0 then (
    some ((-1 : Int32), σ))
  else (
    bp (f_X12_in v3 (0 : Int32) (12 : Int32)) fun x55 =>
    if x55 = 0 then (
      some ((-1 : Int32), σ))
    else (
      ck (okO σ v0 11) <|
      ck (¬ gR σ v0 33 = 0) <|
      nm (gR σ v0 33) fun r59 =>
      ck (okA σ r59 13 v1) <|
      if (gI σ r59 v1.toNatClampNeg) = 0 then (
        bd (f_X12_refuse v0 (-11 : Int32) σ) fun x104 σ103 =>
        some (x104, σ103))
      else (
        nm (gR σ v0 33) fun r62 =>
        ck (okA σ r62 13 v1) <|
        if (gI σ r62 v1.toNatClampNeg) = (1 : Int32) then (
          b_X12_load_55 n v0 σ)
        else (
          nm (gR σ v0 33) fun r69 =>
          ck (okA σ r69 13 v1) <|
          if (gI σ r69 v1.toNatClampNeg) = (5 : Int32) then (
            b_X12_load_55 n v0 σ)
          else (
            if v2 < 0 then (
              b_X12_load_78 n v0 σ)
            else (
              ck (¬ gR σ v0 34 = 0) <|
              nm (gR σ v0 34) fun r78 =>
              ck (okA σ r78 13 v1) <|
              if v3 ≤ ((gI σ r78 v1.toNatClampNeg) - v2) then (
                b_X12_load_88 n v0 v1 v2 v3 (0 : Int32) σ)
              else (
                b_X12_load_78 n v0 σ)))))))
set_option maxRecDepth 20000 in
theorem t_X12_load {G : Gl} {xr : Int32} {σr : Sg} {n : Nat} {v0 : Nat} {v1 : Int32} {v2 : Int32} {v3 : Int32} {σ : Sg} (h : f_X12_load n v0 v1 v2 v3 σ = some (xr, σr)) : MT G M_X12_load [.ref v0, .int v1, .int v2, .int v3] σ (some (.int xr)) σr := by
  refine MT_of rfl rfl (Nat.le_of_ble_eq_true rfl) ?_
  show RN G M_X12_load 0 [some (.ref v0), some (.int v1), some (.int v2), some (.int v3)] [] σ (.inl (some (.int xr))) σr
  unfold f_X12_load at h
  refine RN_iload_n (pc := 0) (k := 1) (by decide +kernel) rfl rfl ?_
  obtain ⟨x52, f51, h⟩ := bp_el h
  refine RN_callS (M := M_X12_load) (pc := 1) (idx := 377) (as := [.int v1]) (st := []) (t_X12_isTape f51) (by decide +kernel) lk_RX12_377 rfl (Nat.le_of_ble_eq_true rfl) ⟨Nat.le_of_ble_eq_true rfl, Nat.le_of_ble_eq_true rfl⟩ rfl ?_
  show RN G M_X12_load 4 [some (.ref v0), some (.int v1), some (.int v2), some (.int v3)] [.int x52] σ _ _
  refine RN_if_eq (pc := 4) (off := 13) (tgt := 17) (by decide +kernel) (by decide) (fun c53 => ?_) (fun c53 => ?_)
  · replace h := it_t c53 h
    refine RN_iconst (pc := 17) (n := -1) (v := -1) (by decide +kernel) (by decide) ?_
    obtain ⟨rfl, rfl⟩ := some_el2 h
    exact RN_ireturn (by decide +kernel) rfl
  · replace h := it_f c53 h
    refine RN_iload_n (pc := 7) (k := 3) (by decide +kernel) rfl rfl ?_
    refine RN_iconst (pc := 8) (n := 0) (v := 0) (by decide +kernel) (by decide) ?_
    refine RN_bipush (pc := 9) (n := 12) (v := 12) (by decide +kernel) (by decide) ?_
    obtain ⟨x55, f54, h⟩ := bp_el h
    refine RN_callS (M := M_X12_load) (pc := 11) (idx := 159) (as := [.int v3, .int (0 : Int32), .int (12 : Int32)]) (st := []) (t_X12_in f54) (by decide +kernel) lk_RX12_159 rfl (Nat.le_of_ble_eq_true rfl) ⟨Nat.le_of_ble_eq_true rfl, Nat.le_of_ble_eq_true rfl⟩ rfl ?_
    show RN G M_X12_load 14 [some (.ref v0), some (.int v1), some (.int v2), some (.int v3)] [.int x55] σ _ _
    refine RN_if_ne (pc := 14) (off := 5) (tgt := 19) (by decide +kernel) (by decide) (fun c56 => ?_) (fun c56 => ?_)
    · replace h := it_f c56 h
      refine RN_aload_n (pc := 19) (k := 0) (by decide +kernel) rfl rfl ?_
      obtain ⟨c57, h⟩ := ck_el h
      obtain ⟨c58, h⟩ := ck_el h
      refine RN_getR (pc := 20) (idx := 73) (ci := 11) (k := 33) (by decide +kernel) lf_RX12_73 rfl c57 c58 ?_
      obtain ⟨r59, er59, h⟩ := nm_el h
      refine RN_nmR er59 ?_
      refine RN_iload_n (pc := 23) (k := 1) (by decide +kernel) rfl rfl ?_
      obtain ⟨c60, h⟩ := ck_el h
      refine RN_iald (pc := 24) (by decide +kernel) c60 ?_
      refine RN_if_ne (pc := 25) (off := 10) (tgt := 35) (by decide +kernel) (by decide) (fun c61 => ?_) (fun c61 => ?_)
      · replace h := it_f c61 h
        refine RN_aload_n (pc := 35) (k := 0) (by decide +kernel) rfl rfl ?_
        refine RN_getR (pc := 36) (idx := 73) (ci := 11) (k := 33) (by decide +kernel) lf_RX12_73 rfl c57 c58 ?_
        obtain ⟨r62, er62, h⟩ := nm_el h
        refine RN_nmR er62 ?_
        refine RN_iload_n (pc := 39) (k := 1) (by decide +kernel) rfl rfl ?_
        obtain ⟨c63, h⟩ := ck_el h
        refine RN_iald (pc := 40) (by decide +kernel) c63 ?_
        refine RN_iconst (pc := 41) (n := 1) (v := 1) (by decide +kernel) (by decide) ?_
        refine RN_icmp_eq (pc := 42) (off := 13) (tgt := 55) (by decide +kernel) (by decide) (fun c64 => ?_) (fun c64 => ?_)
        · replace h := it_t c64 h
          exact RN_weak (l := [some (.ref v0)]) (And.intro rfl trivial) (tb_X12_load_55 n v0 σ h)
        · replace h := it_f c64 h
          refine RN_aload_n (pc := 45) (k := 0) (by decide +kernel) rfl rfl ?_
          refine RN_getR (pc := 46) (idx := 73) (ci := 11) (k := 33) (by decide +kernel) lf_RX12_73 rfl c57 c58 ?_
          obtain ⟨r69, er69, h⟩ := nm_el h
          refine RN_nmR er69 ?_
          refine RN_iload_n (pc := 49) (k := 1) (by decide +kernel) rfl rfl ?_
          obtain ⟨c70, h⟩ := ck_el h
          refine RN_iald (pc := 50) (by decide +kernel) c70 ?_
          refine RN_iconst (pc := 51) (n := 5) (v := 5) (by decide +kernel) (by decide) ?_
          refine RN_icmp_ne (pc := 52) (off := 10) (tgt := 62) (by decide +kernel) (by decide) (fun c71 => ?_) (fun c71 => ?_)
          · replace h := it_f c71 h
            refine RN_iload_n (pc := 62) (k := 2) (by decide +kernel) rfl rfl ?_
            refine RN_if_lt (pc := 63) (off := 15) (tgt := 78) (by decide +kernel) (by decide) (fun c72 => ?_) (fun c72 => ?_)
            · replace h := it_t c72 h
              exact RN_weak (l := [some (.ref v0)]) (And.intro rfl trivial) (tb_X12_load_78 n v0 σ h)
            · replace h := it_f c72 h
              refine RN_iload_n (pc := 66) (k := 3) (by decide +kernel) rfl rfl ?_
              refine RN_aload_n (pc := 67) (k := 0) (by decide +kernel) rfl rfl ?_
              obtain ⟨c77, h⟩ := ck_el h
              refine RN_getR (pc := 68) (idx := 76) (ci := 11) (k := 34) (by decide +kernel) lf_RX12_76 rfl c57 c77 ?_
              obtain ⟨r78, er78, h⟩ := nm_el h
              refine RN_nmR er78 ?_
              refine RN_iload_n (pc := 71) (k := 1) (by decide +kernel) rfl rfl ?_
              obtain ⟨c79, h⟩ := ck_el h
              refine RN_iald (pc := 72) (by decide +kernel) c79 ?_
              refine RN_iload_n (pc := 73) (k := 2) (by decide +kernel) rfl rfl ?_
              refine RN_isub (pc := 74) (by decide +kernel) ?_
              refine RN_icmp_le (pc := 75) (off := 10) (tgt := 85) (by decide +kernel) (by decide) (fun c80 => ?_) (fun c80 => ?_)
              · replace h := it_t c80 h
                refine RN_iconst (pc := 85) (n := 0) (v := 0) (by decide +kernel) (by decide) ?_
                refine RN_istore (pc := 86) (i := 4) (ls2 := [some (.ref v0), some (.int v1), some (.int v2), some (.int v3), some (.int (0 : Int32))]) (by decide +kernel) (by decide) rfl ?_
                exact RN_weak (l := [some (.ref v0), some (.int v1), some (.int v2), some (.int v3), some (.int (0 : Int32))]) (And.intro rfl (And.intro rfl (And.intro rfl (And.intro rfl (And.intro rfl trivial))))) (tb_X12_load_88 v0 v1 v2 v3 σ n (0 : Int32) h)
              · replace h := it_f c80 h
                exact RN_weak (l := [some (.ref v0)]) (And.intro rfl trivial) (tb_X12_load_78 n v0 σ h)
          · replace h := it_t c71 h
            exact RN_weak (l := [some (.ref v0)]) (And.intro rfl trivial) (tb_X12_load_55 n v0 σ h)
      · replace h := it_t c61 h
        refine RN_aload_n (pc := 28) (k := 0) (by decide +kernel) rfl rfl ?_
        refine RN_bipush (pc := 29) (n := -11) (v := -11) (by decide +kernel) (by decide) ?_
        obtain ⟨x104, σ103, f102, h⟩ := bd_el h
        refine RN_callV (M := M_X12_load) (pc := 31) (idx := 380) (as := [.int (-11 : Int32)]) (st := []) (t_X12_refuse f102) (by decide +kernel) lk_RX12_380 rfl ⟨by decide, fun q hq => by cases hq; rfl⟩ c57 (Nat.le_of_ble_eq_true rfl) ⟨Nat.le_of_ble_eq_true rfl, Nat.le_of_ble_eq_true rfl⟩ rfl ?_
        show RN G M_X12_load 34 [some (.ref v0), some (.int v1), some (.int v2), some (.int v3)] [.int x104] σ103 _ _
        obtain ⟨rfl, rfl⟩ := some_el2 h
        exact RN_ireturn (by decide +kernel) rfl
    · replace h := it_t c56 h
      refine RN_iconst (pc := 17) (n := -1) (v := -1) (by decide +kernel) (by decide) ?_
      obtain ⟨rfl, rfl⟩ := some_el2 h
      exact RN_ireturn (by decide +kernel) rfl
def f_X12_clear (v0 : Nat) (v1 : Int32) (σ : Sg) : Option (Int32 × Sg) :=
  bp (f_X12_isTape v1) fun x12 =>
  if x12 = 0 then (
    some ((-1 : Int32), σ))
  else (
    ck (okO σ v0 11) <|
    ck (¬ gR σ v0 33 = 0) <|
    nm (gR σ v0 33) fun r16 =>
    ck (okA σ r16 13 v1) <|
    nm (gI σ r16 v1.toNatClampNeg) fun x18 =>
    nm (gR σ v0 33) fun r19 =>
    ck (okW σ r19 13 v1) <|
    nm (pI σ r19 v1.toNatClampNeg (0 : Int32)) fun σ21 =>
    some (x18, σ21))
set_option maxRecDepth 20000 in
theorem t_X12_clear {G : Gl} {xr : Int32} {σr : Sg} {v0 : Nat} {v1 : Int32} {σ : Sg} (h : f_X12_clear v0 v1 σ = some (xr, σr)) : MT G M_X12_clear [.ref v0, .int v1] σ (some (.int xr)) σr := by
  refine MT_of rfl rfl (Nat.le_of_ble_eq_true rfl) ?_
  show RN G M_X12_clear 0 [some (.ref v0), some (.int v1)] [] σ (.inl (some (.int xr))) σr
  unfold f_X12_clear at h
  refine RN_iload_n (pc := 0) (k := 1) (by decide +kernel) rfl rfl ?_
  obtain ⟨x12, f11, h⟩ := bp_el h
  refine RN_callS (M := M_X12_clear) (pc := 1) (idx := 377) (as := [.int v1]) (st := []) (t_X12_isTape f11) (by decide +kernel) lk_RX12_377 rfl (Nat.le_of_ble_eq_true rfl) ⟨Nat.le_of_ble_eq_true rfl, Nat.le_of_ble_eq_true rfl⟩ rfl ?_
  show RN G M_X12_clear 4 [some (.ref v0), some (.int v1)] [.int x12] σ _ _
  refine RN_if_ne (pc := 4) (off := 5) (tgt := 9) (by decide +kernel) (by decide) (fun c13 => ?_) (fun c13 => ?_)
  · replace h := it_f c13 h
    refine RN_aload_n (pc := 9) (k := 0) (by decide +kernel) rfl rfl ?_
    obtain ⟨c14, h⟩ := ck_el h
    obtain ⟨c15, h⟩ := ck_el h
    refine RN_getR (pc := 10) (idx := 73) (ci := 11) (k := 33) (by decide +kernel) lf_RX12_73 rfl c14 c15 ?_
    obtain ⟨r16, er16, h⟩ := nm_el h
    refine RN_nmR er16 ?_
    refine RN_iload_n (pc := 13) (k := 1) (by decide +kernel) rfl rfl ?_
    obtain ⟨c17, h⟩ := ck_el h
    refine RN_iald (pc := 14) (by decide +kernel) c17 ?_
    obtain ⟨x18, ex18, h⟩ := nm_el h
    refine RN_nmI ex18 ?_
    refine RN_istore_n (pc := 15) (k := 2) (ls2 := [some (.ref v0), some (.int v1), some (.int x18)]) (by decide +kernel) rfl (by decide) rfl ?_
    refine RN_aload_n (pc := 16) (k := 0) (by decide +kernel) rfl rfl ?_
    refine RN_getR (pc := 17) (idx := 73) (ci := 11) (k := 33) (by decide +kernel) lf_RX12_73 rfl c14 c15 ?_
    obtain ⟨r19, er19, h⟩ := nm_el h
    refine RN_nmR er19 ?_
    refine RN_iload_n (pc := 20) (k := 1) (by decide +kernel) rfl rfl ?_
    refine RN_iconst (pc := 21) (n := 0) (v := 0) (by decide +kernel) (by decide) ?_
    obtain ⟨c20, h⟩ := ck_el h
    refine RN_iast (pc := 22) (by decide +kernel) c20 ?_
    obtain ⟨σ21, eσ21, h⟩ := nm_el h
    refine RN_nmS eσ21 ?_
    refine RN_iload_n (pc := 23) (k := 2) (by decide +kernel) rfl rfl ?_
    obtain ⟨rfl, rfl⟩ := some_el2 h
    exact RN_ireturn (by decide +kernel) rfl
  · replace h := it_t c13 h
    refine RN_iconst (pc := 7) (n := -1) (v := -1) (by decide +kernel) (by decide) ?_
    obtain ⟨rfl, rfl⟩ := some_el2 h
    exact RN_ireturn (by decide +kernel) rfl
def f_X12_narrowed (v0 : Int32) (v1 : Int64) : Option Int64 :=
  if v0 = (1 : Int32) then (
    some (((v1.toInt32).toInt8.toInt32).toInt64))
  else (
    if v0 = (2 : Int32) then (
      some (((v1.toInt32).toInt16.toInt32).toInt64))
    else (
      if v0 = (3 : Int32) then (
        some ((v1.toInt32).toInt64))
      else (
        some v1)))
set_option maxRecDepth 20000 in
theorem t_X12_narrowed {G : Gl} {xr : Int64} {v0 : Int32} {v1 : Int64} {σ : Sg} (h : f_X12_narrowed v0 v1 = some xr) : MT G M_X12_narrowed [.int v0, .long v1] σ (some (.long xr)) σ := by
  refine MT_of rfl rfl (Nat.le_of_ble_eq_true rfl) ?_
  show RN G M_X12_narrowed 0 [some (.int v0), some (.long v1), none] [] σ (.inl (some (.long xr))) σ
  unfold f_X12_narrowed at h
  refine RN_iload_n (pc := 0) (k := 0) (by decide +kernel) rfl rfl ?_
  refine RN_iconst (pc := 1) (n := 1) (v := 1) (by decide +kernel) (by decide) ?_
  refine RN_icmp_ne (pc := 2) (off := 10) (tgt := 12) (by decide +kernel) (by decide) (fun c1 => ?_) (fun c1 => ?_)
  · replace h := it_f c1 h
    refine RN_iload_n (pc := 12) (k := 0) (by decide +kernel) rfl rfl ?_
    refine RN_iconst (pc := 13) (n := 2) (v := 2) (by decide +kernel) (by decide) ?_
    refine RN_icmp_ne (pc := 14) (off := 10) (tgt := 24) (by decide +kernel) (by decide) (fun c2 => ?_) (fun c2 => ?_)
    · replace h := it_f c2 h
      refine RN_iload_n (pc := 24) (k := 0) (by decide +kernel) rfl rfl ?_
      refine RN_iconst (pc := 25) (n := 3) (v := 3) (by decide +kernel) (by decide) ?_
      refine RN_icmp_ne (pc := 26) (off := 9) (tgt := 35) (by decide +kernel) (by decide) (fun c3 => ?_) (fun c3 => ?_)
      · replace h := it_f c3 h
        refine RN_lload_n (pc := 35) (k := 1) (by decide +kernel) rfl rfl ?_
        obtain rfl := some_el h
        exact RN_lreturn (by decide +kernel) rfl
      · replace h := it_t c3 h
        refine RN_lload_n (pc := 29) (k := 1) (by decide +kernel) rfl rfl ?_
        refine RN_l2i (pc := 30) (by decide +kernel) ?_
        refine RN_i2l (pc := 31) (by decide +kernel) ?_
        refine RN_goto (pc := 32) (off := 4) (tgt := 36) (by decide +kernel) (by decide) ?_
        obtain rfl := some_el h
        exact RN_lreturn (by decide +kernel) rfl
    · replace h := it_t c2 h
      refine RN_lload_n (pc := 17) (k := 1) (by decide +kernel) rfl rfl ?_
      refine RN_l2i (pc := 18) (by decide +kernel) ?_
      refine RN_i2s (pc := 19) (by decide +kernel) ?_
      refine RN_i2l (pc := 20) (by decide +kernel) ?_
      refine RN_goto (pc := 21) (off := 15) (tgt := 36) (by decide +kernel) (by decide) ?_
      obtain rfl := some_el h
      exact RN_lreturn (by decide +kernel) rfl
  · replace h := it_t c1 h
    refine RN_lload_n (pc := 5) (k := 1) (by decide +kernel) rfl rfl ?_
    refine RN_l2i (pc := 6) (by decide +kernel) ?_
    refine RN_i2b (pc := 7) (by decide +kernel) ?_
    refine RN_i2l (pc := 8) (by decide +kernel) ?_
    refine RN_goto (pc := 9) (off := 27) (tgt := 36) (by decide +kernel) (by decide) ?_
    obtain rfl := some_el h
    exact RN_lreturn (by decide +kernel) rfl
def f_X12_put (v0 : Nat) (v1 : Int32) (v2 : Int32) (v3 : Int64) (σ : Sg) : Option (Int32 × Sg) :=
  bp (f_X12_isTape v1) fun x40 =>
  if x40 = 0 then (
    some ((-1 : Int32), σ))
  else (
    ck (okO σ v0 11) <|
    ck (¬ gR σ v0 33 = 0) <|
    nm (gR σ v0 33) fun r44 =>
    ck (okA σ r44 13 v1) <|
    if (gI σ r44 v1.toNatClampNeg) = 0 then (
      bd (f_X12_refuse v0 (-11 : Int32) σ) fun x72 σ71 =>
      some (x72, σ71))
    else (
      nm (gR σ v0 33) fun r47 =>
      ck (okA σ r47 13 v1) <|
      if (gI σ r47 v1.toNatClampNeg) = (5 : Int32) then (
        bd (f_X12_refuse v0 (-12 : Int32) σ) fun x69 σ68 =>
        some (x69, σ68))
      else (
        ck (¬ gR σ v0 34 = 0) <|
        nm (gR σ v0 34) fun r51 =>
        ck (okA σ r51 13 v1) <|
        bp (f_X12_in v2 (0 : Int32) ((gI σ r51 v1.toNatClampNeg) - (1 : Int32))) fun x54 =>
        if x54 = 0 then (
          bd (f_X12_refuse v0 (-13 : Int32) σ) fun x66 σ65 =>
          some (x66, σ65))
        else (
          ck (¬ gR σ v0 35 = 0) <|
          nm (gR σ v0 35) fun r57 =>
          nm (gR σ v0 33) fun r58 =>
          ck (okA σ r58 13 v1) <|
          bp (f_X12_narrowed (gI σ r58 v1.toNatClampNeg) v3) fun x61 =>
          ck (okW σ r57 14 (((64 : Int32) * v1) + v2)) <|
          nm (pJ σ r57 (((64 : Int32) * v1) + v2).toNatClampNeg x61) fun σ63 =>
          some ((1 : Int32), σ63)))))
set_option maxRecDepth 20000 in
theorem t_X12_put {G : Gl} {xr : Int32} {σr : Sg} {v0 : Nat} {v1 : Int32} {v2 : Int32} {v3 : Int64} {σ : Sg} (h : f_X12_put v0 v1 v2 v3 σ = some (xr, σr)) : MT G M_X12_put [.ref v0, .int v1, .int v2, .long v3] σ (some (.int xr)) σr := by
  refine MT_of rfl rfl (Nat.le_of_ble_eq_true rfl) ?_
  show RN G M_X12_put 0 [some (.ref v0), some (.int v1), some (.int v2), some (.long v3), none] [] σ (.inl (some (.int xr))) σr
  unfold f_X12_put at h
  refine RN_iload_n (pc := 0) (k := 1) (by decide +kernel) rfl rfl ?_
  obtain ⟨x40, f39, h⟩ := bp_el h
  refine RN_callS (M := M_X12_put) (pc := 1) (idx := 377) (as := [.int v1]) (st := []) (t_X12_isTape f39) (by decide +kernel) lk_RX12_377 rfl (Nat.le_of_ble_eq_true rfl) ⟨Nat.le_of_ble_eq_true rfl, Nat.le_of_ble_eq_true rfl⟩ rfl ?_
  show RN G M_X12_put 4 [some (.ref v0), some (.int v1), some (.int v2), some (.long v3), none] [.int x40] σ _ _
  refine RN_if_ne (pc := 4) (off := 5) (tgt := 9) (by decide +kernel) (by decide) (fun c41 => ?_) (fun c41 => ?_)
  · replace h := it_f c41 h
    refine RN_aload_n (pc := 9) (k := 0) (by decide +kernel) rfl rfl ?_
    obtain ⟨c42, h⟩ := ck_el h
    obtain ⟨c43, h⟩ := ck_el h
    refine RN_getR (pc := 10) (idx := 73) (ci := 11) (k := 33) (by decide +kernel) lf_RX12_73 rfl c42 c43 ?_
    obtain ⟨r44, er44, h⟩ := nm_el h
    refine RN_nmR er44 ?_
    refine RN_iload_n (pc := 13) (k := 1) (by decide +kernel) rfl rfl ?_
    obtain ⟨c45, h⟩ := ck_el h
    refine RN_iald (pc := 14) (by decide +kernel) c45 ?_
    refine RN_if_ne (pc := 15) (off := 10) (tgt := 25) (by decide +kernel) (by decide) (fun c46 => ?_) (fun c46 => ?_)
    · replace h := it_f c46 h
      refine RN_aload_n (pc := 25) (k := 0) (by decide +kernel) rfl rfl ?_
      refine RN_getR (pc := 26) (idx := 73) (ci := 11) (k := 33) (by decide +kernel) lf_RX12_73 rfl c42 c43 ?_
      obtain ⟨r47, er47, h⟩ := nm_el h
      refine RN_nmR er47 ?_
      refine RN_iload_n (pc := 29) (k := 1) (by decide +kernel) rfl rfl ?_
      obtain ⟨c48, h⟩ := ck_el h
      refine RN_iald (pc := 30) (by decide +kernel) c48 ?_
      refine RN_iconst (pc := 31) (n := 5) (v := 5) (by decide +kernel) (by decide) ?_
      refine RN_icmp_ne (pc := 32) (off := 10) (tgt := 42) (by decide +kernel) (by decide) (fun c49 => ?_) (fun c49 => ?_)
      · replace h := it_f c49 h
        refine RN_iload_n (pc := 42) (k := 2) (by decide +kernel) rfl rfl ?_
        refine RN_iconst (pc := 43) (n := 0) (v := 0) (by decide +kernel) (by decide) ?_
        refine RN_aload_n (pc := 44) (k := 0) (by decide +kernel) rfl rfl ?_
        obtain ⟨c50, h⟩ := ck_el h
        refine RN_getR (pc := 45) (idx := 76) (ci := 11) (k := 34) (by decide +kernel) lf_RX12_76 rfl c42 c50 ?_
        obtain ⟨r51, er51, h⟩ := nm_el h
        refine RN_nmR er51 ?_
        refine RN_iload_n (pc := 48) (k := 1) (by decide +kernel) rfl rfl ?_
        obtain ⟨c52, h⟩ := ck_el h
        refine RN_iald (pc := 49) (by decide +kernel) c52 ?_
        refine RN_iconst (pc := 50) (n := 1) (v := 1) (by decide +kernel) (by decide) ?_
        refine RN_isub (pc := 51) (by decide +kernel) ?_
        obtain ⟨x54, f53, h⟩ := bp_el h
        refine RN_callS (M := M_X12_put) (pc := 52) (idx := 159) (as := [.int v2, .int (0 : Int32), .int ((gI σ r51 v1.toNatClampNeg) - (1 : Int32))]) (st := []) (t_X12_in f53) (by decide +kernel) lk_RX12_159 rfl (Nat.le_of_ble_eq_true rfl) ⟨Nat.le_of_ble_eq_true rfl, Nat.le_of_ble_eq_true rfl⟩ rfl ?_
        show RN G M_X12_put 55 [some (.ref v0), some (.int v1), some (.int v2), some (.long v3), none] [.int x54] σ _ _
        refine RN_if_ne (pc := 55) (off := 10) (tgt := 65) (by decide +kernel) (by decide) (fun c55 => ?_) (fun c55 => ?_)
        · replace h := it_f c55 h
          refine RN_aload_n (pc := 65) (k := 0) (by decide +kernel) rfl rfl ?_
          obtain ⟨c56, h⟩ := ck_el h
          refine RN_getR (pc := 66) (idx := 79) (ci := 11) (k := 35) (by decide +kernel) lf_RX12_79 rfl c42 c56 ?_
          obtain ⟨r57, er57, h⟩ := nm_el h
          refine RN_nmR er57 ?_
          refine RN_bipush (pc := 69) (n := 64) (v := 64) (by decide +kernel) (by decide) ?_
          refine RN_iload_n (pc := 71) (k := 1) (by decide +kernel) rfl rfl ?_
          refine RN_imul (pc := 72) (by decide +kernel) ?_
          refine RN_iload_n (pc := 73) (k := 2) (by decide +kernel) rfl rfl ?_
          refine RN_iadd (pc := 74) (by decide +kernel) ?_
          refine RN_aload_n (pc := 75) (k := 0) (by decide +kernel) rfl rfl ?_
          refine RN_getR (pc := 76) (idx := 73) (ci := 11) (k := 33) (by decide +kernel) lf_RX12_73 rfl c42 c43 ?_
          obtain ⟨r58, er58, h⟩ := nm_el h
          refine RN_nmR er58 ?_
          refine RN_iload_n (pc := 79) (k := 1) (by decide +kernel) rfl rfl ?_
          obtain ⟨c59, h⟩ := ck_el h
          refine RN_iald (pc := 80) (by decide +kernel) c59 ?_
          refine RN_lload_n (pc := 81) (k := 3) (by decide +kernel) rfl rfl ?_
          obtain ⟨x61, f60, h⟩ := bp_el h
          refine RN_callS (M := M_X12_put) (pc := 82) (idx := 386) (as := [.int (gI σ r58 v1.toNatClampNeg), .long v3]) (st := [.int (((64 : Int32) * v1) + v2), .ref r57]) (t_X12_narrowed f60) (by decide +kernel) lk_RX12_386 rfl (Nat.le_of_ble_eq_true rfl) ⟨Nat.le_of_ble_eq_true rfl, Nat.le_of_ble_eq_true rfl⟩ rfl ?_
          show RN G M_X12_put 85 [some (.ref v0), some (.int v1), some (.int v2), some (.long v3), none] [.long x61, .int (((64 : Int32) * v1) + v2), .ref r57] σ _ _
          obtain ⟨c62, h⟩ := ck_el h
          refine RN_last (pc := 85) (by decide +kernel) c62 ?_
          obtain ⟨σ63, eσ63, h⟩ := nm_el h
          refine RN_nmS eσ63 ?_
          refine RN_iconst (pc := 86) (n := 1) (v := 1) (by decide +kernel) (by decide) ?_
          obtain ⟨rfl, rfl⟩ := some_el2 h
          exact RN_ireturn (by decide +kernel) rfl
        · replace h := it_t c55 h
          refine RN_aload_n (pc := 58) (k := 0) (by decide +kernel) rfl rfl ?_
          refine RN_bipush (pc := 59) (n := -13) (v := -13) (by decide +kernel) (by decide) ?_
          obtain ⟨x66, σ65, f64, h⟩ := bd_el h
          refine RN_callV (M := M_X12_put) (pc := 61) (idx := 380) (as := [.int (-13 : Int32)]) (st := []) (t_X12_refuse f64) (by decide +kernel) lk_RX12_380 rfl ⟨by decide, fun q hq => by cases hq; rfl⟩ c42 (Nat.le_of_ble_eq_true rfl) ⟨Nat.le_of_ble_eq_true rfl, Nat.le_of_ble_eq_true rfl⟩ rfl ?_
          show RN G M_X12_put 64 [some (.ref v0), some (.int v1), some (.int v2), some (.long v3), none] [.int x66] σ65 _ _
          obtain ⟨rfl, rfl⟩ := some_el2 h
          exact RN_ireturn (by decide +kernel) rfl
      · replace h := it_t c49 h
        refine RN_aload_n (pc := 35) (k := 0) (by decide +kernel) rfl rfl ?_
        refine RN_bipush (pc := 36) (n := -12) (v := -12) (by decide +kernel) (by decide) ?_
        obtain ⟨x69, σ68, f67, h⟩ := bd_el h
        refine RN_callV (M := M_X12_put) (pc := 38) (idx := 380) (as := [.int (-12 : Int32)]) (st := []) (t_X12_refuse f67) (by decide +kernel) lk_RX12_380 rfl ⟨by decide, fun q hq => by cases hq; rfl⟩ c42 (Nat.le_of_ble_eq_true rfl) ⟨Nat.le_of_ble_eq_true rfl, Nat.le_of_ble_eq_true rfl⟩ rfl ?_
        show RN G M_X12_put 41 [some (.ref v0), some (.int v1), some (.int v2), some (.long v3), none] [.int x69] σ68 _ _
        obtain ⟨rfl, rfl⟩ := some_el2 h
        exact RN_ireturn (by decide +kernel) rfl
    · replace h := it_t c46 h
      refine RN_aload_n (pc := 18) (k := 0) (by decide +kernel) rfl rfl ?_
      refine RN_bipush (pc := 19) (n := -11) (v := -11) (by decide +kernel) (by decide) ?_
      obtain ⟨x72, σ71, f70, h⟩ := bd_el h
      refine RN_callV (M := M_X12_put) (pc := 21) (idx := 380) (as := [.int (-11 : Int32)]) (st := []) (t_X12_refuse f70) (by decide +kernel) lk_RX12_380 rfl ⟨by decide, fun q hq => by cases hq; rfl⟩ c42 (Nat.le_of_ble_eq_true rfl) ⟨Nat.le_of_ble_eq_true rfl, Nat.le_of_ble_eq_true rfl⟩ rfl ?_
      show RN G M_X12_put 24 [some (.ref v0), some (.int v1), some (.int v2), some (.long v3), none] [.int x72] σ71 _ _
      obtain ⟨rfl, rfl⟩ := some_el2 h
      exact RN_ireturn (by decide +kernel) rfl
  · replace h := it_t c41 h
    refine RN_iconst (pc := 7) (n := -1) (v := -1) (by decide +kernel) (by decide) ?_
    obtain ⟨rfl, rfl⟩ := some_el2 h
    exact RN_ireturn (by decide +kernel) rfl
def b_X12_at_52 (v0 : Nat) (v1 : Int32) (v2 : Int32) (s0 : Int32) (s1 : Nat) (σ : Sg) : Option (Int64 × Sg) :=
  ck (okO σ s1 11) <|
  nm (pI σ s1 0 s0) fun σ33 =>
  ck (okO σ33 v0 11) <|
  if (gI σ33 v0 0) = 0 then (
    ck (¬ gR σ33 v0 35 = 0) <|
    nm (gR σ33 v0 35) fun r37 =>
    ck (okA σ33 r37 14 (((64 : Int32) * v1) + v2)) <|
    some (gJ σ33 r37 (((64 : Int32) * v1) + v2).toNatClampNeg, σ33))
  else (
    some ((0 : Int64), σ33))
set_option maxRecDepth 20000 in
theorem tb_X12_at_52 {G : Gl} {xr : Int64} {σr : Sg} (v0 : Nat) (v1 : Int32) (v2 : Int32) (s0 : Int32) (s1 : Nat) (σ : Sg) (h : b_X12_at_52 v0 v1 v2 s0 s1 σ = some (xr, σr)) : RN G M_X12_at 52 [some (.ref v0), some (.int v1), some (.int v2)] [.int s0, .ref s1] σ (.inl (some (.long xr))) σr := by
  unfold b_X12_at_52 at h
  obtain ⟨c32, h⟩ := ck_el h
  refine RN_putI (pc := 52) (idx := 131) (ci := 11) (k := 0) (by decide +kernel) lf_RX12_131 rfl (fun q hq => by cases hq; exact Or.inl rfl) c32 ?_
  obtain ⟨σ33, eσ33, h⟩ := nm_el h
  refine RN_nmS eσ33 ?_
  refine RN_aload_n (pc := 55) (k := 0) (by decide +kernel) rfl rfl ?_
  obtain ⟨c34, h⟩ := ck_el h
  refine RN_getI (pc := 56) (idx := 131) (ci := 11) (k := 0) (by decide +kernel) lf_RX12_131 (Or.inl rfl) c34 ?_
  refine RN_if_ne (pc := 59) (off := 17) (tgt := 76) (by decide +kernel) (by decide) (fun c35 => ?_) (fun c35 => ?_)
  · replace h := it_f c35 h
    refine RN_lconst (pc := 76) (n := 0) (v := 0) (by decide +kernel) (by decide) ?_
    obtain ⟨rfl, rfl⟩ := some_el2 h
    exact RN_lreturn (by decide +kernel) rfl
  · replace h := it_t c35 h
    refine RN_aload_n (pc := 62) (k := 0) (by decide +kernel) rfl rfl ?_
    obtain ⟨c36, h⟩ := ck_el h
    refine RN_getR (pc := 63) (idx := 79) (ci := 11) (k := 35) (by decide +kernel) lf_RX12_79 rfl c34 c36 ?_
    obtain ⟨r37, er37, h⟩ := nm_el h
    refine RN_nmR er37 ?_
    refine RN_bipush (pc := 66) (n := 64) (v := 64) (by decide +kernel) (by decide) ?_
    refine RN_iload_n (pc := 68) (k := 1) (by decide +kernel) rfl rfl ?_
    refine RN_imul (pc := 69) (by decide +kernel) ?_
    refine RN_iload_n (pc := 70) (k := 2) (by decide +kernel) rfl rfl ?_
    refine RN_iadd (pc := 71) (by decide +kernel) ?_
    obtain ⟨c38, h⟩ := ck_el h
    refine RN_lald (pc := 72) (by decide +kernel) c38 ?_
    refine RN_goto (pc := 73) (off := 4) (tgt := 77) (by decide +kernel) (by decide) ?_
    obtain ⟨rfl, rfl⟩ := some_el2 h
    exact RN_lreturn (by decide +kernel) rfl
def b_X12_at_47 (v0 : Nat) (v1 : Int32) (v2 : Int32) (s0 : Nat) (σ : Sg) : Option (Int64 × Sg) :=
  b_X12_at_52 v0 v1 v2 (2 : Int32) s0 σ
set_option maxRecDepth 20000 in
theorem tb_X12_at_47 {G : Gl} {xr : Int64} {σr : Sg} (v0 : Nat) (v1 : Int32) (v2 : Int32) (s0 : Nat) (σ : Sg) (h : b_X12_at_47 v0 v1 v2 s0 σ = some (xr, σr)) : RN G M_X12_at 47 [some (.ref v0), some (.int v1), some (.int v2)] [.ref s0] σ (.inl (some (.long xr))) σr := by
  unfold b_X12_at_47 at h
  refine RN_iconst (pc := 47) (n := 2) (v := 2) (by decide +kernel) (by decide) ?_
  refine RN_goto (pc := 48) (off := 4) (tgt := 52) (by decide +kernel) (by decide) ?_
  exact RN_weak (l := [some (.ref v0), some (.int v1), some (.int v2)]) (And.intro rfl (And.intro rfl (And.intro rfl trivial))) (tb_X12_at_52 v0 v1 v2 (2 : Int32) s0 σ h)
def f_X12_at (v0 : Nat) (v1 : Int32) (v2 : Int32) (σ : Sg) : Option (Int64 × Sg) :=
  bp (f_X12_isTape v1) fun x25 =>
  if x25 = 0 then (
    b_X12_at_52 v0 v1 v2 (1 : Int32) v0 σ)
  else (
    ck (okO σ v0 11) <|
    ck (¬ gR σ v0 33 = 0) <|
    nm (gR σ v0 33) fun r29 =>
    ck (okA σ r29 13 v1) <|
    if (gI σ r29 v1.toNatClampNeg) = 0 then (
      b_X12_at_47 v0 v1 v2 v0 σ)
    else (
      nm (gR σ v0 33) fun r39 =>
      ck (okA σ r39 13 v1) <|
      if (gI σ r39 v1.toNatClampNeg) = (5 : Int32) then (
        b_X12_at_47 v0 v1 v2 v0 σ)
      else (
        ck (¬ gR σ v0 34 = 0) <|
        nm (gR σ v0 34) fun r43 =>
        ck (okA σ r43 13 v1) <|
        bp (f_X12_in v2 (0 : Int32) ((gI σ r43 v1.toNatClampNeg) - (1 : Int32))) fun x46 =>
        if x46 = 0 then (
          b_X12_at_47 v0 v1 v2 v0 σ)
        else (
          b_X12_at_52 v0 v1 v2 (0 : Int32) v0 σ))))
set_option maxRecDepth 20000 in
theorem t_X12_at {G : Gl} {xr : Int64} {σr : Sg} {v0 : Nat} {v1 : Int32} {v2 : Int32} {σ : Sg} (h : f_X12_at v0 v1 v2 σ = some (xr, σr)) : MT G M_X12_at [.ref v0, .int v1, .int v2] σ (some (.long xr)) σr := by
  refine MT_of rfl rfl (Nat.le_of_ble_eq_true rfl) ?_
  show RN G M_X12_at 0 [some (.ref v0), some (.int v1), some (.int v2)] [] σ (.inl (some (.long xr))) σr
  unfold f_X12_at at h
  refine RN_aload_n (pc := 0) (k := 0) (by decide +kernel) rfl rfl ?_
  refine RN_iload_n (pc := 1) (k := 1) (by decide +kernel) rfl rfl ?_
  obtain ⟨x25, f24, h⟩ := bp_el h
  refine RN_callS (M := M_X12_at) (pc := 2) (idx := 377) (as := [.int v1]) (st := [.ref v0]) (t_X12_isTape f24) (by decide +kernel) lk_RX12_377 rfl (Nat.le_of_ble_eq_true rfl) ⟨Nat.le_of_ble_eq_true rfl, Nat.le_of_ble_eq_true rfl⟩ rfl ?_
  show RN G M_X12_at 5 [some (.ref v0), some (.int v1), some (.int v2)] [.int x25, .ref v0] σ _ _
  refine RN_if_ne (pc := 5) (off := 7) (tgt := 12) (by decide +kernel) (by decide) (fun c26 => ?_) (fun c26 => ?_)
  · replace h := it_f c26 h
    refine RN_aload_n (pc := 12) (k := 0) (by decide +kernel) rfl rfl ?_
    obtain ⟨c27, h⟩ := ck_el h
    obtain ⟨c28, h⟩ := ck_el h
    refine RN_getR (pc := 13) (idx := 73) (ci := 11) (k := 33) (by decide +kernel) lf_RX12_73 rfl c27 c28 ?_
    obtain ⟨r29, er29, h⟩ := nm_el h
    refine RN_nmR er29 ?_
    refine RN_iload_n (pc := 16) (k := 1) (by decide +kernel) rfl rfl ?_
    obtain ⟨c30, h⟩ := ck_el h
    refine RN_iald (pc := 17) (by decide +kernel) c30 ?_
    refine RN_if_eq (pc := 18) (off := 29) (tgt := 47) (by decide +kernel) (by decide) (fun c31 => ?_) (fun c31 => ?_)
    · replace h := it_t c31 h
      exact RN_weak (l := [some (.ref v0), some (.int v1), some (.int v2)]) (And.intro rfl (And.intro rfl (And.intro rfl trivial))) (tb_X12_at_47 v0 v1 v2 v0 σ h)
    · replace h := it_f c31 h
      refine RN_aload_n (pc := 21) (k := 0) (by decide +kernel) rfl rfl ?_
      refine RN_getR (pc := 22) (idx := 73) (ci := 11) (k := 33) (by decide +kernel) lf_RX12_73 rfl c27 c28 ?_
      obtain ⟨r39, er39, h⟩ := nm_el h
      refine RN_nmR er39 ?_
      refine RN_iload_n (pc := 25) (k := 1) (by decide +kernel) rfl rfl ?_
      obtain ⟨c40, h⟩ := ck_el h
      refine RN_iald (pc := 26) (by decide +kernel) c40 ?_
      refine RN_iconst (pc := 27) (n := 5) (v := 5) (by decide +kernel) (by decide) ?_
      refine RN_icmp_eq (pc := 28) (off := 19) (tgt := 47) (by decide +kernel) (by decide) (fun c41 => ?_) (fun c41 => ?_)
      · replace h := it_t c41 h
        exact RN_weak (l := [some (.ref v0), some (.int v1), some (.int v2)]) (And.intro rfl (And.intro rfl (And.intro rfl trivial))) (tb_X12_at_47 v0 v1 v2 v0 σ h)
      · replace h := it_f c41 h
        refine RN_iload_n (pc := 31) (k := 2) (by decide +kernel) rfl rfl ?_
        refine RN_iconst (pc := 32) (n := 0) (v := 0) (by decide +kernel) (by decide) ?_
        refine RN_aload_n (pc := 33) (k := 0) (by decide +kernel) rfl rfl ?_
        obtain ⟨c42, h⟩ := ck_el h
        refine RN_getR (pc := 34) (idx := 76) (ci := 11) (k := 34) (by decide +kernel) lf_RX12_76 rfl c27 c42 ?_
        obtain ⟨r43, er43, h⟩ := nm_el h
        refine RN_nmR er43 ?_
        refine RN_iload_n (pc := 37) (k := 1) (by decide +kernel) rfl rfl ?_
        obtain ⟨c44, h⟩ := ck_el h
        refine RN_iald (pc := 38) (by decide +kernel) c44 ?_
        refine RN_iconst (pc := 39) (n := 1) (v := 1) (by decide +kernel) (by decide) ?_
        refine RN_isub (pc := 40) (by decide +kernel) ?_
        obtain ⟨x46, f45, h⟩ := bp_el h
        refine RN_callS (M := M_X12_at) (pc := 41) (idx := 159) (as := [.int v2, .int (0 : Int32), .int ((gI σ r43 v1.toNatClampNeg) - (1 : Int32))]) (st := [.ref v0]) (t_X12_in f45) (by decide +kernel) lk_RX12_159 rfl (Nat.le_of_ble_eq_true rfl) ⟨Nat.le_of_ble_eq_true rfl, Nat.le_of_ble_eq_true rfl⟩ rfl ?_
        show RN G M_X12_at 44 [some (.ref v0), some (.int v1), some (.int v2)] [.int x46, .ref v0] σ _ _
        refine RN_if_ne (pc := 44) (off := 7) (tgt := 51) (by decide +kernel) (by decide) (fun c47 => ?_) (fun c47 => ?_)
        · replace h := it_f c47 h
          refine RN_iconst (pc := 51) (n := 0) (v := 0) (by decide +kernel) (by decide) ?_
          exact RN_weak (l := [some (.ref v0), some (.int v1), some (.int v2)]) (And.intro rfl (And.intro rfl (And.intro rfl trivial))) (tb_X12_at_52 v0 v1 v2 (0 : Int32) v0 σ h)
        · replace h := it_t c47 h
          exact RN_weak (l := [some (.ref v0), some (.int v1), some (.int v2)]) (And.intro rfl (And.intro rfl (And.intro rfl trivial))) (tb_X12_at_47 v0 v1 v2 v0 σ h)
  · replace h := it_t c26 h
    refine RN_iconst (pc := 8) (n := 1) (v := 1) (by decide +kernel) (by decide) ?_
    refine RN_goto (pc := 9) (off := 43) (tgt := 52) (by decide +kernel) (by decide) ?_
    exact RN_weak (l := [some (.ref v0), some (.int v1), some (.int v2)]) (And.intro rfl (And.intro rfl (And.intro rfl trivial))) (tb_X12_at_52 v0 v1 v2 (1 : Int32) v0 σ h)
def b_X12_copy_34 (n : Nat) (v0 : Nat) (σ : Sg) : Option (Int32 × Sg) :=
  ck (okO σ v0 11) <|
  bd (f_X12_refuse v0 (-11 : Int32) σ) fun x75 σ74 =>
  some (x75, σ74)
set_option maxRecDepth 20000 in
theorem tb_X12_copy_34 {G : Gl} {xr : Int32} {σr : Sg} (n : Nat) (v0 : Nat) (σ : Sg) (h : b_X12_copy_34 n v0 σ = some (xr, σr)) : RN G M_X12_copy 34 [some (.ref v0)] [] σ (.inl (some (.int xr))) σr := by
  unfold b_X12_copy_34 at h
  refine RN_aload_n (pc := 34) (k := 0) (by decide +kernel) rfl rfl ?_
  refine RN_bipush (pc := 35) (n := -11) (v := -11) (by decide +kernel) (by decide) ?_
  obtain ⟨c72, h⟩ := ck_el h
  obtain ⟨x75, σ74, f73, h⟩ := bd_el h
  refine RN_callV (M := M_X12_copy) (pc := 37) (idx := 380) (as := [.int (-11 : Int32)]) (st := []) (t_X12_refuse f73) (by decide +kernel) lk_RX12_380 rfl ⟨by decide, fun q hq => by cases hq; rfl⟩ c72 (Nat.le_of_ble_eq_true rfl) ⟨Nat.le_of_ble_eq_true rfl, Nat.le_of_ble_eq_true rfl⟩ rfl ?_
  show RN G M_X12_copy 40 [some (.ref v0)] [.int x75] σ74 _ _
  obtain ⟨rfl, rfl⟩ := some_el2 h
  exact RN_ireturn (by decide +kernel) rfl
def b_X12_copy_66 (n : Nat) (v0 : Nat) (σ : Sg) : Option (Int32 × Sg) :=
  ck (okO σ v0 11) <|
  bd (f_X12_refuse v0 (-12 : Int32) σ) fun x85 σ84 =>
  some (x85, σ84)
set_option maxRecDepth 20000 in
theorem tb_X12_copy_66 {G : Gl} {xr : Int32} {σr : Sg} (n : Nat) (v0 : Nat) (σ : Sg) (h : b_X12_copy_66 n v0 σ = some (xr, σr)) : RN G M_X12_copy 66 [some (.ref v0)] [] σ (.inl (some (.int xr))) σr := by
  unfold b_X12_copy_66 at h
  refine RN_aload_n (pc := 66) (k := 0) (by decide +kernel) rfl rfl ?_
  refine RN_bipush (pc := 67) (n := -12) (v := -12) (by decide +kernel) (by decide) ?_
  obtain ⟨c82, h⟩ := ck_el h
  obtain ⟨x85, σ84, f83, h⟩ := bd_el h
  refine RN_callV (M := M_X12_copy) (pc := 69) (idx := 380) (as := [.int (-12 : Int32)]) (st := []) (t_X12_refuse f83) (by decide +kernel) lk_RX12_380 rfl ⟨by decide, fun q hq => by cases hq; rfl⟩ c82 (Nat.le_of_ble_eq_true rfl) ⟨Nat.le_of_ble_eq_true rfl, Nat.le_of_ble_eq_true rfl⟩ rfl ?_
  show RN G M_X12_copy 72 [some (.ref v0)] [.int x85] σ84 _ _
  obtain ⟨rfl, rfl⟩ := some_el2 h
  exact RN_ireturn (by decide +kernel) rfl
def b_X12_copy_114 (n : Nat) (v0 : Nat) (σ : Sg) : Option (Int32 × Sg) :=
  ck (okO σ v0 11) <|
  bd (f_X12_refuse v0 (-13 : Int32) σ) fun x95 σ94 =>
  some (x95, σ94)
set_option maxRecDepth 20000 in
theorem tb_X12_copy_114 {G : Gl} {xr : Int32} {σr : Sg} (n : Nat) (v0 : Nat) (σ : Sg) (h : b_X12_copy_114 n v0 σ = some (xr, σr)) : RN G M_X12_copy 114 [some (.ref v0)] [] σ (.inl (some (.int xr))) σr := by
  unfold b_X12_copy_114 at h
  refine RN_aload_n (pc := 114) (k := 0) (by decide +kernel) rfl rfl ?_
  refine RN_bipush (pc := 115) (n := -13) (v := -13) (by decide +kernel) (by decide) ?_
  obtain ⟨c92, h⟩ := ck_el h
  obtain ⟨x95, σ94, f93, h⟩ := bd_el h
  refine RN_callV (M := M_X12_copy) (pc := 117) (idx := 380) (as := [.int (-13 : Int32)]) (st := []) (t_X12_refuse f93) (by decide +kernel) lk_RX12_380 rfl ⟨by decide, fun q hq => by cases hq; rfl⟩ c92 (Nat.le_of_ble_eq_true rfl) ⟨Nat.le_of_ble_eq_true rfl, Nat.le_of_ble_eq_true rfl⟩ rfl ?_
  show RN G M_X12_copy 120 [some (.ref v0)] [.int x95] σ94 _ _
  obtain ⟨rfl, rfl⟩ := some_el2 h
  exact RN_ireturn (by decide +kernel) rfl
def b_X12_copy_161 : Nat → Nat → Int32 → Int32 → Int32 → Int32 → Sg → Option (Int32 × Sg)
  | 0, _, _, _, _, _, _ => none
  | n + 1, v0, v3, v4, v5, v6, σ =>
  if v5 ≤ v6 then (
    some (v5, σ))
  else (
    ck (okO σ v0 11) <|
    ck (¬ gR σ v0 35 = 0) <|
    nm (gR σ v0 35) fun r109 =>
    ck (¬ gR σ v0 51 = 0) <|
    nm (gR σ v0 51) fun r111 =>
    ck (okA σ r111 14 v6) <|
    ck (okW σ r109 14 ((((64 : Int32) * v3) + v4) + v6)) <|
    nm (pJ σ r109 ((((64 : Int32) * v3) + v4) + v6).toNatClampNeg (gJ σ r111 v6.toNatClampNeg)) fun σ114 =>
    nm (v6 + (1 : Int32)) fun x115 =>
    b_X12_copy_161 n v0 v3 v4 v5 x115 σ114)
set_option maxRecDepth 20000 in
theorem tb_X12_copy_161 {G : Gl} {xr : Int32} {σr : Sg} (v0 : Nat) (v3 : Int32) (v4 : Int32) (v5 : Int32) : ∀ (n : Nat) (v6 : Int32) (σ : Sg), b_X12_copy_161 n v0 v3 v4 v5 v6 σ = some (xr, σr) → RN G M_X12_copy 161 [some (.ref v0), none, none, some (.int v3), some (.int v4), some (.int v5), some (.int v6)] [] σ (.inl (some (.int xr))) σr := by
  intro n
  induction n with
  | zero =>
    intro v6 σ h
    exact none_el h
  | succ n ih =>
    intro v6 σ h
    rw [b_X12_copy_161] at h
    refine RN_iload (pc := 161) (i := 6) (by decide +kernel) rfl ?_
    refine RN_iload (pc := 163) (i := 5) (by decide +kernel) rfl ?_
    refine RN_icmp_ge (pc := 165) (off := 31) (tgt := 196) (by decide +kernel) (by decide) (fun c106 => ?_) (fun c106 => ?_)
    · replace h := it_t c106 h
      refine RN_iload (pc := 196) (i := 5) (by decide +kernel) rfl ?_
      obtain ⟨rfl, rfl⟩ := some_el2 h
      exact RN_ireturn (by decide +kernel) rfl
    · replace h := it_f c106 h
      refine RN_aload_n (pc := 168) (k := 0) (by decide +kernel) rfl rfl ?_
      obtain ⟨c107, h⟩ := ck_el h
      obtain ⟨c108, h⟩ := ck_el h
      refine RN_getR (pc := 169) (idx := 79) (ci := 11) (k := 35) (by decide +kernel) lf_RX12_79 rfl c107 c108 ?_
      obtain ⟨r109, er109, h⟩ := nm_el h
      refine RN_nmR er109 ?_
      refine RN_bipush (pc := 172) (n := 64) (v := 64) (by decide +kernel) (by decide) ?_
      refine RN_iload_n (pc := 174) (k := 3) (by decide +kernel) rfl rfl ?_
      refine RN_imul (pc := 175) (by decide +kernel) ?_
      refine RN_iload (pc := 176) (i := 4) (by decide +kernel) rfl ?_
      refine RN_iadd (pc := 178) (by decide +kernel) ?_
      refine RN_iload (pc := 179) (i := 6) (by decide +kernel) rfl ?_
      refine RN_iadd (pc := 181) (by decide +kernel) ?_
      refine RN_aload_n (pc := 182) (k := 0) (by decide +kernel) rfl rfl ?_
      obtain ⟨c110, h⟩ := ck_el h
      refine RN_getR (pc := 183) (idx := 125) (ci := 11) (k := 51) (by decide +kernel) lf_RX12_125 rfl c107 c110 ?_
      obtain ⟨r111, er111, h⟩ := nm_el h
      refine RN_nmR er111 ?_
      refine RN_iload (pc := 186) (i := 6) (by decide +kernel) rfl ?_
      obtain ⟨c112, h⟩ := ck_el h
      refine RN_lald (pc := 188) (by decide +kernel) c112 ?_
      obtain ⟨c113, h⟩ := ck_el h
      refine RN_last (pc := 189) (by decide +kernel) c113 ?_
      obtain ⟨σ114, eσ114, h⟩ := nm_el h
      refine RN_nmS eσ114 ?_
      obtain ⟨x115, ex115, h⟩ := nm_el h
      refine RN_iinc (pc := 190) (i := 6) (n := 1) (v := x115) (ls2 := [some (.ref v0), none, none, some (.int v3), some (.int v4), some (.int v5), some (.int x115)]) (by decide +kernel) rfl (by rw [ex115]; rfl) (by decide) rfl ?_
      refine RN_goto (pc := 193) (off := -32) (tgt := 161) (by decide +kernel) (by decide) ?_
      exact RN_weak (l := [some (.ref v0), none, none, some (.int v3), some (.int v4), some (.int v5), some (.int x115)]) (And.intro rfl (And.intro rfl (And.intro rfl (And.intro rfl (And.intro rfl trivial))))) (ih x115 σ114 h)
def b_X12_copy_158 (n : Nat) (v0 : Nat) (v3 : Int32) (v4 : Int32) (v5 : Int32) (σ : Sg) : Option (Int32 × Sg) :=
  b_X12_copy_161 n v0 v3 v4 v5 (0 : Int32) σ
set_option maxRecDepth 20000 in
theorem tb_X12_copy_158 {G : Gl} {xr : Int32} {σr : Sg} (n : Nat) (v0 : Nat) (v3 : Int32) (v4 : Int32) (v5 : Int32) (σ : Sg) (h : b_X12_copy_158 n v0 v3 v4 v5 σ = some (xr, σr)) : RN G M_X12_copy 158 [some (.ref v0), none, none, some (.int v3), some (.int v4), some (.int v5)] [] σ (.inl (some (.int xr))) σr := by
  unfold b_X12_copy_158 at h
  refine RN_iconst (pc := 158) (n := 0) (v := 0) (by decide +kernel) (by decide) ?_
  refine RN_istore (pc := 159) (i := 6) (ls2 := [some (.ref v0), none, none, some (.int v3), some (.int v4), some (.int v5), some (.int (0 : Int32))]) (by decide +kernel) (by decide) rfl ?_
  exact RN_weak (l := [some (.ref v0), none, none, some (.int v3), some (.int v4), some (.int v5), some (.int (0 : Int32))]) (And.intro rfl (And.intro rfl (And.intro rfl (And.intro rfl (And.intro rfl trivial))))) (tb_X12_copy_161 v0 v3 v4 v5 n (0 : Int32) σ h)
def b_X12_copy_124 : Nat → Nat → Int32 → Int32 → Int32 → Int32 → Int32 → Int32 → Sg → Option (Int32 × Sg)
  | 0, _, _, _, _, _, _, _, _ => none
  | n + 1, v0, v1, v2, v3, v4, v5, v6, σ =>
  if v5 ≤ v6 then (
    b_X12_copy_158 n v0 v3 v4 v5 σ)
  else (
    ck (okO σ v0 11) <|
    ck (¬ gR σ v0 51 = 0) <|
    nm (gR σ v0 51) fun r118 =>
    ck (¬ gR σ v0 35 = 0) <|
    nm (gR σ v0 35) fun r120 =>
    ck (okA σ r120 14 ((((64 : Int32) * v1) + v2) + v6)) <|
    ck (okW σ r118 14 v6) <|
    nm (pJ σ r118 v6.toNatClampNeg (gJ σ r120 ((((64 : Int32) * v1) + v2) + v6).toNatClampNeg)) fun σ123 =>
    nm (v6 + (1 : Int32)) fun x124 =>
    b_X12_copy_124 n v0 v1 v2 v3 v4 v5 x124 σ123)
set_option maxRecDepth 20000 in
theorem tb_X12_copy_124 {G : Gl} {xr : Int32} {σr : Sg} (v0 : Nat) (v1 : Int32) (v2 : Int32) (v3 : Int32) (v4 : Int32) (v5 : Int32) : ∀ (n : Nat) (v6 : Int32) (σ : Sg), b_X12_copy_124 n v0 v1 v2 v3 v4 v5 v6 σ = some (xr, σr) → RN G M_X12_copy 124 [some (.ref v0), some (.int v1), some (.int v2), some (.int v3), some (.int v4), some (.int v5), some (.int v6)] [] σ (.inl (some (.int xr))) σr := by
  intro n
  induction n with
  | zero =>
    intro v6 σ h
    exact none_el h
  | succ n ih =>
    intro v6 σ h
    rw [b_X12_copy_124] at h
    refine RN_iload (pc := 124) (i := 6) (by decide +kernel) rfl ?_
    refine RN_iload (pc := 126) (i := 5) (by decide +kernel) rfl ?_
    refine RN_icmp_ge (pc := 128) (off := 30) (tgt := 158) (by decide +kernel) (by decide) (fun c105 => ?_) (fun c105 => ?_)
    · replace h := it_t c105 h
      exact RN_weak (l := [some (.ref v0), none, none, some (.int v3), some (.int v4), some (.int v5)]) (And.intro rfl (And.intro rfl (And.intro rfl (And.intro rfl trivial)))) (tb_X12_copy_158 n v0 v3 v4 v5 σ h)
    · replace h := it_f c105 h
      refine RN_aload_n (pc := 131) (k := 0) (by decide +kernel) rfl rfl ?_
      obtain ⟨c116, h⟩ := ck_el h
      obtain ⟨c117, h⟩ := ck_el h
      refine RN_getR (pc := 132) (idx := 125) (ci := 11) (k := 51) (by decide +kernel) lf_RX12_125 rfl c116 c117 ?_
      obtain ⟨r118, er118, h⟩ := nm_el h
      refine RN_nmR er118 ?_
      refine RN_iload (pc := 135) (i := 6) (by decide +kernel) rfl ?_
      refine RN_aload_n (pc := 137) (k := 0) (by decide +kernel) rfl rfl ?_
      obtain ⟨c119, h⟩ := ck_el h
      refine RN_getR (pc := 138) (idx := 79) (ci := 11) (k := 35) (by decide +kernel) lf_RX12_79 rfl c116 c119 ?_
      obtain ⟨r120, er120, h⟩ := nm_el h
      refine RN_nmR er120 ?_
      refine RN_bipush (pc := 141) (n := 64) (v := 64) (by decide +kernel) (by decide) ?_
      refine RN_iload_n (pc := 143) (k := 1) (by decide +kernel) rfl rfl ?_
      refine RN_imul (pc := 144) (by decide +kernel) ?_
      refine RN_iload_n (pc := 145) (k := 2) (by decide +kernel) rfl rfl ?_
      refine RN_iadd (pc := 146) (by decide +kernel) ?_
      refine RN_iload (pc := 147) (i := 6) (by decide +kernel) rfl ?_
      refine RN_iadd (pc := 149) (by decide +kernel) ?_
      obtain ⟨c121, h⟩ := ck_el h
      refine RN_lald (pc := 150) (by decide +kernel) c121 ?_
      obtain ⟨c122, h⟩ := ck_el h
      refine RN_last (pc := 151) (by decide +kernel) c122 ?_
      obtain ⟨σ123, eσ123, h⟩ := nm_el h
      refine RN_nmS eσ123 ?_
      obtain ⟨x124, ex124, h⟩ := nm_el h
      refine RN_iinc (pc := 152) (i := 6) (n := 1) (v := x124) (ls2 := [some (.ref v0), some (.int v1), some (.int v2), some (.int v3), some (.int v4), some (.int v5), some (.int x124)]) (by decide +kernel) rfl (by rw [ex124]; rfl) (by decide) rfl ?_
      refine RN_goto (pc := 155) (off := -31) (tgt := 124) (by decide +kernel) (by decide) ?_
      exact RN_weak (l := [some (.ref v0), some (.int v1), some (.int v2), some (.int v3), some (.int v4), some (.int v5), some (.int x124)]) (And.intro rfl (And.intro rfl (And.intro rfl (And.intro rfl (And.intro rfl (And.intro rfl (And.intro rfl trivial))))))) (ih x124 σ123 h)
def f_X12_copy (n : Nat) (v0 : Nat) (v1 : Int32) (v2 : Int32) (v3 : Int32) (v4 : Int32) (v5 : Int32) (σ : Sg) : Option (Int32 × Sg) :=
  bp (f_X12_isTape v1) fun x62 =>
  if x62 = 0 then (
    some ((-1 : Int32), σ))
  else (
    bp (f_X12_isTape v3) fun x65 =>
    if x65 = 0 then (
      some ((-1 : Int32), σ))
    else (
      ck (okO σ v0 11) <|
      ck (¬ gR σ v0 33 = 0) <|
      nm (gR σ v0 33) fun r69 =>
      ck (okA σ r69 13 v1) <|
      if (gI σ r69 v1.toNatClampNeg) = 0 then (
        b_X12_copy_34 n v0 σ)
      else (
        nm (gR σ v0 33) fun r76 =>
        ck (okA σ r76 13 v3) <|
        if (gI σ r76 v3.toNatClampNeg) = 0 then (
          b_X12_copy_34 n v0 σ)
        else (
          nm (gR σ v0 33) fun r79 =>
          ck (okA σ r79 13 v1) <|
          if (gI σ r79 v1.toNatClampNeg) = (5 : Int32) then (
            b_X12_copy_66 n v0 σ)
          else (
            nm (gR σ v0 33) fun r86 =>
            ck (okA σ r86 13 v1) <|
            nm (gR σ v0 33) fun r88 =>
            ck (okA σ r88 13 v3) <|
            if (gI σ r86 v1.toNatClampNeg) = (gI σ r88 v3.toNatClampNeg) then (
              if v5 < 0 then (
                b_X12_copy_114 n v0 σ)
              else (
                if v2 < 0 then (
                  b_X12_copy_114 n v0 σ)
                else (
                  if v4 < 0 then (
                    b_X12_copy_114 n v0 σ)
                  else (
                    ck (¬ gR σ v0 34 = 0) <|
                    nm (gR σ v0 34) fun r99 =>
                    ck (okA σ r99 13 v1) <|
                    if ((gI σ r99 v1.toNatClampNeg) - v2) < v5 then (
                      b_X12_copy_114 n v0 σ)
                    else (
                      nm (gR σ v0 34) fun r102 =>
                      ck (okA σ r102 13 v3) <|
                      if v5 ≤ ((gI σ r102 v3.toNatClampNeg) - v4) then (
                        b_X12_copy_124 n v0 v1 v2 v3 v4 v5 (0 : Int32) σ)
                      else (
                        b_X12_copy_114 n v0 σ))))))
            else (
              b_X12_copy_66 n v0 σ))))))
set_option maxRecDepth 20000 in
theorem t_X12_copy {G : Gl} {xr : Int32} {σr : Sg} {n : Nat} {v0 : Nat} {v1 : Int32} {v2 : Int32} {v3 : Int32} {v4 : Int32} {v5 : Int32} {σ : Sg} (h : f_X12_copy n v0 v1 v2 v3 v4 v5 σ = some (xr, σr)) : MT G M_X12_copy [.ref v0, .int v1, .int v2, .int v3, .int v4, .int v5] σ (some (.int xr)) σr := by
  refine MT_of rfl rfl (Nat.le_of_ble_eq_true rfl) ?_
  show RN G M_X12_copy 0 [some (.ref v0), some (.int v1), some (.int v2), some (.int v3), some (.int v4), some (.int v5)] [] σ (.inl (some (.int xr))) σr
  unfold f_X12_copy at h
  refine RN_iload_n (pc := 0) (k := 1) (by decide +kernel) rfl rfl ?_
  obtain ⟨x62, f61, h⟩ := bp_el h
  refine RN_callS (M := M_X12_copy) (pc := 1) (idx := 377) (as := [.int v1]) (st := []) (t_X12_isTape f61) (by decide +kernel) lk_RX12_377 rfl (Nat.le_of_ble_eq_true rfl) ⟨Nat.le_of_ble_eq_true rfl, Nat.le_of_ble_eq_true rfl⟩ rfl ?_
  show RN G M_X12_copy 4 [some (.ref v0), some (.int v1), some (.int v2), some (.int v3), some (.int v4), some (.int v5)] [.int x62] σ _ _
  refine RN_if_eq (pc := 4) (off := 10) (tgt := 14) (by decide +kernel) (by decide) (fun c63 => ?_) (fun c63 => ?_)
  · replace h := it_t c63 h
    refine RN_iconst (pc := 14) (n := -1) (v := -1) (by decide +kernel) (by decide) ?_
    obtain ⟨rfl, rfl⟩ := some_el2 h
    exact RN_ireturn (by decide +kernel) rfl
  · replace h := it_f c63 h
    refine RN_iload_n (pc := 7) (k := 3) (by decide +kernel) rfl rfl ?_
    obtain ⟨x65, f64, h⟩ := bp_el h
    refine RN_callS (M := M_X12_copy) (pc := 8) (idx := 377) (as := [.int v3]) (st := []) (t_X12_isTape f64) (by decide +kernel) lk_RX12_377 rfl (Nat.le_of_ble_eq_true rfl) ⟨Nat.le_of_ble_eq_true rfl, Nat.le_of_ble_eq_true rfl⟩ rfl ?_
    show RN G M_X12_copy 11 [some (.ref v0), some (.int v1), some (.int v2), some (.int v3), some (.int v4), some (.int v5)] [.int x65] σ _ _
    refine RN_if_ne (pc := 11) (off := 5) (tgt := 16) (by decide +kernel) (by decide) (fun c66 => ?_) (fun c66 => ?_)
    · replace h := it_f c66 h
      refine RN_aload_n (pc := 16) (k := 0) (by decide +kernel) rfl rfl ?_
      obtain ⟨c67, h⟩ := ck_el h
      obtain ⟨c68, h⟩ := ck_el h
      refine RN_getR (pc := 17) (idx := 73) (ci := 11) (k := 33) (by decide +kernel) lf_RX12_73 rfl c67 c68 ?_
      obtain ⟨r69, er69, h⟩ := nm_el h
      refine RN_nmR er69 ?_
      refine RN_iload_n (pc := 20) (k := 1) (by decide +kernel) rfl rfl ?_
      obtain ⟨c70, h⟩ := ck_el h
      refine RN_iald (pc := 21) (by decide +kernel) c70 ?_
      refine RN_if_eq (pc := 22) (off := 12) (tgt := 34) (by decide +kernel) (by decide) (fun c71 => ?_) (fun c71 => ?_)
      · replace h := it_t c71 h
        exact RN_weak (l := [some (.ref v0)]) (And.intro rfl trivial) (tb_X12_copy_34 n v0 σ h)
      · replace h := it_f c71 h
        refine RN_aload_n (pc := 25) (k := 0) (by decide +kernel) rfl rfl ?_
        refine RN_getR (pc := 26) (idx := 73) (ci := 11) (k := 33) (by decide +kernel) lf_RX12_73 rfl c67 c68 ?_
        obtain ⟨r76, er76, h⟩ := nm_el h
        refine RN_nmR er76 ?_
        refine RN_iload_n (pc := 29) (k := 3) (by decide +kernel) rfl rfl ?_
        obtain ⟨c77, h⟩ := ck_el h
        refine RN_iald (pc := 30) (by decide +kernel) c77 ?_
        refine RN_if_ne (pc := 31) (off := 10) (tgt := 41) (by decide +kernel) (by decide) (fun c78 => ?_) (fun c78 => ?_)
        · replace h := it_f c78 h
          refine RN_aload_n (pc := 41) (k := 0) (by decide +kernel) rfl rfl ?_
          refine RN_getR (pc := 42) (idx := 73) (ci := 11) (k := 33) (by decide +kernel) lf_RX12_73 rfl c67 c68 ?_
          obtain ⟨r79, er79, h⟩ := nm_el h
          refine RN_nmR er79 ?_
          refine RN_iload_n (pc := 45) (k := 1) (by decide +kernel) rfl rfl ?_
          obtain ⟨c80, h⟩ := ck_el h
          refine RN_iald (pc := 46) (by decide +kernel) c80 ?_
          refine RN_iconst (pc := 47) (n := 5) (v := 5) (by decide +kernel) (by decide) ?_
          refine RN_icmp_eq (pc := 48) (off := 18) (tgt := 66) (by decide +kernel) (by decide) (fun c81 => ?_) (fun c81 => ?_)
          · replace h := it_t c81 h
            exact RN_weak (l := [some (.ref v0)]) (And.intro rfl trivial) (tb_X12_copy_66 n v0 σ h)
          · replace h := it_f c81 h
            refine RN_aload_n (pc := 51) (k := 0) (by decide +kernel) rfl rfl ?_
            refine RN_getR (pc := 52) (idx := 73) (ci := 11) (k := 33) (by decide +kernel) lf_RX12_73 rfl c67 c68 ?_
            obtain ⟨r86, er86, h⟩ := nm_el h
            refine RN_nmR er86 ?_
            refine RN_iload_n (pc := 55) (k := 1) (by decide +kernel) rfl rfl ?_
            obtain ⟨c87, h⟩ := ck_el h
            refine RN_iald (pc := 56) (by decide +kernel) c87 ?_
            refine RN_aload_n (pc := 57) (k := 0) (by decide +kernel) rfl rfl ?_
            refine RN_getR (pc := 58) (idx := 73) (ci := 11) (k := 33) (by decide +kernel) lf_RX12_73 rfl c67 c68 ?_
            obtain ⟨r88, er88, h⟩ := nm_el h
            refine RN_nmR er88 ?_
            refine RN_iload_n (pc := 61) (k := 3) (by decide +kernel) rfl rfl ?_
            obtain ⟨c89, h⟩ := ck_el h
            refine RN_iald (pc := 62) (by decide +kernel) c89 ?_
            refine RN_icmp_eq (pc := 63) (off := 10) (tgt := 73) (by decide +kernel) (by decide) (fun c90 => ?_) (fun c90 => ?_)
            · replace h := it_t c90 h
              refine RN_iload (pc := 73) (i := 5) (by decide +kernel) rfl ?_
              refine RN_if_lt (pc := 75) (off := 39) (tgt := 114) (by decide +kernel) (by decide) (fun c91 => ?_) (fun c91 => ?_)
              · replace h := it_t c91 h
                exact RN_weak (l := [some (.ref v0)]) (And.intro rfl trivial) (tb_X12_copy_114 n v0 σ h)
              · replace h := it_f c91 h
                refine RN_iload_n (pc := 78) (k := 2) (by decide +kernel) rfl rfl ?_
                refine RN_if_lt (pc := 79) (off := 35) (tgt := 114) (by decide +kernel) (by decide) (fun c96 => ?_) (fun c96 => ?_)
                · replace h := it_t c96 h
                  exact RN_weak (l := [some (.ref v0)]) (And.intro rfl trivial) (tb_X12_copy_114 n v0 σ h)
                · replace h := it_f c96 h
                  refine RN_iload (pc := 82) (i := 4) (by decide +kernel) rfl ?_
                  refine RN_if_lt (pc := 84) (off := 30) (tgt := 114) (by decide +kernel) (by decide) (fun c97 => ?_) (fun c97 => ?_)
                  · replace h := it_t c97 h
                    exact RN_weak (l := [some (.ref v0)]) (And.intro rfl trivial) (tb_X12_copy_114 n v0 σ h)
                  · replace h := it_f c97 h
                    refine RN_iload (pc := 87) (i := 5) (by decide +kernel) rfl ?_
                    refine RN_aload_n (pc := 89) (k := 0) (by decide +kernel) rfl rfl ?_
                    obtain ⟨c98, h⟩ := ck_el h
                    refine RN_getR (pc := 90) (idx := 76) (ci := 11) (k := 34) (by decide +kernel) lf_RX12_76 rfl c67 c98 ?_
                    obtain ⟨r99, er99, h⟩ := nm_el h
                    refine RN_nmR er99 ?_
                    refine RN_iload_n (pc := 93) (k := 1) (by decide +kernel) rfl rfl ?_
                    obtain ⟨c100, h⟩ := ck_el h
                    refine RN_iald (pc := 94) (by decide +kernel) c100 ?_
                    refine RN_iload_n (pc := 95) (k := 2) (by decide +kernel) rfl rfl ?_
                    refine RN_isub (pc := 96) (by decide +kernel) ?_
                    refine RN_icmp_gt (pc := 97) (off := 17) (tgt := 114) (by decide +kernel) (by decide) (fun c101 => ?_) (fun c101 => ?_)
                    · replace h := it_t c101 h
                      exact RN_weak (l := [some (.ref v0)]) (And.intro rfl trivial) (tb_X12_copy_114 n v0 σ h)
                    · replace h := it_f c101 h
                      refine RN_iload (pc := 100) (i := 5) (by decide +kernel) rfl ?_
                      refine RN_aload_n (pc := 102) (k := 0) (by decide +kernel) rfl rfl ?_
                      refine RN_getR (pc := 103) (idx := 76) (ci := 11) (k := 34) (by decide +kernel) lf_RX12_76 rfl c67 c98 ?_
                      obtain ⟨r102, er102, h⟩ := nm_el h
                      refine RN_nmR er102 ?_
                      refine RN_iload_n (pc := 106) (k := 3) (by decide +kernel) rfl rfl ?_
                      obtain ⟨c103, h⟩ := ck_el h
                      refine RN_iald (pc := 107) (by decide +kernel) c103 ?_
                      refine RN_iload (pc := 108) (i := 4) (by decide +kernel) rfl ?_
                      refine RN_isub (pc := 110) (by decide +kernel) ?_
                      refine RN_icmp_le (pc := 111) (off := 10) (tgt := 121) (by decide +kernel) (by decide) (fun c104 => ?_) (fun c104 => ?_)
                      · replace h := it_t c104 h
                        refine RN_iconst (pc := 121) (n := 0) (v := 0) (by decide +kernel) (by decide) ?_
                        refine RN_istore (pc := 122) (i := 6) (ls2 := [some (.ref v0), some (.int v1), some (.int v2), some (.int v3), some (.int v4), some (.int v5), some (.int (0 : Int32))]) (by decide +kernel) (by decide) rfl ?_
                        exact RN_weak (l := [some (.ref v0), some (.int v1), some (.int v2), some (.int v3), some (.int v4), some (.int v5), some (.int (0 : Int32))]) (And.intro rfl (And.intro rfl (And.intro rfl (And.intro rfl (And.intro rfl (And.intro rfl (And.intro rfl trivial))))))) (tb_X12_copy_124 v0 v1 v2 v3 v4 v5 n (0 : Int32) σ h)
                      · replace h := it_f c104 h
                        exact RN_weak (l := [some (.ref v0)]) (And.intro rfl trivial) (tb_X12_copy_114 n v0 σ h)
            · replace h := it_f c90 h
              exact RN_weak (l := [some (.ref v0)]) (And.intro rfl trivial) (tb_X12_copy_66 n v0 σ h)
        · replace h := it_t c78 h
          exact RN_weak (l := [some (.ref v0)]) (And.intro rfl trivial) (tb_X12_copy_34 n v0 σ h)
    · replace h := it_t c66 h
      refine RN_iconst (pc := 14) (n := -1) (v := -1) (by decide +kernel) (by decide) ?_
      obtain ⟨rfl, rfl⟩ := some_el2 h
      exact RN_ireturn (by decide +kernel) rfl
